theorem dX12_photo_18 : decode cX12_photo 18 = .ok (.invokevirtual 156, 3) := by decide +kernel
theorem dX12_photo_21 : decode cX12_photo 21 = .ok (.iastore, 1) := by decide +kernel
theorem dX12_photo_22 : decode cX12_photo 22 = .ok (.iload_n 1, 1) := by decide +kernel
theorem dX12_photo_23 : decode cX12_photo 23 = .ok (.aload_n 0, 1) := by decide +kernel
theorem dX12_photo_24 : decode cX12_photo 24 = .ok (.getfield 60, 3) := by decide +kernel
theorem dX12_photo_27 : decode cX12_photo 27 = .ok (.iload_n 2, 1) := by decide +kernel
theorem dX12_photo_28 : decode cX12_photo 28 = .ok (.iaload, 1) := by decide +kernel
theorem dX12_photo_29 : decode cX12_photo 29 = .ok (.ifCond .ne 7, 3) := by decide +kernel
theorem dX12_photo_32 : decode cX12_photo 32 = .ok (.iconst 0, 1) := by decide +kernel
theorem dX12_photo_33 : decode cX12_photo 33 = .ok (.goto 4, 3) := by decide +kernel
theorem dX12_photo_36 : decode cX12_photo 36 = .ok (.iconst 1, 1) := by decide +kernel
theorem dX12_photo_37 : decode cX12_photo 37 = .ok (.iadd, 1) := by decide +kernel
theorem dX12_photo_38 : decode cX12_photo 38 = .ok (.istore_n 1, 1) := by decide +kernel
theorem dX12_photo_39 : decode cX12_photo 39 = .ok (.iinc 2 1, 3) := by decide +kernel
theorem dX12_photo_42 : decode cX12_photo 42 = .ok (.goto (-38), 3) := by decide +kernel
theorem dX12_photo_45 : decode cX12_photo 45 = .ok (.iload_n 1, 1) := by decide +kernel
theorem dX12_photo_46 : decode cX12_photo 46 = .ok (.ireturn, 1) := by decide +kernel
set_option maxRecDepth 20000 in
theorem ggX12_smear_X12_isCell : GoodIn wsX12_smear wsX12_isCell := goodIn_r _ [5, 6, 7, 8, 4, 9] (by decide +kernel) (by decide +kernel)
set_option maxRecDepth 20000 in
theorem gX12_smear_X12_isCell : GoodIn wsX12_smear (va_wsS RX12 151 yX12_isCell wsX12_isCell) := goodIn_app (goodIn_of _ (by decide +kernel)) ggX12_smear_X12_isCell
theorem dX12_smear_0 : decode cX12_smear 0 = .ok (.iload_n 1, 1) := by decide +kernel
theorem dX12_smear_1 : decode cX12_smear 1 = .ok (.iload_n 2, 1) := by decide +kernel
theorem dX12_smear_2 : decode cX12_smear 2 = .ok (.invokestatic 151, 3) := by decide +kernel
theorem dX12_smear_5 : decode cX12_smear 5 = .ok (.ifCond .ne 5, 3) := by decide +kernel
theorem dX12_smear_8 : decode cX12_smear 8 = .ok (.iconst (-1), 1) := by decide +kernel
theorem dX12_smear_9 : decode cX12_smear 9 = .ok (.ireturn, 1) := by decide +kernel
theorem dX12_smear_10 : decode cX12_smear 10 = .ok (.aload_n 0, 1) := by decide +kernel
theorem dX12_smear_11 : decode cX12_smear 11 = .ok (.getfield 60, 3) := by decide +kernel
theorem dX12_smear_14 : decode cX12_smear 14 = .ok (.bipush 16, 2) := by decide +kernel
theorem dX12_smear_16 : decode cX12_smear 16 = .ok (.iload_n 2, 1) := by decide +kernel
theorem dX12_smear_17 : decode cX12_smear 17 = .ok (.imul, 1) := by decide +kernel
theorem dX12_smear_18 : decode cX12_smear 18 = .ok (.iload_n 1, 1) := by decide +kernel
theorem dX12_smear_19 : decode cX12_smear 19 = .ok (.iadd, 1) := by decide +kernel
theorem dX12_smear_20 : decode cX12_smear 20 = .ok (.iaload, 1) := by decide +kernel
theorem dX12_smear_21 : decode cX12_smear 21 = .ok (.istore_n 3, 1) := by decide +kernel
theorem dX12_smear_22 : decode cX12_smear 22 = .ok (.aload_n 0, 1) := by decide +kernel
theorem dX12_smear_23 : decode cX12_smear 23 = .ok (.getfield 60, 3) := by decide +kernel
theorem dX12_smear_26 : decode cX12_smear 26 = .ok (.bipush 16, 2) := by decide +kernel
theorem dX12_smear_28 : decode cX12_smear 28 = .ok (.iload_n 2, 1) := by decide +kernel
theorem dX12_smear_29 : decode cX12_smear 29 = .ok (.imul, 1) := by decide +kernel
theorem dX12_smear_30 : decode cX12_smear 30 = .ok (.iload_n 1, 1) := by decide +kernel
theorem dX12_smear_31 : decode cX12_smear 31 = .ok (.iadd, 1) := by decide +kernel
theorem dX12_smear_32 : decode cX12_smear 32 = .ok (.bipush (-5), 2) := by decide +kernel
theorem dX12_smear_34 : decode cX12_smear 34 = .ok (.iastore, 1) := by decide +kernel
theorem dX12_smear_35 : decode cX12_smear 35 = .ok (.iload_n 3, 1) := by decide +kernel
theorem dX12_smear_36 : decode cX12_smear 36 = .ok (.ireturn, 1) := by decide +kernel
set_option maxRecDepth 20000 in
theorem ggX12_cat_X12_isCell : GoodIn wsX12_cat wsX12_isCell := goodIn_r _ [7, 2, 8, 9, 6, 10] (by decide +kernel) (by decide +kernel)
set_option maxRecDepth 20000 in
theorem gX12_cat_X12_isCell : GoodIn wsX12_cat (va_wsS RX12 151 yX12_isCell wsX12_isCell) := goodIn_app (goodIn_of _ (by decide +kernel)) ggX12_cat_X12_isCell
set_option maxRecDepth 20000 in
theorem ggX12_cat_X12_in : GoodIn wsX12_cat wsX12_in := goodIn_r _ [10] (by decide +kernel) (by decide +kernel)
set_option maxRecDepth 20000 in
theorem gX12_cat_X12_in : GoodIn wsX12_cat (va_wsS RX12 89 yX12_in wsX12_in) := goodIn_app (goodIn_of _ (by decide +kernel)) ggX12_cat_X12_in
theorem dX12_cat_0 : decode cX12_cat 0 = .ok (.iload_n 1, 1) := by decide +kernel
theorem dX12_cat_1 : decode cX12_cat 1 = .ok (.iload_n 2, 1) := by decide +kernel
theorem dX12_cat_2 : decode cX12_cat 2 = .ok (.invokestatic 151, 3) := by decide +kernel
theorem dX12_cat_5 : decode cX12_cat 5 = .ok (.ifCond .eq 50, 3) := by decide +kernel
theorem dX12_cat_8 : decode cX12_cat 8 = .ok (.iload_n 3, 1) := by decide +kernel
theorem dX12_cat_9 : decode cX12_cat 9 = .ok (.i2l, 1) := by decide +kernel
theorem dX12_cat_10 : decode cX12_cat 10 = .ok (.ldc2_w 176, 3) := by decide +kernel
theorem dX12_cat_13 : decode cX12_cat 13 = .ok (.lconst 1, 1) := by decide +kernel
theorem dX12_cat_14 : decode cX12_cat 14 = .ok (.invokestatic 89, 3) := by decide +kernel
theorem dX12_cat_17 : decode cX12_cat 17 = .ok (.ifCond .eq 38, 3) := by decide +kernel
theorem dX12_cat_20 : decode cX12_cat 20 = .ok (.iload 4, 2) := by decide +kernel
theorem dX12_cat_22 : decode cX12_cat 22 = .ok (.i2l, 1) := by decide +kernel
theorem dX12_cat_23 : decode cX12_cat 23 = .ok (.ldc2_w 176, 3) := by decide +kernel
theorem dX12_cat_26 : decode cX12_cat 26 = .ok (.lconst 1, 1) := by decide +kernel
theorem dX12_cat_27 : decode cX12_cat 27 = .ok (.invokestatic 89, 3) := by decide +kernel
theorem dX12_cat_30 : decode cX12_cat 30 = .ok (.ifCond .eq 25, 3) := by decide +kernel
theorem dX12_cat_33 : decode cX12_cat 33 = .ok (.iload_n 3, 1) := by decide +kernel
theorem dX12_cat_34 : decode cX12_cat 34 = .ok (.ifCond .ne 8, 3) := by decide +kernel
theorem dX12_cat_37 : decode cX12_cat 37 = .ok (.iload 4, 2) := by decide +kernel
theorem dX12_cat_39 : decode cX12_cat 39 = .ok (.ifCond .eq 16, 3) := by decide +kernel
theorem dX12_cat_42 : decode cX12_cat 42 = .ok (.iload 5, 2) := by decide +kernel
theorem dX12_cat_44 : decode cX12_cat 44 = .ok (.i2l, 1) := by decide +kernel
theorem dX12_cat_45 : decode cX12_cat 45 = .ok (.lconst 0, 1) := by decide +kernel
theorem dX12_cat_46 : decode cX12_cat 46 = .ok (.ldc2_w 149, 3) := by decide +kernel
theorem dX12_cat_49 : decode cX12_cat 49 = .ok (.invokestatic 89, 3) := by decide +kernel
theorem dX12_cat_52 : decode cX12_cat 52 = .ok (.ifCond .ne 5, 3) := by decide +kernel
theorem dX12_cat_55 : decode cX12_cat 55 = .ok (.iconst (-1), 1) := by decide +kernel
theorem dX12_cat_56 : decode cX12_cat 56 = .ok (.ireturn, 1) := by decide +kernel
theorem dX12_cat_57 : decode cX12_cat 57 = .ok (.iconst 0, 1) := by decide +kernel
theorem dX12_cat_58 : decode cX12_cat 58 = .ok (.istore 6, 2) := by decide +kernel
theorem dX12_cat_60 : decode cX12_cat 60 = .ok (.iconst 0, 1) := by decide +kernel
theorem dX12_cat_61 : decode cX12_cat 61 = .ok (.istore 7, 2) := by decide +kernel
theorem dX12_cat_63 : decode cX12_cat 63 = .ok (.iload 7, 2) := by decide +kernel
theorem dX12_cat_65 : decode cX12_cat 65 = .ok (.iload 5, 2) := by decide +kernel
theorem dX12_cat_67 : decode cX12_cat 67 = .ok (.if_icmp .gt 78, 3) := by decide +kernel
theorem dX12_cat_70 : decode cX12_cat 70 = .ok (.iload_n 1, 1) := by decide +kernel
theorem dX12_cat_71 : decode cX12_cat 71 = .ok (.iload 7, 2) := by decide +kernel
theorem dX12_cat_73 : decode cX12_cat 73 = .ok (.iload_n 3, 1) := by decide +kernel
theorem dX12_cat_74 : decode cX12_cat 74 = .ok (.imul, 1) := by decide +kernel
theorem dX12_cat_75 : decode cX12_cat 75 = .ok (.iadd, 1) := by decide +kernel
theorem dX12_cat_76 : decode cX12_cat 76 = .ok (.iload_n 2, 1) := by decide +kernel
theorem dX12_cat_77 : decode cX12_cat 77 = .ok (.iload 7, 2) := by decide +kernel
theorem dX12_cat_79 : decode cX12_cat 79 = .ok (.iload 4, 2) := by decide +kernel
theorem dX12_cat_81 : decode cX12_cat 81 = .ok (.imul, 1) := by decide +kernel
theorem dX12_cat_82 : decode cX12_cat 82 = .ok (.iadd, 1) := by decide +kernel
theorem dX12_cat_83 : decode cX12_cat 83 = .ok (.invokestatic 151, 3) := by decide +kernel
theorem dX12_cat_86 : decode cX12_cat 86 = .ok (.ifCond .eq 59, 3) := by decide +kernel
theorem dX12_cat_89 : decode cX12_cat 89 = .ok (.bipush 16, 2) := by decide +kernel
theorem dX12_cat_91 : decode cX12_cat 91 = .ok (.iload_n 2, 1) := by decide +kernel
theorem dX12_cat_92 : decode cX12_cat 92 = .ok (.iload 7, 2) := by decide +kernel
theorem dX12_cat_94 : decode cX12_cat 94 = .ok (.iload 4, 2) := by decide +kernel
theorem dX12_cat_96 : decode cX12_cat 96 = .ok (.imul, 1) := by decide +kernel
theorem dX12_cat_97 : decode cX12_cat 97 = .ok (.iadd, 1) := by decide +kernel
theorem dX12_cat_98 : decode cX12_cat 98 = .ok (.imul, 1) := by decide +kernel
theorem dX12_cat_99 : decode cX12_cat 99 = .ok (.iload_n 1, 1) := by decide +kernel
theorem dX12_cat_100 : decode cX12_cat 100 = .ok (.iadd, 1) := by decide +kernel
theorem dX12_cat_101 : decode cX12_cat 101 = .ok (.iload 7, 2) := by decide +kernel
theorem dX12_cat_103 : decode cX12_cat 103 = .ok (.iload_n 3, 1) := by decide +kernel
theorem dX12_cat_104 : decode cX12_cat 104 = .ok (.imul, 1) := by decide +kernel
theorem dX12_cat_105 : decode cX12_cat 105 = .ok (.iadd, 1) := by decide +kernel
theorem dX12_cat_106 : decode cX12_cat 106 = .ok (.istore 8, 2) := by decide +kernel
theorem dX12_cat_108 : decode cX12_cat 108 = .ok (.iload 6, 2) := by decide +kernel
theorem dX12_cat_110 : decode cX12_cat 110 = .ok (.aload_n 0, 1) := by decide +kernel
theorem dX12_cat_111 : decode cX12_cat 111 = .ok (.getfield 60, 3) := by decide +kernel
theorem dX12_cat_114 : decode cX12_cat 114 = .ok (.iload 8, 2) := by decide +kernel
theorem dX12_cat_116 : decode cX12_cat 116 = .ok (.iaload, 1) := by decide +kernel
theorem dX12_cat_117 : decode cX12_cat 117 = .ok (.bipush (-5), 2) := by decide +kernel
theorem dX12_cat_119 : decode cX12_cat 119 = .ok (.if_icmp .ne 7, 3) := by decide +kernel
theorem dX12_cat_122 : decode cX12_cat 122 = .ok (.iconst 0, 1) := by decide +kernel
theorem dX12_cat_123 : decode cX12_cat 123 = .ok (.goto 4, 3) := by decide +kernel
theorem dX12_cat_126 : decode cX12_cat 126 = .ok (.iconst 1, 1) := by decide +kernel
theorem dX12_cat_127 : decode cX12_cat 127 = .ok (.iadd, 1) := by decide +kernel
theorem dX12_cat_128 : decode cX12_cat 128 = .ok (.istore 6, 2) := by decide +kernel
theorem dX12_cat_130 : decode cX12_cat 130 = .ok (.aload_n 0, 1) := by decide +kernel
theorem dX12_cat_131 : decode cX12_cat 131 = .ok (.getfield 60, 3) := by decide +kernel
theorem dX12_cat_134 : decode cX12_cat 134 = .ok (.iload 8, 2) := by decide +kernel
theorem dX12_cat_136 : decode cX12_cat 136 = .ok (.bipush (-5), 2) := by decide +kernel
theorem dX12_cat_138 : decode cX12_cat 138 = .ok (.iastore, 1) := by decide +kernel
theorem dX12_cat_139 : decode cX12_cat 139 = .ok (.iinc 7 1, 3) := by decide +kernel
theorem dX12_cat_142 : decode cX12_cat 142 = .ok (.goto (-79), 3) := by decide +kernel
theorem dX12_cat_145 : decode cX12_cat 145 = .ok (.iload 6, 2) := by decide +kernel
theorem dX12_cat_147 : decode cX12_cat 147 = .ok (.ireturn, 1) := by decide +kernel
set_option maxRecDepth 20000 in
theorem ggX12_seen_X12_isCell : GoodIn wsX12_seen wsX12_isCell := goodIn_r _ [5, 6, 7, 8, 4, 9] (by decide +kernel) (by decide +kernel)
set_option maxRecDepth 20000 in
theorem gX12_seen_X12_isCell : GoodIn wsX12_seen (va_wsS RX12 151 yX12_isCell wsX12_isCell) := goodIn_app (goodIn_of _ (by decide +kernel)) ggX12_seen_X12_isCell
theorem dX12_seen_0 : decode cX12_seen 0 = .ok (.iload_n 1, 1) := by decide +kernel
theorem dX12_seen_1 : decode cX12_seen 1 = .ok (.iload_n 2, 1) := by decide +kernel
theorem dX12_seen_2 : decode cX12_seen 2 = .ok (.invokestatic 151, 3) := by decide +kernel
theorem dX12_seen_5 : decode cX12_seen 5 = .ok (.ifCond .eq 17, 3) := by decide +kernel
theorem dX12_seen_8 : decode cX12_seen 8 = .ok (.aload_n 0, 1) := by decide +kernel
theorem dX12_seen_9 : decode cX12_seen 9 = .ok (.getfield 60, 3) := by decide +kernel
theorem dX12_seen_12 : decode cX12_seen 12 = .ok (.bipush 16, 2) := by decide +kernel
theorem dX12_seen_14 : decode cX12_seen 14 = .ok (.iload_n 2, 1) := by decide +kernel
theorem dX12_seen_15 : decode cX12_seen 15 = .ok (.imul, 1) := by decide +kernel
theorem dX12_seen_16 : decode cX12_seen 16 = .ok (.iload_n 1, 1) := by decide +kernel
theorem dX12_seen_17 : decode cX12_seen 17 = .ok (.iadd, 1) := by decide +kernel
theorem dX12_seen_18 : decode cX12_seen 18 = .ok (.iaload, 1) := by decide +kernel
theorem dX12_seen_19 : decode cX12_seen 19 = .ok (.goto 4, 3) := by decide +kernel
theorem dX12_seen_22 : decode cX12_seen 22 = .ok (.iconst (-1), 1) := by decide +kernel
theorem dX12_seen_23 : decode cX12_seen 23 = .ok (.ireturn, 1) := by decide +kernel
theorem dX12_stepAt_0 : decode cX12_stepAt 0 = .ok (.iconst 0, 1) := by decide +kernel
theorem dX12_stepAt_1 : decode cX12_stepAt 1 = .ok (.istore_n 2, 1) := by decide +kernel
theorem dX12_stepAt_2 : decode cX12_stepAt 2 = .ok (.iconst 0, 1) := by decide +kernel
theorem dX12_stepAt_3 : decode cX12_stepAt 3 = .ok (.istore_n 3, 1) := by decide +kernel
theorem dX12_stepAt_4 : decode cX12_stepAt 4 = .ok (.iload_n 3, 1) := by decide +kernel
theorem dX12_stepAt_5 : decode cX12_stepAt 5 = .ok (.aload_n 0, 1) := by decide +kernel
theorem dX12_stepAt_6 : decode cX12_stepAt 6 = .ok (.getfield 103, 3) := by decide +kernel
theorem dX12_stepAt_9 : decode cX12_stepAt 9 = .ok (.if_icmp .ge 45, 3) := by decide +kernel
theorem dX12_stepAt_12 : decode cX12_stepAt 12 = .ok (.aload_n 0, 1) := by decide +kernel
theorem dX12_stepAt_13 : decode cX12_stepAt 13 = .ok (.getfield 7, 3) := by decide +kernel
theorem dX12_stepAt_16 : decode cX12_stepAt 16 = .ok (.iload_n 3, 1) := by decide +kernel
theorem dX12_stepAt_17 : decode cX12_stepAt 17 = .ok (.iaload, 1) := by decide +kernel
theorem dX12_stepAt_18 : decode cX12_stepAt 18 = .ok (.iconst 4, 1) := by decide +kernel
theorem dX12_stepAt_19 : decode cX12_stepAt 19 = .ok (.if_icmp .ne 27, 3) := by decide +kernel
theorem dX12_stepAt_22 : decode cX12_stepAt 22 = .ok (.aload_n 0, 1) := by decide +kernel
theorem dX12_stepAt_23 : decode cX12_stepAt 23 = .ok (.getfield 31, 3) := by decide +kernel
theorem dX12_stepAt_26 : decode cX12_stepAt 26 = .ok (.sipush 256, 3) := by decide +kernel
theorem dX12_stepAt_29 : decode cX12_stepAt 29 = .ok (.iload_n 3, 1) := by decide +kernel
theorem dX12_stepAt_30 : decode cX12_stepAt 30 = .ok (.imul, 1) := by decide +kernel
theorem dX12_stepAt_31 : decode cX12_stepAt 31 = .ok (.iload_n 1, 1) := by decide +kernel
theorem dX12_stepAt_32 : decode cX12_stepAt 32 = .ok (.iadd, 1) := by decide +kernel
theorem dX12_stepAt_33 : decode cX12_stepAt 33 = .ok (.baload, 1) := by decide +kernel
theorem dX12_stepAt_34 : decode cX12_stepAt 34 = .ok (.ifCond .eq 12, 3) := by decide +kernel
theorem dX12_stepAt_37 : decode cX12_stepAt 37 = .ok (.aload_n 0, 1) := by decide +kernel
theorem dX12_stepAt_38 : decode cX12_stepAt 38 = .ok (.getfield 28, 3) := by decide +kernel
theorem dX12_stepAt_41 : decode cX12_stepAt 41 = .ok (.iload_n 3, 1) := by decide +kernel
theorem dX12_stepAt_42 : decode cX12_stepAt 42 = .ok (.iaload, 1) := by decide +kernel
theorem dX12_stepAt_43 : decode cX12_stepAt 43 = .ok (.goto 4, 3) := by decide +kernel
theorem dX12_stepAt_46 : decode cX12_stepAt 46 = .ok (.iload_n 2, 1) := by decide +kernel
theorem dX12_stepAt_47 : decode cX12_stepAt 47 = .ok (.istore_n 2, 1) := by decide +kernel
theorem dX12_stepAt_48 : decode cX12_stepAt 48 = .ok (.iinc 3 1, 3) := by decide +kernel
theorem dX12_stepAt_51 : decode cX12_stepAt 51 = .ok (.goto (-47), 3) := by decide +kernel
theorem dX12_stepAt_54 : decode cX12_stepAt 54 = .ok (.iload_n 2, 1) := by decide +kernel
theorem dX12_stepAt_55 : decode cX12_stepAt 55 = .ok (.ireturn, 1) := by decide +kernel
set_option maxRecDepth 20000 in
theorem ggX12_backOf_X12_quarterOf : GoodIn wsX12_backOf wsX12_quarterOf := goodIn_r _ [5] (by decide +kernel) (by decide +kernel)
set_option maxRecDepth 20000 in
theorem gX12_backOf_X12_quarterOf : GoodIn wsX12_backOf (va_wsS RX12 78 yX12_quarterOf wsX12_quarterOf) := goodIn_app (goodIn_of _ (by decide +kernel)) ggX12_backOf_X12_quarterOf
set_option maxRecDepth 20000 in
theorem ggX12_backOf_X12_stepAt : GoodIn wsX12_backOf wsX12_stepAt := goodIn_r _ [9, 10, 11, 12, 13, 20, 21, 22, 23, 24, 25, 26, 27, 28, 29, 30, 31, 32, 33, 34, 35, 36, 37, 38, 39, 40, 41, 42, 43, 44, 45, 46] (by decide +kernel) (by decide +kernel)
set_option maxRecDepth 20000 in
theorem gX12_backOf_X12_stepAt : GoodIn wsX12_backOf (wsV RX12 178 RX12 yX12_stepAt wsX12_stepAt) := goodIn_app (goodIn_of _ (by decide +kernel)) ggX12_backOf_X12_stepAt
set_option maxRecDepth 20000 in
theorem ggX12_backOf_X12_placeOf : GoodIn wsX12_backOf wsX12_placeOf := goodIn_r _ [16, 2, 3, 4, 5, 17, 18, 19] (by decide +kernel) (by decide +kernel)
set_option maxRecDepth 20000 in
theorem gX12_backOf_X12_placeOf : GoodIn wsX12_backOf (va_wsS RX12 96 yX12_placeOf wsX12_placeOf) := goodIn_app (goodIn_of _ (by decide +kernel)) ggX12_backOf_X12_placeOf
set_option maxRecDepth 20000 in
theorem ggX12_backOf_X12_turned : GoodIn wsX12_backOf wsX12_turned := goodIn_r _ [19] (by decide +kernel) (by decide +kernel)
set_option maxRecDepth 20000 in
theorem gX12_backOf_X12_turned : GoodIn wsX12_backOf (va_wsS RX12 82 yX12_turned wsX12_turned) := goodIn_app (goodIn_of _ (by decide +kernel)) ggX12_backOf_X12_turned
theorem dX12_backOf_0 : decode cX12_backOf 0 = .ok (.iload_n 1, 1) := by decide +kernel
theorem dX12_backOf_1 : decode cX12_backOf 1 = .ok (.bipush 16, 2) := by decide +kernel
theorem dX12_backOf_3 : decode cX12_backOf 3 = .ok (.irem, 1) := by decide +kernel
theorem dX12_backOf_4 : decode cX12_backOf 4 = .ok (.iload_n 1, 1) := by decide +kernel
theorem dX12_backOf_5 : decode cX12_backOf 5 = .ok (.bipush 16, 2) := by decide +kernel
theorem dX12_backOf_7 : decode cX12_backOf 7 = .ok (.idiv, 1) := by decide +kernel
theorem dX12_backOf_8 : decode cX12_backOf 8 = .ok (.invokestatic 78, 3) := by decide +kernel
theorem dX12_backOf_11 : decode cX12_backOf 11 = .ok (.istore_n 2, 1) := by decide +kernel
theorem dX12_backOf_12 : decode cX12_backOf 12 = .ok (.aload_n 0, 1) := by decide +kernel
theorem dX12_backOf_13 : decode cX12_backOf 13 = .ok (.iload_n 1, 1) := by decide +kernel
theorem dX12_backOf_14 : decode cX12_backOf 14 = .ok (.invokevirtual 178, 3) := by decide +kernel
theorem dX12_backOf_17 : decode cX12_backOf 17 = .ok (.istore_n 3, 1) := by decide +kernel
theorem dX12_backOf_18 : decode cX12_backOf 18 = .ok (.bipush (-5), 2) := by decide +kernel
theorem dX12_backOf_20 : decode cX12_backOf 20 = .ok (.istore 4, 2) := by decide +kernel
theorem dX12_backOf_22 : decode cX12_backOf 22 = .ok (.iconst 0, 1) := by decide +kernel
theorem dX12_backOf_23 : decode cX12_backOf 23 = .ok (.istore 5, 2) := by decide +kernel
theorem dX12_backOf_25 : decode cX12_backOf 25 = .ok (.iload 5, 2) := by decide +kernel
theorem dX12_backOf_27 : decode cX12_backOf 27 = .ok (.iconst 4, 1) := by decide +kernel
theorem dX12_backOf_28 : decode cX12_backOf 28 = .ok (.if_icmp .ge 91, 3) := by decide +kernel
theorem dX12_backOf_31 : decode cX12_backOf 31 = .ok (.aload_n 0, 1) := by decide +kernel
theorem dX12_backOf_32 : decode cX12_backOf 32 = .ok (.getfield 60, 3) := by decide +kernel
theorem dX12_backOf_35 : decode cX12_backOf 35 = .ok (.iload_n 1, 1) := by decide +kernel
theorem dX12_backOf_36 : decode cX12_backOf 36 = .ok (.invokestatic 96, 3) := by decide +kernel
theorem dX12_backOf_39 : decode cX12_backOf 39 = .ok (.iload 5, 2) := by decide +kernel
theorem dX12_backOf_41 : decode cX12_backOf 41 = .ok (.invokestatic 82, 3) := by decide +kernel
theorem dX12_backOf_44 : decode cX12_backOf 44 = .ok (.iaload, 1) := by decide +kernel
theorem dX12_backOf_45 : decode cX12_backOf 45 = .ok (.istore 6, 2) := by decide +kernel
theorem dX12_backOf_47 : decode cX12_backOf 47 = .ok (.iload 5, 2) := by decide +kernel
theorem dX12_backOf_49 : decode cX12_backOf 49 = .ok (.iload_n 2, 1) := by decide +kernel
theorem dX12_backOf_50 : decode cX12_backOf 50 = .ok (.if_icmp .eq 63, 3) := by decide +kernel
theorem dX12_backOf_53 : decode cX12_backOf 53 = .ok (.iload 6, 2) := by decide +kernel
theorem dX12_backOf_55 : decode cX12_backOf 55 = .ok (.bipush (-5), 2) := by decide +kernel
theorem dX12_backOf_57 : decode cX12_backOf 57 = .ok (.if_icmp .eq 56, 3) := by decide +kernel
theorem dX12_backOf_60 : decode cX12_backOf 60 = .ok (.iload 6, 2) := by decide +kernel
theorem dX12_backOf_62 : decode cX12_backOf 62 = .ok (.ifCond .ne 7, 3) := by decide +kernel
theorem dX12_backOf_65 : decode cX12_backOf 65 = .ok (.iconst 0, 1) := by decide +kernel
theorem dX12_backOf_66 : decode cX12_backOf 66 = .ok (.goto 22, 3) := by decide +kernel
theorem dX12_backOf_69 : decode cX12_backOf 69 = .ok (.iload 6, 2) := by decide +kernel
theorem dX12_backOf_71 : decode cX12_backOf 71 = .ok (.iconst 1, 1) := by decide +kernel
theorem dX12_backOf_72 : decode cX12_backOf 72 = .ok (.isub, 1) := by decide +kernel
theorem dX12_backOf_73 : decode cX12_backOf 73 = .ok (.bipush 36, 2) := by decide +kernel
theorem dX12_backOf_75 : decode cX12_backOf 75 = .ok (.iadd, 1) := by decide +kernel
theorem dX12_backOf_76 : decode cX12_backOf 76 = .ok (.iload_n 3, 1) := by decide +kernel
theorem dX12_backOf_77 : decode cX12_backOf 77 = .ok (.iload_n 2, 1) := by decide +kernel
theorem dX12_backOf_78 : decode cX12_backOf 78 = .ok (.iload 5, 2) := by decide +kernel
theorem dX12_backOf_80 : decode cX12_backOf 80 = .ok (.isub, 1) := by decide +kernel
theorem dX12_backOf_81 : decode cX12_backOf 81 = .ok (.imul, 1) := by decide +kernel
theorem dX12_backOf_82 : decode cX12_backOf 82 = .ok (.iadd, 1) := by decide +kernel
theorem dX12_backOf_83 : decode cX12_backOf 83 = .ok (.bipush 9, 2) := by decide +kernel
theorem dX12_backOf_85 : decode cX12_backOf 85 = .ok (.irem, 1) := by decide +kernel
theorem dX12_backOf_86 : decode cX12_backOf 86 = .ok (.iconst 1, 1) := by decide +kernel
theorem dX12_backOf_87 : decode cX12_backOf 87 = .ok (.iadd, 1) := by decide +kernel
theorem dX12_backOf_88 : decode cX12_backOf 88 = .ok (.istore 7, 2) := by decide +kernel
theorem dX12_backOf_90 : decode cX12_backOf 90 = .ok (.iload 4, 2) := by decide +kernel
theorem dX12_backOf_92 : decode cX12_backOf 92 = .ok (.bipush (-5), 2) := by decide +kernel
theorem dX12_backOf_94 : decode cX12_backOf 94 = .ok (.if_icmp .eq 10, 3) := by decide +kernel
theorem dX12_backOf_97 : decode cX12_backOf 97 = .ok (.iload 4, 2) := by decide +kernel
theorem dX12_backOf_99 : decode cX12_backOf 99 = .ok (.iload 7, 2) := by decide +kernel
theorem dX12_backOf_101 : decode cX12_backOf 101 = .ok (.if_icmp .ne 8, 3) := by decide +kernel
theorem dX12_backOf_104 : decode cX12_backOf 104 = .ok (.iload 7, 2) := by decide +kernel
theorem dX12_backOf_106 : decode cX12_backOf 106 = .ok (.goto 5, 3) := by decide +kernel
theorem dX12_backOf_109 : decode cX12_backOf 109 = .ok (.bipush (-6), 2) := by decide +kernel
theorem dX12_backOf_111 : decode cX12_backOf 111 = .ok (.istore 4, 2) := by decide +kernel
theorem dX12_backOf_113 : decode cX12_backOf 113 = .ok (.iinc 5 1, 3) := by decide +kernel
theorem dX12_backOf_116 : decode cX12_backOf 116 = .ok (.goto (-91), 3) := by decide +kernel
theorem dX12_backOf_119 : decode cX12_backOf 119 = .ok (.iload 4, 2) := by decide +kernel
theorem dX12_backOf_121 : decode cX12_backOf 121 = .ok (.ireturn, 1) := by decide +kernel
set_option maxRecDepth 20000 in
theorem ggX12_back_X12_isCell : GoodIn wsX12_back wsX12_isCell := goodIn_r _ [5, 6, 7, 8, 4, 9] (by decide +kernel) (by decide +kernel)
set_option maxRecDepth 20000 in
theorem gX12_back_X12_isCell : GoodIn wsX12_back (va_wsS RX12 151 yX12_isCell wsX12_isCell) := goodIn_app (goodIn_of _ (by decide +kernel)) ggX12_back_X12_isCell
set_option maxRecDepth 20000 in
theorem ggX12_back_X12_backOf : GoodIn wsX12_back wsX12_backOf := goodIn_r _ [13, 1, 14, 15, 4, 16, 17, 18, 19, 20, 21, 22, 23, 24, 25, 26, 27, 28, 29, 30, 31, 32, 33, 34, 35, 36, 37, 38, 39, 40, 41, 42, 43, 44, 45, 46, 47, 48, 49, 50, 51, 52, 53, 54, 55, 56, 57] (by decide +kernel) (by decide +kernel)
set_option maxRecDepth 20000 in
theorem gX12_back_X12_backOf : GoodIn wsX12_back (wsV RX12 181 RX12 yX12_backOf wsX12_backOf) := goodIn_app (goodIn_of _ (by decide +kernel)) ggX12_back_X12_backOf
theorem dX12_back_0 : decode cX12_back 0 = .ok (.iload_n 1, 1) := by decide +kernel
theorem dX12_back_1 : decode cX12_back 1 = .ok (.iload_n 2, 1) := by decide +kernel
theorem dX12_back_2 : decode cX12_back 2 = .ok (.invokestatic 151, 3) := by decide +kernel
theorem dX12_back_5 : decode cX12_back 5 = .ok (.ifCond .ne 5, 3) := by decide +kernel
theorem dX12_back_8 : decode cX12_back 8 = .ok (.iconst (-1), 1) := by decide +kernel
theorem dX12_back_9 : decode cX12_back 9 = .ok (.ireturn, 1) := by decide +kernel
theorem dX12_back_10 : decode cX12_back 10 = .ok (.aload_n 0, 1) := by decide +kernel
theorem dX12_back_11 : decode cX12_back 11 = .ok (.getfield 60, 3) := by decide +kernel
theorem dX12_back_14 : decode cX12_back 14 = .ok (.bipush 16, 2) := by decide +kernel
theorem dX12_back_16 : decode cX12_back 16 = .ok (.iload_n 2, 1) := by decide +kernel
theorem dX12_back_17 : decode cX12_back 17 = .ok (.imul, 1) := by decide +kernel
theorem dX12_back_18 : decode cX12_back 18 = .ok (.iload_n 1, 1) := by decide +kernel
theorem dX12_back_19 : decode cX12_back 19 = .ok (.iadd, 1) := by decide +kernel
theorem dX12_back_20 : decode cX12_back 20 = .ok (.iaload, 1) := by decide +kernel
theorem dX12_back_21 : decode cX12_back 21 = .ok (.bipush (-5), 2) := by decide +kernel
theorem dX12_back_23 : decode cX12_back 23 = .ok (.if_icmp .ne 16, 3) := by decide +kernel
theorem dX12_back_26 : decode cX12_back 26 = .ok (.aload_n 0, 1) := by decide +kernel
theorem dX12_back_27 : decode cX12_back 27 = .ok (.bipush 16, 2) := by decide +kernel
theorem dX12_back_29 : decode cX12_back 29 = .ok (.iload_n 2, 1) := by decide +kernel
theorem dX12_back_30 : decode cX12_back 30 = .ok (.imul, 1) := by decide +kernel
theorem dX12_back_31 : decode cX12_back 31 = .ok (.iload_n 1, 1) := by decide +kernel
theorem dX12_back_32 : decode cX12_back 32 = .ok (.iadd, 1) := by decide +kernel
theorem dX12_back_33 : decode cX12_back 33 = .ok (.invokevirtual 181, 3) := by decide +kernel
theorem dX12_back_36 : decode cX12_back 36 = .ok (.goto 5, 3) := by decide +kernel
theorem dX12_back_39 : decode cX12_back 39 = .ok (.bipush (-2), 2) := by decide +kernel
theorem dX12_back_41 : decode cX12_back 41 = .ok (.ireturn, 1) := by decide +kernel
set_option maxRecDepth 20000 in
theorem ggX12_mend_X12_backOf : GoodIn wsX12_mend wsX12_backOf := goodIn_r _ [7, 2, 8, 9, 6, 10, 11, 12, 13, 14, 15, 16, 17, 18, 19, 20, 21, 22, 23, 24, 25, 26, 27, 28, 29, 30, 31, 32, 33, 34, 35, 36, 37, 38, 39, 40, 41, 42, 43, 44, 45, 46, 47, 48, 49, 50, 51] (by decide +kernel) (by decide +kernel)
set_option maxRecDepth 20000 in
theorem gX12_mend_X12_backOf : GoodIn wsX12_mend (wsV RX12 181 RX12 yX12_backOf wsX12_backOf) := goodIn_app (goodIn_of _ (by decide +kernel)) ggX12_mend_X12_backOf
theorem dX12_mend_0 : decode cX12_mend 0 = .ok (.iconst 0, 1) := by decide +kernel
theorem dX12_mend_1 : decode cX12_mend 1 = .ok (.istore_n 1, 1) := by decide +kernel
theorem dX12_mend_2 : decode cX12_mend 2 = .ok (.iconst 0, 1) := by decide +kernel
theorem dX12_mend_3 : decode cX12_mend 3 = .ok (.istore_n 2, 1) := by decide +kernel
theorem dX12_mend_4 : decode cX12_mend 4 = .ok (.iload_n 2, 1) := by decide +kernel
theorem dX12_mend_5 : decode cX12_mend 5 = .ok (.sipush 256, 3) := by decide +kernel
theorem dX12_mend_8 : decode cX12_mend 8 = .ok (.if_icmp .ge 40, 3) := by decide +kernel
theorem dX12_mend_11 : decode cX12_mend 11 = .ok (.aload_n 0, 1) := by decide +kernel
theorem dX12_mend_12 : decode cX12_mend 12 = .ok (.getfield 63, 3) := by decide +kernel
theorem dX12_mend_15 : decode cX12_mend 15 = .ok (.iload_n 2, 1) := by decide +kernel
theorem dX12_mend_16 : decode cX12_mend 16 = .ok (.aload_n 0, 1) := by decide +kernel
theorem dX12_mend_17 : decode cX12_mend 17 = .ok (.getfield 60, 3) := by decide +kernel
theorem dX12_mend_20 : decode cX12_mend 20 = .ok (.iload_n 2, 1) := by decide +kernel
theorem dX12_mend_21 : decode cX12_mend 21 = .ok (.iaload, 1) := by decide +kernel
theorem dX12_mend_22 : decode cX12_mend 22 = .ok (.bipush (-5), 2) := by decide +kernel
theorem dX12_mend_24 : decode cX12_mend 24 = .ok (.if_icmp .ne 11, 3) := by decide +kernel
theorem dX12_mend_27 : decode cX12_mend 27 = .ok (.aload_n 0, 1) := by decide +kernel
theorem dX12_mend_28 : decode cX12_mend 28 = .ok (.iload_n 2, 1) := by decide +kernel
theorem dX12_mend_29 : decode cX12_mend 29 = .ok (.invokevirtual 181, 3) := by decide +kernel
theorem dX12_mend_32 : decode cX12_mend 32 = .ok (.goto 9, 3) := by decide +kernel
theorem dX12_mend_35 : decode cX12_mend 35 = .ok (.aload_n 0, 1) := by decide +kernel
theorem dX12_mend_36 : decode cX12_mend 36 = .ok (.getfield 60, 3) := by decide +kernel
theorem dX12_mend_39 : decode cX12_mend 39 = .ok (.iload_n 2, 1) := by decide +kernel
theorem dX12_mend_40 : decode cX12_mend 40 = .ok (.iaload, 1) := by decide +kernel
theorem dX12_mend_41 : decode cX12_mend 41 = .ok (.iastore, 1) := by decide +kernel
theorem dX12_mend_42 : decode cX12_mend 42 = .ok (.iinc 2 1, 3) := by decide +kernel
theorem dX12_mend_45 : decode cX12_mend 45 = .ok (.goto (-41), 3) := by decide +kernel
theorem dX12_mend_48 : decode cX12_mend 48 = .ok (.iconst 0, 1) := by decide +kernel
theorem dX12_mend_49 : decode cX12_mend 49 = .ok (.istore_n 2, 1) := by decide +kernel
theorem dX12_mend_50 : decode cX12_mend 50 = .ok (.iload_n 2, 1) := by decide +kernel
theorem dX12_mend_51 : decode cX12_mend 51 = .ok (.sipush 256, 3) := by decide +kernel
theorem dX12_mend_54 : decode cX12_mend 54 = .ok (.if_icmp .ge 44, 3) := by decide +kernel
theorem dX12_mend_57 : decode cX12_mend 57 = .ok (.aload_n 0, 1) := by decide +kernel
theorem dX12_mend_58 : decode cX12_mend 58 = .ok (.getfield 60, 3) := by decide +kernel
theorem dX12_mend_61 : decode cX12_mend 61 = .ok (.iload_n 2, 1) := by decide +kernel
theorem dX12_mend_62 : decode cX12_mend 62 = .ok (.iaload, 1) := by decide +kernel
theorem dX12_mend_63 : decode cX12_mend 63 = .ok (.bipush (-5), 2) := by decide +kernel
theorem dX12_mend_65 : decode cX12_mend 65 = .ok (.if_icmp .ne 27, 3) := by decide +kernel
theorem dX12_mend_68 : decode cX12_mend 68 = .ok (.aload_n 0, 1) := by decide +kernel
theorem dX12_mend_69 : decode cX12_mend 69 = .ok (.getfield 63, 3) := by decide +kernel
theorem dX12_mend_72 : decode cX12_mend 72 = .ok (.iload_n 2, 1) := by decide +kernel
theorem dX12_mend_73 : decode cX12_mend 73 = .ok (.iaload, 1) := by decide +kernel
theorem dX12_mend_74 : decode cX12_mend 74 = .ok (.ifCond .lt 18, 3) := by decide +kernel
theorem dX12_mend_77 : decode cX12_mend 77 = .ok (.aload_n 0, 1) := by decide +kernel
theorem dX12_mend_78 : decode cX12_mend 78 = .ok (.getfield 60, 3) := by decide +kernel
theorem dX12_mend_81 : decode cX12_mend 81 = .ok (.iload_n 2, 1) := by decide +kernel
theorem dX12_mend_82 : decode cX12_mend 82 = .ok (.aload_n 0, 1) := by decide +kernel
theorem dX12_mend_83 : decode cX12_mend 83 = .ok (.getfield 63, 3) := by decide +kernel
theorem dX12_mend_86 : decode cX12_mend 86 = .ok (.iload_n 2, 1) := by decide +kernel
theorem dX12_mend_87 : decode cX12_mend 87 = .ok (.iaload, 1) := by decide +kernel
theorem dX12_mend_88 : decode cX12_mend 88 = .ok (.iastore, 1) := by decide +kernel
theorem dX12_mend_89 : decode cX12_mend 89 = .ok (.iinc 1 1, 3) := by decide +kernel
theorem dX12_mend_92 : decode cX12_mend 92 = .ok (.iinc 2 1, 3) := by decide +kernel
theorem dX12_mend_95 : decode cX12_mend 95 = .ok (.goto (-45), 3) := by decide +kernel
theorem dX12_mend_98 : decode cX12_mend 98 = .ok (.iload_n 1, 1) := by decide +kernel
theorem dX12_mend_99 : decode cX12_mend 99 = .ok (.ireturn, 1) := by decide +kernel
set_option maxRecDepth 20000 in
theorem ggX12_harm_X12_in : GoodIn wsX12_harm wsX12_in := goodIn_r _ [6] (by decide +kernel) (by decide +kernel)
set_option maxRecDepth 20000 in
theorem gX12_harm_X12_in : GoodIn wsX12_harm (va_wsS RX12 89 yX12_in wsX12_in) := goodIn_app (goodIn_of _ (by decide +kernel)) ggX12_harm_X12_in
set_option maxRecDepth 20000 in
theorem ggX12_harm_X12_lookOf : GoodIn wsX12_harm wsX12_lookOf := goodIn_r _ [10, 11, 12, 13, 14, 15, 5, 16, 17, 18, 19, 20, 21, 22, 37, 38, 39, 40, 41, 42, 43, 44, 45, 46, 47, 48, 49, 50, 51, 52, 53, 54, 55, 56, 57, 58, 59, 60, 61, 62, 63] (by decide +kernel) (by decide +kernel)
set_option maxRecDepth 20000 in
theorem gX12_harm_X12_lookOf : GoodIn wsX12_harm (wsV RX12 156 RX12 yX12_lookOf wsX12_lookOf) := goodIn_app (goodIn_of _ (by decide +kernel)) ggX12_harm_X12_lookOf
set_option maxRecDepth 20000 in
theorem ggX12_harm_X12_backOf : GoodIn wsX12_harm wsX12_backOf := goodIn_r _ [26, 2, 20, 21, 5, 22, 27, 28, 29, 30, 11, 18, 12, 19, 31, 32, 33, 34, 35, 36, 37, 38, 39, 40, 41, 42, 43, 44, 45, 46, 47, 48, 49, 50, 51, 52, 53, 54, 55, 56, 57, 58, 59, 60, 61, 62, 63] (by decide +kernel) (by decide +kernel)
set_option maxRecDepth 20000 in
theorem gX12_harm_X12_backOf : GoodIn wsX12_harm (wsV RX12 181 RX12 yX12_backOf wsX12_backOf) := goodIn_app (goodIn_of _ (by decide +kernel)) ggX12_harm_X12_backOf
theorem dX12_harm_0 : decode cX12_harm 0 = .ok (.iload_n 1, 1) := by decide +kernel
theorem dX12_harm_1 : decode cX12_harm 1 = .ok (.i2l, 1) := by decide +kernel
theorem dX12_harm_2 : decode cX12_harm 2 = .ok (.lconst 0, 1) := by decide +kernel
theorem dX12_harm_3 : decode cX12_harm 3 = .ok (.ldc2_w 184, 3) := by decide +kernel
theorem dX12_harm_6 : decode cX12_harm 6 = .ok (.invokestatic 89, 3) := by decide +kernel
theorem dX12_harm_9 : decode cX12_harm 9 = .ok (.ifCond .ne 5, 3) := by decide +kernel
theorem dX12_harm_12 : decode cX12_harm 12 = .ok (.iconst (-1), 1) := by decide +kernel
theorem dX12_harm_13 : decode cX12_harm 13 = .ok (.ireturn, 1) := by decide +kernel
theorem dX12_harm_14 : decode cX12_harm 14 = .ok (.iconst 0, 1) := by decide +kernel
theorem dX12_harm_15 : decode cX12_harm 15 = .ok (.istore_n 2, 1) := by decide +kernel
theorem dX12_harm_16 : decode cX12_harm 16 = .ok (.iconst 0, 1) := by decide +kernel
theorem dX12_harm_17 : decode cX12_harm 17 = .ok (.istore_n 3, 1) := by decide +kernel
theorem dX12_harm_18 : decode cX12_harm 18 = .ok (.iload_n 3, 1) := by decide +kernel
theorem dX12_harm_19 : decode cX12_harm 19 = .ok (.sipush 256, 3) := by decide +kernel
theorem dX12_harm_22 : decode cX12_harm 22 = .ok (.if_icmp .ge 113, 3) := by decide +kernel
theorem dX12_harm_25 : decode cX12_harm 25 = .ok (.aload_n 0, 1) := by decide +kernel
theorem dX12_harm_26 : decode cX12_harm 26 = .ok (.getfield 60, 3) := by decide +kernel
theorem dX12_harm_29 : decode cX12_harm 29 = .ok (.iload_n 3, 1) := by decide +kernel
theorem dX12_harm_30 : decode cX12_harm 30 = .ok (.iaload, 1) := by decide +kernel
theorem dX12_harm_31 : decode cX12_harm 31 = .ok (.bipush (-5), 2) := by decide +kernel
theorem dX12_harm_33 : decode cX12_harm 33 = .ok (.if_icmp .ne 7, 3) := by decide +kernel
theorem dX12_harm_36 : decode cX12_harm 36 = .ok (.iconst 1, 1) := by decide +kernel
theorem dX12_harm_37 : decode cX12_harm 37 = .ok (.goto 4, 3) := by decide +kernel
theorem dX12_harm_40 : decode cX12_harm 40 = .ok (.iconst 0, 1) := by decide +kernel
theorem dX12_harm_41 : decode cX12_harm 41 = .ok (.istore 4, 2) := by decide +kernel
theorem dX12_harm_43 : decode cX12_harm 43 = .ok (.iload_n 1, 1) := by decide +kernel
theorem dX12_harm_44 : decode cX12_harm 44 = .ok (.ifCond .ne 8, 3) := by decide +kernel
theorem dX12_harm_47 : decode cX12_harm 47 = .ok (.iload 4, 2) := by decide +kernel
theorem dX12_harm_49 : decode cX12_harm 49 = .ok (.goto 65, 3) := by decide +kernel
theorem dX12_harm_52 : decode cX12_harm 52 = .ok (.iload_n 1, 1) := by decide +kernel
theorem dX12_harm_53 : decode cX12_harm 53 = .ok (.iconst 1, 1) := by decide +kernel
theorem dX12_harm_54 : decode cX12_harm 54 = .ok (.if_icmp .ne 30, 3) := by decide +kernel
theorem dX12_harm_57 : decode cX12_harm 57 = .ok (.iload 4, 2) := by decide +kernel
theorem dX12_harm_59 : decode cX12_harm 59 = .ok (.ifCond .ne 21, 3) := by decide +kernel
theorem dX12_harm_62 : decode cX12_harm 62 = .ok (.aload_n 0, 1) := by decide +kernel
theorem dX12_harm_63 : decode cX12_harm 63 = .ok (.getfield 60, 3) := by decide +kernel
theorem dX12_harm_66 : decode cX12_harm 66 = .ok (.iload_n 3, 1) := by decide +kernel
theorem dX12_harm_67 : decode cX12_harm 67 = .ok (.iaload, 1) := by decide +kernel
theorem dX12_harm_68 : decode cX12_harm 68 = .ok (.aload_n 0, 1) := by decide +kernel
theorem dX12_harm_69 : decode cX12_harm 69 = .ok (.iload_n 3, 1) := by decide +kernel
theorem dX12_harm_70 : decode cX12_harm 70 = .ok (.invokevirtual 156, 3) := by decide +kernel
theorem dX12_harm_73 : decode cX12_harm 73 = .ok (.if_icmp .eq 7, 3) := by decide +kernel
theorem dX12_harm_76 : decode cX12_harm 76 = .ok (.iconst 1, 1) := by decide +kernel
theorem dX12_harm_77 : decode cX12_harm 77 = .ok (.goto 37, 3) := by decide +kernel
theorem dX12_harm_80 : decode cX12_harm 80 = .ok (.iconst 0, 1) := by decide +kernel
theorem dX12_harm_81 : decode cX12_harm 81 = .ok (.goto 33, 3) := by decide +kernel
theorem dX12_harm_84 : decode cX12_harm 84 = .ok (.iload 4, 2) := by decide +kernel
theorem dX12_harm_86 : decode cX12_harm 86 = .ok (.ifCond .eq 27, 3) := by decide +kernel
theorem dX12_harm_89 : decode cX12_harm 89 = .ok (.aload_n 0, 1) := by decide +kernel
theorem dX12_harm_90 : decode cX12_harm 90 = .ok (.iload_n 3, 1) := by decide +kernel
theorem dX12_harm_91 : decode cX12_harm 91 = .ok (.invokevirtual 181, 3) := by decide +kernel
theorem dX12_harm_94 : decode cX12_harm 94 = .ok (.iload_n 1, 1) := by decide +kernel
theorem dX12_harm_95 : decode cX12_harm 95 = .ok (.iconst 2, 1) := by decide +kernel
theorem dX12_harm_96 : decode cX12_harm 96 = .ok (.if_icmp .ne 8, 3) := by decide +kernel
theorem dX12_harm_99 : decode cX12_harm 99 = .ok (.bipush (-5), 2) := by decide +kernel
theorem dX12_harm_101 : decode cX12_harm 101 = .ok (.goto 5, 3) := by decide +kernel
theorem dX12_harm_104 : decode cX12_harm 104 = .ok (.bipush (-6), 2) := by decide +kernel
theorem dX12_harm_106 : decode cX12_harm 106 = .ok (.if_icmp .ne 7, 3) := by decide +kernel
theorem dX12_harm_109 : decode cX12_harm 109 = .ok (.iconst 1, 1) := by decide +kernel
theorem dX12_harm_110 : decode cX12_harm 110 = .ok (.goto 4, 3) := by decide +kernel
theorem dX12_harm_113 : decode cX12_harm 113 = .ok (.iconst 0, 1) := by decide +kernel
theorem dX12_harm_114 : decode cX12_harm 114 = .ok (.istore 5, 2) := by decide +kernel
theorem dX12_harm_116 : decode cX12_harm 116 = .ok (.iload_n 2, 1) := by decide +kernel
theorem dX12_harm_117 : decode cX12_harm 117 = .ok (.iload 5, 2) := by decide +kernel
theorem dX12_harm_119 : decode cX12_harm 119 = .ok (.ifCond .eq 7, 3) := by decide +kernel
theorem dX12_harm_122 : decode cX12_harm 122 = .ok (.iconst 1, 1) := by decide +kernel
theorem dX12_harm_123 : decode cX12_harm 123 = .ok (.goto 4, 3) := by decide +kernel
theorem dX12_harm_126 : decode cX12_harm 126 = .ok (.iconst 0, 1) := by decide +kernel
theorem dX12_harm_127 : decode cX12_harm 127 = .ok (.iadd, 1) := by decide +kernel
theorem dX12_harm_128 : decode cX12_harm 128 = .ok (.istore_n 2, 1) := by decide +kernel
theorem dX12_harm_129 : decode cX12_harm 129 = .ok (.iinc 3 1, 3) := by decide +kernel
theorem dX12_harm_132 : decode cX12_harm 132 = .ok (.goto (-114), 3) := by decide +kernel
theorem dX12_harm_135 : decode cX12_harm 135 = .ok (.iload_n 2, 1) := by decide +kernel
theorem dX12_harm_136 : decode cX12_harm 136 = .ok (.ireturn, 1) := by decide +kernel
set_option maxRecDepth 20000 in
theorem ggX12_again_X12_layersOf : GoodIn wsX12_again wsX12_layersOf := goodIn_r _ [7, 2, 8, 18, 19, 20, 21, 22, 23, 24, 25, 26, 27, 28, 29, 30, 31, 32, 33, 34, 35, 36, 37, 38, 39, 40, 41, 42, 43, 44] (by decide +kernel) (by decide +kernel)
set_option maxRecDepth 20000 in
theorem gX12_again_X12_layersOf : GoodIn wsX12_again (wsV RX12 159 RX12 yX12_layersOf wsX12_layersOf) := goodIn_app (goodIn_of _ (by decide +kernel)) ggX12_again_X12_layersOf
set_option maxRecDepth 20000 in
theorem ggX12_again_X12_aheadOf : GoodIn wsX12_again wsX12_aheadOf := goodIn_r _ [12, 2, 13, 14, 15, 6, 16, 17, 8, 18, 19, 20, 21, 22, 23, 24, 25, 26, 27, 28, 29, 30, 31, 32, 33, 34, 35, 36, 37, 38, 39, 40, 41, 42, 43, 44] (by decide +kernel) (by decide +kernel)
set_option maxRecDepth 20000 in
theorem gX12_again_X12_aheadOf : GoodIn wsX12_again (wsV RX12 140 RX12 yX12_aheadOf wsX12_aheadOf) := goodIn_app (goodIn_of _ (by decide +kernel)) ggX12_again_X12_aheadOf
theorem dX12_again_0 : decode cX12_again 0 = .ok (.iconst 0, 1) := by decide +kernel
theorem dX12_again_1 : decode cX12_again 1 = .ok (.istore_n 1, 1) := by decide +kernel
theorem dX12_again_2 : decode cX12_again 2 = .ok (.iconst 0, 1) := by decide +kernel
theorem dX12_again_3 : decode cX12_again 3 = .ok (.istore_n 2, 1) := by decide +kernel
theorem dX12_again_4 : decode cX12_again 4 = .ok (.iload_n 2, 1) := by decide +kernel
theorem dX12_again_5 : decode cX12_again 5 = .ok (.sipush 256, 3) := by decide +kernel
theorem dX12_again_8 : decode cX12_again 8 = .ok (.if_icmp .ge 32, 3) := by decide +kernel
theorem dX12_again_11 : decode cX12_again 11 = .ok (.iload_n 1, 1) := by decide +kernel
theorem dX12_again_12 : decode cX12_again 12 = .ok (.aload_n 0, 1) := by decide +kernel
theorem dX12_again_13 : decode cX12_again 13 = .ok (.getfield 60, 3) := by decide +kernel
theorem dX12_again_16 : decode cX12_again 16 = .ok (.iload_n 2, 1) := by decide +kernel
theorem dX12_again_17 : decode cX12_again 17 = .ok (.iaload, 1) := by decide +kernel
theorem dX12_again_18 : decode cX12_again 18 = .ok (.bipush (-5), 2) := by decide +kernel
theorem dX12_again_20 : decode cX12_again 20 = .ok (.if_icmp .ne 11, 3) := by decide +kernel
theorem dX12_again_23 : decode cX12_again 23 = .ok (.aload_n 0, 1) := by decide +kernel
theorem dX12_again_24 : decode cX12_again 24 = .ok (.iload_n 2, 1) := by decide +kernel
theorem dX12_again_25 : decode cX12_again 25 = .ok (.invokevirtual 159, 3) := by decide +kernel
theorem dX12_again_28 : decode cX12_again 28 = .ok (.goto 4, 3) := by decide +kernel
theorem dX12_again_31 : decode cX12_again 31 = .ok (.iconst 0, 1) := by decide +kernel
theorem dX12_again_32 : decode cX12_again 32 = .ok (.ior, 1) := by decide +kernel
theorem dX12_again_33 : decode cX12_again 33 = .ok (.istore_n 1, 1) := by decide +kernel
theorem dX12_again_34 : decode cX12_again 34 = .ok (.iinc 2 1, 3) := by decide +kernel
theorem dX12_again_37 : decode cX12_again 37 = .ok (.goto (-33), 3) := by decide +kernel
theorem dX12_again_40 : decode cX12_again 40 = .ok (.iconst 1, 1) := by decide +kernel
theorem dX12_again_41 : decode cX12_again 41 = .ok (.istore_n 2, 1) := by decide +kernel
theorem dX12_again_42 : decode cX12_again 42 = .ok (.iload_n 2, 1) := by decide +kernel
theorem dX12_again_43 : decode cX12_again 43 = .ok (.ifCond .eq 59, 3) := by decide +kernel
theorem dX12_again_46 : decode cX12_again 46 = .ok (.iload_n 1, 1) := by decide +kernel
theorem dX12_again_47 : decode cX12_again 47 = .ok (.istore_n 3, 1) := by decide +kernel
theorem dX12_again_48 : decode cX12_again 48 = .ok (.iconst 0, 1) := by decide +kernel
theorem dX12_again_49 : decode cX12_again 49 = .ok (.istore 4, 2) := by decide +kernel
theorem dX12_again_51 : decode cX12_again 51 = .ok (.iload 4, 2) := by decide +kernel
theorem dX12_again_53 : decode cX12_again 53 = .ok (.aload_n 0, 1) := by decide +kernel
theorem dX12_again_54 : decode cX12_again 54 = .ok (.getfield 103, 3) := by decide +kernel
theorem dX12_again_57 : decode cX12_again 57 = .ok (.if_icmp .ge 31, 3) := by decide +kernel
theorem dX12_again_60 : decode cX12_again 60 = .ok (.iload_n 1, 1) := by decide +kernel
theorem dX12_again_61 : decode cX12_again 61 = .ok (.aload_n 0, 1) := by decide +kernel
theorem dX12_again_62 : decode cX12_again 62 = .ok (.iload 4, 2) := by decide +kernel
theorem dX12_again_64 : decode cX12_again 64 = .ok (.invokevirtual 140, 3) := by decide +kernel
theorem dX12_again_67 : decode cX12_again 67 = .ok (.iload_n 1, 1) := by decide +kernel
theorem dX12_again_68 : decode cX12_again 68 = .ok (.iand, 1) := by decide +kernel
theorem dX12_again_69 : decode cX12_again 69 = .ok (.ifCond .eq 10, 3) := by decide +kernel
theorem dX12_again_72 : decode cX12_again 72 = .ok (.iconst 1, 1) := by decide +kernel
theorem dX12_again_73 : decode cX12_again 73 = .ok (.iload 4, 2) := by decide +kernel
theorem dX12_again_75 : decode cX12_again 75 = .ok (.ishl, 1) := by decide +kernel
theorem dX12_again_76 : decode cX12_again 76 = .ok (.goto 4, 3) := by decide +kernel
theorem dX12_again_79 : decode cX12_again 79 = .ok (.iconst 0, 1) := by decide +kernel
theorem dX12_again_80 : decode cX12_again 80 = .ok (.ior, 1) := by decide +kernel
theorem dX12_again_81 : decode cX12_again 81 = .ok (.istore_n 1, 1) := by decide +kernel
theorem dX12_again_82 : decode cX12_again 82 = .ok (.iinc 4 1, 3) := by decide +kernel
theorem dX12_again_85 : decode cX12_again 85 = .ok (.goto (-34), 3) := by decide +kernel
theorem dX12_again_88 : decode cX12_again 88 = .ok (.iload_n 1, 1) := by decide +kernel
theorem dX12_again_89 : decode cX12_again 89 = .ok (.iload_n 3, 1) := by decide +kernel
theorem dX12_again_90 : decode cX12_again 90 = .ok (.if_icmp .eq 7, 3) := by decide +kernel
theorem dX12_again_93 : decode cX12_again 93 = .ok (.iconst 1, 1) := by decide +kernel
theorem dX12_again_94 : decode cX12_again 94 = .ok (.goto 4, 3) := by decide +kernel
theorem dX12_again_97 : decode cX12_again 97 = .ok (.iconst 0, 1) := by decide +kernel
theorem dX12_again_98 : decode cX12_again 98 = .ok (.istore_n 2, 1) := by decide +kernel
theorem dX12_again_99 : decode cX12_again 99 = .ok (.goto (-57), 3) := by decide +kernel
theorem dX12_again_102 : decode cX12_again 102 = .ok (.iload_n 1, 1) := by decide +kernel
theorem dX12_again_103 : decode cX12_again 103 = .ok (.ireturn, 1) := by decide +kernel
set_option maxRecDepth 20000 in
theorem ggX12_bar_X12_in : GoodIn wsX12_bar wsX12_in := goodIn_r _ [6] (by decide +kernel) (by decide +kernel)
set_option maxRecDepth 20000 in
theorem gX12_bar_X12_in : GoodIn wsX12_bar (va_wsS RX12 89 yX12_in wsX12_in) := goodIn_app (goodIn_of _ (by decide +kernel)) ggX12_bar_X12_in
theorem dX12_bar_0 : decode cX12_bar 0 = .ok (.iload_n 1, 1) := by decide +kernel
theorem dX12_bar_1 : decode cX12_bar 1 = .ok (.i2l, 1) := by decide +kernel
theorem dX12_bar_2 : decode cX12_bar 2 = .ok (.lconst 0, 1) := by decide +kernel
theorem dX12_bar_3 : decode cX12_bar 3 = .ok (.ldc2_w 186, 3) := by decide +kernel
theorem dX12_bar_6 : decode cX12_bar 6 = .ok (.invokestatic 89, 3) := by decide +kernel
theorem dX12_bar_9 : decode cX12_bar 9 = .ok (.ifCond .ne 5, 3) := by decide +kernel
theorem dX12_bar_12 : decode cX12_bar 12 = .ok (.iconst (-1), 1) := by decide +kernel
theorem dX12_bar_13 : decode cX12_bar 13 = .ok (.ireturn, 1) := by decide +kernel
theorem dX12_bar_14 : decode cX12_bar 14 = .ok (.aload_n 0, 1) := by decide +kernel
theorem dX12_bar_15 : decode cX12_bar 15 = .ok (.getfield 188, 3) := by decide +kernel
theorem dX12_bar_18 : decode cX12_bar 18 = .ok (.istore_n 2, 1) := by decide +kernel
theorem dX12_bar_19 : decode cX12_bar 19 = .ok (.aload_n 0, 1) := by decide +kernel
theorem dX12_bar_20 : decode cX12_bar 20 = .ok (.iload_n 1, 1) := by decide +kernel
theorem dX12_bar_21 : decode cX12_bar 21 = .ok (.putfield 188, 3) := by decide +kernel
theorem dX12_bar_24 : decode cX12_bar 24 = .ok (.iload_n 2, 1) := by decide +kernel
theorem dX12_bar_25 : decode cX12_bar 25 = .ok (.ireturn, 1) := by decide +kernel
set_option maxRecDepth 20000 in
theorem ggX12_areBeside_X12_size : GoodIn wsX12_areBeside wsX12_size := goodIn_r _ [4] (by decide +kernel) (by decide +kernel)
set_option maxRecDepth 20000 in
theorem gX12_areBeside_X12_size : GoodIn wsX12_areBeside (va_wsS RX12 85 yX12_size wsX12_size) := goodIn_app (goodIn_of _ (by decide +kernel)) ggX12_areBeside_X12_size
theorem dX12_areBeside_0 : decode cX12_areBeside 0 = .ok (.iload_n 0, 1) := by decide +kernel
theorem dX12_areBeside_1 : decode cX12_areBeside 1 = .ok (.iconst 4, 1) := by decide +kernel
theorem dX12_areBeside_2 : decode cX12_areBeside 2 = .ok (.irem, 1) := by decide +kernel
theorem dX12_areBeside_3 : decode cX12_areBeside 3 = .ok (.iload_n 1, 1) := by decide +kernel
theorem dX12_areBeside_4 : decode cX12_areBeside 4 = .ok (.iconst 4, 1) := by decide +kernel
theorem dX12_areBeside_5 : decode cX12_areBeside 5 = .ok (.irem, 1) := by decide +kernel
theorem dX12_areBeside_6 : decode cX12_areBeside 6 = .ok (.isub, 1) := by decide +kernel
theorem dX12_areBeside_7 : decode cX12_areBeside 7 = .ok (.invokestatic 85, 3) := by decide +kernel
theorem dX12_areBeside_10 : decode cX12_areBeside 10 = .ok (.istore_n 2, 1) := by decide +kernel
theorem dX12_areBeside_11 : decode cX12_areBeside 11 = .ok (.iload_n 0, 1) := by decide +kernel
theorem dX12_areBeside_12 : decode cX12_areBeside 12 = .ok (.iconst 4, 1) := by decide +kernel
theorem dX12_areBeside_13 : decode cX12_areBeside 13 = .ok (.idiv, 1) := by decide +kernel
theorem dX12_areBeside_14 : decode cX12_areBeside 14 = .ok (.iload_n 1, 1) := by decide +kernel
theorem dX12_areBeside_15 : decode cX12_areBeside 15 = .ok (.iconst 4, 1) := by decide +kernel
theorem dX12_areBeside_16 : decode cX12_areBeside 16 = .ok (.idiv, 1) := by decide +kernel
theorem dX12_areBeside_17 : decode cX12_areBeside 17 = .ok (.isub, 1) := by decide +kernel
theorem dX12_areBeside_18 : decode cX12_areBeside 18 = .ok (.invokestatic 85, 3) := by decide +kernel
theorem dX12_areBeside_21 : decode cX12_areBeside 21 = .ok (.istore_n 3, 1) := by decide +kernel
theorem dX12_areBeside_22 : decode cX12_areBeside 22 = .ok (.iload_n 2, 1) := by decide +kernel
theorem dX12_areBeside_23 : decode cX12_areBeside 23 = .ok (.iload_n 3, 1) := by decide +kernel
theorem dX12_areBeside_24 : decode cX12_areBeside 24 = .ok (.iadd, 1) := by decide +kernel
theorem dX12_areBeside_25 : decode cX12_areBeside 25 = .ok (.iconst 1, 1) := by decide +kernel
theorem dX12_areBeside_26 : decode cX12_areBeside 26 = .ok (.if_icmp .ne 7, 3) := by decide +kernel
theorem dX12_areBeside_29 : decode cX12_areBeside 29 = .ok (.iconst 1, 1) := by decide +kernel
theorem dX12_areBeside_30 : decode cX12_areBeside 30 = .ok (.goto 4, 3) := by decide +kernel
theorem dX12_areBeside_33 : decode cX12_areBeside 33 = .ok (.iconst 0, 1) := by decide +kernel
theorem dX12_areBeside_34 : decode cX12_areBeside 34 = .ok (.ireturn, 1) := by decide +kernel
theorem dX12_gateField_0 : decode cX12_gateField 0 = .ok (.iload_n 0, 1) := by decide +kernel
theorem dX12_gateField_1 : decode cX12_gateField 1 = .ok (.ifCond .ne 7, 3) := by decide +kernel
theorem dX12_gateField_4 : decode cX12_gateField 4 = .ok (.iconst 1, 1) := by decide +kernel
theorem dX12_gateField_5 : decode cX12_gateField 5 = .ok (.goto 25, 3) := by decide +kernel
theorem dX12_gateField_8 : decode cX12_gateField 8 = .ok (.iload_n 0, 1) := by decide +kernel
theorem dX12_gateField_9 : decode cX12_gateField 9 = .ok (.iconst 1, 1) := by decide +kernel
theorem dX12_gateField_10 : decode cX12_gateField 10 = .ok (.if_icmp .ne 8, 3) := by decide +kernel
theorem dX12_gateField_13 : decode cX12_gateField 13 = .ok (.bipush 7, 2) := by decide +kernel
theorem dX12_gateField_15 : decode cX12_gateField 15 = .ok (.goto 15, 3) := by decide +kernel
theorem dX12_gateField_18 : decode cX12_gateField 18 = .ok (.iload_n 0, 1) := by decide +kernel
theorem dX12_gateField_19 : decode cX12_gateField 19 = .ok (.iconst 2, 1) := by decide +kernel
theorem dX12_gateField_20 : decode cX12_gateField 20 = .ok (.if_icmp .ne 8, 3) := by decide +kernel
theorem dX12_gateField_23 : decode cX12_gateField 23 = .ok (.bipush 14, 2) := by decide +kernel
theorem dX12_gateField_25 : decode cX12_gateField 25 = .ok (.goto 5, 3) := by decide +kernel
theorem dX12_gateField_28 : decode cX12_gateField 28 = .ok (.bipush 8, 2) := by decide +kernel
theorem dX12_gateField_30 : decode cX12_gateField 30 = .ok (.ireturn, 1) := by decide +kernel
set_option maxRecDepth 20000 in
theorem ggX12_findWay_X12_ones : GoodIn wsX12_findWay wsX12_ones := goodIn_r _ [7] (by decide +kernel) (by decide +kernel)
set_option maxRecDepth 20000 in
theorem gX12_findWay_X12_ones : GoodIn wsX12_findWay (va_wsS RX12 143 yX12_ones wsX12_ones) := goodIn_app (goodIn_of _ (by decide +kernel)) ggX12_findWay_X12_ones
set_option maxRecDepth 20000 in
theorem ggX12_findWay_X12_gateField : GoodIn wsX12_findWay wsX12_gateField := goodIn_r _ [10] (by decide +kernel) (by decide +kernel)
set_option maxRecDepth 20000 in
theorem gX12_findWay_X12_gateField : GoodIn wsX12_findWay (va_wsS RX12 192 yX12_gateField wsX12_gateField) := goodIn_app (goodIn_of _ (by decide +kernel)) ggX12_findWay_X12_gateField
set_option maxRecDepth 20000 in
theorem ggX12_findWay_X12_areBeside : GoodIn wsX12_findWay wsX12_areBeside := goodIn_r _ [13, 14, 15, 6, 16] (by decide +kernel) (by decide +kernel)
set_option maxRecDepth 20000 in
theorem gX12_findWay_X12_areBeside : GoodIn wsX12_findWay (va_wsS RX12 195 yX12_areBeside wsX12_areBeside) := goodIn_app (goodIn_of _ (by decide +kernel)) ggX12_findWay_X12_areBeside
theorem dX12_findWay_0 : decode cX12_findWay 0 = .ok (.ldc 191, 2) := by decide +kernel
theorem dX12_findWay_2 : decode cX12_findWay 2 = .ok (.aload_n 0, 1) := by decide +kernel
theorem dX12_findWay_3 : decode cX12_findWay 3 = .ok (.getfield 188, 3) := by decide +kernel
theorem dX12_findWay_6 : decode cX12_findWay 6 = .ok (.iconst (-1), 1) := by decide +kernel
theorem dX12_findWay_7 : decode cX12_findWay 7 = .ok (.ixor, 1) := by decide +kernel
theorem dX12_findWay_8 : decode cX12_findWay 8 = .ok (.iand, 1) := by decide +kernel
theorem dX12_findWay_9 : decode cX12_findWay 9 = .ok (.istore_n 2, 1) := by decide +kernel
theorem dX12_findWay_10 : decode cX12_findWay 10 = .ok (.iload_n 2, 1) := by decide +kernel
theorem dX12_findWay_11 : decode cX12_findWay 11 = .ok (.invokestatic 143, 3) := by decide +kernel
theorem dX12_findWay_14 : decode cX12_findWay 14 = .ok (.istore_n 3, 1) := by decide +kernel
theorem dX12_findWay_15 : decode cX12_findWay 15 = .ok (.iload_n 1, 1) := by decide +kernel
theorem dX12_findWay_16 : decode cX12_findWay 16 = .ok (.invokestatic 192, 3) := by decide +kernel
theorem dX12_findWay_19 : decode cX12_findWay 19 = .ok (.istore 4, 2) := by decide +kernel
theorem dX12_findWay_21 : decode cX12_findWay 21 = .ok (.iload_n 2, 1) := by decide +kernel
theorem dX12_findWay_22 : decode cX12_findWay 22 = .ok (.iload 4, 2) := by decide +kernel
theorem dX12_findWay_24 : decode cX12_findWay 24 = .ok (.ishr, 1) := by decide +kernel
theorem dX12_findWay_25 : decode cX12_findWay 25 = .ok (.iconst 1, 1) := by decide +kernel
theorem dX12_findWay_26 : decode cX12_findWay 26 = .ok (.iand, 1) := by decide +kernel
theorem dX12_findWay_27 : decode cX12_findWay 27 = .ok (.ifCond .ne 6, 3) := by decide +kernel
theorem dX12_findWay_30 : decode cX12_findWay 30 = .ok (.bipush (-4), 2) := by decide +kernel
theorem dX12_findWay_32 : decode cX12_findWay 32 = .ok (.ireturn, 1) := by decide +kernel
theorem dX12_findWay_33 : decode cX12_findWay 33 = .ok (.aload_n 0, 1) := by decide +kernel
theorem dX12_findWay_34 : decode cX12_findWay 34 = .ok (.getfield 66, 3) := by decide +kernel
theorem dX12_findWay_37 : decode cX12_findWay 37 = .ok (.iconst 0, 1) := by decide +kernel
theorem dX12_findWay_38 : decode cX12_findWay 38 = .ok (.iload 4, 2) := by decide +kernel
theorem dX12_findWay_40 : decode cX12_findWay 40 = .ok (.iastore, 1) := by decide +kernel
theorem dX12_findWay_41 : decode cX12_findWay 41 = .ok (.iconst 1, 1) := by decide +kernel
theorem dX12_findWay_42 : decode cX12_findWay 42 = .ok (.iload 4, 2) := by decide +kernel
theorem dX12_findWay_44 : decode cX12_findWay 44 = .ok (.ishl, 1) := by decide +kernel
theorem dX12_findWay_45 : decode cX12_findWay 45 = .ok (.istore 5, 2) := by decide +kernel
theorem dX12_findWay_47 : decode cX12_findWay 47 = .ok (.iconst 1, 1) := by decide +kernel
theorem dX12_findWay_48 : decode cX12_findWay 48 = .ok (.istore 6, 2) := by decide +kernel
theorem dX12_findWay_50 : decode cX12_findWay 50 = .ok (.iconst 0, 1) := by decide +kernel
theorem dX12_findWay_51 : decode cX12_findWay 51 = .ok (.istore 7, 2) := by decide +kernel
theorem dX12_findWay_53 : decode cX12_findWay 53 = .ok (.iload 6, 2) := by decide +kernel
theorem dX12_findWay_55 : decode cX12_findWay 55 = .ok (.ifCond .le 130, 3) := by decide +kernel
theorem dX12_findWay_58 : decode cX12_findWay 58 = .ok (.iload 6, 2) := by decide +kernel
theorem dX12_findWay_60 : decode cX12_findWay 60 = .ok (.iload_n 3, 1) := by decide +kernel
theorem dX12_findWay_61 : decode cX12_findWay 61 = .ok (.if_icmp .ge 124, 3) := by decide +kernel
theorem dX12_findWay_64 : decode cX12_findWay 64 = .ok (.iload 7, 2) := by decide +kernel
theorem dX12_findWay_66 : decode cX12_findWay 66 = .ok (.istore 8, 2) := by decide +kernel
theorem dX12_findWay_68 : decode cX12_findWay 68 = .ok (.iload 8, 2) := by decide +kernel
theorem dX12_findWay_70 : decode cX12_findWay 70 = .ok (.bipush 16, 2) := by decide +kernel
theorem dX12_findWay_72 : decode cX12_findWay 72 = .ok (.if_icmp .ge 46, 3) := by decide +kernel
theorem dX12_findWay_75 : decode cX12_findWay 75 = .ok (.iload 5, 2) := by decide +kernel
theorem dX12_findWay_77 : decode cX12_findWay 77 = .ok (.iload 8, 2) := by decide +kernel
theorem dX12_findWay_79 : decode cX12_findWay 79 = .ok (.ishr, 1) := by decide +kernel
theorem dX12_findWay_80 : decode cX12_findWay 80 = .ok (.iconst 1, 1) := by decide +kernel
theorem dX12_findWay_81 : decode cX12_findWay 81 = .ok (.iand, 1) := by decide +kernel
theorem dX12_findWay_82 : decode cX12_findWay 82 = .ok (.iconst 1, 1) := by decide +kernel
theorem dX12_findWay_83 : decode cX12_findWay 83 = .ok (.if_icmp .eq 29, 3) := by decide +kernel
theorem dX12_findWay_86 : decode cX12_findWay 86 = .ok (.iload_n 2, 1) := by decide +kernel
theorem dX12_findWay_87 : decode cX12_findWay 87 = .ok (.iload 8, 2) := by decide +kernel
theorem dX12_findWay_89 : decode cX12_findWay 89 = .ok (.ishr, 1) := by decide +kernel
theorem dX12_findWay_90 : decode cX12_findWay 90 = .ok (.iconst 1, 1) := by decide +kernel
theorem dX12_findWay_91 : decode cX12_findWay 91 = .ok (.iand, 1) := by decide +kernel
theorem dX12_findWay_92 : decode cX12_findWay 92 = .ok (.ifCond .eq 20, 3) := by decide +kernel
theorem dX12_findWay_95 : decode cX12_findWay 95 = .ok (.aload_n 0, 1) := by decide +kernel
theorem dX12_findWay_96 : decode cX12_findWay 96 = .ok (.getfield 66, 3) := by decide +kernel
theorem dX12_findWay_99 : decode cX12_findWay 99 = .ok (.iload 6, 2) := by decide +kernel
theorem dX12_findWay_101 : decode cX12_findWay 101 = .ok (.iconst 1, 1) := by decide +kernel
theorem dX12_findWay_102 : decode cX12_findWay 102 = .ok (.isub, 1) := by decide +kernel
theorem dX12_findWay_103 : decode cX12_findWay 103 = .ok (.iaload, 1) := by decide +kernel
theorem dX12_findWay_104 : decode cX12_findWay 104 = .ok (.iload 8, 2) := by decide +kernel
theorem dX12_findWay_106 : decode cX12_findWay 106 = .ok (.invokestatic 195, 3) := by decide +kernel
theorem dX12_findWay_109 : decode cX12_findWay 109 = .ok (.ifCond .ne 9, 3) := by decide +kernel
theorem dX12_findWay_112 : decode cX12_findWay 112 = .ok (.iinc 8 1, 3) := by decide +kernel
theorem dX12_findWay_115 : decode cX12_findWay 115 = .ok (.goto (-47), 3) := by decide +kernel
theorem dX12_findWay_118 : decode cX12_findWay 118 = .ok (.iload 8, 2) := by decide +kernel
theorem dX12_findWay_120 : decode cX12_findWay 120 = .ok (.bipush 16, 2) := by decide +kernel
theorem dX12_findWay_122 : decode cX12_findWay 122 = .ok (.if_icmp .ge 30, 3) := by decide +kernel
theorem dX12_findWay_125 : decode cX12_findWay 125 = .ok (.aload_n 0, 1) := by decide +kernel
theorem dX12_findWay_126 : decode cX12_findWay 126 = .ok (.getfield 66, 3) := by decide +kernel
theorem dX12_findWay_129 : decode cX12_findWay 129 = .ok (.iload 6, 2) := by decide +kernel
theorem dX12_findWay_131 : decode cX12_findWay 131 = .ok (.iload 8, 2) := by decide +kernel
theorem dX12_findWay_133 : decode cX12_findWay 133 = .ok (.iastore, 1) := by decide +kernel
theorem dX12_findWay_134 : decode cX12_findWay 134 = .ok (.iinc 6 1, 3) := by decide +kernel
theorem dX12_findWay_137 : decode cX12_findWay 137 = .ok (.iload 5, 2) := by decide +kernel
theorem dX12_findWay_139 : decode cX12_findWay 139 = .ok (.iconst 1, 1) := by decide +kernel
theorem dX12_findWay_140 : decode cX12_findWay 140 = .ok (.iload 8, 2) := by decide +kernel
theorem dX12_findWay_142 : decode cX12_findWay 142 = .ok (.ishl, 1) := by decide +kernel
theorem dX12_findWay_143 : decode cX12_findWay 143 = .ok (.ior, 1) := by decide +kernel
theorem dX12_findWay_144 : decode cX12_findWay 144 = .ok (.istore 5, 2) := by decide +kernel
theorem dX12_findWay_146 : decode cX12_findWay 146 = .ok (.iconst 0, 1) := by decide +kernel
theorem dX12_findWay_147 : decode cX12_findWay 147 = .ok (.istore 7, 2) := by decide +kernel
theorem dX12_findWay_149 : decode cX12_findWay 149 = .ok (.goto 33, 3) := by decide +kernel
theorem dX12_findWay_152 : decode cX12_findWay 152 = .ok (.iinc 6 (-1), 3) := by decide +kernel
theorem dX12_findWay_155 : decode cX12_findWay 155 = .ok (.iload 5, 2) := by decide +kernel
theorem dX12_findWay_157 : decode cX12_findWay 157 = .ok (.iconst 1, 1) := by decide +kernel
theorem dX12_findWay_158 : decode cX12_findWay 158 = .ok (.aload_n 0, 1) := by decide +kernel
theorem dX12_findWay_159 : decode cX12_findWay 159 = .ok (.getfield 66, 3) := by decide +kernel
theorem dX12_findWay_162 : decode cX12_findWay 162 = .ok (.iload 6, 2) := by decide +kernel
theorem dX12_findWay_164 : decode cX12_findWay 164 = .ok (.iaload, 1) := by decide +kernel
theorem dX12_findWay_165 : decode cX12_findWay 165 = .ok (.ishl, 1) := by decide +kernel
theorem dX12_findWay_166 : decode cX12_findWay 166 = .ok (.iconst (-1), 1) := by decide +kernel
theorem dX12_findWay_167 : decode cX12_findWay 167 = .ok (.ixor, 1) := by decide +kernel
theorem dX12_findWay_168 : decode cX12_findWay 168 = .ok (.iand, 1) := by decide +kernel
theorem dX12_findWay_169 : decode cX12_findWay 169 = .ok (.istore 5, 2) := by decide +kernel
theorem dX12_findWay_171 : decode cX12_findWay 171 = .ok (.aload_n 0, 1) := by decide +kernel
theorem dX12_findWay_172 : decode cX12_findWay 172 = .ok (.getfield 66, 3) := by decide +kernel
theorem dX12_findWay_175 : decode cX12_findWay 175 = .ok (.iload 6, 2) := by decide +kernel
theorem dX12_findWay_177 : decode cX12_findWay 177 = .ok (.iaload, 1) := by decide +kernel
theorem dX12_findWay_178 : decode cX12_findWay 178 = .ok (.iconst 1, 1) := by decide +kernel
theorem dX12_findWay_179 : decode cX12_findWay 179 = .ok (.iadd, 1) := by decide +kernel
theorem dX12_findWay_180 : decode cX12_findWay 180 = .ok (.istore 7, 2) := by decide +kernel
theorem dX12_findWay_182 : decode cX12_findWay 182 = .ok (.goto (-129), 3) := by decide +kernel
theorem dX12_findWay_185 : decode cX12_findWay 185 = .ok (.iload 6, 2) := by decide +kernel
theorem dX12_findWay_187 : decode cX12_findWay 187 = .ok (.ifCond .ne 8, 3) := by decide +kernel
theorem dX12_findWay_190 : decode cX12_findWay 190 = .ok (.bipush (-4), 2) := by decide +kernel
theorem dX12_findWay_192 : decode cX12_findWay 192 = .ok (.goto 4, 3) := by decide +kernel
theorem dX12_findWay_195 : decode cX12_findWay 195 = .ok (.iload_n 3, 1) := by decide +kernel
theorem dX12_findWay_196 : decode cX12_findWay 196 = .ok (.ireturn, 1) := by decide +kernel
set_option maxRecDepth 20000 in
theorem ggX12_way_X12_in : GoodIn wsX12_way wsX12_in := goodIn_r _ [5] (by decide +kernel) (by decide +kernel)
set_option maxRecDepth 20000 in
theorem gX12_way_X12_in : GoodIn wsX12_way (va_wsS RX12 89 yX12_in wsX12_in) := goodIn_app (goodIn_of _ (by decide +kernel)) ggX12_way_X12_in
set_option maxRecDepth 20000 in
theorem ggX12_way_X12_findWay : GoodIn wsX12_way wsX12_findWay := goodIn_r _ [9, 10, 11, 12, 13, 14, 4, 15, 16, 17, 18, 19, 20, 21, 22, 23, 24, 25, 26, 27, 28, 29, 30, 31, 32, 33, 34, 35, 36, 37, 38, 39, 40, 41, 42, 43, 44, 45, 46, 47, 48, 49, 50, 51] (by decide +kernel) (by decide +kernel)
set_option maxRecDepth 20000 in
theorem gX12_way_X12_findWay : GoodIn wsX12_way (wsV RX12 198 RX12 yX12_findWay wsX12_findWay) := goodIn_app (goodIn_of _ (by decide +kernel)) ggX12_way_X12_findWay
theorem dX12_way_0 : decode cX12_way 0 = .ok (.iload_n 1, 1) := by decide +kernel
theorem dX12_way_1 : decode cX12_way 1 = .ok (.i2l, 1) := by decide +kernel
theorem dX12_way_2 : decode cX12_way 2 = .ok (.lconst 0, 1) := by decide +kernel
theorem dX12_way_3 : decode cX12_way 3 = .ok (.ldc2_w 184, 3) := by decide +kernel
theorem dX12_way_6 : decode cX12_way 6 = .ok (.invokestatic 89, 3) := by decide +kernel
theorem dX12_way_9 : decode cX12_way 9 = .ok (.ifCond .eq 11, 3) := by decide +kernel
theorem dX12_way_12 : decode cX12_way 12 = .ok (.aload_n 0, 1) := by decide +kernel
theorem dX12_way_13 : decode cX12_way 13 = .ok (.iload_n 1, 1) := by decide +kernel
theorem dX12_way_14 : decode cX12_way 14 = .ok (.invokevirtual 198, 3) := by decide +kernel
theorem dX12_way_17 : decode cX12_way 17 = .ok (.goto 4, 3) := by decide +kernel
theorem dX12_way_20 : decode cX12_way 20 = .ok (.iconst (-1), 1) := by decide +kernel
theorem dX12_way_21 : decode cX12_way 21 = .ok (.ireturn, 1) := by decide +kernel
set_option maxRecDepth 20000 in
theorem ggX12_wayAt_X12_in : GoodIn wsX12_wayAt wsX12_in := goodIn_r _ [6] (by decide +kernel) (by decide +kernel)
set_option maxRecDepth 20000 in
theorem gX12_wayAt_X12_in : GoodIn wsX12_wayAt (va_wsS RX12 89 yX12_in wsX12_in) := goodIn_app (goodIn_of _ (by decide +kernel)) ggX12_wayAt_X12_in
set_option maxRecDepth 20000 in
theorem ggX12_wayAt_X12_findWay : GoodIn wsX12_wayAt wsX12_findWay := goodIn_r _ [10, 11, 12, 2, 13, 14, 5, 15, 16, 17, 18, 19, 20, 21, 22, 23, 24, 25, 26, 27, 28, 29, 30, 31, 32, 33, 34, 35, 36, 37, 38, 39, 40, 41, 42, 43, 44, 45, 46, 47, 48, 49, 50, 51] (by decide +kernel) (by decide +kernel)
set_option maxRecDepth 20000 in
theorem gX12_wayAt_X12_findWay : GoodIn wsX12_wayAt (wsV RX12 198 RX12 yX12_findWay wsX12_findWay) := goodIn_app (goodIn_of _ (by decide +kernel)) ggX12_wayAt_X12_findWay
theorem dX12_wayAt_0 : decode cX12_wayAt 0 = .ok (.iload_n 1, 1) := by decide +kernel
theorem dX12_wayAt_1 : decode cX12_wayAt 1 = .ok (.i2l, 1) := by decide +kernel
theorem dX12_wayAt_2 : decode cX12_wayAt 2 = .ok (.lconst 0, 1) := by decide +kernel
theorem dX12_wayAt_3 : decode cX12_wayAt 3 = .ok (.ldc2_w 184, 3) := by decide +kernel
theorem dX12_wayAt_6 : decode cX12_wayAt 6 = .ok (.invokestatic 89, 3) := by decide +kernel
theorem dX12_wayAt_9 : decode cX12_wayAt 9 = .ok (.ifCond .eq 7, 3) := by decide +kernel
theorem dX12_wayAt_12 : decode cX12_wayAt 12 = .ok (.iload_n 2, 1) := by decide +kernel
theorem dX12_wayAt_13 : decode cX12_wayAt 13 = .ok (.ifCond .ge 5, 3) := by decide +kernel
theorem dX12_wayAt_16 : decode cX12_wayAt 16 = .ok (.iconst (-1), 1) := by decide +kernel
theorem dX12_wayAt_17 : decode cX12_wayAt 17 = .ok (.ireturn, 1) := by decide +kernel
theorem dX12_wayAt_18 : decode cX12_wayAt 18 = .ok (.aload_n 0, 1) := by decide +kernel
theorem dX12_wayAt_19 : decode cX12_wayAt 19 = .ok (.iload_n 1, 1) := by decide +kernel
theorem dX12_wayAt_20 : decode cX12_wayAt 20 = .ok (.invokevirtual 198, 3) := by decide +kernel
theorem dX12_wayAt_23 : decode cX12_wayAt 23 = .ok (.istore_n 3, 1) := by decide +kernel
theorem dX12_wayAt_24 : decode cX12_wayAt 24 = .ok (.iload_n 3, 1) := by decide +kernel
theorem dX12_wayAt_25 : decode cX12_wayAt 25 = .ok (.ifCond .ge 8, 3) := by decide +kernel
theorem dX12_wayAt_28 : decode cX12_wayAt 28 = .ok (.bipush (-4), 2) := by decide +kernel
theorem dX12_wayAt_30 : decode cX12_wayAt 30 = .ok (.goto 18, 3) := by decide +kernel
theorem dX12_wayAt_33 : decode cX12_wayAt 33 = .ok (.iload_n 2, 1) := by decide +kernel
theorem dX12_wayAt_34 : decode cX12_wayAt 34 = .ok (.iload_n 3, 1) := by decide +kernel
theorem dX12_wayAt_35 : decode cX12_wayAt 35 = .ok (.if_icmp .ge 12, 3) := by decide +kernel
theorem dX12_wayAt_38 : decode cX12_wayAt 38 = .ok (.aload_n 0, 1) := by decide +kernel
theorem dX12_wayAt_39 : decode cX12_wayAt 39 = .ok (.getfield 66, 3) := by decide +kernel
theorem dX12_wayAt_42 : decode cX12_wayAt 42 = .ok (.iload_n 2, 1) := by decide +kernel
theorem dX12_wayAt_43 : decode cX12_wayAt 43 = .ok (.iaload, 1) := by decide +kernel
theorem dX12_wayAt_44 : decode cX12_wayAt 44 = .ok (.goto 4, 3) := by decide +kernel
theorem dX12_wayAt_47 : decode cX12_wayAt 47 = .ok (.iconst (-1), 1) := by decide +kernel
theorem dX12_wayAt_48 : decode cX12_wayAt 48 = .ok (.ireturn, 1) := by decide +kernel
set_option maxRecDepth 20000 in
theorem ggX12_heap_X12_in : GoodIn wsX12_heap wsX12_in := goodIn_r _ [5] (by decide +kernel) (by decide +kernel)
set_option maxRecDepth 20000 in
theorem gX12_heap_X12_in : GoodIn wsX12_heap (va_wsS RX12 89 yX12_in wsX12_in) := goodIn_app (goodIn_of _ (by decide +kernel)) ggX12_heap_X12_in
set_option maxRecDepth 20000 in
theorem ggX12_heap_X12_layersOf : GoodIn wsX12_heap wsX12_layersOf := goodIn_r _ [9, 10, 11, 15, 16, 17, 18, 19, 20, 21, 22, 23, 24, 25, 26, 27, 28, 29, 30, 31, 32, 33, 34, 35, 36, 37, 38, 39, 40, 41] (by decide +kernel) (by decide +kernel)
set_option maxRecDepth 20000 in
theorem gX12_heap_X12_layersOf : GoodIn wsX12_heap (wsV RX12 159 RX12 yX12_layersOf wsX12_layersOf) := goodIn_app (goodIn_of _ (by decide +kernel)) ggX12_heap_X12_layersOf
set_option maxRecDepth 20000 in
theorem ggX12_heap_X12_ones : GoodIn wsX12_heap wsX12_ones := goodIn_r _ [14] (by decide +kernel) (by decide +kernel)
set_option maxRecDepth 20000 in
theorem gX12_heap_X12_ones : GoodIn wsX12_heap (va_wsS RX12 143 yX12_ones wsX12_ones) := goodIn_app (goodIn_of _ (by decide +kernel)) ggX12_heap_X12_ones
theorem dX12_heap_0 : decode cX12_heap 0 = .ok (.iload_n 1, 1) := by decide +kernel
theorem dX12_heap_1 : decode cX12_heap 1 = .ok (.i2l, 1) := by decide +kernel
theorem dX12_heap_2 : decode cX12_heap 2 = .ok (.lconst 0, 1) := by decide +kernel
theorem dX12_heap_3 : decode cX12_heap 3 = .ok (.ldc2_w 149, 3) := by decide +kernel
theorem dX12_heap_6 : decode cX12_heap 6 = .ok (.invokestatic 89, 3) := by decide +kernel
theorem dX12_heap_9 : decode cX12_heap 9 = .ok (.ifCond .ne 5, 3) := by decide +kernel
theorem dX12_heap_12 : decode cX12_heap 12 = .ok (.iconst (-1), 1) := by decide +kernel
theorem dX12_heap_13 : decode cX12_heap 13 = .ok (.ireturn, 1) := by decide +kernel
theorem dX12_heap_14 : decode cX12_heap 14 = .ok (.iconst 0, 1) := by decide +kernel
theorem dX12_heap_15 : decode cX12_heap 15 = .ok (.istore_n 2, 1) := by decide +kernel
theorem dX12_heap_16 : decode cX12_heap 16 = .ok (.iconst 0, 1) := by decide +kernel
theorem dX12_heap_17 : decode cX12_heap 17 = .ok (.istore_n 3, 1) := by decide +kernel
theorem dX12_heap_18 : decode cX12_heap 18 = .ok (.iload_n 3, 1) := by decide +kernel
theorem dX12_heap_19 : decode cX12_heap 19 = .ok (.sipush 256, 3) := by decide +kernel
theorem dX12_heap_22 : decode cX12_heap 22 = .ok (.if_icmp .ge 60, 3) := by decide +kernel
theorem dX12_heap_25 : decode cX12_heap 25 = .ok (.iload_n 3, 1) := by decide +kernel
theorem dX12_heap_26 : decode cX12_heap 26 = .ok (.bipush 16, 2) := by decide +kernel
theorem dX12_heap_28 : decode cX12_heap 28 = .ok (.irem, 1) := by decide +kernel
theorem dX12_heap_29 : decode cX12_heap 29 = .ok (.iconst 4, 1) := by decide +kernel
theorem dX12_heap_30 : decode cX12_heap 30 = .ok (.idiv, 1) := by decide +kernel
theorem dX12_heap_31 : decode cX12_heap 31 = .ok (.iload_n 1, 1) := by decide +kernel
theorem dX12_heap_32 : decode cX12_heap 32 = .ok (.iconst 4, 1) := by decide +kernel
theorem dX12_heap_33 : decode cX12_heap 33 = .ok (.irem, 1) := by decide +kernel
theorem dX12_heap_34 : decode cX12_heap 34 = .ok (.if_icmp .ne 19, 3) := by decide +kernel
theorem dX12_heap_37 : decode cX12_heap 37 = .ok (.iload_n 3, 1) := by decide +kernel
theorem dX12_heap_38 : decode cX12_heap 38 = .ok (.bipush 16, 2) := by decide +kernel
theorem dX12_heap_40 : decode cX12_heap 40 = .ok (.idiv, 1) := by decide +kernel
theorem dX12_heap_41 : decode cX12_heap 41 = .ok (.iconst 4, 1) := by decide +kernel
theorem dX12_heap_42 : decode cX12_heap 42 = .ok (.idiv, 1) := by decide +kernel
theorem dX12_heap_43 : decode cX12_heap 43 = .ok (.iload_n 1, 1) := by decide +kernel
theorem dX12_heap_44 : decode cX12_heap 44 = .ok (.iconst 4, 1) := by decide +kernel
theorem dX12_heap_45 : decode cX12_heap 45 = .ok (.idiv, 1) := by decide +kernel
theorem dX12_heap_46 : decode cX12_heap 46 = .ok (.if_icmp .ne 7, 3) := by decide +kernel
theorem dX12_heap_49 : decode cX12_heap 49 = .ok (.iconst 1, 1) := by decide +kernel
theorem dX12_heap_50 : decode cX12_heap 50 = .ok (.goto 4, 3) := by decide +kernel
theorem dX12_heap_53 : decode cX12_heap 53 = .ok (.iconst 0, 1) := by decide +kernel
theorem dX12_heap_54 : decode cX12_heap 54 = .ok (.istore 4, 2) := by decide +kernel
theorem dX12_heap_56 : decode cX12_heap 56 = .ok (.iload_n 2, 1) := by decide +kernel
theorem dX12_heap_57 : decode cX12_heap 57 = .ok (.iload 4, 2) := by decide +kernel
theorem dX12_heap_59 : decode cX12_heap 59 = .ok (.ifCond .eq 14, 3) := by decide +kernel
theorem dX12_heap_62 : decode cX12_heap 62 = .ok (.aload_n 0, 1) := by decide +kernel
theorem dX12_heap_63 : decode cX12_heap 63 = .ok (.iload_n 3, 1) := by decide +kernel
theorem dX12_heap_64 : decode cX12_heap 64 = .ok (.invokevirtual 159, 3) := by decide +kernel
theorem dX12_heap_67 : decode cX12_heap 67 = .ok (.invokestatic 143, 3) := by decide +kernel
theorem dX12_heap_70 : decode cX12_heap 70 = .ok (.goto 4, 3) := by decide +kernel
theorem dX12_heap_73 : decode cX12_heap 73 = .ok (.iconst 0, 1) := by decide +kernel
theorem dX12_heap_74 : decode cX12_heap 74 = .ok (.iadd, 1) := by decide +kernel
theorem dX12_heap_75 : decode cX12_heap 75 = .ok (.istore_n 2, 1) := by decide +kernel
theorem dX12_heap_76 : decode cX12_heap 76 = .ok (.iinc 3 1, 3) := by decide +kernel
theorem dX12_heap_79 : decode cX12_heap 79 = .ok (.goto (-61), 3) := by decide +kernel
theorem dX12_heap_82 : decode cX12_heap 82 = .ok (.iload_n 2, 1) := by decide +kernel
theorem dX12_heap_83 : decode cX12_heap 83 = .ok (.ireturn, 1) := by decide +kernel
set_option maxRecDepth 20000 in
theorem ggX12_isSheet_X12_in : GoodIn wsX12_isSheet wsX12_in := goodIn_r _ [6] (by decide +kernel) (by decide +kernel)
set_option maxRecDepth 20000 in
theorem gX12_isSheet_X12_in : GoodIn wsX12_isSheet (va_wsS RX12 89 yX12_in wsX12_in) := goodIn_app (goodIn_of _ (by decide +kernel)) ggX12_isSheet_X12_in
theorem dX12_isSheet_0 : decode cX12_isSheet 0 = .ok (.iload_n 0, 1) := by decide +kernel
theorem dX12_isSheet_1 : decode cX12_isSheet 1 = .ok (.i2l, 1) := by decide +kernel
theorem dX12_isSheet_2 : decode cX12_isSheet 2 = .ok (.lconst 0, 1) := by decide +kernel
theorem dX12_isSheet_3 : decode cX12_isSheet 3 = .ok (.ldc2_w 184, 3) := by decide +kernel
theorem dX12_isSheet_6 : decode cX12_isSheet 6 = .ok (.invokestatic 89, 3) := by decide +kernel
theorem dX12_isSheet_9 : decode cX12_isSheet 9 = .ok (.ifCond .eq 19, 3) := by decide +kernel
theorem dX12_isSheet_12 : decode cX12_isSheet 12 = .ok (.iload_n 1, 1) := by decide +kernel
theorem dX12_isSheet_13 : decode cX12_isSheet 13 = .ok (.i2l, 1) := by decide +kernel
theorem dX12_isSheet_14 : decode cX12_isSheet 14 = .ok (.lconst 0, 1) := by decide +kernel
theorem dX12_isSheet_15 : decode cX12_isSheet 15 = .ok (.ldc2_w 154, 3) := by decide +kernel
theorem dX12_isSheet_18 : decode cX12_isSheet 18 = .ok (.invokestatic 89, 3) := by decide +kernel
theorem dX12_isSheet_21 : decode cX12_isSheet 21 = .ok (.ifCond .eq 7, 3) := by decide +kernel
theorem dX12_isSheet_24 : decode cX12_isSheet 24 = .ok (.iconst 1, 1) := by decide +kernel
theorem dX12_isSheet_25 : decode cX12_isSheet 25 = .ok (.goto 4, 3) := by decide +kernel
theorem dX12_isSheet_28 : decode cX12_isSheet 28 = .ok (.iconst 0, 1) := by decide +kernel
theorem dX12_isSheet_29 : decode cX12_isSheet 29 = .ok (.ireturn, 1) := by decide +kernel
set_option maxRecDepth 20000 in
theorem ggX12_sheet_X12_isSheet : GoodIn wsX12_sheet wsX12_isSheet := goodIn_r _ [7, 8, 9, 10, 11, 6, 12] (by decide +kernel) (by decide +kernel)
set_option maxRecDepth 20000 in
theorem gX12_sheet_X12_isSheet : GoodIn wsX12_sheet (va_wsS RX12 201 yX12_isSheet wsX12_isSheet) := goodIn_app (goodIn_of _ (by decide +kernel)) ggX12_sheet_X12_isSheet
theorem dX12_sheet_0 : decode cX12_sheet 0 = .ok (.iload_n 1, 1) := by decide +kernel
theorem dX12_sheet_1 : decode cX12_sheet 1 = .ok (.iload_n 2, 1) := by decide +kernel
theorem dX12_sheet_2 : decode cX12_sheet 2 = .ok (.invokestatic 201, 3) := by decide +kernel
theorem dX12_sheet_5 : decode cX12_sheet 5 = .ok (.ifCond .eq 10, 3) := by decide +kernel
theorem dX12_sheet_8 : decode cX12_sheet 8 = .ok (.iload_n 3, 1) := by decide +kernel
theorem dX12_sheet_9 : decode cX12_sheet 9 = .ok (.sipush 256, 3) := by decide +kernel
theorem dX12_sheet_12 : decode cX12_sheet 12 = .ok (.if_icmp .le 5, 3) := by decide +kernel
theorem dX12_sheet_15 : decode cX12_sheet 15 = .ok (.iconst (-1), 1) := by decide +kernel
theorem dX12_sheet_16 : decode cX12_sheet 16 = .ok (.ireturn, 1) := by decide +kernel
theorem dX12_sheet_17 : decode cX12_sheet 17 = .ok (.iload_n 3, 1) := by decide +kernel
theorem dX12_sheet_18 : decode cX12_sheet 18 = .ok (.ifCond .ge 6, 3) := by decide +kernel
theorem dX12_sheet_21 : decode cX12_sheet 21 = .ok (.bipush (-14), 2) := by decide +kernel
theorem dX12_sheet_23 : decode cX12_sheet 23 = .ok (.ireturn, 1) := by decide +kernel
theorem dX12_sheet_24 : decode cX12_sheet 24 = .ok (.aload_n 0, 1) := by decide +kernel
theorem dX12_sheet_25 : decode cX12_sheet 25 = .ok (.getfield 69, 3) := by decide +kernel
theorem dX12_sheet_28 : decode cX12_sheet 28 = .ok (.iload_n 1, 1) := by decide +kernel
theorem dX12_sheet_29 : decode cX12_sheet 29 = .ok (.iload_n 2, 1) := by decide +kernel
theorem dX12_sheet_30 : decode cX12_sheet 30 = .ok (.iastore, 1) := by decide +kernel
theorem dX12_sheet_31 : decode cX12_sheet 31 = .ok (.aload_n 0, 1) := by decide +kernel
theorem dX12_sheet_32 : decode cX12_sheet 32 = .ok (.getfield 72, 3) := by decide +kernel
theorem dX12_sheet_35 : decode cX12_sheet 35 = .ok (.iload_n 1, 1) := by decide +kernel
theorem dX12_sheet_36 : decode cX12_sheet 36 = .ok (.iload_n 3, 1) := by decide +kernel
theorem dX12_sheet_37 : decode cX12_sheet 37 = .ok (.iastore, 1) := by decide +kernel
theorem dX12_sheet_38 : decode cX12_sheet 38 = .ok (.iconst 0, 1) := by decide +kernel
theorem dX12_sheet_39 : decode cX12_sheet 39 = .ok (.istore 4, 2) := by decide +kernel
theorem dX12_sheet_41 : decode cX12_sheet 41 = .ok (.iload 4, 2) := by decide +kernel
theorem dX12_sheet_43 : decode cX12_sheet 43 = .ok (.sipush 256, 3) := by decide +kernel
theorem dX12_sheet_46 : decode cX12_sheet 46 = .ok (.if_icmp .ge 23, 3) := by decide +kernel
theorem dX12_sheet_49 : decode cX12_sheet 49 = .ok (.aload_n 0, 1) := by decide +kernel
theorem dX12_sheet_50 : decode cX12_sheet 50 = .ok (.getfield 75, 3) := by decide +kernel
theorem dX12_sheet_53 : decode cX12_sheet 53 = .ok (.sipush 256, 3) := by decide +kernel
theorem dX12_sheet_56 : decode cX12_sheet 56 = .ok (.iload_n 1, 1) := by decide +kernel
theorem dX12_sheet_57 : decode cX12_sheet 57 = .ok (.imul, 1) := by decide +kernel
theorem dX12_sheet_58 : decode cX12_sheet 58 = .ok (.iload 4, 2) := by decide +kernel
theorem dX12_sheet_60 : decode cX12_sheet 60 = .ok (.iadd, 1) := by decide +kernel
theorem dX12_sheet_61 : decode cX12_sheet 61 = .ok (.iconst 0, 1) := by decide +kernel
theorem dX12_sheet_62 : decode cX12_sheet 62 = .ok (.iastore, 1) := by decide +kernel
theorem dX12_sheet_63 : decode cX12_sheet 63 = .ok (.iinc 4 1, 3) := by decide +kernel
theorem dX12_sheet_66 : decode cX12_sheet 66 = .ok (.goto (-25), 3) := by decide +kernel
theorem dX12_sheet_69 : decode cX12_sheet 69 = .ok (.iload_n 3, 1) := by decide +kernel
theorem dX12_sheet_70 : decode cX12_sheet 70 = .ok (.ireturn, 1) := by decide +kernel
set_option maxRecDepth 20000 in
theorem ggX12_drop_X12_in : GoodIn wsX12_drop wsX12_in := goodIn_r _ [7] (by decide +kernel) (by decide +kernel)
set_option maxRecDepth 20000 in
theorem gX12_drop_X12_in : GoodIn wsX12_drop (va_wsS RX12 89 yX12_in wsX12_in) := goodIn_app (goodIn_of _ (by decide +kernel)) ggX12_drop_X12_in
theorem dX12_drop_0 : decode cX12_drop 0 = .ok (.iload_n 1, 1) := by decide +kernel
theorem dX12_drop_1 : decode cX12_drop 1 = .ok (.i2l, 1) := by decide +kernel
theorem dX12_drop_2 : decode cX12_drop 2 = .ok (.lconst 0, 1) := by decide +kernel
theorem dX12_drop_3 : decode cX12_drop 3 = .ok (.ldc2_w 184, 3) := by decide +kernel
theorem dX12_drop_6 : decode cX12_drop 6 = .ok (.invokestatic 89, 3) := by decide +kernel
theorem dX12_drop_9 : decode cX12_drop 9 = .ok (.ifCond .ne 5, 3) := by decide +kernel
theorem dX12_drop_12 : decode cX12_drop 12 = .ok (.iconst (-1), 1) := by decide +kernel
theorem dX12_drop_13 : decode cX12_drop 13 = .ok (.ireturn, 1) := by decide +kernel
theorem dX12_drop_14 : decode cX12_drop 14 = .ok (.aload_n 0, 1) := by decide +kernel
theorem dX12_drop_15 : decode cX12_drop 15 = .ok (.getfield 69, 3) := by decide +kernel
