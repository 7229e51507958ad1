abbrev vwCl : List vw_C := [(RX0, TX0, 2), (RX1, TX1, 2), (RX2, TX2, 2), (RX3, TX3, 2), (RX4, TX4, 3), (RX5, TX5, 2), (RX7, TX7, 3), (RX8, TX8, 3), (RX9, TX9, 3), (RX10, TX10, 14), (RX11, TX11, 5), (RX12, TX12, 27)]
theorem dX12_in_0 : decode cX12_in 0 = .ok (.lload_n 0, 1) := by decide +kernel
theorem dX12_in_1 : decode cX12_in 1 = .ok (.lload_n 2, 1) := by decide +kernel
theorem dX12_in_2 : decode cX12_in 2 = .ok (.lcmp, 1) := by decide +kernel
theorem dX12_in_3 : decode cX12_in 3 = .ok (.ifCond .lt 14, 3) := by decide +kernel
theorem dX12_in_6 : decode cX12_in 6 = .ok (.lload_n 0, 1) := by decide +kernel
theorem dX12_in_7 : decode cX12_in 7 = .ok (.lload 4, 2) := by decide +kernel
theorem dX12_in_9 : decode cX12_in 9 = .ok (.lcmp, 1) := by decide +kernel
theorem dX12_in_10 : decode cX12_in 10 = .ok (.ifCond .gt 7, 3) := by decide +kernel
theorem dX12_in_13 : decode cX12_in 13 = .ok (.iconst 1, 1) := by decide +kernel
theorem dX12_in_14 : decode cX12_in 14 = .ok (.goto 4, 3) := by decide +kernel
theorem dX12_in_17 : decode cX12_in 17 = .ok (.iconst 0, 1) := by decide +kernel
theorem dX12_in_18 : decode cX12_in 18 = .ok (.ireturn, 1) := by decide +kernel
theorem dX12_init_0 : decode cX12_init 0 = .ok (.aload_n 0, 1) := by decide +kernel
theorem dX12_init_1 : decode cX12_init 1 = .ok (.invokespecial 1, 3) := by decide +kernel
theorem dX12_init_4 : decode cX12_init 4 = .ok (.aload_n 0, 1) := by decide +kernel
theorem dX12_init_5 : decode cX12_init 5 = .ok (.bipush 10, 2) := by decide +kernel
theorem dX12_init_7 : decode cX12_init 7 = .ok (.newarray .int, 2) := by decide +kernel
theorem dX12_init_9 : decode cX12_init 9 = .ok (.putfield 7, 3) := by decide +kernel
theorem dX12_init_12 : decode cX12_init 12 = .ok (.aload_n 0, 1) := by decide +kernel
theorem dX12_init_13 : decode cX12_init 13 = .ok (.bipush 10, 2) := by decide +kernel
theorem dX12_init_15 : decode cX12_init 15 = .ok (.newarray .int, 2) := by decide +kernel
theorem dX12_init_17 : decode cX12_init 17 = .ok (.putfield 13, 3) := by decide +kernel
theorem dX12_init_20 : decode cX12_init 20 = .ok (.aload_n 0, 1) := by decide +kernel
theorem dX12_init_21 : decode cX12_init 21 = .ok (.bipush 10, 2) := by decide +kernel
theorem dX12_init_23 : decode cX12_init 23 = .ok (.newarray .int, 2) := by decide +kernel
theorem dX12_init_25 : decode cX12_init 25 = .ok (.putfield 16, 3) := by decide +kernel
theorem dX12_init_28 : decode cX12_init 28 = .ok (.aload_n 0, 1) := by decide +kernel
theorem dX12_init_29 : decode cX12_init 29 = .ok (.bipush 10, 2) := by decide +kernel
theorem dX12_init_31 : decode cX12_init 31 = .ok (.newarray .int, 2) := by decide +kernel
theorem dX12_init_33 : decode cX12_init 33 = .ok (.putfield 19, 3) := by decide +kernel
theorem dX12_init_36 : decode cX12_init 36 = .ok (.aload_n 0, 1) := by decide +kernel
theorem dX12_init_37 : decode cX12_init 37 = .ok (.bipush 10, 2) := by decide +kernel
theorem dX12_init_39 : decode cX12_init 39 = .ok (.newarray .int, 2) := by decide +kernel
theorem dX12_init_41 : decode cX12_init 41 = .ok (.putfield 22, 3) := by decide +kernel
theorem dX12_init_44 : decode cX12_init 44 = .ok (.aload_n 0, 1) := by decide +kernel
theorem dX12_init_45 : decode cX12_init 45 = .ok (.bipush 10, 2) := by decide +kernel
theorem dX12_init_47 : decode cX12_init 47 = .ok (.newarray .int, 2) := by decide +kernel
theorem dX12_init_49 : decode cX12_init 49 = .ok (.putfield 25, 3) := by decide +kernel
theorem dX12_init_52 : decode cX12_init 52 = .ok (.aload_n 0, 1) := by decide +kernel
theorem dX12_init_53 : decode cX12_init 53 = .ok (.bipush 10, 2) := by decide +kernel
theorem dX12_init_55 : decode cX12_init 55 = .ok (.newarray .int, 2) := by decide +kernel
theorem dX12_init_57 : decode cX12_init 57 = .ok (.putfield 28, 3) := by decide +kernel
theorem dX12_init_60 : decode cX12_init 60 = .ok (.aload_n 0, 1) := by decide +kernel
theorem dX12_init_61 : decode cX12_init 61 = .ok (.sipush 2560, 3) := by decide +kernel
theorem dX12_init_64 : decode cX12_init 64 = .ok (.newarray .boolean, 2) := by decide +kernel
theorem dX12_init_66 : decode cX12_init 66 = .ok (.putfield 31, 3) := by decide +kernel
theorem dX12_init_69 : decode cX12_init 69 = .ok (.aload_n 0, 1) := by decide +kernel
theorem dX12_init_70 : decode cX12_init 70 = .ok (.bipush 10, 2) := by decide +kernel
theorem dX12_init_72 : decode cX12_init 72 = .ok (.newarray .int, 2) := by decide +kernel
theorem dX12_init_74 : decode cX12_init 74 = .ok (.putfield 35, 3) := by decide +kernel
theorem dX12_init_77 : decode cX12_init 77 = .ok (.aload_n 0, 1) := by decide +kernel
theorem dX12_init_78 : decode cX12_init 78 = .ok (.bipush 10, 2) := by decide +kernel
theorem dX12_init_80 : decode cX12_init 80 = .ok (.newarray .int, 2) := by decide +kernel
theorem dX12_init_82 : decode cX12_init 82 = .ok (.putfield 38, 3) := by decide +kernel
theorem dX12_init_85 : decode cX12_init 85 = .ok (.aload_n 0, 1) := by decide +kernel
theorem dX12_init_86 : decode cX12_init 86 = .ok (.bipush 10, 2) := by decide +kernel
theorem dX12_init_88 : decode cX12_init 88 = .ok (.newarray .int, 2) := by decide +kernel
theorem dX12_init_90 : decode cX12_init 90 = .ok (.putfield 41, 3) := by decide +kernel
theorem dX12_init_93 : decode cX12_init 93 = .ok (.aload_n 0, 1) := by decide +kernel
theorem dX12_init_94 : decode cX12_init 94 = .ok (.sipush 128, 3) := by decide +kernel
theorem dX12_init_97 : decode cX12_init 97 = .ok (.putfield 44, 3) := by decide +kernel
theorem dX12_init_100 : decode cX12_init 100 = .ok (.aload_n 0, 1) := by decide +kernel
theorem dX12_init_101 : decode cX12_init 101 = .ok (.bipush 10, 2) := by decide +kernel
theorem dX12_init_103 : decode cX12_init 103 = .ok (.newarray .int, 2) := by decide +kernel
theorem dX12_init_105 : decode cX12_init 105 = .ok (.putfield 48, 3) := by decide +kernel
theorem dX12_init_108 : decode cX12_init 108 = .ok (.aload_n 0, 1) := by decide +kernel
theorem dX12_init_109 : decode cX12_init 109 = .ok (.sipush 1024, 3) := by decide +kernel
theorem dX12_init_112 : decode cX12_init 112 = .ok (.newarray .int, 2) := by decide +kernel
theorem dX12_init_114 : decode cX12_init 114 = .ok (.putfield 51, 3) := by decide +kernel
theorem dX12_init_117 : decode cX12_init 117 = .ok (.aload_n 0, 1) := by decide +kernel
theorem dX12_init_118 : decode cX12_init 118 = .ok (.bipush 10, 2) := by decide +kernel
theorem dX12_init_120 : decode cX12_init 120 = .ok (.newarray .int, 2) := by decide +kernel
theorem dX12_init_122 : decode cX12_init 122 = .ok (.putfield 54, 3) := by decide +kernel
theorem dX12_init_125 : decode cX12_init 125 = .ok (.aload_n 0, 1) := by decide +kernel
theorem dX12_init_126 : decode cX12_init 126 = .ok (.bipush 10, 2) := by decide +kernel
theorem dX12_init_128 : decode cX12_init 128 = .ok (.newarray .int, 2) := by decide +kernel
theorem dX12_init_130 : decode cX12_init 130 = .ok (.putfield 57, 3) := by decide +kernel
theorem dX12_init_133 : decode cX12_init 133 = .ok (.aload_n 0, 1) := by decide +kernel
theorem dX12_init_134 : decode cX12_init 134 = .ok (.sipush 256, 3) := by decide +kernel
theorem dX12_init_137 : decode cX12_init 137 = .ok (.newarray .int, 2) := by decide +kernel
theorem dX12_init_139 : decode cX12_init 139 = .ok (.putfield 60, 3) := by decide +kernel
theorem dX12_init_142 : decode cX12_init 142 = .ok (.aload_n 0, 1) := by decide +kernel
theorem dX12_init_143 : decode cX12_init 143 = .ok (.sipush 256, 3) := by decide +kernel
theorem dX12_init_146 : decode cX12_init 146 = .ok (.newarray .int, 2) := by decide +kernel
theorem dX12_init_148 : decode cX12_init 148 = .ok (.putfield 63, 3) := by decide +kernel
theorem dX12_init_151 : decode cX12_init 151 = .ok (.aload_n 0, 1) := by decide +kernel
theorem dX12_init_152 : decode cX12_init 152 = .ok (.bipush 16, 2) := by decide +kernel
theorem dX12_init_154 : decode cX12_init 154 = .ok (.newarray .int, 2) := by decide +kernel
theorem dX12_init_156 : decode cX12_init 156 = .ok (.putfield 66, 3) := by decide +kernel
theorem dX12_init_159 : decode cX12_init 159 = .ok (.aload_n 0, 1) := by decide +kernel
theorem dX12_init_160 : decode cX12_init 160 = .ok (.iconst 4, 1) := by decide +kernel
theorem dX12_init_161 : decode cX12_init 161 = .ok (.newarray .int, 2) := by decide +kernel
theorem dX12_init_163 : decode cX12_init 163 = .ok (.putfield 69, 3) := by decide +kernel
theorem dX12_init_166 : decode cX12_init 166 = .ok (.aload_n 0, 1) := by decide +kernel
theorem dX12_init_167 : decode cX12_init 167 = .ok (.iconst 4, 1) := by decide +kernel
theorem dX12_init_168 : decode cX12_init 168 = .ok (.newarray .int, 2) := by decide +kernel
theorem dX12_init_170 : decode cX12_init 170 = .ok (.putfield 72, 3) := by decide +kernel
theorem dX12_init_173 : decode cX12_init 173 = .ok (.aload_n 0, 1) := by decide +kernel
theorem dX12_init_174 : decode cX12_init 174 = .ok (.sipush 1024, 3) := by decide +kernel
theorem dX12_init_177 : decode cX12_init 177 = .ok (.newarray .int, 2) := by decide +kernel
theorem dX12_init_179 : decode cX12_init 179 = .ok (.putfield 75, 3) := by decide +kernel
theorem dX12_init_182 : decode cX12_init 182 = .ok (.iconst 0, 1) := by decide +kernel
theorem dX12_init_183 : decode cX12_init 183 = .ok (.istore_n 1, 1) := by decide +kernel
theorem dX12_init_184 : decode cX12_init 184 = .ok (.iload_n 1, 1) := by decide +kernel
theorem dX12_init_185 : decode cX12_init 185 = .ok (.iconst 4, 1) := by decide +kernel
theorem dX12_init_186 : decode cX12_init 186 = .ok (.if_icmp .ge 16, 3) := by decide +kernel
theorem dX12_init_189 : decode cX12_init 189 = .ok (.aload_n 0, 1) := by decide +kernel
theorem dX12_init_190 : decode cX12_init 190 = .ok (.getfield 69, 3) := by decide +kernel
theorem dX12_init_193 : decode cX12_init 193 = .ok (.iload_n 1, 1) := by decide +kernel
theorem dX12_init_194 : decode cX12_init 194 = .ok (.iconst (-1), 1) := by decide +kernel
theorem dX12_init_195 : decode cX12_init 195 = .ok (.iastore, 1) := by decide +kernel
theorem dX12_init_196 : decode cX12_init 196 = .ok (.iinc 1 1, 3) := by decide +kernel
theorem dX12_init_199 : decode cX12_init 199 = .ok (.goto (-15), 3) := by decide +kernel
theorem dX12_init_202 : decode cX12_init 202 = .ok (.return_, 1) := by decide +kernel
theorem dX12_size_0 : decode cX12_size 0 = .ok (.iload_n 0, 1) := by decide +kernel
theorem dX12_size_1 : decode cX12_size 1 = .ok (.ifCond .ge 8, 3) := by decide +kernel
theorem dX12_size_4 : decode cX12_size 4 = .ok (.iload_n 0, 1) := by decide +kernel
theorem dX12_size_5 : decode cX12_size 5 = .ok (.ineg, 1) := by decide +kernel
theorem dX12_size_6 : decode cX12_size 6 = .ok (.goto 4, 3) := by decide +kernel
theorem dX12_size_9 : decode cX12_size 9 = .ok (.iload_n 0, 1) := by decide +kernel
theorem dX12_size_10 : decode cX12_size 10 = .ok (.ireturn, 1) := by decide +kernel
theorem dX12_quarterOf_0 : decode cX12_quarterOf 0 = .ok (.iload_n 0, 1) := by decide +kernel
theorem dX12_quarterOf_1 : decode cX12_quarterOf 1 = .ok (.bipush 7, 2) := by decide +kernel
theorem dX12_quarterOf_3 : decode cX12_quarterOf 3 = .ok (.if_icmp .le 17, 3) := by decide +kernel
theorem dX12_quarterOf_6 : decode cX12_quarterOf 6 = .ok (.iload_n 1, 1) := by decide +kernel
theorem dX12_quarterOf_7 : decode cX12_quarterOf 7 = .ok (.bipush 7, 2) := by decide +kernel
theorem dX12_quarterOf_9 : decode cX12_quarterOf 9 = .ok (.if_icmp .le 7, 3) := by decide +kernel
theorem dX12_quarterOf_12 : decode cX12_quarterOf 12 = .ok (.iconst 0, 1) := by decide +kernel
theorem dX12_quarterOf_13 : decode cX12_quarterOf 13 = .ok (.goto 18, 3) := by decide +kernel
theorem dX12_quarterOf_16 : decode cX12_quarterOf 16 = .ok (.iconst 3, 1) := by decide +kernel
theorem dX12_quarterOf_17 : decode cX12_quarterOf 17 = .ok (.goto 14, 3) := by decide +kernel
theorem dX12_quarterOf_20 : decode cX12_quarterOf 20 = .ok (.iload_n 1, 1) := by decide +kernel
theorem dX12_quarterOf_21 : decode cX12_quarterOf 21 = .ok (.bipush 7, 2) := by decide +kernel
theorem dX12_quarterOf_23 : decode cX12_quarterOf 23 = .ok (.if_icmp .le 7, 3) := by decide +kernel
theorem dX12_quarterOf_26 : decode cX12_quarterOf 26 = .ok (.iconst 1, 1) := by decide +kernel
theorem dX12_quarterOf_27 : decode cX12_quarterOf 27 = .ok (.goto 4, 3) := by decide +kernel
theorem dX12_quarterOf_30 : decode cX12_quarterOf 30 = .ok (.iconst 2, 1) := by decide +kernel
theorem dX12_quarterOf_31 : decode cX12_quarterOf 31 = .ok (.ireturn, 1) := by decide +kernel
theorem dX12_turned_0 : decode cX12_turned 0 = .ok (.iload_n 0, 1) := by decide +kernel
theorem dX12_turned_1 : decode cX12_turned 1 = .ok (.bipush 16, 2) := by decide +kernel
theorem dX12_turned_3 : decode cX12_turned 3 = .ok (.irem, 1) := by decide +kernel
theorem dX12_turned_4 : decode cX12_turned 4 = .ok (.istore_n 2, 1) := by decide +kernel
theorem dX12_turned_5 : decode cX12_turned 5 = .ok (.iload_n 0, 1) := by decide +kernel
theorem dX12_turned_6 : decode cX12_turned 6 = .ok (.bipush 16, 2) := by decide +kernel
theorem dX12_turned_8 : decode cX12_turned 8 = .ok (.idiv, 1) := by decide +kernel
theorem dX12_turned_9 : decode cX12_turned 9 = .ok (.istore_n 3, 1) := by decide +kernel
theorem dX12_turned_10 : decode cX12_turned 10 = .ok (.iconst 0, 1) := by decide +kernel
theorem dX12_turned_11 : decode cX12_turned 11 = .ok (.istore 4, 2) := by decide +kernel
theorem dX12_turned_13 : decode cX12_turned 13 = .ok (.iload 4, 2) := by decide +kernel
theorem dX12_turned_15 : decode cX12_turned 15 = .ok (.iload_n 1, 1) := by decide +kernel
theorem dX12_turned_16 : decode cX12_turned 16 = .ok (.if_icmp .ge 20, 3) := by decide +kernel
theorem dX12_turned_19 : decode cX12_turned 19 = .ok (.iload_n 2, 1) := by decide +kernel
theorem dX12_turned_20 : decode cX12_turned 20 = .ok (.istore 5, 2) := by decide +kernel
theorem dX12_turned_22 : decode cX12_turned 22 = .ok (.bipush 15, 2) := by decide +kernel
theorem dX12_turned_24 : decode cX12_turned 24 = .ok (.iload_n 3, 1) := by decide +kernel
theorem dX12_turned_25 : decode cX12_turned 25 = .ok (.isub, 1) := by decide +kernel
theorem dX12_turned_26 : decode cX12_turned 26 = .ok (.istore_n 2, 1) := by decide +kernel
theorem dX12_turned_27 : decode cX12_turned 27 = .ok (.iload 5, 2) := by decide +kernel
theorem dX12_turned_29 : decode cX12_turned 29 = .ok (.istore_n 3, 1) := by decide +kernel
theorem dX12_turned_30 : decode cX12_turned 30 = .ok (.iinc 4 1, 3) := by decide +kernel
theorem dX12_turned_33 : decode cX12_turned 33 = .ok (.goto (-20), 3) := by decide +kernel
theorem dX12_turned_36 : decode cX12_turned 36 = .ok (.bipush 16, 2) := by decide +kernel
theorem dX12_turned_38 : decode cX12_turned 38 = .ok (.iload_n 3, 1) := by decide +kernel
theorem dX12_turned_39 : decode cX12_turned 39 = .ok (.imul, 1) := by decide +kernel
theorem dX12_turned_40 : decode cX12_turned 40 = .ok (.iload_n 2, 1) := by decide +kernel
theorem dX12_turned_41 : decode cX12_turned 41 = .ok (.iadd, 1) := by decide +kernel
theorem dX12_turned_42 : decode cX12_turned 42 = .ok (.ireturn, 1) := by decide +kernel
set_option maxRecDepth 20000 in
theorem ggX12_placeOf_X12_quarterOf : GoodIn wsX12_placeOf wsX12_quarterOf := goodIn_r _ [4] (by decide +kernel) (by decide +kernel)
set_option maxRecDepth 20000 in
theorem gX12_placeOf_X12_quarterOf : GoodIn wsX12_placeOf (va_wsS RX12 78 yX12_quarterOf wsX12_quarterOf) := goodIn_app (goodIn_of _ (by decide +kernel)) ggX12_placeOf_X12_quarterOf
set_option maxRecDepth 20000 in
theorem ggX12_placeOf_X12_turned : GoodIn wsX12_placeOf wsX12_turned := goodIn_r _ [7] (by decide +kernel) (by decide +kernel)
set_option maxRecDepth 20000 in
theorem gX12_placeOf_X12_turned : GoodIn wsX12_placeOf (va_wsS RX12 82 yX12_turned wsX12_turned) := goodIn_app (goodIn_of _ (by decide +kernel)) ggX12_placeOf_X12_turned
theorem dX12_placeOf_0 : decode cX12_placeOf 0 = .ok (.iload_n 0, 1) := by decide +kernel
theorem dX12_placeOf_1 : decode cX12_placeOf 1 = .ok (.iconst 4, 1) := by decide +kernel
theorem dX12_placeOf_2 : decode cX12_placeOf 2 = .ok (.iload_n 0, 1) := by decide +kernel
theorem dX12_placeOf_3 : decode cX12_placeOf 3 = .ok (.bipush 16, 2) := by decide +kernel
theorem dX12_placeOf_5 : decode cX12_placeOf 5 = .ok (.irem, 1) := by decide +kernel
theorem dX12_placeOf_6 : decode cX12_placeOf 6 = .ok (.iload_n 0, 1) := by decide +kernel
theorem dX12_placeOf_7 : decode cX12_placeOf 7 = .ok (.bipush 16, 2) := by decide +kernel
theorem dX12_placeOf_9 : decode cX12_placeOf 9 = .ok (.idiv, 1) := by decide +kernel
theorem dX12_placeOf_10 : decode cX12_placeOf 10 = .ok (.invokestatic 78, 3) := by decide +kernel
theorem dX12_placeOf_13 : decode cX12_placeOf 13 = .ok (.isub, 1) := by decide +kernel
theorem dX12_placeOf_14 : decode cX12_placeOf 14 = .ok (.iconst 4, 1) := by decide +kernel
theorem dX12_placeOf_15 : decode cX12_placeOf 15 = .ok (.irem, 1) := by decide +kernel
theorem dX12_placeOf_16 : decode cX12_placeOf 16 = .ok (.invokestatic 82, 3) := by decide +kernel
theorem dX12_placeOf_19 : decode cX12_placeOf 19 = .ok (.ireturn, 1) := by decide +kernel
set_option maxRecDepth 20000 in
theorem ggX12_rimOf_X12_size : GoodIn wsX12_rimOf wsX12_size := goodIn_r _ [4] (by decide +kernel) (by decide +kernel)
set_option maxRecDepth 20000 in
theorem gX12_rimOf_X12_size : GoodIn wsX12_rimOf (va_wsS RX12 85 yX12_size wsX12_size) := goodIn_app (goodIn_of _ (by decide +kernel)) ggX12_rimOf_X12_size
theorem dX12_rimOf_0 : decode cX12_rimOf 0 = .ok (.iconst 2, 1) := by decide +kernel
theorem dX12_rimOf_1 : decode cX12_rimOf 1 = .ok (.iload_n 0, 1) := by decide +kernel
theorem dX12_rimOf_2 : decode cX12_rimOf 2 = .ok (.bipush 16, 2) := by decide +kernel
theorem dX12_rimOf_4 : decode cX12_rimOf 4 = .ok (.irem, 1) := by decide +kernel
theorem dX12_rimOf_5 : decode cX12_rimOf 5 = .ok (.imul, 1) := by decide +kernel
theorem dX12_rimOf_6 : decode cX12_rimOf 6 = .ok (.bipush 15, 2) := by decide +kernel
theorem dX12_rimOf_8 : decode cX12_rimOf 8 = .ok (.isub, 1) := by decide +kernel
theorem dX12_rimOf_9 : decode cX12_rimOf 9 = .ok (.invokestatic 85, 3) := by decide +kernel
theorem dX12_rimOf_12 : decode cX12_rimOf 12 = .ok (.istore_n 1, 1) := by decide +kernel
theorem dX12_rimOf_13 : decode cX12_rimOf 13 = .ok (.iconst 2, 1) := by decide +kernel
theorem dX12_rimOf_14 : decode cX12_rimOf 14 = .ok (.iload_n 0, 1) := by decide +kernel
theorem dX12_rimOf_15 : decode cX12_rimOf 15 = .ok (.bipush 16, 2) := by decide +kernel
theorem dX12_rimOf_17 : decode cX12_rimOf 17 = .ok (.idiv, 1) := by decide +kernel
theorem dX12_rimOf_18 : decode cX12_rimOf 18 = .ok (.imul, 1) := by decide +kernel
theorem dX12_rimOf_19 : decode cX12_rimOf 19 = .ok (.bipush 15, 2) := by decide +kernel
theorem dX12_rimOf_21 : decode cX12_rimOf 21 = .ok (.isub, 1) := by decide +kernel
theorem dX12_rimOf_22 : decode cX12_rimOf 22 = .ok (.invokestatic 85, 3) := by decide +kernel
theorem dX12_rimOf_25 : decode cX12_rimOf 25 = .ok (.istore_n 2, 1) := by decide +kernel
theorem dX12_rimOf_26 : decode cX12_rimOf 26 = .ok (.iload_n 1, 1) := by decide +kernel
theorem dX12_rimOf_27 : decode cX12_rimOf 27 = .ok (.iload_n 2, 1) := by decide +kernel
theorem dX12_rimOf_28 : decode cX12_rimOf 28 = .ok (.if_icmp .le 7, 3) := by decide +kernel
theorem dX12_rimOf_31 : decode cX12_rimOf 31 = .ok (.iload_n 1, 1) := by decide +kernel
theorem dX12_rimOf_32 : decode cX12_rimOf 32 = .ok (.goto 4, 3) := by decide +kernel
theorem dX12_rimOf_35 : decode cX12_rimOf 35 = .ok (.iload_n 2, 1) := by decide +kernel
theorem dX12_rimOf_36 : decode cX12_rimOf 36 = .ok (.iconst 1, 1) := by decide +kernel
theorem dX12_rimOf_37 : decode cX12_rimOf 37 = .ok (.isub, 1) := by decide +kernel
theorem dX12_rimOf_38 : decode cX12_rimOf 38 = .ok (.iconst 2, 1) := by decide +kernel
theorem dX12_rimOf_39 : decode cX12_rimOf 39 = .ok (.idiv, 1) := by decide +kernel
theorem dX12_rimOf_40 : decode cX12_rimOf 40 = .ok (.ireturn, 1) := by decide +kernel
set_option maxRecDepth 20000 in
theorem ggX12_isBetween_X12_in : GoodIn wsX12_isBetween wsX12_in := goodIn_r _ [4] (by decide +kernel) (by decide +kernel)
set_option maxRecDepth 20000 in
theorem gX12_isBetween_X12_in : GoodIn wsX12_isBetween (va_wsS RX12 89 yX12_in wsX12_in) := goodIn_app (goodIn_of _ (by decide +kernel)) ggX12_isBetween_X12_in
theorem dX12_isBetween_0 : decode cX12_isBetween 0 = .ok (.iload_n 1, 1) := by decide +kernel
theorem dX12_isBetween_1 : decode cX12_isBetween 1 = .ok (.iload_n 2, 1) := by decide +kernel
theorem dX12_isBetween_2 : decode cX12_isBetween 2 = .ok (.if_icmp .gt 15, 3) := by decide +kernel
theorem dX12_isBetween_5 : decode cX12_isBetween 5 = .ok (.iload_n 0, 1) := by decide +kernel
theorem dX12_isBetween_6 : decode cX12_isBetween 6 = .ok (.i2l, 1) := by decide +kernel
theorem dX12_isBetween_7 : decode cX12_isBetween 7 = .ok (.iload_n 1, 1) := by decide +kernel
theorem dX12_isBetween_8 : decode cX12_isBetween 8 = .ok (.i2l, 1) := by decide +kernel
theorem dX12_isBetween_9 : decode cX12_isBetween 9 = .ok (.iload_n 2, 1) := by decide +kernel
theorem dX12_isBetween_10 : decode cX12_isBetween 10 = .ok (.i2l, 1) := by decide +kernel
theorem dX12_isBetween_11 : decode cX12_isBetween 11 = .ok (.invokestatic 89, 3) := by decide +kernel
theorem dX12_isBetween_14 : decode cX12_isBetween 14 = .ok (.goto 12, 3) := by decide +kernel
theorem dX12_isBetween_17 : decode cX12_isBetween 17 = .ok (.iload_n 0, 1) := by decide +kernel
theorem dX12_isBetween_18 : decode cX12_isBetween 18 = .ok (.i2l, 1) := by decide +kernel
theorem dX12_isBetween_19 : decode cX12_isBetween 19 = .ok (.iload_n 2, 1) := by decide +kernel
theorem dX12_isBetween_20 : decode cX12_isBetween 20 = .ok (.i2l, 1) := by decide +kernel
theorem dX12_isBetween_21 : decode cX12_isBetween 21 = .ok (.iload_n 1, 1) := by decide +kernel
theorem dX12_isBetween_22 : decode cX12_isBetween 22 = .ok (.i2l, 1) := by decide +kernel
theorem dX12_isBetween_23 : decode cX12_isBetween 23 = .ok (.invokestatic 89, 3) := by decide +kernel
theorem dX12_isBetween_26 : decode cX12_isBetween 26 = .ok (.ireturn, 1) := by decide +kernel
set_option maxRecDepth 20000 in
theorem ggX12_isOf_X12_rimOf : GoodIn wsX12_isOf wsX12_rimOf := goodIn_r _ [9, 10, 11, 8, 12] (by decide +kernel) (by decide +kernel)
set_option maxRecDepth 20000 in
theorem gX12_isOf_X12_rimOf : GoodIn wsX12_isOf (va_wsS RX12 93 yX12_rimOf wsX12_rimOf) := goodIn_app (goodIn_of _ (by decide +kernel)) ggX12_isOf_X12_rimOf
set_option maxRecDepth 20000 in
theorem ggX12_isOf_X12_placeOf : GoodIn wsX12_isOf wsX12_placeOf := goodIn_r _ [15, 16, 17, 8, 18, 19, 20, 21] (by decide +kernel) (by decide +kernel)
set_option maxRecDepth 20000 in
theorem gX12_isOf_X12_placeOf : GoodIn wsX12_isOf (va_wsS RX12 96 yX12_placeOf wsX12_placeOf) := goodIn_app (goodIn_of _ (by decide +kernel)) ggX12_isOf_X12_placeOf
set_option maxRecDepth 20000 in
theorem ggX12_isOf_X12_isBetween : GoodIn wsX12_isOf wsX12_isBetween := goodIn_r _ [24, 25, 26, 8, 27] (by decide +kernel) (by decide +kernel)
set_option maxRecDepth 20000 in
theorem gX12_isOf_X12_isBetween : GoodIn wsX12_isOf (va_wsS RX12 99 yX12_isBetween wsX12_isBetween) := goodIn_app (goodIn_of _ (by decide +kernel)) ggX12_isOf_X12_isBetween
set_option maxRecDepth 20000 in
theorem ggX12_isOf_X12_size : GoodIn wsX12_isOf wsX12_size := goodIn_r _ [12] (by decide +kernel) (by decide +kernel)
set_option maxRecDepth 20000 in
theorem gX12_isOf_X12_size : GoodIn wsX12_isOf (va_wsS RX12 85 yX12_size wsX12_size) := goodIn_app (goodIn_of _ (by decide +kernel)) ggX12_isOf_X12_size
theorem dX12_isOf_0 : decode cX12_isOf 0 = .ok (.iconst 2, 1) := by decide +kernel
theorem dX12_isOf_1 : decode cX12_isOf 1 = .ok (.iload_n 2, 1) := by decide +kernel
theorem dX12_isOf_2 : decode cX12_isOf 2 = .ok (.bipush 16, 2) := by decide +kernel
theorem dX12_isOf_4 : decode cX12_isOf 4 = .ok (.irem, 1) := by decide +kernel
theorem dX12_isOf_5 : decode cX12_isOf 5 = .ok (.imul, 1) := by decide +kernel
theorem dX12_isOf_6 : decode cX12_isOf 6 = .ok (.bipush 15, 2) := by decide +kernel
theorem dX12_isOf_8 : decode cX12_isOf 8 = .ok (.isub, 1) := by decide +kernel
theorem dX12_isOf_9 : decode cX12_isOf 9 = .ok (.istore_n 3, 1) := by decide +kernel
theorem dX12_isOf_10 : decode cX12_isOf 10 = .ok (.iconst 2, 1) := by decide +kernel
theorem dX12_isOf_11 : decode cX12_isOf 11 = .ok (.iload_n 2, 1) := by decide +kernel
theorem dX12_isOf_12 : decode cX12_isOf 12 = .ok (.bipush 16, 2) := by decide +kernel
theorem dX12_isOf_14 : decode cX12_isOf 14 = .ok (.idiv, 1) := by decide +kernel
theorem dX12_isOf_15 : decode cX12_isOf 15 = .ok (.imul, 1) := by decide +kernel
theorem dX12_isOf_16 : decode cX12_isOf 16 = .ok (.bipush 15, 2) := by decide +kernel
theorem dX12_isOf_18 : decode cX12_isOf 18 = .ok (.isub, 1) := by decide +kernel
theorem dX12_isOf_19 : decode cX12_isOf 19 = .ok (.istore 4, 2) := by decide +kernel
theorem dX12_isOf_21 : decode cX12_isOf 21 = .ok (.aload_n 0, 1) := by decide +kernel
theorem dX12_isOf_22 : decode cX12_isOf 22 = .ok (.getfield 7, 3) := by decide +kernel
theorem dX12_isOf_25 : decode cX12_isOf 25 = .ok (.iload_n 1, 1) := by decide +kernel
theorem dX12_isOf_26 : decode cX12_isOf 26 = .ok (.iaload, 1) := by decide +kernel
theorem dX12_isOf_27 : decode cX12_isOf 27 = .ok (.ifCond .ne 27, 3) := by decide +kernel
theorem dX12_isOf_30 : decode cX12_isOf 30 = .ok (.iload_n 3, 1) := by decide +kernel
theorem dX12_isOf_31 : decode cX12_isOf 31 = .ok (.iload_n 3, 1) := by decide +kernel
theorem dX12_isOf_32 : decode cX12_isOf 32 = .ok (.imul, 1) := by decide +kernel
theorem dX12_isOf_33 : decode cX12_isOf 33 = .ok (.iload 4, 2) := by decide +kernel
theorem dX12_isOf_35 : decode cX12_isOf 35 = .ok (.iload 4, 2) := by decide +kernel
theorem dX12_isOf_37 : decode cX12_isOf 37 = .ok (.imul, 1) := by decide +kernel
theorem dX12_isOf_38 : decode cX12_isOf 38 = .ok (.iadd, 1) := by decide +kernel
theorem dX12_isOf_39 : decode cX12_isOf 39 = .ok (.aload_n 0, 1) := by decide +kernel
theorem dX12_isOf_40 : decode cX12_isOf 40 = .ok (.getfield 16, 3) := by decide +kernel
theorem dX12_isOf_43 : decode cX12_isOf 43 = .ok (.iload_n 1, 1) := by decide +kernel
theorem dX12_isOf_44 : decode cX12_isOf 44 = .ok (.iaload, 1) := by decide +kernel
theorem dX12_isOf_45 : decode cX12_isOf 45 = .ok (.if_icmp .gt 7, 3) := by decide +kernel
theorem dX12_isOf_48 : decode cX12_isOf 48 = .ok (.iconst 1, 1) := by decide +kernel
theorem dX12_isOf_49 : decode cX12_isOf 49 = .ok (.goto 4, 3) := by decide +kernel
theorem dX12_isOf_52 : decode cX12_isOf 52 = .ok (.iconst 0, 1) := by decide +kernel
theorem dX12_isOf_53 : decode cX12_isOf 53 = .ok (.ireturn, 1) := by decide +kernel
theorem dX12_isOf_54 : decode cX12_isOf 54 = .ok (.aload_n 0, 1) := by decide +kernel
theorem dX12_isOf_55 : decode cX12_isOf 55 = .ok (.getfield 7, 3) := by decide +kernel
theorem dX12_isOf_58 : decode cX12_isOf 58 = .ok (.iload_n 1, 1) := by decide +kernel
theorem dX12_isOf_59 : decode cX12_isOf 59 = .ok (.iaload, 1) := by decide +kernel
theorem dX12_isOf_60 : decode cX12_isOf 60 = .ok (.iconst 1, 1) := by decide +kernel
theorem dX12_isOf_61 : decode cX12_isOf 61 = .ok (.if_icmp .ne 22, 3) := by decide +kernel
theorem dX12_isOf_64 : decode cX12_isOf 64 = .ok (.iload_n 2, 1) := by decide +kernel
theorem dX12_isOf_65 : decode cX12_isOf 65 = .ok (.invokestatic 93, 3) := by decide +kernel
theorem dX12_isOf_68 : decode cX12_isOf 68 = .ok (.aload_n 0, 1) := by decide +kernel
theorem dX12_isOf_69 : decode cX12_isOf 69 = .ok (.getfield 16, 3) := by decide +kernel
theorem dX12_isOf_72 : decode cX12_isOf 72 = .ok (.iload_n 1, 1) := by decide +kernel
theorem dX12_isOf_73 : decode cX12_isOf 73 = .ok (.iaload, 1) := by decide +kernel
theorem dX12_isOf_74 : decode cX12_isOf 74 = .ok (.if_icmp .ne 7, 3) := by decide +kernel
theorem dX12_isOf_77 : decode cX12_isOf 77 = .ok (.iconst 1, 1) := by decide +kernel
theorem dX12_isOf_78 : decode cX12_isOf 78 = .ok (.goto 4, 3) := by decide +kernel
theorem dX12_isOf_81 : decode cX12_isOf 81 = .ok (.iconst 0, 1) := by decide +kernel
theorem dX12_isOf_82 : decode cX12_isOf 82 = .ok (.ireturn, 1) := by decide +kernel
theorem dX12_isOf_83 : decode cX12_isOf 83 = .ok (.iload_n 2, 1) := by decide +kernel
theorem dX12_isOf_84 : decode cX12_isOf 84 = .ok (.invokestatic 96, 3) := by decide +kernel
theorem dX12_isOf_87 : decode cX12_isOf 87 = .ok (.istore 5, 2) := by decide +kernel
theorem dX12_isOf_89 : decode cX12_isOf 89 = .ok (.iload 5, 2) := by decide +kernel
theorem dX12_isOf_91 : decode cX12_isOf 91 = .ok (.bipush 16, 2) := by decide +kernel
theorem dX12_isOf_93 : decode cX12_isOf 93 = .ok (.irem, 1) := by decide +kernel
theorem dX12_isOf_94 : decode cX12_isOf 94 = .ok (.bipush 8, 2) := by decide +kernel
theorem dX12_isOf_96 : decode cX12_isOf 96 = .ok (.isub, 1) := by decide +kernel
theorem dX12_isOf_97 : decode cX12_isOf 97 = .ok (.istore 6, 2) := by decide +kernel
theorem dX12_isOf_99 : decode cX12_isOf 99 = .ok (.iload 5, 2) := by decide +kernel
theorem dX12_isOf_101 : decode cX12_isOf 101 = .ok (.bipush 16, 2) := by decide +kernel
theorem dX12_isOf_103 : decode cX12_isOf 103 = .ok (.idiv, 1) := by decide +kernel
theorem dX12_isOf_104 : decode cX12_isOf 104 = .ok (.bipush 8, 2) := by decide +kernel
theorem dX12_isOf_106 : decode cX12_isOf 106 = .ok (.isub, 1) := by decide +kernel
theorem dX12_isOf_107 : decode cX12_isOf 107 = .ok (.istore 7, 2) := by decide +kernel
theorem dX12_isOf_109 : decode cX12_isOf 109 = .ok (.iload 6, 2) := by decide +kernel
theorem dX12_isOf_111 : decode cX12_isOf 111 = .ok (.aload_n 0, 1) := by decide +kernel
theorem dX12_isOf_112 : decode cX12_isOf 112 = .ok (.getfield 16, 3) := by decide +kernel
theorem dX12_isOf_115 : decode cX12_isOf 115 = .ok (.iload_n 1, 1) := by decide +kernel
theorem dX12_isOf_116 : decode cX12_isOf 116 = .ok (.iaload, 1) := by decide +kernel
theorem dX12_isOf_117 : decode cX12_isOf 117 = .ok (.aload_n 0, 1) := by decide +kernel
theorem dX12_isOf_118 : decode cX12_isOf 118 = .ok (.getfield 22, 3) := by decide +kernel
theorem dX12_isOf_121 : decode cX12_isOf 121 = .ok (.iload_n 1, 1) := by decide +kernel
theorem dX12_isOf_122 : decode cX12_isOf 122 = .ok (.iaload, 1) := by decide +kernel
theorem dX12_isOf_123 : decode cX12_isOf 123 = .ok (.invokestatic 99, 3) := by decide +kernel
theorem dX12_isOf_126 : decode cX12_isOf 126 = .ok (.ifCond .eq 27, 3) := by decide +kernel
theorem dX12_isOf_129 : decode cX12_isOf 129 = .ok (.iload 7, 2) := by decide +kernel
theorem dX12_isOf_131 : decode cX12_isOf 131 = .ok (.aload_n 0, 1) := by decide +kernel
theorem dX12_isOf_132 : decode cX12_isOf 132 = .ok (.getfield 19, 3) := by decide +kernel
theorem dX12_isOf_135 : decode cX12_isOf 135 = .ok (.iload_n 1, 1) := by decide +kernel
theorem dX12_isOf_136 : decode cX12_isOf 136 = .ok (.iaload, 1) := by decide +kernel
theorem dX12_isOf_137 : decode cX12_isOf 137 = .ok (.aload_n 0, 1) := by decide +kernel
theorem dX12_isOf_138 : decode cX12_isOf 138 = .ok (.getfield 25, 3) := by decide +kernel
theorem dX12_isOf_141 : decode cX12_isOf 141 = .ok (.iload_n 1, 1) := by decide +kernel
theorem dX12_isOf_142 : decode cX12_isOf 142 = .ok (.iaload, 1) := by decide +kernel
theorem dX12_isOf_143 : decode cX12_isOf 143 = .ok (.invokestatic 99, 3) := by decide +kernel
theorem dX12_isOf_146 : decode cX12_isOf 146 = .ok (.ifCond .eq 7, 3) := by decide +kernel
theorem dX12_isOf_149 : decode cX12_isOf 149 = .ok (.iconst 1, 1) := by decide +kernel
theorem dX12_isOf_150 : decode cX12_isOf 150 = .ok (.goto 4, 3) := by decide +kernel
theorem dX12_isOf_153 : decode cX12_isOf 153 = .ok (.iconst 0, 1) := by decide +kernel
theorem dX12_isOf_154 : decode cX12_isOf 154 = .ok (.istore 8, 2) := by decide +kernel
theorem dX12_isOf_156 : decode cX12_isOf 156 = .ok (.aload_n 0, 1) := by decide +kernel
theorem dX12_isOf_157 : decode cX12_isOf 157 = .ok (.getfield 7, 3) := by decide +kernel
theorem dX12_isOf_160 : decode cX12_isOf 160 = .ok (.iload_n 1, 1) := by decide +kernel
theorem dX12_isOf_161 : decode cX12_isOf 161 = .ok (.iaload, 1) := by decide +kernel
theorem dX12_isOf_162 : decode cX12_isOf 162 = .ok (.iconst 2, 1) := by decide +kernel
theorem dX12_isOf_163 : decode cX12_isOf 163 = .ok (.if_icmp .ne 8, 3) := by decide +kernel
theorem dX12_isOf_166 : decode cX12_isOf 166 = .ok (.iload 8, 2) := by decide +kernel
theorem dX12_isOf_168 : decode cX12_isOf 168 = .ok (.ifCond .ne 6, 3) := by decide +kernel
theorem dX12_isOf_171 : decode cX12_isOf 171 = .ok (.iload 8, 2) := by decide +kernel
theorem dX12_isOf_173 : decode cX12_isOf 173 = .ok (.ireturn, 1) := by decide +kernel
theorem dX12_isOf_174 : decode cX12_isOf 174 = .ok (.aload_n 0, 1) := by decide +kernel
theorem dX12_isOf_175 : decode cX12_isOf 175 = .ok (.getfield 22, 3) := by decide +kernel
theorem dX12_isOf_178 : decode cX12_isOf 178 = .ok (.iload_n 1, 1) := by decide +kernel
theorem dX12_isOf_179 : decode cX12_isOf 179 = .ok (.iaload, 1) := by decide +kernel
theorem dX12_isOf_180 : decode cX12_isOf 180 = .ok (.aload_n 0, 1) := by decide +kernel
theorem dX12_isOf_181 : decode cX12_isOf 181 = .ok (.getfield 16, 3) := by decide +kernel
theorem dX12_isOf_184 : decode cX12_isOf 184 = .ok (.iload_n 1, 1) := by decide +kernel
theorem dX12_isOf_185 : decode cX12_isOf 185 = .ok (.iaload, 1) := by decide +kernel
theorem dX12_isOf_186 : decode cX12_isOf 186 = .ok (.isub, 1) := by decide +kernel
theorem dX12_isOf_187 : decode cX12_isOf 187 = .ok (.invokestatic 85, 3) := by decide +kernel
theorem dX12_isOf_190 : decode cX12_isOf 190 = .ok (.istore 9, 2) := by decide +kernel
theorem dX12_isOf_192 : decode cX12_isOf 192 = .ok (.aload_n 0, 1) := by decide +kernel
theorem dX12_isOf_193 : decode cX12_isOf 193 = .ok (.getfield 25, 3) := by decide +kernel
theorem dX12_isOf_196 : decode cX12_isOf 196 = .ok (.iload_n 1, 1) := by decide +kernel
theorem dX12_isOf_197 : decode cX12_isOf 197 = .ok (.iaload, 1) := by decide +kernel
theorem dX12_isOf_198 : decode cX12_isOf 198 = .ok (.aload_n 0, 1) := by decide +kernel
theorem dX12_isOf_199 : decode cX12_isOf 199 = .ok (.getfield 19, 3) := by decide +kernel
theorem dX12_isOf_202 : decode cX12_isOf 202 = .ok (.iload_n 1, 1) := by decide +kernel
theorem dX12_isOf_203 : decode cX12_isOf 203 = .ok (.iaload, 1) := by decide +kernel
theorem dX12_isOf_204 : decode cX12_isOf 204 = .ok (.isub, 1) := by decide +kernel
theorem dX12_isOf_205 : decode cX12_isOf 205 = .ok (.invokestatic 85, 3) := by decide +kernel
theorem dX12_isOf_208 : decode cX12_isOf 208 = .ok (.istore 10, 2) := by decide +kernel
theorem dX12_isOf_210 : decode cX12_isOf 210 = .ok (.iload 6, 2) := by decide +kernel
theorem dX12_isOf_212 : decode cX12_isOf 212 = .ok (.aload_n 0, 1) := by decide +kernel
theorem dX12_isOf_213 : decode cX12_isOf 213 = .ok (.getfield 16, 3) := by decide +kernel
theorem dX12_isOf_216 : decode cX12_isOf 216 = .ok (.iload_n 1, 1) := by decide +kernel
theorem dX12_isOf_217 : decode cX12_isOf 217 = .ok (.iaload, 1) := by decide +kernel
theorem dX12_isOf_218 : decode cX12_isOf 218 = .ok (.isub, 1) := by decide +kernel
theorem dX12_isOf_219 : decode cX12_isOf 219 = .ok (.aload_n 0, 1) := by decide +kernel
theorem dX12_isOf_220 : decode cX12_isOf 220 = .ok (.getfield 25, 3) := by decide +kernel
theorem dX12_isOf_223 : decode cX12_isOf 223 = .ok (.iload_n 1, 1) := by decide +kernel
theorem dX12_isOf_224 : decode cX12_isOf 224 = .ok (.iaload, 1) := by decide +kernel
theorem dX12_isOf_225 : decode cX12_isOf 225 = .ok (.aload_n 0, 1) := by decide +kernel
theorem dX12_isOf_226 : decode cX12_isOf 226 = .ok (.getfield 19, 3) := by decide +kernel
theorem dX12_isOf_229 : decode cX12_isOf 229 = .ok (.iload_n 1, 1) := by decide +kernel
theorem dX12_isOf_230 : decode cX12_isOf 230 = .ok (.iaload, 1) := by decide +kernel
theorem dX12_isOf_231 : decode cX12_isOf 231 = .ok (.isub, 1) := by decide +kernel
theorem dX12_isOf_232 : decode cX12_isOf 232 = .ok (.imul, 1) := by decide +kernel
theorem dX12_isOf_233 : decode cX12_isOf 233 = .ok (.iload 7, 2) := by decide +kernel
theorem dX12_isOf_235 : decode cX12_isOf 235 = .ok (.aload_n 0, 1) := by decide +kernel
theorem dX12_isOf_236 : decode cX12_isOf 236 = .ok (.getfield 19, 3) := by decide +kernel
theorem dX12_isOf_239 : decode cX12_isOf 239 = .ok (.iload_n 1, 1) := by decide +kernel
theorem dX12_isOf_240 : decode cX12_isOf 240 = .ok (.iaload, 1) := by decide +kernel
theorem dX12_isOf_241 : decode cX12_isOf 241 = .ok (.isub, 1) := by decide +kernel
theorem dX12_isOf_242 : decode cX12_isOf 242 = .ok (.aload_n 0, 1) := by decide +kernel
theorem dX12_isOf_243 : decode cX12_isOf 243 = .ok (.getfield 22, 3) := by decide +kernel
theorem dX12_isOf_246 : decode cX12_isOf 246 = .ok (.iload_n 1, 1) := by decide +kernel
theorem dX12_isOf_247 : decode cX12_isOf 247 = .ok (.iaload, 1) := by decide +kernel
theorem dX12_isOf_248 : decode cX12_isOf 248 = .ok (.aload_n 0, 1) := by decide +kernel
theorem dX12_isOf_249 : decode cX12_isOf 249 = .ok (.getfield 16, 3) := by decide +kernel
theorem dX12_isOf_252 : decode cX12_isOf 252 = .ok (.iload_n 1, 1) := by decide +kernel
theorem dX12_isOf_253 : decode cX12_isOf 253 = .ok (.iaload, 1) := by decide +kernel
theorem dX12_isOf_254 : decode cX12_isOf 254 = .ok (.isub, 1) := by decide +kernel
theorem dX12_isOf_255 : decode cX12_isOf 255 = .ok (.imul, 1) := by decide +kernel
theorem dX12_isOf_256 : decode cX12_isOf 256 = .ok (.isub, 1) := by decide +kernel
theorem dX12_isOf_257 : decode cX12_isOf 257 = .ok (.istore 11, 2) := by decide +kernel
theorem dX12_isOf_259 : decode cX12_isOf 259 = .ok (.iconst 2, 1) := by decide +kernel
theorem dX12_isOf_260 : decode cX12_isOf 260 = .ok (.iload 11, 2) := by decide +kernel
theorem dX12_isOf_262 : decode cX12_isOf 262 = .ok (.invokestatic 85, 3) := by decide +kernel
theorem dX12_isOf_265 : decode cX12_isOf 265 = .ok (.imul, 1) := by decide +kernel
theorem dX12_isOf_266 : decode cX12_isOf 266 = .ok (.iload 9, 2) := by decide +kernel
theorem dX12_isOf_268 : decode cX12_isOf 268 = .ok (.iload 10, 2) := by decide +kernel
theorem dX12_isOf_270 : decode cX12_isOf 270 = .ok (.if_icmp .le 8, 3) := by decide +kernel
theorem dX12_isOf_273 : decode cX12_isOf 273 = .ok (.iload 9, 2) := by decide +kernel
theorem dX12_isOf_275 : decode cX12_isOf 275 = .ok (.goto 5, 3) := by decide +kernel
theorem dX12_isOf_278 : decode cX12_isOf 278 = .ok (.iload 10, 2) := by decide +kernel
theorem dX12_isOf_280 : decode cX12_isOf 280 = .ok (.if_icmp .gt 7, 3) := by decide +kernel
theorem dX12_isOf_283 : decode cX12_isOf 283 = .ok (.iconst 1, 1) := by decide +kernel
theorem dX12_isOf_284 : decode cX12_isOf 284 = .ok (.goto 4, 3) := by decide +kernel
theorem dX12_isOf_287 : decode cX12_isOf 287 = .ok (.iconst 0, 1) := by decide +kernel
theorem dX12_isOf_288 : decode cX12_isOf 288 = .ok (.ireturn, 1) := by decide +kernel
set_option maxRecDepth 20000 in
theorem ggX12_add_X12_isOf : GoodIn wsX12_add wsX12_isOf := goodIn_r _ [18, 2, 4, 6, 5, 7, 19, 20, 17, 21, 22, 23, 24, 25, 26, 27, 28, 29, 30, 31, 32, 33, 34, 35, 36, 37, 38, 39, 40, 41, 42, 43, 44, 45, 46, 47, 48, 49, 50, 51, 52, 53, 54, 55, 56, 57, 58, 59, 60, 61, 62, 63, 64, 65, 66] (by decide +kernel) (by decide +kernel)
set_option maxRecDepth 20000 in
theorem gX12_add_X12_isOf : GoodIn wsX12_add (wsV RX12 106 RX12 yX12_isOf wsX12_isOf) := goodIn_app (goodIn_of _ (by decide +kernel)) ggX12_add_X12_isOf
set_option maxRecDepth 20000 in
theorem ggX12_add_X12_rimOf : GoodIn wsX12_add wsX12_rimOf := goodIn_r _ [21, 22, 23, 17, 24] (by decide +kernel) (by decide +kernel)
set_option maxRecDepth 20000 in
theorem gX12_add_X12_rimOf : GoodIn wsX12_add (va_wsS RX12 93 yX12_rimOf wsX12_rimOf) := goodIn_app (goodIn_of _ (by decide +kernel)) ggX12_add_X12_rimOf
theorem dX12_add_0 : decode cX12_add 0 = .ok (.aload_n 0, 1) := by decide +kernel
theorem dX12_add_1 : decode cX12_add 1 = .ok (.getfield 103, 3) := by decide +kernel
theorem dX12_add_4 : decode cX12_add 4 = .ok (.bipush 10, 2) := by decide +kernel
theorem dX12_add_6 : decode cX12_add 6 = .ok (.if_icmp .ne 6, 3) := by decide +kernel
theorem dX12_add_9 : decode cX12_add 9 = .ok (.bipush (-3), 2) := by decide +kernel
theorem dX12_add_11 : decode cX12_add 11 = .ok (.ireturn, 1) := by decide +kernel
theorem dX12_add_12 : decode cX12_add 12 = .ok (.aload_n 0, 1) := by decide +kernel
theorem dX12_add_13 : decode cX12_add 13 = .ok (.getfield 103, 3) := by decide +kernel
theorem dX12_add_16 : decode cX12_add 16 = .ok (.istore 8, 2) := by decide +kernel
theorem dX12_add_18 : decode cX12_add 18 = .ok (.aload_n 0, 1) := by decide +kernel
theorem dX12_add_19 : decode cX12_add 19 = .ok (.getfield 7, 3) := by decide +kernel
theorem dX12_add_22 : decode cX12_add 22 = .ok (.iload 8, 2) := by decide +kernel
theorem dX12_add_24 : decode cX12_add 24 = .ok (.iload_n 1, 1) := by decide +kernel
theorem dX12_add_25 : decode cX12_add 25 = .ok (.iastore, 1) := by decide +kernel
theorem dX12_add_26 : decode cX12_add 26 = .ok (.aload_n 0, 1) := by decide +kernel
theorem dX12_add_27 : decode cX12_add 27 = .ok (.getfield 13, 3) := by decide +kernel
theorem dX12_add_30 : decode cX12_add 30 = .ok (.iload 8, 2) := by decide +kernel
theorem dX12_add_32 : decode cX12_add 32 = .ok (.iload_n 2, 1) := by decide +kernel
theorem dX12_add_33 : decode cX12_add 33 = .ok (.iastore, 1) := by decide +kernel
theorem dX12_add_34 : decode cX12_add 34 = .ok (.aload_n 0, 1) := by decide +kernel
theorem dX12_add_35 : decode cX12_add 35 = .ok (.getfield 16, 3) := by decide +kernel
theorem dX12_add_38 : decode cX12_add 38 = .ok (.iload 8, 2) := by decide +kernel
theorem dX12_add_40 : decode cX12_add 40 = .ok (.iload_n 3, 1) := by decide +kernel
theorem dX12_add_41 : decode cX12_add 41 = .ok (.iastore, 1) := by decide +kernel
theorem dX12_add_42 : decode cX12_add 42 = .ok (.aload_n 0, 1) := by decide +kernel
theorem dX12_add_43 : decode cX12_add 43 = .ok (.getfield 19, 3) := by decide +kernel
theorem dX12_add_46 : decode cX12_add 46 = .ok (.iload 8, 2) := by decide +kernel
theorem dX12_add_48 : decode cX12_add 48 = .ok (.iload 4, 2) := by decide +kernel
theorem dX12_add_50 : decode cX12_add 50 = .ok (.iastore, 1) := by decide +kernel
theorem dX12_add_51 : decode cX12_add 51 = .ok (.aload_n 0, 1) := by decide +kernel
theorem dX12_add_52 : decode cX12_add 52 = .ok (.getfield 22, 3) := by decide +kernel
theorem dX12_add_55 : decode cX12_add 55 = .ok (.iload 8, 2) := by decide +kernel
theorem dX12_add_57 : decode cX12_add 57 = .ok (.iload 5, 2) := by decide +kernel
theorem dX12_add_59 : decode cX12_add 59 = .ok (.iastore, 1) := by decide +kernel
theorem dX12_add_60 : decode cX12_add 60 = .ok (.aload_n 0, 1) := by decide +kernel
theorem dX12_add_61 : decode cX12_add 61 = .ok (.getfield 25, 3) := by decide +kernel
theorem dX12_add_64 : decode cX12_add 64 = .ok (.iload 8, 2) := by decide +kernel
theorem dX12_add_66 : decode cX12_add 66 = .ok (.iload 6, 2) := by decide +kernel
theorem dX12_add_68 : decode cX12_add 68 = .ok (.iastore, 1) := by decide +kernel
theorem dX12_add_69 : decode cX12_add 69 = .ok (.aload_n 0, 1) := by decide +kernel
theorem dX12_add_70 : decode cX12_add 70 = .ok (.getfield 28, 3) := by decide +kernel
theorem dX12_add_73 : decode cX12_add 73 = .ok (.iload 8, 2) := by decide +kernel
theorem dX12_add_75 : decode cX12_add 75 = .ok (.iload 7, 2) := by decide +kernel
theorem dX12_add_77 : decode cX12_add 77 = .ok (.iastore, 1) := by decide +kernel
theorem dX12_add_78 : decode cX12_add 78 = .ok (.aload_n 0, 1) := by decide +kernel
theorem dX12_add_79 : decode cX12_add 79 = .ok (.getfield 41, 3) := by decide +kernel
theorem dX12_add_82 : decode cX12_add 82 = .ok (.iload 8, 2) := by decide +kernel
theorem dX12_add_84 : decode cX12_add 84 = .ok (.iconst 0, 1) := by decide +kernel
theorem dX12_add_85 : decode cX12_add 85 = .ok (.iastore, 1) := by decide +kernel
theorem dX12_add_86 : decode cX12_add 86 = .ok (.aload_n 0, 1) := by decide +kernel
theorem dX12_add_87 : decode cX12_add 87 = .ok (.getfield 35, 3) := by decide +kernel
theorem dX12_add_90 : decode cX12_add 90 = .ok (.iload 8, 2) := by decide +kernel
theorem dX12_add_92 : decode cX12_add 92 = .ok (.iconst 0, 1) := by decide +kernel
theorem dX12_add_93 : decode cX12_add 93 = .ok (.iastore, 1) := by decide +kernel
theorem dX12_add_94 : decode cX12_add 94 = .ok (.aload_n 0, 1) := by decide +kernel
theorem dX12_add_95 : decode cX12_add 95 = .ok (.getfield 38, 3) := by decide +kernel
theorem dX12_add_98 : decode cX12_add 98 = .ok (.iload 8, 2) := by decide +kernel
theorem dX12_add_100 : decode cX12_add 100 = .ok (.iconst 0, 1) := by decide +kernel
theorem dX12_add_101 : decode cX12_add 101 = .ok (.iastore, 1) := by decide +kernel
theorem dX12_add_102 : decode cX12_add 102 = .ok (.iconst 0, 1) := by decide +kernel
theorem dX12_add_103 : decode cX12_add 103 = .ok (.istore 9, 2) := by decide +kernel
theorem dX12_add_105 : decode cX12_add 105 = .ok (.iload 9, 2) := by decide +kernel
theorem dX12_add_107 : decode cX12_add 107 = .ok (.sipush 256, 3) := by decide +kernel
theorem dX12_add_110 : decode cX12_add 110 = .ok (.if_icmp .ge 97, 3) := by decide +kernel
theorem dX12_add_113 : decode cX12_add 113 = .ok (.aload_n 0, 1) := by decide +kernel
theorem dX12_add_114 : decode cX12_add 114 = .ok (.iload 8, 2) := by decide +kernel
theorem dX12_add_116 : decode cX12_add 116 = .ok (.iload 9, 2) := by decide +kernel
theorem dX12_add_118 : decode cX12_add 118 = .ok (.invokevirtual 106, 3) := by decide +kernel
theorem dX12_add_121 : decode cX12_add 121 = .ok (.istore 10, 2) := by decide +kernel
theorem dX12_add_123 : decode cX12_add 123 = .ok (.aload_n 0, 1) := by decide +kernel
theorem dX12_add_124 : decode cX12_add 124 = .ok (.getfield 31, 3) := by decide +kernel
theorem dX12_add_127 : decode cX12_add 127 = .ok (.sipush 256, 3) := by decide +kernel
theorem dX12_add_130 : decode cX12_add 130 = .ok (.iload 8, 2) := by decide +kernel
theorem dX12_add_132 : decode cX12_add 132 = .ok (.imul, 1) := by decide +kernel
theorem dX12_add_133 : decode cX12_add 133 = .ok (.iload 9, 2) := by decide +kernel
theorem dX12_add_135 : decode cX12_add 135 = .ok (.iadd, 1) := by decide +kernel
theorem dX12_add_136 : decode cX12_add 136 = .ok (.iload 10, 2) := by decide +kernel
theorem dX12_add_138 : decode cX12_add 138 = .ok (.bastore, 1) := by decide +kernel
theorem dX12_add_139 : decode cX12_add 139 = .ok (.aload_n 0, 1) := by decide +kernel
theorem dX12_add_140 : decode cX12_add 140 = .ok (.getfield 35, 3) := by decide +kernel
theorem dX12_add_143 : decode cX12_add 143 = .ok (.iload 8, 2) := by decide +kernel
theorem dX12_add_145 : decode cX12_add 145 = .ok (.dup2, 1) := by decide +kernel
theorem dX12_add_146 : decode cX12_add 146 = .ok (.iaload, 1) := by decide +kernel
theorem dX12_add_147 : decode cX12_add 147 = .ok (.iload 10, 2) := by decide +kernel
theorem dX12_add_149 : decode cX12_add 149 = .ok (.ifCond .eq 7, 3) := by decide +kernel
theorem dX12_add_152 : decode cX12_add 152 = .ok (.iconst 1, 1) := by decide +kernel
theorem dX12_add_153 : decode cX12_add 153 = .ok (.goto 4, 3) := by decide +kernel
theorem dX12_add_156 : decode cX12_add 156 = .ok (.iconst 0, 1) := by decide +kernel
theorem dX12_add_157 : decode cX12_add 157 = .ok (.iadd, 1) := by decide +kernel
theorem dX12_add_158 : decode cX12_add 158 = .ok (.iastore, 1) := by decide +kernel
theorem dX12_add_159 : decode cX12_add 159 = .ok (.aload_n 0, 1) := by decide +kernel
theorem dX12_add_160 : decode cX12_add 160 = .ok (.getfield 38, 3) := by decide +kernel
theorem dX12_add_163 : decode cX12_add 163 = .ok (.iload 8, 2) := by decide +kernel
theorem dX12_add_165 : decode cX12_add 165 = .ok (.iload 10, 2) := by decide +kernel
theorem dX12_add_167 : decode cX12_add 167 = .ok (.ifCond .eq 26, 3) := by decide +kernel
theorem dX12_add_170 : decode cX12_add 170 = .ok (.iload 9, 2) := by decide +kernel
theorem dX12_add_172 : decode cX12_add 172 = .ok (.invokestatic 93, 3) := by decide +kernel
theorem dX12_add_175 : decode cX12_add 175 = .ok (.aload_n 0, 1) := by decide +kernel
theorem dX12_add_176 : decode cX12_add 176 = .ok (.getfield 38, 3) := by decide +kernel
theorem dX12_add_179 : decode cX12_add 179 = .ok (.iload 8, 2) := by decide +kernel
theorem dX12_add_181 : decode cX12_add 181 = .ok (.iaload, 1) := by decide +kernel
theorem dX12_add_182 : decode cX12_add 182 = .ok (.if_icmp .le 11, 3) := by decide +kernel
theorem dX12_add_185 : decode cX12_add 185 = .ok (.iload 9, 2) := by decide +kernel
theorem dX12_add_187 : decode cX12_add 187 = .ok (.invokestatic 93, 3) := by decide +kernel
theorem dX12_add_190 : decode cX12_add 190 = .ok (.goto 10, 3) := by decide +kernel
theorem dX12_add_193 : decode cX12_add 193 = .ok (.aload_n 0, 1) := by decide +kernel
theorem dX12_add_194 : decode cX12_add 194 = .ok (.getfield 38, 3) := by decide +kernel
theorem dX12_add_197 : decode cX12_add 197 = .ok (.iload 8, 2) := by decide +kernel
theorem dX12_add_199 : decode cX12_add 199 = .ok (.iaload, 1) := by decide +kernel
theorem dX12_add_200 : decode cX12_add 200 = .ok (.iastore, 1) := by decide +kernel
theorem dX12_add_201 : decode cX12_add 201 = .ok (.iinc 9 1, 3) := by decide +kernel
theorem dX12_add_204 : decode cX12_add 204 = .ok (.goto (-99), 3) := by decide +kernel
theorem dX12_add_207 : decode cX12_add 207 = .ok (.aload_n 0, 1) := by decide +kernel
theorem dX12_add_208 : decode cX12_add 208 = .ok (.dup, 1) := by decide +kernel
theorem dX12_add_209 : decode cX12_add 209 = .ok (.getfield 103, 3) := by decide +kernel
theorem dX12_add_212 : decode cX12_add 212 = .ok (.iconst 1, 1) := by decide +kernel
theorem dX12_add_213 : decode cX12_add 213 = .ok (.iadd, 1) := by decide +kernel
theorem dX12_add_214 : decode cX12_add 214 = .ok (.putfield 103, 3) := by decide +kernel
theorem dX12_add_217 : decode cX12_add 217 = .ok (.aload_n 0, 1) := by decide +kernel
theorem dX12_add_218 : decode cX12_add 218 = .ok (.iconst 0, 1) := by decide +kernel
theorem dX12_add_219 : decode cX12_add 219 = .ok (.putfield 110, 3) := by decide +kernel
theorem dX12_add_222 : decode cX12_add 222 = .ok (.iload 8, 2) := by decide +kernel
theorem dX12_add_224 : decode cX12_add 224 = .ok (.ireturn, 1) := by decide +kernel
set_option maxRecDepth 20000 in
theorem ggX12_isColour_X12_in : GoodIn wsX12_isColour wsX12_in := goodIn_r _ [5] (by decide +kernel) (by decide +kernel)
set_option maxRecDepth 20000 in
theorem gX12_isColour_X12_in : GoodIn wsX12_isColour (va_wsS RX12 89 yX12_in wsX12_in) := goodIn_app (goodIn_of _ (by decide +kernel)) ggX12_isColour_X12_in
theorem dX12_isColour_0 : decode cX12_isColour 0 = .ok (.iload_n 0, 1) := by decide +kernel
theorem dX12_isColour_1 : decode cX12_isColour 1 = .ok (.i2l, 1) := by decide +kernel
theorem dX12_isColour_2 : decode cX12_isColour 2 = .ok (.lconst 1, 1) := by decide +kernel
theorem dX12_isColour_3 : decode cX12_isColour 3 = .ok (.ldc2_w 114, 3) := by decide +kernel
theorem dX12_isColour_6 : decode cX12_isColour 6 = .ok (.invokestatic 89, 3) := by decide +kernel
theorem dX12_isColour_9 : decode cX12_isColour 9 = .ok (.ireturn, 1) := by decide +kernel
set_option maxRecDepth 20000 in
theorem ggX12_isPlaces_X12_in : GoodIn wsX12_isPlaces wsX12_in := goodIn_r _ [5] (by decide +kernel) (by decide +kernel)
set_option maxRecDepth 20000 in
theorem gX12_isPlaces_X12_in : GoodIn wsX12_isPlaces (va_wsS RX12 89 yX12_in wsX12_in) := goodIn_app (goodIn_of _ (by decide +kernel)) ggX12_isPlaces_X12_in
theorem dX12_isPlaces_0 : decode cX12_isPlaces 0 = .ok (.iload_n 0, 1) := by decide +kernel
theorem dX12_isPlaces_1 : decode cX12_isPlaces 1 = .ok (.i2l, 1) := by decide +kernel
theorem dX12_isPlaces_2 : decode cX12_isPlaces 2 = .ok (.lconst 0, 1) := by decide +kernel
theorem dX12_isPlaces_3 : decode cX12_isPlaces 3 = .ok (.ldc2_w 116, 3) := by decide +kernel
theorem dX12_isPlaces_6 : decode cX12_isPlaces 6 = .ok (.invokestatic 89, 3) := by decide +kernel
theorem dX12_isPlaces_9 : decode cX12_isPlaces 9 = .ok (.ifCond .eq 43, 3) := by decide +kernel
theorem dX12_isPlaces_12 : decode cX12_isPlaces 12 = .ok (.iload_n 1, 1) := by decide +kernel
theorem dX12_isPlaces_13 : decode cX12_isPlaces 13 = .ok (.i2l, 1) := by decide +kernel
theorem dX12_isPlaces_14 : decode cX12_isPlaces 14 = .ok (.lconst 0, 1) := by decide +kernel
theorem dX12_isPlaces_15 : decode cX12_isPlaces 15 = .ok (.ldc2_w 116, 3) := by decide +kernel
theorem dX12_isPlaces_18 : decode cX12_isPlaces 18 = .ok (.invokestatic 89, 3) := by decide +kernel
theorem dX12_isPlaces_21 : decode cX12_isPlaces 21 = .ok (.ifCond .eq 31, 3) := by decide +kernel
theorem dX12_isPlaces_24 : decode cX12_isPlaces 24 = .ok (.iload_n 2, 1) := by decide +kernel
theorem dX12_isPlaces_25 : decode cX12_isPlaces 25 = .ok (.i2l, 1) := by decide +kernel
theorem dX12_isPlaces_26 : decode cX12_isPlaces 26 = .ok (.lconst 0, 1) := by decide +kernel
theorem dX12_isPlaces_27 : decode cX12_isPlaces 27 = .ok (.ldc2_w 116, 3) := by decide +kernel
theorem dX12_isPlaces_30 : decode cX12_isPlaces 30 = .ok (.invokestatic 89, 3) := by decide +kernel
theorem dX12_isPlaces_33 : decode cX12_isPlaces 33 = .ok (.ifCond .eq 19, 3) := by decide +kernel
theorem dX12_isPlaces_36 : decode cX12_isPlaces 36 = .ok (.iload_n 3, 1) := by decide +kernel
theorem dX12_isPlaces_37 : decode cX12_isPlaces 37 = .ok (.i2l, 1) := by decide +kernel
theorem dX12_isPlaces_38 : decode cX12_isPlaces 38 = .ok (.lconst 0, 1) := by decide +kernel
theorem dX12_isPlaces_39 : decode cX12_isPlaces 39 = .ok (.ldc2_w 116, 3) := by decide +kernel
theorem dX12_isPlaces_42 : decode cX12_isPlaces 42 = .ok (.invokestatic 89, 3) := by decide +kernel
theorem dX12_isPlaces_45 : decode cX12_isPlaces 45 = .ok (.ifCond .eq 7, 3) := by decide +kernel
theorem dX12_isPlaces_48 : decode cX12_isPlaces 48 = .ok (.iconst 1, 1) := by decide +kernel
theorem dX12_isPlaces_49 : decode cX12_isPlaces 49 = .ok (.goto 4, 3) := by decide +kernel
theorem dX12_isPlaces_52 : decode cX12_isPlaces 52 = .ok (.iconst 0, 1) := by decide +kernel
theorem dX12_isPlaces_53 : decode cX12_isPlaces 53 = .ok (.ireturn, 1) := by decide +kernel
set_option maxRecDepth 20000 in
theorem ggX12_disc_X12_isColour : GoodIn wsX12_disc wsX12_isColour := goodIn_r _ [5, 6, 7, 8, 4, 9] (by decide +kernel) (by decide +kernel)
set_option maxRecDepth 20000 in
theorem gX12_disc_X12_isColour : GoodIn wsX12_disc (va_wsS RX12 118 yX12_isColour wsX12_isColour) := goodIn_app (goodIn_of _ (by decide +kernel)) ggX12_disc_X12_isColour
set_option maxRecDepth 20000 in
theorem ggX12_disc_X12_in : GoodIn wsX12_disc wsX12_in := goodIn_r _ [9] (by decide +kernel) (by decide +kernel)
set_option maxRecDepth 20000 in
theorem gX12_disc_X12_in : GoodIn wsX12_disc (va_wsS RX12 89 yX12_in wsX12_in) := goodIn_app (goodIn_of _ (by decide +kernel)) ggX12_disc_X12_in
set_option maxRecDepth 20000 in
theorem ggX12_disc_X12_add : GoodIn wsX12_disc wsX12_add := goodIn_r _ [13, 14, 15, 16, 17, 18, 19, 20, 21, 22, 23, 24, 25, 26, 27, 28, 29, 4, 30, 31, 32, 33, 34, 35, 36, 37, 38, 39, 40, 41, 42, 43, 44, 45, 46, 47, 48, 7, 8, 9, 49, 50, 51, 52, 53, 54, 55, 56, 57, 58, 59, 60, 61, 62, 63, 64, 65, 66, 67, 68, 69, 70, 71, 72, 73, 74, 75] (by decide +kernel) (by decide +kernel)
set_option maxRecDepth 20000 in
theorem gX12_disc_X12_add : GoodIn wsX12_disc (wsV RX12 124 RX12 yX12_add wsX12_add) := goodIn_app (goodIn_of _ (by decide +kernel)) ggX12_disc_X12_add
theorem dX12_disc_0 : decode cX12_disc 0 = .ok (.iload_n 1, 1) := by decide +kernel
theorem dX12_disc_1 : decode cX12_disc 1 = .ok (.invokestatic 118, 3) := by decide +kernel
theorem dX12_disc_4 : decode cX12_disc 4 = .ok (.ifCond .eq 29, 3) := by decide +kernel
theorem dX12_disc_7 : decode cX12_disc 7 = .ok (.iload_n 2, 1) := by decide +kernel
theorem dX12_disc_8 : decode cX12_disc 8 = .ok (.i2l, 1) := by decide +kernel
theorem dX12_disc_9 : decode cX12_disc 9 = .ok (.lconst 1, 1) := by decide +kernel
theorem dX12_disc_10 : decode cX12_disc 10 = .ok (.ldc2_w 122, 3) := by decide +kernel
theorem dX12_disc_13 : decode cX12_disc 13 = .ok (.invokestatic 89, 3) := by decide +kernel
theorem dX12_disc_16 : decode cX12_disc 16 = .ok (.ifCond .eq 17, 3) := by decide +kernel
theorem dX12_disc_19 : decode cX12_disc 19 = .ok (.aload_n 0, 1) := by decide +kernel
theorem dX12_disc_20 : decode cX12_disc 20 = .ok (.iconst 0, 1) := by decide +kernel
theorem dX12_disc_21 : decode cX12_disc 21 = .ok (.iload_n 1, 1) := by decide +kernel
theorem dX12_disc_22 : decode cX12_disc 22 = .ok (.iload_n 2, 1) := by decide +kernel
theorem dX12_disc_23 : decode cX12_disc 23 = .ok (.iconst 0, 1) := by decide +kernel
theorem dX12_disc_24 : decode cX12_disc 24 = .ok (.iconst 0, 1) := by decide +kernel
theorem dX12_disc_25 : decode cX12_disc 25 = .ok (.iconst 0, 1) := by decide +kernel
theorem dX12_disc_26 : decode cX12_disc 26 = .ok (.iconst 0, 1) := by decide +kernel
theorem dX12_disc_27 : decode cX12_disc 27 = .ok (.invokevirtual 124, 3) := by decide +kernel
theorem dX12_disc_30 : decode cX12_disc 30 = .ok (.goto 4, 3) := by decide +kernel
theorem dX12_disc_33 : decode cX12_disc 33 = .ok (.iconst (-1), 1) := by decide +kernel
theorem dX12_disc_34 : decode cX12_disc 34 = .ok (.ireturn, 1) := by decide +kernel
set_option maxRecDepth 20000 in
theorem ggX12_rim_X12_isColour : GoodIn wsX12_rim wsX12_isColour := goodIn_r _ [5, 6, 7, 8, 4, 9] (by decide +kernel) (by decide +kernel)
set_option maxRecDepth 20000 in
theorem gX12_rim_X12_isColour : GoodIn wsX12_rim (va_wsS RX12 118 yX12_isColour wsX12_isColour) := goodIn_app (goodIn_of _ (by decide +kernel)) ggX12_rim_X12_isColour
set_option maxRecDepth 20000 in
theorem ggX12_rim_X12_in : GoodIn wsX12_rim wsX12_in := goodIn_r _ [9] (by decide +kernel) (by decide +kernel)
set_option maxRecDepth 20000 in
theorem gX12_rim_X12_in : GoodIn wsX12_rim (va_wsS RX12 89 yX12_in wsX12_in) := goodIn_app (goodIn_of _ (by decide +kernel)) ggX12_rim_X12_in
set_option maxRecDepth 20000 in
theorem ggX12_rim_X12_add : GoodIn wsX12_rim wsX12_add := goodIn_r _ [13, 14, 15, 16, 17, 18, 19, 20, 21, 22, 23, 24, 25, 26, 27, 28, 29, 4, 30, 31, 32, 33, 34, 35, 36, 37, 38, 39, 40, 41, 42, 43, 44, 45, 46, 47, 48, 7, 8, 9, 49, 50, 51, 52, 53, 54, 55, 56, 57, 58, 59, 60, 61, 62, 63, 64, 65, 66, 67, 68, 69, 70, 71, 72, 73, 74, 75] (by decide +kernel) (by decide +kernel)
set_option maxRecDepth 20000 in
theorem gX12_rim_X12_add : GoodIn wsX12_rim (wsV RX12 124 RX12 yX12_add wsX12_add) := goodIn_app (goodIn_of _ (by decide +kernel)) ggX12_rim_X12_add
theorem dX12_rim_0 : decode cX12_rim 0 = .ok (.iload_n 1, 1) := by decide +kernel
theorem dX12_rim_1 : decode cX12_rim 1 = .ok (.invokestatic 118, 3) := by decide +kernel
theorem dX12_rim_4 : decode cX12_rim 4 = .ok (.ifCond .eq 29, 3) := by decide +kernel
theorem dX12_rim_7 : decode cX12_rim 7 = .ok (.iload_n 2, 1) := by decide +kernel
theorem dX12_rim_8 : decode cX12_rim 8 = .ok (.i2l, 1) := by decide +kernel
theorem dX12_rim_9 : decode cX12_rim 9 = .ok (.lconst 0, 1) := by decide +kernel
theorem dX12_rim_10 : decode cX12_rim 10 = .ok (.ldc2_w 116, 3) := by decide +kernel
theorem dX12_rim_13 : decode cX12_rim 13 = .ok (.invokestatic 89, 3) := by decide +kernel
theorem dX12_rim_16 : decode cX12_rim 16 = .ok (.ifCond .eq 17, 3) := by decide +kernel
theorem dX12_rim_19 : decode cX12_rim 19 = .ok (.aload_n 0, 1) := by decide +kernel
theorem dX12_rim_20 : decode cX12_rim 20 = .ok (.iconst 1, 1) := by decide +kernel
theorem dX12_rim_21 : decode cX12_rim 21 = .ok (.iload_n 1, 1) := by decide +kernel
theorem dX12_rim_22 : decode cX12_rim 22 = .ok (.iload_n 2, 1) := by decide +kernel
theorem dX12_rim_23 : decode cX12_rim 23 = .ok (.iconst 0, 1) := by decide +kernel
theorem dX12_rim_24 : decode cX12_rim 24 = .ok (.iconst 0, 1) := by decide +kernel
theorem dX12_rim_25 : decode cX12_rim 25 = .ok (.iconst 0, 1) := by decide +kernel
theorem dX12_rim_26 : decode cX12_rim 26 = .ok (.iconst 0, 1) := by decide +kernel
theorem dX12_rim_27 : decode cX12_rim 27 = .ok (.invokevirtual 124, 3) := by decide +kernel
theorem dX12_rim_30 : decode cX12_rim 30 = .ok (.goto 4, 3) := by decide +kernel
theorem dX12_rim_33 : decode cX12_rim 33 = .ok (.iconst (-1), 1) := by decide +kernel
theorem dX12_rim_34 : decode cX12_rim 34 = .ok (.ireturn, 1) := by decide +kernel
set_option maxRecDepth 20000 in
theorem ggX12_line_X12_isColour : GoodIn wsX12_line wsX12_isColour := goodIn_r _ [4, 5, 6, 7, 3, 8] (by decide +kernel) (by decide +kernel)
set_option maxRecDepth 20000 in
theorem gX12_line_X12_isColour : GoodIn wsX12_line (va_wsS RX12 118 yX12_isColour wsX12_isColour) := goodIn_app (goodIn_of _ (by decide +kernel)) ggX12_line_X12_isColour
set_option maxRecDepth 20000 in
theorem ggX12_line_X12_isPlaces : GoodIn wsX12_line wsX12_isPlaces := goodIn_r _ [11, 12, 6, 7, 3, 8] (by decide +kernel) (by decide +kernel)
set_option maxRecDepth 20000 in
theorem gX12_line_X12_isPlaces : GoodIn wsX12_line (va_wsS RX12 128 yX12_isPlaces wsX12_isPlaces) := goodIn_app (goodIn_of _ (by decide +kernel)) ggX12_line_X12_isPlaces
set_option maxRecDepth 20000 in
theorem ggX12_line_X12_add : GoodIn wsX12_line wsX12_add := goodIn_r _ [16, 17, 18, 19, 20, 21, 22, 23, 24, 25, 26, 27, 28, 29, 30, 31, 32, 3, 33, 34, 35, 36, 37, 38, 39, 40, 41, 42, 43, 44, 45, 46, 47, 48, 49, 50, 51, 6, 7, 8, 52, 53, 54, 55, 56, 57, 58, 59, 60, 61, 62, 63, 64, 65, 66, 67, 68, 69, 70, 71, 72, 73, 74, 75, 76, 77, 78] (by decide +kernel) (by decide +kernel)
set_option maxRecDepth 20000 in
theorem gX12_line_X12_add : GoodIn wsX12_line (wsV RX12 124 RX12 yX12_add wsX12_add) := goodIn_app (goodIn_of _ (by decide +kernel)) ggX12_line_X12_add
theorem dX12_line_0 : decode cX12_line 0 = .ok (.iload_n 1, 1) := by decide +kernel
theorem dX12_line_1 : decode cX12_line 1 = .ok (.invokestatic 118, 3) := by decide +kernel
theorem dX12_line_4 : decode cX12_line 4 = .ok (.ifCond .eq 31, 3) := by decide +kernel
theorem dX12_line_7 : decode cX12_line 7 = .ok (.iload_n 2, 1) := by decide +kernel
theorem dX12_line_8 : decode cX12_line 8 = .ok (.iload_n 3, 1) := by decide +kernel
theorem dX12_line_9 : decode cX12_line 9 = .ok (.iload 4, 2) := by decide +kernel
theorem dX12_line_11 : decode cX12_line 11 = .ok (.iload 5, 2) := by decide +kernel
theorem dX12_line_13 : decode cX12_line 13 = .ok (.invokestatic 128, 3) := by decide +kernel
theorem dX12_line_16 : decode cX12_line 16 = .ok (.ifCond .eq 19, 3) := by decide +kernel
theorem dX12_line_19 : decode cX12_line 19 = .ok (.aload_n 0, 1) := by decide +kernel
theorem dX12_line_20 : decode cX12_line 20 = .ok (.iconst 2, 1) := by decide +kernel
theorem dX12_line_21 : decode cX12_line 21 = .ok (.iload_n 1, 1) := by decide +kernel
theorem dX12_line_22 : decode cX12_line 22 = .ok (.iload_n 2, 1) := by decide +kernel
theorem dX12_line_23 : decode cX12_line 23 = .ok (.iload_n 3, 1) := by decide +kernel
theorem dX12_line_24 : decode cX12_line 24 = .ok (.iload 4, 2) := by decide +kernel
theorem dX12_line_26 : decode cX12_line 26 = .ok (.iload 5, 2) := by decide +kernel
theorem dX12_line_28 : decode cX12_line 28 = .ok (.iconst 0, 1) := by decide +kernel
theorem dX12_line_29 : decode cX12_line 29 = .ok (.invokevirtual 124, 3) := by decide +kernel
theorem dX12_line_32 : decode cX12_line 32 = .ok (.goto 4, 3) := by decide +kernel
theorem dX12_line_35 : decode cX12_line 35 = .ok (.iconst (-1), 1) := by decide +kernel
theorem dX12_line_36 : decode cX12_line 36 = .ok (.ireturn, 1) := by decide +kernel
set_option maxRecDepth 20000 in
theorem ggX12_block_X12_isColour : GoodIn wsX12_block wsX12_isColour := goodIn_r _ [4, 5, 6, 7, 3, 8] (by decide +kernel) (by decide +kernel)
set_option maxRecDepth 20000 in
theorem gX12_block_X12_isColour : GoodIn wsX12_block (va_wsS RX12 118 yX12_isColour wsX12_isColour) := goodIn_app (goodIn_of _ (by decide +kernel)) ggX12_block_X12_isColour
set_option maxRecDepth 20000 in
theorem ggX12_block_X12_isPlaces : GoodIn wsX12_block wsX12_isPlaces := goodIn_r _ [11, 12, 6, 7, 3, 8] (by decide +kernel) (by decide +kernel)
set_option maxRecDepth 20000 in
theorem gX12_block_X12_isPlaces : GoodIn wsX12_block (va_wsS RX12 128 yX12_isPlaces wsX12_isPlaces) := goodIn_app (goodIn_of _ (by decide +kernel)) ggX12_block_X12_isPlaces
set_option maxRecDepth 20000 in
theorem ggX12_block_X12_add : GoodIn wsX12_block wsX12_add := goodIn_r _ [16, 17, 18, 19, 20, 21, 22, 23, 24, 25, 26, 27, 28, 29, 30, 31, 32, 3, 33, 34, 35, 36, 37, 38, 39, 40, 41, 42, 43, 44, 45, 46, 47, 48, 49, 50, 51, 6, 7, 8, 52, 53, 54, 55, 56, 57, 58, 59, 60, 61, 62, 63, 64, 65, 66, 67, 68, 69, 70, 71, 72, 73, 74, 75, 76, 77, 78] (by decide +kernel) (by decide +kernel)
set_option maxRecDepth 20000 in
theorem gX12_block_X12_add : GoodIn wsX12_block (wsV RX12 124 RX12 yX12_add wsX12_add) := goodIn_app (goodIn_of _ (by decide +kernel)) ggX12_block_X12_add
theorem dX12_block_0 : decode cX12_block 0 = .ok (.iload_n 1, 1) := by decide +kernel
theorem dX12_block_1 : decode cX12_block 1 = .ok (.invokestatic 118, 3) := by decide +kernel
theorem dX12_block_4 : decode cX12_block 4 = .ok (.ifCond .eq 31, 3) := by decide +kernel
theorem dX12_block_7 : decode cX12_block 7 = .ok (.iload_n 2, 1) := by decide +kernel
theorem dX12_block_8 : decode cX12_block 8 = .ok (.iload_n 3, 1) := by decide +kernel
theorem dX12_block_9 : decode cX12_block 9 = .ok (.iload 4, 2) := by decide +kernel
theorem dX12_block_11 : decode cX12_block 11 = .ok (.iload 5, 2) := by decide +kernel
theorem dX12_block_13 : decode cX12_block 13 = .ok (.invokestatic 128, 3) := by decide +kernel
theorem dX12_block_16 : decode cX12_block 16 = .ok (.ifCond .eq 19, 3) := by decide +kernel
theorem dX12_block_19 : decode cX12_block 19 = .ok (.aload_n 0, 1) := by decide +kernel
theorem dX12_block_20 : decode cX12_block 20 = .ok (.iconst 3, 1) := by decide +kernel
theorem dX12_block_21 : decode cX12_block 21 = .ok (.iload_n 1, 1) := by decide +kernel
theorem dX12_block_22 : decode cX12_block 22 = .ok (.iload_n 2, 1) := by decide +kernel
theorem dX12_block_23 : decode cX12_block 23 = .ok (.iload_n 3, 1) := by decide +kernel
theorem dX12_block_24 : decode cX12_block 24 = .ok (.iload 4, 2) := by decide +kernel
theorem dX12_block_26 : decode cX12_block 26 = .ok (.iload 5, 2) := by decide +kernel
theorem dX12_block_28 : decode cX12_block 28 = .ok (.iconst 0, 1) := by decide +kernel
theorem dX12_block_29 : decode cX12_block 29 = .ok (.invokevirtual 124, 3) := by decide +kernel
theorem dX12_block_32 : decode cX12_block 32 = .ok (.goto 4, 3) := by decide +kernel
theorem dX12_block_35 : decode cX12_block 35 = .ok (.iconst (-1), 1) := by decide +kernel
theorem dX12_block_36 : decode cX12_block 36 = .ok (.ireturn, 1) := by decide +kernel
set_option maxRecDepth 20000 in
theorem ggX12_sign_X12_isColour : GoodIn wsX12_sign wsX12_isColour := goodIn_r _ [5, 6, 7, 8, 4, 9] (by decide +kernel) (by decide +kernel)
set_option maxRecDepth 20000 in
theorem gX12_sign_X12_isColour : GoodIn wsX12_sign (va_wsS RX12 118 yX12_isColour wsX12_isColour) := goodIn_app (goodIn_of _ (by decide +kernel)) ggX12_sign_X12_isColour
set_option maxRecDepth 20000 in
theorem ggX12_sign_X12_isPlaces : GoodIn wsX12_sign wsX12_isPlaces := goodIn_r _ [12, 13, 7, 8, 4, 9] (by decide +kernel) (by decide +kernel)
set_option maxRecDepth 20000 in
theorem gX12_sign_X12_isPlaces : GoodIn wsX12_sign (va_wsS RX12 128 yX12_isPlaces wsX12_isPlaces) := goodIn_app (goodIn_of _ (by decide +kernel)) ggX12_sign_X12_isPlaces
set_option maxRecDepth 20000 in
theorem ggX12_sign_X12_in : GoodIn wsX12_sign wsX12_in := goodIn_r _ [9] (by decide +kernel) (by decide +kernel)
set_option maxRecDepth 20000 in
theorem gX12_sign_X12_in : GoodIn wsX12_sign (va_wsS RX12 89 yX12_in wsX12_in) := goodIn_app (goodIn_of _ (by decide +kernel)) ggX12_sign_X12_in
set_option maxRecDepth 20000 in
theorem ggX12_sign_X12_add : GoodIn wsX12_sign wsX12_add := goodIn_r _ [17, 18, 19, 20, 21, 22, 23, 24, 25, 26, 27, 28, 29, 30, 31, 32, 33, 4, 34, 35, 36, 37, 38, 39, 40, 41, 42, 43, 44, 45, 46, 47, 48, 49, 50, 51, 52, 7, 8, 9, 53, 54, 55, 56, 57, 58, 59, 60, 61, 62, 63, 64, 65, 66, 67, 68, 69, 70, 71, 72, 73, 74, 75, 76, 77, 78, 79] (by decide +kernel) (by decide +kernel)
set_option maxRecDepth 20000 in
theorem gX12_sign_X12_add : GoodIn wsX12_sign (wsV RX12 124 RX12 yX12_add wsX12_add) := goodIn_app (goodIn_of _ (by decide +kernel)) ggX12_sign_X12_add
theorem dX12_sign_0 : decode cX12_sign 0 = .ok (.iload_n 1, 1) := by decide +kernel
theorem dX12_sign_1 : decode cX12_sign 1 = .ok (.invokestatic 118, 3) := by decide +kernel
theorem dX12_sign_4 : decode cX12_sign 4 = .ok (.ifCond .eq 45, 3) := by decide +kernel
theorem dX12_sign_7 : decode cX12_sign 7 = .ok (.iload_n 2, 1) := by decide +kernel
theorem dX12_sign_8 : decode cX12_sign 8 = .ok (.iload_n 3, 1) := by decide +kernel
theorem dX12_sign_9 : decode cX12_sign 9 = .ok (.iload 4, 2) := by decide +kernel
theorem dX12_sign_11 : decode cX12_sign 11 = .ok (.iload 5, 2) := by decide +kernel
theorem dX12_sign_13 : decode cX12_sign 13 = .ok (.invokestatic 128, 3) := by decide +kernel
theorem dX12_sign_16 : decode cX12_sign 16 = .ok (.ifCond .eq 33, 3) := by decide +kernel
theorem dX12_sign_19 : decode cX12_sign 19 = .ok (.iload 6, 2) := by decide +kernel
theorem dX12_sign_21 : decode cX12_sign 21 = .ok (.i2l, 1) := by decide +kernel
theorem dX12_sign_22 : decode cX12_sign 22 = .ok (.lconst 0, 1) := by decide +kernel
theorem dX12_sign_23 : decode cX12_sign 23 = .ok (.ldc2_w 132, 3) := by decide +kernel
theorem dX12_sign_26 : decode cX12_sign 26 = .ok (.invokestatic 89, 3) := by decide +kernel
theorem dX12_sign_29 : decode cX12_sign 29 = .ok (.ifCond .eq 20, 3) := by decide +kernel
theorem dX12_sign_32 : decode cX12_sign 32 = .ok (.aload_n 0, 1) := by decide +kernel
theorem dX12_sign_33 : decode cX12_sign 33 = .ok (.iconst 4, 1) := by decide +kernel
theorem dX12_sign_34 : decode cX12_sign 34 = .ok (.iload_n 1, 1) := by decide +kernel
theorem dX12_sign_35 : decode cX12_sign 35 = .ok (.iload_n 2, 1) := by decide +kernel
theorem dX12_sign_36 : decode cX12_sign 36 = .ok (.iload_n 3, 1) := by decide +kernel
theorem dX12_sign_37 : decode cX12_sign 37 = .ok (.iload 4, 2) := by decide +kernel
theorem dX12_sign_39 : decode cX12_sign 39 = .ok (.iload 5, 2) := by decide +kernel
theorem dX12_sign_41 : decode cX12_sign 41 = .ok (.iload 6, 2) := by decide +kernel
theorem dX12_sign_43 : decode cX12_sign 43 = .ok (.invokevirtual 124, 3) := by decide +kernel
theorem dX12_sign_46 : decode cX12_sign 46 = .ok (.goto 4, 3) := by decide +kernel
theorem dX12_sign_49 : decode cX12_sign 49 = .ok (.iconst (-1), 1) := by decide +kernel
theorem dX12_sign_50 : decode cX12_sign 50 = .ok (.ireturn, 1) := by decide +kernel
theorem dX12_undo_0 : decode cX12_undo 0 = .ok (.aload_n 0, 1) := by decide +kernel
theorem dX12_undo_1 : decode cX12_undo 1 = .ok (.getfield 103, 3) := by decide +kernel
theorem dX12_undo_4 : decode cX12_undo 4 = .ok (.ifCond .ne 6, 3) := by decide +kernel
theorem dX12_undo_7 : decode cX12_undo 7 = .ok (.bipush (-2), 2) := by decide +kernel
theorem dX12_undo_9 : decode cX12_undo 9 = .ok (.ireturn, 1) := by decide +kernel
theorem dX12_undo_10 : decode cX12_undo 10 = .ok (.aload_n 0, 1) := by decide +kernel
theorem dX12_undo_11 : decode cX12_undo 11 = .ok (.dup, 1) := by decide +kernel
theorem dX12_undo_12 : decode cX12_undo 12 = .ok (.getfield 103, 3) := by decide +kernel
theorem dX12_undo_15 : decode cX12_undo 15 = .ok (.iconst 1, 1) := by decide +kernel
theorem dX12_undo_16 : decode cX12_undo 16 = .ok (.isub, 1) := by decide +kernel
theorem dX12_undo_17 : decode cX12_undo 17 = .ok (.putfield 103, 3) := by decide +kernel
theorem dX12_undo_20 : decode cX12_undo 20 = .ok (.iconst 0, 1) := by decide +kernel
theorem dX12_undo_21 : decode cX12_undo 21 = .ok (.istore_n 1, 1) := by decide +kernel
theorem dX12_undo_22 : decode cX12_undo 22 = .ok (.iload_n 1, 1) := by decide +kernel
theorem dX12_undo_23 : decode cX12_undo 23 = .ok (.bipush 10, 2) := by decide +kernel
theorem dX12_undo_25 : decode cX12_undo 25 = .ok (.if_icmp .ge 42, 3) := by decide +kernel
theorem dX12_undo_28 : decode cX12_undo 28 = .ok (.aload_n 0, 1) := by decide +kernel
theorem dX12_undo_29 : decode cX12_undo 29 = .ok (.getfield 41, 3) := by decide +kernel
theorem dX12_undo_32 : decode cX12_undo 32 = .ok (.iload_n 1, 1) := by decide +kernel
theorem dX12_undo_33 : decode cX12_undo 33 = .ok (.iload_n 1, 1) := by decide +kernel
theorem dX12_undo_34 : decode cX12_undo 34 = .ok (.aload_n 0, 1) := by decide +kernel
theorem dX12_undo_35 : decode cX12_undo 35 = .ok (.getfield 103, 3) := by decide +kernel
theorem dX12_undo_38 : decode cX12_undo 38 = .ok (.if_icmp .ne 7, 3) := by decide +kernel
theorem dX12_undo_41 : decode cX12_undo 41 = .ok (.iconst 0, 1) := by decide +kernel
theorem dX12_undo_42 : decode cX12_undo 42 = .ok (.goto 18, 3) := by decide +kernel
theorem dX12_undo_45 : decode cX12_undo 45 = .ok (.aload_n 0, 1) := by decide +kernel
theorem dX12_undo_46 : decode cX12_undo 46 = .ok (.getfield 41, 3) := by decide +kernel
theorem dX12_undo_49 : decode cX12_undo 49 = .ok (.iload_n 1, 1) := by decide +kernel
theorem dX12_undo_50 : decode cX12_undo 50 = .ok (.iaload, 1) := by decide +kernel
theorem dX12_undo_51 : decode cX12_undo 51 = .ok (.iconst 1, 1) := by decide +kernel
theorem dX12_undo_52 : decode cX12_undo 52 = .ok (.aload_n 0, 1) := by decide +kernel
theorem dX12_undo_53 : decode cX12_undo 53 = .ok (.getfield 103, 3) := by decide +kernel
theorem dX12_undo_56 : decode cX12_undo 56 = .ok (.ishl, 1) := by decide +kernel
theorem dX12_undo_57 : decode cX12_undo 57 = .ok (.iconst (-1), 1) := by decide +kernel
theorem dX12_undo_58 : decode cX12_undo 58 = .ok (.ixor, 1) := by decide +kernel
theorem dX12_undo_59 : decode cX12_undo 59 = .ok (.iand, 1) := by decide +kernel
theorem dX12_undo_60 : decode cX12_undo 60 = .ok (.iastore, 1) := by decide +kernel
theorem dX12_undo_61 : decode cX12_undo 61 = .ok (.iinc 1 1, 3) := by decide +kernel
theorem dX12_undo_64 : decode cX12_undo 64 = .ok (.goto (-42), 3) := by decide +kernel
theorem dX12_undo_67 : decode cX12_undo 67 = .ok (.aload_n 0, 1) := by decide +kernel
theorem dX12_undo_68 : decode cX12_undo 68 = .ok (.iconst 0, 1) := by decide +kernel
theorem dX12_undo_69 : decode cX12_undo 69 = .ok (.putfield 110, 3) := by decide +kernel
theorem dX12_undo_72 : decode cX12_undo 72 = .ok (.aload_n 0, 1) := by decide +kernel
theorem dX12_undo_73 : decode cX12_undo 73 = .ok (.getfield 103, 3) := by decide +kernel
theorem dX12_undo_76 : decode cX12_undo 76 = .ok (.ireturn, 1) := by decide +kernel
set_option maxRecDepth 20000 in
theorem ggX12_isShape_X12_in : GoodIn wsX12_isShape wsX12_in := goodIn_r _ [5] (by decide +kernel) (by decide +kernel)
set_option maxRecDepth 20000 in
theorem gX12_isShape_X12_in : GoodIn wsX12_isShape (va_wsS RX12 89 yX12_in wsX12_in) := goodIn_app (goodIn_of _ (by decide +kernel)) ggX12_isShape_X12_in
theorem dX12_isShape_0 : decode cX12_isShape 0 = .ok (.iload_n 1, 1) := by decide +kernel
theorem dX12_isShape_1 : decode cX12_isShape 1 = .ok (.i2l, 1) := by decide +kernel
theorem dX12_isShape_2 : decode cX12_isShape 2 = .ok (.lconst 0, 1) := by decide +kernel
theorem dX12_isShape_3 : decode cX12_isShape 3 = .ok (.aload_n 0, 1) := by decide +kernel
theorem dX12_isShape_4 : decode cX12_isShape 4 = .ok (.getfield 103, 3) := by decide +kernel
theorem dX12_isShape_7 : decode cX12_isShape 7 = .ok (.iconst 1, 1) := by decide +kernel
theorem dX12_isShape_8 : decode cX12_isShape 8 = .ok (.isub, 1) := by decide +kernel
theorem dX12_isShape_9 : decode cX12_isShape 9 = .ok (.i2l, 1) := by decide +kernel
theorem dX12_isShape_10 : decode cX12_isShape 10 = .ok (.invokestatic 89, 3) := by decide +kernel
theorem dX12_isShape_13 : decode cX12_isShape 13 = .ok (.ireturn, 1) := by decide +kernel
theorem dX12_comesAfter_0 : decode cX12_comesAfter 0 = .ok (.aload_n 0, 1) := by decide +kernel
theorem dX12_comesAfter_1 : decode cX12_comesAfter 1 = .ok (.getfield 41, 3) := by decide +kernel
theorem dX12_comesAfter_4 : decode cX12_comesAfter 4 = .ok (.iload_n 1, 1) := by decide +kernel
theorem dX12_comesAfter_5 : decode cX12_comesAfter 5 = .ok (.iaload, 1) := by decide +kernel
theorem dX12_comesAfter_6 : decode cX12_comesAfter 6 = .ok (.iload_n 2, 1) := by decide +kernel
theorem dX12_comesAfter_7 : decode cX12_comesAfter 7 = .ok (.ishr, 1) := by decide +kernel
theorem dX12_comesAfter_8 : decode cX12_comesAfter 8 = .ok (.iconst 1, 1) := by decide +kernel
theorem dX12_comesAfter_9 : decode cX12_comesAfter 9 = .ok (.iand, 1) := by decide +kernel
theorem dX12_comesAfter_10 : decode cX12_comesAfter 10 = .ok (.iconst 1, 1) := by decide +kernel
theorem dX12_comesAfter_11 : decode cX12_comesAfter 11 = .ok (.if_icmp .ne 5, 3) := by decide +kernel
theorem dX12_comesAfter_14 : decode cX12_comesAfter 14 = .ok (.iconst 1, 1) := by decide +kernel
theorem dX12_comesAfter_15 : decode cX12_comesAfter 15 = .ok (.ireturn, 1) := by decide +kernel
theorem dX12_comesAfter_16 : decode cX12_comesAfter 16 = .ok (.iconst 0, 1) := by decide +kernel
theorem dX12_comesAfter_17 : decode cX12_comesAfter 17 = .ok (.istore_n 3, 1) := by decide +kernel
theorem dX12_comesAfter_18 : decode cX12_comesAfter 18 = .ok (.iload_n 3, 1) := by decide +kernel
theorem dX12_comesAfter_19 : decode cX12_comesAfter 19 = .ok (.sipush 256, 3) := by decide +kernel
theorem dX12_comesAfter_22 : decode cX12_comesAfter 22 = .ok (.if_icmp .ge 46, 3) := by decide +kernel
theorem dX12_comesAfter_25 : decode cX12_comesAfter 25 = .ok (.iload_n 2, 1) := by decide +kernel
theorem dX12_comesAfter_26 : decode cX12_comesAfter 26 = .ok (.iload_n 1, 1) := by decide +kernel
theorem dX12_comesAfter_27 : decode cX12_comesAfter 27 = .ok (.if_icmp .ge 41, 3) := by decide +kernel
theorem dX12_comesAfter_30 : decode cX12_comesAfter 30 = .ok (.aload_n 0, 1) := by decide +kernel
theorem dX12_comesAfter_31 : decode cX12_comesAfter 31 = .ok (.getfield 31, 3) := by decide +kernel
theorem dX12_comesAfter_34 : decode cX12_comesAfter 34 = .ok (.sipush 256, 3) := by decide +kernel
theorem dX12_comesAfter_37 : decode cX12_comesAfter 37 = .ok (.iload_n 1, 1) := by decide +kernel
theorem dX12_comesAfter_38 : decode cX12_comesAfter 38 = .ok (.imul, 1) := by decide +kernel
theorem dX12_comesAfter_39 : decode cX12_comesAfter 39 = .ok (.iload_n 3, 1) := by decide +kernel
theorem dX12_comesAfter_40 : decode cX12_comesAfter 40 = .ok (.iadd, 1) := by decide +kernel
theorem dX12_comesAfter_41 : decode cX12_comesAfter 41 = .ok (.baload, 1) := by decide +kernel
theorem dX12_comesAfter_42 : decode cX12_comesAfter 42 = .ok (.ifCond .eq 20, 3) := by decide +kernel
theorem dX12_comesAfter_45 : decode cX12_comesAfter 45 = .ok (.aload_n 0, 1) := by decide +kernel
theorem dX12_comesAfter_46 : decode cX12_comesAfter 46 = .ok (.getfield 31, 3) := by decide +kernel
theorem dX12_comesAfter_49 : decode cX12_comesAfter 49 = .ok (.sipush 256, 3) := by decide +kernel
theorem dX12_comesAfter_52 : decode cX12_comesAfter 52 = .ok (.iload_n 2, 1) := by decide +kernel
theorem dX12_comesAfter_53 : decode cX12_comesAfter 53 = .ok (.imul, 1) := by decide +kernel
theorem dX12_comesAfter_54 : decode cX12_comesAfter 54 = .ok (.iload_n 3, 1) := by decide +kernel
theorem dX12_comesAfter_55 : decode cX12_comesAfter 55 = .ok (.iadd, 1) := by decide +kernel
theorem dX12_comesAfter_56 : decode cX12_comesAfter 56 = .ok (.baload, 1) := by decide +kernel
theorem dX12_comesAfter_57 : decode cX12_comesAfter 57 = .ok (.ifCond .eq 5, 3) := by decide +kernel
theorem dX12_comesAfter_60 : decode cX12_comesAfter 60 = .ok (.iconst 1, 1) := by decide +kernel
theorem dX12_comesAfter_61 : decode cX12_comesAfter 61 = .ok (.ireturn, 1) := by decide +kernel
theorem dX12_comesAfter_62 : decode cX12_comesAfter 62 = .ok (.iinc 3 1, 3) := by decide +kernel
theorem dX12_comesAfter_65 : decode cX12_comesAfter 65 = .ok (.goto (-47), 3) := by decide +kernel
theorem dX12_comesAfter_68 : decode cX12_comesAfter 68 = .ok (.iconst 0, 1) := by decide +kernel
theorem dX12_comesAfter_69 : decode cX12_comesAfter 69 = .ok (.ireturn, 1) := by decide +kernel
theorem dX12_ones_0 : decode cX12_ones 0 = .ok (.iconst 0, 1) := by decide +kernel
theorem dX12_ones_1 : decode cX12_ones 1 = .ok (.istore_n 1, 1) := by decide +kernel
theorem dX12_ones_2 : decode cX12_ones 2 = .ok (.iload_n 0, 1) := by decide +kernel
theorem dX12_ones_3 : decode cX12_ones 3 = .ok (.istore_n 2, 1) := by decide +kernel
theorem dX12_ones_4 : decode cX12_ones 4 = .ok (.iload_n 2, 1) := by decide +kernel
theorem dX12_ones_5 : decode cX12_ones 5 = .ok (.ifCond .eq 15, 3) := by decide +kernel
theorem dX12_ones_8 : decode cX12_ones 8 = .ok (.iinc 1 1, 3) := by decide +kernel
theorem dX12_ones_11 : decode cX12_ones 11 = .ok (.iload_n 2, 1) := by decide +kernel
theorem dX12_ones_12 : decode cX12_ones 12 = .ok (.iload_n 2, 1) := by decide +kernel
theorem dX12_ones_13 : decode cX12_ones 13 = .ok (.iconst 1, 1) := by decide +kernel
theorem dX12_ones_14 : decode cX12_ones 14 = .ok (.isub, 1) := by decide +kernel
theorem dX12_ones_15 : decode cX12_ones 15 = .ok (.iand, 1) := by decide +kernel
theorem dX12_ones_16 : decode cX12_ones 16 = .ok (.istore_n 2, 1) := by decide +kernel
theorem dX12_ones_17 : decode cX12_ones 17 = .ok (.goto (-13), 3) := by decide +kernel
theorem dX12_ones_20 : decode cX12_ones 20 = .ok (.iload_n 1, 1) := by decide +kernel
theorem dX12_ones_21 : decode cX12_ones 21 = .ok (.ireturn, 1) := by decide +kernel
set_option maxRecDepth 20000 in
theorem ggX12_aheadOf_X12_comesAfter : GoodIn wsX12_aheadOf wsX12_comesAfter := goodIn_r _ [6, 7, 8, 9, 10, 11, 12, 13, 14, 15, 16, 17, 18, 19, 20, 21, 22, 23, 24, 25, 26, 27, 28, 29, 30, 31, 32, 33, 34, 35] (by decide +kernel) (by decide +kernel)
set_option maxRecDepth 20000 in
theorem gX12_aheadOf_X12_comesAfter : GoodIn wsX12_aheadOf (wsV RX12 134 RX12 yX12_comesAfter wsX12_comesAfter) := goodIn_app (goodIn_of _ (by decide +kernel)) ggX12_aheadOf_X12_comesAfter
theorem dX12_aheadOf_0 : decode cX12_aheadOf 0 = .ok (.iconst 0, 1) := by decide +kernel
