theorem dX10_goesRound_4 : decode cX10_goesRound 4 = .ok (.istore_n 1, 1) := by decide +kernel
theorem dX10_goesRound_5 : decode cX10_goesRound 5 = .ok (.iconst 0, 1) := by decide +kernel
theorem dX10_goesRound_6 : decode cX10_goesRound 6 = .ok (.istore_n 2, 1) := by decide +kernel
theorem dX10_goesRound_7 : decode cX10_goesRound 7 = .ok (.iload_n 2, 1) := by decide +kernel
theorem dX10_goesRound_8 : decode cX10_goesRound 8 = .ok (.aload_n 0, 1) := by decide +kernel
theorem dX10_goesRound_9 : decode cX10_goesRound 9 = .ok (.getfield 50, 3) := by decide +kernel
theorem dX10_goesRound_12 : decode cX10_goesRound 12 = .ok (.if_icmp .ge 44, 3) := by decide +kernel
theorem dX10_goesRound_15 : decode cX10_goesRound 15 = .ok (.iconst 0, 1) := by decide +kernel
theorem dX10_goesRound_16 : decode cX10_goesRound 16 = .ok (.istore_n 3, 1) := by decide +kernel
theorem dX10_goesRound_17 : decode cX10_goesRound 17 = .ok (.iload_n 3, 1) := by decide +kernel
theorem dX10_goesRound_18 : decode cX10_goesRound 18 = .ok (.aload_n 0, 1) := by decide +kernel
theorem dX10_goesRound_19 : decode cX10_goesRound 19 = .ok (.getfield 50, 3) := by decide +kernel
theorem dX10_goesRound_22 : decode cX10_goesRound 22 = .ok (.if_icmp .ge 28, 3) := by decide +kernel
theorem dX10_goesRound_25 : decode cX10_goesRound 25 = .ok (.aload_n 0, 1) := by decide +kernel
theorem dX10_goesRound_26 : decode cX10_goesRound 26 = .ok (.getfield 15, 3) := by decide +kernel
theorem dX10_goesRound_29 : decode cX10_goesRound 29 = .ok (.iload_n 3, 1) := by decide +kernel
theorem dX10_goesRound_30 : decode cX10_goesRound 30 = .ok (.iaload, 1) := by decide +kernel
theorem dX10_goesRound_31 : decode cX10_goesRound 31 = .ok (.iload_n 1, 1) := by decide +kernel
theorem dX10_goesRound_32 : decode cX10_goesRound 32 = .ok (.iand, 1) := by decide +kernel
theorem dX10_goesRound_33 : decode cX10_goesRound 33 = .ok (.ifCond .ne 11, 3) := by decide +kernel
theorem dX10_goesRound_36 : decode cX10_goesRound 36 = .ok (.iload_n 1, 1) := by decide +kernel
theorem dX10_goesRound_37 : decode cX10_goesRound 37 = .ok (.iconst 1, 1) := by decide +kernel
theorem dX10_goesRound_38 : decode cX10_goesRound 38 = .ok (.iload_n 3, 1) := by decide +kernel
theorem dX10_goesRound_39 : decode cX10_goesRound 39 = .ok (.ishl, 1) := by decide +kernel
theorem dX10_goesRound_40 : decode cX10_goesRound 40 = .ok (.iconst (-1), 1) := by decide +kernel
theorem dX10_goesRound_41 : decode cX10_goesRound 41 = .ok (.ixor, 1) := by decide +kernel
theorem dX10_goesRound_42 : decode cX10_goesRound 42 = .ok (.iand, 1) := by decide +kernel
theorem dX10_goesRound_43 : decode cX10_goesRound 43 = .ok (.istore_n 1, 1) := by decide +kernel
theorem dX10_goesRound_44 : decode cX10_goesRound 44 = .ok (.iinc 3 1, 3) := by decide +kernel
theorem dX10_goesRound_47 : decode cX10_goesRound 47 = .ok (.goto (-30), 3) := by decide +kernel
theorem dX10_goesRound_50 : decode cX10_goesRound 50 = .ok (.iinc 2 1, 3) := by decide +kernel
theorem dX10_goesRound_53 : decode cX10_goesRound 53 = .ok (.goto (-46), 3) := by decide +kernel
theorem dX10_goesRound_56 : decode cX10_goesRound 56 = .ok (.iload_n 1, 1) := by decide +kernel
theorem dX10_goesRound_57 : decode cX10_goesRound 57 = .ok (.ifCond .eq 7, 3) := by decide +kernel
theorem dX10_goesRound_60 : decode cX10_goesRound 60 = .ok (.iconst 1, 1) := by decide +kernel
theorem dX10_goesRound_61 : decode cX10_goesRound 61 = .ok (.goto 4, 3) := by decide +kernel
theorem dX10_goesRound_64 : decode cX10_goesRound 64 = .ok (.iconst 0, 1) := by decide +kernel
theorem dX10_goesRound_65 : decode cX10_goesRound 65 = .ok (.ireturn, 1) := by decide +kernel
theorem dX10_separate_0 : decode cX10_separate 0 = .ok (.iconst 0, 1) := by decide +kernel
theorem dX10_separate_1 : decode cX10_separate 1 = .ok (.istore_n 1, 1) := by decide +kernel
theorem dX10_separate_2 : decode cX10_separate 2 = .ok (.iload_n 1, 1) := by decide +kernel
theorem dX10_separate_3 : decode cX10_separate 3 = .ok (.aload_n 0, 1) := by decide +kernel
theorem dX10_separate_4 : decode cX10_separate 4 = .ok (.getfield 50, 3) := by decide +kernel
theorem dX10_separate_7 : decode cX10_separate 7 = .ok (.if_icmp .ge 16, 3) := by decide +kernel
theorem dX10_separate_10 : decode cX10_separate 10 = .ok (.aload_n 0, 1) := by decide +kernel
theorem dX10_separate_11 : decode cX10_separate 11 = .ok (.getfield 25, 3) := by decide +kernel
theorem dX10_separate_14 : decode cX10_separate 14 = .ok (.iload_n 1, 1) := by decide +kernel
theorem dX10_separate_15 : decode cX10_separate 15 = .ok (.iconst 0, 1) := by decide +kernel
theorem dX10_separate_16 : decode cX10_separate 16 = .ok (.iastore, 1) := by decide +kernel
theorem dX10_separate_17 : decode cX10_separate 17 = .ok (.iinc 1 1, 3) := by decide +kernel
theorem dX10_separate_20 : decode cX10_separate 20 = .ok (.goto (-18), 3) := by decide +kernel
theorem dX10_separate_23 : decode cX10_separate 23 = .ok (.iconst 0, 1) := by decide +kernel
theorem dX10_separate_24 : decode cX10_separate 24 = .ok (.istore_n 1, 1) := by decide +kernel
theorem dX10_separate_25 : decode cX10_separate 25 = .ok (.iload_n 1, 1) := by decide +kernel
theorem dX10_separate_26 : decode cX10_separate 26 = .ok (.aload_n 0, 1) := by decide +kernel
theorem dX10_separate_27 : decode cX10_separate 27 = .ok (.getfield 50, 3) := by decide +kernel
theorem dX10_separate_30 : decode cX10_separate 30 = .ok (.if_icmp .ge 77, 3) := by decide +kernel
theorem dX10_separate_33 : decode cX10_separate 33 = .ok (.iconst 0, 1) := by decide +kernel
theorem dX10_separate_34 : decode cX10_separate 34 = .ok (.istore_n 2, 1) := by decide +kernel
theorem dX10_separate_35 : decode cX10_separate 35 = .ok (.iload_n 2, 1) := by decide +kernel
theorem dX10_separate_36 : decode cX10_separate 36 = .ok (.aload_n 0, 1) := by decide +kernel
theorem dX10_separate_37 : decode cX10_separate 37 = .ok (.getfield 50, 3) := by decide +kernel
theorem dX10_separate_40 : decode cX10_separate 40 = .ok (.if_icmp .ge 61, 3) := by decide +kernel
theorem dX10_separate_43 : decode cX10_separate 43 = .ok (.aload_n 0, 1) := by decide +kernel
theorem dX10_separate_44 : decode cX10_separate 44 = .ok (.getfield 15, 3) := by decide +kernel
theorem dX10_separate_47 : decode cX10_separate 47 = .ok (.iload_n 1, 1) := by decide +kernel
theorem dX10_separate_48 : decode cX10_separate 48 = .ok (.iaload, 1) := by decide +kernel
theorem dX10_separate_49 : decode cX10_separate 49 = .ok (.iload_n 2, 1) := by decide +kernel
theorem dX10_separate_50 : decode cX10_separate 50 = .ok (.ishr, 1) := by decide +kernel
theorem dX10_separate_51 : decode cX10_separate 51 = .ok (.iconst 1, 1) := by decide +kernel
theorem dX10_separate_52 : decode cX10_separate 52 = .ok (.iand, 1) := by decide +kernel
theorem dX10_separate_53 : decode cX10_separate 53 = .ok (.ifCond .eq 42, 3) := by decide +kernel
theorem dX10_separate_56 : decode cX10_separate 56 = .ok (.aload_n 0, 1) := by decide +kernel
theorem dX10_separate_57 : decode cX10_separate 57 = .ok (.getfield 22, 3) := by decide +kernel
theorem dX10_separate_60 : decode cX10_separate 60 = .ok (.iload_n 2, 1) := by decide +kernel
theorem dX10_separate_61 : decode cX10_separate 61 = .ok (.iaload, 1) := by decide +kernel
theorem dX10_separate_62 : decode cX10_separate 62 = .ok (.aload_n 0, 1) := by decide +kernel
theorem dX10_separate_63 : decode cX10_separate 63 = .ok (.getfield 22, 3) := by decide +kernel
theorem dX10_separate_66 : decode cX10_separate 66 = .ok (.iload_n 1, 1) := by decide +kernel
theorem dX10_separate_67 : decode cX10_separate 67 = .ok (.iaload, 1) := by decide +kernel
theorem dX10_separate_68 : decode cX10_separate 68 = .ok (.if_icmp .le 27, 3) := by decide +kernel
theorem dX10_separate_71 : decode cX10_separate 71 = .ok (.aload_n 0, 1) := by decide +kernel
theorem dX10_separate_72 : decode cX10_separate 72 = .ok (.getfield 25, 3) := by decide +kernel
theorem dX10_separate_75 : decode cX10_separate 75 = .ok (.iload_n 1, 1) := by decide +kernel
theorem dX10_separate_76 : decode cX10_separate 76 = .ok (.dup2, 1) := by decide +kernel
theorem dX10_separate_77 : decode cX10_separate 77 = .ok (.iaload, 1) := by decide +kernel
theorem dX10_separate_78 : decode cX10_separate 78 = .ok (.iconst 1, 1) := by decide +kernel
theorem dX10_separate_79 : decode cX10_separate 79 = .ok (.iload_n 2, 1) := by decide +kernel
theorem dX10_separate_80 : decode cX10_separate 80 = .ok (.ishl, 1) := by decide +kernel
theorem dX10_separate_81 : decode cX10_separate 81 = .ok (.ior, 1) := by decide +kernel
theorem dX10_separate_82 : decode cX10_separate 82 = .ok (.iastore, 1) := by decide +kernel
theorem dX10_separate_83 : decode cX10_separate 83 = .ok (.aload_n 0, 1) := by decide +kernel
theorem dX10_separate_84 : decode cX10_separate 84 = .ok (.getfield 25, 3) := by decide +kernel
theorem dX10_separate_87 : decode cX10_separate 87 = .ok (.iload_n 2, 1) := by decide +kernel
theorem dX10_separate_88 : decode cX10_separate 88 = .ok (.dup2, 1) := by decide +kernel
theorem dX10_separate_89 : decode cX10_separate 89 = .ok (.iaload, 1) := by decide +kernel
theorem dX10_separate_90 : decode cX10_separate 90 = .ok (.iconst 1, 1) := by decide +kernel
theorem dX10_separate_91 : decode cX10_separate 91 = .ok (.iload_n 1, 1) := by decide +kernel
theorem dX10_separate_92 : decode cX10_separate 92 = .ok (.ishl, 1) := by decide +kernel
theorem dX10_separate_93 : decode cX10_separate 93 = .ok (.ior, 1) := by decide +kernel
theorem dX10_separate_94 : decode cX10_separate 94 = .ok (.iastore, 1) := by decide +kernel
theorem dX10_separate_95 : decode cX10_separate 95 = .ok (.iinc 2 1, 3) := by decide +kernel
theorem dX10_separate_98 : decode cX10_separate 98 = .ok (.goto (-63), 3) := by decide +kernel
theorem dX10_separate_101 : decode cX10_separate 101 = .ok (.iinc 1 1, 3) := by decide +kernel
theorem dX10_separate_104 : decode cX10_separate 104 = .ok (.goto (-79), 3) := by decide +kernel
theorem dX10_separate_107 : decode cX10_separate 107 = .ok (.return_, 1) := by decide +kernel
set_option maxRecDepth 20000 in
theorem ggX10_weighSets_J6_numberOfTrailingZeros_0f7a4 : GoodIn wsX10_weighSets wsJ6_numberOfTrailingZeros_0f7a4 := goodIn_r _ [10, 11] (by decide +kernel) (by decide +kernel)
set_option maxRecDepth 20000 in
theorem gX10_weighSets_J6_numberOfTrailingZeros_0f7a4 : GoodIn wsX10_weighSets (va_wsS RX10 103 yJ6_numberOfTrailingZeros_0f7a4 wsJ6_numberOfTrailingZeros_0f7a4) := goodIn_app (goodIn_of _ (by decide +kernel)) ggX10_weighSets_J6_numberOfTrailingZeros_0f7a4
theorem dX10_weighSets_0 : decode cX10_weighSets 0 = .ok (.aload_n 0, 1) := by decide +kernel
theorem dX10_weighSets_1 : decode cX10_weighSets 1 = .ok (.getfield 28, 3) := by decide +kernel
theorem dX10_weighSets_4 : decode cX10_weighSets 4 = .ok (.iconst 0, 1) := by decide +kernel
theorem dX10_weighSets_5 : decode cX10_weighSets 5 = .ok (.iconst 0, 1) := by decide +kernel
theorem dX10_weighSets_6 : decode cX10_weighSets 6 = .ok (.iastore, 1) := by decide +kernel
theorem dX10_weighSets_7 : decode cX10_weighSets 7 = .ok (.aload_n 0, 1) := by decide +kernel
theorem dX10_weighSets_8 : decode cX10_weighSets 8 = .ok (.getfield 31, 3) := by decide +kernel
theorem dX10_weighSets_11 : decode cX10_weighSets 11 = .ok (.iconst 0, 1) := by decide +kernel
theorem dX10_weighSets_12 : decode cX10_weighSets 12 = .ok (.iconst 0, 1) := by decide +kernel
theorem dX10_weighSets_13 : decode cX10_weighSets 13 = .ok (.iastore, 1) := by decide +kernel
theorem dX10_weighSets_14 : decode cX10_weighSets 14 = .ok (.iconst 1, 1) := by decide +kernel
theorem dX10_weighSets_15 : decode cX10_weighSets 15 = .ok (.istore_n 1, 1) := by decide +kernel
theorem dX10_weighSets_16 : decode cX10_weighSets 16 = .ok (.iload_n 1, 1) := by decide +kernel
theorem dX10_weighSets_17 : decode cX10_weighSets 17 = .ok (.aload_n 0, 1) := by decide +kernel
theorem dX10_weighSets_18 : decode cX10_weighSets 18 = .ok (.getfield 70, 3) := by decide +kernel
theorem dX10_weighSets_21 : decode cX10_weighSets 21 = .ok (.if_icmp .gt 75, 3) := by decide +kernel
theorem dX10_weighSets_24 : decode cX10_weighSets 24 = .ok (.iload_n 1, 1) := by decide +kernel
theorem dX10_weighSets_25 : decode cX10_weighSets 25 = .ok (.invokestatic 103, 3) := by decide +kernel
theorem dX10_weighSets_28 : decode cX10_weighSets 28 = .ok (.istore_n 2, 1) := by decide +kernel
theorem dX10_weighSets_29 : decode cX10_weighSets 29 = .ok (.iload_n 1, 1) := by decide +kernel
theorem dX10_weighSets_30 : decode cX10_weighSets 30 = .ok (.iload_n 1, 1) := by decide +kernel
theorem dX10_weighSets_31 : decode cX10_weighSets 31 = .ok (.iconst 1, 1) := by decide +kernel
theorem dX10_weighSets_32 : decode cX10_weighSets 32 = .ok (.isub, 1) := by decide +kernel
theorem dX10_weighSets_33 : decode cX10_weighSets 33 = .ok (.iand, 1) := by decide +kernel
theorem dX10_weighSets_34 : decode cX10_weighSets 34 = .ok (.istore_n 3, 1) := by decide +kernel
theorem dX10_weighSets_35 : decode cX10_weighSets 35 = .ok (.aload_n 0, 1) := by decide +kernel
theorem dX10_weighSets_36 : decode cX10_weighSets 36 = .ok (.getfield 28, 3) := by decide +kernel
theorem dX10_weighSets_39 : decode cX10_weighSets 39 = .ok (.iload_n 1, 1) := by decide +kernel
theorem dX10_weighSets_40 : decode cX10_weighSets 40 = .ok (.aload_n 0, 1) := by decide +kernel
theorem dX10_weighSets_41 : decode cX10_weighSets 41 = .ok (.getfield 28, 3) := by decide +kernel
theorem dX10_weighSets_44 : decode cX10_weighSets 44 = .ok (.iload_n 3, 1) := by decide +kernel
theorem dX10_weighSets_45 : decode cX10_weighSets 45 = .ok (.iaload, 1) := by decide +kernel
theorem dX10_weighSets_46 : decode cX10_weighSets 46 = .ok (.aload_n 0, 1) := by decide +kernel
theorem dX10_weighSets_47 : decode cX10_weighSets 47 = .ok (.getfield 15, 3) := by decide +kernel
theorem dX10_weighSets_50 : decode cX10_weighSets 50 = .ok (.iload_n 2, 1) := by decide +kernel
theorem dX10_weighSets_51 : decode cX10_weighSets 51 = .ok (.iaload, 1) := by decide +kernel
theorem dX10_weighSets_52 : decode cX10_weighSets 52 = .ok (.ior, 1) := by decide +kernel
theorem dX10_weighSets_53 : decode cX10_weighSets 53 = .ok (.iastore, 1) := by decide +kernel
theorem dX10_weighSets_54 : decode cX10_weighSets 54 = .ok (.aload_n 0, 1) := by decide +kernel
theorem dX10_weighSets_55 : decode cX10_weighSets 55 = .ok (.getfield 31, 3) := by decide +kernel
theorem dX10_weighSets_58 : decode cX10_weighSets 58 = .ok (.iload_n 1, 1) := by decide +kernel
theorem dX10_weighSets_59 : decode cX10_weighSets 59 = .ok (.iload_n 3, 1) := by decide +kernel
theorem dX10_weighSets_60 : decode cX10_weighSets 60 = .ok (.aload_n 0, 1) := by decide +kernel
theorem dX10_weighSets_61 : decode cX10_weighSets 61 = .ok (.getfield 25, 3) := by decide +kernel
theorem dX10_weighSets_64 : decode cX10_weighSets 64 = .ok (.iload_n 2, 1) := by decide +kernel
theorem dX10_weighSets_65 : decode cX10_weighSets 65 = .ok (.iaload, 1) := by decide +kernel
theorem dX10_weighSets_66 : decode cX10_weighSets 66 = .ok (.iand, 1) := by decide +kernel
theorem dX10_weighSets_67 : decode cX10_weighSets 67 = .ok (.ifCond .eq 9, 3) := by decide +kernel
theorem dX10_weighSets_70 : decode cX10_weighSets 70 = .ok (.sipush 4096, 3) := by decide +kernel
theorem dX10_weighSets_73 : decode cX10_weighSets 73 = .ok (.goto 16, 3) := by decide +kernel
theorem dX10_weighSets_76 : decode cX10_weighSets 76 = .ok (.aload_n 0, 1) := by decide +kernel
theorem dX10_weighSets_77 : decode cX10_weighSets 77 = .ok (.getfield 31, 3) := by decide +kernel
theorem dX10_weighSets_80 : decode cX10_weighSets 80 = .ok (.iload_n 3, 1) := by decide +kernel
theorem dX10_weighSets_81 : decode cX10_weighSets 81 = .ok (.iaload, 1) := by decide +kernel
theorem dX10_weighSets_82 : decode cX10_weighSets 82 = .ok (.aload_n 0, 1) := by decide +kernel
theorem dX10_weighSets_83 : decode cX10_weighSets 83 = .ok (.getfield 19, 3) := by decide +kernel
theorem dX10_weighSets_86 : decode cX10_weighSets 86 = .ok (.iload_n 2, 1) := by decide +kernel
theorem dX10_weighSets_87 : decode cX10_weighSets 87 = .ok (.iaload, 1) := by decide +kernel
theorem dX10_weighSets_88 : decode cX10_weighSets 88 = .ok (.iadd, 1) := by decide +kernel
theorem dX10_weighSets_89 : decode cX10_weighSets 89 = .ok (.iastore, 1) := by decide +kernel
theorem dX10_weighSets_90 : decode cX10_weighSets 90 = .ok (.iinc 1 1, 3) := by decide +kernel
theorem dX10_weighSets_93 : decode cX10_weighSets 93 = .ok (.goto (-77), 3) := by decide +kernel
theorem dX10_weighSets_96 : decode cX10_weighSets 96 = .ok (.return_, 1) := by decide +kernel
set_option maxRecDepth 20000 in
theorem ggX10_fewestFrom_X10_boundFrom : GoodIn wsX10_fewestFrom wsX10_boundFrom := goodIn_r _ [14, 15, 5, 16, 17, 8, 18, 19, 20, 21, 22, 23, 24, 25, 26, 27, 28, 29, 30, 31, 32] (by decide +kernel) (by decide +kernel)
set_option maxRecDepth 20000 in
theorem gX10_fewestFrom_X10_boundFrom : GoodIn wsX10_fewestFrom (wsV RX10 108 RX10 yX10_boundFrom wsX10_boundFrom) := goodIn_app (goodIn_of _ (by decide +kernel)) ggX10_fewestFrom_X10_boundFrom
theorem dX10_fewestFrom_0 : decode cX10_fewestFrom 0 = .ok (.iload_n 1, 1) := by decide +kernel
theorem dX10_fewestFrom_1 : decode cX10_fewestFrom 1 = .ok (.aload_n 0, 1) := by decide +kernel
theorem dX10_fewestFrom_2 : decode cX10_fewestFrom 2 = .ok (.getfield 70, 3) := by decide +kernel
theorem dX10_fewestFrom_5 : decode cX10_fewestFrom 5 = .ok (.if_icmp .ne 5, 3) := by decide +kernel
theorem dX10_fewestFrom_8 : decode cX10_fewestFrom 8 = .ok (.iconst 0, 1) := by decide +kernel
theorem dX10_fewestFrom_9 : decode cX10_fewestFrom 9 = .ok (.ireturn, 1) := by decide +kernel
theorem dX10_fewestFrom_10 : decode cX10_fewestFrom 10 = .ok (.aload_n 0, 1) := by decide +kernel
theorem dX10_fewestFrom_11 : decode cX10_fewestFrom 11 = .ok (.getfield 28, 3) := by decide +kernel
theorem dX10_fewestFrom_14 : decode cX10_fewestFrom 14 = .ok (.iload_n 1, 1) := by decide +kernel
theorem dX10_fewestFrom_15 : decode cX10_fewestFrom 15 = .ok (.iaload, 1) := by decide +kernel
theorem dX10_fewestFrom_16 : decode cX10_fewestFrom 16 = .ok (.iload_n 1, 1) := by decide +kernel
theorem dX10_fewestFrom_17 : decode cX10_fewestFrom 17 = .ok (.iconst (-1), 1) := by decide +kernel
theorem dX10_fewestFrom_18 : decode cX10_fewestFrom 18 = .ok (.ixor, 1) := by decide +kernel
theorem dX10_fewestFrom_19 : decode cX10_fewestFrom 19 = .ok (.iand, 1) := by decide +kernel
theorem dX10_fewestFrom_20 : decode cX10_fewestFrom 20 = .ok (.ifCond .eq 6, 3) := by decide +kernel
theorem dX10_fewestFrom_23 : decode cX10_fewestFrom 23 = .ok (.bipush 99, 2) := by decide +kernel
theorem dX10_fewestFrom_25 : decode cX10_fewestFrom 25 = .ok (.ireturn, 1) := by decide +kernel
theorem dX10_fewestFrom_26 : decode cX10_fewestFrom 26 = .ok (.aload_n 0, 1) := by decide +kernel
theorem dX10_fewestFrom_27 : decode cX10_fewestFrom 27 = .ok (.iload_n 1, 1) := by decide +kernel
theorem dX10_fewestFrom_28 : decode cX10_fewestFrom 28 = .ok (.invokevirtual 108, 3) := by decide +kernel
theorem dX10_fewestFrom_31 : decode cX10_fewestFrom 31 = .ok (.istore_n 2, 1) := by decide +kernel
theorem dX10_fewestFrom_32 : decode cX10_fewestFrom 32 = .ok (.bipush 99, 2) := by decide +kernel
theorem dX10_fewestFrom_34 : decode cX10_fewestFrom 34 = .ok (.istore_n 3, 1) := by decide +kernel
theorem dX10_fewestFrom_35 : decode cX10_fewestFrom 35 = .ok (.aload_n 0, 1) := by decide +kernel
theorem dX10_fewestFrom_36 : decode cX10_fewestFrom 36 = .ok (.getfield 70, 3) := by decide +kernel
theorem dX10_fewestFrom_39 : decode cX10_fewestFrom 39 = .ok (.iload_n 1, 1) := by decide +kernel
theorem dX10_fewestFrom_40 : decode cX10_fewestFrom 40 = .ok (.iconst (-1), 1) := by decide +kernel
theorem dX10_fewestFrom_41 : decode cX10_fewestFrom 41 = .ok (.ixor, 1) := by decide +kernel
theorem dX10_fewestFrom_42 : decode cX10_fewestFrom 42 = .ok (.iand, 1) := by decide +kernel
theorem dX10_fewestFrom_43 : decode cX10_fewestFrom 43 = .ok (.istore 4, 2) := by decide +kernel
theorem dX10_fewestFrom_45 : decode cX10_fewestFrom 45 = .ok (.iload 4, 2) := by decide +kernel
theorem dX10_fewestFrom_47 : decode cX10_fewestFrom 47 = .ok (.istore 5, 2) := by decide +kernel
theorem dX10_fewestFrom_49 : decode cX10_fewestFrom 49 = .ok (.iload 5, 2) := by decide +kernel
theorem dX10_fewestFrom_51 : decode cX10_fewestFrom 51 = .ok (.ifCond .le 50, 3) := by decide +kernel
theorem dX10_fewestFrom_54 : decode cX10_fewestFrom 54 = .ok (.iload_n 3, 1) := by decide +kernel
theorem dX10_fewestFrom_55 : decode cX10_fewestFrom 55 = .ok (.iload_n 2, 1) := by decide +kernel
theorem dX10_fewestFrom_56 : decode cX10_fewestFrom 56 = .ok (.if_icmp .le 45, 3) := by decide +kernel
theorem dX10_fewestFrom_59 : decode cX10_fewestFrom 59 = .ok (.aload_n 0, 1) := by decide +kernel
theorem dX10_fewestFrom_60 : decode cX10_fewestFrom 60 = .ok (.getfield 31, 3) := by decide +kernel
theorem dX10_fewestFrom_63 : decode cX10_fewestFrom 63 = .ok (.iload 5, 2) := by decide +kernel
theorem dX10_fewestFrom_65 : decode cX10_fewestFrom 65 = .ok (.iaload, 1) := by decide +kernel
theorem dX10_fewestFrom_66 : decode cX10_fewestFrom 66 = .ok (.aload_n 0, 1) := by decide +kernel
theorem dX10_fewestFrom_67 : decode cX10_fewestFrom 67 = .ok (.getfield 9, 3) := by decide +kernel
theorem dX10_fewestFrom_70 : decode cX10_fewestFrom 70 = .ok (.if_icmp .gt 19, 3) := by decide +kernel
theorem dX10_fewestFrom_73 : decode cX10_fewestFrom 73 = .ok (.iload_n 3, 1) := by decide +kernel
theorem dX10_fewestFrom_74 : decode cX10_fewestFrom 74 = .ok (.iconst 1, 1) := by decide +kernel
theorem dX10_fewestFrom_75 : decode cX10_fewestFrom 75 = .ok (.aload_n 0, 1) := by decide +kernel
theorem dX10_fewestFrom_76 : decode cX10_fewestFrom 76 = .ok (.getfield 34, 3) := by decide +kernel
theorem dX10_fewestFrom_79 : decode cX10_fewestFrom 79 = .ok (.iload_n 1, 1) := by decide +kernel
theorem dX10_fewestFrom_80 : decode cX10_fewestFrom 80 = .ok (.iload 5, 2) := by decide +kernel
theorem dX10_fewestFrom_82 : decode cX10_fewestFrom 82 = .ok (.ior, 1) := by decide +kernel
theorem dX10_fewestFrom_83 : decode cX10_fewestFrom 83 = .ok (.iaload, 1) := by decide +kernel
theorem dX10_fewestFrom_84 : decode cX10_fewestFrom 84 = .ok (.iadd, 1) := by decide +kernel
theorem dX10_fewestFrom_85 : decode cX10_fewestFrom 85 = .ok (.invokestatic 111, 3) := by decide +kernel
theorem dX10_fewestFrom_88 : decode cX10_fewestFrom 88 = .ok (.istore_n 3, 1) := by decide +kernel
theorem dX10_fewestFrom_89 : decode cX10_fewestFrom 89 = .ok (.iload 5, 2) := by decide +kernel
theorem dX10_fewestFrom_91 : decode cX10_fewestFrom 91 = .ok (.iconst 1, 1) := by decide +kernel
theorem dX10_fewestFrom_92 : decode cX10_fewestFrom 92 = .ok (.isub, 1) := by decide +kernel
theorem dX10_fewestFrom_93 : decode cX10_fewestFrom 93 = .ok (.iload 4, 2) := by decide +kernel
theorem dX10_fewestFrom_95 : decode cX10_fewestFrom 95 = .ok (.iand, 1) := by decide +kernel
theorem dX10_fewestFrom_96 : decode cX10_fewestFrom 96 = .ok (.istore 5, 2) := by decide +kernel
theorem dX10_fewestFrom_98 : decode cX10_fewestFrom 98 = .ok (.goto (-49), 3) := by decide +kernel
theorem dX10_fewestFrom_101 : decode cX10_fewestFrom 101 = .ok (.iload_n 3, 1) := by decide +kernel
theorem dX10_fewestFrom_102 : decode cX10_fewestFrom 102 = .ok (.ireturn, 1) := by decide +kernel
theorem dX10_boundFrom_0 : decode cX10_boundFrom 0 = .ok (.iconst 1, 1) := by decide +kernel
theorem dX10_boundFrom_1 : decode cX10_boundFrom 1 = .ok (.istore_n 2, 1) := by decide +kernel
theorem dX10_boundFrom_2 : decode cX10_boundFrom 2 = .ok (.iconst 0, 1) := by decide +kernel
theorem dX10_boundFrom_3 : decode cX10_boundFrom 3 = .ok (.istore_n 3, 1) := by decide +kernel
theorem dX10_boundFrom_4 : decode cX10_boundFrom 4 = .ok (.iload_n 3, 1) := by decide +kernel
theorem dX10_boundFrom_5 : decode cX10_boundFrom 5 = .ok (.aload_n 0, 1) := by decide +kernel
theorem dX10_boundFrom_6 : decode cX10_boundFrom 6 = .ok (.getfield 50, 3) := by decide +kernel
theorem dX10_boundFrom_9 : decode cX10_boundFrom 9 = .ok (.if_icmp .ge 46, 3) := by decide +kernel
theorem dX10_boundFrom_12 : decode cX10_boundFrom 12 = .ok (.iload_n 1, 1) := by decide +kernel
theorem dX10_boundFrom_13 : decode cX10_boundFrom 13 = .ok (.iconst 1, 1) := by decide +kernel
theorem dX10_boundFrom_14 : decode cX10_boundFrom 14 = .ok (.iload_n 3, 1) := by decide +kernel
theorem dX10_boundFrom_15 : decode cX10_boundFrom 15 = .ok (.ishl, 1) := by decide +kernel
theorem dX10_boundFrom_16 : decode cX10_boundFrom 16 = .ok (.ior, 1) := by decide +kernel
theorem dX10_boundFrom_17 : decode cX10_boundFrom 17 = .ok (.istore 4, 2) := by decide +kernel
theorem dX10_boundFrom_19 : decode cX10_boundFrom 19 = .ok (.iload 4, 2) := by decide +kernel
theorem dX10_boundFrom_21 : decode cX10_boundFrom 21 = .ok (.iload_n 1, 1) := by decide +kernel
theorem dX10_boundFrom_22 : decode cX10_boundFrom 22 = .ok (.if_icmp .eq 27, 3) := by decide +kernel
theorem dX10_boundFrom_25 : decode cX10_boundFrom 25 = .ok (.aload_n 0, 1) := by decide +kernel
theorem dX10_boundFrom_26 : decode cX10_boundFrom 26 = .ok (.getfield 34, 3) := by decide +kernel
theorem dX10_boundFrom_29 : decode cX10_boundFrom 29 = .ok (.iload 4, 2) := by decide +kernel
theorem dX10_boundFrom_31 : decode cX10_boundFrom 31 = .ok (.iaload, 1) := by decide +kernel
theorem dX10_boundFrom_32 : decode cX10_boundFrom 32 = .ok (.bipush 99, 2) := by decide +kernel
theorem dX10_boundFrom_34 : decode cX10_boundFrom 34 = .ok (.if_icmp .ge 15, 3) := by decide +kernel
theorem dX10_boundFrom_37 : decode cX10_boundFrom 37 = .ok (.iload_n 2, 1) := by decide +kernel
theorem dX10_boundFrom_38 : decode cX10_boundFrom 38 = .ok (.aload_n 0, 1) := by decide +kernel
theorem dX10_boundFrom_39 : decode cX10_boundFrom 39 = .ok (.getfield 34, 3) := by decide +kernel
theorem dX10_boundFrom_42 : decode cX10_boundFrom 42 = .ok (.iload 4, 2) := by decide +kernel
theorem dX10_boundFrom_44 : decode cX10_boundFrom 44 = .ok (.iaload, 1) := by decide +kernel
theorem dX10_boundFrom_45 : decode cX10_boundFrom 45 = .ok (.invokestatic 117, 3) := by decide +kernel
theorem dX10_boundFrom_48 : decode cX10_boundFrom 48 = .ok (.istore_n 2, 1) := by decide +kernel
theorem dX10_boundFrom_49 : decode cX10_boundFrom 49 = .ok (.iinc 3 1, 3) := by decide +kernel
theorem dX10_boundFrom_52 : decode cX10_boundFrom 52 = .ok (.goto (-48), 3) := by decide +kernel
theorem dX10_boundFrom_55 : decode cX10_boundFrom 55 = .ok (.iload_n 2, 1) := by decide +kernel
theorem dX10_boundFrom_56 : decode cX10_boundFrom 56 = .ok (.ireturn, 1) := by decide +kernel
set_option maxRecDepth 20000 in
theorem ggX10_chooseDays_X10_greatestDay : GoodIn wsX10_chooseDays wsX10_greatestDay := goodIn_r _ [7, 8, 9, 10, 11, 12, 13, 14, 15, 16, 17, 18, 19, 20, 21, 22, 23, 24, 25] (by decide +kernel) (by decide +kernel)
set_option maxRecDepth 20000 in
theorem gX10_chooseDays_X10_greatestDay : GoodIn wsX10_chooseDays (wsV RX10 120 RX10 yX10_greatestDay wsX10_greatestDay) := goodIn_app (goodIn_of _ (by decide +kernel)) ggX10_chooseDays_X10_greatestDay
theorem dX10_chooseDays_0 : decode cX10_chooseDays 0 = .ok (.iconst 0, 1) := by decide +kernel
theorem dX10_chooseDays_1 : decode cX10_chooseDays 1 = .ok (.istore_n 1, 1) := by decide +kernel
theorem dX10_chooseDays_2 : decode cX10_chooseDays 2 = .ok (.iconst 0, 1) := by decide +kernel
theorem dX10_chooseDays_3 : decode cX10_chooseDays 3 = .ok (.istore_n 2, 1) := by decide +kernel
theorem dX10_chooseDays_4 : decode cX10_chooseDays 4 = .ok (.iload_n 2, 1) := by decide +kernel
theorem dX10_chooseDays_5 : decode cX10_chooseDays 5 = .ok (.aload_n 0, 1) := by decide +kernel
theorem dX10_chooseDays_6 : decode cX10_chooseDays 6 = .ok (.getfield 47, 3) := by decide +kernel
theorem dX10_chooseDays_9 : decode cX10_chooseDays 9 = .ok (.if_icmp .ge 35, 3) := by decide +kernel
theorem dX10_chooseDays_12 : decode cX10_chooseDays 12 = .ok (.iload_n 2, 1) := by decide +kernel
theorem dX10_chooseDays_13 : decode cX10_chooseDays 13 = .ok (.bipush 10, 2) := by decide +kernel
theorem dX10_chooseDays_15 : decode cX10_chooseDays 15 = .ok (.if_icmp .ge 29, 3) := by decide +kernel
theorem dX10_chooseDays_18 : decode cX10_chooseDays 18 = .ok (.aload_n 0, 1) := by decide +kernel
theorem dX10_chooseDays_19 : decode cX10_chooseDays 19 = .ok (.getfield 37, 3) := by decide +kernel
theorem dX10_chooseDays_22 : decode cX10_chooseDays 22 = .ok (.iload_n 2, 1) := by decide +kernel
theorem dX10_chooseDays_23 : decode cX10_chooseDays 23 = .ok (.aload_n 0, 1) := by decide +kernel
theorem dX10_chooseDays_24 : decode cX10_chooseDays 24 = .ok (.iload_n 1, 1) := by decide +kernel
theorem dX10_chooseDays_25 : decode cX10_chooseDays 25 = .ok (.invokevirtual 120, 3) := by decide +kernel
theorem dX10_chooseDays_28 : decode cX10_chooseDays 28 = .ok (.iastore, 1) := by decide +kernel
theorem dX10_chooseDays_29 : decode cX10_chooseDays 29 = .ok (.iload_n 1, 1) := by decide +kernel
theorem dX10_chooseDays_30 : decode cX10_chooseDays 30 = .ok (.aload_n 0, 1) := by decide +kernel
theorem dX10_chooseDays_31 : decode cX10_chooseDays 31 = .ok (.getfield 37, 3) := by decide +kernel
theorem dX10_chooseDays_34 : decode cX10_chooseDays 34 = .ok (.iload_n 2, 1) := by decide +kernel
theorem dX10_chooseDays_35 : decode cX10_chooseDays 35 = .ok (.iaload, 1) := by decide +kernel
theorem dX10_chooseDays_36 : decode cX10_chooseDays 36 = .ok (.ior, 1) := by decide +kernel
theorem dX10_chooseDays_37 : decode cX10_chooseDays 37 = .ok (.istore_n 1, 1) := by decide +kernel
theorem dX10_chooseDays_38 : decode cX10_chooseDays 38 = .ok (.iinc 2 1, 3) := by decide +kernel
theorem dX10_chooseDays_41 : decode cX10_chooseDays 41 = .ok (.goto (-37), 3) := by decide +kernel
theorem dX10_chooseDays_44 : decode cX10_chooseDays 44 = .ok (.return_, 1) := by decide +kernel
theorem dX10_greatestDay_0 : decode cX10_greatestDay 0 = .ok (.aload_n 0, 1) := by decide +kernel
theorem dX10_greatestDay_1 : decode cX10_greatestDay 1 = .ok (.getfield 70, 3) := by decide +kernel
theorem dX10_greatestDay_4 : decode cX10_greatestDay 4 = .ok (.iload_n 1, 1) := by decide +kernel
theorem dX10_greatestDay_5 : decode cX10_greatestDay 5 = .ok (.iconst (-1), 1) := by decide +kernel
theorem dX10_greatestDay_6 : decode cX10_greatestDay 6 = .ok (.ixor, 1) := by decide +kernel
theorem dX10_greatestDay_7 : decode cX10_greatestDay 7 = .ok (.iand, 1) := by decide +kernel
theorem dX10_greatestDay_8 : decode cX10_greatestDay 8 = .ok (.istore_n 2, 1) := by decide +kernel
theorem dX10_greatestDay_9 : decode cX10_greatestDay 9 = .ok (.iload_n 2, 1) := by decide +kernel
theorem dX10_greatestDay_10 : decode cX10_greatestDay 10 = .ok (.istore_n 3, 1) := by decide +kernel
theorem dX10_greatestDay_11 : decode cX10_greatestDay 11 = .ok (.iload_n 3, 1) := by decide +kernel
theorem dX10_greatestDay_12 : decode cX10_greatestDay 12 = .ok (.ifCond .le 46, 3) := by decide +kernel
theorem dX10_greatestDay_15 : decode cX10_greatestDay 15 = .ok (.aload_n 0, 1) := by decide +kernel
theorem dX10_greatestDay_16 : decode cX10_greatestDay 16 = .ok (.getfield 31, 3) := by decide +kernel
theorem dX10_greatestDay_19 : decode cX10_greatestDay 19 = .ok (.iload_n 3, 1) := by decide +kernel
theorem dX10_greatestDay_20 : decode cX10_greatestDay 20 = .ok (.iaload, 1) := by decide +kernel
theorem dX10_greatestDay_21 : decode cX10_greatestDay 21 = .ok (.aload_n 0, 1) := by decide +kernel
theorem dX10_greatestDay_22 : decode cX10_greatestDay 22 = .ok (.getfield 9, 3) := by decide +kernel
theorem dX10_greatestDay_25 : decode cX10_greatestDay 25 = .ok (.if_icmp .gt 24, 3) := by decide +kernel
theorem dX10_greatestDay_28 : decode cX10_greatestDay 28 = .ok (.aload_n 0, 1) := by decide +kernel
theorem dX10_greatestDay_29 : decode cX10_greatestDay 29 = .ok (.getfield 34, 3) := by decide +kernel
theorem dX10_greatestDay_32 : decode cX10_greatestDay 32 = .ok (.iload_n 1, 1) := by decide +kernel
theorem dX10_greatestDay_33 : decode cX10_greatestDay 33 = .ok (.iload_n 3, 1) := by decide +kernel
theorem dX10_greatestDay_34 : decode cX10_greatestDay 34 = .ok (.ior, 1) := by decide +kernel
theorem dX10_greatestDay_35 : decode cX10_greatestDay 35 = .ok (.iaload, 1) := by decide +kernel
theorem dX10_greatestDay_36 : decode cX10_greatestDay 36 = .ok (.aload_n 0, 1) := by decide +kernel
theorem dX10_greatestDay_37 : decode cX10_greatestDay 37 = .ok (.getfield 34, 3) := by decide +kernel
theorem dX10_greatestDay_40 : decode cX10_greatestDay 40 = .ok (.iload_n 1, 1) := by decide +kernel
theorem dX10_greatestDay_41 : decode cX10_greatestDay 41 = .ok (.iaload, 1) := by decide +kernel
theorem dX10_greatestDay_42 : decode cX10_greatestDay 42 = .ok (.iconst 1, 1) := by decide +kernel
theorem dX10_greatestDay_43 : decode cX10_greatestDay 43 = .ok (.isub, 1) := by decide +kernel
theorem dX10_greatestDay_44 : decode cX10_greatestDay 44 = .ok (.if_icmp .ne 5, 3) := by decide +kernel
theorem dX10_greatestDay_47 : decode cX10_greatestDay 47 = .ok (.iload_n 3, 1) := by decide +kernel
theorem dX10_greatestDay_48 : decode cX10_greatestDay 48 = .ok (.ireturn, 1) := by decide +kernel
theorem dX10_greatestDay_49 : decode cX10_greatestDay 49 = .ok (.iload_n 3, 1) := by decide +kernel
theorem dX10_greatestDay_50 : decode cX10_greatestDay 50 = .ok (.iconst 1, 1) := by decide +kernel
theorem dX10_greatestDay_51 : decode cX10_greatestDay 51 = .ok (.isub, 1) := by decide +kernel
theorem dX10_greatestDay_52 : decode cX10_greatestDay 52 = .ok (.iload_n 2, 1) := by decide +kernel
theorem dX10_greatestDay_53 : decode cX10_greatestDay 53 = .ok (.iand, 1) := by decide +kernel
theorem dX10_greatestDay_54 : decode cX10_greatestDay 54 = .ok (.istore_n 3, 1) := by decide +kernel
theorem dX10_greatestDay_55 : decode cX10_greatestDay 55 = .ok (.goto (-44), 3) := by decide +kernel
theorem dX10_greatestDay_58 : decode cX10_greatestDay 58 = .ok (.iconst 0, 1) := by decide +kernel
theorem dX10_greatestDay_59 : decode cX10_greatestDay 59 = .ok (.ireturn, 1) := by decide +kernel
set_option maxRecDepth 20000 in
theorem ggX10_orderShapes_J6_bitCount_0f7a4 : GoodIn wsX10_orderShapes wsJ6_bitCount_0f7a4 := goodIn_r _ [8, 9, 10, 11] (by decide +kernel) (by decide +kernel)
set_option maxRecDepth 20000 in
theorem gX10_orderShapes_J6_bitCount_0f7a4 : GoodIn wsX10_orderShapes (va_wsS RX10 123 yJ6_bitCount_0f7a4 wsJ6_bitCount_0f7a4) := goodIn_app (goodIn_of _ (by decide +kernel)) ggX10_orderShapes_J6_bitCount_0f7a4
set_option maxRecDepth 20000 in
theorem ggX10_orderShapes_X10_nextOf : GoodIn wsX10_orderShapes wsX10_nextOf := goodIn_r _ [16, 3, 17, 18, 19, 20, 21, 22, 23, 24, 25, 26, 27, 28, 29, 30, 31, 32, 33, 34, 35, 36] (by decide +kernel) (by decide +kernel)
set_option maxRecDepth 20000 in
theorem gX10_orderShapes_X10_nextOf : GoodIn wsX10_orderShapes (wsV RX10 126 RX10 yX10_nextOf wsX10_nextOf) := goodIn_app (goodIn_of _ (by decide +kernel)) ggX10_orderShapes_X10_nextOf
theorem dX10_orderShapes_0 : decode cX10_orderShapes 0 = .ok (.iconst 0, 1) := by decide +kernel
theorem dX10_orderShapes_1 : decode cX10_orderShapes 1 = .ok (.istore_n 1, 1) := by decide +kernel
theorem dX10_orderShapes_2 : decode cX10_orderShapes 2 = .ok (.iconst 0, 1) := by decide +kernel
theorem dX10_orderShapes_3 : decode cX10_orderShapes 3 = .ok (.istore_n 2, 1) := by decide +kernel
theorem dX10_orderShapes_4 : decode cX10_orderShapes 4 = .ok (.iload_n 2, 1) := by decide +kernel
theorem dX10_orderShapes_5 : decode cX10_orderShapes 5 = .ok (.aload_n 0, 1) := by decide +kernel
theorem dX10_orderShapes_6 : decode cX10_orderShapes 6 = .ok (.getfield 47, 3) := by decide +kernel
theorem dX10_orderShapes_9 : decode cX10_orderShapes 9 = .ok (.if_icmp .ge 74, 3) := by decide +kernel
theorem dX10_orderShapes_12 : decode cX10_orderShapes 12 = .ok (.iload_n 2, 1) := by decide +kernel
theorem dX10_orderShapes_13 : decode cX10_orderShapes 13 = .ok (.bipush 10, 2) := by decide +kernel
theorem dX10_orderShapes_15 : decode cX10_orderShapes 15 = .ok (.if_icmp .ge 68, 3) := by decide +kernel
theorem dX10_orderShapes_18 : decode cX10_orderShapes 18 = .ok (.aload_n 0, 1) := by decide +kernel
theorem dX10_orderShapes_19 : decode cX10_orderShapes 19 = .ok (.getfield 37, 3) := by decide +kernel
theorem dX10_orderShapes_22 : decode cX10_orderShapes 22 = .ok (.iload_n 2, 1) := by decide +kernel
theorem dX10_orderShapes_23 : decode cX10_orderShapes 23 = .ok (.iaload, 1) := by decide +kernel
theorem dX10_orderShapes_24 : decode cX10_orderShapes 24 = .ok (.istore_n 3, 1) := by decide +kernel
theorem dX10_orderShapes_25 : decode cX10_orderShapes 25 = .ok (.iload_n 3, 1) := by decide +kernel
theorem dX10_orderShapes_26 : decode cX10_orderShapes 26 = .ok (.invokestatic 123, 3) := by decide +kernel
theorem dX10_orderShapes_29 : decode cX10_orderShapes 29 = .ok (.istore 4, 2) := by decide +kernel
theorem dX10_orderShapes_31 : decode cX10_orderShapes 31 = .ok (.iload 4, 2) := by decide +kernel
theorem dX10_orderShapes_33 : decode cX10_orderShapes 33 = .ok (.ifCond .le 44, 3) := by decide +kernel
theorem dX10_orderShapes_36 : decode cX10_orderShapes 36 = .ok (.iload_n 1, 1) := by decide +kernel
theorem dX10_orderShapes_37 : decode cX10_orderShapes 37 = .ok (.aload_n 0, 1) := by decide +kernel
theorem dX10_orderShapes_38 : decode cX10_orderShapes 38 = .ok (.getfield 50, 3) := by decide +kernel
theorem dX10_orderShapes_41 : decode cX10_orderShapes 41 = .ok (.if_icmp .ge 36, 3) := by decide +kernel
theorem dX10_orderShapes_44 : decode cX10_orderShapes 44 = .ok (.aload_n 0, 1) := by decide +kernel
theorem dX10_orderShapes_45 : decode cX10_orderShapes 45 = .ok (.iload_n 3, 1) := by decide +kernel
theorem dX10_orderShapes_46 : decode cX10_orderShapes 46 = .ok (.invokevirtual 126, 3) := by decide +kernel
theorem dX10_orderShapes_49 : decode cX10_orderShapes 49 = .ok (.istore 5, 2) := by decide +kernel
theorem dX10_orderShapes_51 : decode cX10_orderShapes 51 = .ok (.aload_n 0, 1) := by decide +kernel
theorem dX10_orderShapes_52 : decode cX10_orderShapes 52 = .ok (.getfield 40, 3) := by decide +kernel
theorem dX10_orderShapes_55 : decode cX10_orderShapes 55 = .ok (.iload_n 1, 1) := by decide +kernel
theorem dX10_orderShapes_56 : decode cX10_orderShapes 56 = .ok (.iinc 1 1, 3) := by decide +kernel
theorem dX10_orderShapes_59 : decode cX10_orderShapes 59 = .ok (.iload 5, 2) := by decide +kernel
theorem dX10_orderShapes_61 : decode cX10_orderShapes 61 = .ok (.iastore, 1) := by decide +kernel
theorem dX10_orderShapes_62 : decode cX10_orderShapes 62 = .ok (.iload_n 3, 1) := by decide +kernel
theorem dX10_orderShapes_63 : decode cX10_orderShapes 63 = .ok (.iconst 1, 1) := by decide +kernel
theorem dX10_orderShapes_64 : decode cX10_orderShapes 64 = .ok (.iload 5, 2) := by decide +kernel
theorem dX10_orderShapes_66 : decode cX10_orderShapes 66 = .ok (.ishl, 1) := by decide +kernel
theorem dX10_orderShapes_67 : decode cX10_orderShapes 67 = .ok (.iconst (-1), 1) := by decide +kernel
theorem dX10_orderShapes_68 : decode cX10_orderShapes 68 = .ok (.ixor, 1) := by decide +kernel
theorem dX10_orderShapes_69 : decode cX10_orderShapes 69 = .ok (.iand, 1) := by decide +kernel
theorem dX10_orderShapes_70 : decode cX10_orderShapes 70 = .ok (.istore_n 3, 1) := by decide +kernel
theorem dX10_orderShapes_71 : decode cX10_orderShapes 71 = .ok (.iinc 4 (-1), 3) := by decide +kernel
theorem dX10_orderShapes_74 : decode cX10_orderShapes 74 = .ok (.goto (-43), 3) := by decide +kernel
theorem dX10_orderShapes_77 : decode cX10_orderShapes 77 = .ok (.iinc 2 1, 3) := by decide +kernel
theorem dX10_orderShapes_80 : decode cX10_orderShapes 80 = .ok (.goto (-76), 3) := by decide +kernel
theorem dX10_orderShapes_83 : decode cX10_orderShapes 83 = .ok (.return_, 1) := by decide +kernel
theorem dX10_nextOf_0 : decode cX10_nextOf 0 = .ok (.iconst (-1), 1) := by decide +kernel
theorem dX10_nextOf_1 : decode cX10_nextOf 1 = .ok (.istore_n 2, 1) := by decide +kernel
theorem dX10_nextOf_2 : decode cX10_nextOf 2 = .ok (.iconst 0, 1) := by decide +kernel
theorem dX10_nextOf_3 : decode cX10_nextOf 3 = .ok (.istore_n 3, 1) := by decide +kernel
theorem dX10_nextOf_4 : decode cX10_nextOf 4 = .ok (.iload_n 3, 1) := by decide +kernel
theorem dX10_nextOf_5 : decode cX10_nextOf 5 = .ok (.aload_n 0, 1) := by decide +kernel
theorem dX10_nextOf_6 : decode cX10_nextOf 6 = .ok (.getfield 50, 3) := by decide +kernel
theorem dX10_nextOf_9 : decode cX10_nextOf 9 = .ok (.if_icmp .ge 61, 3) := by decide +kernel
theorem dX10_nextOf_12 : decode cX10_nextOf 12 = .ok (.iload_n 1, 1) := by decide +kernel
theorem dX10_nextOf_13 : decode cX10_nextOf 13 = .ok (.iload_n 3, 1) := by decide +kernel
theorem dX10_nextOf_14 : decode cX10_nextOf 14 = .ok (.ishr, 1) := by decide +kernel
theorem dX10_nextOf_15 : decode cX10_nextOf 15 = .ok (.iconst 1, 1) := by decide +kernel
theorem dX10_nextOf_16 : decode cX10_nextOf 16 = .ok (.iand, 1) := by decide +kernel
theorem dX10_nextOf_17 : decode cX10_nextOf 17 = .ok (.ifCond .eq 18, 3) := by decide +kernel
theorem dX10_nextOf_20 : decode cX10_nextOf 20 = .ok (.aload_n 0, 1) := by decide +kernel
theorem dX10_nextOf_21 : decode cX10_nextOf 21 = .ok (.getfield 15, 3) := by decide +kernel
theorem dX10_nextOf_24 : decode cX10_nextOf 24 = .ok (.iload_n 3, 1) := by decide +kernel
theorem dX10_nextOf_25 : decode cX10_nextOf 25 = .ok (.iaload, 1) := by decide +kernel
theorem dX10_nextOf_26 : decode cX10_nextOf 26 = .ok (.iload_n 1, 1) := by decide +kernel
theorem dX10_nextOf_27 : decode cX10_nextOf 27 = .ok (.iand, 1) := by decide +kernel
theorem dX10_nextOf_28 : decode cX10_nextOf 28 = .ok (.ifCond .ne 7, 3) := by decide +kernel
theorem dX10_nextOf_31 : decode cX10_nextOf 31 = .ok (.iconst 1, 1) := by decide +kernel
theorem dX10_nextOf_32 : decode cX10_nextOf 32 = .ok (.goto 4, 3) := by decide +kernel
theorem dX10_nextOf_35 : decode cX10_nextOf 35 = .ok (.iconst 0, 1) := by decide +kernel
theorem dX10_nextOf_36 : decode cX10_nextOf 36 = .ok (.istore 4, 2) := by decide +kernel
theorem dX10_nextOf_38 : decode cX10_nextOf 38 = .ok (.iload 4, 2) := by decide +kernel
theorem dX10_nextOf_40 : decode cX10_nextOf 40 = .ok (.ifCond .eq 24, 3) := by decide +kernel
theorem dX10_nextOf_43 : decode cX10_nextOf 43 = .ok (.iload_n 2, 1) := by decide +kernel
theorem dX10_nextOf_44 : decode cX10_nextOf 44 = .ok (.ifCond .lt 18, 3) := by decide +kernel
theorem dX10_nextOf_47 : decode cX10_nextOf 47 = .ok (.aload_n 0, 1) := by decide +kernel
theorem dX10_nextOf_48 : decode cX10_nextOf 48 = .ok (.getfield 22, 3) := by decide +kernel
theorem dX10_nextOf_51 : decode cX10_nextOf 51 = .ok (.iload_n 3, 1) := by decide +kernel
theorem dX10_nextOf_52 : decode cX10_nextOf 52 = .ok (.iaload, 1) := by decide +kernel
theorem dX10_nextOf_53 : decode cX10_nextOf 53 = .ok (.aload_n 0, 1) := by decide +kernel
theorem dX10_nextOf_54 : decode cX10_nextOf 54 = .ok (.getfield 22, 3) := by decide +kernel
theorem dX10_nextOf_57 : decode cX10_nextOf 57 = .ok (.iload_n 2, 1) := by decide +kernel
theorem dX10_nextOf_58 : decode cX10_nextOf 58 = .ok (.iaload, 1) := by decide +kernel
theorem dX10_nextOf_59 : decode cX10_nextOf 59 = .ok (.if_icmp .ge 5, 3) := by decide +kernel
theorem dX10_nextOf_62 : decode cX10_nextOf 62 = .ok (.iload_n 3, 1) := by decide +kernel
theorem dX10_nextOf_63 : decode cX10_nextOf 63 = .ok (.istore_n 2, 1) := by decide +kernel
theorem dX10_nextOf_64 : decode cX10_nextOf 64 = .ok (.iinc 3 1, 3) := by decide +kernel
theorem dX10_nextOf_67 : decode cX10_nextOf 67 = .ok (.goto (-63), 3) := by decide +kernel
theorem dX10_nextOf_70 : decode cX10_nextOf 70 = .ok (.iload_n 2, 1) := by decide +kernel
theorem dX10_nextOf_71 : decode cX10_nextOf 71 = .ok (.iconst 0, 1) := by decide +kernel
theorem dX10_nextOf_72 : decode cX10_nextOf 72 = .ok (.invokestatic 117, 3) := by decide +kernel
theorem dX10_nextOf_75 : decode cX10_nextOf 75 = .ok (.ireturn, 1) := by decide +kernel
set_option maxRecDepth 20000 in
theorem ggX11_init_X4_init : GoodIn wsX11_init wsX4_init := goodIn_r _ [25, 26, 2, 3, 27, 28, 29, 30, 60, 61, 62] (by decide +kernel) (by decide +kernel)
set_option maxRecDepth 20000 in
theorem gX11_init_X4_init_n9 : GoodIn wsX11_init (wsX4_init) := ggX11_init_X4_init
set_option maxRecDepth 20000 in
theorem ggX11_init_X10_init : GoodIn wsX11_init wsX10_init := goodIn_r _ [32, 33, 2, 3, 34, 29, 35, 36, 37, 38, 39, 40, 41, 42, 43, 68, 69, 70, 71, 72, 73, 74, 75, 76, 77, 78, 79, 80, 81] (by decide +kernel) (by decide +kernel)
set_option maxRecDepth 20000 in
theorem gX11_init_X10_init_n18 : GoodIn wsX11_init (wsX10_init) := ggX11_init_X10_init
set_option maxRecDepth 20000 in
theorem ggX11_init_X3_init : GoodIn wsX11_init wsX3_init := goodIn_r _ [45, 46, 2, 3, 29, 47, 48, 82, 83] (by decide +kernel) (by decide +kernel)
set_option maxRecDepth 20000 in
theorem gX11_init_X3_init_n25 : GoodIn wsX11_init (wsX3_init) := ggX11_init_X3_init
set_option maxRecDepth 20000 in
theorem ggX11_init_X9_init : GoodIn wsX11_init wsX9_init := goodIn_r _ [50, 51, 2, 3, 52, 29, 53, 54, 84, 85, 86] (by decide +kernel) (by decide +kernel)
set_option maxRecDepth 20000 in
theorem gX11_init_X9_init_n32 : GoodIn wsX11_init (wsX9_init) := ggX11_init_X9_init
set_option maxRecDepth 20000 in
theorem ggX11_init_X7_init : GoodIn wsX11_init wsX7_init := goodIn_r _ [56, 57, 2, 3, 29, 58, 59, 87, 88, 89] (by decide +kernel) (by decide +kernel)
set_option maxRecDepth 20000 in
theorem gX11_init_X7_init_n43 : GoodIn wsX11_init (wsX7_init) := ggX11_init_X7_init
theorem dX11_init_0 : decode cX11_init 0 = .ok (.aload_n 0, 1) := by decide +kernel
theorem dX11_init_1 : decode cX11_init 1 = .ok (.invokespecial 1, 3) := by decide +kernel
theorem dX11_init_4 : decode cX11_init 4 = .ok (.aload_n 0, 1) := by decide +kernel
theorem dX11_init_5 : decode cX11_init 5 = .ok (.new 7, 3) := by decide +kernel
theorem dX11_init_8 : decode cX11_init 8 = .ok (.dup, 1) := by decide +kernel
theorem dX11_init_9 : decode cX11_init 9 = .ok (.invokespecial 9, 3) := by decide +kernel
theorem dX11_init_12 : decode cX11_init 12 = .ok (.putfield 10, 3) := by decide +kernel
theorem dX11_init_15 : decode cX11_init 15 = .ok (.aload_n 0, 1) := by decide +kernel
theorem dX11_init_16 : decode cX11_init 16 = .ok (.new 16, 3) := by decide +kernel
theorem dX11_init_19 : decode cX11_init 19 = .ok (.dup, 1) := by decide +kernel
theorem dX11_init_20 : decode cX11_init 20 = .ok (.invokespecial 18, 3) := by decide +kernel
theorem dX11_init_23 : decode cX11_init 23 = .ok (.putfield 19, 3) := by decide +kernel
theorem dX11_init_26 : decode cX11_init 26 = .ok (.aload_n 0, 1) := by decide +kernel
theorem dX11_init_27 : decode cX11_init 27 = .ok (.new 23, 3) := by decide +kernel
theorem dX11_init_30 : decode cX11_init 30 = .ok (.dup, 1) := by decide +kernel
theorem dX11_init_31 : decode cX11_init 31 = .ok (.invokespecial 25, 3) := by decide +kernel
theorem dX11_init_34 : decode cX11_init 34 = .ok (.putfield 26, 3) := by decide +kernel
theorem dX11_init_37 : decode cX11_init 37 = .ok (.aload_n 0, 1) := by decide +kernel
theorem dX11_init_38 : decode cX11_init 38 = .ok (.new 30, 3) := by decide +kernel
theorem dX11_init_41 : decode cX11_init 41 = .ok (.dup, 1) := by decide +kernel
theorem dX11_init_42 : decode cX11_init 42 = .ok (.invokespecial 32, 3) := by decide +kernel
theorem dX11_init_45 : decode cX11_init 45 = .ok (.putfield 33, 3) := by decide +kernel
theorem dX11_init_48 : decode cX11_init 48 = .ok (.aload_n 0, 1) := by decide +kernel
theorem dX11_init_49 : decode cX11_init 49 = .ok (.iconst 4, 1) := by decide +kernel
theorem dX11_init_50 : decode cX11_init 50 = .ok (.anewarray 37, 3) := by decide +kernel
theorem dX11_init_53 : decode cX11_init 53 = .ok (.putfield 39, 3) := by decide +kernel
theorem dX11_init_56 : decode cX11_init 56 = .ok (.iconst 0, 1) := by decide +kernel
theorem dX11_init_57 : decode cX11_init 57 = .ok (.istore_n 1, 1) := by decide +kernel
theorem dX11_init_58 : decode cX11_init 58 = .ok (.iload_n 1, 1) := by decide +kernel
theorem dX11_init_59 : decode cX11_init 59 = .ok (.iconst 4, 1) := by decide +kernel
theorem dX11_init_60 : decode cX11_init 60 = .ok (.if_icmp .ge 22, 3) := by decide +kernel
theorem dX11_init_63 : decode cX11_init 63 = .ok (.aload_n 0, 1) := by decide +kernel
theorem dX11_init_64 : decode cX11_init 64 = .ok (.getfield 39, 3) := by decide +kernel
theorem dX11_init_67 : decode cX11_init 67 = .ok (.iload_n 1, 1) := by decide +kernel
theorem dX11_init_68 : decode cX11_init 68 = .ok (.new 37, 3) := by decide +kernel
theorem dX11_init_71 : decode cX11_init 71 = .ok (.dup, 1) := by decide +kernel
theorem dX11_init_72 : decode cX11_init 72 = .ok (.invokespecial 43, 3) := by decide +kernel
theorem dX11_init_75 : decode cX11_init 75 = .ok (.aastore, 1) := by decide +kernel
theorem dX11_init_76 : decode cX11_init 76 = .ok (.iinc 1 1, 3) := by decide +kernel
theorem dX11_init_79 : decode cX11_init 79 = .ok (.goto (-21), 3) := by decide +kernel
theorem dX11_init_82 : decode cX11_init 82 = .ok (.return_, 1) := by decide +kernel
set_option maxRecDepth 20000 in
theorem ggX11_disc_X11_isSand : GoodIn wsX11_disc wsX11_isSand := goodIn_r _ [7, 8, 9, 6, 10] (by decide +kernel) (by decide +kernel)
set_option maxRecDepth 20000 in
theorem gX11_disc_X11_isSand : GoodIn wsX11_disc (va_wsS RX11 44 yX11_isSand wsX11_isSand) := goodIn_app (goodIn_of _ (by decide +kernel)) ggX11_disc_X11_isSand
set_option maxRecDepth 20000 in
theorem ggX11_disc_X11_within : GoodIn wsX11_disc wsX11_within := goodIn_r _ [10] (by decide +kernel) (by decide +kernel)
set_option maxRecDepth 20000 in
theorem gX11_disc_X11_within : GoodIn wsX11_disc (va_wsS RX11 48 yX11_within wsX11_within) := goodIn_app (goodIn_of _ (by decide +kernel)) ggX11_disc_X11_within
set_option maxRecDepth 20000 in
theorem ggX11_disc_X1_init : GoodIn wsX11_disc wsX1_init := goodIn_r _ [13, 14, 15, 3, 16, 17, 18, 19, 20, 21, 22, 23, 24, 25, 52, 53, 50, 51, 54, 55, 56, 57, 58, 59, 60] (by decide +kernel) (by decide +kernel)
set_option maxRecDepth 20000 in
theorem gX11_disc_X1_init : GoodIn wsX11_disc (wsX1_init) := ggX11_disc_X1_init
set_option maxRecDepth 20000 in
theorem ggX11_disc_X11_put : GoodIn wsX11_disc wsX11_put := goodIn_r _ [29, 30, 31, 32, 33, 34, 35, 36, 37, 38, 39, 40, 41, 42, 43, 44, 45, 46, 47, 48, 49, 61, 62, 63, 64, 65, 66, 67, 68, 69, 70, 71, 72, 73, 74, 75, 76, 77, 78, 79, 80, 81, 82] (by decide +kernel) (by decide +kernel)
set_option maxRecDepth 20000 in
theorem gX11_disc_X11_put : GoodIn wsX11_disc (wsV RX11 57 RX11 yX11_put wsX11_put) := goodIn_app (goodIn_of _ (by decide +kernel)) ggX11_disc_X11_put
theorem dX11_disc_0 : decode cX11_disc 0 = .ok (.iload_n 1, 1) := by decide +kernel
theorem dX11_disc_1 : decode cX11_disc 1 = .ok (.invokestatic 44, 3) := by decide +kernel
theorem dX11_disc_4 : decode cX11_disc 4 = .ok (.ifCond .eq 14, 3) := by decide +kernel
theorem dX11_disc_7 : decode cX11_disc 7 = .ok (.iload_n 2, 1) := by decide +kernel
theorem dX11_disc_8 : decode cX11_disc 8 = .ok (.iconst 1, 1) := by decide +kernel
theorem dX11_disc_9 : decode cX11_disc 9 = .ok (.sipush 450, 3) := by decide +kernel
theorem dX11_disc_12 : decode cX11_disc 12 = .ok (.invokestatic 48, 3) := by decide +kernel
theorem dX11_disc_15 : decode cX11_disc 15 = .ok (.ifCond .ne 5, 3) := by decide +kernel
theorem dX11_disc_18 : decode cX11_disc 18 = .ok (.iconst (-1), 1) := by decide +kernel
theorem dX11_disc_19 : decode cX11_disc 19 = .ok (.ireturn, 1) := by decide +kernel
theorem dX11_disc_20 : decode cX11_disc 20 = .ok (.aload_n 0, 1) := by decide +kernel
theorem dX11_disc_21 : decode cX11_disc 21 = .ok (.new 52, 3) := by decide +kernel
theorem dX11_disc_24 : decode cX11_disc 24 = .ok (.dup, 1) := by decide +kernel
theorem dX11_disc_25 : decode cX11_disc 25 = .ok (.iload_n 1, 1) := by decide +kernel
theorem dX11_disc_26 : decode cX11_disc 26 = .ok (.iload_n 2, 1) := by decide +kernel
theorem dX11_disc_27 : decode cX11_disc 27 = .ok (.invokespecial 54, 3) := by decide +kernel
theorem dX11_disc_30 : decode cX11_disc 30 = .ok (.invokevirtual 57, 3) := by decide +kernel
theorem dX11_disc_33 : decode cX11_disc 33 = .ok (.ireturn, 1) := by decide +kernel
set_option maxRecDepth 20000 in
theorem ggX11_rim_X11_isSand : GoodIn wsX11_rim wsX11_isSand := goodIn_r _ [7, 8, 9, 6, 10] (by decide +kernel) (by decide +kernel)
set_option maxRecDepth 20000 in
theorem gX11_rim_X11_isSand : GoodIn wsX11_rim (va_wsS RX11 44 yX11_isSand wsX11_isSand) := goodIn_app (goodIn_of _ (by decide +kernel)) ggX11_rim_X11_isSand
set_option maxRecDepth 20000 in
theorem ggX11_rim_X11_within : GoodIn wsX11_rim wsX11_within := goodIn_r _ [10] (by decide +kernel) (by decide +kernel)
set_option maxRecDepth 20000 in
theorem gX11_rim_X11_within : GoodIn wsX11_rim (va_wsS RX11 48 yX11_within wsX11_within) := goodIn_app (goodIn_of _ (by decide +kernel)) ggX11_rim_X11_within
set_option maxRecDepth 20000 in
theorem ggX11_rim_X5_init : GoodIn wsX11_rim wsX5_init := goodIn_r _ [13, 14, 15, 3, 16, 17, 18, 19, 20, 21, 22, 23, 24, 25, 26, 27, 28, 29, 56, 57, 58, 59, 60, 61, 54, 55, 62, 63, 64] (by decide +kernel) (by decide +kernel)
set_option maxRecDepth 20000 in
theorem gX11_rim_X5_init : GoodIn wsX11_rim (wsX5_init) := ggX11_rim_X5_init
set_option maxRecDepth 20000 in
theorem ggX11_rim_X11_put : GoodIn wsX11_rim wsX11_put := goodIn_r _ [33, 34, 35, 36, 37, 38, 39, 40, 41, 42, 43, 44, 45, 46, 47, 48, 49, 50, 51, 52, 53, 65, 66, 67, 68, 69, 70, 71, 72, 73, 74, 75, 76, 77, 78, 79, 80, 81, 82, 83, 84, 85, 86] (by decide +kernel) (by decide +kernel)
set_option maxRecDepth 20000 in
theorem gX11_rim_X11_put : GoodIn wsX11_rim (wsV RX11 57 RX11 yX11_put wsX11_put) := goodIn_app (goodIn_of _ (by decide +kernel)) ggX11_rim_X11_put
theorem dX11_rim_0 : decode cX11_rim 0 = .ok (.iload_n 1, 1) := by decide +kernel
theorem dX11_rim_1 : decode cX11_rim 1 = .ok (.invokestatic 44, 3) := by decide +kernel
theorem dX11_rim_4 : decode cX11_rim 4 = .ok (.ifCond .eq 13, 3) := by decide +kernel
theorem dX11_rim_7 : decode cX11_rim 7 = .ok (.iload_n 2, 1) := by decide +kernel
theorem dX11_rim_8 : decode cX11_rim 8 = .ok (.iconst 0, 1) := by decide +kernel
theorem dX11_rim_9 : decode cX11_rim 9 = .ok (.bipush 7, 2) := by decide +kernel
theorem dX11_rim_11 : decode cX11_rim 11 = .ok (.invokestatic 48, 3) := by decide +kernel
theorem dX11_rim_14 : decode cX11_rim 14 = .ok (.ifCond .ne 5, 3) := by decide +kernel
theorem dX11_rim_17 : decode cX11_rim 17 = .ok (.iconst (-1), 1) := by decide +kernel
theorem dX11_rim_18 : decode cX11_rim 18 = .ok (.ireturn, 1) := by decide +kernel
theorem dX11_rim_19 : decode cX11_rim 19 = .ok (.aload_n 0, 1) := by decide +kernel
theorem dX11_rim_20 : decode cX11_rim 20 = .ok (.new 61, 3) := by decide +kernel
theorem dX11_rim_23 : decode cX11_rim 23 = .ok (.dup, 1) := by decide +kernel
theorem dX11_rim_24 : decode cX11_rim 24 = .ok (.iload_n 1, 1) := by decide +kernel
theorem dX11_rim_25 : decode cX11_rim 25 = .ok (.iload_n 2, 1) := by decide +kernel
theorem dX11_rim_26 : decode cX11_rim 26 = .ok (.invokespecial 63, 3) := by decide +kernel
theorem dX11_rim_29 : decode cX11_rim 29 = .ok (.invokevirtual 57, 3) := by decide +kernel
theorem dX11_rim_32 : decode cX11_rim 32 = .ok (.ireturn, 1) := by decide +kernel
set_option maxRecDepth 20000 in
theorem ggX11_line_X11_isSand : GoodIn wsX11_line wsX11_isSand := goodIn_r _ [7, 8, 9, 6, 10] (by decide +kernel) (by decide +kernel)
set_option maxRecDepth 20000 in
theorem gX11_line_X11_isSand : GoodIn wsX11_line (va_wsS RX11 44 yX11_isSand wsX11_isSand) := goodIn_app (goodIn_of _ (by decide +kernel)) ggX11_line_X11_isSand
set_option maxRecDepth 20000 in
theorem ggX11_line_X11_arePlaces : GoodIn wsX11_line wsX11_arePlaces := goodIn_r _ [13, 8, 9, 6, 10] (by decide +kernel) (by decide +kernel)
set_option maxRecDepth 20000 in
theorem gX11_line_X11_arePlaces : GoodIn wsX11_line (va_wsS RX11 64 yX11_arePlaces wsX11_arePlaces) := goodIn_app (goodIn_of _ (by decide +kernel)) ggX11_line_X11_arePlaces
set_option maxRecDepth 20000 in
theorem ggX11_line_X2_init : GoodIn wsX11_line wsX2_init := goodIn_r _ [16, 17, 18, 3, 19, 20, 21, 22, 23, 24, 25, 26, 27, 28, 29, 30, 31, 32, 33, 34, 35, 36, 37, 38, 65, 66, 67, 68, 63, 64, 69, 70, 71, 72, 73] (by decide +kernel) (by decide +kernel)
set_option maxRecDepth 20000 in
theorem gX11_line_X2_init : GoodIn wsX11_line (wsX2_init) := ggX11_line_X2_init
set_option maxRecDepth 20000 in
theorem ggX11_line_X11_put : GoodIn wsX11_line wsX11_put := goodIn_r _ [42, 43, 44, 45, 46, 47, 48, 49, 50, 51, 52, 53, 54, 55, 56, 57, 58, 59, 60, 61, 62, 74, 75, 76, 77, 78, 79, 80, 81, 82, 83, 84, 85, 86, 87, 88, 89, 90, 91, 92, 93, 94, 95] (by decide +kernel) (by decide +kernel)
set_option maxRecDepth 20000 in
theorem gX11_line_X11_put : GoodIn wsX11_line (wsV RX11 57 RX11 yX11_put wsX11_put) := goodIn_app (goodIn_of _ (by decide +kernel)) ggX11_line_X11_put
theorem dX11_line_0 : decode cX11_line 0 = .ok (.iload_n 1, 1) := by decide +kernel
theorem dX11_line_1 : decode cX11_line 1 = .ok (.invokestatic 44, 3) := by decide +kernel
theorem dX11_line_4 : decode cX11_line 4 = .ok (.ifCond .eq 15, 3) := by decide +kernel
theorem dX11_line_7 : decode cX11_line 7 = .ok (.iload_n 2, 1) := by decide +kernel
theorem dX11_line_8 : decode cX11_line 8 = .ok (.iload_n 3, 1) := by decide +kernel
theorem dX11_line_9 : decode cX11_line 9 = .ok (.iload 4, 2) := by decide +kernel
theorem dX11_line_11 : decode cX11_line 11 = .ok (.iload 5, 2) := by decide +kernel
theorem dX11_line_13 : decode cX11_line 13 = .ok (.invokestatic 64, 3) := by decide +kernel
theorem dX11_line_16 : decode cX11_line 16 = .ok (.ifCond .ne 5, 3) := by decide +kernel
theorem dX11_line_19 : decode cX11_line 19 = .ok (.iconst (-1), 1) := by decide +kernel
theorem dX11_line_20 : decode cX11_line 20 = .ok (.ireturn, 1) := by decide +kernel
theorem dX11_line_21 : decode cX11_line 21 = .ok (.aload_n 0, 1) := by decide +kernel
theorem dX11_line_22 : decode cX11_line 22 = .ok (.new 68, 3) := by decide +kernel
theorem dX11_line_25 : decode cX11_line 25 = .ok (.dup, 1) := by decide +kernel
theorem dX11_line_26 : decode cX11_line 26 = .ok (.iload_n 1, 1) := by decide +kernel
theorem dX11_line_27 : decode cX11_line 27 = .ok (.iload_n 2, 1) := by decide +kernel
theorem dX11_line_28 : decode cX11_line 28 = .ok (.iload_n 3, 1) := by decide +kernel
theorem dX11_line_29 : decode cX11_line 29 = .ok (.iload 4, 2) := by decide +kernel
theorem dX11_line_31 : decode cX11_line 31 = .ok (.iload 5, 2) := by decide +kernel
theorem dX11_line_33 : decode cX11_line 33 = .ok (.invokespecial 70, 3) := by decide +kernel
theorem dX11_line_36 : decode cX11_line 36 = .ok (.invokevirtual 57, 3) := by decide +kernel
theorem dX11_line_39 : decode cX11_line 39 = .ok (.ireturn, 1) := by decide +kernel
set_option maxRecDepth 20000 in
theorem ggX11_block_X11_isSand : GoodIn wsX11_block wsX11_isSand := goodIn_r _ [7, 8, 9, 6, 10] (by decide +kernel) (by decide +kernel)
set_option maxRecDepth 20000 in
theorem gX11_block_X11_isSand : GoodIn wsX11_block (va_wsS RX11 44 yX11_isSand wsX11_isSand) := goodIn_app (goodIn_of _ (by decide +kernel)) ggX11_block_X11_isSand
set_option maxRecDepth 20000 in
theorem ggX11_block_X11_arePlaces : GoodIn wsX11_block wsX11_arePlaces := goodIn_r _ [13, 8, 9, 6, 10] (by decide +kernel) (by decide +kernel)
set_option maxRecDepth 20000 in
theorem gX11_block_X11_arePlaces : GoodIn wsX11_block (va_wsS RX11 64 yX11_arePlaces wsX11_arePlaces) := goodIn_app (goodIn_of _ (by decide +kernel)) ggX11_block_X11_arePlaces
set_option maxRecDepth 20000 in
theorem ggX11_block_X0_init : GoodIn wsX11_block wsX0_init := goodIn_r _ [16, 17, 18, 3, 19, 20, 21, 22, 23, 24, 25, 26, 27, 28, 29, 30, 31, 32, 33, 34, 35, 60, 61, 62, 63, 64, 65, 66, 67, 68, 69, 70] (by decide +kernel) (by decide +kernel)
set_option maxRecDepth 20000 in
theorem gX11_block_X0_init : GoodIn wsX11_block (wsX0_init) := ggX11_block_X0_init
set_option maxRecDepth 20000 in
theorem ggX11_block_X11_put : GoodIn wsX11_block wsX11_put := goodIn_r _ [39, 40, 41, 42, 43, 44, 45, 46, 47, 48, 49, 50, 51, 52, 53, 54, 55, 56, 57, 58, 59, 71, 72, 73, 74, 75, 76, 77, 78, 79, 80, 81, 82, 83, 84, 85, 86, 87, 88, 89, 90, 91, 92] (by decide +kernel) (by decide +kernel)
set_option maxRecDepth 20000 in
theorem gX11_block_X11_put : GoodIn wsX11_block (wsV RX11 57 RX11 yX11_put wsX11_put) := goodIn_app (goodIn_of _ (by decide +kernel)) ggX11_block_X11_put
theorem dX11_block_0 : decode cX11_block 0 = .ok (.iload_n 1, 1) := by decide +kernel
theorem dX11_block_1 : decode cX11_block 1 = .ok (.invokestatic 44, 3) := by decide +kernel
theorem dX11_block_4 : decode cX11_block 4 = .ok (.ifCond .eq 15, 3) := by decide +kernel
theorem dX11_block_7 : decode cX11_block 7 = .ok (.iload_n 2, 1) := by decide +kernel
theorem dX11_block_8 : decode cX11_block 8 = .ok (.iload_n 3, 1) := by decide +kernel
theorem dX11_block_9 : decode cX11_block 9 = .ok (.iload 4, 2) := by decide +kernel
theorem dX11_block_11 : decode cX11_block 11 = .ok (.iload 5, 2) := by decide +kernel
theorem dX11_block_13 : decode cX11_block 13 = .ok (.invokestatic 64, 3) := by decide +kernel
theorem dX11_block_16 : decode cX11_block 16 = .ok (.ifCond .ne 5, 3) := by decide +kernel
theorem dX11_block_19 : decode cX11_block 19 = .ok (.iconst (-1), 1) := by decide +kernel
theorem dX11_block_20 : decode cX11_block 20 = .ok (.ireturn, 1) := by decide +kernel
theorem dX11_block_21 : decode cX11_block 21 = .ok (.aload_n 0, 1) := by decide +kernel
theorem dX11_block_22 : decode cX11_block 22 = .ok (.new 73, 3) := by decide +kernel
theorem dX11_block_25 : decode cX11_block 25 = .ok (.dup, 1) := by decide +kernel
theorem dX11_block_26 : decode cX11_block 26 = .ok (.iload_n 1, 1) := by decide +kernel
theorem dX11_block_27 : decode cX11_block 27 = .ok (.iload_n 2, 1) := by decide +kernel
theorem dX11_block_28 : decode cX11_block 28 = .ok (.iload_n 3, 1) := by decide +kernel
theorem dX11_block_29 : decode cX11_block 29 = .ok (.iload 4, 2) := by decide +kernel
theorem dX11_block_31 : decode cX11_block 31 = .ok (.iload 5, 2) := by decide +kernel
theorem dX11_block_33 : decode cX11_block 33 = .ok (.invokespecial 75, 3) := by decide +kernel
theorem dX11_block_36 : decode cX11_block 36 = .ok (.invokevirtual 57, 3) := by decide +kernel
theorem dX11_block_39 : decode cX11_block 39 = .ok (.ireturn, 1) := by decide +kernel
set_option maxRecDepth 20000 in
theorem ggX11_sign_X11_isSand : GoodIn wsX11_sign wsX11_isSand := goodIn_r _ [7, 8, 9, 6, 10] (by decide +kernel) (by decide +kernel)
set_option maxRecDepth 20000 in
theorem gX11_sign_X11_isSand : GoodIn wsX11_sign (va_wsS RX11 44 yX11_isSand wsX11_isSand) := goodIn_app (goodIn_of _ (by decide +kernel)) ggX11_sign_X11_isSand
set_option maxRecDepth 20000 in
theorem ggX11_sign_X11_arePlaces : GoodIn wsX11_sign wsX11_arePlaces := goodIn_r _ [13, 8, 9, 6, 10] (by decide +kernel) (by decide +kernel)
set_option maxRecDepth 20000 in
theorem gX11_sign_X11_arePlaces : GoodIn wsX11_sign (va_wsS RX11 64 yX11_arePlaces wsX11_arePlaces) := goodIn_app (goodIn_of _ (by decide +kernel)) ggX11_sign_X11_arePlaces
set_option maxRecDepth 20000 in
theorem ggX11_sign_X11_within : GoodIn wsX11_sign wsX11_within := goodIn_r _ [10] (by decide +kernel) (by decide +kernel)
set_option maxRecDepth 20000 in
theorem gX11_sign_X11_within : GoodIn wsX11_sign (va_wsS RX11 48 yX11_within wsX11_within) := goodIn_app (goodIn_of _ (by decide +kernel)) ggX11_sign_X11_within
set_option maxRecDepth 20000 in
theorem ggX11_sign_X8_init : GoodIn wsX11_sign wsX8_init := goodIn_r _ [16, 17, 18, 19, 20, 21, 22, 23, 24, 25, 26, 27, 28, 29, 30, 31, 32, 33, 34, 35, 36, 37, 38, 39, 40, 65, 66, 67, 68, 69, 70, 71, 72, 73, 74, 75] (by decide +kernel) (by decide +kernel)
set_option maxRecDepth 20000 in
theorem gX11_sign_X8_init : GoodIn wsX11_sign (wsX8_init) := ggX11_sign_X8_init
set_option maxRecDepth 20000 in
theorem ggX11_sign_X11_put : GoodIn wsX11_sign wsX11_put := goodIn_r _ [44, 45, 46, 47, 48, 49, 50, 51, 52, 53, 54, 55, 56, 57, 58, 59, 60, 61, 62, 63, 64, 76, 77, 78, 79, 80, 81, 82, 83, 84, 85, 86, 87, 88, 89, 90, 91, 92, 93, 94, 95, 96, 97] (by decide +kernel) (by decide +kernel)
set_option maxRecDepth 20000 in
theorem gX11_sign_X11_put : GoodIn wsX11_sign (wsV RX11 57 RX11 yX11_put wsX11_put) := goodIn_app (goodIn_of _ (by decide +kernel)) ggX11_sign_X11_put
theorem dX11_sign_0 : decode cX11_sign 0 = .ok (.iload_n 1, 1) := by decide +kernel
theorem dX11_sign_1 : decode cX11_sign 1 = .ok (.invokestatic 44, 3) := by decide +kernel
theorem dX11_sign_4 : decode cX11_sign 4 = .ok (.ifCond .eq 26, 3) := by decide +kernel
theorem dX11_sign_7 : decode cX11_sign 7 = .ok (.iload_n 2, 1) := by decide +kernel
theorem dX11_sign_8 : decode cX11_sign 8 = .ok (.iload_n 3, 1) := by decide +kernel
theorem dX11_sign_9 : decode cX11_sign 9 = .ok (.iload 4, 2) := by decide +kernel
theorem dX11_sign_11 : decode cX11_sign 11 = .ok (.iload 5, 2) := by decide +kernel
theorem dX11_sign_13 : decode cX11_sign 13 = .ok (.invokestatic 64, 3) := by decide +kernel
theorem dX11_sign_16 : decode cX11_sign 16 = .ok (.ifCond .eq 14, 3) := by decide +kernel
theorem dX11_sign_19 : decode cX11_sign 19 = .ok (.iload 6, 2) := by decide +kernel
theorem dX11_sign_21 : decode cX11_sign 21 = .ok (.iconst 0, 1) := by decide +kernel
theorem dX11_sign_22 : decode cX11_sign 22 = .ok (.bipush 8, 2) := by decide +kernel
theorem dX11_sign_24 : decode cX11_sign 24 = .ok (.invokestatic 48, 3) := by decide +kernel
theorem dX11_sign_27 : decode cX11_sign 27 = .ok (.ifCond .ne 5, 3) := by decide +kernel
theorem dX11_sign_30 : decode cX11_sign 30 = .ok (.iconst (-1), 1) := by decide +kernel
theorem dX11_sign_31 : decode cX11_sign 31 = .ok (.ireturn, 1) := by decide +kernel
theorem dX11_sign_32 : decode cX11_sign 32 = .ok (.aload_n 0, 1) := by decide +kernel
theorem dX11_sign_33 : decode cX11_sign 33 = .ok (.new 76, 3) := by decide +kernel
theorem dX11_sign_36 : decode cX11_sign 36 = .ok (.dup, 1) := by decide +kernel
theorem dX11_sign_37 : decode cX11_sign 37 = .ok (.iload_n 1, 1) := by decide +kernel
theorem dX11_sign_38 : decode cX11_sign 38 = .ok (.iload_n 2, 1) := by decide +kernel
theorem dX11_sign_39 : decode cX11_sign 39 = .ok (.iload_n 3, 1) := by decide +kernel
theorem dX11_sign_40 : decode cX11_sign 40 = .ok (.iload 4, 2) := by decide +kernel
theorem dX11_sign_42 : decode cX11_sign 42 = .ok (.iload 5, 2) := by decide +kernel
theorem dX11_sign_44 : decode cX11_sign 44 = .ok (.iload 6, 2) := by decide +kernel
theorem dX11_sign_46 : decode cX11_sign 46 = .ok (.invokespecial 78, 3) := by decide +kernel
theorem dX11_sign_49 : decode cX11_sign 49 = .ok (.invokevirtual 57, 3) := by decide +kernel
theorem dX11_sign_52 : decode cX11_sign 52 = .ok (.ireturn, 1) := by decide +kernel
set_option maxRecDepth 20000 in
theorem ggX11_undo_X4_shapesTold : GoodIn wsX11_undo wsX4_shapesTold := goodIn_r _ [7, 8, 26, 27, 28] (by decide +kernel) (by decide +kernel)
set_option maxRecDepth 20000 in
theorem gX11_undo_X4_shapesTold : GoodIn wsX11_undo (wsV RX11 81 RX4 yX4_shapesTold wsX4_shapesTold) := goodIn_app (goodIn_of _ (by decide +kernel)) ggX11_undo_X4_shapesTold
set_option maxRecDepth 20000 in
theorem ggX11_undo_X4_removeLatest : GoodIn wsX11_undo wsX4_removeLatest := goodIn_r _ [12, 8, 13, 14, 26, 27, 28] (by decide +kernel) (by decide +kernel)
set_option maxRecDepth 20000 in
theorem gX11_undo_X4_removeLatest : GoodIn wsX11_undo (wsV RX11 85 RX4 yX4_removeLatest wsX4_removeLatest) := goodIn_app (goodIn_of _ (by decide +kernel)) ggX11_undo_X4_removeLatest
set_option maxRecDepth 20000 in
theorem ggX11_undo_X10_forget : GoodIn wsX11_undo wsX10_forget := goodIn_r _ [19, 20, 29, 30, 31, 32, 33, 34, 35, 36, 37, 38, 39, 40, 41, 42] (by decide +kernel) (by decide +kernel)
set_option maxRecDepth 20000 in
theorem gX11_undo_X10_forget : GoodIn wsX11_undo (wsV RX11 88 RX10 yX10_forget wsX10_forget) := goodIn_app (goodIn_of _ (by decide +kernel)) ggX11_undo_X10_forget
theorem dX11_undo_0 : decode cX11_undo 0 = .ok (.aload_n 0, 1) := by decide +kernel
theorem dX11_undo_1 : decode cX11_undo 1 = .ok (.getfield 10, 3) := by decide +kernel
theorem dX11_undo_4 : decode cX11_undo 4 = .ok (.invokevirtual 81, 3) := by decide +kernel
theorem dX11_undo_7 : decode cX11_undo 7 = .ok (.ifCond .ne 6, 3) := by decide +kernel
theorem dX11_undo_10 : decode cX11_undo 10 = .ok (.bipush (-2), 2) := by decide +kernel
theorem dX11_undo_12 : decode cX11_undo 12 = .ok (.ireturn, 1) := by decide +kernel
theorem dX11_undo_13 : decode cX11_undo 13 = .ok (.aload_n 0, 1) := by decide +kernel
theorem dX11_undo_14 : decode cX11_undo 14 = .ok (.getfield 10, 3) := by decide +kernel
theorem dX11_undo_17 : decode cX11_undo 17 = .ok (.invokevirtual 85, 3) := by decide +kernel
theorem dX11_undo_20 : decode cX11_undo 20 = .ok (.aload_n 0, 1) := by decide +kernel
theorem dX11_undo_21 : decode cX11_undo 21 = .ok (.getfield 19, 3) := by decide +kernel
theorem dX11_undo_24 : decode cX11_undo 24 = .ok (.invokevirtual 88, 3) := by decide +kernel
theorem dX11_undo_27 : decode cX11_undo 27 = .ok (.aload_n 0, 1) := by decide +kernel
theorem dX11_undo_28 : decode cX11_undo 28 = .ok (.getfield 10, 3) := by decide +kernel
theorem dX11_undo_31 : decode cX11_undo 31 = .ok (.invokevirtual 81, 3) := by decide +kernel
theorem dX11_undo_34 : decode cX11_undo 34 = .ok (.ireturn, 1) := by decide +kernel
set_option maxRecDepth 20000 in
theorem ggX11_told_X4_shapeOf : GoodIn wsX11_told wsX4_shapeOf := goodIn_r _ [7, 8, 9, 10, 11, 12, 104, 105, 106] (by decide +kernel) (by decide +kernel)
set_option maxRecDepth 20000 in
theorem gX11_told_X4_shapeOf : GoodIn wsX11_told (wsV RX11 91 RX4 yX4_shapeOf wsX4_shapeOf) := goodIn_app (goodIn_of _ (by decide +kernel)) ggX11_told_X4_shapeOf
set_option maxRecDepth 20000 in
theorem ggX11_told_X0_kind : GoodIn wsX11_told wsX0_kind := goodIn_r _ [18] (by decide +kernel) (by decide +kernel)
set_option maxRecDepth 20000 in
theorem gX11_told_X0_kind_u95X0 : GoodIn wsX11_told (va_wsU RX11 95 RX0 "SandPalace$Shape" ⟨"SandPalace$Shape", "kind", "()I"⟩ yX0_kind wsX0_kind) := goodIn_app (goodIn_of _ (by decide +kernel)) ggX11_told_X0_kind
set_option maxRecDepth 20000 in
theorem ggX11_told_X1_kind : GoodIn wsX11_told wsX1_kind := goodIn_r _ [22] (by decide +kernel) (by decide +kernel)
set_option maxRecDepth 20000 in
theorem gX11_told_X1_kind_u95X1 : GoodIn wsX11_told (va_wsU RX11 95 RX1 "SandPalace$Shape" ⟨"SandPalace$Shape", "kind", "()I"⟩ yX1_kind wsX1_kind) := goodIn_app (goodIn_of _ (by decide +kernel)) ggX11_told_X1_kind
set_option maxRecDepth 20000 in
theorem ggX11_told_X2_kind : GoodIn wsX11_told wsX2_kind := goodIn_r _ [26] (by decide +kernel) (by decide +kernel)
set_option maxRecDepth 20000 in
theorem gX11_told_X2_kind_u95X2 : GoodIn wsX11_told (va_wsU RX11 95 RX2 "SandPalace$Shape" ⟨"SandPalace$Shape", "kind", "()I"⟩ yX2_kind wsX2_kind) := goodIn_app (goodIn_of _ (by decide +kernel)) ggX11_told_X2_kind
set_option maxRecDepth 20000 in
theorem ggX11_told_X5_kind : GoodIn wsX11_told wsX5_kind := goodIn_r _ [30] (by decide +kernel) (by decide +kernel)
set_option maxRecDepth 20000 in
theorem gX11_told_X5_kind_u95X5 : GoodIn wsX11_told (va_wsU RX11 95 RX5 "SandPalace$Shape" ⟨"SandPalace$Shape", "kind", "()I"⟩ yX5_kind wsX5_kind) := goodIn_app (goodIn_of _ (by decide +kernel)) ggX11_told_X5_kind
set_option maxRecDepth 20000 in
theorem ggX11_told_X8_kind : GoodIn wsX11_told wsX8_kind := goodIn_r _ [34] (by decide +kernel) (by decide +kernel)
set_option maxRecDepth 20000 in
theorem gX11_told_X8_kind_u95X8 : GoodIn wsX11_told (va_wsU RX11 95 RX8 "SandPalace$Shape" ⟨"SandPalace$Shape", "kind", "()I"⟩ yX8_kind wsX8_kind) := goodIn_app (goodIn_of _ (by decide +kernel)) ggX11_told_X8_kind
set_option maxRecDepth 20000 in
theorem ggX11_told_X6_cells : GoodIn wsX11_told wsX6_cells := goodIn_r _ [40, 41, 42, 43, 44, 45, 46, 47, 48, 93, 94, 95, 96, 97, 98, 99, 100, 101, 102, 103] (by decide +kernel) (by decide +kernel)
set_option maxRecDepth 20000 in
theorem gX11_told_X6_cells_u104X0 : GoodIn wsX11_told (va_wsU RX11 104 RX0 "SandPalace$Shape" ⟨"SandPalace$Shape", "cells", "()I"⟩ yX6_cells wsX6_cells) := goodIn_app (goodIn_of _ (by decide +kernel)) ggX11_told_X6_cells
set_option maxRecDepth 20000 in
theorem gX11_told_X6_cells_u104X1 : GoodIn wsX11_told (va_wsU RX11 104 RX1 "SandPalace$Shape" ⟨"SandPalace$Shape", "cells", "()I"⟩ yX6_cells wsX6_cells) := goodIn_app (goodIn_of _ (by decide +kernel)) ggX11_told_X6_cells
set_option maxRecDepth 20000 in
theorem gX11_told_X6_cells_u104X2 : GoodIn wsX11_told (va_wsU RX11 104 RX2 "SandPalace$Shape" ⟨"SandPalace$Shape", "cells", "()I"⟩ yX6_cells wsX6_cells) := goodIn_app (goodIn_of _ (by decide +kernel)) ggX11_told_X6_cells
set_option maxRecDepth 20000 in
theorem gX11_told_X6_cells_u104X5 : GoodIn wsX11_told (va_wsU RX11 104 RX5 "SandPalace$Shape" ⟨"SandPalace$Shape", "cells", "()I"⟩ yX6_cells wsX6_cells) := goodIn_app (goodIn_of _ (by decide +kernel)) ggX11_told_X6_cells
set_option maxRecDepth 20000 in
theorem gX11_told_X6_cells_u104X8 : GoodIn wsX11_told (va_wsU RX11 104 RX8 "SandPalace$Shape" ⟨"SandPalace$Shape", "cells", "()I"⟩ yX6_cells wsX6_cells) := goodIn_app (goodIn_of _ (by decide +kernel)) ggX11_told_X6_cells
set_option maxRecDepth 20000 in
theorem ggX11_told_X6_reach : GoodIn wsX11_told wsX6_reach := goodIn_r _ [57, 58, 59, 60, 61, 62, 63, 64, 65, 39, 66, 41, 67, 68, 69, 70, 93, 94, 95, 96, 97, 98, 99, 100, 101, 102, 103] (by decide +kernel) (by decide +kernel)
set_option maxRecDepth 20000 in
theorem gX11_told_X6_reach_u107X0 : GoodIn wsX11_told (va_wsU RX11 107 RX0 "SandPalace$Shape" ⟨"SandPalace$Shape", "reach", "()I"⟩ yX6_reach wsX6_reach) := goodIn_app (goodIn_of _ (by decide +kernel)) ggX11_told_X6_reach
set_option maxRecDepth 20000 in
theorem gX11_told_X6_reach_u107X1 : GoodIn wsX11_told (va_wsU RX11 107 RX1 "SandPalace$Shape" ⟨"SandPalace$Shape", "reach", "()I"⟩ yX6_reach wsX6_reach) := goodIn_app (goodIn_of _ (by decide +kernel)) ggX11_told_X6_reach
set_option maxRecDepth 20000 in
theorem gX11_told_X6_reach_u107X2 : GoodIn wsX11_told (va_wsU RX11 107 RX2 "SandPalace$Shape" ⟨"SandPalace$Shape", "reach", "()I"⟩ yX6_reach wsX6_reach) := goodIn_app (goodIn_of _ (by decide +kernel)) ggX11_told_X6_reach
set_option maxRecDepth 20000 in
theorem gX11_told_X6_reach_u107X5 : GoodIn wsX11_told (va_wsU RX11 107 RX5 "SandPalace$Shape" ⟨"SandPalace$Shape", "reach", "()I"⟩ yX6_reach wsX6_reach) := goodIn_app (goodIn_of _ (by decide +kernel)) ggX11_told_X6_reach
set_option maxRecDepth 20000 in
theorem gX11_told_X6_reach_u107X8 : GoodIn wsX11_told (va_wsU RX11 107 RX8 "SandPalace$Shape" ⟨"SandPalace$Shape", "reach", "()I"⟩ yX6_reach wsX6_reach) := goodIn_app (goodIn_of _ (by decide +kernel)) ggX11_told_X6_reach
set_option maxRecDepth 20000 in
theorem ggX11_told_X4_comesAfter : GoodIn wsX11_told wsX4_comesAfter := goodIn_r _ [78, 79, 9, 80, 104, 105, 106, 93, 94, 95, 96, 97, 98, 99, 100, 101, 102, 103] (by decide +kernel) (by decide +kernel)
set_option maxRecDepth 20000 in
theorem gX11_told_X4_comesAfter : GoodIn wsX11_told (wsV RX11 110 RX4 yX4_comesAfter wsX4_comesAfter) := goodIn_app (goodIn_of _ (by decide +kernel)) ggX11_told_X4_comesAfter
set_option maxRecDepth 20000 in
theorem ggX11_told_J6_bitCount_0f7a4 : GoodIn wsX11_told wsJ6_bitCount_0f7a4 := goodIn_r _ [84, 85, 86, 87] (by decide +kernel) (by decide +kernel)
set_option maxRecDepth 20000 in
theorem gX11_told_J6_bitCount_0f7a4 : GoodIn wsX11_told (va_wsS RX11 114 yJ6_bitCount_0f7a4 wsJ6_bitCount_0f7a4) := goodIn_app (goodIn_of _ (by decide +kernel)) ggX11_told_J6_bitCount_0f7a4
theorem dX11_told_0 : decode cX11_told 0 = .ok (.aload_n 0, 1) := by decide +kernel
theorem dX11_told_1 : decode cX11_told 1 = .ok (.getfield 10, 3) := by decide +kernel
theorem dX11_told_4 : decode cX11_told 4 = .ok (.iload_n 1, 1) := by decide +kernel
theorem dX11_told_5 : decode cX11_told 5 = .ok (.invokevirtual 91, 3) := by decide +kernel
theorem dX11_told_8 : decode cX11_told 8 = .ok (.astore_n 3, 1) := by decide +kernel
theorem dX11_told_9 : decode cX11_told 9 = .ok (.aload_n 3, 1) := by decide +kernel
theorem dX11_told_10 : decode cX11_told 10 = .ok (.ifnonnull 5, 3) := by decide +kernel
theorem dX11_told_13 : decode cX11_told 13 = .ok (.iconst (-1), 1) := by decide +kernel
theorem dX11_told_14 : decode cX11_told 14 = .ok (.ireturn, 1) := by decide +kernel
theorem dX11_told_15 : decode cX11_told 15 = .ok (.iload_n 2, 1) := by decide +kernel
theorem dX11_told_16 : decode cX11_told 16 = .ok (.tableswitch 68 0 4 #[36, 41, 46, 51, 56], 36) := by decide +kernel
theorem dX11_told_52 : decode cX11_told 52 = .ok (.aload_n 3, 1) := by decide +kernel
theorem dX11_told_53 : decode cX11_told 53 = .ok (.invokevirtual 95, 3) := by decide +kernel
theorem dX11_told_56 : decode cX11_told 56 = .ok (.ireturn, 1) := by decide +kernel
theorem dX11_told_57 : decode cX11_told 57 = .ok (.aload_n 3, 1) := by decide +kernel
theorem dX11_told_58 : decode cX11_told 58 = .ok (.getfield 100, 3) := by decide +kernel
theorem dX11_told_61 : decode cX11_told 61 = .ok (.ireturn, 1) := by decide +kernel
theorem dX11_told_62 : decode cX11_told 62 = .ok (.aload_n 3, 1) := by decide +kernel
theorem dX11_told_63 : decode cX11_told 63 = .ok (.invokevirtual 104, 3) := by decide +kernel
theorem dX11_told_66 : decode cX11_told 66 = .ok (.ireturn, 1) := by decide +kernel
theorem dX11_told_67 : decode cX11_told 67 = .ok (.aload_n 3, 1) := by decide +kernel
theorem dX11_told_68 : decode cX11_told 68 = .ok (.invokevirtual 107, 3) := by decide +kernel
theorem dX11_told_71 : decode cX11_told 71 = .ok (.ireturn, 1) := by decide +kernel
theorem dX11_told_72 : decode cX11_told 72 = .ok (.aload_n 0, 1) := by decide +kernel
theorem dX11_told_73 : decode cX11_told 73 = .ok (.getfield 10, 3) := by decide +kernel
theorem dX11_told_76 : decode cX11_told 76 = .ok (.iload_n 1, 1) := by decide +kernel
theorem dX11_told_77 : decode cX11_told 77 = .ok (.invokevirtual 110, 3) := by decide +kernel
theorem dX11_told_80 : decode cX11_told 80 = .ok (.invokestatic 114, 3) := by decide +kernel
theorem dX11_told_83 : decode cX11_told 83 = .ok (.ireturn, 1) := by decide +kernel
theorem dX11_told_84 : decode cX11_told 84 = .ok (.iconst (-1), 1) := by decide +kernel
theorem dX11_told_85 : decode cX11_told 85 = .ok (.ireturn, 1) := by decide +kernel
set_option maxRecDepth 20000 in
theorem ggX11_step_X4_shapeOf : GoodIn wsX11_step wsX4_shapeOf := goodIn_r _ [8, 9, 10, 11, 12, 13, 22, 23, 24] (by decide +kernel) (by decide +kernel)
set_option maxRecDepth 20000 in
theorem gX11_step_X4_shapeOf : GoodIn wsX11_step (wsV RX11 91 RX4 yX4_shapeOf wsX4_shapeOf) := goodIn_app (goodIn_of _ (by decide +kernel)) ggX11_step_X4_shapeOf
theorem dX11_step_0 : decode cX11_step 0 = .ok (.aload_n 0, 1) := by decide +kernel
theorem dX11_step_1 : decode cX11_step 1 = .ok (.getfield 10, 3) := by decide +kernel
theorem dX11_step_4 : decode cX11_step 4 = .ok (.iload_n 1, 1) := by decide +kernel
theorem dX11_step_5 : decode cX11_step 5 = .ok (.invokevirtual 91, 3) := by decide +kernel
theorem dX11_step_8 : decode cX11_step 8 = .ok (.astore_n 2, 1) := by decide +kernel
theorem dX11_step_9 : decode cX11_step 9 = .ok (.aload_n 2, 1) := by decide +kernel
theorem dX11_step_10 : decode cX11_step 10 = .ok (.ifnonnull 5, 3) := by decide +kernel
theorem dX11_step_13 : decode cX11_step 13 = .ok (.iconst (-1), 1) := by decide +kernel
theorem dX11_step_14 : decode cX11_step 14 = .ok (.ireturn, 1) := by decide +kernel
theorem dX11_step_15 : decode cX11_step 15 = .ok (.aload_n 2, 1) := by decide +kernel
theorem dX11_step_16 : decode cX11_step 16 = .ok (.instanceof 76, 3) := by decide +kernel
theorem dX11_step_19 : decode cX11_step 19 = .ok (.ifCond .eq 15, 3) := by decide +kernel
theorem dX11_step_22 : decode cX11_step 22 = .ok (.aload_n 2, 1) := by decide +kernel
theorem dX11_step_23 : decode cX11_step 23 = .ok (.checkcast 76, 3) := by decide +kernel
theorem dX11_step_26 : decode cX11_step 26 = .ok (.astore_n 3, 1) := by decide +kernel
theorem dX11_step_27 : decode cX11_step 27 = .ok (.aload_n 3, 1) := by decide +kernel
theorem dX11_step_28 : decode cX11_step 28 = .ok (.getfield 119, 3) := by decide +kernel
theorem dX11_step_31 : decode cX11_step 31 = .ok (.goto 5, 3) := by decide +kernel
theorem dX11_step_34 : decode cX11_step 34 = .ok (.bipush (-12), 2) := by decide +kernel
theorem dX11_step_36 : decode cX11_step 36 = .ok (.ireturn, 1) := by decide +kernel
set_option maxRecDepth 20000 in
theorem ggX11_quarter_X4_shapeOf : GoodIn wsX11_quarter wsX4_shapeOf := goodIn_r _ [7, 8, 9, 10, 11, 12, 35, 36, 37] (by decide +kernel) (by decide +kernel)
set_option maxRecDepth 20000 in
theorem gX11_quarter_X4_shapeOf : GoodIn wsX11_quarter (wsV RX11 91 RX4 yX4_shapeOf wsX4_shapeOf) := goodIn_app (goodIn_of _ (by decide +kernel)) ggX11_quarter_X4_shapeOf
set_option maxRecDepth 20000 in
theorem ggX11_quarter_X0_cellsOfQuarter : GoodIn wsX11_quarter wsX0_cellsOfQuarter := goodIn_r _ [17, 18, 19, 20, 21, 22, 23, 24, 25, 26, 38, 39, 40, 41, 42, 43, 44, 45, 46, 47, 48] (by decide +kernel) (by decide +kernel)
set_option maxRecDepth 20000 in
theorem gX11_quarter_X0_cellsOfQuarter : GoodIn wsX11_quarter (wsV RX11 122 RX0 yX0_cellsOfQuarter wsX0_cellsOfQuarter) := goodIn_app (goodIn_of _ (by decide +kernel)) ggX11_quarter_X0_cellsOfQuarter
set_option maxRecDepth 20000 in
theorem gX11_quarter_X0_cellsOfQuarter_u122X8 : GoodIn wsX11_quarter (va_wsU RX11 122 RX8 "SandPalace$Block" ⟨"SandPalace$Block", "cellsOfQuarter", "()I"⟩ yX0_cellsOfQuarter wsX0_cellsOfQuarter) := goodIn_app (goodIn_of _ (by decide +kernel)) ggX11_quarter_X0_cellsOfQuarter
theorem dX11_quarter_0 : decode cX11_quarter 0 = .ok (.aload_n 0, 1) := by decide +kernel
theorem dX11_quarter_1 : decode cX11_quarter 1 = .ok (.getfield 10, 3) := by decide +kernel
theorem dX11_quarter_4 : decode cX11_quarter 4 = .ok (.iload_n 1, 1) := by decide +kernel
theorem dX11_quarter_5 : decode cX11_quarter 5 = .ok (.invokevirtual 91, 3) := by decide +kernel
theorem dX11_quarter_8 : decode cX11_quarter 8 = .ok (.astore_n 2, 1) := by decide +kernel
theorem dX11_quarter_9 : decode cX11_quarter 9 = .ok (.aload_n 2, 1) := by decide +kernel
theorem dX11_quarter_10 : decode cX11_quarter 10 = .ok (.ifnonnull 5, 3) := by decide +kernel
theorem dX11_quarter_13 : decode cX11_quarter 13 = .ok (.iconst (-1), 1) := by decide +kernel
theorem dX11_quarter_14 : decode cX11_quarter 14 = .ok (.ireturn, 1) := by decide +kernel
theorem dX11_quarter_15 : decode cX11_quarter 15 = .ok (.aload_n 2, 1) := by decide +kernel
theorem dX11_quarter_16 : decode cX11_quarter 16 = .ok (.instanceof 73, 3) := by decide +kernel
theorem dX11_quarter_19 : decode cX11_quarter 19 = .ok (.ifCond .eq 15, 3) := by decide +kernel
theorem dX11_quarter_22 : decode cX11_quarter 22 = .ok (.aload_n 2, 1) := by decide +kernel
theorem dX11_quarter_23 : decode cX11_quarter 23 = .ok (.checkcast 73, 3) := by decide +kernel
theorem dX11_quarter_26 : decode cX11_quarter 26 = .ok (.astore_n 3, 1) := by decide +kernel
theorem dX11_quarter_27 : decode cX11_quarter 27 = .ok (.aload_n 3, 1) := by decide +kernel
theorem dX11_quarter_28 : decode cX11_quarter 28 = .ok (.invokevirtual 122, 3) := by decide +kernel
theorem dX11_quarter_31 : decode cX11_quarter 31 = .ok (.goto 5, 3) := by decide +kernel
theorem dX11_quarter_34 : decode cX11_quarter 34 = .ok (.bipush (-12), 2) := by decide +kernel
theorem dX11_quarter_36 : decode cX11_quarter 36 = .ok (.ireturn, 1) := by decide +kernel
set_option maxRecDepth 20000 in
theorem ggX11_cell_X11_isCell : GoodIn wsX11_cell wsX11_isCell := goodIn_r _ [5, 6, 7, 4, 8] (by decide +kernel) (by decide +kernel)
set_option maxRecDepth 20000 in
theorem gX11_cell_X11_isCell : GoodIn wsX11_cell (va_wsS RX11 125 yX11_isCell wsX11_isCell) := goodIn_app (goodIn_of _ (by decide +kernel)) ggX11_cell_X11_isCell
set_option maxRecDepth 20000 in
theorem ggX11_cell_X11_placeOf : GoodIn wsX11_cell wsX11_placeOf := goodIn_r _ [11, 12, 13, 4, 14] (by decide +kernel) (by decide +kernel)
set_option maxRecDepth 20000 in
theorem gX11_cell_X11_placeOf : GoodIn wsX11_cell (va_wsS RX11 129 yX11_placeOf wsX11_placeOf) := goodIn_app (goodIn_of _ (by decide +kernel)) ggX11_cell_X11_placeOf
set_option maxRecDepth 20000 in
theorem ggX11_cell_X11_quarterOf : GoodIn wsX11_cell wsX11_quarterOf := goodIn_r _ [14] (by decide +kernel) (by decide +kernel)
set_option maxRecDepth 20000 in
theorem gX11_cell_X11_quarterOf : GoodIn wsX11_cell (va_wsS RX11 133 yX11_quarterOf wsX11_quarterOf) := goodIn_app (goodIn_of _ (by decide +kernel)) ggX11_cell_X11_quarterOf
set_option maxRecDepth 20000 in
theorem ggX11_cell_X4_look : GoodIn wsX11_cell wsX4_look := goodIn_r _ [19, 20, 21, 22, 23, 24, 25, 26, 27, 28, 29, 30, 31, 32, 33, 34, 35, 36, 37, 38, 39, 40, 41, 42, 43, 44, 45, 46, 47, 48, 49, 50, 4, 51, 52, 53, 54, 55, 72, 73, 74, 75, 76, 77, 78, 79, 80, 81, 82, 83, 84, 85] (by decide +kernel) (by decide +kernel)
set_option maxRecDepth 20000 in
theorem gX11_cell_X4_look : GoodIn wsX11_cell (wsV RX11 136 RX4 yX4_look wsX4_look) := goodIn_app (goodIn_of _ (by decide +kernel)) ggX11_cell_X4_look
set_option maxRecDepth 20000 in
theorem ggX11_cell_X4_layers : GoodIn wsX11_cell wsX4_layers := goodIn_r _ [59, 20, 21, 22, 23, 24, 25, 26, 27, 28, 29, 30, 31, 32, 72, 73, 74, 75, 76, 77, 78, 79, 80, 81, 82, 83, 84, 85] (by decide +kernel) (by decide +kernel)
set_option maxRecDepth 20000 in
theorem gX11_cell_X4_layers : GoodIn wsX11_cell (wsV RX11 139 RX4 yX4_layers wsX4_layers) := goodIn_app (goodIn_of _ (by decide +kernel)) ggX11_cell_X4_layers
set_option maxRecDepth 20000 in
theorem ggX11_cell_J6_bitCount_0f7a4 : GoodIn wsX11_cell wsJ6_bitCount_0f7a4 := goodIn_r _ [63, 64, 65, 66] (by decide +kernel) (by decide +kernel)
set_option maxRecDepth 20000 in
theorem gX11_cell_J6_bitCount_0f7a4 : GoodIn wsX11_cell (va_wsS RX11 114 yJ6_bitCount_0f7a4 wsJ6_bitCount_0f7a4) := goodIn_app (goodIn_of _ (by decide +kernel)) ggX11_cell_J6_bitCount_0f7a4
theorem dX11_cell_0 : decode cX11_cell 0 = .ok (.iload_n 1, 1) := by decide +kernel
theorem dX11_cell_1 : decode cX11_cell 1 = .ok (.iload_n 2, 1) := by decide +kernel
theorem dX11_cell_2 : decode cX11_cell 2 = .ok (.invokestatic 125, 3) := by decide +kernel
theorem dX11_cell_5 : decode cX11_cell 5 = .ok (.ifCond .ne 5, 3) := by decide +kernel
theorem dX11_cell_8 : decode cX11_cell 8 = .ok (.iconst (-1), 1) := by decide +kernel
theorem dX11_cell_9 : decode cX11_cell 9 = .ok (.ireturn, 1) := by decide +kernel
theorem dX11_cell_10 : decode cX11_cell 10 = .ok (.iload_n 1, 1) := by decide +kernel
theorem dX11_cell_11 : decode cX11_cell 11 = .ok (.iload_n 2, 1) := by decide +kernel
theorem dX11_cell_12 : decode cX11_cell 12 = .ok (.invokestatic 129, 3) := by decide +kernel
theorem dX11_cell_15 : decode cX11_cell 15 = .ok (.istore 4, 2) := by decide +kernel
theorem dX11_cell_17 : decode cX11_cell 17 = .ok (.iload_n 3, 1) := by decide +kernel
theorem dX11_cell_18 : decode cX11_cell 18 = .ok (.tableswitch 64 0 2 #[26, 41, 54], 26) := by decide +kernel
theorem dX11_cell_44 : decode cX11_cell 44 = .ok (.aload_n 0, 1) := by decide +kernel
theorem dX11_cell_45 : decode cX11_cell 45 = .ok (.getfield 10, 3) := by decide +kernel
theorem dX11_cell_48 : decode cX11_cell 48 = .ok (.iload 4, 2) := by decide +kernel
theorem dX11_cell_50 : decode cX11_cell 50 = .ok (.iload_n 1, 1) := by decide +kernel
theorem dX11_cell_51 : decode cX11_cell 51 = .ok (.iload_n 2, 1) := by decide +kernel
theorem dX11_cell_52 : decode cX11_cell 52 = .ok (.invokestatic 133, 3) := by decide +kernel
theorem dX11_cell_55 : decode cX11_cell 55 = .ok (.invokevirtual 136, 3) := by decide +kernel
theorem dX11_cell_58 : decode cX11_cell 58 = .ok (.ireturn, 1) := by decide +kernel
theorem dX11_cell_59 : decode cX11_cell 59 = .ok (.aload_n 0, 1) := by decide +kernel
theorem dX11_cell_60 : decode cX11_cell 60 = .ok (.getfield 10, 3) := by decide +kernel
theorem dX11_cell_63 : decode cX11_cell 63 = .ok (.iload 4, 2) := by decide +kernel
theorem dX11_cell_65 : decode cX11_cell 65 = .ok (.invokevirtual 139, 3) := by decide +kernel
theorem dX11_cell_68 : decode cX11_cell 68 = .ok (.invokestatic 114, 3) := by decide +kernel
theorem dX11_cell_71 : decode cX11_cell 71 = .ok (.ireturn, 1) := by decide +kernel
theorem dX11_cell_72 : decode cX11_cell 72 = .ok (.aload_n 0, 1) := by decide +kernel
theorem dX11_cell_73 : decode cX11_cell 73 = .ok (.getfield 10, 3) := by decide +kernel
theorem dX11_cell_76 : decode cX11_cell 76 = .ok (.iload 4, 2) := by decide +kernel
theorem dX11_cell_78 : decode cX11_cell 78 = .ok (.invokevirtual 139, 3) := by decide +kernel
theorem dX11_cell_81 : decode cX11_cell 81 = .ok (.ireturn, 1) := by decide +kernel
theorem dX11_cell_82 : decode cX11_cell 82 = .ok (.iconst (-1), 1) := by decide +kernel
theorem dX11_cell_83 : decode cX11_cell 83 = .ok (.ireturn, 1) := by decide +kernel
set_option maxRecDepth 20000 in
theorem ggX11_count_X11_within : GoodIn wsX11_count wsX11_within := goodIn_r _ [5] (by decide +kernel) (by decide +kernel)
set_option maxRecDepth 20000 in
theorem gX11_count_X11_within : GoodIn wsX11_count (va_wsS RX11 48 yX11_within wsX11_within) := goodIn_app (goodIn_of _ (by decide +kernel)) ggX11_count_X11_within
set_option maxRecDepth 20000 in
theorem ggX11_count_X4_cellsThatLook : GoodIn wsX11_count wsX4_cellsThatLook := goodIn_r _ [10, 11, 12, 13, 9, 14, 15, 16, 17, 18, 19, 20, 21, 22, 23, 24, 25, 26, 27, 28, 29, 30, 31, 32, 33, 34, 35, 36, 37, 38, 39, 40, 41, 42, 43, 44, 45, 4, 46, 47, 48, 49, 50, 56, 57, 58, 59, 60, 61, 62, 63, 64, 65, 66, 67, 68, 69] (by decide +kernel) (by decide +kernel)
set_option maxRecDepth 20000 in
theorem gX11_count_X4_cellsThatLook : GoodIn wsX11_count (wsV RX11 142 RX4 yX4_cellsThatLook wsX4_cellsThatLook) := goodIn_app (goodIn_of _ (by decide +kernel)) ggX11_count_X4_cellsThatLook
theorem dX11_count_0 : decode cX11_count 0 = .ok (.iload_n 1, 1) := by decide +kernel
theorem dX11_count_1 : decode cX11_count 1 = .ok (.iconst 0, 1) := by decide +kernel
theorem dX11_count_2 : decode cX11_count 2 = .ok (.bipush 9, 2) := by decide +kernel
theorem dX11_count_4 : decode cX11_count 4 = .ok (.invokestatic 48, 3) := by decide +kernel
theorem dX11_count_7 : decode cX11_count 7 = .ok (.ifCond .eq 14, 3) := by decide +kernel
theorem dX11_count_10 : decode cX11_count 10 = .ok (.aload_n 0, 1) := by decide +kernel
theorem dX11_count_11 : decode cX11_count 11 = .ok (.getfield 10, 3) := by decide +kernel
theorem dX11_count_14 : decode cX11_count 14 = .ok (.iload_n 1, 1) := by decide +kernel
theorem dX11_count_15 : decode cX11_count 15 = .ok (.invokevirtual 142, 3) := by decide +kernel
theorem dX11_count_18 : decode cX11_count 18 = .ok (.goto 4, 3) := by decide +kernel
theorem dX11_count_21 : decode cX11_count 21 = .ok (.iconst (-1), 1) := by decide +kernel
theorem dX11_count_22 : decode cX11_count 22 = .ok (.ireturn, 1) := by decide +kernel
set_option maxRecDepth 20000 in
theorem ggX11_unlike_X4_cellsUnlikeQuarterNought : GoodIn wsX11_unlike wsX4_cellsUnlikeQuarterNought := goodIn_r _ [6, 7, 8, 9, 5, 10, 11, 12, 13, 14, 15, 16, 17, 18, 19, 20, 21, 22, 23, 24, 25, 26, 27, 28, 29, 30, 31, 32, 33, 34, 35, 36, 37, 38, 39, 40, 41, 42, 43, 44, 45, 46, 47, 53, 54, 55, 56, 57, 58, 59, 60, 61, 62, 63, 64, 65, 66] (by decide +kernel) (by decide +kernel)
set_option maxRecDepth 20000 in
theorem gX11_unlike_X4_cellsUnlikeQuarterNought : GoodIn wsX11_unlike (wsV RX11 145 RX4 yX4_cellsUnlikeQuarterNought wsX4_cellsUnlikeQuarterNought) := goodIn_app (goodIn_of _ (by decide +kernel)) ggX11_unlike_X4_cellsUnlikeQuarterNought
theorem dX11_unlike_0 : decode cX11_unlike 0 = .ok (.aload_n 0, 1) := by decide +kernel
theorem dX11_unlike_1 : decode cX11_unlike 1 = .ok (.getfield 10, 3) := by decide +kernel
theorem dX11_unlike_4 : decode cX11_unlike 4 = .ok (.invokevirtual 145, 3) := by decide +kernel
theorem dX11_unlike_7 : decode cX11_unlike 7 = .ok (.ireturn, 1) := by decide +kernel
set_option maxRecDepth 20000 in
theorem ggX11_hem_X4_areTwo : GoodIn wsX11_hem wsX4_areTwo := goodIn_r _ [7, 8, 9, 10, 11, 32, 33, 34] (by decide +kernel) (by decide +kernel)
set_option maxRecDepth 20000 in
theorem gX11_hem_X4_areTwo : GoodIn wsX11_hem (wsV RX11 148 RX4 yX4_areTwo wsX4_areTwo) := goodIn_app (goodIn_of _ (by decide +kernel)) ggX11_hem_X4_areTwo
set_option maxRecDepth 20000 in
theorem ggX11_hem_X4_hems : GoodIn wsX11_hem wsX4_hems := goodIn_r _ [15, 16, 32, 33, 34] (by decide +kernel) (by decide +kernel)
set_option maxRecDepth 20000 in
theorem gX11_hem_X4_hems : GoodIn wsX11_hem (wsV RX11 151 RX4 yX4_hems wsX4_hems) := goodIn_app (goodIn_of _ (by decide +kernel)) ggX11_hem_X4_hems
set_option maxRecDepth 20000 in
theorem ggX11_hem_X4_setHem : GoodIn wsX11_hem wsX4_setHem := goodIn_r _ [20, 16, 32, 33, 34] (by decide +kernel) (by decide +kernel)
set_option maxRecDepth 20000 in
theorem gX11_hem_X4_setHem : GoodIn wsX11_hem (wsV RX11 154 RX4 yX4_setHem wsX4_setHem) := goodIn_app (goodIn_of _ (by decide +kernel)) ggX11_hem_X4_setHem
set_option maxRecDepth 20000 in
theorem ggX11_hem_X10_forget : GoodIn wsX11_hem wsX10_forget := goodIn_r _ [25, 26, 35, 36, 37, 38, 39, 40, 41, 42, 43, 44, 45, 46, 47, 48] (by decide +kernel) (by decide +kernel)
set_option maxRecDepth 20000 in
theorem gX11_hem_X10_forget : GoodIn wsX11_hem (wsV RX11 88 RX10 yX10_forget wsX10_forget) := goodIn_app (goodIn_of _ (by decide +kernel)) ggX11_hem_X10_forget
theorem dX11_hem_0 : decode cX11_hem 0 = .ok (.aload_n 0, 1) := by decide +kernel
theorem dX11_hem_1 : decode cX11_hem 1 = .ok (.getfield 10, 3) := by decide +kernel
theorem dX11_hem_4 : decode cX11_hem 4 = .ok (.iload_n 1, 1) := by decide +kernel
theorem dX11_hem_5 : decode cX11_hem 5 = .ok (.iload_n 2, 1) := by decide +kernel
theorem dX11_hem_6 : decode cX11_hem 6 = .ok (.invokevirtual 148, 3) := by decide +kernel
