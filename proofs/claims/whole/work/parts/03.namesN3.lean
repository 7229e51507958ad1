theorem dX11_hem_9 : decode cX11_hem 9 = .ok (.ifCond .ne 5, 3) := by decide +kernel
theorem dX11_hem_12 : decode cX11_hem 12 = .ok (.iconst (-1), 1) := by decide +kernel
theorem dX11_hem_13 : decode cX11_hem 13 = .ok (.ireturn, 1) := by decide +kernel
theorem dX11_hem_14 : decode cX11_hem 14 = .ok (.aload_n 0, 1) := by decide +kernel
theorem dX11_hem_15 : decode cX11_hem 15 = .ok (.getfield 10, 3) := by decide +kernel
theorem dX11_hem_18 : decode cX11_hem 18 = .ok (.iload_n 1, 1) := by decide +kernel
theorem dX11_hem_19 : decode cX11_hem 19 = .ok (.iload_n 2, 1) := by decide +kernel
theorem dX11_hem_20 : decode cX11_hem 20 = .ok (.invokevirtual 151, 3) := by decide +kernel
theorem dX11_hem_23 : decode cX11_hem 23 = .ok (.ifCond .eq 7, 3) := by decide +kernel
theorem dX11_hem_26 : decode cX11_hem 26 = .ok (.iconst 1, 1) := by decide +kernel
theorem dX11_hem_27 : decode cX11_hem 27 = .ok (.goto 4, 3) := by decide +kernel
theorem dX11_hem_30 : decode cX11_hem 30 = .ok (.iconst 0, 1) := by decide +kernel
theorem dX11_hem_31 : decode cX11_hem 31 = .ok (.istore 4, 2) := by decide +kernel
theorem dX11_hem_33 : decode cX11_hem 33 = .ok (.aload_n 0, 1) := by decide +kernel
theorem dX11_hem_34 : decode cX11_hem 34 = .ok (.getfield 10, 3) := by decide +kernel
theorem dX11_hem_37 : decode cX11_hem 37 = .ok (.iload_n 1, 1) := by decide +kernel
theorem dX11_hem_38 : decode cX11_hem 38 = .ok (.iload_n 2, 1) := by decide +kernel
theorem dX11_hem_39 : decode cX11_hem 39 = .ok (.iload_n 3, 1) := by decide +kernel
theorem dX11_hem_40 : decode cX11_hem 40 = .ok (.invokevirtual 154, 3) := by decide +kernel
theorem dX11_hem_43 : decode cX11_hem 43 = .ok (.aload_n 0, 1) := by decide +kernel
theorem dX11_hem_44 : decode cX11_hem 44 = .ok (.getfield 19, 3) := by decide +kernel
theorem dX11_hem_47 : decode cX11_hem 47 = .ok (.invokevirtual 88, 3) := by decide +kernel
theorem dX11_hem_50 : decode cX11_hem 50 = .ok (.iload 4, 2) := by decide +kernel
theorem dX11_hem_52 : decode cX11_hem 52 = .ok (.ireturn, 1) := by decide +kernel
set_option maxRecDepth 20000 in
theorem ggX11_after_X4_areTwo : GoodIn wsX11_after wsX4_areTwo := goodIn_r _ [6, 7, 8, 9, 10, 23, 24, 25] (by decide +kernel) (by decide +kernel)
set_option maxRecDepth 20000 in
theorem gX11_after_X4_areTwo : GoodIn wsX11_after (wsV RX11 148 RX4 yX4_areTwo wsX4_areTwo) := goodIn_app (goodIn_of _ (by decide +kernel)) ggX11_after_X4_areTwo
set_option maxRecDepth 20000 in
theorem ggX11_after_X4_comesAfter : GoodIn wsX11_after wsX4_comesAfter := goodIn_r _ [14, 15, 16, 17, 23, 24, 25, 26, 27, 28, 29, 30, 31, 32, 33, 34, 35, 36] (by decide +kernel) (by decide +kernel)
set_option maxRecDepth 20000 in
theorem gX11_after_X4_comesAfter : GoodIn wsX11_after (wsV RX11 110 RX4 yX4_comesAfter wsX4_comesAfter) := goodIn_app (goodIn_of _ (by decide +kernel)) ggX11_after_X4_comesAfter
theorem dX11_after_0 : decode cX11_after 0 = .ok (.aload_n 0, 1) := by decide +kernel
theorem dX11_after_1 : decode cX11_after 1 = .ok (.getfield 10, 3) := by decide +kernel
theorem dX11_after_4 : decode cX11_after 4 = .ok (.iload_n 1, 1) := by decide +kernel
theorem dX11_after_5 : decode cX11_after 5 = .ok (.iload_n 2, 1) := by decide +kernel
theorem dX11_after_6 : decode cX11_after 6 = .ok (.invokevirtual 148, 3) := by decide +kernel
theorem dX11_after_9 : decode cX11_after 9 = .ok (.ifCond .ne 5, 3) := by decide +kernel
theorem dX11_after_12 : decode cX11_after 12 = .ok (.iconst (-1), 1) := by decide +kernel
theorem dX11_after_13 : decode cX11_after 13 = .ok (.ireturn, 1) := by decide +kernel
theorem dX11_after_14 : decode cX11_after 14 = .ok (.aload_n 0, 1) := by decide +kernel
theorem dX11_after_15 : decode cX11_after 15 = .ok (.getfield 10, 3) := by decide +kernel
theorem dX11_after_18 : decode cX11_after 18 = .ok (.iload_n 1, 1) := by decide +kernel
theorem dX11_after_19 : decode cX11_after 19 = .ok (.invokevirtual 110, 3) := by decide +kernel
theorem dX11_after_22 : decode cX11_after 22 = .ok (.iload_n 2, 1) := by decide +kernel
theorem dX11_after_23 : decode cX11_after 23 = .ok (.ishr, 1) := by decide +kernel
theorem dX11_after_24 : decode cX11_after 24 = .ok (.iconst 1, 1) := by decide +kernel
theorem dX11_after_25 : decode cX11_after 25 = .ok (.iand, 1) := by decide +kernel
theorem dX11_after_26 : decode cX11_after 26 = .ok (.ireturn, 1) := by decide +kernel
set_option maxRecDepth 20000 in
theorem ggX11_sand_X11_within : GoodIn wsX11_sand wsX11_within := goodIn_r _ [5] (by decide +kernel) (by decide +kernel)
set_option maxRecDepth 20000 in
theorem gX11_sand_X11_within : GoodIn wsX11_sand (va_wsS RX11 48 yX11_within wsX11_within) := goodIn_app (goodIn_of _ (by decide +kernel)) ggX11_sand_X11_within
set_option maxRecDepth 20000 in
theorem ggX11_sand_X10_changeSand : GoodIn wsX11_sand wsX10_changeSand := goodIn_r _ [10, 11, 12, 18, 19, 20, 21, 22, 23, 24, 25, 26, 27, 28, 29, 30, 31] (by decide +kernel) (by decide +kernel)
set_option maxRecDepth 20000 in
theorem gX11_sand_X10_changeSand : GoodIn wsX11_sand (wsV RX11 158 RX10 yX10_changeSand wsX10_changeSand) := goodIn_app (goodIn_of _ (by decide +kernel)) ggX11_sand_X10_changeSand
theorem dX11_sand_0 : decode cX11_sand 0 = .ok (.iload_n 1, 1) := by decide +kernel
theorem dX11_sand_1 : decode cX11_sand 1 = .ok (.iconst 1, 1) := by decide +kernel
theorem dX11_sand_2 : decode cX11_sand 2 = .ok (.sipush 256, 3) := by decide +kernel
theorem dX11_sand_5 : decode cX11_sand 5 = .ok (.invokestatic 48, 3) := by decide +kernel
theorem dX11_sand_8 : decode cX11_sand 8 = .ok (.ifCond .ne 5, 3) := by decide +kernel
theorem dX11_sand_11 : decode cX11_sand 11 = .ok (.iconst (-1), 1) := by decide +kernel
theorem dX11_sand_12 : decode cX11_sand 12 = .ok (.ireturn, 1) := by decide +kernel
theorem dX11_sand_13 : decode cX11_sand 13 = .ok (.aload_n 0, 1) := by decide +kernel
theorem dX11_sand_14 : decode cX11_sand 14 = .ok (.getfield 19, 3) := by decide +kernel
theorem dX11_sand_17 : decode cX11_sand 17 = .ok (.iload_n 1, 1) := by decide +kernel
theorem dX11_sand_18 : decode cX11_sand 18 = .ok (.invokevirtual 158, 3) := by decide +kernel
theorem dX11_sand_21 : decode cX11_sand 21 = .ok (.ireturn, 1) := by decide +kernel
set_option maxRecDepth 20000 in
theorem ggX11_days_X10_plan : GoodIn wsX11_days wsX10_plan := goodIn_r _ [7, 8, 9, 10, 11, 12, 13, 14, 6, 15, 16, 17, 18, 19, 20, 21, 22, 23, 24, 25, 26, 27, 28, 29, 30, 31, 32, 33, 34, 35, 36, 37, 38, 39, 40, 41, 42, 43, 44, 45, 46, 47, 48, 49, 50, 51, 52, 53, 54, 55, 56, 57, 58, 59, 60, 61, 62, 63, 64, 65, 66, 67, 68, 69, 70, 71, 72, 73, 74, 75, 76, 77, 78, 79, 80, 81, 82, 83, 84, 85, 86, 87, 88, 89, 90, 91, 92, 93, 94, 95, 96, 97, 98, 99, 100, 101, 102, 103, 104, 105, 106, 107, 108, 109, 110, 111, 112, 113, 114, 115, 116, 117, 118, 119, 120, 121, 122, 123, 124, 125, 126, 127, 128, 129, 130, 131, 132, 133, 134, 135, 136, 137, 138, 139, 140, 150, 151, 152, 153, 154, 155, 156, 157, 158, 159, 160, 161, 162, 163, 164, 165, 166, 167, 168, 169, 170, 171, 172, 173, 174, 175, 176, 177] (by decide +kernel) (by decide +kernel)
set_option maxRecDepth 20000 in
theorem gX11_days_X10_plan : GoodIn wsX11_days (wsV RX11 161 RX10 yX10_plan wsX10_plan) := goodIn_app (goodIn_of _ (by decide +kernel)) ggX11_days_X10_plan
set_option maxRecDepth 20000 in
theorem ggX11_days_X10_daysOfPlan : GoodIn wsX11_days wsX10_daysOfPlan := goodIn_r _ [144, 9, 150, 151, 152, 153, 154, 155, 156, 157, 158, 159, 160, 161, 162, 163] (by decide +kernel) (by decide +kernel)
set_option maxRecDepth 20000 in
theorem gX11_days_X10_daysOfPlan : GoodIn wsX11_days (wsV RX11 165 RX10 yX10_daysOfPlan wsX10_daysOfPlan) := goodIn_app (goodIn_of _ (by decide +kernel)) ggX11_days_X10_daysOfPlan
theorem dX11_days_0 : decode cX11_days 0 = .ok (.aload_n 0, 1) := by decide +kernel
theorem dX11_days_1 : decode cX11_days 1 = .ok (.getfield 19, 3) := by decide +kernel
theorem dX11_days_4 : decode cX11_days 4 = .ok (.aload_n 0, 1) := by decide +kernel
theorem dX11_days_5 : decode cX11_days 5 = .ok (.getfield 10, 3) := by decide +kernel
theorem dX11_days_8 : decode cX11_days 8 = .ok (.invokevirtual 161, 3) := by decide +kernel
theorem dX11_days_11 : decode cX11_days 11 = .ok (.aload_n 0, 1) := by decide +kernel
theorem dX11_days_12 : decode cX11_days 12 = .ok (.getfield 19, 3) := by decide +kernel
theorem dX11_days_15 : decode cX11_days 15 = .ok (.invokevirtual 165, 3) := by decide +kernel
theorem dX11_days_18 : decode cX11_days 18 = .ok (.ireturn, 1) := by decide +kernel
set_option maxRecDepth 20000 in
theorem ggX11_day_X10_plan : GoodIn wsX11_day wsX10_plan := goodIn_r _ [7, 8, 9, 10, 11, 12, 13, 14, 6, 15, 16, 17, 18, 19, 20, 21, 22, 23, 24, 25, 26, 27, 28, 29, 30, 31, 32, 33, 34, 35, 36, 37, 38, 39, 40, 41, 42, 43, 44, 45, 46, 47, 48, 49, 50, 51, 52, 53, 54, 55, 56, 57, 58, 59, 60, 61, 62, 63, 64, 65, 66, 67, 68, 69, 70, 71, 72, 73, 74, 75, 76, 77, 78, 79, 80, 81, 82, 83, 84, 85, 86, 87, 88, 89, 90, 91, 92, 93, 94, 95, 96, 97, 98, 99, 100, 101, 102, 103, 104, 105, 106, 107, 108, 109, 110, 111, 112, 113, 114, 115, 116, 117, 118, 119, 120, 121, 122, 123, 124, 125, 126, 127, 128, 129, 130, 131, 132, 133, 134, 135, 136, 137, 138, 139, 140, 150, 151, 152, 153, 154, 155, 156, 157, 158, 159, 160, 161, 162, 163, 164, 165, 166, 167, 168, 169, 170, 171, 172, 173, 174, 175, 176, 177] (by decide +kernel) (by decide +kernel)
set_option maxRecDepth 20000 in
theorem gX11_day_X10_plan : GoodIn wsX11_day (wsV RX11 161 RX10 yX10_plan wsX10_plan) := goodIn_app (goodIn_of _ (by decide +kernel)) ggX11_day_X10_plan
set_option maxRecDepth 20000 in
theorem ggX11_day_X10_shapesOfDay : GoodIn wsX11_day wsX10_shapesOfDay := goodIn_r _ [144, 9, 121, 150, 151, 152, 153, 154, 155, 156, 157, 158, 159, 160, 161, 162, 163] (by decide +kernel) (by decide +kernel)
set_option maxRecDepth 20000 in
theorem gX11_day_X10_shapesOfDay : GoodIn wsX11_day (wsV RX11 168 RX10 yX10_shapesOfDay wsX10_shapesOfDay) := goodIn_app (goodIn_of _ (by decide +kernel)) ggX11_day_X10_shapesOfDay
theorem dX11_day_0 : decode cX11_day 0 = .ok (.iload_n 1, 1) := by decide +kernel
theorem dX11_day_1 : decode cX11_day 1 = .ok (.ifCond .ge 5, 3) := by decide +kernel
theorem dX11_day_4 : decode cX11_day 4 = .ok (.iconst (-1), 1) := by decide +kernel
theorem dX11_day_5 : decode cX11_day 5 = .ok (.ireturn, 1) := by decide +kernel
theorem dX11_day_6 : decode cX11_day 6 = .ok (.aload_n 0, 1) := by decide +kernel
theorem dX11_day_7 : decode cX11_day 7 = .ok (.getfield 19, 3) := by decide +kernel
theorem dX11_day_10 : decode cX11_day 10 = .ok (.aload_n 0, 1) := by decide +kernel
theorem dX11_day_11 : decode cX11_day 11 = .ok (.getfield 10, 3) := by decide +kernel
theorem dX11_day_14 : decode cX11_day 14 = .ok (.invokevirtual 161, 3) := by decide +kernel
theorem dX11_day_17 : decode cX11_day 17 = .ok (.aload_n 0, 1) := by decide +kernel
theorem dX11_day_18 : decode cX11_day 18 = .ok (.getfield 19, 3) := by decide +kernel
theorem dX11_day_21 : decode cX11_day 21 = .ok (.iload_n 1, 1) := by decide +kernel
theorem dX11_day_22 : decode cX11_day 22 = .ok (.invokevirtual 168, 3) := by decide +kernel
theorem dX11_day_25 : decode cX11_day 25 = .ok (.ireturn, 1) := by decide +kernel
set_option maxRecDepth 20000 in
theorem ggX11_poured_X10_plan : GoodIn wsX11_poured wsX10_plan := goodIn_r _ [7, 8, 9, 10, 11, 12, 13, 14, 6, 15, 16, 17, 18, 19, 20, 21, 22, 23, 24, 25, 26, 27, 28, 29, 30, 31, 32, 33, 34, 35, 36, 37, 38, 39, 40, 41, 42, 43, 44, 45, 46, 47, 48, 49, 50, 51, 52, 53, 54, 55, 56, 57, 58, 59, 60, 61, 62, 63, 64, 65, 66, 67, 68, 69, 70, 71, 72, 73, 74, 75, 76, 77, 78, 79, 80, 81, 82, 83, 84, 85, 86, 87, 88, 89, 90, 91, 92, 93, 94, 95, 96, 97, 98, 99, 100, 101, 102, 103, 104, 105, 106, 107, 108, 109, 110, 111, 112, 113, 114, 115, 116, 117, 118, 119, 120, 121, 122, 123, 124, 125, 126, 127, 128, 129, 130, 131, 132, 133, 134, 135, 136, 137, 138, 139, 140, 150, 151, 152, 153, 154, 155, 156, 157, 158, 159, 160, 161, 162, 163, 164, 165, 166, 167, 168, 169, 170, 171, 172, 173, 174, 175, 176, 177] (by decide +kernel) (by decide +kernel)
set_option maxRecDepth 20000 in
theorem gX11_poured_X10_plan : GoodIn wsX11_poured (wsV RX11 161 RX10 yX10_plan wsX10_plan) := goodIn_app (goodIn_of _ (by decide +kernel)) ggX11_poured_X10_plan
set_option maxRecDepth 20000 in
theorem ggX11_poured_X10_shapeAt : GoodIn wsX11_poured wsX10_shapeAt := goodIn_r _ [144, 9, 16, 130, 150, 151, 152, 153, 154, 155, 156, 157, 158, 159, 160, 161, 162, 163] (by decide +kernel) (by decide +kernel)
set_option maxRecDepth 20000 in
theorem gX11_poured_X10_shapeAt : GoodIn wsX11_poured (wsV RX11 171 RX10 yX10_shapeAt wsX10_shapeAt) := goodIn_app (goodIn_of _ (by decide +kernel)) ggX11_poured_X10_shapeAt
theorem dX11_poured_0 : decode cX11_poured 0 = .ok (.iload_n 1, 1) := by decide +kernel
theorem dX11_poured_1 : decode cX11_poured 1 = .ok (.ifCond .ge 5, 3) := by decide +kernel
theorem dX11_poured_4 : decode cX11_poured 4 = .ok (.iconst (-1), 1) := by decide +kernel
theorem dX11_poured_5 : decode cX11_poured 5 = .ok (.ireturn, 1) := by decide +kernel
theorem dX11_poured_6 : decode cX11_poured 6 = .ok (.aload_n 0, 1) := by decide +kernel
theorem dX11_poured_7 : decode cX11_poured 7 = .ok (.getfield 19, 3) := by decide +kernel
theorem dX11_poured_10 : decode cX11_poured 10 = .ok (.aload_n 0, 1) := by decide +kernel
theorem dX11_poured_11 : decode cX11_poured 11 = .ok (.getfield 10, 3) := by decide +kernel
theorem dX11_poured_14 : decode cX11_poured 14 = .ok (.invokevirtual 161, 3) := by decide +kernel
theorem dX11_poured_17 : decode cX11_poured 17 = .ok (.aload_n 0, 1) := by decide +kernel
theorem dX11_poured_18 : decode cX11_poured 18 = .ok (.getfield 19, 3) := by decide +kernel
theorem dX11_poured_21 : decode cX11_poured 21 = .ok (.iload_n 1, 1) := by decide +kernel
theorem dX11_poured_22 : decode cX11_poured 22 = .ok (.invokevirtual 171, 3) := by decide +kernel
theorem dX11_poured_25 : decode cX11_poured 25 = .ok (.ireturn, 1) := by decide +kernel
set_option maxRecDepth 20000 in
theorem ggX11_photo_X3_take : GoodIn wsX11_photo wsX3_take := goodIn_r _ [7, 8, 9, 10, 11, 12, 13, 14, 15, 16, 17, 18, 19, 20, 21, 22, 23, 24, 25, 26, 27, 28, 29, 30, 31, 32, 33, 34, 35, 36, 37, 38, 39, 40, 41, 42, 43, 44, 45, 46, 47, 48, 49, 50, 51, 52, 63, 64, 65, 66, 67, 68, 69, 70, 71, 72, 73, 74, 75, 76, 77, 78] (by decide +kernel) (by decide +kernel)
set_option maxRecDepth 20000 in
theorem gX11_photo_X3_take : GoodIn wsX11_photo (wsV RX11 174 RX3 yX3_take wsX3_take) := goodIn_app (goodIn_of _ (by decide +kernel)) ggX11_photo_X3_take
set_option maxRecDepth 20000 in
theorem ggX11_photo_X4_cellsThatLook : GoodIn wsX11_photo wsX4_cellsThatLook := goodIn_r _ [56, 57, 13, 14, 15, 16, 17, 18, 19, 20, 21, 22, 23, 24, 25, 26, 27, 28, 29, 30, 31, 32, 33, 34, 35, 36, 37, 38, 39, 40, 41, 42, 43, 44, 45, 46, 47, 10, 48, 49, 50, 51, 52, 65, 66, 67, 68, 69, 70, 71, 72, 73, 74, 75, 76, 77, 78] (by decide +kernel) (by decide +kernel)
set_option maxRecDepth 20000 in
theorem gX11_photo_X4_cellsThatLook : GoodIn wsX11_photo (wsV RX11 142 RX4 yX4_cellsThatLook wsX4_cellsThatLook) := goodIn_app (goodIn_of _ (by decide +kernel)) ggX11_photo_X4_cellsThatLook
theorem dX11_photo_0 : decode cX11_photo 0 = .ok (.aload_n 0, 1) := by decide +kernel
theorem dX11_photo_1 : decode cX11_photo 1 = .ok (.getfield 26, 3) := by decide +kernel
theorem dX11_photo_4 : decode cX11_photo 4 = .ok (.aload_n 0, 1) := by decide +kernel
theorem dX11_photo_5 : decode cX11_photo 5 = .ok (.getfield 10, 3) := by decide +kernel
theorem dX11_photo_8 : decode cX11_photo 8 = .ok (.invokevirtual 174, 3) := by decide +kernel
theorem dX11_photo_11 : decode cX11_photo 11 = .ok (.sipush 256, 3) := by decide +kernel
theorem dX11_photo_14 : decode cX11_photo 14 = .ok (.aload_n 0, 1) := by decide +kernel
theorem dX11_photo_15 : decode cX11_photo 15 = .ok (.getfield 10, 3) := by decide +kernel
theorem dX11_photo_18 : decode cX11_photo 18 = .ok (.iconst 0, 1) := by decide +kernel
theorem dX11_photo_19 : decode cX11_photo 19 = .ok (.invokevirtual 142, 3) := by decide +kernel
theorem dX11_photo_22 : decode cX11_photo 22 = .ok (.isub, 1) := by decide +kernel
theorem dX11_photo_23 : decode cX11_photo 23 = .ok (.ireturn, 1) := by decide +kernel
set_option maxRecDepth 20000 in
theorem ggX11_smear_X11_isCell : GoodIn wsX11_smear wsX11_isCell := goodIn_r _ [5, 6, 7, 4, 8] (by decide +kernel) (by decide +kernel)
set_option maxRecDepth 20000 in
theorem gX11_smear_X11_isCell : GoodIn wsX11_smear (va_wsS RX11 125 yX11_isCell wsX11_isCell) := goodIn_app (goodIn_of _ (by decide +kernel)) ggX11_smear_X11_isCell
set_option maxRecDepth 20000 in
theorem ggX11_smear_X3_smearCell : GoodIn wsX11_smear wsX3_smearCell := goodIn_r _ [13, 14, 20, 21] (by decide +kernel) (by decide +kernel)
set_option maxRecDepth 20000 in
theorem gX11_smear_X3_smearCell : GoodIn wsX11_smear (wsV RX11 177 RX3 yX3_smearCell wsX3_smearCell) := goodIn_app (goodIn_of _ (by decide +kernel)) ggX11_smear_X3_smearCell
theorem dX11_smear_0 : decode cX11_smear 0 = .ok (.iload_n 1, 1) := by decide +kernel
theorem dX11_smear_1 : decode cX11_smear 1 = .ok (.iload_n 2, 1) := by decide +kernel
theorem dX11_smear_2 : decode cX11_smear 2 = .ok (.invokestatic 125, 3) := by decide +kernel
theorem dX11_smear_5 : decode cX11_smear 5 = .ok (.ifCond .eq 19, 3) := by decide +kernel
theorem dX11_smear_8 : decode cX11_smear 8 = .ok (.aload_n 0, 1) := by decide +kernel
theorem dX11_smear_9 : decode cX11_smear 9 = .ok (.getfield 26, 3) := by decide +kernel
theorem dX11_smear_12 : decode cX11_smear 12 = .ok (.bipush 16, 2) := by decide +kernel
theorem dX11_smear_14 : decode cX11_smear 14 = .ok (.iload_n 2, 1) := by decide +kernel
theorem dX11_smear_15 : decode cX11_smear 15 = .ok (.imul, 1) := by decide +kernel
theorem dX11_smear_16 : decode cX11_smear 16 = .ok (.iload_n 1, 1) := by decide +kernel
theorem dX11_smear_17 : decode cX11_smear 17 = .ok (.iadd, 1) := by decide +kernel
theorem dX11_smear_18 : decode cX11_smear 18 = .ok (.invokevirtual 177, 3) := by decide +kernel
theorem dX11_smear_21 : decode cX11_smear 21 = .ok (.goto 4, 3) := by decide +kernel
theorem dX11_smear_24 : decode cX11_smear 24 = .ok (.iconst (-1), 1) := by decide +kernel
theorem dX11_smear_25 : decode cX11_smear 25 = .ok (.ireturn, 1) := by decide +kernel
set_option maxRecDepth 20000 in
theorem ggX11_cat_X11_isCell : GoodIn wsX11_cat wsX11_isCell := goodIn_r _ [5, 6, 7, 4, 8] (by decide +kernel) (by decide +kernel)
set_option maxRecDepth 20000 in
theorem gX11_cat_X11_isCell : GoodIn wsX11_cat (va_wsS RX11 125 yX11_isCell wsX11_isCell) := goodIn_app (goodIn_of _ (by decide +kernel)) ggX11_cat_X11_isCell
set_option maxRecDepth 20000 in
theorem ggX11_cat_X11_isStride : GoodIn wsX11_cat wsX11_isStride := goodIn_r _ [11, 6, 7, 4, 8] (by decide +kernel) (by decide +kernel)
set_option maxRecDepth 20000 in
theorem gX11_cat_X11_isStride : GoodIn wsX11_cat (va_wsS RX11 180 yX11_isStride wsX11_isStride) := goodIn_app (goodIn_of _ (by decide +kernel)) ggX11_cat_X11_isStride
set_option maxRecDepth 20000 in
theorem ggX11_cat_X11_within : GoodIn wsX11_cat wsX11_within := goodIn_r _ [8] (by decide +kernel) (by decide +kernel)
set_option maxRecDepth 20000 in
theorem gX11_cat_X11_within : GoodIn wsX11_cat (va_wsS RX11 48 yX11_within wsX11_within) := goodIn_app (goodIn_of _ (by decide +kernel)) ggX11_cat_X11_within
set_option maxRecDepth 20000 in
theorem ggX11_cat_X3_smearCell : GoodIn wsX11_cat wsX3_smearCell := goodIn_r _ [16, 17, 23, 24] (by decide +kernel) (by decide +kernel)
set_option maxRecDepth 20000 in
theorem gX11_cat_X3_smearCell : GoodIn wsX11_cat (wsV RX11 177 RX3 yX3_smearCell wsX3_smearCell) := goodIn_app (goodIn_of _ (by decide +kernel)) ggX11_cat_X3_smearCell
theorem dX11_cat_0 : decode cX11_cat 0 = .ok (.iload_n 1, 1) := by decide +kernel
theorem dX11_cat_1 : decode cX11_cat 1 = .ok (.iload_n 2, 1) := by decide +kernel
theorem dX11_cat_2 : decode cX11_cat 2 = .ok (.invokestatic 125, 3) := by decide +kernel
theorem dX11_cat_5 : decode cX11_cat 5 = .ok (.ifCond .eq 23, 3) := by decide +kernel
theorem dX11_cat_8 : decode cX11_cat 8 = .ok (.iload_n 3, 1) := by decide +kernel
theorem dX11_cat_9 : decode cX11_cat 9 = .ok (.iload 4, 2) := by decide +kernel
theorem dX11_cat_11 : decode cX11_cat 11 = .ok (.invokestatic 180, 3) := by decide +kernel
theorem dX11_cat_14 : decode cX11_cat 14 = .ok (.ifCond .eq 14, 3) := by decide +kernel
theorem dX11_cat_17 : decode cX11_cat 17 = .ok (.iload 5, 2) := by decide +kernel
theorem dX11_cat_19 : decode cX11_cat 19 = .ok (.iconst 0, 1) := by decide +kernel
theorem dX11_cat_20 : decode cX11_cat 20 = .ok (.bipush 15, 2) := by decide +kernel
theorem dX11_cat_22 : decode cX11_cat 22 = .ok (.invokestatic 48, 3) := by decide +kernel
theorem dX11_cat_25 : decode cX11_cat 25 = .ok (.ifCond .ne 5, 3) := by decide +kernel
theorem dX11_cat_28 : decode cX11_cat 28 = .ok (.iconst (-1), 1) := by decide +kernel
theorem dX11_cat_29 : decode cX11_cat 29 = .ok (.ireturn, 1) := by decide +kernel
theorem dX11_cat_30 : decode cX11_cat 30 = .ok (.iconst 0, 1) := by decide +kernel
theorem dX11_cat_31 : decode cX11_cat 31 = .ok (.istore 6, 2) := by decide +kernel
theorem dX11_cat_33 : decode cX11_cat 33 = .ok (.iconst 0, 1) := by decide +kernel
theorem dX11_cat_34 : decode cX11_cat 34 = .ok (.istore 7, 2) := by decide +kernel
theorem dX11_cat_36 : decode cX11_cat 36 = .ok (.iload 7, 2) := by decide +kernel
theorem dX11_cat_38 : decode cX11_cat 38 = .ok (.iload 5, 2) := by decide +kernel
theorem dX11_cat_40 : decode cX11_cat 40 = .ok (.if_icmp .gt 60, 3) := by decide +kernel
theorem dX11_cat_43 : decode cX11_cat 43 = .ok (.iload_n 1, 1) := by decide +kernel
theorem dX11_cat_44 : decode cX11_cat 44 = .ok (.iload 7, 2) := by decide +kernel
theorem dX11_cat_46 : decode cX11_cat 46 = .ok (.iload_n 3, 1) := by decide +kernel
theorem dX11_cat_47 : decode cX11_cat 47 = .ok (.imul, 1) := by decide +kernel
theorem dX11_cat_48 : decode cX11_cat 48 = .ok (.iadd, 1) := by decide +kernel
theorem dX11_cat_49 : decode cX11_cat 49 = .ok (.iload_n 2, 1) := by decide +kernel
theorem dX11_cat_50 : decode cX11_cat 50 = .ok (.iload 7, 2) := by decide +kernel
theorem dX11_cat_52 : decode cX11_cat 52 = .ok (.iload 4, 2) := by decide +kernel
theorem dX11_cat_54 : decode cX11_cat 54 = .ok (.imul, 1) := by decide +kernel
theorem dX11_cat_55 : decode cX11_cat 55 = .ok (.iadd, 1) := by decide +kernel
theorem dX11_cat_56 : decode cX11_cat 56 = .ok (.invokestatic 125, 3) := by decide +kernel
theorem dX11_cat_59 : decode cX11_cat 59 = .ok (.ifCond .eq 41, 3) := by decide +kernel
theorem dX11_cat_62 : decode cX11_cat 62 = .ok (.aload_n 0, 1) := by decide +kernel
theorem dX11_cat_63 : decode cX11_cat 63 = .ok (.getfield 26, 3) := by decide +kernel
theorem dX11_cat_66 : decode cX11_cat 66 = .ok (.bipush 16, 2) := by decide +kernel
theorem dX11_cat_68 : decode cX11_cat 68 = .ok (.iload_n 2, 1) := by decide +kernel
theorem dX11_cat_69 : decode cX11_cat 69 = .ok (.iload 7, 2) := by decide +kernel
theorem dX11_cat_71 : decode cX11_cat 71 = .ok (.iload 4, 2) := by decide +kernel
theorem dX11_cat_73 : decode cX11_cat 73 = .ok (.imul, 1) := by decide +kernel
theorem dX11_cat_74 : decode cX11_cat 74 = .ok (.iadd, 1) := by decide +kernel
theorem dX11_cat_75 : decode cX11_cat 75 = .ok (.imul, 1) := by decide +kernel
theorem dX11_cat_76 : decode cX11_cat 76 = .ok (.iload_n 1, 1) := by decide +kernel
theorem dX11_cat_77 : decode cX11_cat 77 = .ok (.iadd, 1) := by decide +kernel
theorem dX11_cat_78 : decode cX11_cat 78 = .ok (.iload 7, 2) := by decide +kernel
theorem dX11_cat_80 : decode cX11_cat 80 = .ok (.iload_n 3, 1) := by decide +kernel
theorem dX11_cat_81 : decode cX11_cat 81 = .ok (.imul, 1) := by decide +kernel
theorem dX11_cat_82 : decode cX11_cat 82 = .ok (.iadd, 1) := by decide +kernel
theorem dX11_cat_83 : decode cX11_cat 83 = .ok (.invokevirtual 177, 3) := by decide +kernel
theorem dX11_cat_86 : decode cX11_cat 86 = .ok (.bipush (-5), 2) := by decide +kernel
theorem dX11_cat_88 : decode cX11_cat 88 = .ok (.if_icmp .eq 6, 3) := by decide +kernel
theorem dX11_cat_91 : decode cX11_cat 91 = .ok (.iinc 6 1, 3) := by decide +kernel
theorem dX11_cat_94 : decode cX11_cat 94 = .ok (.iinc 7 1, 3) := by decide +kernel
theorem dX11_cat_97 : decode cX11_cat 97 = .ok (.goto (-61), 3) := by decide +kernel
theorem dX11_cat_100 : decode cX11_cat 100 = .ok (.iload 6, 2) := by decide +kernel
theorem dX11_cat_102 : decode cX11_cat 102 = .ok (.ireturn, 1) := by decide +kernel
set_option maxRecDepth 20000 in
theorem ggX11_seen_X11_isCell : GoodIn wsX11_seen wsX11_isCell := goodIn_r _ [5, 6, 7, 4, 8] (by decide +kernel) (by decide +kernel)
set_option maxRecDepth 20000 in
theorem gX11_seen_X11_isCell : GoodIn wsX11_seen (va_wsS RX11 125 yX11_isCell wsX11_isCell) := goodIn_app (goodIn_of _ (by decide +kernel)) ggX11_seen_X11_isCell
set_option maxRecDepth 20000 in
theorem ggX11_seen_X3_colourOf : GoodIn wsX11_seen wsX3_colourOf := goodIn_r _ [13, 14, 20, 21] (by decide +kernel) (by decide +kernel)
set_option maxRecDepth 20000 in
theorem gX11_seen_X3_colourOf : GoodIn wsX11_seen (wsV RX11 183 RX3 yX3_colourOf wsX3_colourOf) := goodIn_app (goodIn_of _ (by decide +kernel)) ggX11_seen_X3_colourOf
theorem dX11_seen_0 : decode cX11_seen 0 = .ok (.iload_n 1, 1) := by decide +kernel
theorem dX11_seen_1 : decode cX11_seen 1 = .ok (.iload_n 2, 1) := by decide +kernel
theorem dX11_seen_2 : decode cX11_seen 2 = .ok (.invokestatic 125, 3) := by decide +kernel
theorem dX11_seen_5 : decode cX11_seen 5 = .ok (.ifCond .eq 19, 3) := by decide +kernel
theorem dX11_seen_8 : decode cX11_seen 8 = .ok (.aload_n 0, 1) := by decide +kernel
theorem dX11_seen_9 : decode cX11_seen 9 = .ok (.getfield 26, 3) := by decide +kernel
theorem dX11_seen_12 : decode cX11_seen 12 = .ok (.bipush 16, 2) := by decide +kernel
theorem dX11_seen_14 : decode cX11_seen 14 = .ok (.iload_n 2, 1) := by decide +kernel
theorem dX11_seen_15 : decode cX11_seen 15 = .ok (.imul, 1) := by decide +kernel
theorem dX11_seen_16 : decode cX11_seen 16 = .ok (.iload_n 1, 1) := by decide +kernel
theorem dX11_seen_17 : decode cX11_seen 17 = .ok (.iadd, 1) := by decide +kernel
theorem dX11_seen_18 : decode cX11_seen 18 = .ok (.invokevirtual 183, 3) := by decide +kernel
theorem dX11_seen_21 : decode cX11_seen 21 = .ok (.goto 4, 3) := by decide +kernel
theorem dX11_seen_24 : decode cX11_seen 24 = .ok (.iconst (-1), 1) := by decide +kernel
theorem dX11_seen_25 : decode cX11_seen 25 = .ok (.ireturn, 1) := by decide +kernel
set_option maxRecDepth 20000 in
theorem ggX11_back_X11_isCell : GoodIn wsX11_back wsX11_isCell := goodIn_r _ [6, 7, 8, 5, 9] (by decide +kernel) (by decide +kernel)
set_option maxRecDepth 20000 in
theorem gX11_back_X11_isCell : GoodIn wsX11_back (va_wsS RX11 125 yX11_isCell wsX11_isCell) := goodIn_app (goodIn_of _ (by decide +kernel)) ggX11_back_X11_isCell
set_option maxRecDepth 20000 in
theorem ggX11_back_X3_colourOf : GoodIn wsX11_back wsX3_colourOf := goodIn_r _ [14, 15, 59, 60] (by decide +kernel) (by decide +kernel)
set_option maxRecDepth 20000 in
theorem gX11_back_X3_colourOf : GoodIn wsX11_back (wsV RX11 183 RX3 yX3_colourOf wsX3_colourOf) := goodIn_app (goodIn_of _ (by decide +kernel)) ggX11_back_X3_colourOf
set_option maxRecDepth 20000 in
theorem ggX11_back_X11_placeOf : GoodIn wsX11_back wsX11_placeOf := goodIn_r _ [18, 19, 20, 5, 21] (by decide +kernel) (by decide +kernel)
set_option maxRecDepth 20000 in
theorem gX11_back_X11_placeOf : GoodIn wsX11_back (va_wsS RX11 129 yX11_placeOf wsX11_placeOf) := goodIn_app (goodIn_of _ (by decide +kernel)) ggX11_back_X11_placeOf
set_option maxRecDepth 20000 in
theorem ggX11_back_X11_quarterOf : GoodIn wsX11_back wsX11_quarterOf := goodIn_r _ [21] (by decide +kernel) (by decide +kernel)
set_option maxRecDepth 20000 in
theorem gX11_back_X11_quarterOf : GoodIn wsX11_back (va_wsS RX11 133 yX11_quarterOf wsX11_quarterOf) := goodIn_app (goodIn_of _ (by decide +kernel)) ggX11_back_X11_quarterOf
set_option maxRecDepth 20000 in
theorem ggX11_back_X4_stepOfPlace : GoodIn wsX11_back wsX4_stepOfPlace := goodIn_r _ [26, 27, 28, 29, 30, 31, 32, 33, 34, 35, 36, 37, 61, 62, 63, 64, 65, 66, 67, 68, 69, 70, 71, 72, 73, 74] (by decide +kernel) (by decide +kernel)
set_option maxRecDepth 20000 in
theorem gX11_back_X4_stepOfPlace : GoodIn wsX11_back (wsV RX11 186 RX4 yX4_stepOfPlace wsX4_stepOfPlace) := goodIn_app (goodIn_of _ (by decide +kernel)) ggX11_back_X4_stepOfPlace
set_option maxRecDepth 20000 in
theorem ggX11_back_X3_toldBack : GoodIn wsX11_back wsX3_toldBack := goodIn_r _ [41, 15, 42, 43, 44, 13, 45, 46, 5, 47, 48, 49, 50, 51, 52, 53, 59, 60] (by decide +kernel) (by decide +kernel)
set_option maxRecDepth 20000 in
theorem gX11_back_X3_toldBack : GoodIn wsX11_back (wsV RX11 189 RX3 yX3_toldBack wsX3_toldBack) := goodIn_app (goodIn_of _ (by decide +kernel)) ggX11_back_X3_toldBack
theorem dX11_back_0 : decode cX11_back 0 = .ok (.iload_n 1, 1) := by decide +kernel
theorem dX11_back_1 : decode cX11_back 1 = .ok (.iload_n 2, 1) := by decide +kernel
theorem dX11_back_2 : decode cX11_back 2 = .ok (.invokestatic 125, 3) := by decide +kernel
theorem dX11_back_5 : decode cX11_back 5 = .ok (.ifCond .ne 5, 3) := by decide +kernel
theorem dX11_back_8 : decode cX11_back 8 = .ok (.iconst (-1), 1) := by decide +kernel
theorem dX11_back_9 : decode cX11_back 9 = .ok (.ireturn, 1) := by decide +kernel
theorem dX11_back_10 : decode cX11_back 10 = .ok (.aload_n 0, 1) := by decide +kernel
theorem dX11_back_11 : decode cX11_back 11 = .ok (.getfield 26, 3) := by decide +kernel
theorem dX11_back_14 : decode cX11_back 14 = .ok (.bipush 16, 2) := by decide +kernel
theorem dX11_back_16 : decode cX11_back 16 = .ok (.iload_n 2, 1) := by decide +kernel
theorem dX11_back_17 : decode cX11_back 17 = .ok (.imul, 1) := by decide +kernel
theorem dX11_back_18 : decode cX11_back 18 = .ok (.iload_n 1, 1) := by decide +kernel
theorem dX11_back_19 : decode cX11_back 19 = .ok (.iadd, 1) := by decide +kernel
theorem dX11_back_20 : decode cX11_back 20 = .ok (.invokevirtual 183, 3) := by decide +kernel
theorem dX11_back_23 : decode cX11_back 23 = .ok (.bipush (-5), 2) := by decide +kernel
theorem dX11_back_25 : decode cX11_back 25 = .ok (.if_icmp .eq 6, 3) := by decide +kernel
theorem dX11_back_28 : decode cX11_back 28 = .ok (.bipush (-2), 2) := by decide +kernel
theorem dX11_back_30 : decode cX11_back 30 = .ok (.ireturn, 1) := by decide +kernel
theorem dX11_back_31 : decode cX11_back 31 = .ok (.iload_n 1, 1) := by decide +kernel
theorem dX11_back_32 : decode cX11_back 32 = .ok (.iload_n 2, 1) := by decide +kernel
theorem dX11_back_33 : decode cX11_back 33 = .ok (.invokestatic 129, 3) := by decide +kernel
theorem dX11_back_36 : decode cX11_back 36 = .ok (.istore_n 3, 1) := by decide +kernel
theorem dX11_back_37 : decode cX11_back 37 = .ok (.aload_n 0, 1) := by decide +kernel
theorem dX11_back_38 : decode cX11_back 38 = .ok (.getfield 26, 3) := by decide +kernel
theorem dX11_back_41 : decode cX11_back 41 = .ok (.iload_n 3, 1) := by decide +kernel
theorem dX11_back_42 : decode cX11_back 42 = .ok (.iload_n 1, 1) := by decide +kernel
theorem dX11_back_43 : decode cX11_back 43 = .ok (.iload_n 2, 1) := by decide +kernel
theorem dX11_back_44 : decode cX11_back 44 = .ok (.invokestatic 133, 3) := by decide +kernel
theorem dX11_back_47 : decode cX11_back 47 = .ok (.aload_n 0, 1) := by decide +kernel
theorem dX11_back_48 : decode cX11_back 48 = .ok (.getfield 10, 3) := by decide +kernel
theorem dX11_back_51 : decode cX11_back 51 = .ok (.iload_n 3, 1) := by decide +kernel
theorem dX11_back_52 : decode cX11_back 52 = .ok (.invokevirtual 186, 3) := by decide +kernel
theorem dX11_back_55 : decode cX11_back 55 = .ok (.invokevirtual 189, 3) := by decide +kernel
theorem dX11_back_58 : decode cX11_back 58 = .ok (.ireturn, 1) := by decide +kernel
set_option maxRecDepth 20000 in
theorem ggX11_mend_X3_mendAll : GoodIn wsX11_mend wsX3_mendAll := goodIn_r _ [7, 8, 9, 10, 11, 12, 13, 14, 15, 16, 17, 18, 19, 20, 21, 22, 23, 24, 25, 26, 6, 27, 28, 29, 30, 31, 32, 33, 34, 35, 36, 37, 38, 39, 40, 41, 42, 43, 44, 45, 46, 52, 53, 54, 55, 56, 57, 58, 59, 60, 61, 62, 63, 64, 65, 66, 67] (by decide +kernel) (by decide +kernel)
set_option maxRecDepth 20000 in
theorem gX11_mend_X3_mendAll : GoodIn wsX11_mend (wsV RX11 193 RX3 yX3_mendAll wsX3_mendAll) := goodIn_app (goodIn_of _ (by decide +kernel)) ggX11_mend_X3_mendAll
theorem dX11_mend_0 : decode cX11_mend 0 = .ok (.aload_n 0, 1) := by decide +kernel
theorem dX11_mend_1 : decode cX11_mend 1 = .ok (.getfield 26, 3) := by decide +kernel
theorem dX11_mend_4 : decode cX11_mend 4 = .ok (.aload_n 0, 1) := by decide +kernel
theorem dX11_mend_5 : decode cX11_mend 5 = .ok (.getfield 10, 3) := by decide +kernel
theorem dX11_mend_8 : decode cX11_mend 8 = .ok (.invokevirtual 193, 3) := by decide +kernel
theorem dX11_mend_11 : decode cX11_mend 11 = .ok (.ireturn, 1) := by decide +kernel
set_option maxRecDepth 20000 in
theorem ggX11_harm_X3_cellsSmeared : GoodIn wsX11_harm wsX3_cellsSmeared := goodIn_r _ [7, 8, 83, 84] (by decide +kernel) (by decide +kernel)
set_option maxRecDepth 20000 in
theorem gX11_harm_X3_cellsSmeared : GoodIn wsX11_harm (wsV RX11 197 RX3 yX3_cellsSmeared wsX3_cellsSmeared) := goodIn_app (goodIn_of _ (by decide +kernel)) ggX11_harm_X3_cellsSmeared
set_option maxRecDepth 20000 in
theorem ggX11_harm_X3_cellsOff : GoodIn wsX11_harm wsX3_cellsOff := goodIn_r _ [12, 8, 13, 14, 15, 6, 16, 17, 18, 19, 20, 21, 22, 23, 24, 25, 26, 27, 28, 29, 30, 31, 32, 33, 34, 35, 36, 37, 38, 39, 40, 41, 42, 43, 44, 45, 46, 47, 48, 49, 50, 51, 52, 53, 54, 55, 56, 57, 58, 59, 60, 83, 84, 85, 86, 87, 88, 89, 90, 91, 92, 93, 94, 95, 96, 97, 98] (by decide +kernel) (by decide +kernel)
set_option maxRecDepth 20000 in
theorem gX11_harm_X3_cellsOff : GoodIn wsX11_harm (wsV RX11 200 RX3 yX3_cellsOff wsX3_cellsOff) := goodIn_app (goodIn_of _ (by decide +kernel)) ggX11_harm_X3_cellsOff
set_option maxRecDepth 20000 in
theorem ggX11_harm_X3_cellsToldBackAs : GoodIn wsX11_harm wsX3_cellsToldBackAs := goodIn_r _ [64, 65, 66, 67, 23, 68, 25, 26, 69, 70, 71, 72, 73, 30, 31, 32, 33, 13, 14, 15, 6, 16, 8, 17, 18, 19, 74, 75, 76, 77, 55, 56, 57, 58, 59, 60, 85, 86, 87, 96, 97, 98, 88, 89, 90, 91, 92, 93, 94, 95, 83, 84] (by decide +kernel) (by decide +kernel)
set_option maxRecDepth 20000 in
theorem gX11_harm_X3_cellsToldBackAs : GoodIn wsX11_harm (wsV RX11 203 RX3 yX3_cellsToldBackAs wsX3_cellsToldBackAs) := goodIn_app (goodIn_of _ (by decide +kernel)) ggX11_harm_X3_cellsToldBackAs
theorem dX11_harm_0 : decode cX11_harm 0 = .ok (.iload_n 1, 1) := by decide +kernel
theorem dX11_harm_1 : decode cX11_harm 1 = .ok (.tableswitch 79 0 3 #[31, 39, 51, 65], 31) := by decide +kernel
theorem dX11_harm_32 : decode cX11_harm 32 = .ok (.aload_n 0, 1) := by decide +kernel
theorem dX11_harm_33 : decode cX11_harm 33 = .ok (.getfield 26, 3) := by decide +kernel
theorem dX11_harm_36 : decode cX11_harm 36 = .ok (.invokevirtual 197, 3) := by decide +kernel
theorem dX11_harm_39 : decode cX11_harm 39 = .ok (.ireturn, 1) := by decide +kernel
theorem dX11_harm_40 : decode cX11_harm 40 = .ok (.aload_n 0, 1) := by decide +kernel
theorem dX11_harm_41 : decode cX11_harm 41 = .ok (.getfield 26, 3) := by decide +kernel
theorem dX11_harm_44 : decode cX11_harm 44 = .ok (.aload_n 0, 1) := by decide +kernel
theorem dX11_harm_45 : decode cX11_harm 45 = .ok (.getfield 10, 3) := by decide +kernel
theorem dX11_harm_48 : decode cX11_harm 48 = .ok (.invokevirtual 200, 3) := by decide +kernel
theorem dX11_harm_51 : decode cX11_harm 51 = .ok (.ireturn, 1) := by decide +kernel
theorem dX11_harm_52 : decode cX11_harm 52 = .ok (.aload_n 0, 1) := by decide +kernel
theorem dX11_harm_53 : decode cX11_harm 53 = .ok (.getfield 26, 3) := by decide +kernel
theorem dX11_harm_56 : decode cX11_harm 56 = .ok (.bipush (-5), 2) := by decide +kernel
theorem dX11_harm_58 : decode cX11_harm 58 = .ok (.aload_n 0, 1) := by decide +kernel
theorem dX11_harm_59 : decode cX11_harm 59 = .ok (.getfield 10, 3) := by decide +kernel
theorem dX11_harm_62 : decode cX11_harm 62 = .ok (.invokevirtual 203, 3) := by decide +kernel
theorem dX11_harm_65 : decode cX11_harm 65 = .ok (.ireturn, 1) := by decide +kernel
theorem dX11_harm_66 : decode cX11_harm 66 = .ok (.aload_n 0, 1) := by decide +kernel
theorem dX11_harm_67 : decode cX11_harm 67 = .ok (.getfield 26, 3) := by decide +kernel
theorem dX11_harm_70 : decode cX11_harm 70 = .ok (.bipush (-6), 2) := by decide +kernel
theorem dX11_harm_72 : decode cX11_harm 72 = .ok (.aload_n 0, 1) := by decide +kernel
theorem dX11_harm_73 : decode cX11_harm 73 = .ok (.getfield 10, 3) := by decide +kernel
theorem dX11_harm_76 : decode cX11_harm 76 = .ok (.invokevirtual 203, 3) := by decide +kernel
theorem dX11_harm_79 : decode cX11_harm 79 = .ok (.ireturn, 1) := by decide +kernel
theorem dX11_harm_80 : decode cX11_harm 80 = .ok (.iconst (-1), 1) := by decide +kernel
theorem dX11_harm_81 : decode cX11_harm 81 = .ok (.ireturn, 1) := by decide +kernel
set_option maxRecDepth 20000 in
theorem ggX11_again_X3_smearedPlaces : GoodIn wsX11_again wsX3_smearedPlaces := goodIn_r _ [7, 8, 9, 10, 11, 12, 13, 14, 37, 38] (by decide +kernel) (by decide +kernel)
set_option maxRecDepth 20000 in
theorem gX11_again_X3_smearedPlaces : GoodIn wsX11_again (wsV RX11 207 RX3 yX3_smearedPlaces wsX3_smearedPlaces) := goodIn_app (goodIn_of _ (by decide +kernel)) ggX11_again_X3_smearedPlaces
set_option maxRecDepth 20000 in
theorem ggX11_again_X4_shapesAt : GoodIn wsX11_again wsX4_shapesAt := goodIn_r _ [19, 20, 21, 22, 39, 40, 41, 42, 43, 44, 45, 46, 47, 48, 49, 50, 51, 52] (by decide +kernel) (by decide +kernel)
set_option maxRecDepth 20000 in
theorem gX11_again_X4_shapesAt : GoodIn wsX11_again (wsV RX11 211 RX4 yX4_shapesAt wsX4_shapesAt) := goodIn_app (goodIn_of _ (by decide +kernel)) ggX11_again_X4_shapesAt
set_option maxRecDepth 20000 in
theorem ggX11_again_X4_withAllAfter : GoodIn wsX11_again wsX4_withAllAfter := goodIn_r _ [26, 20, 27, 28, 29, 18, 30, 31, 21, 22, 39, 40, 41, 42, 43, 44, 45, 46, 47, 48, 49, 50, 51, 52] (by decide +kernel) (by decide +kernel)
set_option maxRecDepth 20000 in
theorem gX11_again_X4_withAllAfter : GoodIn wsX11_again (wsV RX11 215 RX4 yX4_withAllAfter wsX4_withAllAfter) := goodIn_app (goodIn_of _ (by decide +kernel)) ggX11_again_X4_withAllAfter
theorem dX11_again_0 : decode cX11_again 0 = .ok (.aload_n 0, 1) := by decide +kernel
theorem dX11_again_1 : decode cX11_again 1 = .ok (.getfield 10, 3) := by decide +kernel
theorem dX11_again_4 : decode cX11_again 4 = .ok (.aload_n 0, 1) := by decide +kernel
theorem dX11_again_5 : decode cX11_again 5 = .ok (.getfield 10, 3) := by decide +kernel
theorem dX11_again_8 : decode cX11_again 8 = .ok (.aload_n 0, 1) := by decide +kernel
theorem dX11_again_9 : decode cX11_again 9 = .ok (.getfield 26, 3) := by decide +kernel
theorem dX11_again_12 : decode cX11_again 12 = .ok (.invokevirtual 207, 3) := by decide +kernel
theorem dX11_again_15 : decode cX11_again 15 = .ok (.invokevirtual 211, 3) := by decide +kernel
theorem dX11_again_18 : decode cX11_again 18 = .ok (.invokevirtual 215, 3) := by decide +kernel
theorem dX11_again_21 : decode cX11_again 21 = .ok (.ireturn, 1) := by decide +kernel
set_option maxRecDepth 20000 in
theorem ggX11_bar_X11_within : GoodIn wsX11_bar wsX11_within := goodIn_r _ [6] (by decide +kernel) (by decide +kernel)
set_option maxRecDepth 20000 in
theorem gX11_bar_X11_within : GoodIn wsX11_bar (va_wsS RX11 48 yX11_within wsX11_within) := goodIn_app (goodIn_of _ (by decide +kernel)) ggX11_bar_X11_within
set_option maxRecDepth 20000 in
theorem ggX11_bar_X9_changeBars : GoodIn wsX11_bar wsX9_changeBars := goodIn_r _ [11, 12, 13, 19, 20, 21] (by decide +kernel) (by decide +kernel)
set_option maxRecDepth 20000 in
theorem gX11_bar_X9_changeBars : GoodIn wsX11_bar (wsV RX11 219 RX9 yX9_changeBars wsX9_changeBars) := goodIn_app (goodIn_of _ (by decide +kernel)) ggX11_bar_X9_changeBars
theorem dX11_bar_0 : decode cX11_bar 0 = .ok (.iload_n 1, 1) := by decide +kernel
theorem dX11_bar_1 : decode cX11_bar 1 = .ok (.iconst 0, 1) := by decide +kernel
theorem dX11_bar_2 : decode cX11_bar 2 = .ok (.ldc 218, 2) := by decide +kernel
theorem dX11_bar_4 : decode cX11_bar 4 = .ok (.invokestatic 48, 3) := by decide +kernel
theorem dX11_bar_7 : decode cX11_bar 7 = .ok (.ifCond .eq 14, 3) := by decide +kernel
theorem dX11_bar_10 : decode cX11_bar 10 = .ok (.aload_n 0, 1) := by decide +kernel
theorem dX11_bar_11 : decode cX11_bar 11 = .ok (.getfield 33, 3) := by decide +kernel
theorem dX11_bar_14 : decode cX11_bar 14 = .ok (.iload_n 1, 1) := by decide +kernel
theorem dX11_bar_15 : decode cX11_bar 15 = .ok (.invokevirtual 219, 3) := by decide +kernel
theorem dX11_bar_18 : decode cX11_bar 18 = .ok (.goto 4, 3) := by decide +kernel
theorem dX11_bar_21 : decode cX11_bar 21 = .ok (.iconst (-1), 1) := by decide +kernel
theorem dX11_bar_22 : decode cX11_bar 22 = .ok (.ireturn, 1) := by decide +kernel
set_option maxRecDepth 20000 in
theorem ggX11_way_X11_within : GoodIn wsX11_way wsX11_within := goodIn_r _ [6] (by decide +kernel) (by decide +kernel)
set_option maxRecDepth 20000 in
theorem gX11_way_X11_within : GoodIn wsX11_way (va_wsS RX11 48 yX11_within wsX11_within) := goodIn_app (goodIn_of _ (by decide +kernel)) ggX11_way_X11_within
set_option maxRecDepth 20000 in
theorem ggX11_way_X9_lengthFrom : GoodIn wsX11_way wsX9_lengthFrom := goodIn_r _ [11, 12, 13, 14, 15, 16, 17, 10, 18, 19, 20, 21, 22, 23, 24, 25, 26, 27, 28, 29, 30, 31, 37, 38, 39] (by decide +kernel) (by decide +kernel)
set_option maxRecDepth 20000 in
theorem gX11_way_X9_lengthFrom : GoodIn wsX11_way (wsV RX11 226 RX9 yX9_lengthFrom wsX9_lengthFrom) := goodIn_app (goodIn_of _ (by decide +kernel)) ggX11_way_X9_lengthFrom
theorem dX11_way_0 : decode cX11_way 0 = .ok (.iload_n 1, 1) := by decide +kernel
theorem dX11_way_1 : decode cX11_way 1 = .ok (.iconst 0, 1) := by decide +kernel
theorem dX11_way_2 : decode cX11_way 2 = .ok (.getstatic 222, 3) := by decide +kernel
theorem dX11_way_5 : decode cX11_way 5 = .ok (.arraylength, 1) := by decide +kernel
theorem dX11_way_6 : decode cX11_way 6 = .ok (.iconst 1, 1) := by decide +kernel
theorem dX11_way_7 : decode cX11_way 7 = .ok (.isub, 1) := by decide +kernel
theorem dX11_way_8 : decode cX11_way 8 = .ok (.invokestatic 48, 3) := by decide +kernel
theorem dX11_way_11 : decode cX11_way 11 = .ok (.ifCond .eq 14, 3) := by decide +kernel
theorem dX11_way_14 : decode cX11_way 14 = .ok (.aload_n 0, 1) := by decide +kernel
theorem dX11_way_15 : decode cX11_way 15 = .ok (.getfield 33, 3) := by decide +kernel
theorem dX11_way_18 : decode cX11_way 18 = .ok (.iload_n 1, 1) := by decide +kernel
theorem dX11_way_19 : decode cX11_way 19 = .ok (.invokevirtual 226, 3) := by decide +kernel
theorem dX11_way_22 : decode cX11_way 22 = .ok (.goto 4, 3) := by decide +kernel
theorem dX11_way_25 : decode cX11_way 25 = .ok (.iconst (-1), 1) := by decide +kernel
theorem dX11_way_26 : decode cX11_way 26 = .ok (.ireturn, 1) := by decide +kernel
set_option maxRecDepth 20000 in
theorem ggX11_wayAt_X11_within : GoodIn wsX11_wayAt wsX11_within := goodIn_r _ [6] (by decide +kernel) (by decide +kernel)
set_option maxRecDepth 20000 in
theorem gX11_wayAt_X11_within : GoodIn wsX11_wayAt (va_wsS RX11 48 yX11_within wsX11_within) := goodIn_app (goodIn_of _ (by decide +kernel)) ggX11_wayAt_X11_within
set_option maxRecDepth 20000 in
theorem ggX11_wayAt_X9_fieldAt : GoodIn wsX11_wayAt wsX9_fieldAt := goodIn_r _ [11, 12, 13, 14, 15, 10, 16, 17, 18, 19, 20, 21, 22, 23, 24, 25, 26, 27, 28, 29, 30, 31, 32, 33, 34, 35, 41, 42, 43] (by decide +kernel) (by decide +kernel)
set_option maxRecDepth 20000 in
theorem gX11_wayAt_X9_fieldAt : GoodIn wsX11_wayAt (wsV RX11 229 RX9 yX9_fieldAt wsX9_fieldAt) := goodIn_app (goodIn_of _ (by decide +kernel)) ggX11_wayAt_X9_fieldAt
theorem dX11_wayAt_0 : decode cX11_wayAt 0 = .ok (.iload_n 1, 1) := by decide +kernel
theorem dX11_wayAt_1 : decode cX11_wayAt 1 = .ok (.iconst 0, 1) := by decide +kernel
theorem dX11_wayAt_2 : decode cX11_wayAt 2 = .ok (.getstatic 222, 3) := by decide +kernel
theorem dX11_wayAt_5 : decode cX11_wayAt 5 = .ok (.arraylength, 1) := by decide +kernel
theorem dX11_wayAt_6 : decode cX11_wayAt 6 = .ok (.iconst 1, 1) := by decide +kernel
theorem dX11_wayAt_7 : decode cX11_wayAt 7 = .ok (.isub, 1) := by decide +kernel
theorem dX11_wayAt_8 : decode cX11_wayAt 8 = .ok (.invokestatic 48, 3) := by decide +kernel
theorem dX11_wayAt_11 : decode cX11_wayAt 11 = .ok (.ifCond .eq 7, 3) := by decide +kernel
theorem dX11_wayAt_14 : decode cX11_wayAt 14 = .ok (.iload_n 2, 1) := by decide +kernel
theorem dX11_wayAt_15 : decode cX11_wayAt 15 = .ok (.ifCond .ge 5, 3) := by decide +kernel
theorem dX11_wayAt_18 : decode cX11_wayAt 18 = .ok (.iconst (-1), 1) := by decide +kernel
theorem dX11_wayAt_19 : decode cX11_wayAt 19 = .ok (.ireturn, 1) := by decide +kernel
theorem dX11_wayAt_20 : decode cX11_wayAt 20 = .ok (.aload_n 0, 1) := by decide +kernel
theorem dX11_wayAt_21 : decode cX11_wayAt 21 = .ok (.getfield 33, 3) := by decide +kernel
theorem dX11_wayAt_24 : decode cX11_wayAt 24 = .ok (.iload_n 1, 1) := by decide +kernel
theorem dX11_wayAt_25 : decode cX11_wayAt 25 = .ok (.iload_n 2, 1) := by decide +kernel
theorem dX11_wayAt_26 : decode cX11_wayAt 26 = .ok (.invokevirtual 229, 3) := by decide +kernel
theorem dX11_wayAt_29 : decode cX11_wayAt 29 = .ok (.ireturn, 1) := by decide +kernel
set_option maxRecDepth 20000 in
theorem ggX11_heap_X11_within : GoodIn wsX11_heap wsX11_within := goodIn_r _ [5] (by decide +kernel) (by decide +kernel)
set_option maxRecDepth 20000 in
theorem gX11_heap_X11_within : GoodIn wsX11_heap (va_wsS RX11 48 yX11_within wsX11_within) := goodIn_app (goodIn_of _ (by decide +kernel)) ggX11_heap_X11_within
set_option maxRecDepth 20000 in
theorem ggX11_heap_X11_placeOf : GoodIn wsX11_heap wsX11_placeOf := goodIn_r _ [8, 9, 10, 4, 11] (by decide +kernel) (by decide +kernel)
set_option maxRecDepth 20000 in
theorem gX11_heap_X11_placeOf : GoodIn wsX11_heap (va_wsS RX11 129 yX11_placeOf wsX11_placeOf) := goodIn_app (goodIn_of _ (by decide +kernel)) ggX11_heap_X11_placeOf
set_option maxRecDepth 20000 in
theorem ggX11_heap_X4_layers : GoodIn wsX11_heap wsX4_layers := goodIn_r _ [16, 17, 18, 19, 20, 21, 22, 23, 24, 25, 26, 27, 28, 29, 42, 43, 44, 45, 46, 47, 48, 49, 50, 51, 52, 53, 54, 55] (by decide +kernel) (by decide +kernel)
set_option maxRecDepth 20000 in
theorem gX11_heap_X4_layers : GoodIn wsX11_heap (wsV RX11 139 RX4 yX4_layers wsX4_layers) := goodIn_app (goodIn_of _ (by decide +kernel)) ggX11_heap_X4_layers
set_option maxRecDepth 20000 in
theorem ggX11_heap_J6_bitCount_0f7a4 : GoodIn wsX11_heap wsJ6_bitCount_0f7a4 := goodIn_r _ [33, 34, 35, 36] (by decide +kernel) (by decide +kernel)
set_option maxRecDepth 20000 in
theorem gX11_heap_J6_bitCount_0f7a4 : GoodIn wsX11_heap (va_wsS RX11 114 yJ6_bitCount_0f7a4 wsJ6_bitCount_0f7a4) := goodIn_app (goodIn_of _ (by decide +kernel)) ggX11_heap_J6_bitCount_0f7a4
theorem dX11_heap_0 : decode cX11_heap 0 = .ok (.iload_n 1, 1) := by decide +kernel
theorem dX11_heap_1 : decode cX11_heap 1 = .ok (.iconst 0, 1) := by decide +kernel
theorem dX11_heap_2 : decode cX11_heap 2 = .ok (.bipush 15, 2) := by decide +kernel
theorem dX11_heap_4 : decode cX11_heap 4 = .ok (.invokestatic 48, 3) := by decide +kernel
theorem dX11_heap_7 : decode cX11_heap 7 = .ok (.ifCond .ne 5, 3) := by decide +kernel
theorem dX11_heap_10 : decode cX11_heap 10 = .ok (.iconst (-1), 1) := by decide +kernel
theorem dX11_heap_11 : decode cX11_heap 11 = .ok (.ireturn, 1) := by decide +kernel
theorem dX11_heap_12 : decode cX11_heap 12 = .ok (.iload_n 1, 1) := by decide +kernel
theorem dX11_heap_13 : decode cX11_heap 13 = .ok (.iconst 4, 1) := by decide +kernel
theorem dX11_heap_14 : decode cX11_heap 14 = .ok (.irem, 1) := by decide +kernel
theorem dX11_heap_15 : decode cX11_heap 15 = .ok (.iconst 4, 1) := by decide +kernel
theorem dX11_heap_16 : decode cX11_heap 16 = .ok (.imul, 1) := by decide +kernel
theorem dX11_heap_17 : decode cX11_heap 17 = .ok (.istore_n 2, 1) := by decide +kernel
theorem dX11_heap_18 : decode cX11_heap 18 = .ok (.iload_n 1, 1) := by decide +kernel
theorem dX11_heap_19 : decode cX11_heap 19 = .ok (.iconst 4, 1) := by decide +kernel
theorem dX11_heap_20 : decode cX11_heap 20 = .ok (.idiv, 1) := by decide +kernel
theorem dX11_heap_21 : decode cX11_heap 21 = .ok (.iconst 4, 1) := by decide +kernel
theorem dX11_heap_22 : decode cX11_heap 22 = .ok (.imul, 1) := by decide +kernel
theorem dX11_heap_23 : decode cX11_heap 23 = .ok (.istore_n 3, 1) := by decide +kernel
theorem dX11_heap_24 : decode cX11_heap 24 = .ok (.iconst 0, 1) := by decide +kernel
theorem dX11_heap_25 : decode cX11_heap 25 = .ok (.istore 4, 2) := by decide +kernel
theorem dX11_heap_27 : decode cX11_heap 27 = .ok (.iload_n 3, 1) := by decide +kernel
theorem dX11_heap_28 : decode cX11_heap 28 = .ok (.istore 5, 2) := by decide +kernel
theorem dX11_heap_30 : decode cX11_heap 30 = .ok (.iload 5, 2) := by decide +kernel
theorem dX11_heap_32 : decode cX11_heap 32 = .ok (.iload_n 3, 1) := by decide +kernel
theorem dX11_heap_33 : decode cX11_heap 33 = .ok (.iconst 4, 1) := by decide +kernel
theorem dX11_heap_34 : decode cX11_heap 34 = .ok (.iadd, 1) := by decide +kernel
theorem dX11_heap_35 : decode cX11_heap 35 = .ok (.if_icmp .ge 48, 3) := by decide +kernel
theorem dX11_heap_38 : decode cX11_heap 38 = .ok (.iload_n 2, 1) := by decide +kernel
theorem dX11_heap_39 : decode cX11_heap 39 = .ok (.istore 6, 2) := by decide +kernel
theorem dX11_heap_41 : decode cX11_heap 41 = .ok (.iload 6, 2) := by decide +kernel
theorem dX11_heap_43 : decode cX11_heap 43 = .ok (.iload_n 2, 1) := by decide +kernel
theorem dX11_heap_44 : decode cX11_heap 44 = .ok (.iconst 4, 1) := by decide +kernel
theorem dX11_heap_45 : decode cX11_heap 45 = .ok (.iadd, 1) := by decide +kernel
theorem dX11_heap_46 : decode cX11_heap 46 = .ok (.if_icmp .ge 31, 3) := by decide +kernel
theorem dX11_heap_49 : decode cX11_heap 49 = .ok (.iload 4, 2) := by decide +kernel
theorem dX11_heap_51 : decode cX11_heap 51 = .ok (.aload_n 0, 1) := by decide +kernel
theorem dX11_heap_52 : decode cX11_heap 52 = .ok (.getfield 10, 3) := by decide +kernel
theorem dX11_heap_55 : decode cX11_heap 55 = .ok (.iload 6, 2) := by decide +kernel
theorem dX11_heap_57 : decode cX11_heap 57 = .ok (.iload 5, 2) := by decide +kernel
theorem dX11_heap_59 : decode cX11_heap 59 = .ok (.invokestatic 129, 3) := by decide +kernel
theorem dX11_heap_62 : decode cX11_heap 62 = .ok (.invokevirtual 139, 3) := by decide +kernel
theorem dX11_heap_65 : decode cX11_heap 65 = .ok (.invokestatic 114, 3) := by decide +kernel
theorem dX11_heap_68 : decode cX11_heap 68 = .ok (.iadd, 1) := by decide +kernel
theorem dX11_heap_69 : decode cX11_heap 69 = .ok (.istore 4, 2) := by decide +kernel
theorem dX11_heap_71 : decode cX11_heap 71 = .ok (.iinc 6 1, 3) := by decide +kernel
theorem dX11_heap_74 : decode cX11_heap 74 = .ok (.goto (-33), 3) := by decide +kernel
theorem dX11_heap_77 : decode cX11_heap 77 = .ok (.iinc 5 1, 3) := by decide +kernel
theorem dX11_heap_80 : decode cX11_heap 80 = .ok (.goto (-50), 3) := by decide +kernel
theorem dX11_heap_83 : decode cX11_heap 83 = .ok (.iload 4, 2) := by decide +kernel
theorem dX11_heap_85 : decode cX11_heap 85 = .ok (.ireturn, 1) := by decide +kernel
set_option maxRecDepth 20000 in
theorem ggX11_sheet_X11_isSheetAndLane : GoodIn wsX11_sheet wsX11_isSheetAndLane := goodIn_r _ [5, 6, 7, 4, 8] (by decide +kernel) (by decide +kernel)
set_option maxRecDepth 20000 in
theorem gX11_sheet_X11_isSheetAndLane : GoodIn wsX11_sheet (va_wsS RX11 232 yX11_isSheetAndLane wsX11_isSheetAndLane) := goodIn_app (goodIn_of _ (by decide +kernel)) ggX11_sheet_X11_isSheetAndLane
set_option maxRecDepth 20000 in
theorem ggX11_sheet_X7_begin : GoodIn wsX11_sheet wsX7_begin := goodIn_r _ [13, 14, 15, 16, 22, 23, 24] (by decide +kernel) (by decide +kernel)
set_option maxRecDepth 20000 in
theorem gX11_sheet_X7_begin : GoodIn wsX11_sheet (wsV RX11 235 RX7 yX7_begin wsX7_begin) := goodIn_app (goodIn_of _ (by decide +kernel)) ggX11_sheet_X7_begin
theorem dX11_sheet_0 : decode cX11_sheet 0 = .ok (.iload_n 1, 1) := by decide +kernel
theorem dX11_sheet_1 : decode cX11_sheet 1 = .ok (.iload_n 2, 1) := by decide +kernel
theorem dX11_sheet_2 : decode cX11_sheet 2 = .ok (.invokestatic 232, 3) := by decide +kernel
theorem dX11_sheet_5 : decode cX11_sheet 5 = .ok (.ifCond .eq 10, 3) := by decide +kernel
theorem dX11_sheet_8 : decode cX11_sheet 8 = .ok (.iload_n 3, 1) := by decide +kernel
theorem dX11_sheet_9 : decode cX11_sheet 9 = .ok (.sipush 256, 3) := by decide +kernel
theorem dX11_sheet_12 : decode cX11_sheet 12 = .ok (.if_icmp .le 5, 3) := by decide +kernel
theorem dX11_sheet_15 : decode cX11_sheet 15 = .ok (.iconst (-1), 1) := by decide +kernel
theorem dX11_sheet_16 : decode cX11_sheet 16 = .ok (.ireturn, 1) := by decide +kernel
theorem dX11_sheet_17 : decode cX11_sheet 17 = .ok (.iload_n 3, 1) := by decide +kernel
theorem dX11_sheet_18 : decode cX11_sheet 18 = .ok (.ifCond .ge 6, 3) := by decide +kernel
theorem dX11_sheet_21 : decode cX11_sheet 21 = .ok (.bipush (-14), 2) := by decide +kernel
theorem dX11_sheet_23 : decode cX11_sheet 23 = .ok (.ireturn, 1) := by decide +kernel
theorem dX11_sheet_24 : decode cX11_sheet 24 = .ok (.aload_n 0, 1) := by decide +kernel
theorem dX11_sheet_25 : decode cX11_sheet 25 = .ok (.getfield 39, 3) := by decide +kernel
theorem dX11_sheet_28 : decode cX11_sheet 28 = .ok (.iload_n 1, 1) := by decide +kernel
theorem dX11_sheet_29 : decode cX11_sheet 29 = .ok (.aaload, 1) := by decide +kernel
theorem dX11_sheet_30 : decode cX11_sheet 30 = .ok (.iload_n 2, 1) := by decide +kernel
theorem dX11_sheet_31 : decode cX11_sheet 31 = .ok (.iload_n 3, 1) := by decide +kernel
theorem dX11_sheet_32 : decode cX11_sheet 32 = .ok (.invokevirtual 235, 3) := by decide +kernel
theorem dX11_sheet_35 : decode cX11_sheet 35 = .ok (.iload_n 3, 1) := by decide +kernel
theorem dX11_sheet_36 : decode cX11_sheet 36 = .ok (.ireturn, 1) := by decide +kernel
set_option maxRecDepth 20000 in
theorem ggX11_drop_X11_within : GoodIn wsX11_drop wsX11_within := goodIn_r _ [5] (by decide +kernel) (by decide +kernel)
set_option maxRecDepth 20000 in
theorem gX11_drop_X11_within : GoodIn wsX11_drop (va_wsS RX11 48 yX11_within wsX11_within) := goodIn_app (goodIn_of _ (by decide +kernel)) ggX11_drop_X11_within
set_option maxRecDepth 20000 in
theorem ggX11_drop_X7_isMissing : GoodIn wsX11_drop wsX7_isMissing := goodIn_r _ [10, 11, 22, 23, 24] (by decide +kernel) (by decide +kernel)
set_option maxRecDepth 20000 in
theorem gX11_drop_X7_isMissing : GoodIn wsX11_drop (wsV RX11 238 RX7 yX7_isMissing wsX7_isMissing) := goodIn_app (goodIn_of _ (by decide +kernel)) ggX11_drop_X7_isMissing
set_option maxRecDepth 20000 in
theorem ggX11_drop_X7_clearAway : GoodIn wsX11_drop wsX7_clearAway := goodIn_r _ [15, 16, 11, 22, 23, 24] (by decide +kernel) (by decide +kernel)
set_option maxRecDepth 20000 in
theorem gX11_drop_X7_clearAway : GoodIn wsX11_drop (wsV RX11 242 RX7 yX7_clearAway wsX7_clearAway) := goodIn_app (goodIn_of _ (by decide +kernel)) ggX11_drop_X7_clearAway
theorem dX11_drop_0 : decode cX11_drop 0 = .ok (.iload_n 1, 1) := by decide +kernel
theorem dX11_drop_1 : decode cX11_drop 1 = .ok (.iconst 0, 1) := by decide +kernel
theorem dX11_drop_2 : decode cX11_drop 2 = .ok (.iconst 3, 1) := by decide +kernel
theorem dX11_drop_3 : decode cX11_drop 3 = .ok (.invokestatic 48, 3) := by decide +kernel
theorem dX11_drop_6 : decode cX11_drop 6 = .ok (.ifCond .ne 5, 3) := by decide +kernel
theorem dX11_drop_9 : decode cX11_drop 9 = .ok (.iconst (-1), 1) := by decide +kernel
theorem dX11_drop_10 : decode cX11_drop 10 = .ok (.ireturn, 1) := by decide +kernel
theorem dX11_drop_11 : decode cX11_drop 11 = .ok (.aload_n 0, 1) := by decide +kernel
theorem dX11_drop_12 : decode cX11_drop 12 = .ok (.getfield 39, 3) := by decide +kernel
theorem dX11_drop_15 : decode cX11_drop 15 = .ok (.iload_n 1, 1) := by decide +kernel
theorem dX11_drop_16 : decode cX11_drop 16 = .ok (.aaload, 1) := by decide +kernel
theorem dX11_drop_17 : decode cX11_drop 17 = .ok (.invokevirtual 238, 3) := by decide +kernel
theorem dX11_drop_20 : decode cX11_drop 20 = .ok (.ifCond .eq 6, 3) := by decide +kernel
theorem dX11_drop_23 : decode cX11_drop 23 = .ok (.bipush (-11), 2) := by decide +kernel
theorem dX11_drop_25 : decode cX11_drop 25 = .ok (.ireturn, 1) := by decide +kernel
theorem dX11_drop_26 : decode cX11_drop 26 = .ok (.aload_n 0, 1) := by decide +kernel
theorem dX11_drop_27 : decode cX11_drop 27 = .ok (.getfield 39, 3) := by decide +kernel
theorem dX11_drop_30 : decode cX11_drop 30 = .ok (.iload_n 1, 1) := by decide +kernel
theorem dX11_drop_31 : decode cX11_drop 31 = .ok (.aaload, 1) := by decide +kernel
theorem dX11_drop_32 : decode cX11_drop 32 = .ok (.invokevirtual 242, 3) := by decide +kernel
theorem dX11_drop_35 : decode cX11_drop 35 = .ok (.ireturn, 1) := by decide +kernel
set_option maxRecDepth 20000 in
theorem ggX11_item_X11_isSheetAndLane : GoodIn wsX11_item wsX11_isSheetAndLane := goodIn_r _ [5, 6, 7, 4, 8] (by decide +kernel) (by decide +kernel)
set_option maxRecDepth 20000 in
theorem gX11_item_X11_isSheetAndLane : GoodIn wsX11_item (va_wsS RX11 232 yX11_isSheetAndLane wsX11_isSheetAndLane) := goodIn_app (goodIn_of _ (by decide +kernel)) ggX11_item_X11_isSheetAndLane
set_option maxRecDepth 20000 in
theorem ggX11_item_X7_refusal : GoodIn wsX11_item wsX7_refusal := goodIn_r _ [13, 14, 15, 16, 17, 18, 12, 19, 30, 31, 32] (by decide +kernel) (by decide +kernel)
set_option maxRecDepth 20000 in
theorem gX11_item_X7_refusal : GoodIn wsX11_item (wsV RX11 245 RX7 yX7_refusal wsX7_refusal) := goodIn_app (goodIn_of _ (by decide +kernel)) ggX11_item_X7_refusal
set_option maxRecDepth 20000 in
theorem ggX11_item_X7_write : GoodIn wsX11_item wsX7_write := goodIn_r _ [23, 14, 24, 30, 31, 32] (by decide +kernel) (by decide +kernel)
set_option maxRecDepth 20000 in
theorem gX11_item_X7_write : GoodIn wsX11_item (wsV RX11 248 RX7 yX7_write wsX7_write) := goodIn_app (goodIn_of _ (by decide +kernel)) ggX11_item_X7_write
theorem dX11_item_0 : decode cX11_item 0 = .ok (.iload_n 1, 1) := by decide +kernel
theorem dX11_item_1 : decode cX11_item 1 = .ok (.iload_n 2, 1) := by decide +kernel
theorem dX11_item_2 : decode cX11_item 2 = .ok (.invokestatic 232, 3) := by decide +kernel
theorem dX11_item_5 : decode cX11_item 5 = .ok (.ifCond .ne 5, 3) := by decide +kernel
theorem dX11_item_8 : decode cX11_item 8 = .ok (.iconst (-1), 1) := by decide +kernel
theorem dX11_item_9 : decode cX11_item 9 = .ok (.ireturn, 1) := by decide +kernel
theorem dX11_item_10 : decode cX11_item 10 = .ok (.aload_n 0, 1) := by decide +kernel
theorem dX11_item_11 : decode cX11_item 11 = .ok (.getfield 39, 3) := by decide +kernel
theorem dX11_item_14 : decode cX11_item 14 = .ok (.iload_n 1, 1) := by decide +kernel
theorem dX11_item_15 : decode cX11_item 15 = .ok (.aaload, 1) := by decide +kernel
theorem dX11_item_16 : decode cX11_item 16 = .ok (.iload_n 2, 1) := by decide +kernel
theorem dX11_item_17 : decode cX11_item 17 = .ok (.iload_n 3, 1) := by decide +kernel
theorem dX11_item_18 : decode cX11_item 18 = .ok (.iconst 1, 1) := by decide +kernel
theorem dX11_item_19 : decode cX11_item 19 = .ok (.invokevirtual 245, 3) := by decide +kernel
theorem dX11_item_22 : decode cX11_item 22 = .ok (.istore 5, 2) := by decide +kernel
theorem dX11_item_24 : decode cX11_item 24 = .ok (.iload 5, 2) := by decide +kernel
theorem dX11_item_26 : decode cX11_item 26 = .ok (.ifCond .eq 6, 3) := by decide +kernel
theorem dX11_item_29 : decode cX11_item 29 = .ok (.iload 5, 2) := by decide +kernel
theorem dX11_item_31 : decode cX11_item 31 = .ok (.ireturn, 1) := by decide +kernel
theorem dX11_item_32 : decode cX11_item 32 = .ok (.aload_n 0, 1) := by decide +kernel
theorem dX11_item_33 : decode cX11_item 33 = .ok (.getfield 39, 3) := by decide +kernel
theorem dX11_item_36 : decode cX11_item 36 = .ok (.iload_n 1, 1) := by decide +kernel
theorem dX11_item_37 : decode cX11_item 37 = .ok (.aaload, 1) := by decide +kernel
theorem dX11_item_38 : decode cX11_item 38 = .ok (.iload_n 3, 1) := by decide +kernel
theorem dX11_item_39 : decode cX11_item 39 = .ok (.iload 4, 2) := by decide +kernel
theorem dX11_item_41 : decode cX11_item 41 = .ok (.invokevirtual 248, 3) := by decide +kernel
theorem dX11_item_44 : decode cX11_item 44 = .ok (.iconst 1, 1) := by decide +kernel
theorem dX11_item_45 : decode cX11_item 45 = .ok (.ireturn, 1) := by decide +kernel
set_option maxRecDepth 20000 in
theorem ggX11_show_X11_isSheetAndLane : GoodIn wsX11_show wsX11_isSheetAndLane := goodIn_r _ [6, 7, 8, 5, 9] (by decide +kernel) (by decide +kernel)
set_option maxRecDepth 20000 in
theorem gX11_show_X11_isSheetAndLane : GoodIn wsX11_show (va_wsS RX11 232 yX11_isSheetAndLane wsX11_isSheetAndLane) := goodIn_app (goodIn_of _ (by decide +kernel)) ggX11_show_X11_isSheetAndLane
set_option maxRecDepth 20000 in
theorem ggX11_show_X11_areCells : GoodIn wsX11_show wsX11_areCells := goodIn_r _ [12, 7, 8, 5, 9] (by decide +kernel) (by decide +kernel)
set_option maxRecDepth 20000 in
theorem gX11_show_X11_areCells : GoodIn wsX11_show (va_wsS RX11 251 yX11_areCells wsX11_areCells) := goodIn_app (goodIn_of _ (by decide +kernel)) ggX11_show_X11_areCells
set_option maxRecDepth 20000 in
theorem ggX11_show_X7_refusal : GoodIn wsX11_show wsX7_refusal := goodIn_r _ [17, 18, 19, 20, 21, 22, 16, 23, 40, 41, 42] (by decide +kernel) (by decide +kernel)
set_option maxRecDepth 20000 in
theorem gX11_show_X7_refusal : GoodIn wsX11_show (wsV RX11 245 RX7 yX7_refusal wsX7_refusal) := goodIn_app (goodIn_of _ (by decide +kernel)) ggX11_show_X7_refusal
set_option maxRecDepth 20000 in
theorem ggX11_show_X3_copyFrom : GoodIn wsX11_show wsX3_copyFrom := goodIn_r _ [28, 29, 30, 31, 32, 16, 33, 34, 8, 5, 9, 43, 44, 40, 41, 42] (by decide +kernel) (by decide +kernel)
set_option maxRecDepth 20000 in
theorem gX11_show_X3_copyFrom : GoodIn wsX11_show (wsV RX11 254 RX3 yX3_copyFrom wsX3_copyFrom) := goodIn_app (goodIn_of _ (by decide +kernel)) ggX11_show_X3_copyFrom
theorem dX11_show_0 : decode cX11_show 0 = .ok (.iload_n 1, 1) := by decide +kernel
theorem dX11_show_1 : decode cX11_show 1 = .ok (.iload_n 2, 1) := by decide +kernel
theorem dX11_show_2 : decode cX11_show 2 = .ok (.invokestatic 232, 3) := by decide +kernel
theorem dX11_show_5 : decode cX11_show 5 = .ok (.ifCond .eq 13, 3) := by decide +kernel
theorem dX11_show_8 : decode cX11_show 8 = .ok (.iload 4, 2) := by decide +kernel
theorem dX11_show_10 : decode cX11_show 10 = .ok (.iload 5, 2) := by decide +kernel
theorem dX11_show_12 : decode cX11_show 12 = .ok (.invokestatic 251, 3) := by decide +kernel
theorem dX11_show_15 : decode cX11_show 15 = .ok (.ifCond .ne 5, 3) := by decide +kernel
theorem dX11_show_18 : decode cX11_show 18 = .ok (.iconst (-1), 1) := by decide +kernel
theorem dX11_show_19 : decode cX11_show 19 = .ok (.ireturn, 1) := by decide +kernel
theorem dX11_show_20 : decode cX11_show 20 = .ok (.aload_n 0, 1) := by decide +kernel
theorem dX11_show_21 : decode cX11_show 21 = .ok (.getfield 39, 3) := by decide +kernel
theorem dX11_show_24 : decode cX11_show 24 = .ok (.iload_n 1, 1) := by decide +kernel
theorem dX11_show_25 : decode cX11_show 25 = .ok (.aaload, 1) := by decide +kernel
theorem dX11_show_26 : decode cX11_show 26 = .ok (.iload_n 2, 1) := by decide +kernel
theorem dX11_show_27 : decode cX11_show 27 = .ok (.iload_n 3, 1) := by decide +kernel
theorem dX11_show_28 : decode cX11_show 28 = .ok (.iload 5, 2) := by decide +kernel
theorem dX11_show_30 : decode cX11_show 30 = .ok (.invokevirtual 245, 3) := by decide +kernel
theorem dX11_show_33 : decode cX11_show 33 = .ok (.istore 6, 2) := by decide +kernel
theorem dX11_show_35 : decode cX11_show 35 = .ok (.iload 6, 2) := by decide +kernel
theorem dX11_show_37 : decode cX11_show 37 = .ok (.ifCond .eq 6, 3) := by decide +kernel
theorem dX11_show_40 : decode cX11_show 40 = .ok (.iload 6, 2) := by decide +kernel
theorem dX11_show_42 : decode cX11_show 42 = .ok (.ireturn, 1) := by decide +kernel
theorem dX11_show_43 : decode cX11_show 43 = .ok (.aload_n 0, 1) := by decide +kernel
theorem dX11_show_44 : decode cX11_show 44 = .ok (.getfield 26, 3) := by decide +kernel
theorem dX11_show_47 : decode cX11_show 47 = .ok (.aload_n 0, 1) := by decide +kernel
theorem dX11_show_48 : decode cX11_show 48 = .ok (.getfield 39, 3) := by decide +kernel
theorem dX11_show_51 : decode cX11_show 51 = .ok (.iload_n 1, 1) := by decide +kernel
theorem dX11_show_52 : decode cX11_show 52 = .ok (.aaload, 1) := by decide +kernel
theorem dX11_show_53 : decode cX11_show 53 = .ok (.iload_n 3, 1) := by decide +kernel
theorem dX11_show_54 : decode cX11_show 54 = .ok (.iload 4, 2) := by decide +kernel
theorem dX11_show_56 : decode cX11_show 56 = .ok (.iload 5, 2) := by decide +kernel
theorem dX11_show_58 : decode cX11_show 58 = .ok (.invokevirtual 254, 3) := by decide +kernel
theorem dX11_show_61 : decode cX11_show 61 = .ok (.ireturn, 1) := by decide +kernel
set_option maxRecDepth 20000 in
theorem ggX11_keep_X11_isSheetAndLane : GoodIn wsX11_keep wsX11_isSheetAndLane := goodIn_r _ [6, 7, 8, 5, 9] (by decide +kernel) (by decide +kernel)
set_option maxRecDepth 20000 in
theorem gX11_keep_X11_isSheetAndLane : GoodIn wsX11_keep (va_wsS RX11 232 yX11_isSheetAndLane wsX11_isSheetAndLane) := goodIn_app (goodIn_of _ (by decide +kernel)) ggX11_keep_X11_isSheetAndLane
set_option maxRecDepth 20000 in
theorem ggX11_keep_X11_areCells : GoodIn wsX11_keep wsX11_areCells := goodIn_r _ [12, 7, 8, 5, 9] (by decide +kernel) (by decide +kernel)
set_option maxRecDepth 20000 in
theorem gX11_keep_X11_areCells : GoodIn wsX11_keep (va_wsS RX11 251 yX11_areCells wsX11_areCells) := goodIn_app (goodIn_of _ (by decide +kernel)) ggX11_keep_X11_areCells
set_option maxRecDepth 20000 in
theorem ggX11_keep_X7_refusal : GoodIn wsX11_keep wsX7_refusal := goodIn_r _ [17, 18, 19, 20, 21, 22, 16, 23, 40, 41, 42] (by decide +kernel) (by decide +kernel)
set_option maxRecDepth 20000 in
theorem gX11_keep_X7_refusal : GoodIn wsX11_keep (wsV RX11 245 RX7 yX7_refusal wsX7_refusal) := goodIn_app (goodIn_of _ (by decide +kernel)) ggX11_keep_X7_refusal
set_option maxRecDepth 20000 in
theorem ggX11_keep_X3_colourOf : GoodIn wsX11_keep wsX3_colourOf := goodIn_r _ [28, 29, 43, 44] (by decide +kernel) (by decide +kernel)
set_option maxRecDepth 20000 in
theorem gX11_keep_X3_colourOf : GoodIn wsX11_keep (wsV RX11 183 RX3 yX3_colourOf wsX3_colourOf) := goodIn_app (goodIn_of _ (by decide +kernel)) ggX11_keep_X3_colourOf
set_option maxRecDepth 20000 in
theorem ggX11_keep_X7_write : GoodIn wsX11_keep wsX7_write := goodIn_r _ [33, 18, 34, 40, 41, 42] (by decide +kernel) (by decide +kernel)
set_option maxRecDepth 20000 in
theorem gX11_keep_X7_write : GoodIn wsX11_keep (wsV RX11 248 RX7 yX7_write wsX7_write) := goodIn_app (goodIn_of _ (by decide +kernel)) ggX11_keep_X7_write
theorem dX11_keep_0 : decode cX11_keep 0 = .ok (.iload_n 1, 1) := by decide +kernel
theorem dX11_keep_1 : decode cX11_keep 1 = .ok (.iload_n 2, 1) := by decide +kernel
theorem dX11_keep_2 : decode cX11_keep 2 = .ok (.invokestatic 232, 3) := by decide +kernel
theorem dX11_keep_5 : decode cX11_keep 5 = .ok (.ifCond .eq 13, 3) := by decide +kernel
theorem dX11_keep_8 : decode cX11_keep 8 = .ok (.iload 4, 2) := by decide +kernel
theorem dX11_keep_10 : decode cX11_keep 10 = .ok (.iload 5, 2) := by decide +kernel
theorem dX11_keep_12 : decode cX11_keep 12 = .ok (.invokestatic 251, 3) := by decide +kernel
theorem dX11_keep_15 : decode cX11_keep 15 = .ok (.ifCond .ne 5, 3) := by decide +kernel
theorem dX11_keep_18 : decode cX11_keep 18 = .ok (.iconst (-1), 1) := by decide +kernel
theorem dX11_keep_19 : decode cX11_keep 19 = .ok (.ireturn, 1) := by decide +kernel
theorem dX11_keep_20 : decode cX11_keep 20 = .ok (.aload_n 0, 1) := by decide +kernel
theorem dX11_keep_21 : decode cX11_keep 21 = .ok (.getfield 39, 3) := by decide +kernel
theorem dX11_keep_24 : decode cX11_keep 24 = .ok (.iload_n 1, 1) := by decide +kernel
theorem dX11_keep_25 : decode cX11_keep 25 = .ok (.aaload, 1) := by decide +kernel
theorem dX11_keep_26 : decode cX11_keep 26 = .ok (.iload_n 2, 1) := by decide +kernel
theorem dX11_keep_27 : decode cX11_keep 27 = .ok (.iload_n 3, 1) := by decide +kernel
theorem dX11_keep_28 : decode cX11_keep 28 = .ok (.iload 5, 2) := by decide +kernel
theorem dX11_keep_30 : decode cX11_keep 30 = .ok (.invokevirtual 245, 3) := by decide +kernel
theorem dX11_keep_33 : decode cX11_keep 33 = .ok (.istore 6, 2) := by decide +kernel
theorem dX11_keep_35 : decode cX11_keep 35 = .ok (.iload 6, 2) := by decide +kernel
theorem dX11_keep_37 : decode cX11_keep 37 = .ok (.ifCond .eq 6, 3) := by decide +kernel
theorem dX11_keep_40 : decode cX11_keep 40 = .ok (.iload 6, 2) := by decide +kernel
theorem dX11_keep_42 : decode cX11_keep 42 = .ok (.ireturn, 1) := by decide +kernel
theorem dX11_keep_43 : decode cX11_keep 43 = .ok (.iconst 0, 1) := by decide +kernel
theorem dX11_keep_44 : decode cX11_keep 44 = .ok (.istore 7, 2) := by decide +kernel
theorem dX11_keep_46 : decode cX11_keep 46 = .ok (.iload 7, 2) := by decide +kernel
theorem dX11_keep_48 : decode cX11_keep 48 = .ok (.iload 5, 2) := by decide +kernel
theorem dX11_keep_50 : decode cX11_keep 50 = .ok (.if_icmp .ge 34, 3) := by decide +kernel
theorem dX11_keep_53 : decode cX11_keep 53 = .ok (.aload_n 0, 1) := by decide +kernel
theorem dX11_keep_54 : decode cX11_keep 54 = .ok (.getfield 39, 3) := by decide +kernel
theorem dX11_keep_57 : decode cX11_keep 57 = .ok (.iload_n 1, 1) := by decide +kernel
theorem dX11_keep_58 : decode cX11_keep 58 = .ok (.aaload, 1) := by decide +kernel
theorem dX11_keep_59 : decode cX11_keep 59 = .ok (.iload_n 3, 1) := by decide +kernel
theorem dX11_keep_60 : decode cX11_keep 60 = .ok (.iload 7, 2) := by decide +kernel
theorem dX11_keep_62 : decode cX11_keep 62 = .ok (.iadd, 1) := by decide +kernel
theorem dX11_keep_63 : decode cX11_keep 63 = .ok (.aload_n 0, 1) := by decide +kernel
theorem dX11_keep_64 : decode cX11_keep 64 = .ok (.getfield 26, 3) := by decide +kernel
theorem dX11_keep_67 : decode cX11_keep 67 = .ok (.iload 4, 2) := by decide +kernel
theorem dX11_keep_69 : decode cX11_keep 69 = .ok (.iload 7, 2) := by decide +kernel
theorem dX11_keep_71 : decode cX11_keep 71 = .ok (.iadd, 1) := by decide +kernel
theorem dX11_keep_72 : decode cX11_keep 72 = .ok (.invokevirtual 183, 3) := by decide +kernel
theorem dX11_keep_75 : decode cX11_keep 75 = .ok (.invokevirtual 248, 3) := by decide +kernel
theorem dX11_keep_78 : decode cX11_keep 78 = .ok (.iinc 7 1, 3) := by decide +kernel
theorem dX11_keep_81 : decode cX11_keep 81 = .ok (.goto (-35), 3) := by decide +kernel
theorem dX11_keep_84 : decode cX11_keep 84 = .ok (.iload 5, 2) := by decide +kernel
theorem dX11_keep_86 : decode cX11_keep 86 = .ok (.ireturn, 1) := by decide +kernel
set_option maxRecDepth 20000 in
theorem ggX11_put_X4_shapesTold : GoodIn wsX11_put wsX4_shapesTold := goodIn_r _ [7, 8, 26, 27, 28] (by decide +kernel) (by decide +kernel)
set_option maxRecDepth 20000 in
theorem gX11_put_X4_shapesTold : GoodIn wsX11_put (wsV RX11 81 RX4 yX4_shapesTold wsX4_shapesTold) := goodIn_app (goodIn_of _ (by decide +kernel)) ggX11_put_X4_shapesTold
set_option maxRecDepth 20000 in
theorem ggX11_put_X10_forget : GoodIn wsX11_put wsX10_forget := goodIn_r _ [13, 14, 29, 30, 31, 32, 33, 34, 35, 36, 37, 38, 39, 40, 41, 42] (by decide +kernel) (by decide +kernel)
set_option maxRecDepth 20000 in
theorem gX11_put_X10_forget : GoodIn wsX11_put (wsV RX11 88 RX10 yX10_forget wsX10_forget) := goodIn_app (goodIn_of _ (by decide +kernel)) ggX11_put_X10_forget
set_option maxRecDepth 20000 in
theorem ggX11_put_X4_add : GoodIn wsX11_put wsX4_add := goodIn_r _ [18, 19, 8, 20, 26, 27, 28] (by decide +kernel) (by decide +kernel)
set_option maxRecDepth 20000 in
theorem gX11_put_X4_add : GoodIn wsX11_put (wsV RX11 258 RX4 yX4_add wsX4_add) := goodIn_app (goodIn_of _ (by decide +kernel)) ggX11_put_X4_add
theorem dX11_put_0 : decode cX11_put 0 = .ok (.aload_n 0, 1) := by decide +kernel
theorem dX11_put_1 : decode cX11_put 1 = .ok (.getfield 10, 3) := by decide +kernel
theorem dX11_put_4 : decode cX11_put 4 = .ok (.invokevirtual 81, 3) := by decide +kernel
theorem dX11_put_7 : decode cX11_put 7 = .ok (.bipush 10, 2) := by decide +kernel
theorem dX11_put_9 : decode cX11_put 9 = .ok (.if_icmp .ne 6, 3) := by decide +kernel
theorem dX11_put_12 : decode cX11_put 12 = .ok (.bipush (-3), 2) := by decide +kernel
theorem dX11_put_14 : decode cX11_put 14 = .ok (.ireturn, 1) := by decide +kernel
theorem dX11_put_15 : decode cX11_put 15 = .ok (.aload_n 0, 1) := by decide +kernel
theorem dX11_put_16 : decode cX11_put 16 = .ok (.getfield 19, 3) := by decide +kernel
theorem dX11_put_19 : decode cX11_put 19 = .ok (.invokevirtual 88, 3) := by decide +kernel
theorem dX11_put_22 : decode cX11_put 22 = .ok (.aload_n 0, 1) := by decide +kernel
theorem dX11_put_23 : decode cX11_put 23 = .ok (.getfield 10, 3) := by decide +kernel
theorem dX11_put_26 : decode cX11_put 26 = .ok (.aload_n 1, 1) := by decide +kernel
theorem dX11_put_27 : decode cX11_put 27 = .ok (.invokevirtual 258, 3) := by decide +kernel
theorem dX11_put_30 : decode cX11_put 30 = .ok (.ireturn, 1) := by decide +kernel
theorem dX11_within_0 : decode cX11_within 0 = .ok (.iload_n 0, 1) := by decide +kernel
theorem dX11_within_1 : decode cX11_within 1 = .ok (.iload_n 1, 1) := by decide +kernel
theorem dX11_within_2 : decode cX11_within 2 = .ok (.if_icmp .lt 12, 3) := by decide +kernel
theorem dX11_within_5 : decode cX11_within 5 = .ok (.iload_n 0, 1) := by decide +kernel
theorem dX11_within_6 : decode cX11_within 6 = .ok (.iload_n 2, 1) := by decide +kernel
theorem dX11_within_7 : decode cX11_within 7 = .ok (.if_icmp .gt 7, 3) := by decide +kernel
theorem dX11_within_10 : decode cX11_within 10 = .ok (.iconst 1, 1) := by decide +kernel
theorem dX11_within_11 : decode cX11_within 11 = .ok (.goto 4, 3) := by decide +kernel
theorem dX11_within_14 : decode cX11_within 14 = .ok (.iconst 0, 1) := by decide +kernel
theorem dX11_within_15 : decode cX11_within 15 = .ok (.ireturn, 1) := by decide +kernel
set_option maxRecDepth 20000 in
theorem ggX11_isSand_X11_within : GoodIn wsX11_isSand wsX11_within := goodIn_r _ [4] (by decide +kernel) (by decide +kernel)
set_option maxRecDepth 20000 in
theorem gX11_isSand_X11_within : GoodIn wsX11_isSand (va_wsS RX11 48 yX11_within wsX11_within) := goodIn_app (goodIn_of _ (by decide +kernel)) ggX11_isSand_X11_within
theorem dX11_isSand_0 : decode cX11_isSand 0 = .ok (.iload_n 0, 1) := by decide +kernel
theorem dX11_isSand_1 : decode cX11_isSand 1 = .ok (.iconst 1, 1) := by decide +kernel
theorem dX11_isSand_2 : decode cX11_isSand 2 = .ok (.bipush 9, 2) := by decide +kernel
theorem dX11_isSand_4 : decode cX11_isSand 4 = .ok (.invokestatic 48, 3) := by decide +kernel
theorem dX11_isSand_7 : decode cX11_isSand 7 = .ok (.ireturn, 1) := by decide +kernel
set_option maxRecDepth 20000 in
theorem ggX11_isCell_X11_within : GoodIn wsX11_isCell wsX11_within := goodIn_r _ [4] (by decide +kernel) (by decide +kernel)
set_option maxRecDepth 20000 in
theorem gX11_isCell_X11_within : GoodIn wsX11_isCell (va_wsS RX11 48 yX11_within wsX11_within) := goodIn_app (goodIn_of _ (by decide +kernel)) ggX11_isCell_X11_within
theorem dX11_isCell_0 : decode cX11_isCell 0 = .ok (.iload_n 0, 1) := by decide +kernel
theorem dX11_isCell_1 : decode cX11_isCell 1 = .ok (.iconst 0, 1) := by decide +kernel
theorem dX11_isCell_2 : decode cX11_isCell 2 = .ok (.bipush 15, 2) := by decide +kernel
theorem dX11_isCell_4 : decode cX11_isCell 4 = .ok (.invokestatic 48, 3) := by decide +kernel
theorem dX11_isCell_7 : decode cX11_isCell 7 = .ok (.ifCond .eq 17, 3) := by decide +kernel
theorem dX11_isCell_10 : decode cX11_isCell 10 = .ok (.iload_n 1, 1) := by decide +kernel
theorem dX11_isCell_11 : decode cX11_isCell 11 = .ok (.iconst 0, 1) := by decide +kernel
theorem dX11_isCell_12 : decode cX11_isCell 12 = .ok (.bipush 15, 2) := by decide +kernel
theorem dX11_isCell_14 : decode cX11_isCell 14 = .ok (.invokestatic 48, 3) := by decide +kernel
theorem dX11_isCell_17 : decode cX11_isCell 17 = .ok (.ifCond .eq 7, 3) := by decide +kernel
theorem dX11_isCell_20 : decode cX11_isCell 20 = .ok (.iconst 1, 1) := by decide +kernel
theorem dX11_isCell_21 : decode cX11_isCell 21 = .ok (.goto 4, 3) := by decide +kernel
theorem dX11_isCell_24 : decode cX11_isCell 24 = .ok (.iconst 0, 1) := by decide +kernel
theorem dX11_isCell_25 : decode cX11_isCell 25 = .ok (.ireturn, 1) := by decide +kernel
set_option maxRecDepth 20000 in
theorem ggX11_isStride_X11_within : GoodIn wsX11_isStride wsX11_within := goodIn_r _ [4] (by decide +kernel) (by decide +kernel)
set_option maxRecDepth 20000 in
theorem gX11_isStride_X11_within : GoodIn wsX11_isStride (va_wsS RX11 48 yX11_within wsX11_within) := goodIn_app (goodIn_of _ (by decide +kernel)) ggX11_isStride_X11_within
theorem dX11_isStride_0 : decode cX11_isStride 0 = .ok (.iload_n 0, 1) := by decide +kernel
theorem dX11_isStride_1 : decode cX11_isStride 1 = .ok (.iconst (-1), 1) := by decide +kernel
theorem dX11_isStride_2 : decode cX11_isStride 2 = .ok (.iconst 1, 1) := by decide +kernel
theorem dX11_isStride_3 : decode cX11_isStride 3 = .ok (.invokestatic 48, 3) := by decide +kernel
theorem dX11_isStride_6 : decode cX11_isStride 6 = .ok (.ifCond .eq 24, 3) := by decide +kernel
theorem dX11_isStride_9 : decode cX11_isStride 9 = .ok (.iload_n 1, 1) := by decide +kernel
theorem dX11_isStride_10 : decode cX11_isStride 10 = .ok (.iconst (-1), 1) := by decide +kernel
theorem dX11_isStride_11 : decode cX11_isStride 11 = .ok (.iconst 1, 1) := by decide +kernel
theorem dX11_isStride_12 : decode cX11_isStride 12 = .ok (.invokestatic 48, 3) := by decide +kernel
theorem dX11_isStride_15 : decode cX11_isStride 15 = .ok (.ifCond .eq 15, 3) := by decide +kernel
theorem dX11_isStride_18 : decode cX11_isStride 18 = .ok (.iload_n 0, 1) := by decide +kernel
theorem dX11_isStride_19 : decode cX11_isStride 19 = .ok (.ifCond .ne 7, 3) := by decide +kernel
theorem dX11_isStride_22 : decode cX11_isStride 22 = .ok (.iload_n 1, 1) := by decide +kernel
theorem dX11_isStride_23 : decode cX11_isStride 23 = .ok (.ifCond .eq 7, 3) := by decide +kernel
theorem dX11_isStride_26 : decode cX11_isStride 26 = .ok (.iconst 1, 1) := by decide +kernel
theorem dX11_isStride_27 : decode cX11_isStride 27 = .ok (.goto 4, 3) := by decide +kernel
theorem dX11_isStride_30 : decode cX11_isStride 30 = .ok (.iconst 0, 1) := by decide +kernel
theorem dX11_isStride_31 : decode cX11_isStride 31 = .ok (.ireturn, 1) := by decide +kernel
set_option maxRecDepth 20000 in
theorem ggX11_arePlaces_X11_within : GoodIn wsX11_arePlaces wsX11_within := goodIn_r _ [4] (by decide +kernel) (by decide +kernel)
set_option maxRecDepth 20000 in
theorem gX11_arePlaces_X11_within : GoodIn wsX11_arePlaces (va_wsS RX11 48 yX11_within wsX11_within) := goodIn_app (goodIn_of _ (by decide +kernel)) ggX11_arePlaces_X11_within
theorem dX11_arePlaces_0 : decode cX11_arePlaces 0 = .ok (.iload_n 0, 1) := by decide +kernel
theorem dX11_arePlaces_1 : decode cX11_arePlaces 1 = .ok (.iconst 0, 1) := by decide +kernel
theorem dX11_arePlaces_2 : decode cX11_arePlaces 2 = .ok (.bipush 7, 2) := by decide +kernel
theorem dX11_arePlaces_4 : decode cX11_arePlaces 4 = .ok (.invokestatic 48, 3) := by decide +kernel
theorem dX11_arePlaces_7 : decode cX11_arePlaces 7 = .ok (.ifCond .eq 37, 3) := by decide +kernel
theorem dX11_arePlaces_10 : decode cX11_arePlaces 10 = .ok (.iload_n 1, 1) := by decide +kernel
theorem dX11_arePlaces_11 : decode cX11_arePlaces 11 = .ok (.iconst 0, 1) := by decide +kernel
theorem dX11_arePlaces_12 : decode cX11_arePlaces 12 = .ok (.bipush 7, 2) := by decide +kernel
theorem dX11_arePlaces_14 : decode cX11_arePlaces 14 = .ok (.invokestatic 48, 3) := by decide +kernel
theorem dX11_arePlaces_17 : decode cX11_arePlaces 17 = .ok (.ifCond .eq 27, 3) := by decide +kernel
theorem dX11_arePlaces_20 : decode cX11_arePlaces 20 = .ok (.iload_n 2, 1) := by decide +kernel
theorem dX11_arePlaces_21 : decode cX11_arePlaces 21 = .ok (.iconst 0, 1) := by decide +kernel
theorem dX11_arePlaces_22 : decode cX11_arePlaces 22 = .ok (.bipush 7, 2) := by decide +kernel
theorem dX11_arePlaces_24 : decode cX11_arePlaces 24 = .ok (.invokestatic 48, 3) := by decide +kernel
theorem dX11_arePlaces_27 : decode cX11_arePlaces 27 = .ok (.ifCond .eq 17, 3) := by decide +kernel
theorem dX11_arePlaces_30 : decode cX11_arePlaces 30 = .ok (.iload_n 3, 1) := by decide +kernel
theorem dX11_arePlaces_31 : decode cX11_arePlaces 31 = .ok (.iconst 0, 1) := by decide +kernel
theorem dX11_arePlaces_32 : decode cX11_arePlaces 32 = .ok (.bipush 7, 2) := by decide +kernel
theorem dX11_arePlaces_34 : decode cX11_arePlaces 34 = .ok (.invokestatic 48, 3) := by decide +kernel
theorem dX11_arePlaces_37 : decode cX11_arePlaces 37 = .ok (.ifCond .eq 7, 3) := by decide +kernel
theorem dX11_arePlaces_40 : decode cX11_arePlaces 40 = .ok (.iconst 1, 1) := by decide +kernel
theorem dX11_arePlaces_41 : decode cX11_arePlaces 41 = .ok (.goto 4, 3) := by decide +kernel
theorem dX11_arePlaces_44 : decode cX11_arePlaces 44 = .ok (.iconst 0, 1) := by decide +kernel
theorem dX11_arePlaces_45 : decode cX11_arePlaces 45 = .ok (.ireturn, 1) := by decide +kernel
set_option maxRecDepth 20000 in
theorem ggX11_isSheetAndLane_X11_within : GoodIn wsX11_isSheetAndLane wsX11_within := goodIn_r _ [4] (by decide +kernel) (by decide +kernel)
set_option maxRecDepth 20000 in
theorem gX11_isSheetAndLane_X11_within : GoodIn wsX11_isSheetAndLane (va_wsS RX11 48 yX11_within wsX11_within) := goodIn_app (goodIn_of _ (by decide +kernel)) ggX11_isSheetAndLane_X11_within
theorem dX11_isSheetAndLane_0 : decode cX11_isSheetAndLane 0 = .ok (.iload_n 0, 1) := by decide +kernel
theorem dX11_isSheetAndLane_1 : decode cX11_isSheetAndLane 1 = .ok (.iconst 0, 1) := by decide +kernel
theorem dX11_isSheetAndLane_2 : decode cX11_isSheetAndLane 2 = .ok (.iconst 3, 1) := by decide +kernel
theorem dX11_isSheetAndLane_3 : decode cX11_isSheetAndLane 3 = .ok (.invokestatic 48, 3) := by decide +kernel
theorem dX11_isSheetAndLane_6 : decode cX11_isSheetAndLane 6 = .ok (.ifCond .eq 16, 3) := by decide +kernel
theorem dX11_isSheetAndLane_9 : decode cX11_isSheetAndLane 9 = .ok (.iload_n 1, 1) := by decide +kernel
theorem dX11_isSheetAndLane_10 : decode cX11_isSheetAndLane 10 = .ok (.iconst 0, 1) := by decide +kernel
theorem dX11_isSheetAndLane_11 : decode cX11_isSheetAndLane 11 = .ok (.iconst 2, 1) := by decide +kernel
theorem dX11_isSheetAndLane_12 : decode cX11_isSheetAndLane 12 = .ok (.invokestatic 48, 3) := by decide +kernel
theorem dX11_isSheetAndLane_15 : decode cX11_isSheetAndLane 15 = .ok (.ifCond .eq 7, 3) := by decide +kernel
theorem dX11_isSheetAndLane_18 : decode cX11_isSheetAndLane 18 = .ok (.iconst 1, 1) := by decide +kernel
theorem dX11_isSheetAndLane_19 : decode cX11_isSheetAndLane 19 = .ok (.goto 4, 3) := by decide +kernel
theorem dX11_isSheetAndLane_22 : decode cX11_isSheetAndLane 22 = .ok (.iconst 0, 1) := by decide +kernel
theorem dX11_isSheetAndLane_23 : decode cX11_isSheetAndLane 23 = .ok (.ireturn, 1) := by decide +kernel
set_option maxRecDepth 20000 in
theorem ggX11_areCells_X11_within : GoodIn wsX11_areCells wsX11_within := goodIn_r _ [4] (by decide +kernel) (by decide +kernel)
set_option maxRecDepth 20000 in
theorem gX11_areCells_X11_within : GoodIn wsX11_areCells (va_wsS RX11 48 yX11_within wsX11_within) := goodIn_app (goodIn_of _ (by decide +kernel)) ggX11_areCells_X11_within
theorem dX11_areCells_0 : decode cX11_areCells 0 = .ok (.iload_n 0, 1) := by decide +kernel
theorem dX11_areCells_1 : decode cX11_areCells 1 = .ok (.iconst 0, 1) := by decide +kernel
theorem dX11_areCells_2 : decode cX11_areCells 2 = .ok (.sipush 256, 3) := by decide +kernel
theorem dX11_areCells_5 : decode cX11_areCells 5 = .ok (.invokestatic 48, 3) := by decide +kernel
theorem dX11_areCells_8 : decode cX11_areCells 8 = .ok (.ifCond .eq 20, 3) := by decide +kernel
theorem dX11_areCells_11 : decode cX11_areCells 11 = .ok (.iload_n 1, 1) := by decide +kernel
theorem dX11_areCells_12 : decode cX11_areCells 12 = .ok (.iconst 0, 1) := by decide +kernel
theorem dX11_areCells_13 : decode cX11_areCells 13 = .ok (.sipush 256, 3) := by decide +kernel
theorem dX11_areCells_16 : decode cX11_areCells 16 = .ok (.iload_n 0, 1) := by decide +kernel
theorem dX11_areCells_17 : decode cX11_areCells 17 = .ok (.isub, 1) := by decide +kernel
theorem dX11_areCells_18 : decode cX11_areCells 18 = .ok (.invokestatic 48, 3) := by decide +kernel
theorem dX11_areCells_21 : decode cX11_areCells 21 = .ok (.ifCond .eq 7, 3) := by decide +kernel
theorem dX11_areCells_24 : decode cX11_areCells 24 = .ok (.iconst 1, 1) := by decide +kernel
theorem dX11_areCells_25 : decode cX11_areCells 25 = .ok (.goto 4, 3) := by decide +kernel
theorem dX11_areCells_28 : decode cX11_areCells 28 = .ok (.iconst 0, 1) := by decide +kernel
theorem dX11_areCells_29 : decode cX11_areCells 29 = .ok (.ireturn, 1) := by decide +kernel
theorem dX11_quarterOf_0 : decode cX11_quarterOf 0 = .ok (.iload_n 1, 1) := by decide +kernel
theorem dX11_quarterOf_1 : decode cX11_quarterOf 1 = .ok (.bipush 8, 2) := by decide +kernel
theorem dX11_quarterOf_3 : decode cX11_quarterOf 3 = .ok (.if_icmp .lt 15, 3) := by decide +kernel
theorem dX11_quarterOf_6 : decode cX11_quarterOf 6 = .ok (.iload_n 0, 1) := by decide +kernel
theorem dX11_quarterOf_7 : decode cX11_quarterOf 7 = .ok (.bipush 8, 2) := by decide +kernel
theorem dX11_quarterOf_9 : decode cX11_quarterOf 9 = .ok (.if_icmp .lt 7, 3) := by decide +kernel
theorem dX11_quarterOf_12 : decode cX11_quarterOf 12 = .ok (.iconst 0, 1) := by decide +kernel
theorem dX11_quarterOf_13 : decode cX11_quarterOf 13 = .ok (.goto 4, 3) := by decide +kernel
theorem dX11_quarterOf_16 : decode cX11_quarterOf 16 = .ok (.iconst 1, 1) := by decide +kernel
theorem dX11_quarterOf_17 : decode cX11_quarterOf 17 = .ok (.ireturn, 1) := by decide +kernel
theorem dX11_quarterOf_18 : decode cX11_quarterOf 18 = .ok (.iload_n 0, 1) := by decide +kernel
theorem dX11_quarterOf_19 : decode cX11_quarterOf 19 = .ok (.bipush 8, 2) := by decide +kernel
theorem dX11_quarterOf_21 : decode cX11_quarterOf 21 = .ok (.if_icmp .lt 7, 3) := by decide +kernel
theorem dX11_quarterOf_24 : decode cX11_quarterOf 24 = .ok (.iconst 3, 1) := by decide +kernel
theorem dX11_quarterOf_25 : decode cX11_quarterOf 25 = .ok (.goto 4, 3) := by decide +kernel
theorem dX11_quarterOf_28 : decode cX11_quarterOf 28 = .ok (.iconst 2, 1) := by decide +kernel
theorem dX11_quarterOf_29 : decode cX11_quarterOf 29 = .ok (.ireturn, 1) := by decide +kernel
set_option maxRecDepth 20000 in
theorem ggX11_placeOf_X11_quarterOf : GoodIn wsX11_placeOf wsX11_quarterOf := goodIn_r _ [4] (by decide +kernel) (by decide +kernel)
set_option maxRecDepth 20000 in
theorem gX11_placeOf_X11_quarterOf : GoodIn wsX11_placeOf (va_wsS RX11 133 yX11_quarterOf wsX11_quarterOf) := goodIn_app (goodIn_of _ (by decide +kernel)) ggX11_placeOf_X11_quarterOf
theorem dX11_placeOf_0 : decode cX11_placeOf 0 = .ok (.iload_n 0, 1) := by decide +kernel
theorem dX11_placeOf_1 : decode cX11_placeOf 1 = .ok (.istore_n 2, 1) := by decide +kernel
theorem dX11_placeOf_2 : decode cX11_placeOf 2 = .ok (.iload_n 1, 1) := by decide +kernel
theorem dX11_placeOf_3 : decode cX11_placeOf 3 = .ok (.istore_n 3, 1) := by decide +kernel
theorem dX11_placeOf_4 : decode cX11_placeOf 4 = .ok (.iload_n 0, 1) := by decide +kernel
theorem dX11_placeOf_5 : decode cX11_placeOf 5 = .ok (.iload_n 1, 1) := by decide +kernel
theorem dX11_placeOf_6 : decode cX11_placeOf 6 = .ok (.invokestatic 133, 3) := by decide +kernel
theorem dX11_placeOf_9 : decode cX11_placeOf 9 = .ok (.istore 4, 2) := by decide +kernel
theorem dX11_placeOf_11 : decode cX11_placeOf 11 = .ok (.iload 4, 2) := by decide +kernel
theorem dX11_placeOf_13 : decode cX11_placeOf 13 = .ok (.ifCond .le 20, 3) := by decide +kernel
theorem dX11_placeOf_16 : decode cX11_placeOf 16 = .ok (.bipush 15, 2) := by decide +kernel
theorem dX11_placeOf_18 : decode cX11_placeOf 18 = .ok (.iload_n 2, 1) := by decide +kernel
theorem dX11_placeOf_19 : decode cX11_placeOf 19 = .ok (.isub, 1) := by decide +kernel
theorem dX11_placeOf_20 : decode cX11_placeOf 20 = .ok (.istore 5, 2) := by decide +kernel
theorem dX11_placeOf_22 : decode cX11_placeOf 22 = .ok (.iload_n 3, 1) := by decide +kernel
theorem dX11_placeOf_23 : decode cX11_placeOf 23 = .ok (.istore_n 2, 1) := by decide +kernel
theorem dX11_placeOf_24 : decode cX11_placeOf 24 = .ok (.iload 5, 2) := by decide +kernel
theorem dX11_placeOf_26 : decode cX11_placeOf 26 = .ok (.istore_n 3, 1) := by decide +kernel
theorem dX11_placeOf_27 : decode cX11_placeOf 27 = .ok (.iinc 4 (-1), 3) := by decide +kernel
theorem dX11_placeOf_30 : decode cX11_placeOf 30 = .ok (.goto (-19), 3) := by decide +kernel
theorem dX11_placeOf_33 : decode cX11_placeOf 33 = .ok (.bipush 8, 2) := by decide +kernel
theorem dX11_placeOf_35 : decode cX11_placeOf 35 = .ok (.iload_n 3, 1) := by decide +kernel
theorem dX11_placeOf_36 : decode cX11_placeOf 36 = .ok (.bipush 8, 2) := by decide +kernel
theorem dX11_placeOf_38 : decode cX11_placeOf 38 = .ok (.isub, 1) := by decide +kernel
theorem dX11_placeOf_39 : decode cX11_placeOf 39 = .ok (.imul, 1) := by decide +kernel
theorem dX11_placeOf_40 : decode cX11_placeOf 40 = .ok (.iload_n 2, 1) := by decide +kernel
theorem dX11_placeOf_41 : decode cX11_placeOf 41 = .ok (.iadd, 1) := by decide +kernel
theorem dX11_placeOf_42 : decode cX11_placeOf 42 = .ok (.bipush 8, 2) := by decide +kernel
theorem dX11_placeOf_44 : decode cX11_placeOf 44 = .ok (.isub, 1) := by decide +kernel
theorem dX11_placeOf_45 : decode cX11_placeOf 45 = .ok (.ireturn, 1) := by decide +kernel
theorem dX11_cellOf_0 : decode cX11_cellOf 0 = .ok (.bipush 8, 2) := by decide +kernel
theorem dX11_cellOf_2 : decode cX11_cellOf 2 = .ok (.iload_n 0, 1) := by decide +kernel
theorem dX11_cellOf_3 : decode cX11_cellOf 3 = .ok (.bipush 8, 2) := by decide +kernel
theorem dX11_cellOf_5 : decode cX11_cellOf 5 = .ok (.irem, 1) := by decide +kernel
theorem dX11_cellOf_6 : decode cX11_cellOf 6 = .ok (.iadd, 1) := by decide +kernel
theorem dX11_cellOf_7 : decode cX11_cellOf 7 = .ok (.istore_n 2, 1) := by decide +kernel
theorem dX11_cellOf_8 : decode cX11_cellOf 8 = .ok (.bipush 8, 2) := by decide +kernel
theorem dX11_cellOf_10 : decode cX11_cellOf 10 = .ok (.iload_n 0, 1) := by decide +kernel
theorem dX11_cellOf_11 : decode cX11_cellOf 11 = .ok (.bipush 8, 2) := by decide +kernel
theorem dX11_cellOf_13 : decode cX11_cellOf 13 = .ok (.idiv, 1) := by decide +kernel
theorem dX11_cellOf_14 : decode cX11_cellOf 14 = .ok (.iadd, 1) := by decide +kernel
theorem dX11_cellOf_15 : decode cX11_cellOf 15 = .ok (.istore_n 3, 1) := by decide +kernel
theorem dX11_cellOf_16 : decode cX11_cellOf 16 = .ok (.iconst 0, 1) := by decide +kernel
theorem dX11_cellOf_17 : decode cX11_cellOf 17 = .ok (.istore 4, 2) := by decide +kernel
theorem dX11_cellOf_19 : decode cX11_cellOf 19 = .ok (.iload 4, 2) := by decide +kernel
theorem dX11_cellOf_21 : decode cX11_cellOf 21 = .ok (.iload_n 1, 1) := by decide +kernel
theorem dX11_cellOf_22 : decode cX11_cellOf 22 = .ok (.if_icmp .ge 20, 3) := by decide +kernel
theorem dX11_cellOf_25 : decode cX11_cellOf 25 = .ok (.bipush 15, 2) := by decide +kernel
theorem dX11_cellOf_27 : decode cX11_cellOf 27 = .ok (.iload_n 3, 1) := by decide +kernel
theorem dX11_cellOf_28 : decode cX11_cellOf 28 = .ok (.isub, 1) := by decide +kernel
theorem dX11_cellOf_29 : decode cX11_cellOf 29 = .ok (.istore 5, 2) := by decide +kernel
theorem dX11_cellOf_31 : decode cX11_cellOf 31 = .ok (.iload_n 2, 1) := by decide +kernel
theorem dX11_cellOf_32 : decode cX11_cellOf 32 = .ok (.istore_n 3, 1) := by decide +kernel
theorem dX11_cellOf_33 : decode cX11_cellOf 33 = .ok (.iload 5, 2) := by decide +kernel
theorem dX11_cellOf_35 : decode cX11_cellOf 35 = .ok (.istore_n 2, 1) := by decide +kernel
theorem dX11_cellOf_36 : decode cX11_cellOf 36 = .ok (.iinc 4 1, 3) := by decide +kernel
theorem dX11_cellOf_39 : decode cX11_cellOf 39 = .ok (.goto (-20), 3) := by decide +kernel
theorem dX11_cellOf_42 : decode cX11_cellOf 42 = .ok (.bipush 16, 2) := by decide +kernel
theorem dX11_cellOf_44 : decode cX11_cellOf 44 = .ok (.iload_n 3, 1) := by decide +kernel
theorem dX11_cellOf_45 : decode cX11_cellOf 45 = .ok (.imul, 1) := by decide +kernel
theorem dX11_cellOf_46 : decode cX11_cellOf 46 = .ok (.iload_n 2, 1) := by decide +kernel
theorem dX11_cellOf_47 : decode cX11_cellOf 47 = .ok (.iadd, 1) := by decide +kernel
theorem dX11_cellOf_48 : decode cX11_cellOf 48 = .ok (.ireturn, 1) := by decide +kernel
