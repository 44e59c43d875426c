theorem dX6_here_0 : decode cX6_here 0 = .ok (.aload_n 0, 1) := by decide +kernel
theorem dX6_here_1 : decode cX6_here 1 = .ok (.getfield 38, 3) := by decide +kernel
theorem dX6_here_4 : decode cX6_here 4 = .ok (.invokestatic 94, 3) := by decide +kernel
theorem dX6_here_7 : decode cX6_here 7 = .ok (.ireturn, 1) := by decide +kernel
set_option maxRecDepth 20000 in
theorem ggX6_having_X5_keysOf : GoodIn wsX6_having wsX5_keysOf := goodIn_r _ [5] (by decide +kernel) (by decide +kernel)
set_option maxRecDepth 20000 in
theorem gX6_having_X5_keysOf : GoodIn wsX6_having (va_wsS RX6 112 yX5_keysOf wsX5_keysOf) := goodIn_app (goodIn_of _ (by decide +kernel)) ggX6_having_X5_keysOf
set_option maxRecDepth 20000 in
theorem ggX6_having_X5_smallKeysLeft : GoodIn wsX6_having wsX5_smallKeysLeft := goodIn_r _ [8, 9, 10, 11, 12, 13, 14, 15] (by decide +kernel) (by decide +kernel)
set_option maxRecDepth 20000 in
theorem gX6_having_X5_smallKeysLeft : GoodIn wsX6_having (va_wsS RX6 115 yX5_smallKeysLeft wsX5_smallKeysLeft) := goodIn_app (goodIn_of _ (by decide +kernel)) ggX6_having_X5_smallKeysLeft
set_option maxRecDepth 20000 in
theorem ggX6_having_X5_positionOf : GoodIn wsX6_having wsX5_positionOf := goodIn_r _ [18] (by decide +kernel) (by decide +kernel)
set_option maxRecDepth 20000 in
theorem gX6_having_X5_positionOf : GoodIn wsX6_having (va_wsS RX6 109 yX5_positionOf wsX5_positionOf) := goodIn_app (goodIn_of _ (by decide +kernel)) ggX6_having_X5_positionOf
theorem dX6_having_0 : decode cX6_having 0 = .ok (.aload_n 0, 1) := by decide +kernel
theorem dX6_having_1 : decode cX6_having 1 = .ok (.getfield 38, 3) := by decide +kernel
theorem dX6_having_4 : decode cX6_having 4 = .ok (.invokestatic 112, 3) := by decide +kernel
theorem dX6_having_7 : decode cX6_having 7 = .ok (.bipush 8, 2) := by decide +kernel
theorem dX6_having_9 : decode cX6_having 9 = .ok (.aload_n 0, 1) := by decide +kernel
theorem dX6_having_10 : decode cX6_having 10 = .ok (.getfield 38, 3) := by decide +kernel
theorem dX6_having_13 : decode cX6_having 13 = .ok (.invokestatic 115, 3) := by decide +kernel
theorem dX6_having_16 : decode cX6_having 16 = .ok (.imul, 1) := by decide +kernel
theorem dX6_having_17 : decode cX6_having 17 = .ok (.iadd, 1) := by decide +kernel
theorem dX6_having_18 : decode cX6_having 18 = .ok (.bipush 64, 2) := by decide +kernel
theorem dX6_having_20 : decode cX6_having 20 = .ok (.aload_n 0, 1) := by decide +kernel
theorem dX6_having_21 : decode cX6_having 21 = .ok (.getfield 38, 3) := by decide +kernel
theorem dX6_having_24 : decode cX6_having 24 = .ok (.invokestatic 109, 3) := by decide +kernel
theorem dX6_having_27 : decode cX6_having 27 = .ok (.imul, 1) := by decide +kernel
theorem dX6_having_28 : decode cX6_having 28 = .ok (.iadd, 1) := by decide +kernel
theorem dX6_having_29 : decode cX6_having 29 = .ok (.ireturn, 1) := by decide +kernel
set_option maxRecDepth 20000 in
theorem ggX6_steps_X4_findGoal : GoodIn wsX6_steps wsX4_findGoal := goodIn_r _ [8, 9, 10, 11, 12, 13, 7, 14, 15, 16, 17, 18, 19, 20, 21, 22, 23, 24, 25, 26, 27, 28, 29, 30, 31, 32, 33, 34, 35, 36, 37, 38, 39, 40, 41, 42, 43, 44, 45, 46, 47, 48, 49, 50, 51, 52, 53, 54, 55, 56, 57, 58, 59, 60, 61, 62, 63, 64, 65, 66, 67, 68, 69, 70, 71, 72, 73, 74, 75, 76, 77, 78, 79, 80, 81, 82, 83, 84, 85, 86, 87, 88, 89, 90, 91, 92, 93, 94, 95, 96, 97, 98, 99, 100, 101, 102, 103, 104, 105, 106, 107, 108, 109, 110, 111, 112, 113, 114, 115, 116, 117, 118, 119, 120, 121, 122, 123, 124, 125, 130, 131, 132, 133, 134, 135, 136, 137, 138, 139, 140, 141, 142, 143, 144, 145, 146, 147, 148, 149, 150, 151] (by decide +kernel) (by decide +kernel)
set_option maxRecDepth 20000 in
theorem gX6_steps_X4_findGoal : GoodIn wsX6_steps (wsV RX6 118 RX4 yX4_findGoal wsX4_findGoal) := goodIn_app (goodIn_of _ (by decide +kernel)) ggX6_steps_X4_findGoal
theorem dX6_steps_0 : decode cX6_steps 0 = .ok (.aload_n 0, 1) := by decide +kernel
theorem dX6_steps_1 : decode cX6_steps 1 = .ok (.getfield 28, 3) := by decide +kernel
theorem dX6_steps_4 : decode cX6_steps 4 = .ok (.aload_n 0, 1) := by decide +kernel
theorem dX6_steps_5 : decode cX6_steps 5 = .ok (.getfield 38, 3) := by decide +kernel
theorem dX6_steps_8 : decode cX6_steps 8 = .ok (.invokevirtual 118, 3) := by decide +kernel
theorem dX6_steps_11 : decode cX6_steps 11 = .ok (.istore_n 1, 1) := by decide +kernel
theorem dX6_steps_12 : decode cX6_steps 12 = .ok (.iload_n 1, 1) := by decide +kernel
theorem dX6_steps_13 : decode cX6_steps 13 = .ok (.ifCond .ge 8, 3) := by decide +kernel
theorem dX6_steps_16 : decode cX6_steps 16 = .ok (.bipush (-3), 2) := by decide +kernel
theorem dX6_steps_18 : decode cX6_steps 18 = .ok (.goto 12, 3) := by decide +kernel
theorem dX6_steps_21 : decode cX6_steps 21 = .ok (.aload_n 0, 1) := by decide +kernel
theorem dX6_steps_22 : decode cX6_steps 22 = .ok (.getfield 28, 3) := by decide +kernel
theorem dX6_steps_25 : decode cX6_steps 25 = .ok (.getfield 121, 3) := by decide +kernel
theorem dX6_steps_28 : decode cX6_steps 28 = .ok (.iload_n 1, 1) := by decide +kernel
theorem dX6_steps_29 : decode cX6_steps 29 = .ok (.iaload, 1) := by decide +kernel
theorem dX6_steps_30 : decode cX6_steps 30 = .ok (.ireturn, 1) := by decide +kernel
set_option maxRecDepth 20000 in
theorem ggX6_hint_X4_findGoal : GoodIn wsX6_hint wsX4_findGoal := goodIn_r _ [8, 9, 10, 11, 12, 13, 7, 14, 15, 16, 17, 18, 19, 20, 21, 22, 23, 24, 25, 26, 27, 28, 29, 30, 31, 32, 33, 34, 35, 36, 37, 38, 39, 40, 41, 42, 43, 44, 45, 46, 47, 48, 49, 50, 51, 52, 53, 54, 55, 56, 57, 58, 59, 60, 61, 62, 63, 64, 65, 66, 67, 68, 69, 70, 71, 72, 73, 74, 75, 76, 77, 78, 79, 80, 81, 82, 83, 84, 85, 86, 87, 88, 89, 90, 91, 92, 93, 94, 95, 96, 97, 98, 99, 100, 101, 102, 103, 104, 105, 106, 107, 108, 109, 110, 111, 112, 113, 114, 115, 116, 117, 118, 119, 120, 121, 122, 123, 124, 125, 130, 131, 132, 133, 134, 135, 136, 137, 138, 139, 140, 141, 142, 143, 144, 145, 146, 147, 148, 149, 150, 151] (by decide +kernel) (by decide +kernel)
set_option maxRecDepth 20000 in
theorem gX6_hint_X4_findGoal : GoodIn wsX6_hint (wsV RX6 118 RX4 yX4_findGoal wsX4_findGoal) := goodIn_app (goodIn_of _ (by decide +kernel)) ggX6_hint_X4_findGoal
theorem dX6_hint_0 : decode cX6_hint 0 = .ok (.aload_n 0, 1) := by decide +kernel
theorem dX6_hint_1 : decode cX6_hint 1 = .ok (.getfield 28, 3) := by decide +kernel
theorem dX6_hint_4 : decode cX6_hint 4 = .ok (.aload_n 0, 1) := by decide +kernel
theorem dX6_hint_5 : decode cX6_hint 5 = .ok (.getfield 38, 3) := by decide +kernel
theorem dX6_hint_8 : decode cX6_hint 8 = .ok (.invokevirtual 118, 3) := by decide +kernel
theorem dX6_hint_11 : decode cX6_hint 11 = .ok (.istore_n 1, 1) := by decide +kernel
theorem dX6_hint_12 : decode cX6_hint 12 = .ok (.iload_n 1, 1) := by decide +kernel
theorem dX6_hint_13 : decode cX6_hint 13 = .ok (.ifCond .ne 5, 3) := by decide +kernel
theorem dX6_hint_16 : decode cX6_hint 16 = .ok (.iconst (-1), 1) := by decide +kernel
theorem dX6_hint_17 : decode cX6_hint 17 = .ok (.ireturn, 1) := by decide +kernel
theorem dX6_hint_18 : decode cX6_hint 18 = .ok (.iload_n 1, 1) := by decide +kernel
theorem dX6_hint_19 : decode cX6_hint 19 = .ok (.ifCond .ge 8, 3) := by decide +kernel
theorem dX6_hint_22 : decode cX6_hint 22 = .ok (.bipush (-3), 2) := by decide +kernel
theorem dX6_hint_24 : decode cX6_hint 24 = .ok (.goto 12, 3) := by decide +kernel
theorem dX6_hint_27 : decode cX6_hint 27 = .ok (.aload_n 0, 1) := by decide +kernel
theorem dX6_hint_28 : decode cX6_hint 28 = .ok (.getfield 28, 3) := by decide +kernel
theorem dX6_hint_31 : decode cX6_hint 31 = .ok (.getfield 124, 3) := by decide +kernel
theorem dX6_hint_34 : decode cX6_hint 34 = .ok (.iload_n 1, 1) := by decide +kernel
theorem dX6_hint_35 : decode cX6_hint 35 = .ok (.iaload, 1) := by decide +kernel
theorem dX6_hint_36 : decode cX6_hint 36 = .ok (.ireturn, 1) := by decide +kernel
set_option maxRecDepth 20000 in
theorem ggX6_situations_X4_findAll : GoodIn wsX6_situations wsX4_findAll := goodIn_r _ [8, 9, 10, 11, 12, 7, 13, 14, 15, 16, 17, 18, 19, 20, 21, 22, 23, 24, 25, 26, 27, 28, 29, 30, 31, 32, 33, 34, 35, 36, 37, 38, 39, 40, 41, 42, 43, 44, 45, 46, 47, 48, 49, 50, 51, 52, 53, 54, 55, 56, 57, 58, 59, 60, 61, 62, 63, 64, 65, 66, 67, 68, 69, 70, 71, 72, 73, 74, 75, 76, 77, 78, 79, 80, 81, 82, 83, 84, 85, 86, 87, 88, 89, 90, 91, 92, 93, 94, 95, 96, 97, 98, 99, 100, 101, 102, 103, 104, 105, 106, 107, 108, 109, 110, 111, 112, 113, 114, 115, 116, 117, 118, 119, 120, 125, 126, 127, 128, 129, 130, 131, 132, 133, 134, 135, 136, 137, 138, 139, 140, 141, 142, 143, 144, 145, 146] (by decide +kernel) (by decide +kernel)
set_option maxRecDepth 20000 in
theorem gX6_situations_X4_findAll : GoodIn wsX6_situations (wsV RX6 127 RX4 yX4_findAll wsX4_findAll) := goodIn_app (goodIn_of _ (by decide +kernel)) ggX6_situations_X4_findAll
theorem dX6_situations_0 : decode cX6_situations 0 = .ok (.aload_n 0, 1) := by decide +kernel
theorem dX6_situations_1 : decode cX6_situations 1 = .ok (.getfield 28, 3) := by decide +kernel
theorem dX6_situations_4 : decode cX6_situations 4 = .ok (.aload_n 0, 1) := by decide +kernel
theorem dX6_situations_5 : decode cX6_situations 5 = .ok (.getfield 38, 3) := by decide +kernel
theorem dX6_situations_8 : decode cX6_situations 8 = .ok (.invokevirtual 127, 3) := by decide +kernel
theorem dX6_situations_11 : decode cX6_situations 11 = .ok (.aload_n 0, 1) := by decide +kernel
theorem dX6_situations_12 : decode cX6_situations 12 = .ok (.getfield 28, 3) := by decide +kernel
theorem dX6_situations_15 : decode cX6_situations 15 = .ok (.getfield 131, 3) := by decide +kernel
theorem dX6_situations_18 : decode cX6_situations 18 = .ok (.ireturn, 1) := by decide +kernel
set_option maxRecDepth 20000 in
theorem ggX6_safe_X4_findAll : GoodIn wsX6_safe wsX4_findAll := goodIn_r _ [7, 8, 9, 10, 11, 6, 12, 13, 14, 15, 16, 17, 18, 19, 20, 21, 22, 23, 24, 25, 26, 27, 28, 29, 30, 31, 32, 33, 34, 35, 36, 37, 38, 39, 40, 41, 42, 43, 44, 45, 46, 47, 48, 49, 50, 51, 52, 53, 54, 55, 56, 57, 58, 59, 60, 61, 62, 63, 64, 65, 66, 67, 68, 69, 70, 71, 72, 73, 74, 75, 76, 77, 78, 79, 80, 81, 82, 83, 84, 85, 86, 87, 88, 89, 90, 91, 92, 93, 94, 95, 96, 97, 98, 99, 100, 101, 102, 103, 104, 105, 106, 107, 108, 109, 110, 111, 112, 113, 114, 115, 116, 117, 118, 119, 142, 143, 144, 145, 146, 147, 148, 149, 150, 151, 152, 153, 154, 155, 156, 157, 158, 159, 160, 161, 162, 163] (by decide +kernel) (by decide +kernel)
set_option maxRecDepth 20000 in
theorem gX6_safe_X4_findAll : GoodIn wsX6_safe (wsV RX6 127 RX4 yX4_findAll wsX4_findAll) := goodIn_app (goodIn_of _ (by decide +kernel)) ggX6_safe_X4_findAll
set_option maxRecDepth 20000 in
theorem ggX6_safe_X4_allLeadToGoal : GoodIn wsX6_safe wsX4_allLeadToGoal := goodIn_r _ [123, 124, 8, 14, 16, 17, 18, 19, 20, 21, 22, 23, 24, 25, 103, 104, 105, 106, 125, 126, 127, 6, 128, 34, 129, 36, 37, 38, 39, 130, 131, 132, 133, 35, 40, 41, 42, 43, 44, 45, 46, 47, 48, 49, 50, 51, 52, 53, 54, 55, 56, 57, 58, 59, 60, 61, 62, 63, 64, 65, 66, 67, 68, 69, 70, 71, 72, 73, 74, 75, 76, 77, 78, 79, 80, 81, 82, 83, 84, 85, 86, 87, 88, 89, 90, 91, 92, 93, 94, 95, 96, 97, 134, 135, 136, 137, 107, 108, 109, 110, 111, 112, 113, 114, 115, 116, 117, 118, 119, 26, 27, 28, 29, 142, 143, 144, 145, 146, 147, 148, 149, 150, 151, 152, 153, 154, 155, 156, 157, 158, 159, 160, 161, 162, 163] (by decide +kernel) (by decide +kernel)
set_option maxRecDepth 20000 in
theorem gX6_safe_X4_allLeadToGoal : GoodIn wsX6_safe (wsV RX6 134 RX4 yX4_allLeadToGoal wsX4_allLeadToGoal) := goodIn_app (goodIn_of _ (by decide +kernel)) ggX6_safe_X4_allLeadToGoal
theorem dX6_safe_0 : decode cX6_safe 0 = .ok (.aload_n 0, 1) := by decide +kernel
theorem dX6_safe_1 : decode cX6_safe 1 = .ok (.getfield 28, 3) := by decide +kernel
theorem dX6_safe_4 : decode cX6_safe 4 = .ok (.aload_n 0, 1) := by decide +kernel
theorem dX6_safe_5 : decode cX6_safe 5 = .ok (.getfield 38, 3) := by decide +kernel
theorem dX6_safe_8 : decode cX6_safe 8 = .ok (.invokevirtual 127, 3) := by decide +kernel
theorem dX6_safe_11 : decode cX6_safe 11 = .ok (.aload_n 0, 1) := by decide +kernel
theorem dX6_safe_12 : decode cX6_safe 12 = .ok (.getfield 28, 3) := by decide +kernel
theorem dX6_safe_15 : decode cX6_safe 15 = .ok (.invokevirtual 134, 3) := by decide +kernel
theorem dX6_safe_18 : decode cX6_safe 18 = .ok (.ireturn, 1) := by decide +kernel
theorem dX6_isWithin_0 : decode cX6_isWithin 0 = .ok (.iload_n 0, 1) := by decide +kernel
theorem dX6_isWithin_1 : decode cX6_isWithin 1 = .ok (.iload_n 1, 1) := by decide +kernel
theorem dX6_isWithin_2 : decode cX6_isWithin 2 = .ok (.if_icmp .lt 12, 3) := by decide +kernel
theorem dX6_isWithin_5 : decode cX6_isWithin 5 = .ok (.iload_n 0, 1) := by decide +kernel
theorem dX6_isWithin_6 : decode cX6_isWithin 6 = .ok (.iload_n 2, 1) := by decide +kernel
theorem dX6_isWithin_7 : decode cX6_isWithin 7 = .ok (.if_icmp .gt 7, 3) := by decide +kernel
theorem dX6_isWithin_10 : decode cX6_isWithin 10 = .ok (.iconst 1, 1) := by decide +kernel
theorem dX6_isWithin_11 : decode cX6_isWithin 11 = .ok (.goto 4, 3) := by decide +kernel
theorem dX6_isWithin_14 : decode cX6_isWithin 14 = .ok (.iconst 0, 1) := by decide +kernel
theorem dX6_isWithin_15 : decode cX6_isWithin 15 = .ok (.ireturn, 1) := by decide +kernel
set_option maxRecDepth 20000 in
theorem ggX7_init_X7_make : GoodIn wsX7_init wsX7_make := goodIn_r _ [21, 22, 23, 15, 6, 24, 25, 26, 27, 20, 28, 5, 7, 9, 10, 11, 13, 14, 29, 30, 31, 32, 33, 34, 35, 36, 37, 38, 39, 40, 41, 42, 43, 44, 45, 46, 47, 48, 8, 49, 50, 51, 52, 53, 54, 55, 56, 57, 58, 59, 60, 61, 62, 63, 64, 65, 66, 67, 68, 69, 70, 71, 72, 73, 74, 75, 76, 77, 78, 79, 80, 81, 82, 83, 84, 85, 86, 87, 88, 89, 90] (by decide +kernel) (by decide +kernel)
set_option maxRecDepth 20000 in
theorem gX7_init_X7_make : GoodIn wsX7_init (wsV RX7 44 RX7 yX7_make wsX7_make) := goodIn_app (goodIn_of _ (by decide +kernel)) ggX7_init_X7_make
theorem dX7_init_0 : decode cX7_init 0 = .ok (.aload_n 0, 1) := by decide +kernel
theorem dX7_init_1 : decode cX7_init 1 = .ok (.invokespecial 1, 3) := by decide +kernel
theorem dX7_init_4 : decode cX7_init 4 = .ok (.aload_n 0, 1) := by decide +kernel
theorem dX7_init_5 : decode cX7_init 5 = .ok (.bipush 12, 2) := by decide +kernel
theorem dX7_init_7 : decode cX7_init 7 = .ok (.newarray .int, 2) := by decide +kernel
theorem dX7_init_9 : decode cX7_init 9 = .ok (.putfield 7, 3) := by decide +kernel
theorem dX7_init_12 : decode cX7_init 12 = .ok (.aload_n 0, 1) := by decide +kernel
theorem dX7_init_13 : decode cX7_init 13 = .ok (.bipush 12, 2) := by decide +kernel
theorem dX7_init_15 : decode cX7_init 15 = .ok (.newarray .int, 2) := by decide +kernel
theorem dX7_init_17 : decode cX7_init 17 = .ok (.putfield 13, 3) := by decide +kernel
theorem dX7_init_20 : decode cX7_init 20 = .ok (.aload_n 0, 1) := by decide +kernel
theorem dX7_init_21 : decode cX7_init 21 = .ok (.bipush 12, 2) := by decide +kernel
theorem dX7_init_23 : decode cX7_init 23 = .ok (.newarray .int, 2) := by decide +kernel
theorem dX7_init_25 : decode cX7_init 25 = .ok (.putfield 16, 3) := by decide +kernel
theorem dX7_init_28 : decode cX7_init 28 = .ok (.aload_n 0, 1) := by decide +kernel
theorem dX7_init_29 : decode cX7_init 29 = .ok (.bipush 12, 2) := by decide +kernel
theorem dX7_init_31 : decode cX7_init 31 = .ok (.newarray .int, 2) := by decide +kernel
theorem dX7_init_33 : decode cX7_init 33 = .ok (.putfield 19, 3) := by decide +kernel
theorem dX7_init_36 : decode cX7_init 36 = .ok (.aload_n 0, 1) := by decide +kernel
theorem dX7_init_37 : decode cX7_init 37 = .ok (.bipush 12, 2) := by decide +kernel
theorem dX7_init_39 : decode cX7_init 39 = .ok (.newarray .int, 2) := by decide +kernel
theorem dX7_init_41 : decode cX7_init 41 = .ok (.putfield 22, 3) := by decide +kernel
theorem dX7_init_44 : decode cX7_init 44 = .ok (.aload_n 0, 1) := by decide +kernel
theorem dX7_init_45 : decode cX7_init 45 = .ok (.bipush 12, 2) := by decide +kernel
theorem dX7_init_47 : decode cX7_init 47 = .ok (.newarray .int, 2) := by decide +kernel
theorem dX7_init_49 : decode cX7_init 49 = .ok (.putfield 25, 3) := by decide +kernel
theorem dX7_init_52 : decode cX7_init 52 = .ok (.aload_n 0, 1) := by decide +kernel
theorem dX7_init_53 : decode cX7_init 53 = .ok (.bipush 12, 2) := by decide +kernel
theorem dX7_init_55 : decode cX7_init 55 = .ok (.newarray .int, 2) := by decide +kernel
theorem dX7_init_57 : decode cX7_init 57 = .ok (.putfield 28, 3) := by decide +kernel
theorem dX7_init_60 : decode cX7_init 60 = .ok (.aload_n 0, 1) := by decide +kernel
theorem dX7_init_61 : decode cX7_init 61 = .ok (.bipush 12, 2) := by decide +kernel
theorem dX7_init_63 : decode cX7_init 63 = .ok (.newarray .boolean, 2) := by decide +kernel
theorem dX7_init_65 : decode cX7_init 65 = .ok (.putfield 31, 3) := by decide +kernel
theorem dX7_init_68 : decode cX7_init 68 = .ok (.aload_n 0, 1) := by decide +kernel
theorem dX7_init_69 : decode cX7_init 69 = .ok (.sipush 144, 3) := by decide +kernel
theorem dX7_init_72 : decode cX7_init 72 = .ok (.newarray .boolean, 2) := by decide +kernel
theorem dX7_init_74 : decode cX7_init 74 = .ok (.putfield 35, 3) := by decide +kernel
theorem dX7_init_77 : decode cX7_init 77 = .ok (.aload_n 0, 1) := by decide +kernel
theorem dX7_init_78 : decode cX7_init 78 = .ok (.bipush 12, 2) := by decide +kernel
theorem dX7_init_80 : decode cX7_init 80 = .ok (.newarray .boolean, 2) := by decide +kernel
theorem dX7_init_82 : decode cX7_init 82 = .ok (.putfield 38, 3) := by decide +kernel
theorem dX7_init_85 : decode cX7_init 85 = .ok (.aload_n 0, 1) := by decide +kernel
theorem dX7_init_86 : decode cX7_init 86 = .ok (.sipush 12288, 3) := by decide +kernel
theorem dX7_init_89 : decode cX7_init 89 = .ok (.newarray .int, 2) := by decide +kernel
theorem dX7_init_91 : decode cX7_init 91 = .ok (.putfield 41, 3) := by decide +kernel
theorem dX7_init_94 : decode cX7_init 94 = .ok (.aload_n 0, 1) := by decide +kernel
theorem dX7_init_95 : decode cX7_init 95 = .ok (.lconst 0, 1) := by decide +kernel
theorem dX7_init_96 : decode cX7_init 96 = .ok (.iconst 2, 1) := by decide +kernel
theorem dX7_init_97 : decode cX7_init 97 = .ok (.iconst 1, 1) := by decide +kernel
theorem dX7_init_98 : decode cX7_init 98 = .ok (.iconst 0, 1) := by decide +kernel
theorem dX7_init_99 : decode cX7_init 99 = .ok (.iconst 0, 1) := by decide +kernel
theorem dX7_init_100 : decode cX7_init 100 = .ok (.invokevirtual 44, 3) := by decide +kernel
theorem dX7_init_103 : decode cX7_init 103 = .ok (.istore_n 1, 1) := by decide +kernel
theorem dX7_init_104 : decode cX7_init 104 = .ok (.return_, 1) := by decide +kernel
theorem dX7_draw_0 : decode cX7_draw 0 = .ok (.aload_n 0, 1) := by decide +kernel
theorem dX7_draw_1 : decode cX7_draw 1 = .ok (.aload_n 0, 1) := by decide +kernel
theorem dX7_draw_2 : decode cX7_draw 2 = .ok (.getfield 48, 3) := by decide +kernel
theorem dX7_draw_5 : decode cX7_draw 5 = .ok (.ldc2_w 52, 3) := by decide +kernel
theorem dX7_draw_8 : decode cX7_draw 8 = .ok (.lmul, 1) := by decide +kernel
theorem dX7_draw_9 : decode cX7_draw 9 = .ok (.ldc2_w 54, 3) := by decide +kernel
theorem dX7_draw_12 : decode cX7_draw 12 = .ok (.ladd, 1) := by decide +kernel
theorem dX7_draw_13 : decode cX7_draw 13 = .ok (.putfield 48, 3) := by decide +kernel
theorem dX7_draw_16 : decode cX7_draw 16 = .ok (.aload_n 0, 1) := by decide +kernel
theorem dX7_draw_17 : decode cX7_draw 17 = .ok (.getfield 48, 3) := by decide +kernel
theorem dX7_draw_20 : decode cX7_draw 20 = .ok (.bipush 33, 2) := by decide +kernel
theorem dX7_draw_22 : decode cX7_draw 22 = .ok (.lushr, 1) := by decide +kernel
theorem dX7_draw_23 : decode cX7_draw 23 = .ok (.iload_n 1, 1) := by decide +kernel
theorem dX7_draw_24 : decode cX7_draw 24 = .ok (.i2l, 1) := by decide +kernel
theorem dX7_draw_25 : decode cX7_draw 25 = .ok (.lrem, 1) := by decide +kernel
theorem dX7_draw_26 : decode cX7_draw 26 = .ok (.l2i, 1) := by decide +kernel
theorem dX7_draw_27 : decode cX7_draw 27 = .ok (.ireturn, 1) := by decide +kernel
set_option maxRecDepth 20000 in
theorem ggX7_drawn_X7_draw : GoodIn wsX7_drawn wsX7_draw := goodIn_r _ [7, 8, 9, 10, 11, 12, 13, 14, 15, 16, 17, 18, 19, 20, 21, 22, 23, 24, 25, 26, 27, 28] (by decide +kernel) (by decide +kernel)
set_option maxRecDepth 20000 in
theorem gX7_drawn_X7_draw : GoodIn wsX7_drawn (wsV RX7 60 RX7 yX7_draw wsX7_draw) := goodIn_app (goodIn_of _ (by decide +kernel)) ggX7_drawn_X7_draw
theorem dX7_drawn_0 : decode cX7_drawn 0 = .ok (.iconst 0, 1) := by decide +kernel
theorem dX7_drawn_1 : decode cX7_drawn 1 = .ok (.istore_n 1, 1) := by decide +kernel
theorem dX7_drawn_2 : decode cX7_drawn 2 = .ok (.iconst 0, 1) := by decide +kernel
theorem dX7_drawn_3 : decode cX7_drawn 3 = .ok (.istore_n 2, 1) := by decide +kernel
theorem dX7_drawn_4 : decode cX7_drawn 4 = .ok (.iload_n 2, 1) := by decide +kernel
theorem dX7_drawn_5 : decode cX7_drawn 5 = .ok (.aload_n 0, 1) := by decide +kernel
theorem dX7_drawn_6 : decode cX7_drawn 6 = .ok (.getfield 56, 3) := by decide +kernel
theorem dX7_drawn_9 : decode cX7_drawn 9 = .ok (.if_icmp .ge 26, 3) := by decide +kernel
theorem dX7_drawn_12 : decode cX7_drawn 12 = .ok (.aload_n 0, 1) := by decide +kernel
theorem dX7_drawn_13 : decode cX7_drawn 13 = .ok (.getfield 38, 3) := by decide +kernel
theorem dX7_drawn_16 : decode cX7_drawn 16 = .ok (.iload_n 2, 1) := by decide +kernel
theorem dX7_drawn_17 : decode cX7_drawn 17 = .ok (.baload, 1) := by decide +kernel
theorem dX7_drawn_18 : decode cX7_drawn 18 = .ok (.ifCond .eq 9, 3) := by decide +kernel
theorem dX7_drawn_21 : decode cX7_drawn 21 = .ok (.iload_n 1, 1) := by decide +kernel
theorem dX7_drawn_22 : decode cX7_drawn 22 = .ok (.iconst 1, 1) := by decide +kernel
theorem dX7_drawn_23 : decode cX7_drawn 23 = .ok (.iadd, 1) := by decide +kernel
theorem dX7_drawn_24 : decode cX7_drawn 24 = .ok (.goto 4, 3) := by decide +kernel
theorem dX7_drawn_27 : decode cX7_drawn 27 = .ok (.iload_n 1, 1) := by decide +kernel
theorem dX7_drawn_28 : decode cX7_drawn 28 = .ok (.istore_n 1, 1) := by decide +kernel
theorem dX7_drawn_29 : decode cX7_drawn 29 = .ok (.iinc 2 1, 3) := by decide +kernel
theorem dX7_drawn_32 : decode cX7_drawn 32 = .ok (.goto (-28), 3) := by decide +kernel
theorem dX7_drawn_35 : decode cX7_drawn 35 = .ok (.aload_n 0, 1) := by decide +kernel
theorem dX7_drawn_36 : decode cX7_drawn 36 = .ok (.iload_n 1, 1) := by decide +kernel
theorem dX7_drawn_37 : decode cX7_drawn 37 = .ok (.invokevirtual 60, 3) := by decide +kernel
theorem dX7_drawn_40 : decode cX7_drawn 40 = .ok (.istore_n 2, 1) := by decide +kernel
theorem dX7_drawn_41 : decode cX7_drawn 41 = .ok (.iconst 0, 1) := by decide +kernel
theorem dX7_drawn_42 : decode cX7_drawn 42 = .ok (.istore_n 3, 1) := by decide +kernel
theorem dX7_drawn_43 : decode cX7_drawn 43 = .ok (.iload_n 3, 1) := by decide +kernel
theorem dX7_drawn_44 : decode cX7_drawn 44 = .ok (.aload_n 0, 1) := by decide +kernel
theorem dX7_drawn_45 : decode cX7_drawn 45 = .ok (.getfield 56, 3) := by decide +kernel
theorem dX7_drawn_48 : decode cX7_drawn 48 = .ok (.if_icmp .ge 27, 3) := by decide +kernel
theorem dX7_drawn_51 : decode cX7_drawn 51 = .ok (.aload_n 0, 1) := by decide +kernel
theorem dX7_drawn_52 : decode cX7_drawn 52 = .ok (.getfield 38, 3) := by decide +kernel
theorem dX7_drawn_55 : decode cX7_drawn 55 = .ok (.iload_n 3, 1) := by decide +kernel
theorem dX7_drawn_56 : decode cX7_drawn 56 = .ok (.baload, 1) := by decide +kernel
theorem dX7_drawn_57 : decode cX7_drawn 57 = .ok (.ifCond .eq 12, 3) := by decide +kernel
theorem dX7_drawn_60 : decode cX7_drawn 60 = .ok (.iload_n 2, 1) := by decide +kernel
theorem dX7_drawn_61 : decode cX7_drawn 61 = .ok (.ifCond .ne 5, 3) := by decide +kernel
theorem dX7_drawn_64 : decode cX7_drawn 64 = .ok (.iload_n 3, 1) := by decide +kernel
theorem dX7_drawn_65 : decode cX7_drawn 65 = .ok (.ireturn, 1) := by decide +kernel
theorem dX7_drawn_66 : decode cX7_drawn 66 = .ok (.iinc 2 (-1), 3) := by decide +kernel
theorem dX7_drawn_69 : decode cX7_drawn 69 = .ok (.iinc 3 1, 3) := by decide +kernel
theorem dX7_drawn_72 : decode cX7_drawn 72 = .ok (.goto (-29), 3) := by decide +kernel
theorem dX7_drawn_75 : decode cX7_drawn 75 = .ok (.iconst 0, 1) := by decide +kernel
theorem dX7_drawn_76 : decode cX7_drawn 76 = .ok (.ireturn, 1) := by decide +kernel
set_option maxRecDepth 20000 in
theorem ggX7_makeRooms_X7_drawn : GoodIn wsX7_makeRooms wsX7_drawn := goodIn_r _ [10, 1, 2, 11, 12, 13, 9, 14, 15, 16, 17, 18, 19, 20, 21, 22, 23, 24, 25, 26, 27, 28, 29, 30, 31, 32, 33, 34, 35] (by decide +kernel) (by decide +kernel)
set_option maxRecDepth 20000 in
theorem gX7_makeRooms_X7_drawn : GoodIn wsX7_makeRooms (wsV RX7 64 RX7 yX7_drawn wsX7_drawn) := goodIn_app (goodIn_of _ (by decide +kernel)) ggX7_makeRooms_X7_drawn
set_option maxRecDepth 20000 in
theorem ggX7_makeRooms_X7_draw : GoodIn wsX7_makeRooms wsX7_draw := goodIn_r _ [14, 15, 16, 17, 18, 19, 20, 21, 22, 23, 24, 25, 26, 27, 28, 29, 30, 31, 32, 33, 34, 35] (by decide +kernel) (by decide +kernel)
set_option maxRecDepth 20000 in
theorem gX7_makeRooms_X7_draw : GoodIn wsX7_makeRooms (wsV RX7 60 RX7 yX7_draw wsX7_draw) := goodIn_app (goodIn_of _ (by decide +kernel)) ggX7_makeRooms_X7_draw
theorem dX7_makeRooms_0 : decode cX7_makeRooms 0 = .ok (.iconst 0, 1) := by decide +kernel
theorem dX7_makeRooms_1 : decode cX7_makeRooms 1 = .ok (.istore_n 2, 1) := by decide +kernel
theorem dX7_makeRooms_2 : decode cX7_makeRooms 2 = .ok (.iconst 1, 1) := by decide +kernel
theorem dX7_makeRooms_3 : decode cX7_makeRooms 3 = .ok (.istore_n 3, 1) := by decide +kernel
theorem dX7_makeRooms_4 : decode cX7_makeRooms 4 = .ok (.iload_n 3, 1) := by decide +kernel
theorem dX7_makeRooms_5 : decode cX7_makeRooms 5 = .ok (.aload_n 0, 1) := by decide +kernel
theorem dX7_makeRooms_6 : decode cX7_makeRooms 6 = .ok (.getfield 56, 3) := by decide +kernel
theorem dX7_makeRooms_9 : decode cX7_makeRooms 9 = .ok (.if_icmp .ge 194, 3) := by decide +kernel
theorem dX7_makeRooms_12 : decode cX7_makeRooms 12 = .ok (.aload_n 0, 1) := by decide +kernel
theorem dX7_makeRooms_13 : decode cX7_makeRooms 13 = .ok (.getfield 56, 3) := by decide +kernel
theorem dX7_makeRooms_16 : decode cX7_makeRooms 16 = .ok (.iload_n 3, 1) := by decide +kernel
theorem dX7_makeRooms_17 : decode cX7_makeRooms 17 = .ok (.isub, 1) := by decide +kernel
theorem dX7_makeRooms_18 : decode cX7_makeRooms 18 = .ok (.iload_n 1, 1) := by decide +kernel
theorem dX7_makeRooms_19 : decode cX7_makeRooms 19 = .ok (.iload_n 2, 1) := by decide +kernel
theorem dX7_makeRooms_20 : decode cX7_makeRooms 20 = .ok (.isub, 1) := by decide +kernel
theorem dX7_makeRooms_21 : decode cX7_makeRooms 21 = .ok (.if_icmp .ne 7, 3) := by decide +kernel
theorem dX7_makeRooms_24 : decode cX7_makeRooms 24 = .ok (.iconst 1, 1) := by decide +kernel
theorem dX7_makeRooms_25 : decode cX7_makeRooms 25 = .ok (.goto 4, 3) := by decide +kernel
theorem dX7_makeRooms_28 : decode cX7_makeRooms 28 = .ok (.iconst 0, 1) := by decide +kernel
theorem dX7_makeRooms_29 : decode cX7_makeRooms 29 = .ok (.istore 4, 2) := by decide +kernel
theorem dX7_makeRooms_31 : decode cX7_makeRooms 31 = .ok (.iload 4, 2) := by decide +kernel
theorem dX7_makeRooms_33 : decode cX7_makeRooms 33 = .ok (.ifCond .eq 63, 3) := by decide +kernel
theorem dX7_makeRooms_36 : decode cX7_makeRooms 36 = .ok (.iconst 0, 1) := by decide +kernel
theorem dX7_makeRooms_37 : decode cX7_makeRooms 37 = .ok (.istore 5, 2) := by decide +kernel
theorem dX7_makeRooms_39 : decode cX7_makeRooms 39 = .ok (.iload 5, 2) := by decide +kernel
theorem dX7_makeRooms_41 : decode cX7_makeRooms 41 = .ok (.aload_n 0, 1) := by decide +kernel
theorem dX7_makeRooms_42 : decode cX7_makeRooms 42 = .ok (.getfield 56, 3) := by decide +kernel
theorem dX7_makeRooms_45 : decode cX7_makeRooms 45 = .ok (.if_icmp .ge 38, 3) := by decide +kernel
theorem dX7_makeRooms_48 : decode cX7_makeRooms 48 = .ok (.aload_n 0, 1) := by decide +kernel
theorem dX7_makeRooms_49 : decode cX7_makeRooms 49 = .ok (.getfield 38, 3) := by decide +kernel
theorem dX7_makeRooms_52 : decode cX7_makeRooms 52 = .ok (.iload 5, 2) := by decide +kernel
theorem dX7_makeRooms_54 : decode cX7_makeRooms 54 = .ok (.iload 5, 2) := by decide +kernel
theorem dX7_makeRooms_56 : decode cX7_makeRooms 56 = .ok (.iload_n 3, 1) := by decide +kernel
theorem dX7_makeRooms_57 : decode cX7_makeRooms 57 = .ok (.if_icmp .ge 18, 3) := by decide +kernel
theorem dX7_makeRooms_60 : decode cX7_makeRooms 60 = .ok (.aload_n 0, 1) := by decide +kernel
theorem dX7_makeRooms_61 : decode cX7_makeRooms 61 = .ok (.getfield 13, 3) := by decide +kernel
theorem dX7_makeRooms_64 : decode cX7_makeRooms 64 = .ok (.iload 5, 2) := by decide +kernel
theorem dX7_makeRooms_66 : decode cX7_makeRooms 66 = .ok (.iaload, 1) := by decide +kernel
theorem dX7_makeRooms_67 : decode cX7_makeRooms 67 = .ok (.iload_n 2, 1) := by decide +kernel
theorem dX7_makeRooms_68 : decode cX7_makeRooms 68 = .ok (.if_icmp .ne 7, 3) := by decide +kernel
theorem dX7_makeRooms_71 : decode cX7_makeRooms 71 = .ok (.iconst 1, 1) := by decide +kernel
theorem dX7_makeRooms_72 : decode cX7_makeRooms 72 = .ok (.goto 4, 3) := by decide +kernel
theorem dX7_makeRooms_75 : decode cX7_makeRooms 75 = .ok (.iconst 0, 1) := by decide +kernel
theorem dX7_makeRooms_76 : decode cX7_makeRooms 76 = .ok (.bastore, 1) := by decide +kernel
theorem dX7_makeRooms_77 : decode cX7_makeRooms 77 = .ok (.iinc 5 1, 3) := by decide +kernel
theorem dX7_makeRooms_80 : decode cX7_makeRooms 80 = .ok (.goto (-41), 3) := by decide +kernel
theorem dX7_makeRooms_83 : decode cX7_makeRooms 83 = .ok (.aload_n 0, 1) := by decide +kernel
theorem dX7_makeRooms_84 : decode cX7_makeRooms 84 = .ok (.getfield 7, 3) := by decide +kernel
theorem dX7_makeRooms_87 : decode cX7_makeRooms 87 = .ok (.iload_n 3, 1) := by decide +kernel
theorem dX7_makeRooms_88 : decode cX7_makeRooms 88 = .ok (.aload_n 0, 1) := by decide +kernel
theorem dX7_makeRooms_89 : decode cX7_makeRooms 89 = .ok (.invokevirtual 64, 3) := by decide +kernel
theorem dX7_makeRooms_92 : decode cX7_makeRooms 92 = .ok (.iastore, 1) := by decide +kernel
theorem dX7_makeRooms_93 : decode cX7_makeRooms 93 = .ok (.goto 49, 3) := by decide +kernel
theorem dX7_makeRooms_96 : decode cX7_makeRooms 96 = .ok (.aload_n 0, 1) := by decide +kernel
theorem dX7_makeRooms_97 : decode cX7_makeRooms 97 = .ok (.getfield 7, 3) := by decide +kernel
theorem dX7_makeRooms_100 : decode cX7_makeRooms 100 = .ok (.iload_n 3, 1) := by decide +kernel
theorem dX7_makeRooms_101 : decode cX7_makeRooms 101 = .ok (.aload_n 0, 1) := by decide +kernel
theorem dX7_makeRooms_102 : decode cX7_makeRooms 102 = .ok (.iload_n 3, 1) := by decide +kernel
theorem dX7_makeRooms_103 : decode cX7_makeRooms 103 = .ok (.invokevirtual 60, 3) := by decide +kernel
theorem dX7_makeRooms_106 : decode cX7_makeRooms 106 = .ok (.iastore, 1) := by decide +kernel
theorem dX7_makeRooms_107 : decode cX7_makeRooms 107 = .ok (.aload_n 0, 1) := by decide +kernel
theorem dX7_makeRooms_108 : decode cX7_makeRooms 108 = .ok (.getfield 13, 3) := by decide +kernel
theorem dX7_makeRooms_111 : decode cX7_makeRooms 111 = .ok (.aload_n 0, 1) := by decide +kernel
theorem dX7_makeRooms_112 : decode cX7_makeRooms 112 = .ok (.getfield 7, 3) := by decide +kernel
theorem dX7_makeRooms_115 : decode cX7_makeRooms 115 = .ok (.iload_n 3, 1) := by decide +kernel
theorem dX7_makeRooms_116 : decode cX7_makeRooms 116 = .ok (.iaload, 1) := by decide +kernel
theorem dX7_makeRooms_117 : decode cX7_makeRooms 117 = .ok (.iaload, 1) := by decide +kernel
theorem dX7_makeRooms_118 : decode cX7_makeRooms 118 = .ok (.iload_n 2, 1) := by decide +kernel
theorem dX7_makeRooms_119 : decode cX7_makeRooms 119 = .ok (.if_icmp .ne 23, 3) := by decide +kernel
theorem dX7_makeRooms_122 : decode cX7_makeRooms 122 = .ok (.iload_n 2, 1) := by decide +kernel
theorem dX7_makeRooms_123 : decode cX7_makeRooms 123 = .ok (.iload_n 1, 1) := by decide +kernel
theorem dX7_makeRooms_124 : decode cX7_makeRooms 124 = .ok (.if_icmp .ge 18, 3) := by decide +kernel
theorem dX7_makeRooms_127 : decode cX7_makeRooms 127 = .ok (.aload_n 0, 1) := by decide +kernel
theorem dX7_makeRooms_128 : decode cX7_makeRooms 128 = .ok (.iconst 4, 1) := by decide +kernel
theorem dX7_makeRooms_129 : decode cX7_makeRooms 129 = .ok (.invokevirtual 60, 3) := by decide +kernel
theorem dX7_makeRooms_132 : decode cX7_makeRooms 132 = .ok (.ifCond .ne 7, 3) := by decide +kernel
theorem dX7_makeRooms_135 : decode cX7_makeRooms 135 = .ok (.iconst 1, 1) := by decide +kernel
theorem dX7_makeRooms_136 : decode cX7_makeRooms 136 = .ok (.goto 4, 3) := by decide +kernel
theorem dX7_makeRooms_139 : decode cX7_makeRooms 139 = .ok (.iconst 0, 1) := by decide +kernel
theorem dX7_makeRooms_140 : decode cX7_makeRooms 140 = .ok (.istore 4, 2) := by decide +kernel
theorem dX7_makeRooms_142 : decode cX7_makeRooms 142 = .ok (.iload 4, 2) := by decide +kernel
theorem dX7_makeRooms_144 : decode cX7_makeRooms 144 = .ok (.ifCond .eq 9, 3) := by decide +kernel
theorem dX7_makeRooms_147 : decode cX7_makeRooms 147 = .ok (.iload_n 2, 1) := by decide +kernel
theorem dX7_makeRooms_148 : decode cX7_makeRooms 148 = .ok (.iconst 1, 1) := by decide +kernel
theorem dX7_makeRooms_149 : decode cX7_makeRooms 149 = .ok (.iadd, 1) := by decide +kernel
theorem dX7_makeRooms_150 : decode cX7_makeRooms 150 = .ok (.goto 4, 3) := by decide +kernel
theorem dX7_makeRooms_153 : decode cX7_makeRooms 153 = .ok (.iload_n 2, 1) := by decide +kernel
theorem dX7_makeRooms_154 : decode cX7_makeRooms 154 = .ok (.istore_n 2, 1) := by decide +kernel
theorem dX7_makeRooms_155 : decode cX7_makeRooms 155 = .ok (.aload_n 0, 1) := by decide +kernel
theorem dX7_makeRooms_156 : decode cX7_makeRooms 156 = .ok (.getfield 13, 3) := by decide +kernel
theorem dX7_makeRooms_159 : decode cX7_makeRooms 159 = .ok (.iload_n 3, 1) := by decide +kernel
theorem dX7_makeRooms_160 : decode cX7_makeRooms 160 = .ok (.iload 4, 2) := by decide +kernel
theorem dX7_makeRooms_162 : decode cX7_makeRooms 162 = .ok (.ifCond .eq 7, 3) := by decide +kernel
theorem dX7_makeRooms_165 : decode cX7_makeRooms 165 = .ok (.iload_n 2, 1) := by decide +kernel
theorem dX7_makeRooms_166 : decode cX7_makeRooms 166 = .ok (.goto 14, 3) := by decide +kernel
theorem dX7_makeRooms_169 : decode cX7_makeRooms 169 = .ok (.aload_n 0, 1) := by decide +kernel
theorem dX7_makeRooms_170 : decode cX7_makeRooms 170 = .ok (.getfield 13, 3) := by decide +kernel
theorem dX7_makeRooms_173 : decode cX7_makeRooms 173 = .ok (.aload_n 0, 1) := by decide +kernel
theorem dX7_makeRooms_174 : decode cX7_makeRooms 174 = .ok (.getfield 7, 3) := by decide +kernel
theorem dX7_makeRooms_177 : decode cX7_makeRooms 177 = .ok (.iload_n 3, 1) := by decide +kernel
theorem dX7_makeRooms_178 : decode cX7_makeRooms 178 = .ok (.iaload, 1) := by decide +kernel
theorem dX7_makeRooms_179 : decode cX7_makeRooms 179 = .ok (.iaload, 1) := by decide +kernel
theorem dX7_makeRooms_180 : decode cX7_makeRooms 180 = .ok (.iastore, 1) := by decide +kernel
theorem dX7_makeRooms_181 : decode cX7_makeRooms 181 = .ok (.aload_n 0, 1) := by decide +kernel
theorem dX7_makeRooms_182 : decode cX7_makeRooms 182 = .ok (.getfield 16, 3) := by decide +kernel
theorem dX7_makeRooms_185 : decode cX7_makeRooms 185 = .ok (.iload_n 3, 1) := by decide +kernel
theorem dX7_makeRooms_186 : decode cX7_makeRooms 186 = .ok (.iload 4, 2) := by decide +kernel
theorem dX7_makeRooms_188 : decode cX7_makeRooms 188 = .ok (.ifCond .eq 7, 3) := by decide +kernel
theorem dX7_makeRooms_191 : decode cX7_makeRooms 191 = .ok (.iconst 1, 1) := by decide +kernel
theorem dX7_makeRooms_192 : decode cX7_makeRooms 192 = .ok (.goto 4, 3) := by decide +kernel
theorem dX7_makeRooms_195 : decode cX7_makeRooms 195 = .ok (.iconst 0, 1) := by decide +kernel
theorem dX7_makeRooms_196 : decode cX7_makeRooms 196 = .ok (.iastore, 1) := by decide +kernel
theorem dX7_makeRooms_197 : decode cX7_makeRooms 197 = .ok (.iinc 3 1, 3) := by decide +kernel
theorem dX7_makeRooms_200 : decode cX7_makeRooms 200 = .ok (.goto (-196), 3) := by decide +kernel
theorem dX7_makeRooms_203 : decode cX7_makeRooms 203 = .ok (.return_, 1) := by decide +kernel
theorem dX7_choosePlain_0 : decode cX7_choosePlain 0 = .ok (.iconst 0, 1) := by decide +kernel
theorem dX7_choosePlain_1 : decode cX7_choosePlain 1 = .ok (.istore_n 1, 1) := by decide +kernel
theorem dX7_choosePlain_2 : decode cX7_choosePlain 2 = .ok (.iconst 0, 1) := by decide +kernel
theorem dX7_choosePlain_3 : decode cX7_choosePlain 3 = .ok (.istore_n 2, 1) := by decide +kernel
theorem dX7_choosePlain_4 : decode cX7_choosePlain 4 = .ok (.iload_n 2, 1) := by decide +kernel
theorem dX7_choosePlain_5 : decode cX7_choosePlain 5 = .ok (.aload_n 0, 1) := by decide +kernel
theorem dX7_choosePlain_6 : decode cX7_choosePlain 6 = .ok (.getfield 56, 3) := by decide +kernel
theorem dX7_choosePlain_9 : decode cX7_choosePlain 9 = .ok (.if_icmp .ge 52, 3) := by decide +kernel
theorem dX7_choosePlain_12 : decode cX7_choosePlain 12 = .ok (.aload_n 0, 1) := by decide +kernel
theorem dX7_choosePlain_13 : decode cX7_choosePlain 13 = .ok (.getfield 38, 3) := by decide +kernel
theorem dX7_choosePlain_16 : decode cX7_choosePlain 16 = .ok (.iload_n 2, 1) := by decide +kernel
theorem dX7_choosePlain_17 : decode cX7_choosePlain 17 = .ok (.iload_n 2, 1) := by decide +kernel
theorem dX7_choosePlain_18 : decode cX7_choosePlain 18 = .ok (.ifCond .le 16, 3) := by decide +kernel
theorem dX7_choosePlain_21 : decode cX7_choosePlain 21 = .ok (.aload_n 0, 1) := by decide +kernel
theorem dX7_choosePlain_22 : decode cX7_choosePlain 22 = .ok (.getfield 16, 3) := by decide +kernel
theorem dX7_choosePlain_25 : decode cX7_choosePlain 25 = .ok (.iload_n 2, 1) := by decide +kernel
theorem dX7_choosePlain_26 : decode cX7_choosePlain 26 = .ok (.iaload, 1) := by decide +kernel
theorem dX7_choosePlain_27 : decode cX7_choosePlain 27 = .ok (.ifCond .ne 7, 3) := by decide +kernel
theorem dX7_choosePlain_30 : decode cX7_choosePlain 30 = .ok (.iconst 1, 1) := by decide +kernel
theorem dX7_choosePlain_31 : decode cX7_choosePlain 31 = .ok (.goto 4, 3) := by decide +kernel
theorem dX7_choosePlain_34 : decode cX7_choosePlain 34 = .ok (.iconst 0, 1) := by decide +kernel
theorem dX7_choosePlain_35 : decode cX7_choosePlain 35 = .ok (.bastore, 1) := by decide +kernel
theorem dX7_choosePlain_36 : decode cX7_choosePlain 36 = .ok (.iload_n 1, 1) := by decide +kernel
theorem dX7_choosePlain_37 : decode cX7_choosePlain 37 = .ok (.ifCond .ne 12, 3) := by decide +kernel
theorem dX7_choosePlain_40 : decode cX7_choosePlain 40 = .ok (.aload_n 0, 1) := by decide +kernel
theorem dX7_choosePlain_41 : decode cX7_choosePlain 41 = .ok (.getfield 38, 3) := by decide +kernel
theorem dX7_choosePlain_44 : decode cX7_choosePlain 44 = .ok (.iload_n 2, 1) := by decide +kernel
theorem dX7_choosePlain_45 : decode cX7_choosePlain 45 = .ok (.baload, 1) := by decide +kernel
theorem dX7_choosePlain_46 : decode cX7_choosePlain 46 = .ok (.ifCond .eq 7, 3) := by decide +kernel
theorem dX7_choosePlain_49 : decode cX7_choosePlain 49 = .ok (.iconst 1, 1) := by decide +kernel
theorem dX7_choosePlain_50 : decode cX7_choosePlain 50 = .ok (.goto 4, 3) := by decide +kernel
theorem dX7_choosePlain_53 : decode cX7_choosePlain 53 = .ok (.iconst 0, 1) := by decide +kernel
theorem dX7_choosePlain_54 : decode cX7_choosePlain 54 = .ok (.istore_n 1, 1) := by decide +kernel
theorem dX7_choosePlain_55 : decode cX7_choosePlain 55 = .ok (.iinc 2 1, 3) := by decide +kernel
theorem dX7_choosePlain_58 : decode cX7_choosePlain 58 = .ok (.goto (-54), 3) := by decide +kernel
theorem dX7_choosePlain_61 : decode cX7_choosePlain 61 = .ok (.iload_n 1, 1) := by decide +kernel
theorem dX7_choosePlain_62 : decode cX7_choosePlain 62 = .ok (.ireturn, 1) := by decide +kernel
theorem dX7_open_0 : decode cX7_open 0 = .ok (.iload_n 1, 1) := by decide +kernel
theorem dX7_open_1 : decode cX7_open 1 = .ok (.istore_n 2, 1) := by decide +kernel
theorem dX7_open_2 : decode cX7_open 2 = .ok (.iload_n 2, 1) := by decide +kernel
theorem dX7_open_3 : decode cX7_open 3 = .ok (.ifCond .le 23, 3) := by decide +kernel
theorem dX7_open_6 : decode cX7_open 6 = .ok (.aload_n 0, 1) := by decide +kernel
theorem dX7_open_7 : decode cX7_open 7 = .ok (.getfield 16, 3) := by decide +kernel
theorem dX7_open_10 : decode cX7_open 10 = .ok (.iload_n 2, 1) := by decide +kernel
theorem dX7_open_11 : decode cX7_open 11 = .ok (.iaload, 1) := by decide +kernel
theorem dX7_open_12 : decode cX7_open 12 = .ok (.iconst 2, 1) := by decide +kernel
theorem dX7_open_13 : decode cX7_open 13 = .ok (.if_icmp .eq 13, 3) := by decide +kernel
theorem dX7_open_16 : decode cX7_open 16 = .ok (.aload_n 0, 1) := by decide +kernel
theorem dX7_open_17 : decode cX7_open 17 = .ok (.getfield 7, 3) := by decide +kernel
theorem dX7_open_20 : decode cX7_open 20 = .ok (.iload_n 2, 1) := by decide +kernel
theorem dX7_open_21 : decode cX7_open 21 = .ok (.iaload, 1) := by decide +kernel
theorem dX7_open_22 : decode cX7_open 22 = .ok (.istore_n 2, 1) := by decide +kernel
theorem dX7_open_23 : decode cX7_open 23 = .ok (.goto (-21), 3) := by decide +kernel
theorem dX7_open_26 : decode cX7_open 26 = .ok (.iload_n 2, 1) := by decide +kernel
theorem dX7_open_27 : decode cX7_open 27 = .ok (.ifCond .ne 7, 3) := by decide +kernel
theorem dX7_open_30 : decode cX7_open 30 = .ok (.iconst 1, 1) := by decide +kernel
theorem dX7_open_31 : decode cX7_open 31 = .ok (.goto 4, 3) := by decide +kernel
theorem dX7_open_34 : decode cX7_open 34 = .ok (.iconst 0, 1) := by decide +kernel
theorem dX7_open_35 : decode cX7_open 35 = .ok (.ireturn, 1) := by decide +kernel
set_option maxRecDepth 20000 in
theorem ggX7_makeKeys_X7_drawn : GoodIn wsX7_makeKeys wsX7_drawn := goodIn_r _ [12, 1, 2, 13, 14, 15, 11, 16, 17, 18, 19, 29, 30, 31, 32, 33, 34, 35, 36, 37, 38, 39, 40, 41, 42, 43, 44, 45, 46] (by decide +kernel) (by decide +kernel)
set_option maxRecDepth 20000 in
theorem gX7_makeKeys_X7_drawn : GoodIn wsX7_makeKeys (wsV RX7 64 RX7 yX7_drawn wsX7_drawn) := goodIn_app (goodIn_of _ (by decide +kernel)) ggX7_makeKeys_X7_drawn
set_option maxRecDepth 20000 in
theorem ggX7_makeKeys_X7_choosePlain : GoodIn wsX7_makeKeys wsX7_choosePlain := goodIn_r _ [23, 1, 2, 5, 29, 30, 31, 32, 33, 34, 35, 36, 37, 38, 39, 40, 41, 42, 43, 44, 45, 46] (by decide +kernel) (by decide +kernel)
set_option maxRecDepth 20000 in
theorem gX7_makeKeys_X7_choosePlain : GoodIn wsX7_makeKeys (wsV RX7 68 RX7 yX7_choosePlain wsX7_choosePlain) := goodIn_app (goodIn_of _ (by decide +kernel)) ggX7_makeKeys_X7_choosePlain
set_option maxRecDepth 20000 in
theorem ggX7_makeKeys_X7_open : GoodIn wsX7_makeKeys wsX7_open := goodIn_r _ [27, 5, 28, 29, 30, 31, 32, 33, 34, 35, 36, 37, 38, 39, 40, 41, 42, 43, 44, 45, 46] (by decide +kernel) (by decide +kernel)
set_option maxRecDepth 20000 in
theorem gX7_makeKeys_X7_open : GoodIn wsX7_makeKeys (wsV RX7 75 RX7 yX7_open wsX7_open) := goodIn_app (goodIn_of _ (by decide +kernel)) ggX7_makeKeys_X7_open
theorem dX7_makeKeys_0 : decode cX7_makeKeys 0 = .ok (.iconst 1, 1) := by decide +kernel
theorem dX7_makeKeys_1 : decode cX7_makeKeys 1 = .ok (.istore_n 3, 1) := by decide +kernel
theorem dX7_makeKeys_2 : decode cX7_makeKeys 2 = .ok (.iload_n 3, 1) := by decide +kernel
theorem dX7_makeKeys_3 : decode cX7_makeKeys 3 = .ok (.iload_n 1, 1) := by decide +kernel
theorem dX7_makeKeys_4 : decode cX7_makeKeys 4 = .ok (.if_icmp .gt 76, 3) := by decide +kernel
theorem dX7_makeKeys_7 : decode cX7_makeKeys 7 = .ok (.iconst 0, 1) := by decide +kernel
theorem dX7_makeKeys_8 : decode cX7_makeKeys 8 = .ok (.istore 4, 2) := by decide +kernel
theorem dX7_makeKeys_10 : decode cX7_makeKeys 10 = .ok (.iload 4, 2) := by decide +kernel
theorem dX7_makeKeys_12 : decode cX7_makeKeys 12 = .ok (.aload_n 0, 1) := by decide +kernel
theorem dX7_makeKeys_13 : decode cX7_makeKeys 13 = .ok (.getfield 56, 3) := by decide +kernel
theorem dX7_makeKeys_16 : decode cX7_makeKeys 16 = .ok (.if_icmp .ge 32, 3) := by decide +kernel
theorem dX7_makeKeys_19 : decode cX7_makeKeys 19 = .ok (.aload_n 0, 1) := by decide +kernel
theorem dX7_makeKeys_20 : decode cX7_makeKeys 20 = .ok (.getfield 38, 3) := by decide +kernel
theorem dX7_makeKeys_23 : decode cX7_makeKeys 23 = .ok (.iload 4, 2) := by decide +kernel
theorem dX7_makeKeys_25 : decode cX7_makeKeys 25 = .ok (.aload_n 0, 1) := by decide +kernel
theorem dX7_makeKeys_26 : decode cX7_makeKeys 26 = .ok (.getfield 13, 3) := by decide +kernel
theorem dX7_makeKeys_29 : decode cX7_makeKeys 29 = .ok (.iload 4, 2) := by decide +kernel
theorem dX7_makeKeys_31 : decode cX7_makeKeys 31 = .ok (.iaload, 1) := by decide +kernel
theorem dX7_makeKeys_32 : decode cX7_makeKeys 32 = .ok (.iload_n 3, 1) := by decide +kernel
theorem dX7_makeKeys_33 : decode cX7_makeKeys 33 = .ok (.if_icmp .ge 7, 3) := by decide +kernel
theorem dX7_makeKeys_36 : decode cX7_makeKeys 36 = .ok (.iconst 1, 1) := by decide +kernel
theorem dX7_makeKeys_37 : decode cX7_makeKeys 37 = .ok (.goto 4, 3) := by decide +kernel
theorem dX7_makeKeys_40 : decode cX7_makeKeys 40 = .ok (.iconst 0, 1) := by decide +kernel
theorem dX7_makeKeys_41 : decode cX7_makeKeys 41 = .ok (.bastore, 1) := by decide +kernel
theorem dX7_makeKeys_42 : decode cX7_makeKeys 42 = .ok (.iinc 4 1, 3) := by decide +kernel
theorem dX7_makeKeys_45 : decode cX7_makeKeys 45 = .ok (.goto (-35), 3) := by decide +kernel
theorem dX7_makeKeys_48 : decode cX7_makeKeys 48 = .ok (.aload_n 0, 1) := by decide +kernel
theorem dX7_makeKeys_49 : decode cX7_makeKeys 49 = .ok (.invokevirtual 64, 3) := by decide +kernel
theorem dX7_makeKeys_52 : decode cX7_makeKeys 52 = .ok (.istore 4, 2) := by decide +kernel
theorem dX7_makeKeys_54 : decode cX7_makeKeys 54 = .ok (.aload_n 0, 1) := by decide +kernel
theorem dX7_makeKeys_55 : decode cX7_makeKeys 55 = .ok (.getfield 28, 3) := by decide +kernel
theorem dX7_makeKeys_58 : decode cX7_makeKeys 58 = .ok (.iload 4, 2) := by decide +kernel
theorem dX7_makeKeys_60 : decode cX7_makeKeys 60 = .ok (.aload_n 0, 1) := by decide +kernel
theorem dX7_makeKeys_61 : decode cX7_makeKeys 61 = .ok (.getfield 28, 3) := by decide +kernel
theorem dX7_makeKeys_64 : decode cX7_makeKeys 64 = .ok (.iload 4, 2) := by decide +kernel
theorem dX7_makeKeys_66 : decode cX7_makeKeys 66 = .ok (.iaload, 1) := by decide +kernel
theorem dX7_makeKeys_67 : decode cX7_makeKeys 67 = .ok (.iconst 1, 1) := by decide +kernel
theorem dX7_makeKeys_68 : decode cX7_makeKeys 68 = .ok (.iload_n 3, 1) := by decide +kernel
theorem dX7_makeKeys_69 : decode cX7_makeKeys 69 = .ok (.iconst 1, 1) := by decide +kernel
theorem dX7_makeKeys_70 : decode cX7_makeKeys 70 = .ok (.isub, 1) := by decide +kernel
theorem dX7_makeKeys_71 : decode cX7_makeKeys 71 = .ok (.ishl, 1) := by decide +kernel
theorem dX7_makeKeys_72 : decode cX7_makeKeys 72 = .ok (.ior, 1) := by decide +kernel
theorem dX7_makeKeys_73 : decode cX7_makeKeys 73 = .ok (.iastore, 1) := by decide +kernel
theorem dX7_makeKeys_74 : decode cX7_makeKeys 74 = .ok (.iinc 3 1, 3) := by decide +kernel
theorem dX7_makeKeys_77 : decode cX7_makeKeys 77 = .ok (.goto (-75), 3) := by decide +kernel
theorem dX7_makeKeys_80 : decode cX7_makeKeys 80 = .ok (.iconst 0, 1) := by decide +kernel
theorem dX7_makeKeys_81 : decode cX7_makeKeys 81 = .ok (.istore_n 3, 1) := by decide +kernel
theorem dX7_makeKeys_82 : decode cX7_makeKeys 82 = .ok (.iload_n 3, 1) := by decide +kernel
theorem dX7_makeKeys_83 : decode cX7_makeKeys 83 = .ok (.iload_n 2, 1) := by decide +kernel
theorem dX7_makeKeys_84 : decode cX7_makeKeys 84 = .ok (.if_icmp .ge 51, 3) := by decide +kernel
theorem dX7_makeKeys_87 : decode cX7_makeKeys 87 = .ok (.aload_n 0, 1) := by decide +kernel
theorem dX7_makeKeys_88 : decode cX7_makeKeys 88 = .ok (.invokevirtual 68, 3) := by decide +kernel
theorem dX7_makeKeys_91 : decode cX7_makeKeys 91 = .ok (.ifCond .eq 38, 3) := by decide +kernel
theorem dX7_makeKeys_94 : decode cX7_makeKeys 94 = .ok (.aload_n 0, 1) := by decide +kernel
theorem dX7_makeKeys_95 : decode cX7_makeKeys 95 = .ok (.invokevirtual 64, 3) := by decide +kernel
theorem dX7_makeKeys_98 : decode cX7_makeKeys 98 = .ok (.istore 4, 2) := by decide +kernel
theorem dX7_makeKeys_100 : decode cX7_makeKeys 100 = .ok (.aload_n 0, 1) := by decide +kernel
theorem dX7_makeKeys_101 : decode cX7_makeKeys 101 = .ok (.getfield 16, 3) := by decide +kernel
theorem dX7_makeKeys_104 : decode cX7_makeKeys 104 = .ok (.iload 4, 2) := by decide +kernel
theorem dX7_makeKeys_106 : decode cX7_makeKeys 106 = .ok (.iconst 2, 1) := by decide +kernel
theorem dX7_makeKeys_107 : decode cX7_makeKeys 107 = .ok (.iastore, 1) := by decide +kernel
theorem dX7_makeKeys_108 : decode cX7_makeKeys 108 = .ok (.aload_n 0, 1) := by decide +kernel
theorem dX7_makeKeys_109 : decode cX7_makeKeys 109 = .ok (.getfield 19, 3) := by decide +kernel
theorem dX7_makeKeys_112 : decode cX7_makeKeys 112 = .ok (.iload 4, 2) := by decide +kernel
theorem dX7_makeKeys_114 : decode cX7_makeKeys 114 = .ok (.aload_n 0, 1) := by decide +kernel
theorem dX7_makeKeys_115 : decode cX7_makeKeys 115 = .ok (.getfield 72, 3) := by decide +kernel
theorem dX7_makeKeys_118 : decode cX7_makeKeys 118 = .ok (.iastore, 1) := by decide +kernel
theorem dX7_makeKeys_119 : decode cX7_makeKeys 119 = .ok (.aload_n 0, 1) := by decide +kernel
theorem dX7_makeKeys_120 : decode cX7_makeKeys 120 = .ok (.dup, 1) := by decide +kernel
theorem dX7_makeKeys_121 : decode cX7_makeKeys 121 = .ok (.getfield 72, 3) := by decide +kernel
theorem dX7_makeKeys_124 : decode cX7_makeKeys 124 = .ok (.iconst 1, 1) := by decide +kernel
theorem dX7_makeKeys_125 : decode cX7_makeKeys 125 = .ok (.iadd, 1) := by decide +kernel
theorem dX7_makeKeys_126 : decode cX7_makeKeys 126 = .ok (.putfield 72, 3) := by decide +kernel
theorem dX7_makeKeys_129 : decode cX7_makeKeys 129 = .ok (.iinc 3 1, 3) := by decide +kernel
theorem dX7_makeKeys_132 : decode cX7_makeKeys 132 = .ok (.goto (-50), 3) := by decide +kernel
theorem dX7_makeKeys_135 : decode cX7_makeKeys 135 = .ok (.iconst 0, 1) := by decide +kernel
theorem dX7_makeKeys_136 : decode cX7_makeKeys 136 = .ok (.istore_n 3, 1) := by decide +kernel
theorem dX7_makeKeys_137 : decode cX7_makeKeys 137 = .ok (.iload_n 3, 1) := by decide +kernel
theorem dX7_makeKeys_138 : decode cX7_makeKeys 138 = .ok (.aload_n 0, 1) := by decide +kernel
theorem dX7_makeKeys_139 : decode cX7_makeKeys 139 = .ok (.getfield 72, 3) := by decide +kernel
theorem dX7_makeKeys_142 : decode cX7_makeKeys 142 = .ok (.if_icmp .ge 83, 3) := by decide +kernel
theorem dX7_makeKeys_145 : decode cX7_makeKeys 145 = .ok (.iconst 0, 1) := by decide +kernel
theorem dX7_makeKeys_146 : decode cX7_makeKeys 146 = .ok (.istore 4, 2) := by decide +kernel
theorem dX7_makeKeys_148 : decode cX7_makeKeys 148 = .ok (.iload 4, 2) := by decide +kernel
theorem dX7_makeKeys_150 : decode cX7_makeKeys 150 = .ok (.aload_n 0, 1) := by decide +kernel
theorem dX7_makeKeys_151 : decode cX7_makeKeys 151 = .ok (.getfield 56, 3) := by decide +kernel
theorem dX7_makeKeys_154 : decode cX7_makeKeys 154 = .ok (.if_icmp .ge 40, 3) := by decide +kernel
theorem dX7_makeKeys_157 : decode cX7_makeKeys 157 = .ok (.aload_n 0, 1) := by decide +kernel
theorem dX7_makeKeys_158 : decode cX7_makeKeys 158 = .ok (.getfield 38, 3) := by decide +kernel
theorem dX7_makeKeys_161 : decode cX7_makeKeys 161 = .ok (.iload 4, 2) := by decide +kernel
theorem dX7_makeKeys_163 : decode cX7_makeKeys 163 = .ok (.aload_n 0, 1) := by decide +kernel
theorem dX7_makeKeys_164 : decode cX7_makeKeys 164 = .ok (.getfield 13, 3) := by decide +kernel
theorem dX7_makeKeys_167 : decode cX7_makeKeys 167 = .ok (.iload 4, 2) := by decide +kernel
theorem dX7_makeKeys_169 : decode cX7_makeKeys 169 = .ok (.iaload, 1) := by decide +kernel
theorem dX7_makeKeys_170 : decode cX7_makeKeys 170 = .ok (.ifCond .ne 16, 3) := by decide +kernel
theorem dX7_makeKeys_173 : decode cX7_makeKeys 173 = .ok (.aload_n 0, 1) := by decide +kernel
theorem dX7_makeKeys_174 : decode cX7_makeKeys 174 = .ok (.iload 4, 2) := by decide +kernel
theorem dX7_makeKeys_176 : decode cX7_makeKeys 176 = .ok (.invokevirtual 75, 3) := by decide +kernel
theorem dX7_makeKeys_179 : decode cX7_makeKeys 179 = .ok (.ifCond .eq 7, 3) := by decide +kernel
theorem dX7_makeKeys_182 : decode cX7_makeKeys 182 = .ok (.iconst 1, 1) := by decide +kernel
theorem dX7_makeKeys_183 : decode cX7_makeKeys 183 = .ok (.goto 4, 3) := by decide +kernel
theorem dX7_makeKeys_186 : decode cX7_makeKeys 186 = .ok (.iconst 0, 1) := by decide +kernel
theorem dX7_makeKeys_187 : decode cX7_makeKeys 187 = .ok (.bastore, 1) := by decide +kernel
theorem dX7_makeKeys_188 : decode cX7_makeKeys 188 = .ok (.iinc 4 1, 3) := by decide +kernel
theorem dX7_makeKeys_191 : decode cX7_makeKeys 191 = .ok (.goto (-43), 3) := by decide +kernel
theorem dX7_makeKeys_194 : decode cX7_makeKeys 194 = .ok (.aload_n 0, 1) := by decide +kernel
theorem dX7_makeKeys_195 : decode cX7_makeKeys 195 = .ok (.invokevirtual 64, 3) := by decide +kernel
theorem dX7_makeKeys_198 : decode cX7_makeKeys 198 = .ok (.istore 4, 2) := by decide +kernel
theorem dX7_makeKeys_200 : decode cX7_makeKeys 200 = .ok (.aload_n 0, 1) := by decide +kernel
theorem dX7_makeKeys_201 : decode cX7_makeKeys 201 = .ok (.getfield 28, 3) := by decide +kernel
theorem dX7_makeKeys_204 : decode cX7_makeKeys 204 = .ok (.iload 4, 2) := by decide +kernel
theorem dX7_makeKeys_206 : decode cX7_makeKeys 206 = .ok (.aload_n 0, 1) := by decide +kernel
theorem dX7_makeKeys_207 : decode cX7_makeKeys 207 = .ok (.getfield 28, 3) := by decide +kernel
theorem dX7_makeKeys_210 : decode cX7_makeKeys 210 = .ok (.iload 4, 2) := by decide +kernel
theorem dX7_makeKeys_212 : decode cX7_makeKeys 212 = .ok (.iaload, 1) := by decide +kernel
theorem dX7_makeKeys_213 : decode cX7_makeKeys 213 = .ok (.bipush 8, 2) := by decide +kernel
theorem dX7_makeKeys_215 : decode cX7_makeKeys 215 = .ok (.iload_n 3, 1) := by decide +kernel
theorem dX7_makeKeys_216 : decode cX7_makeKeys 216 = .ok (.ishl, 1) := by decide +kernel
theorem dX7_makeKeys_217 : decode cX7_makeKeys 217 = .ok (.ior, 1) := by decide +kernel
theorem dX7_makeKeys_218 : decode cX7_makeKeys 218 = .ok (.iastore, 1) := by decide +kernel
theorem dX7_makeKeys_219 : decode cX7_makeKeys 219 = .ok (.iinc 3 1, 3) := by decide +kernel
theorem dX7_makeKeys_222 : decode cX7_makeKeys 222 = .ok (.goto (-85), 3) := by decide +kernel
theorem dX7_makeKeys_225 : decode cX7_makeKeys 225 = .ok (.return_, 1) := by decide +kernel
set_option maxRecDepth 20000 in
theorem ggX7_makeBarriers_X7_choosePlain : GoodIn wsX7_makeBarriers wsX7_choosePlain := goodIn_r _ [8, 9, 10, 1, 22, 23, 24, 25, 26, 27, 28, 29, 30, 31, 32, 33, 34, 35, 36, 37, 38, 39] (by decide +kernel) (by decide +kernel)
set_option maxRecDepth 20000 in
theorem gX7_makeBarriers_X7_choosePlain : GoodIn wsX7_makeBarriers (wsV RX7 68 RX7 yX7_choosePlain wsX7_choosePlain) := goodIn_app (goodIn_of _ (by decide +kernel)) ggX7_makeBarriers_X7_choosePlain
set_option maxRecDepth 20000 in
theorem ggX7_makeBarriers_X7_drawn : GoodIn wsX7_makeBarriers wsX7_drawn := goodIn_r _ [14, 9, 10, 15, 16, 17, 7, 18, 19, 20, 21, 22, 23, 24, 25, 26, 27, 28, 29, 30, 31, 32, 33, 34, 35, 36, 37, 38, 39] (by decide +kernel) (by decide +kernel)
set_option maxRecDepth 20000 in
theorem gX7_makeBarriers_X7_drawn : GoodIn wsX7_makeBarriers (wsV RX7 64 RX7 yX7_drawn wsX7_drawn) := goodIn_app (goodIn_of _ (by decide +kernel)) ggX7_makeBarriers_X7_drawn
set_option maxRecDepth 20000 in
theorem ggX7_makeBarriers_X7_draw : GoodIn wsX7_makeBarriers wsX7_draw := goodIn_r _ [18, 19, 20, 21, 22, 23, 24, 25, 26, 27, 28, 29, 30, 31, 32, 33, 34, 35, 36, 37, 38, 39] (by decide +kernel) (by decide +kernel)
set_option maxRecDepth 20000 in
theorem gX7_makeBarriers_X7_draw : GoodIn wsX7_makeBarriers (wsV RX7 60 RX7 yX7_draw wsX7_draw) := goodIn_app (goodIn_of _ (by decide +kernel)) ggX7_makeBarriers_X7_draw
theorem dX7_makeBarriers_0 : decode cX7_makeBarriers 0 = .ok (.iconst 0, 1) := by decide +kernel
theorem dX7_makeBarriers_1 : decode cX7_makeBarriers 1 = .ok (.istore_n 2, 1) := by decide +kernel
theorem dX7_makeBarriers_2 : decode cX7_makeBarriers 2 = .ok (.iload_n 2, 1) := by decide +kernel
theorem dX7_makeBarriers_3 : decode cX7_makeBarriers 3 = .ok (.iload_n 1, 1) := by decide +kernel
theorem dX7_makeBarriers_4 : decode cX7_makeBarriers 4 = .ok (.if_icmp .ge 59, 3) := by decide +kernel
theorem dX7_makeBarriers_7 : decode cX7_makeBarriers 7 = .ok (.aload_n 0, 1) := by decide +kernel
theorem dX7_makeBarriers_8 : decode cX7_makeBarriers 8 = .ok (.invokevirtual 68, 3) := by decide +kernel
theorem dX7_makeBarriers_11 : decode cX7_makeBarriers 11 = .ok (.ifCond .eq 46, 3) := by decide +kernel
theorem dX7_makeBarriers_14 : decode cX7_makeBarriers 14 = .ok (.aload_n 0, 1) := by decide +kernel
theorem dX7_makeBarriers_15 : decode cX7_makeBarriers 15 = .ok (.invokevirtual 64, 3) := by decide +kernel
theorem dX7_makeBarriers_18 : decode cX7_makeBarriers 18 = .ok (.istore_n 3, 1) := by decide +kernel
theorem dX7_makeBarriers_19 : decode cX7_makeBarriers 19 = .ok (.aload_n 0, 1) := by decide +kernel
theorem dX7_makeBarriers_20 : decode cX7_makeBarriers 20 = .ok (.getfield 16, 3) := by decide +kernel
theorem dX7_makeBarriers_23 : decode cX7_makeBarriers 23 = .ok (.iload_n 3, 1) := by decide +kernel
theorem dX7_makeBarriers_24 : decode cX7_makeBarriers 24 = .ok (.aload_n 0, 1) := by decide +kernel
theorem dX7_makeBarriers_25 : decode cX7_makeBarriers 25 = .ok (.iconst 2, 1) := by decide +kernel
theorem dX7_makeBarriers_26 : decode cX7_makeBarriers 26 = .ok (.invokevirtual 60, 3) := by decide +kernel
theorem dX7_makeBarriers_29 : decode cX7_makeBarriers 29 = .ok (.ifCond .ne 7, 3) := by decide +kernel
theorem dX7_makeBarriers_32 : decode cX7_makeBarriers 32 = .ok (.iconst 3, 1) := by decide +kernel
theorem dX7_makeBarriers_33 : decode cX7_makeBarriers 33 = .ok (.goto 4, 3) := by decide +kernel
theorem dX7_makeBarriers_36 : decode cX7_makeBarriers 36 = .ok (.iconst 4, 1) := by decide +kernel
theorem dX7_makeBarriers_37 : decode cX7_makeBarriers 37 = .ok (.iastore, 1) := by decide +kernel
theorem dX7_makeBarriers_38 : decode cX7_makeBarriers 38 = .ok (.aload_n 0, 1) := by decide +kernel
theorem dX7_makeBarriers_39 : decode cX7_makeBarriers 39 = .ok (.getfield 31, 3) := by decide +kernel
theorem dX7_makeBarriers_42 : decode cX7_makeBarriers 42 = .ok (.iload_n 3, 1) := by decide +kernel
theorem dX7_makeBarriers_43 : decode cX7_makeBarriers 43 = .ok (.iconst 1, 1) := by decide +kernel
theorem dX7_makeBarriers_44 : decode cX7_makeBarriers 44 = .ok (.bastore, 1) := by decide +kernel
theorem dX7_makeBarriers_45 : decode cX7_makeBarriers 45 = .ok (.aload_n 0, 1) := by decide +kernel
theorem dX7_makeBarriers_46 : decode cX7_makeBarriers 46 = .ok (.getfield 31, 3) := by decide +kernel
theorem dX7_makeBarriers_49 : decode cX7_makeBarriers 49 = .ok (.aload_n 0, 1) := by decide +kernel
theorem dX7_makeBarriers_50 : decode cX7_makeBarriers 50 = .ok (.getfield 7, 3) := by decide +kernel
theorem dX7_makeBarriers_53 : decode cX7_makeBarriers 53 = .ok (.iload_n 3, 1) := by decide +kernel
theorem dX7_makeBarriers_54 : decode cX7_makeBarriers 54 = .ok (.iaload, 1) := by decide +kernel
theorem dX7_makeBarriers_55 : decode cX7_makeBarriers 55 = .ok (.iconst 1, 1) := by decide +kernel
theorem dX7_makeBarriers_56 : decode cX7_makeBarriers 56 = .ok (.bastore, 1) := by decide +kernel
theorem dX7_makeBarriers_57 : decode cX7_makeBarriers 57 = .ok (.iinc 2 1, 3) := by decide +kernel
theorem dX7_makeBarriers_60 : decode cX7_makeBarriers 60 = .ok (.goto (-58), 3) := by decide +kernel
theorem dX7_makeBarriers_63 : decode cX7_makeBarriers 63 = .ok (.return_, 1) := by decide +kernel
theorem dX7_occupied_0 : decode cX7_occupied 0 = .ok (.iconst 0, 1) := by decide +kernel
theorem dX7_occupied_1 : decode cX7_occupied 1 = .ok (.istore 4, 2) := by decide +kernel
theorem dX7_occupied_3 : decode cX7_occupied 3 = .ok (.iload 4, 2) := by decide +kernel
theorem dX7_occupied_5 : decode cX7_occupied 5 = .ok (.iload_n 1, 1) := by decide +kernel
theorem dX7_occupied_6 : decode cX7_occupied 6 = .ok (.if_icmp .ge 33, 3) := by decide +kernel
theorem dX7_occupied_9 : decode cX7_occupied 9 = .ok (.aload_n 0, 1) := by decide +kernel
theorem dX7_occupied_10 : decode cX7_occupied 10 = .ok (.getfield 22, 3) := by decide +kernel
theorem dX7_occupied_13 : decode cX7_occupied 13 = .ok (.iload 4, 2) := by decide +kernel
theorem dX7_occupied_15 : decode cX7_occupied 15 = .ok (.iaload, 1) := by decide +kernel
theorem dX7_occupied_16 : decode cX7_occupied 16 = .ok (.iload_n 2, 1) := by decide +kernel
theorem dX7_occupied_17 : decode cX7_occupied 17 = .ok (.if_icmp .ne 16, 3) := by decide +kernel
theorem dX7_occupied_20 : decode cX7_occupied 20 = .ok (.aload_n 0, 1) := by decide +kernel
theorem dX7_occupied_21 : decode cX7_occupied 21 = .ok (.getfield 25, 3) := by decide +kernel
theorem dX7_occupied_24 : decode cX7_occupied 24 = .ok (.iload 4, 2) := by decide +kernel
theorem dX7_occupied_26 : decode cX7_occupied 26 = .ok (.iaload, 1) := by decide +kernel
theorem dX7_occupied_27 : decode cX7_occupied 27 = .ok (.iload_n 3, 1) := by decide +kernel
theorem dX7_occupied_28 : decode cX7_occupied 28 = .ok (.if_icmp .ne 5, 3) := by decide +kernel
theorem dX7_occupied_31 : decode cX7_occupied 31 = .ok (.iconst 1, 1) := by decide +kernel
theorem dX7_occupied_32 : decode cX7_occupied 32 = .ok (.ireturn, 1) := by decide +kernel
theorem dX7_occupied_33 : decode cX7_occupied 33 = .ok (.iinc 4 1, 3) := by decide +kernel
theorem dX7_occupied_36 : decode cX7_occupied 36 = .ok (.goto (-33), 3) := by decide +kernel
theorem dX7_occupied_39 : decode cX7_occupied 39 = .ok (.iconst 0, 1) := by decide +kernel
theorem dX7_occupied_40 : decode cX7_occupied 40 = .ok (.ireturn, 1) := by decide +kernel
set_option maxRecDepth 20000 in
theorem ggX7_makePlaces_X7_draw : GoodIn wsX7_makePlaces wsX7_draw := goodIn_r _ [9, 10, 11, 12, 17, 18, 19, 20, 21, 22, 23, 24, 25, 26, 27, 28, 29, 30, 31, 32, 33, 34] (by decide +kernel) (by decide +kernel)
set_option maxRecDepth 20000 in
theorem gX7_makePlaces_X7_draw : GoodIn wsX7_makePlaces (wsV RX7 60 RX7 yX7_draw wsX7_draw) := goodIn_app (goodIn_of _ (by decide +kernel)) ggX7_makePlaces_X7_draw
set_option maxRecDepth 20000 in
theorem ggX7_makePlaces_X7_occupied : GoodIn wsX7_makePlaces wsX7_occupied := goodIn_r _ [16, 2, 4, 17, 18, 19, 20, 21, 22, 23, 24, 25, 26, 27, 28, 29, 30, 31, 32, 33, 34] (by decide +kernel) (by decide +kernel)
set_option maxRecDepth 20000 in
theorem gX7_makePlaces_X7_occupied : GoodIn wsX7_makePlaces (wsV RX7 79 RX7 yX7_occupied wsX7_occupied) := goodIn_app (goodIn_of _ (by decide +kernel)) ggX7_makePlaces_X7_occupied
theorem dX7_makePlaces_0 : decode cX7_makePlaces 0 = .ok (.iconst 1, 1) := by decide +kernel
theorem dX7_makePlaces_1 : decode cX7_makePlaces 1 = .ok (.istore_n 1, 1) := by decide +kernel
theorem dX7_makePlaces_2 : decode cX7_makePlaces 2 = .ok (.iload_n 1, 1) := by decide +kernel
theorem dX7_makePlaces_3 : decode cX7_makePlaces 3 = .ok (.aload_n 0, 1) := by decide +kernel
theorem dX7_makePlaces_4 : decode cX7_makePlaces 4 = .ok (.getfield 56, 3) := by decide +kernel
theorem dX7_makePlaces_7 : decode cX7_makePlaces 7 = .ok (.if_icmp .ge 120, 3) := by decide +kernel
theorem dX7_makePlaces_10 : decode cX7_makePlaces 10 = .ok (.aload_n 0, 1) := by decide +kernel
theorem dX7_makePlaces_11 : decode cX7_makePlaces 11 = .ok (.iconst 4, 1) := by decide +kernel
theorem dX7_makePlaces_12 : decode cX7_makePlaces 12 = .ok (.invokevirtual 60, 3) := by decide +kernel
theorem dX7_makePlaces_15 : decode cX7_makePlaces 15 = .ok (.istore_n 2, 1) := by decide +kernel
theorem dX7_makePlaces_16 : decode cX7_makePlaces 16 = .ok (.aload_n 0, 1) := by decide +kernel
theorem dX7_makePlaces_17 : decode cX7_makePlaces 17 = .ok (.getfield 22, 3) := by decide +kernel
theorem dX7_makePlaces_20 : decode cX7_makePlaces 20 = .ok (.aload_n 0, 1) := by decide +kernel
theorem dX7_makePlaces_21 : decode cX7_makePlaces 21 = .ok (.getfield 7, 3) := by decide +kernel
theorem dX7_makePlaces_24 : decode cX7_makePlaces 24 = .ok (.iload_n 1, 1) := by decide +kernel
theorem dX7_makePlaces_25 : decode cX7_makePlaces 25 = .ok (.iaload, 1) := by decide +kernel
theorem dX7_makePlaces_26 : decode cX7_makePlaces 26 = .ok (.iaload, 1) := by decide +kernel
theorem dX7_makePlaces_27 : decode cX7_makePlaces 27 = .ok (.istore_n 3, 1) := by decide +kernel
theorem dX7_makePlaces_28 : decode cX7_makePlaces 28 = .ok (.aload_n 0, 1) := by decide +kernel
theorem dX7_makePlaces_29 : decode cX7_makePlaces 29 = .ok (.getfield 25, 3) := by decide +kernel
theorem dX7_makePlaces_32 : decode cX7_makePlaces 32 = .ok (.aload_n 0, 1) := by decide +kernel
theorem dX7_makePlaces_33 : decode cX7_makePlaces 33 = .ok (.getfield 7, 3) := by decide +kernel
theorem dX7_makePlaces_36 : decode cX7_makePlaces 36 = .ok (.iload_n 1, 1) := by decide +kernel
theorem dX7_makePlaces_37 : decode cX7_makePlaces 37 = .ok (.iaload, 1) := by decide +kernel
theorem dX7_makePlaces_38 : decode cX7_makePlaces 38 = .ok (.iaload, 1) := by decide +kernel
theorem dX7_makePlaces_39 : decode cX7_makePlaces 39 = .ok (.istore 4, 2) := by decide +kernel
theorem dX7_makePlaces_41 : decode cX7_makePlaces 41 = .ok (.aload_n 0, 1) := by decide +kernel
theorem dX7_makePlaces_42 : decode cX7_makePlaces 42 = .ok (.iload_n 1, 1) := by decide +kernel
theorem dX7_makePlaces_43 : decode cX7_makePlaces 43 = .ok (.iload_n 3, 1) := by decide +kernel
theorem dX7_makePlaces_44 : decode cX7_makePlaces 44 = .ok (.iload 4, 2) := by decide +kernel
theorem dX7_makePlaces_46 : decode cX7_makePlaces 46 = .ok (.invokevirtual 79, 3) := by decide +kernel
theorem dX7_makePlaces_49 : decode cX7_makePlaces 49 = .ok (.ifCond .eq 57, 3) := by decide +kernel
theorem dX7_makePlaces_52 : decode cX7_makePlaces 52 = .ok (.iload_n 2, 1) := by decide +kernel
theorem dX7_makePlaces_53 : decode cX7_makePlaces 53 = .ok (.ifCond .ne 9, 3) := by decide +kernel
theorem dX7_makePlaces_56 : decode cX7_makePlaces 56 = .ok (.iload_n 3, 1) := by decide +kernel
theorem dX7_makePlaces_57 : decode cX7_makePlaces 57 = .ok (.iconst 1, 1) := by decide +kernel
theorem dX7_makePlaces_58 : decode cX7_makePlaces 58 = .ok (.iadd, 1) := by decide +kernel
theorem dX7_makePlaces_59 : decode cX7_makePlaces 59 = .ok (.goto 15, 3) := by decide +kernel
theorem dX7_makePlaces_62 : decode cX7_makePlaces 62 = .ok (.iload_n 2, 1) := by decide +kernel
theorem dX7_makePlaces_63 : decode cX7_makePlaces 63 = .ok (.iconst 2, 1) := by decide +kernel
theorem dX7_makePlaces_64 : decode cX7_makePlaces 64 = .ok (.if_icmp .ne 9, 3) := by decide +kernel
theorem dX7_makePlaces_67 : decode cX7_makePlaces 67 = .ok (.iload_n 3, 1) := by decide +kernel
theorem dX7_makePlaces_68 : decode cX7_makePlaces 68 = .ok (.iconst 1, 1) := by decide +kernel
theorem dX7_makePlaces_69 : decode cX7_makePlaces 69 = .ok (.isub, 1) := by decide +kernel
theorem dX7_makePlaces_70 : decode cX7_makePlaces 70 = .ok (.goto 4, 3) := by decide +kernel
theorem dX7_makePlaces_73 : decode cX7_makePlaces 73 = .ok (.iload_n 3, 1) := by decide +kernel
theorem dX7_makePlaces_74 : decode cX7_makePlaces 74 = .ok (.istore_n 3, 1) := by decide +kernel
theorem dX7_makePlaces_75 : decode cX7_makePlaces 75 = .ok (.iload_n 2, 1) := by decide +kernel
theorem dX7_makePlaces_76 : decode cX7_makePlaces 76 = .ok (.iconst 1, 1) := by decide +kernel
theorem dX7_makePlaces_77 : decode cX7_makePlaces 77 = .ok (.if_icmp .ne 10, 3) := by decide +kernel
theorem dX7_makePlaces_80 : decode cX7_makePlaces 80 = .ok (.iload 4, 2) := by decide +kernel
theorem dX7_makePlaces_82 : decode cX7_makePlaces 82 = .ok (.iconst 1, 1) := by decide +kernel
theorem dX7_makePlaces_83 : decode cX7_makePlaces 83 = .ok (.iadd, 1) := by decide +kernel
theorem dX7_makePlaces_84 : decode cX7_makePlaces 84 = .ok (.goto 17, 3) := by decide +kernel
theorem dX7_makePlaces_87 : decode cX7_makePlaces 87 = .ok (.iload_n 2, 1) := by decide +kernel
theorem dX7_makePlaces_88 : decode cX7_makePlaces 88 = .ok (.iconst 3, 1) := by decide +kernel
theorem dX7_makePlaces_89 : decode cX7_makePlaces 89 = .ok (.if_icmp .ne 10, 3) := by decide +kernel
theorem dX7_makePlaces_92 : decode cX7_makePlaces 92 = .ok (.iload 4, 2) := by decide +kernel
theorem dX7_makePlaces_94 : decode cX7_makePlaces 94 = .ok (.iconst 1, 1) := by decide +kernel
theorem dX7_makePlaces_95 : decode cX7_makePlaces 95 = .ok (.isub, 1) := by decide +kernel
theorem dX7_makePlaces_96 : decode cX7_makePlaces 96 = .ok (.goto 5, 3) := by decide +kernel
theorem dX7_makePlaces_99 : decode cX7_makePlaces 99 = .ok (.iload 4, 2) := by decide +kernel
theorem dX7_makePlaces_101 : decode cX7_makePlaces 101 = .ok (.istore 4, 2) := by decide +kernel
theorem dX7_makePlaces_103 : decode cX7_makePlaces 103 = .ok (.goto (-62), 3) := by decide +kernel
theorem dX7_makePlaces_106 : decode cX7_makePlaces 106 = .ok (.aload_n 0, 1) := by decide +kernel
theorem dX7_makePlaces_107 : decode cX7_makePlaces 107 = .ok (.getfield 22, 3) := by decide +kernel
theorem dX7_makePlaces_110 : decode cX7_makePlaces 110 = .ok (.iload_n 1, 1) := by decide +kernel
theorem dX7_makePlaces_111 : decode cX7_makePlaces 111 = .ok (.iload_n 3, 1) := by decide +kernel
theorem dX7_makePlaces_112 : decode cX7_makePlaces 112 = .ok (.iastore, 1) := by decide +kernel
theorem dX7_makePlaces_113 : decode cX7_makePlaces 113 = .ok (.aload_n 0, 1) := by decide +kernel
theorem dX7_makePlaces_114 : decode cX7_makePlaces 114 = .ok (.getfield 25, 3) := by decide +kernel
theorem dX7_makePlaces_117 : decode cX7_makePlaces 117 = .ok (.iload_n 1, 1) := by decide +kernel
theorem dX7_makePlaces_118 : decode cX7_makePlaces 118 = .ok (.iload 4, 2) := by decide +kernel
theorem dX7_makePlaces_120 : decode cX7_makePlaces 120 = .ok (.iastore, 1) := by decide +kernel
theorem dX7_makePlaces_121 : decode cX7_makePlaces 121 = .ok (.iinc 1 1, 3) := by decide +kernel
theorem dX7_makePlaces_124 : decode cX7_makePlaces 124 = .ok (.goto (-122), 3) := by decide +kernel
theorem dX7_makePlaces_127 : decode cX7_makePlaces 127 = .ok (.return_, 1) := by decide +kernel
set_option maxRecDepth 20000 in
theorem ggX7_makeLoops_X7_draw : GoodIn wsX7_makeLoops wsX7_draw := goodIn_r _ [11, 12, 13, 14, 15, 16, 17, 18, 19, 20, 21, 22, 23, 24, 25, 26, 27, 28, 29, 30, 31, 32] (by decide +kernel) (by decide +kernel)
set_option maxRecDepth 20000 in
theorem gX7_makeLoops_X7_draw : GoodIn wsX7_makeLoops (wsV RX7 60 RX7 yX7_draw wsX7_draw) := goodIn_app (goodIn_of _ (by decide +kernel)) ggX7_makeLoops_X7_draw
theorem dX7_makeLoops_0 : decode cX7_makeLoops 0 = .ok (.iconst 0, 1) := by decide +kernel
theorem dX7_makeLoops_1 : decode cX7_makeLoops 1 = .ok (.istore_n 1, 1) := by decide +kernel
theorem dX7_makeLoops_2 : decode cX7_makeLoops 2 = .ok (.iconst 1, 1) := by decide +kernel
theorem dX7_makeLoops_3 : decode cX7_makeLoops 3 = .ok (.istore_n 2, 1) := by decide +kernel
theorem dX7_makeLoops_4 : decode cX7_makeLoops 4 = .ok (.iload_n 2, 1) := by decide +kernel
theorem dX7_makeLoops_5 : decode cX7_makeLoops 5 = .ok (.aload_n 0, 1) := by decide +kernel
theorem dX7_makeLoops_6 : decode cX7_makeLoops 6 = .ok (.getfield 56, 3) := by decide +kernel
theorem dX7_makeLoops_9 : decode cX7_makeLoops 9 = .ok (.if_icmp .ge 205, 3) := by decide +kernel
theorem dX7_makeLoops_12 : decode cX7_makeLoops 12 = .ok (.iconst 0, 1) := by decide +kernel
theorem dX7_makeLoops_13 : decode cX7_makeLoops 13 = .ok (.istore_n 3, 1) := by decide +kernel
theorem dX7_makeLoops_14 : decode cX7_makeLoops 14 = .ok (.iload_n 3, 1) := by decide +kernel
theorem dX7_makeLoops_15 : decode cX7_makeLoops 15 = .ok (.iload_n 2, 1) := by decide +kernel
theorem dX7_makeLoops_16 : decode cX7_makeLoops 16 = .ok (.if_icmp .ge 192, 3) := by decide +kernel
theorem dX7_makeLoops_19 : decode cX7_makeLoops 19 = .ok (.aload_n 0, 1) := by decide +kernel
theorem dX7_makeLoops_20 : decode cX7_makeLoops 20 = .ok (.getfield 22, 3) := by decide +kernel
theorem dX7_makeLoops_23 : decode cX7_makeLoops 23 = .ok (.iload_n 2, 1) := by decide +kernel
theorem dX7_makeLoops_24 : decode cX7_makeLoops 24 = .ok (.iaload, 1) := by decide +kernel
theorem dX7_makeLoops_25 : decode cX7_makeLoops 25 = .ok (.aload_n 0, 1) := by decide +kernel
theorem dX7_makeLoops_26 : decode cX7_makeLoops 26 = .ok (.getfield 22, 3) := by decide +kernel
theorem dX7_makeLoops_29 : decode cX7_makeLoops 29 = .ok (.iload_n 3, 1) := by decide +kernel
theorem dX7_makeLoops_30 : decode cX7_makeLoops 30 = .ok (.iaload, 1) := by decide +kernel
theorem dX7_makeLoops_31 : decode cX7_makeLoops 31 = .ok (.if_icmp .le 19, 3) := by decide +kernel
theorem dX7_makeLoops_34 : decode cX7_makeLoops 34 = .ok (.aload_n 0, 1) := by decide +kernel
theorem dX7_makeLoops_35 : decode cX7_makeLoops 35 = .ok (.getfield 22, 3) := by decide +kernel
theorem dX7_makeLoops_38 : decode cX7_makeLoops 38 = .ok (.iload_n 2, 1) := by decide +kernel
theorem dX7_makeLoops_39 : decode cX7_makeLoops 39 = .ok (.iaload, 1) := by decide +kernel
theorem dX7_makeLoops_40 : decode cX7_makeLoops 40 = .ok (.aload_n 0, 1) := by decide +kernel
theorem dX7_makeLoops_41 : decode cX7_makeLoops 41 = .ok (.getfield 22, 3) := by decide +kernel
theorem dX7_makeLoops_44 : decode cX7_makeLoops 44 = .ok (.iload_n 3, 1) := by decide +kernel
theorem dX7_makeLoops_45 : decode cX7_makeLoops 45 = .ok (.iaload, 1) := by decide +kernel
theorem dX7_makeLoops_46 : decode cX7_makeLoops 46 = .ok (.isub, 1) := by decide +kernel
theorem dX7_makeLoops_47 : decode cX7_makeLoops 47 = .ok (.goto 16, 3) := by decide +kernel
theorem dX7_makeLoops_50 : decode cX7_makeLoops 50 = .ok (.aload_n 0, 1) := by decide +kernel
theorem dX7_makeLoops_51 : decode cX7_makeLoops 51 = .ok (.getfield 22, 3) := by decide +kernel
theorem dX7_makeLoops_54 : decode cX7_makeLoops 54 = .ok (.iload_n 3, 1) := by decide +kernel
theorem dX7_makeLoops_55 : decode cX7_makeLoops 55 = .ok (.iaload, 1) := by decide +kernel
theorem dX7_makeLoops_56 : decode cX7_makeLoops 56 = .ok (.aload_n 0, 1) := by decide +kernel
theorem dX7_makeLoops_57 : decode cX7_makeLoops 57 = .ok (.getfield 22, 3) := by decide +kernel
theorem dX7_makeLoops_60 : decode cX7_makeLoops 60 = .ok (.iload_n 2, 1) := by decide +kernel
theorem dX7_makeLoops_61 : decode cX7_makeLoops 61 = .ok (.iaload, 1) := by decide +kernel
theorem dX7_makeLoops_62 : decode cX7_makeLoops 62 = .ok (.isub, 1) := by decide +kernel
theorem dX7_makeLoops_63 : decode cX7_makeLoops 63 = .ok (.istore 4, 2) := by decide +kernel
theorem dX7_makeLoops_65 : decode cX7_makeLoops 65 = .ok (.aload_n 0, 1) := by decide +kernel
theorem dX7_makeLoops_66 : decode cX7_makeLoops 66 = .ok (.getfield 25, 3) := by decide +kernel
theorem dX7_makeLoops_69 : decode cX7_makeLoops 69 = .ok (.iload_n 2, 1) := by decide +kernel
theorem dX7_makeLoops_70 : decode cX7_makeLoops 70 = .ok (.iaload, 1) := by decide +kernel
theorem dX7_makeLoops_71 : decode cX7_makeLoops 71 = .ok (.aload_n 0, 1) := by decide +kernel
theorem dX7_makeLoops_72 : decode cX7_makeLoops 72 = .ok (.getfield 25, 3) := by decide +kernel
theorem dX7_makeLoops_75 : decode cX7_makeLoops 75 = .ok (.iload_n 3, 1) := by decide +kernel
theorem dX7_makeLoops_76 : decode cX7_makeLoops 76 = .ok (.iaload, 1) := by decide +kernel
theorem dX7_makeLoops_77 : decode cX7_makeLoops 77 = .ok (.if_icmp .le 19, 3) := by decide +kernel
theorem dX7_makeLoops_80 : decode cX7_makeLoops 80 = .ok (.aload_n 0, 1) := by decide +kernel
theorem dX7_makeLoops_81 : decode cX7_makeLoops 81 = .ok (.getfield 25, 3) := by decide +kernel
theorem dX7_makeLoops_84 : decode cX7_makeLoops 84 = .ok (.iload_n 2, 1) := by decide +kernel
theorem dX7_makeLoops_85 : decode cX7_makeLoops 85 = .ok (.iaload, 1) := by decide +kernel
theorem dX7_makeLoops_86 : decode cX7_makeLoops 86 = .ok (.aload_n 0, 1) := by decide +kernel
theorem dX7_makeLoops_87 : decode cX7_makeLoops 87 = .ok (.getfield 25, 3) := by decide +kernel
theorem dX7_makeLoops_90 : decode cX7_makeLoops 90 = .ok (.iload_n 3, 1) := by decide +kernel
theorem dX7_makeLoops_91 : decode cX7_makeLoops 91 = .ok (.iaload, 1) := by decide +kernel
theorem dX7_makeLoops_92 : decode cX7_makeLoops 92 = .ok (.isub, 1) := by decide +kernel
theorem dX7_makeLoops_93 : decode cX7_makeLoops 93 = .ok (.goto 16, 3) := by decide +kernel
theorem dX7_makeLoops_96 : decode cX7_makeLoops 96 = .ok (.aload_n 0, 1) := by decide +kernel
theorem dX7_makeLoops_97 : decode cX7_makeLoops 97 = .ok (.getfield 25, 3) := by decide +kernel
theorem dX7_makeLoops_100 : decode cX7_makeLoops 100 = .ok (.iload_n 3, 1) := by decide +kernel
theorem dX7_makeLoops_101 : decode cX7_makeLoops 101 = .ok (.iaload, 1) := by decide +kernel
theorem dX7_makeLoops_102 : decode cX7_makeLoops 102 = .ok (.aload_n 0, 1) := by decide +kernel
theorem dX7_makeLoops_103 : decode cX7_makeLoops 103 = .ok (.getfield 25, 3) := by decide +kernel
theorem dX7_makeLoops_106 : decode cX7_makeLoops 106 = .ok (.iload_n 2, 1) := by decide +kernel
theorem dX7_makeLoops_107 : decode cX7_makeLoops 107 = .ok (.iaload, 1) := by decide +kernel
theorem dX7_makeLoops_108 : decode cX7_makeLoops 108 = .ok (.isub, 1) := by decide +kernel
theorem dX7_makeLoops_109 : decode cX7_makeLoops 109 = .ok (.istore 5, 2) := by decide +kernel
theorem dX7_makeLoops_111 : decode cX7_makeLoops 111 = .ok (.iload 4, 2) := by decide +kernel
theorem dX7_makeLoops_113 : decode cX7_makeLoops 113 = .ok (.iload 5, 2) := by decide +kernel
theorem dX7_makeLoops_115 : decode cX7_makeLoops 115 = .ok (.iadd, 1) := by decide +kernel
theorem dX7_makeLoops_116 : decode cX7_makeLoops 116 = .ok (.iconst 1, 1) := by decide +kernel
theorem dX7_makeLoops_117 : decode cX7_makeLoops 117 = .ok (.if_icmp .ne 42, 3) := by decide +kernel
theorem dX7_makeLoops_120 : decode cX7_makeLoops 120 = .ok (.aload_n 0, 1) := by decide +kernel
theorem dX7_makeLoops_121 : decode cX7_makeLoops 121 = .ok (.getfield 13, 3) := by decide +kernel
theorem dX7_makeLoops_124 : decode cX7_makeLoops 124 = .ok (.iload_n 2, 1) := by decide +kernel
theorem dX7_makeLoops_125 : decode cX7_makeLoops 125 = .ok (.iaload, 1) := by decide +kernel
theorem dX7_makeLoops_126 : decode cX7_makeLoops 126 = .ok (.aload_n 0, 1) := by decide +kernel
theorem dX7_makeLoops_127 : decode cX7_makeLoops 127 = .ok (.getfield 13, 3) := by decide +kernel
theorem dX7_makeLoops_130 : decode cX7_makeLoops 130 = .ok (.iload_n 3, 1) := by decide +kernel
theorem dX7_makeLoops_131 : decode cX7_makeLoops 131 = .ok (.iaload, 1) := by decide +kernel
theorem dX7_makeLoops_132 : decode cX7_makeLoops 132 = .ok (.if_icmp .ne 27, 3) := by decide +kernel
theorem dX7_makeLoops_135 : decode cX7_makeLoops 135 = .ok (.aload_n 0, 1) := by decide +kernel
theorem dX7_makeLoops_136 : decode cX7_makeLoops 136 = .ok (.getfield 7, 3) := by decide +kernel
theorem dX7_makeLoops_139 : decode cX7_makeLoops 139 = .ok (.iload_n 2, 1) := by decide +kernel
theorem dX7_makeLoops_140 : decode cX7_makeLoops 140 = .ok (.iaload, 1) := by decide +kernel
theorem dX7_makeLoops_141 : decode cX7_makeLoops 141 = .ok (.iload_n 3, 1) := by decide +kernel
theorem dX7_makeLoops_142 : decode cX7_makeLoops 142 = .ok (.if_icmp .eq 17, 3) := by decide +kernel
theorem dX7_makeLoops_145 : decode cX7_makeLoops 145 = .ok (.aload_n 0, 1) := by decide +kernel
theorem dX7_makeLoops_146 : decode cX7_makeLoops 146 = .ok (.getfield 7, 3) := by decide +kernel
theorem dX7_makeLoops_149 : decode cX7_makeLoops 149 = .ok (.iload_n 3, 1) := by decide +kernel
theorem dX7_makeLoops_150 : decode cX7_makeLoops 150 = .ok (.iaload, 1) := by decide +kernel
theorem dX7_makeLoops_151 : decode cX7_makeLoops 151 = .ok (.iload_n 2, 1) := by decide +kernel
theorem dX7_makeLoops_152 : decode cX7_makeLoops 152 = .ok (.if_icmp .eq 7, 3) := by decide +kernel
theorem dX7_makeLoops_155 : decode cX7_makeLoops 155 = .ok (.iconst 1, 1) := by decide +kernel
theorem dX7_makeLoops_156 : decode cX7_makeLoops 156 = .ok (.goto 4, 3) := by decide +kernel
theorem dX7_makeLoops_159 : decode cX7_makeLoops 159 = .ok (.iconst 0, 1) := by decide +kernel
theorem dX7_makeLoops_160 : decode cX7_makeLoops 160 = .ok (.istore 6, 2) := by decide +kernel
theorem dX7_makeLoops_162 : decode cX7_makeLoops 162 = .ok (.iload 6, 2) := by decide +kernel
theorem dX7_makeLoops_164 : decode cX7_makeLoops 164 = .ok (.ifCond .eq 38, 3) := by decide +kernel
theorem dX7_makeLoops_167 : decode cX7_makeLoops 167 = .ok (.aload_n 0, 1) := by decide +kernel
theorem dX7_makeLoops_168 : decode cX7_makeLoops 168 = .ok (.iconst 3, 1) := by decide +kernel
theorem dX7_makeLoops_169 : decode cX7_makeLoops 169 = .ok (.invokevirtual 60, 3) := by decide +kernel
theorem dX7_makeLoops_172 : decode cX7_makeLoops 172 = .ok (.ifCond .ne 30, 3) := by decide +kernel
theorem dX7_makeLoops_175 : decode cX7_makeLoops 175 = .ok (.aload_n 0, 1) := by decide +kernel
theorem dX7_makeLoops_176 : decode cX7_makeLoops 176 = .ok (.getfield 35, 3) := by decide +kernel
theorem dX7_makeLoops_179 : decode cX7_makeLoops 179 = .ok (.bipush 12, 2) := by decide +kernel
theorem dX7_makeLoops_181 : decode cX7_makeLoops 181 = .ok (.iload_n 2, 1) := by decide +kernel
theorem dX7_makeLoops_182 : decode cX7_makeLoops 182 = .ok (.imul, 1) := by decide +kernel
theorem dX7_makeLoops_183 : decode cX7_makeLoops 183 = .ok (.iload_n 3, 1) := by decide +kernel
theorem dX7_makeLoops_184 : decode cX7_makeLoops 184 = .ok (.iadd, 1) := by decide +kernel
theorem dX7_makeLoops_185 : decode cX7_makeLoops 185 = .ok (.iconst 1, 1) := by decide +kernel
theorem dX7_makeLoops_186 : decode cX7_makeLoops 186 = .ok (.bastore, 1) := by decide +kernel
theorem dX7_makeLoops_187 : decode cX7_makeLoops 187 = .ok (.aload_n 0, 1) := by decide +kernel
theorem dX7_makeLoops_188 : decode cX7_makeLoops 188 = .ok (.getfield 35, 3) := by decide +kernel
theorem dX7_makeLoops_191 : decode cX7_makeLoops 191 = .ok (.bipush 12, 2) := by decide +kernel
theorem dX7_makeLoops_193 : decode cX7_makeLoops 193 = .ok (.iload_n 3, 1) := by decide +kernel
theorem dX7_makeLoops_194 : decode cX7_makeLoops 194 = .ok (.imul, 1) := by decide +kernel
theorem dX7_makeLoops_195 : decode cX7_makeLoops 195 = .ok (.iload_n 2, 1) := by decide +kernel
theorem dX7_makeLoops_196 : decode cX7_makeLoops 196 = .ok (.iadd, 1) := by decide +kernel
theorem dX7_makeLoops_197 : decode cX7_makeLoops 197 = .ok (.iconst 1, 1) := by decide +kernel
theorem dX7_makeLoops_198 : decode cX7_makeLoops 198 = .ok (.bastore, 1) := by decide +kernel
theorem dX7_makeLoops_199 : decode cX7_makeLoops 199 = .ok (.iinc 1 1, 3) := by decide +kernel
theorem dX7_makeLoops_202 : decode cX7_makeLoops 202 = .ok (.iinc 3 1, 3) := by decide +kernel
theorem dX7_makeLoops_205 : decode cX7_makeLoops 205 = .ok (.goto (-191), 3) := by decide +kernel
theorem dX7_makeLoops_208 : decode cX7_makeLoops 208 = .ok (.iinc 2 1, 3) := by decide +kernel
theorem dX7_makeLoops_211 : decode cX7_makeLoops 211 = .ok (.goto (-207), 3) := by decide +kernel
theorem dX7_makeLoops_214 : decode cX7_makeLoops 214 = .ok (.iload_n 1, 1) := by decide +kernel
theorem dX7_makeLoops_215 : decode cX7_makeLoops 215 = .ok (.ireturn, 1) := by decide +kernel
theorem dX7_clear_0 : decode cX7_clear 0 = .ok (.iconst 0, 1) := by decide +kernel
theorem dX7_clear_1 : decode cX7_clear 1 = .ok (.istore_n 1, 1) := by decide +kernel
theorem dX7_clear_2 : decode cX7_clear 2 = .ok (.iload_n 1, 1) := by decide +kernel
theorem dX7_clear_3 : decode cX7_clear 3 = .ok (.bipush 12, 2) := by decide +kernel
theorem dX7_clear_5 : decode cX7_clear 5 = .ok (.if_icmp .ge 84, 3) := by decide +kernel
theorem dX7_clear_8 : decode cX7_clear 8 = .ok (.aload_n 0, 1) := by decide +kernel
theorem dX7_clear_9 : decode cX7_clear 9 = .ok (.getfield 7, 3) := by decide +kernel
theorem dX7_clear_12 : decode cX7_clear 12 = .ok (.iload_n 1, 1) := by decide +kernel
theorem dX7_clear_13 : decode cX7_clear 13 = .ok (.iconst (-1), 1) := by decide +kernel
theorem dX7_clear_14 : decode cX7_clear 14 = .ok (.iastore, 1) := by decide +kernel
theorem dX7_clear_15 : decode cX7_clear 15 = .ok (.aload_n 0, 1) := by decide +kernel
theorem dX7_clear_16 : decode cX7_clear 16 = .ok (.getfield 13, 3) := by decide +kernel
theorem dX7_clear_19 : decode cX7_clear 19 = .ok (.iload_n 1, 1) := by decide +kernel
theorem dX7_clear_20 : decode cX7_clear 20 = .ok (.iconst 0, 1) := by decide +kernel
theorem dX7_clear_21 : decode cX7_clear 21 = .ok (.iastore, 1) := by decide +kernel
theorem dX7_clear_22 : decode cX7_clear 22 = .ok (.aload_n 0, 1) := by decide +kernel
theorem dX7_clear_23 : decode cX7_clear 23 = .ok (.getfield 16, 3) := by decide +kernel
theorem dX7_clear_26 : decode cX7_clear 26 = .ok (.iload_n 1, 1) := by decide +kernel
theorem dX7_clear_27 : decode cX7_clear 27 = .ok (.iconst 0, 1) := by decide +kernel
theorem dX7_clear_28 : decode cX7_clear 28 = .ok (.iastore, 1) := by decide +kernel
theorem dX7_clear_29 : decode cX7_clear 29 = .ok (.aload_n 0, 1) := by decide +kernel
theorem dX7_clear_30 : decode cX7_clear 30 = .ok (.getfield 22, 3) := by decide +kernel
theorem dX7_clear_33 : decode cX7_clear 33 = .ok (.iload_n 1, 1) := by decide +kernel
theorem dX7_clear_34 : decode cX7_clear 34 = .ok (.iconst 0, 1) := by decide +kernel
theorem dX7_clear_35 : decode cX7_clear 35 = .ok (.iastore, 1) := by decide +kernel
theorem dX7_clear_36 : decode cX7_clear 36 = .ok (.aload_n 0, 1) := by decide +kernel
theorem dX7_clear_37 : decode cX7_clear 37 = .ok (.getfield 25, 3) := by decide +kernel
theorem dX7_clear_40 : decode cX7_clear 40 = .ok (.iload_n 1, 1) := by decide +kernel
theorem dX7_clear_41 : decode cX7_clear 41 = .ok (.iconst 0, 1) := by decide +kernel
theorem dX7_clear_42 : decode cX7_clear 42 = .ok (.iastore, 1) := by decide +kernel
theorem dX7_clear_43 : decode cX7_clear 43 = .ok (.aload_n 0, 1) := by decide +kernel
theorem dX7_clear_44 : decode cX7_clear 44 = .ok (.getfield 28, 3) := by decide +kernel
theorem dX7_clear_47 : decode cX7_clear 47 = .ok (.iload_n 1, 1) := by decide +kernel
theorem dX7_clear_48 : decode cX7_clear 48 = .ok (.iconst 0, 1) := by decide +kernel
theorem dX7_clear_49 : decode cX7_clear 49 = .ok (.iastore, 1) := by decide +kernel
theorem dX7_clear_50 : decode cX7_clear 50 = .ok (.aload_n 0, 1) := by decide +kernel
theorem dX7_clear_51 : decode cX7_clear 51 = .ok (.getfield 31, 3) := by decide +kernel
theorem dX7_clear_54 : decode cX7_clear 54 = .ok (.iload_n 1, 1) := by decide +kernel
theorem dX7_clear_55 : decode cX7_clear 55 = .ok (.iconst 0, 1) := by decide +kernel
theorem dX7_clear_56 : decode cX7_clear 56 = .ok (.bastore, 1) := by decide +kernel
theorem dX7_clear_57 : decode cX7_clear 57 = .ok (.iconst 0, 1) := by decide +kernel
theorem dX7_clear_58 : decode cX7_clear 58 = .ok (.istore_n 2, 1) := by decide +kernel
theorem dX7_clear_59 : decode cX7_clear 59 = .ok (.iload_n 2, 1) := by decide +kernel
theorem dX7_clear_60 : decode cX7_clear 60 = .ok (.bipush 12, 2) := by decide +kernel
theorem dX7_clear_62 : decode cX7_clear 62 = .ok (.if_icmp .ge 21, 3) := by decide +kernel
theorem dX7_clear_65 : decode cX7_clear 65 = .ok (.aload_n 0, 1) := by decide +kernel
theorem dX7_clear_66 : decode cX7_clear 66 = .ok (.getfield 35, 3) := by decide +kernel
theorem dX7_clear_69 : decode cX7_clear 69 = .ok (.bipush 12, 2) := by decide +kernel
theorem dX7_clear_71 : decode cX7_clear 71 = .ok (.iload_n 1, 1) := by decide +kernel
theorem dX7_clear_72 : decode cX7_clear 72 = .ok (.imul, 1) := by decide +kernel
theorem dX7_clear_73 : decode cX7_clear 73 = .ok (.iload_n 2, 1) := by decide +kernel
theorem dX7_clear_74 : decode cX7_clear 74 = .ok (.iadd, 1) := by decide +kernel
theorem dX7_clear_75 : decode cX7_clear 75 = .ok (.iconst 0, 1) := by decide +kernel
theorem dX7_clear_76 : decode cX7_clear 76 = .ok (.bastore, 1) := by decide +kernel
theorem dX7_clear_77 : decode cX7_clear 77 = .ok (.iinc 2 1, 3) := by decide +kernel
theorem dX7_clear_80 : decode cX7_clear 80 = .ok (.goto (-21), 3) := by decide +kernel
theorem dX7_clear_83 : decode cX7_clear 83 = .ok (.iinc 1 1, 3) := by decide +kernel
theorem dX7_clear_86 : decode cX7_clear 86 = .ok (.goto (-84), 3) := by decide +kernel
theorem dX7_clear_89 : decode cX7_clear 89 = .ok (.aload_n 0, 1) := by decide +kernel
theorem dX7_clear_90 : decode cX7_clear 90 = .ok (.iconst 0, 1) := by decide +kernel
theorem dX7_clear_91 : decode cX7_clear 91 = .ok (.putfield 72, 3) := by decide +kernel
theorem dX7_clear_94 : decode cX7_clear 94 = .ok (.aload_n 0, 1) := by decide +kernel
theorem dX7_clear_95 : decode cX7_clear 95 = .ok (.iconst 0, 1) := by decide +kernel
theorem dX7_clear_96 : decode cX7_clear 96 = .ok (.putfield 83, 3) := by decide +kernel
theorem dX7_clear_99 : decode cX7_clear 99 = .ok (.return_, 1) := by decide +kernel
set_option maxRecDepth 20000 in
theorem ggX7_make_X7_clear : GoodIn wsX7_make wsX7_clear := goodIn_r _ [10, 11, 4, 12, 13, 14, 15, 16, 17, 18, 19, 63, 64, 65, 66, 67, 68, 69, 70, 71, 72, 73, 74, 75, 76, 77, 78, 79, 80] (by decide +kernel) (by decide +kernel)
set_option maxRecDepth 20000 in
theorem gX7_make_X7_clear : GoodIn wsX7_make (wsV RX7 86 RX7 yX7_clear wsX7_clear) := goodIn_app (goodIn_of _ (by decide +kernel)) ggX7_make_X7_clear
set_option maxRecDepth 20000 in
theorem ggX7_make_X7_makeRooms : GoodIn wsX7_make wsX7_makeRooms := goodIn_r _ [23, 2, 3, 4, 11, 12, 24, 25, 26, 9, 27, 28, 29, 30, 31, 1, 32, 33, 63, 64, 65, 66, 67, 68, 69, 70, 71, 72, 73, 74, 75, 76, 77, 78, 79, 80] (by decide +kernel) (by decide +kernel)
set_option maxRecDepth 20000 in
theorem gX7_make_X7_makeRooms : GoodIn wsX7_make (wsV RX7 89 RX7 yX7_makeRooms wsX7_makeRooms) := goodIn_app (goodIn_of _ (by decide +kernel)) ggX7_make_X7_makeRooms
set_option maxRecDepth 20000 in
theorem ggX7_make_X7_makeKeys : GoodIn wsX7_make wsX7_makeKeys := goodIn_r _ [37, 2, 3, 4, 15, 12, 38, 18, 24, 25, 26, 9, 27, 28, 29, 30, 31, 1, 32, 33, 39, 40, 41, 42, 43, 44, 45, 46, 11, 63, 64, 65, 66, 67, 68, 69, 70, 71, 72, 73, 74, 75, 76, 77, 78, 79, 80] (by decide +kernel) (by decide +kernel)
set_option maxRecDepth 20000 in
theorem gX7_make_X7_makeKeys : GoodIn wsX7_make (wsV RX7 93 RX7 yX7_makeKeys wsX7_makeKeys) := goodIn_app (goodIn_of _ (by decide +kernel)) ggX7_make_X7_makeKeys
set_option maxRecDepth 20000 in
theorem ggX7_make_X7_makeBarriers : GoodIn wsX7_make wsX7_makeBarriers := goodIn_r _ [50, 12, 16, 11, 39, 40, 41, 9, 42, 2, 3, 24, 25, 26, 27, 28, 29, 30, 31, 1, 32, 33, 63, 64, 65, 66, 67, 68, 69, 70, 71, 72, 73, 74, 75, 76, 77, 78, 79, 80] (by decide +kernel) (by decide +kernel)
set_option maxRecDepth 20000 in
theorem gX7_make_X7_makeBarriers : GoodIn wsX7_make (wsV RX7 97 RX7 yX7_makeBarriers wsX7_makeBarriers) := goodIn_app (goodIn_of _ (by decide +kernel)) ggX7_make_X7_makeBarriers
set_option maxRecDepth 20000 in
theorem ggX7_make_X7_drawn : GoodIn wsX7_make wsX7_drawn := goodIn_r _ [27, 2, 3, 28, 29, 30, 9, 31, 1, 32, 33, 63, 64, 65, 66, 67, 68, 69, 70, 71, 72, 73, 74, 75, 76, 77, 78, 79, 80] (by decide +kernel) (by decide +kernel)
set_option maxRecDepth 20000 in
theorem gX7_make_X7_drawn : GoodIn wsX7_make (wsV RX7 64 RX7 yX7_drawn wsX7_drawn) := goodIn_app (goodIn_of _ (by decide +kernel)) ggX7_make_X7_drawn
set_option maxRecDepth 20000 in
theorem ggX7_make_X7_makePlaces : GoodIn wsX7_make wsX7_makePlaces := goodIn_r _ [54, 2, 13, 11, 14, 28, 29, 30, 9, 31, 1, 32, 33, 55, 56, 57, 58, 63, 64, 65, 66, 67, 68, 69, 70, 71, 72, 73, 74, 75, 76, 77, 78, 79, 80] (by decide +kernel) (by decide +kernel)
set_option maxRecDepth 20000 in
theorem gX7_make_X7_makePlaces : GoodIn wsX7_make (wsV RX7 103 RX7 yX7_makePlaces wsX7_makePlaces) := goodIn_app (goodIn_of _ (by decide +kernel)) ggX7_make_X7_makePlaces
set_option maxRecDepth 20000 in
theorem ggX7_make_X7_makeLoops : GoodIn wsX7_make wsX7_makeLoops := goodIn_r _ [62, 2, 13, 14, 4, 11, 17, 28, 29, 30, 9, 31, 1, 32, 33, 63, 64, 65, 66, 67, 68, 69, 70, 71, 72, 73, 74, 75, 76, 77, 78, 79, 80] (by decide +kernel) (by decide +kernel)
set_option maxRecDepth 20000 in
theorem gX7_make_X7_makeLoops : GoodIn wsX7_make (wsV RX7 106 RX7 yX7_makeLoops wsX7_makeLoops) := goodIn_app (goodIn_of _ (by decide +kernel)) ggX7_make_X7_makeLoops
theorem dX7_make_0 : decode cX7_make 0 = .ok (.iload_n 3, 1) := by decide +kernel
theorem dX7_make_1 : decode cX7_make 1 = .ok (.iconst 2, 1) := by decide +kernel
theorem dX7_make_2 : decode cX7_make 2 = .ok (.if_icmp .lt 49, 3) := by decide +kernel
theorem dX7_make_5 : decode cX7_make 5 = .ok (.iload_n 3, 1) := by decide +kernel
theorem dX7_make_6 : decode cX7_make 6 = .ok (.bipush 12, 2) := by decide +kernel
theorem dX7_make_8 : decode cX7_make 8 = .ok (.if_icmp .gt 43, 3) := by decide +kernel
theorem dX7_make_11 : decode cX7_make 11 = .ok (.iload 4, 2) := by decide +kernel
theorem dX7_make_13 : decode cX7_make 13 = .ok (.iconst 1, 1) := by decide +kernel
theorem dX7_make_14 : decode cX7_make 14 = .ok (.if_icmp .lt 37, 3) := by decide +kernel
theorem dX7_make_17 : decode cX7_make 17 = .ok (.iload 4, 2) := by decide +kernel
theorem dX7_make_19 : decode cX7_make 19 = .ok (.iconst 3, 1) := by decide +kernel
theorem dX7_make_20 : decode cX7_make 20 = .ok (.if_icmp .gt 31, 3) := by decide +kernel
theorem dX7_make_23 : decode cX7_make 23 = .ok (.iload 4, 2) := by decide +kernel
theorem dX7_make_25 : decode cX7_make 25 = .ok (.iload_n 3, 1) := by decide +kernel
theorem dX7_make_26 : decode cX7_make 26 = .ok (.if_icmp .ge 25, 3) := by decide +kernel
theorem dX7_make_29 : decode cX7_make 29 = .ok (.iload 5, 2) := by decide +kernel
theorem dX7_make_31 : decode cX7_make 31 = .ok (.ifCond .lt 20, 3) := by decide +kernel
theorem dX7_make_34 : decode cX7_make 34 = .ok (.iload 5, 2) := by decide +kernel
theorem dX7_make_36 : decode cX7_make 36 = .ok (.iconst 3, 1) := by decide +kernel
theorem dX7_make_37 : decode cX7_make 37 = .ok (.if_icmp .gt 14, 3) := by decide +kernel
theorem dX7_make_40 : decode cX7_make 40 = .ok (.iload 6, 2) := by decide +kernel
theorem dX7_make_42 : decode cX7_make 42 = .ok (.ifCond .lt 9, 3) := by decide +kernel
theorem dX7_make_45 : decode cX7_make 45 = .ok (.iload 6, 2) := by decide +kernel
theorem dX7_make_47 : decode cX7_make 47 = .ok (.iconst 2, 1) := by decide +kernel
theorem dX7_make_48 : decode cX7_make 48 = .ok (.if_icmp .le 5, 3) := by decide +kernel
theorem dX7_make_51 : decode cX7_make 51 = .ok (.iconst (-1), 1) := by decide +kernel
theorem dX7_make_52 : decode cX7_make 52 = .ok (.ireturn, 1) := by decide +kernel
theorem dX7_make_53 : decode cX7_make 53 = .ok (.aload_n 0, 1) := by decide +kernel
theorem dX7_make_54 : decode cX7_make 54 = .ok (.invokevirtual 86, 3) := by decide +kernel
theorem dX7_make_57 : decode cX7_make 57 = .ok (.aload_n 0, 1) := by decide +kernel
theorem dX7_make_58 : decode cX7_make 58 = .ok (.lload_n 1, 1) := by decide +kernel
theorem dX7_make_59 : decode cX7_make 59 = .ok (.putfield 48, 3) := by decide +kernel
theorem dX7_make_62 : decode cX7_make 62 = .ok (.aload_n 0, 1) := by decide +kernel
theorem dX7_make_63 : decode cX7_make 63 = .ok (.iload_n 3, 1) := by decide +kernel
theorem dX7_make_64 : decode cX7_make 64 = .ok (.putfield 56, 3) := by decide +kernel
theorem dX7_make_67 : decode cX7_make 67 = .ok (.aload_n 0, 1) := by decide +kernel
theorem dX7_make_68 : decode cX7_make 68 = .ok (.iload 4, 2) := by decide +kernel
theorem dX7_make_70 : decode cX7_make 70 = .ok (.invokevirtual 89, 3) := by decide +kernel
theorem dX7_make_73 : decode cX7_make 73 = .ok (.aload_n 0, 1) := by decide +kernel
theorem dX7_make_74 : decode cX7_make 74 = .ok (.iload 4, 2) := by decide +kernel
theorem dX7_make_76 : decode cX7_make 76 = .ok (.iload 5, 2) := by decide +kernel
theorem dX7_make_78 : decode cX7_make 78 = .ok (.invokevirtual 93, 3) := by decide +kernel
theorem dX7_make_81 : decode cX7_make 81 = .ok (.aload_n 0, 1) := by decide +kernel
theorem dX7_make_82 : decode cX7_make 82 = .ok (.iload 6, 2) := by decide +kernel
theorem dX7_make_84 : decode cX7_make 84 = .ok (.invokevirtual 97, 3) := by decide +kernel
theorem dX7_make_87 : decode cX7_make 87 = .ok (.iconst 0, 1) := by decide +kernel
theorem dX7_make_88 : decode cX7_make 88 = .ok (.istore 7, 2) := by decide +kernel
theorem dX7_make_90 : decode cX7_make 90 = .ok (.iload 7, 2) := by decide +kernel
theorem dX7_make_92 : decode cX7_make 92 = .ok (.iload_n 3, 1) := by decide +kernel
theorem dX7_make_93 : decode cX7_make 93 = .ok (.if_icmp .ge 33, 3) := by decide +kernel
theorem dX7_make_96 : decode cX7_make 96 = .ok (.aload_n 0, 1) := by decide +kernel
theorem dX7_make_97 : decode cX7_make 97 = .ok (.getfield 38, 3) := by decide +kernel
theorem dX7_make_100 : decode cX7_make 100 = .ok (.iload 7, 2) := by decide +kernel
theorem dX7_make_102 : decode cX7_make 102 = .ok (.aload_n 0, 1) := by decide +kernel
theorem dX7_make_103 : decode cX7_make 103 = .ok (.getfield 13, 3) := by decide +kernel
theorem dX7_make_106 : decode cX7_make 106 = .ok (.iload 7, 2) := by decide +kernel
theorem dX7_make_108 : decode cX7_make 108 = .ok (.iaload, 1) := by decide +kernel
theorem dX7_make_109 : decode cX7_make 109 = .ok (.iload 4, 2) := by decide +kernel
theorem dX7_make_111 : decode cX7_make 111 = .ok (.if_icmp .ne 7, 3) := by decide +kernel
theorem dX7_make_114 : decode cX7_make 114 = .ok (.iconst 1, 1) := by decide +kernel
theorem dX7_make_115 : decode cX7_make 115 = .ok (.goto 4, 3) := by decide +kernel
theorem dX7_make_118 : decode cX7_make 118 = .ok (.iconst 0, 1) := by decide +kernel
theorem dX7_make_119 : decode cX7_make 119 = .ok (.bastore, 1) := by decide +kernel
theorem dX7_make_120 : decode cX7_make 120 = .ok (.iinc 7 1, 3) := by decide +kernel
theorem dX7_make_123 : decode cX7_make 123 = .ok (.goto (-33), 3) := by decide +kernel
theorem dX7_make_126 : decode cX7_make 126 = .ok (.aload_n 0, 1) := by decide +kernel
theorem dX7_make_127 : decode cX7_make 127 = .ok (.aload_n 0, 1) := by decide +kernel
theorem dX7_make_128 : decode cX7_make 128 = .ok (.invokevirtual 64, 3) := by decide +kernel
theorem dX7_make_131 : decode cX7_make 131 = .ok (.putfield 100, 3) := by decide +kernel
theorem dX7_make_134 : decode cX7_make 134 = .ok (.aload_n 0, 1) := by decide +kernel
theorem dX7_make_135 : decode cX7_make 135 = .ok (.invokevirtual 103, 3) := by decide +kernel
theorem dX7_make_138 : decode cX7_make 138 = .ok (.iload_n 3, 1) := by decide +kernel
theorem dX7_make_139 : decode cX7_make 139 = .ok (.iconst 1, 1) := by decide +kernel
theorem dX7_make_140 : decode cX7_make 140 = .ok (.isub, 1) := by decide +kernel
theorem dX7_make_141 : decode cX7_make 141 = .ok (.aload_n 0, 1) := by decide +kernel
theorem dX7_make_142 : decode cX7_make 142 = .ok (.invokevirtual 106, 3) := by decide +kernel
theorem dX7_make_145 : decode cX7_make 145 = .ok (.iadd, 1) := by decide +kernel
theorem dX7_make_146 : decode cX7_make 146 = .ok (.ireturn, 1) := by decide +kernel
theorem dX7_beyond_0 : decode cX7_beyond 0 = .ok (.iload_n 1, 1) := by decide +kernel
theorem dX7_beyond_1 : decode cX7_beyond 1 = .ok (.ifCond .le 9, 3) := by decide +kernel
theorem dX7_beyond_4 : decode cX7_beyond 4 = .ok (.iload_n 2, 1) := by decide +kernel
theorem dX7_beyond_5 : decode cX7_beyond 5 = .ok (.iconst 1, 1) := by decide +kernel
theorem dX7_beyond_6 : decode cX7_beyond 6 = .ok (.isub, 1) := by decide +kernel
theorem dX7_beyond_7 : decode cX7_beyond 7 = .ok (.goto 4, 3) := by decide +kernel
theorem dX7_beyond_10 : decode cX7_beyond 10 = .ok (.iload_n 2, 1) := by decide +kernel
theorem dX7_beyond_11 : decode cX7_beyond 11 = .ok (.istore_n 3, 1) := by decide +kernel
theorem dX7_beyond_12 : decode cX7_beyond 12 = .ok (.iload_n 3, 1) := by decide +kernel
theorem dX7_beyond_13 : decode cX7_beyond 13 = .ok (.ifCond .ge 18, 3) := by decide +kernel
theorem dX7_beyond_16 : decode cX7_beyond 16 = .ok (.iload_n 2, 1) := by decide +kernel
theorem dX7_beyond_17 : decode cX7_beyond 17 = .ok (.ifCond .ge 7, 3) := by decide +kernel
theorem dX7_beyond_20 : decode cX7_beyond 20 = .ok (.iconst (-1), 1) := by decide +kernel
theorem dX7_beyond_21 : decode cX7_beyond 21 = .ok (.goto 9, 3) := by decide +kernel
theorem dX7_beyond_24 : decode cX7_beyond 24 = .ok (.aload_n 0, 1) := by decide +kernel
theorem dX7_beyond_25 : decode cX7_beyond 25 = .ok (.getfield 7, 3) := by decide +kernel
theorem dX7_beyond_28 : decode cX7_beyond 28 = .ok (.iload_n 1, 1) := by decide +kernel
theorem dX7_beyond_29 : decode cX7_beyond 29 = .ok (.iaload, 1) := by decide +kernel
theorem dX7_beyond_30 : decode cX7_beyond 30 = .ok (.ireturn, 1) := by decide +kernel
theorem dX7_beyond_31 : decode cX7_beyond 31 = .ok (.iconst 0, 1) := by decide +kernel
theorem dX7_beyond_32 : decode cX7_beyond 32 = .ok (.istore 4, 2) := by decide +kernel
theorem dX7_beyond_34 : decode cX7_beyond 34 = .ok (.iload 4, 2) := by decide +kernel
theorem dX7_beyond_36 : decode cX7_beyond 36 = .ok (.aload_n 0, 1) := by decide +kernel
theorem dX7_beyond_37 : decode cX7_beyond 37 = .ok (.getfield 56, 3) := by decide +kernel
