theorem dX2_place_46 : decode cX2_place 46 = .ok (.iload_n 3, 1) := by decide +kernel
theorem dX2_place_47 : decode cX2_place 47 = .ok (.getstatic 158, 3) := by decide +kernel
theorem dX2_place_50 : decode cX2_place 50 = .ok (.iload_n 2, 1) := by decide +kernel
theorem dX2_place_51 : decode cX2_place 51 = .ok (.iaload, 1) := by decide +kernel
theorem dX2_place_52 : decode cX2_place 52 = .ok (.iadd, 1) := by decide +kernel
theorem dX2_place_53 : decode cX2_place 53 = .ok (.istore_n 3, 1) := by decide +kernel
theorem dX2_place_54 : decode cX2_place 54 = .ok (.iload 4, 2) := by decide +kernel
theorem dX2_place_56 : decode cX2_place 56 = .ok (.getstatic 161, 3) := by decide +kernel
theorem dX2_place_59 : decode cX2_place 59 = .ok (.iload_n 2, 1) := by decide +kernel
theorem dX2_place_60 : decode cX2_place 60 = .ok (.iaload, 1) := by decide +kernel
theorem dX2_place_61 : decode cX2_place 61 = .ok (.iadd, 1) := by decide +kernel
theorem dX2_place_62 : decode cX2_place 62 = .ok (.istore 4, 2) := by decide +kernel
theorem dX2_place_64 : decode cX2_place 64 = .ok (.aload_n 0, 1) := by decide +kernel
theorem dX2_place_65 : decode cX2_place 65 = .ok (.iload_n 3, 1) := by decide +kernel
theorem dX2_place_66 : decode cX2_place 66 = .ok (.iload 4, 2) := by decide +kernel
theorem dX2_place_68 : decode cX2_place 68 = .ok (.iload_n 1, 1) := by decide +kernel
theorem dX2_place_69 : decode cX2_place 69 = .ok (.invokevirtual 164, 3) := by decide +kernel
theorem dX2_place_72 : decode cX2_place 72 = .ok (.ifCond .eq 6, 3) := by decide +kernel
theorem dX2_place_75 : decode cX2_place 75 = .ok (.goto 9, 3) := by decide +kernel
theorem dX2_place_78 : decode cX2_place 78 = .ok (.iinc 5 1, 3) := by decide +kernel
theorem dX2_place_81 : decode cX2_place 81 = .ok (.goto (-41), 3) := by decide +kernel
theorem dX2_place_84 : decode cX2_place 84 = .ok (.aload_n 0, 1) := by decide +kernel
theorem dX2_place_85 : decode cX2_place 85 = .ok (.getfield 22, 3) := by decide +kernel
theorem dX2_place_88 : decode cX2_place 88 = .ok (.getfield 149, 3) := by decide +kernel
theorem dX2_place_91 : decode cX2_place 91 = .ok (.iload_n 1, 1) := by decide +kernel
theorem dX2_place_92 : decode cX2_place 92 = .ok (.iload_n 3, 1) := by decide +kernel
theorem dX2_place_93 : decode cX2_place 93 = .ok (.iastore, 1) := by decide +kernel
theorem dX2_place_94 : decode cX2_place 94 = .ok (.aload_n 0, 1) := by decide +kernel
theorem dX2_place_95 : decode cX2_place 95 = .ok (.getfield 22, 3) := by decide +kernel
theorem dX2_place_98 : decode cX2_place 98 = .ok (.getfield 152, 3) := by decide +kernel
theorem dX2_place_101 : decode cX2_place 101 = .ok (.iload_n 1, 1) := by decide +kernel
theorem dX2_place_102 : decode cX2_place 102 = .ok (.iload 4, 2) := by decide +kernel
theorem dX2_place_104 : decode cX2_place 104 = .ok (.iastore, 1) := by decide +kernel
theorem dX2_place_105 : decode cX2_place 105 = .ok (.return_, 1) := by decide +kernel
theorem dX2_isFree_0 : decode cX2_isFree 0 = .ok (.iconst 0, 1) := by decide +kernel
theorem dX2_isFree_1 : decode cX2_isFree 1 = .ok (.istore 4, 2) := by decide +kernel
theorem dX2_isFree_3 : decode cX2_isFree 3 = .ok (.iload 4, 2) := by decide +kernel
theorem dX2_isFree_5 : decode cX2_isFree 5 = .ok (.iload_n 3, 1) := by decide +kernel
theorem dX2_isFree_6 : decode cX2_isFree 6 = .ok (.if_icmp .ge 39, 3) := by decide +kernel
theorem dX2_isFree_9 : decode cX2_isFree 9 = .ok (.aload_n 0, 1) := by decide +kernel
theorem dX2_isFree_10 : decode cX2_isFree 10 = .ok (.getfield 22, 3) := by decide +kernel
theorem dX2_isFree_13 : decode cX2_isFree 13 = .ok (.getfield 149, 3) := by decide +kernel
theorem dX2_isFree_16 : decode cX2_isFree 16 = .ok (.iload 4, 2) := by decide +kernel
theorem dX2_isFree_18 : decode cX2_isFree 18 = .ok (.iaload, 1) := by decide +kernel
theorem dX2_isFree_19 : decode cX2_isFree 19 = .ok (.iload_n 1, 1) := by decide +kernel
theorem dX2_isFree_20 : decode cX2_isFree 20 = .ok (.if_icmp .ne 19, 3) := by decide +kernel
theorem dX2_isFree_23 : decode cX2_isFree 23 = .ok (.aload_n 0, 1) := by decide +kernel
theorem dX2_isFree_24 : decode cX2_isFree 24 = .ok (.getfield 22, 3) := by decide +kernel
theorem dX2_isFree_27 : decode cX2_isFree 27 = .ok (.getfield 152, 3) := by decide +kernel
theorem dX2_isFree_30 : decode cX2_isFree 30 = .ok (.iload 4, 2) := by decide +kernel
theorem dX2_isFree_32 : decode cX2_isFree 32 = .ok (.iaload, 1) := by decide +kernel
theorem dX2_isFree_33 : decode cX2_isFree 33 = .ok (.iload_n 2, 1) := by decide +kernel
theorem dX2_isFree_34 : decode cX2_isFree 34 = .ok (.if_icmp .ne 5, 3) := by decide +kernel
theorem dX2_isFree_37 : decode cX2_isFree 37 = .ok (.iconst 0, 1) := by decide +kernel
theorem dX2_isFree_38 : decode cX2_isFree 38 = .ok (.ireturn, 1) := by decide +kernel
theorem dX2_isFree_39 : decode cX2_isFree 39 = .ok (.iinc 4 1, 3) := by decide +kernel
theorem dX2_isFree_42 : decode cX2_isFree 42 = .ok (.goto (-39), 3) := by decide +kernel
theorem dX2_isFree_45 : decode cX2_isFree 45 = .ok (.iconst 1, 1) := by decide +kernel
theorem dX2_isFree_46 : decode cX2_isFree 46 = .ok (.ireturn, 1) := by decide +kernel
set_option maxRecDepth 20000 in
theorem ggX2_joinFamilies_X2_join : GoodIn wsX2_joinFamilies wsX2_join := goodIn_r _ [8, 1, 9, 10, 11, 12, 13, 14, 15, 16, 17, 18, 19, 20, 21, 22, 23, 24, 25, 26, 27, 28] (by decide +kernel) (by decide +kernel)
set_option maxRecDepth 20000 in
theorem gX2_joinFamilies_X2_join : GoodIn wsX2_joinFamilies (wsV RX2 167 RX2 yX2_join wsX2_join) := goodIn_app (goodIn_of _ (by decide +kernel)) ggX2_joinFamilies_X2_join
theorem dX2_joinFamilies_0 : decode cX2_joinFamilies 0 = .ok (.iconst 1, 1) := by decide +kernel
theorem dX2_joinFamilies_1 : decode cX2_joinFamilies 1 = .ok (.istore_n 1, 1) := by decide +kernel
theorem dX2_joinFamilies_2 : decode cX2_joinFamilies 2 = .ok (.iload_n 1, 1) := by decide +kernel
theorem dX2_joinFamilies_3 : decode cX2_joinFamilies 3 = .ok (.aload_n 0, 1) := by decide +kernel
theorem dX2_joinFamilies_4 : decode cX2_joinFamilies 4 = .ok (.getfield 22, 3) := by decide +kernel
theorem dX2_joinFamilies_7 : decode cX2_joinFamilies 7 = .ok (.getfield 33, 3) := by decide +kernel
theorem dX2_joinFamilies_10 : decode cX2_joinFamilies 10 = .ok (.if_icmp .ge 23, 3) := by decide +kernel
theorem dX2_joinFamilies_13 : decode cX2_joinFamilies 13 = .ok (.aload_n 0, 1) := by decide +kernel
theorem dX2_joinFamilies_14 : decode cX2_joinFamilies 14 = .ok (.iload_n 1, 1) := by decide +kernel
theorem dX2_joinFamilies_15 : decode cX2_joinFamilies 15 = .ok (.aload_n 0, 1) := by decide +kernel
theorem dX2_joinFamilies_16 : decode cX2_joinFamilies 16 = .ok (.getfield 22, 3) := by decide +kernel
theorem dX2_joinFamilies_19 : decode cX2_joinFamilies 19 = .ok (.getfield 98, 3) := by decide +kernel
theorem dX2_joinFamilies_22 : decode cX2_joinFamilies 22 = .ok (.iload_n 1, 1) := by decide +kernel
theorem dX2_joinFamilies_23 : decode cX2_joinFamilies 23 = .ok (.iaload, 1) := by decide +kernel
theorem dX2_joinFamilies_24 : decode cX2_joinFamilies 24 = .ok (.invokevirtual 167, 3) := by decide +kernel
theorem dX2_joinFamilies_27 : decode cX2_joinFamilies 27 = .ok (.iinc 1 1, 3) := by decide +kernel
theorem dX2_joinFamilies_30 : decode cX2_joinFamilies 30 = .ok (.goto (-28), 3) := by decide +kernel
theorem dX2_joinFamilies_33 : decode cX2_joinFamilies 33 = .ok (.return_, 1) := by decide +kernel
set_option maxRecDepth 20000 in
theorem ggX2_joinLoops_X2_mayLoop : GoodIn wsX2_joinLoops wsX2_mayLoop := goodIn_r _ [8, 1, 9, 10, 11, 12, 13, 14, 15, 16, 32, 33, 34, 35, 36, 37, 38, 39, 40, 41, 42, 43, 44, 45, 46, 47, 48] (by decide +kernel) (by decide +kernel)
set_option maxRecDepth 20000 in
theorem gX2_joinLoops_X2_mayLoop : GoodIn wsX2_joinLoops (wsV RX2 170 RX2 yX2_mayLoop wsX2_mayLoop) := goodIn_app (goodIn_of _ (by decide +kernel)) ggX2_joinLoops_X2_mayLoop
set_option maxRecDepth 20000 in
theorem ggX2_joinLoops_X1_number : GoodIn wsX2_joinLoops wsX1_number := goodIn_r _ [21, 22, 23, 24, 49, 50, 51] (by decide +kernel) (by decide +kernel)
set_option maxRecDepth 20000 in
theorem gX2_joinLoops_X1_number : GoodIn wsX2_joinLoops (wsV RX2 111 RX1 yX1_number wsX1_number) := goodIn_app (goodIn_of _ (by decide +kernel)) ggX2_joinLoops_X1_number
set_option maxRecDepth 20000 in
theorem ggX2_joinLoops_X2_join : GoodIn wsX2_joinLoops wsX2_join := goodIn_r _ [28, 1, 29, 30, 31, 32, 33, 34, 35, 36, 37, 38, 39, 40, 41, 42, 43, 44, 45, 46, 47, 48] (by decide +kernel) (by decide +kernel)
set_option maxRecDepth 20000 in
theorem gX2_joinLoops_X2_join : GoodIn wsX2_joinLoops (wsV RX2 167 RX2 yX2_join wsX2_join) := goodIn_app (goodIn_of _ (by decide +kernel)) ggX2_joinLoops_X2_join
theorem dX2_joinLoops_0 : decode cX2_joinLoops 0 = .ok (.iconst 1, 1) := by decide +kernel
theorem dX2_joinLoops_1 : decode cX2_joinLoops 1 = .ok (.istore_n 1, 1) := by decide +kernel
theorem dX2_joinLoops_2 : decode cX2_joinLoops 2 = .ok (.iload_n 1, 1) := by decide +kernel
theorem dX2_joinLoops_3 : decode cX2_joinLoops 3 = .ok (.aload_n 0, 1) := by decide +kernel
theorem dX2_joinLoops_4 : decode cX2_joinLoops 4 = .ok (.getfield 22, 3) := by decide +kernel
theorem dX2_joinLoops_7 : decode cX2_joinLoops 7 = .ok (.getfield 33, 3) := by decide +kernel
theorem dX2_joinLoops_10 : decode cX2_joinLoops 10 = .ok (.if_icmp .ge 48, 3) := by decide +kernel
theorem dX2_joinLoops_13 : decode cX2_joinLoops 13 = .ok (.iconst 0, 1) := by decide +kernel
theorem dX2_joinLoops_14 : decode cX2_joinLoops 14 = .ok (.istore_n 2, 1) := by decide +kernel
theorem dX2_joinLoops_15 : decode cX2_joinLoops 15 = .ok (.iload_n 2, 1) := by decide +kernel
theorem dX2_joinLoops_16 : decode cX2_joinLoops 16 = .ok (.iload_n 1, 1) := by decide +kernel
theorem dX2_joinLoops_17 : decode cX2_joinLoops 17 = .ok (.if_icmp .ge 35, 3) := by decide +kernel
theorem dX2_joinLoops_20 : decode cX2_joinLoops 20 = .ok (.aload_n 0, 1) := by decide +kernel
theorem dX2_joinLoops_21 : decode cX2_joinLoops 21 = .ok (.iload_n 1, 1) := by decide +kernel
theorem dX2_joinLoops_22 : decode cX2_joinLoops 22 = .ok (.iload_n 2, 1) := by decide +kernel
theorem dX2_joinLoops_23 : decode cX2_joinLoops 23 = .ok (.invokevirtual 170, 3) := by decide +kernel
theorem dX2_joinLoops_26 : decode cX2_joinLoops 26 = .ok (.ifCond .eq 20, 3) := by decide +kernel
theorem dX2_joinLoops_29 : decode cX2_joinLoops 29 = .ok (.aload_n 0, 1) := by decide +kernel
theorem dX2_joinLoops_30 : decode cX2_joinLoops 30 = .ok (.getfield 12, 3) := by decide +kernel
theorem dX2_joinLoops_33 : decode cX2_joinLoops 33 = .ok (.iconst 3, 1) := by decide +kernel
theorem dX2_joinLoops_34 : decode cX2_joinLoops 34 = .ok (.invokevirtual 111, 3) := by decide +kernel
theorem dX2_joinLoops_37 : decode cX2_joinLoops 37 = .ok (.ifCond .ne 9, 3) := by decide +kernel
theorem dX2_joinLoops_40 : decode cX2_joinLoops 40 = .ok (.aload_n 0, 1) := by decide +kernel
theorem dX2_joinLoops_41 : decode cX2_joinLoops 41 = .ok (.iload_n 1, 1) := by decide +kernel
theorem dX2_joinLoops_42 : decode cX2_joinLoops 42 = .ok (.iload_n 2, 1) := by decide +kernel
theorem dX2_joinLoops_43 : decode cX2_joinLoops 43 = .ok (.invokevirtual 167, 3) := by decide +kernel
theorem dX2_joinLoops_46 : decode cX2_joinLoops 46 = .ok (.iinc 2 1, 3) := by decide +kernel
theorem dX2_joinLoops_49 : decode cX2_joinLoops 49 = .ok (.goto (-34), 3) := by decide +kernel
theorem dX2_joinLoops_52 : decode cX2_joinLoops 52 = .ok (.iinc 1 1, 3) := by decide +kernel
theorem dX2_joinLoops_55 : decode cX2_joinLoops 55 = .ok (.goto (-53), 3) := by decide +kernel
theorem dX2_joinLoops_58 : decode cX2_joinLoops 58 = .ok (.return_, 1) := by decide +kernel
theorem dX2_mayLoop_0 : decode cX2_mayLoop 0 = .ok (.aload_n 0, 1) := by decide +kernel
theorem dX2_mayLoop_1 : decode cX2_mayLoop 1 = .ok (.getfield 22, 3) := by decide +kernel
theorem dX2_mayLoop_4 : decode cX2_mayLoop 4 = .ok (.getfield 149, 3) := by decide +kernel
theorem dX2_mayLoop_7 : decode cX2_mayLoop 7 = .ok (.iload_n 1, 1) := by decide +kernel
theorem dX2_mayLoop_8 : decode cX2_mayLoop 8 = .ok (.iaload, 1) := by decide +kernel
theorem dX2_mayLoop_9 : decode cX2_mayLoop 9 = .ok (.aload_n 0, 1) := by decide +kernel
theorem dX2_mayLoop_10 : decode cX2_mayLoop 10 = .ok (.getfield 22, 3) := by decide +kernel
theorem dX2_mayLoop_13 : decode cX2_mayLoop 13 = .ok (.getfield 149, 3) := by decide +kernel
theorem dX2_mayLoop_16 : decode cX2_mayLoop 16 = .ok (.iload_n 2, 1) := by decide +kernel
theorem dX2_mayLoop_17 : decode cX2_mayLoop 17 = .ok (.iaload, 1) := by decide +kernel
theorem dX2_mayLoop_18 : decode cX2_mayLoop 18 = .ok (.isub, 1) := by decide +kernel
theorem dX2_mayLoop_19 : decode cX2_mayLoop 19 = .ok (.invokestatic 173, 3) := by decide +kernel
theorem dX2_mayLoop_22 : decode cX2_mayLoop 22 = .ok (.aload_n 0, 1) := by decide +kernel
theorem dX2_mayLoop_23 : decode cX2_mayLoop 23 = .ok (.getfield 22, 3) := by decide +kernel
theorem dX2_mayLoop_26 : decode cX2_mayLoop 26 = .ok (.getfield 152, 3) := by decide +kernel
theorem dX2_mayLoop_29 : decode cX2_mayLoop 29 = .ok (.iload_n 1, 1) := by decide +kernel
theorem dX2_mayLoop_30 : decode cX2_mayLoop 30 = .ok (.iaload, 1) := by decide +kernel
theorem dX2_mayLoop_31 : decode cX2_mayLoop 31 = .ok (.aload_n 0, 1) := by decide +kernel
theorem dX2_mayLoop_32 : decode cX2_mayLoop 32 = .ok (.getfield 22, 3) := by decide +kernel
theorem dX2_mayLoop_35 : decode cX2_mayLoop 35 = .ok (.getfield 152, 3) := by decide +kernel
theorem dX2_mayLoop_38 : decode cX2_mayLoop 38 = .ok (.iload_n 2, 1) := by decide +kernel
theorem dX2_mayLoop_39 : decode cX2_mayLoop 39 = .ok (.iaload, 1) := by decide +kernel
theorem dX2_mayLoop_40 : decode cX2_mayLoop 40 = .ok (.isub, 1) := by decide +kernel
theorem dX2_mayLoop_41 : decode cX2_mayLoop 41 = .ok (.invokestatic 173, 3) := by decide +kernel
theorem dX2_mayLoop_44 : decode cX2_mayLoop 44 = .ok (.iadd, 1) := by decide +kernel
theorem dX2_mayLoop_45 : decode cX2_mayLoop 45 = .ok (.istore_n 3, 1) := by decide +kernel
theorem dX2_mayLoop_46 : decode cX2_mayLoop 46 = .ok (.iload_n 3, 1) := by decide +kernel
theorem dX2_mayLoop_47 : decode cX2_mayLoop 47 = .ok (.iconst 1, 1) := by decide +kernel
theorem dX2_mayLoop_48 : decode cX2_mayLoop 48 = .ok (.if_icmp .ne 41, 3) := by decide +kernel
theorem dX2_mayLoop_51 : decode cX2_mayLoop 51 = .ok (.aload_n 0, 1) := by decide +kernel
theorem dX2_mayLoop_52 : decode cX2_mayLoop 52 = .ok (.getfield 22, 3) := by decide +kernel
theorem dX2_mayLoop_55 : decode cX2_mayLoop 55 = .ok (.getfield 101, 3) := by decide +kernel
theorem dX2_mayLoop_58 : decode cX2_mayLoop 58 = .ok (.iload_n 1, 1) := by decide +kernel
theorem dX2_mayLoop_59 : decode cX2_mayLoop 59 = .ok (.iaload, 1) := by decide +kernel
theorem dX2_mayLoop_60 : decode cX2_mayLoop 60 = .ok (.aload_n 0, 1) := by decide +kernel
theorem dX2_mayLoop_61 : decode cX2_mayLoop 61 = .ok (.getfield 22, 3) := by decide +kernel
theorem dX2_mayLoop_64 : decode cX2_mayLoop 64 = .ok (.getfield 101, 3) := by decide +kernel
theorem dX2_mayLoop_67 : decode cX2_mayLoop 67 = .ok (.iload_n 2, 1) := by decide +kernel
theorem dX2_mayLoop_68 : decode cX2_mayLoop 68 = .ok (.iaload, 1) := by decide +kernel
theorem dX2_mayLoop_69 : decode cX2_mayLoop 69 = .ok (.if_icmp .ne 20, 3) := by decide +kernel
theorem dX2_mayLoop_72 : decode cX2_mayLoop 72 = .ok (.aload_n 0, 1) := by decide +kernel
theorem dX2_mayLoop_73 : decode cX2_mayLoop 73 = .ok (.getfield 22, 3) := by decide +kernel
theorem dX2_mayLoop_76 : decode cX2_mayLoop 76 = .ok (.getfield 98, 3) := by decide +kernel
theorem dX2_mayLoop_79 : decode cX2_mayLoop 79 = .ok (.iload_n 1, 1) := by decide +kernel
theorem dX2_mayLoop_80 : decode cX2_mayLoop 80 = .ok (.iaload, 1) := by decide +kernel
theorem dX2_mayLoop_81 : decode cX2_mayLoop 81 = .ok (.iload_n 2, 1) := by decide +kernel
theorem dX2_mayLoop_82 : decode cX2_mayLoop 82 = .ok (.if_icmp .eq 7, 3) := by decide +kernel
theorem dX2_mayLoop_85 : decode cX2_mayLoop 85 = .ok (.iconst 1, 1) := by decide +kernel
theorem dX2_mayLoop_86 : decode cX2_mayLoop 86 = .ok (.goto 4, 3) := by decide +kernel
theorem dX2_mayLoop_89 : decode cX2_mayLoop 89 = .ok (.iconst 0, 1) := by decide +kernel
theorem dX2_mayLoop_90 : decode cX2_mayLoop 90 = .ok (.ireturn, 1) := by decide +kernel
theorem dX2_join_0 : decode cX2_join 0 = .ok (.aload_n 0, 1) := by decide +kernel
theorem dX2_join_1 : decode cX2_join 1 = .ok (.getfield 22, 3) := by decide +kernel
theorem dX2_join_4 : decode cX2_join 4 = .ok (.getfield 178, 3) := by decide +kernel
theorem dX2_join_7 : decode cX2_join 7 = .ok (.iload_n 1, 1) := by decide +kernel
theorem dX2_join_8 : decode cX2_join 8 = .ok (.aaload, 1) := by decide +kernel
theorem dX2_join_9 : decode cX2_join 9 = .ok (.aload_n 0, 1) := by decide +kernel
theorem dX2_join_10 : decode cX2_join 10 = .ok (.getfield 22, 3) := by decide +kernel
theorem dX2_join_13 : decode cX2_join 13 = .ok (.getfield 89, 3) := by decide +kernel
theorem dX2_join_16 : decode cX2_join 16 = .ok (.iload_n 1, 1) := by decide +kernel
theorem dX2_join_17 : decode cX2_join 17 = .ok (.iaload, 1) := by decide +kernel
theorem dX2_join_18 : decode cX2_join 18 = .ok (.iload_n 2, 1) := by decide +kernel
theorem dX2_join_19 : decode cX2_join 19 = .ok (.iastore, 1) := by decide +kernel
theorem dX2_join_20 : decode cX2_join 20 = .ok (.aload_n 0, 1) := by decide +kernel
theorem dX2_join_21 : decode cX2_join 21 = .ok (.getfield 22, 3) := by decide +kernel
theorem dX2_join_24 : decode cX2_join 24 = .ok (.getfield 178, 3) := by decide +kernel
theorem dX2_join_27 : decode cX2_join 27 = .ok (.iload_n 2, 1) := by decide +kernel
theorem dX2_join_28 : decode cX2_join 28 = .ok (.aaload, 1) := by decide +kernel
theorem dX2_join_29 : decode cX2_join 29 = .ok (.aload_n 0, 1) := by decide +kernel
theorem dX2_join_30 : decode cX2_join 30 = .ok (.getfield 22, 3) := by decide +kernel
theorem dX2_join_33 : decode cX2_join 33 = .ok (.getfield 89, 3) := by decide +kernel
theorem dX2_join_36 : decode cX2_join 36 = .ok (.iload_n 2, 1) := by decide +kernel
theorem dX2_join_37 : decode cX2_join 37 = .ok (.iaload, 1) := by decide +kernel
theorem dX2_join_38 : decode cX2_join 38 = .ok (.iload_n 1, 1) := by decide +kernel
theorem dX2_join_39 : decode cX2_join 39 = .ok (.iastore, 1) := by decide +kernel
theorem dX2_join_40 : decode cX2_join 40 = .ok (.aload_n 0, 1) := by decide +kernel
theorem dX2_join_41 : decode cX2_join 41 = .ok (.getfield 22, 3) := by decide +kernel
theorem dX2_join_44 : decode cX2_join 44 = .ok (.getfield 89, 3) := by decide +kernel
theorem dX2_join_47 : decode cX2_join 47 = .ok (.iload_n 1, 1) := by decide +kernel
theorem dX2_join_48 : decode cX2_join 48 = .ok (.dup2, 1) := by decide +kernel
theorem dX2_join_49 : decode cX2_join 49 = .ok (.iaload, 1) := by decide +kernel
theorem dX2_join_50 : decode cX2_join 50 = .ok (.iconst 1, 1) := by decide +kernel
theorem dX2_join_51 : decode cX2_join 51 = .ok (.iadd, 1) := by decide +kernel
theorem dX2_join_52 : decode cX2_join 52 = .ok (.iastore, 1) := by decide +kernel
theorem dX2_join_53 : decode cX2_join 53 = .ok (.aload_n 0, 1) := by decide +kernel
theorem dX2_join_54 : decode cX2_join 54 = .ok (.getfield 22, 3) := by decide +kernel
theorem dX2_join_57 : decode cX2_join 57 = .ok (.getfield 89, 3) := by decide +kernel
theorem dX2_join_60 : decode cX2_join 60 = .ok (.iload_n 2, 1) := by decide +kernel
theorem dX2_join_61 : decode cX2_join 61 = .ok (.dup2, 1) := by decide +kernel
theorem dX2_join_62 : decode cX2_join 62 = .ok (.iaload, 1) := by decide +kernel
theorem dX2_join_63 : decode cX2_join 63 = .ok (.iconst 1, 1) := by decide +kernel
theorem dX2_join_64 : decode cX2_join 64 = .ok (.iadd, 1) := by decide +kernel
theorem dX2_join_65 : decode cX2_join 65 = .ok (.iastore, 1) := by decide +kernel
theorem dX2_join_66 : decode cX2_join 66 = .ok (.aload_n 0, 1) := by decide +kernel
theorem dX2_join_67 : decode cX2_join 67 = .ok (.getfield 22, 3) := by decide +kernel
theorem dX2_join_70 : decode cX2_join 70 = .ok (.dup, 1) := by decide +kernel
theorem dX2_join_71 : decode cX2_join 71 = .ok (.getfield 95, 3) := by decide +kernel
theorem dX2_join_74 : decode cX2_join 74 = .ok (.iconst 1, 1) := by decide +kernel
theorem dX2_join_75 : decode cX2_join 75 = .ok (.iadd, 1) := by decide +kernel
theorem dX2_join_76 : decode cX2_join 76 = .ok (.putfield 95, 3) := by decide +kernel
theorem dX2_join_79 : decode cX2_join 79 = .ok (.return_, 1) := by decide +kernel
theorem dX3_init_0 : decode cX3_init 0 = .ok (.aload_n 0, 1) := by decide +kernel
theorem dX3_init_1 : decode cX3_init 1 = .ok (.invokespecial 1, 3) := by decide +kernel
theorem dX3_init_4 : decode cX3_init 4 = .ok (.aload_n 0, 1) := by decide +kernel
theorem dX3_init_5 : decode cX3_init 5 = .ok (.sipush 192, 3) := by decide +kernel
theorem dX3_init_8 : decode cX3_init 8 = .ok (.newarray .long, 2) := by decide +kernel
theorem dX3_init_10 : decode cX3_init 10 = .ok (.putfield 9, 3) := by decide +kernel
theorem dX3_init_13 : decode cX3_init 13 = .ok (.return_, 1) := by decide +kernel
set_option maxRecDepth 20000 in
theorem ggX3_clear_J7_fill_d0a16 : GoodIn wsX3_clear wsJ7_fill_d0a16 := goodIn_r _ [5] (by decide +kernel) (by decide +kernel)
set_option maxRecDepth 20000 in
theorem gX3_clear_J7_fill_d0a16 : GoodIn wsX3_clear (va_wsS RX3 15 yJ7_fill_d0a16 wsJ7_fill_d0a16) := goodIn_app (goodIn_of _ (by decide +kernel)) ggX3_clear_J7_fill_d0a16
theorem dX3_clear_0 : decode cX3_clear 0 = .ok (.aload_n 0, 1) := by decide +kernel
theorem dX3_clear_1 : decode cX3_clear 1 = .ok (.getfield 9, 3) := by decide +kernel
theorem dX3_clear_4 : decode cX3_clear 4 = .ok (.lconst 0, 1) := by decide +kernel
theorem dX3_clear_5 : decode cX3_clear 5 = .ok (.invokestatic 15, 3) := by decide +kernel
theorem dX3_clear_8 : decode cX3_clear 8 = .ok (.return_, 1) := by decide +kernel
theorem dX3_has_0 : decode cX3_has 0 = .ok (.aload_n 0, 1) := by decide +kernel
theorem dX3_has_1 : decode cX3_has 1 = .ok (.getfield 9, 3) := by decide +kernel
theorem dX3_has_4 : decode cX3_has 4 = .ok (.iload_n 1, 1) := by decide +kernel
theorem dX3_has_5 : decode cX3_has 5 = .ok (.bipush 6, 2) := by decide +kernel
theorem dX3_has_7 : decode cX3_has 7 = .ok (.ishr, 1) := by decide +kernel
theorem dX3_has_8 : decode cX3_has 8 = .ok (.laload, 1) := by decide +kernel
theorem dX3_has_9 : decode cX3_has 9 = .ok (.lconst 1, 1) := by decide +kernel
theorem dX3_has_10 : decode cX3_has 10 = .ok (.iload_n 1, 1) := by decide +kernel
theorem dX3_has_11 : decode cX3_has 11 = .ok (.bipush 63, 2) := by decide +kernel
theorem dX3_has_13 : decode cX3_has 13 = .ok (.iand, 1) := by decide +kernel
theorem dX3_has_14 : decode cX3_has 14 = .ok (.lshl, 1) := by decide +kernel
theorem dX3_has_15 : decode cX3_has 15 = .ok (.land, 1) := by decide +kernel
theorem dX3_has_16 : decode cX3_has 16 = .ok (.lconst 0, 1) := by decide +kernel
theorem dX3_has_17 : decode cX3_has 17 = .ok (.lcmp, 1) := by decide +kernel
theorem dX3_has_18 : decode cX3_has 18 = .ok (.ifCond .eq 7, 3) := by decide +kernel
theorem dX3_has_21 : decode cX3_has 21 = .ok (.iconst 1, 1) := by decide +kernel
theorem dX3_has_22 : decode cX3_has 22 = .ok (.goto 4, 3) := by decide +kernel
theorem dX3_has_25 : decode cX3_has 25 = .ok (.iconst 0, 1) := by decide +kernel
theorem dX3_has_26 : decode cX3_has 26 = .ok (.ireturn, 1) := by decide +kernel
theorem dX3_add_0 : decode cX3_add 0 = .ok (.aload_n 0, 1) := by decide +kernel
theorem dX3_add_1 : decode cX3_add 1 = .ok (.getfield 9, 3) := by decide +kernel
theorem dX3_add_4 : decode cX3_add 4 = .ok (.iload_n 1, 1) := by decide +kernel
theorem dX3_add_5 : decode cX3_add 5 = .ok (.bipush 6, 2) := by decide +kernel
theorem dX3_add_7 : decode cX3_add 7 = .ok (.ishr, 1) := by decide +kernel
theorem dX3_add_8 : decode cX3_add 8 = .ok (.dup2, 1) := by decide +kernel
theorem dX3_add_9 : decode cX3_add 9 = .ok (.laload, 1) := by decide +kernel
theorem dX3_add_10 : decode cX3_add 10 = .ok (.lconst 1, 1) := by decide +kernel
theorem dX3_add_11 : decode cX3_add 11 = .ok (.iload_n 1, 1) := by decide +kernel
theorem dX3_add_12 : decode cX3_add 12 = .ok (.bipush 63, 2) := by decide +kernel
theorem dX3_add_14 : decode cX3_add 14 = .ok (.iand, 1) := by decide +kernel
theorem dX3_add_15 : decode cX3_add 15 = .ok (.lshl, 1) := by decide +kernel
theorem dX3_add_16 : decode cX3_add 16 = .ok (.lor, 1) := by decide +kernel
theorem dX3_add_17 : decode cX3_add 17 = .ok (.lastore, 1) := by decide +kernel
theorem dX3_add_18 : decode cX3_add 18 = .ok (.return_, 1) := by decide +kernel
set_option maxRecDepth 20000 in
theorem ggX4_init_X3_init : GoodIn wsX4_init wsX3_init := goodIn_r _ [15, 16, 2, 3, 17, 18, 19] (by decide +kernel) (by decide +kernel)
set_option maxRecDepth 20000 in
theorem gX4_init_X3_init_n11 : GoodIn wsX4_init (wsX3_init) := ggX4_init_X3_init
theorem dX4_init_0 : decode cX4_init 0 = .ok (.aload_n 0, 1) := by decide +kernel
theorem dX4_init_1 : decode cX4_init 1 = .ok (.invokespecial 3, 3) := by decide +kernel
theorem dX4_init_4 : decode cX4_init 4 = .ok (.aload_n 0, 1) := by decide +kernel
theorem dX4_init_5 : decode cX4_init 5 = .ok (.new 9, 3) := by decide +kernel
theorem dX4_init_8 : decode cX4_init 8 = .ok (.dup, 1) := by decide +kernel
theorem dX4_init_9 : decode cX4_init 9 = .ok (.invokespecial 11, 3) := by decide +kernel
theorem dX4_init_12 : decode cX4_init 12 = .ok (.putfield 12, 3) := by decide +kernel
theorem dX4_init_15 : decode cX4_init 15 = .ok (.aload_n 0, 1) := by decide +kernel
theorem dX4_init_16 : decode cX4_init 16 = .ok (.new 9, 3) := by decide +kernel
theorem dX4_init_19 : decode cX4_init 19 = .ok (.dup, 1) := by decide +kernel
theorem dX4_init_20 : decode cX4_init 20 = .ok (.invokespecial 11, 3) := by decide +kernel
theorem dX4_init_23 : decode cX4_init 23 = .ok (.putfield 18, 3) := by decide +kernel
theorem dX4_init_26 : decode cX4_init 26 = .ok (.aload_n 0, 1) := by decide +kernel
theorem dX4_init_27 : decode cX4_init 27 = .ok (.sipush 12288, 3) := by decide +kernel
theorem dX4_init_30 : decode cX4_init 30 = .ok (.newarray .int, 2) := by decide +kernel
theorem dX4_init_32 : decode cX4_init 32 = .ok (.putfield 23, 3) := by decide +kernel
theorem dX4_init_35 : decode cX4_init 35 = .ok (.aload_n 0, 1) := by decide +kernel
theorem dX4_init_36 : decode cX4_init 36 = .ok (.sipush 12288, 3) := by decide +kernel
theorem dX4_init_39 : decode cX4_init 39 = .ok (.newarray .int, 2) := by decide +kernel
theorem dX4_init_41 : decode cX4_init 41 = .ok (.putfield 27, 3) := by decide +kernel
theorem dX4_init_44 : decode cX4_init 44 = .ok (.aload_n 0, 1) := by decide +kernel
theorem dX4_init_45 : decode cX4_init 45 = .ok (.sipush 12288, 3) := by decide +kernel
theorem dX4_init_48 : decode cX4_init 48 = .ok (.newarray .int, 2) := by decide +kernel
theorem dX4_init_50 : decode cX4_init 50 = .ok (.putfield 30, 3) := by decide +kernel
theorem dX4_init_53 : decode cX4_init 53 = .ok (.aload_n 0, 1) := by decide +kernel
theorem dX4_init_54 : decode cX4_init 54 = .ok (.aload_n 1, 1) := by decide +kernel
theorem dX4_init_55 : decode cX4_init 55 = .ok (.putfield 33, 3) := by decide +kernel
theorem dX4_init_58 : decode cX4_init 58 = .ok (.return_, 1) := by decide +kernel
set_option maxRecDepth 20000 in
theorem ggX4_findGoal_X4_begin : GoodIn wsX4_findGoal wsX4_begin := goodIn_r _ [7, 8, 2, 9, 1, 10, 11, 12, 13, 14, 15, 16, 17, 18, 19, 20, 21, 22, 23, 119, 120, 121, 122, 123, 124, 125, 126] (by decide +kernel) (by decide +kernel)
set_option maxRecDepth 20000 in
theorem gX4_findGoal_X4_begin : GoodIn wsX4_findGoal (wsV RX4 37 RX4 yX4_begin wsX4_begin) := goodIn_app (goodIn_of _ (by decide +kernel)) ggX4_findGoal_X4_begin
set_option maxRecDepth 20000 in
theorem ggX4_findGoal_X4_isAtGoal : GoodIn wsX4_findGoal wsX4_isAtGoal := goodIn_r _ [27, 28, 29, 30, 31, 32, 33, 119, 120, 121, 122, 123, 124, 125, 127, 128, 129, 130, 131, 132, 133, 134, 135, 136, 137, 138, 139, 140] (by decide +kernel) (by decide +kernel)
set_option maxRecDepth 20000 in
theorem gX4_findGoal_X4_isAtGoal : GoodIn wsX4_findGoal (wsV RX4 45 RX4 yX4_isAtGoal wsX4_isAtGoal) := goodIn_app (goodIn_of _ (by decide +kernel)) ggX4_findGoal_X4_isAtGoal
set_option maxRecDepth 20000 in
theorem ggX4_findGoal_X4_goOn : GoodIn wsX4_findGoal wsX4_goOn := goodIn_r _ [37, 2, 28, 38, 30, 31, 32, 33, 39, 40, 41, 42, 43, 44, 45, 46, 47, 48, 49, 50, 51, 52, 53, 54, 55, 56, 57, 58, 59, 60, 61, 62, 63, 64, 65, 66, 67, 68, 69, 70, 71, 72, 73, 74, 75, 76, 77, 78, 79, 80, 81, 82, 83, 84, 85, 86, 87, 88, 89, 90, 91, 92, 93, 94, 95, 96, 97, 98, 99, 6, 100, 8, 1, 9, 101, 102, 103, 104, 13, 105, 15, 20, 21, 22, 23, 106, 107, 108, 109, 110, 111, 112, 113, 114, 115, 116, 117, 118, 119, 120, 121, 122, 123, 124, 125, 127, 128, 129, 130, 131, 132, 133, 134, 135, 136, 137, 138, 139, 140, 126] (by decide +kernel) (by decide +kernel)
set_option maxRecDepth 20000 in
theorem gX4_findGoal_X4_goOn : GoodIn wsX4_findGoal (wsV RX4 49 RX4 yX4_goOn wsX4_goOn) := goodIn_app (goodIn_of _ (by decide +kernel)) ggX4_findGoal_X4_goOn
theorem dX4_findGoal_0 : decode cX4_findGoal 0 = .ok (.aload_n 0, 1) := by decide +kernel
theorem dX4_findGoal_1 : decode cX4_findGoal 1 = .ok (.iload_n 1, 1) := by decide +kernel
theorem dX4_findGoal_2 : decode cX4_findGoal 2 = .ok (.invokevirtual 37, 3) := by decide +kernel
theorem dX4_findGoal_5 : decode cX4_findGoal 5 = .ok (.iconst 0, 1) := by decide +kernel
theorem dX4_findGoal_6 : decode cX4_findGoal 6 = .ok (.istore_n 2, 1) := by decide +kernel
theorem dX4_findGoal_7 : decode cX4_findGoal 7 = .ok (.iload_n 2, 1) := by decide +kernel
theorem dX4_findGoal_8 : decode cX4_findGoal 8 = .ok (.aload_n 0, 1) := by decide +kernel
theorem dX4_findGoal_9 : decode cX4_findGoal 9 = .ok (.getfield 41, 3) := by decide +kernel
theorem dX4_findGoal_12 : decode cX4_findGoal 12 = .ok (.if_icmp .ge 36, 3) := by decide +kernel
theorem dX4_findGoal_15 : decode cX4_findGoal 15 = .ok (.iload_n 2, 1) := by decide +kernel
theorem dX4_findGoal_16 : decode cX4_findGoal 16 = .ok (.sipush 12288, 3) := by decide +kernel
theorem dX4_findGoal_19 : decode cX4_findGoal 19 = .ok (.if_icmp .ge 29, 3) := by decide +kernel
theorem dX4_findGoal_22 : decode cX4_findGoal 22 = .ok (.aload_n 0, 1) := by decide +kernel
theorem dX4_findGoal_23 : decode cX4_findGoal 23 = .ok (.aload_n 0, 1) := by decide +kernel
theorem dX4_findGoal_24 : decode cX4_findGoal 24 = .ok (.getfield 23, 3) := by decide +kernel
theorem dX4_findGoal_27 : decode cX4_findGoal 27 = .ok (.iload_n 2, 1) := by decide +kernel
theorem dX4_findGoal_28 : decode cX4_findGoal 28 = .ok (.iaload, 1) := by decide +kernel
theorem dX4_findGoal_29 : decode cX4_findGoal 29 = .ok (.invokevirtual 45, 3) := by decide +kernel
theorem dX4_findGoal_32 : decode cX4_findGoal 32 = .ok (.ifCond .eq 5, 3) := by decide +kernel
theorem dX4_findGoal_35 : decode cX4_findGoal 35 = .ok (.iload_n 2, 1) := by decide +kernel
theorem dX4_findGoal_36 : decode cX4_findGoal 36 = .ok (.ireturn, 1) := by decide +kernel
theorem dX4_findGoal_37 : decode cX4_findGoal 37 = .ok (.aload_n 0, 1) := by decide +kernel
theorem dX4_findGoal_38 : decode cX4_findGoal 38 = .ok (.iload_n 2, 1) := by decide +kernel
theorem dX4_findGoal_39 : decode cX4_findGoal 39 = .ok (.invokevirtual 49, 3) := by decide +kernel
theorem dX4_findGoal_42 : decode cX4_findGoal 42 = .ok (.iinc 2 1, 3) := by decide +kernel
theorem dX4_findGoal_45 : decode cX4_findGoal 45 = .ok (.goto (-38), 3) := by decide +kernel
theorem dX4_findGoal_48 : decode cX4_findGoal 48 = .ok (.bipush (-3), 2) := by decide +kernel
theorem dX4_findGoal_50 : decode cX4_findGoal 50 = .ok (.ireturn, 1) := by decide +kernel
set_option maxRecDepth 20000 in
theorem ggX4_findAll_X4_begin : GoodIn wsX4_findAll wsX4_begin := goodIn_r _ [6, 7, 8, 9, 1, 10, 11, 12, 13, 14, 15, 16, 17, 18, 19, 20, 21, 22, 23, 114, 115, 116, 117, 118, 119, 120, 121] (by decide +kernel) (by decide +kernel)
set_option maxRecDepth 20000 in
theorem gX4_findAll_X4_begin : GoodIn wsX4_findAll (wsV RX4 37 RX4 yX4_begin wsX4_begin) := goodIn_app (goodIn_of _ (by decide +kernel)) ggX4_findAll_X4_begin
set_option maxRecDepth 20000 in
theorem ggX4_findAll_X4_goOn : GoodIn wsX4_findAll wsX4_goOn := goodIn_r _ [27, 8, 28, 29, 30, 31, 32, 33, 34, 35, 36, 37, 38, 39, 40, 41, 42, 43, 44, 45, 46, 47, 48, 49, 50, 51, 52, 53, 54, 55, 56, 57, 58, 59, 60, 61, 62, 63, 64, 65, 66, 67, 68, 69, 70, 71, 72, 73, 74, 75, 76, 77, 78, 79, 80, 81, 82, 83, 84, 85, 86, 87, 88, 89, 90, 91, 92, 93, 94, 5, 95, 7, 1, 9, 96, 97, 98, 99, 13, 100, 15, 20, 21, 22, 23, 101, 102, 103, 104, 105, 106, 107, 108, 109, 110, 111, 112, 113, 114, 115, 116, 117, 118, 119, 120, 122, 123, 124, 125, 126, 127, 128, 129, 130, 131, 132, 133, 134, 135, 121] (by decide +kernel) (by decide +kernel)
set_option maxRecDepth 20000 in
theorem gX4_findAll_X4_goOn : GoodIn wsX4_findAll (wsV RX4 49 RX4 yX4_goOn wsX4_goOn) := goodIn_app (goodIn_of _ (by decide +kernel)) ggX4_findAll_X4_goOn
theorem dX4_findAll_0 : decode cX4_findAll 0 = .ok (.aload_n 0, 1) := by decide +kernel
theorem dX4_findAll_1 : decode cX4_findAll 1 = .ok (.iload_n 1, 1) := by decide +kernel
theorem dX4_findAll_2 : decode cX4_findAll 2 = .ok (.invokevirtual 37, 3) := by decide +kernel
theorem dX4_findAll_5 : decode cX4_findAll 5 = .ok (.iconst 0, 1) := by decide +kernel
theorem dX4_findAll_6 : decode cX4_findAll 6 = .ok (.istore_n 2, 1) := by decide +kernel
theorem dX4_findAll_7 : decode cX4_findAll 7 = .ok (.iload_n 2, 1) := by decide +kernel
theorem dX4_findAll_8 : decode cX4_findAll 8 = .ok (.aload_n 0, 1) := by decide +kernel
theorem dX4_findAll_9 : decode cX4_findAll 9 = .ok (.getfield 41, 3) := by decide +kernel
theorem dX4_findAll_12 : decode cX4_findAll 12 = .ok (.if_icmp .ge 21, 3) := by decide +kernel
theorem dX4_findAll_15 : decode cX4_findAll 15 = .ok (.iload_n 2, 1) := by decide +kernel
theorem dX4_findAll_16 : decode cX4_findAll 16 = .ok (.sipush 12288, 3) := by decide +kernel
theorem dX4_findAll_19 : decode cX4_findAll 19 = .ok (.if_icmp .ge 14, 3) := by decide +kernel
theorem dX4_findAll_22 : decode cX4_findAll 22 = .ok (.aload_n 0, 1) := by decide +kernel
theorem dX4_findAll_23 : decode cX4_findAll 23 = .ok (.iload_n 2, 1) := by decide +kernel
theorem dX4_findAll_24 : decode cX4_findAll 24 = .ok (.invokevirtual 49, 3) := by decide +kernel
theorem dX4_findAll_27 : decode cX4_findAll 27 = .ok (.iinc 2 1, 3) := by decide +kernel
theorem dX4_findAll_30 : decode cX4_findAll 30 = .ok (.goto (-23), 3) := by decide +kernel
theorem dX4_findAll_33 : decode cX4_findAll 33 = .ok (.return_, 1) := by decide +kernel
set_option maxRecDepth 20000 in
theorem ggX4_allLeadToGoal_X3_clear : GoodIn wsX4_allLeadToGoal wsX3_clear := goodIn_r _ [8, 9, 10, 11, 12, 13, 120] (by decide +kernel) (by decide +kernel)
set_option maxRecDepth 20000 in
theorem gX4_allLeadToGoal_X3_clear : GoodIn wsX4_allLeadToGoal (wsV RX4 52 RX3 yX3_clear wsX3_clear) := goodIn_app (goodIn_of _ (by decide +kernel)) ggX4_allLeadToGoal_X3_clear
set_option maxRecDepth 20000 in
theorem ggX4_allLeadToGoal_X3_has : GoodIn wsX4_allLeadToGoal wsX3_has := goodIn_r _ [17, 9, 120] (by decide +kernel) (by decide +kernel)
set_option maxRecDepth 20000 in
theorem gX4_allLeadToGoal_X3_has : GoodIn wsX4_allLeadToGoal (wsV RX4 55 RX3 yX3_has wsX3_has) := goodIn_app (goodIn_of _ (by decide +kernel)) ggX4_allLeadToGoal_X3_has
set_option maxRecDepth 20000 in
theorem ggX4_allLeadToGoal_X4_isAtGoal : GoodIn wsX4_allLeadToGoal wsX4_isAtGoal := goodIn_r _ [22, 23, 24, 25, 26, 27, 28, 113, 114, 115, 116, 117, 118, 119, 121, 122, 123, 124, 125, 126, 127, 128, 129, 130, 131, 132, 133, 134] (by decide +kernel) (by decide +kernel)
set_option maxRecDepth 20000 in
theorem gX4_allLeadToGoal_X4_isAtGoal : GoodIn wsX4_allLeadToGoal (wsV RX4 45 RX4 yX4_isAtGoal wsX4_isAtGoal) := goodIn_app (goodIn_of _ (by decide +kernel)) ggX4_allLeadToGoal_X4_isAtGoal
set_option maxRecDepth 20000 in
theorem ggX4_allLeadToGoal_X4_leadsToSaved : GoodIn wsX4_allLeadToGoal wsX4_leadsToSaved := goodIn_r _ [32, 23, 33, 25, 26, 27, 28, 34, 35, 36, 37, 38, 39, 40, 41, 42, 43, 44, 45, 46, 47, 48, 49, 50, 51, 52, 53, 54, 55, 56, 57, 58, 59, 60, 61, 62, 63, 64, 65, 66, 67, 68, 69, 70, 71, 72, 73, 74, 75, 76, 77, 78, 79, 80, 81, 82, 83, 84, 85, 86, 87, 88, 89, 90, 91, 92, 93, 94, 21, 95, 1, 14, 15, 16, 7, 17, 9, 96, 97, 98, 99, 100, 101, 102, 103, 104, 105, 106, 107, 108, 113, 114, 115, 116, 117, 118, 119, 121, 122, 123, 124, 125, 126, 127, 128, 129, 130, 131, 132, 133, 134, 120] (by decide +kernel) (by decide +kernel)
set_option maxRecDepth 20000 in
theorem gX4_allLeadToGoal_X4_leadsToSaved : GoodIn wsX4_allLeadToGoal (wsV RX4 58 RX4 yX4_leadsToSaved wsX4_leadsToSaved) := goodIn_app (goodIn_of _ (by decide +kernel)) ggX4_allLeadToGoal_X4_leadsToSaved
set_option maxRecDepth 20000 in
theorem ggX4_allLeadToGoal_X3_add : GoodIn wsX4_allLeadToGoal wsX3_add := goodIn_r _ [112, 9, 120] (by decide +kernel) (by decide +kernel)
set_option maxRecDepth 20000 in
theorem gX4_allLeadToGoal_X3_add : GoodIn wsX4_allLeadToGoal (wsV RX4 61 RX3 yX3_add wsX3_add) := goodIn_app (goodIn_of _ (by decide +kernel)) ggX4_allLeadToGoal_X3_add
theorem dX4_allLeadToGoal_0 : decode cX4_allLeadToGoal 0 = .ok (.aload_n 0, 1) := by decide +kernel
theorem dX4_allLeadToGoal_1 : decode cX4_allLeadToGoal 1 = .ok (.getfield 18, 3) := by decide +kernel
theorem dX4_allLeadToGoal_4 : decode cX4_allLeadToGoal 4 = .ok (.invokevirtual 52, 3) := by decide +kernel
theorem dX4_allLeadToGoal_7 : decode cX4_allLeadToGoal 7 = .ok (.aload_n 0, 1) := by decide +kernel
theorem dX4_allLeadToGoal_8 : decode cX4_allLeadToGoal 8 = .ok (.getfield 41, 3) := by decide +kernel
theorem dX4_allLeadToGoal_11 : decode cX4_allLeadToGoal 11 = .ok (.istore_n 1, 1) := by decide +kernel
theorem dX4_allLeadToGoal_12 : decode cX4_allLeadToGoal 12 = .ok (.iconst 1, 1) := by decide +kernel
theorem dX4_allLeadToGoal_13 : decode cX4_allLeadToGoal 13 = .ok (.istore_n 2, 1) := by decide +kernel
theorem dX4_allLeadToGoal_14 : decode cX4_allLeadToGoal 14 = .ok (.iconst 0, 1) := by decide +kernel
theorem dX4_allLeadToGoal_15 : decode cX4_allLeadToGoal 15 = .ok (.istore_n 3, 1) := by decide +kernel
theorem dX4_allLeadToGoal_16 : decode cX4_allLeadToGoal 16 = .ok (.iload_n 2, 1) := by decide +kernel
theorem dX4_allLeadToGoal_17 : decode cX4_allLeadToGoal 17 = .ok (.ifCond .eq 95, 3) := by decide +kernel
theorem dX4_allLeadToGoal_20 : decode cX4_allLeadToGoal 20 = .ok (.iload_n 1, 1) := by decide +kernel
theorem dX4_allLeadToGoal_21 : decode cX4_allLeadToGoal 21 = .ok (.ifCond .le 91, 3) := by decide +kernel
theorem dX4_allLeadToGoal_24 : decode cX4_allLeadToGoal 24 = .ok (.iload_n 3, 1) := by decide +kernel
theorem dX4_allLeadToGoal_25 : decode cX4_allLeadToGoal 25 = .ok (.aload_n 0, 1) := by decide +kernel
theorem dX4_allLeadToGoal_26 : decode cX4_allLeadToGoal 26 = .ok (.getfield 41, 3) := by decide +kernel
theorem dX4_allLeadToGoal_29 : decode cX4_allLeadToGoal 29 = .ok (.if_icmp .gt 83, 3) := by decide +kernel
theorem dX4_allLeadToGoal_32 : decode cX4_allLeadToGoal 32 = .ok (.iconst 0, 1) := by decide +kernel
theorem dX4_allLeadToGoal_33 : decode cX4_allLeadToGoal 33 = .ok (.istore_n 2, 1) := by decide +kernel
theorem dX4_allLeadToGoal_34 : decode cX4_allLeadToGoal 34 = .ok (.aload_n 0, 1) := by decide +kernel
theorem dX4_allLeadToGoal_35 : decode cX4_allLeadToGoal 35 = .ok (.getfield 41, 3) := by decide +kernel
theorem dX4_allLeadToGoal_38 : decode cX4_allLeadToGoal 38 = .ok (.iconst 1, 1) := by decide +kernel
theorem dX4_allLeadToGoal_39 : decode cX4_allLeadToGoal 39 = .ok (.isub, 1) := by decide +kernel
theorem dX4_allLeadToGoal_40 : decode cX4_allLeadToGoal 40 = .ok (.istore 4, 2) := by decide +kernel
theorem dX4_allLeadToGoal_42 : decode cX4_allLeadToGoal 42 = .ok (.iload 4, 2) := by decide +kernel
theorem dX4_allLeadToGoal_44 : decode cX4_allLeadToGoal 44 = .ok (.ifCond .lt 62, 3) := by decide +kernel
theorem dX4_allLeadToGoal_47 : decode cX4_allLeadToGoal 47 = .ok (.aload_n 0, 1) := by decide +kernel
theorem dX4_allLeadToGoal_48 : decode cX4_allLeadToGoal 48 = .ok (.getfield 23, 3) := by decide +kernel
theorem dX4_allLeadToGoal_51 : decode cX4_allLeadToGoal 51 = .ok (.iload 4, 2) := by decide +kernel
theorem dX4_allLeadToGoal_53 : decode cX4_allLeadToGoal 53 = .ok (.iaload, 1) := by decide +kernel
theorem dX4_allLeadToGoal_54 : decode cX4_allLeadToGoal 54 = .ok (.istore 5, 2) := by decide +kernel
theorem dX4_allLeadToGoal_56 : decode cX4_allLeadToGoal 56 = .ok (.aload_n 0, 1) := by decide +kernel
theorem dX4_allLeadToGoal_57 : decode cX4_allLeadToGoal 57 = .ok (.getfield 18, 3) := by decide +kernel
theorem dX4_allLeadToGoal_60 : decode cX4_allLeadToGoal 60 = .ok (.iload 5, 2) := by decide +kernel
theorem dX4_allLeadToGoal_62 : decode cX4_allLeadToGoal 62 = .ok (.invokevirtual 55, 3) := by decide +kernel
theorem dX4_allLeadToGoal_65 : decode cX4_allLeadToGoal 65 = .ok (.ifCond .ne 35, 3) := by decide +kernel
theorem dX4_allLeadToGoal_68 : decode cX4_allLeadToGoal 68 = .ok (.aload_n 0, 1) := by decide +kernel
theorem dX4_allLeadToGoal_69 : decode cX4_allLeadToGoal 69 = .ok (.iload 5, 2) := by decide +kernel
theorem dX4_allLeadToGoal_71 : decode cX4_allLeadToGoal 71 = .ok (.invokevirtual 45, 3) := by decide +kernel
theorem dX4_allLeadToGoal_74 : decode cX4_allLeadToGoal 74 = .ok (.ifCond .ne 12, 3) := by decide +kernel
theorem dX4_allLeadToGoal_77 : decode cX4_allLeadToGoal 77 = .ok (.aload_n 0, 1) := by decide +kernel
theorem dX4_allLeadToGoal_78 : decode cX4_allLeadToGoal 78 = .ok (.iload 5, 2) := by decide +kernel
theorem dX4_allLeadToGoal_80 : decode cX4_allLeadToGoal 80 = .ok (.invokevirtual 58, 3) := by decide +kernel
theorem dX4_allLeadToGoal_83 : decode cX4_allLeadToGoal 83 = .ok (.ifCond .eq 17, 3) := by decide +kernel
theorem dX4_allLeadToGoal_86 : decode cX4_allLeadToGoal 86 = .ok (.aload_n 0, 1) := by decide +kernel
theorem dX4_allLeadToGoal_87 : decode cX4_allLeadToGoal 87 = .ok (.getfield 18, 3) := by decide +kernel
theorem dX4_allLeadToGoal_90 : decode cX4_allLeadToGoal 90 = .ok (.iload 5, 2) := by decide +kernel
theorem dX4_allLeadToGoal_92 : decode cX4_allLeadToGoal 92 = .ok (.invokevirtual 61, 3) := by decide +kernel
theorem dX4_allLeadToGoal_95 : decode cX4_allLeadToGoal 95 = .ok (.iinc 1 (-1), 3) := by decide +kernel
theorem dX4_allLeadToGoal_98 : decode cX4_allLeadToGoal 98 = .ok (.iconst 1, 1) := by decide +kernel
theorem dX4_allLeadToGoal_99 : decode cX4_allLeadToGoal 99 = .ok (.istore_n 2, 1) := by decide +kernel
theorem dX4_allLeadToGoal_100 : decode cX4_allLeadToGoal 100 = .ok (.iinc 4 (-1), 3) := by decide +kernel
theorem dX4_allLeadToGoal_103 : decode cX4_allLeadToGoal 103 = .ok (.goto (-61), 3) := by decide +kernel
theorem dX4_allLeadToGoal_106 : decode cX4_allLeadToGoal 106 = .ok (.iinc 3 1, 3) := by decide +kernel
theorem dX4_allLeadToGoal_109 : decode cX4_allLeadToGoal 109 = .ok (.goto (-93), 3) := by decide +kernel
theorem dX4_allLeadToGoal_112 : decode cX4_allLeadToGoal 112 = .ok (.iload_n 1, 1) := by decide +kernel
theorem dX4_allLeadToGoal_113 : decode cX4_allLeadToGoal 113 = .ok (.ifCond .ne 7, 3) := by decide +kernel
theorem dX4_allLeadToGoal_116 : decode cX4_allLeadToGoal 116 = .ok (.iconst 1, 1) := by decide +kernel
theorem dX4_allLeadToGoal_117 : decode cX4_allLeadToGoal 117 = .ok (.goto 4, 3) := by decide +kernel
theorem dX4_allLeadToGoal_120 : decode cX4_allLeadToGoal 120 = .ok (.iconst 0, 1) := by decide +kernel
theorem dX4_allLeadToGoal_121 : decode cX4_allLeadToGoal 121 = .ok (.ireturn, 1) := by decide +kernel
set_option maxRecDepth 20000 in
theorem ggX4_begin_X3_clear : GoodIn wsX4_begin wsX3_clear := goodIn_r _ [9, 10, 11, 12, 13, 14, 26] (by decide +kernel) (by decide +kernel)
set_option maxRecDepth 20000 in
theorem gX4_begin_X3_clear : GoodIn wsX4_begin (wsV RX4 52 RX3 yX3_clear wsX3_clear) := goodIn_app (goodIn_of _ (by decide +kernel)) ggX4_begin_X3_clear
set_option maxRecDepth 20000 in
theorem ggX4_begin_X3_add : GoodIn wsX4_begin wsX3_add := goodIn_r _ [18, 10, 26] (by decide +kernel) (by decide +kernel)
set_option maxRecDepth 20000 in
theorem gX4_begin_X3_add : GoodIn wsX4_begin (wsV RX4 61 RX3 yX3_add wsX3_add) := goodIn_app (goodIn_of _ (by decide +kernel)) ggX4_begin_X3_add
theorem dX4_begin_0 : decode cX4_begin 0 = .ok (.aload_n 0, 1) := by decide +kernel
theorem dX4_begin_1 : decode cX4_begin 1 = .ok (.getfield 12, 3) := by decide +kernel
theorem dX4_begin_4 : decode cX4_begin 4 = .ok (.invokevirtual 52, 3) := by decide +kernel
theorem dX4_begin_7 : decode cX4_begin 7 = .ok (.aload_n 0, 1) := by decide +kernel
theorem dX4_begin_8 : decode cX4_begin 8 = .ok (.getfield 12, 3) := by decide +kernel
theorem dX4_begin_11 : decode cX4_begin 11 = .ok (.iload_n 1, 1) := by decide +kernel
theorem dX4_begin_12 : decode cX4_begin 12 = .ok (.invokevirtual 61, 3) := by decide +kernel
theorem dX4_begin_15 : decode cX4_begin 15 = .ok (.aload_n 0, 1) := by decide +kernel
theorem dX4_begin_16 : decode cX4_begin 16 = .ok (.getfield 23, 3) := by decide +kernel
theorem dX4_begin_19 : decode cX4_begin 19 = .ok (.iconst 0, 1) := by decide +kernel
theorem dX4_begin_20 : decode cX4_begin 20 = .ok (.iload_n 1, 1) := by decide +kernel
theorem dX4_begin_21 : decode cX4_begin 21 = .ok (.iastore, 1) := by decide +kernel
theorem dX4_begin_22 : decode cX4_begin 22 = .ok (.aload_n 0, 1) := by decide +kernel
theorem dX4_begin_23 : decode cX4_begin 23 = .ok (.getfield 27, 3) := by decide +kernel
theorem dX4_begin_26 : decode cX4_begin 26 = .ok (.iconst 0, 1) := by decide +kernel
theorem dX4_begin_27 : decode cX4_begin 27 = .ok (.iconst 0, 1) := by decide +kernel
theorem dX4_begin_28 : decode cX4_begin 28 = .ok (.iastore, 1) := by decide +kernel
theorem dX4_begin_29 : decode cX4_begin 29 = .ok (.aload_n 0, 1) := by decide +kernel
theorem dX4_begin_30 : decode cX4_begin 30 = .ok (.iconst 1, 1) := by decide +kernel
theorem dX4_begin_31 : decode cX4_begin 31 = .ok (.putfield 41, 3) := by decide +kernel
theorem dX4_begin_34 : decode cX4_begin 34 = .ok (.return_, 1) := by decide +kernel
set_option maxRecDepth 20000 in
theorem ggX4_goOn_X5_roomOf : GoodIn wsX4_goOn wsX5_roomOf := goodIn_r _ [7] (by decide +kernel) (by decide +kernel)
set_option maxRecDepth 20000 in
theorem gX4_goOn_X5_roomOf : GoodIn wsX4_goOn (va_wsS RX4 69 yX5_roomOf wsX5_roomOf) := goodIn_app (goodIn_of _ (by decide +kernel)) ggX4_goOn_X5_roomOf
set_option maxRecDepth 20000 in
theorem ggX4_goOn_X0_afterWalking : GoodIn wsX4_goOn wsX0_afterWalking := goodIn_r _ [12, 13, 14, 15, 16, 5, 6, 7, 17, 18, 19, 11, 20, 21, 22, 23, 24, 25, 26, 27, 28, 29, 30, 31, 32, 33, 34, 35, 36, 37, 38, 39, 40, 41, 42, 43, 44, 45, 46, 47, 48, 49, 50, 51, 52, 53, 54, 55, 56, 57, 58, 59, 60, 61, 62, 63, 64, 65, 105, 106, 107, 108, 109, 110, 111, 112, 113, 114, 115, 116, 117, 118] (by decide +kernel) (by decide +kernel)
set_option maxRecDepth 20000 in
theorem gX4_goOn_X0_afterWalking : GoodIn wsX4_goOn (wsV RX4 73 RX0 yX0_afterWalking wsX0_afterWalking) := goodIn_app (goodIn_of _ (by decide +kernel)) ggX4_goOn_X0_afterWalking
set_option maxRecDepth 20000 in
theorem ggX4_goOn_X4_reach : GoodIn wsX4_goOn wsX4_reach := goodIn_r _ [70, 71, 72, 1, 73, 74, 75, 76, 77, 78, 79, 80, 81, 82, 83, 84, 98, 99, 100, 101, 102, 103, 104, 119] (by decide +kernel) (by decide +kernel)
set_option maxRecDepth 20000 in
theorem gX4_goOn_X4_reach : GoodIn wsX4_goOn (wsV RX4 77 RX4 yX4_reach wsX4_reach) := goodIn_app (goodIn_of _ (by decide +kernel)) ggX4_goOn_X4_reach
set_option maxRecDepth 20000 in
theorem ggX4_goOn_X0_afterTaking : GoodIn wsX4_goOn wsX0_afterTaking := goodIn_r _ [88, 89, 16, 5, 6, 7, 105, 106, 107, 108, 109, 110, 111, 112, 113, 114, 115, 116, 117, 118] (by decide +kernel) (by decide +kernel)
set_option maxRecDepth 20000 in
theorem gX4_goOn_X0_afterTaking : GoodIn wsX4_goOn (wsV RX4 81 RX0 yX0_afterTaking wsX0_afterTaking) := goodIn_app (goodIn_of _ (by decide +kernel)) ggX4_goOn_X0_afterTaking
set_option maxRecDepth 20000 in
theorem ggX4_goOn_X0_afterToggling : GoodIn wsX4_goOn wsX0_afterToggling := goodIn_r _ [93, 94, 16, 5, 6, 7, 95, 96, 97, 105, 106, 107, 108, 109, 110, 111, 112, 113, 114, 115, 116, 117, 118] (by decide +kernel) (by decide +kernel)
set_option maxRecDepth 20000 in
theorem gX4_goOn_X0_afterToggling : GoodIn wsX4_goOn (wsV RX4 84 RX0 yX0_afterToggling wsX0_afterToggling) := goodIn_app (goodIn_of _ (by decide +kernel)) ggX4_goOn_X0_afterToggling
theorem dX4_goOn_0 : decode cX4_goOn 0 = .ok (.aload_n 0, 1) := by decide +kernel
theorem dX4_goOn_1 : decode cX4_goOn 1 = .ok (.getfield 23, 3) := by decide +kernel
theorem dX4_goOn_4 : decode cX4_goOn 4 = .ok (.iload_n 1, 1) := by decide +kernel
theorem dX4_goOn_5 : decode cX4_goOn 5 = .ok (.iaload, 1) := by decide +kernel
theorem dX4_goOn_6 : decode cX4_goOn 6 = .ok (.istore_n 2, 1) := by decide +kernel
theorem dX4_goOn_7 : decode cX4_goOn 7 = .ok (.aload_n 0, 1) := by decide +kernel
theorem dX4_goOn_8 : decode cX4_goOn 8 = .ok (.getfield 33, 3) := by decide +kernel
theorem dX4_goOn_11 : decode cX4_goOn 11 = .ok (.getfield 64, 3) := by decide +kernel
theorem dX4_goOn_14 : decode cX4_goOn 14 = .ok (.iload_n 2, 1) := by decide +kernel
theorem dX4_goOn_15 : decode cX4_goOn 15 = .ok (.invokestatic 69, 3) := by decide +kernel
theorem dX4_goOn_18 : decode cX4_goOn 18 = .ok (.iaload, 1) := by decide +kernel
theorem dX4_goOn_19 : decode cX4_goOn 19 = .ok (.istore_n 3, 1) := by decide +kernel
theorem dX4_goOn_20 : decode cX4_goOn 20 = .ok (.iconst 0, 1) := by decide +kernel
theorem dX4_goOn_21 : decode cX4_goOn 21 = .ok (.istore 4, 2) := by decide +kernel
theorem dX4_goOn_23 : decode cX4_goOn 23 = .ok (.iload 4, 2) := by decide +kernel
theorem dX4_goOn_25 : decode cX4_goOn 25 = .ok (.iload_n 3, 1) := by decide +kernel
theorem dX4_goOn_26 : decode cX4_goOn 26 = .ok (.if_icmp .ge 26, 3) := by decide +kernel
theorem dX4_goOn_29 : decode cX4_goOn 29 = .ok (.aload_n 0, 1) := by decide +kernel
theorem dX4_goOn_30 : decode cX4_goOn 30 = .ok (.aload_n 0, 1) := by decide +kernel
theorem dX4_goOn_31 : decode cX4_goOn 31 = .ok (.getfield 33, 3) := by decide +kernel
theorem dX4_goOn_34 : decode cX4_goOn 34 = .ok (.iload_n 2, 1) := by decide +kernel
theorem dX4_goOn_35 : decode cX4_goOn 35 = .ok (.iload 4, 2) := by decide +kernel
theorem dX4_goOn_37 : decode cX4_goOn 37 = .ok (.invokevirtual 73, 3) := by decide +kernel
theorem dX4_goOn_40 : decode cX4_goOn 40 = .ok (.iload_n 1, 1) := by decide +kernel
theorem dX4_goOn_41 : decode cX4_goOn 41 = .ok (.iload 4, 2) := by decide +kernel
theorem dX4_goOn_43 : decode cX4_goOn 43 = .ok (.invokevirtual 77, 3) := by decide +kernel
theorem dX4_goOn_46 : decode cX4_goOn 46 = .ok (.iinc 4 1, 3) := by decide +kernel
theorem dX4_goOn_49 : decode cX4_goOn 49 = .ok (.goto (-26), 3) := by decide +kernel
theorem dX4_goOn_52 : decode cX4_goOn 52 = .ok (.aload_n 0, 1) := by decide +kernel
theorem dX4_goOn_53 : decode cX4_goOn 53 = .ok (.aload_n 0, 1) := by decide +kernel
theorem dX4_goOn_54 : decode cX4_goOn 54 = .ok (.getfield 33, 3) := by decide +kernel
theorem dX4_goOn_57 : decode cX4_goOn 57 = .ok (.iload_n 2, 1) := by decide +kernel
theorem dX4_goOn_58 : decode cX4_goOn 58 = .ok (.invokevirtual 81, 3) := by decide +kernel
theorem dX4_goOn_61 : decode cX4_goOn 61 = .ok (.iload_n 1, 1) := by decide +kernel
theorem dX4_goOn_62 : decode cX4_goOn 62 = .ok (.bipush 100, 2) := by decide +kernel
theorem dX4_goOn_64 : decode cX4_goOn 64 = .ok (.invokevirtual 77, 3) := by decide +kernel
theorem dX4_goOn_67 : decode cX4_goOn 67 = .ok (.aload_n 0, 1) := by decide +kernel
theorem dX4_goOn_68 : decode cX4_goOn 68 = .ok (.aload_n 0, 1) := by decide +kernel
theorem dX4_goOn_69 : decode cX4_goOn 69 = .ok (.getfield 33, 3) := by decide +kernel
theorem dX4_goOn_72 : decode cX4_goOn 72 = .ok (.iload_n 2, 1) := by decide +kernel
theorem dX4_goOn_73 : decode cX4_goOn 73 = .ok (.invokevirtual 84, 3) := by decide +kernel
theorem dX4_goOn_76 : decode cX4_goOn 76 = .ok (.iload_n 1, 1) := by decide +kernel
theorem dX4_goOn_77 : decode cX4_goOn 77 = .ok (.sipush 200, 3) := by decide +kernel
theorem dX4_goOn_80 : decode cX4_goOn 80 = .ok (.invokevirtual 77, 3) := by decide +kernel
theorem dX4_goOn_83 : decode cX4_goOn 83 = .ok (.return_, 1) := by decide +kernel
set_option maxRecDepth 20000 in
theorem ggX4_reach_X3_has : GoodIn wsX4_reach wsX3_has := goodIn_r _ [10, 11, 23] (by decide +kernel) (by decide +kernel)
set_option maxRecDepth 20000 in
theorem gX4_reach_X3_has : GoodIn wsX4_reach (wsV RX4 55 RX3 yX3_has wsX3_has) := goodIn_app (goodIn_of _ (by decide +kernel)) ggX4_reach_X3_has
set_option maxRecDepth 20000 in
theorem ggX4_reach_X3_add : GoodIn wsX4_reach wsX3_add := goodIn_r _ [15, 11, 23] (by decide +kernel) (by decide +kernel)
set_option maxRecDepth 20000 in
theorem gX4_reach_X3_add : GoodIn wsX4_reach (wsV RX4 61 RX3 yX3_add wsX3_add) := goodIn_app (goodIn_of _ (by decide +kernel)) ggX4_reach_X3_add
theorem dX4_reach_0 : decode cX4_reach 0 = .ok (.iload_n 1, 1) := by decide +kernel
theorem dX4_reach_1 : decode cX4_reach 1 = .ok (.ifCond .lt 24, 3) := by decide +kernel
theorem dX4_reach_4 : decode cX4_reach 4 = .ok (.aload_n 0, 1) := by decide +kernel
theorem dX4_reach_5 : decode cX4_reach 5 = .ok (.getfield 12, 3) := by decide +kernel
theorem dX4_reach_8 : decode cX4_reach 8 = .ok (.iload_n 1, 1) := by decide +kernel
theorem dX4_reach_9 : decode cX4_reach 9 = .ok (.invokevirtual 55, 3) := by decide +kernel
theorem dX4_reach_12 : decode cX4_reach 12 = .ok (.ifCond .ne 13, 3) := by decide +kernel
theorem dX4_reach_15 : decode cX4_reach 15 = .ok (.aload_n 0, 1) := by decide +kernel
theorem dX4_reach_16 : decode cX4_reach 16 = .ok (.getfield 41, 3) := by decide +kernel
theorem dX4_reach_19 : decode cX4_reach 19 = .ok (.sipush 12288, 3) := by decide +kernel
theorem dX4_reach_22 : decode cX4_reach 22 = .ok (.if_icmp .lt 4, 3) := by decide +kernel
theorem dX4_reach_25 : decode cX4_reach 25 = .ok (.return_, 1) := by decide +kernel
theorem dX4_reach_26 : decode cX4_reach 26 = .ok (.aload_n 0, 1) := by decide +kernel
theorem dX4_reach_27 : decode cX4_reach 27 = .ok (.getfield 12, 3) := by decide +kernel
theorem dX4_reach_30 : decode cX4_reach 30 = .ok (.iload_n 1, 1) := by decide +kernel
theorem dX4_reach_31 : decode cX4_reach 31 = .ok (.invokevirtual 61, 3) := by decide +kernel
theorem dX4_reach_34 : decode cX4_reach 34 = .ok (.aload_n 0, 1) := by decide +kernel
theorem dX4_reach_35 : decode cX4_reach 35 = .ok (.getfield 23, 3) := by decide +kernel
theorem dX4_reach_38 : decode cX4_reach 38 = .ok (.aload_n 0, 1) := by decide +kernel
theorem dX4_reach_39 : decode cX4_reach 39 = .ok (.getfield 41, 3) := by decide +kernel
theorem dX4_reach_42 : decode cX4_reach 42 = .ok (.iload_n 1, 1) := by decide +kernel
theorem dX4_reach_43 : decode cX4_reach 43 = .ok (.iastore, 1) := by decide +kernel
theorem dX4_reach_44 : decode cX4_reach 44 = .ok (.aload_n 0, 1) := by decide +kernel
theorem dX4_reach_45 : decode cX4_reach 45 = .ok (.getfield 27, 3) := by decide +kernel
theorem dX4_reach_48 : decode cX4_reach 48 = .ok (.aload_n 0, 1) := by decide +kernel
theorem dX4_reach_49 : decode cX4_reach 49 = .ok (.getfield 41, 3) := by decide +kernel
theorem dX4_reach_52 : decode cX4_reach 52 = .ok (.aload_n 0, 1) := by decide +kernel
theorem dX4_reach_53 : decode cX4_reach 53 = .ok (.getfield 27, 3) := by decide +kernel
theorem dX4_reach_56 : decode cX4_reach 56 = .ok (.iload_n 2, 1) := by decide +kernel
theorem dX4_reach_57 : decode cX4_reach 57 = .ok (.iaload, 1) := by decide +kernel
theorem dX4_reach_58 : decode cX4_reach 58 = .ok (.iconst 1, 1) := by decide +kernel
theorem dX4_reach_59 : decode cX4_reach 59 = .ok (.iadd, 1) := by decide +kernel
theorem dX4_reach_60 : decode cX4_reach 60 = .ok (.iastore, 1) := by decide +kernel
theorem dX4_reach_61 : decode cX4_reach 61 = .ok (.aload_n 0, 1) := by decide +kernel
theorem dX4_reach_62 : decode cX4_reach 62 = .ok (.getfield 30, 3) := by decide +kernel
theorem dX4_reach_65 : decode cX4_reach 65 = .ok (.aload_n 0, 1) := by decide +kernel
theorem dX4_reach_66 : decode cX4_reach 66 = .ok (.getfield 41, 3) := by decide +kernel
theorem dX4_reach_69 : decode cX4_reach 69 = .ok (.iload_n 2, 1) := by decide +kernel
theorem dX4_reach_70 : decode cX4_reach 70 = .ok (.ifCond .ne 7, 3) := by decide +kernel
theorem dX4_reach_73 : decode cX4_reach 73 = .ok (.iload_n 3, 1) := by decide +kernel
theorem dX4_reach_74 : decode cX4_reach 74 = .ok (.goto 9, 3) := by decide +kernel
theorem dX4_reach_77 : decode cX4_reach 77 = .ok (.aload_n 0, 1) := by decide +kernel
theorem dX4_reach_78 : decode cX4_reach 78 = .ok (.getfield 30, 3) := by decide +kernel
theorem dX4_reach_81 : decode cX4_reach 81 = .ok (.iload_n 2, 1) := by decide +kernel
theorem dX4_reach_82 : decode cX4_reach 82 = .ok (.iaload, 1) := by decide +kernel
theorem dX4_reach_83 : decode cX4_reach 83 = .ok (.iastore, 1) := by decide +kernel
theorem dX4_reach_84 : decode cX4_reach 84 = .ok (.aload_n 0, 1) := by decide +kernel
theorem dX4_reach_85 : decode cX4_reach 85 = .ok (.dup, 1) := by decide +kernel
theorem dX4_reach_86 : decode cX4_reach 86 = .ok (.getfield 41, 3) := by decide +kernel
theorem dX4_reach_89 : decode cX4_reach 89 = .ok (.iconst 1, 1) := by decide +kernel
theorem dX4_reach_90 : decode cX4_reach 90 = .ok (.iadd, 1) := by decide +kernel
theorem dX4_reach_91 : decode cX4_reach 91 = .ok (.putfield 41, 3) := by decide +kernel
theorem dX4_reach_94 : decode cX4_reach 94 = .ok (.return_, 1) := by decide +kernel
set_option maxRecDepth 20000 in
theorem ggX4_isAtGoal_X5_roomOf : GoodIn wsX4_isAtGoal wsX5_roomOf := goodIn_r _ [6] (by decide +kernel) (by decide +kernel)
set_option maxRecDepth 20000 in
theorem gX4_isAtGoal_X5_roomOf : GoodIn wsX4_isAtGoal (va_wsS RX4 69 yX5_roomOf wsX5_roomOf) := goodIn_app (goodIn_of _ (by decide +kernel)) ggX4_isAtGoal_X5_roomOf
theorem dX4_isAtGoal_0 : decode cX4_isAtGoal 0 = .ok (.iload_n 1, 1) := by decide +kernel
theorem dX4_isAtGoal_1 : decode cX4_isAtGoal 1 = .ok (.invokestatic 69, 3) := by decide +kernel
theorem dX4_isAtGoal_4 : decode cX4_isAtGoal 4 = .ok (.aload_n 0, 1) := by decide +kernel
theorem dX4_isAtGoal_5 : decode cX4_isAtGoal 5 = .ok (.getfield 33, 3) := by decide +kernel
theorem dX4_isAtGoal_8 : decode cX4_isAtGoal 8 = .ok (.getfield 87, 3) := by decide +kernel
theorem dX4_isAtGoal_11 : decode cX4_isAtGoal 11 = .ok (.if_icmp .ne 7, 3) := by decide +kernel
theorem dX4_isAtGoal_14 : decode cX4_isAtGoal 14 = .ok (.iconst 1, 1) := by decide +kernel
theorem dX4_isAtGoal_15 : decode cX4_isAtGoal 15 = .ok (.goto 4, 3) := by decide +kernel
theorem dX4_isAtGoal_18 : decode cX4_isAtGoal 18 = .ok (.iconst 0, 1) := by decide +kernel
theorem dX4_isAtGoal_19 : decode cX4_isAtGoal 19 = .ok (.ireturn, 1) := by decide +kernel
set_option maxRecDepth 20000 in
theorem ggX4_leadsToSaved_X5_roomOf : GoodIn wsX4_leadsToSaved wsX5_roomOf := goodIn_r _ [6] (by decide +kernel) (by decide +kernel)
set_option maxRecDepth 20000 in
theorem gX4_leadsToSaved_X5_roomOf : GoodIn wsX4_leadsToSaved (va_wsS RX4 69 yX5_roomOf wsX5_roomOf) := goodIn_app (goodIn_of _ (by decide +kernel)) ggX4_leadsToSaved_X5_roomOf
set_option maxRecDepth 20000 in
theorem ggX4_leadsToSaved_X0_afterWalking : GoodIn wsX4_leadsToSaved wsX0_afterWalking := goodIn_r _ [11, 12, 13, 14, 15, 4, 5, 6, 16, 17, 18, 10, 19, 20, 21, 22, 23, 24, 25, 26, 27, 28, 29, 30, 31, 32, 33, 34, 35, 36, 37, 38, 39, 40, 41, 42, 43, 44, 45, 46, 47, 48, 49, 50, 51, 52, 53, 54, 55, 56, 57, 58, 59, 60, 61, 62, 63, 64, 97, 98, 99, 100, 101, 102, 103, 104, 105, 106, 107, 108, 109, 110] (by decide +kernel) (by decide +kernel)
set_option maxRecDepth 20000 in
theorem gX4_leadsToSaved_X0_afterWalking : GoodIn wsX4_leadsToSaved (wsV RX4 73 RX0 yX0_afterWalking wsX0_afterWalking) := goodIn_app (goodIn_of _ (by decide +kernel)) ggX4_leadsToSaved_X0_afterWalking
set_option maxRecDepth 20000 in
theorem ggX4_leadsToSaved_X4_isSaved : GoodIn wsX4_leadsToSaved wsX4_isSaved := goodIn_r _ [69, 70, 71, 72, 73, 74, 75, 76, 90, 91, 92, 93, 94, 95, 96, 111] (by decide +kernel) (by decide +kernel)
set_option maxRecDepth 20000 in
theorem gX4_leadsToSaved_X4_isSaved : GoodIn wsX4_leadsToSaved (wsV RX4 90 RX4 yX4_isSaved wsX4_isSaved) := goodIn_app (goodIn_of _ (by decide +kernel)) ggX4_leadsToSaved_X4_isSaved
set_option maxRecDepth 20000 in
theorem ggX4_leadsToSaved_X0_afterTaking : GoodIn wsX4_leadsToSaved wsX0_afterTaking := goodIn_r _ [80, 81, 15, 4, 5, 6, 97, 98, 99, 100, 101, 102, 103, 104, 105, 106, 107, 108, 109, 110] (by decide +kernel) (by decide +kernel)
set_option maxRecDepth 20000 in
theorem gX4_leadsToSaved_X0_afterTaking : GoodIn wsX4_leadsToSaved (wsV RX4 81 RX0 yX0_afterTaking wsX0_afterTaking) := goodIn_app (goodIn_of _ (by decide +kernel)) ggX4_leadsToSaved_X0_afterTaking
set_option maxRecDepth 20000 in
theorem ggX4_leadsToSaved_X0_afterToggling : GoodIn wsX4_leadsToSaved wsX0_afterToggling := goodIn_r _ [85, 86, 15, 4, 5, 6, 87, 88, 89, 97, 98, 99, 100, 101, 102, 103, 104, 105, 106, 107, 108, 109, 110] (by decide +kernel) (by decide +kernel)
set_option maxRecDepth 20000 in
theorem gX4_leadsToSaved_X0_afterToggling : GoodIn wsX4_leadsToSaved (wsV RX4 84 RX0 yX0_afterToggling wsX0_afterToggling) := goodIn_app (goodIn_of _ (by decide +kernel)) ggX4_leadsToSaved_X0_afterToggling
theorem dX4_leadsToSaved_0 : decode cX4_leadsToSaved 0 = .ok (.aload_n 0, 1) := by decide +kernel
theorem dX4_leadsToSaved_1 : decode cX4_leadsToSaved 1 = .ok (.getfield 33, 3) := by decide +kernel
theorem dX4_leadsToSaved_4 : decode cX4_leadsToSaved 4 = .ok (.getfield 64, 3) := by decide +kernel
theorem dX4_leadsToSaved_7 : decode cX4_leadsToSaved 7 = .ok (.iload_n 1, 1) := by decide +kernel
theorem dX4_leadsToSaved_8 : decode cX4_leadsToSaved 8 = .ok (.invokestatic 69, 3) := by decide +kernel
theorem dX4_leadsToSaved_11 : decode cX4_leadsToSaved 11 = .ok (.iaload, 1) := by decide +kernel
theorem dX4_leadsToSaved_12 : decode cX4_leadsToSaved 12 = .ok (.istore_n 2, 1) := by decide +kernel
theorem dX4_leadsToSaved_13 : decode cX4_leadsToSaved 13 = .ok (.iconst 0, 1) := by decide +kernel
theorem dX4_leadsToSaved_14 : decode cX4_leadsToSaved 14 = .ok (.istore_n 3, 1) := by decide +kernel
theorem dX4_leadsToSaved_15 : decode cX4_leadsToSaved 15 = .ok (.iload_n 3, 1) := by decide +kernel
theorem dX4_leadsToSaved_16 : decode cX4_leadsToSaved 16 = .ok (.iload_n 2, 1) := by decide +kernel
theorem dX4_leadsToSaved_17 : decode cX4_leadsToSaved 17 = .ok (.if_icmp .ge 27, 3) := by decide +kernel
theorem dX4_leadsToSaved_20 : decode cX4_leadsToSaved 20 = .ok (.aload_n 0, 1) := by decide +kernel
theorem dX4_leadsToSaved_21 : decode cX4_leadsToSaved 21 = .ok (.aload_n 0, 1) := by decide +kernel
theorem dX4_leadsToSaved_22 : decode cX4_leadsToSaved 22 = .ok (.getfield 33, 3) := by decide +kernel
theorem dX4_leadsToSaved_25 : decode cX4_leadsToSaved 25 = .ok (.iload_n 1, 1) := by decide +kernel
theorem dX4_leadsToSaved_26 : decode cX4_leadsToSaved 26 = .ok (.iload_n 3, 1) := by decide +kernel
theorem dX4_leadsToSaved_27 : decode cX4_leadsToSaved 27 = .ok (.invokevirtual 73, 3) := by decide +kernel
theorem dX4_leadsToSaved_30 : decode cX4_leadsToSaved 30 = .ok (.invokevirtual 90, 3) := by decide +kernel
theorem dX4_leadsToSaved_33 : decode cX4_leadsToSaved 33 = .ok (.ifCond .eq 5, 3) := by decide +kernel
theorem dX4_leadsToSaved_36 : decode cX4_leadsToSaved 36 = .ok (.iconst 1, 1) := by decide +kernel
theorem dX4_leadsToSaved_37 : decode cX4_leadsToSaved 37 = .ok (.ireturn, 1) := by decide +kernel
theorem dX4_leadsToSaved_38 : decode cX4_leadsToSaved 38 = .ok (.iinc 3 1, 3) := by decide +kernel
theorem dX4_leadsToSaved_41 : decode cX4_leadsToSaved 41 = .ok (.goto (-26), 3) := by decide +kernel
theorem dX4_leadsToSaved_44 : decode cX4_leadsToSaved 44 = .ok (.aload_n 0, 1) := by decide +kernel
theorem dX4_leadsToSaved_45 : decode cX4_leadsToSaved 45 = .ok (.aload_n 0, 1) := by decide +kernel
theorem dX4_leadsToSaved_46 : decode cX4_leadsToSaved 46 = .ok (.getfield 33, 3) := by decide +kernel
theorem dX4_leadsToSaved_49 : decode cX4_leadsToSaved 49 = .ok (.iload_n 1, 1) := by decide +kernel
theorem dX4_leadsToSaved_50 : decode cX4_leadsToSaved 50 = .ok (.invokevirtual 81, 3) := by decide +kernel
theorem dX4_leadsToSaved_53 : decode cX4_leadsToSaved 53 = .ok (.invokevirtual 90, 3) := by decide +kernel
theorem dX4_leadsToSaved_56 : decode cX4_leadsToSaved 56 = .ok (.ifCond .ne 18, 3) := by decide +kernel
theorem dX4_leadsToSaved_59 : decode cX4_leadsToSaved 59 = .ok (.aload_n 0, 1) := by decide +kernel
theorem dX4_leadsToSaved_60 : decode cX4_leadsToSaved 60 = .ok (.aload_n 0, 1) := by decide +kernel
theorem dX4_leadsToSaved_61 : decode cX4_leadsToSaved 61 = .ok (.getfield 33, 3) := by decide +kernel
theorem dX4_leadsToSaved_64 : decode cX4_leadsToSaved 64 = .ok (.iload_n 1, 1) := by decide +kernel
theorem dX4_leadsToSaved_65 : decode cX4_leadsToSaved 65 = .ok (.invokevirtual 84, 3) := by decide +kernel
theorem dX4_leadsToSaved_68 : decode cX4_leadsToSaved 68 = .ok (.invokevirtual 90, 3) := by decide +kernel
theorem dX4_leadsToSaved_71 : decode cX4_leadsToSaved 71 = .ok (.ifCond .eq 7, 3) := by decide +kernel
theorem dX4_leadsToSaved_74 : decode cX4_leadsToSaved 74 = .ok (.iconst 1, 1) := by decide +kernel
theorem dX4_leadsToSaved_75 : decode cX4_leadsToSaved 75 = .ok (.goto 4, 3) := by decide +kernel
theorem dX4_leadsToSaved_78 : decode cX4_leadsToSaved 78 = .ok (.iconst 0, 1) := by decide +kernel
theorem dX4_leadsToSaved_79 : decode cX4_leadsToSaved 79 = .ok (.ireturn, 1) := by decide +kernel
set_option maxRecDepth 20000 in
theorem ggX4_isSaved_X3_has : GoodIn wsX4_isSaved wsX3_has := goodIn_r _ [6, 7, 15] (by decide +kernel) (by decide +kernel)
set_option maxRecDepth 20000 in
theorem gX4_isSaved_X3_has : GoodIn wsX4_isSaved (wsV RX4 55 RX3 yX3_has wsX3_has) := goodIn_app (goodIn_of _ (by decide +kernel)) ggX4_isSaved_X3_has
theorem dX4_isSaved_0 : decode cX4_isSaved 0 = .ok (.iload_n 1, 1) := by decide +kernel
theorem dX4_isSaved_1 : decode cX4_isSaved 1 = .ok (.ifCond .lt 18, 3) := by decide +kernel
theorem dX4_isSaved_4 : decode cX4_isSaved 4 = .ok (.aload_n 0, 1) := by decide +kernel
theorem dX4_isSaved_5 : decode cX4_isSaved 5 = .ok (.getfield 18, 3) := by decide +kernel
theorem dX4_isSaved_8 : decode cX4_isSaved 8 = .ok (.iload_n 1, 1) := by decide +kernel
theorem dX4_isSaved_9 : decode cX4_isSaved 9 = .ok (.invokevirtual 55, 3) := by decide +kernel
theorem dX4_isSaved_12 : decode cX4_isSaved 12 = .ok (.ifCond .eq 7, 3) := by decide +kernel
theorem dX4_isSaved_15 : decode cX4_isSaved 15 = .ok (.iconst 1, 1) := by decide +kernel
theorem dX4_isSaved_16 : decode cX4_isSaved 16 = .ok (.goto 4, 3) := by decide +kernel
theorem dX4_isSaved_19 : decode cX4_isSaved 19 = .ok (.iconst 0, 1) := by decide +kernel
theorem dX4_isSaved_20 : decode cX4_isSaved 20 = .ok (.ireturn, 1) := by decide +kernel
theorem dX5_roomOf_0 : decode cX5_roomOf 0 = .ok (.iload_n 0, 1) := by decide +kernel
theorem dX5_roomOf_1 : decode cX5_roomOf 1 = .ok (.bipush 10, 2) := by decide +kernel
theorem dX5_roomOf_3 : decode cX5_roomOf 3 = .ok (.ishr, 1) := by decide +kernel
theorem dX5_roomOf_4 : decode cX5_roomOf 4 = .ok (.ireturn, 1) := by decide +kernel
theorem dX5_keysOf_0 : decode cX5_keysOf 0 = .ok (.iload_n 0, 1) := by decide +kernel
theorem dX5_keysOf_1 : decode cX5_keysOf 1 = .ok (.bipush 7, 2) := by decide +kernel
theorem dX5_keysOf_3 : decode cX5_keysOf 3 = .ok (.iand, 1) := by decide +kernel
theorem dX5_keysOf_4 : decode cX5_keysOf 4 = .ok (.ireturn, 1) := by decide +kernel
theorem dX5_positionOf_0 : decode cX5_positionOf 0 = .ok (.iload_n 0, 1) := by decide +kernel
theorem dX5_positionOf_1 : decode cX5_positionOf 1 = .ok (.sipush 512, 3) := by decide +kernel
theorem dX5_positionOf_4 : decode cX5_positionOf 4 = .ok (.iand, 1) := by decide +kernel
theorem dX5_positionOf_5 : decode cX5_positionOf 5 = .ok (.ifCond .ne 7, 3) := by decide +kernel
theorem dX5_positionOf_8 : decode cX5_positionOf 8 = .ok (.iconst 0, 1) := by decide +kernel
theorem dX5_positionOf_9 : decode cX5_positionOf 9 = .ok (.goto 4, 3) := by decide +kernel
theorem dX5_positionOf_12 : decode cX5_positionOf 12 = .ok (.iconst 1, 1) := by decide +kernel
theorem dX5_positionOf_13 : decode cX5_positionOf 13 = .ok (.ireturn, 1) := by decide +kernel
set_option maxRecDepth 20000 in
theorem ggX5_smallKeysLeft_J6_bitCount_0f7a4 : GoodIn wsX5_smallKeysLeft wsJ6_bitCount_0f7a4 := goodIn_r _ [4, 5, 6, 7] (by decide +kernel) (by decide +kernel)
set_option maxRecDepth 20000 in
theorem gX5_smallKeysLeft_J6_bitCount_0f7a4 : GoodIn wsX5_smallKeysLeft (va_wsS RX5 11 yJ6_bitCount_0f7a4 wsJ6_bitCount_0f7a4) := goodIn_app (goodIn_of _ (by decide +kernel)) ggX5_smallKeysLeft_J6_bitCount_0f7a4
theorem dX5_smallKeysLeft_0 : decode cX5_smallKeysLeft 0 = .ok (.iload_n 0, 1) := by decide +kernel
theorem dX5_smallKeysLeft_1 : decode cX5_smallKeysLeft 1 = .ok (.bipush 56, 2) := by decide +kernel
theorem dX5_smallKeysLeft_3 : decode cX5_smallKeysLeft 3 = .ok (.iand, 1) := by decide +kernel
theorem dX5_smallKeysLeft_4 : decode cX5_smallKeysLeft 4 = .ok (.invokestatic 11, 3) := by decide +kernel
theorem dX5_smallKeysLeft_7 : decode cX5_smallKeysLeft 7 = .ok (.iload_n 0, 1) := by decide +kernel
theorem dX5_smallKeysLeft_8 : decode cX5_smallKeysLeft 8 = .ok (.sipush 448, 3) := by decide +kernel
theorem dX5_smallKeysLeft_11 : decode cX5_smallKeysLeft 11 = .ok (.iand, 1) := by decide +kernel
theorem dX5_smallKeysLeft_12 : decode cX5_smallKeysLeft 12 = .ok (.invokestatic 11, 3) := by decide +kernel
theorem dX5_smallKeysLeft_15 : decode cX5_smallKeysLeft 15 = .ok (.isub, 1) := by decide +kernel
theorem dX5_smallKeysLeft_16 : decode cX5_smallKeysLeft 16 = .ok (.ireturn, 1) := by decide +kernel
set_option maxRecDepth 20000 in
theorem ggX5_hasKey_X5_keyBit : GoodIn wsX5_hasKey wsX5_keyBit := goodIn_r _ [4] (by decide +kernel) (by decide +kernel)
set_option maxRecDepth 20000 in
theorem gX5_hasKey_X5_keyBit : GoodIn wsX5_hasKey (va_wsS RX5 17 yX5_keyBit wsX5_keyBit) := goodIn_app (goodIn_of _ (by decide +kernel)) ggX5_hasKey_X5_keyBit
theorem dX5_hasKey_0 : decode cX5_hasKey 0 = .ok (.iload_n 0, 1) := by decide +kernel
theorem dX5_hasKey_1 : decode cX5_hasKey 1 = .ok (.iload_n 1, 1) := by decide +kernel
theorem dX5_hasKey_2 : decode cX5_hasKey 2 = .ok (.invokestatic 17, 3) := by decide +kernel
theorem dX5_hasKey_5 : decode cX5_hasKey 5 = .ok (.iand, 1) := by decide +kernel
theorem dX5_hasKey_6 : decode cX5_hasKey 6 = .ok (.ifCond .eq 7, 3) := by decide +kernel
theorem dX5_hasKey_9 : decode cX5_hasKey 9 = .ok (.iconst 1, 1) := by decide +kernel
theorem dX5_hasKey_10 : decode cX5_hasKey 10 = .ok (.goto 4, 3) := by decide +kernel
theorem dX5_hasKey_13 : decode cX5_hasKey 13 = .ok (.iconst 0, 1) := by decide +kernel
theorem dX5_hasKey_14 : decode cX5_hasKey 14 = .ok (.ireturn, 1) := by decide +kernel
set_option maxRecDepth 20000 in
theorem ggX5_hasOpened_X5_openedBit : GoodIn wsX5_hasOpened wsX5_openedBit := goodIn_r _ [4] (by decide +kernel) (by decide +kernel)
set_option maxRecDepth 20000 in
theorem gX5_hasOpened_X5_openedBit : GoodIn wsX5_hasOpened (va_wsS RX5 20 yX5_openedBit wsX5_openedBit) := goodIn_app (goodIn_of _ (by decide +kernel)) ggX5_hasOpened_X5_openedBit
theorem dX5_hasOpened_0 : decode cX5_hasOpened 0 = .ok (.iload_n 0, 1) := by decide +kernel
theorem dX5_hasOpened_1 : decode cX5_hasOpened 1 = .ok (.iload_n 1, 1) := by decide +kernel
theorem dX5_hasOpened_2 : decode cX5_hasOpened 2 = .ok (.invokestatic 20, 3) := by decide +kernel
theorem dX5_hasOpened_5 : decode cX5_hasOpened 5 = .ok (.iand, 1) := by decide +kernel
theorem dX5_hasOpened_6 : decode cX5_hasOpened 6 = .ok (.ifCond .eq 7, 3) := by decide +kernel
theorem dX5_hasOpened_9 : decode cX5_hasOpened 9 = .ok (.iconst 1, 1) := by decide +kernel
theorem dX5_hasOpened_10 : decode cX5_hasOpened 10 = .ok (.goto 4, 3) := by decide +kernel
theorem dX5_hasOpened_13 : decode cX5_hasOpened 13 = .ok (.iconst 0, 1) := by decide +kernel
theorem dX5_hasOpened_14 : decode cX5_hasOpened 14 = .ok (.ireturn, 1) := by decide +kernel
theorem dX5_keyBit_0 : decode cX5_keyBit 0 = .ok (.iconst 1, 1) := by decide +kernel
theorem dX5_keyBit_1 : decode cX5_keyBit 1 = .ok (.iload_n 0, 1) := by decide +kernel
theorem dX5_keyBit_2 : decode cX5_keyBit 2 = .ok (.iconst 1, 1) := by decide +kernel
theorem dX5_keyBit_3 : decode cX5_keyBit 3 = .ok (.isub, 1) := by decide +kernel
theorem dX5_keyBit_4 : decode cX5_keyBit 4 = .ok (.ishl, 1) := by decide +kernel
theorem dX5_keyBit_5 : decode cX5_keyBit 5 = .ok (.ireturn, 1) := by decide +kernel
theorem dX5_smallKeyBit_0 : decode cX5_smallKeyBit 0 = .ok (.bipush 8, 2) := by decide +kernel
theorem dX5_smallKeyBit_2 : decode cX5_smallKeyBit 2 = .ok (.iload_n 0, 1) := by decide +kernel
theorem dX5_smallKeyBit_3 : decode cX5_smallKeyBit 3 = .ok (.ishl, 1) := by decide +kernel
theorem dX5_smallKeyBit_4 : decode cX5_smallKeyBit 4 = .ok (.ireturn, 1) := by decide +kernel
theorem dX5_openedBit_0 : decode cX5_openedBit 0 = .ok (.bipush 64, 2) := by decide +kernel
theorem dX5_openedBit_2 : decode cX5_openedBit 2 = .ok (.iload_n 0, 1) := by decide +kernel
theorem dX5_openedBit_3 : decode cX5_openedBit 3 = .ok (.ishl, 1) := by decide +kernel
theorem dX5_openedBit_4 : decode cX5_openedBit 4 = .ok (.ireturn, 1) := by decide +kernel
theorem dX5_inRoom_0 : decode cX5_inRoom 0 = .ok (.iload_n 0, 1) := by decide +kernel
theorem dX5_inRoom_1 : decode cX5_inRoom 1 = .ok (.sipush 1023, 3) := by decide +kernel
theorem dX5_inRoom_4 : decode cX5_inRoom 4 = .ok (.iand, 1) := by decide +kernel
theorem dX5_inRoom_5 : decode cX5_inRoom 5 = .ok (.iload_n 1, 1) := by decide +kernel
theorem dX5_inRoom_6 : decode cX5_inRoom 6 = .ok (.bipush 10, 2) := by decide +kernel
theorem dX5_inRoom_8 : decode cX5_inRoom 8 = .ok (.ishl, 1) := by decide +kernel
theorem dX5_inRoom_9 : decode cX5_inRoom 9 = .ok (.ior, 1) := by decide +kernel
theorem dX5_inRoom_10 : decode cX5_inRoom 10 = .ok (.ireturn, 1) := by decide +kernel
theorem dX5_toggled_0 : decode cX5_toggled 0 = .ok (.iload_n 0, 1) := by decide +kernel
theorem dX5_toggled_1 : decode cX5_toggled 1 = .ok (.sipush 512, 3) := by decide +kernel
theorem dX5_toggled_4 : decode cX5_toggled 4 = .ok (.ixor, 1) := by decide +kernel
theorem dX5_toggled_5 : decode cX5_toggled 5 = .ok (.ireturn, 1) := by decide +kernel
set_option maxRecDepth 20000 in
theorem ggX6_init_X0_init : GoodIn wsX6_init wsX0_init := goodIn_r _ [18, 19, 2, 3, 20, 21, 22, 23, 24, 25, 26, 27, 28, 29, 30, 31, 32, 204, 205, 206, 207, 208, 209, 210, 211, 212, 213, 214, 215, 216, 217] (by decide +kernel) (by decide +kernel)
set_option maxRecDepth 20000 in
theorem gX6_init_X0_init_n9 : GoodIn wsX6_init (wsX0_init) := ggX6_init_X0_init
set_option maxRecDepth 20000 in
theorem ggX6_init_X2_init : GoodIn wsX6_init wsX2_init := goodIn_r _ [35, 36, 2, 3, 37, 38, 39, 40, 28, 41, 42, 43, 44, 45, 20, 46, 232, 233, 234, 222, 223, 224] (by decide +kernel) (by decide +kernel)
set_option maxRecDepth 20000 in
theorem gX6_init_X2_init : GoodIn wsX6_init (wsX2_init) := ggX6_init_X2_init
set_option maxRecDepth 20000 in
theorem ggX6_init_X4_init : GoodIn wsX6_init wsX4_init := goodIn_r _ [49, 50, 2, 3, 51, 52, 53, 54, 55, 20, 56, 57, 58, 59, 60, 61, 62, 63, 64, 235, 225, 226, 227, 228, 229, 230, 231] (by decide +kernel) (by decide +kernel)
set_option maxRecDepth 20000 in
theorem gX6_init_X4_init : GoodIn wsX6_init (wsX4_init) := ggX6_init_X4_init
set_option maxRecDepth 20000 in
theorem ggX6_init_X2_build : GoodIn wsX6_init wsX2_build := goodIn_r _ [68, 40, 42, 69, 70, 71, 72, 73, 74, 39, 75, 76, 77, 78, 79, 10, 80, 81, 82, 83, 84, 85, 86, 87, 88, 89, 90, 91, 92, 93, 94, 95, 96, 97, 98, 99, 100, 101, 102, 103, 104, 105, 106, 107, 108, 46, 109, 110, 111, 112, 113, 114, 115, 116, 117, 118, 119, 120, 121, 122, 123, 124, 125, 126, 127, 128, 129, 130, 131, 132, 133, 134, 135, 136, 137, 138, 139, 140, 141, 142, 143, 144, 145, 146, 147, 148, 149, 150, 151, 152, 153, 154, 155, 156, 157, 158, 159, 41, 160, 161, 162, 163, 164, 165, 166, 167, 168, 169, 170, 171, 172, 173, 174, 175, 176, 177, 178, 179, 180, 181, 182, 183, 184, 185, 186, 187, 188, 189, 190, 191, 192, 193, 194, 195, 196, 197, 198, 199, 200, 201, 202, 203, 222, 223, 224, 204, 205, 206, 207, 208, 209, 210, 211, 212, 213, 214, 215, 216, 217, 232, 233, 234] (by decide +kernel) (by decide +kernel)
set_option maxRecDepth 20000 in
theorem gX6_init_X2_build : GoodIn wsX6_init (wsV RX6 32 RX2 yX2_build wsX2_build) := goodIn_app (goodIn_of _ (by decide +kernel)) ggX6_init_X2_build
theorem dX6_init_0 : decode cX6_init 0 = .ok (.aload_n 0, 1) := by decide +kernel
theorem dX6_init_1 : decode cX6_init 1 = .ok (.invokespecial 1, 3) := by decide +kernel
theorem dX6_init_4 : decode cX6_init 4 = .ok (.aload_n 0, 1) := by decide +kernel
theorem dX6_init_5 : decode cX6_init 5 = .ok (.new 7, 3) := by decide +kernel
theorem dX6_init_8 : decode cX6_init 8 = .ok (.dup, 1) := by decide +kernel
theorem dX6_init_9 : decode cX6_init 9 = .ok (.invokespecial 9, 3) := by decide +kernel
theorem dX6_init_12 : decode cX6_init 12 = .ok (.putfield 10, 3) := by decide +kernel
theorem dX6_init_15 : decode cX6_init 15 = .ok (.aload_n 0, 1) := by decide +kernel
theorem dX6_init_16 : decode cX6_init 16 = .ok (.new 16, 3) := by decide +kernel
theorem dX6_init_19 : decode cX6_init 19 = .ok (.dup, 1) := by decide +kernel
theorem dX6_init_20 : decode cX6_init 20 = .ok (.aload_n 0, 1) := by decide +kernel
theorem dX6_init_21 : decode cX6_init 21 = .ok (.getfield 10, 3) := by decide +kernel
theorem dX6_init_24 : decode cX6_init 24 = .ok (.invokespecial 18, 3) := by decide +kernel
theorem dX6_init_27 : decode cX6_init 27 = .ok (.putfield 21, 3) := by decide +kernel
theorem dX6_init_30 : decode cX6_init 30 = .ok (.aload_n 0, 1) := by decide +kernel
theorem dX6_init_31 : decode cX6_init 31 = .ok (.new 25, 3) := by decide +kernel
theorem dX6_init_34 : decode cX6_init 34 = .ok (.dup, 1) := by decide +kernel
theorem dX6_init_35 : decode cX6_init 35 = .ok (.aload_n 0, 1) := by decide +kernel
theorem dX6_init_36 : decode cX6_init 36 = .ok (.getfield 10, 3) := by decide +kernel
theorem dX6_init_39 : decode cX6_init 39 = .ok (.invokespecial 27, 3) := by decide +kernel
theorem dX6_init_42 : decode cX6_init 42 = .ok (.putfield 28, 3) := by decide +kernel
theorem dX6_init_45 : decode cX6_init 45 = .ok (.aload_n 0, 1) := by decide +kernel
theorem dX6_init_46 : decode cX6_init 46 = .ok (.getfield 21, 3) := by decide +kernel
theorem dX6_init_49 : decode cX6_init 49 = .ok (.lconst 0, 1) := by decide +kernel
theorem dX6_init_50 : decode cX6_init 50 = .ok (.iconst 2, 1) := by decide +kernel
theorem dX6_init_51 : decode cX6_init 51 = .ok (.iconst 1, 1) := by decide +kernel
theorem dX6_init_52 : decode cX6_init 52 = .ok (.iconst 0, 1) := by decide +kernel
theorem dX6_init_53 : decode cX6_init 53 = .ok (.iconst 0, 1) := by decide +kernel
theorem dX6_init_54 : decode cX6_init 54 = .ok (.invokevirtual 32, 3) := by decide +kernel
theorem dX6_init_57 : decode cX6_init 57 = .ok (.aload_n 0, 1) := by decide +kernel
theorem dX6_init_58 : decode cX6_init 58 = .ok (.iconst 0, 1) := by decide +kernel
theorem dX6_init_59 : decode cX6_init 59 = .ok (.putfield 38, 3) := by decide +kernel
theorem dX6_init_62 : decode cX6_init 62 = .ok (.return_, 1) := by decide +kernel
set_option maxRecDepth 20000 in
theorem ggX6_make_X6_isWithin : GoodIn wsX6_make wsX6_isWithin := goodIn_r _ [8] (by decide +kernel) (by decide +kernel)
set_option maxRecDepth 20000 in
theorem gX6_make_X6_isWithin : GoodIn wsX6_make (va_wsS RX6 42 yX6_isWithin wsX6_isWithin) := goodIn_app (goodIn_of _ (by decide +kernel)) ggX6_make_X6_isWithin
set_option maxRecDepth 20000 in
theorem ggX6_make_X2_build : GoodIn wsX6_make wsX2_build := goodIn_r _ [13, 14, 15, 16, 17, 18, 19, 20, 21, 22, 23, 24, 25, 26, 27, 12, 28, 29, 30, 31, 32, 33, 34, 35, 36, 37, 38, 39, 40, 41, 42, 43, 44, 45, 46, 47, 48, 49, 50, 51, 52, 53, 54, 55, 56, 57, 58, 59, 60, 61, 62, 63, 64, 65, 66, 67, 68, 69, 70, 71, 72, 73, 74, 75, 76, 77, 78, 79, 80, 6, 7, 8, 81, 82, 83, 84, 85, 86, 87, 88, 89, 90, 91, 92, 93, 94, 95, 96, 97, 98, 99, 100, 101, 102, 103, 104, 105, 106, 107, 108, 109, 110, 111, 112, 113, 114, 115, 116, 117, 118, 119, 120, 121, 122, 123, 124, 125, 126, 127, 128, 129, 130, 131, 132, 133, 134, 135, 136, 137, 138, 139, 140, 141, 142, 143, 144, 145, 146, 147, 148, 149, 150, 169, 170, 171, 155, 156, 157, 158, 159, 160, 161, 162, 163, 164, 165, 166, 167, 168, 172, 173, 174] (by decide +kernel) (by decide +kernel)
set_option maxRecDepth 20000 in
theorem gX6_make_X2_build : GoodIn wsX6_make (wsV RX6 32 RX2 yX2_build wsX2_build) := goodIn_app (goodIn_of _ (by decide +kernel)) ggX6_make_X2_build
theorem dX6_make_0 : decode cX6_make 0 = .ok (.iload_n 3, 1) := by decide +kernel
theorem dX6_make_1 : decode cX6_make 1 = .ok (.iconst 2, 1) := by decide +kernel
theorem dX6_make_2 : decode cX6_make 2 = .ok (.bipush 12, 2) := by decide +kernel
theorem dX6_make_4 : decode cX6_make 4 = .ok (.invokestatic 42, 3) := by decide +kernel
theorem dX6_make_7 : decode cX6_make 7 = .ok (.ifCond .eq 39, 3) := by decide +kernel
theorem dX6_make_10 : decode cX6_make 10 = .ok (.iload 4, 2) := by decide +kernel
theorem dX6_make_12 : decode cX6_make 12 = .ok (.iconst 1, 1) := by decide +kernel
theorem dX6_make_13 : decode cX6_make 13 = .ok (.iconst 3, 1) := by decide +kernel
theorem dX6_make_14 : decode cX6_make 14 = .ok (.invokestatic 42, 3) := by decide +kernel
theorem dX6_make_17 : decode cX6_make 17 = .ok (.ifCond .eq 29, 3) := by decide +kernel
theorem dX6_make_20 : decode cX6_make 20 = .ok (.iload 4, 2) := by decide +kernel
theorem dX6_make_22 : decode cX6_make 22 = .ok (.iload_n 3, 1) := by decide +kernel
theorem dX6_make_23 : decode cX6_make 23 = .ok (.if_icmp .ge 23, 3) := by decide +kernel
theorem dX6_make_26 : decode cX6_make 26 = .ok (.iload 5, 2) := by decide +kernel
theorem dX6_make_28 : decode cX6_make 28 = .ok (.iconst 0, 1) := by decide +kernel
theorem dX6_make_29 : decode cX6_make 29 = .ok (.iconst 3, 1) := by decide +kernel
theorem dX6_make_30 : decode cX6_make 30 = .ok (.invokestatic 42, 3) := by decide +kernel
theorem dX6_make_33 : decode cX6_make 33 = .ok (.ifCond .eq 13, 3) := by decide +kernel
theorem dX6_make_36 : decode cX6_make 36 = .ok (.iload 6, 2) := by decide +kernel
theorem dX6_make_38 : decode cX6_make 38 = .ok (.iconst 0, 1) := by decide +kernel
theorem dX6_make_39 : decode cX6_make 39 = .ok (.iconst 2, 1) := by decide +kernel
theorem dX6_make_40 : decode cX6_make 40 = .ok (.invokestatic 42, 3) := by decide +kernel
theorem dX6_make_43 : decode cX6_make 43 = .ok (.ifCond .ne 5, 3) := by decide +kernel
theorem dX6_make_46 : decode cX6_make 46 = .ok (.iconst (-1), 1) := by decide +kernel
theorem dX6_make_47 : decode cX6_make 47 = .ok (.ireturn, 1) := by decide +kernel
theorem dX6_make_48 : decode cX6_make 48 = .ok (.aload_n 0, 1) := by decide +kernel
theorem dX6_make_49 : decode cX6_make 49 = .ok (.getfield 21, 3) := by decide +kernel
theorem dX6_make_52 : decode cX6_make 52 = .ok (.lload_n 1, 1) := by decide +kernel
theorem dX6_make_53 : decode cX6_make 53 = .ok (.iload_n 3, 1) := by decide +kernel
theorem dX6_make_54 : decode cX6_make 54 = .ok (.iload 4, 2) := by decide +kernel
theorem dX6_make_56 : decode cX6_make 56 = .ok (.iload 5, 2) := by decide +kernel
theorem dX6_make_58 : decode cX6_make 58 = .ok (.iload 6, 2) := by decide +kernel
theorem dX6_make_60 : decode cX6_make 60 = .ok (.invokevirtual 32, 3) := by decide +kernel
theorem dX6_make_63 : decode cX6_make 63 = .ok (.aload_n 0, 1) := by decide +kernel
theorem dX6_make_64 : decode cX6_make 64 = .ok (.iconst 0, 1) := by decide +kernel
theorem dX6_make_65 : decode cX6_make 65 = .ok (.putfield 38, 3) := by decide +kernel
theorem dX6_make_68 : decode cX6_make 68 = .ok (.aload_n 0, 1) := by decide +kernel
theorem dX6_make_69 : decode cX6_make 69 = .ok (.getfield 10, 3) := by decide +kernel
theorem dX6_make_72 : decode cX6_make 72 = .ok (.getfield 46, 3) := by decide +kernel
theorem dX6_make_75 : decode cX6_make 75 = .ok (.ireturn, 1) := by decide +kernel
set_option maxRecDepth 20000 in
theorem ggX6_room_X0_hasRoom : GoodIn wsX6_room wsX0_hasRoom := goodIn_r _ [14, 15, 20, 21, 22, 23, 24, 25, 26, 27, 28, 29, 30, 31, 32, 33] (by decide +kernel) (by decide +kernel)
set_option maxRecDepth 20000 in
theorem gX6_room_X0_hasRoom : GoodIn wsX6_room (wsV RX6 49 RX0 yX0_hasRoom wsX0_hasRoom) := goodIn_app (goodIn_of _ (by decide +kernel)) ggX6_room_X0_hasRoom
theorem dX6_room_0 : decode cX6_room 0 = .ok (.aload_n 0, 1) := by decide +kernel
theorem dX6_room_1 : decode cX6_room 1 = .ok (.getfield 10, 3) := by decide +kernel
theorem dX6_room_4 : decode cX6_room 4 = .ok (.iload_n 1, 1) := by decide +kernel
theorem dX6_room_5 : decode cX6_room 5 = .ok (.invokevirtual 49, 3) := by decide +kernel
theorem dX6_room_8 : decode cX6_room 8 = .ok (.ifCond .ne 6, 3) := by decide +kernel
theorem dX6_room_11 : decode cX6_room 11 = .ok (.bipush (-100), 2) := by decide +kernel
theorem dX6_room_13 : decode cX6_room 13 = .ok (.ireturn, 1) := by decide +kernel
theorem dX6_room_14 : decode cX6_room 14 = .ok (.iload_n 2, 1) := by decide +kernel
theorem dX6_room_15 : decode cX6_room 15 = .ok (.tableswitch 133 0 7 #[45, 55, 65, 75, 85, 95, 105, 123], 45) := by decide +kernel
theorem dX6_room_60 : decode cX6_room 60 = .ok (.aload_n 0, 1) := by decide +kernel
theorem dX6_room_61 : decode cX6_room 61 = .ok (.getfield 10, 3) := by decide +kernel
theorem dX6_room_64 : decode cX6_room 64 = .ok (.getfield 53, 3) := by decide +kernel
theorem dX6_room_67 : decode cX6_room 67 = .ok (.iload_n 1, 1) := by decide +kernel
theorem dX6_room_68 : decode cX6_room 68 = .ok (.iaload, 1) := by decide +kernel
theorem dX6_room_69 : decode cX6_room 69 = .ok (.ireturn, 1) := by decide +kernel
theorem dX6_room_70 : decode cX6_room 70 = .ok (.aload_n 0, 1) := by decide +kernel
theorem dX6_room_71 : decode cX6_room 71 = .ok (.getfield 10, 3) := by decide +kernel
theorem dX6_room_74 : decode cX6_room 74 = .ok (.getfield 57, 3) := by decide +kernel
theorem dX6_room_77 : decode cX6_room 77 = .ok (.iload_n 1, 1) := by decide +kernel
theorem dX6_room_78 : decode cX6_room 78 = .ok (.iaload, 1) := by decide +kernel
theorem dX6_room_79 : decode cX6_room 79 = .ok (.ireturn, 1) := by decide +kernel
theorem dX6_room_80 : decode cX6_room 80 = .ok (.aload_n 0, 1) := by decide +kernel
theorem dX6_room_81 : decode cX6_room 81 = .ok (.getfield 10, 3) := by decide +kernel
theorem dX6_room_84 : decode cX6_room 84 = .ok (.getfield 60, 3) := by decide +kernel
theorem dX6_room_87 : decode cX6_room 87 = .ok (.iload_n 1, 1) := by decide +kernel
theorem dX6_room_88 : decode cX6_room 88 = .ok (.iaload, 1) := by decide +kernel
theorem dX6_room_89 : decode cX6_room 89 = .ok (.ireturn, 1) := by decide +kernel
theorem dX6_room_90 : decode cX6_room 90 = .ok (.aload_n 0, 1) := by decide +kernel
theorem dX6_room_91 : decode cX6_room 91 = .ok (.getfield 10, 3) := by decide +kernel
theorem dX6_room_94 : decode cX6_room 94 = .ok (.getfield 63, 3) := by decide +kernel
theorem dX6_room_97 : decode cX6_room 97 = .ok (.iload_n 1, 1) := by decide +kernel
theorem dX6_room_98 : decode cX6_room 98 = .ok (.iaload, 1) := by decide +kernel
theorem dX6_room_99 : decode cX6_room 99 = .ok (.ireturn, 1) := by decide +kernel
theorem dX6_room_100 : decode cX6_room 100 = .ok (.aload_n 0, 1) := by decide +kernel
theorem dX6_room_101 : decode cX6_room 101 = .ok (.getfield 10, 3) := by decide +kernel
theorem dX6_room_104 : decode cX6_room 104 = .ok (.getfield 66, 3) := by decide +kernel
theorem dX6_room_107 : decode cX6_room 107 = .ok (.iload_n 1, 1) := by decide +kernel
theorem dX6_room_108 : decode cX6_room 108 = .ok (.iaload, 1) := by decide +kernel
theorem dX6_room_109 : decode cX6_room 109 = .ok (.ireturn, 1) := by decide +kernel
theorem dX6_room_110 : decode cX6_room 110 = .ok (.aload_n 0, 1) := by decide +kernel
theorem dX6_room_111 : decode cX6_room 111 = .ok (.getfield 10, 3) := by decide +kernel
theorem dX6_room_114 : decode cX6_room 114 = .ok (.getfield 69, 3) := by decide +kernel
theorem dX6_room_117 : decode cX6_room 117 = .ok (.iload_n 1, 1) := by decide +kernel
theorem dX6_room_118 : decode cX6_room 118 = .ok (.iaload, 1) := by decide +kernel
theorem dX6_room_119 : decode cX6_room 119 = .ok (.ireturn, 1) := by decide +kernel
theorem dX6_room_120 : decode cX6_room 120 = .ok (.aload_n 0, 1) := by decide +kernel
theorem dX6_room_121 : decode cX6_room 121 = .ok (.getfield 10, 3) := by decide +kernel
theorem dX6_room_124 : decode cX6_room 124 = .ok (.getfield 72, 3) := by decide +kernel
theorem dX6_room_127 : decode cX6_room 127 = .ok (.iload_n 1, 1) := by decide +kernel
theorem dX6_room_128 : decode cX6_room 128 = .ok (.baload, 1) := by decide +kernel
theorem dX6_room_129 : decode cX6_room 129 = .ok (.ifCond .eq 7, 3) := by decide +kernel
theorem dX6_room_132 : decode cX6_room 132 = .ok (.iconst 1, 1) := by decide +kernel
theorem dX6_room_133 : decode cX6_room 133 = .ok (.goto 4, 3) := by decide +kernel
theorem dX6_room_136 : decode cX6_room 136 = .ok (.iconst 0, 1) := by decide +kernel
theorem dX6_room_137 : decode cX6_room 137 = .ok (.ireturn, 1) := by decide +kernel
theorem dX6_room_138 : decode cX6_room 138 = .ok (.aload_n 0, 1) := by decide +kernel
theorem dX6_room_139 : decode cX6_room 139 = .ok (.getfield 10, 3) := by decide +kernel
theorem dX6_room_142 : decode cX6_room 142 = .ok (.getfield 76, 3) := by decide +kernel
theorem dX6_room_145 : decode cX6_room 145 = .ok (.iload_n 1, 1) := by decide +kernel
theorem dX6_room_146 : decode cX6_room 146 = .ok (.iaload, 1) := by decide +kernel
theorem dX6_room_147 : decode cX6_room 147 = .ok (.ireturn, 1) := by decide +kernel
theorem dX6_room_148 : decode cX6_room 148 = .ok (.bipush (-100), 2) := by decide +kernel
theorem dX6_room_150 : decode cX6_room 150 = .ok (.ireturn, 1) := by decide +kernel
set_option maxRecDepth 20000 in
theorem ggX6_behind_X0_hasDoor : GoodIn wsX6_behind wsX0_hasDoor := goodIn_r _ [7, 8, 9, 10, 11, 6, 12, 13, 18, 19, 20, 21, 22, 23, 24, 25, 26, 27, 28, 29, 30, 31] (by decide +kernel) (by decide +kernel)
set_option maxRecDepth 20000 in
theorem gX6_behind_X0_hasDoor : GoodIn wsX6_behind (wsV RX6 79 RX0 yX0_hasDoor wsX0_hasDoor) := goodIn_app (goodIn_of _ (by decide +kernel)) ggX6_behind_X0_hasDoor
theorem dX6_behind_0 : decode cX6_behind 0 = .ok (.aload_n 0, 1) := by decide +kernel
theorem dX6_behind_1 : decode cX6_behind 1 = .ok (.getfield 10, 3) := by decide +kernel
theorem dX6_behind_4 : decode cX6_behind 4 = .ok (.iload_n 1, 1) := by decide +kernel
theorem dX6_behind_5 : decode cX6_behind 5 = .ok (.iload_n 2, 1) := by decide +kernel
theorem dX6_behind_6 : decode cX6_behind 6 = .ok (.invokevirtual 79, 3) := by decide +kernel
theorem dX6_behind_9 : decode cX6_behind 9 = .ok (.ifCond .eq 17, 3) := by decide +kernel
theorem dX6_behind_12 : decode cX6_behind 12 = .ok (.aload_n 0, 1) := by decide +kernel
theorem dX6_behind_13 : decode cX6_behind 13 = .ok (.getfield 10, 3) := by decide +kernel
theorem dX6_behind_16 : decode cX6_behind 16 = .ok (.getfield 83, 3) := by decide +kernel
theorem dX6_behind_19 : decode cX6_behind 19 = .ok (.iload_n 1, 1) := by decide +kernel
theorem dX6_behind_20 : decode cX6_behind 20 = .ok (.aaload, 1) := by decide +kernel
theorem dX6_behind_21 : decode cX6_behind 21 = .ok (.iload_n 2, 1) := by decide +kernel
theorem dX6_behind_22 : decode cX6_behind 22 = .ok (.iaload, 1) := by decide +kernel
theorem dX6_behind_23 : decode cX6_behind 23 = .ok (.goto 4, 3) := by decide +kernel
theorem dX6_behind_26 : decode cX6_behind 26 = .ok (.iconst (-1), 1) := by decide +kernel
theorem dX6_behind_27 : decode cX6_behind 27 = .ok (.ireturn, 1) := by decide +kernel
theorem dX6_goal_0 : decode cX6_goal 0 = .ok (.aload_n 0, 1) := by decide +kernel
theorem dX6_goal_1 : decode cX6_goal 1 = .ok (.getfield 10, 3) := by decide +kernel
theorem dX6_goal_4 : decode cX6_goal 4 = .ok (.getfield 87, 3) := by decide +kernel
theorem dX6_goal_7 : decode cX6_goal 7 = .ok (.ireturn, 1) := by decide +kernel
theorem dX6_restart_0 : decode cX6_restart 0 = .ok (.aload_n 0, 1) := by decide +kernel
theorem dX6_restart_1 : decode cX6_restart 1 = .ok (.iconst 0, 1) := by decide +kernel
theorem dX6_restart_2 : decode cX6_restart 2 = .ok (.putfield 38, 3) := by decide +kernel
theorem dX6_restart_5 : decode cX6_restart 5 = .ok (.return_, 1) := by decide +kernel
set_option maxRecDepth 20000 in
theorem ggX6_walk_X0_afterWalking : GoodIn wsX6_walk wsX0_afterWalking := goodIn_r _ [7, 8, 9, 10, 11, 12, 13, 14, 15, 16, 17, 6, 18, 19, 20, 21, 22, 23, 24, 25, 26, 27, 28, 29, 30, 31, 32, 33, 34, 35, 36, 37, 38, 39, 40, 41, 42, 43, 44, 45, 46, 47, 48, 49, 50, 51, 52, 53, 54, 55, 56, 57, 58, 59, 60, 61, 62, 63, 69, 70, 71, 72, 73, 74, 75, 76, 77, 78, 79, 80, 81, 82] (by decide +kernel) (by decide +kernel)
set_option maxRecDepth 20000 in
theorem gX6_walk_X0_afterWalking : GoodIn wsX6_walk (wsV RX6 90 RX0 yX0_afterWalking wsX0_afterWalking) := goodIn_app (goodIn_of _ (by decide +kernel)) ggX6_walk_X0_afterWalking
set_option maxRecDepth 20000 in
theorem ggX6_walk_X5_roomOf : GoodIn wsX6_walk wsX5_roomOf := goodIn_r _ [14] (by decide +kernel) (by decide +kernel)
set_option maxRecDepth 20000 in
theorem gX6_walk_X5_roomOf : GoodIn wsX6_walk (va_wsS RX6 94 yX5_roomOf wsX5_roomOf) := goodIn_app (goodIn_of _ (by decide +kernel)) ggX6_walk_X5_roomOf
theorem dX6_walk_0 : decode cX6_walk 0 = .ok (.aload_n 0, 1) := by decide +kernel
theorem dX6_walk_1 : decode cX6_walk 1 = .ok (.getfield 10, 3) := by decide +kernel
theorem dX6_walk_4 : decode cX6_walk 4 = .ok (.aload_n 0, 1) := by decide +kernel
theorem dX6_walk_5 : decode cX6_walk 5 = .ok (.getfield 38, 3) := by decide +kernel
theorem dX6_walk_8 : decode cX6_walk 8 = .ok (.iload_n 1, 1) := by decide +kernel
theorem dX6_walk_9 : decode cX6_walk 9 = .ok (.invokevirtual 90, 3) := by decide +kernel
theorem dX6_walk_12 : decode cX6_walk 12 = .ok (.istore_n 2, 1) := by decide +kernel
theorem dX6_walk_13 : decode cX6_walk 13 = .ok (.iload_n 2, 1) := by decide +kernel
theorem dX6_walk_14 : decode cX6_walk 14 = .ok (.ifCond .ge 5, 3) := by decide +kernel
theorem dX6_walk_17 : decode cX6_walk 17 = .ok (.iload_n 2, 1) := by decide +kernel
theorem dX6_walk_18 : decode cX6_walk 18 = .ok (.ireturn, 1) := by decide +kernel
theorem dX6_walk_19 : decode cX6_walk 19 = .ok (.aload_n 0, 1) := by decide +kernel
theorem dX6_walk_20 : decode cX6_walk 20 = .ok (.iload_n 2, 1) := by decide +kernel
theorem dX6_walk_21 : decode cX6_walk 21 = .ok (.putfield 38, 3) := by decide +kernel
theorem dX6_walk_24 : decode cX6_walk 24 = .ok (.iload_n 2, 1) := by decide +kernel
theorem dX6_walk_25 : decode cX6_walk 25 = .ok (.invokestatic 94, 3) := by decide +kernel
theorem dX6_walk_28 : decode cX6_walk 28 = .ok (.ireturn, 1) := by decide +kernel
set_option maxRecDepth 20000 in
theorem ggX6_take_X0_afterTaking : GoodIn wsX6_take wsX0_afterTaking := goodIn_r _ [7, 8, 9, 10, 11, 12, 24, 25, 26, 27, 28, 29, 30, 31, 32, 33, 34, 35, 36, 37] (by decide +kernel) (by decide +kernel)
set_option maxRecDepth 20000 in
theorem gX6_take_X0_afterTaking : GoodIn wsX6_take (wsV RX6 98 RX0 yX0_afterTaking wsX0_afterTaking) := goodIn_app (goodIn_of _ (by decide +kernel)) ggX6_take_X0_afterTaking
set_option maxRecDepth 20000 in
theorem ggX6_take_J6_bitCount_0f7a4 : GoodIn wsX6_take wsJ6_bitCount_0f7a4 := goodIn_r _ [16, 17, 18, 19] (by decide +kernel) (by decide +kernel)
set_option maxRecDepth 20000 in
theorem gX6_take_J6_bitCount_0f7a4 : GoodIn wsX6_take (va_wsS RX6 101 yJ6_bitCount_0f7a4 wsJ6_bitCount_0f7a4) := goodIn_app (goodIn_of _ (by decide +kernel)) ggX6_take_J6_bitCount_0f7a4
theorem dX6_take_0 : decode cX6_take 0 = .ok (.aload_n 0, 1) := by decide +kernel
theorem dX6_take_1 : decode cX6_take 1 = .ok (.getfield 10, 3) := by decide +kernel
theorem dX6_take_4 : decode cX6_take 4 = .ok (.aload_n 0, 1) := by decide +kernel
theorem dX6_take_5 : decode cX6_take 5 = .ok (.getfield 38, 3) := by decide +kernel
theorem dX6_take_8 : decode cX6_take 8 = .ok (.invokevirtual 98, 3) := by decide +kernel
theorem dX6_take_11 : decode cX6_take 11 = .ok (.istore_n 1, 1) := by decide +kernel
theorem dX6_take_12 : decode cX6_take 12 = .ok (.iload_n 1, 1) := by decide +kernel
theorem dX6_take_13 : decode cX6_take 13 = .ok (.aload_n 0, 1) := by decide +kernel
theorem dX6_take_14 : decode cX6_take 14 = .ok (.getfield 38, 3) := by decide +kernel
theorem dX6_take_17 : decode cX6_take 17 = .ok (.ixor, 1) := by decide +kernel
theorem dX6_take_18 : decode cX6_take 18 = .ok (.invokestatic 101, 3) := by decide +kernel
theorem dX6_take_21 : decode cX6_take 21 = .ok (.istore_n 2, 1) := by decide +kernel
theorem dX6_take_22 : decode cX6_take 22 = .ok (.aload_n 0, 1) := by decide +kernel
theorem dX6_take_23 : decode cX6_take 23 = .ok (.iload_n 1, 1) := by decide +kernel
theorem dX6_take_24 : decode cX6_take 24 = .ok (.putfield 38, 3) := by decide +kernel
theorem dX6_take_27 : decode cX6_take 27 = .ok (.iload_n 2, 1) := by decide +kernel
theorem dX6_take_28 : decode cX6_take 28 = .ok (.ireturn, 1) := by decide +kernel
set_option maxRecDepth 20000 in
theorem ggX6_toggle_X0_afterToggling : GoodIn wsX6_toggle wsX0_afterToggling := goodIn_r _ [7, 8, 9, 10, 11, 12, 13, 14, 15, 23, 24, 25, 26, 27, 28, 29, 30, 31, 32, 33, 34, 35, 36] (by decide +kernel) (by decide +kernel)
set_option maxRecDepth 20000 in
theorem gX6_toggle_X0_afterToggling : GoodIn wsX6_toggle (wsV RX6 106 RX0 yX0_afterToggling wsX0_afterToggling) := goodIn_app (goodIn_of _ (by decide +kernel)) ggX6_toggle_X0_afterToggling
set_option maxRecDepth 20000 in
theorem ggX6_toggle_X5_positionOf : GoodIn wsX6_toggle wsX5_positionOf := goodIn_r _ [18] (by decide +kernel) (by decide +kernel)
set_option maxRecDepth 20000 in
theorem gX6_toggle_X5_positionOf : GoodIn wsX6_toggle (va_wsS RX6 109 yX5_positionOf wsX5_positionOf) := goodIn_app (goodIn_of _ (by decide +kernel)) ggX6_toggle_X5_positionOf
theorem dX6_toggle_0 : decode cX6_toggle 0 = .ok (.aload_n 0, 1) := by decide +kernel
theorem dX6_toggle_1 : decode cX6_toggle 1 = .ok (.getfield 10, 3) := by decide +kernel
theorem dX6_toggle_4 : decode cX6_toggle 4 = .ok (.aload_n 0, 1) := by decide +kernel
theorem dX6_toggle_5 : decode cX6_toggle 5 = .ok (.getfield 38, 3) := by decide +kernel
theorem dX6_toggle_8 : decode cX6_toggle 8 = .ok (.invokevirtual 106, 3) := by decide +kernel
theorem dX6_toggle_11 : decode cX6_toggle 11 = .ok (.istore_n 1, 1) := by decide +kernel
theorem dX6_toggle_12 : decode cX6_toggle 12 = .ok (.iload_n 1, 1) := by decide +kernel
theorem dX6_toggle_13 : decode cX6_toggle 13 = .ok (.ifCond .ge 5, 3) := by decide +kernel
theorem dX6_toggle_16 : decode cX6_toggle 16 = .ok (.iload_n 1, 1) := by decide +kernel
theorem dX6_toggle_17 : decode cX6_toggle 17 = .ok (.ireturn, 1) := by decide +kernel
theorem dX6_toggle_18 : decode cX6_toggle 18 = .ok (.aload_n 0, 1) := by decide +kernel
theorem dX6_toggle_19 : decode cX6_toggle 19 = .ok (.iload_n 1, 1) := by decide +kernel
theorem dX6_toggle_20 : decode cX6_toggle 20 = .ok (.putfield 38, 3) := by decide +kernel
theorem dX6_toggle_23 : decode cX6_toggle 23 = .ok (.iload_n 1, 1) := by decide +kernel
theorem dX6_toggle_24 : decode cX6_toggle 24 = .ok (.invokestatic 109, 3) := by decide +kernel
theorem dX6_toggle_27 : decode cX6_toggle 27 = .ok (.ireturn, 1) := by decide +kernel
set_option maxRecDepth 20000 in
theorem ggX6_here_X5_roomOf : GoodIn wsX6_here wsX5_roomOf := goodIn_r _ [5] (by decide +kernel) (by decide +kernel)
set_option maxRecDepth 20000 in
theorem gX6_here_X5_roomOf : GoodIn wsX6_here (va_wsS RX6 94 yX5_roomOf wsX5_roomOf) := goodIn_app (goodIn_of _ (by decide +kernel)) ggX6_here_X5_roomOf
