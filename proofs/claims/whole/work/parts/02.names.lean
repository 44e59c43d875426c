theorem inJ7 : ∀ w ∈ wsJ70, w ∈ lw_tbl := by decide +kernel
theorem dX0_init_0 : decode cX0_init 0 = .ok (.aload_n 0, 1) := by decide +kernel
theorem dX0_init_1 : decode cX0_init 1 = .ok (.invokespecial 3, 3) := by decide +kernel
theorem dX0_init_4 : decode cX0_init 4 = .ok (.aload_n 0, 1) := by decide +kernel
theorem dX0_init_5 : decode cX0_init 5 = .ok (.bipush 12, 2) := by decide +kernel
theorem dX0_init_7 : decode cX0_init 7 = .ok (.newarray .int, 2) := by decide +kernel
theorem dX0_init_9 : decode cX0_init 9 = .ok (.putfield 9, 3) := by decide +kernel
theorem dX0_init_12 : decode cX0_init 12 = .ok (.aload_n 0, 1) := by decide +kernel
theorem dX0_init_13 : decode cX0_init 13 = .ok (.bipush 12, 2) := by decide +kernel
theorem dX0_init_15 : decode cX0_init 15 = .ok (.newarray .int, 2) := by decide +kernel
theorem dX0_init_17 : decode cX0_init 17 = .ok (.putfield 15, 3) := by decide +kernel
theorem dX0_init_20 : decode cX0_init 20 = .ok (.aload_n 0, 1) := by decide +kernel
theorem dX0_init_21 : decode cX0_init 21 = .ok (.bipush 12, 2) := by decide +kernel
theorem dX0_init_23 : decode cX0_init 23 = .ok (.newarray .int, 2) := by decide +kernel
theorem dX0_init_25 : decode cX0_init 25 = .ok (.putfield 18, 3) := by decide +kernel
theorem dX0_init_28 : decode cX0_init 28 = .ok (.aload_n 0, 1) := by decide +kernel
theorem dX0_init_29 : decode cX0_init 29 = .ok (.bipush 12, 2) := by decide +kernel
theorem dX0_init_31 : decode cX0_init 31 = .ok (.newarray .int, 2) := by decide +kernel
theorem dX0_init_33 : decode cX0_init 33 = .ok (.putfield 21, 3) := by decide +kernel
theorem dX0_init_36 : decode cX0_init 36 = .ok (.aload_n 0, 1) := by decide +kernel
theorem dX0_init_37 : decode cX0_init 37 = .ok (.bipush 12, 2) := by decide +kernel
theorem dX0_init_39 : decode cX0_init 39 = .ok (.newarray .int, 2) := by decide +kernel
theorem dX0_init_41 : decode cX0_init 41 = .ok (.putfield 24, 3) := by decide +kernel
theorem dX0_init_44 : decode cX0_init 44 = .ok (.aload_n 0, 1) := by decide +kernel
theorem dX0_init_45 : decode cX0_init 45 = .ok (.bipush 12, 2) := by decide +kernel
theorem dX0_init_47 : decode cX0_init 47 = .ok (.newarray .int, 2) := by decide +kernel
theorem dX0_init_49 : decode cX0_init 49 = .ok (.putfield 27, 3) := by decide +kernel
theorem dX0_init_52 : decode cX0_init 52 = .ok (.aload_n 0, 1) := by decide +kernel
theorem dX0_init_53 : decode cX0_init 53 = .ok (.bipush 12, 2) := by decide +kernel
theorem dX0_init_55 : decode cX0_init 55 = .ok (.newarray .int, 2) := by decide +kernel
theorem dX0_init_57 : decode cX0_init 57 = .ok (.putfield 30, 3) := by decide +kernel
theorem dX0_init_60 : decode cX0_init 60 = .ok (.aload_n 0, 1) := by decide +kernel
theorem dX0_init_61 : decode cX0_init 61 = .ok (.bipush 12, 2) := by decide +kernel
theorem dX0_init_63 : decode cX0_init 63 = .ok (.newarray .boolean, 2) := by decide +kernel
theorem dX0_init_65 : decode cX0_init 65 = .ok (.putfield 33, 3) := by decide +kernel
theorem dX0_init_68 : decode cX0_init 68 = .ok (.aload_n 0, 1) := by decide +kernel
theorem dX0_init_69 : decode cX0_init 69 = .ok (.bipush 12, 2) := by decide +kernel
theorem dX0_init_71 : decode cX0_init 71 = .ok (.newarray .int, 2) := by decide +kernel
theorem dX0_init_73 : decode cX0_init 73 = .ok (.putfield 37, 3) := by decide +kernel
theorem dX0_init_76 : decode cX0_init 76 = .ok (.aload_n 0, 1) := by decide +kernel
theorem dX0_init_77 : decode cX0_init 77 = .ok (.bipush 12, 2) := by decide +kernel
theorem dX0_init_79 : decode cX0_init 79 = .ok (.bipush 12, 2) := by decide +kernel
theorem dX0_init_81 : decode cX0_init 81 = .ok (.multianewarray 40 2, 4) := by decide +kernel
theorem dX0_init_85 : decode cX0_init 85 = .ok (.putfield 42, 3) := by decide +kernel
theorem dX0_init_88 : decode cX0_init 88 = .ok (.return_, 1) := by decide +kernel
theorem dX0_hasRoom_0 : decode cX0_hasRoom 0 = .ok (.iload_n 1, 1) := by decide +kernel
theorem dX0_hasRoom_1 : decode cX0_hasRoom 1 = .ok (.ifCond .lt 15, 3) := by decide +kernel
theorem dX0_hasRoom_4 : decode cX0_hasRoom 4 = .ok (.iload_n 1, 1) := by decide +kernel
theorem dX0_hasRoom_5 : decode cX0_hasRoom 5 = .ok (.aload_n 0, 1) := by decide +kernel
theorem dX0_hasRoom_6 : decode cX0_hasRoom 6 = .ok (.getfield 45, 3) := by decide +kernel
theorem dX0_hasRoom_9 : decode cX0_hasRoom 9 = .ok (.if_icmp .ge 7, 3) := by decide +kernel
theorem dX0_hasRoom_12 : decode cX0_hasRoom 12 = .ok (.iconst 1, 1) := by decide +kernel
theorem dX0_hasRoom_13 : decode cX0_hasRoom 13 = .ok (.goto 4, 3) := by decide +kernel
theorem dX0_hasRoom_16 : decode cX0_hasRoom 16 = .ok (.iconst 0, 1) := by decide +kernel
theorem dX0_hasRoom_17 : decode cX0_hasRoom 17 = .ok (.ireturn, 1) := by decide +kernel
set_option maxRecDepth 20000 in
theorem ggX0_hasDoor_X0_hasRoom : GoodIn wsX0_hasDoor wsX0_hasRoom := goodIn_r _ [6, 7, 8, 9, 10, 11, 12, 13, 14, 15, 16, 17, 18, 19, 20, 21] (by decide +kernel) (by decide +kernel)
set_option maxRecDepth 20000 in
theorem gX0_hasDoor_X0_hasRoom : GoodIn wsX0_hasDoor (wsV RX0 49 RX0 yX0_hasRoom wsX0_hasRoom) := goodIn_app (goodIn_of _ (by decide +kernel)) ggX0_hasDoor_X0_hasRoom
theorem dX0_hasDoor_0 : decode cX0_hasDoor 0 = .ok (.aload_n 0, 1) := by decide +kernel
theorem dX0_hasDoor_1 : decode cX0_hasDoor 1 = .ok (.iload_n 1, 1) := by decide +kernel
theorem dX0_hasDoor_2 : decode cX0_hasDoor 2 = .ok (.invokevirtual 49, 3) := by decide +kernel
theorem dX0_hasDoor_5 : decode cX0_hasDoor 5 = .ok (.ifCond .eq 21, 3) := by decide +kernel
theorem dX0_hasDoor_8 : decode cX0_hasDoor 8 = .ok (.iload_n 2, 1) := by decide +kernel
theorem dX0_hasDoor_9 : decode cX0_hasDoor 9 = .ok (.ifCond .lt 17, 3) := by decide +kernel
theorem dX0_hasDoor_12 : decode cX0_hasDoor 12 = .ok (.iload_n 2, 1) := by decide +kernel
theorem dX0_hasDoor_13 : decode cX0_hasDoor 13 = .ok (.aload_n 0, 1) := by decide +kernel
theorem dX0_hasDoor_14 : decode cX0_hasDoor 14 = .ok (.getfield 37, 3) := by decide +kernel
theorem dX0_hasDoor_17 : decode cX0_hasDoor 17 = .ok (.iload_n 1, 1) := by decide +kernel
theorem dX0_hasDoor_18 : decode cX0_hasDoor 18 = .ok (.iaload, 1) := by decide +kernel
theorem dX0_hasDoor_19 : decode cX0_hasDoor 19 = .ok (.if_icmp .ge 7, 3) := by decide +kernel
theorem dX0_hasDoor_22 : decode cX0_hasDoor 22 = .ok (.iconst 1, 1) := by decide +kernel
theorem dX0_hasDoor_23 : decode cX0_hasDoor 23 = .ok (.goto 4, 3) := by decide +kernel
theorem dX0_hasDoor_26 : decode cX0_hasDoor 26 = .ok (.iconst 0, 1) := by decide +kernel
theorem dX0_hasDoor_27 : decode cX0_hasDoor 27 = .ok (.ireturn, 1) := by decide +kernel
set_option maxRecDepth 20000 in
theorem ggX0_afterWalking_X5_roomOf : GoodIn wsX0_afterWalking wsX5_roomOf := goodIn_r _ [7] (by decide +kernel) (by decide +kernel)
set_option maxRecDepth 20000 in
theorem gX0_afterWalking_X5_roomOf : GoodIn wsX0_afterWalking (va_wsS RX0 53 yX5_roomOf wsX5_roomOf) := goodIn_app (goodIn_of _ (by decide +kernel)) ggX0_afterWalking_X5_roomOf
set_option maxRecDepth 20000 in
theorem ggX0_afterWalking_X0_hasDoor : GoodIn wsX0_afterWalking wsX0_hasDoor := goodIn_r _ [12, 13, 14, 15, 16, 11, 17, 18, 58, 59, 60, 61, 62, 63, 64, 65, 66, 67, 68, 69, 70, 71] (by decide +kernel) (by decide +kernel)
set_option maxRecDepth 20000 in
theorem gX0_afterWalking_X0_hasDoor : GoodIn wsX0_afterWalking (wsV RX0 59 RX0 yX0_hasDoor wsX0_hasDoor) := goodIn_app (goodIn_of _ (by decide +kernel)) ggX0_afterWalking_X0_hasDoor
set_option maxRecDepth 20000 in
theorem ggX0_afterWalking_X0_doorOwner : GoodIn wsX0_afterWalking wsX0_doorOwner := goodIn_r _ [22, 23, 58, 59, 60, 61, 62, 63, 64, 65, 66, 67, 68, 69, 70, 71] (by decide +kernel) (by decide +kernel)
set_option maxRecDepth 20000 in
theorem gX0_afterWalking_X0_doorOwner : GoodIn wsX0_afterWalking (wsV RX0 63 RX0 yX0_doorOwner wsX0_doorOwner) := goodIn_app (goodIn_of _ (by decide +kernel)) ggX0_afterWalking_X0_doorOwner
set_option maxRecDepth 20000 in
theorem ggX0_afterWalking_X0_opens : GoodIn wsX0_afterWalking wsX0_opens := goodIn_r _ [27, 2, 28, 3, 29, 30, 6, 31, 32, 33, 34, 35, 36, 37, 38, 39, 40, 41, 42, 43, 44, 45, 46, 47, 48, 49, 50, 51, 52, 53, 58, 59, 60, 61, 62, 63, 64, 65, 66, 67, 68, 69, 70, 71] (by decide +kernel) (by decide +kernel)
set_option maxRecDepth 20000 in
theorem gX0_afterWalking_X0_opens : GoodIn wsX0_afterWalking (wsV RX0 67 RX0 yX0_opens wsX0_opens) := goodIn_app (goodIn_of _ (by decide +kernel)) ggX0_afterWalking_X0_opens
set_option maxRecDepth 20000 in
theorem ggX0_afterWalking_X5_inRoom : GoodIn wsX0_afterWalking wsX5_inRoom := goodIn_r _ [56] (by decide +kernel) (by decide +kernel)
set_option maxRecDepth 20000 in
theorem gX0_afterWalking_X5_inRoom : GoodIn wsX0_afterWalking (va_wsS RX0 70 yX5_inRoom wsX5_inRoom) := goodIn_app (goodIn_of _ (by decide +kernel)) ggX0_afterWalking_X5_inRoom
set_option maxRecDepth 20000 in
theorem ggX0_afterWalking_X5_openedBit : GoodIn wsX0_afterWalking wsX5_openedBit := goodIn_r _ [40] (by decide +kernel) (by decide +kernel)
set_option maxRecDepth 20000 in
theorem gX0_afterWalking_X5_openedBit : GoodIn wsX0_afterWalking (va_wsS RX0 73 yX5_openedBit wsX5_openedBit) := goodIn_app (goodIn_of _ (by decide +kernel)) ggX0_afterWalking_X5_openedBit
theorem dX0_afterWalking_0 : decode cX0_afterWalking 0 = .ok (.iload_n 1, 1) := by decide +kernel
theorem dX0_afterWalking_1 : decode cX0_afterWalking 1 = .ok (.invokestatic 53, 3) := by decide +kernel
theorem dX0_afterWalking_4 : decode cX0_afterWalking 4 = .ok (.istore_n 3, 1) := by decide +kernel
theorem dX0_afterWalking_5 : decode cX0_afterWalking 5 = .ok (.aload_n 0, 1) := by decide +kernel
theorem dX0_afterWalking_6 : decode cX0_afterWalking 6 = .ok (.iload_n 3, 1) := by decide +kernel
theorem dX0_afterWalking_7 : decode cX0_afterWalking 7 = .ok (.iload_n 2, 1) := by decide +kernel
theorem dX0_afterWalking_8 : decode cX0_afterWalking 8 = .ok (.invokevirtual 59, 3) := by decide +kernel
theorem dX0_afterWalking_11 : decode cX0_afterWalking 11 = .ok (.ifCond .ne 5, 3) := by decide +kernel
theorem dX0_afterWalking_14 : decode cX0_afterWalking 14 = .ok (.iconst (-1), 1) := by decide +kernel
theorem dX0_afterWalking_15 : decode cX0_afterWalking 15 = .ok (.ireturn, 1) := by decide +kernel
theorem dX0_afterWalking_16 : decode cX0_afterWalking 16 = .ok (.aload_n 0, 1) := by decide +kernel
theorem dX0_afterWalking_17 : decode cX0_afterWalking 17 = .ok (.getfield 42, 3) := by decide +kernel
theorem dX0_afterWalking_20 : decode cX0_afterWalking 20 = .ok (.iload_n 3, 1) := by decide +kernel
theorem dX0_afterWalking_21 : decode cX0_afterWalking 21 = .ok (.aaload, 1) := by decide +kernel
theorem dX0_afterWalking_22 : decode cX0_afterWalking 22 = .ok (.iload_n 2, 1) := by decide +kernel
theorem dX0_afterWalking_23 : decode cX0_afterWalking 23 = .ok (.iaload, 1) := by decide +kernel
theorem dX0_afterWalking_24 : decode cX0_afterWalking 24 = .ok (.istore 4, 2) := by decide +kernel
theorem dX0_afterWalking_26 : decode cX0_afterWalking 26 = .ok (.aload_n 0, 1) := by decide +kernel
theorem dX0_afterWalking_27 : decode cX0_afterWalking 27 = .ok (.iload_n 3, 1) := by decide +kernel
theorem dX0_afterWalking_28 : decode cX0_afterWalking 28 = .ok (.iload 4, 2) := by decide +kernel
theorem dX0_afterWalking_30 : decode cX0_afterWalking 30 = .ok (.invokevirtual 63, 3) := by decide +kernel
theorem dX0_afterWalking_33 : decode cX0_afterWalking 33 = .ok (.istore 5, 2) := by decide +kernel
theorem dX0_afterWalking_35 : decode cX0_afterWalking 35 = .ok (.aload_n 0, 1) := by decide +kernel
theorem dX0_afterWalking_36 : decode cX0_afterWalking 36 = .ok (.iload_n 1, 1) := by decide +kernel
theorem dX0_afterWalking_37 : decode cX0_afterWalking 37 = .ok (.iload 5, 2) := by decide +kernel
theorem dX0_afterWalking_39 : decode cX0_afterWalking 39 = .ok (.invokevirtual 67, 3) := by decide +kernel
theorem dX0_afterWalking_42 : decode cX0_afterWalking 42 = .ok (.ifCond .ne 6, 3) := by decide +kernel
theorem dX0_afterWalking_45 : decode cX0_afterWalking 45 = .ok (.bipush (-2), 2) := by decide +kernel
theorem dX0_afterWalking_47 : decode cX0_afterWalking 47 = .ok (.ireturn, 1) := by decide +kernel
theorem dX0_afterWalking_48 : decode cX0_afterWalking 48 = .ok (.iload_n 1, 1) := by decide +kernel
theorem dX0_afterWalking_49 : decode cX0_afterWalking 49 = .ok (.iload 4, 2) := by decide +kernel
theorem dX0_afterWalking_51 : decode cX0_afterWalking 51 = .ok (.invokestatic 70, 3) := by decide +kernel
theorem dX0_afterWalking_54 : decode cX0_afterWalking 54 = .ok (.istore 6, 2) := by decide +kernel
theorem dX0_afterWalking_56 : decode cX0_afterWalking 56 = .ok (.aload_n 0, 1) := by decide +kernel
theorem dX0_afterWalking_57 : decode cX0_afterWalking 57 = .ok (.getfield 18, 3) := by decide +kernel
theorem dX0_afterWalking_60 : decode cX0_afterWalking 60 = .ok (.iload 5, 2) := by decide +kernel
theorem dX0_afterWalking_62 : decode cX0_afterWalking 62 = .ok (.iaload, 1) := by decide +kernel
theorem dX0_afterWalking_63 : decode cX0_afterWalking 63 = .ok (.iconst 2, 1) := by decide +kernel
theorem dX0_afterWalking_64 : decode cX0_afterWalking 64 = .ok (.if_icmp .ne 19, 3) := by decide +kernel
theorem dX0_afterWalking_67 : decode cX0_afterWalking 67 = .ok (.iload 6, 2) := by decide +kernel
theorem dX0_afterWalking_69 : decode cX0_afterWalking 69 = .ok (.aload_n 0, 1) := by decide +kernel
theorem dX0_afterWalking_70 : decode cX0_afterWalking 70 = .ok (.getfield 21, 3) := by decide +kernel
theorem dX0_afterWalking_73 : decode cX0_afterWalking 73 = .ok (.iload 5, 2) := by decide +kernel
theorem dX0_afterWalking_75 : decode cX0_afterWalking 75 = .ok (.iaload, 1) := by decide +kernel
theorem dX0_afterWalking_76 : decode cX0_afterWalking 76 = .ok (.invokestatic 73, 3) := by decide +kernel
theorem dX0_afterWalking_79 : decode cX0_afterWalking 79 = .ok (.ior, 1) := by decide +kernel
theorem dX0_afterWalking_80 : decode cX0_afterWalking 80 = .ok (.goto 5, 3) := by decide +kernel
theorem dX0_afterWalking_83 : decode cX0_afterWalking 83 = .ok (.iload 6, 2) := by decide +kernel
theorem dX0_afterWalking_85 : decode cX0_afterWalking 85 = .ok (.ireturn, 1) := by decide +kernel
set_option maxRecDepth 20000 in
theorem ggX0_afterTaking_X5_roomOf : GoodIn wsX0_afterTaking wsX5_roomOf := goodIn_r _ [5] (by decide +kernel) (by decide +kernel)
set_option maxRecDepth 20000 in
theorem gX0_afterTaking_X5_roomOf : GoodIn wsX0_afterTaking (va_wsS RX0 53 yX5_roomOf wsX5_roomOf) := goodIn_app (goodIn_of _ (by decide +kernel)) ggX0_afterTaking_X5_roomOf
theorem dX0_afterTaking_0 : decode cX0_afterTaking 0 = .ok (.iload_n 1, 1) := by decide +kernel
theorem dX0_afterTaking_1 : decode cX0_afterTaking 1 = .ok (.aload_n 0, 1) := by decide +kernel
theorem dX0_afterTaking_2 : decode cX0_afterTaking 2 = .ok (.getfield 30, 3) := by decide +kernel
theorem dX0_afterTaking_5 : decode cX0_afterTaking 5 = .ok (.iload_n 1, 1) := by decide +kernel
theorem dX0_afterTaking_6 : decode cX0_afterTaking 6 = .ok (.invokestatic 53, 3) := by decide +kernel
theorem dX0_afterTaking_9 : decode cX0_afterTaking 9 = .ok (.iaload, 1) := by decide +kernel
theorem dX0_afterTaking_10 : decode cX0_afterTaking 10 = .ok (.ior, 1) := by decide +kernel
theorem dX0_afterTaking_11 : decode cX0_afterTaking 11 = .ok (.ireturn, 1) := by decide +kernel
set_option maxRecDepth 20000 in
theorem ggX0_afterToggling_X5_roomOf : GoodIn wsX0_afterToggling wsX5_roomOf := goodIn_r _ [5] (by decide +kernel) (by decide +kernel)
set_option maxRecDepth 20000 in
theorem gX0_afterToggling_X5_roomOf : GoodIn wsX0_afterToggling (va_wsS RX0 53 yX5_roomOf wsX5_roomOf) := goodIn_app (goodIn_of _ (by decide +kernel)) ggX0_afterToggling_X5_roomOf
set_option maxRecDepth 20000 in
theorem ggX0_afterToggling_X5_toggled : GoodIn wsX0_afterToggling wsX5_toggled := goodIn_r _ [8] (by decide +kernel) (by decide +kernel)
set_option maxRecDepth 20000 in
theorem gX0_afterToggling_X5_toggled : GoodIn wsX0_afterToggling (va_wsS RX0 76 yX5_toggled wsX5_toggled) := goodIn_app (goodIn_of _ (by decide +kernel)) ggX0_afterToggling_X5_toggled
theorem dX0_afterToggling_0 : decode cX0_afterToggling 0 = .ok (.aload_n 0, 1) := by decide +kernel
theorem dX0_afterToggling_1 : decode cX0_afterToggling 1 = .ok (.getfield 33, 3) := by decide +kernel
theorem dX0_afterToggling_4 : decode cX0_afterToggling 4 = .ok (.iload_n 1, 1) := by decide +kernel
theorem dX0_afterToggling_5 : decode cX0_afterToggling 5 = .ok (.invokestatic 53, 3) := by decide +kernel
theorem dX0_afterToggling_8 : decode cX0_afterToggling 8 = .ok (.baload, 1) := by decide +kernel
theorem dX0_afterToggling_9 : decode cX0_afterToggling 9 = .ok (.ifCond .eq 10, 3) := by decide +kernel
theorem dX0_afterToggling_12 : decode cX0_afterToggling 12 = .ok (.iload_n 1, 1) := by decide +kernel
theorem dX0_afterToggling_13 : decode cX0_afterToggling 13 = .ok (.invokestatic 76, 3) := by decide +kernel
theorem dX0_afterToggling_16 : decode cX0_afterToggling 16 = .ok (.goto 4, 3) := by decide +kernel
theorem dX0_afterToggling_19 : decode cX0_afterToggling 19 = .ok (.iconst (-1), 1) := by decide +kernel
theorem dX0_afterToggling_20 : decode cX0_afterToggling 20 = .ok (.ireturn, 1) := by decide +kernel
theorem dX0_doorOwner_0 : decode cX0_doorOwner 0 = .ok (.aload_n 0, 1) := by decide +kernel
theorem dX0_doorOwner_1 : decode cX0_doorOwner 1 = .ok (.getfield 9, 3) := by decide +kernel
theorem dX0_doorOwner_4 : decode cX0_doorOwner 4 = .ok (.iload_n 1, 1) := by decide +kernel
theorem dX0_doorOwner_5 : decode cX0_doorOwner 5 = .ok (.iaload, 1) := by decide +kernel
theorem dX0_doorOwner_6 : decode cX0_doorOwner 6 = .ok (.iload_n 2, 1) := by decide +kernel
theorem dX0_doorOwner_7 : decode cX0_doorOwner 7 = .ok (.if_icmp .ne 5, 3) := by decide +kernel
theorem dX0_doorOwner_10 : decode cX0_doorOwner 10 = .ok (.iload_n 1, 1) := by decide +kernel
theorem dX0_doorOwner_11 : decode cX0_doorOwner 11 = .ok (.ireturn, 1) := by decide +kernel
theorem dX0_doorOwner_12 : decode cX0_doorOwner 12 = .ok (.aload_n 0, 1) := by decide +kernel
theorem dX0_doorOwner_13 : decode cX0_doorOwner 13 = .ok (.getfield 9, 3) := by decide +kernel
theorem dX0_doorOwner_16 : decode cX0_doorOwner 16 = .ok (.iload_n 2, 1) := by decide +kernel
theorem dX0_doorOwner_17 : decode cX0_doorOwner 17 = .ok (.iaload, 1) := by decide +kernel
theorem dX0_doorOwner_18 : decode cX0_doorOwner 18 = .ok (.iload_n 1, 1) := by decide +kernel
theorem dX0_doorOwner_19 : decode cX0_doorOwner 19 = .ok (.if_icmp .ne 7, 3) := by decide +kernel
theorem dX0_doorOwner_22 : decode cX0_doorOwner 22 = .ok (.iload_n 2, 1) := by decide +kernel
theorem dX0_doorOwner_23 : decode cX0_doorOwner 23 = .ok (.goto 4, 3) := by decide +kernel
theorem dX0_doorOwner_26 : decode cX0_doorOwner 26 = .ok (.iconst 0, 1) := by decide +kernel
theorem dX0_doorOwner_27 : decode cX0_doorOwner 27 = .ok (.ireturn, 1) := by decide +kernel
set_option maxRecDepth 20000 in
theorem ggX0_opens_X5_hasKey : GoodIn wsX0_opens wsX5_hasKey := goodIn_r _ [7, 8, 9, 6, 10] (by decide +kernel) (by decide +kernel)
set_option maxRecDepth 20000 in
theorem gX0_opens_X5_hasKey : GoodIn wsX0_opens (va_wsS RX0 79 yX5_hasKey wsX5_hasKey) := goodIn_app (goodIn_of _ (by decide +kernel)) ggX0_opens_X5_hasKey
set_option maxRecDepth 20000 in
theorem ggX0_opens_X5_hasOpened : GoodIn wsX0_opens wsX5_hasOpened := goodIn_r _ [13, 14, 15, 6, 16] (by decide +kernel) (by decide +kernel)
set_option maxRecDepth 20000 in
theorem gX0_opens_X5_hasOpened : GoodIn wsX0_opens (va_wsS RX0 82 yX5_hasOpened wsX5_hasOpened) := goodIn_app (goodIn_of _ (by decide +kernel)) ggX0_opens_X5_hasOpened
set_option maxRecDepth 20000 in
theorem ggX0_opens_X5_smallKeysLeft : GoodIn wsX0_opens wsX5_smallKeysLeft := goodIn_r _ [19, 20, 21, 22, 23, 24, 25, 26] (by decide +kernel) (by decide +kernel)
set_option maxRecDepth 20000 in
theorem gX0_opens_X5_smallKeysLeft : GoodIn wsX0_opens (va_wsS RX0 85 yX5_smallKeysLeft wsX5_smallKeysLeft) := goodIn_app (goodIn_of _ (by decide +kernel)) ggX0_opens_X5_smallKeysLeft
set_option maxRecDepth 20000 in
theorem ggX0_opens_X5_positionOf : GoodIn wsX0_opens wsX5_positionOf := goodIn_r _ [29] (by decide +kernel) (by decide +kernel)
set_option maxRecDepth 20000 in
theorem gX0_opens_X5_positionOf : GoodIn wsX0_opens (va_wsS RX0 88 yX5_positionOf wsX5_positionOf) := goodIn_app (goodIn_of _ (by decide +kernel)) ggX0_opens_X5_positionOf
theorem dX0_opens_0 : decode cX0_opens 0 = .ok (.aload_n 0, 1) := by decide +kernel
theorem dX0_opens_1 : decode cX0_opens 1 = .ok (.getfield 18, 3) := by decide +kernel
theorem dX0_opens_4 : decode cX0_opens 4 = .ok (.iload_n 2, 1) := by decide +kernel
theorem dX0_opens_5 : decode cX0_opens 5 = .ok (.iaload, 1) := by decide +kernel
theorem dX0_opens_6 : decode cX0_opens 6 = .ok (.tableswitch 94 1 4 #[30, 41, 67, 80], 30) := by decide +kernel
theorem dX0_opens_36 : decode cX0_opens 36 = .ok (.iload_n 1, 1) := by decide +kernel
theorem dX0_opens_37 : decode cX0_opens 37 = .ok (.aload_n 0, 1) := by decide +kernel
theorem dX0_opens_38 : decode cX0_opens 38 = .ok (.getfield 15, 3) := by decide +kernel
theorem dX0_opens_41 : decode cX0_opens 41 = .ok (.iload_n 2, 1) := by decide +kernel
theorem dX0_opens_42 : decode cX0_opens 42 = .ok (.iaload, 1) := by decide +kernel
theorem dX0_opens_43 : decode cX0_opens 43 = .ok (.invokestatic 79, 3) := by decide +kernel
theorem dX0_opens_46 : decode cX0_opens 46 = .ok (.ireturn, 1) := by decide +kernel
theorem dX0_opens_47 : decode cX0_opens 47 = .ok (.iload_n 1, 1) := by decide +kernel
theorem dX0_opens_48 : decode cX0_opens 48 = .ok (.aload_n 0, 1) := by decide +kernel
theorem dX0_opens_49 : decode cX0_opens 49 = .ok (.getfield 21, 3) := by decide +kernel
theorem dX0_opens_52 : decode cX0_opens 52 = .ok (.iload_n 2, 1) := by decide +kernel
theorem dX0_opens_53 : decode cX0_opens 53 = .ok (.iaload, 1) := by decide +kernel
theorem dX0_opens_54 : decode cX0_opens 54 = .ok (.invokestatic 82, 3) := by decide +kernel
theorem dX0_opens_57 : decode cX0_opens 57 = .ok (.ifCond .ne 10, 3) := by decide +kernel
theorem dX0_opens_60 : decode cX0_opens 60 = .ok (.iload_n 1, 1) := by decide +kernel
theorem dX0_opens_61 : decode cX0_opens 61 = .ok (.invokestatic 85, 3) := by decide +kernel
theorem dX0_opens_64 : decode cX0_opens 64 = .ok (.ifCond .le 7, 3) := by decide +kernel
theorem dX0_opens_67 : decode cX0_opens 67 = .ok (.iconst 1, 1) := by decide +kernel
theorem dX0_opens_68 : decode cX0_opens 68 = .ok (.goto 4, 3) := by decide +kernel
theorem dX0_opens_71 : decode cX0_opens 71 = .ok (.iconst 0, 1) := by decide +kernel
theorem dX0_opens_72 : decode cX0_opens 72 = .ok (.ireturn, 1) := by decide +kernel
theorem dX0_opens_73 : decode cX0_opens 73 = .ok (.iload_n 1, 1) := by decide +kernel
theorem dX0_opens_74 : decode cX0_opens 74 = .ok (.invokestatic 88, 3) := by decide +kernel
theorem dX0_opens_77 : decode cX0_opens 77 = .ok (.ifCond .ne 7, 3) := by decide +kernel
theorem dX0_opens_80 : decode cX0_opens 80 = .ok (.iconst 1, 1) := by decide +kernel
theorem dX0_opens_81 : decode cX0_opens 81 = .ok (.goto 4, 3) := by decide +kernel
theorem dX0_opens_84 : decode cX0_opens 84 = .ok (.iconst 0, 1) := by decide +kernel
theorem dX0_opens_85 : decode cX0_opens 85 = .ok (.ireturn, 1) := by decide +kernel
theorem dX0_opens_86 : decode cX0_opens 86 = .ok (.iload_n 1, 1) := by decide +kernel
theorem dX0_opens_87 : decode cX0_opens 87 = .ok (.invokestatic 88, 3) := by decide +kernel
theorem dX0_opens_90 : decode cX0_opens 90 = .ok (.iconst 1, 1) := by decide +kernel
theorem dX0_opens_91 : decode cX0_opens 91 = .ok (.if_icmp .ne 7, 3) := by decide +kernel
theorem dX0_opens_94 : decode cX0_opens 94 = .ok (.iconst 1, 1) := by decide +kernel
theorem dX0_opens_95 : decode cX0_opens 95 = .ok (.goto 4, 3) := by decide +kernel
theorem dX0_opens_98 : decode cX0_opens 98 = .ok (.iconst 0, 1) := by decide +kernel
theorem dX0_opens_99 : decode cX0_opens 99 = .ok (.ireturn, 1) := by decide +kernel
theorem dX0_opens_100 : decode cX0_opens 100 = .ok (.iconst 1, 1) := by decide +kernel
theorem dX0_opens_101 : decode cX0_opens 101 = .ok (.ireturn, 1) := by decide +kernel
theorem dX1_init_0 : decode cX1_init 0 = .ok (.aload_n 0, 1) := by decide +kernel
theorem dX1_init_1 : decode cX1_init 1 = .ok (.invokespecial 3, 3) := by decide +kernel
theorem dX1_init_4 : decode cX1_init 4 = .ok (.aload_n 0, 1) := by decide +kernel
theorem dX1_init_5 : decode cX1_init 5 = .ok (.bipush 12, 2) := by decide +kernel
theorem dX1_init_7 : decode cX1_init 7 = .ok (.newarray .int, 2) := by decide +kernel
theorem dX1_init_9 : decode cX1_init 9 = .ok (.putfield 9, 3) := by decide +kernel
theorem dX1_init_12 : decode cX1_init 12 = .ok (.return_, 1) := by decide +kernel
theorem dX1_begin_0 : decode cX1_begin 0 = .ok (.aload_n 0, 1) := by decide +kernel
theorem dX1_begin_1 : decode cX1_begin 1 = .ok (.lload_n 1, 1) := by decide +kernel
theorem dX1_begin_2 : decode cX1_begin 2 = .ok (.putfield 15, 3) := by decide +kernel
theorem dX1_begin_5 : decode cX1_begin 5 = .ok (.return_, 1) := by decide +kernel
theorem dX1_number_0 : decode cX1_number 0 = .ok (.aload_n 0, 1) := by decide +kernel
theorem dX1_number_1 : decode cX1_number 1 = .ok (.aload_n 0, 1) := by decide +kernel
theorem dX1_number_2 : decode cX1_number 2 = .ok (.getfield 15, 3) := by decide +kernel
theorem dX1_number_5 : decode cX1_number 5 = .ok (.ldc2_w 19, 3) := by decide +kernel
theorem dX1_number_8 : decode cX1_number 8 = .ok (.lmul, 1) := by decide +kernel
theorem dX1_number_9 : decode cX1_number 9 = .ok (.ldc2_w 21, 3) := by decide +kernel
theorem dX1_number_12 : decode cX1_number 12 = .ok (.ladd, 1) := by decide +kernel
theorem dX1_number_13 : decode cX1_number 13 = .ok (.putfield 15, 3) := by decide +kernel
theorem dX1_number_16 : decode cX1_number 16 = .ok (.iload_n 1, 1) := by decide +kernel
theorem dX1_number_17 : decode cX1_number 17 = .ok (.iconst 1, 1) := by decide +kernel
theorem dX1_number_18 : decode cX1_number 18 = .ok (.if_icmp .ge 7, 3) := by decide +kernel
theorem dX1_number_21 : decode cX1_number 21 = .ok (.iconst 0, 1) := by decide +kernel
theorem dX1_number_22 : decode cX1_number 22 = .ok (.goto 14, 3) := by decide +kernel
theorem dX1_number_25 : decode cX1_number 25 = .ok (.aload_n 0, 1) := by decide +kernel
theorem dX1_number_26 : decode cX1_number 26 = .ok (.getfield 15, 3) := by decide +kernel
theorem dX1_number_29 : decode cX1_number 29 = .ok (.bipush 33, 2) := by decide +kernel
theorem dX1_number_31 : decode cX1_number 31 = .ok (.lushr, 1) := by decide +kernel
theorem dX1_number_32 : decode cX1_number 32 = .ok (.iload_n 1, 1) := by decide +kernel
theorem dX1_number_33 : decode cX1_number 33 = .ok (.i2l, 1) := by decide +kernel
theorem dX1_number_34 : decode cX1_number 34 = .ok (.lrem, 1) := by decide +kernel
theorem dX1_number_35 : decode cX1_number 35 = .ok (.l2i, 1) := by decide +kernel
theorem dX1_number_36 : decode cX1_number 36 = .ok (.ireturn, 1) := by decide +kernel
theorem dX1_clearOffer_0 : decode cX1_clearOffer 0 = .ok (.aload_n 0, 1) := by decide +kernel
theorem dX1_clearOffer_1 : decode cX1_clearOffer 1 = .ok (.iconst 0, 1) := by decide +kernel
theorem dX1_clearOffer_2 : decode cX1_clearOffer 2 = .ok (.putfield 23, 3) := by decide +kernel
theorem dX1_clearOffer_5 : decode cX1_clearOffer 5 = .ok (.return_, 1) := by decide +kernel
theorem dX1_offer_0 : decode cX1_offer 0 = .ok (.aload_n 0, 1) := by decide +kernel
theorem dX1_offer_1 : decode cX1_offer 1 = .ok (.getfield 23, 3) := by decide +kernel
theorem dX1_offer_4 : decode cX1_offer 4 = .ok (.aload_n 0, 1) := by decide +kernel
theorem dX1_offer_5 : decode cX1_offer 5 = .ok (.getfield 9, 3) := by decide +kernel
theorem dX1_offer_8 : decode cX1_offer 8 = .ok (.arraylength, 1) := by decide +kernel
theorem dX1_offer_9 : decode cX1_offer 9 = .ok (.if_icmp .ge 23, 3) := by decide +kernel
theorem dX1_offer_12 : decode cX1_offer 12 = .ok (.aload_n 0, 1) := by decide +kernel
theorem dX1_offer_13 : decode cX1_offer 13 = .ok (.getfield 9, 3) := by decide +kernel
theorem dX1_offer_16 : decode cX1_offer 16 = .ok (.aload_n 0, 1) := by decide +kernel
theorem dX1_offer_17 : decode cX1_offer 17 = .ok (.getfield 23, 3) := by decide +kernel
theorem dX1_offer_20 : decode cX1_offer 20 = .ok (.iload_n 1, 1) := by decide +kernel
theorem dX1_offer_21 : decode cX1_offer 21 = .ok (.iastore, 1) := by decide +kernel
theorem dX1_offer_22 : decode cX1_offer 22 = .ok (.aload_n 0, 1) := by decide +kernel
theorem dX1_offer_23 : decode cX1_offer 23 = .ok (.dup, 1) := by decide +kernel
theorem dX1_offer_24 : decode cX1_offer 24 = .ok (.getfield 23, 3) := by decide +kernel
theorem dX1_offer_27 : decode cX1_offer 27 = .ok (.iconst 1, 1) := by decide +kernel
theorem dX1_offer_28 : decode cX1_offer 28 = .ok (.iadd, 1) := by decide +kernel
theorem dX1_offer_29 : decode cX1_offer 29 = .ok (.putfield 23, 3) := by decide +kernel
theorem dX1_offer_32 : decode cX1_offer 32 = .ok (.return_, 1) := by decide +kernel
theorem dX1_hasOffer_0 : decode cX1_hasOffer 0 = .ok (.aload_n 0, 1) := by decide +kernel
theorem dX1_hasOffer_1 : decode cX1_hasOffer 1 = .ok (.getfield 23, 3) := by decide +kernel
theorem dX1_hasOffer_4 : decode cX1_hasOffer 4 = .ok (.ifCond .le 7, 3) := by decide +kernel
theorem dX1_hasOffer_7 : decode cX1_hasOffer 7 = .ok (.iconst 1, 1) := by decide +kernel
theorem dX1_hasOffer_8 : decode cX1_hasOffer 8 = .ok (.goto 4, 3) := by decide +kernel
theorem dX1_hasOffer_11 : decode cX1_hasOffer 11 = .ok (.iconst 0, 1) := by decide +kernel
theorem dX1_hasOffer_12 : decode cX1_hasOffer 12 = .ok (.ireturn, 1) := by decide +kernel
set_option maxRecDepth 20000 in
theorem ggX1_offeredRoom_X1_number : GoodIn wsX1_offeredRoom wsX1_number := goodIn_r _ [7, 8, 9, 10, 11, 12, 13] (by decide +kernel) (by decide +kernel)
set_option maxRecDepth 20000 in
theorem gX1_offeredRoom_X1_number : GoodIn wsX1_offeredRoom (wsV RX1 27 RX1 yX1_number wsX1_number) := goodIn_app (goodIn_of _ (by decide +kernel)) ggX1_offeredRoom_X1_number
theorem dX1_offeredRoom_0 : decode cX1_offeredRoom 0 = .ok (.aload_n 0, 1) := by decide +kernel
theorem dX1_offeredRoom_1 : decode cX1_offeredRoom 1 = .ok (.getfield 9, 3) := by decide +kernel
theorem dX1_offeredRoom_4 : decode cX1_offeredRoom 4 = .ok (.aload_n 0, 1) := by decide +kernel
theorem dX1_offeredRoom_5 : decode cX1_offeredRoom 5 = .ok (.aload_n 0, 1) := by decide +kernel
theorem dX1_offeredRoom_6 : decode cX1_offeredRoom 6 = .ok (.getfield 23, 3) := by decide +kernel
theorem dX1_offeredRoom_9 : decode cX1_offeredRoom 9 = .ok (.invokevirtual 27, 3) := by decide +kernel
theorem dX1_offeredRoom_12 : decode cX1_offeredRoom 12 = .ok (.iaload, 1) := by decide +kernel
theorem dX1_offeredRoom_13 : decode cX1_offeredRoom 13 = .ok (.ireturn, 1) := by decide +kernel
set_option maxRecDepth 20000 in
theorem ggX2_init_X1_init : GoodIn wsX2_init wsX1_init := goodIn_r _ [12, 13, 2, 3, 14, 15, 16, 17, 18] (by decide +kernel) (by decide +kernel)
set_option maxRecDepth 20000 in
theorem gX2_init_X1_init_n11 : GoodIn wsX2_init (wsX1_init) := ggX2_init_X1_init
theorem dX2_init_0 : decode cX2_init 0 = .ok (.aload_n 0, 1) := by decide +kernel
theorem dX2_init_1 : decode cX2_init 1 = .ok (.invokespecial 3, 3) := by decide +kernel
theorem dX2_init_4 : decode cX2_init 4 = .ok (.aload_n 0, 1) := by decide +kernel
theorem dX2_init_5 : decode cX2_init 5 = .ok (.new 9, 3) := by decide +kernel
theorem dX2_init_8 : decode cX2_init 8 = .ok (.dup, 1) := by decide +kernel
theorem dX2_init_9 : decode cX2_init 9 = .ok (.invokespecial 11, 3) := by decide +kernel
theorem dX2_init_12 : decode cX2_init 12 = .ok (.putfield 12, 3) := by decide +kernel
theorem dX2_init_15 : decode cX2_init 15 = .ok (.aload_n 0, 1) := by decide +kernel
theorem dX2_init_16 : decode cX2_init 16 = .ok (.bipush 12, 2) := by decide +kernel
theorem dX2_init_18 : decode cX2_init 18 = .ok (.newarray .boolean, 2) := by decide +kernel
theorem dX2_init_20 : decode cX2_init 20 = .ok (.putfield 18, 3) := by decide +kernel
theorem dX2_init_23 : decode cX2_init 23 = .ok (.aload_n 0, 1) := by decide +kernel
theorem dX2_init_24 : decode cX2_init 24 = .ok (.aload_n 1, 1) := by decide +kernel
theorem dX2_init_25 : decode cX2_init 25 = .ok (.putfield 22, 3) := by decide +kernel
theorem dX2_init_28 : decode cX2_init 28 = .ok (.return_, 1) := by decide +kernel
set_option maxRecDepth 20000 in
theorem ggX2_build_X1_begin : GoodIn wsX2_build wsX1_begin := goodIn_r _ [10, 11, 159, 160, 161] (by decide +kernel) (by decide +kernel)
set_option maxRecDepth 20000 in
theorem gX2_build_X1_begin : GoodIn wsX2_build (wsV RX2 26 RX1 yX1_begin wsX1_begin) := goodIn_app (goodIn_of _ (by decide +kernel)) ggX2_build_X1_begin
set_option maxRecDepth 20000 in
theorem ggX2_build_X2_clear : GoodIn wsX2_build wsX2_clear := goodIn_r _ [16, 2, 17, 18, 19, 20, 21, 22, 23, 24, 142, 143, 144, 145, 146, 147, 148, 149, 150, 151, 152, 153, 154, 155, 156, 157, 158] (by decide +kernel) (by decide +kernel)
set_option maxRecDepth 20000 in
theorem gX2_build_X2_clear : GoodIn wsX2_build (wsV RX2 30 RX2 yX2_clear wsX2_clear) := goodIn_app (goodIn_of _ (by decide +kernel)) ggX2_build_X2_clear
set_option maxRecDepth 20000 in
theorem ggX2_build_X2_addRooms : GoodIn wsX2_build wsX2_addRooms := goodIn_r _ [28, 2, 29, 30, 31, 3, 4, 1, 32, 33, 34, 15, 35, 36, 37, 38, 9, 39, 40, 41, 42, 43, 44, 45, 46, 47, 48, 49, 50, 51, 52, 53, 11, 54, 55, 56, 57, 58, 59, 60, 142, 143, 144, 145, 146, 147, 148, 149, 150, 151, 152, 153, 154, 155, 156, 157, 158, 159, 160, 161] (by decide +kernel) (by decide +kernel)
set_option maxRecDepth 20000 in
theorem gX2_build_X2_addRooms : GoodIn wsX2_build (wsV RX2 42 RX2 yX2_addRooms wsX2_addRooms) := goodIn_app (goodIn_of _ (by decide +kernel)) ggX2_build_X2_addRooms
set_option maxRecDepth 20000 in
theorem ggX2_build_X2_layKeys : GoodIn wsX2_build wsX2_layKeys := goodIn_r _ [64, 2, 4, 17, 1, 65, 66, 67, 15, 68, 3, 30, 36, 37, 38, 9, 39, 40, 69, 70, 71, 41, 42, 43, 44, 45, 46, 47, 48, 49, 50, 51, 52, 53, 11, 54, 55, 72, 73, 74, 75, 142, 143, 144, 145, 146, 147, 148, 149, 150, 151, 152, 153, 154, 155, 156, 157, 158, 159, 160, 161] (by decide +kernel) (by decide +kernel)
set_option maxRecDepth 20000 in
theorem gX2_build_X2_layKeys : GoodIn wsX2_build (wsV RX2 45 RX2 yX2_layKeys wsX2_layKeys) := goodIn_app (goodIn_of _ (by decide +kernel)) ggX2_build_X2_layKeys
set_option maxRecDepth 20000 in
theorem ggX2_build_X2_makeSmallDoors : GoodIn wsX2_build wsX2_makeSmallDoors := goodIn_r _ [79, 1, 2, 31, 80, 81, 82, 83, 15, 84, 3, 36, 37, 38, 9, 39, 40, 41, 42, 43, 44, 45, 85, 86, 87, 88, 46, 47, 48, 49, 50, 51, 52, 53, 11, 54, 55, 142, 143, 144, 145, 146, 147, 148, 149, 150, 151, 152, 153, 154, 155, 156, 157, 158, 159, 160, 161] (by decide +kernel) (by decide +kernel)
set_option maxRecDepth 20000 in
theorem gX2_build_X2_makeSmallDoors : GoodIn wsX2_build (wsV RX2 48 RX2 yX2_makeSmallDoors wsX2_makeSmallDoors) := goodIn_app (goodIn_of _ (by decide +kernel)) ggX2_build_X2_makeSmallDoors
set_option maxRecDepth 20000 in
theorem ggX2_build_X2_laySmallKeys : GoodIn wsX2_build wsX2_laySmallKeys := goodIn_r _ [92, 2, 17, 1, 93, 94, 95, 15, 96, 97, 3, 30, 31, 29, 36, 37, 38, 9, 39, 40, 41, 42, 43, 44, 45, 46, 47, 48, 49, 50, 51, 52, 53, 11, 54, 55, 98, 99, 74, 100, 142, 143, 144, 145, 146, 147, 148, 149, 150, 151, 152, 153, 154, 155, 156, 157, 158, 159, 160, 161] (by decide +kernel) (by decide +kernel)
set_option maxRecDepth 20000 in
theorem gX2_build_X2_laySmallKeys : GoodIn wsX2_build (wsV RX2 52 RX2 yX2_laySmallKeys wsX2_laySmallKeys) := goodIn_app (goodIn_of _ (by decide +kernel)) ggX2_build_X2_laySmallKeys
set_option maxRecDepth 20000 in
theorem ggX2_build_X2_makeBarriers : GoodIn wsX2_build wsX2_makeBarriers := goodIn_r _ [104, 1, 2, 31, 19, 29, 81, 82, 83, 15, 84, 3, 36, 37, 38, 9, 39, 40, 41, 42, 43, 44, 45, 85, 86, 87, 88, 46, 47, 48, 49, 50, 51, 52, 53, 11, 54, 55, 56, 142, 143, 144, 145, 146, 147, 148, 149, 150, 151, 152, 153, 154, 155, 156, 157, 158, 159, 160, 161] (by decide +kernel) (by decide +kernel)
set_option maxRecDepth 20000 in
theorem gX2_build_X2_makeBarriers : GoodIn wsX2_build (wsV RX2 56 RX2 yX2_makeBarriers wsX2_makeBarriers) := goodIn_app (goodIn_of _ (by decide +kernel)) ggX2_build_X2_makeBarriers
set_option maxRecDepth 20000 in
theorem ggX2_build_X2_offerLevels : GoodIn wsX2_build wsX2_offerLevels := goodIn_r _ [68, 1, 2, 3, 30, 36, 37, 38, 9, 39, 40, 69, 70, 71, 41, 42, 43, 44, 45, 142, 143, 144, 145, 146, 147, 148, 149, 150, 151, 152, 153, 154, 155, 156, 157, 158, 159, 160, 161] (by decide +kernel) (by decide +kernel)
set_option maxRecDepth 20000 in
theorem gX2_build_X2_offerLevels : GoodIn wsX2_build (wsV RX2 59 RX2 yX2_offerLevels wsX2_offerLevels) := goodIn_app (goodIn_of _ (by decide +kernel)) ggX2_build_X2_offerLevels
set_option maxRecDepth 20000 in
theorem ggX2_build_X1_offeredRoom : GoodIn wsX2_build wsX1_offeredRoom := goodIn_r _ [49, 45, 40, 50, 51, 52, 9, 53, 11, 54, 55, 159, 160, 161] (by decide +kernel) (by decide +kernel)
set_option maxRecDepth 20000 in
theorem gX2_build_X1_offeredRoom : GoodIn wsX2_build (wsV RX2 63 RX1 yX1_offeredRoom wsX1_offeredRoom) := goodIn_app (goodIn_of _ (by decide +kernel)) ggX2_build_X1_offeredRoom
set_option maxRecDepth 20000 in
theorem ggX2_build_X2_placeRooms : GoodIn wsX2_build wsX2_placeRooms := goodIn_r _ [108, 2, 109, 110, 3, 1, 56, 51, 52, 9, 53, 11, 54, 55, 111, 112, 113, 15, 114, 29, 115, 116, 117, 118, 119, 120, 142, 143, 144, 145, 146, 147, 148, 149, 150, 151, 152, 153, 154, 155, 156, 157, 158, 159, 160, 161] (by decide +kernel) (by decide +kernel)
set_option maxRecDepth 20000 in
theorem gX2_build_X2_placeRooms : GoodIn wsX2_build (wsV RX2 70 RX2 yX2_placeRooms wsX2_placeRooms) := goodIn_app (goodIn_of _ (by decide +kernel)) ggX2_build_X2_placeRooms
set_option maxRecDepth 20000 in
theorem ggX2_build_X2_joinFamilies : GoodIn wsX2_build wsX2_joinFamilies := goodIn_r _ [124, 2, 3, 29, 125, 126, 127, 15, 128, 129, 18, 20, 142, 143, 144, 145, 146, 147, 148, 149, 150, 151, 152, 153, 154, 155, 156, 157, 158] (by decide +kernel) (by decide +kernel)
set_option maxRecDepth 20000 in
theorem gX2_build_X2_joinFamilies : GoodIn wsX2_build (wsV RX2 73 RX2 yX2_joinFamilies wsX2_joinFamilies) := goodIn_app (goodIn_of _ (by decide +kernel)) ggX2_build_X2_joinFamilies
set_option maxRecDepth 20000 in
theorem ggX2_build_X2_joinLoops : GoodIn wsX2_build wsX2_joinLoops := goodIn_r _ [133, 2, 3, 1, 134, 135, 136, 15, 137, 109, 138, 139, 140, 141, 110, 30, 29, 56, 51, 52, 9, 53, 11, 54, 55, 125, 126, 127, 128, 129, 18, 20, 142, 143, 144, 145, 146, 147, 148, 149, 150, 151, 152, 153, 154, 155, 156, 157, 158, 159, 160, 161] (by decide +kernel) (by decide +kernel)
set_option maxRecDepth 20000 in
theorem gX2_build_X2_joinLoops : GoodIn wsX2_build (wsV RX2 76 RX2 yX2_joinLoops wsX2_joinLoops) := goodIn_app (goodIn_of _ (by decide +kernel)) ggX2_build_X2_joinLoops
theorem dX2_build_0 : decode cX2_build 0 = .ok (.aload_n 0, 1) := by decide +kernel
theorem dX2_build_1 : decode cX2_build 1 = .ok (.getfield 12, 3) := by decide +kernel
theorem dX2_build_4 : decode cX2_build 4 = .ok (.lload_n 1, 1) := by decide +kernel
theorem dX2_build_5 : decode cX2_build 5 = .ok (.invokevirtual 26, 3) := by decide +kernel
theorem dX2_build_8 : decode cX2_build 8 = .ok (.aload_n 0, 1) := by decide +kernel
theorem dX2_build_9 : decode cX2_build 9 = .ok (.invokevirtual 30, 3) := by decide +kernel
theorem dX2_build_12 : decode cX2_build 12 = .ok (.aload_n 0, 1) := by decide +kernel
theorem dX2_build_13 : decode cX2_build 13 = .ok (.getfield 22, 3) := by decide +kernel
theorem dX2_build_16 : decode cX2_build 16 = .ok (.iload_n 3, 1) := by decide +kernel
theorem dX2_build_17 : decode cX2_build 17 = .ok (.putfield 33, 3) := by decide +kernel
theorem dX2_build_20 : decode cX2_build 20 = .ok (.aload_n 0, 1) := by decide +kernel
theorem dX2_build_21 : decode cX2_build 21 = .ok (.getfield 22, 3) := by decide +kernel
theorem dX2_build_24 : decode cX2_build 24 = .ok (.iload 4, 2) := by decide +kernel
theorem dX2_build_26 : decode cX2_build 26 = .ok (.putfield 39, 3) := by decide +kernel
theorem dX2_build_29 : decode cX2_build 29 = .ok (.aload_n 0, 1) := by decide +kernel
theorem dX2_build_30 : decode cX2_build 30 = .ok (.invokevirtual 42, 3) := by decide +kernel
theorem dX2_build_33 : decode cX2_build 33 = .ok (.aload_n 0, 1) := by decide +kernel
theorem dX2_build_34 : decode cX2_build 34 = .ok (.invokevirtual 45, 3) := by decide +kernel
theorem dX2_build_37 : decode cX2_build 37 = .ok (.aload_n 0, 1) := by decide +kernel
theorem dX2_build_38 : decode cX2_build 38 = .ok (.aload_n 0, 1) := by decide +kernel
theorem dX2_build_39 : decode cX2_build 39 = .ok (.iload 5, 2) := by decide +kernel
theorem dX2_build_41 : decode cX2_build 41 = .ok (.invokevirtual 48, 3) := by decide +kernel
theorem dX2_build_44 : decode cX2_build 44 = .ok (.invokevirtual 52, 3) := by decide +kernel
theorem dX2_build_47 : decode cX2_build 47 = .ok (.aload_n 0, 1) := by decide +kernel
theorem dX2_build_48 : decode cX2_build 48 = .ok (.iload 6, 2) := by decide +kernel
theorem dX2_build_50 : decode cX2_build 50 = .ok (.invokevirtual 56, 3) := by decide +kernel
theorem dX2_build_53 : decode cX2_build 53 = .ok (.aload_n 0, 1) := by decide +kernel
theorem dX2_build_54 : decode cX2_build 54 = .ok (.iload 4, 2) := by decide +kernel
theorem dX2_build_56 : decode cX2_build 56 = .ok (.iload 4, 2) := by decide +kernel
theorem dX2_build_58 : decode cX2_build 58 = .ok (.invokevirtual 59, 3) := by decide +kernel
theorem dX2_build_61 : decode cX2_build 61 = .ok (.aload_n 0, 1) := by decide +kernel
theorem dX2_build_62 : decode cX2_build 62 = .ok (.getfield 22, 3) := by decide +kernel
theorem dX2_build_65 : decode cX2_build 65 = .ok (.aload_n 0, 1) := by decide +kernel
theorem dX2_build_66 : decode cX2_build 66 = .ok (.getfield 12, 3) := by decide +kernel
theorem dX2_build_69 : decode cX2_build 69 = .ok (.invokevirtual 63, 3) := by decide +kernel
theorem dX2_build_72 : decode cX2_build 72 = .ok (.putfield 67, 3) := by decide +kernel
theorem dX2_build_75 : decode cX2_build 75 = .ok (.aload_n 0, 1) := by decide +kernel
theorem dX2_build_76 : decode cX2_build 76 = .ok (.invokevirtual 70, 3) := by decide +kernel
theorem dX2_build_79 : decode cX2_build 79 = .ok (.aload_n 0, 1) := by decide +kernel
theorem dX2_build_80 : decode cX2_build 80 = .ok (.invokevirtual 73, 3) := by decide +kernel
theorem dX2_build_83 : decode cX2_build 83 = .ok (.aload_n 0, 1) := by decide +kernel
theorem dX2_build_84 : decode cX2_build 84 = .ok (.invokevirtual 76, 3) := by decide +kernel
theorem dX2_build_87 : decode cX2_build 87 = .ok (.return_, 1) := by decide +kernel
set_option maxRecDepth 20000 in
theorem ggX2_clear_J7_fill_53178 : GoodIn wsX2_clear wsJ7_fill_53178 := goodIn_r _ [9] (by decide +kernel) (by decide +kernel)
set_option maxRecDepth 20000 in
theorem gX2_clear_J7_fill_53178 : GoodIn wsX2_clear (va_wsS RX2 83 yJ7_fill_53178 wsJ7_fill_53178) := goodIn_app (goodIn_of _ (by decide +kernel)) ggX2_clear_J7_fill_53178
theorem dX2_clear_0 : decode cX2_clear 0 = .ok (.aload_n 0, 1) := by decide +kernel
theorem dX2_clear_1 : decode cX2_clear 1 = .ok (.getfield 22, 3) := by decide +kernel
theorem dX2_clear_4 : decode cX2_clear 4 = .ok (.getfield 79, 3) := by decide +kernel
theorem dX2_clear_7 : decode cX2_clear 7 = .ok (.iconst 0, 1) := by decide +kernel
theorem dX2_clear_8 : decode cX2_clear 8 = .ok (.invokestatic 83, 3) := by decide +kernel
theorem dX2_clear_11 : decode cX2_clear 11 = .ok (.aload_n 0, 1) := by decide +kernel
theorem dX2_clear_12 : decode cX2_clear 12 = .ok (.getfield 22, 3) := by decide +kernel
theorem dX2_clear_15 : decode cX2_clear 15 = .ok (.getfield 89, 3) := by decide +kernel
theorem dX2_clear_18 : decode cX2_clear 18 = .ok (.iconst 0, 1) := by decide +kernel
theorem dX2_clear_19 : decode cX2_clear 19 = .ok (.invokestatic 83, 3) := by decide +kernel
theorem dX2_clear_22 : decode cX2_clear 22 = .ok (.iconst 0, 1) := by decide +kernel
theorem dX2_clear_23 : decode cX2_clear 23 = .ok (.istore_n 1, 1) := by decide +kernel
theorem dX2_clear_24 : decode cX2_clear 24 = .ok (.iload_n 1, 1) := by decide +kernel
theorem dX2_clear_25 : decode cX2_clear 25 = .ok (.bipush 12, 2) := by decide +kernel
theorem dX2_clear_27 : decode cX2_clear 27 = .ok (.if_icmp .ge 19, 3) := by decide +kernel
theorem dX2_clear_30 : decode cX2_clear 30 = .ok (.aload_n 0, 1) := by decide +kernel
theorem dX2_clear_31 : decode cX2_clear 31 = .ok (.getfield 22, 3) := by decide +kernel
theorem dX2_clear_34 : decode cX2_clear 34 = .ok (.getfield 92, 3) := by decide +kernel
theorem dX2_clear_37 : decode cX2_clear 37 = .ok (.iload_n 1, 1) := by decide +kernel
theorem dX2_clear_38 : decode cX2_clear 38 = .ok (.iconst 0, 1) := by decide +kernel
theorem dX2_clear_39 : decode cX2_clear 39 = .ok (.bastore, 1) := by decide +kernel
theorem dX2_clear_40 : decode cX2_clear 40 = .ok (.iinc 1 1, 3) := by decide +kernel
theorem dX2_clear_43 : decode cX2_clear 43 = .ok (.goto (-19), 3) := by decide +kernel
theorem dX2_clear_46 : decode cX2_clear 46 = .ok (.aload_n 0, 1) := by decide +kernel
theorem dX2_clear_47 : decode cX2_clear 47 = .ok (.getfield 22, 3) := by decide +kernel
theorem dX2_clear_50 : decode cX2_clear 50 = .ok (.iconst 0, 1) := by decide +kernel
theorem dX2_clear_51 : decode cX2_clear 51 = .ok (.putfield 95, 3) := by decide +kernel
theorem dX2_clear_54 : decode cX2_clear 54 = .ok (.return_, 1) := by decide +kernel
set_option maxRecDepth 20000 in
theorem ggX2_addRooms_X2_drawnBefore : GoodIn wsX2_addRooms wsX2_drawnBefore := goodIn_r _ [12, 7, 1, 3, 13, 14, 15, 16, 17, 18, 19, 20, 21, 22, 23, 24, 25, 26, 27, 28, 29, 30, 31, 32, 33, 34, 40, 41, 42, 43, 44, 45, 46, 47, 48, 49, 50, 51, 52, 53, 54, 55, 56, 57, 58, 59] (by decide +kernel) (by decide +kernel)
set_option maxRecDepth 20000 in
theorem gX2_addRooms_X2_drawnBefore : GoodIn wsX2_addRooms (wsV RX2 107 RX2 yX2_drawnBefore wsX2_drawnBefore) := goodIn_app (goodIn_of _ (by decide +kernel)) ggX2_addRooms_X2_drawnBefore
set_option maxRecDepth 20000 in
theorem ggX2_addRooms_X1_number : GoodIn wsX2_addRooms wsX1_number := goodIn_r _ [31, 32, 33, 34, 57, 58, 59] (by decide +kernel) (by decide +kernel)
set_option maxRecDepth 20000 in
theorem gX2_addRooms_X1_number : GoodIn wsX2_addRooms (wsV RX2 111 RX1 yX1_number wsX1_number) := goodIn_app (goodIn_of _ (by decide +kernel)) ggX2_addRooms_X1_number
set_option maxRecDepth 20000 in
theorem ggX2_addRooms_X2_mayRise : GoodIn wsX2_addRooms wsX2_mayRise := goodIn_r _ [39, 1, 3, 6, 40, 41, 42, 43, 44, 45, 46, 47, 48, 49, 50, 51, 52, 53, 54, 55, 56] (by decide +kernel) (by decide +kernel)
set_option maxRecDepth 20000 in
theorem gX2_addRooms_X2_mayRise : GoodIn wsX2_addRooms (wsV RX2 114 RX2 yX2_mayRise wsX2_mayRise) := goodIn_app (goodIn_of _ (by decide +kernel)) ggX2_addRooms_X2_mayRise
theorem dX2_addRooms_0 : decode cX2_addRooms 0 = .ok (.iconst 0, 1) := by decide +kernel
theorem dX2_addRooms_1 : decode cX2_addRooms 1 = .ok (.istore_n 1, 1) := by decide +kernel
theorem dX2_addRooms_2 : decode cX2_addRooms 2 = .ok (.aload_n 0, 1) := by decide +kernel
theorem dX2_addRooms_3 : decode cX2_addRooms 3 = .ok (.getfield 22, 3) := by decide +kernel
theorem dX2_addRooms_6 : decode cX2_addRooms 6 = .ok (.getfield 98, 3) := by decide +kernel
theorem dX2_addRooms_9 : decode cX2_addRooms 9 = .ok (.iconst 0, 1) := by decide +kernel
theorem dX2_addRooms_10 : decode cX2_addRooms 10 = .ok (.iconst (-1), 1) := by decide +kernel
theorem dX2_addRooms_11 : decode cX2_addRooms 11 = .ok (.iastore, 1) := by decide +kernel
theorem dX2_addRooms_12 : decode cX2_addRooms 12 = .ok (.aload_n 0, 1) := by decide +kernel
theorem dX2_addRooms_13 : decode cX2_addRooms 13 = .ok (.getfield 22, 3) := by decide +kernel
theorem dX2_addRooms_16 : decode cX2_addRooms 16 = .ok (.getfield 101, 3) := by decide +kernel
theorem dX2_addRooms_19 : decode cX2_addRooms 19 = .ok (.iconst 0, 1) := by decide +kernel
theorem dX2_addRooms_20 : decode cX2_addRooms 20 = .ok (.iconst 0, 1) := by decide +kernel
theorem dX2_addRooms_21 : decode cX2_addRooms 21 = .ok (.iastore, 1) := by decide +kernel
theorem dX2_addRooms_22 : decode cX2_addRooms 22 = .ok (.aload_n 0, 1) := by decide +kernel
theorem dX2_addRooms_23 : decode cX2_addRooms 23 = .ok (.getfield 22, 3) := by decide +kernel
theorem dX2_addRooms_26 : decode cX2_addRooms 26 = .ok (.getfield 104, 3) := by decide +kernel
theorem dX2_addRooms_29 : decode cX2_addRooms 29 = .ok (.iconst 0, 1) := by decide +kernel
theorem dX2_addRooms_30 : decode cX2_addRooms 30 = .ok (.iconst 0, 1) := by decide +kernel
theorem dX2_addRooms_31 : decode cX2_addRooms 31 = .ok (.iastore, 1) := by decide +kernel
theorem dX2_addRooms_32 : decode cX2_addRooms 32 = .ok (.iconst 1, 1) := by decide +kernel
theorem dX2_addRooms_33 : decode cX2_addRooms 33 = .ok (.istore_n 2, 1) := by decide +kernel
theorem dX2_addRooms_34 : decode cX2_addRooms 34 = .ok (.iload_n 2, 1) := by decide +kernel
theorem dX2_addRooms_35 : decode cX2_addRooms 35 = .ok (.aload_n 0, 1) := by decide +kernel
theorem dX2_addRooms_36 : decode cX2_addRooms 36 = .ok (.getfield 22, 3) := by decide +kernel
theorem dX2_addRooms_39 : decode cX2_addRooms 39 = .ok (.getfield 33, 3) := by decide +kernel
theorem dX2_addRooms_42 : decode cX2_addRooms 42 = .ok (.if_icmp .ge 157, 3) := by decide +kernel
theorem dX2_addRooms_45 : decode cX2_addRooms 45 = .ok (.aload_n 0, 1) := by decide +kernel
theorem dX2_addRooms_46 : decode cX2_addRooms 46 = .ok (.getfield 22, 3) := by decide +kernel
theorem dX2_addRooms_49 : decode cX2_addRooms 49 = .ok (.getfield 33, 3) := by decide +kernel
theorem dX2_addRooms_52 : decode cX2_addRooms 52 = .ok (.iload_n 2, 1) := by decide +kernel
theorem dX2_addRooms_53 : decode cX2_addRooms 53 = .ok (.isub, 1) := by decide +kernel
theorem dX2_addRooms_54 : decode cX2_addRooms 54 = .ok (.aload_n 0, 1) := by decide +kernel
theorem dX2_addRooms_55 : decode cX2_addRooms 55 = .ok (.getfield 22, 3) := by decide +kernel
theorem dX2_addRooms_58 : decode cX2_addRooms 58 = .ok (.getfield 39, 3) := by decide +kernel
theorem dX2_addRooms_61 : decode cX2_addRooms 61 = .ok (.iload_n 1, 1) := by decide +kernel
theorem dX2_addRooms_62 : decode cX2_addRooms 62 = .ok (.isub, 1) := by decide +kernel
theorem dX2_addRooms_63 : decode cX2_addRooms 63 = .ok (.if_icmp .ne 7, 3) := by decide +kernel
theorem dX2_addRooms_66 : decode cX2_addRooms 66 = .ok (.iconst 1, 1) := by decide +kernel
theorem dX2_addRooms_67 : decode cX2_addRooms 67 = .ok (.goto 4, 3) := by decide +kernel
theorem dX2_addRooms_70 : decode cX2_addRooms 70 = .ok (.iconst 0, 1) := by decide +kernel
theorem dX2_addRooms_71 : decode cX2_addRooms 71 = .ok (.istore_n 3, 1) := by decide +kernel
theorem dX2_addRooms_72 : decode cX2_addRooms 72 = .ok (.iload_n 3, 1) := by decide +kernel
theorem dX2_addRooms_73 : decode cX2_addRooms 73 = .ok (.ifCond .eq 12, 3) := by decide +kernel
theorem dX2_addRooms_76 : decode cX2_addRooms 76 = .ok (.aload_n 0, 1) := by decide +kernel
theorem dX2_addRooms_77 : decode cX2_addRooms 77 = .ok (.iload_n 2, 1) := by decide +kernel
theorem dX2_addRooms_78 : decode cX2_addRooms 78 = .ok (.iload_n 1, 1) := by decide +kernel
theorem dX2_addRooms_79 : decode cX2_addRooms 79 = .ok (.invokevirtual 107, 3) := by decide +kernel
theorem dX2_addRooms_82 : decode cX2_addRooms 82 = .ok (.goto 11, 3) := by decide +kernel
theorem dX2_addRooms_85 : decode cX2_addRooms 85 = .ok (.aload_n 0, 1) := by decide +kernel
theorem dX2_addRooms_86 : decode cX2_addRooms 86 = .ok (.getfield 12, 3) := by decide +kernel
theorem dX2_addRooms_89 : decode cX2_addRooms 89 = .ok (.iload_n 2, 1) := by decide +kernel
theorem dX2_addRooms_90 : decode cX2_addRooms 90 = .ok (.invokevirtual 111, 3) := by decide +kernel
theorem dX2_addRooms_93 : decode cX2_addRooms 93 = .ok (.istore 4, 2) := by decide +kernel
theorem dX2_addRooms_95 : decode cX2_addRooms 95 = .ok (.iload_n 3, 1) := by decide +kernel
theorem dX2_addRooms_96 : decode cX2_addRooms 96 = .ok (.ifCond .ne 24, 3) := by decide +kernel
theorem dX2_addRooms_99 : decode cX2_addRooms 99 = .ok (.aload_n 0, 1) := by decide +kernel
theorem dX2_addRooms_100 : decode cX2_addRooms 100 = .ok (.iload 4, 2) := by decide +kernel
theorem dX2_addRooms_102 : decode cX2_addRooms 102 = .ok (.iload_n 1, 1) := by decide +kernel
theorem dX2_addRooms_103 : decode cX2_addRooms 103 = .ok (.invokevirtual 114, 3) := by decide +kernel
theorem dX2_addRooms_106 : decode cX2_addRooms 106 = .ok (.ifCond .eq 18, 3) := by decide +kernel
theorem dX2_addRooms_109 : decode cX2_addRooms 109 = .ok (.aload_n 0, 1) := by decide +kernel
theorem dX2_addRooms_110 : decode cX2_addRooms 110 = .ok (.getfield 12, 3) := by decide +kernel
theorem dX2_addRooms_113 : decode cX2_addRooms 113 = .ok (.iconst 4, 1) := by decide +kernel
theorem dX2_addRooms_114 : decode cX2_addRooms 114 = .ok (.invokevirtual 111, 3) := by decide +kernel
theorem dX2_addRooms_117 : decode cX2_addRooms 117 = .ok (.ifCond .ne 7, 3) := by decide +kernel
theorem dX2_addRooms_120 : decode cX2_addRooms 120 = .ok (.iconst 1, 1) := by decide +kernel
theorem dX2_addRooms_121 : decode cX2_addRooms 121 = .ok (.goto 4, 3) := by decide +kernel
theorem dX2_addRooms_124 : decode cX2_addRooms 124 = .ok (.iconst 0, 1) := by decide +kernel
theorem dX2_addRooms_125 : decode cX2_addRooms 125 = .ok (.istore 5, 2) := by decide +kernel
theorem dX2_addRooms_127 : decode cX2_addRooms 127 = .ok (.iload 5, 2) := by decide +kernel
theorem dX2_addRooms_129 : decode cX2_addRooms 129 = .ok (.ifCond .eq 6, 3) := by decide +kernel
theorem dX2_addRooms_132 : decode cX2_addRooms 132 = .ok (.iinc 1 1, 3) := by decide +kernel
theorem dX2_addRooms_135 : decode cX2_addRooms 135 = .ok (.aload_n 0, 1) := by decide +kernel
theorem dX2_addRooms_136 : decode cX2_addRooms 136 = .ok (.getfield 22, 3) := by decide +kernel
theorem dX2_addRooms_139 : decode cX2_addRooms 139 = .ok (.getfield 98, 3) := by decide +kernel
theorem dX2_addRooms_142 : decode cX2_addRooms 142 = .ok (.iload_n 2, 1) := by decide +kernel
theorem dX2_addRooms_143 : decode cX2_addRooms 143 = .ok (.iload 4, 2) := by decide +kernel
theorem dX2_addRooms_145 : decode cX2_addRooms 145 = .ok (.iastore, 1) := by decide +kernel
theorem dX2_addRooms_146 : decode cX2_addRooms 146 = .ok (.aload_n 0, 1) := by decide +kernel
theorem dX2_addRooms_147 : decode cX2_addRooms 147 = .ok (.getfield 22, 3) := by decide +kernel
theorem dX2_addRooms_150 : decode cX2_addRooms 150 = .ok (.getfield 101, 3) := by decide +kernel
theorem dX2_addRooms_153 : decode cX2_addRooms 153 = .ok (.iload_n 2, 1) := by decide +kernel
theorem dX2_addRooms_154 : decode cX2_addRooms 154 = .ok (.iload 5, 2) := by decide +kernel
theorem dX2_addRooms_156 : decode cX2_addRooms 156 = .ok (.ifCond .eq 7, 3) := by decide +kernel
theorem dX2_addRooms_159 : decode cX2_addRooms 159 = .ok (.iload_n 1, 1) := by decide +kernel
theorem dX2_addRooms_160 : decode cX2_addRooms 160 = .ok (.goto 13, 3) := by decide +kernel
theorem dX2_addRooms_163 : decode cX2_addRooms 163 = .ok (.aload_n 0, 1) := by decide +kernel
theorem dX2_addRooms_164 : decode cX2_addRooms 164 = .ok (.getfield 22, 3) := by decide +kernel
theorem dX2_addRooms_167 : decode cX2_addRooms 167 = .ok (.getfield 101, 3) := by decide +kernel
theorem dX2_addRooms_170 : decode cX2_addRooms 170 = .ok (.iload 4, 2) := by decide +kernel
theorem dX2_addRooms_172 : decode cX2_addRooms 172 = .ok (.iaload, 1) := by decide +kernel
theorem dX2_addRooms_173 : decode cX2_addRooms 173 = .ok (.iastore, 1) := by decide +kernel
theorem dX2_addRooms_174 : decode cX2_addRooms 174 = .ok (.aload_n 0, 1) := by decide +kernel
theorem dX2_addRooms_175 : decode cX2_addRooms 175 = .ok (.getfield 22, 3) := by decide +kernel
theorem dX2_addRooms_178 : decode cX2_addRooms 178 = .ok (.getfield 104, 3) := by decide +kernel
theorem dX2_addRooms_181 : decode cX2_addRooms 181 = .ok (.iload_n 2, 1) := by decide +kernel
theorem dX2_addRooms_182 : decode cX2_addRooms 182 = .ok (.iload 5, 2) := by decide +kernel
theorem dX2_addRooms_184 : decode cX2_addRooms 184 = .ok (.ifCond .eq 7, 3) := by decide +kernel
theorem dX2_addRooms_187 : decode cX2_addRooms 187 = .ok (.iconst 1, 1) := by decide +kernel
theorem dX2_addRooms_188 : decode cX2_addRooms 188 = .ok (.goto 4, 3) := by decide +kernel
theorem dX2_addRooms_191 : decode cX2_addRooms 191 = .ok (.iconst 0, 1) := by decide +kernel
theorem dX2_addRooms_192 : decode cX2_addRooms 192 = .ok (.iastore, 1) := by decide +kernel
theorem dX2_addRooms_193 : decode cX2_addRooms 193 = .ok (.iinc 2 1, 3) := by decide +kernel
theorem dX2_addRooms_196 : decode cX2_addRooms 196 = .ok (.goto (-162), 3) := by decide +kernel
theorem dX2_addRooms_199 : decode cX2_addRooms 199 = .ok (.return_, 1) := by decide +kernel
theorem dX2_mayRise_0 : decode cX2_mayRise 0 = .ok (.aload_n 0, 1) := by decide +kernel
theorem dX2_mayRise_1 : decode cX2_mayRise 1 = .ok (.getfield 22, 3) := by decide +kernel
theorem dX2_mayRise_4 : decode cX2_mayRise 4 = .ok (.getfield 101, 3) := by decide +kernel
theorem dX2_mayRise_7 : decode cX2_mayRise 7 = .ok (.iload_n 1, 1) := by decide +kernel
theorem dX2_mayRise_8 : decode cX2_mayRise 8 = .ok (.iaload, 1) := by decide +kernel
theorem dX2_mayRise_9 : decode cX2_mayRise 9 = .ok (.iload_n 2, 1) := by decide +kernel
theorem dX2_mayRise_10 : decode cX2_mayRise 10 = .ok (.if_icmp .ne 18, 3) := by decide +kernel
theorem dX2_mayRise_13 : decode cX2_mayRise 13 = .ok (.iload_n 2, 1) := by decide +kernel
theorem dX2_mayRise_14 : decode cX2_mayRise 14 = .ok (.aload_n 0, 1) := by decide +kernel
theorem dX2_mayRise_15 : decode cX2_mayRise 15 = .ok (.getfield 22, 3) := by decide +kernel
theorem dX2_mayRise_18 : decode cX2_mayRise 18 = .ok (.getfield 39, 3) := by decide +kernel
theorem dX2_mayRise_21 : decode cX2_mayRise 21 = .ok (.if_icmp .ge 7, 3) := by decide +kernel
theorem dX2_mayRise_24 : decode cX2_mayRise 24 = .ok (.iconst 1, 1) := by decide +kernel
theorem dX2_mayRise_25 : decode cX2_mayRise 25 = .ok (.goto 4, 3) := by decide +kernel
theorem dX2_mayRise_28 : decode cX2_mayRise 28 = .ok (.iconst 0, 1) := by decide +kernel
theorem dX2_mayRise_29 : decode cX2_mayRise 29 = .ok (.ireturn, 1) := by decide +kernel
set_option maxRecDepth 20000 in
theorem ggX2_drawnBefore_X1_clearOffer : GoodIn wsX2_drawnBefore wsX1_clearOffer := goodIn_r _ [8, 9, 43, 44, 45] (by decide +kernel) (by decide +kernel)
set_option maxRecDepth 20000 in
theorem gX2_drawnBefore_X1_clearOffer : GoodIn wsX2_drawnBefore (wsV RX2 118 RX1 yX1_clearOffer wsX1_clearOffer) := goodIn_app (goodIn_of _ (by decide +kernel)) ggX2_drawnBefore_X1_clearOffer
set_option maxRecDepth 20000 in
theorem ggX2_drawnBefore_X1_offer : GoodIn wsX2_drawnBefore wsX1_offer := goodIn_r _ [13, 9, 14, 43, 44, 45] (by decide +kernel) (by decide +kernel)
set_option maxRecDepth 20000 in
theorem gX2_drawnBefore_X1_offer : GoodIn wsX2_drawnBefore (wsV RX2 121 RX1 yX1_offer wsX1_offer) := goodIn_app (goodIn_of _ (by decide +kernel)) ggX2_drawnBefore_X1_offer
set_option maxRecDepth 20000 in
theorem ggX2_drawnBefore_X1_offeredRoom : GoodIn wsX2_drawnBefore wsX1_offeredRoom := goodIn_r _ [18, 14, 9, 19, 20, 21, 7, 22, 23, 24, 25, 43, 44, 45] (by decide +kernel) (by decide +kernel)
set_option maxRecDepth 20000 in
theorem gX2_drawnBefore_X1_offeredRoom : GoodIn wsX2_drawnBefore (wsV RX2 63 RX1 yX1_offeredRoom wsX1_offeredRoom) := goodIn_app (goodIn_of _ (by decide +kernel)) ggX2_drawnBefore_X1_offeredRoom
theorem dX2_drawnBefore_0 : decode cX2_drawnBefore 0 = .ok (.aload_n 0, 1) := by decide +kernel
theorem dX2_drawnBefore_1 : decode cX2_drawnBefore 1 = .ok (.getfield 12, 3) := by decide +kernel
theorem dX2_drawnBefore_4 : decode cX2_drawnBefore 4 = .ok (.invokevirtual 118, 3) := by decide +kernel
theorem dX2_drawnBefore_7 : decode cX2_drawnBefore 7 = .ok (.iconst 0, 1) := by decide +kernel
theorem dX2_drawnBefore_8 : decode cX2_drawnBefore 8 = .ok (.istore_n 3, 1) := by decide +kernel
theorem dX2_drawnBefore_9 : decode cX2_drawnBefore 9 = .ok (.iload_n 3, 1) := by decide +kernel
theorem dX2_drawnBefore_10 : decode cX2_drawnBefore 10 = .ok (.iload_n 1, 1) := by decide +kernel
theorem dX2_drawnBefore_11 : decode cX2_drawnBefore 11 = .ok (.if_icmp .ge 30, 3) := by decide +kernel
theorem dX2_drawnBefore_14 : decode cX2_drawnBefore 14 = .ok (.aload_n 0, 1) := by decide +kernel
theorem dX2_drawnBefore_15 : decode cX2_drawnBefore 15 = .ok (.getfield 22, 3) := by decide +kernel
theorem dX2_drawnBefore_18 : decode cX2_drawnBefore 18 = .ok (.getfield 101, 3) := by decide +kernel
theorem dX2_drawnBefore_21 : decode cX2_drawnBefore 21 = .ok (.iload_n 3, 1) := by decide +kernel
theorem dX2_drawnBefore_22 : decode cX2_drawnBefore 22 = .ok (.iaload, 1) := by decide +kernel
theorem dX2_drawnBefore_23 : decode cX2_drawnBefore 23 = .ok (.iload_n 2, 1) := by decide +kernel
theorem dX2_drawnBefore_24 : decode cX2_drawnBefore 24 = .ok (.if_icmp .ne 11, 3) := by decide +kernel
theorem dX2_drawnBefore_27 : decode cX2_drawnBefore 27 = .ok (.aload_n 0, 1) := by decide +kernel
theorem dX2_drawnBefore_28 : decode cX2_drawnBefore 28 = .ok (.getfield 12, 3) := by decide +kernel
theorem dX2_drawnBefore_31 : decode cX2_drawnBefore 31 = .ok (.iload_n 3, 1) := by decide +kernel
theorem dX2_drawnBefore_32 : decode cX2_drawnBefore 32 = .ok (.invokevirtual 121, 3) := by decide +kernel
theorem dX2_drawnBefore_35 : decode cX2_drawnBefore 35 = .ok (.iinc 3 1, 3) := by decide +kernel
theorem dX2_drawnBefore_38 : decode cX2_drawnBefore 38 = .ok (.goto (-29), 3) := by decide +kernel
theorem dX2_drawnBefore_41 : decode cX2_drawnBefore 41 = .ok (.aload_n 0, 1) := by decide +kernel
theorem dX2_drawnBefore_42 : decode cX2_drawnBefore 42 = .ok (.getfield 12, 3) := by decide +kernel
theorem dX2_drawnBefore_45 : decode cX2_drawnBefore 45 = .ok (.invokevirtual 63, 3) := by decide +kernel
theorem dX2_drawnBefore_48 : decode cX2_drawnBefore 48 = .ok (.ireturn, 1) := by decide +kernel
set_option maxRecDepth 20000 in
theorem ggX2_offerLevels_X1_clearOffer : GoodIn wsX2_offerLevels wsX1_clearOffer := goodIn_r _ [9, 10, 36, 37, 38] (by decide +kernel) (by decide +kernel)
set_option maxRecDepth 20000 in
theorem gX2_offerLevels_X1_clearOffer : GoodIn wsX2_offerLevels (wsV RX2 118 RX1 yX1_clearOffer wsX1_clearOffer) := goodIn_app (goodIn_of _ (by decide +kernel)) ggX2_offerLevels_X1_clearOffer
set_option maxRecDepth 20000 in
theorem ggX2_offerLevels_X6_isWithin : GoodIn wsX2_offerLevels wsX6_isWithin := goodIn_r _ [13] (by decide +kernel) (by decide +kernel)
set_option maxRecDepth 20000 in
theorem gX2_offerLevels_X6_isWithin_n124 : GoodIn wsX2_offerLevels (wsX6_isWithin) := ggX2_offerLevels_X6_isWithin
set_option maxRecDepth 20000 in
theorem ggX2_offerLevels_X1_offer : GoodIn wsX2_offerLevels wsX1_offer := goodIn_r _ [17, 10, 18, 36, 37, 38] (by decide +kernel) (by decide +kernel)
set_option maxRecDepth 20000 in
theorem gX2_offerLevels_X1_offer : GoodIn wsX2_offerLevels (wsV RX2 121 RX1 yX1_offer wsX1_offer) := goodIn_app (goodIn_of _ (by decide +kernel)) ggX2_offerLevels_X1_offer
theorem dX2_offerLevels_0 : decode cX2_offerLevels 0 = .ok (.aload_n 0, 1) := by decide +kernel
theorem dX2_offerLevels_1 : decode cX2_offerLevels 1 = .ok (.getfield 12, 3) := by decide +kernel
theorem dX2_offerLevels_4 : decode cX2_offerLevels 4 = .ok (.invokevirtual 118, 3) := by decide +kernel
theorem dX2_offerLevels_7 : decode cX2_offerLevels 7 = .ok (.iconst 0, 1) := by decide +kernel
theorem dX2_offerLevels_8 : decode cX2_offerLevels 8 = .ok (.istore_n 3, 1) := by decide +kernel
theorem dX2_offerLevels_9 : decode cX2_offerLevels 9 = .ok (.iload_n 3, 1) := by decide +kernel
theorem dX2_offerLevels_10 : decode cX2_offerLevels 10 = .ok (.aload_n 0, 1) := by decide +kernel
theorem dX2_offerLevels_11 : decode cX2_offerLevels 11 = .ok (.getfield 22, 3) := by decide +kernel
theorem dX2_offerLevels_14 : decode cX2_offerLevels 14 = .ok (.getfield 33, 3) := by decide +kernel
theorem dX2_offerLevels_17 : decode cX2_offerLevels 17 = .ok (.if_icmp .ge 34, 3) := by decide +kernel
theorem dX2_offerLevels_20 : decode cX2_offerLevels 20 = .ok (.aload_n 0, 1) := by decide +kernel
theorem dX2_offerLevels_21 : decode cX2_offerLevels 21 = .ok (.getfield 22, 3) := by decide +kernel
theorem dX2_offerLevels_24 : decode cX2_offerLevels 24 = .ok (.getfield 101, 3) := by decide +kernel
theorem dX2_offerLevels_27 : decode cX2_offerLevels 27 = .ok (.iload_n 3, 1) := by decide +kernel
theorem dX2_offerLevels_28 : decode cX2_offerLevels 28 = .ok (.iaload, 1) := by decide +kernel
theorem dX2_offerLevels_29 : decode cX2_offerLevels 29 = .ok (.iload_n 1, 1) := by decide +kernel
theorem dX2_offerLevels_30 : decode cX2_offerLevels 30 = .ok (.iload_n 2, 1) := by decide +kernel
theorem dX2_offerLevels_31 : decode cX2_offerLevels 31 = .ok (.invokestatic 124, 3) := by decide +kernel
theorem dX2_offerLevels_34 : decode cX2_offerLevels 34 = .ok (.ifCond .eq 11, 3) := by decide +kernel
theorem dX2_offerLevels_37 : decode cX2_offerLevels 37 = .ok (.aload_n 0, 1) := by decide +kernel
theorem dX2_offerLevels_38 : decode cX2_offerLevels 38 = .ok (.getfield 12, 3) := by decide +kernel
theorem dX2_offerLevels_41 : decode cX2_offerLevels 41 = .ok (.iload_n 3, 1) := by decide +kernel
theorem dX2_offerLevels_42 : decode cX2_offerLevels 42 = .ok (.invokevirtual 121, 3) := by decide +kernel
theorem dX2_offerLevels_45 : decode cX2_offerLevels 45 = .ok (.iinc 3 1, 3) := by decide +kernel
theorem dX2_offerLevels_48 : decode cX2_offerLevels 48 = .ok (.goto (-39), 3) := by decide +kernel
theorem dX2_offerLevels_51 : decode cX2_offerLevels 51 = .ok (.return_, 1) := by decide +kernel
set_option maxRecDepth 20000 in
theorem ggX2_offerPlainDoors_X1_clearOffer : GoodIn wsX2_offerPlainDoors wsX1_clearOffer := goodIn_r _ [9, 10, 33, 34, 35] (by decide +kernel) (by decide +kernel)
set_option maxRecDepth 20000 in
theorem gX2_offerPlainDoors_X1_clearOffer : GoodIn wsX2_offerPlainDoors (wsV RX2 118 RX1 yX1_clearOffer wsX1_clearOffer) := goodIn_app (goodIn_of _ (by decide +kernel)) ggX2_offerPlainDoors_X1_clearOffer
set_option maxRecDepth 20000 in
theorem ggX2_offerPlainDoors_X1_offer : GoodIn wsX2_offerPlainDoors wsX1_offer := goodIn_r _ [14, 10, 15, 33, 34, 35] (by decide +kernel) (by decide +kernel)
set_option maxRecDepth 20000 in
theorem gX2_offerPlainDoors_X1_offer : GoodIn wsX2_offerPlainDoors (wsV RX2 121 RX1 yX1_offer wsX1_offer) := goodIn_app (goodIn_of _ (by decide +kernel)) ggX2_offerPlainDoors_X1_offer
theorem dX2_offerPlainDoors_0 : decode cX2_offerPlainDoors 0 = .ok (.aload_n 0, 1) := by decide +kernel
theorem dX2_offerPlainDoors_1 : decode cX2_offerPlainDoors 1 = .ok (.getfield 12, 3) := by decide +kernel
theorem dX2_offerPlainDoors_4 : decode cX2_offerPlainDoors 4 = .ok (.invokevirtual 118, 3) := by decide +kernel
theorem dX2_offerPlainDoors_7 : decode cX2_offerPlainDoors 7 = .ok (.iconst 1, 1) := by decide +kernel
theorem dX2_offerPlainDoors_8 : decode cX2_offerPlainDoors 8 = .ok (.istore_n 1, 1) := by decide +kernel
theorem dX2_offerPlainDoors_9 : decode cX2_offerPlainDoors 9 = .ok (.iload_n 1, 1) := by decide +kernel
theorem dX2_offerPlainDoors_10 : decode cX2_offerPlainDoors 10 = .ok (.aload_n 0, 1) := by decide +kernel
theorem dX2_offerPlainDoors_11 : decode cX2_offerPlainDoors 11 = .ok (.getfield 22, 3) := by decide +kernel
theorem dX2_offerPlainDoors_14 : decode cX2_offerPlainDoors 14 = .ok (.getfield 33, 3) := by decide +kernel
theorem dX2_offerPlainDoors_17 : decode cX2_offerPlainDoors 17 = .ok (.if_icmp .ge 29, 3) := by decide +kernel
theorem dX2_offerPlainDoors_20 : decode cX2_offerPlainDoors 20 = .ok (.aload_n 0, 1) := by decide +kernel
theorem dX2_offerPlainDoors_21 : decode cX2_offerPlainDoors 21 = .ok (.getfield 22, 3) := by decide +kernel
theorem dX2_offerPlainDoors_24 : decode cX2_offerPlainDoors 24 = .ok (.getfield 104, 3) := by decide +kernel
theorem dX2_offerPlainDoors_27 : decode cX2_offerPlainDoors 27 = .ok (.iload_n 1, 1) := by decide +kernel
theorem dX2_offerPlainDoors_28 : decode cX2_offerPlainDoors 28 = .ok (.iaload, 1) := by decide +kernel
theorem dX2_offerPlainDoors_29 : decode cX2_offerPlainDoors 29 = .ok (.ifCond .ne 11, 3) := by decide +kernel
theorem dX2_offerPlainDoors_32 : decode cX2_offerPlainDoors 32 = .ok (.aload_n 0, 1) := by decide +kernel
theorem dX2_offerPlainDoors_33 : decode cX2_offerPlainDoors 33 = .ok (.getfield 12, 3) := by decide +kernel
theorem dX2_offerPlainDoors_36 : decode cX2_offerPlainDoors 36 = .ok (.iload_n 1, 1) := by decide +kernel
theorem dX2_offerPlainDoors_37 : decode cX2_offerPlainDoors 37 = .ok (.invokevirtual 121, 3) := by decide +kernel
theorem dX2_offerPlainDoors_40 : decode cX2_offerPlainDoors 40 = .ok (.iinc 1 1, 3) := by decide +kernel
theorem dX2_offerPlainDoors_43 : decode cX2_offerPlainDoors 43 = .ok (.goto (-34), 3) := by decide +kernel
theorem dX2_offerPlainDoors_46 : decode cX2_offerPlainDoors 46 = .ok (.return_, 1) := by decide +kernel
set_option maxRecDepth 20000 in
theorem ggX2_layKeys_X2_offerLevels : GoodIn wsX2_layKeys wsX2_offerLevels := goodIn_r _ [9, 4, 1, 10, 11, 12, 13, 14, 15, 16, 17, 18, 19, 20, 21, 22, 23, 24, 25, 41, 42, 43, 44, 45, 46, 47, 48, 49, 50, 51, 52, 53, 54, 55, 56, 57, 58, 59, 60] (by decide +kernel) (by decide +kernel)
set_option maxRecDepth 20000 in
theorem gX2_layKeys_X2_offerLevels : GoodIn wsX2_layKeys (wsV RX2 59 RX2 yX2_offerLevels wsX2_offerLevels) := goodIn_app (goodIn_of _ (by decide +kernel)) ggX2_layKeys_X2_offerLevels
set_option maxRecDepth 20000 in
theorem ggX2_layKeys_X1_offeredRoom : GoodIn wsX2_layKeys wsX1_offeredRoom := goodIn_r _ [29, 25, 17, 30, 31, 32, 15, 33, 34, 35, 36, 58, 59, 60] (by decide +kernel) (by decide +kernel)
set_option maxRecDepth 20000 in
theorem gX2_layKeys_X1_offeredRoom : GoodIn wsX2_layKeys (wsV RX2 63 RX1 yX1_offeredRoom wsX1_offeredRoom) := goodIn_app (goodIn_of _ (by decide +kernel)) ggX2_layKeys_X1_offeredRoom
set_option maxRecDepth 20000 in
theorem ggX2_layKeys_X5_keyBit : GoodIn wsX2_layKeys wsX5_keyBit := goodIn_r _ [40] (by decide +kernel) (by decide +kernel)
set_option maxRecDepth 20000 in
theorem gX2_layKeys_X5_keyBit : GoodIn wsX2_layKeys (va_wsS RX2 128 yX5_keyBit wsX5_keyBit) := goodIn_app (goodIn_of _ (by decide +kernel)) ggX2_layKeys_X5_keyBit
theorem dX2_layKeys_0 : decode cX2_layKeys 0 = .ok (.iconst 1, 1) := by decide +kernel
theorem dX2_layKeys_1 : decode cX2_layKeys 1 = .ok (.istore_n 1, 1) := by decide +kernel
theorem dX2_layKeys_2 : decode cX2_layKeys 2 = .ok (.iload_n 1, 1) := by decide +kernel
theorem dX2_layKeys_3 : decode cX2_layKeys 3 = .ok (.aload_n 0, 1) := by decide +kernel
theorem dX2_layKeys_4 : decode cX2_layKeys 4 = .ok (.getfield 22, 3) := by decide +kernel
theorem dX2_layKeys_7 : decode cX2_layKeys 7 = .ok (.getfield 39, 3) := by decide +kernel
theorem dX2_layKeys_10 : decode cX2_layKeys 10 = .ok (.if_icmp .gt 39, 3) := by decide +kernel
theorem dX2_layKeys_13 : decode cX2_layKeys 13 = .ok (.aload_n 0, 1) := by decide +kernel
theorem dX2_layKeys_14 : decode cX2_layKeys 14 = .ok (.iconst 0, 1) := by decide +kernel
theorem dX2_layKeys_15 : decode cX2_layKeys 15 = .ok (.iload_n 1, 1) := by decide +kernel
theorem dX2_layKeys_16 : decode cX2_layKeys 16 = .ok (.iconst 1, 1) := by decide +kernel
theorem dX2_layKeys_17 : decode cX2_layKeys 17 = .ok (.isub, 1) := by decide +kernel
theorem dX2_layKeys_18 : decode cX2_layKeys 18 = .ok (.invokevirtual 59, 3) := by decide +kernel
theorem dX2_layKeys_21 : decode cX2_layKeys 21 = .ok (.aload_n 0, 1) := by decide +kernel
theorem dX2_layKeys_22 : decode cX2_layKeys 22 = .ok (.getfield 22, 3) := by decide +kernel
theorem dX2_layKeys_25 : decode cX2_layKeys 25 = .ok (.getfield 79, 3) := by decide +kernel
theorem dX2_layKeys_28 : decode cX2_layKeys 28 = .ok (.aload_n 0, 1) := by decide +kernel
theorem dX2_layKeys_29 : decode cX2_layKeys 29 = .ok (.getfield 12, 3) := by decide +kernel
theorem dX2_layKeys_32 : decode cX2_layKeys 32 = .ok (.invokevirtual 63, 3) := by decide +kernel
theorem dX2_layKeys_35 : decode cX2_layKeys 35 = .ok (.dup2, 1) := by decide +kernel
theorem dX2_layKeys_36 : decode cX2_layKeys 36 = .ok (.iaload, 1) := by decide +kernel
theorem dX2_layKeys_37 : decode cX2_layKeys 37 = .ok (.iload_n 1, 1) := by decide +kernel
theorem dX2_layKeys_38 : decode cX2_layKeys 38 = .ok (.invokestatic 128, 3) := by decide +kernel
theorem dX2_layKeys_41 : decode cX2_layKeys 41 = .ok (.ior, 1) := by decide +kernel
theorem dX2_layKeys_42 : decode cX2_layKeys 42 = .ok (.iastore, 1) := by decide +kernel
theorem dX2_layKeys_43 : decode cX2_layKeys 43 = .ok (.iinc 1 1, 3) := by decide +kernel
theorem dX2_layKeys_46 : decode cX2_layKeys 46 = .ok (.goto (-44), 3) := by decide +kernel
theorem dX2_layKeys_49 : decode cX2_layKeys 49 = .ok (.return_, 1) := by decide +kernel
set_option maxRecDepth 20000 in
theorem ggX2_makeSmallDoors_X2_offerPlainDoors : GoodIn wsX2_makeSmallDoors wsX2_offerPlainDoors := goodIn_r _ [9, 1, 2, 10, 3, 11, 12, 13, 14, 15, 16, 17, 18, 19, 20, 21, 37, 38, 39, 40, 41, 42, 43, 44, 45, 46, 47, 48, 49, 50, 51, 52, 53, 54, 55, 56] (by decide +kernel) (by decide +kernel)
set_option maxRecDepth 20000 in
theorem gX2_makeSmallDoors_X2_offerPlainDoors : GoodIn wsX2_makeSmallDoors (wsV RX2 133 RX2 yX2_offerPlainDoors wsX2_offerPlainDoors) := goodIn_app (goodIn_of _ (by decide +kernel)) ggX2_makeSmallDoors_X2_offerPlainDoors
set_option maxRecDepth 20000 in
theorem ggX2_makeSmallDoors_X1_hasOffer : GoodIn wsX2_makeSmallDoors wsX1_hasOffer := goodIn_r _ [25, 16, 54, 55, 56] (by decide +kernel) (by decide +kernel)
set_option maxRecDepth 20000 in
theorem gX2_makeSmallDoors_X1_hasOffer : GoodIn wsX2_makeSmallDoors (wsV RX2 136 RX1 yX1_hasOffer wsX1_hasOffer) := goodIn_app (goodIn_of _ (by decide +kernel)) ggX2_makeSmallDoors_X1_hasOffer
set_option maxRecDepth 20000 in
theorem ggX2_makeSmallDoors_X1_offeredRoom : GoodIn wsX2_makeSmallDoors wsX1_offeredRoom := goodIn_r _ [29, 21, 16, 30, 31, 32, 14, 33, 34, 35, 36, 54, 55, 56] (by decide +kernel) (by decide +kernel)
set_option maxRecDepth 20000 in
theorem gX2_makeSmallDoors_X1_offeredRoom : GoodIn wsX2_makeSmallDoors (wsV RX2 63 RX1 yX1_offeredRoom wsX1_offeredRoom) := goodIn_app (goodIn_of _ (by decide +kernel)) ggX2_makeSmallDoors_X1_offeredRoom
theorem dX2_makeSmallDoors_0 : decode cX2_makeSmallDoors 0 = .ok (.iconst 0, 1) := by decide +kernel
theorem dX2_makeSmallDoors_1 : decode cX2_makeSmallDoors 1 = .ok (.istore_n 2, 1) := by decide +kernel
theorem dX2_makeSmallDoors_2 : decode cX2_makeSmallDoors 2 = .ok (.iconst 0, 1) := by decide +kernel
theorem dX2_makeSmallDoors_3 : decode cX2_makeSmallDoors 3 = .ok (.istore_n 3, 1) := by decide +kernel
theorem dX2_makeSmallDoors_4 : decode cX2_makeSmallDoors 4 = .ok (.iload_n 3, 1) := by decide +kernel
theorem dX2_makeSmallDoors_5 : decode cX2_makeSmallDoors 5 = .ok (.iload_n 1, 1) := by decide +kernel
theorem dX2_makeSmallDoors_6 : decode cX2_makeSmallDoors 6 = .ok (.if_icmp .ge 57, 3) := by decide +kernel
theorem dX2_makeSmallDoors_9 : decode cX2_makeSmallDoors 9 = .ok (.aload_n 0, 1) := by decide +kernel
theorem dX2_makeSmallDoors_10 : decode cX2_makeSmallDoors 10 = .ok (.invokevirtual 133, 3) := by decide +kernel
theorem dX2_makeSmallDoors_13 : decode cX2_makeSmallDoors 13 = .ok (.aload_n 0, 1) := by decide +kernel
theorem dX2_makeSmallDoors_14 : decode cX2_makeSmallDoors 14 = .ok (.getfield 12, 3) := by decide +kernel
theorem dX2_makeSmallDoors_17 : decode cX2_makeSmallDoors 17 = .ok (.invokevirtual 136, 3) := by decide +kernel
theorem dX2_makeSmallDoors_20 : decode cX2_makeSmallDoors 20 = .ok (.ifCond .eq 37, 3) := by decide +kernel
theorem dX2_makeSmallDoors_23 : decode cX2_makeSmallDoors 23 = .ok (.aload_n 0, 1) := by decide +kernel
theorem dX2_makeSmallDoors_24 : decode cX2_makeSmallDoors 24 = .ok (.getfield 12, 3) := by decide +kernel
theorem dX2_makeSmallDoors_27 : decode cX2_makeSmallDoors 27 = .ok (.invokevirtual 63, 3) := by decide +kernel
theorem dX2_makeSmallDoors_30 : decode cX2_makeSmallDoors 30 = .ok (.istore 4, 2) := by decide +kernel
theorem dX2_makeSmallDoors_32 : decode cX2_makeSmallDoors 32 = .ok (.aload_n 0, 1) := by decide +kernel
theorem dX2_makeSmallDoors_33 : decode cX2_makeSmallDoors 33 = .ok (.getfield 22, 3) := by decide +kernel
theorem dX2_makeSmallDoors_36 : decode cX2_makeSmallDoors 36 = .ok (.getfield 104, 3) := by decide +kernel
theorem dX2_makeSmallDoors_39 : decode cX2_makeSmallDoors 39 = .ok (.iload 4, 2) := by decide +kernel
theorem dX2_makeSmallDoors_41 : decode cX2_makeSmallDoors 41 = .ok (.iconst 2, 1) := by decide +kernel
theorem dX2_makeSmallDoors_42 : decode cX2_makeSmallDoors 42 = .ok (.iastore, 1) := by decide +kernel
theorem dX2_makeSmallDoors_43 : decode cX2_makeSmallDoors 43 = .ok (.aload_n 0, 1) := by decide +kernel
theorem dX2_makeSmallDoors_44 : decode cX2_makeSmallDoors 44 = .ok (.getfield 22, 3) := by decide +kernel
theorem dX2_makeSmallDoors_47 : decode cX2_makeSmallDoors 47 = .ok (.getfield 140, 3) := by decide +kernel
theorem dX2_makeSmallDoors_50 : decode cX2_makeSmallDoors 50 = .ok (.iload 4, 2) := by decide +kernel
theorem dX2_makeSmallDoors_52 : decode cX2_makeSmallDoors 52 = .ok (.iload_n 2, 1) := by decide +kernel
theorem dX2_makeSmallDoors_53 : decode cX2_makeSmallDoors 53 = .ok (.iastore, 1) := by decide +kernel
theorem dX2_makeSmallDoors_54 : decode cX2_makeSmallDoors 54 = .ok (.iinc 2 1, 3) := by decide +kernel
theorem dX2_makeSmallDoors_57 : decode cX2_makeSmallDoors 57 = .ok (.iinc 3 1, 3) := by decide +kernel
theorem dX2_makeSmallDoors_60 : decode cX2_makeSmallDoors 60 = .ok (.goto (-56), 3) := by decide +kernel
theorem dX2_makeSmallDoors_63 : decode cX2_makeSmallDoors 63 = .ok (.iload_n 2, 1) := by decide +kernel
theorem dX2_makeSmallDoors_64 : decode cX2_makeSmallDoors 64 = .ok (.ireturn, 1) := by decide +kernel
set_option maxRecDepth 20000 in
theorem ggX2_laySmallKeys_X2_offerOpenRooms : GoodIn wsX2_laySmallKeys wsX2_offerOpenRooms := goodIn_r _ [8, 3, 9, 1, 10, 11, 12, 13, 14, 15, 16, 17, 18, 19, 20, 21, 22, 23, 24, 40, 41, 42, 43, 44, 45, 46, 47, 48, 49, 50, 51, 52, 53, 54, 55, 56, 57, 58, 59] (by decide +kernel) (by decide +kernel)
set_option maxRecDepth 20000 in
theorem gX2_laySmallKeys_X2_offerOpenRooms : GoodIn wsX2_laySmallKeys (wsV RX2 143 RX2 yX2_offerOpenRooms wsX2_offerOpenRooms) := goodIn_app (goodIn_of _ (by decide +kernel)) ggX2_laySmallKeys_X2_offerOpenRooms
set_option maxRecDepth 20000 in
theorem ggX2_laySmallKeys_X1_offeredRoom : GoodIn wsX2_laySmallKeys wsX1_offeredRoom := goodIn_r _ [28, 24, 19, 29, 30, 31, 17, 32, 33, 34, 35, 57, 58, 59] (by decide +kernel) (by decide +kernel)
set_option maxRecDepth 20000 in
theorem gX2_laySmallKeys_X1_offeredRoom : GoodIn wsX2_laySmallKeys (wsV RX2 63 RX1 yX1_offeredRoom wsX1_offeredRoom) := goodIn_app (goodIn_of _ (by decide +kernel)) ggX2_laySmallKeys_X1_offeredRoom
set_option maxRecDepth 20000 in
theorem ggX2_laySmallKeys_X5_smallKeyBit : GoodIn wsX2_laySmallKeys wsX5_smallKeyBit := goodIn_r _ [39] (by decide +kernel) (by decide +kernel)
set_option maxRecDepth 20000 in
theorem gX2_laySmallKeys_X5_smallKeyBit : GoodIn wsX2_laySmallKeys (va_wsS RX2 146 yX5_smallKeyBit wsX5_smallKeyBit) := goodIn_app (goodIn_of _ (by decide +kernel)) ggX2_laySmallKeys_X5_smallKeyBit
theorem dX2_laySmallKeys_0 : decode cX2_laySmallKeys 0 = .ok (.aload_n 0, 1) := by decide +kernel
theorem dX2_laySmallKeys_1 : decode cX2_laySmallKeys 1 = .ok (.invokevirtual 143, 3) := by decide +kernel
theorem dX2_laySmallKeys_4 : decode cX2_laySmallKeys 4 = .ok (.iconst 0, 1) := by decide +kernel
theorem dX2_laySmallKeys_5 : decode cX2_laySmallKeys 5 = .ok (.istore_n 2, 1) := by decide +kernel
theorem dX2_laySmallKeys_6 : decode cX2_laySmallKeys 6 = .ok (.iload_n 2, 1) := by decide +kernel
theorem dX2_laySmallKeys_7 : decode cX2_laySmallKeys 7 = .ok (.iload_n 1, 1) := by decide +kernel
theorem dX2_laySmallKeys_8 : decode cX2_laySmallKeys 8 = .ok (.if_icmp .ge 31, 3) := by decide +kernel
theorem dX2_laySmallKeys_11 : decode cX2_laySmallKeys 11 = .ok (.aload_n 0, 1) := by decide +kernel
theorem dX2_laySmallKeys_12 : decode cX2_laySmallKeys 12 = .ok (.getfield 22, 3) := by decide +kernel
theorem dX2_laySmallKeys_15 : decode cX2_laySmallKeys 15 = .ok (.getfield 79, 3) := by decide +kernel
theorem dX2_laySmallKeys_18 : decode cX2_laySmallKeys 18 = .ok (.aload_n 0, 1) := by decide +kernel
theorem dX2_laySmallKeys_19 : decode cX2_laySmallKeys 19 = .ok (.getfield 12, 3) := by decide +kernel
theorem dX2_laySmallKeys_22 : decode cX2_laySmallKeys 22 = .ok (.invokevirtual 63, 3) := by decide +kernel
theorem dX2_laySmallKeys_25 : decode cX2_laySmallKeys 25 = .ok (.dup2, 1) := by decide +kernel
theorem dX2_laySmallKeys_26 : decode cX2_laySmallKeys 26 = .ok (.iaload, 1) := by decide +kernel
theorem dX2_laySmallKeys_27 : decode cX2_laySmallKeys 27 = .ok (.iload_n 2, 1) := by decide +kernel
theorem dX2_laySmallKeys_28 : decode cX2_laySmallKeys 28 = .ok (.invokestatic 146, 3) := by decide +kernel
theorem dX2_laySmallKeys_31 : decode cX2_laySmallKeys 31 = .ok (.ior, 1) := by decide +kernel
theorem dX2_laySmallKeys_32 : decode cX2_laySmallKeys 32 = .ok (.iastore, 1) := by decide +kernel
theorem dX2_laySmallKeys_33 : decode cX2_laySmallKeys 33 = .ok (.iinc 2 1, 3) := by decide +kernel
theorem dX2_laySmallKeys_36 : decode cX2_laySmallKeys 36 = .ok (.goto (-30), 3) := by decide +kernel
theorem dX2_laySmallKeys_39 : decode cX2_laySmallKeys 39 = .ok (.return_, 1) := by decide +kernel
set_option maxRecDepth 20000 in
theorem ggX2_offerOpenRooms_X1_clearOffer : GoodIn wsX2_offerOpenRooms wsX1_clearOffer := goodIn_r _ [12, 13, 36, 37, 38] (by decide +kernel) (by decide +kernel)
set_option maxRecDepth 20000 in
theorem gX2_offerOpenRooms_X1_clearOffer : GoodIn wsX2_offerOpenRooms (wsV RX2 118 RX1 yX1_clearOffer wsX1_clearOffer) := goodIn_app (goodIn_of _ (by decide +kernel)) ggX2_offerOpenRooms_X1_clearOffer
set_option maxRecDepth 20000 in
theorem ggX2_offerOpenRooms_X1_offer : GoodIn wsX2_offerOpenRooms wsX1_offer := goodIn_r _ [17, 13, 18, 36, 37, 38] (by decide +kernel) (by decide +kernel)
set_option maxRecDepth 20000 in
theorem gX2_offerOpenRooms_X1_offer : GoodIn wsX2_offerOpenRooms (wsV RX2 121 RX1 yX1_offer wsX1_offer) := goodIn_app (goodIn_of _ (by decide +kernel)) ggX2_offerOpenRooms_X1_offer
theorem dX2_offerOpenRooms_0 : decode cX2_offerOpenRooms 0 = .ok (.aload_n 0, 1) := by decide +kernel
theorem dX2_offerOpenRooms_1 : decode cX2_offerOpenRooms 1 = .ok (.getfield 12, 3) := by decide +kernel
theorem dX2_offerOpenRooms_4 : decode cX2_offerOpenRooms 4 = .ok (.invokevirtual 118, 3) := by decide +kernel
theorem dX2_offerOpenRooms_7 : decode cX2_offerOpenRooms 7 = .ok (.aload_n 0, 1) := by decide +kernel
theorem dX2_offerOpenRooms_8 : decode cX2_offerOpenRooms 8 = .ok (.getfield 18, 3) := by decide +kernel
theorem dX2_offerOpenRooms_11 : decode cX2_offerOpenRooms 11 = .ok (.iconst 0, 1) := by decide +kernel
theorem dX2_offerOpenRooms_12 : decode cX2_offerOpenRooms 12 = .ok (.iconst 1, 1) := by decide +kernel
theorem dX2_offerOpenRooms_13 : decode cX2_offerOpenRooms 13 = .ok (.bastore, 1) := by decide +kernel
theorem dX2_offerOpenRooms_14 : decode cX2_offerOpenRooms 14 = .ok (.aload_n 0, 1) := by decide +kernel
theorem dX2_offerOpenRooms_15 : decode cX2_offerOpenRooms 15 = .ok (.getfield 12, 3) := by decide +kernel
theorem dX2_offerOpenRooms_18 : decode cX2_offerOpenRooms 18 = .ok (.iconst 0, 1) := by decide +kernel
theorem dX2_offerOpenRooms_19 : decode cX2_offerOpenRooms 19 = .ok (.invokevirtual 121, 3) := by decide +kernel
theorem dX2_offerOpenRooms_22 : decode cX2_offerOpenRooms 22 = .ok (.iconst 1, 1) := by decide +kernel
theorem dX2_offerOpenRooms_23 : decode cX2_offerOpenRooms 23 = .ok (.istore_n 1, 1) := by decide +kernel
theorem dX2_offerOpenRooms_24 : decode cX2_offerOpenRooms 24 = .ok (.iload_n 1, 1) := by decide +kernel
theorem dX2_offerOpenRooms_25 : decode cX2_offerOpenRooms 25 = .ok (.aload_n 0, 1) := by decide +kernel
theorem dX2_offerOpenRooms_26 : decode cX2_offerOpenRooms 26 = .ok (.getfield 22, 3) := by decide +kernel
theorem dX2_offerOpenRooms_29 : decode cX2_offerOpenRooms 29 = .ok (.getfield 33, 3) := by decide +kernel
theorem dX2_offerOpenRooms_32 : decode cX2_offerOpenRooms 32 = .ok (.if_icmp .ge 79, 3) := by decide +kernel
theorem dX2_offerOpenRooms_35 : decode cX2_offerOpenRooms 35 = .ok (.aload_n 0, 1) := by decide +kernel
theorem dX2_offerOpenRooms_36 : decode cX2_offerOpenRooms 36 = .ok (.getfield 18, 3) := by decide +kernel
theorem dX2_offerOpenRooms_39 : decode cX2_offerOpenRooms 39 = .ok (.iload_n 1, 1) := by decide +kernel
theorem dX2_offerOpenRooms_40 : decode cX2_offerOpenRooms 40 = .ok (.aload_n 0, 1) := by decide +kernel
theorem dX2_offerOpenRooms_41 : decode cX2_offerOpenRooms 41 = .ok (.getfield 22, 3) := by decide +kernel
theorem dX2_offerOpenRooms_44 : decode cX2_offerOpenRooms 44 = .ok (.getfield 101, 3) := by decide +kernel
theorem dX2_offerOpenRooms_47 : decode cX2_offerOpenRooms 47 = .ok (.iload_n 1, 1) := by decide +kernel
theorem dX2_offerOpenRooms_48 : decode cX2_offerOpenRooms 48 = .ok (.iaload, 1) := by decide +kernel
theorem dX2_offerOpenRooms_49 : decode cX2_offerOpenRooms 49 = .ok (.ifCond .ne 37, 3) := by decide +kernel
theorem dX2_offerOpenRooms_52 : decode cX2_offerOpenRooms 52 = .ok (.aload_n 0, 1) := by decide +kernel
theorem dX2_offerOpenRooms_53 : decode cX2_offerOpenRooms 53 = .ok (.getfield 22, 3) := by decide +kernel
theorem dX2_offerOpenRooms_56 : decode cX2_offerOpenRooms 56 = .ok (.getfield 104, 3) := by decide +kernel
theorem dX2_offerOpenRooms_59 : decode cX2_offerOpenRooms 59 = .ok (.iload_n 1, 1) := by decide +kernel
theorem dX2_offerOpenRooms_60 : decode cX2_offerOpenRooms 60 = .ok (.iaload, 1) := by decide +kernel
theorem dX2_offerOpenRooms_61 : decode cX2_offerOpenRooms 61 = .ok (.iconst 2, 1) := by decide +kernel
theorem dX2_offerOpenRooms_62 : decode cX2_offerOpenRooms 62 = .ok (.if_icmp .eq 24, 3) := by decide +kernel
theorem dX2_offerOpenRooms_65 : decode cX2_offerOpenRooms 65 = .ok (.aload_n 0, 1) := by decide +kernel
theorem dX2_offerOpenRooms_66 : decode cX2_offerOpenRooms 66 = .ok (.getfield 18, 3) := by decide +kernel
theorem dX2_offerOpenRooms_69 : decode cX2_offerOpenRooms 69 = .ok (.aload_n 0, 1) := by decide +kernel
theorem dX2_offerOpenRooms_70 : decode cX2_offerOpenRooms 70 = .ok (.getfield 22, 3) := by decide +kernel
theorem dX2_offerOpenRooms_73 : decode cX2_offerOpenRooms 73 = .ok (.getfield 98, 3) := by decide +kernel
theorem dX2_offerOpenRooms_76 : decode cX2_offerOpenRooms 76 = .ok (.iload_n 1, 1) := by decide +kernel
theorem dX2_offerOpenRooms_77 : decode cX2_offerOpenRooms 77 = .ok (.iaload, 1) := by decide +kernel
theorem dX2_offerOpenRooms_78 : decode cX2_offerOpenRooms 78 = .ok (.baload, 1) := by decide +kernel
theorem dX2_offerOpenRooms_79 : decode cX2_offerOpenRooms 79 = .ok (.ifCond .eq 7, 3) := by decide +kernel
theorem dX2_offerOpenRooms_82 : decode cX2_offerOpenRooms 82 = .ok (.iconst 1, 1) := by decide +kernel
theorem dX2_offerOpenRooms_83 : decode cX2_offerOpenRooms 83 = .ok (.goto 4, 3) := by decide +kernel
theorem dX2_offerOpenRooms_86 : decode cX2_offerOpenRooms 86 = .ok (.iconst 0, 1) := by decide +kernel
theorem dX2_offerOpenRooms_87 : decode cX2_offerOpenRooms 87 = .ok (.bastore, 1) := by decide +kernel
theorem dX2_offerOpenRooms_88 : decode cX2_offerOpenRooms 88 = .ok (.aload_n 0, 1) := by decide +kernel
theorem dX2_offerOpenRooms_89 : decode cX2_offerOpenRooms 89 = .ok (.getfield 18, 3) := by decide +kernel
theorem dX2_offerOpenRooms_92 : decode cX2_offerOpenRooms 92 = .ok (.iload_n 1, 1) := by decide +kernel
theorem dX2_offerOpenRooms_93 : decode cX2_offerOpenRooms 93 = .ok (.baload, 1) := by decide +kernel
theorem dX2_offerOpenRooms_94 : decode cX2_offerOpenRooms 94 = .ok (.ifCond .eq 11, 3) := by decide +kernel
theorem dX2_offerOpenRooms_97 : decode cX2_offerOpenRooms 97 = .ok (.aload_n 0, 1) := by decide +kernel
theorem dX2_offerOpenRooms_98 : decode cX2_offerOpenRooms 98 = .ok (.getfield 12, 3) := by decide +kernel
theorem dX2_offerOpenRooms_101 : decode cX2_offerOpenRooms 101 = .ok (.iload_n 1, 1) := by decide +kernel
theorem dX2_offerOpenRooms_102 : decode cX2_offerOpenRooms 102 = .ok (.invokevirtual 121, 3) := by decide +kernel
theorem dX2_offerOpenRooms_105 : decode cX2_offerOpenRooms 105 = .ok (.iinc 1 1, 3) := by decide +kernel
theorem dX2_offerOpenRooms_108 : decode cX2_offerOpenRooms 108 = .ok (.goto (-84), 3) := by decide +kernel
theorem dX2_offerOpenRooms_111 : decode cX2_offerOpenRooms 111 = .ok (.return_, 1) := by decide +kernel
set_option maxRecDepth 20000 in
theorem ggX2_makeBarriers_X2_offerPlainDoors : GoodIn wsX2_makeBarriers wsX2_offerPlainDoors := goodIn_r _ [10, 1, 2, 11, 3, 12, 13, 14, 15, 16, 17, 18, 19, 20, 21, 22, 39, 40, 41, 42, 43, 44, 45, 46, 47, 48, 49, 50, 51, 52, 53, 54, 55, 56, 57, 58] (by decide +kernel) (by decide +kernel)
set_option maxRecDepth 20000 in
theorem gX2_makeBarriers_X2_offerPlainDoors : GoodIn wsX2_makeBarriers (wsV RX2 133 RX2 yX2_offerPlainDoors wsX2_offerPlainDoors) := goodIn_app (goodIn_of _ (by decide +kernel)) ggX2_makeBarriers_X2_offerPlainDoors
set_option maxRecDepth 20000 in
theorem ggX2_makeBarriers_X1_hasOffer : GoodIn wsX2_makeBarriers wsX1_hasOffer := goodIn_r _ [26, 17, 56, 57, 58] (by decide +kernel) (by decide +kernel)
set_option maxRecDepth 20000 in
theorem gX2_makeBarriers_X1_hasOffer : GoodIn wsX2_makeBarriers (wsV RX2 136 RX1 yX1_hasOffer wsX1_hasOffer) := goodIn_app (goodIn_of _ (by decide +kernel)) ggX2_makeBarriers_X1_hasOffer
set_option maxRecDepth 20000 in
theorem ggX2_makeBarriers_X1_offeredRoom : GoodIn wsX2_makeBarriers wsX1_offeredRoom := goodIn_r _ [30, 22, 17, 31, 32, 33, 15, 34, 35, 36, 37, 56, 57, 58] (by decide +kernel) (by decide +kernel)
set_option maxRecDepth 20000 in
theorem gX2_makeBarriers_X1_offeredRoom : GoodIn wsX2_makeBarriers (wsV RX2 63 RX1 yX1_offeredRoom wsX1_offeredRoom) := goodIn_app (goodIn_of _ (by decide +kernel)) ggX2_makeBarriers_X1_offeredRoom
set_option maxRecDepth 20000 in
theorem ggX2_makeBarriers_X1_number : GoodIn wsX2_makeBarriers wsX1_number := goodIn_r _ [34, 35, 36, 37, 56, 57, 58] (by decide +kernel) (by decide +kernel)
set_option maxRecDepth 20000 in
theorem gX2_makeBarriers_X1_number : GoodIn wsX2_makeBarriers (wsV RX2 111 RX1 yX1_number wsX1_number) := goodIn_app (goodIn_of _ (by decide +kernel)) ggX2_makeBarriers_X1_number
theorem dX2_makeBarriers_0 : decode cX2_makeBarriers 0 = .ok (.iconst 0, 1) := by decide +kernel
theorem dX2_makeBarriers_1 : decode cX2_makeBarriers 1 = .ok (.istore_n 2, 1) := by decide +kernel
theorem dX2_makeBarriers_2 : decode cX2_makeBarriers 2 = .ok (.iload_n 2, 1) := by decide +kernel
theorem dX2_makeBarriers_3 : decode cX2_makeBarriers 3 = .ok (.iload_n 1, 1) := by decide +kernel
theorem dX2_makeBarriers_4 : decode cX2_makeBarriers 4 = .ok (.if_icmp .ge 84, 3) := by decide +kernel
theorem dX2_makeBarriers_7 : decode cX2_makeBarriers 7 = .ok (.aload_n 0, 1) := by decide +kernel
theorem dX2_makeBarriers_8 : decode cX2_makeBarriers 8 = .ok (.invokevirtual 133, 3) := by decide +kernel
theorem dX2_makeBarriers_11 : decode cX2_makeBarriers 11 = .ok (.aload_n 0, 1) := by decide +kernel
theorem dX2_makeBarriers_12 : decode cX2_makeBarriers 12 = .ok (.getfield 12, 3) := by decide +kernel
theorem dX2_makeBarriers_15 : decode cX2_makeBarriers 15 = .ok (.invokevirtual 136, 3) := by decide +kernel
theorem dX2_makeBarriers_18 : decode cX2_makeBarriers 18 = .ok (.ifCond .eq 64, 3) := by decide +kernel
theorem dX2_makeBarriers_21 : decode cX2_makeBarriers 21 = .ok (.aload_n 0, 1) := by decide +kernel
theorem dX2_makeBarriers_22 : decode cX2_makeBarriers 22 = .ok (.getfield 12, 3) := by decide +kernel
theorem dX2_makeBarriers_25 : decode cX2_makeBarriers 25 = .ok (.invokevirtual 63, 3) := by decide +kernel
theorem dX2_makeBarriers_28 : decode cX2_makeBarriers 28 = .ok (.istore_n 3, 1) := by decide +kernel
theorem dX2_makeBarriers_29 : decode cX2_makeBarriers 29 = .ok (.aload_n 0, 1) := by decide +kernel
theorem dX2_makeBarriers_30 : decode cX2_makeBarriers 30 = .ok (.getfield 22, 3) := by decide +kernel
theorem dX2_makeBarriers_33 : decode cX2_makeBarriers 33 = .ok (.getfield 104, 3) := by decide +kernel
theorem dX2_makeBarriers_36 : decode cX2_makeBarriers 36 = .ok (.iload_n 3, 1) := by decide +kernel
theorem dX2_makeBarriers_37 : decode cX2_makeBarriers 37 = .ok (.aload_n 0, 1) := by decide +kernel
theorem dX2_makeBarriers_38 : decode cX2_makeBarriers 38 = .ok (.getfield 12, 3) := by decide +kernel
theorem dX2_makeBarriers_41 : decode cX2_makeBarriers 41 = .ok (.iconst 2, 1) := by decide +kernel
theorem dX2_makeBarriers_42 : decode cX2_makeBarriers 42 = .ok (.invokevirtual 111, 3) := by decide +kernel
theorem dX2_makeBarriers_45 : decode cX2_makeBarriers 45 = .ok (.ifCond .ne 7, 3) := by decide +kernel
theorem dX2_makeBarriers_48 : decode cX2_makeBarriers 48 = .ok (.iconst 3, 1) := by decide +kernel
theorem dX2_makeBarriers_49 : decode cX2_makeBarriers 49 = .ok (.goto 4, 3) := by decide +kernel
theorem dX2_makeBarriers_52 : decode cX2_makeBarriers 52 = .ok (.iconst 4, 1) := by decide +kernel
theorem dX2_makeBarriers_53 : decode cX2_makeBarriers 53 = .ok (.iastore, 1) := by decide +kernel
theorem dX2_makeBarriers_54 : decode cX2_makeBarriers 54 = .ok (.aload_n 0, 1) := by decide +kernel
theorem dX2_makeBarriers_55 : decode cX2_makeBarriers 55 = .ok (.getfield 22, 3) := by decide +kernel
theorem dX2_makeBarriers_58 : decode cX2_makeBarriers 58 = .ok (.getfield 92, 3) := by decide +kernel
theorem dX2_makeBarriers_61 : decode cX2_makeBarriers 61 = .ok (.iload_n 3, 1) := by decide +kernel
theorem dX2_makeBarriers_62 : decode cX2_makeBarriers 62 = .ok (.iconst 1, 1) := by decide +kernel
theorem dX2_makeBarriers_63 : decode cX2_makeBarriers 63 = .ok (.bastore, 1) := by decide +kernel
theorem dX2_makeBarriers_64 : decode cX2_makeBarriers 64 = .ok (.aload_n 0, 1) := by decide +kernel
theorem dX2_makeBarriers_65 : decode cX2_makeBarriers 65 = .ok (.getfield 22, 3) := by decide +kernel
theorem dX2_makeBarriers_68 : decode cX2_makeBarriers 68 = .ok (.getfield 92, 3) := by decide +kernel
theorem dX2_makeBarriers_71 : decode cX2_makeBarriers 71 = .ok (.aload_n 0, 1) := by decide +kernel
theorem dX2_makeBarriers_72 : decode cX2_makeBarriers 72 = .ok (.getfield 22, 3) := by decide +kernel
theorem dX2_makeBarriers_75 : decode cX2_makeBarriers 75 = .ok (.getfield 98, 3) := by decide +kernel
theorem dX2_makeBarriers_78 : decode cX2_makeBarriers 78 = .ok (.iload_n 3, 1) := by decide +kernel
theorem dX2_makeBarriers_79 : decode cX2_makeBarriers 79 = .ok (.iaload, 1) := by decide +kernel
theorem dX2_makeBarriers_80 : decode cX2_makeBarriers 80 = .ok (.iconst 1, 1) := by decide +kernel
theorem dX2_makeBarriers_81 : decode cX2_makeBarriers 81 = .ok (.bastore, 1) := by decide +kernel
theorem dX2_makeBarriers_82 : decode cX2_makeBarriers 82 = .ok (.iinc 2 1, 3) := by decide +kernel
theorem dX2_makeBarriers_85 : decode cX2_makeBarriers 85 = .ok (.goto (-83), 3) := by decide +kernel
theorem dX2_makeBarriers_88 : decode cX2_makeBarriers 88 = .ok (.return_, 1) := by decide +kernel
set_option maxRecDepth 20000 in
theorem ggX2_placeRooms_X1_number : GoodIn wsX2_placeRooms wsX1_number := goodIn_r _ [10, 11, 12, 13, 43, 44, 45] (by decide +kernel) (by decide +kernel)
set_option maxRecDepth 20000 in
theorem gX2_placeRooms_X1_number : GoodIn wsX2_placeRooms (wsV RX2 111 RX1 yX1_number wsX1_number) := goodIn_app (goodIn_of _ (by decide +kernel)) ggX2_placeRooms_X1_number
set_option maxRecDepth 20000 in
theorem ggX2_placeRooms_X2_place : GoodIn wsX2_placeRooms wsX2_place := goodIn_r _ [18, 1, 2, 19, 3, 20, 21, 22, 23, 24, 17, 25, 26, 27, 28, 29, 30, 31, 32, 33, 34, 35, 36, 37, 38, 39, 40, 41, 42] (by decide +kernel) (by decide +kernel)
set_option maxRecDepth 20000 in
theorem gX2_placeRooms_X2_place : GoodIn wsX2_placeRooms (wsV RX2 155 RX2 yX2_place wsX2_place) := goodIn_app (goodIn_of _ (by decide +kernel)) ggX2_placeRooms_X2_place
theorem dX2_placeRooms_0 : decode cX2_placeRooms 0 = .ok (.aload_n 0, 1) := by decide +kernel
theorem dX2_placeRooms_1 : decode cX2_placeRooms 1 = .ok (.getfield 22, 3) := by decide +kernel
theorem dX2_placeRooms_4 : decode cX2_placeRooms 4 = .ok (.getfield 149, 3) := by decide +kernel
theorem dX2_placeRooms_7 : decode cX2_placeRooms 7 = .ok (.iconst 0, 1) := by decide +kernel
theorem dX2_placeRooms_8 : decode cX2_placeRooms 8 = .ok (.iconst 0, 1) := by decide +kernel
theorem dX2_placeRooms_9 : decode cX2_placeRooms 9 = .ok (.iastore, 1) := by decide +kernel
theorem dX2_placeRooms_10 : decode cX2_placeRooms 10 = .ok (.aload_n 0, 1) := by decide +kernel
theorem dX2_placeRooms_11 : decode cX2_placeRooms 11 = .ok (.getfield 22, 3) := by decide +kernel
theorem dX2_placeRooms_14 : decode cX2_placeRooms 14 = .ok (.getfield 152, 3) := by decide +kernel
theorem dX2_placeRooms_17 : decode cX2_placeRooms 17 = .ok (.iconst 0, 1) := by decide +kernel
theorem dX2_placeRooms_18 : decode cX2_placeRooms 18 = .ok (.iconst 0, 1) := by decide +kernel
theorem dX2_placeRooms_19 : decode cX2_placeRooms 19 = .ok (.iastore, 1) := by decide +kernel
theorem dX2_placeRooms_20 : decode cX2_placeRooms 20 = .ok (.iconst 1, 1) := by decide +kernel
theorem dX2_placeRooms_21 : decode cX2_placeRooms 21 = .ok (.istore_n 1, 1) := by decide +kernel
theorem dX2_placeRooms_22 : decode cX2_placeRooms 22 = .ok (.iload_n 1, 1) := by decide +kernel
theorem dX2_placeRooms_23 : decode cX2_placeRooms 23 = .ok (.aload_n 0, 1) := by decide +kernel
theorem dX2_placeRooms_24 : decode cX2_placeRooms 24 = .ok (.getfield 22, 3) := by decide +kernel
theorem dX2_placeRooms_27 : decode cX2_placeRooms 27 = .ok (.getfield 33, 3) := by decide +kernel
theorem dX2_placeRooms_30 : decode cX2_placeRooms 30 = .ok (.if_icmp .ge 22, 3) := by decide +kernel
theorem dX2_placeRooms_33 : decode cX2_placeRooms 33 = .ok (.aload_n 0, 1) := by decide +kernel
theorem dX2_placeRooms_34 : decode cX2_placeRooms 34 = .ok (.iload_n 1, 1) := by decide +kernel
theorem dX2_placeRooms_35 : decode cX2_placeRooms 35 = .ok (.aload_n 0, 1) := by decide +kernel
theorem dX2_placeRooms_36 : decode cX2_placeRooms 36 = .ok (.getfield 12, 3) := by decide +kernel
theorem dX2_placeRooms_39 : decode cX2_placeRooms 39 = .ok (.iconst 4, 1) := by decide +kernel
theorem dX2_placeRooms_40 : decode cX2_placeRooms 40 = .ok (.invokevirtual 111, 3) := by decide +kernel
theorem dX2_placeRooms_43 : decode cX2_placeRooms 43 = .ok (.invokevirtual 155, 3) := by decide +kernel
theorem dX2_placeRooms_46 : decode cX2_placeRooms 46 = .ok (.iinc 1 1, 3) := by decide +kernel
theorem dX2_placeRooms_49 : decode cX2_placeRooms 49 = .ok (.goto (-27), 3) := by decide +kernel
theorem dX2_placeRooms_52 : decode cX2_placeRooms 52 = .ok (.return_, 1) := by decide +kernel
set_option maxRecDepth 20000 in
theorem ggX2_place_X2_isFree : GoodIn wsX2_place wsX2_isFree := goodIn_r _ [11, 1, 2, 4, 12, 13, 14, 15, 16, 17, 18, 19, 20, 21, 22, 23, 24, 25, 26, 27, 28] (by decide +kernel) (by decide +kernel)
set_option maxRecDepth 20000 in
theorem gX2_place_X2_isFree : GoodIn wsX2_place (wsV RX2 164 RX2 yX2_isFree wsX2_isFree) := goodIn_app (goodIn_of _ (by decide +kernel)) ggX2_place_X2_isFree
theorem dX2_place_0 : decode cX2_place 0 = .ok (.aload_n 0, 1) := by decide +kernel
theorem dX2_place_1 : decode cX2_place 1 = .ok (.getfield 22, 3) := by decide +kernel
theorem dX2_place_4 : decode cX2_place 4 = .ok (.getfield 149, 3) := by decide +kernel
theorem dX2_place_7 : decode cX2_place 7 = .ok (.aload_n 0, 1) := by decide +kernel
theorem dX2_place_8 : decode cX2_place 8 = .ok (.getfield 22, 3) := by decide +kernel
theorem dX2_place_11 : decode cX2_place 11 = .ok (.getfield 98, 3) := by decide +kernel
theorem dX2_place_14 : decode cX2_place 14 = .ok (.iload_n 1, 1) := by decide +kernel
theorem dX2_place_15 : decode cX2_place 15 = .ok (.iaload, 1) := by decide +kernel
theorem dX2_place_16 : decode cX2_place 16 = .ok (.iaload, 1) := by decide +kernel
theorem dX2_place_17 : decode cX2_place 17 = .ok (.istore_n 3, 1) := by decide +kernel
theorem dX2_place_18 : decode cX2_place 18 = .ok (.aload_n 0, 1) := by decide +kernel
theorem dX2_place_19 : decode cX2_place 19 = .ok (.getfield 22, 3) := by decide +kernel
theorem dX2_place_22 : decode cX2_place 22 = .ok (.getfield 152, 3) := by decide +kernel
theorem dX2_place_25 : decode cX2_place 25 = .ok (.aload_n 0, 1) := by decide +kernel
theorem dX2_place_26 : decode cX2_place 26 = .ok (.getfield 22, 3) := by decide +kernel
theorem dX2_place_29 : decode cX2_place 29 = .ok (.getfield 98, 3) := by decide +kernel
theorem dX2_place_32 : decode cX2_place 32 = .ok (.iload_n 1, 1) := by decide +kernel
theorem dX2_place_33 : decode cX2_place 33 = .ok (.iaload, 1) := by decide +kernel
theorem dX2_place_34 : decode cX2_place 34 = .ok (.iaload, 1) := by decide +kernel
theorem dX2_place_35 : decode cX2_place 35 = .ok (.istore 4, 2) := by decide +kernel
theorem dX2_place_37 : decode cX2_place 37 = .ok (.iconst 0, 1) := by decide +kernel
theorem dX2_place_38 : decode cX2_place 38 = .ok (.istore 5, 2) := by decide +kernel
theorem dX2_place_40 : decode cX2_place 40 = .ok (.iload 5, 2) := by decide +kernel
theorem dX2_place_42 : decode cX2_place 42 = .ok (.iload_n 1, 1) := by decide +kernel
theorem dX2_place_43 : decode cX2_place 43 = .ok (.if_icmp .ge 41, 3) := by decide +kernel
