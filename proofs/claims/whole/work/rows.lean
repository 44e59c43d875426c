section
-- ===== PART A: goes FIRST, ahead of the names: the tables' words, and 'selects' of the private methods out of them =====
/-- a private method of a class that the tables say can be made, by its rows of tables_1 -/
def lw_okq (q : MethodName × Nat) : Prop := (q.1.cls ≠ "java/lang/invoke/MethodHandle" ∧ q.1.cls ≠ "java/lang/invoke/VarHandle") ∧ Cond.instantiable q.1.cls q.2 ∈ tables_1 ∧ Cond.privateMethod q.1 ∈ tables_1 ∧ Cond.instanceMethod q.1 ∈ tables_1
theorem lw_p0 : lw_okq (⟨"LockQuest$Maker", "clear", "()V"⟩, 3) := ⟨⟨by decide +kernel, by decide +kernel⟩, List.mem_of_getElem? (i := 98) (by decide +kernel), List.mem_of_getElem? (i := 180) (by decide +kernel), List.mem_of_getElem? (i := 181) (by decide +kernel)⟩
theorem lw_p1 : lw_okq (⟨"LockQuest$Maker", "addRooms", "()V"⟩, 3) := ⟨⟨by decide +kernel, by decide +kernel⟩, List.mem_of_getElem? (i := 98) (by decide +kernel), List.mem_of_getElem? (i := 187) (by decide +kernel), List.mem_of_getElem? (i := 188) (by decide +kernel)⟩
theorem lw_p2 : lw_okq (⟨"LockQuest$Maker", "drawnBefore", "(II)I"⟩, 3) := ⟨⟨by decide +kernel, by decide +kernel⟩, List.mem_of_getElem? (i := 98) (by decide +kernel), List.mem_of_getElem? (i := 191) (by decide +kernel), List.mem_of_getElem? (i := 192) (by decide +kernel)⟩
theorem lw_p3 : lw_okq (⟨"LockQuest$Maker", "mayRise", "(II)Z"⟩, 3) := ⟨⟨by decide +kernel, by decide +kernel⟩, List.mem_of_getElem? (i := 98) (by decide +kernel), List.mem_of_getElem? (i := 214) (by decide +kernel), List.mem_of_getElem? (i := 215) (by decide +kernel)⟩
theorem lw_p4 : lw_okq (⟨"LockQuest$Maker", "layKeys", "()V"⟩, 3) := ⟨⟨by decide +kernel, by decide +kernel⟩, List.mem_of_getElem? (i := 98) (by decide +kernel), List.mem_of_getElem? (i := 218) (by decide +kernel), List.mem_of_getElem? (i := 219) (by decide +kernel)⟩
theorem lw_p5 : lw_okq (⟨"LockQuest$Maker", "offerLevels", "(II)V"⟩, 3) := ⟨⟨by decide +kernel, by decide +kernel⟩, List.mem_of_getElem? (i := 98) (by decide +kernel), List.mem_of_getElem? (i := 222) (by decide +kernel), List.mem_of_getElem? (i := 223) (by decide +kernel)⟩
theorem lw_p6 : lw_okq (⟨"LockQuest$Maker", "makeSmallDoors", "(I)I"⟩, 3) := ⟨⟨by decide +kernel, by decide +kernel⟩, List.mem_of_getElem? (i := 98) (by decide +kernel), List.mem_of_getElem? (i := 232) (by decide +kernel), List.mem_of_getElem? (i := 233) (by decide +kernel)⟩
theorem lw_p7 : lw_okq (⟨"LockQuest$Maker", "offerPlainDoors", "()V"⟩, 3) := ⟨⟨by decide +kernel, by decide +kernel⟩, List.mem_of_getElem? (i := 98) (by decide +kernel), List.mem_of_getElem? (i := 236) (by decide +kernel), List.mem_of_getElem? (i := 237) (by decide +kernel)⟩
theorem lw_p8 : lw_okq (⟨"LockQuest$Maker", "laySmallKeys", "(I)V"⟩, 3) := ⟨⟨by decide +kernel, by decide +kernel⟩, List.mem_of_getElem? (i := 98) (by decide +kernel), List.mem_of_getElem? (i := 244) (by decide +kernel), List.mem_of_getElem? (i := 245) (by decide +kernel)⟩
theorem lw_p9 : lw_okq (⟨"LockQuest$Maker", "offerOpenRooms", "()V"⟩, 3) := ⟨⟨by decide +kernel, by decide +kernel⟩, List.mem_of_getElem? (i := 98) (by decide +kernel), List.mem_of_getElem? (i := 248) (by decide +kernel), List.mem_of_getElem? (i := 249) (by decide +kernel)⟩
theorem lw_p10 : lw_okq (⟨"LockQuest$Maker", "makeBarriers", "(I)V"⟩, 3) := ⟨⟨by decide +kernel, by decide +kernel⟩, List.mem_of_getElem? (i := 98) (by decide +kernel), List.mem_of_getElem? (i := 255) (by decide +kernel), List.mem_of_getElem? (i := 256) (by decide +kernel)⟩
theorem lw_p11 : lw_okq (⟨"LockQuest$Maker", "placeRooms", "()V"⟩, 3) := ⟨⟨by decide +kernel, by decide +kernel⟩, List.mem_of_getElem? (i := 98) (by decide +kernel), List.mem_of_getElem? (i := 259) (by decide +kernel), List.mem_of_getElem? (i := 260) (by decide +kernel)⟩
theorem lw_p12 : lw_okq (⟨"LockQuest$Maker", "place", "(II)V"⟩, 3) := ⟨⟨by decide +kernel, by decide +kernel⟩, List.mem_of_getElem? (i := 98) (by decide +kernel), List.mem_of_getElem? (i := 263) (by decide +kernel), List.mem_of_getElem? (i := 264) (by decide +kernel)⟩
theorem lw_p13 : lw_okq (⟨"LockQuest$Maker", "isFree", "(III)Z"⟩, 3) := ⟨⟨by decide +kernel, by decide +kernel⟩, List.mem_of_getElem? (i := 98) (by decide +kernel), List.mem_of_getElem? (i := 271) (by decide +kernel), List.mem_of_getElem? (i := 272) (by decide +kernel)⟩
theorem lw_p14 : lw_okq (⟨"LockQuest$Maker", "joinFamilies", "()V"⟩, 3) := ⟨⟨by decide +kernel, by decide +kernel⟩, List.mem_of_getElem? (i := 98) (by decide +kernel), List.mem_of_getElem? (i := 275) (by decide +kernel), List.mem_of_getElem? (i := 276) (by decide +kernel)⟩
theorem lw_p15 : lw_okq (⟨"LockQuest$Maker", "join", "(II)V"⟩, 3) := ⟨⟨by decide +kernel, by decide +kernel⟩, List.mem_of_getElem? (i := 98) (by decide +kernel), List.mem_of_getElem? (i := 279) (by decide +kernel), List.mem_of_getElem? (i := 280) (by decide +kernel)⟩
def lw_privs_1 : List (MethodName × Nat) := [(⟨"LockQuest$Maker", "clear", "()V"⟩, 3), (⟨"LockQuest$Maker", "addRooms", "()V"⟩, 3), (⟨"LockQuest$Maker", "drawnBefore", "(II)I"⟩, 3), (⟨"LockQuest$Maker", "mayRise", "(II)Z"⟩, 3), (⟨"LockQuest$Maker", "layKeys", "()V"⟩, 3), (⟨"LockQuest$Maker", "offerLevels", "(II)V"⟩, 3), (⟨"LockQuest$Maker", "makeSmallDoors", "(I)I"⟩, 3), (⟨"LockQuest$Maker", "offerPlainDoors", "()V"⟩, 3), (⟨"LockQuest$Maker", "laySmallKeys", "(I)V"⟩, 3), (⟨"LockQuest$Maker", "offerOpenRooms", "()V"⟩, 3), (⟨"LockQuest$Maker", "makeBarriers", "(I)V"⟩, 3), (⟨"LockQuest$Maker", "placeRooms", "()V"⟩, 3), (⟨"LockQuest$Maker", "place", "(II)V"⟩, 3), (⟨"LockQuest$Maker", "isFree", "(III)Z"⟩, 3), (⟨"LockQuest$Maker", "joinFamilies", "()V"⟩, 3), (⟨"LockQuest$Maker", "join", "(II)V"⟩, 3)]
theorem lw_r1 : ∀ q ∈ lw_privs_1, lw_okq q := List.forall_mem_cons.mpr ⟨lw_p0, List.forall_mem_cons.mpr ⟨lw_p1, List.forall_mem_cons.mpr ⟨lw_p2, List.forall_mem_cons.mpr ⟨lw_p3, List.forall_mem_cons.mpr ⟨lw_p4, List.forall_mem_cons.mpr ⟨lw_p5, List.forall_mem_cons.mpr ⟨lw_p6, List.forall_mem_cons.mpr ⟨lw_p7, List.forall_mem_cons.mpr ⟨lw_p8, List.forall_mem_cons.mpr ⟨lw_p9, List.forall_mem_cons.mpr ⟨lw_p10, List.forall_mem_cons.mpr ⟨lw_p11, List.forall_mem_cons.mpr ⟨lw_p12, List.forall_mem_cons.mpr ⟨lw_p13, List.forall_mem_cons.mpr ⟨lw_p14, List.forall_mem_cons.mpr ⟨lw_p15, fun _ h => absurd h List.not_mem_nil⟩⟩⟩⟩⟩⟩⟩⟩⟩⟩⟩⟩⟩⟩⟩⟩
theorem lw_p16 : lw_okq (⟨"LockQuest$Maker", "joinLoops", "()V"⟩, 3) := ⟨⟨by decide +kernel, by decide +kernel⟩, List.mem_of_getElem? (i := 98) (by decide +kernel), List.mem_of_getElem? (i := 283) (by decide +kernel), List.mem_of_getElem? (i := 284) (by decide +kernel)⟩
theorem lw_p17 : lw_okq (⟨"LockQuest$Maker", "mayLoop", "(II)Z"⟩, 3) := ⟨⟨by decide +kernel, by decide +kernel⟩, List.mem_of_getElem? (i := 98) (by decide +kernel), List.mem_of_getElem? (i := 287) (by decide +kernel), List.mem_of_getElem? (i := 288) (by decide +kernel)⟩
theorem lw_p18 : lw_okq (⟨"LockQuest$Adventure", "doorOwner", "(II)I"⟩, 14) := ⟨⟨by decide +kernel, by decide +kernel⟩, List.mem_of_getElem? (i := 21) (by decide +kernel), List.mem_of_getElem? (i := 349) (by decide +kernel), List.mem_of_getElem? (i := 350) (by decide +kernel)⟩
theorem lw_p19 : lw_okq (⟨"LockQuest$Adventure", "opens", "(II)Z"⟩, 14) := ⟨⟨by decide +kernel, by decide +kernel⟩, List.mem_of_getElem? (i := 21) (by decide +kernel), List.mem_of_getElem? (i := 353) (by decide +kernel), List.mem_of_getElem? (i := 354) (by decide +kernel)⟩
theorem lw_p20 : lw_okq (⟨"LockQuest$Search", "begin", "(I)V"⟩, 7) := ⟨⟨by decide +kernel, by decide +kernel⟩, List.mem_of_getElem? (i := 130) (by decide +kernel), List.mem_of_getElem? (i := 425) (by decide +kernel), List.mem_of_getElem? (i := 426) (by decide +kernel)⟩
theorem lw_p21 : lw_okq (⟨"LockQuest$Search", "isAtGoal", "(I)Z"⟩, 7) := ⟨⟨by decide +kernel, by decide +kernel⟩, List.mem_of_getElem? (i := 130) (by decide +kernel), List.mem_of_getElem? (i := 440) (by decide +kernel), List.mem_of_getElem? (i := 441) (by decide +kernel)⟩
theorem lw_p22 : lw_okq (⟨"LockQuest$Search", "goOn", "(I)V"⟩, 7) := ⟨⟨by decide +kernel, by decide +kernel⟩, List.mem_of_getElem? (i := 130) (by decide +kernel), List.mem_of_getElem? (i := 445) (by decide +kernel), List.mem_of_getElem? (i := 446) (by decide +kernel)⟩
theorem lw_p23 : lw_okq (⟨"LockQuest$Search", "reach", "(III)V"⟩, 7) := ⟨⟨by decide +kernel, by decide +kernel⟩, List.mem_of_getElem? (i := 130) (by decide +kernel), List.mem_of_getElem? (i := 450) (by decide +kernel), List.mem_of_getElem? (i := 451) (by decide +kernel)⟩
theorem lw_p24 : lw_okq (⟨"LockQuest$Search", "leadsToSaved", "(I)Z"⟩, 7) := ⟨⟨by decide +kernel, by decide +kernel⟩, List.mem_of_getElem? (i := 130) (by decide +kernel), List.mem_of_getElem? (i := 480) (by decide +kernel), List.mem_of_getElem? (i := 481) (by decide +kernel)⟩
theorem lw_p25 : lw_okq (⟨"LockQuest$Search", "isSaved", "(I)Z"⟩, 7) := ⟨⟨by decide +kernel, by decide +kernel⟩, List.mem_of_getElem? (i := 130) (by decide +kernel), List.mem_of_getElem? (i := 484) (by decide +kernel), List.mem_of_getElem? (i := 485) (by decide +kernel)⟩
theorem lw_p26 : lw_okq (⟨"LockQuestModel", "clear", "()V"⟩, 18) := ⟨⟨by decide +kernel, by decide +kernel⟩, List.mem_of_getElem? (i := 488) (by decide +kernel), List.mem_of_getElem? (i := 498) (by decide +kernel), List.mem_of_getElem? (i := 499) (by decide +kernel)⟩
theorem lw_p27 : lw_okq (⟨"LockQuestModel", "makeRooms", "(I)V"⟩, 18) := ⟨⟨by decide +kernel, by decide +kernel⟩, List.mem_of_getElem? (i := 488) (by decide +kernel), List.mem_of_getElem? (i := 502) (by decide +kernel), List.mem_of_getElem? (i := 503) (by decide +kernel)⟩
theorem lw_p28 : lw_okq (⟨"LockQuestModel", "drawn", "()I"⟩, 18) := ⟨⟨by decide +kernel, by decide +kernel⟩, List.mem_of_getElem? (i := 488) (by decide +kernel), List.mem_of_getElem? (i := 506) (by decide +kernel), List.mem_of_getElem? (i := 507) (by decide +kernel)⟩
theorem lw_p29 : lw_okq (⟨"LockQuestModel", "draw", "(I)I"⟩, 18) := ⟨⟨by decide +kernel, by decide +kernel⟩, List.mem_of_getElem? (i := 488) (by decide +kernel), List.mem_of_getElem? (i := 510) (by decide +kernel), List.mem_of_getElem? (i := 511) (by decide +kernel)⟩
theorem lw_p30 : lw_okq (⟨"LockQuestModel", "makeKeys", "(II)V"⟩, 18) := ⟨⟨by decide +kernel, by decide +kernel⟩, List.mem_of_getElem? (i := 488) (by decide +kernel), List.mem_of_getElem? (i := 516) (by decide +kernel), List.mem_of_getElem? (i := 517) (by decide +kernel)⟩
theorem lw_p31 : lw_okq (⟨"LockQuestModel", "choosePlain", "()Z"⟩, 18) := ⟨⟨by decide +kernel, by decide +kernel⟩, List.mem_of_getElem? (i := 488) (by decide +kernel), List.mem_of_getElem? (i := 520) (by decide +kernel), List.mem_of_getElem? (i := 521) (by decide +kernel)⟩
def lw_privs_2 : List (MethodName × Nat) := [(⟨"LockQuest$Maker", "joinLoops", "()V"⟩, 3), (⟨"LockQuest$Maker", "mayLoop", "(II)Z"⟩, 3), (⟨"LockQuest$Adventure", "doorOwner", "(II)I"⟩, 14), (⟨"LockQuest$Adventure", "opens", "(II)Z"⟩, 14), (⟨"LockQuest$Search", "begin", "(I)V"⟩, 7), (⟨"LockQuest$Search", "isAtGoal", "(I)Z"⟩, 7), (⟨"LockQuest$Search", "goOn", "(I)V"⟩, 7), (⟨"LockQuest$Search", "reach", "(III)V"⟩, 7), (⟨"LockQuest$Search", "leadsToSaved", "(I)Z"⟩, 7), (⟨"LockQuest$Search", "isSaved", "(I)Z"⟩, 7), (⟨"LockQuestModel", "clear", "()V"⟩, 18), (⟨"LockQuestModel", "makeRooms", "(I)V"⟩, 18), (⟨"LockQuestModel", "drawn", "()I"⟩, 18), (⟨"LockQuestModel", "draw", "(I)I"⟩, 18), (⟨"LockQuestModel", "makeKeys", "(II)V"⟩, 18), (⟨"LockQuestModel", "choosePlain", "()Z"⟩, 18)]
theorem lw_r2 : ∀ q ∈ lw_privs_2, lw_okq q := List.forall_mem_cons.mpr ⟨lw_p16, List.forall_mem_cons.mpr ⟨lw_p17, List.forall_mem_cons.mpr ⟨lw_p18, List.forall_mem_cons.mpr ⟨lw_p19, List.forall_mem_cons.mpr ⟨lw_p20, List.forall_mem_cons.mpr ⟨lw_p21, List.forall_mem_cons.mpr ⟨lw_p22, List.forall_mem_cons.mpr ⟨lw_p23, List.forall_mem_cons.mpr ⟨lw_p24, List.forall_mem_cons.mpr ⟨lw_p25, List.forall_mem_cons.mpr ⟨lw_p26, List.forall_mem_cons.mpr ⟨lw_p27, List.forall_mem_cons.mpr ⟨lw_p28, List.forall_mem_cons.mpr ⟨lw_p29, List.forall_mem_cons.mpr ⟨lw_p30, List.forall_mem_cons.mpr ⟨lw_p31, fun _ h => absurd h List.not_mem_nil⟩⟩⟩⟩⟩⟩⟩⟩⟩⟩⟩⟩⟩⟩⟩⟩
theorem lw_p32 : lw_okq (⟨"LockQuestModel", "open", "(I)Z"⟩, 18) := ⟨⟨by decide +kernel, by decide +kernel⟩, List.mem_of_getElem? (i := 488) (by decide +kernel), List.mem_of_getElem? (i := 524) (by decide +kernel), List.mem_of_getElem? (i := 525) (by decide +kernel)⟩
theorem lw_p33 : lw_okq (⟨"LockQuestModel", "makeBarriers", "(I)V"⟩, 18) := ⟨⟨by decide +kernel, by decide +kernel⟩, List.mem_of_getElem? (i := 488) (by decide +kernel), List.mem_of_getElem? (i := 528) (by decide +kernel), List.mem_of_getElem? (i := 529) (by decide +kernel)⟩
theorem lw_p34 : lw_okq (⟨"LockQuestModel", "makePlaces", "()V"⟩, 18) := ⟨⟨by decide +kernel, by decide +kernel⟩, List.mem_of_getElem? (i := 488) (by decide +kernel), List.mem_of_getElem? (i := 532) (by decide +kernel), List.mem_of_getElem? (i := 533) (by decide +kernel)⟩
theorem lw_p35 : lw_okq (⟨"LockQuestModel", "occupied", "(III)Z"⟩, 18) := ⟨⟨by decide +kernel, by decide +kernel⟩, List.mem_of_getElem? (i := 488) (by decide +kernel), List.mem_of_getElem? (i := 536) (by decide +kernel), List.mem_of_getElem? (i := 537) (by decide +kernel)⟩
theorem lw_p36 : lw_okq (⟨"LockQuestModel", "makeLoops", "()I"⟩, 18) := ⟨⟨by decide +kernel, by decide +kernel⟩, List.mem_of_getElem? (i := 488) (by decide +kernel), List.mem_of_getElem? (i := 540) (by decide +kernel), List.mem_of_getElem? (i := 541) (by decide +kernel)⟩
theorem lw_p37 : lw_okq (⟨"LockQuestModel", "spread", "(I)I"⟩, 18) := ⟨⟨by decide +kernel, by decide +kernel⟩, List.mem_of_getElem? (i := 488) (by decide +kernel), List.mem_of_getElem? (i := 604) (by decide +kernel), List.mem_of_getElem? (i := 605) (by decide +kernel)⟩
theorem lw_p38 : lw_okq (⟨"LockQuestModel", "meet", "(II)V"⟩, 18) := ⟨⟨by decide +kernel, by decide +kernel⟩, List.mem_of_getElem? (i := 488) (by decide +kernel), List.mem_of_getElem? (i := 608) (by decide +kernel), List.mem_of_getElem? (i := 609) (by decide +kernel)⟩
theorem lw_p39 : lw_okq (⟨"LockQuestModel", "doors", "(I)I"⟩, 18) := ⟨⟨by decide +kernel, by decide +kernel⟩, List.mem_of_getElem? (i := 488) (by decide +kernel), List.mem_of_getElem? (i := 612) (by decide +kernel), List.mem_of_getElem? (i := 613) (by decide +kernel)⟩
theorem lw_p40 : lw_okq (⟨"LockQuestModel", "after", "(II)I"⟩, 18) := ⟨⟨by decide +kernel, by decide +kernel⟩, List.mem_of_getElem? (i := 488) (by decide +kernel), List.mem_of_getElem? (i := 616) (by decide +kernel), List.mem_of_getElem? (i := 617) (by decide +kernel)⟩
theorem lw_p41 : lw_okq (⟨"LockQuestModel", "takeable", "(I)I"⟩, 18) := ⟨⟨by decide +kernel, by decide +kernel⟩, List.mem_of_getElem? (i := 488) (by decide +kernel), List.mem_of_getElem? (i := 620) (by decide +kernel), List.mem_of_getElem? (i := 621) (by decide +kernel)⟩
theorem lw_p42 : lw_okq (⟨"LockQuestModel", "walked", "(II)I"⟩, 18) := ⟨⟨by decide +kernel, by decide +kernel⟩, List.mem_of_getElem? (i := 488) (by decide +kernel), List.mem_of_getElem? (i := 624) (by decide +kernel), List.mem_of_getElem? (i := 625) (by decide +kernel)⟩
theorem lw_p43 : lw_okq (⟨"LockQuestModel", "beyond", "(II)I"⟩, 18) := ⟨⟨by decide +kernel, by decide +kernel⟩, List.mem_of_getElem? (i := 488) (by decide +kernel), List.mem_of_getElem? (i := 628) (by decide +kernel), List.mem_of_getElem? (i := 629) (by decide +kernel)⟩
theorem lw_p44 : lw_okq (⟨"LockQuestModel", "nextAction", "(II)I"⟩, 18) := ⟨⟨by decide +kernel, by decide +kernel⟩, List.mem_of_getElem? (i := 488) (by decide +kernel), List.mem_of_getElem? (i := 635) (by decide +kernel), List.mem_of_getElem? (i := 636) (by decide +kernel)⟩
theorem lw_p45 : lw_okq (⟨"LockQuestModel", "leads", "(I)Z"⟩, 18) := ⟨⟨by decide +kernel, by decide +kernel⟩, List.mem_of_getElem? (i := 488) (by decide +kernel), List.mem_of_getElem? (i := 652) (by decide +kernel), List.mem_of_getElem? (i := 653) (by decide +kernel)⟩
def lw_privs_3 : List (MethodName × Nat) := [(⟨"LockQuestModel", "open", "(I)Z"⟩, 18), (⟨"LockQuestModel", "makeBarriers", "(I)V"⟩, 18), (⟨"LockQuestModel", "makePlaces", "()V"⟩, 18), (⟨"LockQuestModel", "occupied", "(III)Z"⟩, 18), (⟨"LockQuestModel", "makeLoops", "()I"⟩, 18), (⟨"LockQuestModel", "spread", "(I)I"⟩, 18), (⟨"LockQuestModel", "meet", "(II)V"⟩, 18), (⟨"LockQuestModel", "doors", "(I)I"⟩, 18), (⟨"LockQuestModel", "after", "(II)I"⟩, 18), (⟨"LockQuestModel", "takeable", "(I)I"⟩, 18), (⟨"LockQuestModel", "walked", "(II)I"⟩, 18), (⟨"LockQuestModel", "beyond", "(II)I"⟩, 18), (⟨"LockQuestModel", "nextAction", "(II)I"⟩, 18), (⟨"LockQuestModel", "leads", "(I)Z"⟩, 18)]
theorem lw_r3 : ∀ q ∈ lw_privs_3, lw_okq q := List.forall_mem_cons.mpr ⟨lw_p32, List.forall_mem_cons.mpr ⟨lw_p33, List.forall_mem_cons.mpr ⟨lw_p34, List.forall_mem_cons.mpr ⟨lw_p35, List.forall_mem_cons.mpr ⟨lw_p36, List.forall_mem_cons.mpr ⟨lw_p37, List.forall_mem_cons.mpr ⟨lw_p38, List.forall_mem_cons.mpr ⟨lw_p39, List.forall_mem_cons.mpr ⟨lw_p40, List.forall_mem_cons.mpr ⟨lw_p41, List.forall_mem_cons.mpr ⟨lw_p42, List.forall_mem_cons.mpr ⟨lw_p43, List.forall_mem_cons.mpr ⟨lw_p44, List.forall_mem_cons.mpr ⟨lw_p45, fun _ h => absurd h List.not_mem_nil⟩⟩⟩⟩⟩⟩⟩⟩⟩⟩⟩⟩⟩⟩
def lw_privs : List (MethodName × Nat) := lw_privs_1 ++ (lw_privs_2 ++ (lw_privs_3))
def lw_tbl : List Cond := k2_sels lw_privs ++ tables_1
theorem lw_privs_ok : ∀ q ∈ lw_privs, lw_okq q := by
  show ∀ q ∈ lw_privs_1 ++ (lw_privs_2 ++ (lw_privs_3)), lw_okq q
  exact List.forall_mem_append.mpr ⟨lw_r1, List.forall_mem_append.mpr ⟨lw_r2, lw_r3⟩⟩
end
section
/-! ===== BEGIN words of one list among another's, by their places ===== -/
theorem goodIn_r {big : List Cond} (ws : List Cond) (ps : List Nat) (hp : ws = ps.filterMap (fun i => big[i]?)) (h : ws.all goodWord = true) : GoodIn big ws := by
  intro w hw
  have h1 := List.all_eq_true.mp h w hw
  rw [hp] at hw
  obtain ⟨i, -, hi⟩ := List.mem_filterMap.mp hw
  have hm : w ∈ big := by first | exact List.mem_of_getElem? hi | exact List.getElem?_mem hi
  exact ⟨hm, good_of_word h1⟩
theorem goodIn_app {big a b : List Cond} (ha : GoodIn big a) (hb : GoodIn big b) : GoodIn big (a ++ b) := fun w h => (List.mem_append.mp h).elim (ha w) (hb w)
theorem goodIn_ca {big a b : List Cond} {c : Cond} (ha : GoodIn big (c :: a)) (hb : GoodIn big b) : GoodIn big (c :: (a ++ b)) := fun w h => (List.mem_cons.mp h).elim (fun e => ha w (List.mem_cons.mpr (Or.inl e))) (fun h => (List.mem_append.mp h).elim (fun h => ha w (List.mem_cons.mpr (Or.inr h))) (hb w))
theorem goodIn_sub {big ws : List Cond} (hm : ∀ w ∈ ws, w ∈ big) (h : ws.all goodWord = true) : GoodIn big ws := fun w hw => ⟨hm w hw, good_of_word (List.all_eq_true.mp h w hw)⟩
/-! ===== END ===== -/

/-! ===== BEGIN printed: names, fields, word lists, decode rows ===== -/
def RX0 : String := "LockQuest$Adventure"
def TX0 : u_T := fun k => match k with
  | 0 => ("LockQuest$Adventure", "rooms", "I", false)
  | 1 => ("LockQuest$Adventure", "levels", "I", false)
  | 2 => ("LockQuest$Adventure", "goalRoom", "I", false)
  | 3 => ("LockQuest$Adventure", "allDoors", "I", false)
  | 4 => ("LockQuest$Adventure", "parent", "[I", true)
  | 5 => ("LockQuest$Adventure", "level", "[I", true)
  | 6 => ("LockQuest$Adventure", "kind", "[I", true)
  | 7 => ("LockQuest$Adventure", "smallNumber", "[I", true)
  | 8 => ("LockQuest$Adventure", "x", "[I", true)
  | 9 => ("LockQuest$Adventure", "y", "[I", true)
  | 10 => ("LockQuest$Adventure", "lying", "[I", true)
  | 11 => ("LockQuest$Adventure", "switched", "[Z", true)
  | 12 => ("LockQuest$Adventure", "doors", "[I", true)
  | _ => ("LockQuest$Adventure", "beyond", "[[I", true)
def tyX0 : Nat → FieldType := fun k => match k with
  | 0 => .int
  | 1 => .int
  | 2 => .int
  | 3 => .int
  | 4 => .array .int
  | 5 => .array .int
  | 6 => .array .int
  | 7 => .array .int
  | 8 => .array .int
  | 9 => .array .int
  | 10 => .array .int
  | 11 => .array .boolean
  | 12 => .array .int
  | _ => .array (.array .int)
abbrev wsX00 : List Cond := u_ws RX0 TX0 14
theorem nmX0 : ∀ a, a < 14 → ∀ b, b < 14 → a ≠ b → (TX0 a).2.1 ≠ (TX0 b).2.1 := by decide +kernel
theorem tyX0_ok : ∀ k, k < 14 → parseFieldDescriptor (TX0 k).2.2.1 = some (tyX0 k) := by decide +kernel
abbrev cX0_init : ByteArray := prog_2_method_1_code
def yX0_init : MethodName := ⟨RX0, "<init>", "()V"⟩
abbrev cX0_hasRoom : ByteArray := prog_2_method_2_code
def yX0_hasRoom : MethodName := ⟨RX0, "hasRoom", "(I)Z"⟩
abbrev cX0_hasDoor : ByteArray := prog_2_method_3_code
def yX0_hasDoor : MethodName := ⟨RX0, "hasDoor", "(II)Z"⟩
abbrev cX0_afterWalking : ByteArray := prog_2_method_4_code
def yX0_afterWalking : MethodName := ⟨RX0, "afterWalking", "(II)I"⟩
abbrev cX0_afterTaking : ByteArray := prog_2_method_5_code
def yX0_afterTaking : MethodName := ⟨RX0, "afterTaking", "(I)I"⟩
abbrev cX0_afterToggling : ByteArray := prog_2_method_6_code
def yX0_afterToggling : MethodName := ⟨RX0, "afterToggling", "(I)I"⟩
abbrev cX0_doorOwner : ByteArray := prog_2_method_7_code
def yX0_doorOwner : MethodName := ⟨RX0, "doorOwner", "(II)I"⟩
abbrev cX0_opens : ByteArray := prog_2_method_8_code
def yX0_opens : MethodName := ⟨RX0, "opens", "(II)Z"⟩
def RX1 : String := "LockQuest$Drawing"
def TX1 : u_T := fun k => match k with
  | 0 => ("LockQuest$Drawing", "state", "J", false)
  | 1 => ("LockQuest$Drawing", "count", "I", false)
  | _ => ("LockQuest$Drawing", "offered", "[I", true)
def tyX1 : Nat → FieldType := fun k => match k with
  | 0 => .long
  | 1 => .int
  | _ => .array .int
abbrev wsX10 : List Cond := u_ws RX1 TX1 3
theorem nmX1 : ∀ a, a < 3 → ∀ b, b < 3 → a ≠ b → (TX1 a).2.1 ≠ (TX1 b).2.1 := by decide +kernel
theorem tyX1_ok : ∀ k, k < 3 → parseFieldDescriptor (TX1 k).2.2.1 = some (tyX1 k) := by decide +kernel
abbrev cX1_init : ByteArray := prog_3_method_1_code
def yX1_init : MethodName := ⟨RX1, "<init>", "()V"⟩
abbrev cX1_begin : ByteArray := prog_3_method_2_code
def yX1_begin : MethodName := ⟨RX1, "begin", "(J)V"⟩
abbrev cX1_number : ByteArray := prog_3_method_3_code
def yX1_number : MethodName := ⟨RX1, "number", "(I)I"⟩
abbrev cX1_clearOffer : ByteArray := prog_3_method_4_code
def yX1_clearOffer : MethodName := ⟨RX1, "clearOffer", "()V"⟩
abbrev cX1_offer : ByteArray := prog_3_method_5_code
def yX1_offer : MethodName := ⟨RX1, "offer", "(I)V"⟩
abbrev cX1_hasOffer : ByteArray := prog_3_method_6_code
def yX1_hasOffer : MethodName := ⟨RX1, "hasOffer", "()Z"⟩
abbrev cX1_offeredRoom : ByteArray := prog_3_method_7_code
def yX1_offeredRoom : MethodName := ⟨RX1, "offeredRoom", "()I"⟩
def RX2 : String := "LockQuest$Maker"
def TX2 : u_T := fun k => match k with
  | 0 => ("LockQuest$Maker", "made", "LLockQuest$Adventure;", true)
  | 1 => ("LockQuest$Maker", "drawing", "LLockQuest$Drawing;", true)
  | _ => ("LockQuest$Maker", "open", "[Z", true)
def tyX2 : Nat → FieldType := fun k => match k with
  | 0 => .object "LockQuest$Adventure"
  | 1 => .object "LockQuest$Drawing"
  | _ => .array .boolean
abbrev wsX20 : List Cond := u_ws RX2 TX2 3
theorem nmX2 : ∀ a, a < 3 → ∀ b, b < 3 → a ≠ b → (TX2 a).2.1 ≠ (TX2 b).2.1 := by decide +kernel
theorem tyX2_ok : ∀ k, k < 3 → parseFieldDescriptor (TX2 k).2.2.1 = some (tyX2 k) := by decide +kernel
abbrev cX2_init : ByteArray := prog_4_method_1_code
def yX2_init : MethodName := ⟨RX2, "<init>", "(LLockQuest$Adventure;)V"⟩
abbrev cX2_build : ByteArray := prog_4_method_2_code
def yX2_build : MethodName := ⟨RX2, "build", "(JIIII)V"⟩
abbrev cX2_clear : ByteArray := prog_4_method_3_code
def yX2_clear : MethodName := ⟨RX2, "clear", "()V"⟩
abbrev cX2_addRooms : ByteArray := prog_4_method_4_code
def yX2_addRooms : MethodName := ⟨RX2, "addRooms", "()V"⟩
abbrev cX2_mayRise : ByteArray := prog_4_method_5_code
def yX2_mayRise : MethodName := ⟨RX2, "mayRise", "(II)Z"⟩
abbrev cX2_drawnBefore : ByteArray := prog_4_method_6_code
def yX2_drawnBefore : MethodName := ⟨RX2, "drawnBefore", "(II)I"⟩
abbrev cX2_offerLevels : ByteArray := prog_4_method_7_code
def yX2_offerLevels : MethodName := ⟨RX2, "offerLevels", "(II)V"⟩
abbrev cX2_offerPlainDoors : ByteArray := prog_4_method_8_code
def yX2_offerPlainDoors : MethodName := ⟨RX2, "offerPlainDoors", "()V"⟩
abbrev cX2_layKeys : ByteArray := prog_4_method_9_code
def yX2_layKeys : MethodName := ⟨RX2, "layKeys", "()V"⟩
abbrev cX2_makeSmallDoors : ByteArray := prog_4_method_10_code
def yX2_makeSmallDoors : MethodName := ⟨RX2, "makeSmallDoors", "(I)I"⟩
abbrev cX2_laySmallKeys : ByteArray := prog_4_method_11_code
def yX2_laySmallKeys : MethodName := ⟨RX2, "laySmallKeys", "(I)V"⟩
abbrev cX2_offerOpenRooms : ByteArray := prog_4_method_12_code
def yX2_offerOpenRooms : MethodName := ⟨RX2, "offerOpenRooms", "()V"⟩
abbrev cX2_makeBarriers : ByteArray := prog_4_method_13_code
def yX2_makeBarriers : MethodName := ⟨RX2, "makeBarriers", "(I)V"⟩
abbrev cX2_placeRooms : ByteArray := prog_4_method_14_code
def yX2_placeRooms : MethodName := ⟨RX2, "placeRooms", "()V"⟩
abbrev cX2_place : ByteArray := prog_4_method_15_code
def yX2_place : MethodName := ⟨RX2, "place", "(II)V"⟩
abbrev cX2_isFree : ByteArray := prog_4_method_16_code
def yX2_isFree : MethodName := ⟨RX2, "isFree", "(III)Z"⟩
abbrev cX2_joinFamilies : ByteArray := prog_4_method_17_code
def yX2_joinFamilies : MethodName := ⟨RX2, "joinFamilies", "()V"⟩
abbrev cX2_joinLoops : ByteArray := prog_4_method_18_code
def yX2_joinLoops : MethodName := ⟨RX2, "joinLoops", "()V"⟩
abbrev cX2_mayLoop : ByteArray := prog_4_method_19_code
def yX2_mayLoop : MethodName := ⟨RX2, "mayLoop", "(II)Z"⟩
abbrev cX2_join : ByteArray := prog_4_method_20_code
def yX2_join : MethodName := ⟨RX2, "join", "(II)V"⟩
def RX3 : String := "LockQuest$Marks"
def TX3 : u_T := fun k => match k with
  | _ => ("LockQuest$Marks", "bits", "[J", true)
def tyX3 : Nat → FieldType := fun k => match k with
  | _ => .array .long
abbrev wsX30 : List Cond := u_ws RX3 TX3 1
theorem nmX3 : ∀ a, a < 1 → ∀ b, b < 1 → a ≠ b → (TX3 a).2.1 ≠ (TX3 b).2.1 := by decide +kernel
theorem tyX3_ok : ∀ k, k < 1 → parseFieldDescriptor (TX3 k).2.2.1 = some (tyX3 k) := by decide +kernel
abbrev cX3_init : ByteArray := prog_5_method_1_code
def yX3_init : MethodName := ⟨RX3, "<init>", "()V"⟩
abbrev cX3_clear : ByteArray := prog_5_method_2_code
def yX3_clear : MethodName := ⟨RX3, "clear", "()V"⟩
abbrev cX3_has : ByteArray := prog_5_method_3_code
def yX3_has : MethodName := ⟨RX3, "has", "(I)Z"⟩
abbrev cX3_add : ByteArray := prog_5_method_4_code
def yX3_add : MethodName := ⟨RX3, "add", "(I)V"⟩
def RX4 : String := "LockQuest$Search"
def TX4 : u_T := fun k => match k with
  | 0 => ("LockQuest$Search", "adventure", "LLockQuest$Adventure;", true)
  | 1 => ("LockQuest$Search", "seen", "LLockQuest$Marks;", true)
  | 2 => ("LockQuest$Search", "saved", "LLockQuest$Marks;", true)
  | 3 => ("LockQuest$Search", "found", "[I", true)
  | 4 => ("LockQuest$Search", "distance", "[I", true)
  | 5 => ("LockQuest$Search", "opening", "[I", true)
  | _ => ("LockQuest$Search", "count", "I", false)
def tyX4 : Nat → FieldType := fun k => match k with
  | 0 => .object "LockQuest$Adventure"
  | 1 => .object "LockQuest$Marks"
  | 2 => .object "LockQuest$Marks"
  | 3 => .array .int
  | 4 => .array .int
  | 5 => .array .int
  | _ => .int
abbrev wsX40 : List Cond := u_ws RX4 TX4 7
theorem nmX4 : ∀ a, a < 7 → ∀ b, b < 7 → a ≠ b → (TX4 a).2.1 ≠ (TX4 b).2.1 := by decide +kernel
theorem tyX4_ok : ∀ k, k < 7 → parseFieldDescriptor (TX4 k).2.2.1 = some (tyX4 k) := by decide +kernel
abbrev cX4_init : ByteArray := prog_6_method_1_code
def yX4_init : MethodName := ⟨RX4, "<init>", "(LLockQuest$Adventure;)V"⟩
abbrev cX4_findGoal : ByteArray := prog_6_method_2_code
def yX4_findGoal : MethodName := ⟨RX4, "findGoal", "(I)I"⟩
abbrev cX4_findAll : ByteArray := prog_6_method_3_code
def yX4_findAll : MethodName := ⟨RX4, "findAll", "(I)V"⟩
abbrev cX4_allLeadToGoal : ByteArray := prog_6_method_4_code
def yX4_allLeadToGoal : MethodName := ⟨RX4, "allLeadToGoal", "()Z"⟩
abbrev cX4_begin : ByteArray := prog_6_method_5_code
def yX4_begin : MethodName := ⟨RX4, "begin", "(I)V"⟩
abbrev cX4_goOn : ByteArray := prog_6_method_6_code
def yX4_goOn : MethodName := ⟨RX4, "goOn", "(I)V"⟩
abbrev cX4_reach : ByteArray := prog_6_method_7_code
def yX4_reach : MethodName := ⟨RX4, "reach", "(III)V"⟩
abbrev cX4_isAtGoal : ByteArray := prog_6_method_8_code
def yX4_isAtGoal : MethodName := ⟨RX4, "isAtGoal", "(I)Z"⟩
abbrev cX4_leadsToSaved : ByteArray := prog_6_method_9_code
def yX4_leadsToSaved : MethodName := ⟨RX4, "leadsToSaved", "(I)Z"⟩
abbrev cX4_isSaved : ByteArray := prog_6_method_10_code
def yX4_isSaved : MethodName := ⟨RX4, "isSaved", "(I)Z"⟩
def RX5 : String := "LockQuest$Situation"
def TX5 : u_T := fun k => match k with
  | _ => ("", "", "", false)
def tyX5 : Nat → FieldType := fun k => match k with
  | _ => .int
abbrev wsX50 : List Cond := u_ws RX5 TX5 0
theorem nmX5 : ∀ a, a < 0 → ∀ b, b < 0 → a ≠ b → (TX5 a).2.1 ≠ (TX5 b).2.1 := by decide +kernel
theorem tyX5_ok : ∀ k, k < 0 → parseFieldDescriptor (TX5 k).2.2.1 = some (tyX5 k) := by decide +kernel
abbrev cX5_roomOf : ByteArray := prog_7_method_2_code
def yX5_roomOf : MethodName := ⟨RX5, "roomOf", "(I)I"⟩
abbrev cX5_keysOf : ByteArray := prog_7_method_3_code
def yX5_keysOf : MethodName := ⟨RX5, "keysOf", "(I)I"⟩
abbrev cX5_positionOf : ByteArray := prog_7_method_4_code
def yX5_positionOf : MethodName := ⟨RX5, "positionOf", "(I)I"⟩
abbrev cX5_smallKeysLeft : ByteArray := prog_7_method_5_code
def yX5_smallKeysLeft : MethodName := ⟨RX5, "smallKeysLeft", "(I)I"⟩
abbrev cX5_hasKey : ByteArray := prog_7_method_6_code
def yX5_hasKey : MethodName := ⟨RX5, "hasKey", "(II)Z"⟩
abbrev cX5_hasOpened : ByteArray := prog_7_method_7_code
def yX5_hasOpened : MethodName := ⟨RX5, "hasOpened", "(II)Z"⟩
abbrev cX5_keyBit : ByteArray := prog_7_method_8_code
def yX5_keyBit : MethodName := ⟨RX5, "keyBit", "(I)I"⟩
abbrev cX5_smallKeyBit : ByteArray := prog_7_method_9_code
def yX5_smallKeyBit : MethodName := ⟨RX5, "smallKeyBit", "(I)I"⟩
abbrev cX5_openedBit : ByteArray := prog_7_method_10_code
def yX5_openedBit : MethodName := ⟨RX5, "openedBit", "(I)I"⟩
abbrev cX5_inRoom : ByteArray := prog_7_method_11_code
def yX5_inRoom : MethodName := ⟨RX5, "inRoom", "(II)I"⟩
abbrev cX5_toggled : ByteArray := prog_7_method_12_code
def yX5_toggled : MethodName := ⟨RX5, "toggled", "(I)I"⟩
def RX6 : String := "LockQuest"
def TX6 : u_T := fun k => match k with
  | 0 => ("LockQuest", "adventure", "LLockQuest$Adventure;", true)
  | 1 => ("LockQuest", "maker", "LLockQuest$Maker;", true)
  | 2 => ("LockQuest", "search", "LLockQuest$Search;", true)
  | _ => ("LockQuest", "situation", "I", false)
def tyX6 : Nat → FieldType := fun k => match k with
  | 0 => .object "LockQuest$Adventure"
  | 1 => .object "LockQuest$Maker"
  | 2 => .object "LockQuest$Search"
  | _ => .int
abbrev wsX60 : List Cond := u_ws RX6 TX6 4
theorem nmX6 : ∀ a, a < 4 → ∀ b, b < 4 → a ≠ b → (TX6 a).2.1 ≠ (TX6 b).2.1 := by decide +kernel
theorem tyX6_ok : ∀ k, k < 4 → parseFieldDescriptor (TX6 k).2.2.1 = some (tyX6 k) := by decide +kernel
abbrev cX6_init : ByteArray := prog_1_method_1_code
def yX6_init : MethodName := ⟨RX6, "<init>", "()V"⟩
abbrev cX6_make : ByteArray := prog_1_method_2_code
def yX6_make : MethodName := ⟨RX6, "make", "(JIIII)I"⟩
abbrev cX6_room : ByteArray := prog_1_method_3_code
def yX6_room : MethodName := ⟨RX6, "room", "(II)I"⟩
abbrev cX6_behind : ByteArray := prog_1_method_4_code
def yX6_behind : MethodName := ⟨RX6, "behind", "(II)I"⟩
abbrev cX6_goal : ByteArray := prog_1_method_5_code
def yX6_goal : MethodName := ⟨RX6, "goal", "()I"⟩
abbrev cX6_restart : ByteArray := prog_1_method_6_code
def yX6_restart : MethodName := ⟨RX6, "restart", "()V"⟩
abbrev cX6_walk : ByteArray := prog_1_method_7_code
def yX6_walk : MethodName := ⟨RX6, "walk", "(I)I"⟩
abbrev cX6_take : ByteArray := prog_1_method_8_code
def yX6_take : MethodName := ⟨RX6, "take", "()I"⟩
abbrev cX6_toggle : ByteArray := prog_1_method_9_code
def yX6_toggle : MethodName := ⟨RX6, "toggle", "()I"⟩
abbrev cX6_here : ByteArray := prog_1_method_10_code
def yX6_here : MethodName := ⟨RX6, "here", "()I"⟩
abbrev cX6_having : ByteArray := prog_1_method_11_code
def yX6_having : MethodName := ⟨RX6, "having", "()I"⟩
abbrev cX6_steps : ByteArray := prog_1_method_12_code
def yX6_steps : MethodName := ⟨RX6, "steps", "()I"⟩
abbrev cX6_hint : ByteArray := prog_1_method_13_code
def yX6_hint : MethodName := ⟨RX6, "hint", "()I"⟩
abbrev cX6_situations : ByteArray := prog_1_method_14_code
def yX6_situations : MethodName := ⟨RX6, "situations", "()I"⟩
abbrev cX6_safe : ByteArray := prog_1_method_15_code
def yX6_safe : MethodName := ⟨RX6, "safe", "()Z"⟩
abbrev cX6_isWithin : ByteArray := prog_1_method_16_code
def yX6_isWithin : MethodName := ⟨RX6, "isWithin", "(III)Z"⟩
def RX7 : String := "LockQuestModel"
def TX7 : u_T := fun k => match k with
  | 0 => ("LockQuestModel", "state", "J", false)
  | 1 => ("LockQuestModel", "rooms", "I", false)
  | 2 => ("LockQuestModel", "smallDoors", "I", false)
  | 3 => ("LockQuestModel", "goal", "I", false)
  | 4 => ("LockQuestModel", "parent", "[I", true)
  | 5 => ("LockQuestModel", "level", "[I", true)
  | 6 => ("LockQuestModel", "kind", "[I", true)
  | 7 => ("LockQuestModel", "number", "[I", true)
  | 8 => ("LockQuestModel", "x", "[I", true)
  | 9 => ("LockQuestModel", "y", "[I", true)
  | 10 => ("LockQuestModel", "lying", "[I", true)
  | 11 => ("LockQuestModel", "switches", "[Z", true)
  | 12 => ("LockQuestModel", "loop", "[Z", true)
  | 13 => ("LockQuestModel", "chosen", "[Z", true)
  | 14 => ("LockQuestModel", "now", "I", false)
  | 15 => ("LockQuestModel", "met", "[I", true)
  | 16 => ("LockQuestModel", "last", "I", false)
  | _ => ("LockQuestModel", "count", "I", false)
def tyX7 : Nat → FieldType := fun k => match k with
  | 0 => .long
  | 1 => .int
  | 2 => .int
  | 3 => .int
  | 4 => .array .int
  | 5 => .array .int
  | 6 => .array .int
  | 7 => .array .int
  | 8 => .array .int
  | 9 => .array .int
  | 10 => .array .int
  | 11 => .array .boolean
  | 12 => .array .boolean
  | 13 => .array .boolean
  | 14 => .int
  | 15 => .array .int
  | 16 => .int
  | _ => .int
abbrev wsX70 : List Cond := u_ws RX7 TX7 18
theorem nmX7 : ∀ a, a < 18 → ∀ b, b < 18 → a ≠ b → (TX7 a).2.1 ≠ (TX7 b).2.1 := by decide +kernel
theorem tyX7_ok : ∀ k, k < 18 → parseFieldDescriptor (TX7 k).2.2.1 = some (tyX7 k) := by decide +kernel
abbrev cX7_init : ByteArray := prog_9_method_1_code
def yX7_init : MethodName := ⟨RX7, "<init>", "()V"⟩
abbrev cX7_draw : ByteArray := prog_9_method_2_code
def yX7_draw : MethodName := ⟨RX7, "draw", "(I)I"⟩
abbrev cX7_drawn : ByteArray := prog_9_method_3_code
def yX7_drawn : MethodName := ⟨RX7, "drawn", "()I"⟩
abbrev cX7_makeRooms : ByteArray := prog_9_method_4_code
def yX7_makeRooms : MethodName := ⟨RX7, "makeRooms", "(I)V"⟩
abbrev cX7_choosePlain : ByteArray := prog_9_method_5_code
def yX7_choosePlain : MethodName := ⟨RX7, "choosePlain", "()Z"⟩
abbrev cX7_open : ByteArray := prog_9_method_6_code
def yX7_open : MethodName := ⟨RX7, "open", "(I)Z"⟩
abbrev cX7_makeKeys : ByteArray := prog_9_method_7_code
def yX7_makeKeys : MethodName := ⟨RX7, "makeKeys", "(II)V"⟩
abbrev cX7_makeBarriers : ByteArray := prog_9_method_8_code
def yX7_makeBarriers : MethodName := ⟨RX7, "makeBarriers", "(I)V"⟩
abbrev cX7_occupied : ByteArray := prog_9_method_9_code
def yX7_occupied : MethodName := ⟨RX7, "occupied", "(III)Z"⟩
abbrev cX7_makePlaces : ByteArray := prog_9_method_10_code
def yX7_makePlaces : MethodName := ⟨RX7, "makePlaces", "()V"⟩
abbrev cX7_makeLoops : ByteArray := prog_9_method_11_code
def yX7_makeLoops : MethodName := ⟨RX7, "makeLoops", "()I"⟩
abbrev cX7_clear : ByteArray := prog_9_method_12_code
def yX7_clear : MethodName := ⟨RX7, "clear", "()V"⟩
abbrev cX7_make : ByteArray := prog_9_method_13_code
def yX7_make : MethodName := ⟨RX7, "make", "(JIIII)I"⟩
abbrev cX7_beyond : ByteArray := prog_9_method_14_code
def yX7_beyond : MethodName := ⟨RX7, "beyond", "(II)I"⟩
abbrev cX7_doors : ByteArray := prog_9_method_15_code
def yX7_doors : MethodName := ⟨RX7, "doors", "(I)I"⟩
abbrev cX7_ones : ByteArray := prog_9_method_16_code
def yX7_ones : MethodName := ⟨RX7, "ones", "(I)I"⟩
abbrev cX7_walked : ByteArray := prog_9_method_17_code
def yX7_walked : MethodName := ⟨RX7, "walked", "(II)I"⟩
abbrev cX7_takeable : ByteArray := prog_9_method_18_code
def yX7_takeable : MethodName := ⟨RX7, "takeable", "(I)I"⟩
abbrev cX7_after : ByteArray := prog_9_method_19_code
def yX7_after : MethodName := ⟨RX7, "after", "(II)I"⟩
abbrev cX7_nextAction : ByteArray := prog_9_method_20_code
def yX7_nextAction : MethodName := ⟨RX7, "nextAction", "(II)I"⟩
abbrev cX7_meet : ByteArray := prog_9_method_21_code
def yX7_meet : MethodName := ⟨RX7, "meet", "(II)V"⟩
abbrev cX7_spread : ByteArray := prog_9_method_22_code
def yX7_spread : MethodName := ⟨RX7, "spread", "(I)I"⟩
abbrev cX7_steps : ByteArray := prog_9_method_23_code
def yX7_steps : MethodName := ⟨RX7, "steps", "()I"⟩
abbrev cX7_hint : ByteArray := prog_9_method_24_code
def yX7_hint : MethodName := ⟨RX7, "hint", "()I"⟩
abbrev cX7_situations : ByteArray := prog_9_method_25_code
def yX7_situations : MethodName := ⟨RX7, "situations", "()I"⟩
abbrev cX7_leads : ByteArray := prog_9_method_26_code
def yX7_leads : MethodName := ⟨RX7, "leads", "(I)Z"⟩
abbrev cX7_safe : ByteArray := prog_9_method_27_code
def yX7_safe : MethodName := ⟨RX7, "safe", "()Z"⟩
abbrev cX7_room : ByteArray := prog_9_method_28_code
def yX7_room : MethodName := ⟨RX7, "room", "(II)I"⟩
abbrev cX7_behind : ByteArray := prog_9_method_29_code
def yX7_behind : MethodName := ⟨RX7, "behind", "(II)I"⟩
abbrev cX7_goal : ByteArray := prog_9_method_30_code
def yX7_goal : MethodName := ⟨RX7, "goal", "()I"⟩
abbrev cX7_restart : ByteArray := prog_9_method_31_code
def yX7_restart : MethodName := ⟨RX7, "restart", "()V"⟩
abbrev cX7_walk : ByteArray := prog_9_method_32_code
def yX7_walk : MethodName := ⟨RX7, "walk", "(I)I"⟩
abbrev cX7_take : ByteArray := prog_9_method_33_code
def yX7_take : MethodName := ⟨RX7, "take", "()I"⟩
abbrev cX7_toggle : ByteArray := prog_9_method_34_code
def yX7_toggle : MethodName := ⟨RX7, "toggle", "()I"⟩
abbrev cX7_here : ByteArray := prog_9_method_35_code
def yX7_here : MethodName := ⟨RX7, "here", "()I"⟩
abbrev cX7_having : ByteArray := prog_9_method_36_code
def yX7_having : MethodName := ⟨RX7, "having", "()I"⟩
def RJ6 : String := "java/lang/Integer"
def TJ6 : u_T := fun k => match k with
  | _ => ("", "", "", false)
def tyJ6 : Nat → FieldType := fun k => match k with
  | _ => .int
abbrev wsJ60 : List Cond := u_ws RJ6 TJ6 0
theorem nmJ6 : ∀ a, a < 0 → ∀ b, b < 0 → a ≠ b → (TJ6 a).2.1 ≠ (TJ6 b).2.1 := by decide +kernel
theorem tyJ6_ok : ∀ k, k < 0 → parseFieldDescriptor (TJ6 k).2.2.1 = some (tyJ6 k) := by decide +kernel
abbrev cJ6_bitCount_0f7a4 : ByteArray := prog_10_method_49_code
def yJ6_bitCount_0f7a4 : MethodName := ⟨RJ6, "bitCount", "(I)I"⟩
def RJ9 : String := "java/lang/Math"
def TJ9 : u_T := fun k => match k with
  | _ => ("", "", "", false)
def tyJ9 : Nat → FieldType := fun k => match k with
  | _ => .int
abbrev wsJ90 : List Cond := u_ws RJ9 TJ9 0
theorem nmJ9 : ∀ a, a < 0 → ∀ b, b < 0 → a ≠ b → (TJ9 a).2.1 ≠ (TJ9 b).2.1 := by decide +kernel
theorem tyJ9_ok : ∀ k, k < 0 → parseFieldDescriptor (TJ9 k).2.2.1 = some (tyJ9 k) := by decide +kernel
abbrev cJ9_abs_0f7a4 : ByteArray := prog_11_method_59_code
def yJ9_abs_0f7a4 : MethodName := ⟨RJ9, "abs", "(I)I"⟩
def RJ7 : String := "java/util/Arrays"
def TJ7 : u_T := fun k => match k with
  | _ => ("", "", "", false)
def tyJ7 : Nat → FieldType := fun k => match k with
  | _ => .int
abbrev wsJ70 : List Cond := u_ws RJ7 TJ7 0
theorem nmJ7 : ∀ a, a < 0 → ∀ b, b < 0 → a ≠ b → (TJ7 a).2.1 ≠ (TJ7 b).2.1 := by decide +kernel
theorem tyJ7_ok : ∀ k, k < 0 → parseFieldDescriptor (TJ7 k).2.2.1 = some (tyJ7 k) := by decide +kernel
abbrev cJ7_fill_d0a16 : ByteArray := prog_12_method_101_code
def yJ7_fill_d0a16 : MethodName := ⟨RJ7, "fill", "([JJ)V"⟩
abbrev cJ7_fill_53178 : ByteArray := prog_12_method_103_code
def yJ7_fill_53178 : MethodName := ⟨RJ7, "fill", "([II)V"⟩
def RL : String := "LockQuestLaw"
abbrev cL_law : ByteArray := code
def yL_law : MethodName := ⟨RL, "law", "([I)Z"⟩
def wsX0_init : List Cond := .code yX0_init cX0_init 1 none :: ([.methodLink RX0 3 objectInit, .instanceMethod objectInit, .code objectInit ⟨#[0xb1]⟩ 1 none, .arrayClass .int, .fieldLink RX0 9 "LockQuest$Adventure" "parent" "[I", .fieldLink RX0 15 "LockQuest$Adventure" "level" "[I", .fieldLink RX0 18 "LockQuest$Adventure" "kind" "[I", .fieldLink RX0 21 "LockQuest$Adventure" "smallNumber" "[I", .fieldLink RX0 24 "LockQuest$Adventure" "x" "[I", .fieldLink RX0 27 "LockQuest$Adventure" "y" "[I", .fieldLink RX0 30 "LockQuest$Adventure" "lying" "[I", .arrayClass .boolean, .fieldLink RX0 33 "LockQuest$Adventure" "switched" "[Z", .fieldLink RX0 37 "LockQuest$Adventure" "doors" "[I", .classLink RX0 40 "[[I", .fieldLink RX0 42 "LockQuest$Adventure" "beyond" "[[I"] ++ wsX00)
def wsX0_hasRoom : List Cond := .code yX0_hasRoom cX0_hasRoom 2 (some .boolean) :: ([.fieldLink RX0 45 "LockQuest$Adventure" "rooms" "I"] ++ wsX00)
def wsX0_hasDoor : List Cond := .code yX0_hasDoor cX0_hasDoor 3 (some .boolean) :: ([.fieldLink RX0 37 "LockQuest$Adventure" "doors" "[I", .methodLink RX0 49 yX0_hasRoom, .instanceMethod yX0_hasRoom, .selects RX0 yX0_hasRoom yX0_hasRoom, .initialized RX0, .code yX0_hasRoom cX0_hasRoom 2 (some .boolean), .fieldLink RX0 45 "LockQuest$Adventure" "rooms" "I"] ++ wsX00)
def wsX5_roomOf : List Cond := .code yX5_roomOf cX5_roomOf 1 (some .int) :: ([])
def wsX0_doorOwner : List Cond := .code yX0_doorOwner cX0_doorOwner 3 (some .int) :: ([.fieldLink RX0 9 "LockQuest$Adventure" "parent" "[I"] ++ wsX00)
def wsX5_keyBit : List Cond := .code yX5_keyBit cX5_keyBit 1 (some .int) :: ([])
def wsX5_hasKey : List Cond := .code yX5_hasKey cX5_hasKey 2 (some .boolean) :: ([.methodLink RX5 17 yX5_keyBit, .static yX5_keyBit, .initialized RX5, .code yX5_keyBit cX5_keyBit 1 (some .int)])
def wsX5_openedBit : List Cond := .code yX5_openedBit cX5_openedBit 1 (some .int) :: ([])
def wsX5_hasOpened : List Cond := .code yX5_hasOpened cX5_hasOpened 2 (some .boolean) :: ([.methodLink RX5 20 yX5_openedBit, .static yX5_openedBit, .initialized RX5, .code yX5_openedBit cX5_openedBit 1 (some .int)])
def wsJ6_bitCount_0f7a4 : List Cond := .code yJ6_bitCount_0f7a4 cJ6_bitCount_0f7a4 1 (some .int) :: ([.constant RJ6 265 (1431655765), .constant RJ6 266 (858993459), .constant RJ6 267 (252645135)])
def wsX5_smallKeysLeft : List Cond := .code yX5_smallKeysLeft cX5_smallKeysLeft 1 (some .int) :: ([.methodLink RX5 11 yJ6_bitCount_0f7a4, .static yJ6_bitCount_0f7a4, .initialized RJ6, .code yJ6_bitCount_0f7a4 cJ6_bitCount_0f7a4 1 (some .int), .constant RJ6 265 (1431655765), .constant RJ6 266 (858993459), .constant RJ6 267 (252645135)])
def wsX5_positionOf : List Cond := .code yX5_positionOf cX5_positionOf 1 (some .int) :: ([])
def wsX0_opens_r1 : List Cond := [Cond.fieldLink RX0 18 "LockQuest$Adventure" "kind" "[I", Cond.fieldLink RX0 15 "LockQuest$Adventure" "level" "[I", Cond.fieldLink RX0 21 "LockQuest$Adventure" "smallNumber" "[I", Cond.methodLink RX0 79 yX5_hasKey, Cond.static yX5_hasKey, Cond.initialized RX5, Cond.code yX5_hasKey cX5_hasKey 2 (some .boolean), Cond.methodLink RX5 17 yX5_keyBit, Cond.static yX5_keyBit, Cond.code yX5_keyBit cX5_keyBit 1 (some .int), Cond.methodLink RX0 82 yX5_hasOpened, Cond.static yX5_hasOpened, Cond.code yX5_hasOpened cX5_hasOpened 2 (some .boolean), Cond.methodLink RX5 20 yX5_openedBit, Cond.static yX5_openedBit, Cond.code yX5_openedBit cX5_openedBit 1 (some .int), Cond.methodLink RX0 85 yX5_smallKeysLeft, Cond.static yX5_smallKeysLeft, Cond.code yX5_smallKeysLeft cX5_smallKeysLeft 1 (some .int), Cond.methodLink RX5 11 yJ6_bitCount_0f7a4, Cond.static yJ6_bitCount_0f7a4, Cond.initialized RJ6, Cond.code yJ6_bitCount_0f7a4 cJ6_bitCount_0f7a4 1 (some .int), Cond.constant RJ6 265 (1431655765)]
def wsX0_opens_r2 : List Cond := [Cond.constant RJ6 266 (858993459), Cond.constant RJ6 267 (252645135), Cond.methodLink RX0 88 yX5_positionOf, Cond.static yX5_positionOf, Cond.code yX5_positionOf cX5_positionOf 1 (some .int)]
def wsX0_opens : List Cond := .code yX0_opens cX0_opens 3 (some .boolean) :: ((wsX0_opens_r1 ++ wsX0_opens_r2) ++ wsX00)
def wsX5_inRoom : List Cond := .code yX5_inRoom cX5_inRoom 2 (some .int) :: ([])
def wsX0_afterWalking_r1 : List Cond := [Cond.fieldLink RX0 42 "LockQuest$Adventure" "beyond" "[[I", Cond.fieldLink RX0 18 "LockQuest$Adventure" "kind" "[I", Cond.fieldLink RX0 21 "LockQuest$Adventure" "smallNumber" "[I", Cond.methodLink RX0 53 yX5_roomOf, Cond.static yX5_roomOf, Cond.initialized RX5, Cond.code yX5_roomOf cX5_roomOf 1 (some .int), Cond.methodLink RX0 59 yX0_hasDoor, Cond.instanceMethod yX0_hasDoor, Cond.selects RX0 yX0_hasDoor yX0_hasDoor, Cond.initialized RX0, Cond.code yX0_hasDoor cX0_hasDoor 3 (some .boolean), Cond.fieldLink RX0 37 "LockQuest$Adventure" "doors" "[I", Cond.methodLink RX0 49 yX0_hasRoom, Cond.instanceMethod yX0_hasRoom, Cond.selects RX0 yX0_hasRoom yX0_hasRoom, Cond.code yX0_hasRoom cX0_hasRoom 2 (some .boolean), Cond.fieldLink RX0 45 "LockQuest$Adventure" "rooms" "I", Cond.methodLink RX0 63 yX0_doorOwner, Cond.instanceMethod yX0_doorOwner, Cond.selects RX0 yX0_doorOwner yX0_doorOwner, Cond.code yX0_doorOwner cX0_doorOwner 3 (some .int), Cond.fieldLink RX0 9 "LockQuest$Adventure" "parent" "[I", Cond.methodLink RX0 67 yX0_opens]
def wsX0_afterWalking_r2 : List Cond := [Cond.instanceMethod yX0_opens, Cond.selects RX0 yX0_opens yX0_opens, Cond.code yX0_opens cX0_opens 3 (some .boolean), Cond.fieldLink RX0 15 "LockQuest$Adventure" "level" "[I", Cond.methodLink RX0 79 yX5_hasKey, Cond.static yX5_hasKey, Cond.code yX5_hasKey cX5_hasKey 2 (some .boolean), Cond.methodLink RX5 17 yX5_keyBit, Cond.static yX5_keyBit, Cond.code yX5_keyBit cX5_keyBit 1 (some .int), Cond.methodLink RX0 82 yX5_hasOpened, Cond.static yX5_hasOpened, Cond.code yX5_hasOpened cX5_hasOpened 2 (some .boolean), Cond.methodLink RX5 20 yX5_openedBit, Cond.static yX5_openedBit, Cond.code yX5_openedBit cX5_openedBit 1 (some .int), Cond.methodLink RX0 85 yX5_smallKeysLeft, Cond.static yX5_smallKeysLeft, Cond.code yX5_smallKeysLeft cX5_smallKeysLeft 1 (some .int), Cond.methodLink RX5 11 yJ6_bitCount_0f7a4, Cond.static yJ6_bitCount_0f7a4, Cond.initialized RJ6, Cond.code yJ6_bitCount_0f7a4 cJ6_bitCount_0f7a4 1 (some .int), Cond.constant RJ6 265 (1431655765)]
def wsX0_afterWalking_r3 : List Cond := [Cond.constant RJ6 266 (858993459), Cond.constant RJ6 267 (252645135), Cond.methodLink RX0 88 yX5_positionOf, Cond.static yX5_positionOf, Cond.code yX5_positionOf cX5_positionOf 1 (some .int), Cond.methodLink RX0 70 yX5_inRoom, Cond.static yX5_inRoom, Cond.code yX5_inRoom cX5_inRoom 2 (some .int), Cond.methodLink RX0 73 yX5_openedBit]
def wsX0_afterWalking : List Cond := .code yX0_afterWalking cX0_afterWalking 7 (some .int) :: ((wsX0_afterWalking_r1 ++ (wsX0_afterWalking_r2 ++ wsX0_afterWalking_r3)) ++ wsX00)
def wsX0_afterTaking : List Cond := .code yX0_afterTaking cX0_afterTaking 2 (some .int) :: ([.fieldLink RX0 30 "LockQuest$Adventure" "lying" "[I", .methodLink RX0 53 yX5_roomOf, .static yX5_roomOf, .initialized RX5, .code yX5_roomOf cX5_roomOf 1 (some .int)] ++ wsX00)
def wsX5_toggled : List Cond := .code yX5_toggled cX5_toggled 1 (some .int) :: ([])
def wsX0_afterToggling : List Cond := .code yX0_afterToggling cX0_afterToggling 2 (some .int) :: ([.fieldLink RX0 33 "LockQuest$Adventure" "switched" "[Z", .methodLink RX0 53 yX5_roomOf, .static yX5_roomOf, .initialized RX5, .code yX5_roomOf cX5_roomOf 1 (some .int), .methodLink RX0 76 yX5_toggled, .static yX5_toggled, .code yX5_toggled cX5_toggled 1 (some .int)] ++ wsX00)
def wsX1_init : List Cond := .code yX1_init cX1_init 1 none :: ([.methodLink RX1 3 objectInit, .instanceMethod objectInit, .code objectInit ⟨#[0xb1]⟩ 1 none, .arrayClass .int, .fieldLink RX1 9 "LockQuest$Drawing" "offered" "[I"] ++ wsX10)
def wsX1_begin : List Cond := .code yX1_begin cX1_begin 3 none :: ([.fieldLink RX1 15 "LockQuest$Drawing" "state" "J"] ++ wsX10)
def wsX1_number : List Cond := .code yX1_number cX1_number 2 (some .int) :: ([.fieldLink RX1 15 "LockQuest$Drawing" "state" "J", .constantLong RX1 19 (6364136223846793005), .constantLong RX1 21 (1442695040888963407)] ++ wsX10)
def wsX1_clearOffer : List Cond := .code yX1_clearOffer cX1_clearOffer 1 none :: ([.fieldLink RX1 23 "LockQuest$Drawing" "count" "I"] ++ wsX10)
def wsX1_offer : List Cond := .code yX1_offer cX1_offer 2 none :: ([.fieldLink RX1 23 "LockQuest$Drawing" "count" "I", .fieldLink RX1 9 "LockQuest$Drawing" "offered" "[I"] ++ wsX10)
def wsX1_hasOffer : List Cond := .code yX1_hasOffer cX1_hasOffer 1 (some .boolean) :: ([.fieldLink RX1 23 "LockQuest$Drawing" "count" "I"] ++ wsX10)
def wsX1_offeredRoom : List Cond := .code yX1_offeredRoom cX1_offeredRoom 1 (some .int) :: ([.fieldLink RX1 9 "LockQuest$Drawing" "offered" "[I", .fieldLink RX1 23 "LockQuest$Drawing" "count" "I", .methodLink RX1 27 yX1_number, .instanceMethod yX1_number, .selects RX1 yX1_number yX1_number, .initialized RX1, .code yX1_number cX1_number 2 (some .int), .fieldLink RX1 15 "LockQuest$Drawing" "state" "J", .constantLong RX1 19 (6364136223846793005), .constantLong RX1 21 (1442695040888963407)] ++ wsX10)
def wsX2_init : List Cond := .code yX2_init cX2_init 2 none :: ([.methodLink RX2 3 objectInit, .instanceMethod objectInit, .code objectInit ⟨#[0xb1]⟩ 1 none, .classLink RX2 9 RX1, .instantiable RX1 3, .initialized RX1, .fieldLink RX2 12 "LockQuest$Maker" "drawing" "LLockQuest$Drawing;", .arrayClass .boolean, .fieldLink RX2 18 "LockQuest$Maker" "open" "[Z", .fieldLink RX2 22 "LockQuest$Maker" "made" "LLockQuest$Adventure;", .instanceMethod yX1_init, .code yX1_init cX1_init 1 none, .methodLink RX1 3 objectInit, .arrayClass .int, .fieldLink RX1 9 "LockQuest$Drawing" "offered" "[I"] ++ wsX10 ++ wsX20)
def wsJ7_fill_53178 : List Cond := .code yJ7_fill_53178 cJ7_fill_53178 4 none :: ([])
def wsX2_clear : List Cond := .code yX2_clear cX2_clear 2 none :: ([.fieldLink RX2 22 "LockQuest$Maker" "made" "LLockQuest$Adventure;", .fieldLink RX2 79 "LockQuest$Adventure" "lying" "[I", .fieldLink RX2 89 "LockQuest$Adventure" "doors" "[I", .fieldLink RX2 92 "LockQuest$Adventure" "switched" "[Z", .fieldLink RX2 95 "LockQuest$Adventure" "allDoors" "I", .methodLink RX2 83 yJ7_fill_53178, .static yJ7_fill_53178, .initialized RJ7, .code yJ7_fill_53178 cJ7_fill_53178 4 none] ++ wsX20 ++ wsX00)
def wsX2_drawnBefore_r1 : List Cond := [Cond.fieldLink RX2 12 "LockQuest$Maker" "drawing" "LLockQuest$Drawing;", Cond.fieldLink RX2 22 "LockQuest$Maker" "made" "LLockQuest$Adventure;", Cond.fieldLink RX2 101 "LockQuest$Adventure" "level" "[I", Cond.methodLink RX2 118 yX1_clearOffer, Cond.instanceMethod yX1_clearOffer, Cond.selects RX1 yX1_clearOffer yX1_clearOffer, Cond.initialized RX1, Cond.code yX1_clearOffer cX1_clearOffer 1 none, Cond.fieldLink RX1 23 "LockQuest$Drawing" "count" "I", Cond.methodLink RX2 121 yX1_offer, Cond.instanceMethod yX1_offer, Cond.selects RX1 yX1_offer yX1_offer, Cond.code yX1_offer cX1_offer 2 none, Cond.fieldLink RX1 9 "LockQuest$Drawing" "offered" "[I", Cond.methodLink RX2 63 yX1_offeredRoom, Cond.instanceMethod yX1_offeredRoom, Cond.selects RX1 yX1_offeredRoom yX1_offeredRoom, Cond.code yX1_offeredRoom cX1_offeredRoom 1 (some .int), Cond.methodLink RX1 27 yX1_number, Cond.instanceMethod yX1_number, Cond.selects RX1 yX1_number yX1_number, Cond.code yX1_number cX1_number 2 (some .int), Cond.fieldLink RX1 15 "LockQuest$Drawing" "state" "J", Cond.constantLong RX1 19 (6364136223846793005)]
def wsX2_drawnBefore_r2 : List Cond := [Cond.constantLong RX1 21 (1442695040888963407)]
def wsX2_drawnBefore : List Cond := .code yX2_drawnBefore cX2_drawnBefore 4 (some .int) :: ((wsX2_drawnBefore_r1 ++ wsX2_drawnBefore_r2) ++ wsX20 ++ wsX00 ++ wsX10)
def wsX2_mayRise : List Cond := .code yX2_mayRise cX2_mayRise 3 (some .boolean) :: ([.fieldLink RX2 22 "LockQuest$Maker" "made" "LLockQuest$Adventure;", .fieldLink RX2 101 "LockQuest$Adventure" "level" "[I", .fieldLink RX2 39 "LockQuest$Adventure" "levels" "I"] ++ wsX20 ++ wsX00)
def wsX2_addRooms_r1 : List Cond := [Cond.fieldLink RX2 22 "LockQuest$Maker" "made" "LLockQuest$Adventure;", Cond.fieldLink RX2 98 "LockQuest$Adventure" "parent" "[I", Cond.fieldLink RX2 101 "LockQuest$Adventure" "level" "[I", Cond.fieldLink RX2 104 "LockQuest$Adventure" "kind" "[I", Cond.fieldLink RX2 33 "LockQuest$Adventure" "rooms" "I", Cond.fieldLink RX2 39 "LockQuest$Adventure" "levels" "I", Cond.fieldLink RX2 12 "LockQuest$Maker" "drawing" "LLockQuest$Drawing;", Cond.methodLink RX2 107 yX2_drawnBefore, Cond.instanceMethod yX2_drawnBefore, Cond.selects RX2 yX2_drawnBefore yX2_drawnBefore, Cond.initialized RX2, Cond.code yX2_drawnBefore cX2_drawnBefore 4 (some .int), Cond.methodLink RX2 118 yX1_clearOffer, Cond.instanceMethod yX1_clearOffer, Cond.selects RX1 yX1_clearOffer yX1_clearOffer, Cond.initialized RX1, Cond.code yX1_clearOffer cX1_clearOffer 1 none, Cond.fieldLink RX1 23 "LockQuest$Drawing" "count" "I", Cond.methodLink RX2 121 yX1_offer, Cond.instanceMethod yX1_offer, Cond.selects RX1 yX1_offer yX1_offer, Cond.code yX1_offer cX1_offer 2 none, Cond.fieldLink RX1 9 "LockQuest$Drawing" "offered" "[I", Cond.methodLink RX2 63 yX1_offeredRoom]
def wsX2_addRooms_r2 : List Cond := [Cond.instanceMethod yX1_offeredRoom, Cond.selects RX1 yX1_offeredRoom yX1_offeredRoom, Cond.code yX1_offeredRoom cX1_offeredRoom 1 (some .int), Cond.methodLink RX1 27 yX1_number, Cond.instanceMethod yX1_number, Cond.selects RX1 yX1_number yX1_number, Cond.code yX1_number cX1_number 2 (some .int), Cond.fieldLink RX1 15 "LockQuest$Drawing" "state" "J", Cond.constantLong RX1 19 (6364136223846793005), Cond.constantLong RX1 21 (1442695040888963407), Cond.methodLink RX2 111 yX1_number, Cond.methodLink RX2 114 yX2_mayRise, Cond.instanceMethod yX2_mayRise, Cond.selects RX2 yX2_mayRise yX2_mayRise, Cond.code yX2_mayRise cX2_mayRise 3 (some .boolean)]
def wsX2_addRooms : List Cond := .code yX2_addRooms cX2_addRooms 6 none :: ((wsX2_addRooms_r1 ++ wsX2_addRooms_r2) ++ wsX20 ++ wsX00 ++ wsX10)
def wsX6_isWithin : List Cond := .code yX6_isWithin cX6_isWithin 3 (some .boolean) :: ([])
def wsX2_offerLevels : List Cond := .code yX2_offerLevels cX2_offerLevels 4 none :: ([.fieldLink RX2 12 "LockQuest$Maker" "drawing" "LLockQuest$Drawing;", .fieldLink RX2 22 "LockQuest$Maker" "made" "LLockQuest$Adventure;", .fieldLink RX2 33 "LockQuest$Adventure" "rooms" "I", .fieldLink RX2 101 "LockQuest$Adventure" "level" "[I", .methodLink RX2 118 yX1_clearOffer, .instanceMethod yX1_clearOffer, .selects RX1 yX1_clearOffer yX1_clearOffer, .initialized RX1, .code yX1_clearOffer cX1_clearOffer 1 none, .fieldLink RX1 23 "LockQuest$Drawing" "count" "I", .static yX6_isWithin, .initialized RX6, .code yX6_isWithin cX6_isWithin 3 (some .boolean), .methodLink RX2 121 yX1_offer, .instanceMethod yX1_offer, .selects RX1 yX1_offer yX1_offer, .code yX1_offer cX1_offer 2 none, .fieldLink RX1 9 "LockQuest$Drawing" "offered" "[I"] ++ wsX20 ++ wsX00 ++ wsX10)
def wsX2_layKeys_r1 : List Cond := [Cond.fieldLink RX2 22 "LockQuest$Maker" "made" "LLockQuest$Adventure;", Cond.fieldLink RX2 39 "LockQuest$Adventure" "levels" "I", Cond.fieldLink RX2 79 "LockQuest$Adventure" "lying" "[I", Cond.fieldLink RX2 12 "LockQuest$Maker" "drawing" "LLockQuest$Drawing;", Cond.methodLink RX2 59 yX2_offerLevels, Cond.instanceMethod yX2_offerLevels, Cond.selects RX2 yX2_offerLevels yX2_offerLevels, Cond.initialized RX2, Cond.code yX2_offerLevels cX2_offerLevels 4 none, Cond.fieldLink RX2 33 "LockQuest$Adventure" "rooms" "I", Cond.fieldLink RX2 101 "LockQuest$Adventure" "level" "[I", Cond.methodLink RX2 118 yX1_clearOffer, Cond.instanceMethod yX1_clearOffer, Cond.selects RX1 yX1_clearOffer yX1_clearOffer, Cond.initialized RX1, Cond.code yX1_clearOffer cX1_clearOffer 1 none, Cond.fieldLink RX1 23 "LockQuest$Drawing" "count" "I", Cond.static yX6_isWithin, Cond.initialized RX6, Cond.code yX6_isWithin cX6_isWithin 3 (some .boolean), Cond.methodLink RX2 121 yX1_offer, Cond.instanceMethod yX1_offer, Cond.selects RX1 yX1_offer yX1_offer, Cond.code yX1_offer cX1_offer 2 none]
def wsX2_layKeys_r2 : List Cond := [Cond.fieldLink RX1 9 "LockQuest$Drawing" "offered" "[I", Cond.methodLink RX2 63 yX1_offeredRoom, Cond.instanceMethod yX1_offeredRoom, Cond.selects RX1 yX1_offeredRoom yX1_offeredRoom, Cond.code yX1_offeredRoom cX1_offeredRoom 1 (some .int), Cond.methodLink RX1 27 yX1_number, Cond.instanceMethod yX1_number, Cond.selects RX1 yX1_number yX1_number, Cond.code yX1_number cX1_number 2 (some .int), Cond.fieldLink RX1 15 "LockQuest$Drawing" "state" "J", Cond.constantLong RX1 19 (6364136223846793005), Cond.constantLong RX1 21 (1442695040888963407), Cond.methodLink RX2 128 yX5_keyBit, Cond.static yX5_keyBit, Cond.initialized RX5, Cond.code yX5_keyBit cX5_keyBit 1 (some .int)]
def wsX2_layKeys : List Cond := .code yX2_layKeys cX2_layKeys 2 none :: ((wsX2_layKeys_r1 ++ wsX2_layKeys_r2) ++ wsX20 ++ wsX00 ++ wsX10)
def wsX2_offerPlainDoors : List Cond := .code yX2_offerPlainDoors cX2_offerPlainDoors 2 none :: ([.fieldLink RX2 12 "LockQuest$Maker" "drawing" "LLockQuest$Drawing;", .fieldLink RX2 22 "LockQuest$Maker" "made" "LLockQuest$Adventure;", .fieldLink RX2 33 "LockQuest$Adventure" "rooms" "I", .fieldLink RX2 104 "LockQuest$Adventure" "kind" "[I", .methodLink RX2 118 yX1_clearOffer, .instanceMethod yX1_clearOffer, .selects RX1 yX1_clearOffer yX1_clearOffer, .initialized RX1, .code yX1_clearOffer cX1_clearOffer 1 none, .fieldLink RX1 23 "LockQuest$Drawing" "count" "I", .methodLink RX2 121 yX1_offer, .instanceMethod yX1_offer, .selects RX1 yX1_offer yX1_offer, .code yX1_offer cX1_offer 2 none, .fieldLink RX1 9 "LockQuest$Drawing" "offered" "[I"] ++ wsX20 ++ wsX00 ++ wsX10)
def wsX2_makeSmallDoors_r1 : List Cond := [Cond.fieldLink RX2 12 "LockQuest$Maker" "drawing" "LLockQuest$Drawing;", Cond.fieldLink RX2 22 "LockQuest$Maker" "made" "LLockQuest$Adventure;", Cond.fieldLink RX2 104 "LockQuest$Adventure" "kind" "[I", Cond.fieldLink RX2 140 "LockQuest$Adventure" "smallNumber" "[I", Cond.methodLink RX2 133 yX2_offerPlainDoors, Cond.instanceMethod yX2_offerPlainDoors, Cond.selects RX2 yX2_offerPlainDoors yX2_offerPlainDoors, Cond.initialized RX2, Cond.code yX2_offerPlainDoors cX2_offerPlainDoors 2 none, Cond.fieldLink RX2 33 "LockQuest$Adventure" "rooms" "I", Cond.methodLink RX2 118 yX1_clearOffer, Cond.instanceMethod yX1_clearOffer, Cond.selects RX1 yX1_clearOffer yX1_clearOffer, Cond.initialized RX1, Cond.code yX1_clearOffer cX1_clearOffer 1 none, Cond.fieldLink RX1 23 "LockQuest$Drawing" "count" "I", Cond.methodLink RX2 121 yX1_offer, Cond.instanceMethod yX1_offer, Cond.selects RX1 yX1_offer yX1_offer, Cond.code yX1_offer cX1_offer 2 none, Cond.fieldLink RX1 9 "LockQuest$Drawing" "offered" "[I", Cond.methodLink RX2 136 yX1_hasOffer, Cond.instanceMethod yX1_hasOffer, Cond.selects RX1 yX1_hasOffer yX1_hasOffer]
def wsX2_makeSmallDoors_r2 : List Cond := [Cond.code yX1_hasOffer cX1_hasOffer 1 (some .boolean), Cond.methodLink RX2 63 yX1_offeredRoom, Cond.instanceMethod yX1_offeredRoom, Cond.selects RX1 yX1_offeredRoom yX1_offeredRoom, Cond.code yX1_offeredRoom cX1_offeredRoom 1 (some .int), Cond.methodLink RX1 27 yX1_number, Cond.instanceMethod yX1_number, Cond.selects RX1 yX1_number yX1_number, Cond.code yX1_number cX1_number 2 (some .int), Cond.fieldLink RX1 15 "LockQuest$Drawing" "state" "J", Cond.constantLong RX1 19 (6364136223846793005), Cond.constantLong RX1 21 (1442695040888963407)]
def wsX2_makeSmallDoors : List Cond := .code yX2_makeSmallDoors cX2_makeSmallDoors 5 (some .int) :: ((wsX2_makeSmallDoors_r1 ++ wsX2_makeSmallDoors_r2) ++ wsX20 ++ wsX00 ++ wsX10)
def wsX2_offerOpenRooms : List Cond := .code yX2_offerOpenRooms cX2_offerOpenRooms 2 none :: ([.fieldLink RX2 12 "LockQuest$Maker" "drawing" "LLockQuest$Drawing;", .fieldLink RX2 18 "LockQuest$Maker" "open" "[Z", .fieldLink RX2 22 "LockQuest$Maker" "made" "LLockQuest$Adventure;", .fieldLink RX2 33 "LockQuest$Adventure" "rooms" "I", .fieldLink RX2 101 "LockQuest$Adventure" "level" "[I", .fieldLink RX2 104 "LockQuest$Adventure" "kind" "[I", .fieldLink RX2 98 "LockQuest$Adventure" "parent" "[I", .methodLink RX2 118 yX1_clearOffer, .instanceMethod yX1_clearOffer, .selects RX1 yX1_clearOffer yX1_clearOffer, .initialized RX1, .code yX1_clearOffer cX1_clearOffer 1 none, .fieldLink RX1 23 "LockQuest$Drawing" "count" "I", .methodLink RX2 121 yX1_offer, .instanceMethod yX1_offer, .selects RX1 yX1_offer yX1_offer, .code yX1_offer cX1_offer 2 none, .fieldLink RX1 9 "LockQuest$Drawing" "offered" "[I"] ++ wsX20 ++ wsX00 ++ wsX10)
def wsX5_smallKeyBit : List Cond := .code yX5_smallKeyBit cX5_smallKeyBit 1 (some .int) :: ([])
def wsX2_laySmallKeys_r1 : List Cond := [Cond.fieldLink RX2 22 "LockQuest$Maker" "made" "LLockQuest$Adventure;", Cond.fieldLink RX2 79 "LockQuest$Adventure" "lying" "[I", Cond.fieldLink RX2 12 "LockQuest$Maker" "drawing" "LLockQuest$Drawing;", Cond.methodLink RX2 143 yX2_offerOpenRooms, Cond.instanceMethod yX2_offerOpenRooms, Cond.selects RX2 yX2_offerOpenRooms yX2_offerOpenRooms, Cond.initialized RX2, Cond.code yX2_offerOpenRooms cX2_offerOpenRooms 2 none, Cond.fieldLink RX2 18 "LockQuest$Maker" "open" "[Z", Cond.fieldLink RX2 33 "LockQuest$Adventure" "rooms" "I", Cond.fieldLink RX2 101 "LockQuest$Adventure" "level" "[I", Cond.fieldLink RX2 104 "LockQuest$Adventure" "kind" "[I", Cond.fieldLink RX2 98 "LockQuest$Adventure" "parent" "[I", Cond.methodLink RX2 118 yX1_clearOffer, Cond.instanceMethod yX1_clearOffer, Cond.selects RX1 yX1_clearOffer yX1_clearOffer, Cond.initialized RX1, Cond.code yX1_clearOffer cX1_clearOffer 1 none, Cond.fieldLink RX1 23 "LockQuest$Drawing" "count" "I", Cond.methodLink RX2 121 yX1_offer, Cond.instanceMethod yX1_offer, Cond.selects RX1 yX1_offer yX1_offer, Cond.code yX1_offer cX1_offer 2 none, Cond.fieldLink RX1 9 "LockQuest$Drawing" "offered" "[I"]
def wsX2_laySmallKeys_r2 : List Cond := [Cond.methodLink RX2 63 yX1_offeredRoom, Cond.instanceMethod yX1_offeredRoom, Cond.selects RX1 yX1_offeredRoom yX1_offeredRoom, Cond.code yX1_offeredRoom cX1_offeredRoom 1 (some .int), Cond.methodLink RX1 27 yX1_number, Cond.instanceMethod yX1_number, Cond.selects RX1 yX1_number yX1_number, Cond.code yX1_number cX1_number 2 (some .int), Cond.fieldLink RX1 15 "LockQuest$Drawing" "state" "J", Cond.constantLong RX1 19 (6364136223846793005), Cond.constantLong RX1 21 (1442695040888963407), Cond.methodLink RX2 146 yX5_smallKeyBit, Cond.static yX5_smallKeyBit, Cond.initialized RX5, Cond.code yX5_smallKeyBit cX5_smallKeyBit 1 (some .int)]
def wsX2_laySmallKeys : List Cond := .code yX2_laySmallKeys cX2_laySmallKeys 3 none :: ((wsX2_laySmallKeys_r1 ++ wsX2_laySmallKeys_r2) ++ wsX20 ++ wsX00 ++ wsX10)
def wsX2_makeBarriers_r1 : List Cond := [Cond.fieldLink RX2 12 "LockQuest$Maker" "drawing" "LLockQuest$Drawing;", Cond.fieldLink RX2 22 "LockQuest$Maker" "made" "LLockQuest$Adventure;", Cond.fieldLink RX2 104 "LockQuest$Adventure" "kind" "[I", Cond.fieldLink RX2 92 "LockQuest$Adventure" "switched" "[Z", Cond.fieldLink RX2 98 "LockQuest$Adventure" "parent" "[I", Cond.methodLink RX2 133 yX2_offerPlainDoors, Cond.instanceMethod yX2_offerPlainDoors, Cond.selects RX2 yX2_offerPlainDoors yX2_offerPlainDoors, Cond.initialized RX2, Cond.code yX2_offerPlainDoors cX2_offerPlainDoors 2 none, Cond.fieldLink RX2 33 "LockQuest$Adventure" "rooms" "I", Cond.methodLink RX2 118 yX1_clearOffer, Cond.instanceMethod yX1_clearOffer, Cond.selects RX1 yX1_clearOffer yX1_clearOffer, Cond.initialized RX1, Cond.code yX1_clearOffer cX1_clearOffer 1 none, Cond.fieldLink RX1 23 "LockQuest$Drawing" "count" "I", Cond.methodLink RX2 121 yX1_offer, Cond.instanceMethod yX1_offer, Cond.selects RX1 yX1_offer yX1_offer, Cond.code yX1_offer cX1_offer 2 none, Cond.fieldLink RX1 9 "LockQuest$Drawing" "offered" "[I", Cond.methodLink RX2 136 yX1_hasOffer, Cond.instanceMethod yX1_hasOffer]
def wsX2_makeBarriers_r2 : List Cond := [Cond.selects RX1 yX1_hasOffer yX1_hasOffer, Cond.code yX1_hasOffer cX1_hasOffer 1 (some .boolean), Cond.methodLink RX2 63 yX1_offeredRoom, Cond.instanceMethod yX1_offeredRoom, Cond.selects RX1 yX1_offeredRoom yX1_offeredRoom, Cond.code yX1_offeredRoom cX1_offeredRoom 1 (some .int), Cond.methodLink RX1 27 yX1_number, Cond.instanceMethod yX1_number, Cond.selects RX1 yX1_number yX1_number, Cond.code yX1_number cX1_number 2 (some .int), Cond.fieldLink RX1 15 "LockQuest$Drawing" "state" "J", Cond.constantLong RX1 19 (6364136223846793005), Cond.constantLong RX1 21 (1442695040888963407), Cond.methodLink RX2 111 yX1_number]
def wsX2_makeBarriers : List Cond := .code yX2_makeBarriers cX2_makeBarriers 4 none :: ((wsX2_makeBarriers_r1 ++ wsX2_makeBarriers_r2) ++ wsX20 ++ wsX00 ++ wsX10)
def wsX2_isFree : List Cond := .code yX2_isFree cX2_isFree 5 (some .boolean) :: ([.fieldLink RX2 22 "LockQuest$Maker" "made" "LLockQuest$Adventure;", .fieldLink RX2 149 "LockQuest$Adventure" "x" "[I", .fieldLink RX2 152 "LockQuest$Adventure" "y" "[I"] ++ wsX20 ++ wsX00)
def wsX2_place : List Cond := .code yX2_place cX2_place 6 none :: ([.fieldLink RX2 22 "LockQuest$Maker" "made" "LLockQuest$Adventure;", .fieldLink RX2 149 "LockQuest$Adventure" "x" "[I", .fieldLink RX2 98 "LockQuest$Adventure" "parent" "[I", .fieldLink RX2 152 "LockQuest$Adventure" "y" "[I", .fieldLink RX2 158 "LockQuest$Maker" "EAST" "[I", .fieldLink RX2 161 "LockQuest$Maker" "NORTH" "[I", .methodLink RX2 164 yX2_isFree, .instanceMethod yX2_isFree, .selects RX2 yX2_isFree yX2_isFree, .initialized RX2, .code yX2_isFree cX2_isFree 5 (some .boolean)] ++ wsX20 ++ wsX00)
def wsX2_placeRooms_r1 : List Cond := [Cond.fieldLink RX2 22 "LockQuest$Maker" "made" "LLockQuest$Adventure;", Cond.fieldLink RX2 149 "LockQuest$Adventure" "x" "[I", Cond.fieldLink RX2 152 "LockQuest$Adventure" "y" "[I", Cond.fieldLink RX2 33 "LockQuest$Adventure" "rooms" "I", Cond.fieldLink RX2 12 "LockQuest$Maker" "drawing" "LLockQuest$Drawing;", Cond.methodLink RX2 111 yX1_number, Cond.instanceMethod yX1_number, Cond.selects RX1 yX1_number yX1_number, Cond.initialized RX1, Cond.code yX1_number cX1_number 2 (some .int), Cond.fieldLink RX1 15 "LockQuest$Drawing" "state" "J", Cond.constantLong RX1 19 (6364136223846793005), Cond.constantLong RX1 21 (1442695040888963407), Cond.methodLink RX2 155 yX2_place, Cond.instanceMethod yX2_place, Cond.selects RX2 yX2_place yX2_place, Cond.initialized RX2, Cond.code yX2_place cX2_place 6 none, Cond.fieldLink RX2 98 "LockQuest$Adventure" "parent" "[I", Cond.fieldLink RX2 158 "LockQuest$Maker" "EAST" "[I", Cond.fieldLink RX2 161 "LockQuest$Maker" "NORTH" "[I", Cond.methodLink RX2 164 yX2_isFree, Cond.instanceMethod yX2_isFree, Cond.selects RX2 yX2_isFree yX2_isFree]
def wsX2_placeRooms_r2 : List Cond := [Cond.code yX2_isFree cX2_isFree 5 (some .boolean)]
def wsX2_placeRooms : List Cond := .code yX2_placeRooms cX2_placeRooms 2 none :: ((wsX2_placeRooms_r1 ++ wsX2_placeRooms_r2) ++ wsX20 ++ wsX00 ++ wsX10)
def wsX2_join : List Cond := .code yX2_join cX2_join 3 none :: ([.fieldLink RX2 22 "LockQuest$Maker" "made" "LLockQuest$Adventure;", .fieldLink RX2 178 "LockQuest$Adventure" "beyond" "[[I", .fieldLink RX2 89 "LockQuest$Adventure" "doors" "[I", .fieldLink RX2 95 "LockQuest$Adventure" "allDoors" "I"] ++ wsX20 ++ wsX00)
def wsX2_joinFamilies : List Cond := .code yX2_joinFamilies cX2_joinFamilies 2 none :: ([.fieldLink RX2 22 "LockQuest$Maker" "made" "LLockQuest$Adventure;", .fieldLink RX2 33 "LockQuest$Adventure" "rooms" "I", .fieldLink RX2 98 "LockQuest$Adventure" "parent" "[I", .methodLink RX2 167 yX2_join, .instanceMethod yX2_join, .selects RX2 yX2_join yX2_join, .initialized RX2, .code yX2_join cX2_join 3 none, .fieldLink RX2 178 "LockQuest$Adventure" "beyond" "[[I", .fieldLink RX2 89 "LockQuest$Adventure" "doors" "[I", .fieldLink RX2 95 "LockQuest$Adventure" "allDoors" "I"] ++ wsX20 ++ wsX00)
def wsX2_mayLoop : List Cond := .code yX2_mayLoop cX2_mayLoop 4 (some .boolean) :: ([.fieldLink RX2 22 "LockQuest$Maker" "made" "LLockQuest$Adventure;", .fieldLink RX2 149 "LockQuest$Adventure" "x" "[I", .methodLink RX2 173 Lib.Math.abs.name, .static Lib.Math.abs.name, .initialized "java/lang/Math", .code Lib.Math.abs.name Lib.Math.abs.code 1 (some .int), .fieldLink RX2 152 "LockQuest$Adventure" "y" "[I", .fieldLink RX2 101 "LockQuest$Adventure" "level" "[I", .fieldLink RX2 98 "LockQuest$Adventure" "parent" "[I"] ++ wsX20 ++ wsX00)
def wsX2_joinLoops_r1 : List Cond := [Cond.fieldLink RX2 22 "LockQuest$Maker" "made" "LLockQuest$Adventure;", Cond.fieldLink RX2 33 "LockQuest$Adventure" "rooms" "I", Cond.fieldLink RX2 12 "LockQuest$Maker" "drawing" "LLockQuest$Drawing;", Cond.methodLink RX2 170 yX2_mayLoop, Cond.instanceMethod yX2_mayLoop, Cond.selects RX2 yX2_mayLoop yX2_mayLoop, Cond.initialized RX2, Cond.code yX2_mayLoop cX2_mayLoop 4 (some .boolean), Cond.fieldLink RX2 149 "LockQuest$Adventure" "x" "[I", Cond.methodLink RX2 173 Lib.Math.abs.name, Cond.static Lib.Math.abs.name, Cond.initialized "java/lang/Math", Cond.code Lib.Math.abs.name Lib.Math.abs.code 1 (some .int), Cond.fieldLink RX2 152 "LockQuest$Adventure" "y" "[I", Cond.fieldLink RX2 101 "LockQuest$Adventure" "level" "[I", Cond.fieldLink RX2 98 "LockQuest$Adventure" "parent" "[I", Cond.methodLink RX2 111 yX1_number, Cond.instanceMethod yX1_number, Cond.selects RX1 yX1_number yX1_number, Cond.initialized RX1, Cond.code yX1_number cX1_number 2 (some .int), Cond.fieldLink RX1 15 "LockQuest$Drawing" "state" "J", Cond.constantLong RX1 19 (6364136223846793005), Cond.constantLong RX1 21 (1442695040888963407)]
def wsX2_joinLoops_r2 : List Cond := [Cond.methodLink RX2 167 yX2_join, Cond.instanceMethod yX2_join, Cond.selects RX2 yX2_join yX2_join, Cond.code yX2_join cX2_join 3 none, Cond.fieldLink RX2 178 "LockQuest$Adventure" "beyond" "[[I", Cond.fieldLink RX2 89 "LockQuest$Adventure" "doors" "[I", Cond.fieldLink RX2 95 "LockQuest$Adventure" "allDoors" "I"]
def wsX2_joinLoops : List Cond := .code yX2_joinLoops cX2_joinLoops 3 none :: ((wsX2_joinLoops_r1 ++ wsX2_joinLoops_r2) ++ wsX20 ++ wsX00 ++ wsX10)
def wsX2_build_r1 : List Cond := [Cond.fieldLink RX2 12 "LockQuest$Maker" "drawing" "LLockQuest$Drawing;", Cond.fieldLink RX2 22 "LockQuest$Maker" "made" "LLockQuest$Adventure;", Cond.fieldLink RX2 33 "LockQuest$Adventure" "rooms" "I", Cond.fieldLink RX2 39 "LockQuest$Adventure" "levels" "I", Cond.fieldLink RX2 67 "LockQuest$Adventure" "goalRoom" "I", Cond.methodLink RX2 26 yX1_begin, Cond.instanceMethod yX1_begin, Cond.selects RX1 yX1_begin yX1_begin, Cond.initialized RX1, Cond.code yX1_begin cX1_begin 3 none, Cond.fieldLink RX1 15 "LockQuest$Drawing" "state" "J", Cond.methodLink RX2 30 yX2_clear, Cond.instanceMethod yX2_clear, Cond.selects RX2 yX2_clear yX2_clear, Cond.initialized RX2, Cond.code yX2_clear cX2_clear 2 none, Cond.fieldLink RX2 79 "LockQuest$Adventure" "lying" "[I", Cond.fieldLink RX2 89 "LockQuest$Adventure" "doors" "[I", Cond.fieldLink RX2 92 "LockQuest$Adventure" "switched" "[Z", Cond.fieldLink RX2 95 "LockQuest$Adventure" "allDoors" "I", Cond.methodLink RX2 83 yJ7_fill_53178, Cond.static yJ7_fill_53178, Cond.initialized RJ7, Cond.code yJ7_fill_53178 cJ7_fill_53178 4 none]
def wsX2_build_r2 : List Cond := [Cond.methodLink RX2 42 yX2_addRooms, Cond.instanceMethod yX2_addRooms, Cond.selects RX2 yX2_addRooms yX2_addRooms, Cond.code yX2_addRooms cX2_addRooms 6 none, Cond.fieldLink RX2 98 "LockQuest$Adventure" "parent" "[I", Cond.fieldLink RX2 101 "LockQuest$Adventure" "level" "[I", Cond.fieldLink RX2 104 "LockQuest$Adventure" "kind" "[I", Cond.methodLink RX2 107 yX2_drawnBefore, Cond.instanceMethod yX2_drawnBefore, Cond.selects RX2 yX2_drawnBefore yX2_drawnBefore, Cond.code yX2_drawnBefore cX2_drawnBefore 4 (some .int), Cond.methodLink RX2 118 yX1_clearOffer, Cond.instanceMethod yX1_clearOffer, Cond.selects RX1 yX1_clearOffer yX1_clearOffer, Cond.code yX1_clearOffer cX1_clearOffer 1 none, Cond.fieldLink RX1 23 "LockQuest$Drawing" "count" "I", Cond.methodLink RX2 121 yX1_offer, Cond.instanceMethod yX1_offer, Cond.selects RX1 yX1_offer yX1_offer, Cond.code yX1_offer cX1_offer 2 none, Cond.fieldLink RX1 9 "LockQuest$Drawing" "offered" "[I", Cond.methodLink RX2 63 yX1_offeredRoom, Cond.instanceMethod yX1_offeredRoom, Cond.selects RX1 yX1_offeredRoom yX1_offeredRoom]
def wsX2_build_r3 : List Cond := [Cond.code yX1_offeredRoom cX1_offeredRoom 1 (some .int), Cond.methodLink RX1 27 yX1_number, Cond.instanceMethod yX1_number, Cond.selects RX1 yX1_number yX1_number, Cond.code yX1_number cX1_number 2 (some .int), Cond.constantLong RX1 19 (6364136223846793005), Cond.constantLong RX1 21 (1442695040888963407), Cond.methodLink RX2 111 yX1_number, Cond.methodLink RX2 114 yX2_mayRise, Cond.instanceMethod yX2_mayRise, Cond.selects RX2 yX2_mayRise yX2_mayRise, Cond.code yX2_mayRise cX2_mayRise 3 (some .boolean), Cond.methodLink RX2 45 yX2_layKeys, Cond.instanceMethod yX2_layKeys, Cond.selects RX2 yX2_layKeys yX2_layKeys, Cond.code yX2_layKeys cX2_layKeys 2 none, Cond.methodLink RX2 59 yX2_offerLevels, Cond.instanceMethod yX2_offerLevels, Cond.selects RX2 yX2_offerLevels yX2_offerLevels, Cond.code yX2_offerLevels cX2_offerLevels 4 none, Cond.static yX6_isWithin, Cond.initialized RX6, Cond.code yX6_isWithin cX6_isWithin 3 (some .boolean), Cond.methodLink RX2 128 yX5_keyBit]
def wsX2_build_r4 : List Cond := [Cond.static yX5_keyBit, Cond.initialized RX5, Cond.code yX5_keyBit cX5_keyBit 1 (some .int), Cond.methodLink RX2 48 yX2_makeSmallDoors, Cond.instanceMethod yX2_makeSmallDoors, Cond.selects RX2 yX2_makeSmallDoors yX2_makeSmallDoors, Cond.code yX2_makeSmallDoors cX2_makeSmallDoors 5 (some .int), Cond.fieldLink RX2 140 "LockQuest$Adventure" "smallNumber" "[I", Cond.methodLink RX2 133 yX2_offerPlainDoors, Cond.instanceMethod yX2_offerPlainDoors, Cond.selects RX2 yX2_offerPlainDoors yX2_offerPlainDoors, Cond.code yX2_offerPlainDoors cX2_offerPlainDoors 2 none, Cond.methodLink RX2 136 yX1_hasOffer, Cond.instanceMethod yX1_hasOffer, Cond.selects RX1 yX1_hasOffer yX1_hasOffer, Cond.code yX1_hasOffer cX1_hasOffer 1 (some .boolean), Cond.methodLink RX2 52 yX2_laySmallKeys, Cond.instanceMethod yX2_laySmallKeys, Cond.selects RX2 yX2_laySmallKeys yX2_laySmallKeys, Cond.code yX2_laySmallKeys cX2_laySmallKeys 3 none, Cond.methodLink RX2 143 yX2_offerOpenRooms, Cond.instanceMethod yX2_offerOpenRooms, Cond.selects RX2 yX2_offerOpenRooms yX2_offerOpenRooms, Cond.code yX2_offerOpenRooms cX2_offerOpenRooms 2 none]
def wsX2_build_r5 : List Cond := [Cond.fieldLink RX2 18 "LockQuest$Maker" "open" "[Z", Cond.methodLink RX2 146 yX5_smallKeyBit, Cond.static yX5_smallKeyBit, Cond.code yX5_smallKeyBit cX5_smallKeyBit 1 (some .int), Cond.methodLink RX2 56 yX2_makeBarriers, Cond.instanceMethod yX2_makeBarriers, Cond.selects RX2 yX2_makeBarriers yX2_makeBarriers, Cond.code yX2_makeBarriers cX2_makeBarriers 4 none, Cond.methodLink RX2 70 yX2_placeRooms, Cond.instanceMethod yX2_placeRooms, Cond.selects RX2 yX2_placeRooms yX2_placeRooms, Cond.code yX2_placeRooms cX2_placeRooms 2 none, Cond.fieldLink RX2 149 "LockQuest$Adventure" "x" "[I", Cond.fieldLink RX2 152 "LockQuest$Adventure" "y" "[I", Cond.methodLink RX2 155 yX2_place, Cond.instanceMethod yX2_place, Cond.selects RX2 yX2_place yX2_place, Cond.code yX2_place cX2_place 6 none, Cond.fieldLink RX2 158 "LockQuest$Maker" "EAST" "[I", Cond.fieldLink RX2 161 "LockQuest$Maker" "NORTH" "[I", Cond.methodLink RX2 164 yX2_isFree, Cond.instanceMethod yX2_isFree, Cond.selects RX2 yX2_isFree yX2_isFree, Cond.code yX2_isFree cX2_isFree 5 (some .boolean)]
def wsX2_build_r6 : List Cond := [Cond.methodLink RX2 73 yX2_joinFamilies, Cond.instanceMethod yX2_joinFamilies, Cond.selects RX2 yX2_joinFamilies yX2_joinFamilies, Cond.code yX2_joinFamilies cX2_joinFamilies 2 none, Cond.methodLink RX2 167 yX2_join, Cond.instanceMethod yX2_join, Cond.selects RX2 yX2_join yX2_join, Cond.code yX2_join cX2_join 3 none, Cond.fieldLink RX2 178 "LockQuest$Adventure" "beyond" "[[I", Cond.methodLink RX2 76 yX2_joinLoops, Cond.instanceMethod yX2_joinLoops, Cond.selects RX2 yX2_joinLoops yX2_joinLoops, Cond.code yX2_joinLoops cX2_joinLoops 3 none, Cond.methodLink RX2 170 yX2_mayLoop, Cond.instanceMethod yX2_mayLoop, Cond.selects RX2 yX2_mayLoop yX2_mayLoop, Cond.code yX2_mayLoop cX2_mayLoop 4 (some .boolean), Cond.methodLink RX2 173 Lib.Math.abs.name, Cond.static Lib.Math.abs.name, Cond.initialized "java/lang/Math", Cond.code Lib.Math.abs.name Lib.Math.abs.code 1 (some .int)]
def wsX2_build : List Cond := .code yX2_build cX2_build 7 none :: ((wsX2_build_r1 ++ (wsX2_build_r2 ++ (wsX2_build_r3 ++ (wsX2_build_r4 ++ (wsX2_build_r5 ++ wsX2_build_r6))))) ++ wsX20 ++ wsX00 ++ wsX10)
def wsX3_init : List Cond := .code yX3_init cX3_init 1 none :: ([.methodLink RX3 1 objectInit, .instanceMethod objectInit, .code objectInit ⟨#[0xb1]⟩ 1 none, .arrayClass .long, .fieldLink RX3 9 "LockQuest$Marks" "bits" "[J"] ++ wsX30)
def wsJ7_fill_d0a16 : List Cond := .code yJ7_fill_d0a16 cJ7_fill_d0a16 5 none :: ([])
def wsX3_clear : List Cond := .code yX3_clear cX3_clear 1 none :: ([.fieldLink RX3 9 "LockQuest$Marks" "bits" "[J", .methodLink RX3 15 yJ7_fill_d0a16, .static yJ7_fill_d0a16, .initialized RJ7, .code yJ7_fill_d0a16 cJ7_fill_d0a16 5 none] ++ wsX30)
def wsX3_has : List Cond := .code yX3_has cX3_has 2 (some .boolean) :: ([.fieldLink RX3 9 "LockQuest$Marks" "bits" "[J"] ++ wsX30)
def wsX3_add : List Cond := .code yX3_add cX3_add 2 none :: ([.fieldLink RX3 9 "LockQuest$Marks" "bits" "[J"] ++ wsX30)
def wsX4_init : List Cond := .code yX4_init cX4_init 2 none :: ([.methodLink RX4 3 objectInit, .instanceMethod objectInit, .code objectInit ⟨#[0xb1]⟩ 1 none, .classLink RX4 9 RX3, .instantiable RX3 1, .initialized RX3, .fieldLink RX4 12 "LockQuest$Search" "seen" "LLockQuest$Marks;", .fieldLink RX4 18 "LockQuest$Search" "saved" "LLockQuest$Marks;", .arrayClass .int, .fieldLink RX4 23 "LockQuest$Search" "found" "[I", .fieldLink RX4 27 "LockQuest$Search" "distance" "[I", .fieldLink RX4 30 "LockQuest$Search" "opening" "[I", .fieldLink RX4 33 "LockQuest$Search" "adventure" "LLockQuest$Adventure;", .instanceMethod yX3_init, .code yX3_init cX3_init 1 none, .methodLink RX3 1 objectInit, .arrayClass .long, .fieldLink RX3 9 "LockQuest$Marks" "bits" "[J"] ++ wsX30 ++ wsX40)
def wsX4_begin : List Cond := .code yX4_begin cX4_begin 2 none :: ([.fieldLink RX4 12 "LockQuest$Search" "seen" "LLockQuest$Marks;", .fieldLink RX4 23 "LockQuest$Search" "found" "[I", .fieldLink RX4 27 "LockQuest$Search" "distance" "[I", .fieldLink RX4 41 "LockQuest$Search" "count" "I", .methodLink RX4 52 yX3_clear, .instanceMethod yX3_clear, .selects RX3 yX3_clear yX3_clear, .initialized RX3, .code yX3_clear cX3_clear 1 none, .fieldLink RX3 9 "LockQuest$Marks" "bits" "[J", .methodLink RX3 15 yJ7_fill_d0a16, .static yJ7_fill_d0a16, .initialized RJ7, .code yJ7_fill_d0a16 cJ7_fill_d0a16 5 none, .methodLink RX4 61 yX3_add, .instanceMethod yX3_add, .selects RX3 yX3_add yX3_add, .code yX3_add cX3_add 2 none] ++ wsX40 ++ wsX30)
def wsX4_isAtGoal : List Cond := .code yX4_isAtGoal cX4_isAtGoal 2 (some .boolean) :: ([.fieldLink RX4 33 "LockQuest$Search" "adventure" "LLockQuest$Adventure;", .fieldLink RX4 87 "LockQuest$Adventure" "goalRoom" "I", .methodLink RX4 69 yX5_roomOf, .static yX5_roomOf, .initialized RX5, .code yX5_roomOf cX5_roomOf 1 (some .int)] ++ wsX40 ++ wsX00)
def wsX4_reach : List Cond := .code yX4_reach cX4_reach 4 none :: ([.fieldLink RX4 12 "LockQuest$Search" "seen" "LLockQuest$Marks;", .fieldLink RX4 41 "LockQuest$Search" "count" "I", .fieldLink RX4 23 "LockQuest$Search" "found" "[I", .fieldLink RX4 27 "LockQuest$Search" "distance" "[I", .fieldLink RX4 30 "LockQuest$Search" "opening" "[I", .methodLink RX4 55 yX3_has, .instanceMethod yX3_has, .selects RX3 yX3_has yX3_has, .initialized RX3, .code yX3_has cX3_has 2 (some .boolean), .fieldLink RX3 9 "LockQuest$Marks" "bits" "[J", .methodLink RX4 61 yX3_add, .instanceMethod yX3_add, .selects RX3 yX3_add yX3_add, .code yX3_add cX3_add 2 none] ++ wsX40 ++ wsX30)
def wsX4_goOn_r1 : List Cond := [Cond.fieldLink RX4 23 "LockQuest$Search" "found" "[I", Cond.fieldLink RX4 33 "LockQuest$Search" "adventure" "LLockQuest$Adventure;", Cond.fieldLink RX4 64 "LockQuest$Adventure" "doors" "[I", Cond.methodLink RX4 69 yX5_roomOf, Cond.static yX5_roomOf, Cond.initialized RX5, Cond.code yX5_roomOf cX5_roomOf 1 (some .int), Cond.methodLink RX4 73 yX0_afterWalking, Cond.instanceMethod yX0_afterWalking, Cond.selects RX0 yX0_afterWalking yX0_afterWalking, Cond.initialized RX0, Cond.code yX0_afterWalking cX0_afterWalking 7 (some .int), Cond.fieldLink RX0 42 "LockQuest$Adventure" "beyond" "[[I", Cond.fieldLink RX0 18 "LockQuest$Adventure" "kind" "[I", Cond.fieldLink RX0 21 "LockQuest$Adventure" "smallNumber" "[I", Cond.methodLink RX0 53 yX5_roomOf, Cond.methodLink RX0 59 yX0_hasDoor, Cond.instanceMethod yX0_hasDoor, Cond.selects RX0 yX0_hasDoor yX0_hasDoor, Cond.code yX0_hasDoor cX0_hasDoor 3 (some .boolean), Cond.fieldLink RX0 37 "LockQuest$Adventure" "doors" "[I", Cond.methodLink RX0 49 yX0_hasRoom, Cond.instanceMethod yX0_hasRoom, Cond.selects RX0 yX0_hasRoom yX0_hasRoom]
def wsX4_goOn_r2 : List Cond := [Cond.code yX0_hasRoom cX0_hasRoom 2 (some .boolean), Cond.fieldLink RX0 45 "LockQuest$Adventure" "rooms" "I", Cond.methodLink RX0 63 yX0_doorOwner, Cond.instanceMethod yX0_doorOwner, Cond.selects RX0 yX0_doorOwner yX0_doorOwner, Cond.code yX0_doorOwner cX0_doorOwner 3 (some .int), Cond.fieldLink RX0 9 "LockQuest$Adventure" "parent" "[I", Cond.methodLink RX0 67 yX0_opens, Cond.instanceMethod yX0_opens, Cond.selects RX0 yX0_opens yX0_opens, Cond.code yX0_opens cX0_opens 3 (some .boolean), Cond.fieldLink RX0 15 "LockQuest$Adventure" "level" "[I", Cond.methodLink RX0 79 yX5_hasKey, Cond.static yX5_hasKey, Cond.code yX5_hasKey cX5_hasKey 2 (some .boolean), Cond.methodLink RX5 17 yX5_keyBit, Cond.static yX5_keyBit, Cond.code yX5_keyBit cX5_keyBit 1 (some .int), Cond.methodLink RX0 82 yX5_hasOpened, Cond.static yX5_hasOpened, Cond.code yX5_hasOpened cX5_hasOpened 2 (some .boolean), Cond.methodLink RX5 20 yX5_openedBit, Cond.static yX5_openedBit, Cond.code yX5_openedBit cX5_openedBit 1 (some .int)]
def wsX4_goOn_r3 : List Cond := [Cond.methodLink RX0 85 yX5_smallKeysLeft, Cond.static yX5_smallKeysLeft, Cond.code yX5_smallKeysLeft cX5_smallKeysLeft 1 (some .int), Cond.methodLink RX5 11 yJ6_bitCount_0f7a4, Cond.static yJ6_bitCount_0f7a4, Cond.initialized RJ6, Cond.code yJ6_bitCount_0f7a4 cJ6_bitCount_0f7a4 1 (some .int), Cond.constant RJ6 265 (1431655765), Cond.constant RJ6 266 (858993459), Cond.constant RJ6 267 (252645135), Cond.methodLink RX0 88 yX5_positionOf, Cond.static yX5_positionOf, Cond.code yX5_positionOf cX5_positionOf 1 (some .int), Cond.methodLink RX0 70 yX5_inRoom, Cond.static yX5_inRoom, Cond.code yX5_inRoom cX5_inRoom 2 (some .int), Cond.methodLink RX0 73 yX5_openedBit, Cond.methodLink RX4 77 yX4_reach, Cond.instanceMethod yX4_reach, Cond.selects RX4 yX4_reach yX4_reach, Cond.initialized RX4, Cond.code yX4_reach cX4_reach 4 none, Cond.fieldLink RX4 12 "LockQuest$Search" "seen" "LLockQuest$Marks;", Cond.fieldLink RX4 41 "LockQuest$Search" "count" "I"]
def wsX4_goOn_r4 : List Cond := [Cond.fieldLink RX4 27 "LockQuest$Search" "distance" "[I", Cond.fieldLink RX4 30 "LockQuest$Search" "opening" "[I", Cond.methodLink RX4 55 yX3_has, Cond.instanceMethod yX3_has, Cond.selects RX3 yX3_has yX3_has, Cond.initialized RX3, Cond.code yX3_has cX3_has 2 (some .boolean), Cond.fieldLink RX3 9 "LockQuest$Marks" "bits" "[J", Cond.methodLink RX4 61 yX3_add, Cond.instanceMethod yX3_add, Cond.selects RX3 yX3_add yX3_add, Cond.code yX3_add cX3_add 2 none, Cond.methodLink RX4 81 yX0_afterTaking, Cond.instanceMethod yX0_afterTaking, Cond.selects RX0 yX0_afterTaking yX0_afterTaking, Cond.code yX0_afterTaking cX0_afterTaking 2 (some .int), Cond.fieldLink RX0 30 "LockQuest$Adventure" "lying" "[I", Cond.methodLink RX4 84 yX0_afterToggling, Cond.instanceMethod yX0_afterToggling, Cond.selects RX0 yX0_afterToggling yX0_afterToggling, Cond.code yX0_afterToggling cX0_afterToggling 2 (some .int), Cond.fieldLink RX0 33 "LockQuest$Adventure" "switched" "[Z", Cond.methodLink RX0 76 yX5_toggled, Cond.static yX5_toggled]
def wsX4_goOn_r5 : List Cond := [Cond.code yX5_toggled cX5_toggled 1 (some .int)]
def wsX4_goOn : List Cond := .code yX4_goOn cX4_goOn 5 none :: ((wsX4_goOn_r1 ++ (wsX4_goOn_r2 ++ (wsX4_goOn_r3 ++ (wsX4_goOn_r4 ++ wsX4_goOn_r5)))) ++ wsX40 ++ wsX00 ++ wsX30)
def wsX4_findGoal_r1 : List Cond := [Cond.fieldLink RX4 41 "LockQuest$Search" "count" "I", Cond.fieldLink RX4 23 "LockQuest$Search" "found" "[I", Cond.methodLink RX4 37 yX4_begin, Cond.instanceMethod yX4_begin, Cond.selects RX4 yX4_begin yX4_begin, Cond.initialized RX4, Cond.code yX4_begin cX4_begin 2 none, Cond.fieldLink RX4 12 "LockQuest$Search" "seen" "LLockQuest$Marks;", Cond.fieldLink RX4 27 "LockQuest$Search" "distance" "[I", Cond.methodLink RX4 52 yX3_clear, Cond.instanceMethod yX3_clear, Cond.selects RX3 yX3_clear yX3_clear, Cond.initialized RX3, Cond.code yX3_clear cX3_clear 1 none, Cond.fieldLink RX3 9 "LockQuest$Marks" "bits" "[J", Cond.methodLink RX3 15 yJ7_fill_d0a16, Cond.static yJ7_fill_d0a16, Cond.initialized RJ7, Cond.code yJ7_fill_d0a16 cJ7_fill_d0a16 5 none, Cond.methodLink RX4 61 yX3_add, Cond.instanceMethod yX3_add, Cond.selects RX3 yX3_add yX3_add, Cond.code yX3_add cX3_add 2 none, Cond.methodLink RX4 45 yX4_isAtGoal]
def wsX4_findGoal_r2 : List Cond := [Cond.instanceMethod yX4_isAtGoal, Cond.selects RX4 yX4_isAtGoal yX4_isAtGoal, Cond.code yX4_isAtGoal cX4_isAtGoal 2 (some .boolean), Cond.fieldLink RX4 33 "LockQuest$Search" "adventure" "LLockQuest$Adventure;", Cond.fieldLink RX4 87 "LockQuest$Adventure" "goalRoom" "I", Cond.methodLink RX4 69 yX5_roomOf, Cond.static yX5_roomOf, Cond.initialized RX5, Cond.code yX5_roomOf cX5_roomOf 1 (some .int), Cond.methodLink RX4 49 yX4_goOn, Cond.instanceMethod yX4_goOn, Cond.selects RX4 yX4_goOn yX4_goOn, Cond.code yX4_goOn cX4_goOn 5 none, Cond.fieldLink RX4 64 "LockQuest$Adventure" "doors" "[I", Cond.methodLink RX4 73 yX0_afterWalking, Cond.instanceMethod yX0_afterWalking, Cond.selects RX0 yX0_afterWalking yX0_afterWalking, Cond.initialized RX0, Cond.code yX0_afterWalking cX0_afterWalking 7 (some .int), Cond.fieldLink RX0 42 "LockQuest$Adventure" "beyond" "[[I", Cond.fieldLink RX0 18 "LockQuest$Adventure" "kind" "[I", Cond.fieldLink RX0 21 "LockQuest$Adventure" "smallNumber" "[I", Cond.methodLink RX0 53 yX5_roomOf, Cond.methodLink RX0 59 yX0_hasDoor]
def wsX4_findGoal_r3 : List Cond := [Cond.instanceMethod yX0_hasDoor, Cond.selects RX0 yX0_hasDoor yX0_hasDoor, Cond.code yX0_hasDoor cX0_hasDoor 3 (some .boolean), Cond.fieldLink RX0 37 "LockQuest$Adventure" "doors" "[I", Cond.methodLink RX0 49 yX0_hasRoom, Cond.instanceMethod yX0_hasRoom, Cond.selects RX0 yX0_hasRoom yX0_hasRoom, Cond.code yX0_hasRoom cX0_hasRoom 2 (some .boolean), Cond.fieldLink RX0 45 "LockQuest$Adventure" "rooms" "I", Cond.methodLink RX0 63 yX0_doorOwner, Cond.instanceMethod yX0_doorOwner, Cond.selects RX0 yX0_doorOwner yX0_doorOwner, Cond.code yX0_doorOwner cX0_doorOwner 3 (some .int), Cond.fieldLink RX0 9 "LockQuest$Adventure" "parent" "[I", Cond.methodLink RX0 67 yX0_opens, Cond.instanceMethod yX0_opens, Cond.selects RX0 yX0_opens yX0_opens, Cond.code yX0_opens cX0_opens 3 (some .boolean), Cond.fieldLink RX0 15 "LockQuest$Adventure" "level" "[I", Cond.methodLink RX0 79 yX5_hasKey, Cond.static yX5_hasKey, Cond.code yX5_hasKey cX5_hasKey 2 (some .boolean), Cond.methodLink RX5 17 yX5_keyBit, Cond.static yX5_keyBit]
def wsX4_findGoal_r4 : List Cond := [Cond.code yX5_keyBit cX5_keyBit 1 (some .int), Cond.methodLink RX0 82 yX5_hasOpened, Cond.static yX5_hasOpened, Cond.code yX5_hasOpened cX5_hasOpened 2 (some .boolean), Cond.methodLink RX5 20 yX5_openedBit, Cond.static yX5_openedBit, Cond.code yX5_openedBit cX5_openedBit 1 (some .int), Cond.methodLink RX0 85 yX5_smallKeysLeft, Cond.static yX5_smallKeysLeft, Cond.code yX5_smallKeysLeft cX5_smallKeysLeft 1 (some .int), Cond.methodLink RX5 11 yJ6_bitCount_0f7a4, Cond.static yJ6_bitCount_0f7a4, Cond.initialized RJ6, Cond.code yJ6_bitCount_0f7a4 cJ6_bitCount_0f7a4 1 (some .int), Cond.constant RJ6 265 (1431655765), Cond.constant RJ6 266 (858993459), Cond.constant RJ6 267 (252645135), Cond.methodLink RX0 88 yX5_positionOf, Cond.static yX5_positionOf, Cond.code yX5_positionOf cX5_positionOf 1 (some .int), Cond.methodLink RX0 70 yX5_inRoom, Cond.static yX5_inRoom, Cond.code yX5_inRoom cX5_inRoom 2 (some .int), Cond.methodLink RX0 73 yX5_openedBit]
def wsX4_findGoal_r5 : List Cond := [Cond.methodLink RX4 77 yX4_reach, Cond.instanceMethod yX4_reach, Cond.selects RX4 yX4_reach yX4_reach, Cond.code yX4_reach cX4_reach 4 none, Cond.fieldLink RX4 30 "LockQuest$Search" "opening" "[I", Cond.methodLink RX4 55 yX3_has, Cond.instanceMethod yX3_has, Cond.selects RX3 yX3_has yX3_has, Cond.code yX3_has cX3_has 2 (some .boolean), Cond.methodLink RX4 81 yX0_afterTaking, Cond.instanceMethod yX0_afterTaking, Cond.selects RX0 yX0_afterTaking yX0_afterTaking, Cond.code yX0_afterTaking cX0_afterTaking 2 (some .int), Cond.fieldLink RX0 30 "LockQuest$Adventure" "lying" "[I", Cond.methodLink RX4 84 yX0_afterToggling, Cond.instanceMethod yX0_afterToggling, Cond.selects RX0 yX0_afterToggling yX0_afterToggling, Cond.code yX0_afterToggling cX0_afterToggling 2 (some .int), Cond.fieldLink RX0 33 "LockQuest$Adventure" "switched" "[Z", Cond.methodLink RX0 76 yX5_toggled, Cond.static yX5_toggled, Cond.code yX5_toggled cX5_toggled 1 (some .int)]
def wsX4_findGoal : List Cond := .code yX4_findGoal cX4_findGoal 3 (some .int) :: ((wsX4_findGoal_r1 ++ (wsX4_findGoal_r2 ++ (wsX4_findGoal_r3 ++ (wsX4_findGoal_r4 ++ wsX4_findGoal_r5)))) ++ wsX40 ++ wsX30 ++ wsX00)
def wsX4_findAll_r1 : List Cond := [Cond.fieldLink RX4 41 "LockQuest$Search" "count" "I", Cond.methodLink RX4 37 yX4_begin, Cond.instanceMethod yX4_begin, Cond.selects RX4 yX4_begin yX4_begin, Cond.initialized RX4, Cond.code yX4_begin cX4_begin 2 none, Cond.fieldLink RX4 12 "LockQuest$Search" "seen" "LLockQuest$Marks;", Cond.fieldLink RX4 23 "LockQuest$Search" "found" "[I", Cond.fieldLink RX4 27 "LockQuest$Search" "distance" "[I", Cond.methodLink RX4 52 yX3_clear, Cond.instanceMethod yX3_clear, Cond.selects RX3 yX3_clear yX3_clear, Cond.initialized RX3, Cond.code yX3_clear cX3_clear 1 none, Cond.fieldLink RX3 9 "LockQuest$Marks" "bits" "[J", Cond.methodLink RX3 15 yJ7_fill_d0a16, Cond.static yJ7_fill_d0a16, Cond.initialized RJ7, Cond.code yJ7_fill_d0a16 cJ7_fill_d0a16 5 none, Cond.methodLink RX4 61 yX3_add, Cond.instanceMethod yX3_add, Cond.selects RX3 yX3_add yX3_add, Cond.code yX3_add cX3_add 2 none, Cond.methodLink RX4 49 yX4_goOn]
def wsX4_findAll_r2 : List Cond := [Cond.instanceMethod yX4_goOn, Cond.selects RX4 yX4_goOn yX4_goOn, Cond.code yX4_goOn cX4_goOn 5 none, Cond.fieldLink RX4 33 "LockQuest$Search" "adventure" "LLockQuest$Adventure;", Cond.fieldLink RX4 64 "LockQuest$Adventure" "doors" "[I", Cond.methodLink RX4 69 yX5_roomOf, Cond.static yX5_roomOf, Cond.initialized RX5, Cond.code yX5_roomOf cX5_roomOf 1 (some .int), Cond.methodLink RX4 73 yX0_afterWalking, Cond.instanceMethod yX0_afterWalking, Cond.selects RX0 yX0_afterWalking yX0_afterWalking, Cond.initialized RX0, Cond.code yX0_afterWalking cX0_afterWalking 7 (some .int), Cond.fieldLink RX0 42 "LockQuest$Adventure" "beyond" "[[I", Cond.fieldLink RX0 18 "LockQuest$Adventure" "kind" "[I", Cond.fieldLink RX0 21 "LockQuest$Adventure" "smallNumber" "[I", Cond.methodLink RX0 53 yX5_roomOf, Cond.methodLink RX0 59 yX0_hasDoor, Cond.instanceMethod yX0_hasDoor, Cond.selects RX0 yX0_hasDoor yX0_hasDoor, Cond.code yX0_hasDoor cX0_hasDoor 3 (some .boolean), Cond.fieldLink RX0 37 "LockQuest$Adventure" "doors" "[I", Cond.methodLink RX0 49 yX0_hasRoom]
def wsX4_findAll_r3 : List Cond := [Cond.instanceMethod yX0_hasRoom, Cond.selects RX0 yX0_hasRoom yX0_hasRoom, Cond.code yX0_hasRoom cX0_hasRoom 2 (some .boolean), Cond.fieldLink RX0 45 "LockQuest$Adventure" "rooms" "I", Cond.methodLink RX0 63 yX0_doorOwner, Cond.instanceMethod yX0_doorOwner, Cond.selects RX0 yX0_doorOwner yX0_doorOwner, Cond.code yX0_doorOwner cX0_doorOwner 3 (some .int), Cond.fieldLink RX0 9 "LockQuest$Adventure" "parent" "[I", Cond.methodLink RX0 67 yX0_opens, Cond.instanceMethod yX0_opens, Cond.selects RX0 yX0_opens yX0_opens, Cond.code yX0_opens cX0_opens 3 (some .boolean), Cond.fieldLink RX0 15 "LockQuest$Adventure" "level" "[I", Cond.methodLink RX0 79 yX5_hasKey, Cond.static yX5_hasKey, Cond.code yX5_hasKey cX5_hasKey 2 (some .boolean), Cond.methodLink RX5 17 yX5_keyBit, Cond.static yX5_keyBit, Cond.code yX5_keyBit cX5_keyBit 1 (some .int), Cond.methodLink RX0 82 yX5_hasOpened, Cond.static yX5_hasOpened, Cond.code yX5_hasOpened cX5_hasOpened 2 (some .boolean), Cond.methodLink RX5 20 yX5_openedBit]
def wsX4_findAll_r4 : List Cond := [Cond.static yX5_openedBit, Cond.code yX5_openedBit cX5_openedBit 1 (some .int), Cond.methodLink RX0 85 yX5_smallKeysLeft, Cond.static yX5_smallKeysLeft, Cond.code yX5_smallKeysLeft cX5_smallKeysLeft 1 (some .int), Cond.methodLink RX5 11 yJ6_bitCount_0f7a4, Cond.static yJ6_bitCount_0f7a4, Cond.initialized RJ6, Cond.code yJ6_bitCount_0f7a4 cJ6_bitCount_0f7a4 1 (some .int), Cond.constant RJ6 265 (1431655765), Cond.constant RJ6 266 (858993459), Cond.constant RJ6 267 (252645135), Cond.methodLink RX0 88 yX5_positionOf, Cond.static yX5_positionOf, Cond.code yX5_positionOf cX5_positionOf 1 (some .int), Cond.methodLink RX0 70 yX5_inRoom, Cond.static yX5_inRoom, Cond.code yX5_inRoom cX5_inRoom 2 (some .int), Cond.methodLink RX0 73 yX5_openedBit, Cond.methodLink RX4 77 yX4_reach, Cond.instanceMethod yX4_reach, Cond.selects RX4 yX4_reach yX4_reach, Cond.code yX4_reach cX4_reach 4 none, Cond.fieldLink RX4 30 "LockQuest$Search" "opening" "[I"]
def wsX4_findAll_r5 : List Cond := [Cond.methodLink RX4 55 yX3_has, Cond.instanceMethod yX3_has, Cond.selects RX3 yX3_has yX3_has, Cond.code yX3_has cX3_has 2 (some .boolean), Cond.methodLink RX4 81 yX0_afterTaking, Cond.instanceMethod yX0_afterTaking, Cond.selects RX0 yX0_afterTaking yX0_afterTaking, Cond.code yX0_afterTaking cX0_afterTaking 2 (some .int), Cond.fieldLink RX0 30 "LockQuest$Adventure" "lying" "[I", Cond.methodLink RX4 84 yX0_afterToggling, Cond.instanceMethod yX0_afterToggling, Cond.selects RX0 yX0_afterToggling yX0_afterToggling, Cond.code yX0_afterToggling cX0_afterToggling 2 (some .int), Cond.fieldLink RX0 33 "LockQuest$Adventure" "switched" "[Z", Cond.methodLink RX0 76 yX5_toggled, Cond.static yX5_toggled, Cond.code yX5_toggled cX5_toggled 1 (some .int)]
def wsX4_findAll : List Cond := .code yX4_findAll cX4_findAll 3 none :: ((wsX4_findAll_r1 ++ (wsX4_findAll_r2 ++ (wsX4_findAll_r3 ++ (wsX4_findAll_r4 ++ wsX4_findAll_r5)))) ++ wsX40 ++ wsX30 ++ wsX00)
def wsX4_isSaved : List Cond := .code yX4_isSaved cX4_isSaved 2 (some .boolean) :: ([.fieldLink RX4 18 "LockQuest$Search" "saved" "LLockQuest$Marks;", .methodLink RX4 55 yX3_has, .instanceMethod yX3_has, .selects RX3 yX3_has yX3_has, .initialized RX3, .code yX3_has cX3_has 2 (some .boolean), .fieldLink RX3 9 "LockQuest$Marks" "bits" "[J"] ++ wsX40 ++ wsX30)
def wsX4_leadsToSaved_r1 : List Cond := [Cond.fieldLink RX4 33 "LockQuest$Search" "adventure" "LLockQuest$Adventure;", Cond.fieldLink RX4 64 "LockQuest$Adventure" "doors" "[I", Cond.methodLink RX4 69 yX5_roomOf, Cond.static yX5_roomOf, Cond.initialized RX5, Cond.code yX5_roomOf cX5_roomOf 1 (some .int), Cond.methodLink RX4 73 yX0_afterWalking, Cond.instanceMethod yX0_afterWalking, Cond.selects RX0 yX0_afterWalking yX0_afterWalking, Cond.initialized RX0, Cond.code yX0_afterWalking cX0_afterWalking 7 (some .int), Cond.fieldLink RX0 42 "LockQuest$Adventure" "beyond" "[[I", Cond.fieldLink RX0 18 "LockQuest$Adventure" "kind" "[I", Cond.fieldLink RX0 21 "LockQuest$Adventure" "smallNumber" "[I", Cond.methodLink RX0 53 yX5_roomOf, Cond.methodLink RX0 59 yX0_hasDoor, Cond.instanceMethod yX0_hasDoor, Cond.selects RX0 yX0_hasDoor yX0_hasDoor, Cond.code yX0_hasDoor cX0_hasDoor 3 (some .boolean), Cond.fieldLink RX0 37 "LockQuest$Adventure" "doors" "[I", Cond.methodLink RX0 49 yX0_hasRoom, Cond.instanceMethod yX0_hasRoom, Cond.selects RX0 yX0_hasRoom yX0_hasRoom, Cond.code yX0_hasRoom cX0_hasRoom 2 (some .boolean)]
def wsX4_leadsToSaved_r2 : List Cond := [Cond.fieldLink RX0 45 "LockQuest$Adventure" "rooms" "I", Cond.methodLink RX0 63 yX0_doorOwner, Cond.instanceMethod yX0_doorOwner, Cond.selects RX0 yX0_doorOwner yX0_doorOwner, Cond.code yX0_doorOwner cX0_doorOwner 3 (some .int), Cond.fieldLink RX0 9 "LockQuest$Adventure" "parent" "[I", Cond.methodLink RX0 67 yX0_opens, Cond.instanceMethod yX0_opens, Cond.selects RX0 yX0_opens yX0_opens, Cond.code yX0_opens cX0_opens 3 (some .boolean), Cond.fieldLink RX0 15 "LockQuest$Adventure" "level" "[I", Cond.methodLink RX0 79 yX5_hasKey, Cond.static yX5_hasKey, Cond.code yX5_hasKey cX5_hasKey 2 (some .boolean), Cond.methodLink RX5 17 yX5_keyBit, Cond.static yX5_keyBit, Cond.code yX5_keyBit cX5_keyBit 1 (some .int), Cond.methodLink RX0 82 yX5_hasOpened, Cond.static yX5_hasOpened, Cond.code yX5_hasOpened cX5_hasOpened 2 (some .boolean), Cond.methodLink RX5 20 yX5_openedBit, Cond.static yX5_openedBit, Cond.code yX5_openedBit cX5_openedBit 1 (some .int), Cond.methodLink RX0 85 yX5_smallKeysLeft]
def wsX4_leadsToSaved_r3 : List Cond := [Cond.static yX5_smallKeysLeft, Cond.code yX5_smallKeysLeft cX5_smallKeysLeft 1 (some .int), Cond.methodLink RX5 11 yJ6_bitCount_0f7a4, Cond.static yJ6_bitCount_0f7a4, Cond.initialized RJ6, Cond.code yJ6_bitCount_0f7a4 cJ6_bitCount_0f7a4 1 (some .int), Cond.constant RJ6 265 (1431655765), Cond.constant RJ6 266 (858993459), Cond.constant RJ6 267 (252645135), Cond.methodLink RX0 88 yX5_positionOf, Cond.static yX5_positionOf, Cond.code yX5_positionOf cX5_positionOf 1 (some .int), Cond.methodLink RX0 70 yX5_inRoom, Cond.static yX5_inRoom, Cond.code yX5_inRoom cX5_inRoom 2 (some .int), Cond.methodLink RX0 73 yX5_openedBit, Cond.methodLink RX4 90 yX4_isSaved, Cond.instanceMethod yX4_isSaved, Cond.selects RX4 yX4_isSaved yX4_isSaved, Cond.initialized RX4, Cond.code yX4_isSaved cX4_isSaved 2 (some .boolean), Cond.fieldLink RX4 18 "LockQuest$Search" "saved" "LLockQuest$Marks;", Cond.methodLink RX4 55 yX3_has, Cond.instanceMethod yX3_has]
def wsX4_leadsToSaved_r4 : List Cond := [Cond.selects RX3 yX3_has yX3_has, Cond.initialized RX3, Cond.code yX3_has cX3_has 2 (some .boolean), Cond.fieldLink RX3 9 "LockQuest$Marks" "bits" "[J", Cond.methodLink RX4 81 yX0_afterTaking, Cond.instanceMethod yX0_afterTaking, Cond.selects RX0 yX0_afterTaking yX0_afterTaking, Cond.code yX0_afterTaking cX0_afterTaking 2 (some .int), Cond.fieldLink RX0 30 "LockQuest$Adventure" "lying" "[I", Cond.methodLink RX4 84 yX0_afterToggling, Cond.instanceMethod yX0_afterToggling, Cond.selects RX0 yX0_afterToggling yX0_afterToggling, Cond.code yX0_afterToggling cX0_afterToggling 2 (some .int), Cond.fieldLink RX0 33 "LockQuest$Adventure" "switched" "[Z", Cond.methodLink RX0 76 yX5_toggled, Cond.static yX5_toggled, Cond.code yX5_toggled cX5_toggled 1 (some .int)]
def wsX4_leadsToSaved : List Cond := .code yX4_leadsToSaved cX4_leadsToSaved 4 (some .boolean) :: ((wsX4_leadsToSaved_r1 ++ (wsX4_leadsToSaved_r2 ++ (wsX4_leadsToSaved_r3 ++ wsX4_leadsToSaved_r4))) ++ wsX40 ++ wsX00 ++ wsX30)
def wsX4_allLeadToGoal_r1 : List Cond := [Cond.fieldLink RX4 18 "LockQuest$Search" "saved" "LLockQuest$Marks;", Cond.fieldLink RX4 41 "LockQuest$Search" "count" "I", Cond.fieldLink RX4 23 "LockQuest$Search" "found" "[I", Cond.methodLink RX4 52 yX3_clear, Cond.instanceMethod yX3_clear, Cond.selects RX3 yX3_clear yX3_clear, Cond.initialized RX3, Cond.code yX3_clear cX3_clear 1 none, Cond.fieldLink RX3 9 "LockQuest$Marks" "bits" "[J", Cond.methodLink RX3 15 yJ7_fill_d0a16, Cond.static yJ7_fill_d0a16, Cond.initialized RJ7, Cond.code yJ7_fill_d0a16 cJ7_fill_d0a16 5 none, Cond.methodLink RX4 55 yX3_has, Cond.instanceMethod yX3_has, Cond.selects RX3 yX3_has yX3_has, Cond.code yX3_has cX3_has 2 (some .boolean), Cond.methodLink RX4 45 yX4_isAtGoal, Cond.instanceMethod yX4_isAtGoal, Cond.selects RX4 yX4_isAtGoal yX4_isAtGoal, Cond.initialized RX4, Cond.code yX4_isAtGoal cX4_isAtGoal 2 (some .boolean), Cond.fieldLink RX4 33 "LockQuest$Search" "adventure" "LLockQuest$Adventure;", Cond.fieldLink RX4 87 "LockQuest$Adventure" "goalRoom" "I"]
def wsX4_allLeadToGoal_r2 : List Cond := [Cond.methodLink RX4 69 yX5_roomOf, Cond.static yX5_roomOf, Cond.initialized RX5, Cond.code yX5_roomOf cX5_roomOf 1 (some .int), Cond.methodLink RX4 58 yX4_leadsToSaved, Cond.instanceMethod yX4_leadsToSaved, Cond.selects RX4 yX4_leadsToSaved yX4_leadsToSaved, Cond.code yX4_leadsToSaved cX4_leadsToSaved 4 (some .boolean), Cond.fieldLink RX4 64 "LockQuest$Adventure" "doors" "[I", Cond.methodLink RX4 73 yX0_afterWalking, Cond.instanceMethod yX0_afterWalking, Cond.selects RX0 yX0_afterWalking yX0_afterWalking, Cond.initialized RX0, Cond.code yX0_afterWalking cX0_afterWalking 7 (some .int), Cond.fieldLink RX0 42 "LockQuest$Adventure" "beyond" "[[I", Cond.fieldLink RX0 18 "LockQuest$Adventure" "kind" "[I", Cond.fieldLink RX0 21 "LockQuest$Adventure" "smallNumber" "[I", Cond.methodLink RX0 53 yX5_roomOf, Cond.methodLink RX0 59 yX0_hasDoor, Cond.instanceMethod yX0_hasDoor, Cond.selects RX0 yX0_hasDoor yX0_hasDoor, Cond.code yX0_hasDoor cX0_hasDoor 3 (some .boolean), Cond.fieldLink RX0 37 "LockQuest$Adventure" "doors" "[I", Cond.methodLink RX0 49 yX0_hasRoom]
def wsX4_allLeadToGoal_r3 : List Cond := [Cond.instanceMethod yX0_hasRoom, Cond.selects RX0 yX0_hasRoom yX0_hasRoom, Cond.code yX0_hasRoom cX0_hasRoom 2 (some .boolean), Cond.fieldLink RX0 45 "LockQuest$Adventure" "rooms" "I", Cond.methodLink RX0 63 yX0_doorOwner, Cond.instanceMethod yX0_doorOwner, Cond.selects RX0 yX0_doorOwner yX0_doorOwner, Cond.code yX0_doorOwner cX0_doorOwner 3 (some .int), Cond.fieldLink RX0 9 "LockQuest$Adventure" "parent" "[I", Cond.methodLink RX0 67 yX0_opens, Cond.instanceMethod yX0_opens, Cond.selects RX0 yX0_opens yX0_opens, Cond.code yX0_opens cX0_opens 3 (some .boolean), Cond.fieldLink RX0 15 "LockQuest$Adventure" "level" "[I", Cond.methodLink RX0 79 yX5_hasKey, Cond.static yX5_hasKey, Cond.code yX5_hasKey cX5_hasKey 2 (some .boolean), Cond.methodLink RX5 17 yX5_keyBit, Cond.static yX5_keyBit, Cond.code yX5_keyBit cX5_keyBit 1 (some .int), Cond.methodLink RX0 82 yX5_hasOpened, Cond.static yX5_hasOpened, Cond.code yX5_hasOpened cX5_hasOpened 2 (some .boolean), Cond.methodLink RX5 20 yX5_openedBit]
def wsX4_allLeadToGoal_r4 : List Cond := [Cond.static yX5_openedBit, Cond.code yX5_openedBit cX5_openedBit 1 (some .int), Cond.methodLink RX0 85 yX5_smallKeysLeft, Cond.static yX5_smallKeysLeft, Cond.code yX5_smallKeysLeft cX5_smallKeysLeft 1 (some .int), Cond.methodLink RX5 11 yJ6_bitCount_0f7a4, Cond.static yJ6_bitCount_0f7a4, Cond.initialized RJ6, Cond.code yJ6_bitCount_0f7a4 cJ6_bitCount_0f7a4 1 (some .int), Cond.constant RJ6 265 (1431655765), Cond.constant RJ6 266 (858993459), Cond.constant RJ6 267 (252645135), Cond.methodLink RX0 88 yX5_positionOf, Cond.static yX5_positionOf, Cond.code yX5_positionOf cX5_positionOf 1 (some .int), Cond.methodLink RX0 70 yX5_inRoom, Cond.static yX5_inRoom, Cond.code yX5_inRoom cX5_inRoom 2 (some .int), Cond.methodLink RX0 73 yX5_openedBit, Cond.methodLink RX4 90 yX4_isSaved, Cond.instanceMethod yX4_isSaved, Cond.selects RX4 yX4_isSaved yX4_isSaved, Cond.code yX4_isSaved cX4_isSaved 2 (some .boolean), Cond.methodLink RX4 81 yX0_afterTaking]
def wsX4_allLeadToGoal_r5 : List Cond := [Cond.instanceMethod yX0_afterTaking, Cond.selects RX0 yX0_afterTaking yX0_afterTaking, Cond.code yX0_afterTaking cX0_afterTaking 2 (some .int), Cond.fieldLink RX0 30 "LockQuest$Adventure" "lying" "[I", Cond.methodLink RX4 84 yX0_afterToggling, Cond.instanceMethod yX0_afterToggling, Cond.selects RX0 yX0_afterToggling yX0_afterToggling, Cond.code yX0_afterToggling cX0_afterToggling 2 (some .int), Cond.fieldLink RX0 33 "LockQuest$Adventure" "switched" "[Z", Cond.methodLink RX0 76 yX5_toggled, Cond.static yX5_toggled, Cond.code yX5_toggled cX5_toggled 1 (some .int), Cond.methodLink RX4 61 yX3_add, Cond.instanceMethod yX3_add, Cond.selects RX3 yX3_add yX3_add, Cond.code yX3_add cX3_add 2 none]
def wsX4_allLeadToGoal : List Cond := .code yX4_allLeadToGoal cX4_allLeadToGoal 6 (some .boolean) :: ((wsX4_allLeadToGoal_r1 ++ (wsX4_allLeadToGoal_r2 ++ (wsX4_allLeadToGoal_r3 ++ (wsX4_allLeadToGoal_r4 ++ wsX4_allLeadToGoal_r5)))) ++ wsX40 ++ wsX30 ++ wsX00)
def wsX5_keysOf : List Cond := .code yX5_keysOf cX5_keysOf 1 (some .int) :: ([])
def wsX6_init_r1 : List Cond := [Cond.methodLink RX6 1 objectInit, Cond.instanceMethod objectInit, Cond.code objectInit ⟨#[0xb1]⟩ 1 none, Cond.classLink RX6 7 RX0, Cond.instantiable RX0 14, Cond.initialized RX0, Cond.fieldLink RX6 10 "LockQuest" "adventure" "LLockQuest$Adventure;", Cond.classLink RX6 16 RX2, Cond.instantiable RX2 3, Cond.initialized RX2, Cond.fieldLink RX6 21 "LockQuest" "maker" "LLockQuest$Maker;", Cond.classLink RX6 25 RX4, Cond.instantiable RX4 7, Cond.initialized RX4, Cond.fieldLink RX6 28 "LockQuest" "search" "LLockQuest$Search;", Cond.fieldLink RX6 38 "LockQuest" "situation" "I", Cond.instanceMethod yX0_init, Cond.code yX0_init cX0_init 1 none, Cond.methodLink RX0 3 objectInit, Cond.arrayClass .int, Cond.fieldLink RX0 9 "LockQuest$Adventure" "parent" "[I", Cond.fieldLink RX0 15 "LockQuest$Adventure" "level" "[I", Cond.fieldLink RX0 18 "LockQuest$Adventure" "kind" "[I", Cond.fieldLink RX0 21 "LockQuest$Adventure" "smallNumber" "[I"]
def wsX6_init_r2 : List Cond := [Cond.fieldLink RX0 24 "LockQuest$Adventure" "x" "[I", Cond.fieldLink RX0 27 "LockQuest$Adventure" "y" "[I", Cond.fieldLink RX0 30 "LockQuest$Adventure" "lying" "[I", Cond.arrayClass .boolean, Cond.fieldLink RX0 33 "LockQuest$Adventure" "switched" "[Z", Cond.fieldLink RX0 37 "LockQuest$Adventure" "doors" "[I", Cond.classLink RX0 40 "[[I", Cond.fieldLink RX0 42 "LockQuest$Adventure" "beyond" "[[I", Cond.methodLink RX6 18 yX2_init, Cond.instanceMethod yX2_init, Cond.code yX2_init cX2_init 2 none, Cond.methodLink RX2 3 objectInit, Cond.classLink RX2 9 RX1, Cond.instantiable RX1 3, Cond.initialized RX1, Cond.fieldLink RX2 12 "LockQuest$Maker" "drawing" "LLockQuest$Drawing;", Cond.fieldLink RX2 18 "LockQuest$Maker" "open" "[Z", Cond.fieldLink RX2 22 "LockQuest$Maker" "made" "LLockQuest$Adventure;", Cond.instanceMethod yX1_init, Cond.code yX1_init cX1_init 1 none, Cond.methodLink RX1 3 objectInit, Cond.fieldLink RX1 9 "LockQuest$Drawing" "offered" "[I", Cond.methodLink RX6 27 yX4_init, Cond.instanceMethod yX4_init]
def wsX6_init_r3 : List Cond := [Cond.code yX4_init cX4_init 2 none, Cond.methodLink RX4 3 objectInit, Cond.classLink RX4 9 RX3, Cond.instantiable RX3 1, Cond.initialized RX3, Cond.fieldLink RX4 12 "LockQuest$Search" "seen" "LLockQuest$Marks;", Cond.fieldLink RX4 18 "LockQuest$Search" "saved" "LLockQuest$Marks;", Cond.fieldLink RX4 23 "LockQuest$Search" "found" "[I", Cond.fieldLink RX4 27 "LockQuest$Search" "distance" "[I", Cond.fieldLink RX4 30 "LockQuest$Search" "opening" "[I", Cond.fieldLink RX4 33 "LockQuest$Search" "adventure" "LLockQuest$Adventure;", Cond.instanceMethod yX3_init, Cond.code yX3_init cX3_init 1 none, Cond.methodLink RX3 1 objectInit, Cond.arrayClass .long, Cond.fieldLink RX3 9 "LockQuest$Marks" "bits" "[J", Cond.methodLink RX6 32 yX2_build, Cond.instanceMethod yX2_build, Cond.selects RX2 yX2_build yX2_build, Cond.code yX2_build cX2_build 7 none, Cond.fieldLink RX2 33 "LockQuest$Adventure" "rooms" "I", Cond.fieldLink RX2 39 "LockQuest$Adventure" "levels" "I", Cond.fieldLink RX2 67 "LockQuest$Adventure" "goalRoom" "I", Cond.methodLink RX2 26 yX1_begin]
def wsX6_init_r4 : List Cond := [Cond.instanceMethod yX1_begin, Cond.selects RX1 yX1_begin yX1_begin, Cond.code yX1_begin cX1_begin 3 none, Cond.fieldLink RX1 15 "LockQuest$Drawing" "state" "J", Cond.methodLink RX2 30 yX2_clear, Cond.instanceMethod yX2_clear, Cond.selects RX2 yX2_clear yX2_clear, Cond.code yX2_clear cX2_clear 2 none, Cond.fieldLink RX2 79 "LockQuest$Adventure" "lying" "[I", Cond.fieldLink RX2 89 "LockQuest$Adventure" "doors" "[I", Cond.fieldLink RX2 92 "LockQuest$Adventure" "switched" "[Z", Cond.fieldLink RX2 95 "LockQuest$Adventure" "allDoors" "I", Cond.methodLink RX2 83 yJ7_fill_53178, Cond.static yJ7_fill_53178, Cond.initialized RJ7, Cond.code yJ7_fill_53178 cJ7_fill_53178 4 none, Cond.methodLink RX2 42 yX2_addRooms, Cond.instanceMethod yX2_addRooms, Cond.selects RX2 yX2_addRooms yX2_addRooms, Cond.code yX2_addRooms cX2_addRooms 6 none, Cond.fieldLink RX2 98 "LockQuest$Adventure" "parent" "[I", Cond.fieldLink RX2 101 "LockQuest$Adventure" "level" "[I", Cond.fieldLink RX2 104 "LockQuest$Adventure" "kind" "[I", Cond.methodLink RX2 107 yX2_drawnBefore]
def wsX6_init_r5 : List Cond := [Cond.instanceMethod yX2_drawnBefore, Cond.selects RX2 yX2_drawnBefore yX2_drawnBefore, Cond.code yX2_drawnBefore cX2_drawnBefore 4 (some .int), Cond.methodLink RX2 118 yX1_clearOffer, Cond.instanceMethod yX1_clearOffer, Cond.selects RX1 yX1_clearOffer yX1_clearOffer, Cond.code yX1_clearOffer cX1_clearOffer 1 none, Cond.fieldLink RX1 23 "LockQuest$Drawing" "count" "I", Cond.methodLink RX2 121 yX1_offer, Cond.instanceMethod yX1_offer, Cond.selects RX1 yX1_offer yX1_offer, Cond.code yX1_offer cX1_offer 2 none, Cond.methodLink RX2 63 yX1_offeredRoom, Cond.instanceMethod yX1_offeredRoom, Cond.selects RX1 yX1_offeredRoom yX1_offeredRoom, Cond.code yX1_offeredRoom cX1_offeredRoom 1 (some .int), Cond.methodLink RX1 27 yX1_number, Cond.instanceMethod yX1_number, Cond.selects RX1 yX1_number yX1_number, Cond.code yX1_number cX1_number 2 (some .int), Cond.constantLong RX1 19 (6364136223846793005), Cond.constantLong RX1 21 (1442695040888963407), Cond.methodLink RX2 111 yX1_number, Cond.methodLink RX2 114 yX2_mayRise]
def wsX6_init_r6 : List Cond := [Cond.instanceMethod yX2_mayRise, Cond.selects RX2 yX2_mayRise yX2_mayRise, Cond.code yX2_mayRise cX2_mayRise 3 (some .boolean), Cond.methodLink RX2 45 yX2_layKeys, Cond.instanceMethod yX2_layKeys, Cond.selects RX2 yX2_layKeys yX2_layKeys, Cond.code yX2_layKeys cX2_layKeys 2 none, Cond.methodLink RX2 59 yX2_offerLevels, Cond.instanceMethod yX2_offerLevels, Cond.selects RX2 yX2_offerLevels yX2_offerLevels, Cond.code yX2_offerLevels cX2_offerLevels 4 none, Cond.static yX6_isWithin, Cond.initialized RX6, Cond.code yX6_isWithin cX6_isWithin 3 (some .boolean), Cond.methodLink RX2 128 yX5_keyBit, Cond.static yX5_keyBit, Cond.initialized RX5, Cond.code yX5_keyBit cX5_keyBit 1 (some .int), Cond.methodLink RX2 48 yX2_makeSmallDoors, Cond.instanceMethod yX2_makeSmallDoors, Cond.selects RX2 yX2_makeSmallDoors yX2_makeSmallDoors, Cond.code yX2_makeSmallDoors cX2_makeSmallDoors 5 (some .int), Cond.fieldLink RX2 140 "LockQuest$Adventure" "smallNumber" "[I", Cond.methodLink RX2 133 yX2_offerPlainDoors]
def wsX6_init_r7 : List Cond := [Cond.instanceMethod yX2_offerPlainDoors, Cond.selects RX2 yX2_offerPlainDoors yX2_offerPlainDoors, Cond.code yX2_offerPlainDoors cX2_offerPlainDoors 2 none, Cond.methodLink RX2 136 yX1_hasOffer, Cond.instanceMethod yX1_hasOffer, Cond.selects RX1 yX1_hasOffer yX1_hasOffer, Cond.code yX1_hasOffer cX1_hasOffer 1 (some .boolean), Cond.methodLink RX2 52 yX2_laySmallKeys, Cond.instanceMethod yX2_laySmallKeys, Cond.selects RX2 yX2_laySmallKeys yX2_laySmallKeys, Cond.code yX2_laySmallKeys cX2_laySmallKeys 3 none, Cond.methodLink RX2 143 yX2_offerOpenRooms, Cond.instanceMethod yX2_offerOpenRooms, Cond.selects RX2 yX2_offerOpenRooms yX2_offerOpenRooms, Cond.code yX2_offerOpenRooms cX2_offerOpenRooms 2 none, Cond.methodLink RX2 146 yX5_smallKeyBit, Cond.static yX5_smallKeyBit, Cond.code yX5_smallKeyBit cX5_smallKeyBit 1 (some .int), Cond.methodLink RX2 56 yX2_makeBarriers, Cond.instanceMethod yX2_makeBarriers, Cond.selects RX2 yX2_makeBarriers yX2_makeBarriers, Cond.code yX2_makeBarriers cX2_makeBarriers 4 none, Cond.methodLink RX2 70 yX2_placeRooms, Cond.instanceMethod yX2_placeRooms]
def wsX6_init_r8 : List Cond := [Cond.selects RX2 yX2_placeRooms yX2_placeRooms, Cond.code yX2_placeRooms cX2_placeRooms 2 none, Cond.fieldLink RX2 149 "LockQuest$Adventure" "x" "[I", Cond.fieldLink RX2 152 "LockQuest$Adventure" "y" "[I", Cond.methodLink RX2 155 yX2_place, Cond.instanceMethod yX2_place, Cond.selects RX2 yX2_place yX2_place, Cond.code yX2_place cX2_place 6 none, Cond.fieldLink RX2 158 "LockQuest$Maker" "EAST" "[I", Cond.fieldLink RX2 161 "LockQuest$Maker" "NORTH" "[I", Cond.methodLink RX2 164 yX2_isFree, Cond.instanceMethod yX2_isFree, Cond.selects RX2 yX2_isFree yX2_isFree, Cond.code yX2_isFree cX2_isFree 5 (some .boolean), Cond.methodLink RX2 73 yX2_joinFamilies, Cond.instanceMethod yX2_joinFamilies, Cond.selects RX2 yX2_joinFamilies yX2_joinFamilies, Cond.code yX2_joinFamilies cX2_joinFamilies 2 none, Cond.methodLink RX2 167 yX2_join, Cond.instanceMethod yX2_join, Cond.selects RX2 yX2_join yX2_join, Cond.code yX2_join cX2_join 3 none, Cond.fieldLink RX2 178 "LockQuest$Adventure" "beyond" "[[I", Cond.methodLink RX2 76 yX2_joinLoops]
def wsX6_init_r9 : List Cond := [Cond.instanceMethod yX2_joinLoops, Cond.selects RX2 yX2_joinLoops yX2_joinLoops, Cond.code yX2_joinLoops cX2_joinLoops 3 none, Cond.methodLink RX2 170 yX2_mayLoop, Cond.instanceMethod yX2_mayLoop, Cond.selects RX2 yX2_mayLoop yX2_mayLoop, Cond.code yX2_mayLoop cX2_mayLoop 4 (some .boolean), Cond.methodLink RX2 173 Lib.Math.abs.name, Cond.static Lib.Math.abs.name, Cond.initialized "java/lang/Math", Cond.code Lib.Math.abs.name Lib.Math.abs.code 1 (some .int)]
def wsX6_init : List Cond := .code yX6_init cX6_init 1 none :: ((wsX6_init_r1 ++ (wsX6_init_r2 ++ (wsX6_init_r3 ++ (wsX6_init_r4 ++ (wsX6_init_r5 ++ (wsX6_init_r6 ++ (wsX6_init_r7 ++ (wsX6_init_r8 ++ wsX6_init_r9)))))))) ++ wsX00 ++ wsX60 ++ wsX20 ++ wsX40 ++ wsX10 ++ wsX30)
def wsX6_make_r1 : List Cond := [Cond.fieldLink RX6 21 "LockQuest" "maker" "LLockQuest$Maker;", Cond.fieldLink RX6 38 "LockQuest" "situation" "I", Cond.fieldLink RX6 10 "LockQuest" "adventure" "LLockQuest$Adventure;", Cond.fieldLink RX6 46 "LockQuest$Adventure" "allDoors" "I", Cond.methodLink RX6 42 yX6_isWithin, Cond.static yX6_isWithin, Cond.initialized RX6, Cond.code yX6_isWithin cX6_isWithin 3 (some .boolean), Cond.methodLink RX6 32 yX2_build, Cond.instanceMethod yX2_build, Cond.selects RX2 yX2_build yX2_build, Cond.initialized RX2, Cond.code yX2_build cX2_build 7 none, Cond.fieldLink RX2 12 "LockQuest$Maker" "drawing" "LLockQuest$Drawing;", Cond.fieldLink RX2 22 "LockQuest$Maker" "made" "LLockQuest$Adventure;", Cond.fieldLink RX2 33 "LockQuest$Adventure" "rooms" "I", Cond.fieldLink RX2 39 "LockQuest$Adventure" "levels" "I", Cond.fieldLink RX2 67 "LockQuest$Adventure" "goalRoom" "I", Cond.methodLink RX2 26 yX1_begin, Cond.instanceMethod yX1_begin, Cond.selects RX1 yX1_begin yX1_begin, Cond.initialized RX1, Cond.code yX1_begin cX1_begin 3 none, Cond.fieldLink RX1 15 "LockQuest$Drawing" "state" "J"]
def wsX6_make_r2 : List Cond := [Cond.methodLink RX2 30 yX2_clear, Cond.instanceMethod yX2_clear, Cond.selects RX2 yX2_clear yX2_clear, Cond.code yX2_clear cX2_clear 2 none, Cond.fieldLink RX2 79 "LockQuest$Adventure" "lying" "[I", Cond.fieldLink RX2 89 "LockQuest$Adventure" "doors" "[I", Cond.fieldLink RX2 92 "LockQuest$Adventure" "switched" "[Z", Cond.fieldLink RX2 95 "LockQuest$Adventure" "allDoors" "I", Cond.methodLink RX2 83 yJ7_fill_53178, Cond.static yJ7_fill_53178, Cond.initialized RJ7, Cond.code yJ7_fill_53178 cJ7_fill_53178 4 none, Cond.methodLink RX2 42 yX2_addRooms, Cond.instanceMethod yX2_addRooms, Cond.selects RX2 yX2_addRooms yX2_addRooms, Cond.code yX2_addRooms cX2_addRooms 6 none, Cond.fieldLink RX2 98 "LockQuest$Adventure" "parent" "[I", Cond.fieldLink RX2 101 "LockQuest$Adventure" "level" "[I", Cond.fieldLink RX2 104 "LockQuest$Adventure" "kind" "[I", Cond.methodLink RX2 107 yX2_drawnBefore, Cond.instanceMethod yX2_drawnBefore, Cond.selects RX2 yX2_drawnBefore yX2_drawnBefore, Cond.code yX2_drawnBefore cX2_drawnBefore 4 (some .int), Cond.methodLink RX2 118 yX1_clearOffer]
def wsX6_make_r3 : List Cond := [Cond.instanceMethod yX1_clearOffer, Cond.selects RX1 yX1_clearOffer yX1_clearOffer, Cond.code yX1_clearOffer cX1_clearOffer 1 none, Cond.fieldLink RX1 23 "LockQuest$Drawing" "count" "I", Cond.methodLink RX2 121 yX1_offer, Cond.instanceMethod yX1_offer, Cond.selects RX1 yX1_offer yX1_offer, Cond.code yX1_offer cX1_offer 2 none, Cond.fieldLink RX1 9 "LockQuest$Drawing" "offered" "[I", Cond.methodLink RX2 63 yX1_offeredRoom, Cond.instanceMethod yX1_offeredRoom, Cond.selects RX1 yX1_offeredRoom yX1_offeredRoom, Cond.code yX1_offeredRoom cX1_offeredRoom 1 (some .int), Cond.methodLink RX1 27 yX1_number, Cond.instanceMethod yX1_number, Cond.selects RX1 yX1_number yX1_number, Cond.code yX1_number cX1_number 2 (some .int), Cond.constantLong RX1 19 (6364136223846793005), Cond.constantLong RX1 21 (1442695040888963407), Cond.methodLink RX2 111 yX1_number, Cond.methodLink RX2 114 yX2_mayRise, Cond.instanceMethod yX2_mayRise, Cond.selects RX2 yX2_mayRise yX2_mayRise, Cond.code yX2_mayRise cX2_mayRise 3 (some .boolean)]
def wsX6_make_r4 : List Cond := [Cond.methodLink RX2 45 yX2_layKeys, Cond.instanceMethod yX2_layKeys, Cond.selects RX2 yX2_layKeys yX2_layKeys, Cond.code yX2_layKeys cX2_layKeys 2 none, Cond.methodLink RX2 59 yX2_offerLevels, Cond.instanceMethod yX2_offerLevels, Cond.selects RX2 yX2_offerLevels yX2_offerLevels, Cond.code yX2_offerLevels cX2_offerLevels 4 none, Cond.methodLink RX2 128 yX5_keyBit, Cond.static yX5_keyBit, Cond.initialized RX5, Cond.code yX5_keyBit cX5_keyBit 1 (some .int), Cond.methodLink RX2 48 yX2_makeSmallDoors, Cond.instanceMethod yX2_makeSmallDoors, Cond.selects RX2 yX2_makeSmallDoors yX2_makeSmallDoors, Cond.code yX2_makeSmallDoors cX2_makeSmallDoors 5 (some .int), Cond.fieldLink RX2 140 "LockQuest$Adventure" "smallNumber" "[I", Cond.methodLink RX2 133 yX2_offerPlainDoors, Cond.instanceMethod yX2_offerPlainDoors, Cond.selects RX2 yX2_offerPlainDoors yX2_offerPlainDoors, Cond.code yX2_offerPlainDoors cX2_offerPlainDoors 2 none, Cond.methodLink RX2 136 yX1_hasOffer, Cond.instanceMethod yX1_hasOffer, Cond.selects RX1 yX1_hasOffer yX1_hasOffer]
def wsX6_make_r5 : List Cond := [Cond.code yX1_hasOffer cX1_hasOffer 1 (some .boolean), Cond.methodLink RX2 52 yX2_laySmallKeys, Cond.instanceMethod yX2_laySmallKeys, Cond.selects RX2 yX2_laySmallKeys yX2_laySmallKeys, Cond.code yX2_laySmallKeys cX2_laySmallKeys 3 none, Cond.methodLink RX2 143 yX2_offerOpenRooms, Cond.instanceMethod yX2_offerOpenRooms, Cond.selects RX2 yX2_offerOpenRooms yX2_offerOpenRooms, Cond.code yX2_offerOpenRooms cX2_offerOpenRooms 2 none, Cond.fieldLink RX2 18 "LockQuest$Maker" "open" "[Z", Cond.methodLink RX2 146 yX5_smallKeyBit, Cond.static yX5_smallKeyBit, Cond.code yX5_smallKeyBit cX5_smallKeyBit 1 (some .int), Cond.methodLink RX2 56 yX2_makeBarriers, Cond.instanceMethod yX2_makeBarriers, Cond.selects RX2 yX2_makeBarriers yX2_makeBarriers, Cond.code yX2_makeBarriers cX2_makeBarriers 4 none, Cond.methodLink RX2 70 yX2_placeRooms, Cond.instanceMethod yX2_placeRooms, Cond.selects RX2 yX2_placeRooms yX2_placeRooms, Cond.code yX2_placeRooms cX2_placeRooms 2 none, Cond.fieldLink RX2 149 "LockQuest$Adventure" "x" "[I", Cond.fieldLink RX2 152 "LockQuest$Adventure" "y" "[I", Cond.methodLink RX2 155 yX2_place]
def wsX6_make_r6 : List Cond := [Cond.instanceMethod yX2_place, Cond.selects RX2 yX2_place yX2_place, Cond.code yX2_place cX2_place 6 none, Cond.fieldLink RX2 158 "LockQuest$Maker" "EAST" "[I", Cond.fieldLink RX2 161 "LockQuest$Maker" "NORTH" "[I", Cond.methodLink RX2 164 yX2_isFree, Cond.instanceMethod yX2_isFree, Cond.selects RX2 yX2_isFree yX2_isFree, Cond.code yX2_isFree cX2_isFree 5 (some .boolean), Cond.methodLink RX2 73 yX2_joinFamilies, Cond.instanceMethod yX2_joinFamilies, Cond.selects RX2 yX2_joinFamilies yX2_joinFamilies, Cond.code yX2_joinFamilies cX2_joinFamilies 2 none, Cond.methodLink RX2 167 yX2_join, Cond.instanceMethod yX2_join, Cond.selects RX2 yX2_join yX2_join, Cond.code yX2_join cX2_join 3 none, Cond.fieldLink RX2 178 "LockQuest$Adventure" "beyond" "[[I", Cond.methodLink RX2 76 yX2_joinLoops, Cond.instanceMethod yX2_joinLoops, Cond.selects RX2 yX2_joinLoops yX2_joinLoops, Cond.code yX2_joinLoops cX2_joinLoops 3 none, Cond.methodLink RX2 170 yX2_mayLoop, Cond.instanceMethod yX2_mayLoop]
def wsX6_make_r7 : List Cond := [Cond.selects RX2 yX2_mayLoop yX2_mayLoop, Cond.code yX2_mayLoop cX2_mayLoop 4 (some .boolean), Cond.methodLink RX2 173 Lib.Math.abs.name, Cond.static Lib.Math.abs.name, Cond.initialized "java/lang/Math", Cond.code Lib.Math.abs.name Lib.Math.abs.code 1 (some .int)]
def wsX6_make : List Cond := .code yX6_make cX6_make 7 (some .int) :: ((wsX6_make_r1 ++ (wsX6_make_r2 ++ (wsX6_make_r3 ++ (wsX6_make_r4 ++ (wsX6_make_r5 ++ (wsX6_make_r6 ++ wsX6_make_r7)))))) ++ wsX60 ++ wsX00 ++ wsX20 ++ wsX10)
def wsX6_room : List Cond := .code yX6_room cX6_room 3 (some .int) :: ([.fieldLink RX6 10 "LockQuest" "adventure" "LLockQuest$Adventure;", .fieldLink RX6 53 "LockQuest$Adventure" "parent" "[I", .fieldLink RX6 57 "LockQuest$Adventure" "level" "[I", .fieldLink RX6 60 "LockQuest$Adventure" "kind" "[I", .fieldLink RX6 63 "LockQuest$Adventure" "x" "[I", .fieldLink RX6 66 "LockQuest$Adventure" "y" "[I", .fieldLink RX6 69 "LockQuest$Adventure" "lying" "[I", .fieldLink RX6 72 "LockQuest$Adventure" "switched" "[Z", .fieldLink RX6 76 "LockQuest$Adventure" "doors" "[I", .methodLink RX6 49 yX0_hasRoom, .instanceMethod yX0_hasRoom, .selects RX0 yX0_hasRoom yX0_hasRoom, .initialized RX0, .code yX0_hasRoom cX0_hasRoom 2 (some .boolean), .fieldLink RX0 45 "LockQuest$Adventure" "rooms" "I"] ++ wsX60 ++ wsX00)
def wsX6_behind : List Cond := .code yX6_behind cX6_behind 3 (some .int) :: ([.fieldLink RX6 10 "LockQuest" "adventure" "LLockQuest$Adventure;", .fieldLink RX6 83 "LockQuest$Adventure" "beyond" "[[I", .methodLink RX6 79 yX0_hasDoor, .instanceMethod yX0_hasDoor, .selects RX0 yX0_hasDoor yX0_hasDoor, .initialized RX0, .code yX0_hasDoor cX0_hasDoor 3 (some .boolean), .fieldLink RX0 37 "LockQuest$Adventure" "doors" "[I", .methodLink RX0 49 yX0_hasRoom, .instanceMethod yX0_hasRoom, .selects RX0 yX0_hasRoom yX0_hasRoom, .code yX0_hasRoom cX0_hasRoom 2 (some .boolean), .fieldLink RX0 45 "LockQuest$Adventure" "rooms" "I"] ++ wsX60 ++ wsX00)
def wsX6_goal : List Cond := .code yX6_goal cX6_goal 1 (some .int) :: ([.fieldLink RX6 10 "LockQuest" "adventure" "LLockQuest$Adventure;", .fieldLink RX6 87 "LockQuest$Adventure" "goalRoom" "I"] ++ wsX60 ++ wsX00)
def wsX6_restart : List Cond := .code yX6_restart cX6_restart 1 none :: ([.fieldLink RX6 38 "LockQuest" "situation" "I"] ++ wsX60)
def wsX6_walk_r1 : List Cond := [Cond.fieldLink RX6 10 "LockQuest" "adventure" "LLockQuest$Adventure;", Cond.fieldLink RX6 38 "LockQuest" "situation" "I", Cond.methodLink RX6 90 yX0_afterWalking, Cond.instanceMethod yX0_afterWalking, Cond.selects RX0 yX0_afterWalking yX0_afterWalking, Cond.initialized RX0, Cond.code yX0_afterWalking cX0_afterWalking 7 (some .int), Cond.fieldLink RX0 42 "LockQuest$Adventure" "beyond" "[[I", Cond.fieldLink RX0 18 "LockQuest$Adventure" "kind" "[I", Cond.fieldLink RX0 21 "LockQuest$Adventure" "smallNumber" "[I", Cond.methodLink RX0 53 yX5_roomOf, Cond.static yX5_roomOf, Cond.initialized RX5, Cond.code yX5_roomOf cX5_roomOf 1 (some .int), Cond.methodLink RX0 59 yX0_hasDoor, Cond.instanceMethod yX0_hasDoor, Cond.selects RX0 yX0_hasDoor yX0_hasDoor, Cond.code yX0_hasDoor cX0_hasDoor 3 (some .boolean), Cond.fieldLink RX0 37 "LockQuest$Adventure" "doors" "[I", Cond.methodLink RX0 49 yX0_hasRoom, Cond.instanceMethod yX0_hasRoom, Cond.selects RX0 yX0_hasRoom yX0_hasRoom, Cond.code yX0_hasRoom cX0_hasRoom 2 (some .boolean), Cond.fieldLink RX0 45 "LockQuest$Adventure" "rooms" "I"]
def wsX6_walk_r2 : List Cond := [Cond.methodLink RX0 63 yX0_doorOwner, Cond.instanceMethod yX0_doorOwner, Cond.selects RX0 yX0_doorOwner yX0_doorOwner, Cond.code yX0_doorOwner cX0_doorOwner 3 (some .int), Cond.fieldLink RX0 9 "LockQuest$Adventure" "parent" "[I", Cond.methodLink RX0 67 yX0_opens, Cond.instanceMethod yX0_opens, Cond.selects RX0 yX0_opens yX0_opens, Cond.code yX0_opens cX0_opens 3 (some .boolean), Cond.fieldLink RX0 15 "LockQuest$Adventure" "level" "[I", Cond.methodLink RX0 79 yX5_hasKey, Cond.static yX5_hasKey, Cond.code yX5_hasKey cX5_hasKey 2 (some .boolean), Cond.methodLink RX5 17 yX5_keyBit, Cond.static yX5_keyBit, Cond.code yX5_keyBit cX5_keyBit 1 (some .int), Cond.methodLink RX0 82 yX5_hasOpened, Cond.static yX5_hasOpened, Cond.code yX5_hasOpened cX5_hasOpened 2 (some .boolean), Cond.methodLink RX5 20 yX5_openedBit, Cond.static yX5_openedBit, Cond.code yX5_openedBit cX5_openedBit 1 (some .int), Cond.methodLink RX0 85 yX5_smallKeysLeft, Cond.static yX5_smallKeysLeft]
def wsX6_walk_r3 : List Cond := [Cond.code yX5_smallKeysLeft cX5_smallKeysLeft 1 (some .int), Cond.methodLink RX5 11 yJ6_bitCount_0f7a4, Cond.static yJ6_bitCount_0f7a4, Cond.initialized RJ6, Cond.code yJ6_bitCount_0f7a4 cJ6_bitCount_0f7a4 1 (some .int), Cond.constant RJ6 265 (1431655765), Cond.constant RJ6 266 (858993459), Cond.constant RJ6 267 (252645135), Cond.methodLink RX0 88 yX5_positionOf, Cond.static yX5_positionOf, Cond.code yX5_positionOf cX5_positionOf 1 (some .int), Cond.methodLink RX0 70 yX5_inRoom, Cond.static yX5_inRoom, Cond.code yX5_inRoom cX5_inRoom 2 (some .int), Cond.methodLink RX0 73 yX5_openedBit, Cond.methodLink RX6 94 yX5_roomOf]
def wsX6_walk : List Cond := .code yX6_walk cX6_walk 3 (some .int) :: ((wsX6_walk_r1 ++ (wsX6_walk_r2 ++ wsX6_walk_r3)) ++ wsX60 ++ wsX00)
def wsX6_take : List Cond := .code yX6_take cX6_take 3 (some .int) :: ([.fieldLink RX6 10 "LockQuest" "adventure" "LLockQuest$Adventure;", .fieldLink RX6 38 "LockQuest" "situation" "I", .methodLink RX6 98 yX0_afterTaking, .instanceMethod yX0_afterTaking, .selects RX0 yX0_afterTaking yX0_afterTaking, .initialized RX0, .code yX0_afterTaking cX0_afterTaking 2 (some .int), .fieldLink RX0 30 "LockQuest$Adventure" "lying" "[I", .methodLink RX0 53 yX5_roomOf, .static yX5_roomOf, .initialized RX5, .code yX5_roomOf cX5_roomOf 1 (some .int), .methodLink RX6 101 yJ6_bitCount_0f7a4, .static yJ6_bitCount_0f7a4, .initialized RJ6, .code yJ6_bitCount_0f7a4 cJ6_bitCount_0f7a4 1 (some .int), .constant RJ6 265 (1431655765), .constant RJ6 266 (858993459), .constant RJ6 267 (252645135)] ++ wsX60 ++ wsX00)
def wsX6_toggle : List Cond := .code yX6_toggle cX6_toggle 2 (some .int) :: ([.fieldLink RX6 10 "LockQuest" "adventure" "LLockQuest$Adventure;", .fieldLink RX6 38 "LockQuest" "situation" "I", .methodLink RX6 106 yX0_afterToggling, .instanceMethod yX0_afterToggling, .selects RX0 yX0_afterToggling yX0_afterToggling, .initialized RX0, .code yX0_afterToggling cX0_afterToggling 2 (some .int), .fieldLink RX0 33 "LockQuest$Adventure" "switched" "[Z", .methodLink RX0 53 yX5_roomOf, .static yX5_roomOf, .initialized RX5, .code yX5_roomOf cX5_roomOf 1 (some .int), .methodLink RX0 76 yX5_toggled, .static yX5_toggled, .code yX5_toggled cX5_toggled 1 (some .int), .methodLink RX6 109 yX5_positionOf, .static yX5_positionOf, .code yX5_positionOf cX5_positionOf 1 (some .int)] ++ wsX60 ++ wsX00)
def wsX6_here : List Cond := .code yX6_here cX6_here 1 (some .int) :: ([.fieldLink RX6 38 "LockQuest" "situation" "I", .methodLink RX6 94 yX5_roomOf, .static yX5_roomOf, .initialized RX5, .code yX5_roomOf cX5_roomOf 1 (some .int)] ++ wsX60)
def wsX6_having : List Cond := .code yX6_having cX6_having 1 (some .int) :: ([.fieldLink RX6 38 "LockQuest" "situation" "I", .methodLink RX6 112 yX5_keysOf, .static yX5_keysOf, .initialized RX5, .code yX5_keysOf cX5_keysOf 1 (some .int), .methodLink RX6 115 yX5_smallKeysLeft, .static yX5_smallKeysLeft, .code yX5_smallKeysLeft cX5_smallKeysLeft 1 (some .int), .methodLink RX5 11 yJ6_bitCount_0f7a4, .static yJ6_bitCount_0f7a4, .initialized RJ6, .code yJ6_bitCount_0f7a4 cJ6_bitCount_0f7a4 1 (some .int), .constant RJ6 265 (1431655765), .constant RJ6 266 (858993459), .constant RJ6 267 (252645135), .methodLink RX6 109 yX5_positionOf, .static yX5_positionOf, .code yX5_positionOf cX5_positionOf 1 (some .int)] ++ wsX60)
def wsX6_steps_r1 : List Cond := [Cond.fieldLink RX6 28 "LockQuest" "search" "LLockQuest$Search;", Cond.fieldLink RX6 38 "LockQuest" "situation" "I", Cond.fieldLink RX6 121 "LockQuest$Search" "distance" "[I", Cond.methodLink RX6 118 yX4_findGoal, Cond.instanceMethod yX4_findGoal, Cond.selects RX4 yX4_findGoal yX4_findGoal, Cond.initialized RX4, Cond.code yX4_findGoal cX4_findGoal 3 (some .int), Cond.fieldLink RX4 41 "LockQuest$Search" "count" "I", Cond.fieldLink RX4 23 "LockQuest$Search" "found" "[I", Cond.methodLink RX4 37 yX4_begin, Cond.instanceMethod yX4_begin, Cond.selects RX4 yX4_begin yX4_begin, Cond.code yX4_begin cX4_begin 2 none, Cond.fieldLink RX4 12 "LockQuest$Search" "seen" "LLockQuest$Marks;", Cond.fieldLink RX4 27 "LockQuest$Search" "distance" "[I", Cond.methodLink RX4 52 yX3_clear, Cond.instanceMethod yX3_clear, Cond.selects RX3 yX3_clear yX3_clear, Cond.initialized RX3, Cond.code yX3_clear cX3_clear 1 none, Cond.fieldLink RX3 9 "LockQuest$Marks" "bits" "[J", Cond.methodLink RX3 15 yJ7_fill_d0a16, Cond.static yJ7_fill_d0a16]
def wsX6_steps_r2 : List Cond := [Cond.initialized RJ7, Cond.code yJ7_fill_d0a16 cJ7_fill_d0a16 5 none, Cond.methodLink RX4 61 yX3_add, Cond.instanceMethod yX3_add, Cond.selects RX3 yX3_add yX3_add, Cond.code yX3_add cX3_add 2 none, Cond.methodLink RX4 45 yX4_isAtGoal, Cond.instanceMethod yX4_isAtGoal, Cond.selects RX4 yX4_isAtGoal yX4_isAtGoal, Cond.code yX4_isAtGoal cX4_isAtGoal 2 (some .boolean), Cond.fieldLink RX4 33 "LockQuest$Search" "adventure" "LLockQuest$Adventure;", Cond.fieldLink RX4 87 "LockQuest$Adventure" "goalRoom" "I", Cond.methodLink RX4 69 yX5_roomOf, Cond.static yX5_roomOf, Cond.initialized RX5, Cond.code yX5_roomOf cX5_roomOf 1 (some .int), Cond.methodLink RX4 49 yX4_goOn, Cond.instanceMethod yX4_goOn, Cond.selects RX4 yX4_goOn yX4_goOn, Cond.code yX4_goOn cX4_goOn 5 none, Cond.fieldLink RX4 64 "LockQuest$Adventure" "doors" "[I", Cond.methodLink RX4 73 yX0_afterWalking, Cond.instanceMethod yX0_afterWalking, Cond.selects RX0 yX0_afterWalking yX0_afterWalking]
def wsX6_steps_r3 : List Cond := [Cond.initialized RX0, Cond.code yX0_afterWalking cX0_afterWalking 7 (some .int), Cond.fieldLink RX0 42 "LockQuest$Adventure" "beyond" "[[I", Cond.fieldLink RX0 18 "LockQuest$Adventure" "kind" "[I", Cond.fieldLink RX0 21 "LockQuest$Adventure" "smallNumber" "[I", Cond.methodLink RX0 53 yX5_roomOf, Cond.methodLink RX0 59 yX0_hasDoor, Cond.instanceMethod yX0_hasDoor, Cond.selects RX0 yX0_hasDoor yX0_hasDoor, Cond.code yX0_hasDoor cX0_hasDoor 3 (some .boolean), Cond.fieldLink RX0 37 "LockQuest$Adventure" "doors" "[I", Cond.methodLink RX0 49 yX0_hasRoom, Cond.instanceMethod yX0_hasRoom, Cond.selects RX0 yX0_hasRoom yX0_hasRoom, Cond.code yX0_hasRoom cX0_hasRoom 2 (some .boolean), Cond.fieldLink RX0 45 "LockQuest$Adventure" "rooms" "I", Cond.methodLink RX0 63 yX0_doorOwner, Cond.instanceMethod yX0_doorOwner, Cond.selects RX0 yX0_doorOwner yX0_doorOwner, Cond.code yX0_doorOwner cX0_doorOwner 3 (some .int), Cond.fieldLink RX0 9 "LockQuest$Adventure" "parent" "[I", Cond.methodLink RX0 67 yX0_opens, Cond.instanceMethod yX0_opens, Cond.selects RX0 yX0_opens yX0_opens]
def wsX6_steps_r4 : List Cond := [Cond.code yX0_opens cX0_opens 3 (some .boolean), Cond.fieldLink RX0 15 "LockQuest$Adventure" "level" "[I", Cond.methodLink RX0 79 yX5_hasKey, Cond.static yX5_hasKey, Cond.code yX5_hasKey cX5_hasKey 2 (some .boolean), Cond.methodLink RX5 17 yX5_keyBit, Cond.static yX5_keyBit, Cond.code yX5_keyBit cX5_keyBit 1 (some .int), Cond.methodLink RX0 82 yX5_hasOpened, Cond.static yX5_hasOpened, Cond.code yX5_hasOpened cX5_hasOpened 2 (some .boolean), Cond.methodLink RX5 20 yX5_openedBit, Cond.static yX5_openedBit, Cond.code yX5_openedBit cX5_openedBit 1 (some .int), Cond.methodLink RX0 85 yX5_smallKeysLeft, Cond.static yX5_smallKeysLeft, Cond.code yX5_smallKeysLeft cX5_smallKeysLeft 1 (some .int), Cond.methodLink RX5 11 yJ6_bitCount_0f7a4, Cond.static yJ6_bitCount_0f7a4, Cond.initialized RJ6, Cond.code yJ6_bitCount_0f7a4 cJ6_bitCount_0f7a4 1 (some .int), Cond.constant RJ6 265 (1431655765), Cond.constant RJ6 266 (858993459), Cond.constant RJ6 267 (252645135)]
def wsX6_steps_r5 : List Cond := [Cond.methodLink RX0 88 yX5_positionOf, Cond.static yX5_positionOf, Cond.code yX5_positionOf cX5_positionOf 1 (some .int), Cond.methodLink RX0 70 yX5_inRoom, Cond.static yX5_inRoom, Cond.code yX5_inRoom cX5_inRoom 2 (some .int), Cond.methodLink RX0 73 yX5_openedBit, Cond.methodLink RX4 77 yX4_reach, Cond.instanceMethod yX4_reach, Cond.selects RX4 yX4_reach yX4_reach, Cond.code yX4_reach cX4_reach 4 none, Cond.fieldLink RX4 30 "LockQuest$Search" "opening" "[I", Cond.methodLink RX4 55 yX3_has, Cond.instanceMethod yX3_has, Cond.selects RX3 yX3_has yX3_has, Cond.code yX3_has cX3_has 2 (some .boolean), Cond.methodLink RX4 81 yX0_afterTaking, Cond.instanceMethod yX0_afterTaking, Cond.selects RX0 yX0_afterTaking yX0_afterTaking, Cond.code yX0_afterTaking cX0_afterTaking 2 (some .int), Cond.fieldLink RX0 30 "LockQuest$Adventure" "lying" "[I", Cond.methodLink RX4 84 yX0_afterToggling, Cond.instanceMethod yX0_afterToggling, Cond.selects RX0 yX0_afterToggling yX0_afterToggling]
def wsX6_steps_r6 : List Cond := [Cond.code yX0_afterToggling cX0_afterToggling 2 (some .int), Cond.fieldLink RX0 33 "LockQuest$Adventure" "switched" "[Z", Cond.methodLink RX0 76 yX5_toggled, Cond.static yX5_toggled, Cond.code yX5_toggled cX5_toggled 1 (some .int)]
def wsX6_steps : List Cond := .code yX6_steps cX6_steps 2 (some .int) :: ((wsX6_steps_r1 ++ (wsX6_steps_r2 ++ (wsX6_steps_r3 ++ (wsX6_steps_r4 ++ (wsX6_steps_r5 ++ wsX6_steps_r6))))) ++ wsX60 ++ wsX40 ++ wsX30 ++ wsX00)
def wsX6_hint_r1 : List Cond := [Cond.fieldLink RX6 28 "LockQuest" "search" "LLockQuest$Search;", Cond.fieldLink RX6 38 "LockQuest" "situation" "I", Cond.fieldLink RX6 124 "LockQuest$Search" "opening" "[I", Cond.methodLink RX6 118 yX4_findGoal, Cond.instanceMethod yX4_findGoal, Cond.selects RX4 yX4_findGoal yX4_findGoal, Cond.initialized RX4, Cond.code yX4_findGoal cX4_findGoal 3 (some .int), Cond.fieldLink RX4 41 "LockQuest$Search" "count" "I", Cond.fieldLink RX4 23 "LockQuest$Search" "found" "[I", Cond.methodLink RX4 37 yX4_begin, Cond.instanceMethod yX4_begin, Cond.selects RX4 yX4_begin yX4_begin, Cond.code yX4_begin cX4_begin 2 none, Cond.fieldLink RX4 12 "LockQuest$Search" "seen" "LLockQuest$Marks;", Cond.fieldLink RX4 27 "LockQuest$Search" "distance" "[I", Cond.methodLink RX4 52 yX3_clear, Cond.instanceMethod yX3_clear, Cond.selects RX3 yX3_clear yX3_clear, Cond.initialized RX3, Cond.code yX3_clear cX3_clear 1 none, Cond.fieldLink RX3 9 "LockQuest$Marks" "bits" "[J", Cond.methodLink RX3 15 yJ7_fill_d0a16, Cond.static yJ7_fill_d0a16]
def wsX6_hint_r2 : List Cond := [Cond.initialized RJ7, Cond.code yJ7_fill_d0a16 cJ7_fill_d0a16 5 none, Cond.methodLink RX4 61 yX3_add, Cond.instanceMethod yX3_add, Cond.selects RX3 yX3_add yX3_add, Cond.code yX3_add cX3_add 2 none, Cond.methodLink RX4 45 yX4_isAtGoal, Cond.instanceMethod yX4_isAtGoal, Cond.selects RX4 yX4_isAtGoal yX4_isAtGoal, Cond.code yX4_isAtGoal cX4_isAtGoal 2 (some .boolean), Cond.fieldLink RX4 33 "LockQuest$Search" "adventure" "LLockQuest$Adventure;", Cond.fieldLink RX4 87 "LockQuest$Adventure" "goalRoom" "I", Cond.methodLink RX4 69 yX5_roomOf, Cond.static yX5_roomOf, Cond.initialized RX5, Cond.code yX5_roomOf cX5_roomOf 1 (some .int), Cond.methodLink RX4 49 yX4_goOn, Cond.instanceMethod yX4_goOn, Cond.selects RX4 yX4_goOn yX4_goOn, Cond.code yX4_goOn cX4_goOn 5 none, Cond.fieldLink RX4 64 "LockQuest$Adventure" "doors" "[I", Cond.methodLink RX4 73 yX0_afterWalking, Cond.instanceMethod yX0_afterWalking, Cond.selects RX0 yX0_afterWalking yX0_afterWalking]
def wsX6_hint_r3 : List Cond := [Cond.initialized RX0, Cond.code yX0_afterWalking cX0_afterWalking 7 (some .int), Cond.fieldLink RX0 42 "LockQuest$Adventure" "beyond" "[[I", Cond.fieldLink RX0 18 "LockQuest$Adventure" "kind" "[I", Cond.fieldLink RX0 21 "LockQuest$Adventure" "smallNumber" "[I", Cond.methodLink RX0 53 yX5_roomOf, Cond.methodLink RX0 59 yX0_hasDoor, Cond.instanceMethod yX0_hasDoor, Cond.selects RX0 yX0_hasDoor yX0_hasDoor, Cond.code yX0_hasDoor cX0_hasDoor 3 (some .boolean), Cond.fieldLink RX0 37 "LockQuest$Adventure" "doors" "[I", Cond.methodLink RX0 49 yX0_hasRoom, Cond.instanceMethod yX0_hasRoom, Cond.selects RX0 yX0_hasRoom yX0_hasRoom, Cond.code yX0_hasRoom cX0_hasRoom 2 (some .boolean), Cond.fieldLink RX0 45 "LockQuest$Adventure" "rooms" "I", Cond.methodLink RX0 63 yX0_doorOwner, Cond.instanceMethod yX0_doorOwner, Cond.selects RX0 yX0_doorOwner yX0_doorOwner, Cond.code yX0_doorOwner cX0_doorOwner 3 (some .int), Cond.fieldLink RX0 9 "LockQuest$Adventure" "parent" "[I", Cond.methodLink RX0 67 yX0_opens, Cond.instanceMethod yX0_opens, Cond.selects RX0 yX0_opens yX0_opens]
def wsX6_hint_r4 : List Cond := [Cond.code yX0_opens cX0_opens 3 (some .boolean), Cond.fieldLink RX0 15 "LockQuest$Adventure" "level" "[I", Cond.methodLink RX0 79 yX5_hasKey, Cond.static yX5_hasKey, Cond.code yX5_hasKey cX5_hasKey 2 (some .boolean), Cond.methodLink RX5 17 yX5_keyBit, Cond.static yX5_keyBit, Cond.code yX5_keyBit cX5_keyBit 1 (some .int), Cond.methodLink RX0 82 yX5_hasOpened, Cond.static yX5_hasOpened, Cond.code yX5_hasOpened cX5_hasOpened 2 (some .boolean), Cond.methodLink RX5 20 yX5_openedBit, Cond.static yX5_openedBit, Cond.code yX5_openedBit cX5_openedBit 1 (some .int), Cond.methodLink RX0 85 yX5_smallKeysLeft, Cond.static yX5_smallKeysLeft, Cond.code yX5_smallKeysLeft cX5_smallKeysLeft 1 (some .int), Cond.methodLink RX5 11 yJ6_bitCount_0f7a4, Cond.static yJ6_bitCount_0f7a4, Cond.initialized RJ6, Cond.code yJ6_bitCount_0f7a4 cJ6_bitCount_0f7a4 1 (some .int), Cond.constant RJ6 265 (1431655765), Cond.constant RJ6 266 (858993459), Cond.constant RJ6 267 (252645135)]
def wsX6_hint_r5 : List Cond := [Cond.methodLink RX0 88 yX5_positionOf, Cond.static yX5_positionOf, Cond.code yX5_positionOf cX5_positionOf 1 (some .int), Cond.methodLink RX0 70 yX5_inRoom, Cond.static yX5_inRoom, Cond.code yX5_inRoom cX5_inRoom 2 (some .int), Cond.methodLink RX0 73 yX5_openedBit, Cond.methodLink RX4 77 yX4_reach, Cond.instanceMethod yX4_reach, Cond.selects RX4 yX4_reach yX4_reach, Cond.code yX4_reach cX4_reach 4 none, Cond.fieldLink RX4 30 "LockQuest$Search" "opening" "[I", Cond.methodLink RX4 55 yX3_has, Cond.instanceMethod yX3_has, Cond.selects RX3 yX3_has yX3_has, Cond.code yX3_has cX3_has 2 (some .boolean), Cond.methodLink RX4 81 yX0_afterTaking, Cond.instanceMethod yX0_afterTaking, Cond.selects RX0 yX0_afterTaking yX0_afterTaking, Cond.code yX0_afterTaking cX0_afterTaking 2 (some .int), Cond.fieldLink RX0 30 "LockQuest$Adventure" "lying" "[I", Cond.methodLink RX4 84 yX0_afterToggling, Cond.instanceMethod yX0_afterToggling, Cond.selects RX0 yX0_afterToggling yX0_afterToggling]
def wsX6_hint_r6 : List Cond := [Cond.code yX0_afterToggling cX0_afterToggling 2 (some .int), Cond.fieldLink RX0 33 "LockQuest$Adventure" "switched" "[Z", Cond.methodLink RX0 76 yX5_toggled, Cond.static yX5_toggled, Cond.code yX5_toggled cX5_toggled 1 (some .int)]
def wsX6_hint : List Cond := .code yX6_hint cX6_hint 2 (some .int) :: ((wsX6_hint_r1 ++ (wsX6_hint_r2 ++ (wsX6_hint_r3 ++ (wsX6_hint_r4 ++ (wsX6_hint_r5 ++ wsX6_hint_r6))))) ++ wsX60 ++ wsX40 ++ wsX30 ++ wsX00)
def wsX6_situations_r1 : List Cond := [Cond.fieldLink RX6 28 "LockQuest" "search" "LLockQuest$Search;", Cond.fieldLink RX6 38 "LockQuest" "situation" "I", Cond.fieldLink RX6 131 "LockQuest$Search" "count" "I", Cond.methodLink RX6 127 yX4_findAll, Cond.instanceMethod yX4_findAll, Cond.selects RX4 yX4_findAll yX4_findAll, Cond.initialized RX4, Cond.code yX4_findAll cX4_findAll 3 none, Cond.fieldLink RX4 41 "LockQuest$Search" "count" "I", Cond.methodLink RX4 37 yX4_begin, Cond.instanceMethod yX4_begin, Cond.selects RX4 yX4_begin yX4_begin, Cond.code yX4_begin cX4_begin 2 none, Cond.fieldLink RX4 12 "LockQuest$Search" "seen" "LLockQuest$Marks;", Cond.fieldLink RX4 23 "LockQuest$Search" "found" "[I", Cond.fieldLink RX4 27 "LockQuest$Search" "distance" "[I", Cond.methodLink RX4 52 yX3_clear, Cond.instanceMethod yX3_clear, Cond.selects RX3 yX3_clear yX3_clear, Cond.initialized RX3, Cond.code yX3_clear cX3_clear 1 none, Cond.fieldLink RX3 9 "LockQuest$Marks" "bits" "[J", Cond.methodLink RX3 15 yJ7_fill_d0a16, Cond.static yJ7_fill_d0a16]
def wsX6_situations_r2 : List Cond := [Cond.initialized RJ7, Cond.code yJ7_fill_d0a16 cJ7_fill_d0a16 5 none, Cond.methodLink RX4 61 yX3_add, Cond.instanceMethod yX3_add, Cond.selects RX3 yX3_add yX3_add, Cond.code yX3_add cX3_add 2 none, Cond.methodLink RX4 49 yX4_goOn, Cond.instanceMethod yX4_goOn, Cond.selects RX4 yX4_goOn yX4_goOn, Cond.code yX4_goOn cX4_goOn 5 none, Cond.fieldLink RX4 33 "LockQuest$Search" "adventure" "LLockQuest$Adventure;", Cond.fieldLink RX4 64 "LockQuest$Adventure" "doors" "[I", Cond.methodLink RX4 69 yX5_roomOf, Cond.static yX5_roomOf, Cond.initialized RX5, Cond.code yX5_roomOf cX5_roomOf 1 (some .int), Cond.methodLink RX4 73 yX0_afterWalking, Cond.instanceMethod yX0_afterWalking, Cond.selects RX0 yX0_afterWalking yX0_afterWalking, Cond.initialized RX0, Cond.code yX0_afterWalking cX0_afterWalking 7 (some .int), Cond.fieldLink RX0 42 "LockQuest$Adventure" "beyond" "[[I", Cond.fieldLink RX0 18 "LockQuest$Adventure" "kind" "[I", Cond.fieldLink RX0 21 "LockQuest$Adventure" "smallNumber" "[I"]
def wsX6_situations_r3 : List Cond := [Cond.methodLink RX0 53 yX5_roomOf, Cond.methodLink RX0 59 yX0_hasDoor, Cond.instanceMethod yX0_hasDoor, Cond.selects RX0 yX0_hasDoor yX0_hasDoor, Cond.code yX0_hasDoor cX0_hasDoor 3 (some .boolean), Cond.fieldLink RX0 37 "LockQuest$Adventure" "doors" "[I", Cond.methodLink RX0 49 yX0_hasRoom, Cond.instanceMethod yX0_hasRoom, Cond.selects RX0 yX0_hasRoom yX0_hasRoom, Cond.code yX0_hasRoom cX0_hasRoom 2 (some .boolean), Cond.fieldLink RX0 45 "LockQuest$Adventure" "rooms" "I", Cond.methodLink RX0 63 yX0_doorOwner, Cond.instanceMethod yX0_doorOwner, Cond.selects RX0 yX0_doorOwner yX0_doorOwner, Cond.code yX0_doorOwner cX0_doorOwner 3 (some .int), Cond.fieldLink RX0 9 "LockQuest$Adventure" "parent" "[I", Cond.methodLink RX0 67 yX0_opens, Cond.instanceMethod yX0_opens, Cond.selects RX0 yX0_opens yX0_opens, Cond.code yX0_opens cX0_opens 3 (some .boolean), Cond.fieldLink RX0 15 "LockQuest$Adventure" "level" "[I", Cond.methodLink RX0 79 yX5_hasKey, Cond.static yX5_hasKey, Cond.code yX5_hasKey cX5_hasKey 2 (some .boolean)]
def wsX6_situations_r4 : List Cond := [Cond.methodLink RX5 17 yX5_keyBit, Cond.static yX5_keyBit, Cond.code yX5_keyBit cX5_keyBit 1 (some .int), Cond.methodLink RX0 82 yX5_hasOpened, Cond.static yX5_hasOpened, Cond.code yX5_hasOpened cX5_hasOpened 2 (some .boolean), Cond.methodLink RX5 20 yX5_openedBit, Cond.static yX5_openedBit, Cond.code yX5_openedBit cX5_openedBit 1 (some .int), Cond.methodLink RX0 85 yX5_smallKeysLeft, Cond.static yX5_smallKeysLeft, Cond.code yX5_smallKeysLeft cX5_smallKeysLeft 1 (some .int), Cond.methodLink RX5 11 yJ6_bitCount_0f7a4, Cond.static yJ6_bitCount_0f7a4, Cond.initialized RJ6, Cond.code yJ6_bitCount_0f7a4 cJ6_bitCount_0f7a4 1 (some .int), Cond.constant RJ6 265 (1431655765), Cond.constant RJ6 266 (858993459), Cond.constant RJ6 267 (252645135), Cond.methodLink RX0 88 yX5_positionOf, Cond.static yX5_positionOf, Cond.code yX5_positionOf cX5_positionOf 1 (some .int), Cond.methodLink RX0 70 yX5_inRoom, Cond.static yX5_inRoom]
def wsX6_situations_r5 : List Cond := [Cond.code yX5_inRoom cX5_inRoom 2 (some .int), Cond.methodLink RX0 73 yX5_openedBit, Cond.methodLink RX4 77 yX4_reach, Cond.instanceMethod yX4_reach, Cond.selects RX4 yX4_reach yX4_reach, Cond.code yX4_reach cX4_reach 4 none, Cond.fieldLink RX4 30 "LockQuest$Search" "opening" "[I", Cond.methodLink RX4 55 yX3_has, Cond.instanceMethod yX3_has, Cond.selects RX3 yX3_has yX3_has, Cond.code yX3_has cX3_has 2 (some .boolean), Cond.methodLink RX4 81 yX0_afterTaking, Cond.instanceMethod yX0_afterTaking, Cond.selects RX0 yX0_afterTaking yX0_afterTaking, Cond.code yX0_afterTaking cX0_afterTaking 2 (some .int), Cond.fieldLink RX0 30 "LockQuest$Adventure" "lying" "[I", Cond.methodLink RX4 84 yX0_afterToggling, Cond.instanceMethod yX0_afterToggling, Cond.selects RX0 yX0_afterToggling yX0_afterToggling, Cond.code yX0_afterToggling cX0_afterToggling 2 (some .int), Cond.fieldLink RX0 33 "LockQuest$Adventure" "switched" "[Z", Cond.methodLink RX0 76 yX5_toggled, Cond.static yX5_toggled, Cond.code yX5_toggled cX5_toggled 1 (some .int)]
def wsX6_situations : List Cond := .code yX6_situations cX6_situations 1 (some .int) :: ((wsX6_situations_r1 ++ (wsX6_situations_r2 ++ (wsX6_situations_r3 ++ (wsX6_situations_r4 ++ wsX6_situations_r5)))) ++ wsX60 ++ wsX40 ++ wsX30 ++ wsX00)
def wsX6_safe_r1 : List Cond := [Cond.fieldLink RX6 28 "LockQuest" "search" "LLockQuest$Search;", Cond.fieldLink RX6 38 "LockQuest" "situation" "I", Cond.methodLink RX6 127 yX4_findAll, Cond.instanceMethod yX4_findAll, Cond.selects RX4 yX4_findAll yX4_findAll, Cond.initialized RX4, Cond.code yX4_findAll cX4_findAll 3 none, Cond.fieldLink RX4 41 "LockQuest$Search" "count" "I", Cond.methodLink RX4 37 yX4_begin, Cond.instanceMethod yX4_begin, Cond.selects RX4 yX4_begin yX4_begin, Cond.code yX4_begin cX4_begin 2 none, Cond.fieldLink RX4 12 "LockQuest$Search" "seen" "LLockQuest$Marks;", Cond.fieldLink RX4 23 "LockQuest$Search" "found" "[I", Cond.fieldLink RX4 27 "LockQuest$Search" "distance" "[I", Cond.methodLink RX4 52 yX3_clear, Cond.instanceMethod yX3_clear, Cond.selects RX3 yX3_clear yX3_clear, Cond.initialized RX3, Cond.code yX3_clear cX3_clear 1 none, Cond.fieldLink RX3 9 "LockQuest$Marks" "bits" "[J", Cond.methodLink RX3 15 yJ7_fill_d0a16, Cond.static yJ7_fill_d0a16, Cond.initialized RJ7]
def wsX6_safe_r2 : List Cond := [Cond.code yJ7_fill_d0a16 cJ7_fill_d0a16 5 none, Cond.methodLink RX4 61 yX3_add, Cond.instanceMethod yX3_add, Cond.selects RX3 yX3_add yX3_add, Cond.code yX3_add cX3_add 2 none, Cond.methodLink RX4 49 yX4_goOn, Cond.instanceMethod yX4_goOn, Cond.selects RX4 yX4_goOn yX4_goOn, Cond.code yX4_goOn cX4_goOn 5 none, Cond.fieldLink RX4 33 "LockQuest$Search" "adventure" "LLockQuest$Adventure;", Cond.fieldLink RX4 64 "LockQuest$Adventure" "doors" "[I", Cond.methodLink RX4 69 yX5_roomOf, Cond.static yX5_roomOf, Cond.initialized RX5, Cond.code yX5_roomOf cX5_roomOf 1 (some .int), Cond.methodLink RX4 73 yX0_afterWalking, Cond.instanceMethod yX0_afterWalking, Cond.selects RX0 yX0_afterWalking yX0_afterWalking, Cond.initialized RX0, Cond.code yX0_afterWalking cX0_afterWalking 7 (some .int), Cond.fieldLink RX0 42 "LockQuest$Adventure" "beyond" "[[I", Cond.fieldLink RX0 18 "LockQuest$Adventure" "kind" "[I", Cond.fieldLink RX0 21 "LockQuest$Adventure" "smallNumber" "[I", Cond.methodLink RX0 53 yX5_roomOf]
def wsX6_safe_r3 : List Cond := [Cond.methodLink RX0 59 yX0_hasDoor, Cond.instanceMethod yX0_hasDoor, Cond.selects RX0 yX0_hasDoor yX0_hasDoor, Cond.code yX0_hasDoor cX0_hasDoor 3 (some .boolean), Cond.fieldLink RX0 37 "LockQuest$Adventure" "doors" "[I", Cond.methodLink RX0 49 yX0_hasRoom, Cond.instanceMethod yX0_hasRoom, Cond.selects RX0 yX0_hasRoom yX0_hasRoom, Cond.code yX0_hasRoom cX0_hasRoom 2 (some .boolean), Cond.fieldLink RX0 45 "LockQuest$Adventure" "rooms" "I", Cond.methodLink RX0 63 yX0_doorOwner, Cond.instanceMethod yX0_doorOwner, Cond.selects RX0 yX0_doorOwner yX0_doorOwner, Cond.code yX0_doorOwner cX0_doorOwner 3 (some .int), Cond.fieldLink RX0 9 "LockQuest$Adventure" "parent" "[I", Cond.methodLink RX0 67 yX0_opens, Cond.instanceMethod yX0_opens, Cond.selects RX0 yX0_opens yX0_opens, Cond.code yX0_opens cX0_opens 3 (some .boolean), Cond.fieldLink RX0 15 "LockQuest$Adventure" "level" "[I", Cond.methodLink RX0 79 yX5_hasKey, Cond.static yX5_hasKey, Cond.code yX5_hasKey cX5_hasKey 2 (some .boolean), Cond.methodLink RX5 17 yX5_keyBit]
def wsX6_safe_r4 : List Cond := [Cond.static yX5_keyBit, Cond.code yX5_keyBit cX5_keyBit 1 (some .int), Cond.methodLink RX0 82 yX5_hasOpened, Cond.static yX5_hasOpened, Cond.code yX5_hasOpened cX5_hasOpened 2 (some .boolean), Cond.methodLink RX5 20 yX5_openedBit, Cond.static yX5_openedBit, Cond.code yX5_openedBit cX5_openedBit 1 (some .int), Cond.methodLink RX0 85 yX5_smallKeysLeft, Cond.static yX5_smallKeysLeft, Cond.code yX5_smallKeysLeft cX5_smallKeysLeft 1 (some .int), Cond.methodLink RX5 11 yJ6_bitCount_0f7a4, Cond.static yJ6_bitCount_0f7a4, Cond.initialized RJ6, Cond.code yJ6_bitCount_0f7a4 cJ6_bitCount_0f7a4 1 (some .int), Cond.constant RJ6 265 (1431655765), Cond.constant RJ6 266 (858993459), Cond.constant RJ6 267 (252645135), Cond.methodLink RX0 88 yX5_positionOf, Cond.static yX5_positionOf, Cond.code yX5_positionOf cX5_positionOf 1 (some .int), Cond.methodLink RX0 70 yX5_inRoom, Cond.static yX5_inRoom, Cond.code yX5_inRoom cX5_inRoom 2 (some .int)]
def wsX6_safe_r5 : List Cond := [Cond.methodLink RX0 73 yX5_openedBit, Cond.methodLink RX4 77 yX4_reach, Cond.instanceMethod yX4_reach, Cond.selects RX4 yX4_reach yX4_reach, Cond.code yX4_reach cX4_reach 4 none, Cond.fieldLink RX4 30 "LockQuest$Search" "opening" "[I", Cond.methodLink RX4 55 yX3_has, Cond.instanceMethod yX3_has, Cond.selects RX3 yX3_has yX3_has, Cond.code yX3_has cX3_has 2 (some .boolean), Cond.methodLink RX4 81 yX0_afterTaking, Cond.instanceMethod yX0_afterTaking, Cond.selects RX0 yX0_afterTaking yX0_afterTaking, Cond.code yX0_afterTaking cX0_afterTaking 2 (some .int), Cond.fieldLink RX0 30 "LockQuest$Adventure" "lying" "[I", Cond.methodLink RX4 84 yX0_afterToggling, Cond.instanceMethod yX0_afterToggling, Cond.selects RX0 yX0_afterToggling yX0_afterToggling, Cond.code yX0_afterToggling cX0_afterToggling 2 (some .int), Cond.fieldLink RX0 33 "LockQuest$Adventure" "switched" "[Z", Cond.methodLink RX0 76 yX5_toggled, Cond.static yX5_toggled, Cond.code yX5_toggled cX5_toggled 1 (some .int), Cond.methodLink RX6 134 yX4_allLeadToGoal]
def wsX6_safe_r6 : List Cond := [Cond.instanceMethod yX4_allLeadToGoal, Cond.selects RX4 yX4_allLeadToGoal yX4_allLeadToGoal, Cond.code yX4_allLeadToGoal cX4_allLeadToGoal 6 (some .boolean), Cond.fieldLink RX4 18 "LockQuest$Search" "saved" "LLockQuest$Marks;", Cond.methodLink RX4 45 yX4_isAtGoal, Cond.instanceMethod yX4_isAtGoal, Cond.selects RX4 yX4_isAtGoal yX4_isAtGoal, Cond.code yX4_isAtGoal cX4_isAtGoal 2 (some .boolean), Cond.fieldLink RX4 87 "LockQuest$Adventure" "goalRoom" "I", Cond.methodLink RX4 58 yX4_leadsToSaved, Cond.instanceMethod yX4_leadsToSaved, Cond.selects RX4 yX4_leadsToSaved yX4_leadsToSaved, Cond.code yX4_leadsToSaved cX4_leadsToSaved 4 (some .boolean), Cond.methodLink RX4 90 yX4_isSaved, Cond.instanceMethod yX4_isSaved, Cond.selects RX4 yX4_isSaved yX4_isSaved, Cond.code yX4_isSaved cX4_isSaved 2 (some .boolean)]
def wsX6_safe : List Cond := .code yX6_safe cX6_safe 1 (some .boolean) :: ((wsX6_safe_r1 ++ (wsX6_safe_r2 ++ (wsX6_safe_r3 ++ (wsX6_safe_r4 ++ (wsX6_safe_r5 ++ wsX6_safe_r6))))) ++ wsX60 ++ wsX40 ++ wsX30 ++ wsX00)
def wsX7_clear : List Cond := .code yX7_clear cX7_clear 3 none :: ([.fieldLink RX7 7 "LockQuestModel" "parent" "[I", .fieldLink RX7 13 "LockQuestModel" "level" "[I", .fieldLink RX7 16 "LockQuestModel" "kind" "[I", .fieldLink RX7 22 "LockQuestModel" "x" "[I", .fieldLink RX7 25 "LockQuestModel" "y" "[I", .fieldLink RX7 28 "LockQuestModel" "lying" "[I", .fieldLink RX7 31 "LockQuestModel" "switches" "[Z", .fieldLink RX7 35 "LockQuestModel" "loop" "[Z", .fieldLink RX7 72 "LockQuestModel" "smallDoors" "I", .fieldLink RX7 83 "LockQuestModel" "now" "I"] ++ wsX70)
def wsX7_draw : List Cond := .code yX7_draw cX7_draw 2 (some .int) :: ([.fieldLink RX7 48 "LockQuestModel" "state" "J", .constantLong RX7 52 (6364136223846793005), .constantLong RX7 54 (1442695040888963407)] ++ wsX70)
def wsX7_drawn : List Cond := .code yX7_drawn cX7_drawn 4 (some .int) :: ([.fieldLink RX7 56 "LockQuestModel" "rooms" "I", .fieldLink RX7 38 "LockQuestModel" "chosen" "[Z", .methodLink RX7 60 yX7_draw, .instanceMethod yX7_draw, .selects RX7 yX7_draw yX7_draw, .initialized RX7, .code yX7_draw cX7_draw 2 (some .int), .fieldLink RX7 48 "LockQuestModel" "state" "J", .constantLong RX7 52 (6364136223846793005), .constantLong RX7 54 (1442695040888963407)] ++ wsX70)
def wsX7_makeRooms : List Cond := .code yX7_makeRooms cX7_makeRooms 6 none :: ([.fieldLink RX7 56 "LockQuestModel" "rooms" "I", .fieldLink RX7 38 "LockQuestModel" "chosen" "[Z", .fieldLink RX7 13 "LockQuestModel" "level" "[I", .fieldLink RX7 7 "LockQuestModel" "parent" "[I", .fieldLink RX7 16 "LockQuestModel" "kind" "[I", .methodLink RX7 64 yX7_drawn, .instanceMethod yX7_drawn, .selects RX7 yX7_drawn yX7_drawn, .initialized RX7, .code yX7_drawn cX7_drawn 4 (some .int), .methodLink RX7 60 yX7_draw, .instanceMethod yX7_draw, .selects RX7 yX7_draw yX7_draw, .code yX7_draw cX7_draw 2 (some .int), .fieldLink RX7 48 "LockQuestModel" "state" "J", .constantLong RX7 52 (6364136223846793005), .constantLong RX7 54 (1442695040888963407)] ++ wsX70)
def wsX7_choosePlain : List Cond := .code yX7_choosePlain cX7_choosePlain 3 (some .boolean) :: ([.fieldLink RX7 56 "LockQuestModel" "rooms" "I", .fieldLink RX7 38 "LockQuestModel" "chosen" "[Z", .fieldLink RX7 16 "LockQuestModel" "kind" "[I"] ++ wsX70)
def wsX7_open : List Cond := .code yX7_open cX7_open 3 (some .boolean) :: ([.fieldLink RX7 16 "LockQuestModel" "kind" "[I", .fieldLink RX7 7 "LockQuestModel" "parent" "[I"] ++ wsX70)
def wsX7_makeKeys_r1 : List Cond := [Cond.fieldLink RX7 56 "LockQuestModel" "rooms" "I", Cond.fieldLink RX7 38 "LockQuestModel" "chosen" "[Z", Cond.fieldLink RX7 13 "LockQuestModel" "level" "[I", Cond.fieldLink RX7 28 "LockQuestModel" "lying" "[I", Cond.fieldLink RX7 16 "LockQuestModel" "kind" "[I", Cond.fieldLink RX7 19 "LockQuestModel" "number" "[I", Cond.fieldLink RX7 72 "LockQuestModel" "smallDoors" "I", Cond.methodLink RX7 64 yX7_drawn, Cond.instanceMethod yX7_drawn, Cond.selects RX7 yX7_drawn yX7_drawn, Cond.initialized RX7, Cond.code yX7_drawn cX7_drawn 4 (some .int), Cond.methodLink RX7 60 yX7_draw, Cond.instanceMethod yX7_draw, Cond.selects RX7 yX7_draw yX7_draw, Cond.code yX7_draw cX7_draw 2 (some .int), Cond.fieldLink RX7 48 "LockQuestModel" "state" "J", Cond.constantLong RX7 52 (6364136223846793005), Cond.constantLong RX7 54 (1442695040888963407), Cond.methodLink RX7 68 yX7_choosePlain, Cond.instanceMethod yX7_choosePlain, Cond.selects RX7 yX7_choosePlain yX7_choosePlain, Cond.code yX7_choosePlain cX7_choosePlain 3 (some .boolean), Cond.methodLink RX7 75 yX7_open]
def wsX7_makeKeys_r2 : List Cond := [Cond.instanceMethod yX7_open, Cond.selects RX7 yX7_open yX7_open, Cond.code yX7_open cX7_open 3 (some .boolean), Cond.fieldLink RX7 7 "LockQuestModel" "parent" "[I"]
def wsX7_makeKeys : List Cond := .code yX7_makeKeys cX7_makeKeys 5 none :: ((wsX7_makeKeys_r1 ++ wsX7_makeKeys_r2) ++ wsX70)
def wsX7_makeBarriers : List Cond := .code yX7_makeBarriers cX7_makeBarriers 4 none :: ([.fieldLink RX7 16 "LockQuestModel" "kind" "[I", .fieldLink RX7 31 "LockQuestModel" "switches" "[Z", .fieldLink RX7 7 "LockQuestModel" "parent" "[I", .methodLink RX7 68 yX7_choosePlain, .instanceMethod yX7_choosePlain, .selects RX7 yX7_choosePlain yX7_choosePlain, .initialized RX7, .code yX7_choosePlain cX7_choosePlain 3 (some .boolean), .fieldLink RX7 56 "LockQuestModel" "rooms" "I", .fieldLink RX7 38 "LockQuestModel" "chosen" "[Z", .methodLink RX7 64 yX7_drawn, .instanceMethod yX7_drawn, .selects RX7 yX7_drawn yX7_drawn, .code yX7_drawn cX7_drawn 4 (some .int), .methodLink RX7 60 yX7_draw, .instanceMethod yX7_draw, .selects RX7 yX7_draw yX7_draw, .code yX7_draw cX7_draw 2 (some .int), .fieldLink RX7 48 "LockQuestModel" "state" "J", .constantLong RX7 52 (6364136223846793005), .constantLong RX7 54 (1442695040888963407)] ++ wsX70)
def wsX7_occupied : List Cond := .code yX7_occupied cX7_occupied 5 (some .boolean) :: ([.fieldLink RX7 22 "LockQuestModel" "x" "[I", .fieldLink RX7 25 "LockQuestModel" "y" "[I"] ++ wsX70)
def wsX7_makePlaces : List Cond := .code yX7_makePlaces cX7_makePlaces 5 none :: ([.fieldLink RX7 56 "LockQuestModel" "rooms" "I", .fieldLink RX7 22 "LockQuestModel" "x" "[I", .fieldLink RX7 7 "LockQuestModel" "parent" "[I", .fieldLink RX7 25 "LockQuestModel" "y" "[I", .methodLink RX7 60 yX7_draw, .instanceMethod yX7_draw, .selects RX7 yX7_draw yX7_draw, .initialized RX7, .code yX7_draw cX7_draw 2 (some .int), .fieldLink RX7 48 "LockQuestModel" "state" "J", .constantLong RX7 52 (6364136223846793005), .constantLong RX7 54 (1442695040888963407), .methodLink RX7 79 yX7_occupied, .instanceMethod yX7_occupied, .selects RX7 yX7_occupied yX7_occupied, .code yX7_occupied cX7_occupied 5 (some .boolean)] ++ wsX70)
def wsX7_makeLoops : List Cond := .code yX7_makeLoops cX7_makeLoops 7 (some .int) :: ([.fieldLink RX7 56 "LockQuestModel" "rooms" "I", .fieldLink RX7 22 "LockQuestModel" "x" "[I", .fieldLink RX7 25 "LockQuestModel" "y" "[I", .fieldLink RX7 13 "LockQuestModel" "level" "[I", .fieldLink RX7 7 "LockQuestModel" "parent" "[I", .fieldLink RX7 35 "LockQuestModel" "loop" "[Z", .methodLink RX7 60 yX7_draw, .instanceMethod yX7_draw, .selects RX7 yX7_draw yX7_draw, .initialized RX7, .code yX7_draw cX7_draw 2 (some .int), .fieldLink RX7 48 "LockQuestModel" "state" "J", .constantLong RX7 52 (6364136223846793005), .constantLong RX7 54 (1442695040888963407)] ++ wsX70)
def wsX7_make_r1 : List Cond := [Cond.fieldLink RX7 48 "LockQuestModel" "state" "J", Cond.fieldLink RX7 56 "LockQuestModel" "rooms" "I", Cond.fieldLink RX7 38 "LockQuestModel" "chosen" "[Z", Cond.fieldLink RX7 13 "LockQuestModel" "level" "[I", Cond.fieldLink RX7 100 "LockQuestModel" "goal" "I", Cond.methodLink RX7 86 yX7_clear, Cond.instanceMethod yX7_clear, Cond.selects RX7 yX7_clear yX7_clear, Cond.initialized RX7, Cond.code yX7_clear cX7_clear 3 none, Cond.fieldLink RX7 7 "LockQuestModel" "parent" "[I", Cond.fieldLink RX7 16 "LockQuestModel" "kind" "[I", Cond.fieldLink RX7 22 "LockQuestModel" "x" "[I", Cond.fieldLink RX7 25 "LockQuestModel" "y" "[I", Cond.fieldLink RX7 28 "LockQuestModel" "lying" "[I", Cond.fieldLink RX7 31 "LockQuestModel" "switches" "[Z", Cond.fieldLink RX7 35 "LockQuestModel" "loop" "[Z", Cond.fieldLink RX7 72 "LockQuestModel" "smallDoors" "I", Cond.fieldLink RX7 83 "LockQuestModel" "now" "I", Cond.methodLink RX7 89 yX7_makeRooms, Cond.instanceMethod yX7_makeRooms, Cond.selects RX7 yX7_makeRooms yX7_makeRooms, Cond.code yX7_makeRooms cX7_makeRooms 6 none, Cond.methodLink RX7 64 yX7_drawn]
def wsX7_make_r2 : List Cond := [Cond.instanceMethod yX7_drawn, Cond.selects RX7 yX7_drawn yX7_drawn, Cond.code yX7_drawn cX7_drawn 4 (some .int), Cond.methodLink RX7 60 yX7_draw, Cond.instanceMethod yX7_draw, Cond.selects RX7 yX7_draw yX7_draw, Cond.code yX7_draw cX7_draw 2 (some .int), Cond.constantLong RX7 52 (6364136223846793005), Cond.constantLong RX7 54 (1442695040888963407), Cond.methodLink RX7 93 yX7_makeKeys, Cond.instanceMethod yX7_makeKeys, Cond.selects RX7 yX7_makeKeys yX7_makeKeys, Cond.code yX7_makeKeys cX7_makeKeys 5 none, Cond.fieldLink RX7 19 "LockQuestModel" "number" "[I", Cond.methodLink RX7 68 yX7_choosePlain, Cond.instanceMethod yX7_choosePlain, Cond.selects RX7 yX7_choosePlain yX7_choosePlain, Cond.code yX7_choosePlain cX7_choosePlain 3 (some .boolean), Cond.methodLink RX7 75 yX7_open, Cond.instanceMethod yX7_open, Cond.selects RX7 yX7_open yX7_open, Cond.code yX7_open cX7_open 3 (some .boolean), Cond.methodLink RX7 97 yX7_makeBarriers, Cond.instanceMethod yX7_makeBarriers]
def wsX7_make_r3 : List Cond := [Cond.selects RX7 yX7_makeBarriers yX7_makeBarriers, Cond.code yX7_makeBarriers cX7_makeBarriers 4 none, Cond.methodLink RX7 103 yX7_makePlaces, Cond.instanceMethod yX7_makePlaces, Cond.selects RX7 yX7_makePlaces yX7_makePlaces, Cond.code yX7_makePlaces cX7_makePlaces 5 none, Cond.methodLink RX7 79 yX7_occupied, Cond.instanceMethod yX7_occupied, Cond.selects RX7 yX7_occupied yX7_occupied, Cond.code yX7_occupied cX7_occupied 5 (some .boolean), Cond.methodLink RX7 106 yX7_makeLoops, Cond.instanceMethod yX7_makeLoops, Cond.selects RX7 yX7_makeLoops yX7_makeLoops, Cond.code yX7_makeLoops cX7_makeLoops 7 (some .int)]
def wsX7_make : List Cond := .code yX7_make cX7_make 8 (some .int) :: ((wsX7_make_r1 ++ (wsX7_make_r2 ++ wsX7_make_r3)) ++ wsX70)
def wsX7_init_r1 : List Cond := [Cond.methodLink RX7 1 objectInit, Cond.instanceMethod objectInit, Cond.code objectInit ⟨#[0xb1]⟩ 1 none, Cond.arrayClass .int, Cond.fieldLink RX7 7 "LockQuestModel" "parent" "[I", Cond.fieldLink RX7 13 "LockQuestModel" "level" "[I", Cond.fieldLink RX7 16 "LockQuestModel" "kind" "[I", Cond.fieldLink RX7 19 "LockQuestModel" "number" "[I", Cond.fieldLink RX7 22 "LockQuestModel" "x" "[I", Cond.fieldLink RX7 25 "LockQuestModel" "y" "[I", Cond.fieldLink RX7 28 "LockQuestModel" "lying" "[I", Cond.arrayClass .boolean, Cond.fieldLink RX7 31 "LockQuestModel" "switches" "[Z", Cond.fieldLink RX7 35 "LockQuestModel" "loop" "[Z", Cond.fieldLink RX7 38 "LockQuestModel" "chosen" "[Z", Cond.fieldLink RX7 41 "LockQuestModel" "met" "[I", Cond.methodLink RX7 44 yX7_make, Cond.instanceMethod yX7_make, Cond.selects RX7 yX7_make yX7_make, Cond.initialized RX7, Cond.code yX7_make cX7_make 8 (some .int), Cond.fieldLink RX7 48 "LockQuestModel" "state" "J", Cond.fieldLink RX7 56 "LockQuestModel" "rooms" "I", Cond.fieldLink RX7 100 "LockQuestModel" "goal" "I"]
def wsX7_init_r2 : List Cond := [Cond.methodLink RX7 86 yX7_clear, Cond.instanceMethod yX7_clear, Cond.selects RX7 yX7_clear yX7_clear, Cond.code yX7_clear cX7_clear 3 none, Cond.fieldLink RX7 72 "LockQuestModel" "smallDoors" "I", Cond.fieldLink RX7 83 "LockQuestModel" "now" "I", Cond.methodLink RX7 89 yX7_makeRooms, Cond.instanceMethod yX7_makeRooms, Cond.selects RX7 yX7_makeRooms yX7_makeRooms, Cond.code yX7_makeRooms cX7_makeRooms 6 none, Cond.methodLink RX7 64 yX7_drawn, Cond.instanceMethod yX7_drawn, Cond.selects RX7 yX7_drawn yX7_drawn, Cond.code yX7_drawn cX7_drawn 4 (some .int), Cond.methodLink RX7 60 yX7_draw, Cond.instanceMethod yX7_draw, Cond.selects RX7 yX7_draw yX7_draw, Cond.code yX7_draw cX7_draw 2 (some .int), Cond.constantLong RX7 52 (6364136223846793005), Cond.constantLong RX7 54 (1442695040888963407), Cond.methodLink RX7 93 yX7_makeKeys, Cond.instanceMethod yX7_makeKeys, Cond.selects RX7 yX7_makeKeys yX7_makeKeys, Cond.code yX7_makeKeys cX7_makeKeys 5 none]
def wsX7_init_r3 : List Cond := [Cond.methodLink RX7 68 yX7_choosePlain, Cond.instanceMethod yX7_choosePlain, Cond.selects RX7 yX7_choosePlain yX7_choosePlain, Cond.code yX7_choosePlain cX7_choosePlain 3 (some .boolean), Cond.methodLink RX7 75 yX7_open, Cond.instanceMethod yX7_open, Cond.selects RX7 yX7_open yX7_open, Cond.code yX7_open cX7_open 3 (some .boolean), Cond.methodLink RX7 97 yX7_makeBarriers, Cond.instanceMethod yX7_makeBarriers, Cond.selects RX7 yX7_makeBarriers yX7_makeBarriers, Cond.code yX7_makeBarriers cX7_makeBarriers 4 none, Cond.methodLink RX7 103 yX7_makePlaces, Cond.instanceMethod yX7_makePlaces, Cond.selects RX7 yX7_makePlaces yX7_makePlaces, Cond.code yX7_makePlaces cX7_makePlaces 5 none, Cond.methodLink RX7 79 yX7_occupied, Cond.instanceMethod yX7_occupied, Cond.selects RX7 yX7_occupied yX7_occupied, Cond.code yX7_occupied cX7_occupied 5 (some .boolean), Cond.methodLink RX7 106 yX7_makeLoops, Cond.instanceMethod yX7_makeLoops, Cond.selects RX7 yX7_makeLoops yX7_makeLoops, Cond.code yX7_makeLoops cX7_makeLoops 7 (some .int)]
def wsX7_init : List Cond := .code yX7_init cX7_init 2 none :: ((wsX7_init_r1 ++ (wsX7_init_r2 ++ wsX7_init_r3)) ++ wsX70)
def wsX7_beyond : List Cond := .code yX7_beyond cX7_beyond 5 (some .int) :: ([.fieldLink RX7 7 "LockQuestModel" "parent" "[I", .fieldLink RX7 56 "LockQuestModel" "rooms" "I", .fieldLink RX7 35 "LockQuestModel" "loop" "[Z"] ++ wsX70)
def wsX7_doors : List Cond := .code yX7_doors cX7_doors 4 (some .int) :: ([.fieldLink RX7 56 "LockQuestModel" "rooms" "I", .fieldLink RX7 7 "LockQuestModel" "parent" "[I", .fieldLink RX7 35 "LockQuestModel" "loop" "[Z"] ++ wsX70)
def wsX7_ones : List Cond := .code yX7_ones cX7_ones 1 (some .int) :: ([])
def wsX7_walked : List Cond := .code yX7_walked cX7_walked 7 (some .int) :: ([.fieldLink RX7 7 "LockQuestModel" "parent" "[I", .fieldLink RX7 16 "LockQuestModel" "kind" "[I", .fieldLink RX7 13 "LockQuestModel" "level" "[I", .fieldLink RX7 19 "LockQuestModel" "number" "[I", .methodLink RX7 109 yX7_beyond, .instanceMethod yX7_beyond, .selects RX7 yX7_beyond yX7_beyond, .initialized RX7, .code yX7_beyond cX7_beyond 5 (some .int), .fieldLink RX7 56 "LockQuestModel" "rooms" "I", .fieldLink RX7 35 "LockQuestModel" "loop" "[Z", .methodLink RX7 113 yX7_ones, .static yX7_ones, .code yX7_ones cX7_ones 1 (some .int)] ++ wsX70)
def wsX7_takeable : List Cond := .code yX7_takeable cX7_takeable 3 (some .int) :: ([.fieldLink RX7 28 "LockQuestModel" "lying" "[I"] ++ wsX70)
def wsX7_after_r1 : List Cond := [Cond.fieldLink RX7 31 "LockQuestModel" "switches" "[Z", Cond.methodLink RX7 116 yX7_takeable, Cond.instanceMethod yX7_takeable, Cond.selects RX7 yX7_takeable yX7_takeable, Cond.initialized RX7, Cond.code yX7_takeable cX7_takeable 3 (some .int), Cond.fieldLink RX7 28 "LockQuestModel" "lying" "[I", Cond.methodLink RX7 119 yX7_doors, Cond.instanceMethod yX7_doors, Cond.selects RX7 yX7_doors yX7_doors, Cond.code yX7_doors cX7_doors 4 (some .int), Cond.fieldLink RX7 56 "LockQuestModel" "rooms" "I", Cond.fieldLink RX7 7 "LockQuestModel" "parent" "[I", Cond.fieldLink RX7 35 "LockQuestModel" "loop" "[Z", Cond.methodLink RX7 122 yX7_walked, Cond.instanceMethod yX7_walked, Cond.selects RX7 yX7_walked yX7_walked, Cond.code yX7_walked cX7_walked 7 (some .int), Cond.fieldLink RX7 16 "LockQuestModel" "kind" "[I", Cond.fieldLink RX7 13 "LockQuestModel" "level" "[I", Cond.fieldLink RX7 19 "LockQuestModel" "number" "[I", Cond.methodLink RX7 109 yX7_beyond, Cond.instanceMethod yX7_beyond, Cond.selects RX7 yX7_beyond yX7_beyond]
def wsX7_after_r2 : List Cond := [Cond.code yX7_beyond cX7_beyond 5 (some .int), Cond.methodLink RX7 113 yX7_ones, Cond.static yX7_ones, Cond.code yX7_ones cX7_ones 1 (some .int)]
def wsX7_after : List Cond := .code yX7_after cX7_after 5 (some .int) :: ((wsX7_after_r1 ++ wsX7_after_r2) ++ wsX70)
def wsX7_nextAction : List Cond := .code yX7_nextAction cX7_nextAction 3 (some .int) :: ([.methodLink RX7 119 yX7_doors, .instanceMethod yX7_doors, .selects RX7 yX7_doors yX7_doors, .initialized RX7, .code yX7_doors cX7_doors 4 (some .int), .fieldLink RX7 56 "LockQuestModel" "rooms" "I", .fieldLink RX7 7 "LockQuestModel" "parent" "[I", .fieldLink RX7 35 "LockQuestModel" "loop" "[Z"] ++ wsX70)
def wsX7_meet : List Cond := .code yX7_meet cX7_meet 3 none :: ([.fieldLink RX7 41 "LockQuestModel" "met" "[I", .fieldLink RX7 125 "LockQuestModel" "last" "I", .fieldLink RX7 128 "LockQuestModel" "count" "I"] ++ wsX70)
def wsX7_spread_r1 : List Cond := [Cond.fieldLink RX7 41 "LockQuestModel" "met" "[I", Cond.fieldLink RX7 125 "LockQuestModel" "last" "I", Cond.fieldLink RX7 128 "LockQuestModel" "count" "I", Cond.fieldLink RX7 100 "LockQuestModel" "goal" "I", Cond.methodLink RX7 131 yX7_meet, Cond.instanceMethod yX7_meet, Cond.selects RX7 yX7_meet yX7_meet, Cond.initialized RX7, Cond.code yX7_meet cX7_meet 3 none, Cond.methodLink RX7 119 yX7_doors, Cond.instanceMethod yX7_doors, Cond.selects RX7 yX7_doors yX7_doors, Cond.code yX7_doors cX7_doors 4 (some .int), Cond.fieldLink RX7 56 "LockQuestModel" "rooms" "I", Cond.fieldLink RX7 7 "LockQuestModel" "parent" "[I", Cond.fieldLink RX7 35 "LockQuestModel" "loop" "[Z", Cond.methodLink RX7 134 yX7_after, Cond.instanceMethod yX7_after, Cond.selects RX7 yX7_after yX7_after, Cond.code yX7_after cX7_after 5 (some .int), Cond.fieldLink RX7 31 "LockQuestModel" "switches" "[Z", Cond.methodLink RX7 116 yX7_takeable, Cond.instanceMethod yX7_takeable, Cond.selects RX7 yX7_takeable yX7_takeable]
def wsX7_spread_r2 : List Cond := [Cond.code yX7_takeable cX7_takeable 3 (some .int), Cond.fieldLink RX7 28 "LockQuestModel" "lying" "[I", Cond.methodLink RX7 122 yX7_walked, Cond.instanceMethod yX7_walked, Cond.selects RX7 yX7_walked yX7_walked, Cond.code yX7_walked cX7_walked 7 (some .int), Cond.fieldLink RX7 16 "LockQuestModel" "kind" "[I", Cond.fieldLink RX7 13 "LockQuestModel" "level" "[I", Cond.fieldLink RX7 19 "LockQuestModel" "number" "[I", Cond.methodLink RX7 109 yX7_beyond, Cond.instanceMethod yX7_beyond, Cond.selects RX7 yX7_beyond yX7_beyond, Cond.code yX7_beyond cX7_beyond 5 (some .int), Cond.methodLink RX7 113 yX7_ones, Cond.static yX7_ones, Cond.code yX7_ones cX7_ones 1 (some .int), Cond.methodLink RX7 137 yX7_nextAction, Cond.instanceMethod yX7_nextAction, Cond.selects RX7 yX7_nextAction yX7_nextAction, Cond.code yX7_nextAction cX7_nextAction 3 (some .int)]
def wsX7_spread : List Cond := .code yX7_spread cX7_spread 6 (some .int) :: ((wsX7_spread_r1 ++ wsX7_spread_r2) ++ wsX70)
def wsX7_steps_r1 : List Cond := [Cond.fieldLink RX7 83 "LockQuestModel" "now" "I", Cond.methodLink RX7 140 yX7_spread, Cond.instanceMethod yX7_spread, Cond.selects RX7 yX7_spread yX7_spread, Cond.initialized RX7, Cond.code yX7_spread cX7_spread 6 (some .int), Cond.fieldLink RX7 41 "LockQuestModel" "met" "[I", Cond.fieldLink RX7 125 "LockQuestModel" "last" "I", Cond.fieldLink RX7 128 "LockQuestModel" "count" "I", Cond.fieldLink RX7 100 "LockQuestModel" "goal" "I", Cond.methodLink RX7 131 yX7_meet, Cond.instanceMethod yX7_meet, Cond.selects RX7 yX7_meet yX7_meet, Cond.code yX7_meet cX7_meet 3 none, Cond.methodLink RX7 119 yX7_doors, Cond.instanceMethod yX7_doors, Cond.selects RX7 yX7_doors yX7_doors, Cond.code yX7_doors cX7_doors 4 (some .int), Cond.fieldLink RX7 56 "LockQuestModel" "rooms" "I", Cond.fieldLink RX7 7 "LockQuestModel" "parent" "[I", Cond.fieldLink RX7 35 "LockQuestModel" "loop" "[Z", Cond.methodLink RX7 134 yX7_after, Cond.instanceMethod yX7_after, Cond.selects RX7 yX7_after yX7_after]
def wsX7_steps_r2 : List Cond := [Cond.code yX7_after cX7_after 5 (some .int), Cond.fieldLink RX7 31 "LockQuestModel" "switches" "[Z", Cond.methodLink RX7 116 yX7_takeable, Cond.instanceMethod yX7_takeable, Cond.selects RX7 yX7_takeable yX7_takeable, Cond.code yX7_takeable cX7_takeable 3 (some .int), Cond.fieldLink RX7 28 "LockQuestModel" "lying" "[I", Cond.methodLink RX7 122 yX7_walked, Cond.instanceMethod yX7_walked, Cond.selects RX7 yX7_walked yX7_walked, Cond.code yX7_walked cX7_walked 7 (some .int), Cond.fieldLink RX7 16 "LockQuestModel" "kind" "[I", Cond.fieldLink RX7 13 "LockQuestModel" "level" "[I", Cond.fieldLink RX7 19 "LockQuestModel" "number" "[I", Cond.methodLink RX7 109 yX7_beyond, Cond.instanceMethod yX7_beyond, Cond.selects RX7 yX7_beyond yX7_beyond, Cond.code yX7_beyond cX7_beyond 5 (some .int), Cond.methodLink RX7 113 yX7_ones, Cond.static yX7_ones, Cond.code yX7_ones cX7_ones 1 (some .int), Cond.methodLink RX7 137 yX7_nextAction, Cond.instanceMethod yX7_nextAction, Cond.selects RX7 yX7_nextAction yX7_nextAction]
def wsX7_steps_r3 : List Cond := [Cond.code yX7_nextAction cX7_nextAction 3 (some .int)]
def wsX7_steps : List Cond := .code yX7_steps cX7_steps 1 (some .int) :: ((wsX7_steps_r1 ++ (wsX7_steps_r2 ++ wsX7_steps_r3)) ++ wsX70)
def wsX7_hint_r1 : List Cond := [Cond.fieldLink RX7 83 "LockQuestModel" "now" "I", Cond.methodLink RX7 140 yX7_spread, Cond.instanceMethod yX7_spread, Cond.selects RX7 yX7_spread yX7_spread, Cond.initialized RX7, Cond.code yX7_spread cX7_spread 6 (some .int), Cond.fieldLink RX7 41 "LockQuestModel" "met" "[I", Cond.fieldLink RX7 125 "LockQuestModel" "last" "I", Cond.fieldLink RX7 128 "LockQuestModel" "count" "I", Cond.fieldLink RX7 100 "LockQuestModel" "goal" "I", Cond.methodLink RX7 131 yX7_meet, Cond.instanceMethod yX7_meet, Cond.selects RX7 yX7_meet yX7_meet, Cond.code yX7_meet cX7_meet 3 none, Cond.methodLink RX7 119 yX7_doors, Cond.instanceMethod yX7_doors, Cond.selects RX7 yX7_doors yX7_doors, Cond.code yX7_doors cX7_doors 4 (some .int), Cond.fieldLink RX7 56 "LockQuestModel" "rooms" "I", Cond.fieldLink RX7 7 "LockQuestModel" "parent" "[I", Cond.fieldLink RX7 35 "LockQuestModel" "loop" "[Z", Cond.methodLink RX7 134 yX7_after, Cond.instanceMethod yX7_after, Cond.selects RX7 yX7_after yX7_after]
def wsX7_hint_r2 : List Cond := [Cond.code yX7_after cX7_after 5 (some .int), Cond.fieldLink RX7 31 "LockQuestModel" "switches" "[Z", Cond.methodLink RX7 116 yX7_takeable, Cond.instanceMethod yX7_takeable, Cond.selects RX7 yX7_takeable yX7_takeable, Cond.code yX7_takeable cX7_takeable 3 (some .int), Cond.fieldLink RX7 28 "LockQuestModel" "lying" "[I", Cond.methodLink RX7 122 yX7_walked, Cond.instanceMethod yX7_walked, Cond.selects RX7 yX7_walked yX7_walked, Cond.code yX7_walked cX7_walked 7 (some .int), Cond.fieldLink RX7 16 "LockQuestModel" "kind" "[I", Cond.fieldLink RX7 13 "LockQuestModel" "level" "[I", Cond.fieldLink RX7 19 "LockQuestModel" "number" "[I", Cond.methodLink RX7 109 yX7_beyond, Cond.instanceMethod yX7_beyond, Cond.selects RX7 yX7_beyond yX7_beyond, Cond.code yX7_beyond cX7_beyond 5 (some .int), Cond.methodLink RX7 113 yX7_ones, Cond.static yX7_ones, Cond.code yX7_ones cX7_ones 1 (some .int), Cond.methodLink RX7 137 yX7_nextAction, Cond.instanceMethod yX7_nextAction, Cond.selects RX7 yX7_nextAction yX7_nextAction]
def wsX7_hint_r3 : List Cond := [Cond.code yX7_nextAction cX7_nextAction 3 (some .int)]
def wsX7_hint : List Cond := .code yX7_hint cX7_hint 4 (some .int) :: ((wsX7_hint_r1 ++ (wsX7_hint_r2 ++ wsX7_hint_r3)) ++ wsX70)
def wsX7_situations_r1 : List Cond := [Cond.fieldLink RX7 83 "LockQuestModel" "now" "I", Cond.fieldLink RX7 128 "LockQuestModel" "count" "I", Cond.methodLink RX7 140 yX7_spread, Cond.instanceMethod yX7_spread, Cond.selects RX7 yX7_spread yX7_spread, Cond.initialized RX7, Cond.code yX7_spread cX7_spread 6 (some .int), Cond.fieldLink RX7 41 "LockQuestModel" "met" "[I", Cond.fieldLink RX7 125 "LockQuestModel" "last" "I", Cond.fieldLink RX7 100 "LockQuestModel" "goal" "I", Cond.methodLink RX7 131 yX7_meet, Cond.instanceMethod yX7_meet, Cond.selects RX7 yX7_meet yX7_meet, Cond.code yX7_meet cX7_meet 3 none, Cond.methodLink RX7 119 yX7_doors, Cond.instanceMethod yX7_doors, Cond.selects RX7 yX7_doors yX7_doors, Cond.code yX7_doors cX7_doors 4 (some .int), Cond.fieldLink RX7 56 "LockQuestModel" "rooms" "I", Cond.fieldLink RX7 7 "LockQuestModel" "parent" "[I", Cond.fieldLink RX7 35 "LockQuestModel" "loop" "[Z", Cond.methodLink RX7 134 yX7_after, Cond.instanceMethod yX7_after, Cond.selects RX7 yX7_after yX7_after]
def wsX7_situations_r2 : List Cond := [Cond.code yX7_after cX7_after 5 (some .int), Cond.fieldLink RX7 31 "LockQuestModel" "switches" "[Z", Cond.methodLink RX7 116 yX7_takeable, Cond.instanceMethod yX7_takeable, Cond.selects RX7 yX7_takeable yX7_takeable, Cond.code yX7_takeable cX7_takeable 3 (some .int), Cond.fieldLink RX7 28 "LockQuestModel" "lying" "[I", Cond.methodLink RX7 122 yX7_walked, Cond.instanceMethod yX7_walked, Cond.selects RX7 yX7_walked yX7_walked, Cond.code yX7_walked cX7_walked 7 (some .int), Cond.fieldLink RX7 16 "LockQuestModel" "kind" "[I", Cond.fieldLink RX7 13 "LockQuestModel" "level" "[I", Cond.fieldLink RX7 19 "LockQuestModel" "number" "[I", Cond.methodLink RX7 109 yX7_beyond, Cond.instanceMethod yX7_beyond, Cond.selects RX7 yX7_beyond yX7_beyond, Cond.code yX7_beyond cX7_beyond 5 (some .int), Cond.methodLink RX7 113 yX7_ones, Cond.static yX7_ones, Cond.code yX7_ones cX7_ones 1 (some .int), Cond.methodLink RX7 137 yX7_nextAction, Cond.instanceMethod yX7_nextAction, Cond.selects RX7 yX7_nextAction yX7_nextAction]
def wsX7_situations_r3 : List Cond := [Cond.code yX7_nextAction cX7_nextAction 3 (some .int)]
def wsX7_situations : List Cond := .code yX7_situations cX7_situations 2 (some .int) :: ((wsX7_situations_r1 ++ (wsX7_situations_r2 ++ wsX7_situations_r3)) ++ wsX70)
def wsX7_leads_r1 : List Cond := [Cond.fieldLink RX7 41 "LockQuestModel" "met" "[I", Cond.constant RX7 143 (268435456), Cond.methodLink RX7 119 yX7_doors, Cond.instanceMethod yX7_doors, Cond.selects RX7 yX7_doors yX7_doors, Cond.initialized RX7, Cond.code yX7_doors cX7_doors 4 (some .int), Cond.fieldLink RX7 56 "LockQuestModel" "rooms" "I", Cond.fieldLink RX7 7 "LockQuestModel" "parent" "[I", Cond.fieldLink RX7 35 "LockQuestModel" "loop" "[Z", Cond.methodLink RX7 134 yX7_after, Cond.instanceMethod yX7_after, Cond.selects RX7 yX7_after yX7_after, Cond.code yX7_after cX7_after 5 (some .int), Cond.fieldLink RX7 31 "LockQuestModel" "switches" "[Z", Cond.methodLink RX7 116 yX7_takeable, Cond.instanceMethod yX7_takeable, Cond.selects RX7 yX7_takeable yX7_takeable, Cond.code yX7_takeable cX7_takeable 3 (some .int), Cond.fieldLink RX7 28 "LockQuestModel" "lying" "[I", Cond.methodLink RX7 122 yX7_walked, Cond.instanceMethod yX7_walked, Cond.selects RX7 yX7_walked yX7_walked, Cond.code yX7_walked cX7_walked 7 (some .int)]
def wsX7_leads_r2 : List Cond := [Cond.fieldLink RX7 16 "LockQuestModel" "kind" "[I", Cond.fieldLink RX7 13 "LockQuestModel" "level" "[I", Cond.fieldLink RX7 19 "LockQuestModel" "number" "[I", Cond.methodLink RX7 109 yX7_beyond, Cond.instanceMethod yX7_beyond, Cond.selects RX7 yX7_beyond yX7_beyond, Cond.code yX7_beyond cX7_beyond 5 (some .int), Cond.methodLink RX7 113 yX7_ones, Cond.static yX7_ones, Cond.code yX7_ones cX7_ones 1 (some .int), Cond.methodLink RX7 137 yX7_nextAction, Cond.instanceMethod yX7_nextAction, Cond.selects RX7 yX7_nextAction yX7_nextAction, Cond.code yX7_nextAction cX7_nextAction 3 (some .int)]
def wsX7_leads : List Cond := .code yX7_leads cX7_leads 4 (some .boolean) :: ((wsX7_leads_r1 ++ wsX7_leads_r2) ++ wsX70)
def wsX7_safe_r1 : List Cond := [Cond.fieldLink RX7 83 "LockQuestModel" "now" "I", Cond.fieldLink RX7 41 "LockQuestModel" "met" "[I", Cond.constant RX7 143 (268435456), Cond.fieldLink RX7 100 "LockQuestModel" "goal" "I", Cond.fieldLink RX7 128 "LockQuestModel" "count" "I", Cond.methodLink RX7 140 yX7_spread, Cond.instanceMethod yX7_spread, Cond.selects RX7 yX7_spread yX7_spread, Cond.initialized RX7, Cond.code yX7_spread cX7_spread 6 (some .int), Cond.fieldLink RX7 125 "LockQuestModel" "last" "I", Cond.methodLink RX7 131 yX7_meet, Cond.instanceMethod yX7_meet, Cond.selects RX7 yX7_meet yX7_meet, Cond.code yX7_meet cX7_meet 3 none, Cond.methodLink RX7 119 yX7_doors, Cond.instanceMethod yX7_doors, Cond.selects RX7 yX7_doors yX7_doors, Cond.code yX7_doors cX7_doors 4 (some .int), Cond.fieldLink RX7 56 "LockQuestModel" "rooms" "I", Cond.fieldLink RX7 7 "LockQuestModel" "parent" "[I", Cond.fieldLink RX7 35 "LockQuestModel" "loop" "[Z", Cond.methodLink RX7 134 yX7_after, Cond.instanceMethod yX7_after]
def wsX7_safe_r2 : List Cond := [Cond.selects RX7 yX7_after yX7_after, Cond.code yX7_after cX7_after 5 (some .int), Cond.fieldLink RX7 31 "LockQuestModel" "switches" "[Z", Cond.methodLink RX7 116 yX7_takeable, Cond.instanceMethod yX7_takeable, Cond.selects RX7 yX7_takeable yX7_takeable, Cond.code yX7_takeable cX7_takeable 3 (some .int), Cond.fieldLink RX7 28 "LockQuestModel" "lying" "[I", Cond.methodLink RX7 122 yX7_walked, Cond.instanceMethod yX7_walked, Cond.selects RX7 yX7_walked yX7_walked, Cond.code yX7_walked cX7_walked 7 (some .int), Cond.fieldLink RX7 16 "LockQuestModel" "kind" "[I", Cond.fieldLink RX7 13 "LockQuestModel" "level" "[I", Cond.fieldLink RX7 19 "LockQuestModel" "number" "[I", Cond.methodLink RX7 109 yX7_beyond, Cond.instanceMethod yX7_beyond, Cond.selects RX7 yX7_beyond yX7_beyond, Cond.code yX7_beyond cX7_beyond 5 (some .int), Cond.methodLink RX7 113 yX7_ones, Cond.static yX7_ones, Cond.code yX7_ones cX7_ones 1 (some .int), Cond.methodLink RX7 137 yX7_nextAction, Cond.instanceMethod yX7_nextAction]
def wsX7_safe_r3 : List Cond := [Cond.selects RX7 yX7_nextAction yX7_nextAction, Cond.code yX7_nextAction cX7_nextAction 3 (some .int), Cond.methodLink RX7 144 yX7_leads, Cond.instanceMethod yX7_leads, Cond.selects RX7 yX7_leads yX7_leads, Cond.code yX7_leads cX7_leads 4 (some .boolean)]
def wsX7_safe : List Cond := .code yX7_safe cX7_safe 6 (some .boolean) :: ((wsX7_safe_r1 ++ (wsX7_safe_r2 ++ wsX7_safe_r3)) ++ wsX70)
def wsX7_room : List Cond := .code yX7_room cX7_room 3 (some .int) :: ([.fieldLink RX7 56 "LockQuestModel" "rooms" "I", .fieldLink RX7 7 "LockQuestModel" "parent" "[I", .fieldLink RX7 13 "LockQuestModel" "level" "[I", .fieldLink RX7 16 "LockQuestModel" "kind" "[I", .fieldLink RX7 22 "LockQuestModel" "x" "[I", .fieldLink RX7 25 "LockQuestModel" "y" "[I", .fieldLink RX7 28 "LockQuestModel" "lying" "[I", .fieldLink RX7 31 "LockQuestModel" "switches" "[Z", .methodLink RX7 119 yX7_doors, .instanceMethod yX7_doors, .selects RX7 yX7_doors yX7_doors, .initialized RX7, .code yX7_doors cX7_doors 4 (some .int), .fieldLink RX7 35 "LockQuestModel" "loop" "[Z"] ++ wsX70)
def wsX7_behind : List Cond := .code yX7_behind cX7_behind 3 (some .int) :: ([.fieldLink RX7 56 "LockQuestModel" "rooms" "I", .methodLink RX7 119 yX7_doors, .instanceMethod yX7_doors, .selects RX7 yX7_doors yX7_doors, .initialized RX7, .code yX7_doors cX7_doors 4 (some .int), .fieldLink RX7 7 "LockQuestModel" "parent" "[I", .fieldLink RX7 35 "LockQuestModel" "loop" "[Z", .methodLink RX7 109 yX7_beyond, .instanceMethod yX7_beyond, .selects RX7 yX7_beyond yX7_beyond, .code yX7_beyond cX7_beyond 5 (some .int)] ++ wsX70)
def wsX7_goal : List Cond := .code yX7_goal cX7_goal 1 (some .int) :: ([.fieldLink RX7 100 "LockQuestModel" "goal" "I"] ++ wsX70)
def wsX7_restart : List Cond := .code yX7_restart cX7_restart 1 none :: ([.fieldLink RX7 83 "LockQuestModel" "now" "I"] ++ wsX70)
def wsX7_walk : List Cond := .code yX7_walk cX7_walk 3 (some .int) :: ([.fieldLink RX7 83 "LockQuestModel" "now" "I", .methodLink RX7 119 yX7_doors, .instanceMethod yX7_doors, .selects RX7 yX7_doors yX7_doors, .initialized RX7, .code yX7_doors cX7_doors 4 (some .int), .fieldLink RX7 56 "LockQuestModel" "rooms" "I", .fieldLink RX7 7 "LockQuestModel" "parent" "[I", .fieldLink RX7 35 "LockQuestModel" "loop" "[Z", .methodLink RX7 122 yX7_walked, .instanceMethod yX7_walked, .selects RX7 yX7_walked yX7_walked, .code yX7_walked cX7_walked 7 (some .int), .fieldLink RX7 16 "LockQuestModel" "kind" "[I", .fieldLink RX7 13 "LockQuestModel" "level" "[I", .fieldLink RX7 19 "LockQuestModel" "number" "[I", .methodLink RX7 109 yX7_beyond, .instanceMethod yX7_beyond, .selects RX7 yX7_beyond yX7_beyond, .code yX7_beyond cX7_beyond 5 (some .int), .methodLink RX7 113 yX7_ones, .static yX7_ones, .code yX7_ones cX7_ones 1 (some .int)] ++ wsX70)
def wsX7_take_r1 : List Cond := [Cond.fieldLink RX7 83 "LockQuestModel" "now" "I", Cond.methodLink RX7 116 yX7_takeable, Cond.instanceMethod yX7_takeable, Cond.selects RX7 yX7_takeable yX7_takeable, Cond.initialized RX7, Cond.code yX7_takeable cX7_takeable 3 (some .int), Cond.fieldLink RX7 28 "LockQuestModel" "lying" "[I", Cond.methodLink RX7 134 yX7_after, Cond.instanceMethod yX7_after, Cond.selects RX7 yX7_after yX7_after, Cond.code yX7_after cX7_after 5 (some .int), Cond.fieldLink RX7 31 "LockQuestModel" "switches" "[Z", Cond.methodLink RX7 119 yX7_doors, Cond.instanceMethod yX7_doors, Cond.selects RX7 yX7_doors yX7_doors, Cond.code yX7_doors cX7_doors 4 (some .int), Cond.fieldLink RX7 56 "LockQuestModel" "rooms" "I", Cond.fieldLink RX7 7 "LockQuestModel" "parent" "[I", Cond.fieldLink RX7 35 "LockQuestModel" "loop" "[Z", Cond.methodLink RX7 122 yX7_walked, Cond.instanceMethod yX7_walked, Cond.selects RX7 yX7_walked yX7_walked, Cond.code yX7_walked cX7_walked 7 (some .int), Cond.fieldLink RX7 16 "LockQuestModel" "kind" "[I"]
def wsX7_take_r2 : List Cond := [Cond.fieldLink RX7 13 "LockQuestModel" "level" "[I", Cond.fieldLink RX7 19 "LockQuestModel" "number" "[I", Cond.methodLink RX7 109 yX7_beyond, Cond.instanceMethod yX7_beyond, Cond.selects RX7 yX7_beyond yX7_beyond, Cond.code yX7_beyond cX7_beyond 5 (some .int), Cond.methodLink RX7 113 yX7_ones, Cond.static yX7_ones, Cond.code yX7_ones cX7_ones 1 (some .int)]
def wsX7_take : List Cond := .code yX7_take cX7_take 2 (some .int) :: ((wsX7_take_r1 ++ wsX7_take_r2) ++ wsX70)
def wsX7_toggle_r1 : List Cond := [Cond.fieldLink RX7 83 "LockQuestModel" "now" "I", Cond.methodLink RX7 134 yX7_after, Cond.instanceMethod yX7_after, Cond.selects RX7 yX7_after yX7_after, Cond.initialized RX7, Cond.code yX7_after cX7_after 5 (some .int), Cond.fieldLink RX7 31 "LockQuestModel" "switches" "[Z", Cond.methodLink RX7 116 yX7_takeable, Cond.instanceMethod yX7_takeable, Cond.selects RX7 yX7_takeable yX7_takeable, Cond.code yX7_takeable cX7_takeable 3 (some .int), Cond.fieldLink RX7 28 "LockQuestModel" "lying" "[I", Cond.methodLink RX7 119 yX7_doors, Cond.instanceMethod yX7_doors, Cond.selects RX7 yX7_doors yX7_doors, Cond.code yX7_doors cX7_doors 4 (some .int), Cond.fieldLink RX7 56 "LockQuestModel" "rooms" "I", Cond.fieldLink RX7 7 "LockQuestModel" "parent" "[I", Cond.fieldLink RX7 35 "LockQuestModel" "loop" "[Z", Cond.methodLink RX7 122 yX7_walked, Cond.instanceMethod yX7_walked, Cond.selects RX7 yX7_walked yX7_walked, Cond.code yX7_walked cX7_walked 7 (some .int), Cond.fieldLink RX7 16 "LockQuestModel" "kind" "[I"]
def wsX7_toggle_r2 : List Cond := [Cond.fieldLink RX7 13 "LockQuestModel" "level" "[I", Cond.fieldLink RX7 19 "LockQuestModel" "number" "[I", Cond.methodLink RX7 109 yX7_beyond, Cond.instanceMethod yX7_beyond, Cond.selects RX7 yX7_beyond yX7_beyond, Cond.code yX7_beyond cX7_beyond 5 (some .int), Cond.methodLink RX7 113 yX7_ones, Cond.static yX7_ones, Cond.code yX7_ones cX7_ones 1 (some .int)]
def wsX7_toggle : List Cond := .code yX7_toggle cX7_toggle 2 (some .int) :: ((wsX7_toggle_r1 ++ wsX7_toggle_r2) ++ wsX70)
def wsX7_here : List Cond := .code yX7_here cX7_here 1 (some .int) :: ([.fieldLink RX7 83 "LockQuestModel" "now" "I"] ++ wsX70)
def wsX7_having : List Cond := .code yX7_having cX7_having 1 (some .int) :: ([.fieldLink RX7 83 "LockQuestModel" "now" "I", .methodLink RX7 113 yX7_ones, .static yX7_ones, .initialized RX7, .code yX7_ones cX7_ones 1 (some .int)] ++ wsX70)
def wsJ9_abs_0f7a4 : List Cond := .code yJ9_abs_0f7a4 cJ9_abs_0f7a4 1 (some .int) :: ([])
def wsL_law_r1 : List Cond := [Cond.classLink RL 7 RX6, Cond.instantiable RX6 4, Cond.initialized RX6, Cond.classLink RL 10 RX7, Cond.instantiable RX7 18, Cond.initialized RX7, Cond.constantLong RL 13 (4294967295), Cond.methodLink RL 9 yX6_init, Cond.instanceMethod yX6_init, Cond.code yX6_init cX6_init 1 none, Cond.methodLink RX6 1 objectInit, Cond.instanceMethod objectInit, Cond.code objectInit ⟨#[0xb1]⟩ 1 none, Cond.classLink RX6 7 RX0, Cond.instantiable RX0 14, Cond.initialized RX0, Cond.fieldLink RX6 10 "LockQuest" "adventure" "LLockQuest$Adventure;", Cond.classLink RX6 16 RX2, Cond.instantiable RX2 3, Cond.initialized RX2, Cond.fieldLink RX6 21 "LockQuest" "maker" "LLockQuest$Maker;", Cond.classLink RX6 25 RX4, Cond.instantiable RX4 7, Cond.initialized RX4]
def wsL_law_r2 : List Cond := [Cond.fieldLink RX6 28 "LockQuest" "search" "LLockQuest$Search;", Cond.fieldLink RX6 38 "LockQuest" "situation" "I", Cond.instanceMethod yX0_init, Cond.code yX0_init cX0_init 1 none, Cond.methodLink RX0 3 objectInit, Cond.arrayClass .int, Cond.fieldLink RX0 9 "LockQuest$Adventure" "parent" "[I", Cond.fieldLink RX0 15 "LockQuest$Adventure" "level" "[I", Cond.fieldLink RX0 18 "LockQuest$Adventure" "kind" "[I", Cond.fieldLink RX0 21 "LockQuest$Adventure" "smallNumber" "[I", Cond.fieldLink RX0 24 "LockQuest$Adventure" "x" "[I", Cond.fieldLink RX0 27 "LockQuest$Adventure" "y" "[I", Cond.fieldLink RX0 30 "LockQuest$Adventure" "lying" "[I", Cond.arrayClass .boolean, Cond.fieldLink RX0 33 "LockQuest$Adventure" "switched" "[Z", Cond.fieldLink RX0 37 "LockQuest$Adventure" "doors" "[I", Cond.classLink RX0 40 "[[I", Cond.fieldLink RX0 42 "LockQuest$Adventure" "beyond" "[[I", Cond.methodLink RX6 18 yX2_init, Cond.instanceMethod yX2_init, Cond.code yX2_init cX2_init 2 none, Cond.methodLink RX2 3 objectInit, Cond.classLink RX2 9 RX1, Cond.instantiable RX1 3]
def wsL_law_r3 : List Cond := [Cond.initialized RX1, Cond.fieldLink RX2 12 "LockQuest$Maker" "drawing" "LLockQuest$Drawing;", Cond.fieldLink RX2 18 "LockQuest$Maker" "open" "[Z", Cond.fieldLink RX2 22 "LockQuest$Maker" "made" "LLockQuest$Adventure;", Cond.instanceMethod yX1_init, Cond.code yX1_init cX1_init 1 none, Cond.methodLink RX1 3 objectInit, Cond.fieldLink RX1 9 "LockQuest$Drawing" "offered" "[I", Cond.methodLink RX6 27 yX4_init, Cond.instanceMethod yX4_init, Cond.code yX4_init cX4_init 2 none, Cond.methodLink RX4 3 objectInit, Cond.classLink RX4 9 RX3, Cond.instantiable RX3 1, Cond.initialized RX3, Cond.fieldLink RX4 12 "LockQuest$Search" "seen" "LLockQuest$Marks;", Cond.fieldLink RX4 18 "LockQuest$Search" "saved" "LLockQuest$Marks;", Cond.fieldLink RX4 23 "LockQuest$Search" "found" "[I", Cond.fieldLink RX4 27 "LockQuest$Search" "distance" "[I", Cond.fieldLink RX4 30 "LockQuest$Search" "opening" "[I", Cond.fieldLink RX4 33 "LockQuest$Search" "adventure" "LLockQuest$Adventure;", Cond.instanceMethod yX3_init, Cond.code yX3_init cX3_init 1 none, Cond.methodLink RX3 1 objectInit]
def wsL_law_r4 : List Cond := [Cond.arrayClass .long, Cond.fieldLink RX3 9 "LockQuest$Marks" "bits" "[J", Cond.methodLink RX6 32 yX2_build, Cond.instanceMethod yX2_build, Cond.selects RX2 yX2_build yX2_build, Cond.code yX2_build cX2_build 7 none, Cond.fieldLink RX2 33 "LockQuest$Adventure" "rooms" "I", Cond.fieldLink RX2 39 "LockQuest$Adventure" "levels" "I", Cond.fieldLink RX2 67 "LockQuest$Adventure" "goalRoom" "I", Cond.methodLink RX2 26 yX1_begin, Cond.instanceMethod yX1_begin, Cond.selects RX1 yX1_begin yX1_begin, Cond.code yX1_begin cX1_begin 3 none, Cond.fieldLink RX1 15 "LockQuest$Drawing" "state" "J", Cond.methodLink RX2 30 yX2_clear, Cond.instanceMethod yX2_clear, Cond.selects RX2 yX2_clear yX2_clear, Cond.code yX2_clear cX2_clear 2 none, Cond.fieldLink RX2 79 "LockQuest$Adventure" "lying" "[I", Cond.fieldLink RX2 89 "LockQuest$Adventure" "doors" "[I", Cond.fieldLink RX2 92 "LockQuest$Adventure" "switched" "[Z", Cond.fieldLink RX2 95 "LockQuest$Adventure" "allDoors" "I", Cond.methodLink RX2 83 yJ7_fill_53178, Cond.static yJ7_fill_53178]
def wsL_law_r5 : List Cond := [Cond.initialized RJ7, Cond.code yJ7_fill_53178 cJ7_fill_53178 4 none, Cond.methodLink RX2 42 yX2_addRooms, Cond.instanceMethod yX2_addRooms, Cond.selects RX2 yX2_addRooms yX2_addRooms, Cond.code yX2_addRooms cX2_addRooms 6 none, Cond.fieldLink RX2 98 "LockQuest$Adventure" "parent" "[I", Cond.fieldLink RX2 101 "LockQuest$Adventure" "level" "[I", Cond.fieldLink RX2 104 "LockQuest$Adventure" "kind" "[I", Cond.methodLink RX2 107 yX2_drawnBefore, Cond.instanceMethod yX2_drawnBefore, Cond.selects RX2 yX2_drawnBefore yX2_drawnBefore, Cond.code yX2_drawnBefore cX2_drawnBefore 4 (some .int), Cond.methodLink RX2 118 yX1_clearOffer, Cond.instanceMethod yX1_clearOffer, Cond.selects RX1 yX1_clearOffer yX1_clearOffer, Cond.code yX1_clearOffer cX1_clearOffer 1 none, Cond.fieldLink RX1 23 "LockQuest$Drawing" "count" "I", Cond.methodLink RX2 121 yX1_offer, Cond.instanceMethod yX1_offer, Cond.selects RX1 yX1_offer yX1_offer, Cond.code yX1_offer cX1_offer 2 none, Cond.methodLink RX2 63 yX1_offeredRoom, Cond.instanceMethod yX1_offeredRoom]
def wsL_law_r6 : List Cond := [Cond.selects RX1 yX1_offeredRoom yX1_offeredRoom, Cond.code yX1_offeredRoom cX1_offeredRoom 1 (some .int), Cond.methodLink RX1 27 yX1_number, Cond.instanceMethod yX1_number, Cond.selects RX1 yX1_number yX1_number, Cond.code yX1_number cX1_number 2 (some .int), Cond.constantLong RX1 19 (6364136223846793005), Cond.constantLong RX1 21 (1442695040888963407), Cond.methodLink RX2 111 yX1_number, Cond.methodLink RX2 114 yX2_mayRise, Cond.instanceMethod yX2_mayRise, Cond.selects RX2 yX2_mayRise yX2_mayRise, Cond.code yX2_mayRise cX2_mayRise 3 (some .boolean), Cond.methodLink RX2 45 yX2_layKeys, Cond.instanceMethod yX2_layKeys, Cond.selects RX2 yX2_layKeys yX2_layKeys, Cond.code yX2_layKeys cX2_layKeys 2 none, Cond.methodLink RX2 59 yX2_offerLevels, Cond.instanceMethod yX2_offerLevels, Cond.selects RX2 yX2_offerLevels yX2_offerLevels, Cond.code yX2_offerLevels cX2_offerLevels 4 none, Cond.static yX6_isWithin, Cond.code yX6_isWithin cX6_isWithin 3 (some .boolean), Cond.methodLink RX2 128 yX5_keyBit]
def wsL_law_r7 : List Cond := [Cond.static yX5_keyBit, Cond.initialized RX5, Cond.code yX5_keyBit cX5_keyBit 1 (some .int), Cond.methodLink RX2 48 yX2_makeSmallDoors, Cond.instanceMethod yX2_makeSmallDoors, Cond.selects RX2 yX2_makeSmallDoors yX2_makeSmallDoors, Cond.code yX2_makeSmallDoors cX2_makeSmallDoors 5 (some .int), Cond.fieldLink RX2 140 "LockQuest$Adventure" "smallNumber" "[I", Cond.methodLink RX2 133 yX2_offerPlainDoors, Cond.instanceMethod yX2_offerPlainDoors, Cond.selects RX2 yX2_offerPlainDoors yX2_offerPlainDoors, Cond.code yX2_offerPlainDoors cX2_offerPlainDoors 2 none, Cond.methodLink RX2 136 yX1_hasOffer, Cond.instanceMethod yX1_hasOffer, Cond.selects RX1 yX1_hasOffer yX1_hasOffer, Cond.code yX1_hasOffer cX1_hasOffer 1 (some .boolean), Cond.methodLink RX2 52 yX2_laySmallKeys, Cond.instanceMethod yX2_laySmallKeys, Cond.selects RX2 yX2_laySmallKeys yX2_laySmallKeys, Cond.code yX2_laySmallKeys cX2_laySmallKeys 3 none, Cond.methodLink RX2 143 yX2_offerOpenRooms, Cond.instanceMethod yX2_offerOpenRooms, Cond.selects RX2 yX2_offerOpenRooms yX2_offerOpenRooms, Cond.code yX2_offerOpenRooms cX2_offerOpenRooms 2 none]
def wsL_law_r8 : List Cond := [Cond.methodLink RX2 146 yX5_smallKeyBit, Cond.static yX5_smallKeyBit, Cond.code yX5_smallKeyBit cX5_smallKeyBit 1 (some .int), Cond.methodLink RX2 56 yX2_makeBarriers, Cond.instanceMethod yX2_makeBarriers, Cond.selects RX2 yX2_makeBarriers yX2_makeBarriers, Cond.code yX2_makeBarriers cX2_makeBarriers 4 none, Cond.methodLink RX2 70 yX2_placeRooms, Cond.instanceMethod yX2_placeRooms, Cond.selects RX2 yX2_placeRooms yX2_placeRooms, Cond.code yX2_placeRooms cX2_placeRooms 2 none, Cond.fieldLink RX2 149 "LockQuest$Adventure" "x" "[I", Cond.fieldLink RX2 152 "LockQuest$Adventure" "y" "[I", Cond.methodLink RX2 155 yX2_place, Cond.instanceMethod yX2_place, Cond.selects RX2 yX2_place yX2_place, Cond.code yX2_place cX2_place 6 none, Cond.fieldLink RX2 158 "LockQuest$Maker" "EAST" "[I", Cond.fieldLink RX2 161 "LockQuest$Maker" "NORTH" "[I", Cond.methodLink RX2 164 yX2_isFree, Cond.instanceMethod yX2_isFree, Cond.selects RX2 yX2_isFree yX2_isFree, Cond.code yX2_isFree cX2_isFree 5 (some .boolean), Cond.methodLink RX2 73 yX2_joinFamilies]
def wsL_law_r9 : List Cond := [Cond.instanceMethod yX2_joinFamilies, Cond.selects RX2 yX2_joinFamilies yX2_joinFamilies, Cond.code yX2_joinFamilies cX2_joinFamilies 2 none, Cond.methodLink RX2 167 yX2_join, Cond.instanceMethod yX2_join, Cond.selects RX2 yX2_join yX2_join, Cond.code yX2_join cX2_join 3 none, Cond.fieldLink RX2 178 "LockQuest$Adventure" "beyond" "[[I", Cond.methodLink RX2 76 yX2_joinLoops, Cond.instanceMethod yX2_joinLoops, Cond.selects RX2 yX2_joinLoops yX2_joinLoops, Cond.code yX2_joinLoops cX2_joinLoops 3 none, Cond.methodLink RX2 170 yX2_mayLoop, Cond.instanceMethod yX2_mayLoop, Cond.selects RX2 yX2_mayLoop yX2_mayLoop, Cond.code yX2_mayLoop cX2_mayLoop 4 (some .boolean), Cond.methodLink RX2 173 Lib.Math.abs.name, Cond.static Lib.Math.abs.name, Cond.initialized "java/lang/Math", Cond.code Lib.Math.abs.name Lib.Math.abs.code 1 (some .int), Cond.methodLink RL 12 yX7_init, Cond.instanceMethod yX7_init, Cond.code yX7_init cX7_init 2 none, Cond.methodLink RX7 1 objectInit]
def wsL_law_r10 : List Cond := [Cond.fieldLink RX7 7 "LockQuestModel" "parent" "[I", Cond.fieldLink RX7 13 "LockQuestModel" "level" "[I", Cond.fieldLink RX7 16 "LockQuestModel" "kind" "[I", Cond.fieldLink RX7 19 "LockQuestModel" "number" "[I", Cond.fieldLink RX7 22 "LockQuestModel" "x" "[I", Cond.fieldLink RX7 25 "LockQuestModel" "y" "[I", Cond.fieldLink RX7 28 "LockQuestModel" "lying" "[I", Cond.fieldLink RX7 31 "LockQuestModel" "switches" "[Z", Cond.fieldLink RX7 35 "LockQuestModel" "loop" "[Z", Cond.fieldLink RX7 38 "LockQuestModel" "chosen" "[Z", Cond.fieldLink RX7 41 "LockQuestModel" "met" "[I", Cond.methodLink RX7 44 yX7_make, Cond.instanceMethod yX7_make, Cond.selects RX7 yX7_make yX7_make, Cond.code yX7_make cX7_make 8 (some .int), Cond.fieldLink RX7 48 "LockQuestModel" "state" "J", Cond.fieldLink RX7 56 "LockQuestModel" "rooms" "I", Cond.fieldLink RX7 100 "LockQuestModel" "goal" "I", Cond.methodLink RX7 86 yX7_clear, Cond.instanceMethod yX7_clear, Cond.selects RX7 yX7_clear yX7_clear, Cond.code yX7_clear cX7_clear 3 none, Cond.fieldLink RX7 72 "LockQuestModel" "smallDoors" "I", Cond.fieldLink RX7 83 "LockQuestModel" "now" "I"]
def wsL_law_r11 : List Cond := [Cond.methodLink RX7 89 yX7_makeRooms, Cond.instanceMethod yX7_makeRooms, Cond.selects RX7 yX7_makeRooms yX7_makeRooms, Cond.code yX7_makeRooms cX7_makeRooms 6 none, Cond.methodLink RX7 64 yX7_drawn, Cond.instanceMethod yX7_drawn, Cond.selects RX7 yX7_drawn yX7_drawn, Cond.code yX7_drawn cX7_drawn 4 (some .int), Cond.methodLink RX7 60 yX7_draw, Cond.instanceMethod yX7_draw, Cond.selects RX7 yX7_draw yX7_draw, Cond.code yX7_draw cX7_draw 2 (some .int), Cond.constantLong RX7 52 (6364136223846793005), Cond.constantLong RX7 54 (1442695040888963407), Cond.methodLink RX7 93 yX7_makeKeys, Cond.instanceMethod yX7_makeKeys, Cond.selects RX7 yX7_makeKeys yX7_makeKeys, Cond.code yX7_makeKeys cX7_makeKeys 5 none, Cond.methodLink RX7 68 yX7_choosePlain, Cond.instanceMethod yX7_choosePlain, Cond.selects RX7 yX7_choosePlain yX7_choosePlain, Cond.code yX7_choosePlain cX7_choosePlain 3 (some .boolean), Cond.methodLink RX7 75 yX7_open, Cond.instanceMethod yX7_open]
def wsL_law_r12 : List Cond := [Cond.selects RX7 yX7_open yX7_open, Cond.code yX7_open cX7_open 3 (some .boolean), Cond.methodLink RX7 97 yX7_makeBarriers, Cond.instanceMethod yX7_makeBarriers, Cond.selects RX7 yX7_makeBarriers yX7_makeBarriers, Cond.code yX7_makeBarriers cX7_makeBarriers 4 none, Cond.methodLink RX7 103 yX7_makePlaces, Cond.instanceMethod yX7_makePlaces, Cond.selects RX7 yX7_makePlaces yX7_makePlaces, Cond.code yX7_makePlaces cX7_makePlaces 5 none, Cond.methodLink RX7 79 yX7_occupied, Cond.instanceMethod yX7_occupied, Cond.selects RX7 yX7_occupied yX7_occupied, Cond.code yX7_occupied cX7_occupied 5 (some .boolean), Cond.methodLink RX7 106 yX7_makeLoops, Cond.instanceMethod yX7_makeLoops, Cond.selects RX7 yX7_makeLoops yX7_makeLoops, Cond.code yX7_makeLoops cX7_makeLoops 7 (some .int), Cond.methodLink RL 15 yX6_make, Cond.instanceMethod yX6_make, Cond.selects RX6 yX6_make yX6_make, Cond.code yX6_make cX6_make 7 (some .int), Cond.fieldLink RX6 46 "LockQuest$Adventure" "allDoors" "I", Cond.methodLink RX6 42 yX6_isWithin]
def wsL_law_r13 : List Cond := [Cond.methodLink RL 19 yX7_make, Cond.methodLink RL 20 yX6_room, Cond.instanceMethod yX6_room, Cond.selects RX6 yX6_room yX6_room, Cond.code yX6_room cX6_room 3 (some .int), Cond.fieldLink RX6 53 "LockQuest$Adventure" "parent" "[I", Cond.fieldLink RX6 57 "LockQuest$Adventure" "level" "[I", Cond.fieldLink RX6 60 "LockQuest$Adventure" "kind" "[I", Cond.fieldLink RX6 63 "LockQuest$Adventure" "x" "[I", Cond.fieldLink RX6 66 "LockQuest$Adventure" "y" "[I", Cond.fieldLink RX6 69 "LockQuest$Adventure" "lying" "[I", Cond.fieldLink RX6 72 "LockQuest$Adventure" "switched" "[Z", Cond.fieldLink RX6 76 "LockQuest$Adventure" "doors" "[I", Cond.methodLink RX6 49 yX0_hasRoom, Cond.instanceMethod yX0_hasRoom, Cond.selects RX0 yX0_hasRoom yX0_hasRoom, Cond.code yX0_hasRoom cX0_hasRoom 2 (some .boolean), Cond.fieldLink RX0 45 "LockQuest$Adventure" "rooms" "I", Cond.methodLink RL 24 yX7_room, Cond.instanceMethod yX7_room, Cond.selects RX7 yX7_room yX7_room, Cond.code yX7_room cX7_room 3 (some .int), Cond.methodLink RX7 119 yX7_doors, Cond.instanceMethod yX7_doors]
def wsL_law_r14 : List Cond := [Cond.selects RX7 yX7_doors yX7_doors, Cond.code yX7_doors cX7_doors 4 (some .int), Cond.methodLink RL 25 yX6_behind, Cond.instanceMethod yX6_behind, Cond.selects RX6 yX6_behind yX6_behind, Cond.code yX6_behind cX6_behind 3 (some .int), Cond.fieldLink RX6 83 "LockQuest$Adventure" "beyond" "[[I", Cond.methodLink RX6 79 yX0_hasDoor, Cond.instanceMethod yX0_hasDoor, Cond.selects RX0 yX0_hasDoor yX0_hasDoor, Cond.code yX0_hasDoor cX0_hasDoor 3 (some .boolean), Cond.methodLink RX0 49 yX0_hasRoom, Cond.methodLink RL 28 yX7_behind, Cond.instanceMethod yX7_behind, Cond.selects RX7 yX7_behind yX7_behind, Cond.code yX7_behind cX7_behind 3 (some .int), Cond.methodLink RX7 109 yX7_beyond, Cond.instanceMethod yX7_beyond, Cond.selects RX7 yX7_beyond yX7_beyond, Cond.code yX7_beyond cX7_beyond 5 (some .int), Cond.methodLink RL 29 yX6_goal, Cond.instanceMethod yX6_goal, Cond.selects RX6 yX6_goal yX6_goal, Cond.code yX6_goal cX6_goal 1 (some .int)]
def wsL_law_r15 : List Cond := [Cond.fieldLink RX6 87 "LockQuest$Adventure" "goalRoom" "I", Cond.methodLink RL 33 yX7_goal, Cond.instanceMethod yX7_goal, Cond.selects RX7 yX7_goal yX7_goal, Cond.code yX7_goal cX7_goal 1 (some .int), Cond.methodLink RL 34 yX6_restart, Cond.instanceMethod yX6_restart, Cond.selects RX6 yX6_restart yX6_restart, Cond.code yX6_restart cX6_restart 1 none, Cond.methodLink RL 37 yX7_restart, Cond.instanceMethod yX7_restart, Cond.selects RX7 yX7_restart yX7_restart, Cond.code yX7_restart cX7_restart 1 none, Cond.methodLink RL 38 yX6_walk, Cond.instanceMethod yX6_walk, Cond.selects RX6 yX6_walk yX6_walk, Cond.code yX6_walk cX6_walk 3 (some .int), Cond.methodLink RX6 90 yX0_afterWalking, Cond.instanceMethod yX0_afterWalking, Cond.selects RX0 yX0_afterWalking yX0_afterWalking, Cond.code yX0_afterWalking cX0_afterWalking 7 (some .int), Cond.methodLink RX0 53 yX5_roomOf, Cond.static yX5_roomOf, Cond.code yX5_roomOf cX5_roomOf 1 (some .int)]
def wsL_law_r16 : List Cond := [Cond.methodLink RX0 59 yX0_hasDoor, Cond.methodLink RX0 63 yX0_doorOwner, Cond.instanceMethod yX0_doorOwner, Cond.selects RX0 yX0_doorOwner yX0_doorOwner, Cond.code yX0_doorOwner cX0_doorOwner 3 (some .int), Cond.methodLink RX0 67 yX0_opens, Cond.instanceMethod yX0_opens, Cond.selects RX0 yX0_opens yX0_opens, Cond.code yX0_opens cX0_opens 3 (some .boolean), Cond.methodLink RX0 79 yX5_hasKey, Cond.static yX5_hasKey, Cond.code yX5_hasKey cX5_hasKey 2 (some .boolean), Cond.methodLink RX5 17 yX5_keyBit, Cond.methodLink RX0 82 yX5_hasOpened, Cond.static yX5_hasOpened, Cond.code yX5_hasOpened cX5_hasOpened 2 (some .boolean), Cond.methodLink RX5 20 yX5_openedBit, Cond.static yX5_openedBit, Cond.code yX5_openedBit cX5_openedBit 1 (some .int), Cond.methodLink RX0 85 yX5_smallKeysLeft, Cond.static yX5_smallKeysLeft, Cond.code yX5_smallKeysLeft cX5_smallKeysLeft 1 (some .int), Cond.methodLink RX5 11 yJ6_bitCount_0f7a4, Cond.static yJ6_bitCount_0f7a4]
def wsL_law_r17 : List Cond := [Cond.initialized RJ6, Cond.code yJ6_bitCount_0f7a4 cJ6_bitCount_0f7a4 1 (some .int), Cond.constant RJ6 265 (1431655765), Cond.constant RJ6 266 (858993459), Cond.constant RJ6 267 (252645135), Cond.methodLink RX0 88 yX5_positionOf, Cond.static yX5_positionOf, Cond.code yX5_positionOf cX5_positionOf 1 (some .int), Cond.methodLink RX0 70 yX5_inRoom, Cond.static yX5_inRoom, Cond.code yX5_inRoom cX5_inRoom 2 (some .int), Cond.methodLink RX0 73 yX5_openedBit, Cond.methodLink RX6 94 yX5_roomOf, Cond.methodLink RL 42 yX7_walk, Cond.instanceMethod yX7_walk, Cond.selects RX7 yX7_walk yX7_walk, Cond.code yX7_walk cX7_walk 3 (some .int), Cond.methodLink RX7 122 yX7_walked, Cond.instanceMethod yX7_walked, Cond.selects RX7 yX7_walked yX7_walked, Cond.code yX7_walked cX7_walked 7 (some .int), Cond.methodLink RX7 113 yX7_ones, Cond.static yX7_ones, Cond.code yX7_ones cX7_ones 1 (some .int)]
def wsL_law_r18 : List Cond := [Cond.methodLink RL 43 yX6_take, Cond.instanceMethod yX6_take, Cond.selects RX6 yX6_take yX6_take, Cond.code yX6_take cX6_take 3 (some .int), Cond.methodLink RX6 98 yX0_afterTaking, Cond.instanceMethod yX0_afterTaking, Cond.selects RX0 yX0_afterTaking yX0_afterTaking, Cond.code yX0_afterTaking cX0_afterTaking 2 (some .int), Cond.methodLink RX6 101 yJ6_bitCount_0f7a4, Cond.methodLink RL 46 yX7_take, Cond.instanceMethod yX7_take, Cond.selects RX7 yX7_take yX7_take, Cond.code yX7_take cX7_take 2 (some .int), Cond.methodLink RX7 116 yX7_takeable, Cond.instanceMethod yX7_takeable, Cond.selects RX7 yX7_takeable yX7_takeable, Cond.code yX7_takeable cX7_takeable 3 (some .int), Cond.methodLink RX7 134 yX7_after, Cond.instanceMethod yX7_after, Cond.selects RX7 yX7_after yX7_after, Cond.code yX7_after cX7_after 5 (some .int), Cond.methodLink RL 47 yX6_toggle, Cond.instanceMethod yX6_toggle, Cond.selects RX6 yX6_toggle yX6_toggle]
def wsL_law_r19 : List Cond := [Cond.code yX6_toggle cX6_toggle 2 (some .int), Cond.methodLink RX6 106 yX0_afterToggling, Cond.instanceMethod yX0_afterToggling, Cond.selects RX0 yX0_afterToggling yX0_afterToggling, Cond.code yX0_afterToggling cX0_afterToggling 2 (some .int), Cond.methodLink RX0 76 yX5_toggled, Cond.static yX5_toggled, Cond.code yX5_toggled cX5_toggled 1 (some .int), Cond.methodLink RX6 109 yX5_positionOf, Cond.methodLink RL 50 yX7_toggle, Cond.instanceMethod yX7_toggle, Cond.selects RX7 yX7_toggle yX7_toggle, Cond.code yX7_toggle cX7_toggle 2 (some .int), Cond.methodLink RL 51 yX6_here, Cond.instanceMethod yX6_here, Cond.selects RX6 yX6_here yX6_here, Cond.code yX6_here cX6_here 1 (some .int), Cond.methodLink RL 54 yX7_here, Cond.instanceMethod yX7_here, Cond.selects RX7 yX7_here yX7_here, Cond.code yX7_here cX7_here 1 (some .int), Cond.methodLink RL 55 yX6_having, Cond.instanceMethod yX6_having, Cond.selects RX6 yX6_having yX6_having]
def wsL_law_r20 : List Cond := [Cond.code yX6_having cX6_having 1 (some .int), Cond.methodLink RX6 112 yX5_keysOf, Cond.static yX5_keysOf, Cond.code yX5_keysOf cX5_keysOf 1 (some .int), Cond.methodLink RX6 115 yX5_smallKeysLeft, Cond.methodLink RL 58 yX7_having, Cond.instanceMethod yX7_having, Cond.selects RX7 yX7_having yX7_having, Cond.code yX7_having cX7_having 1 (some .int), Cond.methodLink RL 59 yX6_steps, Cond.instanceMethod yX6_steps, Cond.selects RX6 yX6_steps yX6_steps, Cond.code yX6_steps cX6_steps 2 (some .int), Cond.fieldLink RX6 121 "LockQuest$Search" "distance" "[I", Cond.methodLink RX6 118 yX4_findGoal, Cond.instanceMethod yX4_findGoal, Cond.selects RX4 yX4_findGoal yX4_findGoal, Cond.code yX4_findGoal cX4_findGoal 3 (some .int), Cond.fieldLink RX4 41 "LockQuest$Search" "count" "I", Cond.methodLink RX4 37 yX4_begin, Cond.instanceMethod yX4_begin, Cond.selects RX4 yX4_begin yX4_begin, Cond.code yX4_begin cX4_begin 2 none, Cond.methodLink RX4 52 yX3_clear]
def wsL_law_r21 : List Cond := [Cond.instanceMethod yX3_clear, Cond.selects RX3 yX3_clear yX3_clear, Cond.code yX3_clear cX3_clear 1 none, Cond.methodLink RX3 15 yJ7_fill_d0a16, Cond.static yJ7_fill_d0a16, Cond.code yJ7_fill_d0a16 cJ7_fill_d0a16 5 none, Cond.methodLink RX4 61 yX3_add, Cond.instanceMethod yX3_add, Cond.selects RX3 yX3_add yX3_add, Cond.code yX3_add cX3_add 2 none, Cond.methodLink RX4 45 yX4_isAtGoal, Cond.instanceMethod yX4_isAtGoal, Cond.selects RX4 yX4_isAtGoal yX4_isAtGoal, Cond.code yX4_isAtGoal cX4_isAtGoal 2 (some .boolean), Cond.fieldLink RX4 87 "LockQuest$Adventure" "goalRoom" "I", Cond.methodLink RX4 69 yX5_roomOf, Cond.methodLink RX4 49 yX4_goOn, Cond.instanceMethod yX4_goOn, Cond.selects RX4 yX4_goOn yX4_goOn, Cond.code yX4_goOn cX4_goOn 5 none, Cond.fieldLink RX4 64 "LockQuest$Adventure" "doors" "[I", Cond.methodLink RX4 73 yX0_afterWalking, Cond.methodLink RX4 77 yX4_reach, Cond.instanceMethod yX4_reach]
def wsL_law_r22 : List Cond := [Cond.selects RX4 yX4_reach yX4_reach, Cond.code yX4_reach cX4_reach 4 none, Cond.methodLink RX4 55 yX3_has, Cond.instanceMethod yX3_has, Cond.selects RX3 yX3_has yX3_has, Cond.code yX3_has cX3_has 2 (some .boolean), Cond.methodLink RX4 81 yX0_afterTaking, Cond.methodLink RX4 84 yX0_afterToggling, Cond.methodLink RL 62 yX7_steps, Cond.instanceMethod yX7_steps, Cond.selects RX7 yX7_steps yX7_steps, Cond.code yX7_steps cX7_steps 1 (some .int), Cond.methodLink RX7 140 yX7_spread, Cond.instanceMethod yX7_spread, Cond.selects RX7 yX7_spread yX7_spread, Cond.code yX7_spread cX7_spread 6 (some .int), Cond.fieldLink RX7 125 "LockQuestModel" "last" "I", Cond.fieldLink RX7 128 "LockQuestModel" "count" "I", Cond.methodLink RX7 131 yX7_meet, Cond.instanceMethod yX7_meet, Cond.selects RX7 yX7_meet yX7_meet, Cond.code yX7_meet cX7_meet 3 none, Cond.methodLink RX7 137 yX7_nextAction, Cond.instanceMethod yX7_nextAction]
def wsL_law_r23 : List Cond := [Cond.selects RX7 yX7_nextAction yX7_nextAction, Cond.code yX7_nextAction cX7_nextAction 3 (some .int), Cond.methodLink RL 63 yX6_hint, Cond.instanceMethod yX6_hint, Cond.selects RX6 yX6_hint yX6_hint, Cond.code yX6_hint cX6_hint 2 (some .int), Cond.fieldLink RX6 124 "LockQuest$Search" "opening" "[I", Cond.methodLink RL 66 yX7_hint, Cond.instanceMethod yX7_hint, Cond.selects RX7 yX7_hint yX7_hint, Cond.code yX7_hint cX7_hint 4 (some .int), Cond.methodLink RL 67 yX6_situations, Cond.instanceMethod yX6_situations, Cond.selects RX6 yX6_situations yX6_situations, Cond.code yX6_situations cX6_situations 1 (some .int), Cond.fieldLink RX6 131 "LockQuest$Search" "count" "I", Cond.methodLink RX6 127 yX4_findAll, Cond.instanceMethod yX4_findAll, Cond.selects RX4 yX4_findAll yX4_findAll, Cond.code yX4_findAll cX4_findAll 3 none, Cond.methodLink RL 70 yX7_situations, Cond.instanceMethod yX7_situations, Cond.selects RX7 yX7_situations yX7_situations, Cond.code yX7_situations cX7_situations 2 (some .int)]
def wsL_law_r24 : List Cond := [Cond.methodLink RL 71 yX6_safe, Cond.instanceMethod yX6_safe, Cond.selects RX6 yX6_safe yX6_safe, Cond.code yX6_safe cX6_safe 1 (some .boolean), Cond.methodLink RX6 134 yX4_allLeadToGoal, Cond.instanceMethod yX4_allLeadToGoal, Cond.selects RX4 yX4_allLeadToGoal yX4_allLeadToGoal, Cond.code yX4_allLeadToGoal cX4_allLeadToGoal 6 (some .boolean), Cond.methodLink RX4 58 yX4_leadsToSaved, Cond.instanceMethod yX4_leadsToSaved, Cond.selects RX4 yX4_leadsToSaved yX4_leadsToSaved, Cond.code yX4_leadsToSaved cX4_leadsToSaved 4 (some .boolean), Cond.methodLink RX4 90 yX4_isSaved, Cond.instanceMethod yX4_isSaved, Cond.selects RX4 yX4_isSaved yX4_isSaved, Cond.code yX4_isSaved cX4_isSaved 2 (some .boolean), Cond.methodLink RL 75 yX7_safe, Cond.instanceMethod yX7_safe, Cond.selects RX7 yX7_safe yX7_safe, Cond.code yX7_safe cX7_safe 6 (some .boolean), Cond.constant RX7 143 (268435456), Cond.methodLink RX7 144 yX7_leads, Cond.instanceMethod yX7_leads, Cond.selects RX7 yX7_leads yX7_leads]
def wsL_law_r25 : List Cond := [Cond.code yX7_leads cX7_leads 4 (some .boolean)]
def wsL_law : List Cond := (wsL_law_r1 ++ (wsL_law_r2 ++ (wsL_law_r3 ++ (wsL_law_r4 ++ (wsL_law_r5 ++ (wsL_law_r6 ++ (wsL_law_r7 ++ (wsL_law_r8 ++ (wsL_law_r9 ++ (wsL_law_r10 ++ (wsL_law_r11 ++ (wsL_law_r12 ++ (wsL_law_r13 ++ (wsL_law_r14 ++ (wsL_law_r15 ++ (wsL_law_r16 ++ (wsL_law_r17 ++ (wsL_law_r18 ++ (wsL_law_r19 ++ (wsL_law_r20 ++ (wsL_law_r21 ++ (wsL_law_r22 ++ (wsL_law_r23 ++ (wsL_law_r24 ++ wsL_law_r25)))))))))))))))))))))))) ++ wsX60 ++ wsX70 ++ wsX00 ++ wsX20 ++ wsX40 ++ wsX10 ++ wsX30 ++ ([] : List Cond)
abbrev vwCl : List vw_C := [(RX0, TX0, 14), (RX1, TX1, 3), (RX2, TX2, 3), (RX3, TX3, 1), (RX4, TX4, 7), (RX6, TX6, 4), (RX7, TX7, 18)]
end
section
theorem inJ7 : ∀ w ∈ wsJ70, w ∈ lw_tbl := by decide +kernel
theorem dX0_init_0 : decode cX0_init 0 = .ok (.aload_n 0, 1) := by decide +kernel
theorem dX0_init_1 : decode cX0_init 1 = .ok (.invokespecial 3, 3) := by decide +kernel
theorem dX0_init_4 : decode cX0_init 4 = .ok (.aload_n 0, 1) := by decide +kernel
theorem dX0_init_5 : decode cX0_init 5 = .ok (.bipush 12, 2) := by decide +kernel
theorem dX0_init_7 : decode cX0_init 7 = .ok (.newarray .int, 2) := by decide +kernel
theorem dX0_init_9 : decode cX0_init 9 = .ok (.putfield 9, 3) := by decide +kernel
theorem dX0_init_12 : decode cX0_init 12 = .ok (.aload_n 0, 1) := by decide +kernel
theorem dX0_init_13 : decode cX0_init 13 = .ok (.bipush 12, 2) := by decide +kernel
theorem dX0_init_15 : decode cX0_init 15 = .ok (.newarray .int, 2) := by decide +kernel
theorem dX0_init_17 : decode cX0_init 17 = .ok (.putfield 15, 3) := by decide +kernel
theorem dX0_init_20 : decode cX0_init 20 = .ok (.aload_n 0, 1) := by decide +kernel
theorem dX0_init_21 : decode cX0_init 21 = .ok (.bipush 12, 2) := by decide +kernel
theorem dX0_init_23 : decode cX0_init 23 = .ok (.newarray .int, 2) := by decide +kernel
theorem dX0_init_25 : decode cX0_init 25 = .ok (.putfield 18, 3) := by decide +kernel
theorem dX0_init_28 : decode cX0_init 28 = .ok (.aload_n 0, 1) := by decide +kernel
theorem dX0_init_29 : decode cX0_init 29 = .ok (.bipush 12, 2) := by decide +kernel
theorem dX0_init_31 : decode cX0_init 31 = .ok (.newarray .int, 2) := by decide +kernel
theorem dX0_init_33 : decode cX0_init 33 = .ok (.putfield 21, 3) := by decide +kernel
theorem dX0_init_36 : decode cX0_init 36 = .ok (.aload_n 0, 1) := by decide +kernel
theorem dX0_init_37 : decode cX0_init 37 = .ok (.bipush 12, 2) := by decide +kernel
theorem dX0_init_39 : decode cX0_init 39 = .ok (.newarray .int, 2) := by decide +kernel
theorem dX0_init_41 : decode cX0_init 41 = .ok (.putfield 24, 3) := by decide +kernel
theorem dX0_init_44 : decode cX0_init 44 = .ok (.aload_n 0, 1) := by decide +kernel
theorem dX0_init_45 : decode cX0_init 45 = .ok (.bipush 12, 2) := by decide +kernel
theorem dX0_init_47 : decode cX0_init 47 = .ok (.newarray .int, 2) := by decide +kernel
theorem dX0_init_49 : decode cX0_init 49 = .ok (.putfield 27, 3) := by decide +kernel
theorem dX0_init_52 : decode cX0_init 52 = .ok (.aload_n 0, 1) := by decide +kernel
theorem dX0_init_53 : decode cX0_init 53 = .ok (.bipush 12, 2) := by decide +kernel
theorem dX0_init_55 : decode cX0_init 55 = .ok (.newarray .int, 2) := by decide +kernel
theorem dX0_init_57 : decode cX0_init 57 = .ok (.putfield 30, 3) := by decide +kernel
theorem dX0_init_60 : decode cX0_init 60 = .ok (.aload_n 0, 1) := by decide +kernel
theorem dX0_init_61 : decode cX0_init 61 = .ok (.bipush 12, 2) := by decide +kernel
theorem dX0_init_63 : decode cX0_init 63 = .ok (.newarray .boolean, 2) := by decide +kernel
theorem dX0_init_65 : decode cX0_init 65 = .ok (.putfield 33, 3) := by decide +kernel
theorem dX0_init_68 : decode cX0_init 68 = .ok (.aload_n 0, 1) := by decide +kernel
theorem dX0_init_69 : decode cX0_init 69 = .ok (.bipush 12, 2) := by decide +kernel
theorem dX0_init_71 : decode cX0_init 71 = .ok (.newarray .int, 2) := by decide +kernel
theorem dX0_init_73 : decode cX0_init 73 = .ok (.putfield 37, 3) := by decide +kernel
theorem dX0_init_76 : decode cX0_init 76 = .ok (.aload_n 0, 1) := by decide +kernel
theorem dX0_init_77 : decode cX0_init 77 = .ok (.bipush 12, 2) := by decide +kernel
theorem dX0_init_79 : decode cX0_init 79 = .ok (.bipush 12, 2) := by decide +kernel
theorem dX0_init_81 : decode cX0_init 81 = .ok (.multianewarray 40 2, 4) := by decide +kernel
theorem dX0_init_85 : decode cX0_init 85 = .ok (.putfield 42, 3) := by decide +kernel
theorem dX0_init_88 : decode cX0_init 88 = .ok (.return_, 1) := by decide +kernel
theorem dX0_hasRoom_0 : decode cX0_hasRoom 0 = .ok (.iload_n 1, 1) := by decide +kernel
theorem dX0_hasRoom_1 : decode cX0_hasRoom 1 = .ok (.ifCond .lt 15, 3) := by decide +kernel
theorem dX0_hasRoom_4 : decode cX0_hasRoom 4 = .ok (.iload_n 1, 1) := by decide +kernel
theorem dX0_hasRoom_5 : decode cX0_hasRoom 5 = .ok (.aload_n 0, 1) := by decide +kernel
theorem dX0_hasRoom_6 : decode cX0_hasRoom 6 = .ok (.getfield 45, 3) := by decide +kernel
theorem dX0_hasRoom_9 : decode cX0_hasRoom 9 = .ok (.if_icmp .ge 7, 3) := by decide +kernel
theorem dX0_hasRoom_12 : decode cX0_hasRoom 12 = .ok (.iconst 1, 1) := by decide +kernel
theorem dX0_hasRoom_13 : decode cX0_hasRoom 13 = .ok (.goto 4, 3) := by decide +kernel
theorem dX0_hasRoom_16 : decode cX0_hasRoom 16 = .ok (.iconst 0, 1) := by decide +kernel
theorem dX0_hasRoom_17 : decode cX0_hasRoom 17 = .ok (.ireturn, 1) := by decide +kernel
set_option maxRecDepth 20000 in
theorem ggX0_hasDoor_X0_hasRoom : GoodIn wsX0_hasDoor wsX0_hasRoom := goodIn_r _ [6, 7, 8, 9, 10, 11, 12, 13, 14, 15, 16, 17, 18, 19, 20, 21] (by decide +kernel) (by decide +kernel)
set_option maxRecDepth 20000 in
theorem gX0_hasDoor_X0_hasRoom : GoodIn wsX0_hasDoor (wsV RX0 49 RX0 yX0_hasRoom wsX0_hasRoom) := goodIn_app (goodIn_of _ (by decide +kernel)) ggX0_hasDoor_X0_hasRoom
theorem dX0_hasDoor_0 : decode cX0_hasDoor 0 = .ok (.aload_n 0, 1) := by decide +kernel
theorem dX0_hasDoor_1 : decode cX0_hasDoor 1 = .ok (.iload_n 1, 1) := by decide +kernel
theorem dX0_hasDoor_2 : decode cX0_hasDoor 2 = .ok (.invokevirtual 49, 3) := by decide +kernel
theorem dX0_hasDoor_5 : decode cX0_hasDoor 5 = .ok (.ifCond .eq 21, 3) := by decide +kernel
theorem dX0_hasDoor_8 : decode cX0_hasDoor 8 = .ok (.iload_n 2, 1) := by decide +kernel
theorem dX0_hasDoor_9 : decode cX0_hasDoor 9 = .ok (.ifCond .lt 17, 3) := by decide +kernel
theorem dX0_hasDoor_12 : decode cX0_hasDoor 12 = .ok (.iload_n 2, 1) := by decide +kernel
theorem dX0_hasDoor_13 : decode cX0_hasDoor 13 = .ok (.aload_n 0, 1) := by decide +kernel
theorem dX0_hasDoor_14 : decode cX0_hasDoor 14 = .ok (.getfield 37, 3) := by decide +kernel
theorem dX0_hasDoor_17 : decode cX0_hasDoor 17 = .ok (.iload_n 1, 1) := by decide +kernel
theorem dX0_hasDoor_18 : decode cX0_hasDoor 18 = .ok (.iaload, 1) := by decide +kernel
theorem dX0_hasDoor_19 : decode cX0_hasDoor 19 = .ok (.if_icmp .ge 7, 3) := by decide +kernel
theorem dX0_hasDoor_22 : decode cX0_hasDoor 22 = .ok (.iconst 1, 1) := by decide +kernel
theorem dX0_hasDoor_23 : decode cX0_hasDoor 23 = .ok (.goto 4, 3) := by decide +kernel
theorem dX0_hasDoor_26 : decode cX0_hasDoor 26 = .ok (.iconst 0, 1) := by decide +kernel
theorem dX0_hasDoor_27 : decode cX0_hasDoor 27 = .ok (.ireturn, 1) := by decide +kernel
set_option maxRecDepth 20000 in
theorem ggX0_afterWalking_X5_roomOf : GoodIn wsX0_afterWalking wsX5_roomOf := goodIn_r _ [7] (by decide +kernel) (by decide +kernel)
set_option maxRecDepth 20000 in
theorem gX0_afterWalking_X5_roomOf : GoodIn wsX0_afterWalking (va_wsS RX0 53 yX5_roomOf wsX5_roomOf) := goodIn_app (goodIn_of _ (by decide +kernel)) ggX0_afterWalking_X5_roomOf
set_option maxRecDepth 20000 in
theorem ggX0_afterWalking_X0_hasDoor : GoodIn wsX0_afterWalking wsX0_hasDoor := goodIn_r _ [12, 13, 14, 15, 16, 11, 17, 18, 58, 59, 60, 61, 62, 63, 64, 65, 66, 67, 68, 69, 70, 71] (by decide +kernel) (by decide +kernel)
set_option maxRecDepth 20000 in
theorem gX0_afterWalking_X0_hasDoor : GoodIn wsX0_afterWalking (wsV RX0 59 RX0 yX0_hasDoor wsX0_hasDoor) := goodIn_app (goodIn_of _ (by decide +kernel)) ggX0_afterWalking_X0_hasDoor
set_option maxRecDepth 20000 in
theorem ggX0_afterWalking_X0_doorOwner : GoodIn wsX0_afterWalking wsX0_doorOwner := goodIn_r _ [22, 23, 58, 59, 60, 61, 62, 63, 64, 65, 66, 67, 68, 69, 70, 71] (by decide +kernel) (by decide +kernel)
set_option maxRecDepth 20000 in
theorem gX0_afterWalking_X0_doorOwner : GoodIn wsX0_afterWalking (wsV RX0 63 RX0 yX0_doorOwner wsX0_doorOwner) := goodIn_app (goodIn_of _ (by decide +kernel)) ggX0_afterWalking_X0_doorOwner
set_option maxRecDepth 20000 in
theorem ggX0_afterWalking_X0_opens : GoodIn wsX0_afterWalking wsX0_opens := goodIn_r _ [27, 2, 28, 3, 29, 30, 6, 31, 32, 33, 34, 35, 36, 37, 38, 39, 40, 41, 42, 43, 44, 45, 46, 47, 48, 49, 50, 51, 52, 53, 58, 59, 60, 61, 62, 63, 64, 65, 66, 67, 68, 69, 70, 71] (by decide +kernel) (by decide +kernel)
set_option maxRecDepth 20000 in
theorem gX0_afterWalking_X0_opens : GoodIn wsX0_afterWalking (wsV RX0 67 RX0 yX0_opens wsX0_opens) := goodIn_app (goodIn_of _ (by decide +kernel)) ggX0_afterWalking_X0_opens
set_option maxRecDepth 20000 in
theorem ggX0_afterWalking_X5_inRoom : GoodIn wsX0_afterWalking wsX5_inRoom := goodIn_r _ [56] (by decide +kernel) (by decide +kernel)
set_option maxRecDepth 20000 in
theorem gX0_afterWalking_X5_inRoom : GoodIn wsX0_afterWalking (va_wsS RX0 70 yX5_inRoom wsX5_inRoom) := goodIn_app (goodIn_of _ (by decide +kernel)) ggX0_afterWalking_X5_inRoom
set_option maxRecDepth 20000 in
theorem ggX0_afterWalking_X5_openedBit : GoodIn wsX0_afterWalking wsX5_openedBit := goodIn_r _ [40] (by decide +kernel) (by decide +kernel)
set_option maxRecDepth 20000 in
theorem gX0_afterWalking_X5_openedBit : GoodIn wsX0_afterWalking (va_wsS RX0 73 yX5_openedBit wsX5_openedBit) := goodIn_app (goodIn_of _ (by decide +kernel)) ggX0_afterWalking_X5_openedBit
theorem dX0_afterWalking_0 : decode cX0_afterWalking 0 = .ok (.iload_n 1, 1) := by decide +kernel
theorem dX0_afterWalking_1 : decode cX0_afterWalking 1 = .ok (.invokestatic 53, 3) := by decide +kernel
theorem dX0_afterWalking_4 : decode cX0_afterWalking 4 = .ok (.istore_n 3, 1) := by decide +kernel
theorem dX0_afterWalking_5 : decode cX0_afterWalking 5 = .ok (.aload_n 0, 1) := by decide +kernel
theorem dX0_afterWalking_6 : decode cX0_afterWalking 6 = .ok (.iload_n 3, 1) := by decide +kernel
theorem dX0_afterWalking_7 : decode cX0_afterWalking 7 = .ok (.iload_n 2, 1) := by decide +kernel
theorem dX0_afterWalking_8 : decode cX0_afterWalking 8 = .ok (.invokevirtual 59, 3) := by decide +kernel
theorem dX0_afterWalking_11 : decode cX0_afterWalking 11 = .ok (.ifCond .ne 5, 3) := by decide +kernel
theorem dX0_afterWalking_14 : decode cX0_afterWalking 14 = .ok (.iconst (-1), 1) := by decide +kernel
theorem dX0_afterWalking_15 : decode cX0_afterWalking 15 = .ok (.ireturn, 1) := by decide +kernel
theorem dX0_afterWalking_16 : decode cX0_afterWalking 16 = .ok (.aload_n 0, 1) := by decide +kernel
theorem dX0_afterWalking_17 : decode cX0_afterWalking 17 = .ok (.getfield 42, 3) := by decide +kernel
theorem dX0_afterWalking_20 : decode cX0_afterWalking 20 = .ok (.iload_n 3, 1) := by decide +kernel
theorem dX0_afterWalking_21 : decode cX0_afterWalking 21 = .ok (.aaload, 1) := by decide +kernel
theorem dX0_afterWalking_22 : decode cX0_afterWalking 22 = .ok (.iload_n 2, 1) := by decide +kernel
theorem dX0_afterWalking_23 : decode cX0_afterWalking 23 = .ok (.iaload, 1) := by decide +kernel
theorem dX0_afterWalking_24 : decode cX0_afterWalking 24 = .ok (.istore 4, 2) := by decide +kernel
theorem dX0_afterWalking_26 : decode cX0_afterWalking 26 = .ok (.aload_n 0, 1) := by decide +kernel
theorem dX0_afterWalking_27 : decode cX0_afterWalking 27 = .ok (.iload_n 3, 1) := by decide +kernel
theorem dX0_afterWalking_28 : decode cX0_afterWalking 28 = .ok (.iload 4, 2) := by decide +kernel
theorem dX0_afterWalking_30 : decode cX0_afterWalking 30 = .ok (.invokevirtual 63, 3) := by decide +kernel
theorem dX0_afterWalking_33 : decode cX0_afterWalking 33 = .ok (.istore 5, 2) := by decide +kernel
theorem dX0_afterWalking_35 : decode cX0_afterWalking 35 = .ok (.aload_n 0, 1) := by decide +kernel
theorem dX0_afterWalking_36 : decode cX0_afterWalking 36 = .ok (.iload_n 1, 1) := by decide +kernel
theorem dX0_afterWalking_37 : decode cX0_afterWalking 37 = .ok (.iload 5, 2) := by decide +kernel
theorem dX0_afterWalking_39 : decode cX0_afterWalking 39 = .ok (.invokevirtual 67, 3) := by decide +kernel
theorem dX0_afterWalking_42 : decode cX0_afterWalking 42 = .ok (.ifCond .ne 6, 3) := by decide +kernel
theorem dX0_afterWalking_45 : decode cX0_afterWalking 45 = .ok (.bipush (-2), 2) := by decide +kernel
theorem dX0_afterWalking_47 : decode cX0_afterWalking 47 = .ok (.ireturn, 1) := by decide +kernel
theorem dX0_afterWalking_48 : decode cX0_afterWalking 48 = .ok (.iload_n 1, 1) := by decide +kernel
theorem dX0_afterWalking_49 : decode cX0_afterWalking 49 = .ok (.iload 4, 2) := by decide +kernel
theorem dX0_afterWalking_51 : decode cX0_afterWalking 51 = .ok (.invokestatic 70, 3) := by decide +kernel
theorem dX0_afterWalking_54 : decode cX0_afterWalking 54 = .ok (.istore 6, 2) := by decide +kernel
theorem dX0_afterWalking_56 : decode cX0_afterWalking 56 = .ok (.aload_n 0, 1) := by decide +kernel
theorem dX0_afterWalking_57 : decode cX0_afterWalking 57 = .ok (.getfield 18, 3) := by decide +kernel
theorem dX0_afterWalking_60 : decode cX0_afterWalking 60 = .ok (.iload 5, 2) := by decide +kernel
theorem dX0_afterWalking_62 : decode cX0_afterWalking 62 = .ok (.iaload, 1) := by decide +kernel
theorem dX0_afterWalking_63 : decode cX0_afterWalking 63 = .ok (.iconst 2, 1) := by decide +kernel
theorem dX0_afterWalking_64 : decode cX0_afterWalking 64 = .ok (.if_icmp .ne 19, 3) := by decide +kernel
theorem dX0_afterWalking_67 : decode cX0_afterWalking 67 = .ok (.iload 6, 2) := by decide +kernel
theorem dX0_afterWalking_69 : decode cX0_afterWalking 69 = .ok (.aload_n 0, 1) := by decide +kernel
theorem dX0_afterWalking_70 : decode cX0_afterWalking 70 = .ok (.getfield 21, 3) := by decide +kernel
theorem dX0_afterWalking_73 : decode cX0_afterWalking 73 = .ok (.iload 5, 2) := by decide +kernel
theorem dX0_afterWalking_75 : decode cX0_afterWalking 75 = .ok (.iaload, 1) := by decide +kernel
theorem dX0_afterWalking_76 : decode cX0_afterWalking 76 = .ok (.invokestatic 73, 3) := by decide +kernel
theorem dX0_afterWalking_79 : decode cX0_afterWalking 79 = .ok (.ior, 1) := by decide +kernel
theorem dX0_afterWalking_80 : decode cX0_afterWalking 80 = .ok (.goto 5, 3) := by decide +kernel
theorem dX0_afterWalking_83 : decode cX0_afterWalking 83 = .ok (.iload 6, 2) := by decide +kernel
theorem dX0_afterWalking_85 : decode cX0_afterWalking 85 = .ok (.ireturn, 1) := by decide +kernel
set_option maxRecDepth 20000 in
theorem ggX0_afterTaking_X5_roomOf : GoodIn wsX0_afterTaking wsX5_roomOf := goodIn_r _ [5] (by decide +kernel) (by decide +kernel)
set_option maxRecDepth 20000 in
theorem gX0_afterTaking_X5_roomOf : GoodIn wsX0_afterTaking (va_wsS RX0 53 yX5_roomOf wsX5_roomOf) := goodIn_app (goodIn_of _ (by decide +kernel)) ggX0_afterTaking_X5_roomOf
theorem dX0_afterTaking_0 : decode cX0_afterTaking 0 = .ok (.iload_n 1, 1) := by decide +kernel
theorem dX0_afterTaking_1 : decode cX0_afterTaking 1 = .ok (.aload_n 0, 1) := by decide +kernel
theorem dX0_afterTaking_2 : decode cX0_afterTaking 2 = .ok (.getfield 30, 3) := by decide +kernel
theorem dX0_afterTaking_5 : decode cX0_afterTaking 5 = .ok (.iload_n 1, 1) := by decide +kernel
theorem dX0_afterTaking_6 : decode cX0_afterTaking 6 = .ok (.invokestatic 53, 3) := by decide +kernel
theorem dX0_afterTaking_9 : decode cX0_afterTaking 9 = .ok (.iaload, 1) := by decide +kernel
theorem dX0_afterTaking_10 : decode cX0_afterTaking 10 = .ok (.ior, 1) := by decide +kernel
theorem dX0_afterTaking_11 : decode cX0_afterTaking 11 = .ok (.ireturn, 1) := by decide +kernel
set_option maxRecDepth 20000 in
theorem ggX0_afterToggling_X5_roomOf : GoodIn wsX0_afterToggling wsX5_roomOf := goodIn_r _ [5] (by decide +kernel) (by decide +kernel)
set_option maxRecDepth 20000 in
theorem gX0_afterToggling_X5_roomOf : GoodIn wsX0_afterToggling (va_wsS RX0 53 yX5_roomOf wsX5_roomOf) := goodIn_app (goodIn_of _ (by decide +kernel)) ggX0_afterToggling_X5_roomOf
set_option maxRecDepth 20000 in
theorem ggX0_afterToggling_X5_toggled : GoodIn wsX0_afterToggling wsX5_toggled := goodIn_r _ [8] (by decide +kernel) (by decide +kernel)
set_option maxRecDepth 20000 in
theorem gX0_afterToggling_X5_toggled : GoodIn wsX0_afterToggling (va_wsS RX0 76 yX5_toggled wsX5_toggled) := goodIn_app (goodIn_of _ (by decide +kernel)) ggX0_afterToggling_X5_toggled
theorem dX0_afterToggling_0 : decode cX0_afterToggling 0 = .ok (.aload_n 0, 1) := by decide +kernel
theorem dX0_afterToggling_1 : decode cX0_afterToggling 1 = .ok (.getfield 33, 3) := by decide +kernel
theorem dX0_afterToggling_4 : decode cX0_afterToggling 4 = .ok (.iload_n 1, 1) := by decide +kernel
theorem dX0_afterToggling_5 : decode cX0_afterToggling 5 = .ok (.invokestatic 53, 3) := by decide +kernel
theorem dX0_afterToggling_8 : decode cX0_afterToggling 8 = .ok (.baload, 1) := by decide +kernel
theorem dX0_afterToggling_9 : decode cX0_afterToggling 9 = .ok (.ifCond .eq 10, 3) := by decide +kernel
theorem dX0_afterToggling_12 : decode cX0_afterToggling 12 = .ok (.iload_n 1, 1) := by decide +kernel
theorem dX0_afterToggling_13 : decode cX0_afterToggling 13 = .ok (.invokestatic 76, 3) := by decide +kernel
theorem dX0_afterToggling_16 : decode cX0_afterToggling 16 = .ok (.goto 4, 3) := by decide +kernel
theorem dX0_afterToggling_19 : decode cX0_afterToggling 19 = .ok (.iconst (-1), 1) := by decide +kernel
theorem dX0_afterToggling_20 : decode cX0_afterToggling 20 = .ok (.ireturn, 1) := by decide +kernel
theorem dX0_doorOwner_0 : decode cX0_doorOwner 0 = .ok (.aload_n 0, 1) := by decide +kernel
theorem dX0_doorOwner_1 : decode cX0_doorOwner 1 = .ok (.getfield 9, 3) := by decide +kernel
theorem dX0_doorOwner_4 : decode cX0_doorOwner 4 = .ok (.iload_n 1, 1) := by decide +kernel
theorem dX0_doorOwner_5 : decode cX0_doorOwner 5 = .ok (.iaload, 1) := by decide +kernel
theorem dX0_doorOwner_6 : decode cX0_doorOwner 6 = .ok (.iload_n 2, 1) := by decide +kernel
theorem dX0_doorOwner_7 : decode cX0_doorOwner 7 = .ok (.if_icmp .ne 5, 3) := by decide +kernel
theorem dX0_doorOwner_10 : decode cX0_doorOwner 10 = .ok (.iload_n 1, 1) := by decide +kernel
theorem dX0_doorOwner_11 : decode cX0_doorOwner 11 = .ok (.ireturn, 1) := by decide +kernel
theorem dX0_doorOwner_12 : decode cX0_doorOwner 12 = .ok (.aload_n 0, 1) := by decide +kernel
theorem dX0_doorOwner_13 : decode cX0_doorOwner 13 = .ok (.getfield 9, 3) := by decide +kernel
theorem dX0_doorOwner_16 : decode cX0_doorOwner 16 = .ok (.iload_n 2, 1) := by decide +kernel
theorem dX0_doorOwner_17 : decode cX0_doorOwner 17 = .ok (.iaload, 1) := by decide +kernel
theorem dX0_doorOwner_18 : decode cX0_doorOwner 18 = .ok (.iload_n 1, 1) := by decide +kernel
theorem dX0_doorOwner_19 : decode cX0_doorOwner 19 = .ok (.if_icmp .ne 7, 3) := by decide +kernel
theorem dX0_doorOwner_22 : decode cX0_doorOwner 22 = .ok (.iload_n 2, 1) := by decide +kernel
theorem dX0_doorOwner_23 : decode cX0_doorOwner 23 = .ok (.goto 4, 3) := by decide +kernel
theorem dX0_doorOwner_26 : decode cX0_doorOwner 26 = .ok (.iconst 0, 1) := by decide +kernel
theorem dX0_doorOwner_27 : decode cX0_doorOwner 27 = .ok (.ireturn, 1) := by decide +kernel
set_option maxRecDepth 20000 in
theorem ggX0_opens_X5_hasKey : GoodIn wsX0_opens wsX5_hasKey := goodIn_r _ [7, 8, 9, 6, 10] (by decide +kernel) (by decide +kernel)
set_option maxRecDepth 20000 in
theorem gX0_opens_X5_hasKey : GoodIn wsX0_opens (va_wsS RX0 79 yX5_hasKey wsX5_hasKey) := goodIn_app (goodIn_of _ (by decide +kernel)) ggX0_opens_X5_hasKey
set_option maxRecDepth 20000 in
theorem ggX0_opens_X5_hasOpened : GoodIn wsX0_opens wsX5_hasOpened := goodIn_r _ [13, 14, 15, 6, 16] (by decide +kernel) (by decide +kernel)
set_option maxRecDepth 20000 in
theorem gX0_opens_X5_hasOpened : GoodIn wsX0_opens (va_wsS RX0 82 yX5_hasOpened wsX5_hasOpened) := goodIn_app (goodIn_of _ (by decide +kernel)) ggX0_opens_X5_hasOpened
set_option maxRecDepth 20000 in
theorem ggX0_opens_X5_smallKeysLeft : GoodIn wsX0_opens wsX5_smallKeysLeft := goodIn_r _ [19, 20, 21, 22, 23, 24, 25, 26] (by decide +kernel) (by decide +kernel)
set_option maxRecDepth 20000 in
theorem gX0_opens_X5_smallKeysLeft : GoodIn wsX0_opens (va_wsS RX0 85 yX5_smallKeysLeft wsX5_smallKeysLeft) := goodIn_app (goodIn_of _ (by decide +kernel)) ggX0_opens_X5_smallKeysLeft
set_option maxRecDepth 20000 in
theorem ggX0_opens_X5_positionOf : GoodIn wsX0_opens wsX5_positionOf := goodIn_r _ [29] (by decide +kernel) (by decide +kernel)
set_option maxRecDepth 20000 in
theorem gX0_opens_X5_positionOf : GoodIn wsX0_opens (va_wsS RX0 88 yX5_positionOf wsX5_positionOf) := goodIn_app (goodIn_of _ (by decide +kernel)) ggX0_opens_X5_positionOf
theorem dX0_opens_0 : decode cX0_opens 0 = .ok (.aload_n 0, 1) := by decide +kernel
theorem dX0_opens_1 : decode cX0_opens 1 = .ok (.getfield 18, 3) := by decide +kernel
theorem dX0_opens_4 : decode cX0_opens 4 = .ok (.iload_n 2, 1) := by decide +kernel
theorem dX0_opens_5 : decode cX0_opens 5 = .ok (.iaload, 1) := by decide +kernel
theorem dX0_opens_6 : decode cX0_opens 6 = .ok (.tableswitch 94 1 4 #[30, 41, 67, 80], 30) := by decide +kernel
theorem dX0_opens_36 : decode cX0_opens 36 = .ok (.iload_n 1, 1) := by decide +kernel
theorem dX0_opens_37 : decode cX0_opens 37 = .ok (.aload_n 0, 1) := by decide +kernel
theorem dX0_opens_38 : decode cX0_opens 38 = .ok (.getfield 15, 3) := by decide +kernel
theorem dX0_opens_41 : decode cX0_opens 41 = .ok (.iload_n 2, 1) := by decide +kernel
theorem dX0_opens_42 : decode cX0_opens 42 = .ok (.iaload, 1) := by decide +kernel
theorem dX0_opens_43 : decode cX0_opens 43 = .ok (.invokestatic 79, 3) := by decide +kernel
theorem dX0_opens_46 : decode cX0_opens 46 = .ok (.ireturn, 1) := by decide +kernel
theorem dX0_opens_47 : decode cX0_opens 47 = .ok (.iload_n 1, 1) := by decide +kernel
theorem dX0_opens_48 : decode cX0_opens 48 = .ok (.aload_n 0, 1) := by decide +kernel
theorem dX0_opens_49 : decode cX0_opens 49 = .ok (.getfield 21, 3) := by decide +kernel
theorem dX0_opens_52 : decode cX0_opens 52 = .ok (.iload_n 2, 1) := by decide +kernel
theorem dX0_opens_53 : decode cX0_opens 53 = .ok (.iaload, 1) := by decide +kernel
theorem dX0_opens_54 : decode cX0_opens 54 = .ok (.invokestatic 82, 3) := by decide +kernel
theorem dX0_opens_57 : decode cX0_opens 57 = .ok (.ifCond .ne 10, 3) := by decide +kernel
theorem dX0_opens_60 : decode cX0_opens 60 = .ok (.iload_n 1, 1) := by decide +kernel
theorem dX0_opens_61 : decode cX0_opens 61 = .ok (.invokestatic 85, 3) := by decide +kernel
theorem dX0_opens_64 : decode cX0_opens 64 = .ok (.ifCond .le 7, 3) := by decide +kernel
theorem dX0_opens_67 : decode cX0_opens 67 = .ok (.iconst 1, 1) := by decide +kernel
theorem dX0_opens_68 : decode cX0_opens 68 = .ok (.goto 4, 3) := by decide +kernel
theorem dX0_opens_71 : decode cX0_opens 71 = .ok (.iconst 0, 1) := by decide +kernel
theorem dX0_opens_72 : decode cX0_opens 72 = .ok (.ireturn, 1) := by decide +kernel
theorem dX0_opens_73 : decode cX0_opens 73 = .ok (.iload_n 1, 1) := by decide +kernel
theorem dX0_opens_74 : decode cX0_opens 74 = .ok (.invokestatic 88, 3) := by decide +kernel
theorem dX0_opens_77 : decode cX0_opens 77 = .ok (.ifCond .ne 7, 3) := by decide +kernel
theorem dX0_opens_80 : decode cX0_opens 80 = .ok (.iconst 1, 1) := by decide +kernel
theorem dX0_opens_81 : decode cX0_opens 81 = .ok (.goto 4, 3) := by decide +kernel
theorem dX0_opens_84 : decode cX0_opens 84 = .ok (.iconst 0, 1) := by decide +kernel
theorem dX0_opens_85 : decode cX0_opens 85 = .ok (.ireturn, 1) := by decide +kernel
theorem dX0_opens_86 : decode cX0_opens 86 = .ok (.iload_n 1, 1) := by decide +kernel
theorem dX0_opens_87 : decode cX0_opens 87 = .ok (.invokestatic 88, 3) := by decide +kernel
theorem dX0_opens_90 : decode cX0_opens 90 = .ok (.iconst 1, 1) := by decide +kernel
theorem dX0_opens_91 : decode cX0_opens 91 = .ok (.if_icmp .ne 7, 3) := by decide +kernel
theorem dX0_opens_94 : decode cX0_opens 94 = .ok (.iconst 1, 1) := by decide +kernel
theorem dX0_opens_95 : decode cX0_opens 95 = .ok (.goto 4, 3) := by decide +kernel
theorem dX0_opens_98 : decode cX0_opens 98 = .ok (.iconst 0, 1) := by decide +kernel
theorem dX0_opens_99 : decode cX0_opens 99 = .ok (.ireturn, 1) := by decide +kernel
theorem dX0_opens_100 : decode cX0_opens 100 = .ok (.iconst 1, 1) := by decide +kernel
theorem dX0_opens_101 : decode cX0_opens 101 = .ok (.ireturn, 1) := by decide +kernel
theorem dX1_init_0 : decode cX1_init 0 = .ok (.aload_n 0, 1) := by decide +kernel
theorem dX1_init_1 : decode cX1_init 1 = .ok (.invokespecial 3, 3) := by decide +kernel
theorem dX1_init_4 : decode cX1_init 4 = .ok (.aload_n 0, 1) := by decide +kernel
theorem dX1_init_5 : decode cX1_init 5 = .ok (.bipush 12, 2) := by decide +kernel
theorem dX1_init_7 : decode cX1_init 7 = .ok (.newarray .int, 2) := by decide +kernel
theorem dX1_init_9 : decode cX1_init 9 = .ok (.putfield 9, 3) := by decide +kernel
theorem dX1_init_12 : decode cX1_init 12 = .ok (.return_, 1) := by decide +kernel
theorem dX1_begin_0 : decode cX1_begin 0 = .ok (.aload_n 0, 1) := by decide +kernel
theorem dX1_begin_1 : decode cX1_begin 1 = .ok (.lload_n 1, 1) := by decide +kernel
theorem dX1_begin_2 : decode cX1_begin 2 = .ok (.putfield 15, 3) := by decide +kernel
theorem dX1_begin_5 : decode cX1_begin 5 = .ok (.return_, 1) := by decide +kernel
theorem dX1_number_0 : decode cX1_number 0 = .ok (.aload_n 0, 1) := by decide +kernel
theorem dX1_number_1 : decode cX1_number 1 = .ok (.aload_n 0, 1) := by decide +kernel
theorem dX1_number_2 : decode cX1_number 2 = .ok (.getfield 15, 3) := by decide +kernel
theorem dX1_number_5 : decode cX1_number 5 = .ok (.ldc2_w 19, 3) := by decide +kernel
theorem dX1_number_8 : decode cX1_number 8 = .ok (.lmul, 1) := by decide +kernel
theorem dX1_number_9 : decode cX1_number 9 = .ok (.ldc2_w 21, 3) := by decide +kernel
theorem dX1_number_12 : decode cX1_number 12 = .ok (.ladd, 1) := by decide +kernel
theorem dX1_number_13 : decode cX1_number 13 = .ok (.putfield 15, 3) := by decide +kernel
theorem dX1_number_16 : decode cX1_number 16 = .ok (.iload_n 1, 1) := by decide +kernel
theorem dX1_number_17 : decode cX1_number 17 = .ok (.iconst 1, 1) := by decide +kernel
theorem dX1_number_18 : decode cX1_number 18 = .ok (.if_icmp .ge 7, 3) := by decide +kernel
theorem dX1_number_21 : decode cX1_number 21 = .ok (.iconst 0, 1) := by decide +kernel
theorem dX1_number_22 : decode cX1_number 22 = .ok (.goto 14, 3) := by decide +kernel
theorem dX1_number_25 : decode cX1_number 25 = .ok (.aload_n 0, 1) := by decide +kernel
theorem dX1_number_26 : decode cX1_number 26 = .ok (.getfield 15, 3) := by decide +kernel
theorem dX1_number_29 : decode cX1_number 29 = .ok (.bipush 33, 2) := by decide +kernel
theorem dX1_number_31 : decode cX1_number 31 = .ok (.lushr, 1) := by decide +kernel
theorem dX1_number_32 : decode cX1_number 32 = .ok (.iload_n 1, 1) := by decide +kernel
theorem dX1_number_33 : decode cX1_number 33 = .ok (.i2l, 1) := by decide +kernel
theorem dX1_number_34 : decode cX1_number 34 = .ok (.lrem, 1) := by decide +kernel
theorem dX1_number_35 : decode cX1_number 35 = .ok (.l2i, 1) := by decide +kernel
theorem dX1_number_36 : decode cX1_number 36 = .ok (.ireturn, 1) := by decide +kernel
theorem dX1_clearOffer_0 : decode cX1_clearOffer 0 = .ok (.aload_n 0, 1) := by decide +kernel
theorem dX1_clearOffer_1 : decode cX1_clearOffer 1 = .ok (.iconst 0, 1) := by decide +kernel
theorem dX1_clearOffer_2 : decode cX1_clearOffer 2 = .ok (.putfield 23, 3) := by decide +kernel
theorem dX1_clearOffer_5 : decode cX1_clearOffer 5 = .ok (.return_, 1) := by decide +kernel
theorem dX1_offer_0 : decode cX1_offer 0 = .ok (.aload_n 0, 1) := by decide +kernel
theorem dX1_offer_1 : decode cX1_offer 1 = .ok (.getfield 23, 3) := by decide +kernel
theorem dX1_offer_4 : decode cX1_offer 4 = .ok (.aload_n 0, 1) := by decide +kernel
theorem dX1_offer_5 : decode cX1_offer 5 = .ok (.getfield 9, 3) := by decide +kernel
theorem dX1_offer_8 : decode cX1_offer 8 = .ok (.arraylength, 1) := by decide +kernel
theorem dX1_offer_9 : decode cX1_offer 9 = .ok (.if_icmp .ge 23, 3) := by decide +kernel
theorem dX1_offer_12 : decode cX1_offer 12 = .ok (.aload_n 0, 1) := by decide +kernel
theorem dX1_offer_13 : decode cX1_offer 13 = .ok (.getfield 9, 3) := by decide +kernel
theorem dX1_offer_16 : decode cX1_offer 16 = .ok (.aload_n 0, 1) := by decide +kernel
theorem dX1_offer_17 : decode cX1_offer 17 = .ok (.getfield 23, 3) := by decide +kernel
theorem dX1_offer_20 : decode cX1_offer 20 = .ok (.iload_n 1, 1) := by decide +kernel
theorem dX1_offer_21 : decode cX1_offer 21 = .ok (.iastore, 1) := by decide +kernel
theorem dX1_offer_22 : decode cX1_offer 22 = .ok (.aload_n 0, 1) := by decide +kernel
theorem dX1_offer_23 : decode cX1_offer 23 = .ok (.dup, 1) := by decide +kernel
theorem dX1_offer_24 : decode cX1_offer 24 = .ok (.getfield 23, 3) := by decide +kernel
theorem dX1_offer_27 : decode cX1_offer 27 = .ok (.iconst 1, 1) := by decide +kernel
theorem dX1_offer_28 : decode cX1_offer 28 = .ok (.iadd, 1) := by decide +kernel
theorem dX1_offer_29 : decode cX1_offer 29 = .ok (.putfield 23, 3) := by decide +kernel
theorem dX1_offer_32 : decode cX1_offer 32 = .ok (.return_, 1) := by decide +kernel
theorem dX1_hasOffer_0 : decode cX1_hasOffer 0 = .ok (.aload_n 0, 1) := by decide +kernel
theorem dX1_hasOffer_1 : decode cX1_hasOffer 1 = .ok (.getfield 23, 3) := by decide +kernel
theorem dX1_hasOffer_4 : decode cX1_hasOffer 4 = .ok (.ifCond .le 7, 3) := by decide +kernel
theorem dX1_hasOffer_7 : decode cX1_hasOffer 7 = .ok (.iconst 1, 1) := by decide +kernel
theorem dX1_hasOffer_8 : decode cX1_hasOffer 8 = .ok (.goto 4, 3) := by decide +kernel
theorem dX1_hasOffer_11 : decode cX1_hasOffer 11 = .ok (.iconst 0, 1) := by decide +kernel
theorem dX1_hasOffer_12 : decode cX1_hasOffer 12 = .ok (.ireturn, 1) := by decide +kernel
set_option maxRecDepth 20000 in
theorem ggX1_offeredRoom_X1_number : GoodIn wsX1_offeredRoom wsX1_number := goodIn_r _ [7, 8, 9, 10, 11, 12, 13] (by decide +kernel) (by decide +kernel)
set_option maxRecDepth 20000 in
theorem gX1_offeredRoom_X1_number : GoodIn wsX1_offeredRoom (wsV RX1 27 RX1 yX1_number wsX1_number) := goodIn_app (goodIn_of _ (by decide +kernel)) ggX1_offeredRoom_X1_number
theorem dX1_offeredRoom_0 : decode cX1_offeredRoom 0 = .ok (.aload_n 0, 1) := by decide +kernel
theorem dX1_offeredRoom_1 : decode cX1_offeredRoom 1 = .ok (.getfield 9, 3) := by decide +kernel
theorem dX1_offeredRoom_4 : decode cX1_offeredRoom 4 = .ok (.aload_n 0, 1) := by decide +kernel
theorem dX1_offeredRoom_5 : decode cX1_offeredRoom 5 = .ok (.aload_n 0, 1) := by decide +kernel
theorem dX1_offeredRoom_6 : decode cX1_offeredRoom 6 = .ok (.getfield 23, 3) := by decide +kernel
theorem dX1_offeredRoom_9 : decode cX1_offeredRoom 9 = .ok (.invokevirtual 27, 3) := by decide +kernel
theorem dX1_offeredRoom_12 : decode cX1_offeredRoom 12 = .ok (.iaload, 1) := by decide +kernel
theorem dX1_offeredRoom_13 : decode cX1_offeredRoom 13 = .ok (.ireturn, 1) := by decide +kernel
set_option maxRecDepth 20000 in
theorem ggX2_init_X1_init : GoodIn wsX2_init wsX1_init := goodIn_r _ [12, 13, 2, 3, 14, 15, 16, 17, 18] (by decide +kernel) (by decide +kernel)
set_option maxRecDepth 20000 in
theorem gX2_init_X1_init_n11 : GoodIn wsX2_init (wsX1_init) := ggX2_init_X1_init
theorem dX2_init_0 : decode cX2_init 0 = .ok (.aload_n 0, 1) := by decide +kernel
theorem dX2_init_1 : decode cX2_init 1 = .ok (.invokespecial 3, 3) := by decide +kernel
theorem dX2_init_4 : decode cX2_init 4 = .ok (.aload_n 0, 1) := by decide +kernel
theorem dX2_init_5 : decode cX2_init 5 = .ok (.new 9, 3) := by decide +kernel
theorem dX2_init_8 : decode cX2_init 8 = .ok (.dup, 1) := by decide +kernel
theorem dX2_init_9 : decode cX2_init 9 = .ok (.invokespecial 11, 3) := by decide +kernel
theorem dX2_init_12 : decode cX2_init 12 = .ok (.putfield 12, 3) := by decide +kernel
theorem dX2_init_15 : decode cX2_init 15 = .ok (.aload_n 0, 1) := by decide +kernel
theorem dX2_init_16 : decode cX2_init 16 = .ok (.bipush 12, 2) := by decide +kernel
theorem dX2_init_18 : decode cX2_init 18 = .ok (.newarray .boolean, 2) := by decide +kernel
theorem dX2_init_20 : decode cX2_init 20 = .ok (.putfield 18, 3) := by decide +kernel
theorem dX2_init_23 : decode cX2_init 23 = .ok (.aload_n 0, 1) := by decide +kernel
theorem dX2_init_24 : decode cX2_init 24 = .ok (.aload_n 1, 1) := by decide +kernel
theorem dX2_init_25 : decode cX2_init 25 = .ok (.putfield 22, 3) := by decide +kernel
theorem dX2_init_28 : decode cX2_init 28 = .ok (.return_, 1) := by decide +kernel
set_option maxRecDepth 20000 in
theorem ggX2_build_X1_begin : GoodIn wsX2_build wsX1_begin := goodIn_r _ [10, 11, 159, 160, 161] (by decide +kernel) (by decide +kernel)
set_option maxRecDepth 20000 in
theorem gX2_build_X1_begin : GoodIn wsX2_build (wsV RX2 26 RX1 yX1_begin wsX1_begin) := goodIn_app (goodIn_of _ (by decide +kernel)) ggX2_build_X1_begin
set_option maxRecDepth 20000 in
theorem ggX2_build_X2_clear : GoodIn wsX2_build wsX2_clear := goodIn_r _ [16, 2, 17, 18, 19, 20, 21, 22, 23, 24, 142, 143, 144, 145, 146, 147, 148, 149, 150, 151, 152, 153, 154, 155, 156, 157, 158] (by decide +kernel) (by decide +kernel)
set_option maxRecDepth 20000 in
theorem gX2_build_X2_clear : GoodIn wsX2_build (wsV RX2 30 RX2 yX2_clear wsX2_clear) := goodIn_app (goodIn_of _ (by decide +kernel)) ggX2_build_X2_clear
set_option maxRecDepth 20000 in
theorem ggX2_build_X2_addRooms : GoodIn wsX2_build wsX2_addRooms := goodIn_r _ [28, 2, 29, 30, 31, 3, 4, 1, 32, 33, 34, 15, 35, 36, 37, 38, 9, 39, 40, 41, 42, 43, 44, 45, 46, 47, 48, 49, 50, 51, 52, 53, 11, 54, 55, 56, 57, 58, 59, 60, 142, 143, 144, 145, 146, 147, 148, 149, 150, 151, 152, 153, 154, 155, 156, 157, 158, 159, 160, 161] (by decide +kernel) (by decide +kernel)
set_option maxRecDepth 20000 in
theorem gX2_build_X2_addRooms : GoodIn wsX2_build (wsV RX2 42 RX2 yX2_addRooms wsX2_addRooms) := goodIn_app (goodIn_of _ (by decide +kernel)) ggX2_build_X2_addRooms
set_option maxRecDepth 20000 in
theorem ggX2_build_X2_layKeys : GoodIn wsX2_build wsX2_layKeys := goodIn_r _ [64, 2, 4, 17, 1, 65, 66, 67, 15, 68, 3, 30, 36, 37, 38, 9, 39, 40, 69, 70, 71, 41, 42, 43, 44, 45, 46, 47, 48, 49, 50, 51, 52, 53, 11, 54, 55, 72, 73, 74, 75, 142, 143, 144, 145, 146, 147, 148, 149, 150, 151, 152, 153, 154, 155, 156, 157, 158, 159, 160, 161] (by decide +kernel) (by decide +kernel)
set_option maxRecDepth 20000 in
theorem gX2_build_X2_layKeys : GoodIn wsX2_build (wsV RX2 45 RX2 yX2_layKeys wsX2_layKeys) := goodIn_app (goodIn_of _ (by decide +kernel)) ggX2_build_X2_layKeys
set_option maxRecDepth 20000 in
theorem ggX2_build_X2_makeSmallDoors : GoodIn wsX2_build wsX2_makeSmallDoors := goodIn_r _ [79, 1, 2, 31, 80, 81, 82, 83, 15, 84, 3, 36, 37, 38, 9, 39, 40, 41, 42, 43, 44, 45, 85, 86, 87, 88, 46, 47, 48, 49, 50, 51, 52, 53, 11, 54, 55, 142, 143, 144, 145, 146, 147, 148, 149, 150, 151, 152, 153, 154, 155, 156, 157, 158, 159, 160, 161] (by decide +kernel) (by decide +kernel)
set_option maxRecDepth 20000 in
theorem gX2_build_X2_makeSmallDoors : GoodIn wsX2_build (wsV RX2 48 RX2 yX2_makeSmallDoors wsX2_makeSmallDoors) := goodIn_app (goodIn_of _ (by decide +kernel)) ggX2_build_X2_makeSmallDoors
set_option maxRecDepth 20000 in
theorem ggX2_build_X2_laySmallKeys : GoodIn wsX2_build wsX2_laySmallKeys := goodIn_r _ [92, 2, 17, 1, 93, 94, 95, 15, 96, 97, 3, 30, 31, 29, 36, 37, 38, 9, 39, 40, 41, 42, 43, 44, 45, 46, 47, 48, 49, 50, 51, 52, 53, 11, 54, 55, 98, 99, 74, 100, 142, 143, 144, 145, 146, 147, 148, 149, 150, 151, 152, 153, 154, 155, 156, 157, 158, 159, 160, 161] (by decide +kernel) (by decide +kernel)
set_option maxRecDepth 20000 in
theorem gX2_build_X2_laySmallKeys : GoodIn wsX2_build (wsV RX2 52 RX2 yX2_laySmallKeys wsX2_laySmallKeys) := goodIn_app (goodIn_of _ (by decide +kernel)) ggX2_build_X2_laySmallKeys
set_option maxRecDepth 20000 in
theorem ggX2_build_X2_makeBarriers : GoodIn wsX2_build wsX2_makeBarriers := goodIn_r _ [104, 1, 2, 31, 19, 29, 81, 82, 83, 15, 84, 3, 36, 37, 38, 9, 39, 40, 41, 42, 43, 44, 45, 85, 86, 87, 88, 46, 47, 48, 49, 50, 51, 52, 53, 11, 54, 55, 56, 142, 143, 144, 145, 146, 147, 148, 149, 150, 151, 152, 153, 154, 155, 156, 157, 158, 159, 160, 161] (by decide +kernel) (by decide +kernel)
set_option maxRecDepth 20000 in
theorem gX2_build_X2_makeBarriers : GoodIn wsX2_build (wsV RX2 56 RX2 yX2_makeBarriers wsX2_makeBarriers) := goodIn_app (goodIn_of _ (by decide +kernel)) ggX2_build_X2_makeBarriers
set_option maxRecDepth 20000 in
theorem ggX2_build_X2_offerLevels : GoodIn wsX2_build wsX2_offerLevels := goodIn_r _ [68, 1, 2, 3, 30, 36, 37, 38, 9, 39, 40, 69, 70, 71, 41, 42, 43, 44, 45, 142, 143, 144, 145, 146, 147, 148, 149, 150, 151, 152, 153, 154, 155, 156, 157, 158, 159, 160, 161] (by decide +kernel) (by decide +kernel)
set_option maxRecDepth 20000 in
theorem gX2_build_X2_offerLevels : GoodIn wsX2_build (wsV RX2 59 RX2 yX2_offerLevels wsX2_offerLevels) := goodIn_app (goodIn_of _ (by decide +kernel)) ggX2_build_X2_offerLevels
set_option maxRecDepth 20000 in
theorem ggX2_build_X1_offeredRoom : GoodIn wsX2_build wsX1_offeredRoom := goodIn_r _ [49, 45, 40, 50, 51, 52, 9, 53, 11, 54, 55, 159, 160, 161] (by decide +kernel) (by decide +kernel)
set_option maxRecDepth 20000 in
theorem gX2_build_X1_offeredRoom : GoodIn wsX2_build (wsV RX2 63 RX1 yX1_offeredRoom wsX1_offeredRoom) := goodIn_app (goodIn_of _ (by decide +kernel)) ggX2_build_X1_offeredRoom
set_option maxRecDepth 20000 in
theorem ggX2_build_X2_placeRooms : GoodIn wsX2_build wsX2_placeRooms := goodIn_r _ [108, 2, 109, 110, 3, 1, 56, 51, 52, 9, 53, 11, 54, 55, 111, 112, 113, 15, 114, 29, 115, 116, 117, 118, 119, 120, 142, 143, 144, 145, 146, 147, 148, 149, 150, 151, 152, 153, 154, 155, 156, 157, 158, 159, 160, 161] (by decide +kernel) (by decide +kernel)
set_option maxRecDepth 20000 in
theorem gX2_build_X2_placeRooms : GoodIn wsX2_build (wsV RX2 70 RX2 yX2_placeRooms wsX2_placeRooms) := goodIn_app (goodIn_of _ (by decide +kernel)) ggX2_build_X2_placeRooms
set_option maxRecDepth 20000 in
theorem ggX2_build_X2_joinFamilies : GoodIn wsX2_build wsX2_joinFamilies := goodIn_r _ [124, 2, 3, 29, 125, 126, 127, 15, 128, 129, 18, 20, 142, 143, 144, 145, 146, 147, 148, 149, 150, 151, 152, 153, 154, 155, 156, 157, 158] (by decide +kernel) (by decide +kernel)
set_option maxRecDepth 20000 in
theorem gX2_build_X2_joinFamilies : GoodIn wsX2_build (wsV RX2 73 RX2 yX2_joinFamilies wsX2_joinFamilies) := goodIn_app (goodIn_of _ (by decide +kernel)) ggX2_build_X2_joinFamilies
set_option maxRecDepth 20000 in
theorem ggX2_build_X2_joinLoops : GoodIn wsX2_build wsX2_joinLoops := goodIn_r _ [133, 2, 3, 1, 134, 135, 136, 15, 137, 109, 138, 139, 140, 141, 110, 30, 29, 56, 51, 52, 9, 53, 11, 54, 55, 125, 126, 127, 128, 129, 18, 20, 142, 143, 144, 145, 146, 147, 148, 149, 150, 151, 152, 153, 154, 155, 156, 157, 158, 159, 160, 161] (by decide +kernel) (by decide +kernel)
set_option maxRecDepth 20000 in
theorem gX2_build_X2_joinLoops : GoodIn wsX2_build (wsV RX2 76 RX2 yX2_joinLoops wsX2_joinLoops) := goodIn_app (goodIn_of _ (by decide +kernel)) ggX2_build_X2_joinLoops
theorem dX2_build_0 : decode cX2_build 0 = .ok (.aload_n 0, 1) := by decide +kernel
theorem dX2_build_1 : decode cX2_build 1 = .ok (.getfield 12, 3) := by decide +kernel
theorem dX2_build_4 : decode cX2_build 4 = .ok (.lload_n 1, 1) := by decide +kernel
theorem dX2_build_5 : decode cX2_build 5 = .ok (.invokevirtual 26, 3) := by decide +kernel
theorem dX2_build_8 : decode cX2_build 8 = .ok (.aload_n 0, 1) := by decide +kernel
theorem dX2_build_9 : decode cX2_build 9 = .ok (.invokevirtual 30, 3) := by decide +kernel
theorem dX2_build_12 : decode cX2_build 12 = .ok (.aload_n 0, 1) := by decide +kernel
theorem dX2_build_13 : decode cX2_build 13 = .ok (.getfield 22, 3) := by decide +kernel
theorem dX2_build_16 : decode cX2_build 16 = .ok (.iload_n 3, 1) := by decide +kernel
theorem dX2_build_17 : decode cX2_build 17 = .ok (.putfield 33, 3) := by decide +kernel
theorem dX2_build_20 : decode cX2_build 20 = .ok (.aload_n 0, 1) := by decide +kernel
theorem dX2_build_21 : decode cX2_build 21 = .ok (.getfield 22, 3) := by decide +kernel
theorem dX2_build_24 : decode cX2_build 24 = .ok (.iload 4, 2) := by decide +kernel
theorem dX2_build_26 : decode cX2_build 26 = .ok (.putfield 39, 3) := by decide +kernel
theorem dX2_build_29 : decode cX2_build 29 = .ok (.aload_n 0, 1) := by decide +kernel
theorem dX2_build_30 : decode cX2_build 30 = .ok (.invokevirtual 42, 3) := by decide +kernel
theorem dX2_build_33 : decode cX2_build 33 = .ok (.aload_n 0, 1) := by decide +kernel
theorem dX2_build_34 : decode cX2_build 34 = .ok (.invokevirtual 45, 3) := by decide +kernel
theorem dX2_build_37 : decode cX2_build 37 = .ok (.aload_n 0, 1) := by decide +kernel
theorem dX2_build_38 : decode cX2_build 38 = .ok (.aload_n 0, 1) := by decide +kernel
theorem dX2_build_39 : decode cX2_build 39 = .ok (.iload 5, 2) := by decide +kernel
theorem dX2_build_41 : decode cX2_build 41 = .ok (.invokevirtual 48, 3) := by decide +kernel
theorem dX2_build_44 : decode cX2_build 44 = .ok (.invokevirtual 52, 3) := by decide +kernel
theorem dX2_build_47 : decode cX2_build 47 = .ok (.aload_n 0, 1) := by decide +kernel
theorem dX2_build_48 : decode cX2_build 48 = .ok (.iload 6, 2) := by decide +kernel
theorem dX2_build_50 : decode cX2_build 50 = .ok (.invokevirtual 56, 3) := by decide +kernel
theorem dX2_build_53 : decode cX2_build 53 = .ok (.aload_n 0, 1) := by decide +kernel
theorem dX2_build_54 : decode cX2_build 54 = .ok (.iload 4, 2) := by decide +kernel
theorem dX2_build_56 : decode cX2_build 56 = .ok (.iload 4, 2) := by decide +kernel
theorem dX2_build_58 : decode cX2_build 58 = .ok (.invokevirtual 59, 3) := by decide +kernel
theorem dX2_build_61 : decode cX2_build 61 = .ok (.aload_n 0, 1) := by decide +kernel
theorem dX2_build_62 : decode cX2_build 62 = .ok (.getfield 22, 3) := by decide +kernel
theorem dX2_build_65 : decode cX2_build 65 = .ok (.aload_n 0, 1) := by decide +kernel
theorem dX2_build_66 : decode cX2_build 66 = .ok (.getfield 12, 3) := by decide +kernel
theorem dX2_build_69 : decode cX2_build 69 = .ok (.invokevirtual 63, 3) := by decide +kernel
theorem dX2_build_72 : decode cX2_build 72 = .ok (.putfield 67, 3) := by decide +kernel
theorem dX2_build_75 : decode cX2_build 75 = .ok (.aload_n 0, 1) := by decide +kernel
theorem dX2_build_76 : decode cX2_build 76 = .ok (.invokevirtual 70, 3) := by decide +kernel
theorem dX2_build_79 : decode cX2_build 79 = .ok (.aload_n 0, 1) := by decide +kernel
theorem dX2_build_80 : decode cX2_build 80 = .ok (.invokevirtual 73, 3) := by decide +kernel
theorem dX2_build_83 : decode cX2_build 83 = .ok (.aload_n 0, 1) := by decide +kernel
theorem dX2_build_84 : decode cX2_build 84 = .ok (.invokevirtual 76, 3) := by decide +kernel
theorem dX2_build_87 : decode cX2_build 87 = .ok (.return_, 1) := by decide +kernel
set_option maxRecDepth 20000 in
theorem ggX2_clear_J7_fill_53178 : GoodIn wsX2_clear wsJ7_fill_53178 := goodIn_r _ [9] (by decide +kernel) (by decide +kernel)
set_option maxRecDepth 20000 in
theorem gX2_clear_J7_fill_53178 : GoodIn wsX2_clear (va_wsS RX2 83 yJ7_fill_53178 wsJ7_fill_53178) := goodIn_app (goodIn_of _ (by decide +kernel)) ggX2_clear_J7_fill_53178
theorem dX2_clear_0 : decode cX2_clear 0 = .ok (.aload_n 0, 1) := by decide +kernel
theorem dX2_clear_1 : decode cX2_clear 1 = .ok (.getfield 22, 3) := by decide +kernel
theorem dX2_clear_4 : decode cX2_clear 4 = .ok (.getfield 79, 3) := by decide +kernel
theorem dX2_clear_7 : decode cX2_clear 7 = .ok (.iconst 0, 1) := by decide +kernel
theorem dX2_clear_8 : decode cX2_clear 8 = .ok (.invokestatic 83, 3) := by decide +kernel
theorem dX2_clear_11 : decode cX2_clear 11 = .ok (.aload_n 0, 1) := by decide +kernel
theorem dX2_clear_12 : decode cX2_clear 12 = .ok (.getfield 22, 3) := by decide +kernel
theorem dX2_clear_15 : decode cX2_clear 15 = .ok (.getfield 89, 3) := by decide +kernel
theorem dX2_clear_18 : decode cX2_clear 18 = .ok (.iconst 0, 1) := by decide +kernel
theorem dX2_clear_19 : decode cX2_clear 19 = .ok (.invokestatic 83, 3) := by decide +kernel
theorem dX2_clear_22 : decode cX2_clear 22 = .ok (.iconst 0, 1) := by decide +kernel
theorem dX2_clear_23 : decode cX2_clear 23 = .ok (.istore_n 1, 1) := by decide +kernel
theorem dX2_clear_24 : decode cX2_clear 24 = .ok (.iload_n 1, 1) := by decide +kernel
theorem dX2_clear_25 : decode cX2_clear 25 = .ok (.bipush 12, 2) := by decide +kernel
theorem dX2_clear_27 : decode cX2_clear 27 = .ok (.if_icmp .ge 19, 3) := by decide +kernel
theorem dX2_clear_30 : decode cX2_clear 30 = .ok (.aload_n 0, 1) := by decide +kernel
theorem dX2_clear_31 : decode cX2_clear 31 = .ok (.getfield 22, 3) := by decide +kernel
theorem dX2_clear_34 : decode cX2_clear 34 = .ok (.getfield 92, 3) := by decide +kernel
theorem dX2_clear_37 : decode cX2_clear 37 = .ok (.iload_n 1, 1) := by decide +kernel
theorem dX2_clear_38 : decode cX2_clear 38 = .ok (.iconst 0, 1) := by decide +kernel
theorem dX2_clear_39 : decode cX2_clear 39 = .ok (.bastore, 1) := by decide +kernel
theorem dX2_clear_40 : decode cX2_clear 40 = .ok (.iinc 1 1, 3) := by decide +kernel
theorem dX2_clear_43 : decode cX2_clear 43 = .ok (.goto (-19), 3) := by decide +kernel
theorem dX2_clear_46 : decode cX2_clear 46 = .ok (.aload_n 0, 1) := by decide +kernel
theorem dX2_clear_47 : decode cX2_clear 47 = .ok (.getfield 22, 3) := by decide +kernel
theorem dX2_clear_50 : decode cX2_clear 50 = .ok (.iconst 0, 1) := by decide +kernel
theorem dX2_clear_51 : decode cX2_clear 51 = .ok (.putfield 95, 3) := by decide +kernel
theorem dX2_clear_54 : decode cX2_clear 54 = .ok (.return_, 1) := by decide +kernel
set_option maxRecDepth 20000 in
theorem ggX2_addRooms_X2_drawnBefore : GoodIn wsX2_addRooms wsX2_drawnBefore := goodIn_r _ [12, 7, 1, 3, 13, 14, 15, 16, 17, 18, 19, 20, 21, 22, 23, 24, 25, 26, 27, 28, 29, 30, 31, 32, 33, 34, 40, 41, 42, 43, 44, 45, 46, 47, 48, 49, 50, 51, 52, 53, 54, 55, 56, 57, 58, 59] (by decide +kernel) (by decide +kernel)
set_option maxRecDepth 20000 in
theorem gX2_addRooms_X2_drawnBefore : GoodIn wsX2_addRooms (wsV RX2 107 RX2 yX2_drawnBefore wsX2_drawnBefore) := goodIn_app (goodIn_of _ (by decide +kernel)) ggX2_addRooms_X2_drawnBefore
set_option maxRecDepth 20000 in
theorem ggX2_addRooms_X1_number : GoodIn wsX2_addRooms wsX1_number := goodIn_r _ [31, 32, 33, 34, 57, 58, 59] (by decide +kernel) (by decide +kernel)
set_option maxRecDepth 20000 in
theorem gX2_addRooms_X1_number : GoodIn wsX2_addRooms (wsV RX2 111 RX1 yX1_number wsX1_number) := goodIn_app (goodIn_of _ (by decide +kernel)) ggX2_addRooms_X1_number
set_option maxRecDepth 20000 in
theorem ggX2_addRooms_X2_mayRise : GoodIn wsX2_addRooms wsX2_mayRise := goodIn_r _ [39, 1, 3, 6, 40, 41, 42, 43, 44, 45, 46, 47, 48, 49, 50, 51, 52, 53, 54, 55, 56] (by decide +kernel) (by decide +kernel)
set_option maxRecDepth 20000 in
theorem gX2_addRooms_X2_mayRise : GoodIn wsX2_addRooms (wsV RX2 114 RX2 yX2_mayRise wsX2_mayRise) := goodIn_app (goodIn_of _ (by decide +kernel)) ggX2_addRooms_X2_mayRise
theorem dX2_addRooms_0 : decode cX2_addRooms 0 = .ok (.iconst 0, 1) := by decide +kernel
theorem dX2_addRooms_1 : decode cX2_addRooms 1 = .ok (.istore_n 1, 1) := by decide +kernel
theorem dX2_addRooms_2 : decode cX2_addRooms 2 = .ok (.aload_n 0, 1) := by decide +kernel
theorem dX2_addRooms_3 : decode cX2_addRooms 3 = .ok (.getfield 22, 3) := by decide +kernel
theorem dX2_addRooms_6 : decode cX2_addRooms 6 = .ok (.getfield 98, 3) := by decide +kernel
theorem dX2_addRooms_9 : decode cX2_addRooms 9 = .ok (.iconst 0, 1) := by decide +kernel
theorem dX2_addRooms_10 : decode cX2_addRooms 10 = .ok (.iconst (-1), 1) := by decide +kernel
theorem dX2_addRooms_11 : decode cX2_addRooms 11 = .ok (.iastore, 1) := by decide +kernel
theorem dX2_addRooms_12 : decode cX2_addRooms 12 = .ok (.aload_n 0, 1) := by decide +kernel
theorem dX2_addRooms_13 : decode cX2_addRooms 13 = .ok (.getfield 22, 3) := by decide +kernel
theorem dX2_addRooms_16 : decode cX2_addRooms 16 = .ok (.getfield 101, 3) := by decide +kernel
theorem dX2_addRooms_19 : decode cX2_addRooms 19 = .ok (.iconst 0, 1) := by decide +kernel
theorem dX2_addRooms_20 : decode cX2_addRooms 20 = .ok (.iconst 0, 1) := by decide +kernel
theorem dX2_addRooms_21 : decode cX2_addRooms 21 = .ok (.iastore, 1) := by decide +kernel
theorem dX2_addRooms_22 : decode cX2_addRooms 22 = .ok (.aload_n 0, 1) := by decide +kernel
theorem dX2_addRooms_23 : decode cX2_addRooms 23 = .ok (.getfield 22, 3) := by decide +kernel
theorem dX2_addRooms_26 : decode cX2_addRooms 26 = .ok (.getfield 104, 3) := by decide +kernel
theorem dX2_addRooms_29 : decode cX2_addRooms 29 = .ok (.iconst 0, 1) := by decide +kernel
theorem dX2_addRooms_30 : decode cX2_addRooms 30 = .ok (.iconst 0, 1) := by decide +kernel
theorem dX2_addRooms_31 : decode cX2_addRooms 31 = .ok (.iastore, 1) := by decide +kernel
theorem dX2_addRooms_32 : decode cX2_addRooms 32 = .ok (.iconst 1, 1) := by decide +kernel
theorem dX2_addRooms_33 : decode cX2_addRooms 33 = .ok (.istore_n 2, 1) := by decide +kernel
theorem dX2_addRooms_34 : decode cX2_addRooms 34 = .ok (.iload_n 2, 1) := by decide +kernel
theorem dX2_addRooms_35 : decode cX2_addRooms 35 = .ok (.aload_n 0, 1) := by decide +kernel
theorem dX2_addRooms_36 : decode cX2_addRooms 36 = .ok (.getfield 22, 3) := by decide +kernel
theorem dX2_addRooms_39 : decode cX2_addRooms 39 = .ok (.getfield 33, 3) := by decide +kernel
theorem dX2_addRooms_42 : decode cX2_addRooms 42 = .ok (.if_icmp .ge 157, 3) := by decide +kernel
theorem dX2_addRooms_45 : decode cX2_addRooms 45 = .ok (.aload_n 0, 1) := by decide +kernel
theorem dX2_addRooms_46 : decode cX2_addRooms 46 = .ok (.getfield 22, 3) := by decide +kernel
theorem dX2_addRooms_49 : decode cX2_addRooms 49 = .ok (.getfield 33, 3) := by decide +kernel
theorem dX2_addRooms_52 : decode cX2_addRooms 52 = .ok (.iload_n 2, 1) := by decide +kernel
theorem dX2_addRooms_53 : decode cX2_addRooms 53 = .ok (.isub, 1) := by decide +kernel
theorem dX2_addRooms_54 : decode cX2_addRooms 54 = .ok (.aload_n 0, 1) := by decide +kernel
theorem dX2_addRooms_55 : decode cX2_addRooms 55 = .ok (.getfield 22, 3) := by decide +kernel
theorem dX2_addRooms_58 : decode cX2_addRooms 58 = .ok (.getfield 39, 3) := by decide +kernel
theorem dX2_addRooms_61 : decode cX2_addRooms 61 = .ok (.iload_n 1, 1) := by decide +kernel
theorem dX2_addRooms_62 : decode cX2_addRooms 62 = .ok (.isub, 1) := by decide +kernel
theorem dX2_addRooms_63 : decode cX2_addRooms 63 = .ok (.if_icmp .ne 7, 3) := by decide +kernel
theorem dX2_addRooms_66 : decode cX2_addRooms 66 = .ok (.iconst 1, 1) := by decide +kernel
theorem dX2_addRooms_67 : decode cX2_addRooms 67 = .ok (.goto 4, 3) := by decide +kernel
theorem dX2_addRooms_70 : decode cX2_addRooms 70 = .ok (.iconst 0, 1) := by decide +kernel
theorem dX2_addRooms_71 : decode cX2_addRooms 71 = .ok (.istore_n 3, 1) := by decide +kernel
theorem dX2_addRooms_72 : decode cX2_addRooms 72 = .ok (.iload_n 3, 1) := by decide +kernel
theorem dX2_addRooms_73 : decode cX2_addRooms 73 = .ok (.ifCond .eq 12, 3) := by decide +kernel
theorem dX2_addRooms_76 : decode cX2_addRooms 76 = .ok (.aload_n 0, 1) := by decide +kernel
theorem dX2_addRooms_77 : decode cX2_addRooms 77 = .ok (.iload_n 2, 1) := by decide +kernel
theorem dX2_addRooms_78 : decode cX2_addRooms 78 = .ok (.iload_n 1, 1) := by decide +kernel
theorem dX2_addRooms_79 : decode cX2_addRooms 79 = .ok (.invokevirtual 107, 3) := by decide +kernel
theorem dX2_addRooms_82 : decode cX2_addRooms 82 = .ok (.goto 11, 3) := by decide +kernel
theorem dX2_addRooms_85 : decode cX2_addRooms 85 = .ok (.aload_n 0, 1) := by decide +kernel
theorem dX2_addRooms_86 : decode cX2_addRooms 86 = .ok (.getfield 12, 3) := by decide +kernel
theorem dX2_addRooms_89 : decode cX2_addRooms 89 = .ok (.iload_n 2, 1) := by decide +kernel
theorem dX2_addRooms_90 : decode cX2_addRooms 90 = .ok (.invokevirtual 111, 3) := by decide +kernel
theorem dX2_addRooms_93 : decode cX2_addRooms 93 = .ok (.istore 4, 2) := by decide +kernel
theorem dX2_addRooms_95 : decode cX2_addRooms 95 = .ok (.iload_n 3, 1) := by decide +kernel
theorem dX2_addRooms_96 : decode cX2_addRooms 96 = .ok (.ifCond .ne 24, 3) := by decide +kernel
theorem dX2_addRooms_99 : decode cX2_addRooms 99 = .ok (.aload_n 0, 1) := by decide +kernel
theorem dX2_addRooms_100 : decode cX2_addRooms 100 = .ok (.iload 4, 2) := by decide +kernel
theorem dX2_addRooms_102 : decode cX2_addRooms 102 = .ok (.iload_n 1, 1) := by decide +kernel
theorem dX2_addRooms_103 : decode cX2_addRooms 103 = .ok (.invokevirtual 114, 3) := by decide +kernel
theorem dX2_addRooms_106 : decode cX2_addRooms 106 = .ok (.ifCond .eq 18, 3) := by decide +kernel
theorem dX2_addRooms_109 : decode cX2_addRooms 109 = .ok (.aload_n 0, 1) := by decide +kernel
theorem dX2_addRooms_110 : decode cX2_addRooms 110 = .ok (.getfield 12, 3) := by decide +kernel
theorem dX2_addRooms_113 : decode cX2_addRooms 113 = .ok (.iconst 4, 1) := by decide +kernel
theorem dX2_addRooms_114 : decode cX2_addRooms 114 = .ok (.invokevirtual 111, 3) := by decide +kernel
theorem dX2_addRooms_117 : decode cX2_addRooms 117 = .ok (.ifCond .ne 7, 3) := by decide +kernel
theorem dX2_addRooms_120 : decode cX2_addRooms 120 = .ok (.iconst 1, 1) := by decide +kernel
theorem dX2_addRooms_121 : decode cX2_addRooms 121 = .ok (.goto 4, 3) := by decide +kernel
theorem dX2_addRooms_124 : decode cX2_addRooms 124 = .ok (.iconst 0, 1) := by decide +kernel
theorem dX2_addRooms_125 : decode cX2_addRooms 125 = .ok (.istore 5, 2) := by decide +kernel
theorem dX2_addRooms_127 : decode cX2_addRooms 127 = .ok (.iload 5, 2) := by decide +kernel
theorem dX2_addRooms_129 : decode cX2_addRooms 129 = .ok (.ifCond .eq 6, 3) := by decide +kernel
theorem dX2_addRooms_132 : decode cX2_addRooms 132 = .ok (.iinc 1 1, 3) := by decide +kernel
theorem dX2_addRooms_135 : decode cX2_addRooms 135 = .ok (.aload_n 0, 1) := by decide +kernel
theorem dX2_addRooms_136 : decode cX2_addRooms 136 = .ok (.getfield 22, 3) := by decide +kernel
theorem dX2_addRooms_139 : decode cX2_addRooms 139 = .ok (.getfield 98, 3) := by decide +kernel
theorem dX2_addRooms_142 : decode cX2_addRooms 142 = .ok (.iload_n 2, 1) := by decide +kernel
theorem dX2_addRooms_143 : decode cX2_addRooms 143 = .ok (.iload 4, 2) := by decide +kernel
theorem dX2_addRooms_145 : decode cX2_addRooms 145 = .ok (.iastore, 1) := by decide +kernel
theorem dX2_addRooms_146 : decode cX2_addRooms 146 = .ok (.aload_n 0, 1) := by decide +kernel
theorem dX2_addRooms_147 : decode cX2_addRooms 147 = .ok (.getfield 22, 3) := by decide +kernel
theorem dX2_addRooms_150 : decode cX2_addRooms 150 = .ok (.getfield 101, 3) := by decide +kernel
theorem dX2_addRooms_153 : decode cX2_addRooms 153 = .ok (.iload_n 2, 1) := by decide +kernel
theorem dX2_addRooms_154 : decode cX2_addRooms 154 = .ok (.iload 5, 2) := by decide +kernel
theorem dX2_addRooms_156 : decode cX2_addRooms 156 = .ok (.ifCond .eq 7, 3) := by decide +kernel
theorem dX2_addRooms_159 : decode cX2_addRooms 159 = .ok (.iload_n 1, 1) := by decide +kernel
theorem dX2_addRooms_160 : decode cX2_addRooms 160 = .ok (.goto 13, 3) := by decide +kernel
theorem dX2_addRooms_163 : decode cX2_addRooms 163 = .ok (.aload_n 0, 1) := by decide +kernel
theorem dX2_addRooms_164 : decode cX2_addRooms 164 = .ok (.getfield 22, 3) := by decide +kernel
theorem dX2_addRooms_167 : decode cX2_addRooms 167 = .ok (.getfield 101, 3) := by decide +kernel
theorem dX2_addRooms_170 : decode cX2_addRooms 170 = .ok (.iload 4, 2) := by decide +kernel
theorem dX2_addRooms_172 : decode cX2_addRooms 172 = .ok (.iaload, 1) := by decide +kernel
theorem dX2_addRooms_173 : decode cX2_addRooms 173 = .ok (.iastore, 1) := by decide +kernel
theorem dX2_addRooms_174 : decode cX2_addRooms 174 = .ok (.aload_n 0, 1) := by decide +kernel
theorem dX2_addRooms_175 : decode cX2_addRooms 175 = .ok (.getfield 22, 3) := by decide +kernel
theorem dX2_addRooms_178 : decode cX2_addRooms 178 = .ok (.getfield 104, 3) := by decide +kernel
theorem dX2_addRooms_181 : decode cX2_addRooms 181 = .ok (.iload_n 2, 1) := by decide +kernel
theorem dX2_addRooms_182 : decode cX2_addRooms 182 = .ok (.iload 5, 2) := by decide +kernel
theorem dX2_addRooms_184 : decode cX2_addRooms 184 = .ok (.ifCond .eq 7, 3) := by decide +kernel
theorem dX2_addRooms_187 : decode cX2_addRooms 187 = .ok (.iconst 1, 1) := by decide +kernel
theorem dX2_addRooms_188 : decode cX2_addRooms 188 = .ok (.goto 4, 3) := by decide +kernel
theorem dX2_addRooms_191 : decode cX2_addRooms 191 = .ok (.iconst 0, 1) := by decide +kernel
theorem dX2_addRooms_192 : decode cX2_addRooms 192 = .ok (.iastore, 1) := by decide +kernel
theorem dX2_addRooms_193 : decode cX2_addRooms 193 = .ok (.iinc 2 1, 3) := by decide +kernel
theorem dX2_addRooms_196 : decode cX2_addRooms 196 = .ok (.goto (-162), 3) := by decide +kernel
theorem dX2_addRooms_199 : decode cX2_addRooms 199 = .ok (.return_, 1) := by decide +kernel
theorem dX2_mayRise_0 : decode cX2_mayRise 0 = .ok (.aload_n 0, 1) := by decide +kernel
theorem dX2_mayRise_1 : decode cX2_mayRise 1 = .ok (.getfield 22, 3) := by decide +kernel
theorem dX2_mayRise_4 : decode cX2_mayRise 4 = .ok (.getfield 101, 3) := by decide +kernel
theorem dX2_mayRise_7 : decode cX2_mayRise 7 = .ok (.iload_n 1, 1) := by decide +kernel
theorem dX2_mayRise_8 : decode cX2_mayRise 8 = .ok (.iaload, 1) := by decide +kernel
theorem dX2_mayRise_9 : decode cX2_mayRise 9 = .ok (.iload_n 2, 1) := by decide +kernel
theorem dX2_mayRise_10 : decode cX2_mayRise 10 = .ok (.if_icmp .ne 18, 3) := by decide +kernel
theorem dX2_mayRise_13 : decode cX2_mayRise 13 = .ok (.iload_n 2, 1) := by decide +kernel
theorem dX2_mayRise_14 : decode cX2_mayRise 14 = .ok (.aload_n 0, 1) := by decide +kernel
theorem dX2_mayRise_15 : decode cX2_mayRise 15 = .ok (.getfield 22, 3) := by decide +kernel
theorem dX2_mayRise_18 : decode cX2_mayRise 18 = .ok (.getfield 39, 3) := by decide +kernel
theorem dX2_mayRise_21 : decode cX2_mayRise 21 = .ok (.if_icmp .ge 7, 3) := by decide +kernel
theorem dX2_mayRise_24 : decode cX2_mayRise 24 = .ok (.iconst 1, 1) := by decide +kernel
theorem dX2_mayRise_25 : decode cX2_mayRise 25 = .ok (.goto 4, 3) := by decide +kernel
theorem dX2_mayRise_28 : decode cX2_mayRise 28 = .ok (.iconst 0, 1) := by decide +kernel
theorem dX2_mayRise_29 : decode cX2_mayRise 29 = .ok (.ireturn, 1) := by decide +kernel
set_option maxRecDepth 20000 in
theorem ggX2_drawnBefore_X1_clearOffer : GoodIn wsX2_drawnBefore wsX1_clearOffer := goodIn_r _ [8, 9, 43, 44, 45] (by decide +kernel) (by decide +kernel)
set_option maxRecDepth 20000 in
theorem gX2_drawnBefore_X1_clearOffer : GoodIn wsX2_drawnBefore (wsV RX2 118 RX1 yX1_clearOffer wsX1_clearOffer) := goodIn_app (goodIn_of _ (by decide +kernel)) ggX2_drawnBefore_X1_clearOffer
set_option maxRecDepth 20000 in
theorem ggX2_drawnBefore_X1_offer : GoodIn wsX2_drawnBefore wsX1_offer := goodIn_r _ [13, 9, 14, 43, 44, 45] (by decide +kernel) (by decide +kernel)
set_option maxRecDepth 20000 in
theorem gX2_drawnBefore_X1_offer : GoodIn wsX2_drawnBefore (wsV RX2 121 RX1 yX1_offer wsX1_offer) := goodIn_app (goodIn_of _ (by decide +kernel)) ggX2_drawnBefore_X1_offer
set_option maxRecDepth 20000 in
theorem ggX2_drawnBefore_X1_offeredRoom : GoodIn wsX2_drawnBefore wsX1_offeredRoom := goodIn_r _ [18, 14, 9, 19, 20, 21, 7, 22, 23, 24, 25, 43, 44, 45] (by decide +kernel) (by decide +kernel)
set_option maxRecDepth 20000 in
theorem gX2_drawnBefore_X1_offeredRoom : GoodIn wsX2_drawnBefore (wsV RX2 63 RX1 yX1_offeredRoom wsX1_offeredRoom) := goodIn_app (goodIn_of _ (by decide +kernel)) ggX2_drawnBefore_X1_offeredRoom
theorem dX2_drawnBefore_0 : decode cX2_drawnBefore 0 = .ok (.aload_n 0, 1) := by decide +kernel
theorem dX2_drawnBefore_1 : decode cX2_drawnBefore 1 = .ok (.getfield 12, 3) := by decide +kernel
theorem dX2_drawnBefore_4 : decode cX2_drawnBefore 4 = .ok (.invokevirtual 118, 3) := by decide +kernel
theorem dX2_drawnBefore_7 : decode cX2_drawnBefore 7 = .ok (.iconst 0, 1) := by decide +kernel
theorem dX2_drawnBefore_8 : decode cX2_drawnBefore 8 = .ok (.istore_n 3, 1) := by decide +kernel
theorem dX2_drawnBefore_9 : decode cX2_drawnBefore 9 = .ok (.iload_n 3, 1) := by decide +kernel
theorem dX2_drawnBefore_10 : decode cX2_drawnBefore 10 = .ok (.iload_n 1, 1) := by decide +kernel
theorem dX2_drawnBefore_11 : decode cX2_drawnBefore 11 = .ok (.if_icmp .ge 30, 3) := by decide +kernel
theorem dX2_drawnBefore_14 : decode cX2_drawnBefore 14 = .ok (.aload_n 0, 1) := by decide +kernel
theorem dX2_drawnBefore_15 : decode cX2_drawnBefore 15 = .ok (.getfield 22, 3) := by decide +kernel
theorem dX2_drawnBefore_18 : decode cX2_drawnBefore 18 = .ok (.getfield 101, 3) := by decide +kernel
theorem dX2_drawnBefore_21 : decode cX2_drawnBefore 21 = .ok (.iload_n 3, 1) := by decide +kernel
theorem dX2_drawnBefore_22 : decode cX2_drawnBefore 22 = .ok (.iaload, 1) := by decide +kernel
theorem dX2_drawnBefore_23 : decode cX2_drawnBefore 23 = .ok (.iload_n 2, 1) := by decide +kernel
theorem dX2_drawnBefore_24 : decode cX2_drawnBefore 24 = .ok (.if_icmp .ne 11, 3) := by decide +kernel
theorem dX2_drawnBefore_27 : decode cX2_drawnBefore 27 = .ok (.aload_n 0, 1) := by decide +kernel
theorem dX2_drawnBefore_28 : decode cX2_drawnBefore 28 = .ok (.getfield 12, 3) := by decide +kernel
theorem dX2_drawnBefore_31 : decode cX2_drawnBefore 31 = .ok (.iload_n 3, 1) := by decide +kernel
theorem dX2_drawnBefore_32 : decode cX2_drawnBefore 32 = .ok (.invokevirtual 121, 3) := by decide +kernel
theorem dX2_drawnBefore_35 : decode cX2_drawnBefore 35 = .ok (.iinc 3 1, 3) := by decide +kernel
theorem dX2_drawnBefore_38 : decode cX2_drawnBefore 38 = .ok (.goto (-29), 3) := by decide +kernel
theorem dX2_drawnBefore_41 : decode cX2_drawnBefore 41 = .ok (.aload_n 0, 1) := by decide +kernel
theorem dX2_drawnBefore_42 : decode cX2_drawnBefore 42 = .ok (.getfield 12, 3) := by decide +kernel
theorem dX2_drawnBefore_45 : decode cX2_drawnBefore 45 = .ok (.invokevirtual 63, 3) := by decide +kernel
theorem dX2_drawnBefore_48 : decode cX2_drawnBefore 48 = .ok (.ireturn, 1) := by decide +kernel
set_option maxRecDepth 20000 in
theorem ggX2_offerLevels_X1_clearOffer : GoodIn wsX2_offerLevels wsX1_clearOffer := goodIn_r _ [9, 10, 36, 37, 38] (by decide +kernel) (by decide +kernel)
set_option maxRecDepth 20000 in
theorem gX2_offerLevels_X1_clearOffer : GoodIn wsX2_offerLevels (wsV RX2 118 RX1 yX1_clearOffer wsX1_clearOffer) := goodIn_app (goodIn_of _ (by decide +kernel)) ggX2_offerLevels_X1_clearOffer
set_option maxRecDepth 20000 in
theorem ggX2_offerLevels_X6_isWithin : GoodIn wsX2_offerLevels wsX6_isWithin := goodIn_r _ [13] (by decide +kernel) (by decide +kernel)
set_option maxRecDepth 20000 in
theorem gX2_offerLevels_X6_isWithin_n124 : GoodIn wsX2_offerLevels (wsX6_isWithin) := ggX2_offerLevels_X6_isWithin
set_option maxRecDepth 20000 in
theorem ggX2_offerLevels_X1_offer : GoodIn wsX2_offerLevels wsX1_offer := goodIn_r _ [17, 10, 18, 36, 37, 38] (by decide +kernel) (by decide +kernel)
set_option maxRecDepth 20000 in
theorem gX2_offerLevels_X1_offer : GoodIn wsX2_offerLevels (wsV RX2 121 RX1 yX1_offer wsX1_offer) := goodIn_app (goodIn_of _ (by decide +kernel)) ggX2_offerLevels_X1_offer
theorem dX2_offerLevels_0 : decode cX2_offerLevels 0 = .ok (.aload_n 0, 1) := by decide +kernel
theorem dX2_offerLevels_1 : decode cX2_offerLevels 1 = .ok (.getfield 12, 3) := by decide +kernel
theorem dX2_offerLevels_4 : decode cX2_offerLevels 4 = .ok (.invokevirtual 118, 3) := by decide +kernel
theorem dX2_offerLevels_7 : decode cX2_offerLevels 7 = .ok (.iconst 0, 1) := by decide +kernel
theorem dX2_offerLevels_8 : decode cX2_offerLevels 8 = .ok (.istore_n 3, 1) := by decide +kernel
theorem dX2_offerLevels_9 : decode cX2_offerLevels 9 = .ok (.iload_n 3, 1) := by decide +kernel
theorem dX2_offerLevels_10 : decode cX2_offerLevels 10 = .ok (.aload_n 0, 1) := by decide +kernel
theorem dX2_offerLevels_11 : decode cX2_offerLevels 11 = .ok (.getfield 22, 3) := by decide +kernel
theorem dX2_offerLevels_14 : decode cX2_offerLevels 14 = .ok (.getfield 33, 3) := by decide +kernel
theorem dX2_offerLevels_17 : decode cX2_offerLevels 17 = .ok (.if_icmp .ge 34, 3) := by decide +kernel
theorem dX2_offerLevels_20 : decode cX2_offerLevels 20 = .ok (.aload_n 0, 1) := by decide +kernel
theorem dX2_offerLevels_21 : decode cX2_offerLevels 21 = .ok (.getfield 22, 3) := by decide +kernel
theorem dX2_offerLevels_24 : decode cX2_offerLevels 24 = .ok (.getfield 101, 3) := by decide +kernel
theorem dX2_offerLevels_27 : decode cX2_offerLevels 27 = .ok (.iload_n 3, 1) := by decide +kernel
theorem dX2_offerLevels_28 : decode cX2_offerLevels 28 = .ok (.iaload, 1) := by decide +kernel
theorem dX2_offerLevels_29 : decode cX2_offerLevels 29 = .ok (.iload_n 1, 1) := by decide +kernel
theorem dX2_offerLevels_30 : decode cX2_offerLevels 30 = .ok (.iload_n 2, 1) := by decide +kernel
theorem dX2_offerLevels_31 : decode cX2_offerLevels 31 = .ok (.invokestatic 124, 3) := by decide +kernel
theorem dX2_offerLevels_34 : decode cX2_offerLevels 34 = .ok (.ifCond .eq 11, 3) := by decide +kernel
theorem dX2_offerLevels_37 : decode cX2_offerLevels 37 = .ok (.aload_n 0, 1) := by decide +kernel
theorem dX2_offerLevels_38 : decode cX2_offerLevels 38 = .ok (.getfield 12, 3) := by decide +kernel
theorem dX2_offerLevels_41 : decode cX2_offerLevels 41 = .ok (.iload_n 3, 1) := by decide +kernel
theorem dX2_offerLevels_42 : decode cX2_offerLevels 42 = .ok (.invokevirtual 121, 3) := by decide +kernel
theorem dX2_offerLevels_45 : decode cX2_offerLevels 45 = .ok (.iinc 3 1, 3) := by decide +kernel
theorem dX2_offerLevels_48 : decode cX2_offerLevels 48 = .ok (.goto (-39), 3) := by decide +kernel
theorem dX2_offerLevels_51 : decode cX2_offerLevels 51 = .ok (.return_, 1) := by decide +kernel
set_option maxRecDepth 20000 in
theorem ggX2_offerPlainDoors_X1_clearOffer : GoodIn wsX2_offerPlainDoors wsX1_clearOffer := goodIn_r _ [9, 10, 33, 34, 35] (by decide +kernel) (by decide +kernel)
set_option maxRecDepth 20000 in
theorem gX2_offerPlainDoors_X1_clearOffer : GoodIn wsX2_offerPlainDoors (wsV RX2 118 RX1 yX1_clearOffer wsX1_clearOffer) := goodIn_app (goodIn_of _ (by decide +kernel)) ggX2_offerPlainDoors_X1_clearOffer
set_option maxRecDepth 20000 in
theorem ggX2_offerPlainDoors_X1_offer : GoodIn wsX2_offerPlainDoors wsX1_offer := goodIn_r _ [14, 10, 15, 33, 34, 35] (by decide +kernel) (by decide +kernel)
set_option maxRecDepth 20000 in
theorem gX2_offerPlainDoors_X1_offer : GoodIn wsX2_offerPlainDoors (wsV RX2 121 RX1 yX1_offer wsX1_offer) := goodIn_app (goodIn_of _ (by decide +kernel)) ggX2_offerPlainDoors_X1_offer
theorem dX2_offerPlainDoors_0 : decode cX2_offerPlainDoors 0 = .ok (.aload_n 0, 1) := by decide +kernel
theorem dX2_offerPlainDoors_1 : decode cX2_offerPlainDoors 1 = .ok (.getfield 12, 3) := by decide +kernel
theorem dX2_offerPlainDoors_4 : decode cX2_offerPlainDoors 4 = .ok (.invokevirtual 118, 3) := by decide +kernel
theorem dX2_offerPlainDoors_7 : decode cX2_offerPlainDoors 7 = .ok (.iconst 1, 1) := by decide +kernel
theorem dX2_offerPlainDoors_8 : decode cX2_offerPlainDoors 8 = .ok (.istore_n 1, 1) := by decide +kernel
theorem dX2_offerPlainDoors_9 : decode cX2_offerPlainDoors 9 = .ok (.iload_n 1, 1) := by decide +kernel
theorem dX2_offerPlainDoors_10 : decode cX2_offerPlainDoors 10 = .ok (.aload_n 0, 1) := by decide +kernel
theorem dX2_offerPlainDoors_11 : decode cX2_offerPlainDoors 11 = .ok (.getfield 22, 3) := by decide +kernel
theorem dX2_offerPlainDoors_14 : decode cX2_offerPlainDoors 14 = .ok (.getfield 33, 3) := by decide +kernel
theorem dX2_offerPlainDoors_17 : decode cX2_offerPlainDoors 17 = .ok (.if_icmp .ge 29, 3) := by decide +kernel
theorem dX2_offerPlainDoors_20 : decode cX2_offerPlainDoors 20 = .ok (.aload_n 0, 1) := by decide +kernel
theorem dX2_offerPlainDoors_21 : decode cX2_offerPlainDoors 21 = .ok (.getfield 22, 3) := by decide +kernel
theorem dX2_offerPlainDoors_24 : decode cX2_offerPlainDoors 24 = .ok (.getfield 104, 3) := by decide +kernel
theorem dX2_offerPlainDoors_27 : decode cX2_offerPlainDoors 27 = .ok (.iload_n 1, 1) := by decide +kernel
theorem dX2_offerPlainDoors_28 : decode cX2_offerPlainDoors 28 = .ok (.iaload, 1) := by decide +kernel
theorem dX2_offerPlainDoors_29 : decode cX2_offerPlainDoors 29 = .ok (.ifCond .ne 11, 3) := by decide +kernel
theorem dX2_offerPlainDoors_32 : decode cX2_offerPlainDoors 32 = .ok (.aload_n 0, 1) := by decide +kernel
theorem dX2_offerPlainDoors_33 : decode cX2_offerPlainDoors 33 = .ok (.getfield 12, 3) := by decide +kernel
theorem dX2_offerPlainDoors_36 : decode cX2_offerPlainDoors 36 = .ok (.iload_n 1, 1) := by decide +kernel
theorem dX2_offerPlainDoors_37 : decode cX2_offerPlainDoors 37 = .ok (.invokevirtual 121, 3) := by decide +kernel
theorem dX2_offerPlainDoors_40 : decode cX2_offerPlainDoors 40 = .ok (.iinc 1 1, 3) := by decide +kernel
theorem dX2_offerPlainDoors_43 : decode cX2_offerPlainDoors 43 = .ok (.goto (-34), 3) := by decide +kernel
theorem dX2_offerPlainDoors_46 : decode cX2_offerPlainDoors 46 = .ok (.return_, 1) := by decide +kernel
set_option maxRecDepth 20000 in
theorem ggX2_layKeys_X2_offerLevels : GoodIn wsX2_layKeys wsX2_offerLevels := goodIn_r _ [9, 4, 1, 10, 11, 12, 13, 14, 15, 16, 17, 18, 19, 20, 21, 22, 23, 24, 25, 41, 42, 43, 44, 45, 46, 47, 48, 49, 50, 51, 52, 53, 54, 55, 56, 57, 58, 59, 60] (by decide +kernel) (by decide +kernel)
set_option maxRecDepth 20000 in
theorem gX2_layKeys_X2_offerLevels : GoodIn wsX2_layKeys (wsV RX2 59 RX2 yX2_offerLevels wsX2_offerLevels) := goodIn_app (goodIn_of _ (by decide +kernel)) ggX2_layKeys_X2_offerLevels
set_option maxRecDepth 20000 in
theorem ggX2_layKeys_X1_offeredRoom : GoodIn wsX2_layKeys wsX1_offeredRoom := goodIn_r _ [29, 25, 17, 30, 31, 32, 15, 33, 34, 35, 36, 58, 59, 60] (by decide +kernel) (by decide +kernel)
set_option maxRecDepth 20000 in
theorem gX2_layKeys_X1_offeredRoom : GoodIn wsX2_layKeys (wsV RX2 63 RX1 yX1_offeredRoom wsX1_offeredRoom) := goodIn_app (goodIn_of _ (by decide +kernel)) ggX2_layKeys_X1_offeredRoom
set_option maxRecDepth 20000 in
theorem ggX2_layKeys_X5_keyBit : GoodIn wsX2_layKeys wsX5_keyBit := goodIn_r _ [40] (by decide +kernel) (by decide +kernel)
set_option maxRecDepth 20000 in
theorem gX2_layKeys_X5_keyBit : GoodIn wsX2_layKeys (va_wsS RX2 128 yX5_keyBit wsX5_keyBit) := goodIn_app (goodIn_of _ (by decide +kernel)) ggX2_layKeys_X5_keyBit
theorem dX2_layKeys_0 : decode cX2_layKeys 0 = .ok (.iconst 1, 1) := by decide +kernel
theorem dX2_layKeys_1 : decode cX2_layKeys 1 = .ok (.istore_n 1, 1) := by decide +kernel
theorem dX2_layKeys_2 : decode cX2_layKeys 2 = .ok (.iload_n 1, 1) := by decide +kernel
theorem dX2_layKeys_3 : decode cX2_layKeys 3 = .ok (.aload_n 0, 1) := by decide +kernel
theorem dX2_layKeys_4 : decode cX2_layKeys 4 = .ok (.getfield 22, 3) := by decide +kernel
theorem dX2_layKeys_7 : decode cX2_layKeys 7 = .ok (.getfield 39, 3) := by decide +kernel
theorem dX2_layKeys_10 : decode cX2_layKeys 10 = .ok (.if_icmp .gt 39, 3) := by decide +kernel
theorem dX2_layKeys_13 : decode cX2_layKeys 13 = .ok (.aload_n 0, 1) := by decide +kernel
theorem dX2_layKeys_14 : decode cX2_layKeys 14 = .ok (.iconst 0, 1) := by decide +kernel
theorem dX2_layKeys_15 : decode cX2_layKeys 15 = .ok (.iload_n 1, 1) := by decide +kernel
theorem dX2_layKeys_16 : decode cX2_layKeys 16 = .ok (.iconst 1, 1) := by decide +kernel
theorem dX2_layKeys_17 : decode cX2_layKeys 17 = .ok (.isub, 1) := by decide +kernel
theorem dX2_layKeys_18 : decode cX2_layKeys 18 = .ok (.invokevirtual 59, 3) := by decide +kernel
theorem dX2_layKeys_21 : decode cX2_layKeys 21 = .ok (.aload_n 0, 1) := by decide +kernel
theorem dX2_layKeys_22 : decode cX2_layKeys 22 = .ok (.getfield 22, 3) := by decide +kernel
theorem dX2_layKeys_25 : decode cX2_layKeys 25 = .ok (.getfield 79, 3) := by decide +kernel
theorem dX2_layKeys_28 : decode cX2_layKeys 28 = .ok (.aload_n 0, 1) := by decide +kernel
theorem dX2_layKeys_29 : decode cX2_layKeys 29 = .ok (.getfield 12, 3) := by decide +kernel
theorem dX2_layKeys_32 : decode cX2_layKeys 32 = .ok (.invokevirtual 63, 3) := by decide +kernel
theorem dX2_layKeys_35 : decode cX2_layKeys 35 = .ok (.dup2, 1) := by decide +kernel
theorem dX2_layKeys_36 : decode cX2_layKeys 36 = .ok (.iaload, 1) := by decide +kernel
theorem dX2_layKeys_37 : decode cX2_layKeys 37 = .ok (.iload_n 1, 1) := by decide +kernel
theorem dX2_layKeys_38 : decode cX2_layKeys 38 = .ok (.invokestatic 128, 3) := by decide +kernel
theorem dX2_layKeys_41 : decode cX2_layKeys 41 = .ok (.ior, 1) := by decide +kernel
theorem dX2_layKeys_42 : decode cX2_layKeys 42 = .ok (.iastore, 1) := by decide +kernel
theorem dX2_layKeys_43 : decode cX2_layKeys 43 = .ok (.iinc 1 1, 3) := by decide +kernel
theorem dX2_layKeys_46 : decode cX2_layKeys 46 = .ok (.goto (-44), 3) := by decide +kernel
theorem dX2_layKeys_49 : decode cX2_layKeys 49 = .ok (.return_, 1) := by decide +kernel
set_option maxRecDepth 20000 in
theorem ggX2_makeSmallDoors_X2_offerPlainDoors : GoodIn wsX2_makeSmallDoors wsX2_offerPlainDoors := goodIn_r _ [9, 1, 2, 10, 3, 11, 12, 13, 14, 15, 16, 17, 18, 19, 20, 21, 37, 38, 39, 40, 41, 42, 43, 44, 45, 46, 47, 48, 49, 50, 51, 52, 53, 54, 55, 56] (by decide +kernel) (by decide +kernel)
set_option maxRecDepth 20000 in
theorem gX2_makeSmallDoors_X2_offerPlainDoors : GoodIn wsX2_makeSmallDoors (wsV RX2 133 RX2 yX2_offerPlainDoors wsX2_offerPlainDoors) := goodIn_app (goodIn_of _ (by decide +kernel)) ggX2_makeSmallDoors_X2_offerPlainDoors
set_option maxRecDepth 20000 in
theorem ggX2_makeSmallDoors_X1_hasOffer : GoodIn wsX2_makeSmallDoors wsX1_hasOffer := goodIn_r _ [25, 16, 54, 55, 56] (by decide +kernel) (by decide +kernel)
set_option maxRecDepth 20000 in
theorem gX2_makeSmallDoors_X1_hasOffer : GoodIn wsX2_makeSmallDoors (wsV RX2 136 RX1 yX1_hasOffer wsX1_hasOffer) := goodIn_app (goodIn_of _ (by decide +kernel)) ggX2_makeSmallDoors_X1_hasOffer
set_option maxRecDepth 20000 in
theorem ggX2_makeSmallDoors_X1_offeredRoom : GoodIn wsX2_makeSmallDoors wsX1_offeredRoom := goodIn_r _ [29, 21, 16, 30, 31, 32, 14, 33, 34, 35, 36, 54, 55, 56] (by decide +kernel) (by decide +kernel)
set_option maxRecDepth 20000 in
theorem gX2_makeSmallDoors_X1_offeredRoom : GoodIn wsX2_makeSmallDoors (wsV RX2 63 RX1 yX1_offeredRoom wsX1_offeredRoom) := goodIn_app (goodIn_of _ (by decide +kernel)) ggX2_makeSmallDoors_X1_offeredRoom
theorem dX2_makeSmallDoors_0 : decode cX2_makeSmallDoors 0 = .ok (.iconst 0, 1) := by decide +kernel
theorem dX2_makeSmallDoors_1 : decode cX2_makeSmallDoors 1 = .ok (.istore_n 2, 1) := by decide +kernel
theorem dX2_makeSmallDoors_2 : decode cX2_makeSmallDoors 2 = .ok (.iconst 0, 1) := by decide +kernel
theorem dX2_makeSmallDoors_3 : decode cX2_makeSmallDoors 3 = .ok (.istore_n 3, 1) := by decide +kernel
theorem dX2_makeSmallDoors_4 : decode cX2_makeSmallDoors 4 = .ok (.iload_n 3, 1) := by decide +kernel
theorem dX2_makeSmallDoors_5 : decode cX2_makeSmallDoors 5 = .ok (.iload_n 1, 1) := by decide +kernel
theorem dX2_makeSmallDoors_6 : decode cX2_makeSmallDoors 6 = .ok (.if_icmp .ge 57, 3) := by decide +kernel
theorem dX2_makeSmallDoors_9 : decode cX2_makeSmallDoors 9 = .ok (.aload_n 0, 1) := by decide +kernel
theorem dX2_makeSmallDoors_10 : decode cX2_makeSmallDoors 10 = .ok (.invokevirtual 133, 3) := by decide +kernel
theorem dX2_makeSmallDoors_13 : decode cX2_makeSmallDoors 13 = .ok (.aload_n 0, 1) := by decide +kernel
theorem dX2_makeSmallDoors_14 : decode cX2_makeSmallDoors 14 = .ok (.getfield 12, 3) := by decide +kernel
theorem dX2_makeSmallDoors_17 : decode cX2_makeSmallDoors 17 = .ok (.invokevirtual 136, 3) := by decide +kernel
theorem dX2_makeSmallDoors_20 : decode cX2_makeSmallDoors 20 = .ok (.ifCond .eq 37, 3) := by decide +kernel
theorem dX2_makeSmallDoors_23 : decode cX2_makeSmallDoors 23 = .ok (.aload_n 0, 1) := by decide +kernel
theorem dX2_makeSmallDoors_24 : decode cX2_makeSmallDoors 24 = .ok (.getfield 12, 3) := by decide +kernel
theorem dX2_makeSmallDoors_27 : decode cX2_makeSmallDoors 27 = .ok (.invokevirtual 63, 3) := by decide +kernel
theorem dX2_makeSmallDoors_30 : decode cX2_makeSmallDoors 30 = .ok (.istore 4, 2) := by decide +kernel
theorem dX2_makeSmallDoors_32 : decode cX2_makeSmallDoors 32 = .ok (.aload_n 0, 1) := by decide +kernel
theorem dX2_makeSmallDoors_33 : decode cX2_makeSmallDoors 33 = .ok (.getfield 22, 3) := by decide +kernel
theorem dX2_makeSmallDoors_36 : decode cX2_makeSmallDoors 36 = .ok (.getfield 104, 3) := by decide +kernel
theorem dX2_makeSmallDoors_39 : decode cX2_makeSmallDoors 39 = .ok (.iload 4, 2) := by decide +kernel
theorem dX2_makeSmallDoors_41 : decode cX2_makeSmallDoors 41 = .ok (.iconst 2, 1) := by decide +kernel
theorem dX2_makeSmallDoors_42 : decode cX2_makeSmallDoors 42 = .ok (.iastore, 1) := by decide +kernel
theorem dX2_makeSmallDoors_43 : decode cX2_makeSmallDoors 43 = .ok (.aload_n 0, 1) := by decide +kernel
theorem dX2_makeSmallDoors_44 : decode cX2_makeSmallDoors 44 = .ok (.getfield 22, 3) := by decide +kernel
theorem dX2_makeSmallDoors_47 : decode cX2_makeSmallDoors 47 = .ok (.getfield 140, 3) := by decide +kernel
theorem dX2_makeSmallDoors_50 : decode cX2_makeSmallDoors 50 = .ok (.iload 4, 2) := by decide +kernel
theorem dX2_makeSmallDoors_52 : decode cX2_makeSmallDoors 52 = .ok (.iload_n 2, 1) := by decide +kernel
theorem dX2_makeSmallDoors_53 : decode cX2_makeSmallDoors 53 = .ok (.iastore, 1) := by decide +kernel
theorem dX2_makeSmallDoors_54 : decode cX2_makeSmallDoors 54 = .ok (.iinc 2 1, 3) := by decide +kernel
theorem dX2_makeSmallDoors_57 : decode cX2_makeSmallDoors 57 = .ok (.iinc 3 1, 3) := by decide +kernel
theorem dX2_makeSmallDoors_60 : decode cX2_makeSmallDoors 60 = .ok (.goto (-56), 3) := by decide +kernel
theorem dX2_makeSmallDoors_63 : decode cX2_makeSmallDoors 63 = .ok (.iload_n 2, 1) := by decide +kernel
theorem dX2_makeSmallDoors_64 : decode cX2_makeSmallDoors 64 = .ok (.ireturn, 1) := by decide +kernel
set_option maxRecDepth 20000 in
theorem ggX2_laySmallKeys_X2_offerOpenRooms : GoodIn wsX2_laySmallKeys wsX2_offerOpenRooms := goodIn_r _ [8, 3, 9, 1, 10, 11, 12, 13, 14, 15, 16, 17, 18, 19, 20, 21, 22, 23, 24, 40, 41, 42, 43, 44, 45, 46, 47, 48, 49, 50, 51, 52, 53, 54, 55, 56, 57, 58, 59] (by decide +kernel) (by decide +kernel)
set_option maxRecDepth 20000 in
theorem gX2_laySmallKeys_X2_offerOpenRooms : GoodIn wsX2_laySmallKeys (wsV RX2 143 RX2 yX2_offerOpenRooms wsX2_offerOpenRooms) := goodIn_app (goodIn_of _ (by decide +kernel)) ggX2_laySmallKeys_X2_offerOpenRooms
set_option maxRecDepth 20000 in
theorem ggX2_laySmallKeys_X1_offeredRoom : GoodIn wsX2_laySmallKeys wsX1_offeredRoom := goodIn_r _ [28, 24, 19, 29, 30, 31, 17, 32, 33, 34, 35, 57, 58, 59] (by decide +kernel) (by decide +kernel)
set_option maxRecDepth 20000 in
theorem gX2_laySmallKeys_X1_offeredRoom : GoodIn wsX2_laySmallKeys (wsV RX2 63 RX1 yX1_offeredRoom wsX1_offeredRoom) := goodIn_app (goodIn_of _ (by decide +kernel)) ggX2_laySmallKeys_X1_offeredRoom
set_option maxRecDepth 20000 in
theorem ggX2_laySmallKeys_X5_smallKeyBit : GoodIn wsX2_laySmallKeys wsX5_smallKeyBit := goodIn_r _ [39] (by decide +kernel) (by decide +kernel)
set_option maxRecDepth 20000 in
theorem gX2_laySmallKeys_X5_smallKeyBit : GoodIn wsX2_laySmallKeys (va_wsS RX2 146 yX5_smallKeyBit wsX5_smallKeyBit) := goodIn_app (goodIn_of _ (by decide +kernel)) ggX2_laySmallKeys_X5_smallKeyBit
theorem dX2_laySmallKeys_0 : decode cX2_laySmallKeys 0 = .ok (.aload_n 0, 1) := by decide +kernel
theorem dX2_laySmallKeys_1 : decode cX2_laySmallKeys 1 = .ok (.invokevirtual 143, 3) := by decide +kernel
theorem dX2_laySmallKeys_4 : decode cX2_laySmallKeys 4 = .ok (.iconst 0, 1) := by decide +kernel
theorem dX2_laySmallKeys_5 : decode cX2_laySmallKeys 5 = .ok (.istore_n 2, 1) := by decide +kernel
theorem dX2_laySmallKeys_6 : decode cX2_laySmallKeys 6 = .ok (.iload_n 2, 1) := by decide +kernel
theorem dX2_laySmallKeys_7 : decode cX2_laySmallKeys 7 = .ok (.iload_n 1, 1) := by decide +kernel
theorem dX2_laySmallKeys_8 : decode cX2_laySmallKeys 8 = .ok (.if_icmp .ge 31, 3) := by decide +kernel
theorem dX2_laySmallKeys_11 : decode cX2_laySmallKeys 11 = .ok (.aload_n 0, 1) := by decide +kernel
theorem dX2_laySmallKeys_12 : decode cX2_laySmallKeys 12 = .ok (.getfield 22, 3) := by decide +kernel
theorem dX2_laySmallKeys_15 : decode cX2_laySmallKeys 15 = .ok (.getfield 79, 3) := by decide +kernel
theorem dX2_laySmallKeys_18 : decode cX2_laySmallKeys 18 = .ok (.aload_n 0, 1) := by decide +kernel
theorem dX2_laySmallKeys_19 : decode cX2_laySmallKeys 19 = .ok (.getfield 12, 3) := by decide +kernel
theorem dX2_laySmallKeys_22 : decode cX2_laySmallKeys 22 = .ok (.invokevirtual 63, 3) := by decide +kernel
theorem dX2_laySmallKeys_25 : decode cX2_laySmallKeys 25 = .ok (.dup2, 1) := by decide +kernel
theorem dX2_laySmallKeys_26 : decode cX2_laySmallKeys 26 = .ok (.iaload, 1) := by decide +kernel
theorem dX2_laySmallKeys_27 : decode cX2_laySmallKeys 27 = .ok (.iload_n 2, 1) := by decide +kernel
theorem dX2_laySmallKeys_28 : decode cX2_laySmallKeys 28 = .ok (.invokestatic 146, 3) := by decide +kernel
theorem dX2_laySmallKeys_31 : decode cX2_laySmallKeys 31 = .ok (.ior, 1) := by decide +kernel
theorem dX2_laySmallKeys_32 : decode cX2_laySmallKeys 32 = .ok (.iastore, 1) := by decide +kernel
theorem dX2_laySmallKeys_33 : decode cX2_laySmallKeys 33 = .ok (.iinc 2 1, 3) := by decide +kernel
theorem dX2_laySmallKeys_36 : decode cX2_laySmallKeys 36 = .ok (.goto (-30), 3) := by decide +kernel
theorem dX2_laySmallKeys_39 : decode cX2_laySmallKeys 39 = .ok (.return_, 1) := by decide +kernel
set_option maxRecDepth 20000 in
theorem ggX2_offerOpenRooms_X1_clearOffer : GoodIn wsX2_offerOpenRooms wsX1_clearOffer := goodIn_r _ [12, 13, 36, 37, 38] (by decide +kernel) (by decide +kernel)
set_option maxRecDepth 20000 in
theorem gX2_offerOpenRooms_X1_clearOffer : GoodIn wsX2_offerOpenRooms (wsV RX2 118 RX1 yX1_clearOffer wsX1_clearOffer) := goodIn_app (goodIn_of _ (by decide +kernel)) ggX2_offerOpenRooms_X1_clearOffer
set_option maxRecDepth 20000 in
theorem ggX2_offerOpenRooms_X1_offer : GoodIn wsX2_offerOpenRooms wsX1_offer := goodIn_r _ [17, 13, 18, 36, 37, 38] (by decide +kernel) (by decide +kernel)
set_option maxRecDepth 20000 in
theorem gX2_offerOpenRooms_X1_offer : GoodIn wsX2_offerOpenRooms (wsV RX2 121 RX1 yX1_offer wsX1_offer) := goodIn_app (goodIn_of _ (by decide +kernel)) ggX2_offerOpenRooms_X1_offer
theorem dX2_offerOpenRooms_0 : decode cX2_offerOpenRooms 0 = .ok (.aload_n 0, 1) := by decide +kernel
theorem dX2_offerOpenRooms_1 : decode cX2_offerOpenRooms 1 = .ok (.getfield 12, 3) := by decide +kernel
theorem dX2_offerOpenRooms_4 : decode cX2_offerOpenRooms 4 = .ok (.invokevirtual 118, 3) := by decide +kernel
theorem dX2_offerOpenRooms_7 : decode cX2_offerOpenRooms 7 = .ok (.aload_n 0, 1) := by decide +kernel
theorem dX2_offerOpenRooms_8 : decode cX2_offerOpenRooms 8 = .ok (.getfield 18, 3) := by decide +kernel
theorem dX2_offerOpenRooms_11 : decode cX2_offerOpenRooms 11 = .ok (.iconst 0, 1) := by decide +kernel
theorem dX2_offerOpenRooms_12 : decode cX2_offerOpenRooms 12 = .ok (.iconst 1, 1) := by decide +kernel
theorem dX2_offerOpenRooms_13 : decode cX2_offerOpenRooms 13 = .ok (.bastore, 1) := by decide +kernel
theorem dX2_offerOpenRooms_14 : decode cX2_offerOpenRooms 14 = .ok (.aload_n 0, 1) := by decide +kernel
theorem dX2_offerOpenRooms_15 : decode cX2_offerOpenRooms 15 = .ok (.getfield 12, 3) := by decide +kernel
theorem dX2_offerOpenRooms_18 : decode cX2_offerOpenRooms 18 = .ok (.iconst 0, 1) := by decide +kernel
theorem dX2_offerOpenRooms_19 : decode cX2_offerOpenRooms 19 = .ok (.invokevirtual 121, 3) := by decide +kernel
theorem dX2_offerOpenRooms_22 : decode cX2_offerOpenRooms 22 = .ok (.iconst 1, 1) := by decide +kernel
theorem dX2_offerOpenRooms_23 : decode cX2_offerOpenRooms 23 = .ok (.istore_n 1, 1) := by decide +kernel
theorem dX2_offerOpenRooms_24 : decode cX2_offerOpenRooms 24 = .ok (.iload_n 1, 1) := by decide +kernel
theorem dX2_offerOpenRooms_25 : decode cX2_offerOpenRooms 25 = .ok (.aload_n 0, 1) := by decide +kernel
theorem dX2_offerOpenRooms_26 : decode cX2_offerOpenRooms 26 = .ok (.getfield 22, 3) := by decide +kernel
theorem dX2_offerOpenRooms_29 : decode cX2_offerOpenRooms 29 = .ok (.getfield 33, 3) := by decide +kernel
theorem dX2_offerOpenRooms_32 : decode cX2_offerOpenRooms 32 = .ok (.if_icmp .ge 79, 3) := by decide +kernel
theorem dX2_offerOpenRooms_35 : decode cX2_offerOpenRooms 35 = .ok (.aload_n 0, 1) := by decide +kernel
theorem dX2_offerOpenRooms_36 : decode cX2_offerOpenRooms 36 = .ok (.getfield 18, 3) := by decide +kernel
theorem dX2_offerOpenRooms_39 : decode cX2_offerOpenRooms 39 = .ok (.iload_n 1, 1) := by decide +kernel
theorem dX2_offerOpenRooms_40 : decode cX2_offerOpenRooms 40 = .ok (.aload_n 0, 1) := by decide +kernel
theorem dX2_offerOpenRooms_41 : decode cX2_offerOpenRooms 41 = .ok (.getfield 22, 3) := by decide +kernel
theorem dX2_offerOpenRooms_44 : decode cX2_offerOpenRooms 44 = .ok (.getfield 101, 3) := by decide +kernel
theorem dX2_offerOpenRooms_47 : decode cX2_offerOpenRooms 47 = .ok (.iload_n 1, 1) := by decide +kernel
theorem dX2_offerOpenRooms_48 : decode cX2_offerOpenRooms 48 = .ok (.iaload, 1) := by decide +kernel
theorem dX2_offerOpenRooms_49 : decode cX2_offerOpenRooms 49 = .ok (.ifCond .ne 37, 3) := by decide +kernel
theorem dX2_offerOpenRooms_52 : decode cX2_offerOpenRooms 52 = .ok (.aload_n 0, 1) := by decide +kernel
theorem dX2_offerOpenRooms_53 : decode cX2_offerOpenRooms 53 = .ok (.getfield 22, 3) := by decide +kernel
theorem dX2_offerOpenRooms_56 : decode cX2_offerOpenRooms 56 = .ok (.getfield 104, 3) := by decide +kernel
theorem dX2_offerOpenRooms_59 : decode cX2_offerOpenRooms 59 = .ok (.iload_n 1, 1) := by decide +kernel
theorem dX2_offerOpenRooms_60 : decode cX2_offerOpenRooms 60 = .ok (.iaload, 1) := by decide +kernel
theorem dX2_offerOpenRooms_61 : decode cX2_offerOpenRooms 61 = .ok (.iconst 2, 1) := by decide +kernel
theorem dX2_offerOpenRooms_62 : decode cX2_offerOpenRooms 62 = .ok (.if_icmp .eq 24, 3) := by decide +kernel
theorem dX2_offerOpenRooms_65 : decode cX2_offerOpenRooms 65 = .ok (.aload_n 0, 1) := by decide +kernel
theorem dX2_offerOpenRooms_66 : decode cX2_offerOpenRooms 66 = .ok (.getfield 18, 3) := by decide +kernel
theorem dX2_offerOpenRooms_69 : decode cX2_offerOpenRooms 69 = .ok (.aload_n 0, 1) := by decide +kernel
theorem dX2_offerOpenRooms_70 : decode cX2_offerOpenRooms 70 = .ok (.getfield 22, 3) := by decide +kernel
theorem dX2_offerOpenRooms_73 : decode cX2_offerOpenRooms 73 = .ok (.getfield 98, 3) := by decide +kernel
theorem dX2_offerOpenRooms_76 : decode cX2_offerOpenRooms 76 = .ok (.iload_n 1, 1) := by decide +kernel
theorem dX2_offerOpenRooms_77 : decode cX2_offerOpenRooms 77 = .ok (.iaload, 1) := by decide +kernel
theorem dX2_offerOpenRooms_78 : decode cX2_offerOpenRooms 78 = .ok (.baload, 1) := by decide +kernel
theorem dX2_offerOpenRooms_79 : decode cX2_offerOpenRooms 79 = .ok (.ifCond .eq 7, 3) := by decide +kernel
theorem dX2_offerOpenRooms_82 : decode cX2_offerOpenRooms 82 = .ok (.iconst 1, 1) := by decide +kernel
theorem dX2_offerOpenRooms_83 : decode cX2_offerOpenRooms 83 = .ok (.goto 4, 3) := by decide +kernel
theorem dX2_offerOpenRooms_86 : decode cX2_offerOpenRooms 86 = .ok (.iconst 0, 1) := by decide +kernel
theorem dX2_offerOpenRooms_87 : decode cX2_offerOpenRooms 87 = .ok (.bastore, 1) := by decide +kernel
theorem dX2_offerOpenRooms_88 : decode cX2_offerOpenRooms 88 = .ok (.aload_n 0, 1) := by decide +kernel
theorem dX2_offerOpenRooms_89 : decode cX2_offerOpenRooms 89 = .ok (.getfield 18, 3) := by decide +kernel
theorem dX2_offerOpenRooms_92 : decode cX2_offerOpenRooms 92 = .ok (.iload_n 1, 1) := by decide +kernel
theorem dX2_offerOpenRooms_93 : decode cX2_offerOpenRooms 93 = .ok (.baload, 1) := by decide +kernel
theorem dX2_offerOpenRooms_94 : decode cX2_offerOpenRooms 94 = .ok (.ifCond .eq 11, 3) := by decide +kernel
theorem dX2_offerOpenRooms_97 : decode cX2_offerOpenRooms 97 = .ok (.aload_n 0, 1) := by decide +kernel
theorem dX2_offerOpenRooms_98 : decode cX2_offerOpenRooms 98 = .ok (.getfield 12, 3) := by decide +kernel
theorem dX2_offerOpenRooms_101 : decode cX2_offerOpenRooms 101 = .ok (.iload_n 1, 1) := by decide +kernel
theorem dX2_offerOpenRooms_102 : decode cX2_offerOpenRooms 102 = .ok (.invokevirtual 121, 3) := by decide +kernel
theorem dX2_offerOpenRooms_105 : decode cX2_offerOpenRooms 105 = .ok (.iinc 1 1, 3) := by decide +kernel
theorem dX2_offerOpenRooms_108 : decode cX2_offerOpenRooms 108 = .ok (.goto (-84), 3) := by decide +kernel
theorem dX2_offerOpenRooms_111 : decode cX2_offerOpenRooms 111 = .ok (.return_, 1) := by decide +kernel
set_option maxRecDepth 20000 in
theorem ggX2_makeBarriers_X2_offerPlainDoors : GoodIn wsX2_makeBarriers wsX2_offerPlainDoors := goodIn_r _ [10, 1, 2, 11, 3, 12, 13, 14, 15, 16, 17, 18, 19, 20, 21, 22, 39, 40, 41, 42, 43, 44, 45, 46, 47, 48, 49, 50, 51, 52, 53, 54, 55, 56, 57, 58] (by decide +kernel) (by decide +kernel)
set_option maxRecDepth 20000 in
theorem gX2_makeBarriers_X2_offerPlainDoors : GoodIn wsX2_makeBarriers (wsV RX2 133 RX2 yX2_offerPlainDoors wsX2_offerPlainDoors) := goodIn_app (goodIn_of _ (by decide +kernel)) ggX2_makeBarriers_X2_offerPlainDoors
set_option maxRecDepth 20000 in
theorem ggX2_makeBarriers_X1_hasOffer : GoodIn wsX2_makeBarriers wsX1_hasOffer := goodIn_r _ [26, 17, 56, 57, 58] (by decide +kernel) (by decide +kernel)
set_option maxRecDepth 20000 in
theorem gX2_makeBarriers_X1_hasOffer : GoodIn wsX2_makeBarriers (wsV RX2 136 RX1 yX1_hasOffer wsX1_hasOffer) := goodIn_app (goodIn_of _ (by decide +kernel)) ggX2_makeBarriers_X1_hasOffer
set_option maxRecDepth 20000 in
theorem ggX2_makeBarriers_X1_offeredRoom : GoodIn wsX2_makeBarriers wsX1_offeredRoom := goodIn_r _ [30, 22, 17, 31, 32, 33, 15, 34, 35, 36, 37, 56, 57, 58] (by decide +kernel) (by decide +kernel)
set_option maxRecDepth 20000 in
theorem gX2_makeBarriers_X1_offeredRoom : GoodIn wsX2_makeBarriers (wsV RX2 63 RX1 yX1_offeredRoom wsX1_offeredRoom) := goodIn_app (goodIn_of _ (by decide +kernel)) ggX2_makeBarriers_X1_offeredRoom
set_option maxRecDepth 20000 in
theorem ggX2_makeBarriers_X1_number : GoodIn wsX2_makeBarriers wsX1_number := goodIn_r _ [34, 35, 36, 37, 56, 57, 58] (by decide +kernel) (by decide +kernel)
set_option maxRecDepth 20000 in
theorem gX2_makeBarriers_X1_number : GoodIn wsX2_makeBarriers (wsV RX2 111 RX1 yX1_number wsX1_number) := goodIn_app (goodIn_of _ (by decide +kernel)) ggX2_makeBarriers_X1_number
theorem dX2_makeBarriers_0 : decode cX2_makeBarriers 0 = .ok (.iconst 0, 1) := by decide +kernel
theorem dX2_makeBarriers_1 : decode cX2_makeBarriers 1 = .ok (.istore_n 2, 1) := by decide +kernel
theorem dX2_makeBarriers_2 : decode cX2_makeBarriers 2 = .ok (.iload_n 2, 1) := by decide +kernel
theorem dX2_makeBarriers_3 : decode cX2_makeBarriers 3 = .ok (.iload_n 1, 1) := by decide +kernel
theorem dX2_makeBarriers_4 : decode cX2_makeBarriers 4 = .ok (.if_icmp .ge 84, 3) := by decide +kernel
theorem dX2_makeBarriers_7 : decode cX2_makeBarriers 7 = .ok (.aload_n 0, 1) := by decide +kernel
theorem dX2_makeBarriers_8 : decode cX2_makeBarriers 8 = .ok (.invokevirtual 133, 3) := by decide +kernel
theorem dX2_makeBarriers_11 : decode cX2_makeBarriers 11 = .ok (.aload_n 0, 1) := by decide +kernel
theorem dX2_makeBarriers_12 : decode cX2_makeBarriers 12 = .ok (.getfield 12, 3) := by decide +kernel
theorem dX2_makeBarriers_15 : decode cX2_makeBarriers 15 = .ok (.invokevirtual 136, 3) := by decide +kernel
theorem dX2_makeBarriers_18 : decode cX2_makeBarriers 18 = .ok (.ifCond .eq 64, 3) := by decide +kernel
theorem dX2_makeBarriers_21 : decode cX2_makeBarriers 21 = .ok (.aload_n 0, 1) := by decide +kernel
theorem dX2_makeBarriers_22 : decode cX2_makeBarriers 22 = .ok (.getfield 12, 3) := by decide +kernel
theorem dX2_makeBarriers_25 : decode cX2_makeBarriers 25 = .ok (.invokevirtual 63, 3) := by decide +kernel
theorem dX2_makeBarriers_28 : decode cX2_makeBarriers 28 = .ok (.istore_n 3, 1) := by decide +kernel
theorem dX2_makeBarriers_29 : decode cX2_makeBarriers 29 = .ok (.aload_n 0, 1) := by decide +kernel
theorem dX2_makeBarriers_30 : decode cX2_makeBarriers 30 = .ok (.getfield 22, 3) := by decide +kernel
theorem dX2_makeBarriers_33 : decode cX2_makeBarriers 33 = .ok (.getfield 104, 3) := by decide +kernel
theorem dX2_makeBarriers_36 : decode cX2_makeBarriers 36 = .ok (.iload_n 3, 1) := by decide +kernel
theorem dX2_makeBarriers_37 : decode cX2_makeBarriers 37 = .ok (.aload_n 0, 1) := by decide +kernel
theorem dX2_makeBarriers_38 : decode cX2_makeBarriers 38 = .ok (.getfield 12, 3) := by decide +kernel
theorem dX2_makeBarriers_41 : decode cX2_makeBarriers 41 = .ok (.iconst 2, 1) := by decide +kernel
theorem dX2_makeBarriers_42 : decode cX2_makeBarriers 42 = .ok (.invokevirtual 111, 3) := by decide +kernel
theorem dX2_makeBarriers_45 : decode cX2_makeBarriers 45 = .ok (.ifCond .ne 7, 3) := by decide +kernel
theorem dX2_makeBarriers_48 : decode cX2_makeBarriers 48 = .ok (.iconst 3, 1) := by decide +kernel
theorem dX2_makeBarriers_49 : decode cX2_makeBarriers 49 = .ok (.goto 4, 3) := by decide +kernel
theorem dX2_makeBarriers_52 : decode cX2_makeBarriers 52 = .ok (.iconst 4, 1) := by decide +kernel
theorem dX2_makeBarriers_53 : decode cX2_makeBarriers 53 = .ok (.iastore, 1) := by decide +kernel
theorem dX2_makeBarriers_54 : decode cX2_makeBarriers 54 = .ok (.aload_n 0, 1) := by decide +kernel
theorem dX2_makeBarriers_55 : decode cX2_makeBarriers 55 = .ok (.getfield 22, 3) := by decide +kernel
theorem dX2_makeBarriers_58 : decode cX2_makeBarriers 58 = .ok (.getfield 92, 3) := by decide +kernel
theorem dX2_makeBarriers_61 : decode cX2_makeBarriers 61 = .ok (.iload_n 3, 1) := by decide +kernel
theorem dX2_makeBarriers_62 : decode cX2_makeBarriers 62 = .ok (.iconst 1, 1) := by decide +kernel
theorem dX2_makeBarriers_63 : decode cX2_makeBarriers 63 = .ok (.bastore, 1) := by decide +kernel
theorem dX2_makeBarriers_64 : decode cX2_makeBarriers 64 = .ok (.aload_n 0, 1) := by decide +kernel
theorem dX2_makeBarriers_65 : decode cX2_makeBarriers 65 = .ok (.getfield 22, 3) := by decide +kernel
theorem dX2_makeBarriers_68 : decode cX2_makeBarriers 68 = .ok (.getfield 92, 3) := by decide +kernel
theorem dX2_makeBarriers_71 : decode cX2_makeBarriers 71 = .ok (.aload_n 0, 1) := by decide +kernel
theorem dX2_makeBarriers_72 : decode cX2_makeBarriers 72 = .ok (.getfield 22, 3) := by decide +kernel
theorem dX2_makeBarriers_75 : decode cX2_makeBarriers 75 = .ok (.getfield 98, 3) := by decide +kernel
theorem dX2_makeBarriers_78 : decode cX2_makeBarriers 78 = .ok (.iload_n 3, 1) := by decide +kernel
theorem dX2_makeBarriers_79 : decode cX2_makeBarriers 79 = .ok (.iaload, 1) := by decide +kernel
theorem dX2_makeBarriers_80 : decode cX2_makeBarriers 80 = .ok (.iconst 1, 1) := by decide +kernel
theorem dX2_makeBarriers_81 : decode cX2_makeBarriers 81 = .ok (.bastore, 1) := by decide +kernel
theorem dX2_makeBarriers_82 : decode cX2_makeBarriers 82 = .ok (.iinc 2 1, 3) := by decide +kernel
theorem dX2_makeBarriers_85 : decode cX2_makeBarriers 85 = .ok (.goto (-83), 3) := by decide +kernel
theorem dX2_makeBarriers_88 : decode cX2_makeBarriers 88 = .ok (.return_, 1) := by decide +kernel
set_option maxRecDepth 20000 in
theorem ggX2_placeRooms_X1_number : GoodIn wsX2_placeRooms wsX1_number := goodIn_r _ [10, 11, 12, 13, 43, 44, 45] (by decide +kernel) (by decide +kernel)
set_option maxRecDepth 20000 in
theorem gX2_placeRooms_X1_number : GoodIn wsX2_placeRooms (wsV RX2 111 RX1 yX1_number wsX1_number) := goodIn_app (goodIn_of _ (by decide +kernel)) ggX2_placeRooms_X1_number
set_option maxRecDepth 20000 in
theorem ggX2_placeRooms_X2_place : GoodIn wsX2_placeRooms wsX2_place := goodIn_r _ [18, 1, 2, 19, 3, 20, 21, 22, 23, 24, 17, 25, 26, 27, 28, 29, 30, 31, 32, 33, 34, 35, 36, 37, 38, 39, 40, 41, 42] (by decide +kernel) (by decide +kernel)
set_option maxRecDepth 20000 in
theorem gX2_placeRooms_X2_place : GoodIn wsX2_placeRooms (wsV RX2 155 RX2 yX2_place wsX2_place) := goodIn_app (goodIn_of _ (by decide +kernel)) ggX2_placeRooms_X2_place
theorem dX2_placeRooms_0 : decode cX2_placeRooms 0 = .ok (.aload_n 0, 1) := by decide +kernel
theorem dX2_placeRooms_1 : decode cX2_placeRooms 1 = .ok (.getfield 22, 3) := by decide +kernel
theorem dX2_placeRooms_4 : decode cX2_placeRooms 4 = .ok (.getfield 149, 3) := by decide +kernel
theorem dX2_placeRooms_7 : decode cX2_placeRooms 7 = .ok (.iconst 0, 1) := by decide +kernel
theorem dX2_placeRooms_8 : decode cX2_placeRooms 8 = .ok (.iconst 0, 1) := by decide +kernel
theorem dX2_placeRooms_9 : decode cX2_placeRooms 9 = .ok (.iastore, 1) := by decide +kernel
theorem dX2_placeRooms_10 : decode cX2_placeRooms 10 = .ok (.aload_n 0, 1) := by decide +kernel
theorem dX2_placeRooms_11 : decode cX2_placeRooms 11 = .ok (.getfield 22, 3) := by decide +kernel
theorem dX2_placeRooms_14 : decode cX2_placeRooms 14 = .ok (.getfield 152, 3) := by decide +kernel
theorem dX2_placeRooms_17 : decode cX2_placeRooms 17 = .ok (.iconst 0, 1) := by decide +kernel
theorem dX2_placeRooms_18 : decode cX2_placeRooms 18 = .ok (.iconst 0, 1) := by decide +kernel
theorem dX2_placeRooms_19 : decode cX2_placeRooms 19 = .ok (.iastore, 1) := by decide +kernel
theorem dX2_placeRooms_20 : decode cX2_placeRooms 20 = .ok (.iconst 1, 1) := by decide +kernel
theorem dX2_placeRooms_21 : decode cX2_placeRooms 21 = .ok (.istore_n 1, 1) := by decide +kernel
theorem dX2_placeRooms_22 : decode cX2_placeRooms 22 = .ok (.iload_n 1, 1) := by decide +kernel
theorem dX2_placeRooms_23 : decode cX2_placeRooms 23 = .ok (.aload_n 0, 1) := by decide +kernel
theorem dX2_placeRooms_24 : decode cX2_placeRooms 24 = .ok (.getfield 22, 3) := by decide +kernel
theorem dX2_placeRooms_27 : decode cX2_placeRooms 27 = .ok (.getfield 33, 3) := by decide +kernel
theorem dX2_placeRooms_30 : decode cX2_placeRooms 30 = .ok (.if_icmp .ge 22, 3) := by decide +kernel
theorem dX2_placeRooms_33 : decode cX2_placeRooms 33 = .ok (.aload_n 0, 1) := by decide +kernel
theorem dX2_placeRooms_34 : decode cX2_placeRooms 34 = .ok (.iload_n 1, 1) := by decide +kernel
theorem dX2_placeRooms_35 : decode cX2_placeRooms 35 = .ok (.aload_n 0, 1) := by decide +kernel
theorem dX2_placeRooms_36 : decode cX2_placeRooms 36 = .ok (.getfield 12, 3) := by decide +kernel
theorem dX2_placeRooms_39 : decode cX2_placeRooms 39 = .ok (.iconst 4, 1) := by decide +kernel
theorem dX2_placeRooms_40 : decode cX2_placeRooms 40 = .ok (.invokevirtual 111, 3) := by decide +kernel
theorem dX2_placeRooms_43 : decode cX2_placeRooms 43 = .ok (.invokevirtual 155, 3) := by decide +kernel
theorem dX2_placeRooms_46 : decode cX2_placeRooms 46 = .ok (.iinc 1 1, 3) := by decide +kernel
theorem dX2_placeRooms_49 : decode cX2_placeRooms 49 = .ok (.goto (-27), 3) := by decide +kernel
theorem dX2_placeRooms_52 : decode cX2_placeRooms 52 = .ok (.return_, 1) := by decide +kernel
set_option maxRecDepth 20000 in
theorem ggX2_place_X2_isFree : GoodIn wsX2_place wsX2_isFree := goodIn_r _ [11, 1, 2, 4, 12, 13, 14, 15, 16, 17, 18, 19, 20, 21, 22, 23, 24, 25, 26, 27, 28] (by decide +kernel) (by decide +kernel)
set_option maxRecDepth 20000 in
theorem gX2_place_X2_isFree : GoodIn wsX2_place (wsV RX2 164 RX2 yX2_isFree wsX2_isFree) := goodIn_app (goodIn_of _ (by decide +kernel)) ggX2_place_X2_isFree
theorem dX2_place_0 : decode cX2_place 0 = .ok (.aload_n 0, 1) := by decide +kernel
theorem dX2_place_1 : decode cX2_place 1 = .ok (.getfield 22, 3) := by decide +kernel
theorem dX2_place_4 : decode cX2_place 4 = .ok (.getfield 149, 3) := by decide +kernel
theorem dX2_place_7 : decode cX2_place 7 = .ok (.aload_n 0, 1) := by decide +kernel
theorem dX2_place_8 : decode cX2_place 8 = .ok (.getfield 22, 3) := by decide +kernel
theorem dX2_place_11 : decode cX2_place 11 = .ok (.getfield 98, 3) := by decide +kernel
theorem dX2_place_14 : decode cX2_place 14 = .ok (.iload_n 1, 1) := by decide +kernel
theorem dX2_place_15 : decode cX2_place 15 = .ok (.iaload, 1) := by decide +kernel
theorem dX2_place_16 : decode cX2_place 16 = .ok (.iaload, 1) := by decide +kernel
theorem dX2_place_17 : decode cX2_place 17 = .ok (.istore_n 3, 1) := by decide +kernel
theorem dX2_place_18 : decode cX2_place 18 = .ok (.aload_n 0, 1) := by decide +kernel
theorem dX2_place_19 : decode cX2_place 19 = .ok (.getfield 22, 3) := by decide +kernel
theorem dX2_place_22 : decode cX2_place 22 = .ok (.getfield 152, 3) := by decide +kernel
theorem dX2_place_25 : decode cX2_place 25 = .ok (.aload_n 0, 1) := by decide +kernel
theorem dX2_place_26 : decode cX2_place 26 = .ok (.getfield 22, 3) := by decide +kernel
theorem dX2_place_29 : decode cX2_place 29 = .ok (.getfield 98, 3) := by decide +kernel
theorem dX2_place_32 : decode cX2_place 32 = .ok (.iload_n 1, 1) := by decide +kernel
theorem dX2_place_33 : decode cX2_place 33 = .ok (.iaload, 1) := by decide +kernel
theorem dX2_place_34 : decode cX2_place 34 = .ok (.iaload, 1) := by decide +kernel
theorem dX2_place_35 : decode cX2_place 35 = .ok (.istore 4, 2) := by decide +kernel
theorem dX2_place_37 : decode cX2_place 37 = .ok (.iconst 0, 1) := by decide +kernel
theorem dX2_place_38 : decode cX2_place 38 = .ok (.istore 5, 2) := by decide +kernel
theorem dX2_place_40 : decode cX2_place 40 = .ok (.iload 5, 2) := by decide +kernel
theorem dX2_place_42 : decode cX2_place 42 = .ok (.iload_n 1, 1) := by decide +kernel
theorem dX2_place_43 : decode cX2_place 43 = .ok (.if_icmp .ge 41, 3) := by decide +kernel
end
section
theorem dX2_place_46 : decode cX2_place 46 = .ok (.iload_n 3, 1) := by decide +kernel
theorem dX2_place_47 : decode cX2_place 47 = .ok (.getstatic 158, 3) := by decide +kernel
theorem dX2_place_50 : decode cX2_place 50 = .ok (.iload_n 2, 1) := by decide +kernel
theorem dX2_place_51 : decode cX2_place 51 = .ok (.iaload, 1) := by decide +kernel
theorem dX2_place_52 : decode cX2_place 52 = .ok (.iadd, 1) := by decide +kernel
theorem dX2_place_53 : decode cX2_place 53 = .ok (.istore_n 3, 1) := by decide +kernel
theorem dX2_place_54 : decode cX2_place 54 = .ok (.iload 4, 2) := by decide +kernel
theorem dX2_place_56 : decode cX2_place 56 = .ok (.getstatic 161, 3) := by decide +kernel
theorem dX2_place_59 : decode cX2_place 59 = .ok (.iload_n 2, 1) := by decide +kernel
theorem dX2_place_60 : decode cX2_place 60 = .ok (.iaload, 1) := by decide +kernel
theorem dX2_place_61 : decode cX2_place 61 = .ok (.iadd, 1) := by decide +kernel
theorem dX2_place_62 : decode cX2_place 62 = .ok (.istore 4, 2) := by decide +kernel
theorem dX2_place_64 : decode cX2_place 64 = .ok (.aload_n 0, 1) := by decide +kernel
theorem dX2_place_65 : decode cX2_place 65 = .ok (.iload_n 3, 1) := by decide +kernel
theorem dX2_place_66 : decode cX2_place 66 = .ok (.iload 4, 2) := by decide +kernel
theorem dX2_place_68 : decode cX2_place 68 = .ok (.iload_n 1, 1) := by decide +kernel
theorem dX2_place_69 : decode cX2_place 69 = .ok (.invokevirtual 164, 3) := by decide +kernel
theorem dX2_place_72 : decode cX2_place 72 = .ok (.ifCond .eq 6, 3) := by decide +kernel
theorem dX2_place_75 : decode cX2_place 75 = .ok (.goto 9, 3) := by decide +kernel
theorem dX2_place_78 : decode cX2_place 78 = .ok (.iinc 5 1, 3) := by decide +kernel
theorem dX2_place_81 : decode cX2_place 81 = .ok (.goto (-41), 3) := by decide +kernel
theorem dX2_place_84 : decode cX2_place 84 = .ok (.aload_n 0, 1) := by decide +kernel
theorem dX2_place_85 : decode cX2_place 85 = .ok (.getfield 22, 3) := by decide +kernel
theorem dX2_place_88 : decode cX2_place 88 = .ok (.getfield 149, 3) := by decide +kernel
theorem dX2_place_91 : decode cX2_place 91 = .ok (.iload_n 1, 1) := by decide +kernel
theorem dX2_place_92 : decode cX2_place 92 = .ok (.iload_n 3, 1) := by decide +kernel
theorem dX2_place_93 : decode cX2_place 93 = .ok (.iastore, 1) := by decide +kernel
theorem dX2_place_94 : decode cX2_place 94 = .ok (.aload_n 0, 1) := by decide +kernel
theorem dX2_place_95 : decode cX2_place 95 = .ok (.getfield 22, 3) := by decide +kernel
theorem dX2_place_98 : decode cX2_place 98 = .ok (.getfield 152, 3) := by decide +kernel
theorem dX2_place_101 : decode cX2_place 101 = .ok (.iload_n 1, 1) := by decide +kernel
theorem dX2_place_102 : decode cX2_place 102 = .ok (.iload 4, 2) := by decide +kernel
theorem dX2_place_104 : decode cX2_place 104 = .ok (.iastore, 1) := by decide +kernel
theorem dX2_place_105 : decode cX2_place 105 = .ok (.return_, 1) := by decide +kernel
theorem dX2_isFree_0 : decode cX2_isFree 0 = .ok (.iconst 0, 1) := by decide +kernel
theorem dX2_isFree_1 : decode cX2_isFree 1 = .ok (.istore 4, 2) := by decide +kernel
theorem dX2_isFree_3 : decode cX2_isFree 3 = .ok (.iload 4, 2) := by decide +kernel
theorem dX2_isFree_5 : decode cX2_isFree 5 = .ok (.iload_n 3, 1) := by decide +kernel
theorem dX2_isFree_6 : decode cX2_isFree 6 = .ok (.if_icmp .ge 39, 3) := by decide +kernel
theorem dX2_isFree_9 : decode cX2_isFree 9 = .ok (.aload_n 0, 1) := by decide +kernel
theorem dX2_isFree_10 : decode cX2_isFree 10 = .ok (.getfield 22, 3) := by decide +kernel
theorem dX2_isFree_13 : decode cX2_isFree 13 = .ok (.getfield 149, 3) := by decide +kernel
theorem dX2_isFree_16 : decode cX2_isFree 16 = .ok (.iload 4, 2) := by decide +kernel
theorem dX2_isFree_18 : decode cX2_isFree 18 = .ok (.iaload, 1) := by decide +kernel
theorem dX2_isFree_19 : decode cX2_isFree 19 = .ok (.iload_n 1, 1) := by decide +kernel
theorem dX2_isFree_20 : decode cX2_isFree 20 = .ok (.if_icmp .ne 19, 3) := by decide +kernel
theorem dX2_isFree_23 : decode cX2_isFree 23 = .ok (.aload_n 0, 1) := by decide +kernel
theorem dX2_isFree_24 : decode cX2_isFree 24 = .ok (.getfield 22, 3) := by decide +kernel
theorem dX2_isFree_27 : decode cX2_isFree 27 = .ok (.getfield 152, 3) := by decide +kernel
theorem dX2_isFree_30 : decode cX2_isFree 30 = .ok (.iload 4, 2) := by decide +kernel
theorem dX2_isFree_32 : decode cX2_isFree 32 = .ok (.iaload, 1) := by decide +kernel
theorem dX2_isFree_33 : decode cX2_isFree 33 = .ok (.iload_n 2, 1) := by decide +kernel
theorem dX2_isFree_34 : decode cX2_isFree 34 = .ok (.if_icmp .ne 5, 3) := by decide +kernel
theorem dX2_isFree_37 : decode cX2_isFree 37 = .ok (.iconst 0, 1) := by decide +kernel
theorem dX2_isFree_38 : decode cX2_isFree 38 = .ok (.ireturn, 1) := by decide +kernel
theorem dX2_isFree_39 : decode cX2_isFree 39 = .ok (.iinc 4 1, 3) := by decide +kernel
theorem dX2_isFree_42 : decode cX2_isFree 42 = .ok (.goto (-39), 3) := by decide +kernel
theorem dX2_isFree_45 : decode cX2_isFree 45 = .ok (.iconst 1, 1) := by decide +kernel
theorem dX2_isFree_46 : decode cX2_isFree 46 = .ok (.ireturn, 1) := by decide +kernel
set_option maxRecDepth 20000 in
theorem ggX2_joinFamilies_X2_join : GoodIn wsX2_joinFamilies wsX2_join := goodIn_r _ [8, 1, 9, 10, 11, 12, 13, 14, 15, 16, 17, 18, 19, 20, 21, 22, 23, 24, 25, 26, 27, 28] (by decide +kernel) (by decide +kernel)
set_option maxRecDepth 20000 in
theorem gX2_joinFamilies_X2_join : GoodIn wsX2_joinFamilies (wsV RX2 167 RX2 yX2_join wsX2_join) := goodIn_app (goodIn_of _ (by decide +kernel)) ggX2_joinFamilies_X2_join
theorem dX2_joinFamilies_0 : decode cX2_joinFamilies 0 = .ok (.iconst 1, 1) := by decide +kernel
theorem dX2_joinFamilies_1 : decode cX2_joinFamilies 1 = .ok (.istore_n 1, 1) := by decide +kernel
theorem dX2_joinFamilies_2 : decode cX2_joinFamilies 2 = .ok (.iload_n 1, 1) := by decide +kernel
theorem dX2_joinFamilies_3 : decode cX2_joinFamilies 3 = .ok (.aload_n 0, 1) := by decide +kernel
theorem dX2_joinFamilies_4 : decode cX2_joinFamilies 4 = .ok (.getfield 22, 3) := by decide +kernel
theorem dX2_joinFamilies_7 : decode cX2_joinFamilies 7 = .ok (.getfield 33, 3) := by decide +kernel
theorem dX2_joinFamilies_10 : decode cX2_joinFamilies 10 = .ok (.if_icmp .ge 23, 3) := by decide +kernel
theorem dX2_joinFamilies_13 : decode cX2_joinFamilies 13 = .ok (.aload_n 0, 1) := by decide +kernel
theorem dX2_joinFamilies_14 : decode cX2_joinFamilies 14 = .ok (.iload_n 1, 1) := by decide +kernel
theorem dX2_joinFamilies_15 : decode cX2_joinFamilies 15 = .ok (.aload_n 0, 1) := by decide +kernel
theorem dX2_joinFamilies_16 : decode cX2_joinFamilies 16 = .ok (.getfield 22, 3) := by decide +kernel
theorem dX2_joinFamilies_19 : decode cX2_joinFamilies 19 = .ok (.getfield 98, 3) := by decide +kernel
theorem dX2_joinFamilies_22 : decode cX2_joinFamilies 22 = .ok (.iload_n 1, 1) := by decide +kernel
theorem dX2_joinFamilies_23 : decode cX2_joinFamilies 23 = .ok (.iaload, 1) := by decide +kernel
theorem dX2_joinFamilies_24 : decode cX2_joinFamilies 24 = .ok (.invokevirtual 167, 3) := by decide +kernel
theorem dX2_joinFamilies_27 : decode cX2_joinFamilies 27 = .ok (.iinc 1 1, 3) := by decide +kernel
theorem dX2_joinFamilies_30 : decode cX2_joinFamilies 30 = .ok (.goto (-28), 3) := by decide +kernel
theorem dX2_joinFamilies_33 : decode cX2_joinFamilies 33 = .ok (.return_, 1) := by decide +kernel
set_option maxRecDepth 20000 in
theorem ggX2_joinLoops_X2_mayLoop : GoodIn wsX2_joinLoops wsX2_mayLoop := goodIn_r _ [8, 1, 9, 10, 11, 12, 13, 14, 15, 16, 32, 33, 34, 35, 36, 37, 38, 39, 40, 41, 42, 43, 44, 45, 46, 47, 48] (by decide +kernel) (by decide +kernel)
set_option maxRecDepth 20000 in
theorem gX2_joinLoops_X2_mayLoop : GoodIn wsX2_joinLoops (wsV RX2 170 RX2 yX2_mayLoop wsX2_mayLoop) := goodIn_app (goodIn_of _ (by decide +kernel)) ggX2_joinLoops_X2_mayLoop
set_option maxRecDepth 20000 in
theorem ggX2_joinLoops_X1_number : GoodIn wsX2_joinLoops wsX1_number := goodIn_r _ [21, 22, 23, 24, 49, 50, 51] (by decide +kernel) (by decide +kernel)
set_option maxRecDepth 20000 in
theorem gX2_joinLoops_X1_number : GoodIn wsX2_joinLoops (wsV RX2 111 RX1 yX1_number wsX1_number) := goodIn_app (goodIn_of _ (by decide +kernel)) ggX2_joinLoops_X1_number
set_option maxRecDepth 20000 in
theorem ggX2_joinLoops_X2_join : GoodIn wsX2_joinLoops wsX2_join := goodIn_r _ [28, 1, 29, 30, 31, 32, 33, 34, 35, 36, 37, 38, 39, 40, 41, 42, 43, 44, 45, 46, 47, 48] (by decide +kernel) (by decide +kernel)
set_option maxRecDepth 20000 in
theorem gX2_joinLoops_X2_join : GoodIn wsX2_joinLoops (wsV RX2 167 RX2 yX2_join wsX2_join) := goodIn_app (goodIn_of _ (by decide +kernel)) ggX2_joinLoops_X2_join
theorem dX2_joinLoops_0 : decode cX2_joinLoops 0 = .ok (.iconst 1, 1) := by decide +kernel
theorem dX2_joinLoops_1 : decode cX2_joinLoops 1 = .ok (.istore_n 1, 1) := by decide +kernel
theorem dX2_joinLoops_2 : decode cX2_joinLoops 2 = .ok (.iload_n 1, 1) := by decide +kernel
theorem dX2_joinLoops_3 : decode cX2_joinLoops 3 = .ok (.aload_n 0, 1) := by decide +kernel
theorem dX2_joinLoops_4 : decode cX2_joinLoops 4 = .ok (.getfield 22, 3) := by decide +kernel
theorem dX2_joinLoops_7 : decode cX2_joinLoops 7 = .ok (.getfield 33, 3) := by decide +kernel
theorem dX2_joinLoops_10 : decode cX2_joinLoops 10 = .ok (.if_icmp .ge 48, 3) := by decide +kernel
theorem dX2_joinLoops_13 : decode cX2_joinLoops 13 = .ok (.iconst 0, 1) := by decide +kernel
theorem dX2_joinLoops_14 : decode cX2_joinLoops 14 = .ok (.istore_n 2, 1) := by decide +kernel
theorem dX2_joinLoops_15 : decode cX2_joinLoops 15 = .ok (.iload_n 2, 1) := by decide +kernel
theorem dX2_joinLoops_16 : decode cX2_joinLoops 16 = .ok (.iload_n 1, 1) := by decide +kernel
theorem dX2_joinLoops_17 : decode cX2_joinLoops 17 = .ok (.if_icmp .ge 35, 3) := by decide +kernel
theorem dX2_joinLoops_20 : decode cX2_joinLoops 20 = .ok (.aload_n 0, 1) := by decide +kernel
theorem dX2_joinLoops_21 : decode cX2_joinLoops 21 = .ok (.iload_n 1, 1) := by decide +kernel
theorem dX2_joinLoops_22 : decode cX2_joinLoops 22 = .ok (.iload_n 2, 1) := by decide +kernel
theorem dX2_joinLoops_23 : decode cX2_joinLoops 23 = .ok (.invokevirtual 170, 3) := by decide +kernel
theorem dX2_joinLoops_26 : decode cX2_joinLoops 26 = .ok (.ifCond .eq 20, 3) := by decide +kernel
theorem dX2_joinLoops_29 : decode cX2_joinLoops 29 = .ok (.aload_n 0, 1) := by decide +kernel
theorem dX2_joinLoops_30 : decode cX2_joinLoops 30 = .ok (.getfield 12, 3) := by decide +kernel
theorem dX2_joinLoops_33 : decode cX2_joinLoops 33 = .ok (.iconst 3, 1) := by decide +kernel
theorem dX2_joinLoops_34 : decode cX2_joinLoops 34 = .ok (.invokevirtual 111, 3) := by decide +kernel
theorem dX2_joinLoops_37 : decode cX2_joinLoops 37 = .ok (.ifCond .ne 9, 3) := by decide +kernel
theorem dX2_joinLoops_40 : decode cX2_joinLoops 40 = .ok (.aload_n 0, 1) := by decide +kernel
theorem dX2_joinLoops_41 : decode cX2_joinLoops 41 = .ok (.iload_n 1, 1) := by decide +kernel
theorem dX2_joinLoops_42 : decode cX2_joinLoops 42 = .ok (.iload_n 2, 1) := by decide +kernel
theorem dX2_joinLoops_43 : decode cX2_joinLoops 43 = .ok (.invokevirtual 167, 3) := by decide +kernel
theorem dX2_joinLoops_46 : decode cX2_joinLoops 46 = .ok (.iinc 2 1, 3) := by decide +kernel
theorem dX2_joinLoops_49 : decode cX2_joinLoops 49 = .ok (.goto (-34), 3) := by decide +kernel
theorem dX2_joinLoops_52 : decode cX2_joinLoops 52 = .ok (.iinc 1 1, 3) := by decide +kernel
theorem dX2_joinLoops_55 : decode cX2_joinLoops 55 = .ok (.goto (-53), 3) := by decide +kernel
theorem dX2_joinLoops_58 : decode cX2_joinLoops 58 = .ok (.return_, 1) := by decide +kernel
theorem dX2_mayLoop_0 : decode cX2_mayLoop 0 = .ok (.aload_n 0, 1) := by decide +kernel
theorem dX2_mayLoop_1 : decode cX2_mayLoop 1 = .ok (.getfield 22, 3) := by decide +kernel
theorem dX2_mayLoop_4 : decode cX2_mayLoop 4 = .ok (.getfield 149, 3) := by decide +kernel
theorem dX2_mayLoop_7 : decode cX2_mayLoop 7 = .ok (.iload_n 1, 1) := by decide +kernel
theorem dX2_mayLoop_8 : decode cX2_mayLoop 8 = .ok (.iaload, 1) := by decide +kernel
theorem dX2_mayLoop_9 : decode cX2_mayLoop 9 = .ok (.aload_n 0, 1) := by decide +kernel
theorem dX2_mayLoop_10 : decode cX2_mayLoop 10 = .ok (.getfield 22, 3) := by decide +kernel
theorem dX2_mayLoop_13 : decode cX2_mayLoop 13 = .ok (.getfield 149, 3) := by decide +kernel
theorem dX2_mayLoop_16 : decode cX2_mayLoop 16 = .ok (.iload_n 2, 1) := by decide +kernel
theorem dX2_mayLoop_17 : decode cX2_mayLoop 17 = .ok (.iaload, 1) := by decide +kernel
theorem dX2_mayLoop_18 : decode cX2_mayLoop 18 = .ok (.isub, 1) := by decide +kernel
theorem dX2_mayLoop_19 : decode cX2_mayLoop 19 = .ok (.invokestatic 173, 3) := by decide +kernel
theorem dX2_mayLoop_22 : decode cX2_mayLoop 22 = .ok (.aload_n 0, 1) := by decide +kernel
theorem dX2_mayLoop_23 : decode cX2_mayLoop 23 = .ok (.getfield 22, 3) := by decide +kernel
theorem dX2_mayLoop_26 : decode cX2_mayLoop 26 = .ok (.getfield 152, 3) := by decide +kernel
theorem dX2_mayLoop_29 : decode cX2_mayLoop 29 = .ok (.iload_n 1, 1) := by decide +kernel
theorem dX2_mayLoop_30 : decode cX2_mayLoop 30 = .ok (.iaload, 1) := by decide +kernel
theorem dX2_mayLoop_31 : decode cX2_mayLoop 31 = .ok (.aload_n 0, 1) := by decide +kernel
theorem dX2_mayLoop_32 : decode cX2_mayLoop 32 = .ok (.getfield 22, 3) := by decide +kernel
theorem dX2_mayLoop_35 : decode cX2_mayLoop 35 = .ok (.getfield 152, 3) := by decide +kernel
theorem dX2_mayLoop_38 : decode cX2_mayLoop 38 = .ok (.iload_n 2, 1) := by decide +kernel
theorem dX2_mayLoop_39 : decode cX2_mayLoop 39 = .ok (.iaload, 1) := by decide +kernel
theorem dX2_mayLoop_40 : decode cX2_mayLoop 40 = .ok (.isub, 1) := by decide +kernel
theorem dX2_mayLoop_41 : decode cX2_mayLoop 41 = .ok (.invokestatic 173, 3) := by decide +kernel
theorem dX2_mayLoop_44 : decode cX2_mayLoop 44 = .ok (.iadd, 1) := by decide +kernel
theorem dX2_mayLoop_45 : decode cX2_mayLoop 45 = .ok (.istore_n 3, 1) := by decide +kernel
theorem dX2_mayLoop_46 : decode cX2_mayLoop 46 = .ok (.iload_n 3, 1) := by decide +kernel
theorem dX2_mayLoop_47 : decode cX2_mayLoop 47 = .ok (.iconst 1, 1) := by decide +kernel
theorem dX2_mayLoop_48 : decode cX2_mayLoop 48 = .ok (.if_icmp .ne 41, 3) := by decide +kernel
theorem dX2_mayLoop_51 : decode cX2_mayLoop 51 = .ok (.aload_n 0, 1) := by decide +kernel
theorem dX2_mayLoop_52 : decode cX2_mayLoop 52 = .ok (.getfield 22, 3) := by decide +kernel
theorem dX2_mayLoop_55 : decode cX2_mayLoop 55 = .ok (.getfield 101, 3) := by decide +kernel
theorem dX2_mayLoop_58 : decode cX2_mayLoop 58 = .ok (.iload_n 1, 1) := by decide +kernel
theorem dX2_mayLoop_59 : decode cX2_mayLoop 59 = .ok (.iaload, 1) := by decide +kernel
theorem dX2_mayLoop_60 : decode cX2_mayLoop 60 = .ok (.aload_n 0, 1) := by decide +kernel
theorem dX2_mayLoop_61 : decode cX2_mayLoop 61 = .ok (.getfield 22, 3) := by decide +kernel
theorem dX2_mayLoop_64 : decode cX2_mayLoop 64 = .ok (.getfield 101, 3) := by decide +kernel
theorem dX2_mayLoop_67 : decode cX2_mayLoop 67 = .ok (.iload_n 2, 1) := by decide +kernel
theorem dX2_mayLoop_68 : decode cX2_mayLoop 68 = .ok (.iaload, 1) := by decide +kernel
theorem dX2_mayLoop_69 : decode cX2_mayLoop 69 = .ok (.if_icmp .ne 20, 3) := by decide +kernel
theorem dX2_mayLoop_72 : decode cX2_mayLoop 72 = .ok (.aload_n 0, 1) := by decide +kernel
theorem dX2_mayLoop_73 : decode cX2_mayLoop 73 = .ok (.getfield 22, 3) := by decide +kernel
theorem dX2_mayLoop_76 : decode cX2_mayLoop 76 = .ok (.getfield 98, 3) := by decide +kernel
theorem dX2_mayLoop_79 : decode cX2_mayLoop 79 = .ok (.iload_n 1, 1) := by decide +kernel
theorem dX2_mayLoop_80 : decode cX2_mayLoop 80 = .ok (.iaload, 1) := by decide +kernel
theorem dX2_mayLoop_81 : decode cX2_mayLoop 81 = .ok (.iload_n 2, 1) := by decide +kernel
theorem dX2_mayLoop_82 : decode cX2_mayLoop 82 = .ok (.if_icmp .eq 7, 3) := by decide +kernel
theorem dX2_mayLoop_85 : decode cX2_mayLoop 85 = .ok (.iconst 1, 1) := by decide +kernel
theorem dX2_mayLoop_86 : decode cX2_mayLoop 86 = .ok (.goto 4, 3) := by decide +kernel
theorem dX2_mayLoop_89 : decode cX2_mayLoop 89 = .ok (.iconst 0, 1) := by decide +kernel
theorem dX2_mayLoop_90 : decode cX2_mayLoop 90 = .ok (.ireturn, 1) := by decide +kernel
theorem dX2_join_0 : decode cX2_join 0 = .ok (.aload_n 0, 1) := by decide +kernel
theorem dX2_join_1 : decode cX2_join 1 = .ok (.getfield 22, 3) := by decide +kernel
theorem dX2_join_4 : decode cX2_join 4 = .ok (.getfield 178, 3) := by decide +kernel
theorem dX2_join_7 : decode cX2_join 7 = .ok (.iload_n 1, 1) := by decide +kernel
theorem dX2_join_8 : decode cX2_join 8 = .ok (.aaload, 1) := by decide +kernel
theorem dX2_join_9 : decode cX2_join 9 = .ok (.aload_n 0, 1) := by decide +kernel
theorem dX2_join_10 : decode cX2_join 10 = .ok (.getfield 22, 3) := by decide +kernel
theorem dX2_join_13 : decode cX2_join 13 = .ok (.getfield 89, 3) := by decide +kernel
theorem dX2_join_16 : decode cX2_join 16 = .ok (.iload_n 1, 1) := by decide +kernel
theorem dX2_join_17 : decode cX2_join 17 = .ok (.iaload, 1) := by decide +kernel
theorem dX2_join_18 : decode cX2_join 18 = .ok (.iload_n 2, 1) := by decide +kernel
theorem dX2_join_19 : decode cX2_join 19 = .ok (.iastore, 1) := by decide +kernel
theorem dX2_join_20 : decode cX2_join 20 = .ok (.aload_n 0, 1) := by decide +kernel
theorem dX2_join_21 : decode cX2_join 21 = .ok (.getfield 22, 3) := by decide +kernel
theorem dX2_join_24 : decode cX2_join 24 = .ok (.getfield 178, 3) := by decide +kernel
theorem dX2_join_27 : decode cX2_join 27 = .ok (.iload_n 2, 1) := by decide +kernel
theorem dX2_join_28 : decode cX2_join 28 = .ok (.aaload, 1) := by decide +kernel
theorem dX2_join_29 : decode cX2_join 29 = .ok (.aload_n 0, 1) := by decide +kernel
theorem dX2_join_30 : decode cX2_join 30 = .ok (.getfield 22, 3) := by decide +kernel
theorem dX2_join_33 : decode cX2_join 33 = .ok (.getfield 89, 3) := by decide +kernel
theorem dX2_join_36 : decode cX2_join 36 = .ok (.iload_n 2, 1) := by decide +kernel
theorem dX2_join_37 : decode cX2_join 37 = .ok (.iaload, 1) := by decide +kernel
theorem dX2_join_38 : decode cX2_join 38 = .ok (.iload_n 1, 1) := by decide +kernel
theorem dX2_join_39 : decode cX2_join 39 = .ok (.iastore, 1) := by decide +kernel
theorem dX2_join_40 : decode cX2_join 40 = .ok (.aload_n 0, 1) := by decide +kernel
theorem dX2_join_41 : decode cX2_join 41 = .ok (.getfield 22, 3) := by decide +kernel
theorem dX2_join_44 : decode cX2_join 44 = .ok (.getfield 89, 3) := by decide +kernel
theorem dX2_join_47 : decode cX2_join 47 = .ok (.iload_n 1, 1) := by decide +kernel
theorem dX2_join_48 : decode cX2_join 48 = .ok (.dup2, 1) := by decide +kernel
theorem dX2_join_49 : decode cX2_join 49 = .ok (.iaload, 1) := by decide +kernel
theorem dX2_join_50 : decode cX2_join 50 = .ok (.iconst 1, 1) := by decide +kernel
theorem dX2_join_51 : decode cX2_join 51 = .ok (.iadd, 1) := by decide +kernel
theorem dX2_join_52 : decode cX2_join 52 = .ok (.iastore, 1) := by decide +kernel
theorem dX2_join_53 : decode cX2_join 53 = .ok (.aload_n 0, 1) := by decide +kernel
theorem dX2_join_54 : decode cX2_join 54 = .ok (.getfield 22, 3) := by decide +kernel
theorem dX2_join_57 : decode cX2_join 57 = .ok (.getfield 89, 3) := by decide +kernel
theorem dX2_join_60 : decode cX2_join 60 = .ok (.iload_n 2, 1) := by decide +kernel
theorem dX2_join_61 : decode cX2_join 61 = .ok (.dup2, 1) := by decide +kernel
theorem dX2_join_62 : decode cX2_join 62 = .ok (.iaload, 1) := by decide +kernel
theorem dX2_join_63 : decode cX2_join 63 = .ok (.iconst 1, 1) := by decide +kernel
theorem dX2_join_64 : decode cX2_join 64 = .ok (.iadd, 1) := by decide +kernel
theorem dX2_join_65 : decode cX2_join 65 = .ok (.iastore, 1) := by decide +kernel
theorem dX2_join_66 : decode cX2_join 66 = .ok (.aload_n 0, 1) := by decide +kernel
theorem dX2_join_67 : decode cX2_join 67 = .ok (.getfield 22, 3) := by decide +kernel
theorem dX2_join_70 : decode cX2_join 70 = .ok (.dup, 1) := by decide +kernel
theorem dX2_join_71 : decode cX2_join 71 = .ok (.getfield 95, 3) := by decide +kernel
theorem dX2_join_74 : decode cX2_join 74 = .ok (.iconst 1, 1) := by decide +kernel
theorem dX2_join_75 : decode cX2_join 75 = .ok (.iadd, 1) := by decide +kernel
theorem dX2_join_76 : decode cX2_join 76 = .ok (.putfield 95, 3) := by decide +kernel
theorem dX2_join_79 : decode cX2_join 79 = .ok (.return_, 1) := by decide +kernel
theorem dX3_init_0 : decode cX3_init 0 = .ok (.aload_n 0, 1) := by decide +kernel
theorem dX3_init_1 : decode cX3_init 1 = .ok (.invokespecial 1, 3) := by decide +kernel
theorem dX3_init_4 : decode cX3_init 4 = .ok (.aload_n 0, 1) := by decide +kernel
theorem dX3_init_5 : decode cX3_init 5 = .ok (.sipush 192, 3) := by decide +kernel
theorem dX3_init_8 : decode cX3_init 8 = .ok (.newarray .long, 2) := by decide +kernel
theorem dX3_init_10 : decode cX3_init 10 = .ok (.putfield 9, 3) := by decide +kernel
theorem dX3_init_13 : decode cX3_init 13 = .ok (.return_, 1) := by decide +kernel
set_option maxRecDepth 20000 in
theorem ggX3_clear_J7_fill_d0a16 : GoodIn wsX3_clear wsJ7_fill_d0a16 := goodIn_r _ [5] (by decide +kernel) (by decide +kernel)
set_option maxRecDepth 20000 in
theorem gX3_clear_J7_fill_d0a16 : GoodIn wsX3_clear (va_wsS RX3 15 yJ7_fill_d0a16 wsJ7_fill_d0a16) := goodIn_app (goodIn_of _ (by decide +kernel)) ggX3_clear_J7_fill_d0a16
theorem dX3_clear_0 : decode cX3_clear 0 = .ok (.aload_n 0, 1) := by decide +kernel
theorem dX3_clear_1 : decode cX3_clear 1 = .ok (.getfield 9, 3) := by decide +kernel
theorem dX3_clear_4 : decode cX3_clear 4 = .ok (.lconst 0, 1) := by decide +kernel
theorem dX3_clear_5 : decode cX3_clear 5 = .ok (.invokestatic 15, 3) := by decide +kernel
theorem dX3_clear_8 : decode cX3_clear 8 = .ok (.return_, 1) := by decide +kernel
theorem dX3_has_0 : decode cX3_has 0 = .ok (.aload_n 0, 1) := by decide +kernel
theorem dX3_has_1 : decode cX3_has 1 = .ok (.getfield 9, 3) := by decide +kernel
theorem dX3_has_4 : decode cX3_has 4 = .ok (.iload_n 1, 1) := by decide +kernel
theorem dX3_has_5 : decode cX3_has 5 = .ok (.bipush 6, 2) := by decide +kernel
theorem dX3_has_7 : decode cX3_has 7 = .ok (.ishr, 1) := by decide +kernel
theorem dX3_has_8 : decode cX3_has 8 = .ok (.laload, 1) := by decide +kernel
theorem dX3_has_9 : decode cX3_has 9 = .ok (.lconst 1, 1) := by decide +kernel
theorem dX3_has_10 : decode cX3_has 10 = .ok (.iload_n 1, 1) := by decide +kernel
theorem dX3_has_11 : decode cX3_has 11 = .ok (.bipush 63, 2) := by decide +kernel
theorem dX3_has_13 : decode cX3_has 13 = .ok (.iand, 1) := by decide +kernel
theorem dX3_has_14 : decode cX3_has 14 = .ok (.lshl, 1) := by decide +kernel
theorem dX3_has_15 : decode cX3_has 15 = .ok (.land, 1) := by decide +kernel
theorem dX3_has_16 : decode cX3_has 16 = .ok (.lconst 0, 1) := by decide +kernel
theorem dX3_has_17 : decode cX3_has 17 = .ok (.lcmp, 1) := by decide +kernel
theorem dX3_has_18 : decode cX3_has 18 = .ok (.ifCond .eq 7, 3) := by decide +kernel
theorem dX3_has_21 : decode cX3_has 21 = .ok (.iconst 1, 1) := by decide +kernel
theorem dX3_has_22 : decode cX3_has 22 = .ok (.goto 4, 3) := by decide +kernel
theorem dX3_has_25 : decode cX3_has 25 = .ok (.iconst 0, 1) := by decide +kernel
theorem dX3_has_26 : decode cX3_has 26 = .ok (.ireturn, 1) := by decide +kernel
theorem dX3_add_0 : decode cX3_add 0 = .ok (.aload_n 0, 1) := by decide +kernel
theorem dX3_add_1 : decode cX3_add 1 = .ok (.getfield 9, 3) := by decide +kernel
theorem dX3_add_4 : decode cX3_add 4 = .ok (.iload_n 1, 1) := by decide +kernel
theorem dX3_add_5 : decode cX3_add 5 = .ok (.bipush 6, 2) := by decide +kernel
theorem dX3_add_7 : decode cX3_add 7 = .ok (.ishr, 1) := by decide +kernel
theorem dX3_add_8 : decode cX3_add 8 = .ok (.dup2, 1) := by decide +kernel
theorem dX3_add_9 : decode cX3_add 9 = .ok (.laload, 1) := by decide +kernel
theorem dX3_add_10 : decode cX3_add 10 = .ok (.lconst 1, 1) := by decide +kernel
theorem dX3_add_11 : decode cX3_add 11 = .ok (.iload_n 1, 1) := by decide +kernel
theorem dX3_add_12 : decode cX3_add 12 = .ok (.bipush 63, 2) := by decide +kernel
theorem dX3_add_14 : decode cX3_add 14 = .ok (.iand, 1) := by decide +kernel
theorem dX3_add_15 : decode cX3_add 15 = .ok (.lshl, 1) := by decide +kernel
theorem dX3_add_16 : decode cX3_add 16 = .ok (.lor, 1) := by decide +kernel
theorem dX3_add_17 : decode cX3_add 17 = .ok (.lastore, 1) := by decide +kernel
theorem dX3_add_18 : decode cX3_add 18 = .ok (.return_, 1) := by decide +kernel
set_option maxRecDepth 20000 in
theorem ggX4_init_X3_init : GoodIn wsX4_init wsX3_init := goodIn_r _ [15, 16, 2, 3, 17, 18, 19] (by decide +kernel) (by decide +kernel)
set_option maxRecDepth 20000 in
theorem gX4_init_X3_init_n11 : GoodIn wsX4_init (wsX3_init) := ggX4_init_X3_init
theorem dX4_init_0 : decode cX4_init 0 = .ok (.aload_n 0, 1) := by decide +kernel
theorem dX4_init_1 : decode cX4_init 1 = .ok (.invokespecial 3, 3) := by decide +kernel
theorem dX4_init_4 : decode cX4_init 4 = .ok (.aload_n 0, 1) := by decide +kernel
theorem dX4_init_5 : decode cX4_init 5 = .ok (.new 9, 3) := by decide +kernel
theorem dX4_init_8 : decode cX4_init 8 = .ok (.dup, 1) := by decide +kernel
theorem dX4_init_9 : decode cX4_init 9 = .ok (.invokespecial 11, 3) := by decide +kernel
theorem dX4_init_12 : decode cX4_init 12 = .ok (.putfield 12, 3) := by decide +kernel
theorem dX4_init_15 : decode cX4_init 15 = .ok (.aload_n 0, 1) := by decide +kernel
theorem dX4_init_16 : decode cX4_init 16 = .ok (.new 9, 3) := by decide +kernel
theorem dX4_init_19 : decode cX4_init 19 = .ok (.dup, 1) := by decide +kernel
theorem dX4_init_20 : decode cX4_init 20 = .ok (.invokespecial 11, 3) := by decide +kernel
theorem dX4_init_23 : decode cX4_init 23 = .ok (.putfield 18, 3) := by decide +kernel
theorem dX4_init_26 : decode cX4_init 26 = .ok (.aload_n 0, 1) := by decide +kernel
theorem dX4_init_27 : decode cX4_init 27 = .ok (.sipush 12288, 3) := by decide +kernel
theorem dX4_init_30 : decode cX4_init 30 = .ok (.newarray .int, 2) := by decide +kernel
theorem dX4_init_32 : decode cX4_init 32 = .ok (.putfield 23, 3) := by decide +kernel
theorem dX4_init_35 : decode cX4_init 35 = .ok (.aload_n 0, 1) := by decide +kernel
theorem dX4_init_36 : decode cX4_init 36 = .ok (.sipush 12288, 3) := by decide +kernel
theorem dX4_init_39 : decode cX4_init 39 = .ok (.newarray .int, 2) := by decide +kernel
theorem dX4_init_41 : decode cX4_init 41 = .ok (.putfield 27, 3) := by decide +kernel
theorem dX4_init_44 : decode cX4_init 44 = .ok (.aload_n 0, 1) := by decide +kernel
theorem dX4_init_45 : decode cX4_init 45 = .ok (.sipush 12288, 3) := by decide +kernel
theorem dX4_init_48 : decode cX4_init 48 = .ok (.newarray .int, 2) := by decide +kernel
theorem dX4_init_50 : decode cX4_init 50 = .ok (.putfield 30, 3) := by decide +kernel
theorem dX4_init_53 : decode cX4_init 53 = .ok (.aload_n 0, 1) := by decide +kernel
theorem dX4_init_54 : decode cX4_init 54 = .ok (.aload_n 1, 1) := by decide +kernel
theorem dX4_init_55 : decode cX4_init 55 = .ok (.putfield 33, 3) := by decide +kernel
theorem dX4_init_58 : decode cX4_init 58 = .ok (.return_, 1) := by decide +kernel
set_option maxRecDepth 20000 in
theorem ggX4_findGoal_X4_begin : GoodIn wsX4_findGoal wsX4_begin := goodIn_r _ [7, 8, 2, 9, 1, 10, 11, 12, 13, 14, 15, 16, 17, 18, 19, 20, 21, 22, 23, 119, 120, 121, 122, 123, 124, 125, 126] (by decide +kernel) (by decide +kernel)
set_option maxRecDepth 20000 in
theorem gX4_findGoal_X4_begin : GoodIn wsX4_findGoal (wsV RX4 37 RX4 yX4_begin wsX4_begin) := goodIn_app (goodIn_of _ (by decide +kernel)) ggX4_findGoal_X4_begin
set_option maxRecDepth 20000 in
theorem ggX4_findGoal_X4_isAtGoal : GoodIn wsX4_findGoal wsX4_isAtGoal := goodIn_r _ [27, 28, 29, 30, 31, 32, 33, 119, 120, 121, 122, 123, 124, 125, 127, 128, 129, 130, 131, 132, 133, 134, 135, 136, 137, 138, 139, 140] (by decide +kernel) (by decide +kernel)
set_option maxRecDepth 20000 in
theorem gX4_findGoal_X4_isAtGoal : GoodIn wsX4_findGoal (wsV RX4 45 RX4 yX4_isAtGoal wsX4_isAtGoal) := goodIn_app (goodIn_of _ (by decide +kernel)) ggX4_findGoal_X4_isAtGoal
set_option maxRecDepth 20000 in
theorem ggX4_findGoal_X4_goOn : GoodIn wsX4_findGoal wsX4_goOn := goodIn_r _ [37, 2, 28, 38, 30, 31, 32, 33, 39, 40, 41, 42, 43, 44, 45, 46, 47, 48, 49, 50, 51, 52, 53, 54, 55, 56, 57, 58, 59, 60, 61, 62, 63, 64, 65, 66, 67, 68, 69, 70, 71, 72, 73, 74, 75, 76, 77, 78, 79, 80, 81, 82, 83, 84, 85, 86, 87, 88, 89, 90, 91, 92, 93, 94, 95, 96, 97, 98, 99, 6, 100, 8, 1, 9, 101, 102, 103, 104, 13, 105, 15, 20, 21, 22, 23, 106, 107, 108, 109, 110, 111, 112, 113, 114, 115, 116, 117, 118, 119, 120, 121, 122, 123, 124, 125, 127, 128, 129, 130, 131, 132, 133, 134, 135, 136, 137, 138, 139, 140, 126] (by decide +kernel) (by decide +kernel)
set_option maxRecDepth 20000 in
theorem gX4_findGoal_X4_goOn : GoodIn wsX4_findGoal (wsV RX4 49 RX4 yX4_goOn wsX4_goOn) := goodIn_app (goodIn_of _ (by decide +kernel)) ggX4_findGoal_X4_goOn
theorem dX4_findGoal_0 : decode cX4_findGoal 0 = .ok (.aload_n 0, 1) := by decide +kernel
theorem dX4_findGoal_1 : decode cX4_findGoal 1 = .ok (.iload_n 1, 1) := by decide +kernel
theorem dX4_findGoal_2 : decode cX4_findGoal 2 = .ok (.invokevirtual 37, 3) := by decide +kernel
theorem dX4_findGoal_5 : decode cX4_findGoal 5 = .ok (.iconst 0, 1) := by decide +kernel
theorem dX4_findGoal_6 : decode cX4_findGoal 6 = .ok (.istore_n 2, 1) := by decide +kernel
theorem dX4_findGoal_7 : decode cX4_findGoal 7 = .ok (.iload_n 2, 1) := by decide +kernel
theorem dX4_findGoal_8 : decode cX4_findGoal 8 = .ok (.aload_n 0, 1) := by decide +kernel
theorem dX4_findGoal_9 : decode cX4_findGoal 9 = .ok (.getfield 41, 3) := by decide +kernel
theorem dX4_findGoal_12 : decode cX4_findGoal 12 = .ok (.if_icmp .ge 36, 3) := by decide +kernel
theorem dX4_findGoal_15 : decode cX4_findGoal 15 = .ok (.iload_n 2, 1) := by decide +kernel
theorem dX4_findGoal_16 : decode cX4_findGoal 16 = .ok (.sipush 12288, 3) := by decide +kernel
theorem dX4_findGoal_19 : decode cX4_findGoal 19 = .ok (.if_icmp .ge 29, 3) := by decide +kernel
theorem dX4_findGoal_22 : decode cX4_findGoal 22 = .ok (.aload_n 0, 1) := by decide +kernel
theorem dX4_findGoal_23 : decode cX4_findGoal 23 = .ok (.aload_n 0, 1) := by decide +kernel
theorem dX4_findGoal_24 : decode cX4_findGoal 24 = .ok (.getfield 23, 3) := by decide +kernel
theorem dX4_findGoal_27 : decode cX4_findGoal 27 = .ok (.iload_n 2, 1) := by decide +kernel
theorem dX4_findGoal_28 : decode cX4_findGoal 28 = .ok (.iaload, 1) := by decide +kernel
theorem dX4_findGoal_29 : decode cX4_findGoal 29 = .ok (.invokevirtual 45, 3) := by decide +kernel
theorem dX4_findGoal_32 : decode cX4_findGoal 32 = .ok (.ifCond .eq 5, 3) := by decide +kernel
theorem dX4_findGoal_35 : decode cX4_findGoal 35 = .ok (.iload_n 2, 1) := by decide +kernel
theorem dX4_findGoal_36 : decode cX4_findGoal 36 = .ok (.ireturn, 1) := by decide +kernel
theorem dX4_findGoal_37 : decode cX4_findGoal 37 = .ok (.aload_n 0, 1) := by decide +kernel
theorem dX4_findGoal_38 : decode cX4_findGoal 38 = .ok (.iload_n 2, 1) := by decide +kernel
theorem dX4_findGoal_39 : decode cX4_findGoal 39 = .ok (.invokevirtual 49, 3) := by decide +kernel
theorem dX4_findGoal_42 : decode cX4_findGoal 42 = .ok (.iinc 2 1, 3) := by decide +kernel
theorem dX4_findGoal_45 : decode cX4_findGoal 45 = .ok (.goto (-38), 3) := by decide +kernel
theorem dX4_findGoal_48 : decode cX4_findGoal 48 = .ok (.bipush (-3), 2) := by decide +kernel
theorem dX4_findGoal_50 : decode cX4_findGoal 50 = .ok (.ireturn, 1) := by decide +kernel
set_option maxRecDepth 20000 in
theorem ggX4_findAll_X4_begin : GoodIn wsX4_findAll wsX4_begin := goodIn_r _ [6, 7, 8, 9, 1, 10, 11, 12, 13, 14, 15, 16, 17, 18, 19, 20, 21, 22, 23, 114, 115, 116, 117, 118, 119, 120, 121] (by decide +kernel) (by decide +kernel)
set_option maxRecDepth 20000 in
theorem gX4_findAll_X4_begin : GoodIn wsX4_findAll (wsV RX4 37 RX4 yX4_begin wsX4_begin) := goodIn_app (goodIn_of _ (by decide +kernel)) ggX4_findAll_X4_begin
set_option maxRecDepth 20000 in
theorem ggX4_findAll_X4_goOn : GoodIn wsX4_findAll wsX4_goOn := goodIn_r _ [27, 8, 28, 29, 30, 31, 32, 33, 34, 35, 36, 37, 38, 39, 40, 41, 42, 43, 44, 45, 46, 47, 48, 49, 50, 51, 52, 53, 54, 55, 56, 57, 58, 59, 60, 61, 62, 63, 64, 65, 66, 67, 68, 69, 70, 71, 72, 73, 74, 75, 76, 77, 78, 79, 80, 81, 82, 83, 84, 85, 86, 87, 88, 89, 90, 91, 92, 93, 94, 5, 95, 7, 1, 9, 96, 97, 98, 99, 13, 100, 15, 20, 21, 22, 23, 101, 102, 103, 104, 105, 106, 107, 108, 109, 110, 111, 112, 113, 114, 115, 116, 117, 118, 119, 120, 122, 123, 124, 125, 126, 127, 128, 129, 130, 131, 132, 133, 134, 135, 121] (by decide +kernel) (by decide +kernel)
set_option maxRecDepth 20000 in
theorem gX4_findAll_X4_goOn : GoodIn wsX4_findAll (wsV RX4 49 RX4 yX4_goOn wsX4_goOn) := goodIn_app (goodIn_of _ (by decide +kernel)) ggX4_findAll_X4_goOn
theorem dX4_findAll_0 : decode cX4_findAll 0 = .ok (.aload_n 0, 1) := by decide +kernel
theorem dX4_findAll_1 : decode cX4_findAll 1 = .ok (.iload_n 1, 1) := by decide +kernel
theorem dX4_findAll_2 : decode cX4_findAll 2 = .ok (.invokevirtual 37, 3) := by decide +kernel
theorem dX4_findAll_5 : decode cX4_findAll 5 = .ok (.iconst 0, 1) := by decide +kernel
theorem dX4_findAll_6 : decode cX4_findAll 6 = .ok (.istore_n 2, 1) := by decide +kernel
theorem dX4_findAll_7 : decode cX4_findAll 7 = .ok (.iload_n 2, 1) := by decide +kernel
theorem dX4_findAll_8 : decode cX4_findAll 8 = .ok (.aload_n 0, 1) := by decide +kernel
theorem dX4_findAll_9 : decode cX4_findAll 9 = .ok (.getfield 41, 3) := by decide +kernel
theorem dX4_findAll_12 : decode cX4_findAll 12 = .ok (.if_icmp .ge 21, 3) := by decide +kernel
theorem dX4_findAll_15 : decode cX4_findAll 15 = .ok (.iload_n 2, 1) := by decide +kernel
theorem dX4_findAll_16 : decode cX4_findAll 16 = .ok (.sipush 12288, 3) := by decide +kernel
theorem dX4_findAll_19 : decode cX4_findAll 19 = .ok (.if_icmp .ge 14, 3) := by decide +kernel
theorem dX4_findAll_22 : decode cX4_findAll 22 = .ok (.aload_n 0, 1) := by decide +kernel
theorem dX4_findAll_23 : decode cX4_findAll 23 = .ok (.iload_n 2, 1) := by decide +kernel
theorem dX4_findAll_24 : decode cX4_findAll 24 = .ok (.invokevirtual 49, 3) := by decide +kernel
theorem dX4_findAll_27 : decode cX4_findAll 27 = .ok (.iinc 2 1, 3) := by decide +kernel
theorem dX4_findAll_30 : decode cX4_findAll 30 = .ok (.goto (-23), 3) := by decide +kernel
theorem dX4_findAll_33 : decode cX4_findAll 33 = .ok (.return_, 1) := by decide +kernel
set_option maxRecDepth 20000 in
theorem ggX4_allLeadToGoal_X3_clear : GoodIn wsX4_allLeadToGoal wsX3_clear := goodIn_r _ [8, 9, 10, 11, 12, 13, 120] (by decide +kernel) (by decide +kernel)
set_option maxRecDepth 20000 in
theorem gX4_allLeadToGoal_X3_clear : GoodIn wsX4_allLeadToGoal (wsV RX4 52 RX3 yX3_clear wsX3_clear) := goodIn_app (goodIn_of _ (by decide +kernel)) ggX4_allLeadToGoal_X3_clear
set_option maxRecDepth 20000 in
theorem ggX4_allLeadToGoal_X3_has : GoodIn wsX4_allLeadToGoal wsX3_has := goodIn_r _ [17, 9, 120] (by decide +kernel) (by decide +kernel)
set_option maxRecDepth 20000 in
theorem gX4_allLeadToGoal_X3_has : GoodIn wsX4_allLeadToGoal (wsV RX4 55 RX3 yX3_has wsX3_has) := goodIn_app (goodIn_of _ (by decide +kernel)) ggX4_allLeadToGoal_X3_has
set_option maxRecDepth 20000 in
theorem ggX4_allLeadToGoal_X4_isAtGoal : GoodIn wsX4_allLeadToGoal wsX4_isAtGoal := goodIn_r _ [22, 23, 24, 25, 26, 27, 28, 113, 114, 115, 116, 117, 118, 119, 121, 122, 123, 124, 125, 126, 127, 128, 129, 130, 131, 132, 133, 134] (by decide +kernel) (by decide +kernel)
set_option maxRecDepth 20000 in
theorem gX4_allLeadToGoal_X4_isAtGoal : GoodIn wsX4_allLeadToGoal (wsV RX4 45 RX4 yX4_isAtGoal wsX4_isAtGoal) := goodIn_app (goodIn_of _ (by decide +kernel)) ggX4_allLeadToGoal_X4_isAtGoal
set_option maxRecDepth 20000 in
theorem ggX4_allLeadToGoal_X4_leadsToSaved : GoodIn wsX4_allLeadToGoal wsX4_leadsToSaved := goodIn_r _ [32, 23, 33, 25, 26, 27, 28, 34, 35, 36, 37, 38, 39, 40, 41, 42, 43, 44, 45, 46, 47, 48, 49, 50, 51, 52, 53, 54, 55, 56, 57, 58, 59, 60, 61, 62, 63, 64, 65, 66, 67, 68, 69, 70, 71, 72, 73, 74, 75, 76, 77, 78, 79, 80, 81, 82, 83, 84, 85, 86, 87, 88, 89, 90, 91, 92, 93, 94, 21, 95, 1, 14, 15, 16, 7, 17, 9, 96, 97, 98, 99, 100, 101, 102, 103, 104, 105, 106, 107, 108, 113, 114, 115, 116, 117, 118, 119, 121, 122, 123, 124, 125, 126, 127, 128, 129, 130, 131, 132, 133, 134, 120] (by decide +kernel) (by decide +kernel)
set_option maxRecDepth 20000 in
theorem gX4_allLeadToGoal_X4_leadsToSaved : GoodIn wsX4_allLeadToGoal (wsV RX4 58 RX4 yX4_leadsToSaved wsX4_leadsToSaved) := goodIn_app (goodIn_of _ (by decide +kernel)) ggX4_allLeadToGoal_X4_leadsToSaved
set_option maxRecDepth 20000 in
theorem ggX4_allLeadToGoal_X3_add : GoodIn wsX4_allLeadToGoal wsX3_add := goodIn_r _ [112, 9, 120] (by decide +kernel) (by decide +kernel)
set_option maxRecDepth 20000 in
theorem gX4_allLeadToGoal_X3_add : GoodIn wsX4_allLeadToGoal (wsV RX4 61 RX3 yX3_add wsX3_add) := goodIn_app (goodIn_of _ (by decide +kernel)) ggX4_allLeadToGoal_X3_add
theorem dX4_allLeadToGoal_0 : decode cX4_allLeadToGoal 0 = .ok (.aload_n 0, 1) := by decide +kernel
theorem dX4_allLeadToGoal_1 : decode cX4_allLeadToGoal 1 = .ok (.getfield 18, 3) := by decide +kernel
theorem dX4_allLeadToGoal_4 : decode cX4_allLeadToGoal 4 = .ok (.invokevirtual 52, 3) := by decide +kernel
theorem dX4_allLeadToGoal_7 : decode cX4_allLeadToGoal 7 = .ok (.aload_n 0, 1) := by decide +kernel
theorem dX4_allLeadToGoal_8 : decode cX4_allLeadToGoal 8 = .ok (.getfield 41, 3) := by decide +kernel
theorem dX4_allLeadToGoal_11 : decode cX4_allLeadToGoal 11 = .ok (.istore_n 1, 1) := by decide +kernel
theorem dX4_allLeadToGoal_12 : decode cX4_allLeadToGoal 12 = .ok (.iconst 1, 1) := by decide +kernel
theorem dX4_allLeadToGoal_13 : decode cX4_allLeadToGoal 13 = .ok (.istore_n 2, 1) := by decide +kernel
theorem dX4_allLeadToGoal_14 : decode cX4_allLeadToGoal 14 = .ok (.iconst 0, 1) := by decide +kernel
theorem dX4_allLeadToGoal_15 : decode cX4_allLeadToGoal 15 = .ok (.istore_n 3, 1) := by decide +kernel
theorem dX4_allLeadToGoal_16 : decode cX4_allLeadToGoal 16 = .ok (.iload_n 2, 1) := by decide +kernel
theorem dX4_allLeadToGoal_17 : decode cX4_allLeadToGoal 17 = .ok (.ifCond .eq 95, 3) := by decide +kernel
theorem dX4_allLeadToGoal_20 : decode cX4_allLeadToGoal 20 = .ok (.iload_n 1, 1) := by decide +kernel
theorem dX4_allLeadToGoal_21 : decode cX4_allLeadToGoal 21 = .ok (.ifCond .le 91, 3) := by decide +kernel
theorem dX4_allLeadToGoal_24 : decode cX4_allLeadToGoal 24 = .ok (.iload_n 3, 1) := by decide +kernel
theorem dX4_allLeadToGoal_25 : decode cX4_allLeadToGoal 25 = .ok (.aload_n 0, 1) := by decide +kernel
theorem dX4_allLeadToGoal_26 : decode cX4_allLeadToGoal 26 = .ok (.getfield 41, 3) := by decide +kernel
theorem dX4_allLeadToGoal_29 : decode cX4_allLeadToGoal 29 = .ok (.if_icmp .gt 83, 3) := by decide +kernel
theorem dX4_allLeadToGoal_32 : decode cX4_allLeadToGoal 32 = .ok (.iconst 0, 1) := by decide +kernel
theorem dX4_allLeadToGoal_33 : decode cX4_allLeadToGoal 33 = .ok (.istore_n 2, 1) := by decide +kernel
theorem dX4_allLeadToGoal_34 : decode cX4_allLeadToGoal 34 = .ok (.aload_n 0, 1) := by decide +kernel
theorem dX4_allLeadToGoal_35 : decode cX4_allLeadToGoal 35 = .ok (.getfield 41, 3) := by decide +kernel
theorem dX4_allLeadToGoal_38 : decode cX4_allLeadToGoal 38 = .ok (.iconst 1, 1) := by decide +kernel
theorem dX4_allLeadToGoal_39 : decode cX4_allLeadToGoal 39 = .ok (.isub, 1) := by decide +kernel
theorem dX4_allLeadToGoal_40 : decode cX4_allLeadToGoal 40 = .ok (.istore 4, 2) := by decide +kernel
theorem dX4_allLeadToGoal_42 : decode cX4_allLeadToGoal 42 = .ok (.iload 4, 2) := by decide +kernel
theorem dX4_allLeadToGoal_44 : decode cX4_allLeadToGoal 44 = .ok (.ifCond .lt 62, 3) := by decide +kernel
theorem dX4_allLeadToGoal_47 : decode cX4_allLeadToGoal 47 = .ok (.aload_n 0, 1) := by decide +kernel
theorem dX4_allLeadToGoal_48 : decode cX4_allLeadToGoal 48 = .ok (.getfield 23, 3) := by decide +kernel
theorem dX4_allLeadToGoal_51 : decode cX4_allLeadToGoal 51 = .ok (.iload 4, 2) := by decide +kernel
theorem dX4_allLeadToGoal_53 : decode cX4_allLeadToGoal 53 = .ok (.iaload, 1) := by decide +kernel
theorem dX4_allLeadToGoal_54 : decode cX4_allLeadToGoal 54 = .ok (.istore 5, 2) := by decide +kernel
theorem dX4_allLeadToGoal_56 : decode cX4_allLeadToGoal 56 = .ok (.aload_n 0, 1) := by decide +kernel
theorem dX4_allLeadToGoal_57 : decode cX4_allLeadToGoal 57 = .ok (.getfield 18, 3) := by decide +kernel
theorem dX4_allLeadToGoal_60 : decode cX4_allLeadToGoal 60 = .ok (.iload 5, 2) := by decide +kernel
theorem dX4_allLeadToGoal_62 : decode cX4_allLeadToGoal 62 = .ok (.invokevirtual 55, 3) := by decide +kernel
theorem dX4_allLeadToGoal_65 : decode cX4_allLeadToGoal 65 = .ok (.ifCond .ne 35, 3) := by decide +kernel
theorem dX4_allLeadToGoal_68 : decode cX4_allLeadToGoal 68 = .ok (.aload_n 0, 1) := by decide +kernel
theorem dX4_allLeadToGoal_69 : decode cX4_allLeadToGoal 69 = .ok (.iload 5, 2) := by decide +kernel
theorem dX4_allLeadToGoal_71 : decode cX4_allLeadToGoal 71 = .ok (.invokevirtual 45, 3) := by decide +kernel
theorem dX4_allLeadToGoal_74 : decode cX4_allLeadToGoal 74 = .ok (.ifCond .ne 12, 3) := by decide +kernel
theorem dX4_allLeadToGoal_77 : decode cX4_allLeadToGoal 77 = .ok (.aload_n 0, 1) := by decide +kernel
theorem dX4_allLeadToGoal_78 : decode cX4_allLeadToGoal 78 = .ok (.iload 5, 2) := by decide +kernel
theorem dX4_allLeadToGoal_80 : decode cX4_allLeadToGoal 80 = .ok (.invokevirtual 58, 3) := by decide +kernel
theorem dX4_allLeadToGoal_83 : decode cX4_allLeadToGoal 83 = .ok (.ifCond .eq 17, 3) := by decide +kernel
theorem dX4_allLeadToGoal_86 : decode cX4_allLeadToGoal 86 = .ok (.aload_n 0, 1) := by decide +kernel
theorem dX4_allLeadToGoal_87 : decode cX4_allLeadToGoal 87 = .ok (.getfield 18, 3) := by decide +kernel
theorem dX4_allLeadToGoal_90 : decode cX4_allLeadToGoal 90 = .ok (.iload 5, 2) := by decide +kernel
theorem dX4_allLeadToGoal_92 : decode cX4_allLeadToGoal 92 = .ok (.invokevirtual 61, 3) := by decide +kernel
theorem dX4_allLeadToGoal_95 : decode cX4_allLeadToGoal 95 = .ok (.iinc 1 (-1), 3) := by decide +kernel
theorem dX4_allLeadToGoal_98 : decode cX4_allLeadToGoal 98 = .ok (.iconst 1, 1) := by decide +kernel
theorem dX4_allLeadToGoal_99 : decode cX4_allLeadToGoal 99 = .ok (.istore_n 2, 1) := by decide +kernel
theorem dX4_allLeadToGoal_100 : decode cX4_allLeadToGoal 100 = .ok (.iinc 4 (-1), 3) := by decide +kernel
theorem dX4_allLeadToGoal_103 : decode cX4_allLeadToGoal 103 = .ok (.goto (-61), 3) := by decide +kernel
theorem dX4_allLeadToGoal_106 : decode cX4_allLeadToGoal 106 = .ok (.iinc 3 1, 3) := by decide +kernel
theorem dX4_allLeadToGoal_109 : decode cX4_allLeadToGoal 109 = .ok (.goto (-93), 3) := by decide +kernel
theorem dX4_allLeadToGoal_112 : decode cX4_allLeadToGoal 112 = .ok (.iload_n 1, 1) := by decide +kernel
theorem dX4_allLeadToGoal_113 : decode cX4_allLeadToGoal 113 = .ok (.ifCond .ne 7, 3) := by decide +kernel
theorem dX4_allLeadToGoal_116 : decode cX4_allLeadToGoal 116 = .ok (.iconst 1, 1) := by decide +kernel
theorem dX4_allLeadToGoal_117 : decode cX4_allLeadToGoal 117 = .ok (.goto 4, 3) := by decide +kernel
theorem dX4_allLeadToGoal_120 : decode cX4_allLeadToGoal 120 = .ok (.iconst 0, 1) := by decide +kernel
theorem dX4_allLeadToGoal_121 : decode cX4_allLeadToGoal 121 = .ok (.ireturn, 1) := by decide +kernel
set_option maxRecDepth 20000 in
theorem ggX4_begin_X3_clear : GoodIn wsX4_begin wsX3_clear := goodIn_r _ [9, 10, 11, 12, 13, 14, 26] (by decide +kernel) (by decide +kernel)
set_option maxRecDepth 20000 in
theorem gX4_begin_X3_clear : GoodIn wsX4_begin (wsV RX4 52 RX3 yX3_clear wsX3_clear) := goodIn_app (goodIn_of _ (by decide +kernel)) ggX4_begin_X3_clear
set_option maxRecDepth 20000 in
theorem ggX4_begin_X3_add : GoodIn wsX4_begin wsX3_add := goodIn_r _ [18, 10, 26] (by decide +kernel) (by decide +kernel)
set_option maxRecDepth 20000 in
theorem gX4_begin_X3_add : GoodIn wsX4_begin (wsV RX4 61 RX3 yX3_add wsX3_add) := goodIn_app (goodIn_of _ (by decide +kernel)) ggX4_begin_X3_add
theorem dX4_begin_0 : decode cX4_begin 0 = .ok (.aload_n 0, 1) := by decide +kernel
theorem dX4_begin_1 : decode cX4_begin 1 = .ok (.getfield 12, 3) := by decide +kernel
theorem dX4_begin_4 : decode cX4_begin 4 = .ok (.invokevirtual 52, 3) := by decide +kernel
theorem dX4_begin_7 : decode cX4_begin 7 = .ok (.aload_n 0, 1) := by decide +kernel
theorem dX4_begin_8 : decode cX4_begin 8 = .ok (.getfield 12, 3) := by decide +kernel
theorem dX4_begin_11 : decode cX4_begin 11 = .ok (.iload_n 1, 1) := by decide +kernel
theorem dX4_begin_12 : decode cX4_begin 12 = .ok (.invokevirtual 61, 3) := by decide +kernel
theorem dX4_begin_15 : decode cX4_begin 15 = .ok (.aload_n 0, 1) := by decide +kernel
theorem dX4_begin_16 : decode cX4_begin 16 = .ok (.getfield 23, 3) := by decide +kernel
theorem dX4_begin_19 : decode cX4_begin 19 = .ok (.iconst 0, 1) := by decide +kernel
theorem dX4_begin_20 : decode cX4_begin 20 = .ok (.iload_n 1, 1) := by decide +kernel
theorem dX4_begin_21 : decode cX4_begin 21 = .ok (.iastore, 1) := by decide +kernel
theorem dX4_begin_22 : decode cX4_begin 22 = .ok (.aload_n 0, 1) := by decide +kernel
theorem dX4_begin_23 : decode cX4_begin 23 = .ok (.getfield 27, 3) := by decide +kernel
theorem dX4_begin_26 : decode cX4_begin 26 = .ok (.iconst 0, 1) := by decide +kernel
theorem dX4_begin_27 : decode cX4_begin 27 = .ok (.iconst 0, 1) := by decide +kernel
theorem dX4_begin_28 : decode cX4_begin 28 = .ok (.iastore, 1) := by decide +kernel
theorem dX4_begin_29 : decode cX4_begin 29 = .ok (.aload_n 0, 1) := by decide +kernel
theorem dX4_begin_30 : decode cX4_begin 30 = .ok (.iconst 1, 1) := by decide +kernel
theorem dX4_begin_31 : decode cX4_begin 31 = .ok (.putfield 41, 3) := by decide +kernel
theorem dX4_begin_34 : decode cX4_begin 34 = .ok (.return_, 1) := by decide +kernel
set_option maxRecDepth 20000 in
theorem ggX4_goOn_X5_roomOf : GoodIn wsX4_goOn wsX5_roomOf := goodIn_r _ [7] (by decide +kernel) (by decide +kernel)
set_option maxRecDepth 20000 in
theorem gX4_goOn_X5_roomOf : GoodIn wsX4_goOn (va_wsS RX4 69 yX5_roomOf wsX5_roomOf) := goodIn_app (goodIn_of _ (by decide +kernel)) ggX4_goOn_X5_roomOf
set_option maxRecDepth 20000 in
theorem ggX4_goOn_X0_afterWalking : GoodIn wsX4_goOn wsX0_afterWalking := goodIn_r _ [12, 13, 14, 15, 16, 5, 6, 7, 17, 18, 19, 11, 20, 21, 22, 23, 24, 25, 26, 27, 28, 29, 30, 31, 32, 33, 34, 35, 36, 37, 38, 39, 40, 41, 42, 43, 44, 45, 46, 47, 48, 49, 50, 51, 52, 53, 54, 55, 56, 57, 58, 59, 60, 61, 62, 63, 64, 65, 105, 106, 107, 108, 109, 110, 111, 112, 113, 114, 115, 116, 117, 118] (by decide +kernel) (by decide +kernel)
set_option maxRecDepth 20000 in
theorem gX4_goOn_X0_afterWalking : GoodIn wsX4_goOn (wsV RX4 73 RX0 yX0_afterWalking wsX0_afterWalking) := goodIn_app (goodIn_of _ (by decide +kernel)) ggX4_goOn_X0_afterWalking
set_option maxRecDepth 20000 in
theorem ggX4_goOn_X4_reach : GoodIn wsX4_goOn wsX4_reach := goodIn_r _ [70, 71, 72, 1, 73, 74, 75, 76, 77, 78, 79, 80, 81, 82, 83, 84, 98, 99, 100, 101, 102, 103, 104, 119] (by decide +kernel) (by decide +kernel)
set_option maxRecDepth 20000 in
theorem gX4_goOn_X4_reach : GoodIn wsX4_goOn (wsV RX4 77 RX4 yX4_reach wsX4_reach) := goodIn_app (goodIn_of _ (by decide +kernel)) ggX4_goOn_X4_reach
set_option maxRecDepth 20000 in
theorem ggX4_goOn_X0_afterTaking : GoodIn wsX4_goOn wsX0_afterTaking := goodIn_r _ [88, 89, 16, 5, 6, 7, 105, 106, 107, 108, 109, 110, 111, 112, 113, 114, 115, 116, 117, 118] (by decide +kernel) (by decide +kernel)
set_option maxRecDepth 20000 in
theorem gX4_goOn_X0_afterTaking : GoodIn wsX4_goOn (wsV RX4 81 RX0 yX0_afterTaking wsX0_afterTaking) := goodIn_app (goodIn_of _ (by decide +kernel)) ggX4_goOn_X0_afterTaking
set_option maxRecDepth 20000 in
theorem ggX4_goOn_X0_afterToggling : GoodIn wsX4_goOn wsX0_afterToggling := goodIn_r _ [93, 94, 16, 5, 6, 7, 95, 96, 97, 105, 106, 107, 108, 109, 110, 111, 112, 113, 114, 115, 116, 117, 118] (by decide +kernel) (by decide +kernel)
set_option maxRecDepth 20000 in
theorem gX4_goOn_X0_afterToggling : GoodIn wsX4_goOn (wsV RX4 84 RX0 yX0_afterToggling wsX0_afterToggling) := goodIn_app (goodIn_of _ (by decide +kernel)) ggX4_goOn_X0_afterToggling
theorem dX4_goOn_0 : decode cX4_goOn 0 = .ok (.aload_n 0, 1) := by decide +kernel
theorem dX4_goOn_1 : decode cX4_goOn 1 = .ok (.getfield 23, 3) := by decide +kernel
theorem dX4_goOn_4 : decode cX4_goOn 4 = .ok (.iload_n 1, 1) := by decide +kernel
theorem dX4_goOn_5 : decode cX4_goOn 5 = .ok (.iaload, 1) := by decide +kernel
theorem dX4_goOn_6 : decode cX4_goOn 6 = .ok (.istore_n 2, 1) := by decide +kernel
theorem dX4_goOn_7 : decode cX4_goOn 7 = .ok (.aload_n 0, 1) := by decide +kernel
theorem dX4_goOn_8 : decode cX4_goOn 8 = .ok (.getfield 33, 3) := by decide +kernel
theorem dX4_goOn_11 : decode cX4_goOn 11 = .ok (.getfield 64, 3) := by decide +kernel
theorem dX4_goOn_14 : decode cX4_goOn 14 = .ok (.iload_n 2, 1) := by decide +kernel
theorem dX4_goOn_15 : decode cX4_goOn 15 = .ok (.invokestatic 69, 3) := by decide +kernel
theorem dX4_goOn_18 : decode cX4_goOn 18 = .ok (.iaload, 1) := by decide +kernel
theorem dX4_goOn_19 : decode cX4_goOn 19 = .ok (.istore_n 3, 1) := by decide +kernel
theorem dX4_goOn_20 : decode cX4_goOn 20 = .ok (.iconst 0, 1) := by decide +kernel
theorem dX4_goOn_21 : decode cX4_goOn 21 = .ok (.istore 4, 2) := by decide +kernel
theorem dX4_goOn_23 : decode cX4_goOn 23 = .ok (.iload 4, 2) := by decide +kernel
theorem dX4_goOn_25 : decode cX4_goOn 25 = .ok (.iload_n 3, 1) := by decide +kernel
theorem dX4_goOn_26 : decode cX4_goOn 26 = .ok (.if_icmp .ge 26, 3) := by decide +kernel
theorem dX4_goOn_29 : decode cX4_goOn 29 = .ok (.aload_n 0, 1) := by decide +kernel
theorem dX4_goOn_30 : decode cX4_goOn 30 = .ok (.aload_n 0, 1) := by decide +kernel
theorem dX4_goOn_31 : decode cX4_goOn 31 = .ok (.getfield 33, 3) := by decide +kernel
theorem dX4_goOn_34 : decode cX4_goOn 34 = .ok (.iload_n 2, 1) := by decide +kernel
theorem dX4_goOn_35 : decode cX4_goOn 35 = .ok (.iload 4, 2) := by decide +kernel
theorem dX4_goOn_37 : decode cX4_goOn 37 = .ok (.invokevirtual 73, 3) := by decide +kernel
theorem dX4_goOn_40 : decode cX4_goOn 40 = .ok (.iload_n 1, 1) := by decide +kernel
theorem dX4_goOn_41 : decode cX4_goOn 41 = .ok (.iload 4, 2) := by decide +kernel
theorem dX4_goOn_43 : decode cX4_goOn 43 = .ok (.invokevirtual 77, 3) := by decide +kernel
theorem dX4_goOn_46 : decode cX4_goOn 46 = .ok (.iinc 4 1, 3) := by decide +kernel
theorem dX4_goOn_49 : decode cX4_goOn 49 = .ok (.goto (-26), 3) := by decide +kernel
theorem dX4_goOn_52 : decode cX4_goOn 52 = .ok (.aload_n 0, 1) := by decide +kernel
theorem dX4_goOn_53 : decode cX4_goOn 53 = .ok (.aload_n 0, 1) := by decide +kernel
theorem dX4_goOn_54 : decode cX4_goOn 54 = .ok (.getfield 33, 3) := by decide +kernel
theorem dX4_goOn_57 : decode cX4_goOn 57 = .ok (.iload_n 2, 1) := by decide +kernel
theorem dX4_goOn_58 : decode cX4_goOn 58 = .ok (.invokevirtual 81, 3) := by decide +kernel
theorem dX4_goOn_61 : decode cX4_goOn 61 = .ok (.iload_n 1, 1) := by decide +kernel
theorem dX4_goOn_62 : decode cX4_goOn 62 = .ok (.bipush 100, 2) := by decide +kernel
theorem dX4_goOn_64 : decode cX4_goOn 64 = .ok (.invokevirtual 77, 3) := by decide +kernel
theorem dX4_goOn_67 : decode cX4_goOn 67 = .ok (.aload_n 0, 1) := by decide +kernel
theorem dX4_goOn_68 : decode cX4_goOn 68 = .ok (.aload_n 0, 1) := by decide +kernel
theorem dX4_goOn_69 : decode cX4_goOn 69 = .ok (.getfield 33, 3) := by decide +kernel
theorem dX4_goOn_72 : decode cX4_goOn 72 = .ok (.iload_n 2, 1) := by decide +kernel
theorem dX4_goOn_73 : decode cX4_goOn 73 = .ok (.invokevirtual 84, 3) := by decide +kernel
theorem dX4_goOn_76 : decode cX4_goOn 76 = .ok (.iload_n 1, 1) := by decide +kernel
theorem dX4_goOn_77 : decode cX4_goOn 77 = .ok (.sipush 200, 3) := by decide +kernel
theorem dX4_goOn_80 : decode cX4_goOn 80 = .ok (.invokevirtual 77, 3) := by decide +kernel
theorem dX4_goOn_83 : decode cX4_goOn 83 = .ok (.return_, 1) := by decide +kernel
set_option maxRecDepth 20000 in
theorem ggX4_reach_X3_has : GoodIn wsX4_reach wsX3_has := goodIn_r _ [10, 11, 23] (by decide +kernel) (by decide +kernel)
set_option maxRecDepth 20000 in
theorem gX4_reach_X3_has : GoodIn wsX4_reach (wsV RX4 55 RX3 yX3_has wsX3_has) := goodIn_app (goodIn_of _ (by decide +kernel)) ggX4_reach_X3_has
set_option maxRecDepth 20000 in
theorem ggX4_reach_X3_add : GoodIn wsX4_reach wsX3_add := goodIn_r _ [15, 11, 23] (by decide +kernel) (by decide +kernel)
set_option maxRecDepth 20000 in
theorem gX4_reach_X3_add : GoodIn wsX4_reach (wsV RX4 61 RX3 yX3_add wsX3_add) := goodIn_app (goodIn_of _ (by decide +kernel)) ggX4_reach_X3_add
theorem dX4_reach_0 : decode cX4_reach 0 = .ok (.iload_n 1, 1) := by decide +kernel
theorem dX4_reach_1 : decode cX4_reach 1 = .ok (.ifCond .lt 24, 3) := by decide +kernel
theorem dX4_reach_4 : decode cX4_reach 4 = .ok (.aload_n 0, 1) := by decide +kernel
theorem dX4_reach_5 : decode cX4_reach 5 = .ok (.getfield 12, 3) := by decide +kernel
theorem dX4_reach_8 : decode cX4_reach 8 = .ok (.iload_n 1, 1) := by decide +kernel
theorem dX4_reach_9 : decode cX4_reach 9 = .ok (.invokevirtual 55, 3) := by decide +kernel
theorem dX4_reach_12 : decode cX4_reach 12 = .ok (.ifCond .ne 13, 3) := by decide +kernel
theorem dX4_reach_15 : decode cX4_reach 15 = .ok (.aload_n 0, 1) := by decide +kernel
theorem dX4_reach_16 : decode cX4_reach 16 = .ok (.getfield 41, 3) := by decide +kernel
theorem dX4_reach_19 : decode cX4_reach 19 = .ok (.sipush 12288, 3) := by decide +kernel
theorem dX4_reach_22 : decode cX4_reach 22 = .ok (.if_icmp .lt 4, 3) := by decide +kernel
theorem dX4_reach_25 : decode cX4_reach 25 = .ok (.return_, 1) := by decide +kernel
theorem dX4_reach_26 : decode cX4_reach 26 = .ok (.aload_n 0, 1) := by decide +kernel
theorem dX4_reach_27 : decode cX4_reach 27 = .ok (.getfield 12, 3) := by decide +kernel
theorem dX4_reach_30 : decode cX4_reach 30 = .ok (.iload_n 1, 1) := by decide +kernel
theorem dX4_reach_31 : decode cX4_reach 31 = .ok (.invokevirtual 61, 3) := by decide +kernel
theorem dX4_reach_34 : decode cX4_reach 34 = .ok (.aload_n 0, 1) := by decide +kernel
theorem dX4_reach_35 : decode cX4_reach 35 = .ok (.getfield 23, 3) := by decide +kernel
theorem dX4_reach_38 : decode cX4_reach 38 = .ok (.aload_n 0, 1) := by decide +kernel
theorem dX4_reach_39 : decode cX4_reach 39 = .ok (.getfield 41, 3) := by decide +kernel
theorem dX4_reach_42 : decode cX4_reach 42 = .ok (.iload_n 1, 1) := by decide +kernel
theorem dX4_reach_43 : decode cX4_reach 43 = .ok (.iastore, 1) := by decide +kernel
theorem dX4_reach_44 : decode cX4_reach 44 = .ok (.aload_n 0, 1) := by decide +kernel
theorem dX4_reach_45 : decode cX4_reach 45 = .ok (.getfield 27, 3) := by decide +kernel
theorem dX4_reach_48 : decode cX4_reach 48 = .ok (.aload_n 0, 1) := by decide +kernel
theorem dX4_reach_49 : decode cX4_reach 49 = .ok (.getfield 41, 3) := by decide +kernel
theorem dX4_reach_52 : decode cX4_reach 52 = .ok (.aload_n 0, 1) := by decide +kernel
theorem dX4_reach_53 : decode cX4_reach 53 = .ok (.getfield 27, 3) := by decide +kernel
theorem dX4_reach_56 : decode cX4_reach 56 = .ok (.iload_n 2, 1) := by decide +kernel
theorem dX4_reach_57 : decode cX4_reach 57 = .ok (.iaload, 1) := by decide +kernel
theorem dX4_reach_58 : decode cX4_reach 58 = .ok (.iconst 1, 1) := by decide +kernel
theorem dX4_reach_59 : decode cX4_reach 59 = .ok (.iadd, 1) := by decide +kernel
theorem dX4_reach_60 : decode cX4_reach 60 = .ok (.iastore, 1) := by decide +kernel
theorem dX4_reach_61 : decode cX4_reach 61 = .ok (.aload_n 0, 1) := by decide +kernel
theorem dX4_reach_62 : decode cX4_reach 62 = .ok (.getfield 30, 3) := by decide +kernel
theorem dX4_reach_65 : decode cX4_reach 65 = .ok (.aload_n 0, 1) := by decide +kernel
theorem dX4_reach_66 : decode cX4_reach 66 = .ok (.getfield 41, 3) := by decide +kernel
theorem dX4_reach_69 : decode cX4_reach 69 = .ok (.iload_n 2, 1) := by decide +kernel
theorem dX4_reach_70 : decode cX4_reach 70 = .ok (.ifCond .ne 7, 3) := by decide +kernel
theorem dX4_reach_73 : decode cX4_reach 73 = .ok (.iload_n 3, 1) := by decide +kernel
theorem dX4_reach_74 : decode cX4_reach 74 = .ok (.goto 9, 3) := by decide +kernel
theorem dX4_reach_77 : decode cX4_reach 77 = .ok (.aload_n 0, 1) := by decide +kernel
theorem dX4_reach_78 : decode cX4_reach 78 = .ok (.getfield 30, 3) := by decide +kernel
theorem dX4_reach_81 : decode cX4_reach 81 = .ok (.iload_n 2, 1) := by decide +kernel
theorem dX4_reach_82 : decode cX4_reach 82 = .ok (.iaload, 1) := by decide +kernel
theorem dX4_reach_83 : decode cX4_reach 83 = .ok (.iastore, 1) := by decide +kernel
theorem dX4_reach_84 : decode cX4_reach 84 = .ok (.aload_n 0, 1) := by decide +kernel
theorem dX4_reach_85 : decode cX4_reach 85 = .ok (.dup, 1) := by decide +kernel
theorem dX4_reach_86 : decode cX4_reach 86 = .ok (.getfield 41, 3) := by decide +kernel
theorem dX4_reach_89 : decode cX4_reach 89 = .ok (.iconst 1, 1) := by decide +kernel
theorem dX4_reach_90 : decode cX4_reach 90 = .ok (.iadd, 1) := by decide +kernel
theorem dX4_reach_91 : decode cX4_reach 91 = .ok (.putfield 41, 3) := by decide +kernel
theorem dX4_reach_94 : decode cX4_reach 94 = .ok (.return_, 1) := by decide +kernel
set_option maxRecDepth 20000 in
theorem ggX4_isAtGoal_X5_roomOf : GoodIn wsX4_isAtGoal wsX5_roomOf := goodIn_r _ [6] (by decide +kernel) (by decide +kernel)
set_option maxRecDepth 20000 in
theorem gX4_isAtGoal_X5_roomOf : GoodIn wsX4_isAtGoal (va_wsS RX4 69 yX5_roomOf wsX5_roomOf) := goodIn_app (goodIn_of _ (by decide +kernel)) ggX4_isAtGoal_X5_roomOf
theorem dX4_isAtGoal_0 : decode cX4_isAtGoal 0 = .ok (.iload_n 1, 1) := by decide +kernel
theorem dX4_isAtGoal_1 : decode cX4_isAtGoal 1 = .ok (.invokestatic 69, 3) := by decide +kernel
theorem dX4_isAtGoal_4 : decode cX4_isAtGoal 4 = .ok (.aload_n 0, 1) := by decide +kernel
theorem dX4_isAtGoal_5 : decode cX4_isAtGoal 5 = .ok (.getfield 33, 3) := by decide +kernel
theorem dX4_isAtGoal_8 : decode cX4_isAtGoal 8 = .ok (.getfield 87, 3) := by decide +kernel
theorem dX4_isAtGoal_11 : decode cX4_isAtGoal 11 = .ok (.if_icmp .ne 7, 3) := by decide +kernel
theorem dX4_isAtGoal_14 : decode cX4_isAtGoal 14 = .ok (.iconst 1, 1) := by decide +kernel
theorem dX4_isAtGoal_15 : decode cX4_isAtGoal 15 = .ok (.goto 4, 3) := by decide +kernel
theorem dX4_isAtGoal_18 : decode cX4_isAtGoal 18 = .ok (.iconst 0, 1) := by decide +kernel
theorem dX4_isAtGoal_19 : decode cX4_isAtGoal 19 = .ok (.ireturn, 1) := by decide +kernel
set_option maxRecDepth 20000 in
theorem ggX4_leadsToSaved_X5_roomOf : GoodIn wsX4_leadsToSaved wsX5_roomOf := goodIn_r _ [6] (by decide +kernel) (by decide +kernel)
set_option maxRecDepth 20000 in
theorem gX4_leadsToSaved_X5_roomOf : GoodIn wsX4_leadsToSaved (va_wsS RX4 69 yX5_roomOf wsX5_roomOf) := goodIn_app (goodIn_of _ (by decide +kernel)) ggX4_leadsToSaved_X5_roomOf
set_option maxRecDepth 20000 in
theorem ggX4_leadsToSaved_X0_afterWalking : GoodIn wsX4_leadsToSaved wsX0_afterWalking := goodIn_r _ [11, 12, 13, 14, 15, 4, 5, 6, 16, 17, 18, 10, 19, 20, 21, 22, 23, 24, 25, 26, 27, 28, 29, 30, 31, 32, 33, 34, 35, 36, 37, 38, 39, 40, 41, 42, 43, 44, 45, 46, 47, 48, 49, 50, 51, 52, 53, 54, 55, 56, 57, 58, 59, 60, 61, 62, 63, 64, 97, 98, 99, 100, 101, 102, 103, 104, 105, 106, 107, 108, 109, 110] (by decide +kernel) (by decide +kernel)
set_option maxRecDepth 20000 in
theorem gX4_leadsToSaved_X0_afterWalking : GoodIn wsX4_leadsToSaved (wsV RX4 73 RX0 yX0_afterWalking wsX0_afterWalking) := goodIn_app (goodIn_of _ (by decide +kernel)) ggX4_leadsToSaved_X0_afterWalking
set_option maxRecDepth 20000 in
theorem ggX4_leadsToSaved_X4_isSaved : GoodIn wsX4_leadsToSaved wsX4_isSaved := goodIn_r _ [69, 70, 71, 72, 73, 74, 75, 76, 90, 91, 92, 93, 94, 95, 96, 111] (by decide +kernel) (by decide +kernel)
set_option maxRecDepth 20000 in
theorem gX4_leadsToSaved_X4_isSaved : GoodIn wsX4_leadsToSaved (wsV RX4 90 RX4 yX4_isSaved wsX4_isSaved) := goodIn_app (goodIn_of _ (by decide +kernel)) ggX4_leadsToSaved_X4_isSaved
set_option maxRecDepth 20000 in
theorem ggX4_leadsToSaved_X0_afterTaking : GoodIn wsX4_leadsToSaved wsX0_afterTaking := goodIn_r _ [80, 81, 15, 4, 5, 6, 97, 98, 99, 100, 101, 102, 103, 104, 105, 106, 107, 108, 109, 110] (by decide +kernel) (by decide +kernel)
set_option maxRecDepth 20000 in
theorem gX4_leadsToSaved_X0_afterTaking : GoodIn wsX4_leadsToSaved (wsV RX4 81 RX0 yX0_afterTaking wsX0_afterTaking) := goodIn_app (goodIn_of _ (by decide +kernel)) ggX4_leadsToSaved_X0_afterTaking
set_option maxRecDepth 20000 in
theorem ggX4_leadsToSaved_X0_afterToggling : GoodIn wsX4_leadsToSaved wsX0_afterToggling := goodIn_r _ [85, 86, 15, 4, 5, 6, 87, 88, 89, 97, 98, 99, 100, 101, 102, 103, 104, 105, 106, 107, 108, 109, 110] (by decide +kernel) (by decide +kernel)
set_option maxRecDepth 20000 in
theorem gX4_leadsToSaved_X0_afterToggling : GoodIn wsX4_leadsToSaved (wsV RX4 84 RX0 yX0_afterToggling wsX0_afterToggling) := goodIn_app (goodIn_of _ (by decide +kernel)) ggX4_leadsToSaved_X0_afterToggling
theorem dX4_leadsToSaved_0 : decode cX4_leadsToSaved 0 = .ok (.aload_n 0, 1) := by decide +kernel
theorem dX4_leadsToSaved_1 : decode cX4_leadsToSaved 1 = .ok (.getfield 33, 3) := by decide +kernel
theorem dX4_leadsToSaved_4 : decode cX4_leadsToSaved 4 = .ok (.getfield 64, 3) := by decide +kernel
theorem dX4_leadsToSaved_7 : decode cX4_leadsToSaved 7 = .ok (.iload_n 1, 1) := by decide +kernel
theorem dX4_leadsToSaved_8 : decode cX4_leadsToSaved 8 = .ok (.invokestatic 69, 3) := by decide +kernel
theorem dX4_leadsToSaved_11 : decode cX4_leadsToSaved 11 = .ok (.iaload, 1) := by decide +kernel
theorem dX4_leadsToSaved_12 : decode cX4_leadsToSaved 12 = .ok (.istore_n 2, 1) := by decide +kernel
theorem dX4_leadsToSaved_13 : decode cX4_leadsToSaved 13 = .ok (.iconst 0, 1) := by decide +kernel
theorem dX4_leadsToSaved_14 : decode cX4_leadsToSaved 14 = .ok (.istore_n 3, 1) := by decide +kernel
theorem dX4_leadsToSaved_15 : decode cX4_leadsToSaved 15 = .ok (.iload_n 3, 1) := by decide +kernel
theorem dX4_leadsToSaved_16 : decode cX4_leadsToSaved 16 = .ok (.iload_n 2, 1) := by decide +kernel
theorem dX4_leadsToSaved_17 : decode cX4_leadsToSaved 17 = .ok (.if_icmp .ge 27, 3) := by decide +kernel
theorem dX4_leadsToSaved_20 : decode cX4_leadsToSaved 20 = .ok (.aload_n 0, 1) := by decide +kernel
theorem dX4_leadsToSaved_21 : decode cX4_leadsToSaved 21 = .ok (.aload_n 0, 1) := by decide +kernel
theorem dX4_leadsToSaved_22 : decode cX4_leadsToSaved 22 = .ok (.getfield 33, 3) := by decide +kernel
theorem dX4_leadsToSaved_25 : decode cX4_leadsToSaved 25 = .ok (.iload_n 1, 1) := by decide +kernel
theorem dX4_leadsToSaved_26 : decode cX4_leadsToSaved 26 = .ok (.iload_n 3, 1) := by decide +kernel
theorem dX4_leadsToSaved_27 : decode cX4_leadsToSaved 27 = .ok (.invokevirtual 73, 3) := by decide +kernel
theorem dX4_leadsToSaved_30 : decode cX4_leadsToSaved 30 = .ok (.invokevirtual 90, 3) := by decide +kernel
theorem dX4_leadsToSaved_33 : decode cX4_leadsToSaved 33 = .ok (.ifCond .eq 5, 3) := by decide +kernel
theorem dX4_leadsToSaved_36 : decode cX4_leadsToSaved 36 = .ok (.iconst 1, 1) := by decide +kernel
theorem dX4_leadsToSaved_37 : decode cX4_leadsToSaved 37 = .ok (.ireturn, 1) := by decide +kernel
theorem dX4_leadsToSaved_38 : decode cX4_leadsToSaved 38 = .ok (.iinc 3 1, 3) := by decide +kernel
theorem dX4_leadsToSaved_41 : decode cX4_leadsToSaved 41 = .ok (.goto (-26), 3) := by decide +kernel
theorem dX4_leadsToSaved_44 : decode cX4_leadsToSaved 44 = .ok (.aload_n 0, 1) := by decide +kernel
theorem dX4_leadsToSaved_45 : decode cX4_leadsToSaved 45 = .ok (.aload_n 0, 1) := by decide +kernel
theorem dX4_leadsToSaved_46 : decode cX4_leadsToSaved 46 = .ok (.getfield 33, 3) := by decide +kernel
theorem dX4_leadsToSaved_49 : decode cX4_leadsToSaved 49 = .ok (.iload_n 1, 1) := by decide +kernel
theorem dX4_leadsToSaved_50 : decode cX4_leadsToSaved 50 = .ok (.invokevirtual 81, 3) := by decide +kernel
theorem dX4_leadsToSaved_53 : decode cX4_leadsToSaved 53 = .ok (.invokevirtual 90, 3) := by decide +kernel
theorem dX4_leadsToSaved_56 : decode cX4_leadsToSaved 56 = .ok (.ifCond .ne 18, 3) := by decide +kernel
theorem dX4_leadsToSaved_59 : decode cX4_leadsToSaved 59 = .ok (.aload_n 0, 1) := by decide +kernel
theorem dX4_leadsToSaved_60 : decode cX4_leadsToSaved 60 = .ok (.aload_n 0, 1) := by decide +kernel
theorem dX4_leadsToSaved_61 : decode cX4_leadsToSaved 61 = .ok (.getfield 33, 3) := by decide +kernel
theorem dX4_leadsToSaved_64 : decode cX4_leadsToSaved 64 = .ok (.iload_n 1, 1) := by decide +kernel
theorem dX4_leadsToSaved_65 : decode cX4_leadsToSaved 65 = .ok (.invokevirtual 84, 3) := by decide +kernel
theorem dX4_leadsToSaved_68 : decode cX4_leadsToSaved 68 = .ok (.invokevirtual 90, 3) := by decide +kernel
theorem dX4_leadsToSaved_71 : decode cX4_leadsToSaved 71 = .ok (.ifCond .eq 7, 3) := by decide +kernel
theorem dX4_leadsToSaved_74 : decode cX4_leadsToSaved 74 = .ok (.iconst 1, 1) := by decide +kernel
theorem dX4_leadsToSaved_75 : decode cX4_leadsToSaved 75 = .ok (.goto 4, 3) := by decide +kernel
theorem dX4_leadsToSaved_78 : decode cX4_leadsToSaved 78 = .ok (.iconst 0, 1) := by decide +kernel
theorem dX4_leadsToSaved_79 : decode cX4_leadsToSaved 79 = .ok (.ireturn, 1) := by decide +kernel
set_option maxRecDepth 20000 in
theorem ggX4_isSaved_X3_has : GoodIn wsX4_isSaved wsX3_has := goodIn_r _ [6, 7, 15] (by decide +kernel) (by decide +kernel)
set_option maxRecDepth 20000 in
theorem gX4_isSaved_X3_has : GoodIn wsX4_isSaved (wsV RX4 55 RX3 yX3_has wsX3_has) := goodIn_app (goodIn_of _ (by decide +kernel)) ggX4_isSaved_X3_has
theorem dX4_isSaved_0 : decode cX4_isSaved 0 = .ok (.iload_n 1, 1) := by decide +kernel
theorem dX4_isSaved_1 : decode cX4_isSaved 1 = .ok (.ifCond .lt 18, 3) := by decide +kernel
theorem dX4_isSaved_4 : decode cX4_isSaved 4 = .ok (.aload_n 0, 1) := by decide +kernel
theorem dX4_isSaved_5 : decode cX4_isSaved 5 = .ok (.getfield 18, 3) := by decide +kernel
theorem dX4_isSaved_8 : decode cX4_isSaved 8 = .ok (.iload_n 1, 1) := by decide +kernel
theorem dX4_isSaved_9 : decode cX4_isSaved 9 = .ok (.invokevirtual 55, 3) := by decide +kernel
theorem dX4_isSaved_12 : decode cX4_isSaved 12 = .ok (.ifCond .eq 7, 3) := by decide +kernel
theorem dX4_isSaved_15 : decode cX4_isSaved 15 = .ok (.iconst 1, 1) := by decide +kernel
theorem dX4_isSaved_16 : decode cX4_isSaved 16 = .ok (.goto 4, 3) := by decide +kernel
theorem dX4_isSaved_19 : decode cX4_isSaved 19 = .ok (.iconst 0, 1) := by decide +kernel
theorem dX4_isSaved_20 : decode cX4_isSaved 20 = .ok (.ireturn, 1) := by decide +kernel
theorem dX5_roomOf_0 : decode cX5_roomOf 0 = .ok (.iload_n 0, 1) := by decide +kernel
theorem dX5_roomOf_1 : decode cX5_roomOf 1 = .ok (.bipush 10, 2) := by decide +kernel
theorem dX5_roomOf_3 : decode cX5_roomOf 3 = .ok (.ishr, 1) := by decide +kernel
theorem dX5_roomOf_4 : decode cX5_roomOf 4 = .ok (.ireturn, 1) := by decide +kernel
theorem dX5_keysOf_0 : decode cX5_keysOf 0 = .ok (.iload_n 0, 1) := by decide +kernel
theorem dX5_keysOf_1 : decode cX5_keysOf 1 = .ok (.bipush 7, 2) := by decide +kernel
theorem dX5_keysOf_3 : decode cX5_keysOf 3 = .ok (.iand, 1) := by decide +kernel
theorem dX5_keysOf_4 : decode cX5_keysOf 4 = .ok (.ireturn, 1) := by decide +kernel
theorem dX5_positionOf_0 : decode cX5_positionOf 0 = .ok (.iload_n 0, 1) := by decide +kernel
theorem dX5_positionOf_1 : decode cX5_positionOf 1 = .ok (.sipush 512, 3) := by decide +kernel
theorem dX5_positionOf_4 : decode cX5_positionOf 4 = .ok (.iand, 1) := by decide +kernel
theorem dX5_positionOf_5 : decode cX5_positionOf 5 = .ok (.ifCond .ne 7, 3) := by decide +kernel
theorem dX5_positionOf_8 : decode cX5_positionOf 8 = .ok (.iconst 0, 1) := by decide +kernel
theorem dX5_positionOf_9 : decode cX5_positionOf 9 = .ok (.goto 4, 3) := by decide +kernel
theorem dX5_positionOf_12 : decode cX5_positionOf 12 = .ok (.iconst 1, 1) := by decide +kernel
theorem dX5_positionOf_13 : decode cX5_positionOf 13 = .ok (.ireturn, 1) := by decide +kernel
set_option maxRecDepth 20000 in
theorem ggX5_smallKeysLeft_J6_bitCount_0f7a4 : GoodIn wsX5_smallKeysLeft wsJ6_bitCount_0f7a4 := goodIn_r _ [4, 5, 6, 7] (by decide +kernel) (by decide +kernel)
set_option maxRecDepth 20000 in
theorem gX5_smallKeysLeft_J6_bitCount_0f7a4 : GoodIn wsX5_smallKeysLeft (va_wsS RX5 11 yJ6_bitCount_0f7a4 wsJ6_bitCount_0f7a4) := goodIn_app (goodIn_of _ (by decide +kernel)) ggX5_smallKeysLeft_J6_bitCount_0f7a4
theorem dX5_smallKeysLeft_0 : decode cX5_smallKeysLeft 0 = .ok (.iload_n 0, 1) := by decide +kernel
theorem dX5_smallKeysLeft_1 : decode cX5_smallKeysLeft 1 = .ok (.bipush 56, 2) := by decide +kernel
theorem dX5_smallKeysLeft_3 : decode cX5_smallKeysLeft 3 = .ok (.iand, 1) := by decide +kernel
theorem dX5_smallKeysLeft_4 : decode cX5_smallKeysLeft 4 = .ok (.invokestatic 11, 3) := by decide +kernel
theorem dX5_smallKeysLeft_7 : decode cX5_smallKeysLeft 7 = .ok (.iload_n 0, 1) := by decide +kernel
theorem dX5_smallKeysLeft_8 : decode cX5_smallKeysLeft 8 = .ok (.sipush 448, 3) := by decide +kernel
theorem dX5_smallKeysLeft_11 : decode cX5_smallKeysLeft 11 = .ok (.iand, 1) := by decide +kernel
theorem dX5_smallKeysLeft_12 : decode cX5_smallKeysLeft 12 = .ok (.invokestatic 11, 3) := by decide +kernel
theorem dX5_smallKeysLeft_15 : decode cX5_smallKeysLeft 15 = .ok (.isub, 1) := by decide +kernel
theorem dX5_smallKeysLeft_16 : decode cX5_smallKeysLeft 16 = .ok (.ireturn, 1) := by decide +kernel
set_option maxRecDepth 20000 in
theorem ggX5_hasKey_X5_keyBit : GoodIn wsX5_hasKey wsX5_keyBit := goodIn_r _ [4] (by decide +kernel) (by decide +kernel)
set_option maxRecDepth 20000 in
theorem gX5_hasKey_X5_keyBit : GoodIn wsX5_hasKey (va_wsS RX5 17 yX5_keyBit wsX5_keyBit) := goodIn_app (goodIn_of _ (by decide +kernel)) ggX5_hasKey_X5_keyBit
theorem dX5_hasKey_0 : decode cX5_hasKey 0 = .ok (.iload_n 0, 1) := by decide +kernel
theorem dX5_hasKey_1 : decode cX5_hasKey 1 = .ok (.iload_n 1, 1) := by decide +kernel
theorem dX5_hasKey_2 : decode cX5_hasKey 2 = .ok (.invokestatic 17, 3) := by decide +kernel
theorem dX5_hasKey_5 : decode cX5_hasKey 5 = .ok (.iand, 1) := by decide +kernel
theorem dX5_hasKey_6 : decode cX5_hasKey 6 = .ok (.ifCond .eq 7, 3) := by decide +kernel
theorem dX5_hasKey_9 : decode cX5_hasKey 9 = .ok (.iconst 1, 1) := by decide +kernel
theorem dX5_hasKey_10 : decode cX5_hasKey 10 = .ok (.goto 4, 3) := by decide +kernel
theorem dX5_hasKey_13 : decode cX5_hasKey 13 = .ok (.iconst 0, 1) := by decide +kernel
theorem dX5_hasKey_14 : decode cX5_hasKey 14 = .ok (.ireturn, 1) := by decide +kernel
set_option maxRecDepth 20000 in
theorem ggX5_hasOpened_X5_openedBit : GoodIn wsX5_hasOpened wsX5_openedBit := goodIn_r _ [4] (by decide +kernel) (by decide +kernel)
set_option maxRecDepth 20000 in
theorem gX5_hasOpened_X5_openedBit : GoodIn wsX5_hasOpened (va_wsS RX5 20 yX5_openedBit wsX5_openedBit) := goodIn_app (goodIn_of _ (by decide +kernel)) ggX5_hasOpened_X5_openedBit
theorem dX5_hasOpened_0 : decode cX5_hasOpened 0 = .ok (.iload_n 0, 1) := by decide +kernel
theorem dX5_hasOpened_1 : decode cX5_hasOpened 1 = .ok (.iload_n 1, 1) := by decide +kernel
theorem dX5_hasOpened_2 : decode cX5_hasOpened 2 = .ok (.invokestatic 20, 3) := by decide +kernel
theorem dX5_hasOpened_5 : decode cX5_hasOpened 5 = .ok (.iand, 1) := by decide +kernel
theorem dX5_hasOpened_6 : decode cX5_hasOpened 6 = .ok (.ifCond .eq 7, 3) := by decide +kernel
theorem dX5_hasOpened_9 : decode cX5_hasOpened 9 = .ok (.iconst 1, 1) := by decide +kernel
theorem dX5_hasOpened_10 : decode cX5_hasOpened 10 = .ok (.goto 4, 3) := by decide +kernel
theorem dX5_hasOpened_13 : decode cX5_hasOpened 13 = .ok (.iconst 0, 1) := by decide +kernel
theorem dX5_hasOpened_14 : decode cX5_hasOpened 14 = .ok (.ireturn, 1) := by decide +kernel
theorem dX5_keyBit_0 : decode cX5_keyBit 0 = .ok (.iconst 1, 1) := by decide +kernel
theorem dX5_keyBit_1 : decode cX5_keyBit 1 = .ok (.iload_n 0, 1) := by decide +kernel
theorem dX5_keyBit_2 : decode cX5_keyBit 2 = .ok (.iconst 1, 1) := by decide +kernel
theorem dX5_keyBit_3 : decode cX5_keyBit 3 = .ok (.isub, 1) := by decide +kernel
theorem dX5_keyBit_4 : decode cX5_keyBit 4 = .ok (.ishl, 1) := by decide +kernel
theorem dX5_keyBit_5 : decode cX5_keyBit 5 = .ok (.ireturn, 1) := by decide +kernel
theorem dX5_smallKeyBit_0 : decode cX5_smallKeyBit 0 = .ok (.bipush 8, 2) := by decide +kernel
theorem dX5_smallKeyBit_2 : decode cX5_smallKeyBit 2 = .ok (.iload_n 0, 1) := by decide +kernel
theorem dX5_smallKeyBit_3 : decode cX5_smallKeyBit 3 = .ok (.ishl, 1) := by decide +kernel
theorem dX5_smallKeyBit_4 : decode cX5_smallKeyBit 4 = .ok (.ireturn, 1) := by decide +kernel
theorem dX5_openedBit_0 : decode cX5_openedBit 0 = .ok (.bipush 64, 2) := by decide +kernel
theorem dX5_openedBit_2 : decode cX5_openedBit 2 = .ok (.iload_n 0, 1) := by decide +kernel
theorem dX5_openedBit_3 : decode cX5_openedBit 3 = .ok (.ishl, 1) := by decide +kernel
theorem dX5_openedBit_4 : decode cX5_openedBit 4 = .ok (.ireturn, 1) := by decide +kernel
theorem dX5_inRoom_0 : decode cX5_inRoom 0 = .ok (.iload_n 0, 1) := by decide +kernel
theorem dX5_inRoom_1 : decode cX5_inRoom 1 = .ok (.sipush 1023, 3) := by decide +kernel
theorem dX5_inRoom_4 : decode cX5_inRoom 4 = .ok (.iand, 1) := by decide +kernel
theorem dX5_inRoom_5 : decode cX5_inRoom 5 = .ok (.iload_n 1, 1) := by decide +kernel
theorem dX5_inRoom_6 : decode cX5_inRoom 6 = .ok (.bipush 10, 2) := by decide +kernel
theorem dX5_inRoom_8 : decode cX5_inRoom 8 = .ok (.ishl, 1) := by decide +kernel
theorem dX5_inRoom_9 : decode cX5_inRoom 9 = .ok (.ior, 1) := by decide +kernel
theorem dX5_inRoom_10 : decode cX5_inRoom 10 = .ok (.ireturn, 1) := by decide +kernel
theorem dX5_toggled_0 : decode cX5_toggled 0 = .ok (.iload_n 0, 1) := by decide +kernel
theorem dX5_toggled_1 : decode cX5_toggled 1 = .ok (.sipush 512, 3) := by decide +kernel
theorem dX5_toggled_4 : decode cX5_toggled 4 = .ok (.ixor, 1) := by decide +kernel
theorem dX5_toggled_5 : decode cX5_toggled 5 = .ok (.ireturn, 1) := by decide +kernel
set_option maxRecDepth 20000 in
theorem ggX6_init_X0_init : GoodIn wsX6_init wsX0_init := goodIn_r _ [18, 19, 2, 3, 20, 21, 22, 23, 24, 25, 26, 27, 28, 29, 30, 31, 32, 204, 205, 206, 207, 208, 209, 210, 211, 212, 213, 214, 215, 216, 217] (by decide +kernel) (by decide +kernel)
set_option maxRecDepth 20000 in
theorem gX6_init_X0_init_n9 : GoodIn wsX6_init (wsX0_init) := ggX6_init_X0_init
set_option maxRecDepth 20000 in
theorem ggX6_init_X2_init : GoodIn wsX6_init wsX2_init := goodIn_r _ [35, 36, 2, 3, 37, 38, 39, 40, 28, 41, 42, 43, 44, 45, 20, 46, 232, 233, 234, 222, 223, 224] (by decide +kernel) (by decide +kernel)
set_option maxRecDepth 20000 in
theorem gX6_init_X2_init : GoodIn wsX6_init (wsX2_init) := ggX6_init_X2_init
set_option maxRecDepth 20000 in
theorem ggX6_init_X4_init : GoodIn wsX6_init wsX4_init := goodIn_r _ [49, 50, 2, 3, 51, 52, 53, 54, 55, 20, 56, 57, 58, 59, 60, 61, 62, 63, 64, 235, 225, 226, 227, 228, 229, 230, 231] (by decide +kernel) (by decide +kernel)
set_option maxRecDepth 20000 in
theorem gX6_init_X4_init : GoodIn wsX6_init (wsX4_init) := ggX6_init_X4_init
set_option maxRecDepth 20000 in
theorem ggX6_init_X2_build : GoodIn wsX6_init wsX2_build := goodIn_r _ [68, 40, 42, 69, 70, 71, 72, 73, 74, 39, 75, 76, 77, 78, 79, 10, 80, 81, 82, 83, 84, 85, 86, 87, 88, 89, 90, 91, 92, 93, 94, 95, 96, 97, 98, 99, 100, 101, 102, 103, 104, 105, 106, 107, 108, 46, 109, 110, 111, 112, 113, 114, 115, 116, 117, 118, 119, 120, 121, 122, 123, 124, 125, 126, 127, 128, 129, 130, 131, 132, 133, 134, 135, 136, 137, 138, 139, 140, 141, 142, 143, 144, 145, 146, 147, 148, 149, 150, 151, 152, 153, 154, 155, 156, 157, 158, 159, 41, 160, 161, 162, 163, 164, 165, 166, 167, 168, 169, 170, 171, 172, 173, 174, 175, 176, 177, 178, 179, 180, 181, 182, 183, 184, 185, 186, 187, 188, 189, 190, 191, 192, 193, 194, 195, 196, 197, 198, 199, 200, 201, 202, 203, 222, 223, 224, 204, 205, 206, 207, 208, 209, 210, 211, 212, 213, 214, 215, 216, 217, 232, 233, 234] (by decide +kernel) (by decide +kernel)
set_option maxRecDepth 20000 in
theorem gX6_init_X2_build : GoodIn wsX6_init (wsV RX6 32 RX2 yX2_build wsX2_build) := goodIn_app (goodIn_of _ (by decide +kernel)) ggX6_init_X2_build
theorem dX6_init_0 : decode cX6_init 0 = .ok (.aload_n 0, 1) := by decide +kernel
theorem dX6_init_1 : decode cX6_init 1 = .ok (.invokespecial 1, 3) := by decide +kernel
theorem dX6_init_4 : decode cX6_init 4 = .ok (.aload_n 0, 1) := by decide +kernel
theorem dX6_init_5 : decode cX6_init 5 = .ok (.new 7, 3) := by decide +kernel
theorem dX6_init_8 : decode cX6_init 8 = .ok (.dup, 1) := by decide +kernel
theorem dX6_init_9 : decode cX6_init 9 = .ok (.invokespecial 9, 3) := by decide +kernel
theorem dX6_init_12 : decode cX6_init 12 = .ok (.putfield 10, 3) := by decide +kernel
theorem dX6_init_15 : decode cX6_init 15 = .ok (.aload_n 0, 1) := by decide +kernel
theorem dX6_init_16 : decode cX6_init 16 = .ok (.new 16, 3) := by decide +kernel
theorem dX6_init_19 : decode cX6_init 19 = .ok (.dup, 1) := by decide +kernel
theorem dX6_init_20 : decode cX6_init 20 = .ok (.aload_n 0, 1) := by decide +kernel
theorem dX6_init_21 : decode cX6_init 21 = .ok (.getfield 10, 3) := by decide +kernel
theorem dX6_init_24 : decode cX6_init 24 = .ok (.invokespecial 18, 3) := by decide +kernel
theorem dX6_init_27 : decode cX6_init 27 = .ok (.putfield 21, 3) := by decide +kernel
theorem dX6_init_30 : decode cX6_init 30 = .ok (.aload_n 0, 1) := by decide +kernel
theorem dX6_init_31 : decode cX6_init 31 = .ok (.new 25, 3) := by decide +kernel
theorem dX6_init_34 : decode cX6_init 34 = .ok (.dup, 1) := by decide +kernel
theorem dX6_init_35 : decode cX6_init 35 = .ok (.aload_n 0, 1) := by decide +kernel
theorem dX6_init_36 : decode cX6_init 36 = .ok (.getfield 10, 3) := by decide +kernel
theorem dX6_init_39 : decode cX6_init 39 = .ok (.invokespecial 27, 3) := by decide +kernel
theorem dX6_init_42 : decode cX6_init 42 = .ok (.putfield 28, 3) := by decide +kernel
theorem dX6_init_45 : decode cX6_init 45 = .ok (.aload_n 0, 1) := by decide +kernel
theorem dX6_init_46 : decode cX6_init 46 = .ok (.getfield 21, 3) := by decide +kernel
theorem dX6_init_49 : decode cX6_init 49 = .ok (.lconst 0, 1) := by decide +kernel
theorem dX6_init_50 : decode cX6_init 50 = .ok (.iconst 2, 1) := by decide +kernel
theorem dX6_init_51 : decode cX6_init 51 = .ok (.iconst 1, 1) := by decide +kernel
theorem dX6_init_52 : decode cX6_init 52 = .ok (.iconst 0, 1) := by decide +kernel
theorem dX6_init_53 : decode cX6_init 53 = .ok (.iconst 0, 1) := by decide +kernel
theorem dX6_init_54 : decode cX6_init 54 = .ok (.invokevirtual 32, 3) := by decide +kernel
theorem dX6_init_57 : decode cX6_init 57 = .ok (.aload_n 0, 1) := by decide +kernel
theorem dX6_init_58 : decode cX6_init 58 = .ok (.iconst 0, 1) := by decide +kernel
theorem dX6_init_59 : decode cX6_init 59 = .ok (.putfield 38, 3) := by decide +kernel
theorem dX6_init_62 : decode cX6_init 62 = .ok (.return_, 1) := by decide +kernel
set_option maxRecDepth 20000 in
theorem ggX6_make_X6_isWithin : GoodIn wsX6_make wsX6_isWithin := goodIn_r _ [8] (by decide +kernel) (by decide +kernel)
set_option maxRecDepth 20000 in
theorem gX6_make_X6_isWithin : GoodIn wsX6_make (va_wsS RX6 42 yX6_isWithin wsX6_isWithin) := goodIn_app (goodIn_of _ (by decide +kernel)) ggX6_make_X6_isWithin
set_option maxRecDepth 20000 in
theorem ggX6_make_X2_build : GoodIn wsX6_make wsX2_build := goodIn_r _ [13, 14, 15, 16, 17, 18, 19, 20, 21, 22, 23, 24, 25, 26, 27, 12, 28, 29, 30, 31, 32, 33, 34, 35, 36, 37, 38, 39, 40, 41, 42, 43, 44, 45, 46, 47, 48, 49, 50, 51, 52, 53, 54, 55, 56, 57, 58, 59, 60, 61, 62, 63, 64, 65, 66, 67, 68, 69, 70, 71, 72, 73, 74, 75, 76, 77, 78, 79, 80, 6, 7, 8, 81, 82, 83, 84, 85, 86, 87, 88, 89, 90, 91, 92, 93, 94, 95, 96, 97, 98, 99, 100, 101, 102, 103, 104, 105, 106, 107, 108, 109, 110, 111, 112, 113, 114, 115, 116, 117, 118, 119, 120, 121, 122, 123, 124, 125, 126, 127, 128, 129, 130, 131, 132, 133, 134, 135, 136, 137, 138, 139, 140, 141, 142, 143, 144, 145, 146, 147, 148, 149, 150, 169, 170, 171, 155, 156, 157, 158, 159, 160, 161, 162, 163, 164, 165, 166, 167, 168, 172, 173, 174] (by decide +kernel) (by decide +kernel)
set_option maxRecDepth 20000 in
theorem gX6_make_X2_build : GoodIn wsX6_make (wsV RX6 32 RX2 yX2_build wsX2_build) := goodIn_app (goodIn_of _ (by decide +kernel)) ggX6_make_X2_build
theorem dX6_make_0 : decode cX6_make 0 = .ok (.iload_n 3, 1) := by decide +kernel
theorem dX6_make_1 : decode cX6_make 1 = .ok (.iconst 2, 1) := by decide +kernel
theorem dX6_make_2 : decode cX6_make 2 = .ok (.bipush 12, 2) := by decide +kernel
theorem dX6_make_4 : decode cX6_make 4 = .ok (.invokestatic 42, 3) := by decide +kernel
theorem dX6_make_7 : decode cX6_make 7 = .ok (.ifCond .eq 39, 3) := by decide +kernel
theorem dX6_make_10 : decode cX6_make 10 = .ok (.iload 4, 2) := by decide +kernel
theorem dX6_make_12 : decode cX6_make 12 = .ok (.iconst 1, 1) := by decide +kernel
theorem dX6_make_13 : decode cX6_make 13 = .ok (.iconst 3, 1) := by decide +kernel
theorem dX6_make_14 : decode cX6_make 14 = .ok (.invokestatic 42, 3) := by decide +kernel
theorem dX6_make_17 : decode cX6_make 17 = .ok (.ifCond .eq 29, 3) := by decide +kernel
theorem dX6_make_20 : decode cX6_make 20 = .ok (.iload 4, 2) := by decide +kernel
theorem dX6_make_22 : decode cX6_make 22 = .ok (.iload_n 3, 1) := by decide +kernel
theorem dX6_make_23 : decode cX6_make 23 = .ok (.if_icmp .ge 23, 3) := by decide +kernel
theorem dX6_make_26 : decode cX6_make 26 = .ok (.iload 5, 2) := by decide +kernel
theorem dX6_make_28 : decode cX6_make 28 = .ok (.iconst 0, 1) := by decide +kernel
theorem dX6_make_29 : decode cX6_make 29 = .ok (.iconst 3, 1) := by decide +kernel
theorem dX6_make_30 : decode cX6_make 30 = .ok (.invokestatic 42, 3) := by decide +kernel
theorem dX6_make_33 : decode cX6_make 33 = .ok (.ifCond .eq 13, 3) := by decide +kernel
theorem dX6_make_36 : decode cX6_make 36 = .ok (.iload 6, 2) := by decide +kernel
theorem dX6_make_38 : decode cX6_make 38 = .ok (.iconst 0, 1) := by decide +kernel
theorem dX6_make_39 : decode cX6_make 39 = .ok (.iconst 2, 1) := by decide +kernel
theorem dX6_make_40 : decode cX6_make 40 = .ok (.invokestatic 42, 3) := by decide +kernel
theorem dX6_make_43 : decode cX6_make 43 = .ok (.ifCond .ne 5, 3) := by decide +kernel
theorem dX6_make_46 : decode cX6_make 46 = .ok (.iconst (-1), 1) := by decide +kernel
theorem dX6_make_47 : decode cX6_make 47 = .ok (.ireturn, 1) := by decide +kernel
theorem dX6_make_48 : decode cX6_make 48 = .ok (.aload_n 0, 1) := by decide +kernel
theorem dX6_make_49 : decode cX6_make 49 = .ok (.getfield 21, 3) := by decide +kernel
theorem dX6_make_52 : decode cX6_make 52 = .ok (.lload_n 1, 1) := by decide +kernel
theorem dX6_make_53 : decode cX6_make 53 = .ok (.iload_n 3, 1) := by decide +kernel
theorem dX6_make_54 : decode cX6_make 54 = .ok (.iload 4, 2) := by decide +kernel
theorem dX6_make_56 : decode cX6_make 56 = .ok (.iload 5, 2) := by decide +kernel
theorem dX6_make_58 : decode cX6_make 58 = .ok (.iload 6, 2) := by decide +kernel
theorem dX6_make_60 : decode cX6_make 60 = .ok (.invokevirtual 32, 3) := by decide +kernel
theorem dX6_make_63 : decode cX6_make 63 = .ok (.aload_n 0, 1) := by decide +kernel
theorem dX6_make_64 : decode cX6_make 64 = .ok (.iconst 0, 1) := by decide +kernel
theorem dX6_make_65 : decode cX6_make 65 = .ok (.putfield 38, 3) := by decide +kernel
theorem dX6_make_68 : decode cX6_make 68 = .ok (.aload_n 0, 1) := by decide +kernel
theorem dX6_make_69 : decode cX6_make 69 = .ok (.getfield 10, 3) := by decide +kernel
theorem dX6_make_72 : decode cX6_make 72 = .ok (.getfield 46, 3) := by decide +kernel
theorem dX6_make_75 : decode cX6_make 75 = .ok (.ireturn, 1) := by decide +kernel
set_option maxRecDepth 20000 in
theorem ggX6_room_X0_hasRoom : GoodIn wsX6_room wsX0_hasRoom := goodIn_r _ [14, 15, 20, 21, 22, 23, 24, 25, 26, 27, 28, 29, 30, 31, 32, 33] (by decide +kernel) (by decide +kernel)
set_option maxRecDepth 20000 in
theorem gX6_room_X0_hasRoom : GoodIn wsX6_room (wsV RX6 49 RX0 yX0_hasRoom wsX0_hasRoom) := goodIn_app (goodIn_of _ (by decide +kernel)) ggX6_room_X0_hasRoom
theorem dX6_room_0 : decode cX6_room 0 = .ok (.aload_n 0, 1) := by decide +kernel
theorem dX6_room_1 : decode cX6_room 1 = .ok (.getfield 10, 3) := by decide +kernel
theorem dX6_room_4 : decode cX6_room 4 = .ok (.iload_n 1, 1) := by decide +kernel
theorem dX6_room_5 : decode cX6_room 5 = .ok (.invokevirtual 49, 3) := by decide +kernel
theorem dX6_room_8 : decode cX6_room 8 = .ok (.ifCond .ne 6, 3) := by decide +kernel
theorem dX6_room_11 : decode cX6_room 11 = .ok (.bipush (-100), 2) := by decide +kernel
theorem dX6_room_13 : decode cX6_room 13 = .ok (.ireturn, 1) := by decide +kernel
theorem dX6_room_14 : decode cX6_room 14 = .ok (.iload_n 2, 1) := by decide +kernel
theorem dX6_room_15 : decode cX6_room 15 = .ok (.tableswitch 133 0 7 #[45, 55, 65, 75, 85, 95, 105, 123], 45) := by decide +kernel
theorem dX6_room_60 : decode cX6_room 60 = .ok (.aload_n 0, 1) := by decide +kernel
theorem dX6_room_61 : decode cX6_room 61 = .ok (.getfield 10, 3) := by decide +kernel
theorem dX6_room_64 : decode cX6_room 64 = .ok (.getfield 53, 3) := by decide +kernel
theorem dX6_room_67 : decode cX6_room 67 = .ok (.iload_n 1, 1) := by decide +kernel
theorem dX6_room_68 : decode cX6_room 68 = .ok (.iaload, 1) := by decide +kernel
theorem dX6_room_69 : decode cX6_room 69 = .ok (.ireturn, 1) := by decide +kernel
theorem dX6_room_70 : decode cX6_room 70 = .ok (.aload_n 0, 1) := by decide +kernel
theorem dX6_room_71 : decode cX6_room 71 = .ok (.getfield 10, 3) := by decide +kernel
theorem dX6_room_74 : decode cX6_room 74 = .ok (.getfield 57, 3) := by decide +kernel
theorem dX6_room_77 : decode cX6_room 77 = .ok (.iload_n 1, 1) := by decide +kernel
theorem dX6_room_78 : decode cX6_room 78 = .ok (.iaload, 1) := by decide +kernel
theorem dX6_room_79 : decode cX6_room 79 = .ok (.ireturn, 1) := by decide +kernel
theorem dX6_room_80 : decode cX6_room 80 = .ok (.aload_n 0, 1) := by decide +kernel
theorem dX6_room_81 : decode cX6_room 81 = .ok (.getfield 10, 3) := by decide +kernel
theorem dX6_room_84 : decode cX6_room 84 = .ok (.getfield 60, 3) := by decide +kernel
theorem dX6_room_87 : decode cX6_room 87 = .ok (.iload_n 1, 1) := by decide +kernel
theorem dX6_room_88 : decode cX6_room 88 = .ok (.iaload, 1) := by decide +kernel
theorem dX6_room_89 : decode cX6_room 89 = .ok (.ireturn, 1) := by decide +kernel
theorem dX6_room_90 : decode cX6_room 90 = .ok (.aload_n 0, 1) := by decide +kernel
theorem dX6_room_91 : decode cX6_room 91 = .ok (.getfield 10, 3) := by decide +kernel
theorem dX6_room_94 : decode cX6_room 94 = .ok (.getfield 63, 3) := by decide +kernel
theorem dX6_room_97 : decode cX6_room 97 = .ok (.iload_n 1, 1) := by decide +kernel
theorem dX6_room_98 : decode cX6_room 98 = .ok (.iaload, 1) := by decide +kernel
theorem dX6_room_99 : decode cX6_room 99 = .ok (.ireturn, 1) := by decide +kernel
theorem dX6_room_100 : decode cX6_room 100 = .ok (.aload_n 0, 1) := by decide +kernel
theorem dX6_room_101 : decode cX6_room 101 = .ok (.getfield 10, 3) := by decide +kernel
theorem dX6_room_104 : decode cX6_room 104 = .ok (.getfield 66, 3) := by decide +kernel
theorem dX6_room_107 : decode cX6_room 107 = .ok (.iload_n 1, 1) := by decide +kernel
theorem dX6_room_108 : decode cX6_room 108 = .ok (.iaload, 1) := by decide +kernel
theorem dX6_room_109 : decode cX6_room 109 = .ok (.ireturn, 1) := by decide +kernel
theorem dX6_room_110 : decode cX6_room 110 = .ok (.aload_n 0, 1) := by decide +kernel
theorem dX6_room_111 : decode cX6_room 111 = .ok (.getfield 10, 3) := by decide +kernel
theorem dX6_room_114 : decode cX6_room 114 = .ok (.getfield 69, 3) := by decide +kernel
theorem dX6_room_117 : decode cX6_room 117 = .ok (.iload_n 1, 1) := by decide +kernel
theorem dX6_room_118 : decode cX6_room 118 = .ok (.iaload, 1) := by decide +kernel
theorem dX6_room_119 : decode cX6_room 119 = .ok (.ireturn, 1) := by decide +kernel
theorem dX6_room_120 : decode cX6_room 120 = .ok (.aload_n 0, 1) := by decide +kernel
theorem dX6_room_121 : decode cX6_room 121 = .ok (.getfield 10, 3) := by decide +kernel
theorem dX6_room_124 : decode cX6_room 124 = .ok (.getfield 72, 3) := by decide +kernel
theorem dX6_room_127 : decode cX6_room 127 = .ok (.iload_n 1, 1) := by decide +kernel
theorem dX6_room_128 : decode cX6_room 128 = .ok (.baload, 1) := by decide +kernel
theorem dX6_room_129 : decode cX6_room 129 = .ok (.ifCond .eq 7, 3) := by decide +kernel
theorem dX6_room_132 : decode cX6_room 132 = .ok (.iconst 1, 1) := by decide +kernel
theorem dX6_room_133 : decode cX6_room 133 = .ok (.goto 4, 3) := by decide +kernel
theorem dX6_room_136 : decode cX6_room 136 = .ok (.iconst 0, 1) := by decide +kernel
theorem dX6_room_137 : decode cX6_room 137 = .ok (.ireturn, 1) := by decide +kernel
theorem dX6_room_138 : decode cX6_room 138 = .ok (.aload_n 0, 1) := by decide +kernel
theorem dX6_room_139 : decode cX6_room 139 = .ok (.getfield 10, 3) := by decide +kernel
theorem dX6_room_142 : decode cX6_room 142 = .ok (.getfield 76, 3) := by decide +kernel
theorem dX6_room_145 : decode cX6_room 145 = .ok (.iload_n 1, 1) := by decide +kernel
theorem dX6_room_146 : decode cX6_room 146 = .ok (.iaload, 1) := by decide +kernel
theorem dX6_room_147 : decode cX6_room 147 = .ok (.ireturn, 1) := by decide +kernel
theorem dX6_room_148 : decode cX6_room 148 = .ok (.bipush (-100), 2) := by decide +kernel
theorem dX6_room_150 : decode cX6_room 150 = .ok (.ireturn, 1) := by decide +kernel
set_option maxRecDepth 20000 in
theorem ggX6_behind_X0_hasDoor : GoodIn wsX6_behind wsX0_hasDoor := goodIn_r _ [7, 8, 9, 10, 11, 6, 12, 13, 18, 19, 20, 21, 22, 23, 24, 25, 26, 27, 28, 29, 30, 31] (by decide +kernel) (by decide +kernel)
set_option maxRecDepth 20000 in
theorem gX6_behind_X0_hasDoor : GoodIn wsX6_behind (wsV RX6 79 RX0 yX0_hasDoor wsX0_hasDoor) := goodIn_app (goodIn_of _ (by decide +kernel)) ggX6_behind_X0_hasDoor
theorem dX6_behind_0 : decode cX6_behind 0 = .ok (.aload_n 0, 1) := by decide +kernel
theorem dX6_behind_1 : decode cX6_behind 1 = .ok (.getfield 10, 3) := by decide +kernel
theorem dX6_behind_4 : decode cX6_behind 4 = .ok (.iload_n 1, 1) := by decide +kernel
theorem dX6_behind_5 : decode cX6_behind 5 = .ok (.iload_n 2, 1) := by decide +kernel
theorem dX6_behind_6 : decode cX6_behind 6 = .ok (.invokevirtual 79, 3) := by decide +kernel
theorem dX6_behind_9 : decode cX6_behind 9 = .ok (.ifCond .eq 17, 3) := by decide +kernel
theorem dX6_behind_12 : decode cX6_behind 12 = .ok (.aload_n 0, 1) := by decide +kernel
theorem dX6_behind_13 : decode cX6_behind 13 = .ok (.getfield 10, 3) := by decide +kernel
theorem dX6_behind_16 : decode cX6_behind 16 = .ok (.getfield 83, 3) := by decide +kernel
theorem dX6_behind_19 : decode cX6_behind 19 = .ok (.iload_n 1, 1) := by decide +kernel
theorem dX6_behind_20 : decode cX6_behind 20 = .ok (.aaload, 1) := by decide +kernel
theorem dX6_behind_21 : decode cX6_behind 21 = .ok (.iload_n 2, 1) := by decide +kernel
theorem dX6_behind_22 : decode cX6_behind 22 = .ok (.iaload, 1) := by decide +kernel
theorem dX6_behind_23 : decode cX6_behind 23 = .ok (.goto 4, 3) := by decide +kernel
theorem dX6_behind_26 : decode cX6_behind 26 = .ok (.iconst (-1), 1) := by decide +kernel
theorem dX6_behind_27 : decode cX6_behind 27 = .ok (.ireturn, 1) := by decide +kernel
theorem dX6_goal_0 : decode cX6_goal 0 = .ok (.aload_n 0, 1) := by decide +kernel
theorem dX6_goal_1 : decode cX6_goal 1 = .ok (.getfield 10, 3) := by decide +kernel
theorem dX6_goal_4 : decode cX6_goal 4 = .ok (.getfield 87, 3) := by decide +kernel
theorem dX6_goal_7 : decode cX6_goal 7 = .ok (.ireturn, 1) := by decide +kernel
theorem dX6_restart_0 : decode cX6_restart 0 = .ok (.aload_n 0, 1) := by decide +kernel
theorem dX6_restart_1 : decode cX6_restart 1 = .ok (.iconst 0, 1) := by decide +kernel
theorem dX6_restart_2 : decode cX6_restart 2 = .ok (.putfield 38, 3) := by decide +kernel
theorem dX6_restart_5 : decode cX6_restart 5 = .ok (.return_, 1) := by decide +kernel
set_option maxRecDepth 20000 in
theorem ggX6_walk_X0_afterWalking : GoodIn wsX6_walk wsX0_afterWalking := goodIn_r _ [7, 8, 9, 10, 11, 12, 13, 14, 15, 16, 17, 6, 18, 19, 20, 21, 22, 23, 24, 25, 26, 27, 28, 29, 30, 31, 32, 33, 34, 35, 36, 37, 38, 39, 40, 41, 42, 43, 44, 45, 46, 47, 48, 49, 50, 51, 52, 53, 54, 55, 56, 57, 58, 59, 60, 61, 62, 63, 69, 70, 71, 72, 73, 74, 75, 76, 77, 78, 79, 80, 81, 82] (by decide +kernel) (by decide +kernel)
set_option maxRecDepth 20000 in
theorem gX6_walk_X0_afterWalking : GoodIn wsX6_walk (wsV RX6 90 RX0 yX0_afterWalking wsX0_afterWalking) := goodIn_app (goodIn_of _ (by decide +kernel)) ggX6_walk_X0_afterWalking
set_option maxRecDepth 20000 in
theorem ggX6_walk_X5_roomOf : GoodIn wsX6_walk wsX5_roomOf := goodIn_r _ [14] (by decide +kernel) (by decide +kernel)
set_option maxRecDepth 20000 in
theorem gX6_walk_X5_roomOf : GoodIn wsX6_walk (va_wsS RX6 94 yX5_roomOf wsX5_roomOf) := goodIn_app (goodIn_of _ (by decide +kernel)) ggX6_walk_X5_roomOf
theorem dX6_walk_0 : decode cX6_walk 0 = .ok (.aload_n 0, 1) := by decide +kernel
theorem dX6_walk_1 : decode cX6_walk 1 = .ok (.getfield 10, 3) := by decide +kernel
theorem dX6_walk_4 : decode cX6_walk 4 = .ok (.aload_n 0, 1) := by decide +kernel
theorem dX6_walk_5 : decode cX6_walk 5 = .ok (.getfield 38, 3) := by decide +kernel
theorem dX6_walk_8 : decode cX6_walk 8 = .ok (.iload_n 1, 1) := by decide +kernel
theorem dX6_walk_9 : decode cX6_walk 9 = .ok (.invokevirtual 90, 3) := by decide +kernel
theorem dX6_walk_12 : decode cX6_walk 12 = .ok (.istore_n 2, 1) := by decide +kernel
theorem dX6_walk_13 : decode cX6_walk 13 = .ok (.iload_n 2, 1) := by decide +kernel
theorem dX6_walk_14 : decode cX6_walk 14 = .ok (.ifCond .ge 5, 3) := by decide +kernel
theorem dX6_walk_17 : decode cX6_walk 17 = .ok (.iload_n 2, 1) := by decide +kernel
theorem dX6_walk_18 : decode cX6_walk 18 = .ok (.ireturn, 1) := by decide +kernel
theorem dX6_walk_19 : decode cX6_walk 19 = .ok (.aload_n 0, 1) := by decide +kernel
theorem dX6_walk_20 : decode cX6_walk 20 = .ok (.iload_n 2, 1) := by decide +kernel
theorem dX6_walk_21 : decode cX6_walk 21 = .ok (.putfield 38, 3) := by decide +kernel
theorem dX6_walk_24 : decode cX6_walk 24 = .ok (.iload_n 2, 1) := by decide +kernel
theorem dX6_walk_25 : decode cX6_walk 25 = .ok (.invokestatic 94, 3) := by decide +kernel
theorem dX6_walk_28 : decode cX6_walk 28 = .ok (.ireturn, 1) := by decide +kernel
set_option maxRecDepth 20000 in
theorem ggX6_take_X0_afterTaking : GoodIn wsX6_take wsX0_afterTaking := goodIn_r _ [7, 8, 9, 10, 11, 12, 24, 25, 26, 27, 28, 29, 30, 31, 32, 33, 34, 35, 36, 37] (by decide +kernel) (by decide +kernel)
set_option maxRecDepth 20000 in
theorem gX6_take_X0_afterTaking : GoodIn wsX6_take (wsV RX6 98 RX0 yX0_afterTaking wsX0_afterTaking) := goodIn_app (goodIn_of _ (by decide +kernel)) ggX6_take_X0_afterTaking
set_option maxRecDepth 20000 in
theorem ggX6_take_J6_bitCount_0f7a4 : GoodIn wsX6_take wsJ6_bitCount_0f7a4 := goodIn_r _ [16, 17, 18, 19] (by decide +kernel) (by decide +kernel)
set_option maxRecDepth 20000 in
theorem gX6_take_J6_bitCount_0f7a4 : GoodIn wsX6_take (va_wsS RX6 101 yJ6_bitCount_0f7a4 wsJ6_bitCount_0f7a4) := goodIn_app (goodIn_of _ (by decide +kernel)) ggX6_take_J6_bitCount_0f7a4
theorem dX6_take_0 : decode cX6_take 0 = .ok (.aload_n 0, 1) := by decide +kernel
theorem dX6_take_1 : decode cX6_take 1 = .ok (.getfield 10, 3) := by decide +kernel
theorem dX6_take_4 : decode cX6_take 4 = .ok (.aload_n 0, 1) := by decide +kernel
theorem dX6_take_5 : decode cX6_take 5 = .ok (.getfield 38, 3) := by decide +kernel
theorem dX6_take_8 : decode cX6_take 8 = .ok (.invokevirtual 98, 3) := by decide +kernel
theorem dX6_take_11 : decode cX6_take 11 = .ok (.istore_n 1, 1) := by decide +kernel
theorem dX6_take_12 : decode cX6_take 12 = .ok (.iload_n 1, 1) := by decide +kernel
theorem dX6_take_13 : decode cX6_take 13 = .ok (.aload_n 0, 1) := by decide +kernel
theorem dX6_take_14 : decode cX6_take 14 = .ok (.getfield 38, 3) := by decide +kernel
theorem dX6_take_17 : decode cX6_take 17 = .ok (.ixor, 1) := by decide +kernel
theorem dX6_take_18 : decode cX6_take 18 = .ok (.invokestatic 101, 3) := by decide +kernel
theorem dX6_take_21 : decode cX6_take 21 = .ok (.istore_n 2, 1) := by decide +kernel
theorem dX6_take_22 : decode cX6_take 22 = .ok (.aload_n 0, 1) := by decide +kernel
theorem dX6_take_23 : decode cX6_take 23 = .ok (.iload_n 1, 1) := by decide +kernel
theorem dX6_take_24 : decode cX6_take 24 = .ok (.putfield 38, 3) := by decide +kernel
theorem dX6_take_27 : decode cX6_take 27 = .ok (.iload_n 2, 1) := by decide +kernel
theorem dX6_take_28 : decode cX6_take 28 = .ok (.ireturn, 1) := by decide +kernel
set_option maxRecDepth 20000 in
theorem ggX6_toggle_X0_afterToggling : GoodIn wsX6_toggle wsX0_afterToggling := goodIn_r _ [7, 8, 9, 10, 11, 12, 13, 14, 15, 23, 24, 25, 26, 27, 28, 29, 30, 31, 32, 33, 34, 35, 36] (by decide +kernel) (by decide +kernel)
set_option maxRecDepth 20000 in
theorem gX6_toggle_X0_afterToggling : GoodIn wsX6_toggle (wsV RX6 106 RX0 yX0_afterToggling wsX0_afterToggling) := goodIn_app (goodIn_of _ (by decide +kernel)) ggX6_toggle_X0_afterToggling
set_option maxRecDepth 20000 in
theorem ggX6_toggle_X5_positionOf : GoodIn wsX6_toggle wsX5_positionOf := goodIn_r _ [18] (by decide +kernel) (by decide +kernel)
set_option maxRecDepth 20000 in
theorem gX6_toggle_X5_positionOf : GoodIn wsX6_toggle (va_wsS RX6 109 yX5_positionOf wsX5_positionOf) := goodIn_app (goodIn_of _ (by decide +kernel)) ggX6_toggle_X5_positionOf
theorem dX6_toggle_0 : decode cX6_toggle 0 = .ok (.aload_n 0, 1) := by decide +kernel
theorem dX6_toggle_1 : decode cX6_toggle 1 = .ok (.getfield 10, 3) := by decide +kernel
theorem dX6_toggle_4 : decode cX6_toggle 4 = .ok (.aload_n 0, 1) := by decide +kernel
theorem dX6_toggle_5 : decode cX6_toggle 5 = .ok (.getfield 38, 3) := by decide +kernel
theorem dX6_toggle_8 : decode cX6_toggle 8 = .ok (.invokevirtual 106, 3) := by decide +kernel
theorem dX6_toggle_11 : decode cX6_toggle 11 = .ok (.istore_n 1, 1) := by decide +kernel
theorem dX6_toggle_12 : decode cX6_toggle 12 = .ok (.iload_n 1, 1) := by decide +kernel
theorem dX6_toggle_13 : decode cX6_toggle 13 = .ok (.ifCond .ge 5, 3) := by decide +kernel
theorem dX6_toggle_16 : decode cX6_toggle 16 = .ok (.iload_n 1, 1) := by decide +kernel
theorem dX6_toggle_17 : decode cX6_toggle 17 = .ok (.ireturn, 1) := by decide +kernel
theorem dX6_toggle_18 : decode cX6_toggle 18 = .ok (.aload_n 0, 1) := by decide +kernel
theorem dX6_toggle_19 : decode cX6_toggle 19 = .ok (.iload_n 1, 1) := by decide +kernel
theorem dX6_toggle_20 : decode cX6_toggle 20 = .ok (.putfield 38, 3) := by decide +kernel
theorem dX6_toggle_23 : decode cX6_toggle 23 = .ok (.iload_n 1, 1) := by decide +kernel
theorem dX6_toggle_24 : decode cX6_toggle 24 = .ok (.invokestatic 109, 3) := by decide +kernel
theorem dX6_toggle_27 : decode cX6_toggle 27 = .ok (.ireturn, 1) := by decide +kernel
set_option maxRecDepth 20000 in
theorem ggX6_here_X5_roomOf : GoodIn wsX6_here wsX5_roomOf := goodIn_r _ [5] (by decide +kernel) (by decide +kernel)
set_option maxRecDepth 20000 in
theorem gX6_here_X5_roomOf : GoodIn wsX6_here (va_wsS RX6 94 yX5_roomOf wsX5_roomOf) := goodIn_app (goodIn_of _ (by decide +kernel)) ggX6_here_X5_roomOf
end
section
theorem dX6_here_0 : decode cX6_here 0 = .ok (.aload_n 0, 1) := by decide +kernel
theorem dX6_here_1 : decode cX6_here 1 = .ok (.getfield 38, 3) := by decide +kernel
theorem dX6_here_4 : decode cX6_here 4 = .ok (.invokestatic 94, 3) := by decide +kernel
theorem dX6_here_7 : decode cX6_here 7 = .ok (.ireturn, 1) := by decide +kernel
set_option maxRecDepth 20000 in
theorem ggX6_having_X5_keysOf : GoodIn wsX6_having wsX5_keysOf := goodIn_r _ [5] (by decide +kernel) (by decide +kernel)
set_option maxRecDepth 20000 in
theorem gX6_having_X5_keysOf : GoodIn wsX6_having (va_wsS RX6 112 yX5_keysOf wsX5_keysOf) := goodIn_app (goodIn_of _ (by decide +kernel)) ggX6_having_X5_keysOf
set_option maxRecDepth 20000 in
theorem ggX6_having_X5_smallKeysLeft : GoodIn wsX6_having wsX5_smallKeysLeft := goodIn_r _ [8, 9, 10, 11, 12, 13, 14, 15] (by decide +kernel) (by decide +kernel)
set_option maxRecDepth 20000 in
theorem gX6_having_X5_smallKeysLeft : GoodIn wsX6_having (va_wsS RX6 115 yX5_smallKeysLeft wsX5_smallKeysLeft) := goodIn_app (goodIn_of _ (by decide +kernel)) ggX6_having_X5_smallKeysLeft
set_option maxRecDepth 20000 in
theorem ggX6_having_X5_positionOf : GoodIn wsX6_having wsX5_positionOf := goodIn_r _ [18] (by decide +kernel) (by decide +kernel)
set_option maxRecDepth 20000 in
theorem gX6_having_X5_positionOf : GoodIn wsX6_having (va_wsS RX6 109 yX5_positionOf wsX5_positionOf) := goodIn_app (goodIn_of _ (by decide +kernel)) ggX6_having_X5_positionOf
theorem dX6_having_0 : decode cX6_having 0 = .ok (.aload_n 0, 1) := by decide +kernel
theorem dX6_having_1 : decode cX6_having 1 = .ok (.getfield 38, 3) := by decide +kernel
theorem dX6_having_4 : decode cX6_having 4 = .ok (.invokestatic 112, 3) := by decide +kernel
theorem dX6_having_7 : decode cX6_having 7 = .ok (.bipush 8, 2) := by decide +kernel
theorem dX6_having_9 : decode cX6_having 9 = .ok (.aload_n 0, 1) := by decide +kernel
theorem dX6_having_10 : decode cX6_having 10 = .ok (.getfield 38, 3) := by decide +kernel
theorem dX6_having_13 : decode cX6_having 13 = .ok (.invokestatic 115, 3) := by decide +kernel
theorem dX6_having_16 : decode cX6_having 16 = .ok (.imul, 1) := by decide +kernel
theorem dX6_having_17 : decode cX6_having 17 = .ok (.iadd, 1) := by decide +kernel
theorem dX6_having_18 : decode cX6_having 18 = .ok (.bipush 64, 2) := by decide +kernel
theorem dX6_having_20 : decode cX6_having 20 = .ok (.aload_n 0, 1) := by decide +kernel
theorem dX6_having_21 : decode cX6_having 21 = .ok (.getfield 38, 3) := by decide +kernel
theorem dX6_having_24 : decode cX6_having 24 = .ok (.invokestatic 109, 3) := by decide +kernel
theorem dX6_having_27 : decode cX6_having 27 = .ok (.imul, 1) := by decide +kernel
theorem dX6_having_28 : decode cX6_having 28 = .ok (.iadd, 1) := by decide +kernel
theorem dX6_having_29 : decode cX6_having 29 = .ok (.ireturn, 1) := by decide +kernel
set_option maxRecDepth 20000 in
theorem ggX6_steps_X4_findGoal : GoodIn wsX6_steps wsX4_findGoal := goodIn_r _ [8, 9, 10, 11, 12, 13, 7, 14, 15, 16, 17, 18, 19, 20, 21, 22, 23, 24, 25, 26, 27, 28, 29, 30, 31, 32, 33, 34, 35, 36, 37, 38, 39, 40, 41, 42, 43, 44, 45, 46, 47, 48, 49, 50, 51, 52, 53, 54, 55, 56, 57, 58, 59, 60, 61, 62, 63, 64, 65, 66, 67, 68, 69, 70, 71, 72, 73, 74, 75, 76, 77, 78, 79, 80, 81, 82, 83, 84, 85, 86, 87, 88, 89, 90, 91, 92, 93, 94, 95, 96, 97, 98, 99, 100, 101, 102, 103, 104, 105, 106, 107, 108, 109, 110, 111, 112, 113, 114, 115, 116, 117, 118, 119, 120, 121, 122, 123, 124, 125, 130, 131, 132, 133, 134, 135, 136, 137, 138, 139, 140, 141, 142, 143, 144, 145, 146, 147, 148, 149, 150, 151] (by decide +kernel) (by decide +kernel)
set_option maxRecDepth 20000 in
theorem gX6_steps_X4_findGoal : GoodIn wsX6_steps (wsV RX6 118 RX4 yX4_findGoal wsX4_findGoal) := goodIn_app (goodIn_of _ (by decide +kernel)) ggX6_steps_X4_findGoal
theorem dX6_steps_0 : decode cX6_steps 0 = .ok (.aload_n 0, 1) := by decide +kernel
theorem dX6_steps_1 : decode cX6_steps 1 = .ok (.getfield 28, 3) := by decide +kernel
theorem dX6_steps_4 : decode cX6_steps 4 = .ok (.aload_n 0, 1) := by decide +kernel
theorem dX6_steps_5 : decode cX6_steps 5 = .ok (.getfield 38, 3) := by decide +kernel
theorem dX6_steps_8 : decode cX6_steps 8 = .ok (.invokevirtual 118, 3) := by decide +kernel
theorem dX6_steps_11 : decode cX6_steps 11 = .ok (.istore_n 1, 1) := by decide +kernel
theorem dX6_steps_12 : decode cX6_steps 12 = .ok (.iload_n 1, 1) := by decide +kernel
theorem dX6_steps_13 : decode cX6_steps 13 = .ok (.ifCond .ge 8, 3) := by decide +kernel
theorem dX6_steps_16 : decode cX6_steps 16 = .ok (.bipush (-3), 2) := by decide +kernel
theorem dX6_steps_18 : decode cX6_steps 18 = .ok (.goto 12, 3) := by decide +kernel
theorem dX6_steps_21 : decode cX6_steps 21 = .ok (.aload_n 0, 1) := by decide +kernel
theorem dX6_steps_22 : decode cX6_steps 22 = .ok (.getfield 28, 3) := by decide +kernel
theorem dX6_steps_25 : decode cX6_steps 25 = .ok (.getfield 121, 3) := by decide +kernel
theorem dX6_steps_28 : decode cX6_steps 28 = .ok (.iload_n 1, 1) := by decide +kernel
theorem dX6_steps_29 : decode cX6_steps 29 = .ok (.iaload, 1) := by decide +kernel
theorem dX6_steps_30 : decode cX6_steps 30 = .ok (.ireturn, 1) := by decide +kernel
set_option maxRecDepth 20000 in
theorem ggX6_hint_X4_findGoal : GoodIn wsX6_hint wsX4_findGoal := goodIn_r _ [8, 9, 10, 11, 12, 13, 7, 14, 15, 16, 17, 18, 19, 20, 21, 22, 23, 24, 25, 26, 27, 28, 29, 30, 31, 32, 33, 34, 35, 36, 37, 38, 39, 40, 41, 42, 43, 44, 45, 46, 47, 48, 49, 50, 51, 52, 53, 54, 55, 56, 57, 58, 59, 60, 61, 62, 63, 64, 65, 66, 67, 68, 69, 70, 71, 72, 73, 74, 75, 76, 77, 78, 79, 80, 81, 82, 83, 84, 85, 86, 87, 88, 89, 90, 91, 92, 93, 94, 95, 96, 97, 98, 99, 100, 101, 102, 103, 104, 105, 106, 107, 108, 109, 110, 111, 112, 113, 114, 115, 116, 117, 118, 119, 120, 121, 122, 123, 124, 125, 130, 131, 132, 133, 134, 135, 136, 137, 138, 139, 140, 141, 142, 143, 144, 145, 146, 147, 148, 149, 150, 151] (by decide +kernel) (by decide +kernel)
set_option maxRecDepth 20000 in
theorem gX6_hint_X4_findGoal : GoodIn wsX6_hint (wsV RX6 118 RX4 yX4_findGoal wsX4_findGoal) := goodIn_app (goodIn_of _ (by decide +kernel)) ggX6_hint_X4_findGoal
theorem dX6_hint_0 : decode cX6_hint 0 = .ok (.aload_n 0, 1) := by decide +kernel
theorem dX6_hint_1 : decode cX6_hint 1 = .ok (.getfield 28, 3) := by decide +kernel
theorem dX6_hint_4 : decode cX6_hint 4 = .ok (.aload_n 0, 1) := by decide +kernel
theorem dX6_hint_5 : decode cX6_hint 5 = .ok (.getfield 38, 3) := by decide +kernel
theorem dX6_hint_8 : decode cX6_hint 8 = .ok (.invokevirtual 118, 3) := by decide +kernel
theorem dX6_hint_11 : decode cX6_hint 11 = .ok (.istore_n 1, 1) := by decide +kernel
theorem dX6_hint_12 : decode cX6_hint 12 = .ok (.iload_n 1, 1) := by decide +kernel
theorem dX6_hint_13 : decode cX6_hint 13 = .ok (.ifCond .ne 5, 3) := by decide +kernel
theorem dX6_hint_16 : decode cX6_hint 16 = .ok (.iconst (-1), 1) := by decide +kernel
theorem dX6_hint_17 : decode cX6_hint 17 = .ok (.ireturn, 1) := by decide +kernel
theorem dX6_hint_18 : decode cX6_hint 18 = .ok (.iload_n 1, 1) := by decide +kernel
theorem dX6_hint_19 : decode cX6_hint 19 = .ok (.ifCond .ge 8, 3) := by decide +kernel
theorem dX6_hint_22 : decode cX6_hint 22 = .ok (.bipush (-3), 2) := by decide +kernel
theorem dX6_hint_24 : decode cX6_hint 24 = .ok (.goto 12, 3) := by decide +kernel
theorem dX6_hint_27 : decode cX6_hint 27 = .ok (.aload_n 0, 1) := by decide +kernel
theorem dX6_hint_28 : decode cX6_hint 28 = .ok (.getfield 28, 3) := by decide +kernel
theorem dX6_hint_31 : decode cX6_hint 31 = .ok (.getfield 124, 3) := by decide +kernel
theorem dX6_hint_34 : decode cX6_hint 34 = .ok (.iload_n 1, 1) := by decide +kernel
theorem dX6_hint_35 : decode cX6_hint 35 = .ok (.iaload, 1) := by decide +kernel
theorem dX6_hint_36 : decode cX6_hint 36 = .ok (.ireturn, 1) := by decide +kernel
set_option maxRecDepth 20000 in
theorem ggX6_situations_X4_findAll : GoodIn wsX6_situations wsX4_findAll := goodIn_r _ [8, 9, 10, 11, 12, 7, 13, 14, 15, 16, 17, 18, 19, 20, 21, 22, 23, 24, 25, 26, 27, 28, 29, 30, 31, 32, 33, 34, 35, 36, 37, 38, 39, 40, 41, 42, 43, 44, 45, 46, 47, 48, 49, 50, 51, 52, 53, 54, 55, 56, 57, 58, 59, 60, 61, 62, 63, 64, 65, 66, 67, 68, 69, 70, 71, 72, 73, 74, 75, 76, 77, 78, 79, 80, 81, 82, 83, 84, 85, 86, 87, 88, 89, 90, 91, 92, 93, 94, 95, 96, 97, 98, 99, 100, 101, 102, 103, 104, 105, 106, 107, 108, 109, 110, 111, 112, 113, 114, 115, 116, 117, 118, 119, 120, 125, 126, 127, 128, 129, 130, 131, 132, 133, 134, 135, 136, 137, 138, 139, 140, 141, 142, 143, 144, 145, 146] (by decide +kernel) (by decide +kernel)
set_option maxRecDepth 20000 in
theorem gX6_situations_X4_findAll : GoodIn wsX6_situations (wsV RX6 127 RX4 yX4_findAll wsX4_findAll) := goodIn_app (goodIn_of _ (by decide +kernel)) ggX6_situations_X4_findAll
theorem dX6_situations_0 : decode cX6_situations 0 = .ok (.aload_n 0, 1) := by decide +kernel
theorem dX6_situations_1 : decode cX6_situations 1 = .ok (.getfield 28, 3) := by decide +kernel
theorem dX6_situations_4 : decode cX6_situations 4 = .ok (.aload_n 0, 1) := by decide +kernel
theorem dX6_situations_5 : decode cX6_situations 5 = .ok (.getfield 38, 3) := by decide +kernel
theorem dX6_situations_8 : decode cX6_situations 8 = .ok (.invokevirtual 127, 3) := by decide +kernel
theorem dX6_situations_11 : decode cX6_situations 11 = .ok (.aload_n 0, 1) := by decide +kernel
theorem dX6_situations_12 : decode cX6_situations 12 = .ok (.getfield 28, 3) := by decide +kernel
theorem dX6_situations_15 : decode cX6_situations 15 = .ok (.getfield 131, 3) := by decide +kernel
theorem dX6_situations_18 : decode cX6_situations 18 = .ok (.ireturn, 1) := by decide +kernel
set_option maxRecDepth 20000 in
theorem ggX6_safe_X4_findAll : GoodIn wsX6_safe wsX4_findAll := goodIn_r _ [7, 8, 9, 10, 11, 6, 12, 13, 14, 15, 16, 17, 18, 19, 20, 21, 22, 23, 24, 25, 26, 27, 28, 29, 30, 31, 32, 33, 34, 35, 36, 37, 38, 39, 40, 41, 42, 43, 44, 45, 46, 47, 48, 49, 50, 51, 52, 53, 54, 55, 56, 57, 58, 59, 60, 61, 62, 63, 64, 65, 66, 67, 68, 69, 70, 71, 72, 73, 74, 75, 76, 77, 78, 79, 80, 81, 82, 83, 84, 85, 86, 87, 88, 89, 90, 91, 92, 93, 94, 95, 96, 97, 98, 99, 100, 101, 102, 103, 104, 105, 106, 107, 108, 109, 110, 111, 112, 113, 114, 115, 116, 117, 118, 119, 142, 143, 144, 145, 146, 147, 148, 149, 150, 151, 152, 153, 154, 155, 156, 157, 158, 159, 160, 161, 162, 163] (by decide +kernel) (by decide +kernel)
set_option maxRecDepth 20000 in
theorem gX6_safe_X4_findAll : GoodIn wsX6_safe (wsV RX6 127 RX4 yX4_findAll wsX4_findAll) := goodIn_app (goodIn_of _ (by decide +kernel)) ggX6_safe_X4_findAll
set_option maxRecDepth 20000 in
theorem ggX6_safe_X4_allLeadToGoal : GoodIn wsX6_safe wsX4_allLeadToGoal := goodIn_r _ [123, 124, 8, 14, 16, 17, 18, 19, 20, 21, 22, 23, 24, 25, 103, 104, 105, 106, 125, 126, 127, 6, 128, 34, 129, 36, 37, 38, 39, 130, 131, 132, 133, 35, 40, 41, 42, 43, 44, 45, 46, 47, 48, 49, 50, 51, 52, 53, 54, 55, 56, 57, 58, 59, 60, 61, 62, 63, 64, 65, 66, 67, 68, 69, 70, 71, 72, 73, 74, 75, 76, 77, 78, 79, 80, 81, 82, 83, 84, 85, 86, 87, 88, 89, 90, 91, 92, 93, 94, 95, 96, 97, 134, 135, 136, 137, 107, 108, 109, 110, 111, 112, 113, 114, 115, 116, 117, 118, 119, 26, 27, 28, 29, 142, 143, 144, 145, 146, 147, 148, 149, 150, 151, 152, 153, 154, 155, 156, 157, 158, 159, 160, 161, 162, 163] (by decide +kernel) (by decide +kernel)
set_option maxRecDepth 20000 in
theorem gX6_safe_X4_allLeadToGoal : GoodIn wsX6_safe (wsV RX6 134 RX4 yX4_allLeadToGoal wsX4_allLeadToGoal) := goodIn_app (goodIn_of _ (by decide +kernel)) ggX6_safe_X4_allLeadToGoal
theorem dX6_safe_0 : decode cX6_safe 0 = .ok (.aload_n 0, 1) := by decide +kernel
theorem dX6_safe_1 : decode cX6_safe 1 = .ok (.getfield 28, 3) := by decide +kernel
theorem dX6_safe_4 : decode cX6_safe 4 = .ok (.aload_n 0, 1) := by decide +kernel
theorem dX6_safe_5 : decode cX6_safe 5 = .ok (.getfield 38, 3) := by decide +kernel
theorem dX6_safe_8 : decode cX6_safe 8 = .ok (.invokevirtual 127, 3) := by decide +kernel
theorem dX6_safe_11 : decode cX6_safe 11 = .ok (.aload_n 0, 1) := by decide +kernel
theorem dX6_safe_12 : decode cX6_safe 12 = .ok (.getfield 28, 3) := by decide +kernel
theorem dX6_safe_15 : decode cX6_safe 15 = .ok (.invokevirtual 134, 3) := by decide +kernel
theorem dX6_safe_18 : decode cX6_safe 18 = .ok (.ireturn, 1) := by decide +kernel
theorem dX6_isWithin_0 : decode cX6_isWithin 0 = .ok (.iload_n 0, 1) := by decide +kernel
theorem dX6_isWithin_1 : decode cX6_isWithin 1 = .ok (.iload_n 1, 1) := by decide +kernel
theorem dX6_isWithin_2 : decode cX6_isWithin 2 = .ok (.if_icmp .lt 12, 3) := by decide +kernel
theorem dX6_isWithin_5 : decode cX6_isWithin 5 = .ok (.iload_n 0, 1) := by decide +kernel
theorem dX6_isWithin_6 : decode cX6_isWithin 6 = .ok (.iload_n 2, 1) := by decide +kernel
theorem dX6_isWithin_7 : decode cX6_isWithin 7 = .ok (.if_icmp .gt 7, 3) := by decide +kernel
theorem dX6_isWithin_10 : decode cX6_isWithin 10 = .ok (.iconst 1, 1) := by decide +kernel
theorem dX6_isWithin_11 : decode cX6_isWithin 11 = .ok (.goto 4, 3) := by decide +kernel
theorem dX6_isWithin_14 : decode cX6_isWithin 14 = .ok (.iconst 0, 1) := by decide +kernel
theorem dX6_isWithin_15 : decode cX6_isWithin 15 = .ok (.ireturn, 1) := by decide +kernel
set_option maxRecDepth 20000 in
theorem ggX7_init_X7_make : GoodIn wsX7_init wsX7_make := goodIn_r _ [21, 22, 23, 15, 6, 24, 25, 26, 27, 20, 28, 5, 7, 9, 10, 11, 13, 14, 29, 30, 31, 32, 33, 34, 35, 36, 37, 38, 39, 40, 41, 42, 43, 44, 45, 46, 47, 48, 8, 49, 50, 51, 52, 53, 54, 55, 56, 57, 58, 59, 60, 61, 62, 63, 64, 65, 66, 67, 68, 69, 70, 71, 72, 73, 74, 75, 76, 77, 78, 79, 80, 81, 82, 83, 84, 85, 86, 87, 88, 89, 90] (by decide +kernel) (by decide +kernel)
set_option maxRecDepth 20000 in
theorem gX7_init_X7_make : GoodIn wsX7_init (wsV RX7 44 RX7 yX7_make wsX7_make) := goodIn_app (goodIn_of _ (by decide +kernel)) ggX7_init_X7_make
theorem dX7_init_0 : decode cX7_init 0 = .ok (.aload_n 0, 1) := by decide +kernel
theorem dX7_init_1 : decode cX7_init 1 = .ok (.invokespecial 1, 3) := by decide +kernel
theorem dX7_init_4 : decode cX7_init 4 = .ok (.aload_n 0, 1) := by decide +kernel
theorem dX7_init_5 : decode cX7_init 5 = .ok (.bipush 12, 2) := by decide +kernel
theorem dX7_init_7 : decode cX7_init 7 = .ok (.newarray .int, 2) := by decide +kernel
theorem dX7_init_9 : decode cX7_init 9 = .ok (.putfield 7, 3) := by decide +kernel
theorem dX7_init_12 : decode cX7_init 12 = .ok (.aload_n 0, 1) := by decide +kernel
theorem dX7_init_13 : decode cX7_init 13 = .ok (.bipush 12, 2) := by decide +kernel
theorem dX7_init_15 : decode cX7_init 15 = .ok (.newarray .int, 2) := by decide +kernel
theorem dX7_init_17 : decode cX7_init 17 = .ok (.putfield 13, 3) := by decide +kernel
theorem dX7_init_20 : decode cX7_init 20 = .ok (.aload_n 0, 1) := by decide +kernel
theorem dX7_init_21 : decode cX7_init 21 = .ok (.bipush 12, 2) := by decide +kernel
theorem dX7_init_23 : decode cX7_init 23 = .ok (.newarray .int, 2) := by decide +kernel
theorem dX7_init_25 : decode cX7_init 25 = .ok (.putfield 16, 3) := by decide +kernel
theorem dX7_init_28 : decode cX7_init 28 = .ok (.aload_n 0, 1) := by decide +kernel
theorem dX7_init_29 : decode cX7_init 29 = .ok (.bipush 12, 2) := by decide +kernel
theorem dX7_init_31 : decode cX7_init 31 = .ok (.newarray .int, 2) := by decide +kernel
theorem dX7_init_33 : decode cX7_init 33 = .ok (.putfield 19, 3) := by decide +kernel
theorem dX7_init_36 : decode cX7_init 36 = .ok (.aload_n 0, 1) := by decide +kernel
theorem dX7_init_37 : decode cX7_init 37 = .ok (.bipush 12, 2) := by decide +kernel
theorem dX7_init_39 : decode cX7_init 39 = .ok (.newarray .int, 2) := by decide +kernel
theorem dX7_init_41 : decode cX7_init 41 = .ok (.putfield 22, 3) := by decide +kernel
theorem dX7_init_44 : decode cX7_init 44 = .ok (.aload_n 0, 1) := by decide +kernel
theorem dX7_init_45 : decode cX7_init 45 = .ok (.bipush 12, 2) := by decide +kernel
theorem dX7_init_47 : decode cX7_init 47 = .ok (.newarray .int, 2) := by decide +kernel
theorem dX7_init_49 : decode cX7_init 49 = .ok (.putfield 25, 3) := by decide +kernel
theorem dX7_init_52 : decode cX7_init 52 = .ok (.aload_n 0, 1) := by decide +kernel
theorem dX7_init_53 : decode cX7_init 53 = .ok (.bipush 12, 2) := by decide +kernel
theorem dX7_init_55 : decode cX7_init 55 = .ok (.newarray .int, 2) := by decide +kernel
theorem dX7_init_57 : decode cX7_init 57 = .ok (.putfield 28, 3) := by decide +kernel
theorem dX7_init_60 : decode cX7_init 60 = .ok (.aload_n 0, 1) := by decide +kernel
theorem dX7_init_61 : decode cX7_init 61 = .ok (.bipush 12, 2) := by decide +kernel
theorem dX7_init_63 : decode cX7_init 63 = .ok (.newarray .boolean, 2) := by decide +kernel
theorem dX7_init_65 : decode cX7_init 65 = .ok (.putfield 31, 3) := by decide +kernel
theorem dX7_init_68 : decode cX7_init 68 = .ok (.aload_n 0, 1) := by decide +kernel
theorem dX7_init_69 : decode cX7_init 69 = .ok (.sipush 144, 3) := by decide +kernel
theorem dX7_init_72 : decode cX7_init 72 = .ok (.newarray .boolean, 2) := by decide +kernel
theorem dX7_init_74 : decode cX7_init 74 = .ok (.putfield 35, 3) := by decide +kernel
theorem dX7_init_77 : decode cX7_init 77 = .ok (.aload_n 0, 1) := by decide +kernel
theorem dX7_init_78 : decode cX7_init 78 = .ok (.bipush 12, 2) := by decide +kernel
theorem dX7_init_80 : decode cX7_init 80 = .ok (.newarray .boolean, 2) := by decide +kernel
theorem dX7_init_82 : decode cX7_init 82 = .ok (.putfield 38, 3) := by decide +kernel
theorem dX7_init_85 : decode cX7_init 85 = .ok (.aload_n 0, 1) := by decide +kernel
theorem dX7_init_86 : decode cX7_init 86 = .ok (.sipush 12288, 3) := by decide +kernel
theorem dX7_init_89 : decode cX7_init 89 = .ok (.newarray .int, 2) := by decide +kernel
theorem dX7_init_91 : decode cX7_init 91 = .ok (.putfield 41, 3) := by decide +kernel
theorem dX7_init_94 : decode cX7_init 94 = .ok (.aload_n 0, 1) := by decide +kernel
theorem dX7_init_95 : decode cX7_init 95 = .ok (.lconst 0, 1) := by decide +kernel
theorem dX7_init_96 : decode cX7_init 96 = .ok (.iconst 2, 1) := by decide +kernel
theorem dX7_init_97 : decode cX7_init 97 = .ok (.iconst 1, 1) := by decide +kernel
theorem dX7_init_98 : decode cX7_init 98 = .ok (.iconst 0, 1) := by decide +kernel
theorem dX7_init_99 : decode cX7_init 99 = .ok (.iconst 0, 1) := by decide +kernel
theorem dX7_init_100 : decode cX7_init 100 = .ok (.invokevirtual 44, 3) := by decide +kernel
theorem dX7_init_103 : decode cX7_init 103 = .ok (.istore_n 1, 1) := by decide +kernel
theorem dX7_init_104 : decode cX7_init 104 = .ok (.return_, 1) := by decide +kernel
theorem dX7_draw_0 : decode cX7_draw 0 = .ok (.aload_n 0, 1) := by decide +kernel
theorem dX7_draw_1 : decode cX7_draw 1 = .ok (.aload_n 0, 1) := by decide +kernel
theorem dX7_draw_2 : decode cX7_draw 2 = .ok (.getfield 48, 3) := by decide +kernel
theorem dX7_draw_5 : decode cX7_draw 5 = .ok (.ldc2_w 52, 3) := by decide +kernel
theorem dX7_draw_8 : decode cX7_draw 8 = .ok (.lmul, 1) := by decide +kernel
theorem dX7_draw_9 : decode cX7_draw 9 = .ok (.ldc2_w 54, 3) := by decide +kernel
theorem dX7_draw_12 : decode cX7_draw 12 = .ok (.ladd, 1) := by decide +kernel
theorem dX7_draw_13 : decode cX7_draw 13 = .ok (.putfield 48, 3) := by decide +kernel
theorem dX7_draw_16 : decode cX7_draw 16 = .ok (.aload_n 0, 1) := by decide +kernel
theorem dX7_draw_17 : decode cX7_draw 17 = .ok (.getfield 48, 3) := by decide +kernel
theorem dX7_draw_20 : decode cX7_draw 20 = .ok (.bipush 33, 2) := by decide +kernel
theorem dX7_draw_22 : decode cX7_draw 22 = .ok (.lushr, 1) := by decide +kernel
theorem dX7_draw_23 : decode cX7_draw 23 = .ok (.iload_n 1, 1) := by decide +kernel
theorem dX7_draw_24 : decode cX7_draw 24 = .ok (.i2l, 1) := by decide +kernel
theorem dX7_draw_25 : decode cX7_draw 25 = .ok (.lrem, 1) := by decide +kernel
theorem dX7_draw_26 : decode cX7_draw 26 = .ok (.l2i, 1) := by decide +kernel
theorem dX7_draw_27 : decode cX7_draw 27 = .ok (.ireturn, 1) := by decide +kernel
set_option maxRecDepth 20000 in
theorem ggX7_drawn_X7_draw : GoodIn wsX7_drawn wsX7_draw := goodIn_r _ [7, 8, 9, 10, 11, 12, 13, 14, 15, 16, 17, 18, 19, 20, 21, 22, 23, 24, 25, 26, 27, 28] (by decide +kernel) (by decide +kernel)
set_option maxRecDepth 20000 in
theorem gX7_drawn_X7_draw : GoodIn wsX7_drawn (wsV RX7 60 RX7 yX7_draw wsX7_draw) := goodIn_app (goodIn_of _ (by decide +kernel)) ggX7_drawn_X7_draw
theorem dX7_drawn_0 : decode cX7_drawn 0 = .ok (.iconst 0, 1) := by decide +kernel
theorem dX7_drawn_1 : decode cX7_drawn 1 = .ok (.istore_n 1, 1) := by decide +kernel
theorem dX7_drawn_2 : decode cX7_drawn 2 = .ok (.iconst 0, 1) := by decide +kernel
theorem dX7_drawn_3 : decode cX7_drawn 3 = .ok (.istore_n 2, 1) := by decide +kernel
theorem dX7_drawn_4 : decode cX7_drawn 4 = .ok (.iload_n 2, 1) := by decide +kernel
theorem dX7_drawn_5 : decode cX7_drawn 5 = .ok (.aload_n 0, 1) := by decide +kernel
theorem dX7_drawn_6 : decode cX7_drawn 6 = .ok (.getfield 56, 3) := by decide +kernel
theorem dX7_drawn_9 : decode cX7_drawn 9 = .ok (.if_icmp .ge 26, 3) := by decide +kernel
theorem dX7_drawn_12 : decode cX7_drawn 12 = .ok (.aload_n 0, 1) := by decide +kernel
theorem dX7_drawn_13 : decode cX7_drawn 13 = .ok (.getfield 38, 3) := by decide +kernel
theorem dX7_drawn_16 : decode cX7_drawn 16 = .ok (.iload_n 2, 1) := by decide +kernel
theorem dX7_drawn_17 : decode cX7_drawn 17 = .ok (.baload, 1) := by decide +kernel
theorem dX7_drawn_18 : decode cX7_drawn 18 = .ok (.ifCond .eq 9, 3) := by decide +kernel
theorem dX7_drawn_21 : decode cX7_drawn 21 = .ok (.iload_n 1, 1) := by decide +kernel
theorem dX7_drawn_22 : decode cX7_drawn 22 = .ok (.iconst 1, 1) := by decide +kernel
theorem dX7_drawn_23 : decode cX7_drawn 23 = .ok (.iadd, 1) := by decide +kernel
theorem dX7_drawn_24 : decode cX7_drawn 24 = .ok (.goto 4, 3) := by decide +kernel
theorem dX7_drawn_27 : decode cX7_drawn 27 = .ok (.iload_n 1, 1) := by decide +kernel
theorem dX7_drawn_28 : decode cX7_drawn 28 = .ok (.istore_n 1, 1) := by decide +kernel
theorem dX7_drawn_29 : decode cX7_drawn 29 = .ok (.iinc 2 1, 3) := by decide +kernel
theorem dX7_drawn_32 : decode cX7_drawn 32 = .ok (.goto (-28), 3) := by decide +kernel
theorem dX7_drawn_35 : decode cX7_drawn 35 = .ok (.aload_n 0, 1) := by decide +kernel
theorem dX7_drawn_36 : decode cX7_drawn 36 = .ok (.iload_n 1, 1) := by decide +kernel
theorem dX7_drawn_37 : decode cX7_drawn 37 = .ok (.invokevirtual 60, 3) := by decide +kernel
theorem dX7_drawn_40 : decode cX7_drawn 40 = .ok (.istore_n 2, 1) := by decide +kernel
theorem dX7_drawn_41 : decode cX7_drawn 41 = .ok (.iconst 0, 1) := by decide +kernel
theorem dX7_drawn_42 : decode cX7_drawn 42 = .ok (.istore_n 3, 1) := by decide +kernel
theorem dX7_drawn_43 : decode cX7_drawn 43 = .ok (.iload_n 3, 1) := by decide +kernel
theorem dX7_drawn_44 : decode cX7_drawn 44 = .ok (.aload_n 0, 1) := by decide +kernel
theorem dX7_drawn_45 : decode cX7_drawn 45 = .ok (.getfield 56, 3) := by decide +kernel
theorem dX7_drawn_48 : decode cX7_drawn 48 = .ok (.if_icmp .ge 27, 3) := by decide +kernel
theorem dX7_drawn_51 : decode cX7_drawn 51 = .ok (.aload_n 0, 1) := by decide +kernel
theorem dX7_drawn_52 : decode cX7_drawn 52 = .ok (.getfield 38, 3) := by decide +kernel
theorem dX7_drawn_55 : decode cX7_drawn 55 = .ok (.iload_n 3, 1) := by decide +kernel
theorem dX7_drawn_56 : decode cX7_drawn 56 = .ok (.baload, 1) := by decide +kernel
theorem dX7_drawn_57 : decode cX7_drawn 57 = .ok (.ifCond .eq 12, 3) := by decide +kernel
theorem dX7_drawn_60 : decode cX7_drawn 60 = .ok (.iload_n 2, 1) := by decide +kernel
theorem dX7_drawn_61 : decode cX7_drawn 61 = .ok (.ifCond .ne 5, 3) := by decide +kernel
theorem dX7_drawn_64 : decode cX7_drawn 64 = .ok (.iload_n 3, 1) := by decide +kernel
theorem dX7_drawn_65 : decode cX7_drawn 65 = .ok (.ireturn, 1) := by decide +kernel
theorem dX7_drawn_66 : decode cX7_drawn 66 = .ok (.iinc 2 (-1), 3) := by decide +kernel
theorem dX7_drawn_69 : decode cX7_drawn 69 = .ok (.iinc 3 1, 3) := by decide +kernel
theorem dX7_drawn_72 : decode cX7_drawn 72 = .ok (.goto (-29), 3) := by decide +kernel
theorem dX7_drawn_75 : decode cX7_drawn 75 = .ok (.iconst 0, 1) := by decide +kernel
theorem dX7_drawn_76 : decode cX7_drawn 76 = .ok (.ireturn, 1) := by decide +kernel
set_option maxRecDepth 20000 in
theorem ggX7_makeRooms_X7_drawn : GoodIn wsX7_makeRooms wsX7_drawn := goodIn_r _ [10, 1, 2, 11, 12, 13, 9, 14, 15, 16, 17, 18, 19, 20, 21, 22, 23, 24, 25, 26, 27, 28, 29, 30, 31, 32, 33, 34, 35] (by decide +kernel) (by decide +kernel)
set_option maxRecDepth 20000 in
theorem gX7_makeRooms_X7_drawn : GoodIn wsX7_makeRooms (wsV RX7 64 RX7 yX7_drawn wsX7_drawn) := goodIn_app (goodIn_of _ (by decide +kernel)) ggX7_makeRooms_X7_drawn
set_option maxRecDepth 20000 in
theorem ggX7_makeRooms_X7_draw : GoodIn wsX7_makeRooms wsX7_draw := goodIn_r _ [14, 15, 16, 17, 18, 19, 20, 21, 22, 23, 24, 25, 26, 27, 28, 29, 30, 31, 32, 33, 34, 35] (by decide +kernel) (by decide +kernel)
set_option maxRecDepth 20000 in
theorem gX7_makeRooms_X7_draw : GoodIn wsX7_makeRooms (wsV RX7 60 RX7 yX7_draw wsX7_draw) := goodIn_app (goodIn_of _ (by decide +kernel)) ggX7_makeRooms_X7_draw
theorem dX7_makeRooms_0 : decode cX7_makeRooms 0 = .ok (.iconst 0, 1) := by decide +kernel
theorem dX7_makeRooms_1 : decode cX7_makeRooms 1 = .ok (.istore_n 2, 1) := by decide +kernel
theorem dX7_makeRooms_2 : decode cX7_makeRooms 2 = .ok (.iconst 1, 1) := by decide +kernel
theorem dX7_makeRooms_3 : decode cX7_makeRooms 3 = .ok (.istore_n 3, 1) := by decide +kernel
theorem dX7_makeRooms_4 : decode cX7_makeRooms 4 = .ok (.iload_n 3, 1) := by decide +kernel
theorem dX7_makeRooms_5 : decode cX7_makeRooms 5 = .ok (.aload_n 0, 1) := by decide +kernel
theorem dX7_makeRooms_6 : decode cX7_makeRooms 6 = .ok (.getfield 56, 3) := by decide +kernel
theorem dX7_makeRooms_9 : decode cX7_makeRooms 9 = .ok (.if_icmp .ge 194, 3) := by decide +kernel
theorem dX7_makeRooms_12 : decode cX7_makeRooms 12 = .ok (.aload_n 0, 1) := by decide +kernel
theorem dX7_makeRooms_13 : decode cX7_makeRooms 13 = .ok (.getfield 56, 3) := by decide +kernel
theorem dX7_makeRooms_16 : decode cX7_makeRooms 16 = .ok (.iload_n 3, 1) := by decide +kernel
theorem dX7_makeRooms_17 : decode cX7_makeRooms 17 = .ok (.isub, 1) := by decide +kernel
theorem dX7_makeRooms_18 : decode cX7_makeRooms 18 = .ok (.iload_n 1, 1) := by decide +kernel
theorem dX7_makeRooms_19 : decode cX7_makeRooms 19 = .ok (.iload_n 2, 1) := by decide +kernel
theorem dX7_makeRooms_20 : decode cX7_makeRooms 20 = .ok (.isub, 1) := by decide +kernel
theorem dX7_makeRooms_21 : decode cX7_makeRooms 21 = .ok (.if_icmp .ne 7, 3) := by decide +kernel
theorem dX7_makeRooms_24 : decode cX7_makeRooms 24 = .ok (.iconst 1, 1) := by decide +kernel
theorem dX7_makeRooms_25 : decode cX7_makeRooms 25 = .ok (.goto 4, 3) := by decide +kernel
theorem dX7_makeRooms_28 : decode cX7_makeRooms 28 = .ok (.iconst 0, 1) := by decide +kernel
theorem dX7_makeRooms_29 : decode cX7_makeRooms 29 = .ok (.istore 4, 2) := by decide +kernel
theorem dX7_makeRooms_31 : decode cX7_makeRooms 31 = .ok (.iload 4, 2) := by decide +kernel
theorem dX7_makeRooms_33 : decode cX7_makeRooms 33 = .ok (.ifCond .eq 63, 3) := by decide +kernel
theorem dX7_makeRooms_36 : decode cX7_makeRooms 36 = .ok (.iconst 0, 1) := by decide +kernel
theorem dX7_makeRooms_37 : decode cX7_makeRooms 37 = .ok (.istore 5, 2) := by decide +kernel
theorem dX7_makeRooms_39 : decode cX7_makeRooms 39 = .ok (.iload 5, 2) := by decide +kernel
theorem dX7_makeRooms_41 : decode cX7_makeRooms 41 = .ok (.aload_n 0, 1) := by decide +kernel
theorem dX7_makeRooms_42 : decode cX7_makeRooms 42 = .ok (.getfield 56, 3) := by decide +kernel
theorem dX7_makeRooms_45 : decode cX7_makeRooms 45 = .ok (.if_icmp .ge 38, 3) := by decide +kernel
theorem dX7_makeRooms_48 : decode cX7_makeRooms 48 = .ok (.aload_n 0, 1) := by decide +kernel
theorem dX7_makeRooms_49 : decode cX7_makeRooms 49 = .ok (.getfield 38, 3) := by decide +kernel
theorem dX7_makeRooms_52 : decode cX7_makeRooms 52 = .ok (.iload 5, 2) := by decide +kernel
theorem dX7_makeRooms_54 : decode cX7_makeRooms 54 = .ok (.iload 5, 2) := by decide +kernel
theorem dX7_makeRooms_56 : decode cX7_makeRooms 56 = .ok (.iload_n 3, 1) := by decide +kernel
theorem dX7_makeRooms_57 : decode cX7_makeRooms 57 = .ok (.if_icmp .ge 18, 3) := by decide +kernel
theorem dX7_makeRooms_60 : decode cX7_makeRooms 60 = .ok (.aload_n 0, 1) := by decide +kernel
theorem dX7_makeRooms_61 : decode cX7_makeRooms 61 = .ok (.getfield 13, 3) := by decide +kernel
theorem dX7_makeRooms_64 : decode cX7_makeRooms 64 = .ok (.iload 5, 2) := by decide +kernel
theorem dX7_makeRooms_66 : decode cX7_makeRooms 66 = .ok (.iaload, 1) := by decide +kernel
theorem dX7_makeRooms_67 : decode cX7_makeRooms 67 = .ok (.iload_n 2, 1) := by decide +kernel
theorem dX7_makeRooms_68 : decode cX7_makeRooms 68 = .ok (.if_icmp .ne 7, 3) := by decide +kernel
theorem dX7_makeRooms_71 : decode cX7_makeRooms 71 = .ok (.iconst 1, 1) := by decide +kernel
theorem dX7_makeRooms_72 : decode cX7_makeRooms 72 = .ok (.goto 4, 3) := by decide +kernel
theorem dX7_makeRooms_75 : decode cX7_makeRooms 75 = .ok (.iconst 0, 1) := by decide +kernel
theorem dX7_makeRooms_76 : decode cX7_makeRooms 76 = .ok (.bastore, 1) := by decide +kernel
theorem dX7_makeRooms_77 : decode cX7_makeRooms 77 = .ok (.iinc 5 1, 3) := by decide +kernel
theorem dX7_makeRooms_80 : decode cX7_makeRooms 80 = .ok (.goto (-41), 3) := by decide +kernel
theorem dX7_makeRooms_83 : decode cX7_makeRooms 83 = .ok (.aload_n 0, 1) := by decide +kernel
theorem dX7_makeRooms_84 : decode cX7_makeRooms 84 = .ok (.getfield 7, 3) := by decide +kernel
theorem dX7_makeRooms_87 : decode cX7_makeRooms 87 = .ok (.iload_n 3, 1) := by decide +kernel
theorem dX7_makeRooms_88 : decode cX7_makeRooms 88 = .ok (.aload_n 0, 1) := by decide +kernel
theorem dX7_makeRooms_89 : decode cX7_makeRooms 89 = .ok (.invokevirtual 64, 3) := by decide +kernel
theorem dX7_makeRooms_92 : decode cX7_makeRooms 92 = .ok (.iastore, 1) := by decide +kernel
theorem dX7_makeRooms_93 : decode cX7_makeRooms 93 = .ok (.goto 49, 3) := by decide +kernel
theorem dX7_makeRooms_96 : decode cX7_makeRooms 96 = .ok (.aload_n 0, 1) := by decide +kernel
theorem dX7_makeRooms_97 : decode cX7_makeRooms 97 = .ok (.getfield 7, 3) := by decide +kernel
theorem dX7_makeRooms_100 : decode cX7_makeRooms 100 = .ok (.iload_n 3, 1) := by decide +kernel
theorem dX7_makeRooms_101 : decode cX7_makeRooms 101 = .ok (.aload_n 0, 1) := by decide +kernel
theorem dX7_makeRooms_102 : decode cX7_makeRooms 102 = .ok (.iload_n 3, 1) := by decide +kernel
theorem dX7_makeRooms_103 : decode cX7_makeRooms 103 = .ok (.invokevirtual 60, 3) := by decide +kernel
theorem dX7_makeRooms_106 : decode cX7_makeRooms 106 = .ok (.iastore, 1) := by decide +kernel
theorem dX7_makeRooms_107 : decode cX7_makeRooms 107 = .ok (.aload_n 0, 1) := by decide +kernel
theorem dX7_makeRooms_108 : decode cX7_makeRooms 108 = .ok (.getfield 13, 3) := by decide +kernel
theorem dX7_makeRooms_111 : decode cX7_makeRooms 111 = .ok (.aload_n 0, 1) := by decide +kernel
theorem dX7_makeRooms_112 : decode cX7_makeRooms 112 = .ok (.getfield 7, 3) := by decide +kernel
theorem dX7_makeRooms_115 : decode cX7_makeRooms 115 = .ok (.iload_n 3, 1) := by decide +kernel
theorem dX7_makeRooms_116 : decode cX7_makeRooms 116 = .ok (.iaload, 1) := by decide +kernel
theorem dX7_makeRooms_117 : decode cX7_makeRooms 117 = .ok (.iaload, 1) := by decide +kernel
theorem dX7_makeRooms_118 : decode cX7_makeRooms 118 = .ok (.iload_n 2, 1) := by decide +kernel
theorem dX7_makeRooms_119 : decode cX7_makeRooms 119 = .ok (.if_icmp .ne 23, 3) := by decide +kernel
theorem dX7_makeRooms_122 : decode cX7_makeRooms 122 = .ok (.iload_n 2, 1) := by decide +kernel
theorem dX7_makeRooms_123 : decode cX7_makeRooms 123 = .ok (.iload_n 1, 1) := by decide +kernel
theorem dX7_makeRooms_124 : decode cX7_makeRooms 124 = .ok (.if_icmp .ge 18, 3) := by decide +kernel
theorem dX7_makeRooms_127 : decode cX7_makeRooms 127 = .ok (.aload_n 0, 1) := by decide +kernel
theorem dX7_makeRooms_128 : decode cX7_makeRooms 128 = .ok (.iconst 4, 1) := by decide +kernel
theorem dX7_makeRooms_129 : decode cX7_makeRooms 129 = .ok (.invokevirtual 60, 3) := by decide +kernel
theorem dX7_makeRooms_132 : decode cX7_makeRooms 132 = .ok (.ifCond .ne 7, 3) := by decide +kernel
theorem dX7_makeRooms_135 : decode cX7_makeRooms 135 = .ok (.iconst 1, 1) := by decide +kernel
theorem dX7_makeRooms_136 : decode cX7_makeRooms 136 = .ok (.goto 4, 3) := by decide +kernel
theorem dX7_makeRooms_139 : decode cX7_makeRooms 139 = .ok (.iconst 0, 1) := by decide +kernel
theorem dX7_makeRooms_140 : decode cX7_makeRooms 140 = .ok (.istore 4, 2) := by decide +kernel
theorem dX7_makeRooms_142 : decode cX7_makeRooms 142 = .ok (.iload 4, 2) := by decide +kernel
theorem dX7_makeRooms_144 : decode cX7_makeRooms 144 = .ok (.ifCond .eq 9, 3) := by decide +kernel
theorem dX7_makeRooms_147 : decode cX7_makeRooms 147 = .ok (.iload_n 2, 1) := by decide +kernel
theorem dX7_makeRooms_148 : decode cX7_makeRooms 148 = .ok (.iconst 1, 1) := by decide +kernel
theorem dX7_makeRooms_149 : decode cX7_makeRooms 149 = .ok (.iadd, 1) := by decide +kernel
theorem dX7_makeRooms_150 : decode cX7_makeRooms 150 = .ok (.goto 4, 3) := by decide +kernel
theorem dX7_makeRooms_153 : decode cX7_makeRooms 153 = .ok (.iload_n 2, 1) := by decide +kernel
theorem dX7_makeRooms_154 : decode cX7_makeRooms 154 = .ok (.istore_n 2, 1) := by decide +kernel
theorem dX7_makeRooms_155 : decode cX7_makeRooms 155 = .ok (.aload_n 0, 1) := by decide +kernel
theorem dX7_makeRooms_156 : decode cX7_makeRooms 156 = .ok (.getfield 13, 3) := by decide +kernel
theorem dX7_makeRooms_159 : decode cX7_makeRooms 159 = .ok (.iload_n 3, 1) := by decide +kernel
theorem dX7_makeRooms_160 : decode cX7_makeRooms 160 = .ok (.iload 4, 2) := by decide +kernel
theorem dX7_makeRooms_162 : decode cX7_makeRooms 162 = .ok (.ifCond .eq 7, 3) := by decide +kernel
theorem dX7_makeRooms_165 : decode cX7_makeRooms 165 = .ok (.iload_n 2, 1) := by decide +kernel
theorem dX7_makeRooms_166 : decode cX7_makeRooms 166 = .ok (.goto 14, 3) := by decide +kernel
theorem dX7_makeRooms_169 : decode cX7_makeRooms 169 = .ok (.aload_n 0, 1) := by decide +kernel
theorem dX7_makeRooms_170 : decode cX7_makeRooms 170 = .ok (.getfield 13, 3) := by decide +kernel
theorem dX7_makeRooms_173 : decode cX7_makeRooms 173 = .ok (.aload_n 0, 1) := by decide +kernel
theorem dX7_makeRooms_174 : decode cX7_makeRooms 174 = .ok (.getfield 7, 3) := by decide +kernel
theorem dX7_makeRooms_177 : decode cX7_makeRooms 177 = .ok (.iload_n 3, 1) := by decide +kernel
theorem dX7_makeRooms_178 : decode cX7_makeRooms 178 = .ok (.iaload, 1) := by decide +kernel
theorem dX7_makeRooms_179 : decode cX7_makeRooms 179 = .ok (.iaload, 1) := by decide +kernel
theorem dX7_makeRooms_180 : decode cX7_makeRooms 180 = .ok (.iastore, 1) := by decide +kernel
theorem dX7_makeRooms_181 : decode cX7_makeRooms 181 = .ok (.aload_n 0, 1) := by decide +kernel
theorem dX7_makeRooms_182 : decode cX7_makeRooms 182 = .ok (.getfield 16, 3) := by decide +kernel
theorem dX7_makeRooms_185 : decode cX7_makeRooms 185 = .ok (.iload_n 3, 1) := by decide +kernel
theorem dX7_makeRooms_186 : decode cX7_makeRooms 186 = .ok (.iload 4, 2) := by decide +kernel
theorem dX7_makeRooms_188 : decode cX7_makeRooms 188 = .ok (.ifCond .eq 7, 3) := by decide +kernel
theorem dX7_makeRooms_191 : decode cX7_makeRooms 191 = .ok (.iconst 1, 1) := by decide +kernel
theorem dX7_makeRooms_192 : decode cX7_makeRooms 192 = .ok (.goto 4, 3) := by decide +kernel
theorem dX7_makeRooms_195 : decode cX7_makeRooms 195 = .ok (.iconst 0, 1) := by decide +kernel
theorem dX7_makeRooms_196 : decode cX7_makeRooms 196 = .ok (.iastore, 1) := by decide +kernel
theorem dX7_makeRooms_197 : decode cX7_makeRooms 197 = .ok (.iinc 3 1, 3) := by decide +kernel
theorem dX7_makeRooms_200 : decode cX7_makeRooms 200 = .ok (.goto (-196), 3) := by decide +kernel
theorem dX7_makeRooms_203 : decode cX7_makeRooms 203 = .ok (.return_, 1) := by decide +kernel
theorem dX7_choosePlain_0 : decode cX7_choosePlain 0 = .ok (.iconst 0, 1) := by decide +kernel
theorem dX7_choosePlain_1 : decode cX7_choosePlain 1 = .ok (.istore_n 1, 1) := by decide +kernel
theorem dX7_choosePlain_2 : decode cX7_choosePlain 2 = .ok (.iconst 0, 1) := by decide +kernel
theorem dX7_choosePlain_3 : decode cX7_choosePlain 3 = .ok (.istore_n 2, 1) := by decide +kernel
theorem dX7_choosePlain_4 : decode cX7_choosePlain 4 = .ok (.iload_n 2, 1) := by decide +kernel
theorem dX7_choosePlain_5 : decode cX7_choosePlain 5 = .ok (.aload_n 0, 1) := by decide +kernel
theorem dX7_choosePlain_6 : decode cX7_choosePlain 6 = .ok (.getfield 56, 3) := by decide +kernel
theorem dX7_choosePlain_9 : decode cX7_choosePlain 9 = .ok (.if_icmp .ge 52, 3) := by decide +kernel
theorem dX7_choosePlain_12 : decode cX7_choosePlain 12 = .ok (.aload_n 0, 1) := by decide +kernel
theorem dX7_choosePlain_13 : decode cX7_choosePlain 13 = .ok (.getfield 38, 3) := by decide +kernel
theorem dX7_choosePlain_16 : decode cX7_choosePlain 16 = .ok (.iload_n 2, 1) := by decide +kernel
theorem dX7_choosePlain_17 : decode cX7_choosePlain 17 = .ok (.iload_n 2, 1) := by decide +kernel
theorem dX7_choosePlain_18 : decode cX7_choosePlain 18 = .ok (.ifCond .le 16, 3) := by decide +kernel
theorem dX7_choosePlain_21 : decode cX7_choosePlain 21 = .ok (.aload_n 0, 1) := by decide +kernel
theorem dX7_choosePlain_22 : decode cX7_choosePlain 22 = .ok (.getfield 16, 3) := by decide +kernel
theorem dX7_choosePlain_25 : decode cX7_choosePlain 25 = .ok (.iload_n 2, 1) := by decide +kernel
theorem dX7_choosePlain_26 : decode cX7_choosePlain 26 = .ok (.iaload, 1) := by decide +kernel
theorem dX7_choosePlain_27 : decode cX7_choosePlain 27 = .ok (.ifCond .ne 7, 3) := by decide +kernel
theorem dX7_choosePlain_30 : decode cX7_choosePlain 30 = .ok (.iconst 1, 1) := by decide +kernel
theorem dX7_choosePlain_31 : decode cX7_choosePlain 31 = .ok (.goto 4, 3) := by decide +kernel
theorem dX7_choosePlain_34 : decode cX7_choosePlain 34 = .ok (.iconst 0, 1) := by decide +kernel
theorem dX7_choosePlain_35 : decode cX7_choosePlain 35 = .ok (.bastore, 1) := by decide +kernel
theorem dX7_choosePlain_36 : decode cX7_choosePlain 36 = .ok (.iload_n 1, 1) := by decide +kernel
theorem dX7_choosePlain_37 : decode cX7_choosePlain 37 = .ok (.ifCond .ne 12, 3) := by decide +kernel
theorem dX7_choosePlain_40 : decode cX7_choosePlain 40 = .ok (.aload_n 0, 1) := by decide +kernel
theorem dX7_choosePlain_41 : decode cX7_choosePlain 41 = .ok (.getfield 38, 3) := by decide +kernel
theorem dX7_choosePlain_44 : decode cX7_choosePlain 44 = .ok (.iload_n 2, 1) := by decide +kernel
theorem dX7_choosePlain_45 : decode cX7_choosePlain 45 = .ok (.baload, 1) := by decide +kernel
theorem dX7_choosePlain_46 : decode cX7_choosePlain 46 = .ok (.ifCond .eq 7, 3) := by decide +kernel
theorem dX7_choosePlain_49 : decode cX7_choosePlain 49 = .ok (.iconst 1, 1) := by decide +kernel
theorem dX7_choosePlain_50 : decode cX7_choosePlain 50 = .ok (.goto 4, 3) := by decide +kernel
theorem dX7_choosePlain_53 : decode cX7_choosePlain 53 = .ok (.iconst 0, 1) := by decide +kernel
theorem dX7_choosePlain_54 : decode cX7_choosePlain 54 = .ok (.istore_n 1, 1) := by decide +kernel
theorem dX7_choosePlain_55 : decode cX7_choosePlain 55 = .ok (.iinc 2 1, 3) := by decide +kernel
theorem dX7_choosePlain_58 : decode cX7_choosePlain 58 = .ok (.goto (-54), 3) := by decide +kernel
theorem dX7_choosePlain_61 : decode cX7_choosePlain 61 = .ok (.iload_n 1, 1) := by decide +kernel
theorem dX7_choosePlain_62 : decode cX7_choosePlain 62 = .ok (.ireturn, 1) := by decide +kernel
theorem dX7_open_0 : decode cX7_open 0 = .ok (.iload_n 1, 1) := by decide +kernel
theorem dX7_open_1 : decode cX7_open 1 = .ok (.istore_n 2, 1) := by decide +kernel
theorem dX7_open_2 : decode cX7_open 2 = .ok (.iload_n 2, 1) := by decide +kernel
theorem dX7_open_3 : decode cX7_open 3 = .ok (.ifCond .le 23, 3) := by decide +kernel
theorem dX7_open_6 : decode cX7_open 6 = .ok (.aload_n 0, 1) := by decide +kernel
theorem dX7_open_7 : decode cX7_open 7 = .ok (.getfield 16, 3) := by decide +kernel
theorem dX7_open_10 : decode cX7_open 10 = .ok (.iload_n 2, 1) := by decide +kernel
theorem dX7_open_11 : decode cX7_open 11 = .ok (.iaload, 1) := by decide +kernel
theorem dX7_open_12 : decode cX7_open 12 = .ok (.iconst 2, 1) := by decide +kernel
theorem dX7_open_13 : decode cX7_open 13 = .ok (.if_icmp .eq 13, 3) := by decide +kernel
theorem dX7_open_16 : decode cX7_open 16 = .ok (.aload_n 0, 1) := by decide +kernel
theorem dX7_open_17 : decode cX7_open 17 = .ok (.getfield 7, 3) := by decide +kernel
theorem dX7_open_20 : decode cX7_open 20 = .ok (.iload_n 2, 1) := by decide +kernel
theorem dX7_open_21 : decode cX7_open 21 = .ok (.iaload, 1) := by decide +kernel
theorem dX7_open_22 : decode cX7_open 22 = .ok (.istore_n 2, 1) := by decide +kernel
theorem dX7_open_23 : decode cX7_open 23 = .ok (.goto (-21), 3) := by decide +kernel
theorem dX7_open_26 : decode cX7_open 26 = .ok (.iload_n 2, 1) := by decide +kernel
theorem dX7_open_27 : decode cX7_open 27 = .ok (.ifCond .ne 7, 3) := by decide +kernel
theorem dX7_open_30 : decode cX7_open 30 = .ok (.iconst 1, 1) := by decide +kernel
theorem dX7_open_31 : decode cX7_open 31 = .ok (.goto 4, 3) := by decide +kernel
theorem dX7_open_34 : decode cX7_open 34 = .ok (.iconst 0, 1) := by decide +kernel
theorem dX7_open_35 : decode cX7_open 35 = .ok (.ireturn, 1) := by decide +kernel
set_option maxRecDepth 20000 in
theorem ggX7_makeKeys_X7_drawn : GoodIn wsX7_makeKeys wsX7_drawn := goodIn_r _ [12, 1, 2, 13, 14, 15, 11, 16, 17, 18, 19, 29, 30, 31, 32, 33, 34, 35, 36, 37, 38, 39, 40, 41, 42, 43, 44, 45, 46] (by decide +kernel) (by decide +kernel)
set_option maxRecDepth 20000 in
theorem gX7_makeKeys_X7_drawn : GoodIn wsX7_makeKeys (wsV RX7 64 RX7 yX7_drawn wsX7_drawn) := goodIn_app (goodIn_of _ (by decide +kernel)) ggX7_makeKeys_X7_drawn
set_option maxRecDepth 20000 in
theorem ggX7_makeKeys_X7_choosePlain : GoodIn wsX7_makeKeys wsX7_choosePlain := goodIn_r _ [23, 1, 2, 5, 29, 30, 31, 32, 33, 34, 35, 36, 37, 38, 39, 40, 41, 42, 43, 44, 45, 46] (by decide +kernel) (by decide +kernel)
set_option maxRecDepth 20000 in
theorem gX7_makeKeys_X7_choosePlain : GoodIn wsX7_makeKeys (wsV RX7 68 RX7 yX7_choosePlain wsX7_choosePlain) := goodIn_app (goodIn_of _ (by decide +kernel)) ggX7_makeKeys_X7_choosePlain
set_option maxRecDepth 20000 in
theorem ggX7_makeKeys_X7_open : GoodIn wsX7_makeKeys wsX7_open := goodIn_r _ [27, 5, 28, 29, 30, 31, 32, 33, 34, 35, 36, 37, 38, 39, 40, 41, 42, 43, 44, 45, 46] (by decide +kernel) (by decide +kernel)
set_option maxRecDepth 20000 in
theorem gX7_makeKeys_X7_open : GoodIn wsX7_makeKeys (wsV RX7 75 RX7 yX7_open wsX7_open) := goodIn_app (goodIn_of _ (by decide +kernel)) ggX7_makeKeys_X7_open
theorem dX7_makeKeys_0 : decode cX7_makeKeys 0 = .ok (.iconst 1, 1) := by decide +kernel
theorem dX7_makeKeys_1 : decode cX7_makeKeys 1 = .ok (.istore_n 3, 1) := by decide +kernel
theorem dX7_makeKeys_2 : decode cX7_makeKeys 2 = .ok (.iload_n 3, 1) := by decide +kernel
theorem dX7_makeKeys_3 : decode cX7_makeKeys 3 = .ok (.iload_n 1, 1) := by decide +kernel
theorem dX7_makeKeys_4 : decode cX7_makeKeys 4 = .ok (.if_icmp .gt 76, 3) := by decide +kernel
theorem dX7_makeKeys_7 : decode cX7_makeKeys 7 = .ok (.iconst 0, 1) := by decide +kernel
theorem dX7_makeKeys_8 : decode cX7_makeKeys 8 = .ok (.istore 4, 2) := by decide +kernel
theorem dX7_makeKeys_10 : decode cX7_makeKeys 10 = .ok (.iload 4, 2) := by decide +kernel
theorem dX7_makeKeys_12 : decode cX7_makeKeys 12 = .ok (.aload_n 0, 1) := by decide +kernel
theorem dX7_makeKeys_13 : decode cX7_makeKeys 13 = .ok (.getfield 56, 3) := by decide +kernel
theorem dX7_makeKeys_16 : decode cX7_makeKeys 16 = .ok (.if_icmp .ge 32, 3) := by decide +kernel
theorem dX7_makeKeys_19 : decode cX7_makeKeys 19 = .ok (.aload_n 0, 1) := by decide +kernel
theorem dX7_makeKeys_20 : decode cX7_makeKeys 20 = .ok (.getfield 38, 3) := by decide +kernel
theorem dX7_makeKeys_23 : decode cX7_makeKeys 23 = .ok (.iload 4, 2) := by decide +kernel
theorem dX7_makeKeys_25 : decode cX7_makeKeys 25 = .ok (.aload_n 0, 1) := by decide +kernel
theorem dX7_makeKeys_26 : decode cX7_makeKeys 26 = .ok (.getfield 13, 3) := by decide +kernel
theorem dX7_makeKeys_29 : decode cX7_makeKeys 29 = .ok (.iload 4, 2) := by decide +kernel
theorem dX7_makeKeys_31 : decode cX7_makeKeys 31 = .ok (.iaload, 1) := by decide +kernel
theorem dX7_makeKeys_32 : decode cX7_makeKeys 32 = .ok (.iload_n 3, 1) := by decide +kernel
theorem dX7_makeKeys_33 : decode cX7_makeKeys 33 = .ok (.if_icmp .ge 7, 3) := by decide +kernel
theorem dX7_makeKeys_36 : decode cX7_makeKeys 36 = .ok (.iconst 1, 1) := by decide +kernel
theorem dX7_makeKeys_37 : decode cX7_makeKeys 37 = .ok (.goto 4, 3) := by decide +kernel
theorem dX7_makeKeys_40 : decode cX7_makeKeys 40 = .ok (.iconst 0, 1) := by decide +kernel
theorem dX7_makeKeys_41 : decode cX7_makeKeys 41 = .ok (.bastore, 1) := by decide +kernel
theorem dX7_makeKeys_42 : decode cX7_makeKeys 42 = .ok (.iinc 4 1, 3) := by decide +kernel
theorem dX7_makeKeys_45 : decode cX7_makeKeys 45 = .ok (.goto (-35), 3) := by decide +kernel
theorem dX7_makeKeys_48 : decode cX7_makeKeys 48 = .ok (.aload_n 0, 1) := by decide +kernel
theorem dX7_makeKeys_49 : decode cX7_makeKeys 49 = .ok (.invokevirtual 64, 3) := by decide +kernel
theorem dX7_makeKeys_52 : decode cX7_makeKeys 52 = .ok (.istore 4, 2) := by decide +kernel
theorem dX7_makeKeys_54 : decode cX7_makeKeys 54 = .ok (.aload_n 0, 1) := by decide +kernel
theorem dX7_makeKeys_55 : decode cX7_makeKeys 55 = .ok (.getfield 28, 3) := by decide +kernel
theorem dX7_makeKeys_58 : decode cX7_makeKeys 58 = .ok (.iload 4, 2) := by decide +kernel
theorem dX7_makeKeys_60 : decode cX7_makeKeys 60 = .ok (.aload_n 0, 1) := by decide +kernel
theorem dX7_makeKeys_61 : decode cX7_makeKeys 61 = .ok (.getfield 28, 3) := by decide +kernel
theorem dX7_makeKeys_64 : decode cX7_makeKeys 64 = .ok (.iload 4, 2) := by decide +kernel
theorem dX7_makeKeys_66 : decode cX7_makeKeys 66 = .ok (.iaload, 1) := by decide +kernel
theorem dX7_makeKeys_67 : decode cX7_makeKeys 67 = .ok (.iconst 1, 1) := by decide +kernel
theorem dX7_makeKeys_68 : decode cX7_makeKeys 68 = .ok (.iload_n 3, 1) := by decide +kernel
theorem dX7_makeKeys_69 : decode cX7_makeKeys 69 = .ok (.iconst 1, 1) := by decide +kernel
theorem dX7_makeKeys_70 : decode cX7_makeKeys 70 = .ok (.isub, 1) := by decide +kernel
theorem dX7_makeKeys_71 : decode cX7_makeKeys 71 = .ok (.ishl, 1) := by decide +kernel
theorem dX7_makeKeys_72 : decode cX7_makeKeys 72 = .ok (.ior, 1) := by decide +kernel
theorem dX7_makeKeys_73 : decode cX7_makeKeys 73 = .ok (.iastore, 1) := by decide +kernel
theorem dX7_makeKeys_74 : decode cX7_makeKeys 74 = .ok (.iinc 3 1, 3) := by decide +kernel
theorem dX7_makeKeys_77 : decode cX7_makeKeys 77 = .ok (.goto (-75), 3) := by decide +kernel
theorem dX7_makeKeys_80 : decode cX7_makeKeys 80 = .ok (.iconst 0, 1) := by decide +kernel
theorem dX7_makeKeys_81 : decode cX7_makeKeys 81 = .ok (.istore_n 3, 1) := by decide +kernel
theorem dX7_makeKeys_82 : decode cX7_makeKeys 82 = .ok (.iload_n 3, 1) := by decide +kernel
theorem dX7_makeKeys_83 : decode cX7_makeKeys 83 = .ok (.iload_n 2, 1) := by decide +kernel
theorem dX7_makeKeys_84 : decode cX7_makeKeys 84 = .ok (.if_icmp .ge 51, 3) := by decide +kernel
theorem dX7_makeKeys_87 : decode cX7_makeKeys 87 = .ok (.aload_n 0, 1) := by decide +kernel
theorem dX7_makeKeys_88 : decode cX7_makeKeys 88 = .ok (.invokevirtual 68, 3) := by decide +kernel
theorem dX7_makeKeys_91 : decode cX7_makeKeys 91 = .ok (.ifCond .eq 38, 3) := by decide +kernel
theorem dX7_makeKeys_94 : decode cX7_makeKeys 94 = .ok (.aload_n 0, 1) := by decide +kernel
theorem dX7_makeKeys_95 : decode cX7_makeKeys 95 = .ok (.invokevirtual 64, 3) := by decide +kernel
theorem dX7_makeKeys_98 : decode cX7_makeKeys 98 = .ok (.istore 4, 2) := by decide +kernel
theorem dX7_makeKeys_100 : decode cX7_makeKeys 100 = .ok (.aload_n 0, 1) := by decide +kernel
theorem dX7_makeKeys_101 : decode cX7_makeKeys 101 = .ok (.getfield 16, 3) := by decide +kernel
theorem dX7_makeKeys_104 : decode cX7_makeKeys 104 = .ok (.iload 4, 2) := by decide +kernel
theorem dX7_makeKeys_106 : decode cX7_makeKeys 106 = .ok (.iconst 2, 1) := by decide +kernel
theorem dX7_makeKeys_107 : decode cX7_makeKeys 107 = .ok (.iastore, 1) := by decide +kernel
theorem dX7_makeKeys_108 : decode cX7_makeKeys 108 = .ok (.aload_n 0, 1) := by decide +kernel
theorem dX7_makeKeys_109 : decode cX7_makeKeys 109 = .ok (.getfield 19, 3) := by decide +kernel
theorem dX7_makeKeys_112 : decode cX7_makeKeys 112 = .ok (.iload 4, 2) := by decide +kernel
theorem dX7_makeKeys_114 : decode cX7_makeKeys 114 = .ok (.aload_n 0, 1) := by decide +kernel
theorem dX7_makeKeys_115 : decode cX7_makeKeys 115 = .ok (.getfield 72, 3) := by decide +kernel
theorem dX7_makeKeys_118 : decode cX7_makeKeys 118 = .ok (.iastore, 1) := by decide +kernel
theorem dX7_makeKeys_119 : decode cX7_makeKeys 119 = .ok (.aload_n 0, 1) := by decide +kernel
theorem dX7_makeKeys_120 : decode cX7_makeKeys 120 = .ok (.dup, 1) := by decide +kernel
theorem dX7_makeKeys_121 : decode cX7_makeKeys 121 = .ok (.getfield 72, 3) := by decide +kernel
theorem dX7_makeKeys_124 : decode cX7_makeKeys 124 = .ok (.iconst 1, 1) := by decide +kernel
theorem dX7_makeKeys_125 : decode cX7_makeKeys 125 = .ok (.iadd, 1) := by decide +kernel
theorem dX7_makeKeys_126 : decode cX7_makeKeys 126 = .ok (.putfield 72, 3) := by decide +kernel
theorem dX7_makeKeys_129 : decode cX7_makeKeys 129 = .ok (.iinc 3 1, 3) := by decide +kernel
theorem dX7_makeKeys_132 : decode cX7_makeKeys 132 = .ok (.goto (-50), 3) := by decide +kernel
theorem dX7_makeKeys_135 : decode cX7_makeKeys 135 = .ok (.iconst 0, 1) := by decide +kernel
theorem dX7_makeKeys_136 : decode cX7_makeKeys 136 = .ok (.istore_n 3, 1) := by decide +kernel
theorem dX7_makeKeys_137 : decode cX7_makeKeys 137 = .ok (.iload_n 3, 1) := by decide +kernel
theorem dX7_makeKeys_138 : decode cX7_makeKeys 138 = .ok (.aload_n 0, 1) := by decide +kernel
theorem dX7_makeKeys_139 : decode cX7_makeKeys 139 = .ok (.getfield 72, 3) := by decide +kernel
theorem dX7_makeKeys_142 : decode cX7_makeKeys 142 = .ok (.if_icmp .ge 83, 3) := by decide +kernel
theorem dX7_makeKeys_145 : decode cX7_makeKeys 145 = .ok (.iconst 0, 1) := by decide +kernel
theorem dX7_makeKeys_146 : decode cX7_makeKeys 146 = .ok (.istore 4, 2) := by decide +kernel
theorem dX7_makeKeys_148 : decode cX7_makeKeys 148 = .ok (.iload 4, 2) := by decide +kernel
theorem dX7_makeKeys_150 : decode cX7_makeKeys 150 = .ok (.aload_n 0, 1) := by decide +kernel
theorem dX7_makeKeys_151 : decode cX7_makeKeys 151 = .ok (.getfield 56, 3) := by decide +kernel
theorem dX7_makeKeys_154 : decode cX7_makeKeys 154 = .ok (.if_icmp .ge 40, 3) := by decide +kernel
theorem dX7_makeKeys_157 : decode cX7_makeKeys 157 = .ok (.aload_n 0, 1) := by decide +kernel
theorem dX7_makeKeys_158 : decode cX7_makeKeys 158 = .ok (.getfield 38, 3) := by decide +kernel
theorem dX7_makeKeys_161 : decode cX7_makeKeys 161 = .ok (.iload 4, 2) := by decide +kernel
theorem dX7_makeKeys_163 : decode cX7_makeKeys 163 = .ok (.aload_n 0, 1) := by decide +kernel
theorem dX7_makeKeys_164 : decode cX7_makeKeys 164 = .ok (.getfield 13, 3) := by decide +kernel
theorem dX7_makeKeys_167 : decode cX7_makeKeys 167 = .ok (.iload 4, 2) := by decide +kernel
theorem dX7_makeKeys_169 : decode cX7_makeKeys 169 = .ok (.iaload, 1) := by decide +kernel
theorem dX7_makeKeys_170 : decode cX7_makeKeys 170 = .ok (.ifCond .ne 16, 3) := by decide +kernel
theorem dX7_makeKeys_173 : decode cX7_makeKeys 173 = .ok (.aload_n 0, 1) := by decide +kernel
theorem dX7_makeKeys_174 : decode cX7_makeKeys 174 = .ok (.iload 4, 2) := by decide +kernel
theorem dX7_makeKeys_176 : decode cX7_makeKeys 176 = .ok (.invokevirtual 75, 3) := by decide +kernel
theorem dX7_makeKeys_179 : decode cX7_makeKeys 179 = .ok (.ifCond .eq 7, 3) := by decide +kernel
theorem dX7_makeKeys_182 : decode cX7_makeKeys 182 = .ok (.iconst 1, 1) := by decide +kernel
theorem dX7_makeKeys_183 : decode cX7_makeKeys 183 = .ok (.goto 4, 3) := by decide +kernel
theorem dX7_makeKeys_186 : decode cX7_makeKeys 186 = .ok (.iconst 0, 1) := by decide +kernel
theorem dX7_makeKeys_187 : decode cX7_makeKeys 187 = .ok (.bastore, 1) := by decide +kernel
theorem dX7_makeKeys_188 : decode cX7_makeKeys 188 = .ok (.iinc 4 1, 3) := by decide +kernel
theorem dX7_makeKeys_191 : decode cX7_makeKeys 191 = .ok (.goto (-43), 3) := by decide +kernel
theorem dX7_makeKeys_194 : decode cX7_makeKeys 194 = .ok (.aload_n 0, 1) := by decide +kernel
theorem dX7_makeKeys_195 : decode cX7_makeKeys 195 = .ok (.invokevirtual 64, 3) := by decide +kernel
theorem dX7_makeKeys_198 : decode cX7_makeKeys 198 = .ok (.istore 4, 2) := by decide +kernel
theorem dX7_makeKeys_200 : decode cX7_makeKeys 200 = .ok (.aload_n 0, 1) := by decide +kernel
theorem dX7_makeKeys_201 : decode cX7_makeKeys 201 = .ok (.getfield 28, 3) := by decide +kernel
theorem dX7_makeKeys_204 : decode cX7_makeKeys 204 = .ok (.iload 4, 2) := by decide +kernel
theorem dX7_makeKeys_206 : decode cX7_makeKeys 206 = .ok (.aload_n 0, 1) := by decide +kernel
theorem dX7_makeKeys_207 : decode cX7_makeKeys 207 = .ok (.getfield 28, 3) := by decide +kernel
theorem dX7_makeKeys_210 : decode cX7_makeKeys 210 = .ok (.iload 4, 2) := by decide +kernel
theorem dX7_makeKeys_212 : decode cX7_makeKeys 212 = .ok (.iaload, 1) := by decide +kernel
theorem dX7_makeKeys_213 : decode cX7_makeKeys 213 = .ok (.bipush 8, 2) := by decide +kernel
theorem dX7_makeKeys_215 : decode cX7_makeKeys 215 = .ok (.iload_n 3, 1) := by decide +kernel
theorem dX7_makeKeys_216 : decode cX7_makeKeys 216 = .ok (.ishl, 1) := by decide +kernel
theorem dX7_makeKeys_217 : decode cX7_makeKeys 217 = .ok (.ior, 1) := by decide +kernel
theorem dX7_makeKeys_218 : decode cX7_makeKeys 218 = .ok (.iastore, 1) := by decide +kernel
theorem dX7_makeKeys_219 : decode cX7_makeKeys 219 = .ok (.iinc 3 1, 3) := by decide +kernel
theorem dX7_makeKeys_222 : decode cX7_makeKeys 222 = .ok (.goto (-85), 3) := by decide +kernel
theorem dX7_makeKeys_225 : decode cX7_makeKeys 225 = .ok (.return_, 1) := by decide +kernel
set_option maxRecDepth 20000 in
theorem ggX7_makeBarriers_X7_choosePlain : GoodIn wsX7_makeBarriers wsX7_choosePlain := goodIn_r _ [8, 9, 10, 1, 22, 23, 24, 25, 26, 27, 28, 29, 30, 31, 32, 33, 34, 35, 36, 37, 38, 39] (by decide +kernel) (by decide +kernel)
set_option maxRecDepth 20000 in
theorem gX7_makeBarriers_X7_choosePlain : GoodIn wsX7_makeBarriers (wsV RX7 68 RX7 yX7_choosePlain wsX7_choosePlain) := goodIn_app (goodIn_of _ (by decide +kernel)) ggX7_makeBarriers_X7_choosePlain
set_option maxRecDepth 20000 in
theorem ggX7_makeBarriers_X7_drawn : GoodIn wsX7_makeBarriers wsX7_drawn := goodIn_r _ [14, 9, 10, 15, 16, 17, 7, 18, 19, 20, 21, 22, 23, 24, 25, 26, 27, 28, 29, 30, 31, 32, 33, 34, 35, 36, 37, 38, 39] (by decide +kernel) (by decide +kernel)
set_option maxRecDepth 20000 in
theorem gX7_makeBarriers_X7_drawn : GoodIn wsX7_makeBarriers (wsV RX7 64 RX7 yX7_drawn wsX7_drawn) := goodIn_app (goodIn_of _ (by decide +kernel)) ggX7_makeBarriers_X7_drawn
set_option maxRecDepth 20000 in
theorem ggX7_makeBarriers_X7_draw : GoodIn wsX7_makeBarriers wsX7_draw := goodIn_r _ [18, 19, 20, 21, 22, 23, 24, 25, 26, 27, 28, 29, 30, 31, 32, 33, 34, 35, 36, 37, 38, 39] (by decide +kernel) (by decide +kernel)
set_option maxRecDepth 20000 in
theorem gX7_makeBarriers_X7_draw : GoodIn wsX7_makeBarriers (wsV RX7 60 RX7 yX7_draw wsX7_draw) := goodIn_app (goodIn_of _ (by decide +kernel)) ggX7_makeBarriers_X7_draw
theorem dX7_makeBarriers_0 : decode cX7_makeBarriers 0 = .ok (.iconst 0, 1) := by decide +kernel
theorem dX7_makeBarriers_1 : decode cX7_makeBarriers 1 = .ok (.istore_n 2, 1) := by decide +kernel
theorem dX7_makeBarriers_2 : decode cX7_makeBarriers 2 = .ok (.iload_n 2, 1) := by decide +kernel
theorem dX7_makeBarriers_3 : decode cX7_makeBarriers 3 = .ok (.iload_n 1, 1) := by decide +kernel
theorem dX7_makeBarriers_4 : decode cX7_makeBarriers 4 = .ok (.if_icmp .ge 59, 3) := by decide +kernel
theorem dX7_makeBarriers_7 : decode cX7_makeBarriers 7 = .ok (.aload_n 0, 1) := by decide +kernel
theorem dX7_makeBarriers_8 : decode cX7_makeBarriers 8 = .ok (.invokevirtual 68, 3) := by decide +kernel
theorem dX7_makeBarriers_11 : decode cX7_makeBarriers 11 = .ok (.ifCond .eq 46, 3) := by decide +kernel
theorem dX7_makeBarriers_14 : decode cX7_makeBarriers 14 = .ok (.aload_n 0, 1) := by decide +kernel
theorem dX7_makeBarriers_15 : decode cX7_makeBarriers 15 = .ok (.invokevirtual 64, 3) := by decide +kernel
theorem dX7_makeBarriers_18 : decode cX7_makeBarriers 18 = .ok (.istore_n 3, 1) := by decide +kernel
theorem dX7_makeBarriers_19 : decode cX7_makeBarriers 19 = .ok (.aload_n 0, 1) := by decide +kernel
theorem dX7_makeBarriers_20 : decode cX7_makeBarriers 20 = .ok (.getfield 16, 3) := by decide +kernel
theorem dX7_makeBarriers_23 : decode cX7_makeBarriers 23 = .ok (.iload_n 3, 1) := by decide +kernel
theorem dX7_makeBarriers_24 : decode cX7_makeBarriers 24 = .ok (.aload_n 0, 1) := by decide +kernel
theorem dX7_makeBarriers_25 : decode cX7_makeBarriers 25 = .ok (.iconst 2, 1) := by decide +kernel
theorem dX7_makeBarriers_26 : decode cX7_makeBarriers 26 = .ok (.invokevirtual 60, 3) := by decide +kernel
theorem dX7_makeBarriers_29 : decode cX7_makeBarriers 29 = .ok (.ifCond .ne 7, 3) := by decide +kernel
theorem dX7_makeBarriers_32 : decode cX7_makeBarriers 32 = .ok (.iconst 3, 1) := by decide +kernel
theorem dX7_makeBarriers_33 : decode cX7_makeBarriers 33 = .ok (.goto 4, 3) := by decide +kernel
theorem dX7_makeBarriers_36 : decode cX7_makeBarriers 36 = .ok (.iconst 4, 1) := by decide +kernel
theorem dX7_makeBarriers_37 : decode cX7_makeBarriers 37 = .ok (.iastore, 1) := by decide +kernel
theorem dX7_makeBarriers_38 : decode cX7_makeBarriers 38 = .ok (.aload_n 0, 1) := by decide +kernel
theorem dX7_makeBarriers_39 : decode cX7_makeBarriers 39 = .ok (.getfield 31, 3) := by decide +kernel
theorem dX7_makeBarriers_42 : decode cX7_makeBarriers 42 = .ok (.iload_n 3, 1) := by decide +kernel
theorem dX7_makeBarriers_43 : decode cX7_makeBarriers 43 = .ok (.iconst 1, 1) := by decide +kernel
theorem dX7_makeBarriers_44 : decode cX7_makeBarriers 44 = .ok (.bastore, 1) := by decide +kernel
theorem dX7_makeBarriers_45 : decode cX7_makeBarriers 45 = .ok (.aload_n 0, 1) := by decide +kernel
theorem dX7_makeBarriers_46 : decode cX7_makeBarriers 46 = .ok (.getfield 31, 3) := by decide +kernel
theorem dX7_makeBarriers_49 : decode cX7_makeBarriers 49 = .ok (.aload_n 0, 1) := by decide +kernel
theorem dX7_makeBarriers_50 : decode cX7_makeBarriers 50 = .ok (.getfield 7, 3) := by decide +kernel
theorem dX7_makeBarriers_53 : decode cX7_makeBarriers 53 = .ok (.iload_n 3, 1) := by decide +kernel
theorem dX7_makeBarriers_54 : decode cX7_makeBarriers 54 = .ok (.iaload, 1) := by decide +kernel
theorem dX7_makeBarriers_55 : decode cX7_makeBarriers 55 = .ok (.iconst 1, 1) := by decide +kernel
theorem dX7_makeBarriers_56 : decode cX7_makeBarriers 56 = .ok (.bastore, 1) := by decide +kernel
theorem dX7_makeBarriers_57 : decode cX7_makeBarriers 57 = .ok (.iinc 2 1, 3) := by decide +kernel
theorem dX7_makeBarriers_60 : decode cX7_makeBarriers 60 = .ok (.goto (-58), 3) := by decide +kernel
theorem dX7_makeBarriers_63 : decode cX7_makeBarriers 63 = .ok (.return_, 1) := by decide +kernel
theorem dX7_occupied_0 : decode cX7_occupied 0 = .ok (.iconst 0, 1) := by decide +kernel
theorem dX7_occupied_1 : decode cX7_occupied 1 = .ok (.istore 4, 2) := by decide +kernel
theorem dX7_occupied_3 : decode cX7_occupied 3 = .ok (.iload 4, 2) := by decide +kernel
theorem dX7_occupied_5 : decode cX7_occupied 5 = .ok (.iload_n 1, 1) := by decide +kernel
theorem dX7_occupied_6 : decode cX7_occupied 6 = .ok (.if_icmp .ge 33, 3) := by decide +kernel
theorem dX7_occupied_9 : decode cX7_occupied 9 = .ok (.aload_n 0, 1) := by decide +kernel
theorem dX7_occupied_10 : decode cX7_occupied 10 = .ok (.getfield 22, 3) := by decide +kernel
theorem dX7_occupied_13 : decode cX7_occupied 13 = .ok (.iload 4, 2) := by decide +kernel
theorem dX7_occupied_15 : decode cX7_occupied 15 = .ok (.iaload, 1) := by decide +kernel
theorem dX7_occupied_16 : decode cX7_occupied 16 = .ok (.iload_n 2, 1) := by decide +kernel
theorem dX7_occupied_17 : decode cX7_occupied 17 = .ok (.if_icmp .ne 16, 3) := by decide +kernel
theorem dX7_occupied_20 : decode cX7_occupied 20 = .ok (.aload_n 0, 1) := by decide +kernel
theorem dX7_occupied_21 : decode cX7_occupied 21 = .ok (.getfield 25, 3) := by decide +kernel
theorem dX7_occupied_24 : decode cX7_occupied 24 = .ok (.iload 4, 2) := by decide +kernel
theorem dX7_occupied_26 : decode cX7_occupied 26 = .ok (.iaload, 1) := by decide +kernel
theorem dX7_occupied_27 : decode cX7_occupied 27 = .ok (.iload_n 3, 1) := by decide +kernel
theorem dX7_occupied_28 : decode cX7_occupied 28 = .ok (.if_icmp .ne 5, 3) := by decide +kernel
theorem dX7_occupied_31 : decode cX7_occupied 31 = .ok (.iconst 1, 1) := by decide +kernel
theorem dX7_occupied_32 : decode cX7_occupied 32 = .ok (.ireturn, 1) := by decide +kernel
theorem dX7_occupied_33 : decode cX7_occupied 33 = .ok (.iinc 4 1, 3) := by decide +kernel
theorem dX7_occupied_36 : decode cX7_occupied 36 = .ok (.goto (-33), 3) := by decide +kernel
theorem dX7_occupied_39 : decode cX7_occupied 39 = .ok (.iconst 0, 1) := by decide +kernel
theorem dX7_occupied_40 : decode cX7_occupied 40 = .ok (.ireturn, 1) := by decide +kernel
set_option maxRecDepth 20000 in
theorem ggX7_makePlaces_X7_draw : GoodIn wsX7_makePlaces wsX7_draw := goodIn_r _ [9, 10, 11, 12, 17, 18, 19, 20, 21, 22, 23, 24, 25, 26, 27, 28, 29, 30, 31, 32, 33, 34] (by decide +kernel) (by decide +kernel)
set_option maxRecDepth 20000 in
theorem gX7_makePlaces_X7_draw : GoodIn wsX7_makePlaces (wsV RX7 60 RX7 yX7_draw wsX7_draw) := goodIn_app (goodIn_of _ (by decide +kernel)) ggX7_makePlaces_X7_draw
set_option maxRecDepth 20000 in
theorem ggX7_makePlaces_X7_occupied : GoodIn wsX7_makePlaces wsX7_occupied := goodIn_r _ [16, 2, 4, 17, 18, 19, 20, 21, 22, 23, 24, 25, 26, 27, 28, 29, 30, 31, 32, 33, 34] (by decide +kernel) (by decide +kernel)
set_option maxRecDepth 20000 in
theorem gX7_makePlaces_X7_occupied : GoodIn wsX7_makePlaces (wsV RX7 79 RX7 yX7_occupied wsX7_occupied) := goodIn_app (goodIn_of _ (by decide +kernel)) ggX7_makePlaces_X7_occupied
theorem dX7_makePlaces_0 : decode cX7_makePlaces 0 = .ok (.iconst 1, 1) := by decide +kernel
theorem dX7_makePlaces_1 : decode cX7_makePlaces 1 = .ok (.istore_n 1, 1) := by decide +kernel
theorem dX7_makePlaces_2 : decode cX7_makePlaces 2 = .ok (.iload_n 1, 1) := by decide +kernel
theorem dX7_makePlaces_3 : decode cX7_makePlaces 3 = .ok (.aload_n 0, 1) := by decide +kernel
theorem dX7_makePlaces_4 : decode cX7_makePlaces 4 = .ok (.getfield 56, 3) := by decide +kernel
theorem dX7_makePlaces_7 : decode cX7_makePlaces 7 = .ok (.if_icmp .ge 120, 3) := by decide +kernel
theorem dX7_makePlaces_10 : decode cX7_makePlaces 10 = .ok (.aload_n 0, 1) := by decide +kernel
theorem dX7_makePlaces_11 : decode cX7_makePlaces 11 = .ok (.iconst 4, 1) := by decide +kernel
theorem dX7_makePlaces_12 : decode cX7_makePlaces 12 = .ok (.invokevirtual 60, 3) := by decide +kernel
theorem dX7_makePlaces_15 : decode cX7_makePlaces 15 = .ok (.istore_n 2, 1) := by decide +kernel
theorem dX7_makePlaces_16 : decode cX7_makePlaces 16 = .ok (.aload_n 0, 1) := by decide +kernel
theorem dX7_makePlaces_17 : decode cX7_makePlaces 17 = .ok (.getfield 22, 3) := by decide +kernel
theorem dX7_makePlaces_20 : decode cX7_makePlaces 20 = .ok (.aload_n 0, 1) := by decide +kernel
theorem dX7_makePlaces_21 : decode cX7_makePlaces 21 = .ok (.getfield 7, 3) := by decide +kernel
theorem dX7_makePlaces_24 : decode cX7_makePlaces 24 = .ok (.iload_n 1, 1) := by decide +kernel
theorem dX7_makePlaces_25 : decode cX7_makePlaces 25 = .ok (.iaload, 1) := by decide +kernel
theorem dX7_makePlaces_26 : decode cX7_makePlaces 26 = .ok (.iaload, 1) := by decide +kernel
theorem dX7_makePlaces_27 : decode cX7_makePlaces 27 = .ok (.istore_n 3, 1) := by decide +kernel
theorem dX7_makePlaces_28 : decode cX7_makePlaces 28 = .ok (.aload_n 0, 1) := by decide +kernel
theorem dX7_makePlaces_29 : decode cX7_makePlaces 29 = .ok (.getfield 25, 3) := by decide +kernel
theorem dX7_makePlaces_32 : decode cX7_makePlaces 32 = .ok (.aload_n 0, 1) := by decide +kernel
theorem dX7_makePlaces_33 : decode cX7_makePlaces 33 = .ok (.getfield 7, 3) := by decide +kernel
theorem dX7_makePlaces_36 : decode cX7_makePlaces 36 = .ok (.iload_n 1, 1) := by decide +kernel
theorem dX7_makePlaces_37 : decode cX7_makePlaces 37 = .ok (.iaload, 1) := by decide +kernel
theorem dX7_makePlaces_38 : decode cX7_makePlaces 38 = .ok (.iaload, 1) := by decide +kernel
theorem dX7_makePlaces_39 : decode cX7_makePlaces 39 = .ok (.istore 4, 2) := by decide +kernel
theorem dX7_makePlaces_41 : decode cX7_makePlaces 41 = .ok (.aload_n 0, 1) := by decide +kernel
theorem dX7_makePlaces_42 : decode cX7_makePlaces 42 = .ok (.iload_n 1, 1) := by decide +kernel
theorem dX7_makePlaces_43 : decode cX7_makePlaces 43 = .ok (.iload_n 3, 1) := by decide +kernel
theorem dX7_makePlaces_44 : decode cX7_makePlaces 44 = .ok (.iload 4, 2) := by decide +kernel
theorem dX7_makePlaces_46 : decode cX7_makePlaces 46 = .ok (.invokevirtual 79, 3) := by decide +kernel
theorem dX7_makePlaces_49 : decode cX7_makePlaces 49 = .ok (.ifCond .eq 57, 3) := by decide +kernel
theorem dX7_makePlaces_52 : decode cX7_makePlaces 52 = .ok (.iload_n 2, 1) := by decide +kernel
theorem dX7_makePlaces_53 : decode cX7_makePlaces 53 = .ok (.ifCond .ne 9, 3) := by decide +kernel
theorem dX7_makePlaces_56 : decode cX7_makePlaces 56 = .ok (.iload_n 3, 1) := by decide +kernel
theorem dX7_makePlaces_57 : decode cX7_makePlaces 57 = .ok (.iconst 1, 1) := by decide +kernel
theorem dX7_makePlaces_58 : decode cX7_makePlaces 58 = .ok (.iadd, 1) := by decide +kernel
theorem dX7_makePlaces_59 : decode cX7_makePlaces 59 = .ok (.goto 15, 3) := by decide +kernel
theorem dX7_makePlaces_62 : decode cX7_makePlaces 62 = .ok (.iload_n 2, 1) := by decide +kernel
theorem dX7_makePlaces_63 : decode cX7_makePlaces 63 = .ok (.iconst 2, 1) := by decide +kernel
theorem dX7_makePlaces_64 : decode cX7_makePlaces 64 = .ok (.if_icmp .ne 9, 3) := by decide +kernel
theorem dX7_makePlaces_67 : decode cX7_makePlaces 67 = .ok (.iload_n 3, 1) := by decide +kernel
theorem dX7_makePlaces_68 : decode cX7_makePlaces 68 = .ok (.iconst 1, 1) := by decide +kernel
theorem dX7_makePlaces_69 : decode cX7_makePlaces 69 = .ok (.isub, 1) := by decide +kernel
theorem dX7_makePlaces_70 : decode cX7_makePlaces 70 = .ok (.goto 4, 3) := by decide +kernel
theorem dX7_makePlaces_73 : decode cX7_makePlaces 73 = .ok (.iload_n 3, 1) := by decide +kernel
theorem dX7_makePlaces_74 : decode cX7_makePlaces 74 = .ok (.istore_n 3, 1) := by decide +kernel
theorem dX7_makePlaces_75 : decode cX7_makePlaces 75 = .ok (.iload_n 2, 1) := by decide +kernel
theorem dX7_makePlaces_76 : decode cX7_makePlaces 76 = .ok (.iconst 1, 1) := by decide +kernel
theorem dX7_makePlaces_77 : decode cX7_makePlaces 77 = .ok (.if_icmp .ne 10, 3) := by decide +kernel
theorem dX7_makePlaces_80 : decode cX7_makePlaces 80 = .ok (.iload 4, 2) := by decide +kernel
theorem dX7_makePlaces_82 : decode cX7_makePlaces 82 = .ok (.iconst 1, 1) := by decide +kernel
theorem dX7_makePlaces_83 : decode cX7_makePlaces 83 = .ok (.iadd, 1) := by decide +kernel
theorem dX7_makePlaces_84 : decode cX7_makePlaces 84 = .ok (.goto 17, 3) := by decide +kernel
theorem dX7_makePlaces_87 : decode cX7_makePlaces 87 = .ok (.iload_n 2, 1) := by decide +kernel
theorem dX7_makePlaces_88 : decode cX7_makePlaces 88 = .ok (.iconst 3, 1) := by decide +kernel
theorem dX7_makePlaces_89 : decode cX7_makePlaces 89 = .ok (.if_icmp .ne 10, 3) := by decide +kernel
theorem dX7_makePlaces_92 : decode cX7_makePlaces 92 = .ok (.iload 4, 2) := by decide +kernel
theorem dX7_makePlaces_94 : decode cX7_makePlaces 94 = .ok (.iconst 1, 1) := by decide +kernel
theorem dX7_makePlaces_95 : decode cX7_makePlaces 95 = .ok (.isub, 1) := by decide +kernel
theorem dX7_makePlaces_96 : decode cX7_makePlaces 96 = .ok (.goto 5, 3) := by decide +kernel
theorem dX7_makePlaces_99 : decode cX7_makePlaces 99 = .ok (.iload 4, 2) := by decide +kernel
theorem dX7_makePlaces_101 : decode cX7_makePlaces 101 = .ok (.istore 4, 2) := by decide +kernel
theorem dX7_makePlaces_103 : decode cX7_makePlaces 103 = .ok (.goto (-62), 3) := by decide +kernel
theorem dX7_makePlaces_106 : decode cX7_makePlaces 106 = .ok (.aload_n 0, 1) := by decide +kernel
theorem dX7_makePlaces_107 : decode cX7_makePlaces 107 = .ok (.getfield 22, 3) := by decide +kernel
theorem dX7_makePlaces_110 : decode cX7_makePlaces 110 = .ok (.iload_n 1, 1) := by decide +kernel
theorem dX7_makePlaces_111 : decode cX7_makePlaces 111 = .ok (.iload_n 3, 1) := by decide +kernel
theorem dX7_makePlaces_112 : decode cX7_makePlaces 112 = .ok (.iastore, 1) := by decide +kernel
theorem dX7_makePlaces_113 : decode cX7_makePlaces 113 = .ok (.aload_n 0, 1) := by decide +kernel
theorem dX7_makePlaces_114 : decode cX7_makePlaces 114 = .ok (.getfield 25, 3) := by decide +kernel
theorem dX7_makePlaces_117 : decode cX7_makePlaces 117 = .ok (.iload_n 1, 1) := by decide +kernel
theorem dX7_makePlaces_118 : decode cX7_makePlaces 118 = .ok (.iload 4, 2) := by decide +kernel
theorem dX7_makePlaces_120 : decode cX7_makePlaces 120 = .ok (.iastore, 1) := by decide +kernel
theorem dX7_makePlaces_121 : decode cX7_makePlaces 121 = .ok (.iinc 1 1, 3) := by decide +kernel
theorem dX7_makePlaces_124 : decode cX7_makePlaces 124 = .ok (.goto (-122), 3) := by decide +kernel
theorem dX7_makePlaces_127 : decode cX7_makePlaces 127 = .ok (.return_, 1) := by decide +kernel
set_option maxRecDepth 20000 in
theorem ggX7_makeLoops_X7_draw : GoodIn wsX7_makeLoops wsX7_draw := goodIn_r _ [11, 12, 13, 14, 15, 16, 17, 18, 19, 20, 21, 22, 23, 24, 25, 26, 27, 28, 29, 30, 31, 32] (by decide +kernel) (by decide +kernel)
set_option maxRecDepth 20000 in
theorem gX7_makeLoops_X7_draw : GoodIn wsX7_makeLoops (wsV RX7 60 RX7 yX7_draw wsX7_draw) := goodIn_app (goodIn_of _ (by decide +kernel)) ggX7_makeLoops_X7_draw
theorem dX7_makeLoops_0 : decode cX7_makeLoops 0 = .ok (.iconst 0, 1) := by decide +kernel
theorem dX7_makeLoops_1 : decode cX7_makeLoops 1 = .ok (.istore_n 1, 1) := by decide +kernel
theorem dX7_makeLoops_2 : decode cX7_makeLoops 2 = .ok (.iconst 1, 1) := by decide +kernel
theorem dX7_makeLoops_3 : decode cX7_makeLoops 3 = .ok (.istore_n 2, 1) := by decide +kernel
theorem dX7_makeLoops_4 : decode cX7_makeLoops 4 = .ok (.iload_n 2, 1) := by decide +kernel
theorem dX7_makeLoops_5 : decode cX7_makeLoops 5 = .ok (.aload_n 0, 1) := by decide +kernel
theorem dX7_makeLoops_6 : decode cX7_makeLoops 6 = .ok (.getfield 56, 3) := by decide +kernel
theorem dX7_makeLoops_9 : decode cX7_makeLoops 9 = .ok (.if_icmp .ge 205, 3) := by decide +kernel
theorem dX7_makeLoops_12 : decode cX7_makeLoops 12 = .ok (.iconst 0, 1) := by decide +kernel
theorem dX7_makeLoops_13 : decode cX7_makeLoops 13 = .ok (.istore_n 3, 1) := by decide +kernel
theorem dX7_makeLoops_14 : decode cX7_makeLoops 14 = .ok (.iload_n 3, 1) := by decide +kernel
theorem dX7_makeLoops_15 : decode cX7_makeLoops 15 = .ok (.iload_n 2, 1) := by decide +kernel
theorem dX7_makeLoops_16 : decode cX7_makeLoops 16 = .ok (.if_icmp .ge 192, 3) := by decide +kernel
theorem dX7_makeLoops_19 : decode cX7_makeLoops 19 = .ok (.aload_n 0, 1) := by decide +kernel
theorem dX7_makeLoops_20 : decode cX7_makeLoops 20 = .ok (.getfield 22, 3) := by decide +kernel
theorem dX7_makeLoops_23 : decode cX7_makeLoops 23 = .ok (.iload_n 2, 1) := by decide +kernel
theorem dX7_makeLoops_24 : decode cX7_makeLoops 24 = .ok (.iaload, 1) := by decide +kernel
theorem dX7_makeLoops_25 : decode cX7_makeLoops 25 = .ok (.aload_n 0, 1) := by decide +kernel
theorem dX7_makeLoops_26 : decode cX7_makeLoops 26 = .ok (.getfield 22, 3) := by decide +kernel
theorem dX7_makeLoops_29 : decode cX7_makeLoops 29 = .ok (.iload_n 3, 1) := by decide +kernel
theorem dX7_makeLoops_30 : decode cX7_makeLoops 30 = .ok (.iaload, 1) := by decide +kernel
theorem dX7_makeLoops_31 : decode cX7_makeLoops 31 = .ok (.if_icmp .le 19, 3) := by decide +kernel
theorem dX7_makeLoops_34 : decode cX7_makeLoops 34 = .ok (.aload_n 0, 1) := by decide +kernel
theorem dX7_makeLoops_35 : decode cX7_makeLoops 35 = .ok (.getfield 22, 3) := by decide +kernel
theorem dX7_makeLoops_38 : decode cX7_makeLoops 38 = .ok (.iload_n 2, 1) := by decide +kernel
theorem dX7_makeLoops_39 : decode cX7_makeLoops 39 = .ok (.iaload, 1) := by decide +kernel
theorem dX7_makeLoops_40 : decode cX7_makeLoops 40 = .ok (.aload_n 0, 1) := by decide +kernel
theorem dX7_makeLoops_41 : decode cX7_makeLoops 41 = .ok (.getfield 22, 3) := by decide +kernel
theorem dX7_makeLoops_44 : decode cX7_makeLoops 44 = .ok (.iload_n 3, 1) := by decide +kernel
theorem dX7_makeLoops_45 : decode cX7_makeLoops 45 = .ok (.iaload, 1) := by decide +kernel
theorem dX7_makeLoops_46 : decode cX7_makeLoops 46 = .ok (.isub, 1) := by decide +kernel
theorem dX7_makeLoops_47 : decode cX7_makeLoops 47 = .ok (.goto 16, 3) := by decide +kernel
theorem dX7_makeLoops_50 : decode cX7_makeLoops 50 = .ok (.aload_n 0, 1) := by decide +kernel
theorem dX7_makeLoops_51 : decode cX7_makeLoops 51 = .ok (.getfield 22, 3) := by decide +kernel
theorem dX7_makeLoops_54 : decode cX7_makeLoops 54 = .ok (.iload_n 3, 1) := by decide +kernel
theorem dX7_makeLoops_55 : decode cX7_makeLoops 55 = .ok (.iaload, 1) := by decide +kernel
theorem dX7_makeLoops_56 : decode cX7_makeLoops 56 = .ok (.aload_n 0, 1) := by decide +kernel
theorem dX7_makeLoops_57 : decode cX7_makeLoops 57 = .ok (.getfield 22, 3) := by decide +kernel
theorem dX7_makeLoops_60 : decode cX7_makeLoops 60 = .ok (.iload_n 2, 1) := by decide +kernel
theorem dX7_makeLoops_61 : decode cX7_makeLoops 61 = .ok (.iaload, 1) := by decide +kernel
theorem dX7_makeLoops_62 : decode cX7_makeLoops 62 = .ok (.isub, 1) := by decide +kernel
theorem dX7_makeLoops_63 : decode cX7_makeLoops 63 = .ok (.istore 4, 2) := by decide +kernel
theorem dX7_makeLoops_65 : decode cX7_makeLoops 65 = .ok (.aload_n 0, 1) := by decide +kernel
theorem dX7_makeLoops_66 : decode cX7_makeLoops 66 = .ok (.getfield 25, 3) := by decide +kernel
theorem dX7_makeLoops_69 : decode cX7_makeLoops 69 = .ok (.iload_n 2, 1) := by decide +kernel
theorem dX7_makeLoops_70 : decode cX7_makeLoops 70 = .ok (.iaload, 1) := by decide +kernel
theorem dX7_makeLoops_71 : decode cX7_makeLoops 71 = .ok (.aload_n 0, 1) := by decide +kernel
theorem dX7_makeLoops_72 : decode cX7_makeLoops 72 = .ok (.getfield 25, 3) := by decide +kernel
theorem dX7_makeLoops_75 : decode cX7_makeLoops 75 = .ok (.iload_n 3, 1) := by decide +kernel
theorem dX7_makeLoops_76 : decode cX7_makeLoops 76 = .ok (.iaload, 1) := by decide +kernel
theorem dX7_makeLoops_77 : decode cX7_makeLoops 77 = .ok (.if_icmp .le 19, 3) := by decide +kernel
theorem dX7_makeLoops_80 : decode cX7_makeLoops 80 = .ok (.aload_n 0, 1) := by decide +kernel
theorem dX7_makeLoops_81 : decode cX7_makeLoops 81 = .ok (.getfield 25, 3) := by decide +kernel
theorem dX7_makeLoops_84 : decode cX7_makeLoops 84 = .ok (.iload_n 2, 1) := by decide +kernel
theorem dX7_makeLoops_85 : decode cX7_makeLoops 85 = .ok (.iaload, 1) := by decide +kernel
theorem dX7_makeLoops_86 : decode cX7_makeLoops 86 = .ok (.aload_n 0, 1) := by decide +kernel
theorem dX7_makeLoops_87 : decode cX7_makeLoops 87 = .ok (.getfield 25, 3) := by decide +kernel
theorem dX7_makeLoops_90 : decode cX7_makeLoops 90 = .ok (.iload_n 3, 1) := by decide +kernel
theorem dX7_makeLoops_91 : decode cX7_makeLoops 91 = .ok (.iaload, 1) := by decide +kernel
theorem dX7_makeLoops_92 : decode cX7_makeLoops 92 = .ok (.isub, 1) := by decide +kernel
theorem dX7_makeLoops_93 : decode cX7_makeLoops 93 = .ok (.goto 16, 3) := by decide +kernel
theorem dX7_makeLoops_96 : decode cX7_makeLoops 96 = .ok (.aload_n 0, 1) := by decide +kernel
theorem dX7_makeLoops_97 : decode cX7_makeLoops 97 = .ok (.getfield 25, 3) := by decide +kernel
theorem dX7_makeLoops_100 : decode cX7_makeLoops 100 = .ok (.iload_n 3, 1) := by decide +kernel
theorem dX7_makeLoops_101 : decode cX7_makeLoops 101 = .ok (.iaload, 1) := by decide +kernel
theorem dX7_makeLoops_102 : decode cX7_makeLoops 102 = .ok (.aload_n 0, 1) := by decide +kernel
theorem dX7_makeLoops_103 : decode cX7_makeLoops 103 = .ok (.getfield 25, 3) := by decide +kernel
theorem dX7_makeLoops_106 : decode cX7_makeLoops 106 = .ok (.iload_n 2, 1) := by decide +kernel
theorem dX7_makeLoops_107 : decode cX7_makeLoops 107 = .ok (.iaload, 1) := by decide +kernel
theorem dX7_makeLoops_108 : decode cX7_makeLoops 108 = .ok (.isub, 1) := by decide +kernel
theorem dX7_makeLoops_109 : decode cX7_makeLoops 109 = .ok (.istore 5, 2) := by decide +kernel
theorem dX7_makeLoops_111 : decode cX7_makeLoops 111 = .ok (.iload 4, 2) := by decide +kernel
theorem dX7_makeLoops_113 : decode cX7_makeLoops 113 = .ok (.iload 5, 2) := by decide +kernel
theorem dX7_makeLoops_115 : decode cX7_makeLoops 115 = .ok (.iadd, 1) := by decide +kernel
theorem dX7_makeLoops_116 : decode cX7_makeLoops 116 = .ok (.iconst 1, 1) := by decide +kernel
theorem dX7_makeLoops_117 : decode cX7_makeLoops 117 = .ok (.if_icmp .ne 42, 3) := by decide +kernel
theorem dX7_makeLoops_120 : decode cX7_makeLoops 120 = .ok (.aload_n 0, 1) := by decide +kernel
theorem dX7_makeLoops_121 : decode cX7_makeLoops 121 = .ok (.getfield 13, 3) := by decide +kernel
theorem dX7_makeLoops_124 : decode cX7_makeLoops 124 = .ok (.iload_n 2, 1) := by decide +kernel
theorem dX7_makeLoops_125 : decode cX7_makeLoops 125 = .ok (.iaload, 1) := by decide +kernel
theorem dX7_makeLoops_126 : decode cX7_makeLoops 126 = .ok (.aload_n 0, 1) := by decide +kernel
theorem dX7_makeLoops_127 : decode cX7_makeLoops 127 = .ok (.getfield 13, 3) := by decide +kernel
theorem dX7_makeLoops_130 : decode cX7_makeLoops 130 = .ok (.iload_n 3, 1) := by decide +kernel
theorem dX7_makeLoops_131 : decode cX7_makeLoops 131 = .ok (.iaload, 1) := by decide +kernel
theorem dX7_makeLoops_132 : decode cX7_makeLoops 132 = .ok (.if_icmp .ne 27, 3) := by decide +kernel
theorem dX7_makeLoops_135 : decode cX7_makeLoops 135 = .ok (.aload_n 0, 1) := by decide +kernel
theorem dX7_makeLoops_136 : decode cX7_makeLoops 136 = .ok (.getfield 7, 3) := by decide +kernel
theorem dX7_makeLoops_139 : decode cX7_makeLoops 139 = .ok (.iload_n 2, 1) := by decide +kernel
theorem dX7_makeLoops_140 : decode cX7_makeLoops 140 = .ok (.iaload, 1) := by decide +kernel
theorem dX7_makeLoops_141 : decode cX7_makeLoops 141 = .ok (.iload_n 3, 1) := by decide +kernel
theorem dX7_makeLoops_142 : decode cX7_makeLoops 142 = .ok (.if_icmp .eq 17, 3) := by decide +kernel
theorem dX7_makeLoops_145 : decode cX7_makeLoops 145 = .ok (.aload_n 0, 1) := by decide +kernel
theorem dX7_makeLoops_146 : decode cX7_makeLoops 146 = .ok (.getfield 7, 3) := by decide +kernel
theorem dX7_makeLoops_149 : decode cX7_makeLoops 149 = .ok (.iload_n 3, 1) := by decide +kernel
theorem dX7_makeLoops_150 : decode cX7_makeLoops 150 = .ok (.iaload, 1) := by decide +kernel
theorem dX7_makeLoops_151 : decode cX7_makeLoops 151 = .ok (.iload_n 2, 1) := by decide +kernel
theorem dX7_makeLoops_152 : decode cX7_makeLoops 152 = .ok (.if_icmp .eq 7, 3) := by decide +kernel
theorem dX7_makeLoops_155 : decode cX7_makeLoops 155 = .ok (.iconst 1, 1) := by decide +kernel
theorem dX7_makeLoops_156 : decode cX7_makeLoops 156 = .ok (.goto 4, 3) := by decide +kernel
theorem dX7_makeLoops_159 : decode cX7_makeLoops 159 = .ok (.iconst 0, 1) := by decide +kernel
theorem dX7_makeLoops_160 : decode cX7_makeLoops 160 = .ok (.istore 6, 2) := by decide +kernel
theorem dX7_makeLoops_162 : decode cX7_makeLoops 162 = .ok (.iload 6, 2) := by decide +kernel
theorem dX7_makeLoops_164 : decode cX7_makeLoops 164 = .ok (.ifCond .eq 38, 3) := by decide +kernel
theorem dX7_makeLoops_167 : decode cX7_makeLoops 167 = .ok (.aload_n 0, 1) := by decide +kernel
theorem dX7_makeLoops_168 : decode cX7_makeLoops 168 = .ok (.iconst 3, 1) := by decide +kernel
theorem dX7_makeLoops_169 : decode cX7_makeLoops 169 = .ok (.invokevirtual 60, 3) := by decide +kernel
theorem dX7_makeLoops_172 : decode cX7_makeLoops 172 = .ok (.ifCond .ne 30, 3) := by decide +kernel
theorem dX7_makeLoops_175 : decode cX7_makeLoops 175 = .ok (.aload_n 0, 1) := by decide +kernel
theorem dX7_makeLoops_176 : decode cX7_makeLoops 176 = .ok (.getfield 35, 3) := by decide +kernel
theorem dX7_makeLoops_179 : decode cX7_makeLoops 179 = .ok (.bipush 12, 2) := by decide +kernel
theorem dX7_makeLoops_181 : decode cX7_makeLoops 181 = .ok (.iload_n 2, 1) := by decide +kernel
theorem dX7_makeLoops_182 : decode cX7_makeLoops 182 = .ok (.imul, 1) := by decide +kernel
theorem dX7_makeLoops_183 : decode cX7_makeLoops 183 = .ok (.iload_n 3, 1) := by decide +kernel
theorem dX7_makeLoops_184 : decode cX7_makeLoops 184 = .ok (.iadd, 1) := by decide +kernel
theorem dX7_makeLoops_185 : decode cX7_makeLoops 185 = .ok (.iconst 1, 1) := by decide +kernel
theorem dX7_makeLoops_186 : decode cX7_makeLoops 186 = .ok (.bastore, 1) := by decide +kernel
theorem dX7_makeLoops_187 : decode cX7_makeLoops 187 = .ok (.aload_n 0, 1) := by decide +kernel
theorem dX7_makeLoops_188 : decode cX7_makeLoops 188 = .ok (.getfield 35, 3) := by decide +kernel
theorem dX7_makeLoops_191 : decode cX7_makeLoops 191 = .ok (.bipush 12, 2) := by decide +kernel
theorem dX7_makeLoops_193 : decode cX7_makeLoops 193 = .ok (.iload_n 3, 1) := by decide +kernel
theorem dX7_makeLoops_194 : decode cX7_makeLoops 194 = .ok (.imul, 1) := by decide +kernel
theorem dX7_makeLoops_195 : decode cX7_makeLoops 195 = .ok (.iload_n 2, 1) := by decide +kernel
theorem dX7_makeLoops_196 : decode cX7_makeLoops 196 = .ok (.iadd, 1) := by decide +kernel
theorem dX7_makeLoops_197 : decode cX7_makeLoops 197 = .ok (.iconst 1, 1) := by decide +kernel
theorem dX7_makeLoops_198 : decode cX7_makeLoops 198 = .ok (.bastore, 1) := by decide +kernel
theorem dX7_makeLoops_199 : decode cX7_makeLoops 199 = .ok (.iinc 1 1, 3) := by decide +kernel
theorem dX7_makeLoops_202 : decode cX7_makeLoops 202 = .ok (.iinc 3 1, 3) := by decide +kernel
theorem dX7_makeLoops_205 : decode cX7_makeLoops 205 = .ok (.goto (-191), 3) := by decide +kernel
theorem dX7_makeLoops_208 : decode cX7_makeLoops 208 = .ok (.iinc 2 1, 3) := by decide +kernel
theorem dX7_makeLoops_211 : decode cX7_makeLoops 211 = .ok (.goto (-207), 3) := by decide +kernel
theorem dX7_makeLoops_214 : decode cX7_makeLoops 214 = .ok (.iload_n 1, 1) := by decide +kernel
theorem dX7_makeLoops_215 : decode cX7_makeLoops 215 = .ok (.ireturn, 1) := by decide +kernel
theorem dX7_clear_0 : decode cX7_clear 0 = .ok (.iconst 0, 1) := by decide +kernel
theorem dX7_clear_1 : decode cX7_clear 1 = .ok (.istore_n 1, 1) := by decide +kernel
theorem dX7_clear_2 : decode cX7_clear 2 = .ok (.iload_n 1, 1) := by decide +kernel
theorem dX7_clear_3 : decode cX7_clear 3 = .ok (.bipush 12, 2) := by decide +kernel
theorem dX7_clear_5 : decode cX7_clear 5 = .ok (.if_icmp .ge 84, 3) := by decide +kernel
theorem dX7_clear_8 : decode cX7_clear 8 = .ok (.aload_n 0, 1) := by decide +kernel
theorem dX7_clear_9 : decode cX7_clear 9 = .ok (.getfield 7, 3) := by decide +kernel
theorem dX7_clear_12 : decode cX7_clear 12 = .ok (.iload_n 1, 1) := by decide +kernel
theorem dX7_clear_13 : decode cX7_clear 13 = .ok (.iconst (-1), 1) := by decide +kernel
theorem dX7_clear_14 : decode cX7_clear 14 = .ok (.iastore, 1) := by decide +kernel
theorem dX7_clear_15 : decode cX7_clear 15 = .ok (.aload_n 0, 1) := by decide +kernel
theorem dX7_clear_16 : decode cX7_clear 16 = .ok (.getfield 13, 3) := by decide +kernel
theorem dX7_clear_19 : decode cX7_clear 19 = .ok (.iload_n 1, 1) := by decide +kernel
theorem dX7_clear_20 : decode cX7_clear 20 = .ok (.iconst 0, 1) := by decide +kernel
theorem dX7_clear_21 : decode cX7_clear 21 = .ok (.iastore, 1) := by decide +kernel
theorem dX7_clear_22 : decode cX7_clear 22 = .ok (.aload_n 0, 1) := by decide +kernel
theorem dX7_clear_23 : decode cX7_clear 23 = .ok (.getfield 16, 3) := by decide +kernel
theorem dX7_clear_26 : decode cX7_clear 26 = .ok (.iload_n 1, 1) := by decide +kernel
theorem dX7_clear_27 : decode cX7_clear 27 = .ok (.iconst 0, 1) := by decide +kernel
theorem dX7_clear_28 : decode cX7_clear 28 = .ok (.iastore, 1) := by decide +kernel
theorem dX7_clear_29 : decode cX7_clear 29 = .ok (.aload_n 0, 1) := by decide +kernel
theorem dX7_clear_30 : decode cX7_clear 30 = .ok (.getfield 22, 3) := by decide +kernel
theorem dX7_clear_33 : decode cX7_clear 33 = .ok (.iload_n 1, 1) := by decide +kernel
theorem dX7_clear_34 : decode cX7_clear 34 = .ok (.iconst 0, 1) := by decide +kernel
theorem dX7_clear_35 : decode cX7_clear 35 = .ok (.iastore, 1) := by decide +kernel
theorem dX7_clear_36 : decode cX7_clear 36 = .ok (.aload_n 0, 1) := by decide +kernel
theorem dX7_clear_37 : decode cX7_clear 37 = .ok (.getfield 25, 3) := by decide +kernel
theorem dX7_clear_40 : decode cX7_clear 40 = .ok (.iload_n 1, 1) := by decide +kernel
theorem dX7_clear_41 : decode cX7_clear 41 = .ok (.iconst 0, 1) := by decide +kernel
theorem dX7_clear_42 : decode cX7_clear 42 = .ok (.iastore, 1) := by decide +kernel
theorem dX7_clear_43 : decode cX7_clear 43 = .ok (.aload_n 0, 1) := by decide +kernel
theorem dX7_clear_44 : decode cX7_clear 44 = .ok (.getfield 28, 3) := by decide +kernel
theorem dX7_clear_47 : decode cX7_clear 47 = .ok (.iload_n 1, 1) := by decide +kernel
theorem dX7_clear_48 : decode cX7_clear 48 = .ok (.iconst 0, 1) := by decide +kernel
theorem dX7_clear_49 : decode cX7_clear 49 = .ok (.iastore, 1) := by decide +kernel
theorem dX7_clear_50 : decode cX7_clear 50 = .ok (.aload_n 0, 1) := by decide +kernel
theorem dX7_clear_51 : decode cX7_clear 51 = .ok (.getfield 31, 3) := by decide +kernel
theorem dX7_clear_54 : decode cX7_clear 54 = .ok (.iload_n 1, 1) := by decide +kernel
theorem dX7_clear_55 : decode cX7_clear 55 = .ok (.iconst 0, 1) := by decide +kernel
theorem dX7_clear_56 : decode cX7_clear 56 = .ok (.bastore, 1) := by decide +kernel
theorem dX7_clear_57 : decode cX7_clear 57 = .ok (.iconst 0, 1) := by decide +kernel
theorem dX7_clear_58 : decode cX7_clear 58 = .ok (.istore_n 2, 1) := by decide +kernel
theorem dX7_clear_59 : decode cX7_clear 59 = .ok (.iload_n 2, 1) := by decide +kernel
theorem dX7_clear_60 : decode cX7_clear 60 = .ok (.bipush 12, 2) := by decide +kernel
theorem dX7_clear_62 : decode cX7_clear 62 = .ok (.if_icmp .ge 21, 3) := by decide +kernel
theorem dX7_clear_65 : decode cX7_clear 65 = .ok (.aload_n 0, 1) := by decide +kernel
theorem dX7_clear_66 : decode cX7_clear 66 = .ok (.getfield 35, 3) := by decide +kernel
theorem dX7_clear_69 : decode cX7_clear 69 = .ok (.bipush 12, 2) := by decide +kernel
theorem dX7_clear_71 : decode cX7_clear 71 = .ok (.iload_n 1, 1) := by decide +kernel
theorem dX7_clear_72 : decode cX7_clear 72 = .ok (.imul, 1) := by decide +kernel
theorem dX7_clear_73 : decode cX7_clear 73 = .ok (.iload_n 2, 1) := by decide +kernel
theorem dX7_clear_74 : decode cX7_clear 74 = .ok (.iadd, 1) := by decide +kernel
theorem dX7_clear_75 : decode cX7_clear 75 = .ok (.iconst 0, 1) := by decide +kernel
theorem dX7_clear_76 : decode cX7_clear 76 = .ok (.bastore, 1) := by decide +kernel
theorem dX7_clear_77 : decode cX7_clear 77 = .ok (.iinc 2 1, 3) := by decide +kernel
theorem dX7_clear_80 : decode cX7_clear 80 = .ok (.goto (-21), 3) := by decide +kernel
theorem dX7_clear_83 : decode cX7_clear 83 = .ok (.iinc 1 1, 3) := by decide +kernel
theorem dX7_clear_86 : decode cX7_clear 86 = .ok (.goto (-84), 3) := by decide +kernel
theorem dX7_clear_89 : decode cX7_clear 89 = .ok (.aload_n 0, 1) := by decide +kernel
theorem dX7_clear_90 : decode cX7_clear 90 = .ok (.iconst 0, 1) := by decide +kernel
theorem dX7_clear_91 : decode cX7_clear 91 = .ok (.putfield 72, 3) := by decide +kernel
theorem dX7_clear_94 : decode cX7_clear 94 = .ok (.aload_n 0, 1) := by decide +kernel
theorem dX7_clear_95 : decode cX7_clear 95 = .ok (.iconst 0, 1) := by decide +kernel
theorem dX7_clear_96 : decode cX7_clear 96 = .ok (.putfield 83, 3) := by decide +kernel
theorem dX7_clear_99 : decode cX7_clear 99 = .ok (.return_, 1) := by decide +kernel
set_option maxRecDepth 20000 in
theorem ggX7_make_X7_clear : GoodIn wsX7_make wsX7_clear := goodIn_r _ [10, 11, 4, 12, 13, 14, 15, 16, 17, 18, 19, 63, 64, 65, 66, 67, 68, 69, 70, 71, 72, 73, 74, 75, 76, 77, 78, 79, 80] (by decide +kernel) (by decide +kernel)
set_option maxRecDepth 20000 in
theorem gX7_make_X7_clear : GoodIn wsX7_make (wsV RX7 86 RX7 yX7_clear wsX7_clear) := goodIn_app (goodIn_of _ (by decide +kernel)) ggX7_make_X7_clear
set_option maxRecDepth 20000 in
theorem ggX7_make_X7_makeRooms : GoodIn wsX7_make wsX7_makeRooms := goodIn_r _ [23, 2, 3, 4, 11, 12, 24, 25, 26, 9, 27, 28, 29, 30, 31, 1, 32, 33, 63, 64, 65, 66, 67, 68, 69, 70, 71, 72, 73, 74, 75, 76, 77, 78, 79, 80] (by decide +kernel) (by decide +kernel)
set_option maxRecDepth 20000 in
theorem gX7_make_X7_makeRooms : GoodIn wsX7_make (wsV RX7 89 RX7 yX7_makeRooms wsX7_makeRooms) := goodIn_app (goodIn_of _ (by decide +kernel)) ggX7_make_X7_makeRooms
set_option maxRecDepth 20000 in
theorem ggX7_make_X7_makeKeys : GoodIn wsX7_make wsX7_makeKeys := goodIn_r _ [37, 2, 3, 4, 15, 12, 38, 18, 24, 25, 26, 9, 27, 28, 29, 30, 31, 1, 32, 33, 39, 40, 41, 42, 43, 44, 45, 46, 11, 63, 64, 65, 66, 67, 68, 69, 70, 71, 72, 73, 74, 75, 76, 77, 78, 79, 80] (by decide +kernel) (by decide +kernel)
set_option maxRecDepth 20000 in
theorem gX7_make_X7_makeKeys : GoodIn wsX7_make (wsV RX7 93 RX7 yX7_makeKeys wsX7_makeKeys) := goodIn_app (goodIn_of _ (by decide +kernel)) ggX7_make_X7_makeKeys
set_option maxRecDepth 20000 in
theorem ggX7_make_X7_makeBarriers : GoodIn wsX7_make wsX7_makeBarriers := goodIn_r _ [50, 12, 16, 11, 39, 40, 41, 9, 42, 2, 3, 24, 25, 26, 27, 28, 29, 30, 31, 1, 32, 33, 63, 64, 65, 66, 67, 68, 69, 70, 71, 72, 73, 74, 75, 76, 77, 78, 79, 80] (by decide +kernel) (by decide +kernel)
set_option maxRecDepth 20000 in
theorem gX7_make_X7_makeBarriers : GoodIn wsX7_make (wsV RX7 97 RX7 yX7_makeBarriers wsX7_makeBarriers) := goodIn_app (goodIn_of _ (by decide +kernel)) ggX7_make_X7_makeBarriers
set_option maxRecDepth 20000 in
theorem ggX7_make_X7_drawn : GoodIn wsX7_make wsX7_drawn := goodIn_r _ [27, 2, 3, 28, 29, 30, 9, 31, 1, 32, 33, 63, 64, 65, 66, 67, 68, 69, 70, 71, 72, 73, 74, 75, 76, 77, 78, 79, 80] (by decide +kernel) (by decide +kernel)
set_option maxRecDepth 20000 in
theorem gX7_make_X7_drawn : GoodIn wsX7_make (wsV RX7 64 RX7 yX7_drawn wsX7_drawn) := goodIn_app (goodIn_of _ (by decide +kernel)) ggX7_make_X7_drawn
set_option maxRecDepth 20000 in
theorem ggX7_make_X7_makePlaces : GoodIn wsX7_make wsX7_makePlaces := goodIn_r _ [54, 2, 13, 11, 14, 28, 29, 30, 9, 31, 1, 32, 33, 55, 56, 57, 58, 63, 64, 65, 66, 67, 68, 69, 70, 71, 72, 73, 74, 75, 76, 77, 78, 79, 80] (by decide +kernel) (by decide +kernel)
set_option maxRecDepth 20000 in
theorem gX7_make_X7_makePlaces : GoodIn wsX7_make (wsV RX7 103 RX7 yX7_makePlaces wsX7_makePlaces) := goodIn_app (goodIn_of _ (by decide +kernel)) ggX7_make_X7_makePlaces
set_option maxRecDepth 20000 in
theorem ggX7_make_X7_makeLoops : GoodIn wsX7_make wsX7_makeLoops := goodIn_r _ [62, 2, 13, 14, 4, 11, 17, 28, 29, 30, 9, 31, 1, 32, 33, 63, 64, 65, 66, 67, 68, 69, 70, 71, 72, 73, 74, 75, 76, 77, 78, 79, 80] (by decide +kernel) (by decide +kernel)
set_option maxRecDepth 20000 in
theorem gX7_make_X7_makeLoops : GoodIn wsX7_make (wsV RX7 106 RX7 yX7_makeLoops wsX7_makeLoops) := goodIn_app (goodIn_of _ (by decide +kernel)) ggX7_make_X7_makeLoops
theorem dX7_make_0 : decode cX7_make 0 = .ok (.iload_n 3, 1) := by decide +kernel
theorem dX7_make_1 : decode cX7_make 1 = .ok (.iconst 2, 1) := by decide +kernel
theorem dX7_make_2 : decode cX7_make 2 = .ok (.if_icmp .lt 49, 3) := by decide +kernel
theorem dX7_make_5 : decode cX7_make 5 = .ok (.iload_n 3, 1) := by decide +kernel
theorem dX7_make_6 : decode cX7_make 6 = .ok (.bipush 12, 2) := by decide +kernel
theorem dX7_make_8 : decode cX7_make 8 = .ok (.if_icmp .gt 43, 3) := by decide +kernel
theorem dX7_make_11 : decode cX7_make 11 = .ok (.iload 4, 2) := by decide +kernel
theorem dX7_make_13 : decode cX7_make 13 = .ok (.iconst 1, 1) := by decide +kernel
theorem dX7_make_14 : decode cX7_make 14 = .ok (.if_icmp .lt 37, 3) := by decide +kernel
theorem dX7_make_17 : decode cX7_make 17 = .ok (.iload 4, 2) := by decide +kernel
theorem dX7_make_19 : decode cX7_make 19 = .ok (.iconst 3, 1) := by decide +kernel
theorem dX7_make_20 : decode cX7_make 20 = .ok (.if_icmp .gt 31, 3) := by decide +kernel
theorem dX7_make_23 : decode cX7_make 23 = .ok (.iload 4, 2) := by decide +kernel
theorem dX7_make_25 : decode cX7_make 25 = .ok (.iload_n 3, 1) := by decide +kernel
theorem dX7_make_26 : decode cX7_make 26 = .ok (.if_icmp .ge 25, 3) := by decide +kernel
theorem dX7_make_29 : decode cX7_make 29 = .ok (.iload 5, 2) := by decide +kernel
theorem dX7_make_31 : decode cX7_make 31 = .ok (.ifCond .lt 20, 3) := by decide +kernel
theorem dX7_make_34 : decode cX7_make 34 = .ok (.iload 5, 2) := by decide +kernel
theorem dX7_make_36 : decode cX7_make 36 = .ok (.iconst 3, 1) := by decide +kernel
theorem dX7_make_37 : decode cX7_make 37 = .ok (.if_icmp .gt 14, 3) := by decide +kernel
theorem dX7_make_40 : decode cX7_make 40 = .ok (.iload 6, 2) := by decide +kernel
theorem dX7_make_42 : decode cX7_make 42 = .ok (.ifCond .lt 9, 3) := by decide +kernel
theorem dX7_make_45 : decode cX7_make 45 = .ok (.iload 6, 2) := by decide +kernel
theorem dX7_make_47 : decode cX7_make 47 = .ok (.iconst 2, 1) := by decide +kernel
theorem dX7_make_48 : decode cX7_make 48 = .ok (.if_icmp .le 5, 3) := by decide +kernel
theorem dX7_make_51 : decode cX7_make 51 = .ok (.iconst (-1), 1) := by decide +kernel
theorem dX7_make_52 : decode cX7_make 52 = .ok (.ireturn, 1) := by decide +kernel
theorem dX7_make_53 : decode cX7_make 53 = .ok (.aload_n 0, 1) := by decide +kernel
theorem dX7_make_54 : decode cX7_make 54 = .ok (.invokevirtual 86, 3) := by decide +kernel
theorem dX7_make_57 : decode cX7_make 57 = .ok (.aload_n 0, 1) := by decide +kernel
theorem dX7_make_58 : decode cX7_make 58 = .ok (.lload_n 1, 1) := by decide +kernel
theorem dX7_make_59 : decode cX7_make 59 = .ok (.putfield 48, 3) := by decide +kernel
theorem dX7_make_62 : decode cX7_make 62 = .ok (.aload_n 0, 1) := by decide +kernel
theorem dX7_make_63 : decode cX7_make 63 = .ok (.iload_n 3, 1) := by decide +kernel
theorem dX7_make_64 : decode cX7_make 64 = .ok (.putfield 56, 3) := by decide +kernel
theorem dX7_make_67 : decode cX7_make 67 = .ok (.aload_n 0, 1) := by decide +kernel
theorem dX7_make_68 : decode cX7_make 68 = .ok (.iload 4, 2) := by decide +kernel
theorem dX7_make_70 : decode cX7_make 70 = .ok (.invokevirtual 89, 3) := by decide +kernel
theorem dX7_make_73 : decode cX7_make 73 = .ok (.aload_n 0, 1) := by decide +kernel
theorem dX7_make_74 : decode cX7_make 74 = .ok (.iload 4, 2) := by decide +kernel
theorem dX7_make_76 : decode cX7_make 76 = .ok (.iload 5, 2) := by decide +kernel
theorem dX7_make_78 : decode cX7_make 78 = .ok (.invokevirtual 93, 3) := by decide +kernel
theorem dX7_make_81 : decode cX7_make 81 = .ok (.aload_n 0, 1) := by decide +kernel
theorem dX7_make_82 : decode cX7_make 82 = .ok (.iload 6, 2) := by decide +kernel
theorem dX7_make_84 : decode cX7_make 84 = .ok (.invokevirtual 97, 3) := by decide +kernel
theorem dX7_make_87 : decode cX7_make 87 = .ok (.iconst 0, 1) := by decide +kernel
theorem dX7_make_88 : decode cX7_make 88 = .ok (.istore 7, 2) := by decide +kernel
theorem dX7_make_90 : decode cX7_make 90 = .ok (.iload 7, 2) := by decide +kernel
theorem dX7_make_92 : decode cX7_make 92 = .ok (.iload_n 3, 1) := by decide +kernel
theorem dX7_make_93 : decode cX7_make 93 = .ok (.if_icmp .ge 33, 3) := by decide +kernel
theorem dX7_make_96 : decode cX7_make 96 = .ok (.aload_n 0, 1) := by decide +kernel
theorem dX7_make_97 : decode cX7_make 97 = .ok (.getfield 38, 3) := by decide +kernel
theorem dX7_make_100 : decode cX7_make 100 = .ok (.iload 7, 2) := by decide +kernel
theorem dX7_make_102 : decode cX7_make 102 = .ok (.aload_n 0, 1) := by decide +kernel
theorem dX7_make_103 : decode cX7_make 103 = .ok (.getfield 13, 3) := by decide +kernel
theorem dX7_make_106 : decode cX7_make 106 = .ok (.iload 7, 2) := by decide +kernel
theorem dX7_make_108 : decode cX7_make 108 = .ok (.iaload, 1) := by decide +kernel
theorem dX7_make_109 : decode cX7_make 109 = .ok (.iload 4, 2) := by decide +kernel
theorem dX7_make_111 : decode cX7_make 111 = .ok (.if_icmp .ne 7, 3) := by decide +kernel
theorem dX7_make_114 : decode cX7_make 114 = .ok (.iconst 1, 1) := by decide +kernel
theorem dX7_make_115 : decode cX7_make 115 = .ok (.goto 4, 3) := by decide +kernel
theorem dX7_make_118 : decode cX7_make 118 = .ok (.iconst 0, 1) := by decide +kernel
theorem dX7_make_119 : decode cX7_make 119 = .ok (.bastore, 1) := by decide +kernel
theorem dX7_make_120 : decode cX7_make 120 = .ok (.iinc 7 1, 3) := by decide +kernel
theorem dX7_make_123 : decode cX7_make 123 = .ok (.goto (-33), 3) := by decide +kernel
theorem dX7_make_126 : decode cX7_make 126 = .ok (.aload_n 0, 1) := by decide +kernel
theorem dX7_make_127 : decode cX7_make 127 = .ok (.aload_n 0, 1) := by decide +kernel
theorem dX7_make_128 : decode cX7_make 128 = .ok (.invokevirtual 64, 3) := by decide +kernel
theorem dX7_make_131 : decode cX7_make 131 = .ok (.putfield 100, 3) := by decide +kernel
theorem dX7_make_134 : decode cX7_make 134 = .ok (.aload_n 0, 1) := by decide +kernel
theorem dX7_make_135 : decode cX7_make 135 = .ok (.invokevirtual 103, 3) := by decide +kernel
theorem dX7_make_138 : decode cX7_make 138 = .ok (.iload_n 3, 1) := by decide +kernel
theorem dX7_make_139 : decode cX7_make 139 = .ok (.iconst 1, 1) := by decide +kernel
theorem dX7_make_140 : decode cX7_make 140 = .ok (.isub, 1) := by decide +kernel
theorem dX7_make_141 : decode cX7_make 141 = .ok (.aload_n 0, 1) := by decide +kernel
theorem dX7_make_142 : decode cX7_make 142 = .ok (.invokevirtual 106, 3) := by decide +kernel
theorem dX7_make_145 : decode cX7_make 145 = .ok (.iadd, 1) := by decide +kernel
theorem dX7_make_146 : decode cX7_make 146 = .ok (.ireturn, 1) := by decide +kernel
theorem dX7_beyond_0 : decode cX7_beyond 0 = .ok (.iload_n 1, 1) := by decide +kernel
theorem dX7_beyond_1 : decode cX7_beyond 1 = .ok (.ifCond .le 9, 3) := by decide +kernel
theorem dX7_beyond_4 : decode cX7_beyond 4 = .ok (.iload_n 2, 1) := by decide +kernel
theorem dX7_beyond_5 : decode cX7_beyond 5 = .ok (.iconst 1, 1) := by decide +kernel
theorem dX7_beyond_6 : decode cX7_beyond 6 = .ok (.isub, 1) := by decide +kernel
theorem dX7_beyond_7 : decode cX7_beyond 7 = .ok (.goto 4, 3) := by decide +kernel
theorem dX7_beyond_10 : decode cX7_beyond 10 = .ok (.iload_n 2, 1) := by decide +kernel
theorem dX7_beyond_11 : decode cX7_beyond 11 = .ok (.istore_n 3, 1) := by decide +kernel
theorem dX7_beyond_12 : decode cX7_beyond 12 = .ok (.iload_n 3, 1) := by decide +kernel
theorem dX7_beyond_13 : decode cX7_beyond 13 = .ok (.ifCond .ge 18, 3) := by decide +kernel
theorem dX7_beyond_16 : decode cX7_beyond 16 = .ok (.iload_n 2, 1) := by decide +kernel
theorem dX7_beyond_17 : decode cX7_beyond 17 = .ok (.ifCond .ge 7, 3) := by decide +kernel
theorem dX7_beyond_20 : decode cX7_beyond 20 = .ok (.iconst (-1), 1) := by decide +kernel
theorem dX7_beyond_21 : decode cX7_beyond 21 = .ok (.goto 9, 3) := by decide +kernel
theorem dX7_beyond_24 : decode cX7_beyond 24 = .ok (.aload_n 0, 1) := by decide +kernel
theorem dX7_beyond_25 : decode cX7_beyond 25 = .ok (.getfield 7, 3) := by decide +kernel
theorem dX7_beyond_28 : decode cX7_beyond 28 = .ok (.iload_n 1, 1) := by decide +kernel
theorem dX7_beyond_29 : decode cX7_beyond 29 = .ok (.iaload, 1) := by decide +kernel
theorem dX7_beyond_30 : decode cX7_beyond 30 = .ok (.ireturn, 1) := by decide +kernel
theorem dX7_beyond_31 : decode cX7_beyond 31 = .ok (.iconst 0, 1) := by decide +kernel
theorem dX7_beyond_32 : decode cX7_beyond 32 = .ok (.istore 4, 2) := by decide +kernel
theorem dX7_beyond_34 : decode cX7_beyond 34 = .ok (.iload 4, 2) := by decide +kernel
theorem dX7_beyond_36 : decode cX7_beyond 36 = .ok (.aload_n 0, 1) := by decide +kernel
theorem dX7_beyond_37 : decode cX7_beyond 37 = .ok (.getfield 56, 3) := by decide +kernel
end
section
theorem dX7_beyond_40 : decode cX7_beyond 40 = .ok (.if_icmp .ge 30, 3) := by decide +kernel
theorem dX7_beyond_43 : decode cX7_beyond 43 = .ok (.aload_n 0, 1) := by decide +kernel
theorem dX7_beyond_44 : decode cX7_beyond 44 = .ok (.getfield 7, 3) := by decide +kernel
theorem dX7_beyond_47 : decode cX7_beyond 47 = .ok (.iload 4, 2) := by decide +kernel
theorem dX7_beyond_49 : decode cX7_beyond 49 = .ok (.iaload, 1) := by decide +kernel
theorem dX7_beyond_50 : decode cX7_beyond 50 = .ok (.iload_n 1, 1) := by decide +kernel
theorem dX7_beyond_51 : decode cX7_beyond 51 = .ok (.if_icmp .ne 13, 3) := by decide +kernel
theorem dX7_beyond_54 : decode cX7_beyond 54 = .ok (.iload_n 3, 1) := by decide +kernel
theorem dX7_beyond_55 : decode cX7_beyond 55 = .ok (.ifCond .ne 6, 3) := by decide +kernel
theorem dX7_beyond_58 : decode cX7_beyond 58 = .ok (.iload 4, 2) := by decide +kernel
theorem dX7_beyond_60 : decode cX7_beyond 60 = .ok (.ireturn, 1) := by decide +kernel
theorem dX7_beyond_61 : decode cX7_beyond 61 = .ok (.iinc 3 (-1), 3) := by decide +kernel
theorem dX7_beyond_64 : decode cX7_beyond 64 = .ok (.iinc 4 1, 3) := by decide +kernel
theorem dX7_beyond_67 : decode cX7_beyond 67 = .ok (.goto (-33), 3) := by decide +kernel
theorem dX7_beyond_70 : decode cX7_beyond 70 = .ok (.iconst 0, 1) := by decide +kernel
theorem dX7_beyond_71 : decode cX7_beyond 71 = .ok (.istore 4, 2) := by decide +kernel
theorem dX7_beyond_73 : decode cX7_beyond 73 = .ok (.iload 4, 2) := by decide +kernel
theorem dX7_beyond_75 : decode cX7_beyond 75 = .ok (.aload_n 0, 1) := by decide +kernel
theorem dX7_beyond_76 : decode cX7_beyond 76 = .ok (.getfield 56, 3) := by decide +kernel
theorem dX7_beyond_79 : decode cX7_beyond 79 = .ok (.if_icmp .ge 34, 3) := by decide +kernel
theorem dX7_beyond_82 : decode cX7_beyond 82 = .ok (.aload_n 0, 1) := by decide +kernel
theorem dX7_beyond_83 : decode cX7_beyond 83 = .ok (.getfield 35, 3) := by decide +kernel
theorem dX7_beyond_86 : decode cX7_beyond 86 = .ok (.bipush 12, 2) := by decide +kernel
theorem dX7_beyond_88 : decode cX7_beyond 88 = .ok (.iload_n 1, 1) := by decide +kernel
theorem dX7_beyond_89 : decode cX7_beyond 89 = .ok (.imul, 1) := by decide +kernel
theorem dX7_beyond_90 : decode cX7_beyond 90 = .ok (.iload 4, 2) := by decide +kernel
theorem dX7_beyond_92 : decode cX7_beyond 92 = .ok (.iadd, 1) := by decide +kernel
theorem dX7_beyond_93 : decode cX7_beyond 93 = .ok (.baload, 1) := by decide +kernel
theorem dX7_beyond_94 : decode cX7_beyond 94 = .ok (.ifCond .eq 13, 3) := by decide +kernel
theorem dX7_beyond_97 : decode cX7_beyond 97 = .ok (.iload_n 3, 1) := by decide +kernel
theorem dX7_beyond_98 : decode cX7_beyond 98 = .ok (.ifCond .ne 6, 3) := by decide +kernel
theorem dX7_beyond_101 : decode cX7_beyond 101 = .ok (.iload 4, 2) := by decide +kernel
theorem dX7_beyond_103 : decode cX7_beyond 103 = .ok (.ireturn, 1) := by decide +kernel
theorem dX7_beyond_104 : decode cX7_beyond 104 = .ok (.iinc 3 (-1), 3) := by decide +kernel
theorem dX7_beyond_107 : decode cX7_beyond 107 = .ok (.iinc 4 1, 3) := by decide +kernel
theorem dX7_beyond_110 : decode cX7_beyond 110 = .ok (.goto (-37), 3) := by decide +kernel
theorem dX7_beyond_113 : decode cX7_beyond 113 = .ok (.iconst (-1), 1) := by decide +kernel
theorem dX7_beyond_114 : decode cX7_beyond 114 = .ok (.ireturn, 1) := by decide +kernel
theorem dX7_doors_0 : decode cX7_doors 0 = .ok (.iload_n 1, 1) := by decide +kernel
theorem dX7_doors_1 : decode cX7_doors 1 = .ok (.ifCond .le 7, 3) := by decide +kernel
theorem dX7_doors_4 : decode cX7_doors 4 = .ok (.iconst 1, 1) := by decide +kernel
theorem dX7_doors_5 : decode cX7_doors 5 = .ok (.goto 4, 3) := by decide +kernel
theorem dX7_doors_8 : decode cX7_doors 8 = .ok (.iconst 0, 1) := by decide +kernel
theorem dX7_doors_9 : decode cX7_doors 9 = .ok (.istore_n 2, 1) := by decide +kernel
theorem dX7_doors_10 : decode cX7_doors 10 = .ok (.iconst 0, 1) := by decide +kernel
theorem dX7_doors_11 : decode cX7_doors 11 = .ok (.istore_n 3, 1) := by decide +kernel
theorem dX7_doors_12 : decode cX7_doors 12 = .ok (.iload_n 3, 1) := by decide +kernel
theorem dX7_doors_13 : decode cX7_doors 13 = .ok (.aload_n 0, 1) := by decide +kernel
theorem dX7_doors_14 : decode cX7_doors 14 = .ok (.getfield 56, 3) := by decide +kernel
theorem dX7_doors_17 : decode cX7_doors 17 = .ok (.if_icmp .ge 49, 3) := by decide +kernel
theorem dX7_doors_20 : decode cX7_doors 20 = .ok (.aload_n 0, 1) := by decide +kernel
theorem dX7_doors_21 : decode cX7_doors 21 = .ok (.getfield 7, 3) := by decide +kernel
theorem dX7_doors_24 : decode cX7_doors 24 = .ok (.iload_n 3, 1) := by decide +kernel
theorem dX7_doors_25 : decode cX7_doors 25 = .ok (.iaload, 1) := by decide +kernel
theorem dX7_doors_26 : decode cX7_doors 26 = .ok (.iload_n 1, 1) := by decide +kernel
theorem dX7_doors_27 : decode cX7_doors 27 = .ok (.if_icmp .ne 9, 3) := by decide +kernel
theorem dX7_doors_30 : decode cX7_doors 30 = .ok (.iload_n 2, 1) := by decide +kernel
theorem dX7_doors_31 : decode cX7_doors 31 = .ok (.iconst 1, 1) := by decide +kernel
theorem dX7_doors_32 : decode cX7_doors 32 = .ok (.iadd, 1) := by decide +kernel
theorem dX7_doors_33 : decode cX7_doors 33 = .ok (.goto 4, 3) := by decide +kernel
theorem dX7_doors_36 : decode cX7_doors 36 = .ok (.iload_n 2, 1) := by decide +kernel
theorem dX7_doors_37 : decode cX7_doors 37 = .ok (.istore_n 2, 1) := by decide +kernel
theorem dX7_doors_38 : decode cX7_doors 38 = .ok (.aload_n 0, 1) := by decide +kernel
theorem dX7_doors_39 : decode cX7_doors 39 = .ok (.getfield 35, 3) := by decide +kernel
theorem dX7_doors_42 : decode cX7_doors 42 = .ok (.bipush 12, 2) := by decide +kernel
theorem dX7_doors_44 : decode cX7_doors 44 = .ok (.iload_n 1, 1) := by decide +kernel
theorem dX7_doors_45 : decode cX7_doors 45 = .ok (.imul, 1) := by decide +kernel
theorem dX7_doors_46 : decode cX7_doors 46 = .ok (.iload_n 3, 1) := by decide +kernel
theorem dX7_doors_47 : decode cX7_doors 47 = .ok (.iadd, 1) := by decide +kernel
theorem dX7_doors_48 : decode cX7_doors 48 = .ok (.baload, 1) := by decide +kernel
theorem dX7_doors_49 : decode cX7_doors 49 = .ok (.ifCond .eq 9, 3) := by decide +kernel
theorem dX7_doors_52 : decode cX7_doors 52 = .ok (.iload_n 2, 1) := by decide +kernel
theorem dX7_doors_53 : decode cX7_doors 53 = .ok (.iconst 1, 1) := by decide +kernel
theorem dX7_doors_54 : decode cX7_doors 54 = .ok (.iadd, 1) := by decide +kernel
theorem dX7_doors_55 : decode cX7_doors 55 = .ok (.goto 4, 3) := by decide +kernel
theorem dX7_doors_58 : decode cX7_doors 58 = .ok (.iload_n 2, 1) := by decide +kernel
theorem dX7_doors_59 : decode cX7_doors 59 = .ok (.istore_n 2, 1) := by decide +kernel
theorem dX7_doors_60 : decode cX7_doors 60 = .ok (.iinc 3 1, 3) := by decide +kernel
theorem dX7_doors_63 : decode cX7_doors 63 = .ok (.goto (-51), 3) := by decide +kernel
theorem dX7_doors_66 : decode cX7_doors 66 = .ok (.iload_n 2, 1) := by decide +kernel
theorem dX7_doors_67 : decode cX7_doors 67 = .ok (.ireturn, 1) := by decide +kernel
theorem dX7_ones_0 : decode cX7_ones 0 = .ok (.iload_n 0, 1) := by decide +kernel
theorem dX7_ones_1 : decode cX7_ones 1 = .ok (.iconst 1, 1) := by decide +kernel
theorem dX7_ones_2 : decode cX7_ones 2 = .ok (.iand, 1) := by decide +kernel
theorem dX7_ones_3 : decode cX7_ones 3 = .ok (.iload_n 0, 1) := by decide +kernel
theorem dX7_ones_4 : decode cX7_ones 4 = .ok (.iconst 1, 1) := by decide +kernel
theorem dX7_ones_5 : decode cX7_ones 5 = .ok (.ishr, 1) := by decide +kernel
theorem dX7_ones_6 : decode cX7_ones 6 = .ok (.iconst 1, 1) := by decide +kernel
theorem dX7_ones_7 : decode cX7_ones 7 = .ok (.iand, 1) := by decide +kernel
theorem dX7_ones_8 : decode cX7_ones 8 = .ok (.iadd, 1) := by decide +kernel
theorem dX7_ones_9 : decode cX7_ones 9 = .ok (.iload_n 0, 1) := by decide +kernel
theorem dX7_ones_10 : decode cX7_ones 10 = .ok (.iconst 2, 1) := by decide +kernel
theorem dX7_ones_11 : decode cX7_ones 11 = .ok (.ishr, 1) := by decide +kernel
theorem dX7_ones_12 : decode cX7_ones 12 = .ok (.iconst 1, 1) := by decide +kernel
theorem dX7_ones_13 : decode cX7_ones 13 = .ok (.iand, 1) := by decide +kernel
theorem dX7_ones_14 : decode cX7_ones 14 = .ok (.iadd, 1) := by decide +kernel
theorem dX7_ones_15 : decode cX7_ones 15 = .ok (.ireturn, 1) := by decide +kernel
set_option maxRecDepth 20000 in
theorem ggX7_walked_X7_beyond : GoodIn wsX7_walked wsX7_beyond := goodIn_r _ [9, 1, 10, 11, 15, 16, 17, 18, 19, 20, 21, 22, 23, 24, 25, 26, 27, 28, 29, 30, 31, 32] (by decide +kernel) (by decide +kernel)
set_option maxRecDepth 20000 in
theorem gX7_walked_X7_beyond : GoodIn wsX7_walked (wsV RX7 109 RX7 yX7_beyond wsX7_beyond) := goodIn_app (goodIn_of _ (by decide +kernel)) ggX7_walked_X7_beyond
set_option maxRecDepth 20000 in
theorem ggX7_walked_X7_ones : GoodIn wsX7_walked wsX7_ones := goodIn_r _ [14] (by decide +kernel) (by decide +kernel)
set_option maxRecDepth 20000 in
theorem gX7_walked_X7_ones : GoodIn wsX7_walked (va_wsS RX7 113 yX7_ones wsX7_ones) := goodIn_app (goodIn_of _ (by decide +kernel)) ggX7_walked_X7_ones
theorem dX7_walked_0 : decode cX7_walked 0 = .ok (.iload_n 1, 1) := by decide +kernel
theorem dX7_walked_1 : decode cX7_walked 1 = .ok (.sipush 1024, 3) := by decide +kernel
theorem dX7_walked_4 : decode cX7_walked 4 = .ok (.idiv, 1) := by decide +kernel
theorem dX7_walked_5 : decode cX7_walked 5 = .ok (.istore_n 3, 1) := by decide +kernel
theorem dX7_walked_6 : decode cX7_walked 6 = .ok (.aload_n 0, 1) := by decide +kernel
theorem dX7_walked_7 : decode cX7_walked 7 = .ok (.iload_n 3, 1) := by decide +kernel
theorem dX7_walked_8 : decode cX7_walked 8 = .ok (.iload_n 2, 1) := by decide +kernel
theorem dX7_walked_9 : decode cX7_walked 9 = .ok (.invokevirtual 109, 3) := by decide +kernel
theorem dX7_walked_12 : decode cX7_walked 12 = .ok (.istore 4, 2) := by decide +kernel
theorem dX7_walked_14 : decode cX7_walked 14 = .ok (.aload_n 0, 1) := by decide +kernel
theorem dX7_walked_15 : decode cX7_walked 15 = .ok (.getfield 7, 3) := by decide +kernel
theorem dX7_walked_18 : decode cX7_walked 18 = .ok (.iload_n 3, 1) := by decide +kernel
theorem dX7_walked_19 : decode cX7_walked 19 = .ok (.iaload, 1) := by decide +kernel
theorem dX7_walked_20 : decode cX7_walked 20 = .ok (.iload 4, 2) := by decide +kernel
theorem dX7_walked_22 : decode cX7_walked 22 = .ok (.if_icmp .ne 7, 3) := by decide +kernel
theorem dX7_walked_25 : decode cX7_walked 25 = .ok (.iload_n 3, 1) := by decide +kernel
theorem dX7_walked_26 : decode cX7_walked 26 = .ok (.goto 20, 3) := by decide +kernel
theorem dX7_walked_29 : decode cX7_walked 29 = .ok (.aload_n 0, 1) := by decide +kernel
theorem dX7_walked_30 : decode cX7_walked 30 = .ok (.getfield 7, 3) := by decide +kernel
theorem dX7_walked_33 : decode cX7_walked 33 = .ok (.iload 4, 2) := by decide +kernel
theorem dX7_walked_35 : decode cX7_walked 35 = .ok (.iaload, 1) := by decide +kernel
theorem dX7_walked_36 : decode cX7_walked 36 = .ok (.iload_n 3, 1) := by decide +kernel
theorem dX7_walked_37 : decode cX7_walked 37 = .ok (.if_icmp .ne 8, 3) := by decide +kernel
theorem dX7_walked_40 : decode cX7_walked 40 = .ok (.iload 4, 2) := by decide +kernel
theorem dX7_walked_42 : decode cX7_walked 42 = .ok (.goto 4, 3) := by decide +kernel
theorem dX7_walked_45 : decode cX7_walked 45 = .ok (.iconst (-1), 1) := by decide +kernel
theorem dX7_walked_46 : decode cX7_walked 46 = .ok (.istore 5, 2) := by decide +kernel
theorem dX7_walked_48 : decode cX7_walked 48 = .ok (.sipush 1024, 3) := by decide +kernel
theorem dX7_walked_51 : decode cX7_walked 51 = .ok (.iload 4, 2) := by decide +kernel
theorem dX7_walked_53 : decode cX7_walked 53 = .ok (.imul, 1) := by decide +kernel
theorem dX7_walked_54 : decode cX7_walked 54 = .ok (.iload_n 1, 1) := by decide +kernel
theorem dX7_walked_55 : decode cX7_walked 55 = .ok (.sipush 1024, 3) := by decide +kernel
theorem dX7_walked_58 : decode cX7_walked 58 = .ok (.irem, 1) := by decide +kernel
theorem dX7_walked_59 : decode cX7_walked 59 = .ok (.iadd, 1) := by decide +kernel
theorem dX7_walked_60 : decode cX7_walked 60 = .ok (.istore 6, 2) := by decide +kernel
theorem dX7_walked_62 : decode cX7_walked 62 = .ok (.iload 5, 2) := by decide +kernel
theorem dX7_walked_64 : decode cX7_walked 64 = .ok (.ifCond .lt 13, 3) := by decide +kernel
theorem dX7_walked_67 : decode cX7_walked 67 = .ok (.aload_n 0, 1) := by decide +kernel
theorem dX7_walked_68 : decode cX7_walked 68 = .ok (.getfield 16, 3) := by decide +kernel
theorem dX7_walked_71 : decode cX7_walked 71 = .ok (.iload 5, 2) := by decide +kernel
theorem dX7_walked_73 : decode cX7_walked 73 = .ok (.iaload, 1) := by decide +kernel
theorem dX7_walked_74 : decode cX7_walked 74 = .ok (.ifCond .ne 6, 3) := by decide +kernel
theorem dX7_walked_77 : decode cX7_walked 77 = .ok (.iload 6, 2) := by decide +kernel
theorem dX7_walked_79 : decode cX7_walked 79 = .ok (.ireturn, 1) := by decide +kernel
theorem dX7_walked_80 : decode cX7_walked 80 = .ok (.aload_n 0, 1) := by decide +kernel
theorem dX7_walked_81 : decode cX7_walked 81 = .ok (.getfield 16, 3) := by decide +kernel
theorem dX7_walked_84 : decode cX7_walked 84 = .ok (.iload 5, 2) := by decide +kernel
theorem dX7_walked_86 : decode cX7_walked 86 = .ok (.iaload, 1) := by decide +kernel
theorem dX7_walked_87 : decode cX7_walked 87 = .ok (.iconst 1, 1) := by decide +kernel
theorem dX7_walked_88 : decode cX7_walked 88 = .ok (.if_icmp .ne 31, 3) := by decide +kernel
theorem dX7_walked_91 : decode cX7_walked 91 = .ok (.iload_n 1, 1) := by decide +kernel
theorem dX7_walked_92 : decode cX7_walked 92 = .ok (.sipush 128, 3) := by decide +kernel
theorem dX7_walked_95 : decode cX7_walked 95 = .ok (.idiv, 1) := by decide +kernel
theorem dX7_walked_96 : decode cX7_walked 96 = .ok (.aload_n 0, 1) := by decide +kernel
theorem dX7_walked_97 : decode cX7_walked 97 = .ok (.getfield 13, 3) := by decide +kernel
theorem dX7_walked_100 : decode cX7_walked 100 = .ok (.iload 5, 2) := by decide +kernel
theorem dX7_walked_102 : decode cX7_walked 102 = .ok (.iaload, 1) := by decide +kernel
theorem dX7_walked_103 : decode cX7_walked 103 = .ok (.iconst 1, 1) := by decide +kernel
theorem dX7_walked_104 : decode cX7_walked 104 = .ok (.isub, 1) := by decide +kernel
theorem dX7_walked_105 : decode cX7_walked 105 = .ok (.ishr, 1) := by decide +kernel
theorem dX7_walked_106 : decode cX7_walked 106 = .ok (.iconst 1, 1) := by decide +kernel
theorem dX7_walked_107 : decode cX7_walked 107 = .ok (.iand, 1) := by decide +kernel
theorem dX7_walked_108 : decode cX7_walked 108 = .ok (.iconst 1, 1) := by decide +kernel
theorem dX7_walked_109 : decode cX7_walked 109 = .ok (.if_icmp .ne 8, 3) := by decide +kernel
theorem dX7_walked_112 : decode cX7_walked 112 = .ok (.iload 6, 2) := by decide +kernel
theorem dX7_walked_114 : decode cX7_walked 114 = .ok (.goto 4, 3) := by decide +kernel
theorem dX7_walked_117 : decode cX7_walked 117 = .ok (.iconst (-1), 1) := by decide +kernel
theorem dX7_walked_118 : decode cX7_walked 118 = .ok (.ireturn, 1) := by decide +kernel
theorem dX7_walked_119 : decode cX7_walked 119 = .ok (.aload_n 0, 1) := by decide +kernel
theorem dX7_walked_120 : decode cX7_walked 120 = .ok (.getfield 16, 3) := by decide +kernel
theorem dX7_walked_123 : decode cX7_walked 123 = .ok (.iload 5, 2) := by decide +kernel
theorem dX7_walked_125 : decode cX7_walked 125 = .ok (.iaload, 1) := by decide +kernel
theorem dX7_walked_126 : decode cX7_walked 126 = .ok (.iconst 2, 1) := by decide +kernel
theorem dX7_walked_127 : decode cX7_walked 127 = .ok (.if_icmp .eq 32, 3) := by decide +kernel
theorem dX7_walked_130 : decode cX7_walked 130 = .ok (.iload_n 1, 1) := by decide +kernel
theorem dX7_walked_131 : decode cX7_walked 131 = .ok (.iconst 2, 1) := by decide +kernel
theorem dX7_walked_132 : decode cX7_walked 132 = .ok (.irem, 1) := by decide +kernel
theorem dX7_walked_133 : decode cX7_walked 133 = .ok (.aload_n 0, 1) := by decide +kernel
theorem dX7_walked_134 : decode cX7_walked 134 = .ok (.getfield 16, 3) := by decide +kernel
theorem dX7_walked_137 : decode cX7_walked 137 = .ok (.iload 5, 2) := by decide +kernel
theorem dX7_walked_139 : decode cX7_walked 139 = .ok (.iaload, 1) := by decide +kernel
theorem dX7_walked_140 : decode cX7_walked 140 = .ok (.iconst 3, 1) := by decide +kernel
theorem dX7_walked_141 : decode cX7_walked 141 = .ok (.if_icmp .ne 7, 3) := by decide +kernel
theorem dX7_walked_144 : decode cX7_walked 144 = .ok (.iconst 0, 1) := by decide +kernel
theorem dX7_walked_145 : decode cX7_walked 145 = .ok (.goto 4, 3) := by decide +kernel
theorem dX7_walked_148 : decode cX7_walked 148 = .ok (.iconst 1, 1) := by decide +kernel
theorem dX7_walked_149 : decode cX7_walked 149 = .ok (.if_icmp .ne 8, 3) := by decide +kernel
theorem dX7_walked_152 : decode cX7_walked 152 = .ok (.iload 6, 2) := by decide +kernel
theorem dX7_walked_154 : decode cX7_walked 154 = .ok (.goto 4, 3) := by decide +kernel
theorem dX7_walked_157 : decode cX7_walked 157 = .ok (.iconst (-1), 1) := by decide +kernel
theorem dX7_walked_158 : decode cX7_walked 158 = .ok (.ireturn, 1) := by decide +kernel
theorem dX7_walked_159 : decode cX7_walked 159 = .ok (.iload_n 1, 1) := by decide +kernel
theorem dX7_walked_160 : decode cX7_walked 160 = .ok (.iconst 2, 1) := by decide +kernel
theorem dX7_walked_161 : decode cX7_walked 161 = .ok (.idiv, 1) := by decide +kernel
theorem dX7_walked_162 : decode cX7_walked 162 = .ok (.aload_n 0, 1) := by decide +kernel
theorem dX7_walked_163 : decode cX7_walked 163 = .ok (.getfield 19, 3) := by decide +kernel
theorem dX7_walked_166 : decode cX7_walked 166 = .ok (.iload 5, 2) := by decide +kernel
theorem dX7_walked_168 : decode cX7_walked 168 = .ok (.iaload, 1) := by decide +kernel
theorem dX7_walked_169 : decode cX7_walked 169 = .ok (.ishr, 1) := by decide +kernel
theorem dX7_walked_170 : decode cX7_walked 170 = .ok (.iconst 1, 1) := by decide +kernel
theorem dX7_walked_171 : decode cX7_walked 171 = .ok (.iand, 1) := by decide +kernel
theorem dX7_walked_172 : decode cX7_walked 172 = .ok (.iconst 1, 1) := by decide +kernel
theorem dX7_walked_173 : decode cX7_walked 173 = .ok (.if_icmp .ne 6, 3) := by decide +kernel
theorem dX7_walked_176 : decode cX7_walked 176 = .ok (.iload 6, 2) := by decide +kernel
theorem dX7_walked_178 : decode cX7_walked 178 = .ok (.ireturn, 1) := by decide +kernel
theorem dX7_walked_179 : decode cX7_walked 179 = .ok (.iload_n 1, 1) := by decide +kernel
theorem dX7_walked_180 : decode cX7_walked 180 = .ok (.bipush 16, 2) := by decide +kernel
theorem dX7_walked_182 : decode cX7_walked 182 = .ok (.idiv, 1) := by decide +kernel
theorem dX7_walked_183 : decode cX7_walked 183 = .ok (.bipush 8, 2) := by decide +kernel
theorem dX7_walked_185 : decode cX7_walked 185 = .ok (.irem, 1) := by decide +kernel
theorem dX7_walked_186 : decode cX7_walked 186 = .ok (.invokestatic 113, 3) := by decide +kernel
theorem dX7_walked_189 : decode cX7_walked 189 = .ok (.iload_n 1, 1) := by decide +kernel
theorem dX7_walked_190 : decode cX7_walked 190 = .ok (.iconst 2, 1) := by decide +kernel
theorem dX7_walked_191 : decode cX7_walked 191 = .ok (.idiv, 1) := by decide +kernel
theorem dX7_walked_192 : decode cX7_walked 192 = .ok (.bipush 8, 2) := by decide +kernel
theorem dX7_walked_194 : decode cX7_walked 194 = .ok (.irem, 1) := by decide +kernel
theorem dX7_walked_195 : decode cX7_walked 195 = .ok (.invokestatic 113, 3) := by decide +kernel
theorem dX7_walked_198 : decode cX7_walked 198 = .ok (.if_icmp .le 18, 3) := by decide +kernel
theorem dX7_walked_201 : decode cX7_walked 201 = .ok (.iload 6, 2) := by decide +kernel
theorem dX7_walked_203 : decode cX7_walked 203 = .ok (.iconst 2, 1) := by decide +kernel
theorem dX7_walked_204 : decode cX7_walked 204 = .ok (.aload_n 0, 1) := by decide +kernel
theorem dX7_walked_205 : decode cX7_walked 205 = .ok (.getfield 19, 3) := by decide +kernel
theorem dX7_walked_208 : decode cX7_walked 208 = .ok (.iload 5, 2) := by decide +kernel
theorem dX7_walked_210 : decode cX7_walked 210 = .ok (.iaload, 1) := by decide +kernel
theorem dX7_walked_211 : decode cX7_walked 211 = .ok (.ishl, 1) := by decide +kernel
theorem dX7_walked_212 : decode cX7_walked 212 = .ok (.iadd, 1) := by decide +kernel
theorem dX7_walked_213 : decode cX7_walked 213 = .ok (.goto 4, 3) := by decide +kernel
theorem dX7_walked_216 : decode cX7_walked 216 = .ok (.iconst (-1), 1) := by decide +kernel
theorem dX7_walked_217 : decode cX7_walked 217 = .ok (.ireturn, 1) := by decide +kernel
theorem dX7_takeable_0 : decode cX7_takeable 0 = .ok (.iload_n 1, 1) := by decide +kernel
theorem dX7_takeable_1 : decode cX7_takeable 1 = .ok (.sipush 128, 3) := by decide +kernel
theorem dX7_takeable_4 : decode cX7_takeable 4 = .ok (.idiv, 1) := by decide +kernel
theorem dX7_takeable_5 : decode cX7_takeable 5 = .ok (.bipush 8, 2) := by decide +kernel
theorem dX7_takeable_7 : decode cX7_takeable 7 = .ok (.irem, 1) := by decide +kernel
theorem dX7_takeable_8 : decode cX7_takeable 8 = .ok (.bipush 8, 2) := by decide +kernel
theorem dX7_takeable_10 : decode cX7_takeable 10 = .ok (.iload_n 1, 1) := by decide +kernel
theorem dX7_takeable_11 : decode cX7_takeable 11 = .ok (.bipush 16, 2) := by decide +kernel
theorem dX7_takeable_13 : decode cX7_takeable 13 = .ok (.idiv, 1) := by decide +kernel
theorem dX7_takeable_14 : decode cX7_takeable 14 = .ok (.bipush 8, 2) := by decide +kernel
theorem dX7_takeable_16 : decode cX7_takeable 16 = .ok (.irem, 1) := by decide +kernel
theorem dX7_takeable_17 : decode cX7_takeable 17 = .ok (.imul, 1) := by decide +kernel
theorem dX7_takeable_18 : decode cX7_takeable 18 = .ok (.iadd, 1) := by decide +kernel
theorem dX7_takeable_19 : decode cX7_takeable 19 = .ok (.istore_n 2, 1) := by decide +kernel
theorem dX7_takeable_20 : decode cX7_takeable 20 = .ok (.aload_n 0, 1) := by decide +kernel
theorem dX7_takeable_21 : decode cX7_takeable 21 = .ok (.getfield 28, 3) := by decide +kernel
theorem dX7_takeable_24 : decode cX7_takeable 24 = .ok (.iload_n 1, 1) := by decide +kernel
theorem dX7_takeable_25 : decode cX7_takeable 25 = .ok (.sipush 1024, 3) := by decide +kernel
theorem dX7_takeable_28 : decode cX7_takeable 28 = .ok (.idiv, 1) := by decide +kernel
theorem dX7_takeable_29 : decode cX7_takeable 29 = .ok (.iaload, 1) := by decide +kernel
theorem dX7_takeable_30 : decode cX7_takeable 30 = .ok (.iload_n 2, 1) := by decide +kernel
theorem dX7_takeable_31 : decode cX7_takeable 31 = .ok (.iconst (-1), 1) := by decide +kernel
theorem dX7_takeable_32 : decode cX7_takeable 32 = .ok (.ixor, 1) := by decide +kernel
theorem dX7_takeable_33 : decode cX7_takeable 33 = .ok (.iand, 1) := by decide +kernel
theorem dX7_takeable_34 : decode cX7_takeable 34 = .ok (.ireturn, 1) := by decide +kernel
set_option maxRecDepth 20000 in
theorem ggX7_after_X7_takeable : GoodIn wsX7_after wsX7_takeable := goodIn_r _ [6, 7, 29, 30, 31, 32, 33, 34, 35, 36, 37, 38, 39, 40, 41, 42, 43, 44, 45, 46] (by decide +kernel) (by decide +kernel)
set_option maxRecDepth 20000 in
theorem gX7_after_X7_takeable : GoodIn wsX7_after (wsV RX7 116 RX7 yX7_takeable wsX7_takeable) := goodIn_app (goodIn_of _ (by decide +kernel)) ggX7_after_X7_takeable
set_option maxRecDepth 20000 in
theorem ggX7_after_X7_doors : GoodIn wsX7_after wsX7_doors := goodIn_r _ [11, 12, 13, 14, 29, 30, 31, 32, 33, 34, 35, 36, 37, 38, 39, 40, 41, 42, 43, 44, 45, 46] (by decide +kernel) (by decide +kernel)
set_option maxRecDepth 20000 in
theorem gX7_after_X7_doors : GoodIn wsX7_after (wsV RX7 119 RX7 yX7_doors wsX7_doors) := goodIn_app (goodIn_of _ (by decide +kernel)) ggX7_after_X7_doors
set_option maxRecDepth 20000 in
theorem ggX7_after_X7_walked : GoodIn wsX7_after wsX7_walked := goodIn_r _ [18, 13, 19, 20, 21, 22, 23, 24, 5, 25, 12, 14, 26, 27, 28, 29, 30, 31, 32, 33, 34, 35, 36, 37, 38, 39, 40, 41, 42, 43, 44, 45, 46] (by decide +kernel) (by decide +kernel)
set_option maxRecDepth 20000 in
theorem gX7_after_X7_walked : GoodIn wsX7_after (wsV RX7 122 RX7 yX7_walked wsX7_walked) := goodIn_app (goodIn_of _ (by decide +kernel)) ggX7_after_X7_walked
theorem dX7_after_0 : decode cX7_after 0 = .ok (.iload_n 1, 1) := by decide +kernel
theorem dX7_after_1 : decode cX7_after 1 = .ok (.sipush 1024, 3) := by decide +kernel
theorem dX7_after_4 : decode cX7_after 4 = .ok (.idiv, 1) := by decide +kernel
theorem dX7_after_5 : decode cX7_after 5 = .ok (.istore_n 3, 1) := by decide +kernel
theorem dX7_after_6 : decode cX7_after 6 = .ok (.iload_n 2, 1) := by decide +kernel
theorem dX7_after_7 : decode cX7_after 7 = .ok (.bipush 100, 2) := by decide +kernel
theorem dX7_after_9 : decode cX7_after 9 = .ok (.if_icmp .ne 31, 3) := by decide +kernel
theorem dX7_after_12 : decode cX7_after 12 = .ok (.aload_n 0, 1) := by decide +kernel
theorem dX7_after_13 : decode cX7_after 13 = .ok (.iload_n 1, 1) := by decide +kernel
theorem dX7_after_14 : decode cX7_after 14 = .ok (.invokevirtual 116, 3) := by decide +kernel
theorem dX7_after_17 : decode cX7_after 17 = .ok (.istore 4, 2) := by decide +kernel
theorem dX7_after_19 : decode cX7_after 19 = .ok (.iload_n 1, 1) := by decide +kernel
theorem dX7_after_20 : decode cX7_after 20 = .ok (.sipush 128, 3) := by decide +kernel
theorem dX7_after_23 : decode cX7_after 23 = .ok (.iload 4, 2) := by decide +kernel
theorem dX7_after_25 : decode cX7_after 25 = .ok (.bipush 8, 2) := by decide +kernel
theorem dX7_after_27 : decode cX7_after 27 = .ok (.irem, 1) := by decide +kernel
theorem dX7_after_28 : decode cX7_after 28 = .ok (.imul, 1) := by decide +kernel
theorem dX7_after_29 : decode cX7_after 29 = .ok (.iadd, 1) := by decide +kernel
theorem dX7_after_30 : decode cX7_after 30 = .ok (.bipush 16, 2) := by decide +kernel
theorem dX7_after_32 : decode cX7_after 32 = .ok (.iload 4, 2) := by decide +kernel
theorem dX7_after_34 : decode cX7_after 34 = .ok (.bipush 8, 2) := by decide +kernel
theorem dX7_after_36 : decode cX7_after 36 = .ok (.idiv, 1) := by decide +kernel
theorem dX7_after_37 : decode cX7_after 37 = .ok (.imul, 1) := by decide +kernel
theorem dX7_after_38 : decode cX7_after 38 = .ok (.iadd, 1) := by decide +kernel
theorem dX7_after_39 : decode cX7_after 39 = .ok (.ireturn, 1) := by decide +kernel
theorem dX7_after_40 : decode cX7_after 40 = .ok (.iload_n 2, 1) := by decide +kernel
theorem dX7_after_41 : decode cX7_after 41 = .ok (.sipush 200, 3) := by decide +kernel
theorem dX7_after_44 : decode cX7_after 44 = .ok (.if_icmp .ne 32, 3) := by decide +kernel
theorem dX7_after_47 : decode cX7_after 47 = .ok (.aload_n 0, 1) := by decide +kernel
theorem dX7_after_48 : decode cX7_after 48 = .ok (.getfield 31, 3) := by decide +kernel
theorem dX7_after_51 : decode cX7_after 51 = .ok (.iload_n 3, 1) := by decide +kernel
theorem dX7_after_52 : decode cX7_after 52 = .ok (.baload, 1) := by decide +kernel
theorem dX7_after_53 : decode cX7_after 53 = .ok (.ifCond .ne 7, 3) := by decide +kernel
theorem dX7_after_56 : decode cX7_after 56 = .ok (.iconst (-1), 1) := by decide +kernel
theorem dX7_after_57 : decode cX7_after 57 = .ok (.goto 18, 3) := by decide +kernel
theorem dX7_after_60 : decode cX7_after 60 = .ok (.iload_n 1, 1) := by decide +kernel
theorem dX7_after_61 : decode cX7_after 61 = .ok (.iconst 2, 1) := by decide +kernel
theorem dX7_after_62 : decode cX7_after 62 = .ok (.irem, 1) := by decide +kernel
theorem dX7_after_63 : decode cX7_after 63 = .ok (.ifCond .ne 9, 3) := by decide +kernel
theorem dX7_after_66 : decode cX7_after 66 = .ok (.iload_n 1, 1) := by decide +kernel
theorem dX7_after_67 : decode cX7_after 67 = .ok (.iconst 1, 1) := by decide +kernel
theorem dX7_after_68 : decode cX7_after 68 = .ok (.iadd, 1) := by decide +kernel
theorem dX7_after_69 : decode cX7_after 69 = .ok (.goto 6, 3) := by decide +kernel
theorem dX7_after_72 : decode cX7_after 72 = .ok (.iload_n 1, 1) := by decide +kernel
theorem dX7_after_73 : decode cX7_after 73 = .ok (.iconst 1, 1) := by decide +kernel
theorem dX7_after_74 : decode cX7_after 74 = .ok (.isub, 1) := by decide +kernel
theorem dX7_after_75 : decode cX7_after 75 = .ok (.ireturn, 1) := by decide +kernel
theorem dX7_after_76 : decode cX7_after 76 = .ok (.iload_n 2, 1) := by decide +kernel
theorem dX7_after_77 : decode cX7_after 77 = .ok (.aload_n 0, 1) := by decide +kernel
theorem dX7_after_78 : decode cX7_after 78 = .ok (.iload_n 3, 1) := by decide +kernel
theorem dX7_after_79 : decode cX7_after 79 = .ok (.invokevirtual 119, 3) := by decide +kernel
theorem dX7_after_82 : decode cX7_after 82 = .ok (.if_icmp .ge 12, 3) := by decide +kernel
theorem dX7_after_85 : decode cX7_after 85 = .ok (.aload_n 0, 1) := by decide +kernel
theorem dX7_after_86 : decode cX7_after 86 = .ok (.iload_n 1, 1) := by decide +kernel
theorem dX7_after_87 : decode cX7_after 87 = .ok (.iload_n 2, 1) := by decide +kernel
theorem dX7_after_88 : decode cX7_after 88 = .ok (.invokevirtual 122, 3) := by decide +kernel
theorem dX7_after_91 : decode cX7_after 91 = .ok (.goto 4, 3) := by decide +kernel
theorem dX7_after_94 : decode cX7_after 94 = .ok (.iconst (-1), 1) := by decide +kernel
theorem dX7_after_95 : decode cX7_after 95 = .ok (.ireturn, 1) := by decide +kernel
set_option maxRecDepth 20000 in
theorem ggX7_nextAction_X7_doors : GoodIn wsX7_nextAction wsX7_doors := goodIn_r _ [5, 6, 7, 8, 9, 10, 11, 12, 13, 14, 15, 16, 17, 18, 19, 20, 21, 22, 23, 24, 25, 26] (by decide +kernel) (by decide +kernel)
set_option maxRecDepth 20000 in
theorem gX7_nextAction_X7_doors : GoodIn wsX7_nextAction (wsV RX7 119 RX7 yX7_doors wsX7_doors) := goodIn_app (goodIn_of _ (by decide +kernel)) ggX7_nextAction_X7_doors
theorem dX7_nextAction_0 : decode cX7_nextAction 0 = .ok (.iload_n 2, 1) := by decide +kernel
theorem dX7_nextAction_1 : decode cX7_nextAction 1 = .ok (.sipush 200, 3) := by decide +kernel
theorem dX7_nextAction_4 : decode cX7_nextAction 4 = .ok (.if_icmp .ne 7, 3) := by decide +kernel
theorem dX7_nextAction_7 : decode cX7_nextAction 7 = .ok (.iconst (-1), 1) := by decide +kernel
theorem dX7_nextAction_8 : decode cX7_nextAction 8 = .ok (.goto 38, 3) := by decide +kernel
theorem dX7_nextAction_11 : decode cX7_nextAction 11 = .ok (.iload_n 2, 1) := by decide +kernel
theorem dX7_nextAction_12 : decode cX7_nextAction 12 = .ok (.bipush 100, 2) := by decide +kernel
theorem dX7_nextAction_14 : decode cX7_nextAction 14 = .ok (.if_icmp .ne 9, 3) := by decide +kernel
theorem dX7_nextAction_17 : decode cX7_nextAction 17 = .ok (.sipush 200, 3) := by decide +kernel
theorem dX7_nextAction_20 : decode cX7_nextAction 20 = .ok (.goto 26, 3) := by decide +kernel
theorem dX7_nextAction_23 : decode cX7_nextAction 23 = .ok (.iload_n 2, 1) := by decide +kernel
theorem dX7_nextAction_24 : decode cX7_nextAction 24 = .ok (.iconst 1, 1) := by decide +kernel
theorem dX7_nextAction_25 : decode cX7_nextAction 25 = .ok (.iadd, 1) := by decide +kernel
theorem dX7_nextAction_26 : decode cX7_nextAction 26 = .ok (.aload_n 0, 1) := by decide +kernel
theorem dX7_nextAction_27 : decode cX7_nextAction 27 = .ok (.iload_n 1, 1) := by decide +kernel
theorem dX7_nextAction_28 : decode cX7_nextAction 28 = .ok (.sipush 1024, 3) := by decide +kernel
theorem dX7_nextAction_31 : decode cX7_nextAction 31 = .ok (.idiv, 1) := by decide +kernel
theorem dX7_nextAction_32 : decode cX7_nextAction 32 = .ok (.invokevirtual 119, 3) := by decide +kernel
theorem dX7_nextAction_35 : decode cX7_nextAction 35 = .ok (.if_icmp .ge 9, 3) := by decide +kernel
theorem dX7_nextAction_38 : decode cX7_nextAction 38 = .ok (.iload_n 2, 1) := by decide +kernel
theorem dX7_nextAction_39 : decode cX7_nextAction 39 = .ok (.iconst 1, 1) := by decide +kernel
theorem dX7_nextAction_40 : decode cX7_nextAction 40 = .ok (.iadd, 1) := by decide +kernel
theorem dX7_nextAction_41 : decode cX7_nextAction 41 = .ok (.goto 5, 3) := by decide +kernel
theorem dX7_nextAction_44 : decode cX7_nextAction 44 = .ok (.bipush 100, 2) := by decide +kernel
theorem dX7_nextAction_46 : decode cX7_nextAction 46 = .ok (.ireturn, 1) := by decide +kernel
theorem dX7_meet_0 : decode cX7_meet 0 = .ok (.iload_n 1, 1) := by decide +kernel
theorem dX7_meet_1 : decode cX7_meet 1 = .ok (.ifCond .lt 69, 3) := by decide +kernel
theorem dX7_meet_4 : decode cX7_meet 4 = .ok (.aload_n 0, 1) := by decide +kernel
theorem dX7_meet_5 : decode cX7_meet 5 = .ok (.getfield 41, 3) := by decide +kernel
theorem dX7_meet_8 : decode cX7_meet 8 = .ok (.iload_n 1, 1) := by decide +kernel
theorem dX7_meet_9 : decode cX7_meet 9 = .ok (.iaload, 1) := by decide +kernel
theorem dX7_meet_10 : decode cX7_meet 10 = .ok (.ifCond .ne 60, 3) := by decide +kernel
theorem dX7_meet_13 : decode cX7_meet 13 = .ok (.aload_n 0, 1) := by decide +kernel
theorem dX7_meet_14 : decode cX7_meet 14 = .ok (.getfield 41, 3) := by decide +kernel
theorem dX7_meet_17 : decode cX7_meet 17 = .ok (.iload_n 1, 1) := by decide +kernel
theorem dX7_meet_18 : decode cX7_meet 18 = .ok (.iload_n 2, 1) := by decide +kernel
theorem dX7_meet_19 : decode cX7_meet 19 = .ok (.iconst 1, 1) := by decide +kernel
theorem dX7_meet_20 : decode cX7_meet 20 = .ok (.iadd, 1) := by decide +kernel
theorem dX7_meet_21 : decode cX7_meet 21 = .ok (.iastore, 1) := by decide +kernel
theorem dX7_meet_22 : decode cX7_meet 22 = .ok (.aload_n 0, 1) := by decide +kernel
theorem dX7_meet_23 : decode cX7_meet 23 = .ok (.getfield 125, 3) := by decide +kernel
theorem dX7_meet_26 : decode cX7_meet 26 = .ok (.ifCond .lt 29, 3) := by decide +kernel
theorem dX7_meet_29 : decode cX7_meet 29 = .ok (.aload_n 0, 1) := by decide +kernel
theorem dX7_meet_30 : decode cX7_meet 30 = .ok (.getfield 41, 3) := by decide +kernel
theorem dX7_meet_33 : decode cX7_meet 33 = .ok (.aload_n 0, 1) := by decide +kernel
theorem dX7_meet_34 : decode cX7_meet 34 = .ok (.getfield 125, 3) := by decide +kernel
theorem dX7_meet_37 : decode cX7_meet 37 = .ok (.aload_n 0, 1) := by decide +kernel
theorem dX7_meet_38 : decode cX7_meet 38 = .ok (.getfield 41, 3) := by decide +kernel
theorem dX7_meet_41 : decode cX7_meet 41 = .ok (.aload_n 0, 1) := by decide +kernel
theorem dX7_meet_42 : decode cX7_meet 42 = .ok (.getfield 125, 3) := by decide +kernel
theorem dX7_meet_45 : decode cX7_meet 45 = .ok (.iaload, 1) := by decide +kernel
theorem dX7_meet_46 : decode cX7_meet 46 = .ok (.sipush 16384, 3) := by decide +kernel
theorem dX7_meet_49 : decode cX7_meet 49 = .ok (.iload_n 1, 1) := by decide +kernel
theorem dX7_meet_50 : decode cX7_meet 50 = .ok (.iconst 1, 1) := by decide +kernel
theorem dX7_meet_51 : decode cX7_meet 51 = .ok (.iadd, 1) := by decide +kernel
theorem dX7_meet_52 : decode cX7_meet 52 = .ok (.imul, 1) := by decide +kernel
theorem dX7_meet_53 : decode cX7_meet 53 = .ok (.iadd, 1) := by decide +kernel
theorem dX7_meet_54 : decode cX7_meet 54 = .ok (.iastore, 1) := by decide +kernel
theorem dX7_meet_55 : decode cX7_meet 55 = .ok (.aload_n 0, 1) := by decide +kernel
theorem dX7_meet_56 : decode cX7_meet 56 = .ok (.iload_n 1, 1) := by decide +kernel
theorem dX7_meet_57 : decode cX7_meet 57 = .ok (.putfield 125, 3) := by decide +kernel
theorem dX7_meet_60 : decode cX7_meet 60 = .ok (.aload_n 0, 1) := by decide +kernel
theorem dX7_meet_61 : decode cX7_meet 61 = .ok (.dup, 1) := by decide +kernel
theorem dX7_meet_62 : decode cX7_meet 62 = .ok (.getfield 128, 3) := by decide +kernel
theorem dX7_meet_65 : decode cX7_meet 65 = .ok (.iconst 1, 1) := by decide +kernel
theorem dX7_meet_66 : decode cX7_meet 66 = .ok (.iadd, 1) := by decide +kernel
theorem dX7_meet_67 : decode cX7_meet 67 = .ok (.putfield 128, 3) := by decide +kernel
theorem dX7_meet_70 : decode cX7_meet 70 = .ok (.return_, 1) := by decide +kernel
set_option maxRecDepth 20000 in
theorem ggX7_spread_X7_meet : GoodIn wsX7_spread wsX7_meet := goodIn_r _ [9, 1, 2, 3, 45, 46, 47, 48, 49, 50, 51, 52, 53, 54, 55, 56, 57, 58, 59, 60, 61, 62] (by decide +kernel) (by decide +kernel)
set_option maxRecDepth 20000 in
theorem gX7_spread_X7_meet : GoodIn wsX7_spread (wsV RX7 131 RX7 yX7_meet wsX7_meet) := goodIn_app (goodIn_of _ (by decide +kernel)) ggX7_spread_X7_meet
set_option maxRecDepth 20000 in
theorem ggX7_spread_X7_doors : GoodIn wsX7_spread wsX7_doors := goodIn_r _ [13, 14, 15, 16, 45, 46, 47, 48, 49, 50, 51, 52, 53, 54, 55, 56, 57, 58, 59, 60, 61, 62] (by decide +kernel) (by decide +kernel)
set_option maxRecDepth 20000 in
theorem gX7_spread_X7_doors : GoodIn wsX7_spread (wsV RX7 119 RX7 yX7_doors wsX7_doors) := goodIn_app (goodIn_of _ (by decide +kernel)) ggX7_spread_X7_doors
set_option maxRecDepth 20000 in
theorem ggX7_spread_X7_after : GoodIn wsX7_spread wsX7_after := goodIn_r _ [20, 21, 22, 23, 24, 8, 25, 26, 10, 11, 12, 13, 14, 15, 16, 27, 28, 29, 30, 31, 32, 33, 34, 35, 36, 37, 38, 39, 40, 45, 46, 47, 48, 49, 50, 51, 52, 53, 54, 55, 56, 57, 58, 59, 60, 61, 62] (by decide +kernel) (by decide +kernel)
set_option maxRecDepth 20000 in
theorem gX7_spread_X7_after : GoodIn wsX7_spread (wsV RX7 134 RX7 yX7_after wsX7_after) := goodIn_app (goodIn_of _ (by decide +kernel)) ggX7_spread_X7_after
set_option maxRecDepth 20000 in
theorem ggX7_spread_X7_nextAction : GoodIn wsX7_spread wsX7_nextAction := goodIn_r _ [44, 10, 11, 12, 8, 13, 14, 15, 16, 45, 46, 47, 48, 49, 50, 51, 52, 53, 54, 55, 56, 57, 58, 59, 60, 61, 62] (by decide +kernel) (by decide +kernel)
set_option maxRecDepth 20000 in
theorem gX7_spread_X7_nextAction : GoodIn wsX7_spread (wsV RX7 137 RX7 yX7_nextAction wsX7_nextAction) := goodIn_app (goodIn_of _ (by decide +kernel)) ggX7_spread_X7_nextAction
theorem dX7_spread_0 : decode cX7_spread 0 = .ok (.iconst 0, 1) := by decide +kernel
theorem dX7_spread_1 : decode cX7_spread 1 = .ok (.istore_n 2, 1) := by decide +kernel
theorem dX7_spread_2 : decode cX7_spread 2 = .ok (.iload_n 2, 1) := by decide +kernel
theorem dX7_spread_3 : decode cX7_spread 3 = .ok (.sipush 12288, 3) := by decide +kernel
theorem dX7_spread_6 : decode cX7_spread 6 = .ok (.if_icmp .ge 16, 3) := by decide +kernel
theorem dX7_spread_9 : decode cX7_spread 9 = .ok (.aload_n 0, 1) := by decide +kernel
theorem dX7_spread_10 : decode cX7_spread 10 = .ok (.getfield 41, 3) := by decide +kernel
theorem dX7_spread_13 : decode cX7_spread 13 = .ok (.iload_n 2, 1) := by decide +kernel
theorem dX7_spread_14 : decode cX7_spread 14 = .ok (.iconst 0, 1) := by decide +kernel
theorem dX7_spread_15 : decode cX7_spread 15 = .ok (.iastore, 1) := by decide +kernel
theorem dX7_spread_16 : decode cX7_spread 16 = .ok (.iinc 2 1, 3) := by decide +kernel
theorem dX7_spread_19 : decode cX7_spread 19 = .ok (.goto (-17), 3) := by decide +kernel
theorem dX7_spread_22 : decode cX7_spread 22 = .ok (.aload_n 0, 1) := by decide +kernel
theorem dX7_spread_23 : decode cX7_spread 23 = .ok (.iconst (-1), 1) := by decide +kernel
theorem dX7_spread_24 : decode cX7_spread 24 = .ok (.putfield 125, 3) := by decide +kernel
theorem dX7_spread_27 : decode cX7_spread 27 = .ok (.aload_n 0, 1) := by decide +kernel
theorem dX7_spread_28 : decode cX7_spread 28 = .ok (.iconst 0, 1) := by decide +kernel
theorem dX7_spread_29 : decode cX7_spread 29 = .ok (.putfield 128, 3) := by decide +kernel
theorem dX7_spread_32 : decode cX7_spread 32 = .ok (.bipush (-3), 2) := by decide +kernel
theorem dX7_spread_34 : decode cX7_spread 34 = .ok (.istore_n 2, 1) := by decide +kernel
theorem dX7_spread_35 : decode cX7_spread 35 = .ok (.aload_n 0, 1) := by decide +kernel
theorem dX7_spread_36 : decode cX7_spread 36 = .ok (.iload_n 1, 1) := by decide +kernel
theorem dX7_spread_37 : decode cX7_spread 37 = .ok (.iconst 0, 1) := by decide +kernel
theorem dX7_spread_38 : decode cX7_spread 38 = .ok (.invokevirtual 131, 3) := by decide +kernel
theorem dX7_spread_41 : decode cX7_spread 41 = .ok (.iload_n 1, 1) := by decide +kernel
theorem dX7_spread_42 : decode cX7_spread 42 = .ok (.istore_n 3, 1) := by decide +kernel
theorem dX7_spread_43 : decode cX7_spread 43 = .ok (.iload_n 3, 1) := by decide +kernel
theorem dX7_spread_44 : decode cX7_spread 44 = .ok (.ifCond .lt 108, 3) := by decide +kernel
theorem dX7_spread_47 : decode cX7_spread 47 = .ok (.aload_n 0, 1) := by decide +kernel
theorem dX7_spread_48 : decode cX7_spread 48 = .ok (.getfield 41, 3) := by decide +kernel
theorem dX7_spread_51 : decode cX7_spread 51 = .ok (.iload_n 3, 1) := by decide +kernel
theorem dX7_spread_52 : decode cX7_spread 52 = .ok (.iaload, 1) := by decide +kernel
theorem dX7_spread_53 : decode cX7_spread 53 = .ok (.sipush 16384, 3) := by decide +kernel
theorem dX7_spread_56 : decode cX7_spread 56 = .ok (.irem, 1) := by decide +kernel
theorem dX7_spread_57 : decode cX7_spread 57 = .ok (.iconst 1, 1) := by decide +kernel
theorem dX7_spread_58 : decode cX7_spread 58 = .ok (.isub, 1) := by decide +kernel
theorem dX7_spread_59 : decode cX7_spread 59 = .ok (.istore 4, 2) := by decide +kernel
theorem dX7_spread_61 : decode cX7_spread 61 = .ok (.iload_n 2, 1) := by decide +kernel
theorem dX7_spread_62 : decode cX7_spread 62 = .ok (.ifCond .ge 20, 3) := by decide +kernel
theorem dX7_spread_65 : decode cX7_spread 65 = .ok (.iload_n 3, 1) := by decide +kernel
theorem dX7_spread_66 : decode cX7_spread 66 = .ok (.sipush 1024, 3) := by decide +kernel
theorem dX7_spread_69 : decode cX7_spread 69 = .ok (.idiv, 1) := by decide +kernel
theorem dX7_spread_70 : decode cX7_spread 70 = .ok (.aload_n 0, 1) := by decide +kernel
theorem dX7_spread_71 : decode cX7_spread 71 = .ok (.getfield 100, 3) := by decide +kernel
theorem dX7_spread_74 : decode cX7_spread 74 = .ok (.if_icmp .ne 8, 3) := by decide +kernel
theorem dX7_spread_77 : decode cX7_spread 77 = .ok (.iload 4, 2) := by decide +kernel
theorem dX7_spread_79 : decode cX7_spread 79 = .ok (.goto 4, 3) := by decide +kernel
theorem dX7_spread_82 : decode cX7_spread 82 = .ok (.iload_n 2, 1) := by decide +kernel
theorem dX7_spread_83 : decode cX7_spread 83 = .ok (.istore_n 2, 1) := by decide +kernel
theorem dX7_spread_84 : decode cX7_spread 84 = .ok (.aload_n 0, 1) := by decide +kernel
theorem dX7_spread_85 : decode cX7_spread 85 = .ok (.iload_n 3, 1) := by decide +kernel
theorem dX7_spread_86 : decode cX7_spread 86 = .ok (.sipush 1024, 3) := by decide +kernel
theorem dX7_spread_89 : decode cX7_spread 89 = .ok (.idiv, 1) := by decide +kernel
theorem dX7_spread_90 : decode cX7_spread 90 = .ok (.invokevirtual 119, 3) := by decide +kernel
theorem dX7_spread_93 : decode cX7_spread 93 = .ok (.ifCond .le 7, 3) := by decide +kernel
theorem dX7_spread_96 : decode cX7_spread 96 = .ok (.iconst 0, 1) := by decide +kernel
theorem dX7_spread_97 : decode cX7_spread 97 = .ok (.goto 5, 3) := by decide +kernel
theorem dX7_spread_100 : decode cX7_spread 100 = .ok (.bipush 100, 2) := by decide +kernel
theorem dX7_spread_102 : decode cX7_spread 102 = .ok (.istore 5, 2) := by decide +kernel
theorem dX7_spread_104 : decode cX7_spread 104 = .ok (.iload 5, 2) := by decide +kernel
theorem dX7_spread_106 : decode cX7_spread 106 = .ok (.ifCond .lt 30, 3) := by decide +kernel
theorem dX7_spread_109 : decode cX7_spread 109 = .ok (.aload_n 0, 1) := by decide +kernel
theorem dX7_spread_110 : decode cX7_spread 110 = .ok (.aload_n 0, 1) := by decide +kernel
theorem dX7_spread_111 : decode cX7_spread 111 = .ok (.iload_n 3, 1) := by decide +kernel
theorem dX7_spread_112 : decode cX7_spread 112 = .ok (.iload 5, 2) := by decide +kernel
theorem dX7_spread_114 : decode cX7_spread 114 = .ok (.invokevirtual 134, 3) := by decide +kernel
theorem dX7_spread_117 : decode cX7_spread 117 = .ok (.iload 4, 2) := by decide +kernel
theorem dX7_spread_119 : decode cX7_spread 119 = .ok (.iconst 1, 1) := by decide +kernel
theorem dX7_spread_120 : decode cX7_spread 120 = .ok (.iadd, 1) := by decide +kernel
theorem dX7_spread_121 : decode cX7_spread 121 = .ok (.invokevirtual 131, 3) := by decide +kernel
theorem dX7_spread_124 : decode cX7_spread 124 = .ok (.aload_n 0, 1) := by decide +kernel
theorem dX7_spread_125 : decode cX7_spread 125 = .ok (.iload_n 3, 1) := by decide +kernel
theorem dX7_spread_126 : decode cX7_spread 126 = .ok (.iload 5, 2) := by decide +kernel
theorem dX7_spread_128 : decode cX7_spread 128 = .ok (.invokevirtual 137, 3) := by decide +kernel
theorem dX7_spread_131 : decode cX7_spread 131 = .ok (.istore 5, 2) := by decide +kernel
theorem dX7_spread_133 : decode cX7_spread 133 = .ok (.goto (-29), 3) := by decide +kernel
theorem dX7_spread_136 : decode cX7_spread 136 = .ok (.aload_n 0, 1) := by decide +kernel
theorem dX7_spread_137 : decode cX7_spread 137 = .ok (.getfield 41, 3) := by decide +kernel
theorem dX7_spread_140 : decode cX7_spread 140 = .ok (.iload_n 3, 1) := by decide +kernel
theorem dX7_spread_141 : decode cX7_spread 141 = .ok (.iaload, 1) := by decide +kernel
theorem dX7_spread_142 : decode cX7_spread 142 = .ok (.sipush 16384, 3) := by decide +kernel
theorem dX7_spread_145 : decode cX7_spread 145 = .ok (.idiv, 1) := by decide +kernel
theorem dX7_spread_146 : decode cX7_spread 146 = .ok (.iconst 1, 1) := by decide +kernel
theorem dX7_spread_147 : decode cX7_spread 147 = .ok (.isub, 1) := by decide +kernel
theorem dX7_spread_148 : decode cX7_spread 148 = .ok (.istore_n 3, 1) := by decide +kernel
theorem dX7_spread_149 : decode cX7_spread 149 = .ok (.goto (-106), 3) := by decide +kernel
theorem dX7_spread_152 : decode cX7_spread 152 = .ok (.iload_n 2, 1) := by decide +kernel
theorem dX7_spread_153 : decode cX7_spread 153 = .ok (.ireturn, 1) := by decide +kernel
set_option maxRecDepth 20000 in
theorem ggX7_steps_X7_spread : GoodIn wsX7_steps wsX7_spread := goodIn_r _ [6, 7, 8, 9, 10, 11, 12, 13, 5, 14, 15, 16, 17, 18, 19, 20, 21, 22, 23, 24, 25, 26, 27, 28, 29, 30, 31, 32, 33, 34, 35, 36, 37, 38, 39, 40, 41, 42, 43, 44, 45, 46, 47, 48, 49, 50, 51, 52, 53, 54, 55, 56, 57, 58, 59, 60, 61, 62, 63, 64, 65, 66, 67] (by decide +kernel) (by decide +kernel)
set_option maxRecDepth 20000 in
theorem gX7_steps_X7_spread : GoodIn wsX7_steps (wsV RX7 140 RX7 yX7_spread wsX7_spread) := goodIn_app (goodIn_of _ (by decide +kernel)) ggX7_steps_X7_spread
theorem dX7_steps_0 : decode cX7_steps 0 = .ok (.aload_n 0, 1) := by decide +kernel
theorem dX7_steps_1 : decode cX7_steps 1 = .ok (.aload_n 0, 1) := by decide +kernel
theorem dX7_steps_2 : decode cX7_steps 2 = .ok (.getfield 83, 3) := by decide +kernel
theorem dX7_steps_5 : decode cX7_steps 5 = .ok (.invokevirtual 140, 3) := by decide +kernel
theorem dX7_steps_8 : decode cX7_steps 8 = .ok (.ireturn, 1) := by decide +kernel
set_option maxRecDepth 20000 in
theorem ggX7_hint_X7_spread : GoodIn wsX7_hint wsX7_spread := goodIn_r _ [6, 7, 8, 9, 10, 11, 12, 13, 5, 14, 15, 16, 17, 18, 19, 20, 21, 22, 23, 24, 25, 26, 27, 28, 29, 30, 31, 32, 33, 34, 35, 36, 37, 38, 39, 40, 41, 42, 43, 44, 45, 46, 47, 48, 49, 50, 51, 52, 53, 54, 55, 56, 57, 58, 59, 60, 61, 62, 63, 64, 65, 66, 67] (by decide +kernel) (by decide +kernel)
set_option maxRecDepth 20000 in
theorem gX7_hint_X7_spread : GoodIn wsX7_hint (wsV RX7 140 RX7 yX7_spread wsX7_spread) := goodIn_app (goodIn_of _ (by decide +kernel)) ggX7_hint_X7_spread
set_option maxRecDepth 20000 in
theorem ggX7_hint_X7_after : GoodIn wsX7_hint wsX7_after := goodIn_r _ [25, 26, 27, 28, 29, 5, 30, 31, 15, 16, 17, 18, 19, 20, 21, 32, 33, 34, 35, 36, 37, 38, 39, 40, 41, 42, 43, 44, 45, 50, 51, 52, 53, 54, 55, 56, 57, 58, 59, 60, 61, 62, 63, 64, 65, 66, 67] (by decide +kernel) (by decide +kernel)
set_option maxRecDepth 20000 in
theorem gX7_hint_X7_after : GoodIn wsX7_hint (wsV RX7 134 RX7 yX7_after wsX7_after) := goodIn_app (goodIn_of _ (by decide +kernel)) ggX7_hint_X7_after
set_option maxRecDepth 20000 in
theorem ggX7_hint_X7_nextAction : GoodIn wsX7_hint wsX7_nextAction := goodIn_r _ [49, 15, 16, 17, 5, 18, 19, 20, 21, 50, 51, 52, 53, 54, 55, 56, 57, 58, 59, 60, 61, 62, 63, 64, 65, 66, 67] (by decide +kernel) (by decide +kernel)
set_option maxRecDepth 20000 in
theorem gX7_hint_X7_nextAction : GoodIn wsX7_hint (wsV RX7 137 RX7 yX7_nextAction wsX7_nextAction) := goodIn_app (goodIn_of _ (by decide +kernel)) ggX7_hint_X7_nextAction
theorem dX7_hint_0 : decode cX7_hint 0 = .ok (.aload_n 0, 1) := by decide +kernel
theorem dX7_hint_1 : decode cX7_hint 1 = .ok (.aload_n 0, 1) := by decide +kernel
theorem dX7_hint_2 : decode cX7_hint 2 = .ok (.getfield 83, 3) := by decide +kernel
theorem dX7_hint_5 : decode cX7_hint 5 = .ok (.invokevirtual 140, 3) := by decide +kernel
theorem dX7_hint_8 : decode cX7_hint 8 = .ok (.istore_n 1, 1) := by decide +kernel
theorem dX7_hint_9 : decode cX7_hint 9 = .ok (.iload_n 1, 1) := by decide +kernel
theorem dX7_hint_10 : decode cX7_hint 10 = .ok (.ifCond .gt 14, 3) := by decide +kernel
theorem dX7_hint_13 : decode cX7_hint 13 = .ok (.iload_n 1, 1) := by decide +kernel
theorem dX7_hint_14 : decode cX7_hint 14 = .ok (.ifCond .ne 7, 3) := by decide +kernel
theorem dX7_hint_17 : decode cX7_hint 17 = .ok (.iconst (-1), 1) := by decide +kernel
theorem dX7_hint_18 : decode cX7_hint 18 = .ok (.goto 5, 3) := by decide +kernel
theorem dX7_hint_21 : decode cX7_hint 21 = .ok (.bipush (-3), 2) := by decide +kernel
theorem dX7_hint_23 : decode cX7_hint 23 = .ok (.ireturn, 1) := by decide +kernel
theorem dX7_hint_24 : decode cX7_hint 24 = .ok (.iconst 0, 1) := by decide +kernel
theorem dX7_hint_25 : decode cX7_hint 25 = .ok (.istore_n 2, 1) := by decide +kernel
theorem dX7_hint_26 : decode cX7_hint 26 = .ok (.iload_n 2, 1) := by decide +kernel
theorem dX7_hint_27 : decode cX7_hint 27 = .ok (.ifCond .lt 43, 3) := by decide +kernel
theorem dX7_hint_30 : decode cX7_hint 30 = .ok (.aload_n 0, 1) := by decide +kernel
theorem dX7_hint_31 : decode cX7_hint 31 = .ok (.aload_n 0, 1) := by decide +kernel
theorem dX7_hint_32 : decode cX7_hint 32 = .ok (.getfield 83, 3) := by decide +kernel
theorem dX7_hint_35 : decode cX7_hint 35 = .ok (.iload_n 2, 1) := by decide +kernel
theorem dX7_hint_36 : decode cX7_hint 36 = .ok (.invokevirtual 134, 3) := by decide +kernel
theorem dX7_hint_39 : decode cX7_hint 39 = .ok (.istore_n 3, 1) := by decide +kernel
theorem dX7_hint_40 : decode cX7_hint 40 = .ok (.iload_n 3, 1) := by decide +kernel
theorem dX7_hint_41 : decode cX7_hint 41 = .ok (.ifCond .lt 16, 3) := by decide +kernel
theorem dX7_hint_44 : decode cX7_hint 44 = .ok (.aload_n 0, 1) := by decide +kernel
theorem dX7_hint_45 : decode cX7_hint 45 = .ok (.iload_n 3, 1) := by decide +kernel
theorem dX7_hint_46 : decode cX7_hint 46 = .ok (.invokevirtual 140, 3) := by decide +kernel
theorem dX7_hint_49 : decode cX7_hint 49 = .ok (.iload_n 1, 1) := by decide +kernel
theorem dX7_hint_50 : decode cX7_hint 50 = .ok (.iconst 1, 1) := by decide +kernel
theorem dX7_hint_51 : decode cX7_hint 51 = .ok (.isub, 1) := by decide +kernel
theorem dX7_hint_52 : decode cX7_hint 52 = .ok (.if_icmp .ne 5, 3) := by decide +kernel
theorem dX7_hint_55 : decode cX7_hint 55 = .ok (.iload_n 2, 1) := by decide +kernel
theorem dX7_hint_56 : decode cX7_hint 56 = .ok (.ireturn, 1) := by decide +kernel
theorem dX7_hint_57 : decode cX7_hint 57 = .ok (.aload_n 0, 1) := by decide +kernel
theorem dX7_hint_58 : decode cX7_hint 58 = .ok (.aload_n 0, 1) := by decide +kernel
theorem dX7_hint_59 : decode cX7_hint 59 = .ok (.getfield 83, 3) := by decide +kernel
theorem dX7_hint_62 : decode cX7_hint 62 = .ok (.iload_n 2, 1) := by decide +kernel
theorem dX7_hint_63 : decode cX7_hint 63 = .ok (.invokevirtual 137, 3) := by decide +kernel
theorem dX7_hint_66 : decode cX7_hint 66 = .ok (.istore_n 2, 1) := by decide +kernel
theorem dX7_hint_67 : decode cX7_hint 67 = .ok (.goto (-41), 3) := by decide +kernel
theorem dX7_hint_70 : decode cX7_hint 70 = .ok (.bipush (-3), 2) := by decide +kernel
theorem dX7_hint_72 : decode cX7_hint 72 = .ok (.ireturn, 1) := by decide +kernel
set_option maxRecDepth 20000 in
theorem ggX7_situations_X7_spread : GoodIn wsX7_situations wsX7_spread := goodIn_r _ [7, 8, 9, 2, 10, 11, 12, 13, 6, 14, 15, 16, 17, 18, 19, 20, 21, 22, 23, 24, 25, 26, 27, 28, 29, 30, 31, 32, 33, 34, 35, 36, 37, 38, 39, 40, 41, 42, 43, 44, 45, 46, 47, 48, 49, 50, 51, 52, 53, 54, 55, 56, 57, 58, 59, 60, 61, 62, 63, 64, 65, 66, 67] (by decide +kernel) (by decide +kernel)
set_option maxRecDepth 20000 in
theorem gX7_situations_X7_spread : GoodIn wsX7_situations (wsV RX7 140 RX7 yX7_spread wsX7_spread) := goodIn_app (goodIn_of _ (by decide +kernel)) ggX7_situations_X7_spread
theorem dX7_situations_0 : decode cX7_situations 0 = .ok (.aload_n 0, 1) := by decide +kernel
theorem dX7_situations_1 : decode cX7_situations 1 = .ok (.aload_n 0, 1) := by decide +kernel
theorem dX7_situations_2 : decode cX7_situations 2 = .ok (.getfield 83, 3) := by decide +kernel
theorem dX7_situations_5 : decode cX7_situations 5 = .ok (.invokevirtual 140, 3) := by decide +kernel
theorem dX7_situations_8 : decode cX7_situations 8 = .ok (.istore_n 1, 1) := by decide +kernel
theorem dX7_situations_9 : decode cX7_situations 9 = .ok (.aload_n 0, 1) := by decide +kernel
theorem dX7_situations_10 : decode cX7_situations 10 = .ok (.getfield 128, 3) := by decide +kernel
theorem dX7_situations_13 : decode cX7_situations 13 = .ok (.ireturn, 1) := by decide +kernel
set_option maxRecDepth 20000 in
theorem ggX7_leads_X7_doors : GoodIn wsX7_leads wsX7_doors := goodIn_r _ [7, 8, 9, 10, 39, 40, 41, 42, 43, 44, 45, 46, 47, 48, 49, 50, 51, 52, 53, 54, 55, 56] (by decide +kernel) (by decide +kernel)
set_option maxRecDepth 20000 in
theorem gX7_leads_X7_doors : GoodIn wsX7_leads (wsV RX7 119 RX7 yX7_doors wsX7_doors) := goodIn_app (goodIn_of _ (by decide +kernel)) ggX7_leads_X7_doors
set_option maxRecDepth 20000 in
theorem ggX7_leads_X7_after : GoodIn wsX7_leads wsX7_after := goodIn_r _ [14, 15, 16, 17, 18, 6, 19, 20, 3, 4, 5, 7, 8, 9, 10, 21, 22, 23, 24, 25, 26, 27, 28, 29, 30, 31, 32, 33, 34, 39, 40, 41, 42, 43, 44, 45, 46, 47, 48, 49, 50, 51, 52, 53, 54, 55, 56] (by decide +kernel) (by decide +kernel)
set_option maxRecDepth 20000 in
theorem gX7_leads_X7_after : GoodIn wsX7_leads (wsV RX7 134 RX7 yX7_after wsX7_after) := goodIn_app (goodIn_of _ (by decide +kernel)) ggX7_leads_X7_after
set_option maxRecDepth 20000 in
theorem ggX7_leads_X7_nextAction : GoodIn wsX7_leads wsX7_nextAction := goodIn_r _ [38, 3, 4, 5, 6, 7, 8, 9, 10, 39, 40, 41, 42, 43, 44, 45, 46, 47, 48, 49, 50, 51, 52, 53, 54, 55, 56] (by decide +kernel) (by decide +kernel)
set_option maxRecDepth 20000 in
theorem gX7_leads_X7_nextAction : GoodIn wsX7_leads (wsV RX7 137 RX7 yX7_nextAction wsX7_nextAction) := goodIn_app (goodIn_of _ (by decide +kernel)) ggX7_leads_X7_nextAction
theorem dX7_leads_0 : decode cX7_leads 0 = .ok (.aload_n 0, 1) := by decide +kernel
theorem dX7_leads_1 : decode cX7_leads 1 = .ok (.iload_n 1, 1) := by decide +kernel
theorem dX7_leads_2 : decode cX7_leads 2 = .ok (.sipush 1024, 3) := by decide +kernel
theorem dX7_leads_5 : decode cX7_leads 5 = .ok (.idiv, 1) := by decide +kernel
theorem dX7_leads_6 : decode cX7_leads 6 = .ok (.invokevirtual 119, 3) := by decide +kernel
theorem dX7_leads_9 : decode cX7_leads 9 = .ok (.ifCond .le 7, 3) := by decide +kernel
theorem dX7_leads_12 : decode cX7_leads 12 = .ok (.iconst 0, 1) := by decide +kernel
theorem dX7_leads_13 : decode cX7_leads 13 = .ok (.goto 5, 3) := by decide +kernel
theorem dX7_leads_16 : decode cX7_leads 16 = .ok (.bipush 100, 2) := by decide +kernel
theorem dX7_leads_18 : decode cX7_leads 18 = .ok (.istore_n 2, 1) := by decide +kernel
theorem dX7_leads_19 : decode cX7_leads 19 = .ok (.iload_n 2, 1) := by decide +kernel
theorem dX7_leads_20 : decode cX7_leads 20 = .ok (.ifCond .lt 37, 3) := by decide +kernel
theorem dX7_leads_23 : decode cX7_leads 23 = .ok (.aload_n 0, 1) := by decide +kernel
theorem dX7_leads_24 : decode cX7_leads 24 = .ok (.iload_n 1, 1) := by decide +kernel
theorem dX7_leads_25 : decode cX7_leads 25 = .ok (.iload_n 2, 1) := by decide +kernel
theorem dX7_leads_26 : decode cX7_leads 26 = .ok (.invokevirtual 134, 3) := by decide +kernel
theorem dX7_leads_29 : decode cX7_leads 29 = .ok (.istore_n 3, 1) := by decide +kernel
theorem dX7_leads_30 : decode cX7_leads 30 = .ok (.iload_n 3, 1) := by decide +kernel
theorem dX7_leads_31 : decode cX7_leads 31 = .ok (.ifCond .lt 16, 3) := by decide +kernel
theorem dX7_leads_34 : decode cX7_leads 34 = .ok (.aload_n 0, 1) := by decide +kernel
theorem dX7_leads_35 : decode cX7_leads 35 = .ok (.getfield 41, 3) := by decide +kernel
theorem dX7_leads_38 : decode cX7_leads 38 = .ok (.iload_n 3, 1) := by decide +kernel
theorem dX7_leads_39 : decode cX7_leads 39 = .ok (.iaload, 1) := by decide +kernel
theorem dX7_leads_40 : decode cX7_leads 40 = .ok (.ldc 143, 2) := by decide +kernel
theorem dX7_leads_42 : decode cX7_leads 42 = .ok (.if_icmp .lt 5, 3) := by decide +kernel
theorem dX7_leads_45 : decode cX7_leads 45 = .ok (.iconst 1, 1) := by decide +kernel
theorem dX7_leads_46 : decode cX7_leads 46 = .ok (.ireturn, 1) := by decide +kernel
theorem dX7_leads_47 : decode cX7_leads 47 = .ok (.aload_n 0, 1) := by decide +kernel
theorem dX7_leads_48 : decode cX7_leads 48 = .ok (.iload_n 1, 1) := by decide +kernel
theorem dX7_leads_49 : decode cX7_leads 49 = .ok (.iload_n 2, 1) := by decide +kernel
theorem dX7_leads_50 : decode cX7_leads 50 = .ok (.invokevirtual 137, 3) := by decide +kernel
theorem dX7_leads_53 : decode cX7_leads 53 = .ok (.istore_n 2, 1) := by decide +kernel
theorem dX7_leads_54 : decode cX7_leads 54 = .ok (.goto (-35), 3) := by decide +kernel
theorem dX7_leads_57 : decode cX7_leads 57 = .ok (.iconst 0, 1) := by decide +kernel
theorem dX7_leads_58 : decode cX7_leads 58 = .ok (.ireturn, 1) := by decide +kernel
set_option maxRecDepth 20000 in
theorem ggX7_safe_X7_spread : GoodIn wsX7_safe wsX7_spread := goodIn_r _ [10, 2, 11, 5, 4, 12, 13, 14, 9, 15, 16, 17, 18, 19, 20, 21, 22, 23, 24, 25, 26, 27, 28, 29, 30, 31, 32, 33, 34, 35, 36, 37, 38, 39, 40, 41, 42, 43, 44, 45, 46, 47, 48, 49, 50, 55, 56, 57, 58, 59, 60, 61, 62, 63, 64, 65, 66, 67, 68, 69, 70, 71, 72] (by decide +kernel) (by decide +kernel)
set_option maxRecDepth 20000 in
theorem gX7_safe_X7_spread : GoodIn wsX7_safe (wsV RX7 140 RX7 yX7_spread wsX7_spread) := goodIn_app (goodIn_of _ (by decide +kernel)) ggX7_safe_X7_spread
set_option maxRecDepth 20000 in
theorem ggX7_safe_X7_leads : GoodIn wsX7_safe wsX7_leads := goodIn_r _ [54, 2, 3, 16, 17, 18, 9, 19, 20, 21, 22, 23, 24, 25, 26, 27, 28, 29, 30, 31, 32, 33, 34, 35, 36, 37, 38, 39, 40, 41, 42, 43, 44, 45, 46, 47, 48, 49, 50, 55, 56, 57, 58, 59, 60, 61, 62, 63, 64, 65, 66, 67, 68, 69, 70, 71, 72] (by decide +kernel) (by decide +kernel)
set_option maxRecDepth 20000 in
theorem gX7_safe_X7_leads : GoodIn wsX7_safe (wsV RX7 144 RX7 yX7_leads wsX7_leads) := goodIn_app (goodIn_of _ (by decide +kernel)) ggX7_safe_X7_leads
theorem dX7_safe_0 : decode cX7_safe 0 = .ok (.aload_n 0, 1) := by decide +kernel
theorem dX7_safe_1 : decode cX7_safe 1 = .ok (.aload_n 0, 1) := by decide +kernel
theorem dX7_safe_2 : decode cX7_safe 2 = .ok (.getfield 83, 3) := by decide +kernel
theorem dX7_safe_5 : decode cX7_safe 5 = .ok (.invokevirtual 140, 3) := by decide +kernel
theorem dX7_safe_8 : decode cX7_safe 8 = .ok (.istore_n 1, 1) := by decide +kernel
theorem dX7_safe_9 : decode cX7_safe 9 = .ok (.iconst 1, 1) := by decide +kernel
theorem dX7_safe_10 : decode cX7_safe 10 = .ok (.istore_n 2, 1) := by decide +kernel
theorem dX7_safe_11 : decode cX7_safe 11 = .ok (.iconst 0, 1) := by decide +kernel
theorem dX7_safe_12 : decode cX7_safe 12 = .ok (.istore_n 3, 1) := by decide +kernel
theorem dX7_safe_13 : decode cX7_safe 13 = .ok (.iload_n 2, 1) := by decide +kernel
theorem dX7_safe_14 : decode cX7_safe 14 = .ok (.ifCond .eq 108, 3) := by decide +kernel
theorem dX7_safe_17 : decode cX7_safe 17 = .ok (.iconst 0, 1) := by decide +kernel
theorem dX7_safe_18 : decode cX7_safe 18 = .ok (.istore_n 2, 1) := by decide +kernel
theorem dX7_safe_19 : decode cX7_safe 19 = .ok (.aload_n 0, 1) := by decide +kernel
theorem dX7_safe_20 : decode cX7_safe 20 = .ok (.getfield 83, 3) := by decide +kernel
theorem dX7_safe_23 : decode cX7_safe 23 = .ok (.istore 4, 2) := by decide +kernel
theorem dX7_safe_25 : decode cX7_safe 25 = .ok (.iload 4, 2) := by decide +kernel
theorem dX7_safe_27 : decode cX7_safe 27 = .ok (.ifCond .lt 92, 3) := by decide +kernel
theorem dX7_safe_30 : decode cX7_safe 30 = .ok (.aload_n 0, 1) := by decide +kernel
theorem dX7_safe_31 : decode cX7_safe 31 = .ok (.getfield 41, 3) := by decide +kernel
theorem dX7_safe_34 : decode cX7_safe 34 = .ok (.iload 4, 2) := by decide +kernel
theorem dX7_safe_36 : decode cX7_safe 36 = .ok (.iaload, 1) := by decide +kernel
theorem dX7_safe_37 : decode cX7_safe 37 = .ok (.ldc 143, 2) := by decide +kernel
theorem dX7_safe_39 : decode cX7_safe 39 = .ok (.if_icmp .ge 29, 3) := by decide +kernel
theorem dX7_safe_42 : decode cX7_safe 42 = .ok (.iload 4, 2) := by decide +kernel
theorem dX7_safe_44 : decode cX7_safe 44 = .ok (.sipush 1024, 3) := by decide +kernel
theorem dX7_safe_47 : decode cX7_safe 47 = .ok (.idiv, 1) := by decide +kernel
theorem dX7_safe_48 : decode cX7_safe 48 = .ok (.aload_n 0, 1) := by decide +kernel
theorem dX7_safe_49 : decode cX7_safe 49 = .ok (.getfield 100, 3) := by decide +kernel
theorem dX7_safe_52 : decode cX7_safe 52 = .ok (.if_icmp .eq 12, 3) := by decide +kernel
theorem dX7_safe_55 : decode cX7_safe 55 = .ok (.aload_n 0, 1) := by decide +kernel
theorem dX7_safe_56 : decode cX7_safe 56 = .ok (.iload 4, 2) := by decide +kernel
theorem dX7_safe_58 : decode cX7_safe 58 = .ok (.invokevirtual 144, 3) := by decide +kernel
theorem dX7_safe_61 : decode cX7_safe 61 = .ok (.ifCond .eq 7, 3) := by decide +kernel
theorem dX7_safe_64 : decode cX7_safe 64 = .ok (.iconst 1, 1) := by decide +kernel
theorem dX7_safe_65 : decode cX7_safe 65 = .ok (.goto 4, 3) := by decide +kernel
theorem dX7_safe_68 : decode cX7_safe 68 = .ok (.iconst 0, 1) := by decide +kernel
theorem dX7_safe_69 : decode cX7_safe 69 = .ok (.istore 5, 2) := by decide +kernel
theorem dX7_safe_71 : decode cX7_safe 71 = .ok (.iload 5, 2) := by decide +kernel
theorem dX7_safe_73 : decode cX7_safe 73 = .ok (.ifCond .eq 25, 3) := by decide +kernel
theorem dX7_safe_76 : decode cX7_safe 76 = .ok (.aload_n 0, 1) := by decide +kernel
theorem dX7_safe_77 : decode cX7_safe 77 = .ok (.getfield 41, 3) := by decide +kernel
theorem dX7_safe_80 : decode cX7_safe 80 = .ok (.iload 4, 2) := by decide +kernel
theorem dX7_safe_82 : decode cX7_safe 82 = .ok (.aload_n 0, 1) := by decide +kernel
theorem dX7_safe_83 : decode cX7_safe 83 = .ok (.getfield 41, 3) := by decide +kernel
theorem dX7_safe_86 : decode cX7_safe 86 = .ok (.iload 4, 2) := by decide +kernel
theorem dX7_safe_88 : decode cX7_safe 88 = .ok (.iaload, 1) := by decide +kernel
theorem dX7_safe_89 : decode cX7_safe 89 = .ok (.ldc 143, 2) := by decide +kernel
theorem dX7_safe_91 : decode cX7_safe 91 = .ok (.iadd, 1) := by decide +kernel
theorem dX7_safe_92 : decode cX7_safe 92 = .ok (.iastore, 1) := by decide +kernel
theorem dX7_safe_93 : decode cX7_safe 93 = .ok (.iinc 3 1, 3) := by decide +kernel
theorem dX7_safe_96 : decode cX7_safe 96 = .ok (.iconst 1, 1) := by decide +kernel
theorem dX7_safe_97 : decode cX7_safe 97 = .ok (.istore_n 2, 1) := by decide +kernel
theorem dX7_safe_98 : decode cX7_safe 98 = .ok (.aload_n 0, 1) := by decide +kernel
theorem dX7_safe_99 : decode cX7_safe 99 = .ok (.getfield 41, 3) := by decide +kernel
theorem dX7_safe_102 : decode cX7_safe 102 = .ok (.iload 4, 2) := by decide +kernel
theorem dX7_safe_104 : decode cX7_safe 104 = .ok (.iaload, 1) := by decide +kernel
theorem dX7_safe_105 : decode cX7_safe 105 = .ok (.ldc 143, 2) := by decide +kernel
theorem dX7_safe_107 : decode cX7_safe 107 = .ok (.irem, 1) := by decide +kernel
theorem dX7_safe_108 : decode cX7_safe 108 = .ok (.sipush 16384, 3) := by decide +kernel
theorem dX7_safe_111 : decode cX7_safe 111 = .ok (.idiv, 1) := by decide +kernel
theorem dX7_safe_112 : decode cX7_safe 112 = .ok (.iconst 1, 1) := by decide +kernel
theorem dX7_safe_113 : decode cX7_safe 113 = .ok (.isub, 1) := by decide +kernel
theorem dX7_safe_114 : decode cX7_safe 114 = .ok (.istore 4, 2) := by decide +kernel
theorem dX7_safe_116 : decode cX7_safe 116 = .ok (.goto (-91), 3) := by decide +kernel
theorem dX7_safe_119 : decode cX7_safe 119 = .ok (.goto (-106), 3) := by decide +kernel
theorem dX7_safe_122 : decode cX7_safe 122 = .ok (.iload_n 3, 1) := by decide +kernel
theorem dX7_safe_123 : decode cX7_safe 123 = .ok (.aload_n 0, 1) := by decide +kernel
theorem dX7_safe_124 : decode cX7_safe 124 = .ok (.getfield 128, 3) := by decide +kernel
theorem dX7_safe_127 : decode cX7_safe 127 = .ok (.if_icmp .ne 7, 3) := by decide +kernel
theorem dX7_safe_130 : decode cX7_safe 130 = .ok (.iconst 1, 1) := by decide +kernel
theorem dX7_safe_131 : decode cX7_safe 131 = .ok (.goto 4, 3) := by decide +kernel
theorem dX7_safe_134 : decode cX7_safe 134 = .ok (.iconst 0, 1) := by decide +kernel
theorem dX7_safe_135 : decode cX7_safe 135 = .ok (.ireturn, 1) := by decide +kernel
set_option maxRecDepth 20000 in
theorem ggX7_room_X7_doors : GoodIn wsX7_room wsX7_doors := goodIn_r _ [13, 1, 2, 14, 15, 16, 17, 18, 19, 20, 21, 22, 23, 24, 25, 26, 27, 28, 29, 30, 31, 32] (by decide +kernel) (by decide +kernel)
set_option maxRecDepth 20000 in
theorem gX7_room_X7_doors : GoodIn wsX7_room (wsV RX7 119 RX7 yX7_doors wsX7_doors) := goodIn_app (goodIn_of _ (by decide +kernel)) ggX7_room_X7_doors
theorem dX7_room_0 : decode cX7_room 0 = .ok (.iload_n 1, 1) := by decide +kernel
theorem dX7_room_1 : decode cX7_room 1 = .ok (.ifCond .lt 21, 3) := by decide +kernel
theorem dX7_room_4 : decode cX7_room 4 = .ok (.iload_n 1, 1) := by decide +kernel
theorem dX7_room_5 : decode cX7_room 5 = .ok (.aload_n 0, 1) := by decide +kernel
theorem dX7_room_6 : decode cX7_room 6 = .ok (.getfield 56, 3) := by decide +kernel
theorem dX7_room_9 : decode cX7_room 9 = .ok (.if_icmp .ge 13, 3) := by decide +kernel
theorem dX7_room_12 : decode cX7_room 12 = .ok (.iload_n 2, 1) := by decide +kernel
theorem dX7_room_13 : decode cX7_room 13 = .ok (.ifCond .lt 9, 3) := by decide +kernel
theorem dX7_room_16 : decode cX7_room 16 = .ok (.iload_n 2, 1) := by decide +kernel
theorem dX7_room_17 : decode cX7_room 17 = .ok (.bipush 7, 2) := by decide +kernel
theorem dX7_room_19 : decode cX7_room 19 = .ok (.if_icmp .le 6, 3) := by decide +kernel
theorem dX7_room_22 : decode cX7_room 22 = .ok (.bipush (-100), 2) := by decide +kernel
theorem dX7_room_24 : decode cX7_room 24 = .ok (.ireturn, 1) := by decide +kernel
theorem dX7_room_25 : decode cX7_room 25 = .ok (.iload_n 2, 1) := by decide +kernel
theorem dX7_room_26 : decode cX7_room 26 = .ok (.tableswitch 99 0 6 #[42, 49, 56, 63, 70, 77, 84], 42) := by decide +kernel
theorem dX7_room_68 : decode cX7_room 68 = .ok (.aload_n 0, 1) := by decide +kernel
theorem dX7_room_69 : decode cX7_room 69 = .ok (.getfield 7, 3) := by decide +kernel
theorem dX7_room_72 : decode cX7_room 72 = .ok (.iload_n 1, 1) := by decide +kernel
theorem dX7_room_73 : decode cX7_room 73 = .ok (.iaload, 1) := by decide +kernel
theorem dX7_room_74 : decode cX7_room 74 = .ok (.ireturn, 1) := by decide +kernel
theorem dX7_room_75 : decode cX7_room 75 = .ok (.aload_n 0, 1) := by decide +kernel
theorem dX7_room_76 : decode cX7_room 76 = .ok (.getfield 13, 3) := by decide +kernel
theorem dX7_room_79 : decode cX7_room 79 = .ok (.iload_n 1, 1) := by decide +kernel
theorem dX7_room_80 : decode cX7_room 80 = .ok (.iaload, 1) := by decide +kernel
theorem dX7_room_81 : decode cX7_room 81 = .ok (.ireturn, 1) := by decide +kernel
theorem dX7_room_82 : decode cX7_room 82 = .ok (.aload_n 0, 1) := by decide +kernel
theorem dX7_room_83 : decode cX7_room 83 = .ok (.getfield 16, 3) := by decide +kernel
theorem dX7_room_86 : decode cX7_room 86 = .ok (.iload_n 1, 1) := by decide +kernel
theorem dX7_room_87 : decode cX7_room 87 = .ok (.iaload, 1) := by decide +kernel
theorem dX7_room_88 : decode cX7_room 88 = .ok (.ireturn, 1) := by decide +kernel
theorem dX7_room_89 : decode cX7_room 89 = .ok (.aload_n 0, 1) := by decide +kernel
theorem dX7_room_90 : decode cX7_room 90 = .ok (.getfield 22, 3) := by decide +kernel
theorem dX7_room_93 : decode cX7_room 93 = .ok (.iload_n 1, 1) := by decide +kernel
theorem dX7_room_94 : decode cX7_room 94 = .ok (.iaload, 1) := by decide +kernel
theorem dX7_room_95 : decode cX7_room 95 = .ok (.ireturn, 1) := by decide +kernel
theorem dX7_room_96 : decode cX7_room 96 = .ok (.aload_n 0, 1) := by decide +kernel
theorem dX7_room_97 : decode cX7_room 97 = .ok (.getfield 25, 3) := by decide +kernel
theorem dX7_room_100 : decode cX7_room 100 = .ok (.iload_n 1, 1) := by decide +kernel
theorem dX7_room_101 : decode cX7_room 101 = .ok (.iaload, 1) := by decide +kernel
theorem dX7_room_102 : decode cX7_room 102 = .ok (.ireturn, 1) := by decide +kernel
theorem dX7_room_103 : decode cX7_room 103 = .ok (.aload_n 0, 1) := by decide +kernel
theorem dX7_room_104 : decode cX7_room 104 = .ok (.getfield 28, 3) := by decide +kernel
theorem dX7_room_107 : decode cX7_room 107 = .ok (.iload_n 1, 1) := by decide +kernel
theorem dX7_room_108 : decode cX7_room 108 = .ok (.iaload, 1) := by decide +kernel
theorem dX7_room_109 : decode cX7_room 109 = .ok (.ireturn, 1) := by decide +kernel
theorem dX7_room_110 : decode cX7_room 110 = .ok (.aload_n 0, 1) := by decide +kernel
theorem dX7_room_111 : decode cX7_room 111 = .ok (.getfield 31, 3) := by decide +kernel
theorem dX7_room_114 : decode cX7_room 114 = .ok (.iload_n 1, 1) := by decide +kernel
theorem dX7_room_115 : decode cX7_room 115 = .ok (.baload, 1) := by decide +kernel
theorem dX7_room_116 : decode cX7_room 116 = .ok (.ifCond .eq 7, 3) := by decide +kernel
theorem dX7_room_119 : decode cX7_room 119 = .ok (.iconst 1, 1) := by decide +kernel
theorem dX7_room_120 : decode cX7_room 120 = .ok (.goto 4, 3) := by decide +kernel
theorem dX7_room_123 : decode cX7_room 123 = .ok (.iconst 0, 1) := by decide +kernel
theorem dX7_room_124 : decode cX7_room 124 = .ok (.ireturn, 1) := by decide +kernel
theorem dX7_room_125 : decode cX7_room 125 = .ok (.aload_n 0, 1) := by decide +kernel
theorem dX7_room_126 : decode cX7_room 126 = .ok (.iload_n 1, 1) := by decide +kernel
theorem dX7_room_127 : decode cX7_room 127 = .ok (.invokevirtual 119, 3) := by decide +kernel
theorem dX7_room_130 : decode cX7_room 130 = .ok (.ireturn, 1) := by decide +kernel
set_option maxRecDepth 20000 in
theorem ggX7_behind_X7_doors : GoodIn wsX7_behind wsX7_doors := goodIn_r _ [6, 1, 7, 8, 13, 14, 15, 16, 17, 18, 19, 20, 21, 22, 23, 24, 25, 26, 27, 28, 29, 30] (by decide +kernel) (by decide +kernel)
set_option maxRecDepth 20000 in
theorem gX7_behind_X7_doors : GoodIn wsX7_behind (wsV RX7 119 RX7 yX7_doors wsX7_doors) := goodIn_app (goodIn_of _ (by decide +kernel)) ggX7_behind_X7_doors
set_option maxRecDepth 20000 in
theorem ggX7_behind_X7_beyond : GoodIn wsX7_behind wsX7_beyond := goodIn_r _ [12, 7, 1, 8, 13, 14, 15, 16, 17, 18, 19, 20, 21, 22, 23, 24, 25, 26, 27, 28, 29, 30] (by decide +kernel) (by decide +kernel)
set_option maxRecDepth 20000 in
theorem gX7_behind_X7_beyond : GoodIn wsX7_behind (wsV RX7 109 RX7 yX7_beyond wsX7_beyond) := goodIn_app (goodIn_of _ (by decide +kernel)) ggX7_behind_X7_beyond
theorem dX7_behind_0 : decode cX7_behind 0 = .ok (.iload_n 1, 1) := by decide +kernel
theorem dX7_behind_1 : decode cX7_behind 1 = .ok (.ifCond .lt 24, 3) := by decide +kernel
theorem dX7_behind_4 : decode cX7_behind 4 = .ok (.iload_n 1, 1) := by decide +kernel
theorem dX7_behind_5 : decode cX7_behind 5 = .ok (.aload_n 0, 1) := by decide +kernel
theorem dX7_behind_6 : decode cX7_behind 6 = .ok (.getfield 56, 3) := by decide +kernel
theorem dX7_behind_9 : decode cX7_behind 9 = .ok (.if_icmp .ge 16, 3) := by decide +kernel
theorem dX7_behind_12 : decode cX7_behind 12 = .ok (.iload_n 2, 1) := by decide +kernel
theorem dX7_behind_13 : decode cX7_behind 13 = .ok (.ifCond .lt 12, 3) := by decide +kernel
theorem dX7_behind_16 : decode cX7_behind 16 = .ok (.iload_n 2, 1) := by decide +kernel
theorem dX7_behind_17 : decode cX7_behind 17 = .ok (.aload_n 0, 1) := by decide +kernel
theorem dX7_behind_18 : decode cX7_behind 18 = .ok (.iload_n 1, 1) := by decide +kernel
theorem dX7_behind_19 : decode cX7_behind 19 = .ok (.invokevirtual 119, 3) := by decide +kernel
theorem dX7_behind_22 : decode cX7_behind 22 = .ok (.if_icmp .lt 7, 3) := by decide +kernel
theorem dX7_behind_25 : decode cX7_behind 25 = .ok (.iconst (-1), 1) := by decide +kernel
theorem dX7_behind_26 : decode cX7_behind 26 = .ok (.goto 9, 3) := by decide +kernel
theorem dX7_behind_29 : decode cX7_behind 29 = .ok (.aload_n 0, 1) := by decide +kernel
theorem dX7_behind_30 : decode cX7_behind 30 = .ok (.iload_n 1, 1) := by decide +kernel
theorem dX7_behind_31 : decode cX7_behind 31 = .ok (.iload_n 2, 1) := by decide +kernel
theorem dX7_behind_32 : decode cX7_behind 32 = .ok (.invokevirtual 109, 3) := by decide +kernel
theorem dX7_behind_35 : decode cX7_behind 35 = .ok (.ireturn, 1) := by decide +kernel
theorem dX7_goal_0 : decode cX7_goal 0 = .ok (.aload_n 0, 1) := by decide +kernel
theorem dX7_goal_1 : decode cX7_goal 1 = .ok (.getfield 100, 3) := by decide +kernel
theorem dX7_goal_4 : decode cX7_goal 4 = .ok (.ireturn, 1) := by decide +kernel
theorem dX7_restart_0 : decode cX7_restart 0 = .ok (.aload_n 0, 1) := by decide +kernel
theorem dX7_restart_1 : decode cX7_restart 1 = .ok (.iconst 0, 1) := by decide +kernel
theorem dX7_restart_2 : decode cX7_restart 2 = .ok (.putfield 83, 3) := by decide +kernel
theorem dX7_restart_5 : decode cX7_restart 5 = .ok (.return_, 1) := by decide +kernel
set_option maxRecDepth 20000 in
theorem ggX7_walk_X7_doors : GoodIn wsX7_walk wsX7_doors := goodIn_r _ [6, 7, 8, 9, 24, 25, 26, 27, 28, 29, 30, 31, 32, 33, 34, 35, 36, 37, 38, 39, 40, 41] (by decide +kernel) (by decide +kernel)
set_option maxRecDepth 20000 in
theorem gX7_walk_X7_doors : GoodIn wsX7_walk (wsV RX7 119 RX7 yX7_doors wsX7_doors) := goodIn_app (goodIn_of _ (by decide +kernel)) ggX7_walk_X7_doors
set_option maxRecDepth 20000 in
theorem ggX7_walk_X7_walked : GoodIn wsX7_walk wsX7_walked := goodIn_r _ [13, 8, 14, 15, 16, 17, 18, 19, 5, 20, 7, 9, 21, 22, 23, 24, 25, 26, 27, 28, 29, 30, 31, 32, 33, 34, 35, 36, 37, 38, 39, 40, 41] (by decide +kernel) (by decide +kernel)
set_option maxRecDepth 20000 in
theorem gX7_walk_X7_walked : GoodIn wsX7_walk (wsV RX7 122 RX7 yX7_walked wsX7_walked) := goodIn_app (goodIn_of _ (by decide +kernel)) ggX7_walk_X7_walked
theorem dX7_walk_0 : decode cX7_walk 0 = .ok (.iload_n 1, 1) := by decide +kernel
theorem dX7_walk_1 : decode cX7_walk 1 = .ok (.ifCond .lt 19, 3) := by decide +kernel
theorem dX7_walk_4 : decode cX7_walk 4 = .ok (.iload_n 1, 1) := by decide +kernel
theorem dX7_walk_5 : decode cX7_walk 5 = .ok (.aload_n 0, 1) := by decide +kernel
theorem dX7_walk_6 : decode cX7_walk 6 = .ok (.aload_n 0, 1) := by decide +kernel
theorem dX7_walk_7 : decode cX7_walk 7 = .ok (.getfield 83, 3) := by decide +kernel
theorem dX7_walk_10 : decode cX7_walk 10 = .ok (.sipush 1024, 3) := by decide +kernel
theorem dX7_walk_13 : decode cX7_walk 13 = .ok (.idiv, 1) := by decide +kernel
theorem dX7_walk_14 : decode cX7_walk 14 = .ok (.invokevirtual 119, 3) := by decide +kernel
theorem dX7_walk_17 : decode cX7_walk 17 = .ok (.if_icmp .lt 5, 3) := by decide +kernel
theorem dX7_walk_20 : decode cX7_walk 20 = .ok (.iconst (-1), 1) := by decide +kernel
theorem dX7_walk_21 : decode cX7_walk 21 = .ok (.ireturn, 1) := by decide +kernel
theorem dX7_walk_22 : decode cX7_walk 22 = .ok (.aload_n 0, 1) := by decide +kernel
theorem dX7_walk_23 : decode cX7_walk 23 = .ok (.aload_n 0, 1) := by decide +kernel
theorem dX7_walk_24 : decode cX7_walk 24 = .ok (.getfield 83, 3) := by decide +kernel
theorem dX7_walk_27 : decode cX7_walk 27 = .ok (.iload_n 1, 1) := by decide +kernel
theorem dX7_walk_28 : decode cX7_walk 28 = .ok (.invokevirtual 122, 3) := by decide +kernel
theorem dX7_walk_31 : decode cX7_walk 31 = .ok (.istore_n 2, 1) := by decide +kernel
theorem dX7_walk_32 : decode cX7_walk 32 = .ok (.iload_n 2, 1) := by decide +kernel
theorem dX7_walk_33 : decode cX7_walk 33 = .ok (.ifCond .ge 6, 3) := by decide +kernel
theorem dX7_walk_36 : decode cX7_walk 36 = .ok (.bipush (-2), 2) := by decide +kernel
theorem dX7_walk_38 : decode cX7_walk 38 = .ok (.ireturn, 1) := by decide +kernel
theorem dX7_walk_39 : decode cX7_walk 39 = .ok (.aload_n 0, 1) := by decide +kernel
theorem dX7_walk_40 : decode cX7_walk 40 = .ok (.iload_n 2, 1) := by decide +kernel
theorem dX7_walk_41 : decode cX7_walk 41 = .ok (.putfield 83, 3) := by decide +kernel
theorem dX7_walk_44 : decode cX7_walk 44 = .ok (.aload_n 0, 1) := by decide +kernel
theorem dX7_walk_45 : decode cX7_walk 45 = .ok (.getfield 83, 3) := by decide +kernel
theorem dX7_walk_48 : decode cX7_walk 48 = .ok (.sipush 1024, 3) := by decide +kernel
theorem dX7_walk_51 : decode cX7_walk 51 = .ok (.idiv, 1) := by decide +kernel
theorem dX7_walk_52 : decode cX7_walk 52 = .ok (.ireturn, 1) := by decide +kernel
set_option maxRecDepth 20000 in
theorem ggX7_take_X7_takeable : GoodIn wsX7_take wsX7_takeable := goodIn_r _ [6, 7, 34, 35, 36, 37, 38, 39, 40, 41, 42, 43, 44, 45, 46, 47, 48, 49, 50, 51] (by decide +kernel) (by decide +kernel)
set_option maxRecDepth 20000 in
theorem gX7_take_X7_takeable : GoodIn wsX7_take (wsV RX7 116 RX7 yX7_takeable wsX7_takeable) := goodIn_app (goodIn_of _ (by decide +kernel)) ggX7_take_X7_takeable
set_option maxRecDepth 20000 in
theorem ggX7_take_X7_after : GoodIn wsX7_take wsX7_after := goodIn_r _ [11, 12, 2, 3, 4, 5, 6, 7, 13, 14, 15, 16, 17, 18, 19, 20, 21, 22, 23, 24, 25, 26, 27, 28, 29, 30, 31, 32, 33, 34, 35, 36, 37, 38, 39, 40, 41, 42, 43, 44, 45, 46, 47, 48, 49, 50, 51] (by decide +kernel) (by decide +kernel)
set_option maxRecDepth 20000 in
theorem gX7_take_X7_after : GoodIn wsX7_take (wsV RX7 134 RX7 yX7_after wsX7_after) := goodIn_app (goodIn_of _ (by decide +kernel)) ggX7_take_X7_after
set_option maxRecDepth 20000 in
theorem ggX7_take_X7_ones : GoodIn wsX7_take wsX7_ones := goodIn_r _ [33] (by decide +kernel) (by decide +kernel)
set_option maxRecDepth 20000 in
theorem gX7_take_X7_ones : GoodIn wsX7_take (va_wsS RX7 113 yX7_ones wsX7_ones) := goodIn_app (goodIn_of _ (by decide +kernel)) ggX7_take_X7_ones
theorem dX7_take_0 : decode cX7_take 0 = .ok (.aload_n 0, 1) := by decide +kernel
theorem dX7_take_1 : decode cX7_take 1 = .ok (.aload_n 0, 1) := by decide +kernel
theorem dX7_take_2 : decode cX7_take 2 = .ok (.getfield 83, 3) := by decide +kernel
theorem dX7_take_5 : decode cX7_take 5 = .ok (.invokevirtual 116, 3) := by decide +kernel
theorem dX7_take_8 : decode cX7_take 8 = .ok (.istore_n 1, 1) := by decide +kernel
theorem dX7_take_9 : decode cX7_take 9 = .ok (.aload_n 0, 1) := by decide +kernel
theorem dX7_take_10 : decode cX7_take 10 = .ok (.aload_n 0, 1) := by decide +kernel
theorem dX7_take_11 : decode cX7_take 11 = .ok (.aload_n 0, 1) := by decide +kernel
theorem dX7_take_12 : decode cX7_take 12 = .ok (.getfield 83, 3) := by decide +kernel
theorem dX7_take_15 : decode cX7_take 15 = .ok (.bipush 100, 2) := by decide +kernel
theorem dX7_take_17 : decode cX7_take 17 = .ok (.invokevirtual 134, 3) := by decide +kernel
theorem dX7_take_20 : decode cX7_take 20 = .ok (.putfield 83, 3) := by decide +kernel
theorem dX7_take_23 : decode cX7_take 23 = .ok (.iload_n 1, 1) := by decide +kernel
theorem dX7_take_24 : decode cX7_take 24 = .ok (.bipush 8, 2) := by decide +kernel
theorem dX7_take_26 : decode cX7_take 26 = .ok (.irem, 1) := by decide +kernel
theorem dX7_take_27 : decode cX7_take 27 = .ok (.invokestatic 113, 3) := by decide +kernel
theorem dX7_take_30 : decode cX7_take 30 = .ok (.iload_n 1, 1) := by decide +kernel
theorem dX7_take_31 : decode cX7_take 31 = .ok (.bipush 8, 2) := by decide +kernel
theorem dX7_take_33 : decode cX7_take 33 = .ok (.idiv, 1) := by decide +kernel
theorem dX7_take_34 : decode cX7_take 34 = .ok (.invokestatic 113, 3) := by decide +kernel
theorem dX7_take_37 : decode cX7_take 37 = .ok (.iadd, 1) := by decide +kernel
theorem dX7_take_38 : decode cX7_take 38 = .ok (.ireturn, 1) := by decide +kernel
set_option maxRecDepth 20000 in
theorem ggX7_toggle_X7_after : GoodIn wsX7_toggle wsX7_after := goodIn_r _ [6, 7, 8, 9, 10, 5, 11, 12, 13, 14, 15, 16, 17, 18, 19, 20, 21, 22, 23, 24, 25, 26, 27, 28, 29, 30, 31, 32, 33, 34, 35, 36, 37, 38, 39, 40, 41, 42, 43, 44, 45, 46, 47, 48, 49, 50, 51] (by decide +kernel) (by decide +kernel)
set_option maxRecDepth 20000 in
theorem gX7_toggle_X7_after : GoodIn wsX7_toggle (wsV RX7 134 RX7 yX7_after wsX7_after) := goodIn_app (goodIn_of _ (by decide +kernel)) ggX7_toggle_X7_after
theorem dX7_toggle_0 : decode cX7_toggle 0 = .ok (.aload_n 0, 1) := by decide +kernel
theorem dX7_toggle_1 : decode cX7_toggle 1 = .ok (.aload_n 0, 1) := by decide +kernel
theorem dX7_toggle_2 : decode cX7_toggle 2 = .ok (.getfield 83, 3) := by decide +kernel
theorem dX7_toggle_5 : decode cX7_toggle 5 = .ok (.sipush 200, 3) := by decide +kernel
theorem dX7_toggle_8 : decode cX7_toggle 8 = .ok (.invokevirtual 134, 3) := by decide +kernel
theorem dX7_toggle_11 : decode cX7_toggle 11 = .ok (.istore_n 1, 1) := by decide +kernel
theorem dX7_toggle_12 : decode cX7_toggle 12 = .ok (.iload_n 1, 1) := by decide +kernel
theorem dX7_toggle_13 : decode cX7_toggle 13 = .ok (.ifCond .ge 5, 3) := by decide +kernel
theorem dX7_toggle_16 : decode cX7_toggle 16 = .ok (.iconst (-1), 1) := by decide +kernel
theorem dX7_toggle_17 : decode cX7_toggle 17 = .ok (.ireturn, 1) := by decide +kernel
theorem dX7_toggle_18 : decode cX7_toggle 18 = .ok (.aload_n 0, 1) := by decide +kernel
theorem dX7_toggle_19 : decode cX7_toggle 19 = .ok (.iload_n 1, 1) := by decide +kernel
theorem dX7_toggle_20 : decode cX7_toggle 20 = .ok (.putfield 83, 3) := by decide +kernel
theorem dX7_toggle_23 : decode cX7_toggle 23 = .ok (.aload_n 0, 1) := by decide +kernel
theorem dX7_toggle_24 : decode cX7_toggle 24 = .ok (.getfield 83, 3) := by decide +kernel
theorem dX7_toggle_27 : decode cX7_toggle 27 = .ok (.iconst 2, 1) := by decide +kernel
theorem dX7_toggle_28 : decode cX7_toggle 28 = .ok (.irem, 1) := by decide +kernel
theorem dX7_toggle_29 : decode cX7_toggle 29 = .ok (.ireturn, 1) := by decide +kernel
theorem dX7_here_0 : decode cX7_here 0 = .ok (.aload_n 0, 1) := by decide +kernel
theorem dX7_here_1 : decode cX7_here 1 = .ok (.getfield 83, 3) := by decide +kernel
theorem dX7_here_4 : decode cX7_here 4 = .ok (.sipush 1024, 3) := by decide +kernel
theorem dX7_here_7 : decode cX7_here 7 = .ok (.idiv, 1) := by decide +kernel
theorem dX7_here_8 : decode cX7_here 8 = .ok (.ireturn, 1) := by decide +kernel
set_option maxRecDepth 20000 in
theorem ggX7_having_X7_ones : GoodIn wsX7_having wsX7_ones := goodIn_r _ [5] (by decide +kernel) (by decide +kernel)
set_option maxRecDepth 20000 in
theorem gX7_having_X7_ones : GoodIn wsX7_having (va_wsS RX7 113 yX7_ones wsX7_ones) := goodIn_app (goodIn_of _ (by decide +kernel)) ggX7_having_X7_ones
theorem dX7_having_0 : decode cX7_having 0 = .ok (.aload_n 0, 1) := by decide +kernel
theorem dX7_having_1 : decode cX7_having 1 = .ok (.getfield 83, 3) := by decide +kernel
theorem dX7_having_4 : decode cX7_having 4 = .ok (.sipush 128, 3) := by decide +kernel
theorem dX7_having_7 : decode cX7_having 7 = .ok (.idiv, 1) := by decide +kernel
theorem dX7_having_8 : decode cX7_having 8 = .ok (.bipush 8, 2) := by decide +kernel
theorem dX7_having_10 : decode cX7_having 10 = .ok (.irem, 1) := by decide +kernel
theorem dX7_having_11 : decode cX7_having 11 = .ok (.bipush 8, 2) := by decide +kernel
theorem dX7_having_13 : decode cX7_having 13 = .ok (.aload_n 0, 1) := by decide +kernel
theorem dX7_having_14 : decode cX7_having 14 = .ok (.getfield 83, 3) := by decide +kernel
theorem dX7_having_17 : decode cX7_having 17 = .ok (.bipush 16, 2) := by decide +kernel
theorem dX7_having_19 : decode cX7_having 19 = .ok (.idiv, 1) := by decide +kernel
theorem dX7_having_20 : decode cX7_having 20 = .ok (.bipush 8, 2) := by decide +kernel
theorem dX7_having_22 : decode cX7_having 22 = .ok (.irem, 1) := by decide +kernel
theorem dX7_having_23 : decode cX7_having 23 = .ok (.invokestatic 113, 3) := by decide +kernel
theorem dX7_having_26 : decode cX7_having 26 = .ok (.aload_n 0, 1) := by decide +kernel
theorem dX7_having_27 : decode cX7_having 27 = .ok (.getfield 83, 3) := by decide +kernel
theorem dX7_having_30 : decode cX7_having 30 = .ok (.iconst 2, 1) := by decide +kernel
theorem dX7_having_31 : decode cX7_having 31 = .ok (.idiv, 1) := by decide +kernel
theorem dX7_having_32 : decode cX7_having 32 = .ok (.bipush 8, 2) := by decide +kernel
theorem dX7_having_34 : decode cX7_having 34 = .ok (.irem, 1) := by decide +kernel
theorem dX7_having_35 : decode cX7_having 35 = .ok (.invokestatic 113, 3) := by decide +kernel
theorem dX7_having_38 : decode cX7_having 38 = .ok (.isub, 1) := by decide +kernel
theorem dX7_having_39 : decode cX7_having 39 = .ok (.imul, 1) := by decide +kernel
theorem dX7_having_40 : decode cX7_having 40 = .ok (.iadd, 1) := by decide +kernel
theorem dX7_having_41 : decode cX7_having 41 = .ok (.bipush 64, 2) := by decide +kernel
theorem dX7_having_43 : decode cX7_having 43 = .ok (.aload_n 0, 1) := by decide +kernel
theorem dX7_having_44 : decode cX7_having 44 = .ok (.getfield 83, 3) := by decide +kernel
theorem dX7_having_47 : decode cX7_having 47 = .ok (.iconst 2, 1) := by decide +kernel
theorem dX7_having_48 : decode cX7_having 48 = .ok (.irem, 1) := by decide +kernel
theorem dX7_having_49 : decode cX7_having 49 = .ok (.imul, 1) := by decide +kernel
theorem dX7_having_50 : decode cX7_having 50 = .ok (.iadd, 1) := by decide +kernel
theorem dX7_having_51 : decode cX7_having 51 = .ok (.ireturn, 1) := by decide +kernel
theorem dJ6_bitCount_0f7a4_0 : decode cJ6_bitCount_0f7a4 0 = .ok (.iload_n 0, 1) := by decide +kernel
theorem dJ6_bitCount_0f7a4_1 : decode cJ6_bitCount_0f7a4 1 = .ok (.iload_n 0, 1) := by decide +kernel
theorem dJ6_bitCount_0f7a4_2 : decode cJ6_bitCount_0f7a4 2 = .ok (.iconst 1, 1) := by decide +kernel
theorem dJ6_bitCount_0f7a4_3 : decode cJ6_bitCount_0f7a4 3 = .ok (.iushr, 1) := by decide +kernel
theorem dJ6_bitCount_0f7a4_4 : decode cJ6_bitCount_0f7a4 4 = .ok (.ldc_w 265, 3) := by decide +kernel
theorem dJ6_bitCount_0f7a4_7 : decode cJ6_bitCount_0f7a4 7 = .ok (.iand, 1) := by decide +kernel
theorem dJ6_bitCount_0f7a4_8 : decode cJ6_bitCount_0f7a4 8 = .ok (.isub, 1) := by decide +kernel
theorem dJ6_bitCount_0f7a4_9 : decode cJ6_bitCount_0f7a4 9 = .ok (.istore_n 0, 1) := by decide +kernel
theorem dJ6_bitCount_0f7a4_10 : decode cJ6_bitCount_0f7a4 10 = .ok (.iload_n 0, 1) := by decide +kernel
theorem dJ6_bitCount_0f7a4_11 : decode cJ6_bitCount_0f7a4 11 = .ok (.ldc_w 266, 3) := by decide +kernel
theorem dJ6_bitCount_0f7a4_14 : decode cJ6_bitCount_0f7a4 14 = .ok (.iand, 1) := by decide +kernel
theorem dJ6_bitCount_0f7a4_15 : decode cJ6_bitCount_0f7a4 15 = .ok (.iload_n 0, 1) := by decide +kernel
theorem dJ6_bitCount_0f7a4_16 : decode cJ6_bitCount_0f7a4 16 = .ok (.iconst 2, 1) := by decide +kernel
theorem dJ6_bitCount_0f7a4_17 : decode cJ6_bitCount_0f7a4 17 = .ok (.iushr, 1) := by decide +kernel
theorem dJ6_bitCount_0f7a4_18 : decode cJ6_bitCount_0f7a4 18 = .ok (.ldc_w 266, 3) := by decide +kernel
theorem dJ6_bitCount_0f7a4_21 : decode cJ6_bitCount_0f7a4 21 = .ok (.iand, 1) := by decide +kernel
theorem dJ6_bitCount_0f7a4_22 : decode cJ6_bitCount_0f7a4 22 = .ok (.iadd, 1) := by decide +kernel
theorem dJ6_bitCount_0f7a4_23 : decode cJ6_bitCount_0f7a4 23 = .ok (.istore_n 0, 1) := by decide +kernel
theorem dJ6_bitCount_0f7a4_24 : decode cJ6_bitCount_0f7a4 24 = .ok (.iload_n 0, 1) := by decide +kernel
theorem dJ6_bitCount_0f7a4_25 : decode cJ6_bitCount_0f7a4 25 = .ok (.iload_n 0, 1) := by decide +kernel
theorem dJ6_bitCount_0f7a4_26 : decode cJ6_bitCount_0f7a4 26 = .ok (.iconst 4, 1) := by decide +kernel
theorem dJ6_bitCount_0f7a4_27 : decode cJ6_bitCount_0f7a4 27 = .ok (.iushr, 1) := by decide +kernel
theorem dJ6_bitCount_0f7a4_28 : decode cJ6_bitCount_0f7a4 28 = .ok (.iadd, 1) := by decide +kernel
theorem dJ6_bitCount_0f7a4_29 : decode cJ6_bitCount_0f7a4 29 = .ok (.ldc_w 267, 3) := by decide +kernel
theorem dJ6_bitCount_0f7a4_32 : decode cJ6_bitCount_0f7a4 32 = .ok (.iand, 1) := by decide +kernel
theorem dJ6_bitCount_0f7a4_33 : decode cJ6_bitCount_0f7a4 33 = .ok (.istore_n 0, 1) := by decide +kernel
theorem dJ6_bitCount_0f7a4_34 : decode cJ6_bitCount_0f7a4 34 = .ok (.iload_n 0, 1) := by decide +kernel
theorem dJ6_bitCount_0f7a4_35 : decode cJ6_bitCount_0f7a4 35 = .ok (.iload_n 0, 1) := by decide +kernel
theorem dJ6_bitCount_0f7a4_36 : decode cJ6_bitCount_0f7a4 36 = .ok (.bipush 8, 2) := by decide +kernel
theorem dJ6_bitCount_0f7a4_38 : decode cJ6_bitCount_0f7a4 38 = .ok (.iushr, 1) := by decide +kernel
theorem dJ6_bitCount_0f7a4_39 : decode cJ6_bitCount_0f7a4 39 = .ok (.iadd, 1) := by decide +kernel
theorem dJ6_bitCount_0f7a4_40 : decode cJ6_bitCount_0f7a4 40 = .ok (.istore_n 0, 1) := by decide +kernel
theorem dJ6_bitCount_0f7a4_41 : decode cJ6_bitCount_0f7a4 41 = .ok (.iload_n 0, 1) := by decide +kernel
theorem dJ6_bitCount_0f7a4_42 : decode cJ6_bitCount_0f7a4 42 = .ok (.iload_n 0, 1) := by decide +kernel
theorem dJ6_bitCount_0f7a4_43 : decode cJ6_bitCount_0f7a4 43 = .ok (.bipush 16, 2) := by decide +kernel
theorem dJ6_bitCount_0f7a4_45 : decode cJ6_bitCount_0f7a4 45 = .ok (.iushr, 1) := by decide +kernel
theorem dJ6_bitCount_0f7a4_46 : decode cJ6_bitCount_0f7a4 46 = .ok (.iadd, 1) := by decide +kernel
theorem dJ6_bitCount_0f7a4_47 : decode cJ6_bitCount_0f7a4 47 = .ok (.istore_n 0, 1) := by decide +kernel
theorem dJ6_bitCount_0f7a4_48 : decode cJ6_bitCount_0f7a4 48 = .ok (.iload_n 0, 1) := by decide +kernel
theorem dJ6_bitCount_0f7a4_49 : decode cJ6_bitCount_0f7a4 49 = .ok (.bipush 63, 2) := by decide +kernel
theorem dJ6_bitCount_0f7a4_51 : decode cJ6_bitCount_0f7a4 51 = .ok (.iand, 1) := by decide +kernel
theorem dJ6_bitCount_0f7a4_52 : decode cJ6_bitCount_0f7a4 52 = .ok (.ireturn, 1) := by decide +kernel
theorem dJ9_abs_0f7a4_0 : decode cJ9_abs_0f7a4 0 = .ok (.iload_n 0, 1) := by decide +kernel
theorem dJ9_abs_0f7a4_1 : decode cJ9_abs_0f7a4 1 = .ok (.ifCond .ge 8, 3) := by decide +kernel
theorem dJ9_abs_0f7a4_4 : decode cJ9_abs_0f7a4 4 = .ok (.iload_n 0, 1) := by decide +kernel
theorem dJ9_abs_0f7a4_5 : decode cJ9_abs_0f7a4 5 = .ok (.ineg, 1) := by decide +kernel
theorem dJ9_abs_0f7a4_6 : decode cJ9_abs_0f7a4 6 = .ok (.goto 4, 3) := by decide +kernel
theorem dJ9_abs_0f7a4_9 : decode cJ9_abs_0f7a4 9 = .ok (.iload_n 0, 1) := by decide +kernel
theorem dJ9_abs_0f7a4_10 : decode cJ9_abs_0f7a4 10 = .ok (.ireturn, 1) := by decide +kernel
theorem dJ7_fill_d0a16_0 : decode cJ7_fill_d0a16 0 = .ok (.iconst 0, 1) := by decide +kernel
theorem dJ7_fill_d0a16_1 : decode cJ7_fill_d0a16 1 = .ok (.istore_n 3, 1) := by decide +kernel
theorem dJ7_fill_d0a16_2 : decode cJ7_fill_d0a16 2 = .ok (.aload_n 0, 1) := by decide +kernel
theorem dJ7_fill_d0a16_3 : decode cJ7_fill_d0a16 3 = .ok (.arraylength, 1) := by decide +kernel
theorem dJ7_fill_d0a16_4 : decode cJ7_fill_d0a16 4 = .ok (.istore 4, 2) := by decide +kernel
theorem dJ7_fill_d0a16_6 : decode cJ7_fill_d0a16 6 = .ok (.iload_n 3, 1) := by decide +kernel
theorem dJ7_fill_d0a16_7 : decode cJ7_fill_d0a16 7 = .ok (.iload 4, 2) := by decide +kernel
theorem dJ7_fill_d0a16_9 : decode cJ7_fill_d0a16 9 = .ok (.if_icmp .ge 13, 3) := by decide +kernel
theorem dJ7_fill_d0a16_12 : decode cJ7_fill_d0a16 12 = .ok (.aload_n 0, 1) := by decide +kernel
theorem dJ7_fill_d0a16_13 : decode cJ7_fill_d0a16 13 = .ok (.iload_n 3, 1) := by decide +kernel
theorem dJ7_fill_d0a16_14 : decode cJ7_fill_d0a16 14 = .ok (.lload_n 1, 1) := by decide +kernel
theorem dJ7_fill_d0a16_15 : decode cJ7_fill_d0a16 15 = .ok (.lastore, 1) := by decide +kernel
theorem dJ7_fill_d0a16_16 : decode cJ7_fill_d0a16 16 = .ok (.iinc 3 1, 3) := by decide +kernel
theorem dJ7_fill_d0a16_19 : decode cJ7_fill_d0a16 19 = .ok (.goto (-13), 3) := by decide +kernel
theorem dJ7_fill_d0a16_22 : decode cJ7_fill_d0a16 22 = .ok (.return_, 1) := by decide +kernel
theorem dJ7_fill_53178_0 : decode cJ7_fill_53178 0 = .ok (.iconst 0, 1) := by decide +kernel
theorem dJ7_fill_53178_1 : decode cJ7_fill_53178 1 = .ok (.istore_n 2, 1) := by decide +kernel
theorem dJ7_fill_53178_2 : decode cJ7_fill_53178 2 = .ok (.aload_n 0, 1) := by decide +kernel
theorem dJ7_fill_53178_3 : decode cJ7_fill_53178 3 = .ok (.arraylength, 1) := by decide +kernel
theorem dJ7_fill_53178_4 : decode cJ7_fill_53178 4 = .ok (.istore_n 3, 1) := by decide +kernel
theorem dJ7_fill_53178_5 : decode cJ7_fill_53178 5 = .ok (.iload_n 2, 1) := by decide +kernel
theorem dJ7_fill_53178_6 : decode cJ7_fill_53178 6 = .ok (.iload_n 3, 1) := by decide +kernel
theorem dJ7_fill_53178_7 : decode cJ7_fill_53178 7 = .ok (.if_icmp .ge 13, 3) := by decide +kernel
theorem dJ7_fill_53178_10 : decode cJ7_fill_53178 10 = .ok (.aload_n 0, 1) := by decide +kernel
theorem dJ7_fill_53178_11 : decode cJ7_fill_53178 11 = .ok (.iload_n 2, 1) := by decide +kernel
theorem dJ7_fill_53178_12 : decode cJ7_fill_53178 12 = .ok (.iload_n 1, 1) := by decide +kernel
theorem dJ7_fill_53178_13 : decode cJ7_fill_53178 13 = .ok (.iastore, 1) := by decide +kernel
theorem dJ7_fill_53178_14 : decode cJ7_fill_53178 14 = .ok (.iinc 2 1, 3) := by decide +kernel
theorem dJ7_fill_53178_17 : decode cJ7_fill_53178 17 = .ok (.goto (-12), 3) := by decide +kernel
theorem dJ7_fill_53178_20 : decode cJ7_fill_53178 20 = .ok (.return_, 1) := by decide +kernel
end
section
/-! Glue of our own: option-valued functions that a method's bytecode is read as, and the rows that walk a method along its function. -/
def gd {α : Type} (c : Prop) [Decidable c] (k : Option α) : Option α := if c then none else k
theorem gd_some {α : Type} {c : Prop} [Decidable c] {k : Option α} {r : α} (h : gd c k = some r) : ¬ c ∧ k = some r := by
  unfold gd at h
  split at h
  · cases h
  · exact ⟨‹_›, h⟩
theorem gd_neg {α : Type} {c : Prop} [Decidable c] {k : Option α} (h : ¬ c) : gd c k = k := if_neg h
theorem bd_some {α β : Type} {o : Option α} {k : α → Option β} {r : β} (h : o.bind k = some r) : ∃ u, o = some u ∧ k u = some r := Option.bind_eq_some_iff.mp h
theorem it_pos {α : Type} {c : Prop} [Decidable c] {a b : Option α} {r : α} (g : c) (h : (if c then a else b) = some r) : a = some r := (if_pos g).symm.trans h
theorem it_neg {α : Type} {c : Prop} [Decidable c] {a b : Option α} {r : α} (g : ¬ c) (h : (if c then a else b) = some r) : b = some r := (if_neg g).symm.trans h
/-- a loop: its body gets what comes behind one more turn -/
def lp {σ ρ : Type} (body : (σ → Option ρ) → σ → Option ρ) : Nat → σ → Option ρ
  | 0, _ => none
  | n + 1, s => body (lp body n) s
theorem lp_ind {σ ρ : Type} {body : (σ → Option ρ) → σ → Option ρ} {r : ρ} {P : σ → Prop} (hb : ∀ k : σ → Option ρ, (∀ s, k s = some r → P s) → ∀ s, body k s = some r → P s) : ∀ n s, lp body n s = some r → P s
  | 0, _, h => by cases h
  | n + 1, s, h => hb (lp body n) (fun s hs => lp_ind hb n s hs) s h
def fuel : Nat := 100000
theorem z01 {x : Int32} (h : ¬ (¬ x = 0 ∧ ¬ x = 1)) : narrow .boolean (.int x) = .int x := by
  by_cases h0 : x = 0
  · subst h0; rfl
  · by_cases h1 : x = 1
    · subst h1; rfl
    · exact absurd ⟨h0, h1⟩ h
/-- the static arrays, and the links between nest mates -/
def eastF : Nat → Int32 := fun j => if j = 0 then 1 else if j = 2 then -1 else 0
def northF : Nat → Int32 := fun j => if j = 1 then 1 else if j = 3 then -1 else 0
def Xs (A : Nat → Prop) (U : State) (H : Heap) : Prop :=
  (∃ t : Nat, va_Z "LockQuest$Maker" "EAST" "[I" (.ref t) A U H ∧ va_T .int t 4 (fun j => .int (eastF j)) A U H) ∧
  (∃ t : Nat, va_Z "LockQuest$Maker" "NORTH" "[I" (.ref t) A U H ∧ va_T .int t 4 (fun j => .int (northF j)) A U H) ∧
  va_Nw (.methodLinkNest RX2 124 yX6_isWithin RX6) U
theorem Xs.moved {A : Nat → Prop} {s U : State} {H : Heap} (hW : s.WarmedH U.vm) (h : Xs A s H) : Xs A U H := by
  obtain ⟨⟨t, z, t1⟩, ⟨t2, z2, t3⟩, n⟩ := h
  exact ⟨⟨t, z.moved hW.alike, t1.moved hW.alike⟩, ⟨t2, z2.moved hW.alike, t3.moved hW.alike⟩, va_Nw.warmM hW n⟩
theorem Xs.same {A : Nat → Prop} {s U : State} {H : Heap} (hW : s.vm = U.vm) (h : Xs A s H) : Xs A U H := by
  obtain ⟨⟨t, z, t1⟩, ⟨t2, z2, t3⟩, n⟩ := h
  have ha : s.vm.Alike U.vm := by rw [hW]; exact Vm.Alike.refl U.vm
  exact ⟨⟨t, z.moved ha, t1.moved ha⟩, ⟨t2, z2.moved ha, t3.moved ha⟩, va_Nw.same rfl hW n⟩
theorem Xs.kept {A : Nat → Prop} {U : State} {H H1 : Heap} (h : Xs A U H) (hq : ∀ a : Nat, a < H.size → ¬ A a → H1[a]? = H[a]?) : Xs A U H1 := by
  obtain ⟨⟨t, z, t1⟩, ⟨t2, z2, t3⟩, n⟩ := h
  exact ⟨⟨t, z.kept hq, t1.kept hq⟩, ⟨t2, z2.kept hq, t3.kept hq⟩, n⟩
theorem Xs.narrow {A B : Nat → Prop} {U : State} {H : Heap} (h : Xs A U H) (hq : ∀ q, B q → A q) : Xs B U H := by
  obtain ⟨⟨t, z, t1⟩, ⟨t2, z2, t3⟩, n⟩ := h
  exact ⟨⟨t, z.narrow hq, t1.narrow hq⟩, ⟨t2, z2.narrow hq, t3.narrow hq⟩, n⟩
abbrev tysA (kA : Nat → ClassId) : List (ClassId × FieldType) := [(kA 0, .int), (kA 1, .long), (kA 2, .boolean), (kA 3, .array .int)]
/-- what a walk holds fast: the machine, the code, the words, the classes, what may be written -/
def Cx (p : Program) (s : State) (m : MethodId) (c : Code) (args : Array Value) (cc : ByteArray) (nL : Nat) (own : String) (Ts : List Cond) (D : va_G) (kA : Nat → ClassId) (A : Nat → Prop) : Prop :=
  CallFix p m c cc nL s args Ts own ∧ va_K D vwCl (tysA kA) s ∧ (∀ q : Nat, s.heap.size ≤ q → A q) ∧ Xs A s s.heap
/-- the world that a walk stands in -/
def Wd (D : va_G) (A : Nat → Prop) (s : State) (H : Heap) (locs : List Loc) (ws : va_W) : Prop := va_P D vwCl ws H ∧ va_D A ws ∧ va_S A s.heap H locs
def PreW (D : va_G) (kA : Nat → ClassId) (ws : va_W) (sz : Nat) (U : State) : Prop := U.heap.size = sz ∧ va_P D vwCl ws U.heap ∧ va_K D vwCl (tysA kA) U ∧ va_D (fun _ => True) ws ∧ Xs (va_A ws sz) U U.heap
def PostW (D : va_G) (kA : Nat → ClassId) (A : Nat → Prop) (ws : va_W) (t : State) : Prop := va_P D vwCl ws t.heap ∧ va_K D vwCl (tysA kA) t ∧ va_D A ws
/-- contracts over one world: it is ws before and ws' behind; the answer is r -/
def Ci (l : Launch) (y : MethodName) (wd : List Cond) (rm : Room) (D : va_G) (kA : Nat → ClassId) (av : List Value) (sz : Nat) (ws ws' : va_W) (r : Int32) : Prop :=
  Met l y wd rm (va_Pc av (PreW D kA ws sz)) (va_Qi (fun x (_ : Unit) => x = r) (fun _ t => PostW D kA (va_A ws sz) ws' t) (va_A ws sz)) 0 0 (va_A ws sz)
def Cv (l : Launch) (y : MethodName) (wd : List Cond) (rm : Room) (D : va_G) (kA : Nat → ClassId) (av : List Value) (sz : Nat) (ws ws' : va_W) : Prop :=
  Met l y wd rm (va_Pc av (PreW D kA ws sz)) (va_Qv (fun (_ : Unit) => True) (fun _ t => PostW D kA (va_A ws sz) ws' t) (va_A ws sz)) 0 0 (va_A ws sz)
theorem PreW.blind {D : va_G} {kA : Nat → ClassId} {ws : va_W} {sz : Nat} {av : List Value} : FrameBlind (va_Pc av (PreW D kA ws sz)) := fun a U g mk q => by
  obtain ⟨q0, q1, qP, qK, qD, qX⟩ := q
  exact ⟨q0, q1, qP, va_K.moved (u := U) (U := U.calling g mk a) (Vm.Alike.refl U.vm) qK, qD, Xs.same (s := U) (U := U.calling g mk a) rfl qX⟩
section G1
variable {p : Program} {l : Launch} {e : Env} {R : Room} {s : State} {m : MethodId} {args : Array Value} {below : List Frame} {meth : Method} {c : Code} {H : Heap} {locs : List Loc} {cells slots : Nat} {Q : State → Prop}
variable {cc : ByteArray} {nL : Nat} {Ts : List Cond} {own Cn : String} {b : Nat} {As rest st0 : List Value} {pc : Nat} {ls : Array Slot}
variable {D : va_G} {kA : Nat → ClassId} {A : Nat → Prop} {ws ws' : va_W} {r : Int32}
theorem Wd.free (C : Cx p s m c args cc nL own Ts D kA A) (w : Wd D A s H locs ws) : ∀ q, va_A ws H.size q → A q := by
  intro q h
  rcases h with ⟨k, e, h⟩ | h
  · exact w.2.1.2 k _ h
  · exact C.2.2.1 q (Nat.le_trans w.2.2.1 h)
theorem Wd.pre (C : Cx p s m c args cc nL own Ts D kA A) (w : Wd D A s H locs ws) {U : State} (hU : U.heap = H) (hW : s.WarmedH U.vm) : PreW D kA ws H.size U := by
  subst hU
  exact ⟨rfl, w.1, va_K.moved hW.alike C.2.1, w.2.1.weaken (fun _ _ _ _ => trivial), ((C.2.2.2.kept w.2.2.2.1).narrow (Wd.free C w)).moved hW⟩
theorem Wd.preV (C : Cx p s m c args cc nL own Ts D kA A) (w : Wd D A s H locs ws) {q0 ci : Nat} {q : vw_C} {fs : List Value} (hc : vwCl[ci]? = some q) (he : ws[q0]? = some (b, .inr (ci, fs))) (hq : q.1 = Cn) : PreV s H Cn b (va_Pc (.ref b :: As) (PreW D kA ws H.size)) As := by
  subst hq
  exact ⟨PreW.blind, va_recv C.2.1 w.1 hc he, fun U hU hW => ⟨rfl, Wd.pre C w hU hW⟩⟩
theorem Wd.preS (C : Cx p s m c args cc nL own Ts D kA A) (w : Wd D A s H locs ws) : PreS s H (va_Pc As (PreW D kA ws H.size)) As :=
  ⟨PreW.blind, fun U hU hW => ⟨rfl, Wd.pre C w hU hW⟩⟩
theorem Wd.behind {t : State} {H1 : Heap} {locs1 : List Loc} (C : Cx p s m c args cc nL own Ts D kA A) (w : Wd D A s H locs ws) (ht : t.heap = H1) (hB : PostW D kA (va_A ws H.size) ws' t) (hS : va_S A s.heap H1 locs1) : Wd D A s H1 locs1 ws' := by
  subst ht
  exact ⟨hB.1, hB.2.2.weaken (fun _ q _ h => Wd.free C w q.1 h), hS⟩
theorem gl_calli {a : Array Value} (C : Cx p s m c args cc nL own Ts D kA A) (w : Wd D A s H locs ws)
    (hr : va_Run p l e R s m args below meth c H locs cells slots 0 0 (F0 m pc ls st0) rest (va_Qi (fun x (_ : Unit) => x = r) (fun _ t => PostW D kA (va_A ws H.size) ws' t) (va_A ws H.size) a) (va_A ws H.size))
    (kk : ∀ (H1 : Heap) (locs1 : List Loc), Wd D A s H1 locs1 ws' → W p l e R s m args below meth c H1 locs1 cells slots Q (F0 m (pc + 3) ls (.int r :: rest))) : W p l e R s m args below meth c H locs cells slots Q (F0 m pc ls st0) := by
  refine va_calli hr w.2.2 (fun q _ h => Wd.free C w q h) (Wd.free C w) (fun x u t H1 locs1 ht hvm hw hB hz hk hS => ?_)
  subst hw
  exact kk H1 locs1 (Wd.behind C w ht hB hS)
theorem gl_callv {a : Array Value} (C : Cx p s m c args cc nL own Ts D kA A) (w : Wd D A s H locs ws)
    (hr : va_Run p l e R s m args below meth c H locs cells slots 0 0 (F0 m pc ls st0) rest (va_Qv (fun (_ : Unit) => True) (fun _ t => PostW D kA (va_A ws H.size) ws' t) (va_A ws H.size) a) (va_A ws H.size))
    (kk : ∀ (H1 : Heap) (locs1 : List Loc), Wd D A s H1 locs1 ws' → W p l e R s m args below meth c H1 locs1 cells slots Q (F0 m (pc + 3) ls rest)) : W p l e R s m args below meth c H locs cells slots Q (F0 m pc ls st0) := by
  refine va_callv hr w.2.2 (fun q _ h => Wd.free C w q h) (Wd.free C w) (fun u t H1 locs1 ht hvm hw hB hz hk hS => ?_)
  exact kk H1 locs1 (Wd.behind C w ht hB hS)
/-- aaload of an array of arrays -/
theorem gl_aldg {cl : List vw_C} {tys : List (ClassId × FieldType)} {a : Nat} (hexec : p.tables.exec = Jvm.exec) (hb : c.code = cc) (hK : va_K D cl tys s) (hP : va_P D cl ws H) (q0 t0 : Nat) {cA : ClassId} {ty : FieldType} {n : Nat} {f : Nat → Option Nat} (ha : ws[q0]? = some (a, .inl (cA, n, .inr (.inr (.inr (.inr f)))))) (ht : tys[t0]? = some (cA, .array ty)) {i : Int32} (hin : vp_in i n) (hdg : decode cc pc = .ok (.aaload, 1))
    (kk : W p l e R s m args below meth c H locs cells slots Q (F0 m (pc + 1) ls (va_rf (f i.toNatClampNeg) :: rest))) : W p l e R s m args below meth c H locs cells slots Q (F0 m pc ls (.int i :: .ref a :: rest)) := by
  have hlt : i.toNatClampNeg < n := Nat.not_le.mp fun q => hin (Or.inr q)
  exact W.aald (v := va_rf (f i.toNatClampNeg)) (ty := .array ty) hexec hb (hP q0 _ ha) ((hK.2 t0 _ ht).1 n (fun j => va_rf (f j))) rfl (fun q => by cases q) (by show ¬ (i < 0 ∨ (arrV _ _ _).slots.size ≤ _); rw [arrV_size]; exact hin) (by show (arrV _ _ _).slots[_]? = _; rw [arrV_read _ _ hlt]) rfl rfl hdg kk
end G1
def upd2 (f : Nat → Nat → Int32) (i j : Nat) (x : Int32) : Nat → Nat → Int32 := fun a => if a = i then upd (f i) j x else f a
end
