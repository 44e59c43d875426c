/-! The worlds: the cells of the class and of the reference. -/
abbrev wC (kA : Nat → ClassId) (ad : Nat → Nat) (lq_situation : Int32) (adv_rooms : Int32) (adv_levels : Int32) (adv_goalRoom : Int32) (adv_allDoors : Int32) (dr_state : Int64) (dr_count : Int32) (se_count : Int32) (parent : Nat → Int32) (level : Nat → Int32) (kind : Nat → Int32) (snum : Nat → Int32) (xx : Nat → Int32) (yy : Nat → Int32) (lying : Nat → Int32) (switched : Nat → Int32) (doors : Nat → Int32) (beyond : Nat → Nat → Int32) (offered : Nat → Int32) (opn : Nat → Int32) (seenb : Nat → Int64) (savedb : Nat → Int64) (found : Nat → Int32) (distance : Nat → Int32) (opening : Nat → Int32) : va_W := [(ad 0, .inr (5, [.ref (ad 1), .ref (ad 2), .ref (ad 4), .int lq_situation])), (ad 1, .inr (0, [.int adv_rooms, .int adv_levels, .int adv_goalRoom, .int adv_allDoors, .ref (ad 7), .ref (ad 8), .ref (ad 9), .ref (ad 10), .ref (ad 11), .ref (ad 12), .ref (ad 13), .ref (ad 14), .ref (ad 15), .ref (ad 16)])), (ad 2, .inr (2, [.ref (ad 1), .ref (ad 3), .ref (ad 30)])), (ad 3, .inr (1, [.long dr_state, .int dr_count, .ref (ad 29)])), (ad 4, .inr (4, [.ref (ad 1), .ref (ad 5), .ref (ad 6), .ref (ad 33), .ref (ad 34), .ref (ad 35), .int se_count])), (ad 5, .inr (3, [.ref (ad 31)])), (ad 6, .inr (3, [.ref (ad 32)])), (ad 7, .inl (kA 0, 12, .inl parent)), (ad 8, .inl (kA 0, 12, .inl level)), (ad 9, .inl (kA 0, 12, .inl kind)), (ad 10, .inl (kA 0, 12, .inl snum)), (ad 11, .inl (kA 0, 12, .inl xx)), (ad 12, .inl (kA 0, 12, .inl yy)), (ad 13, .inl (kA 0, 12, .inl lying)), (ad 14, .inl (kA 2, 12, .inl switched)), (ad 15, .inl (kA 0, 12, .inl doors)), (ad 16, .inl (kA 3, 12, .inr (.inr (.inr (.inr (fun i => some (ad (17 + i)))))))), (ad 17, .inl (kA 0, 12, .inl (beyond 0))), (ad 18, .inl (kA 0, 12, .inl (beyond 1))), (ad 19, .inl (kA 0, 12, .inl (beyond 2))), (ad 20, .inl (kA 0, 12, .inl (beyond 3))), (ad 21, .inl (kA 0, 12, .inl (beyond 4))), (ad 22, .inl (kA 0, 12, .inl (beyond 5))), (ad 23, .inl (kA 0, 12, .inl (beyond 6))), (ad 24, .inl (kA 0, 12, .inl (beyond 7))), (ad 25, .inl (kA 0, 12, .inl (beyond 8))), (ad 26, .inl (kA 0, 12, .inl (beyond 9))), (ad 27, .inl (kA 0, 12, .inl (beyond 10))), (ad 28, .inl (kA 0, 12, .inl (beyond 11))), (ad 29, .inl (kA 0, 12, .inl offered)), (ad 30, .inl (kA 2, 12, .inl opn)), (ad 31, .inl (kA 1, 192, .inr (.inl seenb))), (ad 32, .inl (kA 1, 192, .inr (.inl savedb))), (ad 33, .inl (kA 0, 12288, .inl found)), (ad 34, .inl (kA 0, 12288, .inl distance)), (ad 35, .inl (kA 0, 12288, .inl opening))]
abbrev wM (kA : Nat → ClassId) (ad : Nat → Nat) (mo_state : Int64) (mo_rooms : Int32) (mo_smallDoors : Int32) (mo_goal : Int32) (mo_now : Int32) (mo_last : Int32) (mo_count : Int32) (mparent : Nat → Int32) (mlevel : Nat → Int32) (mkind : Nat → Int32) (mnum : Nat → Int32) (mx : Nat → Int32) (my : Nat → Int32) (mlying : Nat → Int32) (msw : Nat → Int32) (mloop : Nat → Int32) (mchosen : Nat → Int32) (met : Nat → Int32) : va_W := [(ad 0, .inr (6, [.long mo_state, .int mo_rooms, .int mo_smallDoors, .int mo_goal, .ref (ad 1), .ref (ad 2), .ref (ad 3), .ref (ad 4), .ref (ad 5), .ref (ad 6), .ref (ad 7), .ref (ad 8), .ref (ad 9), .ref (ad 10), .int mo_now, .ref (ad 11), .int mo_last, .int mo_count])), (ad 1, .inl (kA 0, 12, .inl mparent)), (ad 2, .inl (kA 0, 12, .inl mlevel)), (ad 3, .inl (kA 0, 12, .inl mkind)), (ad 4, .inl (kA 0, 12, .inl mnum)), (ad 5, .inl (kA 0, 12, .inl mx)), (ad 6, .inl (kA 0, 12, .inl my)), (ad 7, .inl (kA 0, 12, .inl mlying)), (ad 8, .inl (kA 2, 12, .inl msw)), (ad 9, .inl (kA 2, 144, .inl mloop)), (ad 10, .inl (kA 2, 12, .inl mchosen)), (ad 11, .inl (kA 0, 12288, .inl met))]
set_option maxRecDepth 20000 in
theorem gr_wC_beyond {kA : Nat → ClassId} {ad : Nat → Nat} {lq_situation : Int32} {adv_rooms : Int32} {adv_levels : Int32} {adv_goalRoom : Int32} {adv_allDoors : Int32} {dr_state : Int64} {dr_count : Int32} {se_count : Int32} {parent : Nat → Int32} {level : Nat → Int32} {kind : Nat → Int32} {snum : Nat → Int32} {xx : Nat → Int32} {yy : Nat → Int32} {lying : Nat → Int32} {switched : Nat → Int32} {doors : Nat → Int32} {beyond : Nat → Nat → Int32} {offered : Nat → Int32} {opn : Nat → Int32} {seenb : Nat → Int64} {savedb : Nat → Int64} {found : Nat → Int32} {distance : Nat → Int32} {opening : Nat → Int32} {j : Nat} (h : j < 12) : (wC kA ad lq_situation adv_rooms adv_levels adv_goalRoom adv_allDoors dr_state dr_count se_count parent level kind snum xx yy lying switched doors beyond offered opn seenb savedb found distance opening)[17 + j]? = some (ad (17 + j), .inl (kA 0, 12, .inl (beyond j))) := by
  match j, h with
  | 0, _ => rfl
  | 1, _ => rfl
  | 2, _ => rfl
  | 3, _ => rfl
  | 4, _ => rfl
  | 5, _ => rfl
  | 6, _ => rfl
  | 7, _ => rfl
  | 8, _ => rfl
  | 9, _ => rfl
  | 10, _ => rfl
  | 11, _ => rfl
  | k + 12, h => exact absurd h (by omega)
set_option maxRecDepth 20000 in
theorem gs_wC_beyond {kA : Nat → ClassId} {ad : Nat → Nat} {lq_situation : Int32} {adv_rooms : Int32} {adv_levels : Int32} {adv_goalRoom : Int32} {adv_allDoors : Int32} {dr_state : Int64} {dr_count : Int32} {se_count : Int32} {parent : Nat → Int32} {level : Nat → Int32} {kind : Nat → Int32} {snum : Nat → Int32} {xx : Nat → Int32} {yy : Nat → Int32} {lying : Nat → Int32} {switched : Nat → Int32} {doors : Nat → Int32} {beyond : Nat → Nat → Int32} {offered : Nat → Int32} {opn : Nat → Int32} {seenb : Nat → Int64} {savedb : Nat → Int64} {found : Nat → Int32} {distance : Nat → Int32} {opening : Nat → Int32} {j i : Nat} {x : Int32} (h : j < 12) : (wC kA ad lq_situation adv_rooms adv_levels adv_goalRoom adv_allDoors dr_state dr_count se_count parent level kind snum xx yy lying switched doors beyond offered opn seenb savedb found distance opening).set (17 + j) (ad (17 + j), .inl (kA 0, 12, .inl (upd (beyond j) i x))) = (wC kA ad lq_situation adv_rooms adv_levels adv_goalRoom adv_allDoors dr_state dr_count se_count parent level kind snum xx yy lying switched doors (upd2 beyond j i x) offered opn seenb savedb found distance opening) := by
  match j, h with
  | 0, _ => rfl
  | 1, _ => rfl
  | 2, _ => rfl
  | 3, _ => rfl
  | 4, _ => rfl
  | 5, _ => rfl
  | 6, _ => rfl
  | 7, _ => rfl
  | 8, _ => rfl
  | 9, _ => rfl
  | 10, _ => rfl
  | 11, _ => rfl
  | k + 12, h => exact absurd h (by omega)
