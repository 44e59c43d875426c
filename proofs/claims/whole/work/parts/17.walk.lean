-- ('wC', 'LockQuest$Search', 'goOn', '(I)V', ('se', None))
abbrev rm_X4_goOn : Room := { frames := 4, cells := 0, slots := 0, locals := 89 }
set_option maxRecDepth 20000 in
theorem lX4_goOn_X4 : ∀ w ∈ wsX40, w ∈ wsX4_goOn := by decide +kernel
set_option maxRecDepth 20000 in
theorem mX4_goOn_1 : Cond.fieldLink RX4 23 "LockQuest$Search" "found" "[I" ∈ wsX4_goOn := by decide +kernel
set_option maxRecDepth 20000 in
theorem mX4_goOn_2 : Cond.fieldLink RX4 33 "LockQuest$Search" "adventure" "LLockQuest$Adventure;" ∈ wsX4_goOn := by decide +kernel
set_option maxRecDepth 20000 in
theorem lX4_goOn_X0 : ∀ w ∈ wsX00, w ∈ wsX4_goOn := by decide +kernel
set_option maxRecDepth 20000 in
theorem mX4_goOn_4 : Cond.fieldLink RX4 64 "LockQuest$Adventure" "doors" "[I" ∈ wsX4_goOn := by decide +kernel
def fb_X4_goOn_23 (adv_rooms : Int32) (parent : Nat → Int32) (level : Nat → Int32) (kind : Nat → Int32) (snum : Nat → Int32) (lying : Nat → Int32) (switched : Nat → Int32) (doors : Nat → Int32) (beyond : Nat → Nat → Int32) (k23 : Int32 → Int32 → Int32 → Int32 → Int32 → (Nat → Int64) → (Nat → Int32) → (Nat → Int32) → (Nat → Int32) → Option (Int32 × (Nat → Int64) × (Nat → Int32) × (Nat → Int32) × (Nat → Int32))) (x1 : Int32) (x2 : Int32) (x3 : Int32) (x4 : Int32) (se_count : Int32) (seenb : Nat → Int64) (found : Nat → Int32) (distance : Nat → Int32) (opening : Nat → Int32) : Option (Int32 × (Nat → Int64) × (Nat → Int32) × (Nat → Int32) × (Nat → Int32)) := if x3 ≤ x4 then ((f_X0_afterTaking x2 lying).bind (fun u2 => (f_X4_reach u2 x1 (100 : Int32) se_count seenb found distance opening).bind (fun u3 => (f_X0_afterToggling x2 switched).bind (fun u4 => (f_X4_reach u4 x1 (200 : Int32) u3.1 u3.2.1 u3.2.2.1 u3.2.2.2.1 u3.2.2.2.2).bind (fun u5 => some (u5.1, u5.2.1, u5.2.2.1, u5.2.2.2.1, u5.2.2.2.2)))))) else ((f_X0_afterWalking x2 x4 adv_rooms parent level kind snum doors beyond).bind (fun u6 => (f_X4_reach u6 x1 x4 se_count seenb found distance opening).bind (fun u7 => k23 x1 x2 x3 (x4 + (1 : Int32)) u7.1 u7.2.1 u7.2.2.1 u7.2.2.2.1 u7.2.2.2.2)))
set_option maxHeartbeats 4000000 in
set_option maxRecDepth 100000 in
theorem tb_X4_goOn_23 {p : Program} {l : Launch} {e : Env} {s : State} {m : MethodId} {args : Array Value} {below : List Frame} {meth : Method} {c : Code} {Q : State → Prop} {D : va_G} {kA : Nat → ClassId} {ad : Nat → Nat} {A : Nat → Prop} {lq_situation : Int32} {adv_rooms : Int32} {adv_levels : Int32} {adv_goalRoom : Int32} {adv_allDoors : Int32} {dr_state : Int64} {dr_count : Int32} {se_count : Int32} {parent : Nat → Int32} {level : Nat → Int32} {kind : Nat → Int32} {snum : Nat → Int32} {xx : Nat → Int32} {yy : Nat → Int32} {lying : Nat → Int32} {switched : Nat → Int32} {doors : Nat → Int32} {beyond : Nat → Nat → Int32} {offered : Nat → Int32} {opn : Nat → Int32} {seenb : Nat → Int64} {savedb : Nat → Int64} {found : Nat → Int32} {distance : Nat → Int32} {opening : Nat → Int32} {x1 : Int32} {x2 : Int32} {x3 : Int32} {x4 : Int32} {k23 : Int32 → Int32 → Int32 → Int32 → Int32 → (Nat → Int64) → (Nat → Int32) → (Nat → Int32) → (Nat → Int32) → Option (Int32 × (Nat → Int64) × (Nat → Int32) × (Nat → Int32) × (Nat → Int32))} {res : Int32 × (Nat → Int64) × (Nat → Int32) × (Nat → Int32) × (Nat → Int32)} (C : Cx p s m c args cX4_goOn 5 RX4 wsX4_goOn D kA A) (hk23 : ∀ (x1 : Int32) (x2 : Int32) (x3 : Int32) (x4 : Int32) (se_count : Int32) (seenb : Nat → Int64) (found : Nat → Int32) (distance : Nat → Int32) (opening : Nat → Int32) (H : Heap) (locs : List Loc) (ls : Array Slot), Wd D A s H locs (wC kA ad lq_situation adv_rooms adv_levels adv_goalRoom adv_allDoors dr_state dr_count se_count parent level kind snum xx yy lying switched doors beyond offered opn seenb savedb found distance opening) → lv_has ls 5 [(0, .ref (ad 4)), (1, .int x1), (2, .int x2), (3, .int x3), (4, .int x4)] → k23 x1 x2 x3 x4 se_count seenb found distance opening = some res → W p l e rm_X4_goOn s m args below meth c H locs 0 0 Q (F0 m 23 ls [])) (hret : ∀ (q0 : Int32) (q1 : Nat → Int64) (q2 : Nat → Int32) (q3 : Nat → Int32) (q4 : Nat → Int32) (H : Heap) (locs : List Loc) (ls : Array Slot) (pc : Nat), decode cX4_goOn pc = .ok (.return_, 1) → Wd D A s H locs (wC kA ad lq_situation adv_rooms adv_levels adv_goalRoom adv_allDoors dr_state dr_count q0 parent level kind snum xx yy lying switched doors beyond offered opn q1 savedb q2 q3 q4) → (q0, q1, q2, q3, q4) = res → W p l e rm_X4_goOn s m args below meth c H locs 0 0 Q (F0 m pc ls [])) {H : Heap} {locs : List Loc} {ls : Array Slot} (w : Wd D A s H locs (wC kA ad lq_situation adv_rooms adv_levels adv_goalRoom adv_allDoors dr_state dr_count se_count parent level kind snum xx yy lying switched doors beyond offered opn seenb savedb found distance opening)) (hl : lv_has ls 5 [(0, .ref (ad 4)), (1, .int x1), (2, .int x2), (3, .int x3), (4, .int x4)]) (h : fb_X4_goOn_23 adv_rooms parent level kind snum lying switched doors beyond k23 x1 x2 x3 x4 se_count seenb found distance opening = some res) : W p l e rm_X4_goOn s m args below meth c H locs 0 0 Q (F0 m 23 ls []) := by
  obtain ⟨⟨hx, hb, hml, hown, hts⟩, hK, -, -⟩ := id C
  unfold fb_X4_goOn_23 at h
  refine lv_iload hx hb dX4_goOn_23 (lv_at hl 4 rfl) ?_
  refine lv_iload_n hx hb dX4_goOn_25 rfl (lv_at hl 3 rfl) ?_
  refine lv_icmp_ge (tgt := 52) hx hb dX4_goOn_26 (by decide) (fun g1 => ?_) (fun g1 => ?_)
  · replace h := it_pos g1 h
    refine lv_aload_n hx hb dX4_goOn_52 rfl (lv_at hl 0 rfl) ?_
    refine lv_aload_n hx hb dX4_goOn_53 rfl (lv_at hl 0 rfl) ?_
    refine va_get (D := D) (ci := 4) (v := .ref (ad 1)) (C := RX4) (T := TX4) (N := 7) hx hb hts lX4_goOn_X4 hown hK w.1 4 rfl rfl 0 (by decide) (hts _ mX4_goOn_2) (fun _ h9 => h9) rfl dX4_goOn_54 ?_
    refine lv_iload_n hx hb dX4_goOn_57 rfl (lv_at hl 2 rfl) ?_
    obtain ⟨u2, hc2, h⟩ := bd_some h
    refine gl_calli C w (va_runV (As := [.int x2]) (rest := [.ref (ad 4)]) ⟨hx, hb, hml, hown, hts⟩ (c_X0_afterTaking l D kA ad H.size lq_situation adv_rooms adv_levels adv_goalRoom adv_allDoors dr_state dr_count se_count parent level kind snum xx yy lying switched doors beyond offered opn seenb savedb found distance opening x2 hc2) (cwV 1 hts gX4_goOn_X0_afterTaking rfl rfl rfl (by decide +kernel) ⟨Nat.le_of_ble_eq_true rfl, Nat.le_of_ble_eq_true rfl⟩) (Wd.preV C w (q0 := 1) (ci := 0) rfl rfl rfl) rfl rfl hl.1 rfl (lv_room (Nat.le_of_ble_eq_true rfl)) dX4_goOn_58 ⟨Nat.zero_le _, Nat.zero_le _⟩) (fun H locs w => ?_)
    refine lv_iload_n hx hb dX4_goOn_61 rfl (lv_at hl 1 rfl) ?_
    refine lv_bipush (v := 100) hx hb dX4_goOn_62 (by decide) ?_
    obtain ⟨u3, hc3, h⟩ := bd_some h
    refine gl_callv C w (va_runV (As := [.int u2, .int x1, .int (100 : Int32)]) (rest := []) ⟨hx, hb, hml, hown, hts⟩ (c_X4_reach l D kA ad H.size lq_situation adv_rooms adv_levels adv_goalRoom adv_allDoors dr_state dr_count se_count parent level kind snum xx yy lying switched doors beyond offered opn seenb savedb found distance opening u2 x1 (100 : Int32) hc3) (cwV 3 hts gX4_goOn_X4_reach rfl rfl rfl (by decide +kernel) ⟨Nat.le_of_ble_eq_true rfl, Nat.le_of_ble_eq_true rfl⟩) (Wd.preV C w (q0 := 4) (ci := 4) rfl rfl rfl) rfl rfl hl.1 rfl (lv_room (Nat.le_of_ble_eq_true rfl)) dX4_goOn_64 ⟨Nat.zero_le _, Nat.zero_le _⟩) (fun H locs w => ?_)
    refine lv_aload_n hx hb dX4_goOn_67 rfl (lv_at hl 0 rfl) ?_
    refine lv_aload_n hx hb dX4_goOn_68 rfl (lv_at hl 0 rfl) ?_
    refine va_get (D := D) (ci := 4) (v := .ref (ad 1)) (C := RX4) (T := TX4) (N := 7) hx hb hts lX4_goOn_X4 hown hK w.1 4 rfl rfl 0 (by decide) (hts _ mX4_goOn_2) (fun _ h9 => h9) rfl dX4_goOn_69 ?_
    refine lv_iload_n hx hb dX4_goOn_72 rfl (lv_at hl 2 rfl) ?_
    obtain ⟨u4, hc4, h⟩ := bd_some h
    refine gl_calli C w (va_runV (As := [.int x2]) (rest := [.ref (ad 4)]) ⟨hx, hb, hml, hown, hts⟩ (c_X0_afterToggling l D kA ad H.size lq_situation adv_rooms adv_levels adv_goalRoom adv_allDoors dr_state dr_count u3.1 parent level kind snum xx yy lying switched doors beyond offered opn u3.2.1 savedb u3.2.2.1 u3.2.2.2.1 u3.2.2.2.2 x2 hc4) (cwV 1 hts gX4_goOn_X0_afterToggling rfl rfl rfl (by decide +kernel) ⟨Nat.le_of_ble_eq_true rfl, Nat.le_of_ble_eq_true rfl⟩) (Wd.preV C w (q0 := 1) (ci := 0) rfl rfl rfl) rfl rfl hl.1 rfl (lv_room (Nat.le_of_ble_eq_true rfl)) dX4_goOn_73 ⟨Nat.zero_le _, Nat.zero_le _⟩) (fun H locs w => ?_)
    refine lv_iload_n hx hb dX4_goOn_76 rfl (lv_at hl 1 rfl) ?_
    refine lv_sipush (v := 200) hx hb dX4_goOn_77 (by decide) ?_
    obtain ⟨u5, hc5, h⟩ := bd_some h
    refine gl_callv C w (va_runV (As := [.int u4, .int x1, .int (200 : Int32)]) (rest := []) ⟨hx, hb, hml, hown, hts⟩ (c_X4_reach l D kA ad H.size lq_situation adv_rooms adv_levels adv_goalRoom adv_allDoors dr_state dr_count u3.1 parent level kind snum xx yy lying switched doors beyond offered opn u3.2.1 savedb u3.2.2.1 u3.2.2.2.1 u3.2.2.2.2 u4 x1 (200 : Int32) hc5) (cwV 3 hts gX4_goOn_X4_reach rfl rfl rfl (by decide +kernel) ⟨Nat.le_of_ble_eq_true rfl, Nat.le_of_ble_eq_true rfl⟩) (Wd.preV C w (q0 := 4) (ci := 4) rfl rfl rfl) rfl rfl hl.1 rfl (lv_room (Nat.le_of_ble_eq_true rfl)) dX4_goOn_80 ⟨Nat.zero_le _, Nat.zero_le _⟩) (fun H locs w => ?_)
    exact hret _ _ _ _ _ _ _ _ _ dX4_goOn_83 w (Option.some.inj h)
  · replace h := it_neg g1 h
    refine lv_aload_n hx hb dX4_goOn_29 rfl (lv_at hl 0 rfl) ?_
    refine lv_aload_n hx hb dX4_goOn_30 rfl (lv_at hl 0 rfl) ?_
    refine va_get (D := D) (ci := 4) (v := .ref (ad 1)) (C := RX4) (T := TX4) (N := 7) hx hb hts lX4_goOn_X4 hown hK w.1 4 rfl rfl 0 (by decide) (hts _ mX4_goOn_2) (fun _ h9 => h9) rfl dX4_goOn_31 ?_
    refine lv_iload_n hx hb dX4_goOn_34 rfl (lv_at hl 2 rfl) ?_
    refine lv_iload hx hb dX4_goOn_35 (lv_at hl 4 rfl) ?_
    obtain ⟨u6, hc6, h⟩ := bd_some h
    refine gl_calli C w (va_runV (As := [.int x2, .int x4]) (rest := [.ref (ad 4)]) ⟨hx, hb, hml, hown, hts⟩ (c_X0_afterWalking l D kA ad H.size lq_situation adv_rooms adv_levels adv_goalRoom adv_allDoors dr_state dr_count se_count parent level kind snum xx yy lying switched doors beyond offered opn seenb savedb found distance opening x2 x4 hc6) (cwV 2 hts gX4_goOn_X0_afterWalking rfl rfl rfl (by decide +kernel) ⟨Nat.le_of_ble_eq_true rfl, Nat.le_of_ble_eq_true rfl⟩) (Wd.preV C w (q0 := 1) (ci := 0) rfl rfl rfl) rfl rfl hl.1 rfl (lv_room (Nat.le_of_ble_eq_true rfl)) dX4_goOn_37 ⟨Nat.zero_le _, Nat.zero_le _⟩) (fun H locs w => ?_)
    refine lv_iload_n hx hb dX4_goOn_40 rfl (lv_at hl 1 rfl) ?_
    refine lv_iload hx hb dX4_goOn_41 (lv_at hl 4 rfl) ?_
    obtain ⟨u7, hc7, h⟩ := bd_some h
    refine gl_callv C w (va_runV (As := [.int u6, .int x1, .int x4]) (rest := []) ⟨hx, hb, hml, hown, hts⟩ (c_X4_reach l D kA ad H.size lq_situation adv_rooms adv_levels adv_goalRoom adv_allDoors dr_state dr_count se_count parent level kind snum xx yy lying switched doors beyond offered opn seenb savedb found distance opening u6 x1 x4 hc7) (cwV 3 hts gX4_goOn_X4_reach rfl rfl rfl (by decide +kernel) ⟨Nat.le_of_ble_eq_true rfl, Nat.le_of_ble_eq_true rfl⟩) (Wd.preV C w (q0 := 4) (ci := 4) rfl rfl rfl) rfl rfl hl.1 rfl (lv_room (Nat.le_of_ble_eq_true rfl)) dX4_goOn_43 ⟨Nat.zero_le _, Nat.zero_le _⟩) (fun H locs w => ?_)
    refine lv_iinc (v := (x4 + (1 : Int32))) (lv' := [(4, .int (x4 + (1 : Int32))), (0, .ref (ad 4)), (1, .int x1), (2, .int x2), (3, .int x3)]) hx hb dX4_goOn_46 hl (k := 4) rfl rfl (by decide) rfl (fun ls hl => ?_)
    refine lv_goto (tgt := 23) hx hb dX4_goOn_49 (by decide) ?_
    exact hk23 _ _ _ _ _ _ _ _ _ H locs ls w (lv_sub hl [1, 2, 3, 4, 0] rfl) h
def f_X4_goOn_23 (adv_rooms : Int32) (parent : Nat → Int32) (level : Nat → Int32) (kind : Nat → Int32) (snum : Nat → Int32) (lying : Nat → Int32) (switched : Nat → Int32) (doors : Nat → Int32) (beyond : Nat → Nat → Int32) (x1 : Int32) (x2 : Int32) (x3 : Int32) (x4 : Int32) (se_count : Int32) (seenb : Nat → Int64) (found : Nat → Int32) (distance : Nat → Int32) (opening : Nat → Int32) : Option (Int32 × (Nat → Int64) × (Nat → Int32) × (Nat → Int32) × (Nat → Int32)) := lp (σ := Int32 × Int32 × Int32 × Int32 × Int32 × (Nat → Int64) × (Nat → Int32) × (Nat → Int32) × (Nat → Int32)) (fun k st => fb_X4_goOn_23 adv_rooms parent level kind snum lying switched doors beyond (fun x1 x2 x3 x4 se_count seenb found distance opening => k (x1, x2, x3, x4, se_count, seenb, found, distance, opening)) st.1 st.2.1 st.2.2.1 st.2.2.2.1 st.2.2.2.2.1 st.2.2.2.2.2.1 st.2.2.2.2.2.2.1 st.2.2.2.2.2.2.2.1 st.2.2.2.2.2.2.2.2) fuel (x1, x2, x3, x4, se_count, seenb, found, distance, opening)
set_option maxHeartbeats 4000000 in
set_option maxRecDepth 100000 in
theorem t_X4_goOn_23 {p : Program} {l : Launch} {e : Env} {s : State} {m : MethodId} {args : Array Value} {below : List Frame} {meth : Method} {c : Code} {Q : State → Prop} {D : va_G} {kA : Nat → ClassId} {ad : Nat → Nat} {A : Nat → Prop} {lq_situation : Int32} {adv_rooms : Int32} {adv_levels : Int32} {adv_goalRoom : Int32} {adv_allDoors : Int32} {dr_state : Int64} {dr_count : Int32} {se_count : Int32} {parent : Nat → Int32} {level : Nat → Int32} {kind : Nat → Int32} {snum : Nat → Int32} {xx : Nat → Int32} {yy : Nat → Int32} {lying : Nat → Int32} {switched : Nat → Int32} {doors : Nat → Int32} {beyond : Nat → Nat → Int32} {offered : Nat → Int32} {opn : Nat → Int32} {seenb : Nat → Int64} {savedb : Nat → Int64} {found : Nat → Int32} {distance : Nat → Int32} {opening : Nat → Int32} {x1 : Int32} {x2 : Int32} {x3 : Int32} {x4 : Int32} {res : Int32 × (Nat → Int64) × (Nat → Int32) × (Nat → Int32) × (Nat → Int32)} (C : Cx p s m c args cX4_goOn 5 RX4 wsX4_goOn D kA A) (hret : ∀ (q0 : Int32) (q1 : Nat → Int64) (q2 : Nat → Int32) (q3 : Nat → Int32) (q4 : Nat → Int32) (H : Heap) (locs : List Loc) (ls : Array Slot) (pc : Nat), decode cX4_goOn pc = .ok (.return_, 1) → Wd D A s H locs (wC kA ad lq_situation adv_rooms adv_levels adv_goalRoom adv_allDoors dr_state dr_count q0 parent level kind snum xx yy lying switched doors beyond offered opn q1 savedb q2 q3 q4) → (q0, q1, q2, q3, q4) = res → W p l e rm_X4_goOn s m args below meth c H locs 0 0 Q (F0 m pc ls [])) {H : Heap} {locs : List Loc} {ls : Array Slot} (w : Wd D A s H locs (wC kA ad lq_situation adv_rooms adv_levels adv_goalRoom adv_allDoors dr_state dr_count se_count parent level kind snum xx yy lying switched doors beyond offered opn seenb savedb found distance opening)) (hl : lv_has ls 5 [(0, .ref (ad 4)), (1, .int x1), (2, .int x2), (3, .int x3), (4, .int x4)]) (h : f_X4_goOn_23 adv_rooms parent level kind snum lying switched doors beyond x1 x2 x3 x4 se_count seenb found distance opening = some res) : W p l e rm_X4_goOn s m args below meth c H locs 0 0 Q (F0 m 23 ls []) := by
  unfold f_X4_goOn_23 at h
  exact lp_ind (P := (fun (st : Int32 × Int32 × Int32 × Int32 × Int32 × (Nat → Int64) × (Nat → Int32) × (Nat → Int32) × (Nat → Int32)) => ∀ (H : Heap) (locs : List Loc) (ls : Array Slot), Wd D A s H locs (wC kA ad lq_situation adv_rooms adv_levels adv_goalRoom adv_allDoors dr_state dr_count st.2.2.2.2.1 parent level kind snum xx yy lying switched doors beyond offered opn st.2.2.2.2.2.1 savedb st.2.2.2.2.2.2.1 st.2.2.2.2.2.2.2.1 st.2.2.2.2.2.2.2.2) → lv_has ls 5 [(0, .ref (ad 4)), (1, .int st.1), (2, .int st.2.1), (3, .int st.2.2.1), (4, .int st.2.2.2.1)] → W p l e rm_X4_goOn s m args below meth c H locs 0 0 Q (F0 m 23 ls []))) (fun k hk st h H locs ls w hl => tb_X4_goOn_23 C  (fun a0 a1 a2 a3 a4 a5 a6 a7 a8 H locs ls w hl h => hk (a0, a1, a2, a3, a4, a5, a6, a7, a8) h H locs ls w hl) hret w hl h) fuel (x1, x2, x3, x4, se_count, seenb, found, distance, opening) h H locs ls w hl
def f_X4_goOn (p0 : Int32) (adv_rooms : Int32) (se_count : Int32) (parent : Nat → Int32) (level : Nat → Int32) (kind : Nat → Int32) (snum : Nat → Int32) (lying : Nat → Int32) (switched : Nat → Int32) (doors : Nat → Int32) (beyond : Nat → Nat → Int32) (seenb : Nat → Int64) (found : Nat → Int32) (distance : Nat → Int32) (opening : Nat → Int32) : Option (Int32 × (Nat → Int64) × (Nat → Int32) × (Nat → Int32) × (Nat → Int32)) := gd (p0 < 0 ∨ 12288 ≤ p0.toNatClampNeg) ((f_X5_roomOf (found p0.toNatClampNeg)).bind (fun u9 => gd (u9 < 0 ∨ 12 ≤ u9.toNatClampNeg) (f_X4_goOn_23 adv_rooms parent level kind snum lying switched doors beyond p0 (found p0.toNatClampNeg) (doors u9.toNatClampNeg) (0 : Int32) se_count seenb found distance opening)))
set_option maxHeartbeats 4000000 in
set_option maxRecDepth 100000 in
theorem t_X4_goOn {p : Program} {l : Launch} {e : Env} {s : State} {m : MethodId} {args : Array Value} {below : List Frame} {meth : Method} {c : Code} {Q : State → Prop} {D : va_G} {kA : Nat → ClassId} {ad : Nat → Nat} {A : Nat → Prop} {lq_situation : Int32} {adv_rooms : Int32} {adv_levels : Int32} {adv_goalRoom : Int32} {adv_allDoors : Int32} {dr_state : Int64} {dr_count : Int32} {se_count : Int32} {parent : Nat → Int32} {level : Nat → Int32} {kind : Nat → Int32} {snum : Nat → Int32} {xx : Nat → Int32} {yy : Nat → Int32} {lying : Nat → Int32} {switched : Nat → Int32} {doors : Nat → Int32} {beyond : Nat → Nat → Int32} {offered : Nat → Int32} {opn : Nat → Int32} {seenb : Nat → Int64} {savedb : Nat → Int64} {found : Nat → Int32} {distance : Nat → Int32} {opening : Nat → Int32} {p0 : Int32} {res : Int32 × (Nat → Int64) × (Nat → Int32) × (Nat → Int32) × (Nat → Int32)} (C : Cx p s m c args cX4_goOn 5 RX4 wsX4_goOn D kA A) (hret : ∀ (q0 : Int32) (q1 : Nat → Int64) (q2 : Nat → Int32) (q3 : Nat → Int32) (q4 : Nat → Int32) (H : Heap) (locs : List Loc) (ls : Array Slot) (pc : Nat), decode cX4_goOn pc = .ok (.return_, 1) → Wd D A s H locs (wC kA ad lq_situation adv_rooms adv_levels adv_goalRoom adv_allDoors dr_state dr_count q0 parent level kind snum xx yy lying switched doors beyond offered opn q1 savedb q2 q3 q4) → (q0, q1, q2, q3, q4) = res → W p l e rm_X4_goOn s m args below meth c H locs 0 0 Q (F0 m pc ls [])) {H : Heap} {locs : List Loc} {ls : Array Slot} (w : Wd D A s H locs (wC kA ad lq_situation adv_rooms adv_levels adv_goalRoom adv_allDoors dr_state dr_count se_count parent level kind snum xx yy lying switched doors beyond offered opn seenb savedb found distance opening)) (hl : lv_has ls 5 [(0, .ref (ad 4)), (1, .int p0)]) (h : f_X4_goOn p0 adv_rooms se_count parent level kind snum lying switched doors beyond seenb found distance opening = some res) : W p l e rm_X4_goOn s m args below meth c H locs 0 0 Q (F0 m 0 ls []) := by
  obtain ⟨⟨hx, hb, hml, hown, hts⟩, hK, -, -⟩ := id C
  unfold f_X4_goOn at h
  refine lv_aload_n hx hb dX4_goOn_0 rfl (lv_at hl 0 rfl) ?_
  refine va_get (D := D) (ci := 4) (v := .ref (ad 33)) (C := RX4) (T := TX4) (N := 7) hx hb hts lX4_goOn_X4 hown hK w.1 4 rfl rfl 3 (by decide) (hts _ mX4_goOn_1) (fun _ h9 => h9) rfl dX4_goOn_1 ?_
  refine lv_iload_n hx hb dX4_goOn_4 rfl (lv_at hl 1 rfl) ?_
  obtain ⟨g8, h⟩ := gd_some h
  refine va_iald hx hb hK w.1 33 0 rfl rfl g8 dX4_goOn_5 ?_
  refine lv_istore_n (lv' := [(2, .int (found p0.toNatClampNeg)), (0, .ref (ad 4)), (1, .int p0)]) hx hb dX4_goOn_6 rfl hl (by decide) rfl (fun ls hl => ?_)
  refine lv_aload_n hx hb dX4_goOn_7 rfl (lv_at hl 1 rfl) ?_
  refine va_get (D := D) (ci := 4) (v := .ref (ad 1)) (C := RX4) (T := TX4) (N := 7) hx hb hts lX4_goOn_X4 hown hK w.1 4 rfl rfl 0 (by decide) (hts _ mX4_goOn_2) (fun _ h9 => h9) rfl dX4_goOn_8 ?_
  refine va_get (D := D) (ci := 0) (v := .ref (ad 15)) (C := RX0) (T := TX0) (N := 14) hx hb hts lX4_goOn_X0 hown hK w.1 1 rfl rfl 12 (by decide) (hts _ mX4_goOn_4) (fun _ h9 => h9) rfl dX4_goOn_11 ?_
  refine lv_iload_n hx hb dX4_goOn_14 rfl (lv_at hl 0 rfl) ?_
  obtain ⟨u9, hc9, h⟩ := bd_some h
  refine gl_calli C w (va_runS (As := [.int (found p0.toNatClampNeg)]) (rest := [.ref (ad 15)]) ⟨hx, hb, hml, hown, hts⟩ (c_X5_roomOf l D kA ad H.size lq_situation adv_rooms adv_levels adv_goalRoom adv_allDoors dr_state dr_count se_count parent level kind snum xx yy lying switched doors beyond offered opn seenb savedb found distance opening (found p0.toNatClampNeg) hc9) (va_cwS 1 hts gX4_goOn_X5_roomOf rfl rfl rfl (by decide +kernel) ⟨Nat.le_of_ble_eq_true rfl, Nat.le_of_ble_eq_true rfl⟩) (Wd.preS C w) rfl rfl hl.1 rfl (lv_room (Nat.le_of_ble_eq_true rfl)) dX4_goOn_15 ⟨Nat.zero_le _, Nat.zero_le _⟩) (fun H locs w => ?_)
  obtain ⟨g10, h⟩ := gd_some h
  refine va_iald hx hb hK w.1 15 0 rfl rfl g10 dX4_goOn_18 ?_
  refine lv_istore_n (lv' := [(3, .int (doors u9.toNatClampNeg)), (2, .int (found p0.toNatClampNeg)), (0, .ref (ad 4)), (1, .int p0)]) hx hb dX4_goOn_19 rfl hl (by decide) rfl (fun ls hl => ?_)
  refine lv_iconst (v := 0) hx hb dX4_goOn_20 (by decide) ?_
  refine lv_istore (lv' := [(4, .int (0 : Int32)), (3, .int (doors u9.toNatClampNeg)), (2, .int (found p0.toNatClampNeg)), (0, .ref (ad 4)), (1, .int p0)]) hx hb dX4_goOn_21 hl (by decide) rfl (fun ls hl => ?_)
  exact t_X4_goOn_23 C  hret w (lv_sub hl [3, 4, 2, 1, 0] rfl) h
set_option maxHeartbeats 4000000 in
set_option maxRecDepth 100000 in
theorem c_X4_goOn (l : Launch) (D : va_G) (kA : Nat → ClassId) (ad : Nat → Nat) (sz : Nat) (lq_situation : Int32) (adv_rooms : Int32) (adv_levels : Int32) (adv_goalRoom : Int32) (adv_allDoors : Int32) (dr_state : Int64) (dr_count : Int32) (se_count : Int32) (parent : Nat → Int32) (level : Nat → Int32) (kind : Nat → Int32) (snum : Nat → Int32) (xx : Nat → Int32) (yy : Nat → Int32) (lying : Nat → Int32) (switched : Nat → Int32) (doors : Nat → Int32) (beyond : Nat → Nat → Int32) (offered : Nat → Int32) (opn : Nat → Int32) (seenb : Nat → Int64) (savedb : Nat → Int64) (found : Nat → Int32) (distance : Nat → Int32) (opening : Nat → Int32) (p0 : Int32) {res : Int32 × (Nat → Int64) × (Nat → Int32) × (Nat → Int32) × (Nat → Int32)} (h : f_X4_goOn p0 adv_rooms se_count parent level kind snum lying switched doors beyond seenb found distance opening = some res) : Cv l yX4_goOn wsX4_goOn rm_X4_goOn D kA [.ref (ad 4), .int p0] sz (wC kA ad lq_situation adv_rooms adv_levels adv_goalRoom adv_allDoors dr_state dr_count se_count parent level kind snum xx yy lying switched doors beyond offered opn seenb savedb found distance opening) (wC kA ad lq_situation adv_rooms adv_levels adv_goalRoom adv_allDoors dr_state dr_count res.1 parent level kind snum xx yy lying switched doors beyond offered opn res.2.1 savedb res.2.2.1 res.2.2.2.1 res.2.2.2.2) := by
  refine Met.ofW (cc := cX4_goOn) (maxL := 5) (ret := none) (by decide) rfl ?_
  intro p e s m args below meth c s₁ B hml hv
  obtain ⟨rfl, hsz, hP, hK, hD0, hX⟩ := hv
  subst hsz
  have hts := atoms_spec (ws := wsX4_goOn) B.pre
  have hl := lv_entry ([.ref (ad 4), .int p0]) (n := 5) (Nat.le_of_ble_eq_true rfl)
  rw [lg_entry_eq]
  have hlocks := B.notSynchronized
  refine t_X4_goOn (A := va_A (wC kA ad lq_situation adv_rooms adv_levels adv_goalRoom adv_allDoors dr_state dr_count se_count parent level kind snum xx yy lying switched doors beyond offered opn seenb savedb found distance opening) s.heap.size) ⟨⟨B.exec, B.bytes, hml, findClass_of_methodNamed B.named, hts⟩, hK, fun q h => Or.inr h, hX⟩ (fun q0 q1 q2 q3 q4 H locs ls pc hd w hres => ?_) ⟨hP, hD0.self, va_S.rf⟩ hl h
  subst hres
  exact W.vret B.exec B.bytes B.returns (fun t ht hW => ⟨⟨(), rfl, trivial, by rw [ht]; exact w.1, va_K.moved hW.alike hK, w.2.1⟩, w.2.2.F ht⟩) w.2.2.2.2 hd hlocks
-- ('wC', 'LockQuest$Search', 'findGoal', '(I)I', ('se', None))
abbrev rm_X4_findGoal : Room := { frames := 5, cells := 0, slots := 0, locals := 113 }
set_option maxRecDepth 20000 in
theorem lX4_findGoal_X4 : ∀ w ∈ wsX40, w ∈ wsX4_findGoal := by decide +kernel
set_option maxRecDepth 20000 in
theorem mX4_findGoal_1 : Cond.fieldLink RX4 41 "LockQuest$Search" "count" "I" ∈ wsX4_findGoal := by decide +kernel
set_option maxRecDepth 20000 in
theorem mX4_findGoal_2 : Cond.fieldLink RX4 23 "LockQuest$Search" "found" "[I" ∈ wsX4_findGoal := by decide +kernel
def fb_X4_findGoal_7 (adv_rooms : Int32) (adv_goalRoom : Int32) (parent : Nat → Int32) (level : Nat → Int32) (kind : Nat → Int32) (snum : Nat → Int32) (lying : Nat → Int32) (switched : Nat → Int32) (doors : Nat → Int32) (beyond : Nat → Nat → Int32) (k7 : Int32 → Int32 → (Nat → Int64) → (Nat → Int32) → (Nat → Int32) → (Nat → Int32) → Option (Int32 × Int32 × (Nat → Int64) × (Nat → Int32) × (Nat → Int32) × (Nat → Int32))) (x2 : Int32) (se_count : Int32) (seenb : Nat → Int64) (found : Nat → Int32) (distance : Nat → Int32) (opening : Nat → Int32) : Option (Int32 × Int32 × (Nat → Int64) × (Nat → Int32) × (Nat → Int32) × (Nat → Int32)) := if se_count ≤ x2 then (some ((-3 : Int32), se_count, seenb, found, distance, opening)) else (if (12288 : Int32) ≤ x2 then (some ((-3 : Int32), se_count, seenb, found, distance, opening)) else (gd (x2 < 0 ∨ 12288 ≤ x2.toNatClampNeg) ((f_X4_isAtGoal (found x2.toNatClampNeg) adv_goalRoom).bind (fun u4 => if u4 = 0 then ((f_X4_goOn x2 adv_rooms se_count parent level kind snum lying switched doors beyond seenb found distance opening).bind (fun u6 => k7 (x2 + (1 : Int32)) u6.1 u6.2.1 u6.2.2.1 u6.2.2.2.1 u6.2.2.2.2)) else (some (x2, se_count, seenb, found, distance, opening))))))
set_option maxHeartbeats 4000000 in
set_option maxRecDepth 100000 in
theorem tb_X4_findGoal_7 {p : Program} {l : Launch} {e : Env} {s : State} {m : MethodId} {args : Array Value} {below : List Frame} {meth : Method} {c : Code} {Q : State → Prop} {D : va_G} {kA : Nat → ClassId} {ad : Nat → Nat} {A : Nat → Prop} {lq_situation : Int32} {adv_rooms : Int32} {adv_levels : Int32} {adv_goalRoom : Int32} {adv_allDoors : Int32} {dr_state : Int64} {dr_count : Int32} {se_count : Int32} {parent : Nat → Int32} {level : Nat → Int32} {kind : Nat → Int32} {snum : Nat → Int32} {xx : Nat → Int32} {yy : Nat → Int32} {lying : Nat → Int32} {switched : Nat → Int32} {doors : Nat → Int32} {beyond : Nat → Nat → Int32} {offered : Nat → Int32} {opn : Nat → Int32} {seenb : Nat → Int64} {savedb : Nat → Int64} {found : Nat → Int32} {distance : Nat → Int32} {opening : Nat → Int32} {x2 : Int32} {k7 : Int32 → Int32 → (Nat → Int64) → (Nat → Int32) → (Nat → Int32) → (Nat → Int32) → Option (Int32 × Int32 × (Nat → Int64) × (Nat → Int32) × (Nat → Int32) × (Nat → Int32))} {res : Int32 × Int32 × (Nat → Int64) × (Nat → Int32) × (Nat → Int32) × (Nat → Int32)} (C : Cx p s m c args cX4_findGoal 3 RX4 wsX4_findGoal D kA A) (hk7 : ∀ (x2 : Int32) (se_count : Int32) (seenb : Nat → Int64) (found : Nat → Int32) (distance : Nat → Int32) (opening : Nat → Int32) (H : Heap) (locs : List Loc) (ls : Array Slot), Wd D A s H locs (wC kA ad lq_situation adv_rooms adv_levels adv_goalRoom adv_allDoors dr_state dr_count se_count parent level kind snum xx yy lying switched doors beyond offered opn seenb savedb found distance opening) → lv_has ls 3 [(0, .ref (ad 4)), (2, .int x2)] → k7 x2 se_count seenb found distance opening = some res → W p l e rm_X4_findGoal s m args below meth c H locs 0 0 Q (F0 m 7 ls [])) (hret : ∀ (r : Int32) (q0 : Int32) (q1 : Nat → Int64) (q2 : Nat → Int32) (q3 : Nat → Int32) (q4 : Nat → Int32) (H : Heap) (locs : List Loc) (ls : Array Slot) (pc : Nat), decode cX4_findGoal pc = .ok (.ireturn, 1) → Wd D A s H locs (wC kA ad lq_situation adv_rooms adv_levels adv_goalRoom adv_allDoors dr_state dr_count q0 parent level kind snum xx yy lying switched doors beyond offered opn q1 savedb q2 q3 q4) → (r, q0, q1, q2, q3, q4) = res → W p l e rm_X4_findGoal s m args below meth c H locs 0 0 Q (F0 m pc ls [.int r])) {H : Heap} {locs : List Loc} {ls : Array Slot} (w : Wd D A s H locs (wC kA ad lq_situation adv_rooms adv_levels adv_goalRoom adv_allDoors dr_state dr_count se_count parent level kind snum xx yy lying switched doors beyond offered opn seenb savedb found distance opening)) (hl : lv_has ls 3 [(0, .ref (ad 4)), (2, .int x2)]) (h : fb_X4_findGoal_7 adv_rooms adv_goalRoom parent level kind snum lying switched doors beyond k7 x2 se_count seenb found distance opening = some res) : W p l e rm_X4_findGoal s m args below meth c H locs 0 0 Q (F0 m 7 ls []) := by
  obtain ⟨⟨hx, hb, hml, hown, hts⟩, hK, -, -⟩ := id C
  unfold fb_X4_findGoal_7 at h
  refine lv_iload_n hx hb dX4_findGoal_7 rfl (lv_at hl 1 rfl) ?_
  refine lv_aload_n hx hb dX4_findGoal_8 rfl (lv_at hl 0 rfl) ?_
  refine va_get (D := D) (ci := 4) (v := .int se_count) (C := RX4) (T := TX4) (N := 7) hx hb hts lX4_findGoal_X4 hown hK w.1 4 rfl rfl 6 (by decide) (hts _ mX4_findGoal_1) (fun _ h9 => h9) rfl dX4_findGoal_9 ?_
  refine lv_icmp_ge (tgt := 48) hx hb dX4_findGoal_12 (by decide) (fun g1 => ?_) (fun g1 => ?_)
  · replace h := it_pos g1 h
    refine lv_bipush (v := -3) hx hb dX4_findGoal_48 (by decide) ?_
    exact hret _ _ _ _ _ _ _ _ _ _ dX4_findGoal_50 w (Option.some.inj h)
  · replace h := it_neg g1 h
    refine lv_iload_n hx hb dX4_findGoal_15 rfl (lv_at hl 1 rfl) ?_
    refine lv_sipush (v := 12288) hx hb dX4_findGoal_16 (by decide) ?_
    refine lv_icmp_ge (tgt := 48) hx hb dX4_findGoal_19 (by decide) (fun g2 => ?_) (fun g2 => ?_)
    · replace h := it_pos g2 h
      refine lv_bipush (v := -3) hx hb dX4_findGoal_48 (by decide) ?_
      exact hret _ _ _ _ _ _ _ _ _ _ dX4_findGoal_50 w (Option.some.inj h)
    · replace h := it_neg g2 h
      refine lv_aload_n hx hb dX4_findGoal_22 rfl (lv_at hl 0 rfl) ?_
      refine lv_aload_n hx hb dX4_findGoal_23 rfl (lv_at hl 0 rfl) ?_
      refine va_get (D := D) (ci := 4) (v := .ref (ad 33)) (C := RX4) (T := TX4) (N := 7) hx hb hts lX4_findGoal_X4 hown hK w.1 4 rfl rfl 3 (by decide) (hts _ mX4_findGoal_2) (fun _ h9 => h9) rfl dX4_findGoal_24 ?_
      refine lv_iload_n hx hb dX4_findGoal_27 rfl (lv_at hl 1 rfl) ?_
      obtain ⟨g3, h⟩ := gd_some h
      refine va_iald hx hb hK w.1 33 0 rfl rfl g3 dX4_findGoal_28 ?_
      obtain ⟨u4, hc4, h⟩ := bd_some h
      refine gl_calli C w (va_runV (As := [.int (found x2.toNatClampNeg)]) (rest := []) ⟨hx, hb, hml, hown, hts⟩ (c_X4_isAtGoal l D kA ad H.size lq_situation adv_rooms adv_levels adv_goalRoom adv_allDoors dr_state dr_count se_count parent level kind snum xx yy lying switched doors beyond offered opn seenb savedb found distance opening (found x2.toNatClampNeg) hc4) (cwV 1 hts gX4_findGoal_X4_isAtGoal rfl rfl rfl (by decide +kernel) ⟨Nat.le_of_ble_eq_true rfl, Nat.le_of_ble_eq_true rfl⟩) (Wd.preV C w (q0 := 4) (ci := 4) rfl rfl rfl) rfl rfl hl.1 rfl (lv_room (Nat.le_of_ble_eq_true rfl)) dX4_findGoal_29 ⟨Nat.zero_le _, Nat.zero_le _⟩) (fun H locs w => ?_)
      refine lv_if_eq (tgt := 37) hx hb dX4_findGoal_32 (by decide) (fun g5 => ?_) (fun g5 => ?_)
      · replace h := it_pos g5 h
        refine lv_aload_n hx hb dX4_findGoal_37 rfl (lv_at hl 0 rfl) ?_
        refine lv_iload_n hx hb dX4_findGoal_38 rfl (lv_at hl 1 rfl) ?_
        obtain ⟨u6, hc6, h⟩ := bd_some h
        refine gl_callv C w (va_runV (As := [.int x2]) (rest := []) ⟨hx, hb, hml, hown, hts⟩ (c_X4_goOn l D kA ad H.size lq_situation adv_rooms adv_levels adv_goalRoom adv_allDoors dr_state dr_count se_count parent level kind snum xx yy lying switched doors beyond offered opn seenb savedb found distance opening x2 hc6) (cwV 1 hts gX4_findGoal_X4_goOn rfl rfl rfl (by decide +kernel) ⟨Nat.le_of_ble_eq_true rfl, Nat.le_of_ble_eq_true rfl⟩) (Wd.preV C w (q0 := 4) (ci := 4) rfl rfl rfl) rfl rfl hl.1 rfl (lv_room (Nat.le_of_ble_eq_true rfl)) dX4_findGoal_39 ⟨Nat.zero_le _, Nat.zero_le _⟩) (fun H locs w => ?_)
        refine lv_iinc (v := (x2 + (1 : Int32))) (lv' := [(2, .int (x2 + (1 : Int32))), (0, .ref (ad 4))]) hx hb dX4_findGoal_42 hl (k := 1) rfl rfl (by decide) rfl (fun ls hl => ?_)
        refine lv_goto (tgt := 7) hx hb dX4_findGoal_45 (by decide) ?_
        exact hk7 _ _ _ _ _ _ H locs ls w (lv_sub hl [1, 0] rfl) h
      · replace h := it_neg g5 h
        refine lv_iload_n hx hb dX4_findGoal_35 rfl (lv_at hl 1 rfl) ?_
        exact hret _ _ _ _ _ _ _ _ _ _ dX4_findGoal_36 w (Option.some.inj h)
def f_X4_findGoal_7 (adv_rooms : Int32) (adv_goalRoom : Int32) (parent : Nat → Int32) (level : Nat → Int32) (kind : Nat → Int32) (snum : Nat → Int32) (lying : Nat → Int32) (switched : Nat → Int32) (doors : Nat → Int32) (beyond : Nat → Nat → Int32) (x2 : Int32) (se_count : Int32) (seenb : Nat → Int64) (found : Nat → Int32) (distance : Nat → Int32) (opening : Nat → Int32) : Option (Int32 × Int32 × (Nat → Int64) × (Nat → Int32) × (Nat → Int32) × (Nat → Int32)) := lp (σ := Int32 × Int32 × (Nat → Int64) × (Nat → Int32) × (Nat → Int32) × (Nat → Int32)) (fun k st => fb_X4_findGoal_7 adv_rooms adv_goalRoom parent level kind snum lying switched doors beyond (fun x2 se_count seenb found distance opening => k (x2, se_count, seenb, found, distance, opening)) st.1 st.2.1 st.2.2.1 st.2.2.2.1 st.2.2.2.2.1 st.2.2.2.2.2) fuel (x2, se_count, seenb, found, distance, opening)
set_option maxHeartbeats 4000000 in
set_option maxRecDepth 100000 in
theorem t_X4_findGoal_7 {p : Program} {l : Launch} {e : Env} {s : State} {m : MethodId} {args : Array Value} {below : List Frame} {meth : Method} {c : Code} {Q : State → Prop} {D : va_G} {kA : Nat → ClassId} {ad : Nat → Nat} {A : Nat → Prop} {lq_situation : Int32} {adv_rooms : Int32} {adv_levels : Int32} {adv_goalRoom : Int32} {adv_allDoors : Int32} {dr_state : Int64} {dr_count : Int32} {se_count : Int32} {parent : Nat → Int32} {level : Nat → Int32} {kind : Nat → Int32} {snum : Nat → Int32} {xx : Nat → Int32} {yy : Nat → Int32} {lying : Nat → Int32} {switched : Nat → Int32} {doors : Nat → Int32} {beyond : Nat → Nat → Int32} {offered : Nat → Int32} {opn : Nat → Int32} {seenb : Nat → Int64} {savedb : Nat → Int64} {found : Nat → Int32} {distance : Nat → Int32} {opening : Nat → Int32} {x2 : Int32} {res : Int32 × Int32 × (Nat → Int64) × (Nat → Int32) × (Nat → Int32) × (Nat → Int32)} (C : Cx p s m c args cX4_findGoal 3 RX4 wsX4_findGoal D kA A) (hret : ∀ (r : Int32) (q0 : Int32) (q1 : Nat → Int64) (q2 : Nat → Int32) (q3 : Nat → Int32) (q4 : Nat → Int32) (H : Heap) (locs : List Loc) (ls : Array Slot) (pc : Nat), decode cX4_findGoal pc = .ok (.ireturn, 1) → Wd D A s H locs (wC kA ad lq_situation adv_rooms adv_levels adv_goalRoom adv_allDoors dr_state dr_count q0 parent level kind snum xx yy lying switched doors beyond offered opn q1 savedb q2 q3 q4) → (r, q0, q1, q2, q3, q4) = res → W p l e rm_X4_findGoal s m args below meth c H locs 0 0 Q (F0 m pc ls [.int r])) {H : Heap} {locs : List Loc} {ls : Array Slot} (w : Wd D A s H locs (wC kA ad lq_situation adv_rooms adv_levels adv_goalRoom adv_allDoors dr_state dr_count se_count parent level kind snum xx yy lying switched doors beyond offered opn seenb savedb found distance opening)) (hl : lv_has ls 3 [(0, .ref (ad 4)), (2, .int x2)]) (h : f_X4_findGoal_7 adv_rooms adv_goalRoom parent level kind snum lying switched doors beyond x2 se_count seenb found distance opening = some res) : W p l e rm_X4_findGoal s m args below meth c H locs 0 0 Q (F0 m 7 ls []) := by
  unfold f_X4_findGoal_7 at h
  exact lp_ind (P := (fun (st : Int32 × Int32 × (Nat → Int64) × (Nat → Int32) × (Nat → Int32) × (Nat → Int32)) => ∀ (H : Heap) (locs : List Loc) (ls : Array Slot), Wd D A s H locs (wC kA ad lq_situation adv_rooms adv_levels adv_goalRoom adv_allDoors dr_state dr_count st.2.1 parent level kind snum xx yy lying switched doors beyond offered opn st.2.2.1 savedb st.2.2.2.1 st.2.2.2.2.1 st.2.2.2.2.2) → lv_has ls 3 [(0, .ref (ad 4)), (2, .int st.1)] → W p l e rm_X4_findGoal s m args below meth c H locs 0 0 Q (F0 m 7 ls []))) (fun k hk st h H locs ls w hl => tb_X4_findGoal_7 C  (fun a0 a1 a2 a3 a4 a5 H locs ls w hl h => hk (a0, a1, a2, a3, a4, a5) h H locs ls w hl) hret w hl h) fuel (x2, se_count, seenb, found, distance, opening) h H locs ls w hl
def f_X4_findGoal (p0 : Int32) (adv_rooms : Int32) (adv_goalRoom : Int32) (se_count : Int32) (parent : Nat → Int32) (level : Nat → Int32) (kind : Nat → Int32) (snum : Nat → Int32) (lying : Nat → Int32) (switched : Nat → Int32) (doors : Nat → Int32) (beyond : Nat → Nat → Int32) (seenb : Nat → Int64) (found : Nat → Int32) (distance : Nat → Int32) (opening : Nat → Int32) : Option (Int32 × Int32 × (Nat → Int64) × (Nat → Int32) × (Nat → Int32) × (Nat → Int32)) := (f_X4_begin p0 se_count seenb found distance).bind (fun u7 => f_X4_findGoal_7 adv_rooms adv_goalRoom parent level kind snum lying switched doors beyond (0 : Int32) u7.1 u7.2.1 u7.2.2.1 u7.2.2.2 opening)
set_option maxHeartbeats 4000000 in
set_option maxRecDepth 100000 in
theorem t_X4_findGoal {p : Program} {l : Launch} {e : Env} {s : State} {m : MethodId} {args : Array Value} {below : List Frame} {meth : Method} {c : Code} {Q : State → Prop} {D : va_G} {kA : Nat → ClassId} {ad : Nat → Nat} {A : Nat → Prop} {lq_situation : Int32} {adv_rooms : Int32} {adv_levels : Int32} {adv_goalRoom : Int32} {adv_allDoors : Int32} {dr_state : Int64} {dr_count : Int32} {se_count : Int32} {parent : Nat → Int32} {level : Nat → Int32} {kind : Nat → Int32} {snum : Nat → Int32} {xx : Nat → Int32} {yy : Nat → Int32} {lying : Nat → Int32} {switched : Nat → Int32} {doors : Nat → Int32} {beyond : Nat → Nat → Int32} {offered : Nat → Int32} {opn : Nat → Int32} {seenb : Nat → Int64} {savedb : Nat → Int64} {found : Nat → Int32} {distance : Nat → Int32} {opening : Nat → Int32} {p0 : Int32} {res : Int32 × Int32 × (Nat → Int64) × (Nat → Int32) × (Nat → Int32) × (Nat → Int32)} (C : Cx p s m c args cX4_findGoal 3 RX4 wsX4_findGoal D kA A) (hret : ∀ (r : Int32) (q0 : Int32) (q1 : Nat → Int64) (q2 : Nat → Int32) (q3 : Nat → Int32) (q4 : Nat → Int32) (H : Heap) (locs : List Loc) (ls : Array Slot) (pc : Nat), decode cX4_findGoal pc = .ok (.ireturn, 1) → Wd D A s H locs (wC kA ad lq_situation adv_rooms adv_levels adv_goalRoom adv_allDoors dr_state dr_count q0 parent level kind snum xx yy lying switched doors beyond offered opn q1 savedb q2 q3 q4) → (r, q0, q1, q2, q3, q4) = res → W p l e rm_X4_findGoal s m args below meth c H locs 0 0 Q (F0 m pc ls [.int r])) {H : Heap} {locs : List Loc} {ls : Array Slot} (w : Wd D A s H locs (wC kA ad lq_situation adv_rooms adv_levels adv_goalRoom adv_allDoors dr_state dr_count se_count parent level kind snum xx yy lying switched doors beyond offered opn seenb savedb found distance opening)) (hl : lv_has ls 3 [(0, .ref (ad 4)), (1, .int p0)]) (h : f_X4_findGoal p0 adv_rooms adv_goalRoom se_count parent level kind snum lying switched doors beyond seenb found distance opening = some res) : W p l e rm_X4_findGoal s m args below meth c H locs 0 0 Q (F0 m 0 ls []) := by
  obtain ⟨⟨hx, hb, hml, hown, hts⟩, hK, -, -⟩ := id C
  unfold f_X4_findGoal at h
  refine lv_aload_n hx hb dX4_findGoal_0 rfl (lv_at hl 0 rfl) ?_
  refine lv_iload_n hx hb dX4_findGoal_1 rfl (lv_at hl 1 rfl) ?_
  obtain ⟨u7, hc7, h⟩ := bd_some h
  refine gl_callv C w (va_runV (As := [.int p0]) (rest := []) ⟨hx, hb, hml, hown, hts⟩ (c_X4_begin l D kA ad H.size lq_situation adv_rooms adv_levels adv_goalRoom adv_allDoors dr_state dr_count se_count parent level kind snum xx yy lying switched doors beyond offered opn seenb savedb found distance opening p0 hc7) (cwV 1 hts gX4_findGoal_X4_begin rfl rfl rfl (by decide +kernel) ⟨Nat.le_of_ble_eq_true rfl, Nat.le_of_ble_eq_true rfl⟩) (Wd.preV C w (q0 := 4) (ci := 4) rfl rfl rfl) rfl rfl hl.1 rfl (lv_room (Nat.le_of_ble_eq_true rfl)) dX4_findGoal_2 ⟨Nat.zero_le _, Nat.zero_le _⟩) (fun H locs w => ?_)
  refine lv_iconst (v := 0) hx hb dX4_findGoal_5 (by decide) ?_
  refine lv_istore_n (lv' := [(2, .int (0 : Int32)), (0, .ref (ad 4)), (1, .int p0)]) hx hb dX4_findGoal_6 rfl hl (by decide) rfl (fun ls hl => ?_)
  exact t_X4_findGoal_7 C  hret w (lv_sub hl [1, 0] rfl) h
set_option maxHeartbeats 4000000 in
set_option maxRecDepth 100000 in
theorem c_X4_findGoal (l : Launch) (D : va_G) (kA : Nat → ClassId) (ad : Nat → Nat) (sz : Nat) (lq_situation : Int32) (adv_rooms : Int32) (adv_levels : Int32) (adv_goalRoom : Int32) (adv_allDoors : Int32) (dr_state : Int64) (dr_count : Int32) (se_count : Int32) (parent : Nat → Int32) (level : Nat → Int32) (kind : Nat → Int32) (snum : Nat → Int32) (xx : Nat → Int32) (yy : Nat → Int32) (lying : Nat → Int32) (switched : Nat → Int32) (doors : Nat → Int32) (beyond : Nat → Nat → Int32) (offered : Nat → Int32) (opn : Nat → Int32) (seenb : Nat → Int64) (savedb : Nat → Int64) (found : Nat → Int32) (distance : Nat → Int32) (opening : Nat → Int32) (p0 : Int32) {res : Int32 × Int32 × (Nat → Int64) × (Nat → Int32) × (Nat → Int32) × (Nat → Int32)} (h : f_X4_findGoal p0 adv_rooms adv_goalRoom se_count parent level kind snum lying switched doors beyond seenb found distance opening = some res) : Ci l yX4_findGoal wsX4_findGoal rm_X4_findGoal D kA [.ref (ad 4), .int p0] sz (wC kA ad lq_situation adv_rooms adv_levels adv_goalRoom adv_allDoors dr_state dr_count se_count parent level kind snum xx yy lying switched doors beyond offered opn seenb savedb found distance opening) (wC kA ad lq_situation adv_rooms adv_levels adv_goalRoom adv_allDoors dr_state dr_count res.2.1 parent level kind snum xx yy lying switched doors beyond offered opn res.2.2.1 savedb res.2.2.2.1 res.2.2.2.2.1 res.2.2.2.2.2) res.1 := by
  refine Met.ofW (cc := cX4_findGoal) (maxL := 3) (ret := (some .int)) (by decide) rfl ?_
  intro p e s m args below meth c s₁ B hml hv
  obtain ⟨rfl, hsz, hP, hK, hD0, hX⟩ := hv
  subst hsz
  have hts := atoms_spec (ws := wsX4_findGoal) B.pre
  have hl := lv_entry ([.ref (ad 4), .int p0]) (n := 3) (Nat.le_of_ble_eq_true rfl)
  rw [lg_entry_eq]
  have hlocks := B.notSynchronized
  refine t_X4_findGoal (A := va_A (wC kA ad lq_situation adv_rooms adv_levels adv_goalRoom adv_allDoors dr_state dr_count se_count parent level kind snum xx yy lying switched doors beyond offered opn seenb savedb found distance opening) s.heap.size) ⟨⟨B.exec, B.bytes, hml, findClass_of_methodNamed B.named, hts⟩, hK, fun q h => Or.inr h, hX⟩ (fun r q0 q1 q2 q3 q4 H locs ls pc hd w hres => ?_) ⟨hP, hD0.self, va_S.rf⟩ hl h
  subst hres
  exact W.iret B.exec B.bytes B.returns (fun t ht hW => ⟨⟨_, (), rfl, rfl, by rw [ht]; exact w.1, va_K.moved hW.alike hK, w.2.1⟩, w.2.2.F ht⟩) w.2.2.2.2 hd hlocks
-- ('wC', 'LockQuest', 'steps', '()I', ('lq',))
abbrev rm_X6_steps : Room := { frames := 6, cells := 0, slots := 0, locals := 135 }
set_option maxRecDepth 20000 in
theorem lX6_steps_X6 : ∀ w ∈ wsX60, w ∈ wsX6_steps := by decide +kernel
set_option maxRecDepth 20000 in
theorem mX6_steps_1 : Cond.fieldLink RX6 28 "LockQuest" "search" "LLockQuest$Search;" ∈ wsX6_steps := by decide +kernel
set_option maxRecDepth 20000 in
theorem mX6_steps_2 : Cond.fieldLink RX6 38 "LockQuest" "situation" "I" ∈ wsX6_steps := by decide +kernel
set_option maxRecDepth 20000 in
theorem lX6_steps_X4 : ∀ w ∈ wsX40, w ∈ wsX6_steps := by decide +kernel
set_option maxRecDepth 20000 in
theorem mX6_steps_4 : Cond.fieldLink RX6 121 "LockQuest$Search" "distance" "[I" ∈ wsX6_steps := by decide +kernel
def f_X6_steps  (lq_situation : Int32) (adv_rooms : Int32) (adv_goalRoom : Int32) (se_count : Int32) (parent : Nat → Int32) (level : Nat → Int32) (kind : Nat → Int32) (snum : Nat → Int32) (lying : Nat → Int32) (switched : Nat → Int32) (doors : Nat → Int32) (beyond : Nat → Nat → Int32) (seenb : Nat → Int64) (found : Nat → Int32) (distance : Nat → Int32) (opening : Nat → Int32) : Option (Int32 × Int32 × (Nat → Int64) × (Nat → Int32) × (Nat → Int32) × (Nat → Int32)) := (f_X4_findGoal lq_situation adv_rooms adv_goalRoom se_count parent level kind snum lying switched doors beyond seenb found distance opening).bind (fun u1 => if 0 ≤ u1.1 then (gd (u1.1 < 0 ∨ 12288 ≤ u1.1.toNatClampNeg) (some ((u1.2.2.2.2.1 u1.1.toNatClampNeg), u1.2.1, u1.2.2.1, u1.2.2.2.1, u1.2.2.2.2.1, u1.2.2.2.2.2))) else (some ((-3 : Int32), u1.2.1, u1.2.2.1, u1.2.2.2.1, u1.2.2.2.2.1, u1.2.2.2.2.2)))
set_option maxHeartbeats 4000000 in
set_option maxRecDepth 100000 in
theorem t_X6_steps {p : Program} {l : Launch} {e : Env} {s : State} {m : MethodId} {args : Array Value} {below : List Frame} {meth : Method} {c : Code} {Q : State → Prop} {D : va_G} {kA : Nat → ClassId} {ad : Nat → Nat} {A : Nat → Prop} {lq_situation : Int32} {adv_rooms : Int32} {adv_levels : Int32} {adv_goalRoom : Int32} {adv_allDoors : Int32} {dr_state : Int64} {dr_count : Int32} {se_count : Int32} {parent : Nat → Int32} {level : Nat → Int32} {kind : Nat → Int32} {snum : Nat → Int32} {xx : Nat → Int32} {yy : Nat → Int32} {lying : Nat → Int32} {switched : Nat → Int32} {doors : Nat → Int32} {beyond : Nat → Nat → Int32} {offered : Nat → Int32} {opn : Nat → Int32} {seenb : Nat → Int64} {savedb : Nat → Int64} {found : Nat → Int32} {distance : Nat → Int32} {opening : Nat → Int32}  {res : Int32 × Int32 × (Nat → Int64) × (Nat → Int32) × (Nat → Int32) × (Nat → Int32)} (C : Cx p s m c args cX6_steps 2 RX6 wsX6_steps D kA A) (hret : ∀ (r : Int32) (q0 : Int32) (q1 : Nat → Int64) (q2 : Nat → Int32) (q3 : Nat → Int32) (q4 : Nat → Int32) (H : Heap) (locs : List Loc) (ls : Array Slot) (pc : Nat), decode cX6_steps pc = .ok (.ireturn, 1) → Wd D A s H locs (wC kA ad lq_situation adv_rooms adv_levels adv_goalRoom adv_allDoors dr_state dr_count q0 parent level kind snum xx yy lying switched doors beyond offered opn q1 savedb q2 q3 q4) → (r, q0, q1, q2, q3, q4) = res → W p l e rm_X6_steps s m args below meth c H locs 0 0 Q (F0 m pc ls [.int r])) {H : Heap} {locs : List Loc} {ls : Array Slot} (w : Wd D A s H locs (wC kA ad lq_situation adv_rooms adv_levels adv_goalRoom adv_allDoors dr_state dr_count se_count parent level kind snum xx yy lying switched doors beyond offered opn seenb savedb found distance opening)) (hl : lv_has ls 2 [(0, .ref (ad 0))]) (h : f_X6_steps  lq_situation adv_rooms adv_goalRoom se_count parent level kind snum lying switched doors beyond seenb found distance opening = some res) : W p l e rm_X6_steps s m args below meth c H locs 0 0 Q (F0 m 0 ls []) := by
  obtain ⟨⟨hx, hb, hml, hown, hts⟩, hK, -, -⟩ := id C
  unfold f_X6_steps at h
  refine lv_aload_n hx hb dX6_steps_0 rfl (lv_at hl 0 rfl) ?_
  refine va_get (D := D) (ci := 5) (v := .ref (ad 4)) (C := RX6) (T := TX6) (N := 4) hx hb hts lX6_steps_X6 hown hK w.1 0 rfl rfl 2 (by decide) (hts _ mX6_steps_1) (fun _ h9 => h9) rfl dX6_steps_1 ?_
  refine lv_aload_n hx hb dX6_steps_4 rfl (lv_at hl 0 rfl) ?_
  refine va_get (D := D) (ci := 5) (v := .int lq_situation) (C := RX6) (T := TX6) (N := 4) hx hb hts lX6_steps_X6 hown hK w.1 0 rfl rfl 3 (by decide) (hts _ mX6_steps_2) (fun _ h9 => h9) rfl dX6_steps_5 ?_
  obtain ⟨u1, hc1, h⟩ := bd_some h
  refine gl_calli C w (va_runV (As := [.int lq_situation]) (rest := []) ⟨hx, hb, hml, hown, hts⟩ (c_X4_findGoal l D kA ad H.size lq_situation adv_rooms adv_levels adv_goalRoom adv_allDoors dr_state dr_count se_count parent level kind snum xx yy lying switched doors beyond offered opn seenb savedb found distance opening lq_situation hc1) (cwV 1 hts gX6_steps_X4_findGoal rfl rfl rfl (by decide +kernel) ⟨Nat.le_of_ble_eq_true rfl, Nat.le_of_ble_eq_true rfl⟩) (Wd.preV C w (q0 := 4) (ci := 4) rfl rfl rfl) rfl rfl hl.1 rfl (lv_room (Nat.le_of_ble_eq_true rfl)) dX6_steps_8 ⟨Nat.zero_le _, Nat.zero_le _⟩) (fun H locs w => ?_)
  refine lv_istore_n (lv' := [(1, .int u1.1), (0, .ref (ad 0))]) hx hb dX6_steps_11 rfl hl (by decide) rfl (fun ls hl => ?_)
  refine lv_iload_n hx hb dX6_steps_12 rfl (lv_at hl 0 rfl) ?_
  refine lv_if_ge (tgt := 21) hx hb dX6_steps_13 (by decide) (fun g2 => ?_) (fun g2 => ?_)
  · replace h := it_pos g2 h
    refine lv_aload_n hx hb dX6_steps_21 rfl (lv_at hl 1 rfl) ?_
    refine va_get (D := D) (ci := 5) (v := .ref (ad 4)) (C := RX6) (T := TX6) (N := 4) hx hb hts lX6_steps_X6 hown hK w.1 0 rfl rfl 2 (by decide) (hts _ mX6_steps_1) (fun _ h9 => h9) rfl dX6_steps_22 ?_
    refine va_get (D := D) (ci := 4) (v := .ref (ad 34)) (C := RX4) (T := TX4) (N := 7) hx hb hts lX6_steps_X4 hown hK w.1 4 rfl rfl 4 (by decide) (hts _ mX6_steps_4) (fun _ h9 => h9) rfl dX6_steps_25 ?_
    refine lv_iload_n hx hb dX6_steps_28 rfl (lv_at hl 0 rfl) ?_
    obtain ⟨g3, h⟩ := gd_some h
    refine va_iald hx hb hK w.1 34 0 rfl rfl g3 dX6_steps_29 ?_
    exact hret _ _ _ _ _ _ _ _ _ _ dX6_steps_30 w (Option.some.inj h)
  · replace h := it_neg g2 h
    refine lv_bipush (v := -3) hx hb dX6_steps_16 (by decide) ?_
    refine lv_goto (tgt := 30) hx hb dX6_steps_18 (by decide) ?_
    exact hret _ _ _ _ _ _ _ _ _ _ dX6_steps_30 w (Option.some.inj h)
set_option maxHeartbeats 4000000 in
set_option maxRecDepth 100000 in
theorem c_X6_steps (l : Launch) (D : va_G) (kA : Nat → ClassId) (ad : Nat → Nat) (sz : Nat) (lq_situation : Int32) (adv_rooms : Int32) (adv_levels : Int32) (adv_goalRoom : Int32) (adv_allDoors : Int32) (dr_state : Int64) (dr_count : Int32) (se_count : Int32) (parent : Nat → Int32) (level : Nat → Int32) (kind : Nat → Int32) (snum : Nat → Int32) (xx : Nat → Int32) (yy : Nat → Int32) (lying : Nat → Int32) (switched : Nat → Int32) (doors : Nat → Int32) (beyond : Nat → Nat → Int32) (offered : Nat → Int32) (opn : Nat → Int32) (seenb : Nat → Int64) (savedb : Nat → Int64) (found : Nat → Int32) (distance : Nat → Int32) (opening : Nat → Int32)  {res : Int32 × Int32 × (Nat → Int64) × (Nat → Int32) × (Nat → Int32) × (Nat → Int32)} (h : f_X6_steps  lq_situation adv_rooms adv_goalRoom se_count parent level kind snum lying switched doors beyond seenb found distance opening = some res) : Ci l yX6_steps wsX6_steps rm_X6_steps D kA [.ref (ad 0)] sz (wC kA ad lq_situation adv_rooms adv_levels adv_goalRoom adv_allDoors dr_state dr_count se_count parent level kind snum xx yy lying switched doors beyond offered opn seenb savedb found distance opening) (wC kA ad lq_situation adv_rooms adv_levels adv_goalRoom adv_allDoors dr_state dr_count res.2.1 parent level kind snum xx yy lying switched doors beyond offered opn res.2.2.1 savedb res.2.2.2.1 res.2.2.2.2.1 res.2.2.2.2.2) res.1 := by
  refine Met.ofW (cc := cX6_steps) (maxL := 2) (ret := (some .int)) (by decide) rfl ?_
  intro p e s m args below meth c s₁ B hml hv
  obtain ⟨rfl, hsz, hP, hK, hD0, hX⟩ := hv
  subst hsz
  have hts := atoms_spec (ws := wsX6_steps) B.pre
  have hl := lv_entry ([.ref (ad 0)]) (n := 2) (Nat.le_of_ble_eq_true rfl)
  rw [lg_entry_eq]
  have hlocks := B.notSynchronized
  refine t_X6_steps (A := va_A (wC kA ad lq_situation adv_rooms adv_levels adv_goalRoom adv_allDoors dr_state dr_count se_count parent level kind snum xx yy lying switched doors beyond offered opn seenb savedb found distance opening) s.heap.size) ⟨⟨B.exec, B.bytes, hml, findClass_of_methodNamed B.named, hts⟩, hK, fun q h => Or.inr h, hX⟩ (fun r q0 q1 q2 q3 q4 H locs ls pc hd w hres => ?_) ⟨hP, hD0.self, va_S.rf⟩ hl h
  subst hres
  exact W.iret B.exec B.bytes B.returns (fun t ht hW => ⟨⟨_, (), rfl, rfl, by rw [ht]; exact w.1, va_K.moved hW.alike hK, w.2.1⟩, w.2.2.F ht⟩) w.2.2.2.2 hd hlocks
-- ('wC', 'LockQuest', 'hint', '()I', ('lq',))
abbrev rm_X6_hint : Room := { frames := 6, cells := 0, slots := 0, locals := 135 }
set_option maxRecDepth 20000 in
theorem lX6_hint_X6 : ∀ w ∈ wsX60, w ∈ wsX6_hint := by decide +kernel
set_option maxRecDepth 20000 in
theorem mX6_hint_1 : Cond.fieldLink RX6 28 "LockQuest" "search" "LLockQuest$Search;" ∈ wsX6_hint := by decide +kernel
set_option maxRecDepth 20000 in
theorem mX6_hint_2 : Cond.fieldLink RX6 38 "LockQuest" "situation" "I" ∈ wsX6_hint := by decide +kernel
set_option maxRecDepth 20000 in
theorem lX6_hint_X4 : ∀ w ∈ wsX40, w ∈ wsX6_hint := by decide +kernel
set_option maxRecDepth 20000 in
theorem mX6_hint_4 : Cond.fieldLink RX6 124 "LockQuest$Search" "opening" "[I" ∈ wsX6_hint := by decide +kernel
def f_X6_hint  (lq_situation : Int32) (adv_rooms : Int32) (adv_goalRoom : Int32) (se_count : Int32) (parent : Nat → Int32) (level : Nat → Int32) (kind : Nat → Int32) (snum : Nat → Int32) (lying : Nat → Int32) (switched : Nat → Int32) (doors : Nat → Int32) (beyond : Nat → Nat → Int32) (seenb : Nat → Int64) (found : Nat → Int32) (distance : Nat → Int32) (opening : Nat → Int32) : Option (Int32 × Int32 × (Nat → Int64) × (Nat → Int32) × (Nat → Int32) × (Nat → Int32)) := (f_X4_findGoal lq_situation adv_rooms adv_goalRoom se_count parent level kind snum lying switched doors beyond seenb found distance opening).bind (fun u1 => if u1.1 = 0 then (some ((-1 : Int32), u1.2.1, u1.2.2.1, u1.2.2.2.1, u1.2.2.2.2.1, u1.2.2.2.2.2)) else (if 0 ≤ u1.1 then (gd (u1.1 < 0 ∨ 12288 ≤ u1.1.toNatClampNeg) (some ((u1.2.2.2.2.2 u1.1.toNatClampNeg), u1.2.1, u1.2.2.1, u1.2.2.2.1, u1.2.2.2.2.1, u1.2.2.2.2.2))) else (some ((-3 : Int32), u1.2.1, u1.2.2.1, u1.2.2.2.1, u1.2.2.2.2.1, u1.2.2.2.2.2))))
set_option maxHeartbeats 4000000 in
set_option maxRecDepth 100000 in
theorem t_X6_hint {p : Program} {l : Launch} {e : Env} {s : State} {m : MethodId} {args : Array Value} {below : List Frame} {meth : Method} {c : Code} {Q : State → Prop} {D : va_G} {kA : Nat → ClassId} {ad : Nat → Nat} {A : Nat → Prop} {lq_situation : Int32} {adv_rooms : Int32} {adv_levels : Int32} {adv_goalRoom : Int32} {adv_allDoors : Int32} {dr_state : Int64} {dr_count : Int32} {se_count : Int32} {parent : Nat → Int32} {level : Nat → Int32} {kind : Nat → Int32} {snum : Nat → Int32} {xx : Nat → Int32} {yy : Nat → Int32} {lying : Nat → Int32} {switched : Nat → Int32} {doors : Nat → Int32} {beyond : Nat → Nat → Int32} {offered : Nat → Int32} {opn : Nat → Int32} {seenb : Nat → Int64} {savedb : Nat → Int64} {found : Nat → Int32} {distance : Nat → Int32} {opening : Nat → Int32}  {res : Int32 × Int32 × (Nat → Int64) × (Nat → Int32) × (Nat → Int32) × (Nat → Int32)} (C : Cx p s m c args cX6_hint 2 RX6 wsX6_hint D kA A) (hret : ∀ (r : Int32) (q0 : Int32) (q1 : Nat → Int64) (q2 : Nat → Int32) (q3 : Nat → Int32) (q4 : Nat → Int32) (H : Heap) (locs : List Loc) (ls : Array Slot) (pc : Nat), decode cX6_hint pc = .ok (.ireturn, 1) → Wd D A s H locs (wC kA ad lq_situation adv_rooms adv_levels adv_goalRoom adv_allDoors dr_state dr_count q0 parent level kind snum xx yy lying switched doors beyond offered opn q1 savedb q2 q3 q4) → (r, q0, q1, q2, q3, q4) = res → W p l e rm_X6_hint s m args below meth c H locs 0 0 Q (F0 m pc ls [.int r])) {H : Heap} {locs : List Loc} {ls : Array Slot} (w : Wd D A s H locs (wC kA ad lq_situation adv_rooms adv_levels adv_goalRoom adv_allDoors dr_state dr_count se_count parent level kind snum xx yy lying switched doors beyond offered opn seenb savedb found distance opening)) (hl : lv_has ls 2 [(0, .ref (ad 0))]) (h : f_X6_hint  lq_situation adv_rooms adv_goalRoom se_count parent level kind snum lying switched doors beyond seenb found distance opening = some res) : W p l e rm_X6_hint s m args below meth c H locs 0 0 Q (F0 m 0 ls []) := by
  obtain ⟨⟨hx, hb, hml, hown, hts⟩, hK, -, -⟩ := id C
  unfold f_X6_hint at h
  refine lv_aload_n hx hb dX6_hint_0 rfl (lv_at hl 0 rfl) ?_
  refine va_get (D := D) (ci := 5) (v := .ref (ad 4)) (C := RX6) (T := TX6) (N := 4) hx hb hts lX6_hint_X6 hown hK w.1 0 rfl rfl 2 (by decide) (hts _ mX6_hint_1) (fun _ h9 => h9) rfl dX6_hint_1 ?_
  refine lv_aload_n hx hb dX6_hint_4 rfl (lv_at hl 0 rfl) ?_
  refine va_get (D := D) (ci := 5) (v := .int lq_situation) (C := RX6) (T := TX6) (N := 4) hx hb hts lX6_hint_X6 hown hK w.1 0 rfl rfl 3 (by decide) (hts _ mX6_hint_2) (fun _ h9 => h9) rfl dX6_hint_5 ?_
  obtain ⟨u1, hc1, h⟩ := bd_some h
  refine gl_calli C w (va_runV (As := [.int lq_situation]) (rest := []) ⟨hx, hb, hml, hown, hts⟩ (c_X4_findGoal l D kA ad H.size lq_situation adv_rooms adv_levels adv_goalRoom adv_allDoors dr_state dr_count se_count parent level kind snum xx yy lying switched doors beyond offered opn seenb savedb found distance opening lq_situation hc1) (cwV 1 hts gX6_hint_X4_findGoal rfl rfl rfl (by decide +kernel) ⟨Nat.le_of_ble_eq_true rfl, Nat.le_of_ble_eq_true rfl⟩) (Wd.preV C w (q0 := 4) (ci := 4) rfl rfl rfl) rfl rfl hl.1 rfl (lv_room (Nat.le_of_ble_eq_true rfl)) dX6_hint_8 ⟨Nat.zero_le _, Nat.zero_le _⟩) (fun H locs w => ?_)
  refine lv_istore_n (lv' := [(1, .int u1.1), (0, .ref (ad 0))]) hx hb dX6_hint_11 rfl hl (by decide) rfl (fun ls hl => ?_)
  refine lv_iload_n hx hb dX6_hint_12 rfl (lv_at hl 0 rfl) ?_
  refine lv_if_ne (tgt := 18) hx hb dX6_hint_13 (by decide) (fun g2 => ?_) (fun g2 => ?_)
  · replace h := it_neg g2 h
    refine lv_iload_n hx hb dX6_hint_18 rfl (lv_at hl 0 rfl) ?_
    refine lv_if_ge (tgt := 27) hx hb dX6_hint_19 (by decide) (fun g3 => ?_) (fun g3 => ?_)
    · replace h := it_pos g3 h
      refine lv_aload_n hx hb dX6_hint_27 rfl (lv_at hl 1 rfl) ?_
      refine va_get (D := D) (ci := 5) (v := .ref (ad 4)) (C := RX6) (T := TX6) (N := 4) hx hb hts lX6_hint_X6 hown hK w.1 0 rfl rfl 2 (by decide) (hts _ mX6_hint_1) (fun _ h9 => h9) rfl dX6_hint_28 ?_
      refine va_get (D := D) (ci := 4) (v := .ref (ad 35)) (C := RX4) (T := TX4) (N := 7) hx hb hts lX6_hint_X4 hown hK w.1 4 rfl rfl 5 (by decide) (hts _ mX6_hint_4) (fun _ h9 => h9) rfl dX6_hint_31 ?_
      refine lv_iload_n hx hb dX6_hint_34 rfl (lv_at hl 0 rfl) ?_
      obtain ⟨g4, h⟩ := gd_some h
      refine va_iald hx hb hK w.1 35 0 rfl rfl g4 dX6_hint_35 ?_
      exact hret _ _ _ _ _ _ _ _ _ _ dX6_hint_36 w (Option.some.inj h)
    · replace h := it_neg g3 h
      refine lv_bipush (v := -3) hx hb dX6_hint_22 (by decide) ?_
      refine lv_goto (tgt := 36) hx hb dX6_hint_24 (by decide) ?_
      exact hret _ _ _ _ _ _ _ _ _ _ dX6_hint_36 w (Option.some.inj h)
  · replace h := it_pos g2 h
    refine lv_iconst (v := -1) hx hb dX6_hint_16 (by decide) ?_
    exact hret _ _ _ _ _ _ _ _ _ _ dX6_hint_17 w (Option.some.inj h)
set_option maxHeartbeats 4000000 in
set_option maxRecDepth 100000 in
theorem c_X6_hint (l : Launch) (D : va_G) (kA : Nat → ClassId) (ad : Nat → Nat) (sz : Nat) (lq_situation : Int32) (adv_rooms : Int32) (adv_levels : Int32) (adv_goalRoom : Int32) (adv_allDoors : Int32) (dr_state : Int64) (dr_count : Int32) (se_count : Int32) (parent : Nat → Int32) (level : Nat → Int32) (kind : Nat → Int32) (snum : Nat → Int32) (xx : Nat → Int32) (yy : Nat → Int32) (lying : Nat → Int32) (switched : Nat → Int32) (doors : Nat → Int32) (beyond : Nat → Nat → Int32) (offered : Nat → Int32) (opn : Nat → Int32) (seenb : Nat → Int64) (savedb : Nat → Int64) (found : Nat → Int32) (distance : Nat → Int32) (opening : Nat → Int32)  {res : Int32 × Int32 × (Nat → Int64) × (Nat → Int32) × (Nat → Int32) × (Nat → Int32)} (h : f_X6_hint  lq_situation adv_rooms adv_goalRoom se_count parent level kind snum lying switched doors beyond seenb found distance opening = some res) : Ci l yX6_hint wsX6_hint rm_X6_hint D kA [.ref (ad 0)] sz (wC kA ad lq_situation adv_rooms adv_levels adv_goalRoom adv_allDoors dr_state dr_count se_count parent level kind snum xx yy lying switched doors beyond offered opn seenb savedb found distance opening) (wC kA ad lq_situation adv_rooms adv_levels adv_goalRoom adv_allDoors dr_state dr_count res.2.1 parent level kind snum xx yy lying switched doors beyond offered opn res.2.2.1 savedb res.2.2.2.1 res.2.2.2.2.1 res.2.2.2.2.2) res.1 := by
  refine Met.ofW (cc := cX6_hint) (maxL := 2) (ret := (some .int)) (by decide) rfl ?_
  intro p e s m args below meth c s₁ B hml hv
  obtain ⟨rfl, hsz, hP, hK, hD0, hX⟩ := hv
  subst hsz
  have hts := atoms_spec (ws := wsX6_hint) B.pre
  have hl := lv_entry ([.ref (ad 0)]) (n := 2) (Nat.le_of_ble_eq_true rfl)
  rw [lg_entry_eq]
  have hlocks := B.notSynchronized
  refine t_X6_hint (A := va_A (wC kA ad lq_situation adv_rooms adv_levels adv_goalRoom adv_allDoors dr_state dr_count se_count parent level kind snum xx yy lying switched doors beyond offered opn seenb savedb found distance opening) s.heap.size) ⟨⟨B.exec, B.bytes, hml, findClass_of_methodNamed B.named, hts⟩, hK, fun q h => Or.inr h, hX⟩ (fun r q0 q1 q2 q3 q4 H locs ls pc hd w hres => ?_) ⟨hP, hD0.self, va_S.rf⟩ hl h
  subst hres
  exact W.iret B.exec B.bytes B.returns (fun t ht hW => ⟨⟨_, (), rfl, rfl, by rw [ht]; exact w.1, va_K.moved hW.alike hK, w.2.1⟩, w.2.2.F ht⟩) w.2.2.2.2 hd hlocks
-- ('wC', 'LockQuest$Search', 'findAll', '(I)V', ('se', None))
abbrev rm_X4_findAll : Room := { frames := 5, cells := 0, slots := 0, locals := 113 }
set_option maxRecDepth 20000 in
theorem lX4_findAll_X4 : ∀ w ∈ wsX40, w ∈ wsX4_findAll := by decide +kernel
set_option maxRecDepth 20000 in
theorem mX4_findAll_1 : Cond.fieldLink RX4 41 "LockQuest$Search" "count" "I" ∈ wsX4_findAll := by decide +kernel
def fb_X4_findAll_7 (adv_rooms : Int32) (parent : Nat → Int32) (level : Nat → Int32) (kind : Nat → Int32) (snum : Nat → Int32) (lying : Nat → Int32) (switched : Nat → Int32) (doors : Nat → Int32) (beyond : Nat → Nat → Int32) (k7 : Int32 → Int32 → (Nat → Int64) → (Nat → Int32) → (Nat → Int32) → (Nat → Int32) → Option (Int32 × (Nat → Int64) × (Nat → Int32) × (Nat → Int32) × (Nat → Int32))) (x2 : Int32) (se_count : Int32) (seenb : Nat → Int64) (found : Nat → Int32) (distance : Nat → Int32) (opening : Nat → Int32) : Option (Int32 × (Nat → Int64) × (Nat → Int32) × (Nat → Int32) × (Nat → Int32)) := if se_count ≤ x2 then (some (se_count, seenb, found, distance, opening)) else (if (12288 : Int32) ≤ x2 then (some (se_count, seenb, found, distance, opening)) else ((f_X4_goOn x2 adv_rooms se_count parent level kind snum lying switched doors beyond seenb found distance opening).bind (fun u3 => k7 (x2 + (1 : Int32)) u3.1 u3.2.1 u3.2.2.1 u3.2.2.2.1 u3.2.2.2.2)))
set_option maxHeartbeats 4000000 in
set_option maxRecDepth 100000 in
theorem tb_X4_findAll_7 {p : Program} {l : Launch} {e : Env} {s : State} {m : MethodId} {args : Array Value} {below : List Frame} {meth : Method} {c : Code} {Q : State → Prop} {D : va_G} {kA : Nat → ClassId} {ad : Nat → Nat} {A : Nat → Prop} {lq_situation : Int32} {adv_rooms : Int32} {adv_levels : Int32} {adv_goalRoom : Int32} {adv_allDoors : Int32} {dr_state : Int64} {dr_count : Int32} {se_count : Int32} {parent : Nat → Int32} {level : Nat → Int32} {kind : Nat → Int32} {snum : Nat → Int32} {xx : Nat → Int32} {yy : Nat → Int32} {lying : Nat → Int32} {switched : Nat → Int32} {doors : Nat → Int32} {beyond : Nat → Nat → Int32} {offered : Nat → Int32} {opn : Nat → Int32} {seenb : Nat → Int64} {savedb : Nat → Int64} {found : Nat → Int32} {distance : Nat → Int32} {opening : Nat → Int32} {x2 : Int32} {k7 : Int32 → Int32 → (Nat → Int64) → (Nat → Int32) → (Nat → Int32) → (Nat → Int32) → Option (Int32 × (Nat → Int64) × (Nat → Int32) × (Nat → Int32) × (Nat → Int32))} {res : Int32 × (Nat → Int64) × (Nat → Int32) × (Nat → Int32) × (Nat → Int32)} (C : Cx p s m c args cX4_findAll 3 RX4 wsX4_findAll D kA A) (hk7 : ∀ (x2 : Int32) (se_count : Int32) (seenb : Nat → Int64) (found : Nat → Int32) (distance : Nat → Int32) (opening : Nat → Int32) (H : Heap) (locs : List Loc) (ls : Array Slot), Wd D A s H locs (wC kA ad lq_situation adv_rooms adv_levels adv_goalRoom adv_allDoors dr_state dr_count se_count parent level kind snum xx yy lying switched doors beyond offered opn seenb savedb found distance opening) → lv_has ls 3 [(0, .ref (ad 4)), (2, .int x2)] → k7 x2 se_count seenb found distance opening = some res → W p l e rm_X4_findAll s m args below meth c H locs 0 0 Q (F0 m 7 ls [])) (hret : ∀ (q0 : Int32) (q1 : Nat → Int64) (q2 : Nat → Int32) (q3 : Nat → Int32) (q4 : Nat → Int32) (H : Heap) (locs : List Loc) (ls : Array Slot) (pc : Nat), decode cX4_findAll pc = .ok (.return_, 1) → Wd D A s H locs (wC kA ad lq_situation adv_rooms adv_levels adv_goalRoom adv_allDoors dr_state dr_count q0 parent level kind snum xx yy lying switched doors beyond offered opn q1 savedb q2 q3 q4) → (q0, q1, q2, q3, q4) = res → W p l e rm_X4_findAll s m args below meth c H locs 0 0 Q (F0 m pc ls [])) {H : Heap} {locs : List Loc} {ls : Array Slot} (w : Wd D A s H locs (wC kA ad lq_situation adv_rooms adv_levels adv_goalRoom adv_allDoors dr_state dr_count se_count parent level kind snum xx yy lying switched doors beyond offered opn seenb savedb found distance opening)) (hl : lv_has ls 3 [(0, .ref (ad 4)), (2, .int x2)]) (h : fb_X4_findAll_7 adv_rooms parent level kind snum lying switched doors beyond k7 x2 se_count seenb found distance opening = some res) : W p l e rm_X4_findAll s m args below meth c H locs 0 0 Q (F0 m 7 ls []) := by
  obtain ⟨⟨hx, hb, hml, hown, hts⟩, hK, -, -⟩ := id C
  unfold fb_X4_findAll_7 at h
  refine lv_iload_n hx hb dX4_findAll_7 rfl (lv_at hl 1 rfl) ?_
  refine lv_aload_n hx hb dX4_findAll_8 rfl (lv_at hl 0 rfl) ?_
  refine va_get (D := D) (ci := 4) (v := .int se_count) (C := RX4) (T := TX4) (N := 7) hx hb hts lX4_findAll_X4 hown hK w.1 4 rfl rfl 6 (by decide) (hts _ mX4_findAll_1) (fun _ h9 => h9) rfl dX4_findAll_9 ?_
  refine lv_icmp_ge (tgt := 33) hx hb dX4_findAll_12 (by decide) (fun g1 => ?_) (fun g1 => ?_)
  · replace h := it_pos g1 h
    exact hret _ _ _ _ _ _ _ _ _ dX4_findAll_33 w (Option.some.inj h)
  · replace h := it_neg g1 h
    refine lv_iload_n hx hb dX4_findAll_15 rfl (lv_at hl 1 rfl) ?_
    refine lv_sipush (v := 12288) hx hb dX4_findAll_16 (by decide) ?_
    refine lv_icmp_ge (tgt := 33) hx hb dX4_findAll_19 (by decide) (fun g2 => ?_) (fun g2 => ?_)
    · replace h := it_pos g2 h
      exact hret _ _ _ _ _ _ _ _ _ dX4_findAll_33 w (Option.some.inj h)
    · replace h := it_neg g2 h
      refine lv_aload_n hx hb dX4_findAll_22 rfl (lv_at hl 0 rfl) ?_
      refine lv_iload_n hx hb dX4_findAll_23 rfl (lv_at hl 1 rfl) ?_
      obtain ⟨u3, hc3, h⟩ := bd_some h
      refine gl_callv C w (va_runV (As := [.int x2]) (rest := []) ⟨hx, hb, hml, hown, hts⟩ (c_X4_goOn l D kA ad H.size lq_situation adv_rooms adv_levels adv_goalRoom adv_allDoors dr_state dr_count se_count parent level kind snum xx yy lying switched doors beyond offered opn seenb savedb found distance opening x2 hc3) (cwV 1 hts gX4_findAll_X4_goOn rfl rfl rfl (by decide +kernel) ⟨Nat.le_of_ble_eq_true rfl, Nat.le_of_ble_eq_true rfl⟩) (Wd.preV C w (q0 := 4) (ci := 4) rfl rfl rfl) rfl rfl hl.1 rfl (lv_room (Nat.le_of_ble_eq_true rfl)) dX4_findAll_24 ⟨Nat.zero_le _, Nat.zero_le _⟩) (fun H locs w => ?_)
      refine lv_iinc (v := (x2 + (1 : Int32))) (lv' := [(2, .int (x2 + (1 : Int32))), (0, .ref (ad 4))]) hx hb dX4_findAll_27 hl (k := 1) rfl rfl (by decide) rfl (fun ls hl => ?_)
      refine lv_goto (tgt := 7) hx hb dX4_findAll_30 (by decide) ?_
      exact hk7 _ _ _ _ _ _ H locs ls w (lv_sub hl [1, 0] rfl) h
def f_X4_findAll_7 (adv_rooms : Int32) (parent : Nat → Int32) (level : Nat → Int32) (kind : Nat → Int32) (snum : Nat → Int32) (lying : Nat → Int32) (switched : Nat → Int32) (doors : Nat → Int32) (beyond : Nat → Nat → Int32) (x2 : Int32) (se_count : Int32) (seenb : Nat → Int64) (found : Nat → Int32) (distance : Nat → Int32) (opening : Nat → Int32) : Option (Int32 × (Nat → Int64) × (Nat → Int32) × (Nat → Int32) × (Nat → Int32)) := lp (σ := Int32 × Int32 × (Nat → Int64) × (Nat → Int32) × (Nat → Int32) × (Nat → Int32)) (fun k st => fb_X4_findAll_7 adv_rooms parent level kind snum lying switched doors beyond (fun x2 se_count seenb found distance opening => k (x2, se_count, seenb, found, distance, opening)) st.1 st.2.1 st.2.2.1 st.2.2.2.1 st.2.2.2.2.1 st.2.2.2.2.2) fuel (x2, se_count, seenb, found, distance, opening)
set_option maxHeartbeats 4000000 in
set_option maxRecDepth 100000 in
theorem t_X4_findAll_7 {p : Program} {l : Launch} {e : Env} {s : State} {m : MethodId} {args : Array Value} {below : List Frame} {meth : Method} {c : Code} {Q : State → Prop} {D : va_G} {kA : Nat → ClassId} {ad : Nat → Nat} {A : Nat → Prop} {lq_situation : Int32} {adv_rooms : Int32} {adv_levels : Int32} {adv_goalRoom : Int32} {adv_allDoors : Int32} {dr_state : Int64} {dr_count : Int32} {se_count : Int32} {parent : Nat → Int32} {level : Nat → Int32} {kind : Nat → Int32} {snum : Nat → Int32} {xx : Nat → Int32} {yy : Nat → Int32} {lying : Nat → Int32} {switched : Nat → Int32} {doors : Nat → Int32} {beyond : Nat → Nat → Int32} {offered : Nat → Int32} {opn : Nat → Int32} {seenb : Nat → Int64} {savedb : Nat → Int64} {found : Nat → Int32} {distance : Nat → Int32} {opening : Nat → Int32} {x2 : Int32} {res : Int32 × (Nat → Int64) × (Nat → Int32) × (Nat → Int32) × (Nat → Int32)} (C : Cx p s m c args cX4_findAll 3 RX4 wsX4_findAll D kA A) (hret : ∀ (q0 : Int32) (q1 : Nat → Int64) (q2 : Nat → Int32) (q3 : Nat → Int32) (q4 : Nat → Int32) (H : Heap) (locs : List Loc) (ls : Array Slot) (pc : Nat), decode cX4_findAll pc = .ok (.return_, 1) → Wd D A s H locs (wC kA ad lq_situation adv_rooms adv_levels adv_goalRoom adv_allDoors dr_state dr_count q0 parent level kind snum xx yy lying switched doors beyond offered opn q1 savedb q2 q3 q4) → (q0, q1, q2, q3, q4) = res → W p l e rm_X4_findAll s m args below meth c H locs 0 0 Q (F0 m pc ls [])) {H : Heap} {locs : List Loc} {ls : Array Slot} (w : Wd D A s H locs (wC kA ad lq_situation adv_rooms adv_levels adv_goalRoom adv_allDoors dr_state dr_count se_count parent level kind snum xx yy lying switched doors beyond offered opn seenb savedb found distance opening)) (hl : lv_has ls 3 [(0, .ref (ad 4)), (2, .int x2)]) (h : f_X4_findAll_7 adv_rooms parent level kind snum lying switched doors beyond x2 se_count seenb found distance opening = some res) : W p l e rm_X4_findAll s m args below meth c H locs 0 0 Q (F0 m 7 ls []) := by
  unfold f_X4_findAll_7 at h
  exact lp_ind (P := (fun (st : Int32 × Int32 × (Nat → Int64) × (Nat → Int32) × (Nat → Int32) × (Nat → Int32)) => ∀ (H : Heap) (locs : List Loc) (ls : Array Slot), Wd D A s H locs (wC kA ad lq_situation adv_rooms adv_levels adv_goalRoom adv_allDoors dr_state dr_count st.2.1 parent level kind snum xx yy lying switched doors beyond offered opn st.2.2.1 savedb st.2.2.2.1 st.2.2.2.2.1 st.2.2.2.2.2) → lv_has ls 3 [(0, .ref (ad 4)), (2, .int st.1)] → W p l e rm_X4_findAll s m args below meth c H locs 0 0 Q (F0 m 7 ls []))) (fun k hk st h H locs ls w hl => tb_X4_findAll_7 C  (fun a0 a1 a2 a3 a4 a5 H locs ls w hl h => hk (a0, a1, a2, a3, a4, a5) h H locs ls w hl) hret w hl h) fuel (x2, se_count, seenb, found, distance, opening) h H locs ls w hl
def f_X4_findAll (p0 : Int32) (adv_rooms : Int32) (se_count : Int32) (parent : Nat → Int32) (level : Nat → Int32) (kind : Nat → Int32) (snum : Nat → Int32) (lying : Nat → Int32) (switched : Nat → Int32) (doors : Nat → Int32) (beyond : Nat → Nat → Int32) (seenb : Nat → Int64) (found : Nat → Int32) (distance : Nat → Int32) (opening : Nat → Int32) : Option (Int32 × (Nat → Int64) × (Nat → Int32) × (Nat → Int32) × (Nat → Int32)) := (f_X4_begin p0 se_count seenb found distance).bind (fun u4 => f_X4_findAll_7 adv_rooms parent level kind snum lying switched doors beyond (0 : Int32) u4.1 u4.2.1 u4.2.2.1 u4.2.2.2 opening)
set_option maxHeartbeats 4000000 in
set_option maxRecDepth 100000 in
theorem t_X4_findAll {p : Program} {l : Launch} {e : Env} {s : State} {m : MethodId} {args : Array Value} {below : List Frame} {meth : Method} {c : Code} {Q : State → Prop} {D : va_G} {kA : Nat → ClassId} {ad : Nat → Nat} {A : Nat → Prop} {lq_situation : Int32} {adv_rooms : Int32} {adv_levels : Int32} {adv_goalRoom : Int32} {adv_allDoors : Int32} {dr_state : Int64} {dr_count : Int32} {se_count : Int32} {parent : Nat → Int32} {level : Nat → Int32} {kind : Nat → Int32} {snum : Nat → Int32} {xx : Nat → Int32} {yy : Nat → Int32} {lying : Nat → Int32} {switched : Nat → Int32} {doors : Nat → Int32} {beyond : Nat → Nat → Int32} {offered : Nat → Int32} {opn : Nat → Int32} {seenb : Nat → Int64} {savedb : Nat → Int64} {found : Nat → Int32} {distance : Nat → Int32} {opening : Nat → Int32} {p0 : Int32} {res : Int32 × (Nat → Int64) × (Nat → Int32) × (Nat → Int32) × (Nat → Int32)} (C : Cx p s m c args cX4_findAll 3 RX4 wsX4_findAll D kA A) (hret : ∀ (q0 : Int32) (q1 : Nat → Int64) (q2 : Nat → Int32) (q3 : Nat → Int32) (q4 : Nat → Int32) (H : Heap) (locs : List Loc) (ls : Array Slot) (pc : Nat), decode cX4_findAll pc = .ok (.return_, 1) → Wd D A s H locs (wC kA ad lq_situation adv_rooms adv_levels adv_goalRoom adv_allDoors dr_state dr_count q0 parent level kind snum xx yy lying switched doors beyond offered opn q1 savedb q2 q3 q4) → (q0, q1, q2, q3, q4) = res → W p l e rm_X4_findAll s m args below meth c H locs 0 0 Q (F0 m pc ls [])) {H : Heap} {locs : List Loc} {ls : Array Slot} (w : Wd D A s H locs (wC kA ad lq_situation adv_rooms adv_levels adv_goalRoom adv_allDoors dr_state dr_count se_count parent level kind snum xx yy lying switched doors beyond offered opn seenb savedb found distance opening)) (hl : lv_has ls 3 [(0, .ref (ad 4)), (1, .int p0)]) (h : f_X4_findAll p0 adv_rooms se_count parent level kind snum lying switched doors beyond seenb found distance opening = some res) : W p l e rm_X4_findAll s m args below meth c H locs 0 0 Q (F0 m 0 ls []) := by
  obtain ⟨⟨hx, hb, hml, hown, hts⟩, hK, -, -⟩ := id C
  unfold f_X4_findAll at h
  refine lv_aload_n hx hb dX4_findAll_0 rfl (lv_at hl 0 rfl) ?_
  refine lv_iload_n hx hb dX4_findAll_1 rfl (lv_at hl 1 rfl) ?_
  obtain ⟨u4, hc4, h⟩ := bd_some h
  refine gl_callv C w (va_runV (As := [.int p0]) (rest := []) ⟨hx, hb, hml, hown, hts⟩ (c_X4_begin l D kA ad H.size lq_situation adv_rooms adv_levels adv_goalRoom adv_allDoors dr_state dr_count se_count parent level kind snum xx yy lying switched doors beyond offered opn seenb savedb found distance opening p0 hc4) (cwV 1 hts gX4_findAll_X4_begin rfl rfl rfl (by decide +kernel) ⟨Nat.le_of_ble_eq_true rfl, Nat.le_of_ble_eq_true rfl⟩) (Wd.preV C w (q0 := 4) (ci := 4) rfl rfl rfl) rfl rfl hl.1 rfl (lv_room (Nat.le_of_ble_eq_true rfl)) dX4_findAll_2 ⟨Nat.zero_le _, Nat.zero_le _⟩) (fun H locs w => ?_)
  refine lv_iconst (v := 0) hx hb dX4_findAll_5 (by decide) ?_
  refine lv_istore_n (lv' := [(2, .int (0 : Int32)), (0, .ref (ad 4)), (1, .int p0)]) hx hb dX4_findAll_6 rfl hl (by decide) rfl (fun ls hl => ?_)
  exact t_X4_findAll_7 C  hret w (lv_sub hl [1, 0] rfl) h
set_option maxHeartbeats 4000000 in
set_option maxRecDepth 100000 in
theorem c_X4_findAll (l : Launch) (D : va_G) (kA : Nat → ClassId) (ad : Nat → Nat) (sz : Nat) (lq_situation : Int32) (adv_rooms : Int32) (adv_levels : Int32) (adv_goalRoom : Int32) (adv_allDoors : Int32) (dr_state : Int64) (dr_count : Int32) (se_count : Int32) (parent : Nat → Int32) (level : Nat → Int32) (kind : Nat → Int32) (snum : Nat → Int32) (xx : Nat → Int32) (yy : Nat → Int32) (lying : Nat → Int32) (switched : Nat → Int32) (doors : Nat → Int32) (beyond : Nat → Nat → Int32) (offered : Nat → Int32) (opn : Nat → Int32) (seenb : Nat → Int64) (savedb : Nat → Int64) (found : Nat → Int32) (distance : Nat → Int32) (opening : Nat → Int32) (p0 : Int32) {res : Int32 × (Nat → Int64) × (Nat → Int32) × (Nat → Int32) × (Nat → Int32)} (h : f_X4_findAll p0 adv_rooms se_count parent level kind snum lying switched doors beyond seenb found distance opening = some res) : Cv l yX4_findAll wsX4_findAll rm_X4_findAll D kA [.ref (ad 4), .int p0] sz (wC kA ad lq_situation adv_rooms adv_levels adv_goalRoom adv_allDoors dr_state dr_count se_count parent level kind snum xx yy lying switched doors beyond offered opn seenb savedb found distance opening) (wC kA ad lq_situation adv_rooms adv_levels adv_goalRoom adv_allDoors dr_state dr_count res.1 parent level kind snum xx yy lying switched doors beyond offered opn res.2.1 savedb res.2.2.1 res.2.2.2.1 res.2.2.2.2) := by
  refine Met.ofW (cc := cX4_findAll) (maxL := 3) (ret := none) (by decide) rfl ?_
  intro p e s m args below meth c s₁ B hml hv
  obtain ⟨rfl, hsz, hP, hK, hD0, hX⟩ := hv
  subst hsz
  have hts := atoms_spec (ws := wsX4_findAll) B.pre
  have hl := lv_entry ([.ref (ad 4), .int p0]) (n := 3) (Nat.le_of_ble_eq_true rfl)
  rw [lg_entry_eq]
  have hlocks := B.notSynchronized
  refine t_X4_findAll (A := va_A (wC kA ad lq_situation adv_rooms adv_levels adv_goalRoom adv_allDoors dr_state dr_count se_count parent level kind snum xx yy lying switched doors beyond offered opn seenb savedb found distance opening) s.heap.size) ⟨⟨B.exec, B.bytes, hml, findClass_of_methodNamed B.named, hts⟩, hK, fun q h => Or.inr h, hX⟩ (fun q0 q1 q2 q3 q4 H locs ls pc hd w hres => ?_) ⟨hP, hD0.self, va_S.rf⟩ hl h
  subst hres
  exact W.vret B.exec B.bytes B.returns (fun t ht hW => ⟨⟨(), rfl, trivial, by rw [ht]; exact w.1, va_K.moved hW.alike hK, w.2.1⟩, w.2.2.F ht⟩) w.2.2.2.2 hd hlocks
-- ('wC', 'LockQuest', 'situations', '()I', ('lq',))
abbrev rm_X6_situations : Room := { frames := 6, cells := 0, slots := 0, locals := 135 }
set_option maxRecDepth 20000 in
theorem lX6_situations_X6 : ∀ w ∈ wsX60, w ∈ wsX6_situations := by decide +kernel
set_option maxRecDepth 20000 in
theorem mX6_situations_1 : Cond.fieldLink RX6 28 "LockQuest" "search" "LLockQuest$Search;" ∈ wsX6_situations := by decide +kernel
set_option maxRecDepth 20000 in
theorem mX6_situations_2 : Cond.fieldLink RX6 38 "LockQuest" "situation" "I" ∈ wsX6_situations := by decide +kernel
set_option maxRecDepth 20000 in
theorem lX6_situations_X4 : ∀ w ∈ wsX40, w ∈ wsX6_situations := by decide +kernel
set_option maxRecDepth 20000 in
theorem mX6_situations_4 : Cond.fieldLink RX6 131 "LockQuest$Search" "count" "I" ∈ wsX6_situations := by decide +kernel
def f_X6_situations  (lq_situation : Int32) (adv_rooms : Int32) (se_count : Int32) (parent : Nat → Int32) (level : Nat → Int32) (kind : Nat → Int32) (snum : Nat → Int32) (lying : Nat → Int32) (switched : Nat → Int32) (doors : Nat → Int32) (beyond : Nat → Nat → Int32) (seenb : Nat → Int64) (found : Nat → Int32) (distance : Nat → Int32) (opening : Nat → Int32) : Option (Int32 × Int32 × (Nat → Int64) × (Nat → Int32) × (Nat → Int32) × (Nat → Int32)) := (f_X4_findAll lq_situation adv_rooms se_count parent level kind snum lying switched doors beyond seenb found distance opening).bind (fun u1 => some (u1.1, u1.1, u1.2.1, u1.2.2.1, u1.2.2.2.1, u1.2.2.2.2))
set_option maxHeartbeats 4000000 in
set_option maxRecDepth 100000 in
theorem t_X6_situations {p : Program} {l : Launch} {e : Env} {s : State} {m : MethodId} {args : Array Value} {below : List Frame} {meth : Method} {c : Code} {Q : State → Prop} {D : va_G} {kA : Nat → ClassId} {ad : Nat → Nat} {A : Nat → Prop} {lq_situation : Int32} {adv_rooms : Int32} {adv_levels : Int32} {adv_goalRoom : Int32} {adv_allDoors : Int32} {dr_state : Int64} {dr_count : Int32} {se_count : Int32} {parent : Nat → Int32} {level : Nat → Int32} {kind : Nat → Int32} {snum : Nat → Int32} {xx : Nat → Int32} {yy : Nat → Int32} {lying : Nat → Int32} {switched : Nat → Int32} {doors : Nat → Int32} {beyond : Nat → Nat → Int32} {offered : Nat → Int32} {opn : Nat → Int32} {seenb : Nat → Int64} {savedb : Nat → Int64} {found : Nat → Int32} {distance : Nat → Int32} {opening : Nat → Int32}  {res : Int32 × Int32 × (Nat → Int64) × (Nat → Int32) × (Nat → Int32) × (Nat → Int32)} (C : Cx p s m c args cX6_situations 1 RX6 wsX6_situations D kA A) (hret : ∀ (r : Int32) (q0 : Int32) (q1 : Nat → Int64) (q2 : Nat → Int32) (q3 : Nat → Int32) (q4 : Nat → Int32) (H : Heap) (locs : List Loc) (ls : Array Slot) (pc : Nat), decode cX6_situations pc = .ok (.ireturn, 1) → Wd D A s H locs (wC kA ad lq_situation adv_rooms adv_levels adv_goalRoom adv_allDoors dr_state dr_count q0 parent level kind snum xx yy lying switched doors beyond offered opn q1 savedb q2 q3 q4) → (r, q0, q1, q2, q3, q4) = res → W p l e rm_X6_situations s m args below meth c H locs 0 0 Q (F0 m pc ls [.int r])) {H : Heap} {locs : List Loc} {ls : Array Slot} (w : Wd D A s H locs (wC kA ad lq_situation adv_rooms adv_levels adv_goalRoom adv_allDoors dr_state dr_count se_count parent level kind snum xx yy lying switched doors beyond offered opn seenb savedb found distance opening)) (hl : lv_has ls 1 [(0, .ref (ad 0))]) (h : f_X6_situations  lq_situation adv_rooms se_count parent level kind snum lying switched doors beyond seenb found distance opening = some res) : W p l e rm_X6_situations s m args below meth c H locs 0 0 Q (F0 m 0 ls []) := by
  obtain ⟨⟨hx, hb, hml, hown, hts⟩, hK, -, -⟩ := id C
  unfold f_X6_situations at h
  refine lv_aload_n hx hb dX6_situations_0 rfl (lv_at hl 0 rfl) ?_
  refine va_get (D := D) (ci := 5) (v := .ref (ad 4)) (C := RX6) (T := TX6) (N := 4) hx hb hts lX6_situations_X6 hown hK w.1 0 rfl rfl 2 (by decide) (hts _ mX6_situations_1) (fun _ h9 => h9) rfl dX6_situations_1 ?_
  refine lv_aload_n hx hb dX6_situations_4 rfl (lv_at hl 0 rfl) ?_
  refine va_get (D := D) (ci := 5) (v := .int lq_situation) (C := RX6) (T := TX6) (N := 4) hx hb hts lX6_situations_X6 hown hK w.1 0 rfl rfl 3 (by decide) (hts _ mX6_situations_2) (fun _ h9 => h9) rfl dX6_situations_5 ?_
  obtain ⟨u1, hc1, h⟩ := bd_some h
  refine gl_callv C w (va_runV (As := [.int lq_situation]) (rest := []) ⟨hx, hb, hml, hown, hts⟩ (c_X4_findAll l D kA ad H.size lq_situation adv_rooms adv_levels adv_goalRoom adv_allDoors dr_state dr_count se_count parent level kind snum xx yy lying switched doors beyond offered opn seenb savedb found distance opening lq_situation hc1) (cwV 1 hts gX6_situations_X4_findAll rfl rfl rfl (by decide +kernel) ⟨Nat.le_of_ble_eq_true rfl, Nat.le_of_ble_eq_true rfl⟩) (Wd.preV C w (q0 := 4) (ci := 4) rfl rfl rfl) rfl rfl hl.1 rfl (lv_room (Nat.le_of_ble_eq_true rfl)) dX6_situations_8 ⟨Nat.zero_le _, Nat.zero_le _⟩) (fun H locs w => ?_)
  refine lv_aload_n hx hb dX6_situations_11 rfl (lv_at hl 0 rfl) ?_
  refine va_get (D := D) (ci := 5) (v := .ref (ad 4)) (C := RX6) (T := TX6) (N := 4) hx hb hts lX6_situations_X6 hown hK w.1 0 rfl rfl 2 (by decide) (hts _ mX6_situations_1) (fun _ h9 => h9) rfl dX6_situations_12 ?_
  refine va_get (D := D) (ci := 4) (v := .int u1.1) (C := RX4) (T := TX4) (N := 7) hx hb hts lX6_situations_X4 hown hK w.1 4 rfl rfl 6 (by decide) (hts _ mX6_situations_4) (fun _ h9 => h9) rfl dX6_situations_15 ?_
  exact hret _ _ _ _ _ _ _ _ _ _ dX6_situations_18 w (Option.some.inj h)
set_option maxHeartbeats 4000000 in
set_option maxRecDepth 100000 in
theorem c_X6_situations (l : Launch) (D : va_G) (kA : Nat → ClassId) (ad : Nat → Nat) (sz : Nat) (lq_situation : Int32) (adv_rooms : Int32) (adv_levels : Int32) (adv_goalRoom : Int32) (adv_allDoors : Int32) (dr_state : Int64) (dr_count : Int32) (se_count : Int32) (parent : Nat → Int32) (level : Nat → Int32) (kind : Nat → Int32) (snum : Nat → Int32) (xx : Nat → Int32) (yy : Nat → Int32) (lying : Nat → Int32) (switched : Nat → Int32) (doors : Nat → Int32) (beyond : Nat → Nat → Int32) (offered : Nat → Int32) (opn : Nat → Int32) (seenb : Nat → Int64) (savedb : Nat → Int64) (found : Nat → Int32) (distance : Nat → Int32) (opening : Nat → Int32)  {res : Int32 × Int32 × (Nat → Int64) × (Nat → Int32) × (Nat → Int32) × (Nat → Int32)} (h : f_X6_situations  lq_situation adv_rooms se_count parent level kind snum lying switched doors beyond seenb found distance opening = some res) : Ci l yX6_situations wsX6_situations rm_X6_situations D kA [.ref (ad 0)] sz (wC kA ad lq_situation adv_rooms adv_levels adv_goalRoom adv_allDoors dr_state dr_count se_count parent level kind snum xx yy lying switched doors beyond offered opn seenb savedb found distance opening) (wC kA ad lq_situation adv_rooms adv_levels adv_goalRoom adv_allDoors dr_state dr_count res.2.1 parent level kind snum xx yy lying switched doors beyond offered opn res.2.2.1 savedb res.2.2.2.1 res.2.2.2.2.1 res.2.2.2.2.2) res.1 := by
  refine Met.ofW (cc := cX6_situations) (maxL := 1) (ret := (some .int)) (by decide) rfl ?_
  intro p e s m args below meth c s₁ B hml hv
  obtain ⟨rfl, hsz, hP, hK, hD0, hX⟩ := hv
  subst hsz
  have hts := atoms_spec (ws := wsX6_situations) B.pre
  have hl := lv_entry ([.ref (ad 0)]) (n := 1) (Nat.le_of_ble_eq_true rfl)
  rw [lg_entry_eq]
  have hlocks := B.notSynchronized
  refine t_X6_situations (A := va_A (wC kA ad lq_situation adv_rooms adv_levels adv_goalRoom adv_allDoors dr_state dr_count se_count parent level kind snum xx yy lying switched doors beyond offered opn seenb savedb found distance opening) s.heap.size) ⟨⟨B.exec, B.bytes, hml, findClass_of_methodNamed B.named, hts⟩, hK, fun q h => Or.inr h, hX⟩ (fun r q0 q1 q2 q3 q4 H locs ls pc hd w hres => ?_) ⟨hP, hD0.self, va_S.rf⟩ hl h
  subst hres
  exact W.iret B.exec B.bytes B.returns (fun t ht hW => ⟨⟨_, (), rfl, rfl, by rw [ht]; exact w.1, va_K.moved hW.alike hK, w.2.1⟩, w.2.2.F ht⟩) w.2.2.2.2 hd hlocks
-- ('wC', 'java/util/Arrays', 'fill', '([JJ)V', ('savedb', None))
def fb_J7_fill_savedb_6  (k6 : Int64 → Int32 → Int32 → (Nat → Int64) → Option ((Nat → Int64))) (x1 : Int64) (x3 : Int32) (x4 : Int32) (savedb : Nat → Int64) : Option ((Nat → Int64)) := if x4 ≤ x3 then (some savedb) else (gd (x3 < 0 ∨ 192 ≤ x3.toNatClampNeg) (k6 x1 (x3 + (1 : Int32)) x4 (vp_updL savedb x3.toNatClampNeg x1)))
set_option maxHeartbeats 4000000 in
set_option maxRecDepth 100000 in
theorem tb_J7_fill_savedb_6 {p : Program} {l : Launch} {e : Env} {s : State} {m : MethodId} {args : Array Value} {below : List Frame} {meth : Method} {c : Code} {Q : State → Prop} {D : va_G} {kA : Nat → ClassId} {ad : Nat → Nat} {A : Nat → Prop} {lq_situation : Int32} {adv_rooms : Int32} {adv_levels : Int32} {adv_goalRoom : Int32} {adv_allDoors : Int32} {dr_state : Int64} {dr_count : Int32} {se_count : Int32} {parent : Nat → Int32} {level : Nat → Int32} {kind : Nat → Int32} {snum : Nat → Int32} {xx : Nat → Int32} {yy : Nat → Int32} {lying : Nat → Int32} {switched : Nat → Int32} {doors : Nat → Int32} {beyond : Nat → Nat → Int32} {offered : Nat → Int32} {opn : Nat → Int32} {seenb : Nat → Int64} {savedb : Nat → Int64} {found : Nat → Int32} {distance : Nat → Int32} {opening : Nat → Int32} {x1 : Int64} {x3 : Int32} {x4 : Int32} {k6 : Int64 → Int32 → Int32 → (Nat → Int64) → Option ((Nat → Int64))} {res : (Nat → Int64)} (C : Cx p s m c args cJ7_fill_d0a16 5 RJ7 wsJ7_fill_d0a16 D kA A) (hk6 : ∀ (x1 : Int64) (x3 : Int32) (x4 : Int32) (savedb : Nat → Int64) (H : Heap) (locs : List Loc) (ls : Array Slot), Wd D A s H locs (wC kA ad lq_situation adv_rooms adv_levels adv_goalRoom adv_allDoors dr_state dr_count se_count parent level kind snum xx yy lying switched doors beyond offered opn seenb savedb found distance opening) → lv_has ls 5 [(0, .ref (ad 32)), (1, .long x1), (3, .int x3), (4, .int x4)] → k6 x1 x3 x4 savedb = some res → W p l e rm_J7_fill_d0a16 s m args below meth c H locs 0 0 Q (F0 m 6 ls [])) (hret : ∀ (q0 : Nat → Int64) (H : Heap) (locs : List Loc) (ls : Array Slot) (pc : Nat), decode cJ7_fill_d0a16 pc = .ok (.return_, 1) → Wd D A s H locs (wC kA ad lq_situation adv_rooms adv_levels adv_goalRoom adv_allDoors dr_state dr_count se_count parent level kind snum xx yy lying switched doors beyond offered opn seenb q0 found distance opening) → q0 = res → W p l e rm_J7_fill_d0a16 s m args below meth c H locs 0 0 Q (F0 m pc ls [])) {H : Heap} {locs : List Loc} {ls : Array Slot} (w : Wd D A s H locs (wC kA ad lq_situation adv_rooms adv_levels adv_goalRoom adv_allDoors dr_state dr_count se_count parent level kind snum xx yy lying switched doors beyond offered opn seenb savedb found distance opening)) (hl : lv_has ls 5 [(0, .ref (ad 32)), (1, .long x1), (3, .int x3), (4, .int x4)]) (h : fb_J7_fill_savedb_6  k6 x1 x3 x4 savedb = some res) : W p l e rm_J7_fill_d0a16 s m args below meth c H locs 0 0 Q (F0 m 6 ls []) := by
  obtain ⟨⟨hx, hb, hml, hown, hts⟩, hK, -, -⟩ := id C
  unfold fb_J7_fill_savedb_6 at h
  refine lv_iload_n hx hb dJ7_fill_d0a16_6 rfl (lv_at hl 2 rfl) ?_
  refine lv_iload hx hb dJ7_fill_d0a16_7 (lv_at hl 3 rfl) ?_
  refine lv_icmp_ge (tgt := 22) hx hb dJ7_fill_d0a16_9 (by decide) (fun g1 => ?_) (fun g1 => ?_)
  · replace h := it_pos g1 h
    exact hret _ _ _ _ _ dJ7_fill_d0a16_22 w (Option.some.inj h)
  · replace h := it_neg g1 h
    refine lv_aload_n hx hb dJ7_fill_d0a16_12 rfl (lv_at hl 0 rfl) ?_
    refine lv_iload_n hx hb dJ7_fill_d0a16_13 rfl (lv_at hl 2 rfl) ?_
    refine lv_lload_n hx hb dJ7_fill_d0a16_14 rfl (lv_at hl 1 rfl) ?_
    obtain ⟨g2, h⟩ := gd_some h
    refine va_last hx hb hK w.1 w.2.1 w.2.2 32 1 rfl rfl g2 dJ7_fill_d0a16_15 (fun H locs hP hD hS => ?_)
    have w : Wd D A s H locs (wC kA ad lq_situation adv_rooms adv_levels adv_goalRoom adv_allDoors dr_state dr_count se_count parent level kind snum xx yy lying switched doors beyond offered opn seenb (vp_updL savedb x3.toNatClampNeg x1) found distance opening) := ⟨hP, hD, hS⟩
    refine lv_iinc (v := (x3 + (1 : Int32))) (lv' := [(3, .int (x3 + (1 : Int32))), (0, .ref (ad 32)), (1, .long x1), (4, .int x4)]) hx hb dJ7_fill_d0a16_16 hl (k := 2) rfl rfl (by decide) rfl (fun ls hl => ?_)
    refine lv_goto (tgt := 6) hx hb dJ7_fill_d0a16_19 (by decide) ?_
    exact hk6 _ _ _ _ H locs ls w (lv_sub hl [1, 2, 0, 3] rfl) h
def f_J7_fill_savedb_6  (x1 : Int64) (x3 : Int32) (x4 : Int32) (savedb : Nat → Int64) : Option ((Nat → Int64)) := lp (σ := Int64 × Int32 × Int32 × (Nat → Int64)) (fun k st => fb_J7_fill_savedb_6  (fun x1 x3 x4 savedb => k (x1, x3, x4, savedb)) st.1 st.2.1 st.2.2.1 st.2.2.2) fuel (x1, x3, x4, savedb)
set_option maxHeartbeats 4000000 in
set_option maxRecDepth 100000 in
theorem t_J7_fill_savedb_6 {p : Program} {l : Launch} {e : Env} {s : State} {m : MethodId} {args : Array Value} {below : List Frame} {meth : Method} {c : Code} {Q : State → Prop} {D : va_G} {kA : Nat → ClassId} {ad : Nat → Nat} {A : Nat → Prop} {lq_situation : Int32} {adv_rooms : Int32} {adv_levels : Int32} {adv_goalRoom : Int32} {adv_allDoors : Int32} {dr_state : Int64} {dr_count : Int32} {se_count : Int32} {parent : Nat → Int32} {level : Nat → Int32} {kind : Nat → Int32} {snum : Nat → Int32} {xx : Nat → Int32} {yy : Nat → Int32} {lying : Nat → Int32} {switched : Nat → Int32} {doors : Nat → Int32} {beyond : Nat → Nat → Int32} {offered : Nat → Int32} {opn : Nat → Int32} {seenb : Nat → Int64} {savedb : Nat → Int64} {found : Nat → Int32} {distance : Nat → Int32} {opening : Nat → Int32} {x1 : Int64} {x3 : Int32} {x4 : Int32} {res : (Nat → Int64)} (C : Cx p s m c args cJ7_fill_d0a16 5 RJ7 wsJ7_fill_d0a16 D kA A) (hret : ∀ (q0 : Nat → Int64) (H : Heap) (locs : List Loc) (ls : Array Slot) (pc : Nat), decode cJ7_fill_d0a16 pc = .ok (.return_, 1) → Wd D A s H locs (wC kA ad lq_situation adv_rooms adv_levels adv_goalRoom adv_allDoors dr_state dr_count se_count parent level kind snum xx yy lying switched doors beyond offered opn seenb q0 found distance opening) → q0 = res → W p l e rm_J7_fill_d0a16 s m args below meth c H locs 0 0 Q (F0 m pc ls [])) {H : Heap} {locs : List Loc} {ls : Array Slot} (w : Wd D A s H locs (wC kA ad lq_situation adv_rooms adv_levels adv_goalRoom adv_allDoors dr_state dr_count se_count parent level kind snum xx yy lying switched doors beyond offered opn seenb savedb found distance opening)) (hl : lv_has ls 5 [(0, .ref (ad 32)), (1, .long x1), (3, .int x3), (4, .int x4)]) (h : f_J7_fill_savedb_6  x1 x3 x4 savedb = some res) : W p l e rm_J7_fill_d0a16 s m args below meth c H locs 0 0 Q (F0 m 6 ls []) := by
  unfold f_J7_fill_savedb_6 at h
  exact lp_ind (P := (fun (st : Int64 × Int32 × Int32 × (Nat → Int64)) => ∀ (H : Heap) (locs : List Loc) (ls : Array Slot), Wd D A s H locs (wC kA ad lq_situation adv_rooms adv_levels adv_goalRoom adv_allDoors dr_state dr_count se_count parent level kind snum xx yy lying switched doors beyond offered opn seenb st.2.2.2 found distance opening) → lv_has ls 5 [(0, .ref (ad 32)), (1, .long st.1), (3, .int st.2.1), (4, .int st.2.2.1)] → W p l e rm_J7_fill_d0a16 s m args below meth c H locs 0 0 Q (F0 m 6 ls []))) (fun k hk st h H locs ls w hl => tb_J7_fill_savedb_6 C  (fun a0 a1 a2 a3 H locs ls w hl h => hk (a0, a1, a2, a3) h H locs ls w hl) hret w hl h) fuel (x1, x3, x4, savedb) h H locs ls w hl
def f_J7_fill_savedb (p1 : Int64) (savedb : Nat → Int64) : Option ((Nat → Int64)) := f_J7_fill_savedb_6 p1 (0 : Int32) (192 : Int32) savedb
set_option maxHeartbeats 4000000 in
set_option maxRecDepth 100000 in
theorem t_J7_fill_savedb {p : Program} {l : Launch} {e : Env} {s : State} {m : MethodId} {args : Array Value} {below : List Frame} {meth : Method} {c : Code} {Q : State → Prop} {D : va_G} {kA : Nat → ClassId} {ad : Nat → Nat} {A : Nat → Prop} {lq_situation : Int32} {adv_rooms : Int32} {adv_levels : Int32} {adv_goalRoom : Int32} {adv_allDoors : Int32} {dr_state : Int64} {dr_count : Int32} {se_count : Int32} {parent : Nat → Int32} {level : Nat → Int32} {kind : Nat → Int32} {snum : Nat → Int32} {xx : Nat → Int32} {yy : Nat → Int32} {lying : Nat → Int32} {switched : Nat → Int32} {doors : Nat → Int32} {beyond : Nat → Nat → Int32} {offered : Nat → Int32} {opn : Nat → Int32} {seenb : Nat → Int64} {savedb : Nat → Int64} {found : Nat → Int32} {distance : Nat → Int32} {opening : Nat → Int32} {p1 : Int64} {res : (Nat → Int64)} (C : Cx p s m c args cJ7_fill_d0a16 5 RJ7 wsJ7_fill_d0a16 D kA A) (hret : ∀ (q0 : Nat → Int64) (H : Heap) (locs : List Loc) (ls : Array Slot) (pc : Nat), decode cJ7_fill_d0a16 pc = .ok (.return_, 1) → Wd D A s H locs (wC kA ad lq_situation adv_rooms adv_levels adv_goalRoom adv_allDoors dr_state dr_count se_count parent level kind snum xx yy lying switched doors beyond offered opn seenb q0 found distance opening) → q0 = res → W p l e rm_J7_fill_d0a16 s m args below meth c H locs 0 0 Q (F0 m pc ls [])) {H : Heap} {locs : List Loc} {ls : Array Slot} (w : Wd D A s H locs (wC kA ad lq_situation adv_rooms adv_levels adv_goalRoom adv_allDoors dr_state dr_count se_count parent level kind snum xx yy lying switched doors beyond offered opn seenb savedb found distance opening)) (hl : lv_has ls 5 [(0, .ref (ad 32)), (1, .long p1)]) (h : f_J7_fill_savedb p1 savedb = some res) : W p l e rm_J7_fill_d0a16 s m args below meth c H locs 0 0 Q (F0 m 0 ls []) := by
  obtain ⟨⟨hx, hb, hml, hown, hts⟩, hK, -, -⟩ := id C
  unfold f_J7_fill_savedb at h
  refine lv_iconst (v := 0) hx hb dJ7_fill_d0a16_0 (by decide) ?_
  refine lv_istore_n (lv' := [(3, .int (0 : Int32)), (0, .ref (ad 32)), (1, .long p1)]) hx hb dJ7_fill_d0a16_1 rfl hl (by decide) rfl (fun ls hl => ?_)
  refine lv_aload_n hx hb dJ7_fill_d0a16_2 rfl (lv_at hl 1 rfl) ?_
  refine va_alen (v := 192) hx hb hK w.1 32 1 rfl rfl rfl dJ7_fill_d0a16_3 ?_
  refine lv_istore (lv' := [(4, .int (192 : Int32)), (3, .int (0 : Int32)), (0, .ref (ad 32)), (1, .long p1)]) hx hb dJ7_fill_d0a16_4 hl (by decide) rfl (fun ls hl => ?_)
  exact t_J7_fill_savedb_6 C  hret w (lv_sub hl [2, 3, 1, 0] rfl) h
set_option maxHeartbeats 4000000 in
set_option maxRecDepth 100000 in
theorem c_J7_fill_savedb (l : Launch) (D : va_G) (kA : Nat → ClassId) (ad : Nat → Nat) (sz : Nat) (lq_situation : Int32) (adv_rooms : Int32) (adv_levels : Int32) (adv_goalRoom : Int32) (adv_allDoors : Int32) (dr_state : Int64) (dr_count : Int32) (se_count : Int32) (parent : Nat → Int32) (level : Nat → Int32) (kind : Nat → Int32) (snum : Nat → Int32) (xx : Nat → Int32) (yy : Nat → Int32) (lying : Nat → Int32) (switched : Nat → Int32) (doors : Nat → Int32) (beyond : Nat → Nat → Int32) (offered : Nat → Int32) (opn : Nat → Int32) (seenb : Nat → Int64) (savedb : Nat → Int64) (found : Nat → Int32) (distance : Nat → Int32) (opening : Nat → Int32) (p1 : Int64) {res : (Nat → Int64)} (h : f_J7_fill_savedb p1 savedb = some res) : Cv l yJ7_fill_d0a16 wsJ7_fill_d0a16 rm_J7_fill_d0a16 D kA [.ref (ad 32), .long p1] sz (wC kA ad lq_situation adv_rooms adv_levels adv_goalRoom adv_allDoors dr_state dr_count se_count parent level kind snum xx yy lying switched doors beyond offered opn seenb savedb found distance opening) (wC kA ad lq_situation adv_rooms adv_levels adv_goalRoom adv_allDoors dr_state dr_count se_count parent level kind snum xx yy lying switched doors beyond offered opn seenb res found distance opening) := by
  refine Met.ofW (cc := cJ7_fill_d0a16) (maxL := 5) (ret := none) (by decide) rfl ?_
  intro p e s m args below meth c s₁ B hml hv
  obtain ⟨rfl, hsz, hP, hK, hD0, hX⟩ := hv
  subst hsz
  have hts := atoms_spec (ws := wsJ7_fill_d0a16) B.pre
  have hl := lv_entry ([.ref (ad 32), .long p1]) (n := 5) (Nat.le_of_ble_eq_true rfl)
  rw [lg_entry_eq]
  have hlocks := B.notSynchronized
  refine t_J7_fill_savedb (A := va_A (wC kA ad lq_situation adv_rooms adv_levels adv_goalRoom adv_allDoors dr_state dr_count se_count parent level kind snum xx yy lying switched doors beyond offered opn seenb savedb found distance opening) s.heap.size) ⟨⟨B.exec, B.bytes, hml, findClass_of_methodNamed B.named, hts⟩, hK, fun q h => Or.inr h, hX⟩ (fun q0 H locs ls pc hd w hres => ?_) ⟨hP, hD0.self, va_S.rf⟩ hl h
  subst hres
  exact W.vret B.exec B.bytes B.returns (fun t ht hW => ⟨⟨(), rfl, trivial, by rw [ht]; exact w.1, va_K.moved hW.alike hK, w.2.1⟩, w.2.2.F ht⟩) w.2.2.2.2 hd hlocks
-- ('wC', 'LockQuest$Marks', 'clear', '()V', ('saved',))
def f_X3_clear_saved  (savedb : Nat → Int64) : Option ((Nat → Int64)) := (f_J7_fill_savedb (0 : Int64) savedb).bind (fun u1 => some u1)
set_option maxHeartbeats 4000000 in
set_option maxRecDepth 100000 in
theorem t_X3_clear_saved {p : Program} {l : Launch} {e : Env} {s : State} {m : MethodId} {args : Array Value} {below : List Frame} {meth : Method} {c : Code} {Q : State → Prop} {D : va_G} {kA : Nat → ClassId} {ad : Nat → Nat} {A : Nat → Prop} {lq_situation : Int32} {adv_rooms : Int32} {adv_levels : Int32} {adv_goalRoom : Int32} {adv_allDoors : Int32} {dr_state : Int64} {dr_count : Int32} {se_count : Int32} {parent : Nat → Int32} {level : Nat → Int32} {kind : Nat → Int32} {snum : Nat → Int32} {xx : Nat → Int32} {yy : Nat → Int32} {lying : Nat → Int32} {switched : Nat → Int32} {doors : Nat → Int32} {beyond : Nat → Nat → Int32} {offered : Nat → Int32} {opn : Nat → Int32} {seenb : Nat → Int64} {savedb : Nat → Int64} {found : Nat → Int32} {distance : Nat → Int32} {opening : Nat → Int32}  {res : (Nat → Int64)} (C : Cx p s m c args cX3_clear 1 RX3 wsX3_clear D kA A) (hret : ∀ (q0 : Nat → Int64) (H : Heap) (locs : List Loc) (ls : Array Slot) (pc : Nat), decode cX3_clear pc = .ok (.return_, 1) → Wd D A s H locs (wC kA ad lq_situation adv_rooms adv_levels adv_goalRoom adv_allDoors dr_state dr_count se_count parent level kind snum xx yy lying switched doors beyond offered opn seenb q0 found distance opening) → q0 = res → W p l e rm_X3_clear s m args below meth c H locs 0 0 Q (F0 m pc ls [])) {H : Heap} {locs : List Loc} {ls : Array Slot} (w : Wd D A s H locs (wC kA ad lq_situation adv_rooms adv_levels adv_goalRoom adv_allDoors dr_state dr_count se_count parent level kind snum xx yy lying switched doors beyond offered opn seenb savedb found distance opening)) (hl : lv_has ls 1 [(0, .ref (ad 6))]) (h : f_X3_clear_saved  savedb = some res) : W p l e rm_X3_clear s m args below meth c H locs 0 0 Q (F0 m 0 ls []) := by
  obtain ⟨⟨hx, hb, hml, hown, hts⟩, hK, -, -⟩ := id C
  unfold f_X3_clear_saved at h
  refine lv_aload_n hx hb dX3_clear_0 rfl (lv_at hl 0 rfl) ?_
  refine va_get (D := D) (ci := 3) (v := .ref (ad 32)) (C := RX3) (T := TX3) (N := 1) hx hb hts lX3_clear_X3 hown hK w.1 6 rfl rfl 0 (by decide) (hts _ mX3_clear_1) (fun _ h9 => h9) rfl dX3_clear_1 ?_
  refine lv_lconst (v := 0) hx hb dX3_clear_4 (by decide) ?_
  obtain ⟨u1, hc1, h⟩ := bd_some h
  refine gl_callv C w (va_runS (As := [.ref (ad 32), .long (0 : Int64)]) (rest := []) ⟨hx, hb, hml, hown, hts⟩ (c_J7_fill_savedb l D kA ad H.size lq_situation adv_rooms adv_levels adv_goalRoom adv_allDoors dr_state dr_count se_count parent level kind snum xx yy lying switched doors beyond offered opn seenb savedb found distance opening (0 : Int64) hc1) (va_cwS 2 hts gX3_clear_J7_fill_d0a16 rfl rfl rfl (by decide +kernel) ⟨Nat.le_of_ble_eq_true rfl, Nat.le_of_ble_eq_true rfl⟩) (Wd.preS C w) rfl rfl hl.1 rfl (lv_room (Nat.le_of_ble_eq_true rfl)) dX3_clear_5 ⟨Nat.zero_le _, Nat.zero_le _⟩) (fun H locs w => ?_)
  exact hret _ _ _ _ _ dX3_clear_8 w (Option.some.inj h)
set_option maxHeartbeats 4000000 in
set_option maxRecDepth 100000 in
theorem c_X3_clear_saved (l : Launch) (D : va_G) (kA : Nat → ClassId) (ad : Nat → Nat) (sz : Nat) (lq_situation : Int32) (adv_rooms : Int32) (adv_levels : Int32) (adv_goalRoom : Int32) (adv_allDoors : Int32) (dr_state : Int64) (dr_count : Int32) (se_count : Int32) (parent : Nat → Int32) (level : Nat → Int32) (kind : Nat → Int32) (snum : Nat → Int32) (xx : Nat → Int32) (yy : Nat → Int32) (lying : Nat → Int32) (switched : Nat → Int32) (doors : Nat → Int32) (beyond : Nat → Nat → Int32) (offered : Nat → Int32) (opn : Nat → Int32) (seenb : Nat → Int64) (savedb : Nat → Int64) (found : Nat → Int32) (distance : Nat → Int32) (opening : Nat → Int32)  {res : (Nat → Int64)} (h : f_X3_clear_saved  savedb = some res) : Cv l yX3_clear wsX3_clear rm_X3_clear D kA [.ref (ad 6)] sz (wC kA ad lq_situation adv_rooms adv_levels adv_goalRoom adv_allDoors dr_state dr_count se_count parent level kind snum xx yy lying switched doors beyond offered opn seenb savedb found distance opening) (wC kA ad lq_situation adv_rooms adv_levels adv_goalRoom adv_allDoors dr_state dr_count se_count parent level kind snum xx yy lying switched doors beyond offered opn seenb res found distance opening) := by
  refine Met.ofW (cc := cX3_clear) (maxL := 1) (ret := none) (by decide) rfl ?_
  intro p e s m args below meth c s₁ B hml hv
  obtain ⟨rfl, hsz, hP, hK, hD0, hX⟩ := hv
  subst hsz
  have hts := atoms_spec (ws := wsX3_clear) B.pre
  have hl := lv_entry ([.ref (ad 6)]) (n := 1) (Nat.le_of_ble_eq_true rfl)
  rw [lg_entry_eq]
  have hlocks := B.notSynchronized
  refine t_X3_clear_saved (A := va_A (wC kA ad lq_situation adv_rooms adv_levels adv_goalRoom adv_allDoors dr_state dr_count se_count parent level kind snum xx yy lying switched doors beyond offered opn seenb savedb found distance opening) s.heap.size) ⟨⟨B.exec, B.bytes, hml, findClass_of_methodNamed B.named, hts⟩, hK, fun q h => Or.inr h, hX⟩ (fun q0 H locs ls pc hd w hres => ?_) ⟨hP, hD0.self, va_S.rf⟩ hl h
  subst hres
  exact W.vret B.exec B.bytes B.returns (fun t ht hW => ⟨⟨(), rfl, trivial, by rw [ht]; exact w.1, va_K.moved hW.alike hK, w.2.1⟩, w.2.2.F ht⟩) w.2.2.2.2 hd hlocks
-- ('wC', 'LockQuest$Marks', 'has', '(I)Z', ('saved', None))
def f_X3_has_saved (p0 : Int32) (savedb : Nat → Int64) : Option (Int32) := gd ((p0 >>> ((6 : Int32) &&& 31)) < 0 ∨ 192 ≤ (p0 >>> ((6 : Int32) &&& 31)).toNatClampNeg) (if (lg_cmp ((savedb (p0 >>> ((6 : Int32) &&& 31)).toNatClampNeg) &&& ((1 : Int64) <<< ((p0 &&& (63 : Int32)).toInt64 &&& 63))) (0 : Int64)) = 0 then (some (0 : Int32)) else (some (1 : Int32)))
set_option maxHeartbeats 4000000 in
set_option maxRecDepth 100000 in
theorem t_X3_has_saved {p : Program} {l : Launch} {e : Env} {s : State} {m : MethodId} {args : Array Value} {below : List Frame} {meth : Method} {c : Code} {Q : State → Prop} {D : va_G} {kA : Nat → ClassId} {ad : Nat → Nat} {A : Nat → Prop} {lq_situation : Int32} {adv_rooms : Int32} {adv_levels : Int32} {adv_goalRoom : Int32} {adv_allDoors : Int32} {dr_state : Int64} {dr_count : Int32} {se_count : Int32} {parent : Nat → Int32} {level : Nat → Int32} {kind : Nat → Int32} {snum : Nat → Int32} {xx : Nat → Int32} {yy : Nat → Int32} {lying : Nat → Int32} {switched : Nat → Int32} {doors : Nat → Int32} {beyond : Nat → Nat → Int32} {offered : Nat → Int32} {opn : Nat → Int32} {seenb : Nat → Int64} {savedb : Nat → Int64} {found : Nat → Int32} {distance : Nat → Int32} {opening : Nat → Int32} {p0 : Int32} {res : Int32} (C : Cx p s m c args cX3_has 2 RX3 wsX3_has D kA A) (hret : ∀ (r : Int32) (H : Heap) (locs : List Loc) (ls : Array Slot) (pc : Nat), decode cX3_has pc = .ok (.ireturn, 1) → narrow .boolean (.int r) = .int r → Wd D A s H locs (wC kA ad lq_situation adv_rooms adv_levels adv_goalRoom adv_allDoors dr_state dr_count se_count parent level kind snum xx yy lying switched doors beyond offered opn seenb savedb found distance opening) → r = res → W p l e rm_X3_has s m args below meth c H locs 0 0 Q (F0 m pc ls [.int r])) {H : Heap} {locs : List Loc} {ls : Array Slot} (w : Wd D A s H locs (wC kA ad lq_situation adv_rooms adv_levels adv_goalRoom adv_allDoors dr_state dr_count se_count parent level kind snum xx yy lying switched doors beyond offered opn seenb savedb found distance opening)) (hl : lv_has ls 2 [(0, .ref (ad 6)), (1, .int p0)]) (h : f_X3_has_saved p0 savedb = some res) : W p l e rm_X3_has s m args below meth c H locs 0 0 Q (F0 m 0 ls []) := by
  obtain ⟨⟨hx, hb, hml, hown, hts⟩, hK, -, -⟩ := id C
  unfold f_X3_has_saved at h
  refine lv_aload_n hx hb dX3_has_0 rfl (lv_at hl 0 rfl) ?_
  refine va_get (D := D) (ci := 3) (v := .ref (ad 32)) (C := RX3) (T := TX3) (N := 1) hx hb hts lX3_has_X3 hown hK w.1 6 rfl rfl 0 (by decide) (hts _ mX3_has_1) (fun _ h9 => h9) rfl dX3_has_1 ?_
  refine lv_iload_n hx hb dX3_has_4 rfl (lv_at hl 1 rfl) ?_
  refine lv_bipush (v := 6) hx hb dX3_has_5 (by decide) ?_
  refine lv_ishr hx hb dX3_has_7 ?_
  obtain ⟨g1, h⟩ := gd_some h
  refine va_lald hx hb hK w.1 32 1 rfl rfl g1 dX3_has_8 ?_
  refine lv_lconst (v := 1) hx hb dX3_has_9 (by decide) ?_
  refine lv_iload_n hx hb dX3_has_10 rfl (lv_at hl 1 rfl) ?_
  refine lv_bipush (v := 63) hx hb dX3_has_11 (by decide) ?_
  refine lv_iand hx hb dX3_has_13 ?_
  refine lv_lshl hx hb dX3_has_14 rfl ?_
  refine lv_land hx hb dX3_has_15 ?_
  refine lv_lconst (v := 0) hx hb dX3_has_16 (by decide) ?_
  refine W.lcmp hx hb dX3_has_17 ?_
  refine lv_if_eq (tgt := 25) hx hb dX3_has_18 (by decide) (fun g2 => ?_) (fun g2 => ?_)
  · replace h := it_pos g2 h
    refine lv_iconst (v := 0) hx hb dX3_has_25 (by decide) ?_
    exact hret _ _ _ _ _ dX3_has_26 rfl w (Option.some.inj h)
  · replace h := it_neg g2 h
    refine lv_iconst (v := 1) hx hb dX3_has_21 (by decide) ?_
    refine lv_goto (tgt := 26) hx hb dX3_has_22 (by decide) ?_
    exact hret _ _ _ _ _ dX3_has_26 rfl w (Option.some.inj h)
set_option maxHeartbeats 4000000 in
set_option maxRecDepth 100000 in
theorem c_X3_has_saved (l : Launch) (D : va_G) (kA : Nat → ClassId) (ad : Nat → Nat) (sz : Nat) (lq_situation : Int32) (adv_rooms : Int32) (adv_levels : Int32) (adv_goalRoom : Int32) (adv_allDoors : Int32) (dr_state : Int64) (dr_count : Int32) (se_count : Int32) (parent : Nat → Int32) (level : Nat → Int32) (kind : Nat → Int32) (snum : Nat → Int32) (xx : Nat → Int32) (yy : Nat → Int32) (lying : Nat → Int32) (switched : Nat → Int32) (doors : Nat → Int32) (beyond : Nat → Nat → Int32) (offered : Nat → Int32) (opn : Nat → Int32) (seenb : Nat → Int64) (savedb : Nat → Int64) (found : Nat → Int32) (distance : Nat → Int32) (opening : Nat → Int32) (p0 : Int32) {res : Int32} (h : f_X3_has_saved p0 savedb = some res) : Ci l yX3_has wsX3_has rm_X3_has D kA [.ref (ad 6), .int p0] sz (wC kA ad lq_situation adv_rooms adv_levels adv_goalRoom adv_allDoors dr_state dr_count se_count parent level kind snum xx yy lying switched doors beyond offered opn seenb savedb found distance opening) (wC kA ad lq_situation adv_rooms adv_levels adv_goalRoom adv_allDoors dr_state dr_count se_count parent level kind snum xx yy lying switched doors beyond offered opn seenb savedb found distance opening) res := by
  refine Met.ofW (cc := cX3_has) (maxL := 2) (ret := (some .boolean)) (by decide) rfl ?_
  intro p e s m args below meth c s₁ B hml hv
  obtain ⟨rfl, hsz, hP, hK, hD0, hX⟩ := hv
  subst hsz
  have hts := atoms_spec (ws := wsX3_has) B.pre
  have hl := lv_entry ([.ref (ad 6), .int p0]) (n := 2) (Nat.le_of_ble_eq_true rfl)
  rw [lg_entry_eq]
  have hlocks := B.notSynchronized
  refine t_X3_has_saved (A := va_A (wC kA ad lq_situation adv_rooms adv_levels adv_goalRoom adv_allDoors dr_state dr_count se_count parent level kind snum xx yy lying switched doors beyond offered opn seenb savedb found distance opening) s.heap.size) ⟨⟨B.exec, B.bytes, hml, findClass_of_methodNamed B.named, hts⟩, hK, fun q h => Or.inr h, hX⟩ (fun r H locs ls pc hd hz w hres => ?_) ⟨hP, hD0.self, va_S.rf⟩ hl h
  subst hres
  exact W.zret B.exec B.bytes B.returns hz (fun t ht hW => ⟨⟨_, (), rfl, rfl, by rw [ht]; exact w.1, va_K.moved hW.alike hK, w.2.1⟩, w.2.2.F ht⟩) w.2.2.2.2 hd hlocks
-- ('wC', 'LockQuest$Search', 'isSaved', '(I)Z', ('se', None))
abbrev rm_X4_isSaved : Room := { frames := 1, cells := 0, slots := 0, locals := 21 }
set_option maxRecDepth 20000 in
theorem lX4_isSaved_X4 : ∀ w ∈ wsX40, w ∈ wsX4_isSaved := by decide +kernel
set_option maxRecDepth 20000 in
theorem mX4_isSaved_1 : Cond.fieldLink RX4 18 "LockQuest$Search" "saved" "LLockQuest$Marks;" ∈ wsX4_isSaved := by decide +kernel
def f_X4_isSaved (p0 : Int32) (savedb : Nat → Int64) : Option (Int32) := if p0 < 0 then (some (0 : Int32)) else ((f_X3_has_saved p0 savedb).bind (fun u2 => if u2 = 0 then (some (0 : Int32)) else (some (1 : Int32))))
set_option maxHeartbeats 4000000 in
set_option maxRecDepth 100000 in
theorem t_X4_isSaved {p : Program} {l : Launch} {e : Env} {s : State} {m : MethodId} {args : Array Value} {below : List Frame} {meth : Method} {c : Code} {Q : State → Prop} {D : va_G} {kA : Nat → ClassId} {ad : Nat → Nat} {A : Nat → Prop} {lq_situation : Int32} {adv_rooms : Int32} {adv_levels : Int32} {adv_goalRoom : Int32} {adv_allDoors : Int32} {dr_state : Int64} {dr_count : Int32} {se_count : Int32} {parent : Nat → Int32} {level : Nat → Int32} {kind : Nat → Int32} {snum : Nat → Int32} {xx : Nat → Int32} {yy : Nat → Int32} {lying : Nat → Int32} {switched : Nat → Int32} {doors : Nat → Int32} {beyond : Nat → Nat → Int32} {offered : Nat → Int32} {opn : Nat → Int32} {seenb : Nat → Int64} {savedb : Nat → Int64} {found : Nat → Int32} {distance : Nat → Int32} {opening : Nat → Int32} {p0 : Int32} {res : Int32} (C : Cx p s m c args cX4_isSaved 2 RX4 wsX4_isSaved D kA A) (hret : ∀ (r : Int32) (H : Heap) (locs : List Loc) (ls : Array Slot) (pc : Nat), decode cX4_isSaved pc = .ok (.ireturn, 1) → narrow .boolean (.int r) = .int r → Wd D A s H locs (wC kA ad lq_situation adv_rooms adv_levels adv_goalRoom adv_allDoors dr_state dr_count se_count parent level kind snum xx yy lying switched doors beyond offered opn seenb savedb found distance opening) → r = res → W p l e rm_X4_isSaved s m args below meth c H locs 0 0 Q (F0 m pc ls [.int r])) {H : Heap} {locs : List Loc} {ls : Array Slot} (w : Wd D A s H locs (wC kA ad lq_situation adv_rooms adv_levels adv_goalRoom adv_allDoors dr_state dr_count se_count parent level kind snum xx yy lying switched doors beyond offered opn seenb savedb found distance opening)) (hl : lv_has ls 2 [(0, .ref (ad 4)), (1, .int p0)]) (h : f_X4_isSaved p0 savedb = some res) : W p l e rm_X4_isSaved s m args below meth c H locs 0 0 Q (F0 m 0 ls []) := by
  obtain ⟨⟨hx, hb, hml, hown, hts⟩, hK, -, -⟩ := id C
  unfold f_X4_isSaved at h
  refine lv_iload_n hx hb dX4_isSaved_0 rfl (lv_at hl 1 rfl) ?_
  refine lv_if_lt (tgt := 19) hx hb dX4_isSaved_1 (by decide) (fun g1 => ?_) (fun g1 => ?_)
  · replace h := it_pos g1 h
    refine lv_iconst (v := 0) hx hb dX4_isSaved_19 (by decide) ?_
    exact hret _ _ _ _ _ dX4_isSaved_20 rfl w (Option.some.inj h)
  · replace h := it_neg g1 h
    refine lv_aload_n hx hb dX4_isSaved_4 rfl (lv_at hl 0 rfl) ?_
    refine va_get (D := D) (ci := 4) (v := .ref (ad 6)) (C := RX4) (T := TX4) (N := 7) hx hb hts lX4_isSaved_X4 hown hK w.1 4 rfl rfl 2 (by decide) (hts _ mX4_isSaved_1) (fun _ h9 => h9) rfl dX4_isSaved_5 ?_
    refine lv_iload_n hx hb dX4_isSaved_8 rfl (lv_at hl 1 rfl) ?_
    obtain ⟨u2, hc2, h⟩ := bd_some h
    refine gl_calli C w (va_runV (As := [.int p0]) (rest := []) ⟨hx, hb, hml, hown, hts⟩ (c_X3_has_saved l D kA ad H.size lq_situation adv_rooms adv_levels adv_goalRoom adv_allDoors dr_state dr_count se_count parent level kind snum xx yy lying switched doors beyond offered opn seenb savedb found distance opening p0 hc2) (cwV 1 hts gX4_isSaved_X3_has rfl rfl rfl (by decide +kernel) ⟨Nat.le_of_ble_eq_true rfl, Nat.le_of_ble_eq_true rfl⟩) (Wd.preV C w (q0 := 6) (ci := 3) rfl rfl rfl) rfl rfl hl.1 rfl (lv_room (Nat.le_of_ble_eq_true rfl)) dX4_isSaved_9 ⟨Nat.zero_le _, Nat.zero_le _⟩) (fun H locs w => ?_)
    refine lv_if_eq (tgt := 19) hx hb dX4_isSaved_12 (by decide) (fun g3 => ?_) (fun g3 => ?_)
    · replace h := it_pos g3 h
      refine lv_iconst (v := 0) hx hb dX4_isSaved_19 (by decide) ?_
      exact hret _ _ _ _ _ dX4_isSaved_20 rfl w (Option.some.inj h)
    · replace h := it_neg g3 h
      refine lv_iconst (v := 1) hx hb dX4_isSaved_15 (by decide) ?_
      refine lv_goto (tgt := 20) hx hb dX4_isSaved_16 (by decide) ?_
      exact hret _ _ _ _ _ dX4_isSaved_20 rfl w (Option.some.inj h)
set_option maxHeartbeats 4000000 in
set_option maxRecDepth 100000 in
theorem c_X4_isSaved (l : Launch) (D : va_G) (kA : Nat → ClassId) (ad : Nat → Nat) (sz : Nat) (lq_situation : Int32) (adv_rooms : Int32) (adv_levels : Int32) (adv_goalRoom : Int32) (adv_allDoors : Int32) (dr_state : Int64) (dr_count : Int32) (se_count : Int32) (parent : Nat → Int32) (level : Nat → Int32) (kind : Nat → Int32) (snum : Nat → Int32) (xx : Nat → Int32) (yy : Nat → Int32) (lying : Nat → Int32) (switched : Nat → Int32) (doors : Nat → Int32) (beyond : Nat → Nat → Int32) (offered : Nat → Int32) (opn : Nat → Int32) (seenb : Nat → Int64) (savedb : Nat → Int64) (found : Nat → Int32) (distance : Nat → Int32) (opening : Nat → Int32) (p0 : Int32) {res : Int32} (h : f_X4_isSaved p0 savedb = some res) : Ci l yX4_isSaved wsX4_isSaved rm_X4_isSaved D kA [.ref (ad 4), .int p0] sz (wC kA ad lq_situation adv_rooms adv_levels adv_goalRoom adv_allDoors dr_state dr_count se_count parent level kind snum xx yy lying switched doors beyond offered opn seenb savedb found distance opening) (wC kA ad lq_situation adv_rooms adv_levels adv_goalRoom adv_allDoors dr_state dr_count se_count parent level kind snum xx yy lying switched doors beyond offered opn seenb savedb found distance opening) res := by
  refine Met.ofW (cc := cX4_isSaved) (maxL := 2) (ret := (some .boolean)) (by decide) rfl ?_
  intro p e s m args below meth c s₁ B hml hv
  obtain ⟨rfl, hsz, hP, hK, hD0, hX⟩ := hv
  subst hsz
  have hts := atoms_spec (ws := wsX4_isSaved) B.pre
  have hl := lv_entry ([.ref (ad 4), .int p0]) (n := 2) (Nat.le_of_ble_eq_true rfl)
  rw [lg_entry_eq]
  have hlocks := B.notSynchronized
  refine t_X4_isSaved (A := va_A (wC kA ad lq_situation adv_rooms adv_levels adv_goalRoom adv_allDoors dr_state dr_count se_count parent level kind snum xx yy lying switched doors beyond offered opn seenb savedb found distance opening) s.heap.size) ⟨⟨B.exec, B.bytes, hml, findClass_of_methodNamed B.named, hts⟩, hK, fun q h => Or.inr h, hX⟩ (fun r H locs ls pc hd hz w hres => ?_) ⟨hP, hD0.self, va_S.rf⟩ hl h
  subst hres
  exact W.zret B.exec B.bytes B.returns hz (fun t ht hW => ⟨⟨_, (), rfl, rfl, by rw [ht]; exact w.1, va_K.moved hW.alike hK, w.2.1⟩, w.2.2.F ht⟩) w.2.2.2.2 hd hlocks
