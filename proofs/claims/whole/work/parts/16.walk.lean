-- ('wC', 'LockQuest$Adventure', 'afterTaking', '(I)I', ('adv', None))
abbrev rm_X0_afterTaking : Room := { frames := 1, cells := 0, slots := 0, locals := 20 }
set_option maxRecDepth 20000 in
theorem lX0_afterTaking_X0 : ∀ w ∈ wsX00, w ∈ wsX0_afterTaking := by decide +kernel
set_option maxRecDepth 20000 in
theorem mX0_afterTaking_1 : Cond.fieldLink RX0 30 "LockQuest$Adventure" "lying" "[I" ∈ wsX0_afterTaking := by decide +kernel
def f_X0_afterTaking (p0 : Int32) (lying : Nat → Int32) : Option (Int32) := (f_X5_roomOf p0).bind (fun u1 => gd (u1 < 0 ∨ 12 ≤ u1.toNatClampNeg) (some (p0 ||| (lying u1.toNatClampNeg))))
set_option maxHeartbeats 4000000 in
set_option maxRecDepth 100000 in
theorem t_X0_afterTaking {p : Program} {l : Launch} {e : Env} {s : State} {m : MethodId} {args : Array Value} {below : List Frame} {meth : Method} {c : Code} {Q : State → Prop} {D : va_G} {kA : Nat → ClassId} {ad : Nat → Nat} {A : Nat → Prop} {lq_situation : Int32} {adv_rooms : Int32} {adv_levels : Int32} {adv_goalRoom : Int32} {adv_allDoors : Int32} {dr_state : Int64} {dr_count : Int32} {se_count : Int32} {parent : Nat → Int32} {level : Nat → Int32} {kind : Nat → Int32} {snum : Nat → Int32} {xx : Nat → Int32} {yy : Nat → Int32} {lying : Nat → Int32} {switched : Nat → Int32} {doors : Nat → Int32} {beyond : Nat → Nat → Int32} {offered : Nat → Int32} {opn : Nat → Int32} {seenb : Nat → Int64} {savedb : Nat → Int64} {found : Nat → Int32} {distance : Nat → Int32} {opening : Nat → Int32} {p0 : Int32} {res : Int32} (C : Cx p s m c args cX0_afterTaking 2 RX0 wsX0_afterTaking D kA A) (hret : ∀ (r : Int32) (H : Heap) (locs : List Loc) (ls : Array Slot) (pc : Nat), decode cX0_afterTaking pc = .ok (.ireturn, 1) → Wd D A s H locs (wC kA ad lq_situation adv_rooms adv_levels adv_goalRoom adv_allDoors dr_state dr_count se_count parent level kind snum xx yy lying switched doors beyond offered opn seenb savedb found distance opening) → r = res → W p l e rm_X0_afterTaking s m args below meth c H locs 0 0 Q (F0 m pc ls [.int r])) {H : Heap} {locs : List Loc} {ls : Array Slot} (w : Wd D A s H locs (wC kA ad lq_situation adv_rooms adv_levels adv_goalRoom adv_allDoors dr_state dr_count se_count parent level kind snum xx yy lying switched doors beyond offered opn seenb savedb found distance opening)) (hl : lv_has ls 2 [(0, .ref (ad 1)), (1, .int p0)]) (h : f_X0_afterTaking p0 lying = some res) : W p l e rm_X0_afterTaking s m args below meth c H locs 0 0 Q (F0 m 0 ls []) := by
  obtain ⟨⟨hx, hb, hml, hown, hts⟩, hK, -, -⟩ := id C
  unfold f_X0_afterTaking at h
  refine lv_iload_n hx hb dX0_afterTaking_0 rfl (lv_at hl 1 rfl) ?_
  refine lv_aload_n hx hb dX0_afterTaking_1 rfl (lv_at hl 0 rfl) ?_
  refine va_get (D := D) (ci := 0) (v := .ref (ad 13)) (C := RX0) (T := TX0) (N := 14) hx hb hts lX0_afterTaking_X0 hown hK w.1 1 rfl rfl 10 (by decide) (hts _ mX0_afterTaking_1) (fun _ h9 => h9) rfl dX0_afterTaking_2 ?_
  refine lv_iload_n hx hb dX0_afterTaking_5 rfl (lv_at hl 1 rfl) ?_
  obtain ⟨u1, hc1, h⟩ := bd_some h
  refine gl_calli C w (va_runS (As := [.int p0]) (rest := [.ref (ad 13), .int p0]) ⟨hx, hb, hml, hown, hts⟩ (c_X5_roomOf l D kA ad H.size lq_situation adv_rooms adv_levels adv_goalRoom adv_allDoors dr_state dr_count se_count parent level kind snum xx yy lying switched doors beyond offered opn seenb savedb found distance opening p0 hc1) (va_cwS 1 hts gX0_afterTaking_X5_roomOf rfl rfl rfl (by decide +kernel) ⟨Nat.le_of_ble_eq_true rfl, Nat.le_of_ble_eq_true rfl⟩) (Wd.preS C w) rfl rfl hl.1 rfl (lv_room (Nat.le_of_ble_eq_true rfl)) dX0_afterTaking_6 ⟨Nat.zero_le _, Nat.zero_le _⟩) (fun H locs w => ?_)
  obtain ⟨g2, h⟩ := gd_some h
  refine va_iald hx hb hK w.1 13 0 rfl rfl g2 dX0_afterTaking_9 ?_
  refine lv_ior hx hb dX0_afterTaking_10 ?_
  exact hret _ _ _ _ _ dX0_afterTaking_11 w (Option.some.inj h)
set_option maxHeartbeats 4000000 in
set_option maxRecDepth 100000 in
theorem c_X0_afterTaking (l : Launch) (D : va_G) (kA : Nat → ClassId) (ad : Nat → Nat) (sz : Nat) (lq_situation : Int32) (adv_rooms : Int32) (adv_levels : Int32) (adv_goalRoom : Int32) (adv_allDoors : Int32) (dr_state : Int64) (dr_count : Int32) (se_count : Int32) (parent : Nat → Int32) (level : Nat → Int32) (kind : Nat → Int32) (snum : Nat → Int32) (xx : Nat → Int32) (yy : Nat → Int32) (lying : Nat → Int32) (switched : Nat → Int32) (doors : Nat → Int32) (beyond : Nat → Nat → Int32) (offered : Nat → Int32) (opn : Nat → Int32) (seenb : Nat → Int64) (savedb : Nat → Int64) (found : Nat → Int32) (distance : Nat → Int32) (opening : Nat → Int32) (p0 : Int32) {res : Int32} (h : f_X0_afterTaking p0 lying = some res) : Ci l yX0_afterTaking wsX0_afterTaking rm_X0_afterTaking D kA [.ref (ad 1), .int p0] sz (wC kA ad lq_situation adv_rooms adv_levels adv_goalRoom adv_allDoors dr_state dr_count se_count parent level kind snum xx yy lying switched doors beyond offered opn seenb savedb found distance opening) (wC kA ad lq_situation adv_rooms adv_levels adv_goalRoom adv_allDoors dr_state dr_count se_count parent level kind snum xx yy lying switched doors beyond offered opn seenb savedb found distance opening) res := by
  refine Met.ofW (cc := cX0_afterTaking) (maxL := 2) (ret := (some .int)) (by decide) rfl ?_
  intro p e s m args below meth c s₁ B hml hv
  obtain ⟨rfl, hsz, hP, hK, hD0, hX⟩ := hv
  subst hsz
  have hts := atoms_spec (ws := wsX0_afterTaking) B.pre
  have hl := lv_entry ([.ref (ad 1), .int p0]) (n := 2) (Nat.le_of_ble_eq_true rfl)
  rw [lg_entry_eq]
  have hlocks := B.notSynchronized
  refine t_X0_afterTaking (A := va_A (wC kA ad lq_situation adv_rooms adv_levels adv_goalRoom adv_allDoors dr_state dr_count se_count parent level kind snum xx yy lying switched doors beyond offered opn seenb savedb found distance opening) s.heap.size) ⟨⟨B.exec, B.bytes, hml, findClass_of_methodNamed B.named, hts⟩, hK, fun q h => Or.inr h, hX⟩ (fun r H locs ls pc hd w hres => ?_) ⟨hP, hD0.self, va_S.rf⟩ hl h
  subst hres
  exact W.iret B.exec B.bytes B.returns (fun t ht hW => ⟨⟨_, (), rfl, rfl, by rw [ht]; exact w.1, va_K.moved hW.alike hK, w.2.1⟩, w.2.2.F ht⟩) w.2.2.2.2 hd hlocks
-- ('wC', 'LockQuest', 'take', '()I', ('lq',))
abbrev rm_X6_take : Room := { frames := 2, cells := 0, slots := 0, locals := 41 }
set_option maxRecDepth 20000 in
theorem lX6_take_X6 : ∀ w ∈ wsX60, w ∈ wsX6_take := by decide +kernel
set_option maxRecDepth 20000 in
theorem mX6_take_1 : Cond.fieldLink RX6 10 "LockQuest" "adventure" "LLockQuest$Adventure;" ∈ wsX6_take := by decide +kernel
set_option maxRecDepth 20000 in
theorem mX6_take_2 : Cond.fieldLink RX6 38 "LockQuest" "situation" "I" ∈ wsX6_take := by decide +kernel
def f_X6_take  (lq_situation : Int32) (lying : Nat → Int32) : Option (Int32 × Int32) := (f_X0_afterTaking lq_situation lying).bind (fun u1 => (f_J6_bitCount (u1 ^^^ lq_situation)).bind (fun u2 => some (u2, u1)))
set_option maxHeartbeats 4000000 in
set_option maxRecDepth 100000 in
theorem t_X6_take {p : Program} {l : Launch} {e : Env} {s : State} {m : MethodId} {args : Array Value} {below : List Frame} {meth : Method} {c : Code} {Q : State → Prop} {D : va_G} {kA : Nat → ClassId} {ad : Nat → Nat} {A : Nat → Prop} {lq_situation : Int32} {adv_rooms : Int32} {adv_levels : Int32} {adv_goalRoom : Int32} {adv_allDoors : Int32} {dr_state : Int64} {dr_count : Int32} {se_count : Int32} {parent : Nat → Int32} {level : Nat → Int32} {kind : Nat → Int32} {snum : Nat → Int32} {xx : Nat → Int32} {yy : Nat → Int32} {lying : Nat → Int32} {switched : Nat → Int32} {doors : Nat → Int32} {beyond : Nat → Nat → Int32} {offered : Nat → Int32} {opn : Nat → Int32} {seenb : Nat → Int64} {savedb : Nat → Int64} {found : Nat → Int32} {distance : Nat → Int32} {opening : Nat → Int32}  {res : Int32 × Int32} (C : Cx p s m c args cX6_take 3 RX6 wsX6_take D kA A) (hret : ∀ (r : Int32) (q0 : Int32) (H : Heap) (locs : List Loc) (ls : Array Slot) (pc : Nat), decode cX6_take pc = .ok (.ireturn, 1) → Wd D A s H locs (wC kA ad q0 adv_rooms adv_levels adv_goalRoom adv_allDoors dr_state dr_count se_count parent level kind snum xx yy lying switched doors beyond offered opn seenb savedb found distance opening) → (r, q0) = res → W p l e rm_X6_take s m args below meth c H locs 0 0 Q (F0 m pc ls [.int r])) {H : Heap} {locs : List Loc} {ls : Array Slot} (w : Wd D A s H locs (wC kA ad lq_situation adv_rooms adv_levels adv_goalRoom adv_allDoors dr_state dr_count se_count parent level kind snum xx yy lying switched doors beyond offered opn seenb savedb found distance opening)) (hl : lv_has ls 3 [(0, .ref (ad 0))]) (h : f_X6_take  lq_situation lying = some res) : W p l e rm_X6_take s m args below meth c H locs 0 0 Q (F0 m 0 ls []) := by
  obtain ⟨⟨hx, hb, hml, hown, hts⟩, hK, -, -⟩ := id C
  unfold f_X6_take at h
  refine lv_aload_n hx hb dX6_take_0 rfl (lv_at hl 0 rfl) ?_
  refine va_get (D := D) (ci := 5) (v := .ref (ad 1)) (C := RX6) (T := TX6) (N := 4) hx hb hts lX6_take_X6 hown hK w.1 0 rfl rfl 0 (by decide) (hts _ mX6_take_1) (fun _ h9 => h9) rfl dX6_take_1 ?_
  refine lv_aload_n hx hb dX6_take_4 rfl (lv_at hl 0 rfl) ?_
  refine va_get (D := D) (ci := 5) (v := .int lq_situation) (C := RX6) (T := TX6) (N := 4) hx hb hts lX6_take_X6 hown hK w.1 0 rfl rfl 3 (by decide) (hts _ mX6_take_2) (fun _ h9 => h9) rfl dX6_take_5 ?_
  obtain ⟨u1, hc1, h⟩ := bd_some h
  refine gl_calli C w (va_runV (As := [.int lq_situation]) (rest := []) ⟨hx, hb, hml, hown, hts⟩ (c_X0_afterTaking l D kA ad H.size lq_situation adv_rooms adv_levels adv_goalRoom adv_allDoors dr_state dr_count se_count parent level kind snum xx yy lying switched doors beyond offered opn seenb savedb found distance opening lq_situation hc1) (cwV 1 hts gX6_take_X0_afterTaking rfl rfl rfl (by decide +kernel) ⟨Nat.le_of_ble_eq_true rfl, Nat.le_of_ble_eq_true rfl⟩) (Wd.preV C w (q0 := 1) (ci := 0) rfl rfl rfl) rfl rfl hl.1 rfl (lv_room (Nat.le_of_ble_eq_true rfl)) dX6_take_8 ⟨Nat.zero_le _, Nat.zero_le _⟩) (fun H locs w => ?_)
  refine lv_istore_n (lv' := [(1, .int u1), (0, .ref (ad 0))]) hx hb dX6_take_11 rfl hl (by decide) rfl (fun ls hl => ?_)
  refine lv_iload_n hx hb dX6_take_12 rfl (lv_at hl 0 rfl) ?_
  refine lv_aload_n hx hb dX6_take_13 rfl (lv_at hl 1 rfl) ?_
  refine va_get (D := D) (ci := 5) (v := .int lq_situation) (C := RX6) (T := TX6) (N := 4) hx hb hts lX6_take_X6 hown hK w.1 0 rfl rfl 3 (by decide) (hts _ mX6_take_2) (fun _ h9 => h9) rfl dX6_take_14 ?_
  refine lv_ixor hx hb dX6_take_17 ?_
  obtain ⟨u2, hc2, h⟩ := bd_some h
  refine gl_calli C w (va_runS (As := [.int (u1 ^^^ lq_situation)]) (rest := []) ⟨hx, hb, hml, hown, hts⟩ (c_J6_bitCount l D kA ad H.size lq_situation adv_rooms adv_levels adv_goalRoom adv_allDoors dr_state dr_count se_count parent level kind snum xx yy lying switched doors beyond offered opn seenb savedb found distance opening (u1 ^^^ lq_situation) hc2) (va_cwS 1 hts gX6_take_J6_bitCount_0f7a4 rfl rfl rfl (by decide +kernel) ⟨Nat.le_of_ble_eq_true rfl, Nat.le_of_ble_eq_true rfl⟩) (Wd.preS C w) rfl rfl hl.1 rfl (lv_room (Nat.le_of_ble_eq_true rfl)) dX6_take_18 ⟨Nat.zero_le _, Nat.zero_le _⟩) (fun H locs w => ?_)
  refine lv_istore_n (lv' := [(2, .int u2), (1, .int u1), (0, .ref (ad 0))]) hx hb dX6_take_21 rfl hl (by decide) rfl (fun ls hl => ?_)
  refine lv_aload_n hx hb dX6_take_22 rfl (lv_at hl 2 rfl) ?_
  refine lv_iload_n hx hb dX6_take_23 rfl (lv_at hl 1 rfl) ?_
  refine va_put (D := D) (ci := 5) (v := .int u1) (ty := .int) (C := RX6) (T := TX6) (N := 4) hx hb hts lX6_take_X6 tyX6 tyX6_ok nmX6 hown hK w.1 w.2.1 w.2.2 0 rfl rfl 3 (by decide) (hts _ mX6_take_2) (fun _ h9 => h9) rfl (by decide +kernel) rfl rfl (Nat.le_of_ble_eq_true rfl) dX6_take_24 (fun H locs hP hD hS => ?_)
  have w : Wd D A s H locs (wC kA ad u1 adv_rooms adv_levels adv_goalRoom adv_allDoors dr_state dr_count se_count parent level kind snum xx yy lying switched doors beyond offered opn seenb savedb found distance opening) := ⟨hP, hD, hS⟩
  refine lv_iload_n hx hb dX6_take_27 rfl (lv_at hl 0 rfl) ?_
  exact hret _ _ _ _ _ _ dX6_take_28 w (Option.some.inj h)
set_option maxHeartbeats 4000000 in
set_option maxRecDepth 100000 in
theorem c_X6_take (l : Launch) (D : va_G) (kA : Nat → ClassId) (ad : Nat → Nat) (sz : Nat) (lq_situation : Int32) (adv_rooms : Int32) (adv_levels : Int32) (adv_goalRoom : Int32) (adv_allDoors : Int32) (dr_state : Int64) (dr_count : Int32) (se_count : Int32) (parent : Nat → Int32) (level : Nat → Int32) (kind : Nat → Int32) (snum : Nat → Int32) (xx : Nat → Int32) (yy : Nat → Int32) (lying : Nat → Int32) (switched : Nat → Int32) (doors : Nat → Int32) (beyond : Nat → Nat → Int32) (offered : Nat → Int32) (opn : Nat → Int32) (seenb : Nat → Int64) (savedb : Nat → Int64) (found : Nat → Int32) (distance : Nat → Int32) (opening : Nat → Int32)  {res : Int32 × Int32} (h : f_X6_take  lq_situation lying = some res) : Ci l yX6_take wsX6_take rm_X6_take D kA [.ref (ad 0)] sz (wC kA ad lq_situation adv_rooms adv_levels adv_goalRoom adv_allDoors dr_state dr_count se_count parent level kind snum xx yy lying switched doors beyond offered opn seenb savedb found distance opening) (wC kA ad res.2 adv_rooms adv_levels adv_goalRoom adv_allDoors dr_state dr_count se_count parent level kind snum xx yy lying switched doors beyond offered opn seenb savedb found distance opening) res.1 := by
  refine Met.ofW (cc := cX6_take) (maxL := 3) (ret := (some .int)) (by decide) rfl ?_
  intro p e s m args below meth c s₁ B hml hv
  obtain ⟨rfl, hsz, hP, hK, hD0, hX⟩ := hv
  subst hsz
  have hts := atoms_spec (ws := wsX6_take) B.pre
  have hl := lv_entry ([.ref (ad 0)]) (n := 3) (Nat.le_of_ble_eq_true rfl)
  rw [lg_entry_eq]
  have hlocks := B.notSynchronized
  refine t_X6_take (A := va_A (wC kA ad lq_situation adv_rooms adv_levels adv_goalRoom adv_allDoors dr_state dr_count se_count parent level kind snum xx yy lying switched doors beyond offered opn seenb savedb found distance opening) s.heap.size) ⟨⟨B.exec, B.bytes, hml, findClass_of_methodNamed B.named, hts⟩, hK, fun q h => Or.inr h, hX⟩ (fun r q0 H locs ls pc hd w hres => ?_) ⟨hP, hD0.self, va_S.rf⟩ hl h
  subst hres
  exact W.iret B.exec B.bytes B.returns (fun t ht hW => ⟨⟨_, (), rfl, rfl, by rw [ht]; exact w.1, va_K.moved hW.alike hK, w.2.1⟩, w.2.2.F ht⟩) w.2.2.2.2 hd hlocks
-- ('wC', 'LockQuest$Situation', 'toggled', '(I)I', (None,))
abbrev rm_X5_toggled : Room := { frames := 0, cells := 0, slots := 0, locals := 0 }
def f_X5_toggled (p0 : Int32)  : Option (Int32) := some (p0 ^^^ (512 : Int32))
set_option maxHeartbeats 4000000 in
set_option maxRecDepth 100000 in
theorem t_X5_toggled {p : Program} {l : Launch} {e : Env} {s : State} {m : MethodId} {args : Array Value} {below : List Frame} {meth : Method} {c : Code} {Q : State → Prop} {D : va_G} {kA : Nat → ClassId} {ad : Nat → Nat} {A : Nat → Prop} {lq_situation : Int32} {adv_rooms : Int32} {adv_levels : Int32} {adv_goalRoom : Int32} {adv_allDoors : Int32} {dr_state : Int64} {dr_count : Int32} {se_count : Int32} {parent : Nat → Int32} {level : Nat → Int32} {kind : Nat → Int32} {snum : Nat → Int32} {xx : Nat → Int32} {yy : Nat → Int32} {lying : Nat → Int32} {switched : Nat → Int32} {doors : Nat → Int32} {beyond : Nat → Nat → Int32} {offered : Nat → Int32} {opn : Nat → Int32} {seenb : Nat → Int64} {savedb : Nat → Int64} {found : Nat → Int32} {distance : Nat → Int32} {opening : Nat → Int32} {p0 : Int32} {res : Int32} (C : Cx p s m c args cX5_toggled 1 RX5 wsX5_toggled D kA A) (hret : ∀ (r : Int32) (H : Heap) (locs : List Loc) (ls : Array Slot) (pc : Nat), decode cX5_toggled pc = .ok (.ireturn, 1) → Wd D A s H locs (wC kA ad lq_situation adv_rooms adv_levels adv_goalRoom adv_allDoors dr_state dr_count se_count parent level kind snum xx yy lying switched doors beyond offered opn seenb savedb found distance opening) → r = res → W p l e rm_X5_toggled s m args below meth c H locs 0 0 Q (F0 m pc ls [.int r])) {H : Heap} {locs : List Loc} {ls : Array Slot} (w : Wd D A s H locs (wC kA ad lq_situation adv_rooms adv_levels adv_goalRoom adv_allDoors dr_state dr_count se_count parent level kind snum xx yy lying switched doors beyond offered opn seenb savedb found distance opening)) (hl : lv_has ls 1 [(0, .int p0)]) (h : f_X5_toggled p0  = some res) : W p l e rm_X5_toggled s m args below meth c H locs 0 0 Q (F0 m 0 ls []) := by
  obtain ⟨⟨hx, hb, hml, hown, hts⟩, hK, -, -⟩ := id C
  unfold f_X5_toggled at h
  refine lv_iload_n hx hb dX5_toggled_0 rfl (lv_at hl 0 rfl) ?_
  refine lv_sipush (v := 512) hx hb dX5_toggled_1 (by decide) ?_
  refine lv_ixor hx hb dX5_toggled_4 ?_
  exact hret _ _ _ _ _ dX5_toggled_5 w (Option.some.inj h)
set_option maxHeartbeats 4000000 in
set_option maxRecDepth 100000 in
theorem c_X5_toggled (l : Launch) (D : va_G) (kA : Nat → ClassId) (ad : Nat → Nat) (sz : Nat) (lq_situation : Int32) (adv_rooms : Int32) (adv_levels : Int32) (adv_goalRoom : Int32) (adv_allDoors : Int32) (dr_state : Int64) (dr_count : Int32) (se_count : Int32) (parent : Nat → Int32) (level : Nat → Int32) (kind : Nat → Int32) (snum : Nat → Int32) (xx : Nat → Int32) (yy : Nat → Int32) (lying : Nat → Int32) (switched : Nat → Int32) (doors : Nat → Int32) (beyond : Nat → Nat → Int32) (offered : Nat → Int32) (opn : Nat → Int32) (seenb : Nat → Int64) (savedb : Nat → Int64) (found : Nat → Int32) (distance : Nat → Int32) (opening : Nat → Int32) (p0 : Int32) {res : Int32} (h : f_X5_toggled p0  = some res) : Ci l yX5_toggled wsX5_toggled rm_X5_toggled D kA [.int p0] sz (wC kA ad lq_situation adv_rooms adv_levels adv_goalRoom adv_allDoors dr_state dr_count se_count parent level kind snum xx yy lying switched doors beyond offered opn seenb savedb found distance opening) (wC kA ad lq_situation adv_rooms adv_levels adv_goalRoom adv_allDoors dr_state dr_count se_count parent level kind snum xx yy lying switched doors beyond offered opn seenb savedb found distance opening) res := by
  refine Met.ofW (cc := cX5_toggled) (maxL := 1) (ret := (some .int)) (by decide) rfl ?_
  intro p e s m args below meth c s₁ B hml hv
  obtain ⟨rfl, hsz, hP, hK, hD0, hX⟩ := hv
  subst hsz
  have hts := atoms_spec (ws := wsX5_toggled) B.pre
  have hl := lv_entry ([.int p0]) (n := 1) (Nat.le_of_ble_eq_true rfl)
  rw [lg_entry_eq]
  have hlocks := B.notSynchronized
  refine t_X5_toggled (A := va_A (wC kA ad lq_situation adv_rooms adv_levels adv_goalRoom adv_allDoors dr_state dr_count se_count parent level kind snum xx yy lying switched doors beyond offered opn seenb savedb found distance opening) s.heap.size) ⟨⟨B.exec, B.bytes, hml, findClass_of_methodNamed B.named, hts⟩, hK, fun q h => Or.inr h, hX⟩ (fun r H locs ls pc hd w hres => ?_) ⟨hP, hD0.self, va_S.rf⟩ hl h
  subst hres
  exact W.iret B.exec B.bytes B.returns (fun t ht hW => ⟨⟨_, (), rfl, rfl, by rw [ht]; exact w.1, va_K.moved hW.alike hK, w.2.1⟩, w.2.2.F ht⟩) w.2.2.2.2 hd hlocks
-- ('wC', 'LockQuest$Adventure', 'afterToggling', '(I)I', ('adv', None))
abbrev rm_X0_afterToggling : Room := { frames := 1, cells := 0, slots := 0, locals := 20 }
set_option maxRecDepth 20000 in
theorem lX0_afterToggling_X0 : ∀ w ∈ wsX00, w ∈ wsX0_afterToggling := by decide +kernel
set_option maxRecDepth 20000 in
theorem mX0_afterToggling_1 : Cond.fieldLink RX0 33 "LockQuest$Adventure" "switched" "[Z" ∈ wsX0_afterToggling := by decide +kernel
def f_X0_afterToggling (p0 : Int32) (switched : Nat → Int32) : Option (Int32) := (f_X5_roomOf p0).bind (fun u1 => gd (u1 < 0 ∨ 12 ≤ u1.toNatClampNeg) (if (switched u1.toNatClampNeg) = 0 then (some (-1 : Int32)) else ((f_X5_toggled p0).bind (fun u4 => some u4))))
set_option maxHeartbeats 4000000 in
set_option maxRecDepth 100000 in
theorem t_X0_afterToggling {p : Program} {l : Launch} {e : Env} {s : State} {m : MethodId} {args : Array Value} {below : List Frame} {meth : Method} {c : Code} {Q : State → Prop} {D : va_G} {kA : Nat → ClassId} {ad : Nat → Nat} {A : Nat → Prop} {lq_situation : Int32} {adv_rooms : Int32} {adv_levels : Int32} {adv_goalRoom : Int32} {adv_allDoors : Int32} {dr_state : Int64} {dr_count : Int32} {se_count : Int32} {parent : Nat → Int32} {level : Nat → Int32} {kind : Nat → Int32} {snum : Nat → Int32} {xx : Nat → Int32} {yy : Nat → Int32} {lying : Nat → Int32} {switched : Nat → Int32} {doors : Nat → Int32} {beyond : Nat → Nat → Int32} {offered : Nat → Int32} {opn : Nat → Int32} {seenb : Nat → Int64} {savedb : Nat → Int64} {found : Nat → Int32} {distance : Nat → Int32} {opening : Nat → Int32} {p0 : Int32} {res : Int32} (C : Cx p s m c args cX0_afterToggling 2 RX0 wsX0_afterToggling D kA A) (hret : ∀ (r : Int32) (H : Heap) (locs : List Loc) (ls : Array Slot) (pc : Nat), decode cX0_afterToggling pc = .ok (.ireturn, 1) → Wd D A s H locs (wC kA ad lq_situation adv_rooms adv_levels adv_goalRoom adv_allDoors dr_state dr_count se_count parent level kind snum xx yy lying switched doors beyond offered opn seenb savedb found distance opening) → r = res → W p l e rm_X0_afterToggling s m args below meth c H locs 0 0 Q (F0 m pc ls [.int r])) {H : Heap} {locs : List Loc} {ls : Array Slot} (w : Wd D A s H locs (wC kA ad lq_situation adv_rooms adv_levels adv_goalRoom adv_allDoors dr_state dr_count se_count parent level kind snum xx yy lying switched doors beyond offered opn seenb savedb found distance opening)) (hl : lv_has ls 2 [(0, .ref (ad 1)), (1, .int p0)]) (h : f_X0_afterToggling p0 switched = some res) : W p l e rm_X0_afterToggling s m args below meth c H locs 0 0 Q (F0 m 0 ls []) := by
  obtain ⟨⟨hx, hb, hml, hown, hts⟩, hK, -, -⟩ := id C
  unfold f_X0_afterToggling at h
  refine lv_aload_n hx hb dX0_afterToggling_0 rfl (lv_at hl 0 rfl) ?_
  refine va_get (D := D) (ci := 0) (v := .ref (ad 14)) (C := RX0) (T := TX0) (N := 14) hx hb hts lX0_afterToggling_X0 hown hK w.1 1 rfl rfl 11 (by decide) (hts _ mX0_afterToggling_1) (fun _ h9 => h9) rfl dX0_afterToggling_1 ?_
  refine lv_iload_n hx hb dX0_afterToggling_4 rfl (lv_at hl 1 rfl) ?_
  obtain ⟨u1, hc1, h⟩ := bd_some h
  refine gl_calli C w (va_runS (As := [.int p0]) (rest := [.ref (ad 14)]) ⟨hx, hb, hml, hown, hts⟩ (c_X5_roomOf l D kA ad H.size lq_situation adv_rooms adv_levels adv_goalRoom adv_allDoors dr_state dr_count se_count parent level kind snum xx yy lying switched doors beyond offered opn seenb savedb found distance opening p0 hc1) (va_cwS 1 hts gX0_afterToggling_X5_roomOf rfl rfl rfl (by decide +kernel) ⟨Nat.le_of_ble_eq_true rfl, Nat.le_of_ble_eq_true rfl⟩) (Wd.preS C w) rfl rfl hl.1 rfl (lv_room (Nat.le_of_ble_eq_true rfl)) dX0_afterToggling_5 ⟨Nat.zero_le _, Nat.zero_le _⟩) (fun H locs w => ?_)
  obtain ⟨g2, h⟩ := gd_some h
  refine va_zald hx hb hK w.1 14 2 rfl rfl g2 dX0_afterToggling_8 ?_
  refine lv_if_eq (tgt := 19) hx hb dX0_afterToggling_9 (by decide) (fun g3 => ?_) (fun g3 => ?_)
  · replace h := it_pos g3 h
    refine lv_iconst (v := -1) hx hb dX0_afterToggling_19 (by decide) ?_
    exact hret _ _ _ _ _ dX0_afterToggling_20 w (Option.some.inj h)
  · replace h := it_neg g3 h
    refine lv_iload_n hx hb dX0_afterToggling_12 rfl (lv_at hl 1 rfl) ?_
    obtain ⟨u4, hc4, h⟩ := bd_some h
    refine gl_calli C w (va_runS (As := [.int p0]) (rest := []) ⟨hx, hb, hml, hown, hts⟩ (c_X5_toggled l D kA ad H.size lq_situation adv_rooms adv_levels adv_goalRoom adv_allDoors dr_state dr_count se_count parent level kind snum xx yy lying switched doors beyond offered opn seenb savedb found distance opening p0 hc4) (va_cwS 1 hts gX0_afterToggling_X5_toggled rfl rfl rfl (by decide +kernel) ⟨Nat.le_of_ble_eq_true rfl, Nat.le_of_ble_eq_true rfl⟩) (Wd.preS C w) rfl rfl hl.1 rfl (lv_room (Nat.le_of_ble_eq_true rfl)) dX0_afterToggling_13 ⟨Nat.zero_le _, Nat.zero_le _⟩) (fun H locs w => ?_)
    refine lv_goto (tgt := 20) hx hb dX0_afterToggling_16 (by decide) ?_
    exact hret _ _ _ _ _ dX0_afterToggling_20 w (Option.some.inj h)
set_option maxHeartbeats 4000000 in
set_option maxRecDepth 100000 in
theorem c_X0_afterToggling (l : Launch) (D : va_G) (kA : Nat → ClassId) (ad : Nat → Nat) (sz : Nat) (lq_situation : Int32) (adv_rooms : Int32) (adv_levels : Int32) (adv_goalRoom : Int32) (adv_allDoors : Int32) (dr_state : Int64) (dr_count : Int32) (se_count : Int32) (parent : Nat → Int32) (level : Nat → Int32) (kind : Nat → Int32) (snum : Nat → Int32) (xx : Nat → Int32) (yy : Nat → Int32) (lying : Nat → Int32) (switched : Nat → Int32) (doors : Nat → Int32) (beyond : Nat → Nat → Int32) (offered : Nat → Int32) (opn : Nat → Int32) (seenb : Nat → Int64) (savedb : Nat → Int64) (found : Nat → Int32) (distance : Nat → Int32) (opening : Nat → Int32) (p0 : Int32) {res : Int32} (h : f_X0_afterToggling p0 switched = some res) : Ci l yX0_afterToggling wsX0_afterToggling rm_X0_afterToggling D kA [.ref (ad 1), .int p0] sz (wC kA ad lq_situation adv_rooms adv_levels adv_goalRoom adv_allDoors dr_state dr_count se_count parent level kind snum xx yy lying switched doors beyond offered opn seenb savedb found distance opening) (wC kA ad lq_situation adv_rooms adv_levels adv_goalRoom adv_allDoors dr_state dr_count se_count parent level kind snum xx yy lying switched doors beyond offered opn seenb savedb found distance opening) res := by
  refine Met.ofW (cc := cX0_afterToggling) (maxL := 2) (ret := (some .int)) (by decide) rfl ?_
  intro p e s m args below meth c s₁ B hml hv
  obtain ⟨rfl, hsz, hP, hK, hD0, hX⟩ := hv
  subst hsz
  have hts := atoms_spec (ws := wsX0_afterToggling) B.pre
  have hl := lv_entry ([.ref (ad 1), .int p0]) (n := 2) (Nat.le_of_ble_eq_true rfl)
  rw [lg_entry_eq]
  have hlocks := B.notSynchronized
  refine t_X0_afterToggling (A := va_A (wC kA ad lq_situation adv_rooms adv_levels adv_goalRoom adv_allDoors dr_state dr_count se_count parent level kind snum xx yy lying switched doors beyond offered opn seenb savedb found distance opening) s.heap.size) ⟨⟨B.exec, B.bytes, hml, findClass_of_methodNamed B.named, hts⟩, hK, fun q h => Or.inr h, hX⟩ (fun r H locs ls pc hd w hres => ?_) ⟨hP, hD0.self, va_S.rf⟩ hl h
  subst hres
  exact W.iret B.exec B.bytes B.returns (fun t ht hW => ⟨⟨_, (), rfl, rfl, by rw [ht]; exact w.1, va_K.moved hW.alike hK, w.2.1⟩, w.2.2.F ht⟩) w.2.2.2.2 hd hlocks
-- ('wC', 'LockQuest', 'toggle', '()I', ('lq',))
abbrev rm_X6_toggle : Room := { frames := 2, cells := 0, slots := 0, locals := 41 }
set_option maxRecDepth 20000 in
theorem lX6_toggle_X6 : ∀ w ∈ wsX60, w ∈ wsX6_toggle := by decide +kernel
set_option maxRecDepth 20000 in
theorem mX6_toggle_1 : Cond.fieldLink RX6 10 "LockQuest" "adventure" "LLockQuest$Adventure;" ∈ wsX6_toggle := by decide +kernel
set_option maxRecDepth 20000 in
theorem mX6_toggle_2 : Cond.fieldLink RX6 38 "LockQuest" "situation" "I" ∈ wsX6_toggle := by decide +kernel
def f_X6_toggle  (lq_situation : Int32) (switched : Nat → Int32) : Option (Int32 × Int32) := (f_X0_afterToggling lq_situation switched).bind (fun u1 => if 0 ≤ u1 then ((f_X5_positionOf u1).bind (fun u3 => some (u3, u1))) else (some (u1, lq_situation)))
set_option maxHeartbeats 4000000 in
set_option maxRecDepth 100000 in
theorem t_X6_toggle {p : Program} {l : Launch} {e : Env} {s : State} {m : MethodId} {args : Array Value} {below : List Frame} {meth : Method} {c : Code} {Q : State → Prop} {D : va_G} {kA : Nat → ClassId} {ad : Nat → Nat} {A : Nat → Prop} {lq_situation : Int32} {adv_rooms : Int32} {adv_levels : Int32} {adv_goalRoom : Int32} {adv_allDoors : Int32} {dr_state : Int64} {dr_count : Int32} {se_count : Int32} {parent : Nat → Int32} {level : Nat → Int32} {kind : Nat → Int32} {snum : Nat → Int32} {xx : Nat → Int32} {yy : Nat → Int32} {lying : Nat → Int32} {switched : Nat → Int32} {doors : Nat → Int32} {beyond : Nat → Nat → Int32} {offered : Nat → Int32} {opn : Nat → Int32} {seenb : Nat → Int64} {savedb : Nat → Int64} {found : Nat → Int32} {distance : Nat → Int32} {opening : Nat → Int32}  {res : Int32 × Int32} (C : Cx p s m c args cX6_toggle 2 RX6 wsX6_toggle D kA A) (hret : ∀ (r : Int32) (q0 : Int32) (H : Heap) (locs : List Loc) (ls : Array Slot) (pc : Nat), decode cX6_toggle pc = .ok (.ireturn, 1) → Wd D A s H locs (wC kA ad q0 adv_rooms adv_levels adv_goalRoom adv_allDoors dr_state dr_count se_count parent level kind snum xx yy lying switched doors beyond offered opn seenb savedb found distance opening) → (r, q0) = res → W p l e rm_X6_toggle s m args below meth c H locs 0 0 Q (F0 m pc ls [.int r])) {H : Heap} {locs : List Loc} {ls : Array Slot} (w : Wd D A s H locs (wC kA ad lq_situation adv_rooms adv_levels adv_goalRoom adv_allDoors dr_state dr_count se_count parent level kind snum xx yy lying switched doors beyond offered opn seenb savedb found distance opening)) (hl : lv_has ls 2 [(0, .ref (ad 0))]) (h : f_X6_toggle  lq_situation switched = some res) : W p l e rm_X6_toggle s m args below meth c H locs 0 0 Q (F0 m 0 ls []) := by
  obtain ⟨⟨hx, hb, hml, hown, hts⟩, hK, -, -⟩ := id C
  unfold f_X6_toggle at h
  refine lv_aload_n hx hb dX6_toggle_0 rfl (lv_at hl 0 rfl) ?_
  refine va_get (D := D) (ci := 5) (v := .ref (ad 1)) (C := RX6) (T := TX6) (N := 4) hx hb hts lX6_toggle_X6 hown hK w.1 0 rfl rfl 0 (by decide) (hts _ mX6_toggle_1) (fun _ h9 => h9) rfl dX6_toggle_1 ?_
  refine lv_aload_n hx hb dX6_toggle_4 rfl (lv_at hl 0 rfl) ?_
  refine va_get (D := D) (ci := 5) (v := .int lq_situation) (C := RX6) (T := TX6) (N := 4) hx hb hts lX6_toggle_X6 hown hK w.1 0 rfl rfl 3 (by decide) (hts _ mX6_toggle_2) (fun _ h9 => h9) rfl dX6_toggle_5 ?_
  obtain ⟨u1, hc1, h⟩ := bd_some h
  refine gl_calli C w (va_runV (As := [.int lq_situation]) (rest := []) ⟨hx, hb, hml, hown, hts⟩ (c_X0_afterToggling l D kA ad H.size lq_situation adv_rooms adv_levels adv_goalRoom adv_allDoors dr_state dr_count se_count parent level kind snum xx yy lying switched doors beyond offered opn seenb savedb found distance opening lq_situation hc1) (cwV 1 hts gX6_toggle_X0_afterToggling rfl rfl rfl (by decide +kernel) ⟨Nat.le_of_ble_eq_true rfl, Nat.le_of_ble_eq_true rfl⟩) (Wd.preV C w (q0 := 1) (ci := 0) rfl rfl rfl) rfl rfl hl.1 rfl (lv_room (Nat.le_of_ble_eq_true rfl)) dX6_toggle_8 ⟨Nat.zero_le _, Nat.zero_le _⟩) (fun H locs w => ?_)
  refine lv_istore_n (lv' := [(1, .int u1), (0, .ref (ad 0))]) hx hb dX6_toggle_11 rfl hl (by decide) rfl (fun ls hl => ?_)
  refine lv_iload_n hx hb dX6_toggle_12 rfl (lv_at hl 0 rfl) ?_
  refine lv_if_ge (tgt := 18) hx hb dX6_toggle_13 (by decide) (fun g2 => ?_) (fun g2 => ?_)
  · replace h := it_pos g2 h
    refine lv_aload_n hx hb dX6_toggle_18 rfl (lv_at hl 1 rfl) ?_
    refine lv_iload_n hx hb dX6_toggle_19 rfl (lv_at hl 0 rfl) ?_
    refine va_put (D := D) (ci := 5) (v := .int u1) (ty := .int) (C := RX6) (T := TX6) (N := 4) hx hb hts lX6_toggle_X6 tyX6 tyX6_ok nmX6 hown hK w.1 w.2.1 w.2.2 0 rfl rfl 3 (by decide) (hts _ mX6_toggle_2) (fun _ h9 => h9) rfl (by decide +kernel) rfl rfl (Nat.le_of_ble_eq_true rfl) dX6_toggle_20 (fun H locs hP hD hS => ?_)
    have w : Wd D A s H locs (wC kA ad u1 adv_rooms adv_levels adv_goalRoom adv_allDoors dr_state dr_count se_count parent level kind snum xx yy lying switched doors beyond offered opn seenb savedb found distance opening) := ⟨hP, hD, hS⟩
    refine lv_iload_n hx hb dX6_toggle_23 rfl (lv_at hl 0 rfl) ?_
    obtain ⟨u3, hc3, h⟩ := bd_some h
    refine gl_calli C w (va_runS (As := [.int u1]) (rest := []) ⟨hx, hb, hml, hown, hts⟩ (c_X5_positionOf l D kA ad H.size u1 adv_rooms adv_levels adv_goalRoom adv_allDoors dr_state dr_count se_count parent level kind snum xx yy lying switched doors beyond offered opn seenb savedb found distance opening u1 hc3) (va_cwS 1 hts gX6_toggle_X5_positionOf rfl rfl rfl (by decide +kernel) ⟨Nat.le_of_ble_eq_true rfl, Nat.le_of_ble_eq_true rfl⟩) (Wd.preS C w) rfl rfl hl.1 rfl (lv_room (Nat.le_of_ble_eq_true rfl)) dX6_toggle_24 ⟨Nat.zero_le _, Nat.zero_le _⟩) (fun H locs w => ?_)
    exact hret _ _ _ _ _ _ dX6_toggle_27 w (Option.some.inj h)
  · replace h := it_neg g2 h
    refine lv_iload_n hx hb dX6_toggle_16 rfl (lv_at hl 0 rfl) ?_
    exact hret _ _ _ _ _ _ dX6_toggle_17 w (Option.some.inj h)
set_option maxHeartbeats 4000000 in
set_option maxRecDepth 100000 in
theorem c_X6_toggle (l : Launch) (D : va_G) (kA : Nat → ClassId) (ad : Nat → Nat) (sz : Nat) (lq_situation : Int32) (adv_rooms : Int32) (adv_levels : Int32) (adv_goalRoom : Int32) (adv_allDoors : Int32) (dr_state : Int64) (dr_count : Int32) (se_count : Int32) (parent : Nat → Int32) (level : Nat → Int32) (kind : Nat → Int32) (snum : Nat → Int32) (xx : Nat → Int32) (yy : Nat → Int32) (lying : Nat → Int32) (switched : Nat → Int32) (doors : Nat → Int32) (beyond : Nat → Nat → Int32) (offered : Nat → Int32) (opn : Nat → Int32) (seenb : Nat → Int64) (savedb : Nat → Int64) (found : Nat → Int32) (distance : Nat → Int32) (opening : Nat → Int32)  {res : Int32 × Int32} (h : f_X6_toggle  lq_situation switched = some res) : Ci l yX6_toggle wsX6_toggle rm_X6_toggle D kA [.ref (ad 0)] sz (wC kA ad lq_situation adv_rooms adv_levels adv_goalRoom adv_allDoors dr_state dr_count se_count parent level kind snum xx yy lying switched doors beyond offered opn seenb savedb found distance opening) (wC kA ad res.2 adv_rooms adv_levels adv_goalRoom adv_allDoors dr_state dr_count se_count parent level kind snum xx yy lying switched doors beyond offered opn seenb savedb found distance opening) res.1 := by
  refine Met.ofW (cc := cX6_toggle) (maxL := 2) (ret := (some .int)) (by decide) rfl ?_
  intro p e s m args below meth c s₁ B hml hv
  obtain ⟨rfl, hsz, hP, hK, hD0, hX⟩ := hv
  subst hsz
  have hts := atoms_spec (ws := wsX6_toggle) B.pre
  have hl := lv_entry ([.ref (ad 0)]) (n := 2) (Nat.le_of_ble_eq_true rfl)
  rw [lg_entry_eq]
  have hlocks := B.notSynchronized
  refine t_X6_toggle (A := va_A (wC kA ad lq_situation adv_rooms adv_levels adv_goalRoom adv_allDoors dr_state dr_count se_count parent level kind snum xx yy lying switched doors beyond offered opn seenb savedb found distance opening) s.heap.size) ⟨⟨B.exec, B.bytes, hml, findClass_of_methodNamed B.named, hts⟩, hK, fun q h => Or.inr h, hX⟩ (fun r q0 H locs ls pc hd w hres => ?_) ⟨hP, hD0.self, va_S.rf⟩ hl h
  subst hres
  exact W.iret B.exec B.bytes B.returns (fun t ht hW => ⟨⟨_, (), rfl, rfl, by rw [ht]; exact w.1, va_K.moved hW.alike hK, w.2.1⟩, w.2.2.F ht⟩) w.2.2.2.2 hd hlocks
-- ('wC', 'LockQuest', 'here', '()I', ('lq',))
abbrev rm_X6_here : Room := { frames := 1, cells := 0, slots := 0, locals := 20 }
set_option maxRecDepth 20000 in
theorem lX6_here_X6 : ∀ w ∈ wsX60, w ∈ wsX6_here := by decide +kernel
set_option maxRecDepth 20000 in
theorem mX6_here_1 : Cond.fieldLink RX6 38 "LockQuest" "situation" "I" ∈ wsX6_here := by decide +kernel
def f_X6_here  (lq_situation : Int32) : Option (Int32) := (f_X5_roomOf lq_situation).bind (fun u1 => some u1)
set_option maxHeartbeats 4000000 in
set_option maxRecDepth 100000 in
theorem t_X6_here {p : Program} {l : Launch} {e : Env} {s : State} {m : MethodId} {args : Array Value} {below : List Frame} {meth : Method} {c : Code} {Q : State → Prop} {D : va_G} {kA : Nat → ClassId} {ad : Nat → Nat} {A : Nat → Prop} {lq_situation : Int32} {adv_rooms : Int32} {adv_levels : Int32} {adv_goalRoom : Int32} {adv_allDoors : Int32} {dr_state : Int64} {dr_count : Int32} {se_count : Int32} {parent : Nat → Int32} {level : Nat → Int32} {kind : Nat → Int32} {snum : Nat → Int32} {xx : Nat → Int32} {yy : Nat → Int32} {lying : Nat → Int32} {switched : Nat → Int32} {doors : Nat → Int32} {beyond : Nat → Nat → Int32} {offered : Nat → Int32} {opn : Nat → Int32} {seenb : Nat → Int64} {savedb : Nat → Int64} {found : Nat → Int32} {distance : Nat → Int32} {opening : Nat → Int32}  {res : Int32} (C : Cx p s m c args cX6_here 1 RX6 wsX6_here D kA A) (hret : ∀ (r : Int32) (H : Heap) (locs : List Loc) (ls : Array Slot) (pc : Nat), decode cX6_here pc = .ok (.ireturn, 1) → Wd D A s H locs (wC kA ad lq_situation adv_rooms adv_levels adv_goalRoom adv_allDoors dr_state dr_count se_count parent level kind snum xx yy lying switched doors beyond offered opn seenb savedb found distance opening) → r = res → W p l e rm_X6_here s m args below meth c H locs 0 0 Q (F0 m pc ls [.int r])) {H : Heap} {locs : List Loc} {ls : Array Slot} (w : Wd D A s H locs (wC kA ad lq_situation adv_rooms adv_levels adv_goalRoom adv_allDoors dr_state dr_count se_count parent level kind snum xx yy lying switched doors beyond offered opn seenb savedb found distance opening)) (hl : lv_has ls 1 [(0, .ref (ad 0))]) (h : f_X6_here  lq_situation = some res) : W p l e rm_X6_here s m args below meth c H locs 0 0 Q (F0 m 0 ls []) := by
  obtain ⟨⟨hx, hb, hml, hown, hts⟩, hK, -, -⟩ := id C
  unfold f_X6_here at h
  refine lv_aload_n hx hb dX6_here_0 rfl (lv_at hl 0 rfl) ?_
  refine va_get (D := D) (ci := 5) (v := .int lq_situation) (C := RX6) (T := TX6) (N := 4) hx hb hts lX6_here_X6 hown hK w.1 0 rfl rfl 3 (by decide) (hts _ mX6_here_1) (fun _ h9 => h9) rfl dX6_here_1 ?_
  obtain ⟨u1, hc1, h⟩ := bd_some h
  refine gl_calli C w (va_runS (As := [.int lq_situation]) (rest := []) ⟨hx, hb, hml, hown, hts⟩ (c_X5_roomOf l D kA ad H.size lq_situation adv_rooms adv_levels adv_goalRoom adv_allDoors dr_state dr_count se_count parent level kind snum xx yy lying switched doors beyond offered opn seenb savedb found distance opening lq_situation hc1) (va_cwS 1 hts gX6_here_X5_roomOf rfl rfl rfl (by decide +kernel) ⟨Nat.le_of_ble_eq_true rfl, Nat.le_of_ble_eq_true rfl⟩) (Wd.preS C w) rfl rfl hl.1 rfl (lv_room (Nat.le_of_ble_eq_true rfl)) dX6_here_4 ⟨Nat.zero_le _, Nat.zero_le _⟩) (fun H locs w => ?_)
  exact hret _ _ _ _ _ dX6_here_7 w (Option.some.inj h)
set_option maxHeartbeats 4000000 in
set_option maxRecDepth 100000 in
theorem c_X6_here (l : Launch) (D : va_G) (kA : Nat → ClassId) (ad : Nat → Nat) (sz : Nat) (lq_situation : Int32) (adv_rooms : Int32) (adv_levels : Int32) (adv_goalRoom : Int32) (adv_allDoors : Int32) (dr_state : Int64) (dr_count : Int32) (se_count : Int32) (parent : Nat → Int32) (level : Nat → Int32) (kind : Nat → Int32) (snum : Nat → Int32) (xx : Nat → Int32) (yy : Nat → Int32) (lying : Nat → Int32) (switched : Nat → Int32) (doors : Nat → Int32) (beyond : Nat → Nat → Int32) (offered : Nat → Int32) (opn : Nat → Int32) (seenb : Nat → Int64) (savedb : Nat → Int64) (found : Nat → Int32) (distance : Nat → Int32) (opening : Nat → Int32)  {res : Int32} (h : f_X6_here  lq_situation = some res) : Ci l yX6_here wsX6_here rm_X6_here D kA [.ref (ad 0)] sz (wC kA ad lq_situation adv_rooms adv_levels adv_goalRoom adv_allDoors dr_state dr_count se_count parent level kind snum xx yy lying switched doors beyond offered opn seenb savedb found distance opening) (wC kA ad lq_situation adv_rooms adv_levels adv_goalRoom adv_allDoors dr_state dr_count se_count parent level kind snum xx yy lying switched doors beyond offered opn seenb savedb found distance opening) res := by
  refine Met.ofW (cc := cX6_here) (maxL := 1) (ret := (some .int)) (by decide) rfl ?_
  intro p e s m args below meth c s₁ B hml hv
  obtain ⟨rfl, hsz, hP, hK, hD0, hX⟩ := hv
  subst hsz
  have hts := atoms_spec (ws := wsX6_here) B.pre
  have hl := lv_entry ([.ref (ad 0)]) (n := 1) (Nat.le_of_ble_eq_true rfl)
  rw [lg_entry_eq]
  have hlocks := B.notSynchronized
  refine t_X6_here (A := va_A (wC kA ad lq_situation adv_rooms adv_levels adv_goalRoom adv_allDoors dr_state dr_count se_count parent level kind snum xx yy lying switched doors beyond offered opn seenb savedb found distance opening) s.heap.size) ⟨⟨B.exec, B.bytes, hml, findClass_of_methodNamed B.named, hts⟩, hK, fun q h => Or.inr h, hX⟩ (fun r H locs ls pc hd w hres => ?_) ⟨hP, hD0.self, va_S.rf⟩ hl h
  subst hres
  exact W.iret B.exec B.bytes B.returns (fun t ht hW => ⟨⟨_, (), rfl, rfl, by rw [ht]; exact w.1, va_K.moved hW.alike hK, w.2.1⟩, w.2.2.F ht⟩) w.2.2.2.2 hd hlocks
-- ('wC', 'LockQuest$Situation', 'keysOf', '(I)I', (None,))
abbrev rm_X5_keysOf : Room := { frames := 0, cells := 0, slots := 0, locals := 0 }
def f_X5_keysOf (p0 : Int32)  : Option (Int32) := some (p0 &&& (7 : Int32))
set_option maxHeartbeats 4000000 in
set_option maxRecDepth 100000 in
theorem t_X5_keysOf {p : Program} {l : Launch} {e : Env} {s : State} {m : MethodId} {args : Array Value} {below : List Frame} {meth : Method} {c : Code} {Q : State → Prop} {D : va_G} {kA : Nat → ClassId} {ad : Nat → Nat} {A : Nat → Prop} {lq_situation : Int32} {adv_rooms : Int32} {adv_levels : Int32} {adv_goalRoom : Int32} {adv_allDoors : Int32} {dr_state : Int64} {dr_count : Int32} {se_count : Int32} {parent : Nat → Int32} {level : Nat → Int32} {kind : Nat → Int32} {snum : Nat → Int32} {xx : Nat → Int32} {yy : Nat → Int32} {lying : Nat → Int32} {switched : Nat → Int32} {doors : Nat → Int32} {beyond : Nat → Nat → Int32} {offered : Nat → Int32} {opn : Nat → Int32} {seenb : Nat → Int64} {savedb : Nat → Int64} {found : Nat → Int32} {distance : Nat → Int32} {opening : Nat → Int32} {p0 : Int32} {res : Int32} (C : Cx p s m c args cX5_keysOf 1 RX5 wsX5_keysOf D kA A) (hret : ∀ (r : Int32) (H : Heap) (locs : List Loc) (ls : Array Slot) (pc : Nat), decode cX5_keysOf pc = .ok (.ireturn, 1) → Wd D A s H locs (wC kA ad lq_situation adv_rooms adv_levels adv_goalRoom adv_allDoors dr_state dr_count se_count parent level kind snum xx yy lying switched doors beyond offered opn seenb savedb found distance opening) → r = res → W p l e rm_X5_keysOf s m args below meth c H locs 0 0 Q (F0 m pc ls [.int r])) {H : Heap} {locs : List Loc} {ls : Array Slot} (w : Wd D A s H locs (wC kA ad lq_situation adv_rooms adv_levels adv_goalRoom adv_allDoors dr_state dr_count se_count parent level kind snum xx yy lying switched doors beyond offered opn seenb savedb found distance opening)) (hl : lv_has ls 1 [(0, .int p0)]) (h : f_X5_keysOf p0  = some res) : W p l e rm_X5_keysOf s m args below meth c H locs 0 0 Q (F0 m 0 ls []) := by
  obtain ⟨⟨hx, hb, hml, hown, hts⟩, hK, -, -⟩ := id C
  unfold f_X5_keysOf at h
  refine lv_iload_n hx hb dX5_keysOf_0 rfl (lv_at hl 0 rfl) ?_
  refine lv_bipush (v := 7) hx hb dX5_keysOf_1 (by decide) ?_
  refine lv_iand hx hb dX5_keysOf_3 ?_
  exact hret _ _ _ _ _ dX5_keysOf_4 w (Option.some.inj h)
set_option maxHeartbeats 4000000 in
set_option maxRecDepth 100000 in
theorem c_X5_keysOf (l : Launch) (D : va_G) (kA : Nat → ClassId) (ad : Nat → Nat) (sz : Nat) (lq_situation : Int32) (adv_rooms : Int32) (adv_levels : Int32) (adv_goalRoom : Int32) (adv_allDoors : Int32) (dr_state : Int64) (dr_count : Int32) (se_count : Int32) (parent : Nat → Int32) (level : Nat → Int32) (kind : Nat → Int32) (snum : Nat → Int32) (xx : Nat → Int32) (yy : Nat → Int32) (lying : Nat → Int32) (switched : Nat → Int32) (doors : Nat → Int32) (beyond : Nat → Nat → Int32) (offered : Nat → Int32) (opn : Nat → Int32) (seenb : Nat → Int64) (savedb : Nat → Int64) (found : Nat → Int32) (distance : Nat → Int32) (opening : Nat → Int32) (p0 : Int32) {res : Int32} (h : f_X5_keysOf p0  = some res) : Ci l yX5_keysOf wsX5_keysOf rm_X5_keysOf D kA [.int p0] sz (wC kA ad lq_situation adv_rooms adv_levels adv_goalRoom adv_allDoors dr_state dr_count se_count parent level kind snum xx yy lying switched doors beyond offered opn seenb savedb found distance opening) (wC kA ad lq_situation adv_rooms adv_levels adv_goalRoom adv_allDoors dr_state dr_count se_count parent level kind snum xx yy lying switched doors beyond offered opn seenb savedb found distance opening) res := by
  refine Met.ofW (cc := cX5_keysOf) (maxL := 1) (ret := (some .int)) (by decide) rfl ?_
  intro p e s m args below meth c s₁ B hml hv
  obtain ⟨rfl, hsz, hP, hK, hD0, hX⟩ := hv
  subst hsz
  have hts := atoms_spec (ws := wsX5_keysOf) B.pre
  have hl := lv_entry ([.int p0]) (n := 1) (Nat.le_of_ble_eq_true rfl)
  rw [lg_entry_eq]
  have hlocks := B.notSynchronized
  refine t_X5_keysOf (A := va_A (wC kA ad lq_situation adv_rooms adv_levels adv_goalRoom adv_allDoors dr_state dr_count se_count parent level kind snum xx yy lying switched doors beyond offered opn seenb savedb found distance opening) s.heap.size) ⟨⟨B.exec, B.bytes, hml, findClass_of_methodNamed B.named, hts⟩, hK, fun q h => Or.inr h, hX⟩ (fun r H locs ls pc hd w hres => ?_) ⟨hP, hD0.self, va_S.rf⟩ hl h
  subst hres
  exact W.iret B.exec B.bytes B.returns (fun t ht hW => ⟨⟨_, (), rfl, rfl, by rw [ht]; exact w.1, va_K.moved hW.alike hK, w.2.1⟩, w.2.2.F ht⟩) w.2.2.2.2 hd hlocks
-- ('wC', 'LockQuest', 'having', '()I', ('lq',))
abbrev rm_X6_having : Room := { frames := 2, cells := 0, slots := 0, locals := 40 }
set_option maxRecDepth 20000 in
theorem lX6_having_X6 : ∀ w ∈ wsX60, w ∈ wsX6_having := by decide +kernel
set_option maxRecDepth 20000 in
theorem mX6_having_1 : Cond.fieldLink RX6 38 "LockQuest" "situation" "I" ∈ wsX6_having := by decide +kernel
def f_X6_having  (lq_situation : Int32) : Option (Int32) := (f_X5_keysOf lq_situation).bind (fun u1 => (f_X5_smallKeysLeft lq_situation).bind (fun u2 => (f_X5_positionOf lq_situation).bind (fun u3 => some ((u1 + ((8 : Int32) * u2)) + ((64 : Int32) * u3)))))
set_option maxHeartbeats 4000000 in
set_option maxRecDepth 100000 in
theorem t_X6_having {p : Program} {l : Launch} {e : Env} {s : State} {m : MethodId} {args : Array Value} {below : List Frame} {meth : Method} {c : Code} {Q : State → Prop} {D : va_G} {kA : Nat → ClassId} {ad : Nat → Nat} {A : Nat → Prop} {lq_situation : Int32} {adv_rooms : Int32} {adv_levels : Int32} {adv_goalRoom : Int32} {adv_allDoors : Int32} {dr_state : Int64} {dr_count : Int32} {se_count : Int32} {parent : Nat → Int32} {level : Nat → Int32} {kind : Nat → Int32} {snum : Nat → Int32} {xx : Nat → Int32} {yy : Nat → Int32} {lying : Nat → Int32} {switched : Nat → Int32} {doors : Nat → Int32} {beyond : Nat → Nat → Int32} {offered : Nat → Int32} {opn : Nat → Int32} {seenb : Nat → Int64} {savedb : Nat → Int64} {found : Nat → Int32} {distance : Nat → Int32} {opening : Nat → Int32}  {res : Int32} (C : Cx p s m c args cX6_having 1 RX6 wsX6_having D kA A) (hret : ∀ (r : Int32) (H : Heap) (locs : List Loc) (ls : Array Slot) (pc : Nat), decode cX6_having pc = .ok (.ireturn, 1) → Wd D A s H locs (wC kA ad lq_situation adv_rooms adv_levels adv_goalRoom adv_allDoors dr_state dr_count se_count parent level kind snum xx yy lying switched doors beyond offered opn seenb savedb found distance opening) → r = res → W p l e rm_X6_having s m args below meth c H locs 0 0 Q (F0 m pc ls [.int r])) {H : Heap} {locs : List Loc} {ls : Array Slot} (w : Wd D A s H locs (wC kA ad lq_situation adv_rooms adv_levels adv_goalRoom adv_allDoors dr_state dr_count se_count parent level kind snum xx yy lying switched doors beyond offered opn seenb savedb found distance opening)) (hl : lv_has ls 1 [(0, .ref (ad 0))]) (h : f_X6_having  lq_situation = some res) : W p l e rm_X6_having s m args below meth c H locs 0 0 Q (F0 m 0 ls []) := by
  obtain ⟨⟨hx, hb, hml, hown, hts⟩, hK, -, -⟩ := id C
  unfold f_X6_having at h
  refine lv_aload_n hx hb dX6_having_0 rfl (lv_at hl 0 rfl) ?_
  refine va_get (D := D) (ci := 5) (v := .int lq_situation) (C := RX6) (T := TX6) (N := 4) hx hb hts lX6_having_X6 hown hK w.1 0 rfl rfl 3 (by decide) (hts _ mX6_having_1) (fun _ h9 => h9) rfl dX6_having_1 ?_
  obtain ⟨u1, hc1, h⟩ := bd_some h
  refine gl_calli C w (va_runS (As := [.int lq_situation]) (rest := []) ⟨hx, hb, hml, hown, hts⟩ (c_X5_keysOf l D kA ad H.size lq_situation adv_rooms adv_levels adv_goalRoom adv_allDoors dr_state dr_count se_count parent level kind snum xx yy lying switched doors beyond offered opn seenb savedb found distance opening lq_situation hc1) (va_cwS 1 hts gX6_having_X5_keysOf rfl rfl rfl (by decide +kernel) ⟨Nat.le_of_ble_eq_true rfl, Nat.le_of_ble_eq_true rfl⟩) (Wd.preS C w) rfl rfl hl.1 rfl (lv_room (Nat.le_of_ble_eq_true rfl)) dX6_having_4 ⟨Nat.zero_le _, Nat.zero_le _⟩) (fun H locs w => ?_)
  refine lv_bipush (v := 8) hx hb dX6_having_7 (by decide) ?_
  refine lv_aload_n hx hb dX6_having_9 rfl (lv_at hl 0 rfl) ?_
  refine va_get (D := D) (ci := 5) (v := .int lq_situation) (C := RX6) (T := TX6) (N := 4) hx hb hts lX6_having_X6 hown hK w.1 0 rfl rfl 3 (by decide) (hts _ mX6_having_1) (fun _ h9 => h9) rfl dX6_having_10 ?_
  obtain ⟨u2, hc2, h⟩ := bd_some h
  refine gl_calli C w (va_runS (As := [.int lq_situation]) (rest := [.int (8 : Int32), .int u1]) ⟨hx, hb, hml, hown, hts⟩ (c_X5_smallKeysLeft l D kA ad H.size lq_situation adv_rooms adv_levels adv_goalRoom adv_allDoors dr_state dr_count se_count parent level kind snum xx yy lying switched doors beyond offered opn seenb savedb found distance opening lq_situation hc2) (va_cwS 1 hts gX6_having_X5_smallKeysLeft rfl rfl rfl (by decide +kernel) ⟨Nat.le_of_ble_eq_true rfl, Nat.le_of_ble_eq_true rfl⟩) (Wd.preS C w) rfl rfl hl.1 rfl (lv_room (Nat.le_of_ble_eq_true rfl)) dX6_having_13 ⟨Nat.zero_le _, Nat.zero_le _⟩) (fun H locs w => ?_)
  refine lv_imul hx hb dX6_having_16 ?_
  refine lv_iadd hx hb dX6_having_17 ?_
  refine lv_bipush (v := 64) hx hb dX6_having_18 (by decide) ?_
  refine lv_aload_n hx hb dX6_having_20 rfl (lv_at hl 0 rfl) ?_
  refine va_get (D := D) (ci := 5) (v := .int lq_situation) (C := RX6) (T := TX6) (N := 4) hx hb hts lX6_having_X6 hown hK w.1 0 rfl rfl 3 (by decide) (hts _ mX6_having_1) (fun _ h9 => h9) rfl dX6_having_21 ?_
  obtain ⟨u3, hc3, h⟩ := bd_some h
  refine gl_calli C w (va_runS (As := [.int lq_situation]) (rest := [.int (64 : Int32), .int (u1 + ((8 : Int32) * u2))]) ⟨hx, hb, hml, hown, hts⟩ (c_X5_positionOf l D kA ad H.size lq_situation adv_rooms adv_levels adv_goalRoom adv_allDoors dr_state dr_count se_count parent level kind snum xx yy lying switched doors beyond offered opn seenb savedb found distance opening lq_situation hc3) (va_cwS 1 hts gX6_having_X5_positionOf rfl rfl rfl (by decide +kernel) ⟨Nat.le_of_ble_eq_true rfl, Nat.le_of_ble_eq_true rfl⟩) (Wd.preS C w) rfl rfl hl.1 rfl (lv_room (Nat.le_of_ble_eq_true rfl)) dX6_having_24 ⟨Nat.zero_le _, Nat.zero_le _⟩) (fun H locs w => ?_)
  refine lv_imul hx hb dX6_having_27 ?_
  refine lv_iadd hx hb dX6_having_28 ?_
  exact hret _ _ _ _ _ dX6_having_29 w (Option.some.inj h)
set_option maxHeartbeats 4000000 in
set_option maxRecDepth 100000 in
theorem c_X6_having (l : Launch) (D : va_G) (kA : Nat → ClassId) (ad : Nat → Nat) (sz : Nat) (lq_situation : Int32) (adv_rooms : Int32) (adv_levels : Int32) (adv_goalRoom : Int32) (adv_allDoors : Int32) (dr_state : Int64) (dr_count : Int32) (se_count : Int32) (parent : Nat → Int32) (level : Nat → Int32) (kind : Nat → Int32) (snum : Nat → Int32) (xx : Nat → Int32) (yy : Nat → Int32) (lying : Nat → Int32) (switched : Nat → Int32) (doors : Nat → Int32) (beyond : Nat → Nat → Int32) (offered : Nat → Int32) (opn : Nat → Int32) (seenb : Nat → Int64) (savedb : Nat → Int64) (found : Nat → Int32) (distance : Nat → Int32) (opening : Nat → Int32)  {res : Int32} (h : f_X6_having  lq_situation = some res) : Ci l yX6_having wsX6_having rm_X6_having D kA [.ref (ad 0)] sz (wC kA ad lq_situation adv_rooms adv_levels adv_goalRoom adv_allDoors dr_state dr_count se_count parent level kind snum xx yy lying switched doors beyond offered opn seenb savedb found distance opening) (wC kA ad lq_situation adv_rooms adv_levels adv_goalRoom adv_allDoors dr_state dr_count se_count parent level kind snum xx yy lying switched doors beyond offered opn seenb savedb found distance opening) res := by
  refine Met.ofW (cc := cX6_having) (maxL := 1) (ret := (some .int)) (by decide) rfl ?_
  intro p e s m args below meth c s₁ B hml hv
  obtain ⟨rfl, hsz, hP, hK, hD0, hX⟩ := hv
  subst hsz
  have hts := atoms_spec (ws := wsX6_having) B.pre
  have hl := lv_entry ([.ref (ad 0)]) (n := 1) (Nat.le_of_ble_eq_true rfl)
  rw [lg_entry_eq]
  have hlocks := B.notSynchronized
  refine t_X6_having (A := va_A (wC kA ad lq_situation adv_rooms adv_levels adv_goalRoom adv_allDoors dr_state dr_count se_count parent level kind snum xx yy lying switched doors beyond offered opn seenb savedb found distance opening) s.heap.size) ⟨⟨B.exec, B.bytes, hml, findClass_of_methodNamed B.named, hts⟩, hK, fun q h => Or.inr h, hX⟩ (fun r H locs ls pc hd w hres => ?_) ⟨hP, hD0.self, va_S.rf⟩ hl h
  subst hres
  exact W.iret B.exec B.bytes B.returns (fun t ht hW => ⟨⟨_, (), rfl, rfl, by rw [ht]; exact w.1, va_K.moved hW.alike hK, w.2.1⟩, w.2.2.F ht⟩) w.2.2.2.2 hd hlocks
-- ('wC', 'java/util/Arrays', 'fill', '([JJ)V', ('seenb', None))
abbrev rm_J7_fill_d0a16 : Room := { frames := 0, cells := 0, slots := 0, locals := 0 }
def fb_J7_fill_seenb_6  (k6 : Int64 → Int32 → Int32 → (Nat → Int64) → Option ((Nat → Int64))) (x1 : Int64) (x3 : Int32) (x4 : Int32) (seenb : Nat → Int64) : Option ((Nat → Int64)) := if x4 ≤ x3 then (some seenb) else (gd (x3 < 0 ∨ 192 ≤ x3.toNatClampNeg) (k6 x1 (x3 + (1 : Int32)) x4 (vp_updL seenb x3.toNatClampNeg x1)))
set_option maxHeartbeats 4000000 in
set_option maxRecDepth 100000 in
theorem tb_J7_fill_seenb_6 {p : Program} {l : Launch} {e : Env} {s : State} {m : MethodId} {args : Array Value} {below : List Frame} {meth : Method} {c : Code} {Q : State → Prop} {D : va_G} {kA : Nat → ClassId} {ad : Nat → Nat} {A : Nat → Prop} {lq_situation : Int32} {adv_rooms : Int32} {adv_levels : Int32} {adv_goalRoom : Int32} {adv_allDoors : Int32} {dr_state : Int64} {dr_count : Int32} {se_count : Int32} {parent : Nat → Int32} {level : Nat → Int32} {kind : Nat → Int32} {snum : Nat → Int32} {xx : Nat → Int32} {yy : Nat → Int32} {lying : Nat → Int32} {switched : Nat → Int32} {doors : Nat → Int32} {beyond : Nat → Nat → Int32} {offered : Nat → Int32} {opn : Nat → Int32} {seenb : Nat → Int64} {savedb : Nat → Int64} {found : Nat → Int32} {distance : Nat → Int32} {opening : Nat → Int32} {x1 : Int64} {x3 : Int32} {x4 : Int32} {k6 : Int64 → Int32 → Int32 → (Nat → Int64) → Option ((Nat → Int64))} {res : (Nat → Int64)} (C : Cx p s m c args cJ7_fill_d0a16 5 RJ7 wsJ7_fill_d0a16 D kA A) (hk6 : ∀ (x1 : Int64) (x3 : Int32) (x4 : Int32) (seenb : Nat → Int64) (H : Heap) (locs : List Loc) (ls : Array Slot), Wd D A s H locs (wC kA ad lq_situation adv_rooms adv_levels adv_goalRoom adv_allDoors dr_state dr_count se_count parent level kind snum xx yy lying switched doors beyond offered opn seenb savedb found distance opening) → lv_has ls 5 [(0, .ref (ad 31)), (1, .long x1), (3, .int x3), (4, .int x4)] → k6 x1 x3 x4 seenb = some res → W p l e rm_J7_fill_d0a16 s m args below meth c H locs 0 0 Q (F0 m 6 ls [])) (hret : ∀ (q0 : Nat → Int64) (H : Heap) (locs : List Loc) (ls : Array Slot) (pc : Nat), decode cJ7_fill_d0a16 pc = .ok (.return_, 1) → Wd D A s H locs (wC kA ad lq_situation adv_rooms adv_levels adv_goalRoom adv_allDoors dr_state dr_count se_count parent level kind snum xx yy lying switched doors beyond offered opn q0 savedb found distance opening) → q0 = res → W p l e rm_J7_fill_d0a16 s m args below meth c H locs 0 0 Q (F0 m pc ls [])) {H : Heap} {locs : List Loc} {ls : Array Slot} (w : Wd D A s H locs (wC kA ad lq_situation adv_rooms adv_levels adv_goalRoom adv_allDoors dr_state dr_count se_count parent level kind snum xx yy lying switched doors beyond offered opn seenb savedb found distance opening)) (hl : lv_has ls 5 [(0, .ref (ad 31)), (1, .long x1), (3, .int x3), (4, .int x4)]) (h : fb_J7_fill_seenb_6  k6 x1 x3 x4 seenb = some res) : W p l e rm_J7_fill_d0a16 s m args below meth c H locs 0 0 Q (F0 m 6 ls []) := by
  obtain ⟨⟨hx, hb, hml, hown, hts⟩, hK, -, -⟩ := id C
  unfold fb_J7_fill_seenb_6 at h
  refine lv_iload_n hx hb dJ7_fill_d0a16_6 rfl (lv_at hl 2 rfl) ?_
  refine lv_iload hx hb dJ7_fill_d0a16_7 (lv_at hl 3 rfl) ?_
  refine lv_icmp_ge (tgt := 22) hx hb dJ7_fill_d0a16_9 (by decide) (fun g1 => ?_) (fun g1 => ?_)
  · replace h := it_pos g1 h
    exact hret _ _ _ _ _ dJ7_fill_d0a16_22 w (Option.some.inj h)
  · replace h := it_neg g1 h
    refine lv_aload_n hx hb dJ7_fill_d0a16_12 rfl (lv_at hl 0 rfl) ?_
    refine lv_iload_n hx hb dJ7_fill_d0a16_13 rfl (lv_at hl 2 rfl) ?_
    refine lv_lload_n hx hb dJ7_fill_d0a16_14 rfl (lv_at hl 1 rfl) ?_
    obtain ⟨g2, h⟩ := gd_some h
    refine va_last hx hb hK w.1 w.2.1 w.2.2 31 1 rfl rfl g2 dJ7_fill_d0a16_15 (fun H locs hP hD hS => ?_)
    have w : Wd D A s H locs (wC kA ad lq_situation adv_rooms adv_levels adv_goalRoom adv_allDoors dr_state dr_count se_count parent level kind snum xx yy lying switched doors beyond offered opn (vp_updL seenb x3.toNatClampNeg x1) savedb found distance opening) := ⟨hP, hD, hS⟩
    refine lv_iinc (v := (x3 + (1 : Int32))) (lv' := [(3, .int (x3 + (1 : Int32))), (0, .ref (ad 31)), (1, .long x1), (4, .int x4)]) hx hb dJ7_fill_d0a16_16 hl (k := 2) rfl rfl (by decide) rfl (fun ls hl => ?_)
    refine lv_goto (tgt := 6) hx hb dJ7_fill_d0a16_19 (by decide) ?_
    exact hk6 _ _ _ _ H locs ls w (lv_sub hl [1, 2, 0, 3] rfl) h
def f_J7_fill_seenb_6  (x1 : Int64) (x3 : Int32) (x4 : Int32) (seenb : Nat → Int64) : Option ((Nat → Int64)) := lp (σ := Int64 × Int32 × Int32 × (Nat → Int64)) (fun k st => fb_J7_fill_seenb_6  (fun x1 x3 x4 seenb => k (x1, x3, x4, seenb)) st.1 st.2.1 st.2.2.1 st.2.2.2) fuel (x1, x3, x4, seenb)
set_option maxHeartbeats 4000000 in
set_option maxRecDepth 100000 in
theorem t_J7_fill_seenb_6 {p : Program} {l : Launch} {e : Env} {s : State} {m : MethodId} {args : Array Value} {below : List Frame} {meth : Method} {c : Code} {Q : State → Prop} {D : va_G} {kA : Nat → ClassId} {ad : Nat → Nat} {A : Nat → Prop} {lq_situation : Int32} {adv_rooms : Int32} {adv_levels : Int32} {adv_goalRoom : Int32} {adv_allDoors : Int32} {dr_state : Int64} {dr_count : Int32} {se_count : Int32} {parent : Nat → Int32} {level : Nat → Int32} {kind : Nat → Int32} {snum : Nat → Int32} {xx : Nat → Int32} {yy : Nat → Int32} {lying : Nat → Int32} {switched : Nat → Int32} {doors : Nat → Int32} {beyond : Nat → Nat → Int32} {offered : Nat → Int32} {opn : Nat → Int32} {seenb : Nat → Int64} {savedb : Nat → Int64} {found : Nat → Int32} {distance : Nat → Int32} {opening : Nat → Int32} {x1 : Int64} {x3 : Int32} {x4 : Int32} {res : (Nat → Int64)} (C : Cx p s m c args cJ7_fill_d0a16 5 RJ7 wsJ7_fill_d0a16 D kA A) (hret : ∀ (q0 : Nat → Int64) (H : Heap) (locs : List Loc) (ls : Array Slot) (pc : Nat), decode cJ7_fill_d0a16 pc = .ok (.return_, 1) → Wd D A s H locs (wC kA ad lq_situation adv_rooms adv_levels adv_goalRoom adv_allDoors dr_state dr_count se_count parent level kind snum xx yy lying switched doors beyond offered opn q0 savedb found distance opening) → q0 = res → W p l e rm_J7_fill_d0a16 s m args below meth c H locs 0 0 Q (F0 m pc ls [])) {H : Heap} {locs : List Loc} {ls : Array Slot} (w : Wd D A s H locs (wC kA ad lq_situation adv_rooms adv_levels adv_goalRoom adv_allDoors dr_state dr_count se_count parent level kind snum xx yy lying switched doors beyond offered opn seenb savedb found distance opening)) (hl : lv_has ls 5 [(0, .ref (ad 31)), (1, .long x1), (3, .int x3), (4, .int x4)]) (h : f_J7_fill_seenb_6  x1 x3 x4 seenb = some res) : W p l e rm_J7_fill_d0a16 s m args below meth c H locs 0 0 Q (F0 m 6 ls []) := by
  unfold f_J7_fill_seenb_6 at h
  exact lp_ind (P := (fun (st : Int64 × Int32 × Int32 × (Nat → Int64)) => ∀ (H : Heap) (locs : List Loc) (ls : Array Slot), Wd D A s H locs (wC kA ad lq_situation adv_rooms adv_levels adv_goalRoom adv_allDoors dr_state dr_count se_count parent level kind snum xx yy lying switched doors beyond offered opn st.2.2.2 savedb found distance opening) → lv_has ls 5 [(0, .ref (ad 31)), (1, .long st.1), (3, .int st.2.1), (4, .int st.2.2.1)] → W p l e rm_J7_fill_d0a16 s m args below meth c H locs 0 0 Q (F0 m 6 ls []))) (fun k hk st h H locs ls w hl => tb_J7_fill_seenb_6 C  (fun a0 a1 a2 a3 H locs ls w hl h => hk (a0, a1, a2, a3) h H locs ls w hl) hret w hl h) fuel (x1, x3, x4, seenb) h H locs ls w hl
def f_J7_fill_seenb (p1 : Int64) (seenb : Nat → Int64) : Option ((Nat → Int64)) := f_J7_fill_seenb_6 p1 (0 : Int32) (192 : Int32) seenb
set_option maxHeartbeats 4000000 in
set_option maxRecDepth 100000 in
theorem t_J7_fill_seenb {p : Program} {l : Launch} {e : Env} {s : State} {m : MethodId} {args : Array Value} {below : List Frame} {meth : Method} {c : Code} {Q : State → Prop} {D : va_G} {kA : Nat → ClassId} {ad : Nat → Nat} {A : Nat → Prop} {lq_situation : Int32} {adv_rooms : Int32} {adv_levels : Int32} {adv_goalRoom : Int32} {adv_allDoors : Int32} {dr_state : Int64} {dr_count : Int32} {se_count : Int32} {parent : Nat → Int32} {level : Nat → Int32} {kind : Nat → Int32} {snum : Nat → Int32} {xx : Nat → Int32} {yy : Nat → Int32} {lying : Nat → Int32} {switched : Nat → Int32} {doors : Nat → Int32} {beyond : Nat → Nat → Int32} {offered : Nat → Int32} {opn : Nat → Int32} {seenb : Nat → Int64} {savedb : Nat → Int64} {found : Nat → Int32} {distance : Nat → Int32} {opening : Nat → Int32} {p1 : Int64} {res : (Nat → Int64)} (C : Cx p s m c args cJ7_fill_d0a16 5 RJ7 wsJ7_fill_d0a16 D kA A) (hret : ∀ (q0 : Nat → Int64) (H : Heap) (locs : List Loc) (ls : Array Slot) (pc : Nat), decode cJ7_fill_d0a16 pc = .ok (.return_, 1) → Wd D A s H locs (wC kA ad lq_situation adv_rooms adv_levels adv_goalRoom adv_allDoors dr_state dr_count se_count parent level kind snum xx yy lying switched doors beyond offered opn q0 savedb found distance opening) → q0 = res → W p l e rm_J7_fill_d0a16 s m args below meth c H locs 0 0 Q (F0 m pc ls [])) {H : Heap} {locs : List Loc} {ls : Array Slot} (w : Wd D A s H locs (wC kA ad lq_situation adv_rooms adv_levels adv_goalRoom adv_allDoors dr_state dr_count se_count parent level kind snum xx yy lying switched doors beyond offered opn seenb savedb found distance opening)) (hl : lv_has ls 5 [(0, .ref (ad 31)), (1, .long p1)]) (h : f_J7_fill_seenb p1 seenb = some res) : W p l e rm_J7_fill_d0a16 s m args below meth c H locs 0 0 Q (F0 m 0 ls []) := by
  obtain ⟨⟨hx, hb, hml, hown, hts⟩, hK, -, -⟩ := id C
  unfold f_J7_fill_seenb at h
  refine lv_iconst (v := 0) hx hb dJ7_fill_d0a16_0 (by decide) ?_
  refine lv_istore_n (lv' := [(3, .int (0 : Int32)), (0, .ref (ad 31)), (1, .long p1)]) hx hb dJ7_fill_d0a16_1 rfl hl (by decide) rfl (fun ls hl => ?_)
  refine lv_aload_n hx hb dJ7_fill_d0a16_2 rfl (lv_at hl 1 rfl) ?_
  refine va_alen (v := 192) hx hb hK w.1 31 1 rfl rfl rfl dJ7_fill_d0a16_3 ?_
  refine lv_istore (lv' := [(4, .int (192 : Int32)), (3, .int (0 : Int32)), (0, .ref (ad 31)), (1, .long p1)]) hx hb dJ7_fill_d0a16_4 hl (by decide) rfl (fun ls hl => ?_)
  exact t_J7_fill_seenb_6 C  hret w (lv_sub hl [2, 3, 1, 0] rfl) h
set_option maxHeartbeats 4000000 in
set_option maxRecDepth 100000 in
theorem c_J7_fill_seenb (l : Launch) (D : va_G) (kA : Nat → ClassId) (ad : Nat → Nat) (sz : Nat) (lq_situation : Int32) (adv_rooms : Int32) (adv_levels : Int32) (adv_goalRoom : Int32) (adv_allDoors : Int32) (dr_state : Int64) (dr_count : Int32) (se_count : Int32) (parent : Nat → Int32) (level : Nat → Int32) (kind : Nat → Int32) (snum : Nat → Int32) (xx : Nat → Int32) (yy : Nat → Int32) (lying : Nat → Int32) (switched : Nat → Int32) (doors : Nat → Int32) (beyond : Nat → Nat → Int32) (offered : Nat → Int32) (opn : Nat → Int32) (seenb : Nat → Int64) (savedb : Nat → Int64) (found : Nat → Int32) (distance : Nat → Int32) (opening : Nat → Int32) (p1 : Int64) {res : (Nat → Int64)} (h : f_J7_fill_seenb p1 seenb = some res) : Cv l yJ7_fill_d0a16 wsJ7_fill_d0a16 rm_J7_fill_d0a16 D kA [.ref (ad 31), .long p1] sz (wC kA ad lq_situation adv_rooms adv_levels adv_goalRoom adv_allDoors dr_state dr_count se_count parent level kind snum xx yy lying switched doors beyond offered opn seenb savedb found distance opening) (wC kA ad lq_situation adv_rooms adv_levels adv_goalRoom adv_allDoors dr_state dr_count se_count parent level kind snum xx yy lying switched doors beyond offered opn res savedb found distance opening) := by
  refine Met.ofW (cc := cJ7_fill_d0a16) (maxL := 5) (ret := none) (by decide) rfl ?_
  intro p e s m args below meth c s₁ B hml hv
  obtain ⟨rfl, hsz, hP, hK, hD0, hX⟩ := hv
  subst hsz
  have hts := atoms_spec (ws := wsJ7_fill_d0a16) B.pre
  have hl := lv_entry ([.ref (ad 31), .long p1]) (n := 5) (Nat.le_of_ble_eq_true rfl)
  rw [lg_entry_eq]
  have hlocks := B.notSynchronized
  refine t_J7_fill_seenb (A := va_A (wC kA ad lq_situation adv_rooms adv_levels adv_goalRoom adv_allDoors dr_state dr_count se_count parent level kind snum xx yy lying switched doors beyond offered opn seenb savedb found distance opening) s.heap.size) ⟨⟨B.exec, B.bytes, hml, findClass_of_methodNamed B.named, hts⟩, hK, fun q h => Or.inr h, hX⟩ (fun q0 H locs ls pc hd w hres => ?_) ⟨hP, hD0.self, va_S.rf⟩ hl h
  subst hres
  exact W.vret B.exec B.bytes B.returns (fun t ht hW => ⟨⟨(), rfl, trivial, by rw [ht]; exact w.1, va_K.moved hW.alike hK, w.2.1⟩, w.2.2.F ht⟩) w.2.2.2.2 hd hlocks
-- ('wC', 'LockQuest$Marks', 'clear', '()V', ('seen',))
abbrev rm_X3_clear : Room := { frames := 1, cells := 0, slots := 0, locals := 24 }
set_option maxRecDepth 20000 in
theorem lX3_clear_X3 : ∀ w ∈ wsX30, w ∈ wsX3_clear := by decide +kernel
set_option maxRecDepth 20000 in
theorem mX3_clear_1 : Cond.fieldLink RX3 9 "LockQuest$Marks" "bits" "[J" ∈ wsX3_clear := by decide +kernel
def f_X3_clear_seen  (seenb : Nat → Int64) : Option ((Nat → Int64)) := (f_J7_fill_seenb (0 : Int64) seenb).bind (fun u1 => some u1)
set_option maxHeartbeats 4000000 in
set_option maxRecDepth 100000 in
theorem t_X3_clear_seen {p : Program} {l : Launch} {e : Env} {s : State} {m : MethodId} {args : Array Value} {below : List Frame} {meth : Method} {c : Code} {Q : State → Prop} {D : va_G} {kA : Nat → ClassId} {ad : Nat → Nat} {A : Nat → Prop} {lq_situation : Int32} {adv_rooms : Int32} {adv_levels : Int32} {adv_goalRoom : Int32} {adv_allDoors : Int32} {dr_state : Int64} {dr_count : Int32} {se_count : Int32} {parent : Nat → Int32} {level : Nat → Int32} {kind : Nat → Int32} {snum : Nat → Int32} {xx : Nat → Int32} {yy : Nat → Int32} {lying : Nat → Int32} {switched : Nat → Int32} {doors : Nat → Int32} {beyond : Nat → Nat → Int32} {offered : Nat → Int32} {opn : Nat → Int32} {seenb : Nat → Int64} {savedb : Nat → Int64} {found : Nat → Int32} {distance : Nat → Int32} {opening : Nat → Int32}  {res : (Nat → Int64)} (C : Cx p s m c args cX3_clear 1 RX3 wsX3_clear D kA A) (hret : ∀ (q0 : Nat → Int64) (H : Heap) (locs : List Loc) (ls : Array Slot) (pc : Nat), decode cX3_clear pc = .ok (.return_, 1) → Wd D A s H locs (wC kA ad lq_situation adv_rooms adv_levels adv_goalRoom adv_allDoors dr_state dr_count se_count parent level kind snum xx yy lying switched doors beyond offered opn q0 savedb found distance opening) → q0 = res → W p l e rm_X3_clear s m args below meth c H locs 0 0 Q (F0 m pc ls [])) {H : Heap} {locs : List Loc} {ls : Array Slot} (w : Wd D A s H locs (wC kA ad lq_situation adv_rooms adv_levels adv_goalRoom adv_allDoors dr_state dr_count se_count parent level kind snum xx yy lying switched doors beyond offered opn seenb savedb found distance opening)) (hl : lv_has ls 1 [(0, .ref (ad 5))]) (h : f_X3_clear_seen  seenb = some res) : W p l e rm_X3_clear s m args below meth c H locs 0 0 Q (F0 m 0 ls []) := by
  obtain ⟨⟨hx, hb, hml, hown, hts⟩, hK, -, -⟩ := id C
  unfold f_X3_clear_seen at h
  refine lv_aload_n hx hb dX3_clear_0 rfl (lv_at hl 0 rfl) ?_
  refine va_get (D := D) (ci := 3) (v := .ref (ad 31)) (C := RX3) (T := TX3) (N := 1) hx hb hts lX3_clear_X3 hown hK w.1 5 rfl rfl 0 (by decide) (hts _ mX3_clear_1) (fun _ h9 => h9) rfl dX3_clear_1 ?_
  refine lv_lconst (v := 0) hx hb dX3_clear_4 (by decide) ?_
  obtain ⟨u1, hc1, h⟩ := bd_some h
  refine gl_callv C w (va_runS (As := [.ref (ad 31), .long (0 : Int64)]) (rest := []) ⟨hx, hb, hml, hown, hts⟩ (c_J7_fill_seenb l D kA ad H.size lq_situation adv_rooms adv_levels adv_goalRoom adv_allDoors dr_state dr_count se_count parent level kind snum xx yy lying switched doors beyond offered opn seenb savedb found distance opening (0 : Int64) hc1) (va_cwS 2 hts gX3_clear_J7_fill_d0a16 rfl rfl rfl (by decide +kernel) ⟨Nat.le_of_ble_eq_true rfl, Nat.le_of_ble_eq_true rfl⟩) (Wd.preS C w) rfl rfl hl.1 rfl (lv_room (Nat.le_of_ble_eq_true rfl)) dX3_clear_5 ⟨Nat.zero_le _, Nat.zero_le _⟩) (fun H locs w => ?_)
  exact hret _ _ _ _ _ dX3_clear_8 w (Option.some.inj h)
set_option maxHeartbeats 4000000 in
set_option maxRecDepth 100000 in
theorem c_X3_clear_seen (l : Launch) (D : va_G) (kA : Nat → ClassId) (ad : Nat → Nat) (sz : Nat) (lq_situation : Int32) (adv_rooms : Int32) (adv_levels : Int32) (adv_goalRoom : Int32) (adv_allDoors : Int32) (dr_state : Int64) (dr_count : Int32) (se_count : Int32) (parent : Nat → Int32) (level : Nat → Int32) (kind : Nat → Int32) (snum : Nat → Int32) (xx : Nat → Int32) (yy : Nat → Int32) (lying : Nat → Int32) (switched : Nat → Int32) (doors : Nat → Int32) (beyond : Nat → Nat → Int32) (offered : Nat → Int32) (opn : Nat → Int32) (seenb : Nat → Int64) (savedb : Nat → Int64) (found : Nat → Int32) (distance : Nat → Int32) (opening : Nat → Int32)  {res : (Nat → Int64)} (h : f_X3_clear_seen  seenb = some res) : Cv l yX3_clear wsX3_clear rm_X3_clear D kA [.ref (ad 5)] sz (wC kA ad lq_situation adv_rooms adv_levels adv_goalRoom adv_allDoors dr_state dr_count se_count parent level kind snum xx yy lying switched doors beyond offered opn seenb savedb found distance opening) (wC kA ad lq_situation adv_rooms adv_levels adv_goalRoom adv_allDoors dr_state dr_count se_count parent level kind snum xx yy lying switched doors beyond offered opn res savedb found distance opening) := by
  refine Met.ofW (cc := cX3_clear) (maxL := 1) (ret := none) (by decide) rfl ?_
  intro p e s m args below meth c s₁ B hml hv
  obtain ⟨rfl, hsz, hP, hK, hD0, hX⟩ := hv
  subst hsz
  have hts := atoms_spec (ws := wsX3_clear) B.pre
  have hl := lv_entry ([.ref (ad 5)]) (n := 1) (Nat.le_of_ble_eq_true rfl)
  rw [lg_entry_eq]
  have hlocks := B.notSynchronized
  refine t_X3_clear_seen (A := va_A (wC kA ad lq_situation adv_rooms adv_levels adv_goalRoom adv_allDoors dr_state dr_count se_count parent level kind snum xx yy lying switched doors beyond offered opn seenb savedb found distance opening) s.heap.size) ⟨⟨B.exec, B.bytes, hml, findClass_of_methodNamed B.named, hts⟩, hK, fun q h => Or.inr h, hX⟩ (fun q0 H locs ls pc hd w hres => ?_) ⟨hP, hD0.self, va_S.rf⟩ hl h
  subst hres
  exact W.vret B.exec B.bytes B.returns (fun t ht hW => ⟨⟨(), rfl, trivial, by rw [ht]; exact w.1, va_K.moved hW.alike hK, w.2.1⟩, w.2.2.F ht⟩) w.2.2.2.2 hd hlocks
-- ('wC', 'LockQuest$Marks', 'add', '(I)V', ('seen', None))
abbrev rm_X3_add : Room := { frames := 0, cells := 0, slots := 0, locals := 0 }
set_option maxRecDepth 20000 in
theorem lX3_add_X3 : ∀ w ∈ wsX30, w ∈ wsX3_add := by decide +kernel
set_option maxRecDepth 20000 in
theorem mX3_add_1 : Cond.fieldLink RX3 9 "LockQuest$Marks" "bits" "[J" ∈ wsX3_add := by decide +kernel
def f_X3_add_seen (p0 : Int32) (seenb : Nat → Int64) : Option ((Nat → Int64)) := gd ((p0 >>> ((6 : Int32) &&& 31)) < 0 ∨ 192 ≤ (p0 >>> ((6 : Int32) &&& 31)).toNatClampNeg) (gd ((p0 >>> ((6 : Int32) &&& 31)) < 0 ∨ 192 ≤ (p0 >>> ((6 : Int32) &&& 31)).toNatClampNeg) (some (vp_updL seenb (p0 >>> ((6 : Int32) &&& 31)).toNatClampNeg ((seenb (p0 >>> ((6 : Int32) &&& 31)).toNatClampNeg) ||| ((1 : Int64) <<< ((p0 &&& (63 : Int32)).toInt64 &&& 63))))))
set_option maxHeartbeats 4000000 in
set_option maxRecDepth 100000 in
theorem t_X3_add_seen {p : Program} {l : Launch} {e : Env} {s : State} {m : MethodId} {args : Array Value} {below : List Frame} {meth : Method} {c : Code} {Q : State → Prop} {D : va_G} {kA : Nat → ClassId} {ad : Nat → Nat} {A : Nat → Prop} {lq_situation : Int32} {adv_rooms : Int32} {adv_levels : Int32} {adv_goalRoom : Int32} {adv_allDoors : Int32} {dr_state : Int64} {dr_count : Int32} {se_count : Int32} {parent : Nat → Int32} {level : Nat → Int32} {kind : Nat → Int32} {snum : Nat → Int32} {xx : Nat → Int32} {yy : Nat → Int32} {lying : Nat → Int32} {switched : Nat → Int32} {doors : Nat → Int32} {beyond : Nat → Nat → Int32} {offered : Nat → Int32} {opn : Nat → Int32} {seenb : Nat → Int64} {savedb : Nat → Int64} {found : Nat → Int32} {distance : Nat → Int32} {opening : Nat → Int32} {p0 : Int32} {res : (Nat → Int64)} (C : Cx p s m c args cX3_add 2 RX3 wsX3_add D kA A) (hret : ∀ (q0 : Nat → Int64) (H : Heap) (locs : List Loc) (ls : Array Slot) (pc : Nat), decode cX3_add pc = .ok (.return_, 1) → Wd D A s H locs (wC kA ad lq_situation adv_rooms adv_levels adv_goalRoom adv_allDoors dr_state dr_count se_count parent level kind snum xx yy lying switched doors beyond offered opn q0 savedb found distance opening) → q0 = res → W p l e rm_X3_add s m args below meth c H locs 0 0 Q (F0 m pc ls [])) {H : Heap} {locs : List Loc} {ls : Array Slot} (w : Wd D A s H locs (wC kA ad lq_situation adv_rooms adv_levels adv_goalRoom adv_allDoors dr_state dr_count se_count parent level kind snum xx yy lying switched doors beyond offered opn seenb savedb found distance opening)) (hl : lv_has ls 2 [(0, .ref (ad 5)), (1, .int p0)]) (h : f_X3_add_seen p0 seenb = some res) : W p l e rm_X3_add s m args below meth c H locs 0 0 Q (F0 m 0 ls []) := by
  obtain ⟨⟨hx, hb, hml, hown, hts⟩, hK, -, -⟩ := id C
  unfold f_X3_add_seen at h
  refine lv_aload_n hx hb dX3_add_0 rfl (lv_at hl 0 rfl) ?_
  refine va_get (D := D) (ci := 3) (v := .ref (ad 31)) (C := RX3) (T := TX3) (N := 1) hx hb hts lX3_add_X3 hown hK w.1 5 rfl rfl 0 (by decide) (hts _ mX3_add_1) (fun _ h9 => h9) rfl dX3_add_1 ?_
  refine lv_iload_n hx hb dX3_add_4 rfl (lv_at hl 1 rfl) ?_
  refine lv_bipush (v := 6) hx hb dX3_add_5 (by decide) ?_
  refine lv_ishr hx hb dX3_add_7 ?_
  refine lv_dup2_11 hx hb dX3_add_8 rfl rfl ?_
  obtain ⟨g1, h⟩ := gd_some h
  refine va_lald hx hb hK w.1 31 1 rfl rfl g1 dX3_add_9 ?_
  refine lv_lconst (v := 1) hx hb dX3_add_10 (by decide) ?_
  refine lv_iload_n hx hb dX3_add_11 rfl (lv_at hl 1 rfl) ?_
  refine lv_bipush (v := 63) hx hb dX3_add_12 (by decide) ?_
  refine lv_iand hx hb dX3_add_14 ?_
  refine lv_lshl hx hb dX3_add_15 rfl ?_
  refine lv_lor hx hb dX3_add_16 ?_
  obtain ⟨g2, h⟩ := gd_some h
  refine va_last hx hb hK w.1 w.2.1 w.2.2 31 1 rfl rfl g2 dX3_add_17 (fun H locs hP hD hS => ?_)
  have w : Wd D A s H locs (wC kA ad lq_situation adv_rooms adv_levels adv_goalRoom adv_allDoors dr_state dr_count se_count parent level kind snum xx yy lying switched doors beyond offered opn (vp_updL seenb (p0 >>> ((6 : Int32) &&& 31)).toNatClampNeg ((seenb (p0 >>> ((6 : Int32) &&& 31)).toNatClampNeg) ||| ((1 : Int64) <<< ((p0 &&& (63 : Int32)).toInt64 &&& 63)))) savedb found distance opening) := ⟨hP, hD, hS⟩
  exact hret _ _ _ _ _ dX3_add_18 w (Option.some.inj h)
set_option maxHeartbeats 4000000 in
set_option maxRecDepth 100000 in
theorem c_X3_add_seen (l : Launch) (D : va_G) (kA : Nat → ClassId) (ad : Nat → Nat) (sz : Nat) (lq_situation : Int32) (adv_rooms : Int32) (adv_levels : Int32) (adv_goalRoom : Int32) (adv_allDoors : Int32) (dr_state : Int64) (dr_count : Int32) (se_count : Int32) (parent : Nat → Int32) (level : Nat → Int32) (kind : Nat → Int32) (snum : Nat → Int32) (xx : Nat → Int32) (yy : Nat → Int32) (lying : Nat → Int32) (switched : Nat → Int32) (doors : Nat → Int32) (beyond : Nat → Nat → Int32) (offered : Nat → Int32) (opn : Nat → Int32) (seenb : Nat → Int64) (savedb : Nat → Int64) (found : Nat → Int32) (distance : Nat → Int32) (opening : Nat → Int32) (p0 : Int32) {res : (Nat → Int64)} (h : f_X3_add_seen p0 seenb = some res) : Cv l yX3_add wsX3_add rm_X3_add D kA [.ref (ad 5), .int p0] sz (wC kA ad lq_situation adv_rooms adv_levels adv_goalRoom adv_allDoors dr_state dr_count se_count parent level kind snum xx yy lying switched doors beyond offered opn seenb savedb found distance opening) (wC kA ad lq_situation adv_rooms adv_levels adv_goalRoom adv_allDoors dr_state dr_count se_count parent level kind snum xx yy lying switched doors beyond offered opn res savedb found distance opening) := by
  refine Met.ofW (cc := cX3_add) (maxL := 2) (ret := none) (by decide) rfl ?_
  intro p e s m args below meth c s₁ B hml hv
  obtain ⟨rfl, hsz, hP, hK, hD0, hX⟩ := hv
  subst hsz
  have hts := atoms_spec (ws := wsX3_add) B.pre
  have hl := lv_entry ([.ref (ad 5), .int p0]) (n := 2) (Nat.le_of_ble_eq_true rfl)
  rw [lg_entry_eq]
  have hlocks := B.notSynchronized
  refine t_X3_add_seen (A := va_A (wC kA ad lq_situation adv_rooms adv_levels adv_goalRoom adv_allDoors dr_state dr_count se_count parent level kind snum xx yy lying switched doors beyond offered opn seenb savedb found distance opening) s.heap.size) ⟨⟨B.exec, B.bytes, hml, findClass_of_methodNamed B.named, hts⟩, hK, fun q h => Or.inr h, hX⟩ (fun q0 H locs ls pc hd w hres => ?_) ⟨hP, hD0.self, va_S.rf⟩ hl h
  subst hres
  exact W.vret B.exec B.bytes B.returns (fun t ht hW => ⟨⟨(), rfl, trivial, by rw [ht]; exact w.1, va_K.moved hW.alike hK, w.2.1⟩, w.2.2.F ht⟩) w.2.2.2.2 hd hlocks
-- ('wC', 'LockQuest$Search', 'begin', '(I)V', ('se', None))
abbrev rm_X4_begin : Room := { frames := 2, cells := 0, slots := 0, locals := 44 }
set_option maxRecDepth 20000 in
theorem lX4_begin_X4 : ∀ w ∈ wsX40, w ∈ wsX4_begin := by decide +kernel
set_option maxRecDepth 20000 in
theorem mX4_begin_1 : Cond.fieldLink RX4 12 "LockQuest$Search" "seen" "LLockQuest$Marks;" ∈ wsX4_begin := by decide +kernel
set_option maxRecDepth 20000 in
theorem mX4_begin_2 : Cond.fieldLink RX4 23 "LockQuest$Search" "found" "[I" ∈ wsX4_begin := by decide +kernel
set_option maxRecDepth 20000 in
theorem mX4_begin_3 : Cond.fieldLink RX4 27 "LockQuest$Search" "distance" "[I" ∈ wsX4_begin := by decide +kernel
set_option maxRecDepth 20000 in
theorem mX4_begin_4 : Cond.fieldLink RX4 41 "LockQuest$Search" "count" "I" ∈ wsX4_begin := by decide +kernel
def f_X4_begin (p0 : Int32) (se_count : Int32) (seenb : Nat → Int64) (found : Nat → Int32) (distance : Nat → Int32) : Option (Int32 × (Nat → Int64) × (Nat → Int32) × (Nat → Int32)) := (f_X3_clear_seen seenb).bind (fun u1 => (f_X3_add_seen p0 u1).bind (fun u2 => gd ((0 : Int32) < 0 ∨ 12288 ≤ (0 : Int32).toNatClampNeg) (gd ((0 : Int32) < 0 ∨ 12288 ≤ (0 : Int32).toNatClampNeg) (some ((1 : Int32), u2, (upd found (0 : Int32).toNatClampNeg p0), (upd distance (0 : Int32).toNatClampNeg (0 : Int32)))))))
set_option maxHeartbeats 4000000 in
set_option maxRecDepth 100000 in
theorem t_X4_begin {p : Program} {l : Launch} {e : Env} {s : State} {m : MethodId} {args : Array Value} {below : List Frame} {meth : Method} {c : Code} {Q : State → Prop} {D : va_G} {kA : Nat → ClassId} {ad : Nat → Nat} {A : Nat → Prop} {lq_situation : Int32} {adv_rooms : Int32} {adv_levels : Int32} {adv_goalRoom : Int32} {adv_allDoors : Int32} {dr_state : Int64} {dr_count : Int32} {se_count : Int32} {parent : Nat → Int32} {level : Nat → Int32} {kind : Nat → Int32} {snum : Nat → Int32} {xx : Nat → Int32} {yy : Nat → Int32} {lying : Nat → Int32} {switched : Nat → Int32} {doors : Nat → Int32} {beyond : Nat → Nat → Int32} {offered : Nat → Int32} {opn : Nat → Int32} {seenb : Nat → Int64} {savedb : Nat → Int64} {found : Nat → Int32} {distance : Nat → Int32} {opening : Nat → Int32} {p0 : Int32} {res : Int32 × (Nat → Int64) × (Nat → Int32) × (Nat → Int32)} (C : Cx p s m c args cX4_begin 2 RX4 wsX4_begin D kA A) (hret : ∀ (q0 : Int32) (q1 : Nat → Int64) (q2 : Nat → Int32) (q3 : Nat → Int32) (H : Heap) (locs : List Loc) (ls : Array Slot) (pc : Nat), decode cX4_begin pc = .ok (.return_, 1) → Wd D A s H locs (wC kA ad lq_situation adv_rooms adv_levels adv_goalRoom adv_allDoors dr_state dr_count q0 parent level kind snum xx yy lying switched doors beyond offered opn q1 savedb q2 q3 opening) → (q0, q1, q2, q3) = res → W p l e rm_X4_begin s m args below meth c H locs 0 0 Q (F0 m pc ls [])) {H : Heap} {locs : List Loc} {ls : Array Slot} (w : Wd D A s H locs (wC kA ad lq_situation adv_rooms adv_levels adv_goalRoom adv_allDoors dr_state dr_count se_count parent level kind snum xx yy lying switched doors beyond offered opn seenb savedb found distance opening)) (hl : lv_has ls 2 [(0, .ref (ad 4)), (1, .int p0)]) (h : f_X4_begin p0 se_count seenb found distance = some res) : W p l e rm_X4_begin s m args below meth c H locs 0 0 Q (F0 m 0 ls []) := by
  obtain ⟨⟨hx, hb, hml, hown, hts⟩, hK, -, -⟩ := id C
  unfold f_X4_begin at h
  refine lv_aload_n hx hb dX4_begin_0 rfl (lv_at hl 0 rfl) ?_
  refine va_get (D := D) (ci := 4) (v := .ref (ad 5)) (C := RX4) (T := TX4) (N := 7) hx hb hts lX4_begin_X4 hown hK w.1 4 rfl rfl 1 (by decide) (hts _ mX4_begin_1) (fun _ h9 => h9) rfl dX4_begin_1 ?_
  obtain ⟨u1, hc1, h⟩ := bd_some h
  refine gl_callv C w (va_runV (As := []) (rest := []) ⟨hx, hb, hml, hown, hts⟩ (c_X3_clear_seen l D kA ad H.size lq_situation adv_rooms adv_levels adv_goalRoom adv_allDoors dr_state dr_count se_count parent level kind snum xx yy lying switched doors beyond offered opn seenb savedb found distance opening  hc1) (cwV 0 hts gX4_begin_X3_clear rfl rfl rfl (by decide +kernel) ⟨Nat.le_of_ble_eq_true rfl, Nat.le_of_ble_eq_true rfl⟩) (Wd.preV C w (q0 := 5) (ci := 3) rfl rfl rfl) rfl rfl hl.1 rfl (lv_room (Nat.le_of_ble_eq_true rfl)) dX4_begin_4 ⟨Nat.zero_le _, Nat.zero_le _⟩) (fun H locs w => ?_)
  refine lv_aload_n hx hb dX4_begin_7 rfl (lv_at hl 0 rfl) ?_
  refine va_get (D := D) (ci := 4) (v := .ref (ad 5)) (C := RX4) (T := TX4) (N := 7) hx hb hts lX4_begin_X4 hown hK w.1 4 rfl rfl 1 (by decide) (hts _ mX4_begin_1) (fun _ h9 => h9) rfl dX4_begin_8 ?_
  refine lv_iload_n hx hb dX4_begin_11 rfl (lv_at hl 1 rfl) ?_
  obtain ⟨u2, hc2, h⟩ := bd_some h
  refine gl_callv C w (va_runV (As := [.int p0]) (rest := []) ⟨hx, hb, hml, hown, hts⟩ (c_X3_add_seen l D kA ad H.size lq_situation adv_rooms adv_levels adv_goalRoom adv_allDoors dr_state dr_count se_count parent level kind snum xx yy lying switched doors beyond offered opn u1 savedb found distance opening p0 hc2) (cwV 1 hts gX4_begin_X3_add rfl rfl rfl (by decide +kernel) ⟨Nat.le_of_ble_eq_true rfl, Nat.le_of_ble_eq_true rfl⟩) (Wd.preV C w (q0 := 5) (ci := 3) rfl rfl rfl) rfl rfl hl.1 rfl (lv_room (Nat.le_of_ble_eq_true rfl)) dX4_begin_12 ⟨Nat.zero_le _, Nat.zero_le _⟩) (fun H locs w => ?_)
  refine lv_aload_n hx hb dX4_begin_15 rfl (lv_at hl 0 rfl) ?_
  refine va_get (D := D) (ci := 4) (v := .ref (ad 33)) (C := RX4) (T := TX4) (N := 7) hx hb hts lX4_begin_X4 hown hK w.1 4 rfl rfl 3 (by decide) (hts _ mX4_begin_2) (fun _ h9 => h9) rfl dX4_begin_16 ?_
  refine lv_iconst (v := 0) hx hb dX4_begin_19 (by decide) ?_
  refine lv_iload_n hx hb dX4_begin_20 rfl (lv_at hl 1 rfl) ?_
  obtain ⟨g3, h⟩ := gd_some h
  refine va_iast hx hb hK w.1 w.2.1 w.2.2 33 0 rfl rfl g3 dX4_begin_21 (fun H locs hP hD hS => ?_)
  have w : Wd D A s H locs (wC kA ad lq_situation adv_rooms adv_levels adv_goalRoom adv_allDoors dr_state dr_count se_count parent level kind snum xx yy lying switched doors beyond offered opn u2 savedb (upd found (0 : Int32).toNatClampNeg p0) distance opening) := ⟨hP, hD, hS⟩
  refine lv_aload_n hx hb dX4_begin_22 rfl (lv_at hl 0 rfl) ?_
  refine va_get (D := D) (ci := 4) (v := .ref (ad 34)) (C := RX4) (T := TX4) (N := 7) hx hb hts lX4_begin_X4 hown hK w.1 4 rfl rfl 4 (by decide) (hts _ mX4_begin_3) (fun _ h9 => h9) rfl dX4_begin_23 ?_
  refine lv_iconst (v := 0) hx hb dX4_begin_26 (by decide) ?_
  refine lv_iconst (v := 0) hx hb dX4_begin_27 (by decide) ?_
  obtain ⟨g4, h⟩ := gd_some h
  refine va_iast hx hb hK w.1 w.2.1 w.2.2 34 0 rfl rfl g4 dX4_begin_28 (fun H locs hP hD hS => ?_)
  have w : Wd D A s H locs (wC kA ad lq_situation adv_rooms adv_levels adv_goalRoom adv_allDoors dr_state dr_count se_count parent level kind snum xx yy lying switched doors beyond offered opn u2 savedb (upd found (0 : Int32).toNatClampNeg p0) (upd distance (0 : Int32).toNatClampNeg (0 : Int32)) opening) := ⟨hP, hD, hS⟩
  refine lv_aload_n hx hb dX4_begin_29 rfl (lv_at hl 0 rfl) ?_
  refine lv_iconst (v := 1) hx hb dX4_begin_30 (by decide) ?_
  refine va_put (D := D) (ci := 4) (v := .int (1 : Int32)) (ty := .int) (C := RX4) (T := TX4) (N := 7) hx hb hts lX4_begin_X4 tyX4 tyX4_ok nmX4 hown hK w.1 w.2.1 w.2.2 4 rfl rfl 6 (by decide) (hts _ mX4_begin_4) (fun _ h9 => h9) rfl (by decide +kernel) rfl rfl (Nat.le_of_ble_eq_true rfl) dX4_begin_31 (fun H locs hP hD hS => ?_)
  have w : Wd D A s H locs (wC kA ad lq_situation adv_rooms adv_levels adv_goalRoom adv_allDoors dr_state dr_count (1 : Int32) parent level kind snum xx yy lying switched doors beyond offered opn u2 savedb (upd found (0 : Int32).toNatClampNeg p0) (upd distance (0 : Int32).toNatClampNeg (0 : Int32)) opening) := ⟨hP, hD, hS⟩
  exact hret _ _ _ _ _ _ _ _ dX4_begin_34 w (Option.some.inj h)
set_option maxHeartbeats 4000000 in
set_option maxRecDepth 100000 in
theorem c_X4_begin (l : Launch) (D : va_G) (kA : Nat → ClassId) (ad : Nat → Nat) (sz : Nat) (lq_situation : Int32) (adv_rooms : Int32) (adv_levels : Int32) (adv_goalRoom : Int32) (adv_allDoors : Int32) (dr_state : Int64) (dr_count : Int32) (se_count : Int32) (parent : Nat → Int32) (level : Nat → Int32) (kind : Nat → Int32) (snum : Nat → Int32) (xx : Nat → Int32) (yy : Nat → Int32) (lying : Nat → Int32) (switched : Nat → Int32) (doors : Nat → Int32) (beyond : Nat → Nat → Int32) (offered : Nat → Int32) (opn : Nat → Int32) (seenb : Nat → Int64) (savedb : Nat → Int64) (found : Nat → Int32) (distance : Nat → Int32) (opening : Nat → Int32) (p0 : Int32) {res : Int32 × (Nat → Int64) × (Nat → Int32) × (Nat → Int32)} (h : f_X4_begin p0 se_count seenb found distance = some res) : Cv l yX4_begin wsX4_begin rm_X4_begin D kA [.ref (ad 4), .int p0] sz (wC kA ad lq_situation adv_rooms adv_levels adv_goalRoom adv_allDoors dr_state dr_count se_count parent level kind snum xx yy lying switched doors beyond offered opn seenb savedb found distance opening) (wC kA ad lq_situation adv_rooms adv_levels adv_goalRoom adv_allDoors dr_state dr_count res.1 parent level kind snum xx yy lying switched doors beyond offered opn res.2.1 savedb res.2.2.1 res.2.2.2 opening) := by
  refine Met.ofW (cc := cX4_begin) (maxL := 2) (ret := none) (by decide) rfl ?_
  intro p e s m args below meth c s₁ B hml hv
  obtain ⟨rfl, hsz, hP, hK, hD0, hX⟩ := hv
  subst hsz
  have hts := atoms_spec (ws := wsX4_begin) B.pre
  have hl := lv_entry ([.ref (ad 4), .int p0]) (n := 2) (Nat.le_of_ble_eq_true rfl)
  rw [lg_entry_eq]
  have hlocks := B.notSynchronized
  refine t_X4_begin (A := va_A (wC kA ad lq_situation adv_rooms adv_levels adv_goalRoom adv_allDoors dr_state dr_count se_count parent level kind snum xx yy lying switched doors beyond offered opn seenb savedb found distance opening) s.heap.size) ⟨⟨B.exec, B.bytes, hml, findClass_of_methodNamed B.named, hts⟩, hK, fun q h => Or.inr h, hX⟩ (fun q0 q1 q2 q3 H locs ls pc hd w hres => ?_) ⟨hP, hD0.self, va_S.rf⟩ hl h
  subst hres
  exact W.vret B.exec B.bytes B.returns (fun t ht hW => ⟨⟨(), rfl, trivial, by rw [ht]; exact w.1, va_K.moved hW.alike hK, w.2.1⟩, w.2.2.F ht⟩) w.2.2.2.2 hd hlocks
-- ('wC', 'LockQuest$Search', 'isAtGoal', '(I)Z', ('se', None))
abbrev rm_X4_isAtGoal : Room := { frames := 1, cells := 0, slots := 0, locals := 20 }
set_option maxRecDepth 20000 in
theorem lX4_isAtGoal_X4 : ∀ w ∈ wsX40, w ∈ wsX4_isAtGoal := by decide +kernel
set_option maxRecDepth 20000 in
theorem mX4_isAtGoal_1 : Cond.fieldLink RX4 33 "LockQuest$Search" "adventure" "LLockQuest$Adventure;" ∈ wsX4_isAtGoal := by decide +kernel
set_option maxRecDepth 20000 in
theorem lX4_isAtGoal_X0 : ∀ w ∈ wsX00, w ∈ wsX4_isAtGoal := by decide +kernel
set_option maxRecDepth 20000 in
theorem mX4_isAtGoal_3 : Cond.fieldLink RX4 87 "LockQuest$Adventure" "goalRoom" "I" ∈ wsX4_isAtGoal := by decide +kernel
def f_X4_isAtGoal (p0 : Int32) (adv_goalRoom : Int32) : Option (Int32) := (f_X5_roomOf p0).bind (fun u1 => if u1 = adv_goalRoom then (some (1 : Int32)) else (some (0 : Int32)))
set_option maxHeartbeats 4000000 in
set_option maxRecDepth 100000 in
theorem t_X4_isAtGoal {p : Program} {l : Launch} {e : Env} {s : State} {m : MethodId} {args : Array Value} {below : List Frame} {meth : Method} {c : Code} {Q : State → Prop} {D : va_G} {kA : Nat → ClassId} {ad : Nat → Nat} {A : Nat → Prop} {lq_situation : Int32} {adv_rooms : Int32} {adv_levels : Int32} {adv_goalRoom : Int32} {adv_allDoors : Int32} {dr_state : Int64} {dr_count : Int32} {se_count : Int32} {parent : Nat → Int32} {level : Nat → Int32} {kind : Nat → Int32} {snum : Nat → Int32} {xx : Nat → Int32} {yy : Nat → Int32} {lying : Nat → Int32} {switched : Nat → Int32} {doors : Nat → Int32} {beyond : Nat → Nat → Int32} {offered : Nat → Int32} {opn : Nat → Int32} {seenb : Nat → Int64} {savedb : Nat → Int64} {found : Nat → Int32} {distance : Nat → Int32} {opening : Nat → Int32} {p0 : Int32} {res : Int32} (C : Cx p s m c args cX4_isAtGoal 2 RX4 wsX4_isAtGoal D kA A) (hret : ∀ (r : Int32) (H : Heap) (locs : List Loc) (ls : Array Slot) (pc : Nat), decode cX4_isAtGoal pc = .ok (.ireturn, 1) → narrow .boolean (.int r) = .int r → Wd D A s H locs (wC kA ad lq_situation adv_rooms adv_levels adv_goalRoom adv_allDoors dr_state dr_count se_count parent level kind snum xx yy lying switched doors beyond offered opn seenb savedb found distance opening) → r = res → W p l e rm_X4_isAtGoal s m args below meth c H locs 0 0 Q (F0 m pc ls [.int r])) {H : Heap} {locs : List Loc} {ls : Array Slot} (w : Wd D A s H locs (wC kA ad lq_situation adv_rooms adv_levels adv_goalRoom adv_allDoors dr_state dr_count se_count parent level kind snum xx yy lying switched doors beyond offered opn seenb savedb found distance opening)) (hl : lv_has ls 2 [(0, .ref (ad 4)), (1, .int p0)]) (h : f_X4_isAtGoal p0 adv_goalRoom = some res) : W p l e rm_X4_isAtGoal s m args below meth c H locs 0 0 Q (F0 m 0 ls []) := by
  obtain ⟨⟨hx, hb, hml, hown, hts⟩, hK, -, -⟩ := id C
  unfold f_X4_isAtGoal at h
  refine lv_iload_n hx hb dX4_isAtGoal_0 rfl (lv_at hl 1 rfl) ?_
  obtain ⟨u1, hc1, h⟩ := bd_some h
  refine gl_calli C w (va_runS (As := [.int p0]) (rest := []) ⟨hx, hb, hml, hown, hts⟩ (c_X5_roomOf l D kA ad H.size lq_situation adv_rooms adv_levels adv_goalRoom adv_allDoors dr_state dr_count se_count parent level kind snum xx yy lying switched doors beyond offered opn seenb savedb found distance opening p0 hc1) (va_cwS 1 hts gX4_isAtGoal_X5_roomOf rfl rfl rfl (by decide +kernel) ⟨Nat.le_of_ble_eq_true rfl, Nat.le_of_ble_eq_true rfl⟩) (Wd.preS C w) rfl rfl hl.1 rfl (lv_room (Nat.le_of_ble_eq_true rfl)) dX4_isAtGoal_1 ⟨Nat.zero_le _, Nat.zero_le _⟩) (fun H locs w => ?_)
  refine lv_aload_n hx hb dX4_isAtGoal_4 rfl (lv_at hl 0 rfl) ?_
  refine va_get (D := D) (ci := 4) (v := .ref (ad 1)) (C := RX4) (T := TX4) (N := 7) hx hb hts lX4_isAtGoal_X4 hown hK w.1 4 rfl rfl 0 (by decide) (hts _ mX4_isAtGoal_1) (fun _ h9 => h9) rfl dX4_isAtGoal_5 ?_
  refine va_get (D := D) (ci := 0) (v := .int adv_goalRoom) (C := RX0) (T := TX0) (N := 14) hx hb hts lX4_isAtGoal_X0 hown hK w.1 1 rfl rfl 2 (by decide) (hts _ mX4_isAtGoal_3) (fun _ h9 => h9) rfl dX4_isAtGoal_8 ?_
  refine lv_icmp_ne (tgt := 18) hx hb dX4_isAtGoal_11 (by decide) (fun g2 => ?_) (fun g2 => ?_)
  · replace h := it_neg g2 h
    refine lv_iconst (v := 0) hx hb dX4_isAtGoal_18 (by decide) ?_
    exact hret _ _ _ _ _ dX4_isAtGoal_19 rfl w (Option.some.inj h)
  · replace h := it_pos g2 h
    refine lv_iconst (v := 1) hx hb dX4_isAtGoal_14 (by decide) ?_
    refine lv_goto (tgt := 19) hx hb dX4_isAtGoal_15 (by decide) ?_
    exact hret _ _ _ _ _ dX4_isAtGoal_19 rfl w (Option.some.inj h)
set_option maxHeartbeats 4000000 in
set_option maxRecDepth 100000 in
theorem c_X4_isAtGoal (l : Launch) (D : va_G) (kA : Nat → ClassId) (ad : Nat → Nat) (sz : Nat) (lq_situation : Int32) (adv_rooms : Int32) (adv_levels : Int32) (adv_goalRoom : Int32) (adv_allDoors : Int32) (dr_state : Int64) (dr_count : Int32) (se_count : Int32) (parent : Nat → Int32) (level : Nat → Int32) (kind : Nat → Int32) (snum : Nat → Int32) (xx : Nat → Int32) (yy : Nat → Int32) (lying : Nat → Int32) (switched : Nat → Int32) (doors : Nat → Int32) (beyond : Nat → Nat → Int32) (offered : Nat → Int32) (opn : Nat → Int32) (seenb : Nat → Int64) (savedb : Nat → Int64) (found : Nat → Int32) (distance : Nat → Int32) (opening : Nat → Int32) (p0 : Int32) {res : Int32} (h : f_X4_isAtGoal p0 adv_goalRoom = some res) : Ci l yX4_isAtGoal wsX4_isAtGoal rm_X4_isAtGoal D kA [.ref (ad 4), .int p0] sz (wC kA ad lq_situation adv_rooms adv_levels adv_goalRoom adv_allDoors dr_state dr_count se_count parent level kind snum xx yy lying switched doors beyond offered opn seenb savedb found distance opening) (wC kA ad lq_situation adv_rooms adv_levels adv_goalRoom adv_allDoors dr_state dr_count se_count parent level kind snum xx yy lying switched doors beyond offered opn seenb savedb found distance opening) res := by
  refine Met.ofW (cc := cX4_isAtGoal) (maxL := 2) (ret := (some .boolean)) (by decide) rfl ?_
  intro p e s m args below meth c s₁ B hml hv
  obtain ⟨rfl, hsz, hP, hK, hD0, hX⟩ := hv
  subst hsz
  have hts := atoms_spec (ws := wsX4_isAtGoal) B.pre
  have hl := lv_entry ([.ref (ad 4), .int p0]) (n := 2) (Nat.le_of_ble_eq_true rfl)
  rw [lg_entry_eq]
  have hlocks := B.notSynchronized
  refine t_X4_isAtGoal (A := va_A (wC kA ad lq_situation adv_rooms adv_levels adv_goalRoom adv_allDoors dr_state dr_count se_count parent level kind snum xx yy lying switched doors beyond offered opn seenb savedb found distance opening) s.heap.size) ⟨⟨B.exec, B.bytes, hml, findClass_of_methodNamed B.named, hts⟩, hK, fun q h => Or.inr h, hX⟩ (fun r H locs ls pc hd hz w hres => ?_) ⟨hP, hD0.self, va_S.rf⟩ hl h
  subst hres
  exact W.zret B.exec B.bytes B.returns hz (fun t ht hW => ⟨⟨_, (), rfl, rfl, by rw [ht]; exact w.1, va_K.moved hW.alike hK, w.2.1⟩, w.2.2.F ht⟩) w.2.2.2.2 hd hlocks
-- ('wC', 'LockQuest$Marks', 'has', '(I)Z', ('seen', None))
abbrev rm_X3_has : Room := { frames := 0, cells := 0, slots := 0, locals := 0 }
set_option maxRecDepth 20000 in
theorem lX3_has_X3 : ∀ w ∈ wsX30, w ∈ wsX3_has := by decide +kernel
set_option maxRecDepth 20000 in
theorem mX3_has_1 : Cond.fieldLink RX3 9 "LockQuest$Marks" "bits" "[J" ∈ wsX3_has := by decide +kernel
def f_X3_has_seen (p0 : Int32) (seenb : Nat → Int64) : Option (Int32) := gd ((p0 >>> ((6 : Int32) &&& 31)) < 0 ∨ 192 ≤ (p0 >>> ((6 : Int32) &&& 31)).toNatClampNeg) (if (lg_cmp ((seenb (p0 >>> ((6 : Int32) &&& 31)).toNatClampNeg) &&& ((1 : Int64) <<< ((p0 &&& (63 : Int32)).toInt64 &&& 63))) (0 : Int64)) = 0 then (some (0 : Int32)) else (some (1 : Int32)))
set_option maxHeartbeats 4000000 in
set_option maxRecDepth 100000 in
theorem t_X3_has_seen {p : Program} {l : Launch} {e : Env} {s : State} {m : MethodId} {args : Array Value} {below : List Frame} {meth : Method} {c : Code} {Q : State → Prop} {D : va_G} {kA : Nat → ClassId} {ad : Nat → Nat} {A : Nat → Prop} {lq_situation : Int32} {adv_rooms : Int32} {adv_levels : Int32} {adv_goalRoom : Int32} {adv_allDoors : Int32} {dr_state : Int64} {dr_count : Int32} {se_count : Int32} {parent : Nat → Int32} {level : Nat → Int32} {kind : Nat → Int32} {snum : Nat → Int32} {xx : Nat → Int32} {yy : Nat → Int32} {lying : Nat → Int32} {switched : Nat → Int32} {doors : Nat → Int32} {beyond : Nat → Nat → Int32} {offered : Nat → Int32} {opn : Nat → Int32} {seenb : Nat → Int64} {savedb : Nat → Int64} {found : Nat → Int32} {distance : Nat → Int32} {opening : Nat → Int32} {p0 : Int32} {res : Int32} (C : Cx p s m c args cX3_has 2 RX3 wsX3_has D kA A) (hret : ∀ (r : Int32) (H : Heap) (locs : List Loc) (ls : Array Slot) (pc : Nat), decode cX3_has pc = .ok (.ireturn, 1) → narrow .boolean (.int r) = .int r → Wd D A s H locs (wC kA ad lq_situation adv_rooms adv_levels adv_goalRoom adv_allDoors dr_state dr_count se_count parent level kind snum xx yy lying switched doors beyond offered opn seenb savedb found distance opening) → r = res → W p l e rm_X3_has s m args below meth c H locs 0 0 Q (F0 m pc ls [.int r])) {H : Heap} {locs : List Loc} {ls : Array Slot} (w : Wd D A s H locs (wC kA ad lq_situation adv_rooms adv_levels adv_goalRoom adv_allDoors dr_state dr_count se_count parent level kind snum xx yy lying switched doors beyond offered opn seenb savedb found distance opening)) (hl : lv_has ls 2 [(0, .ref (ad 5)), (1, .int p0)]) (h : f_X3_has_seen p0 seenb = some res) : W p l e rm_X3_has s m args below meth c H locs 0 0 Q (F0 m 0 ls []) := by
  obtain ⟨⟨hx, hb, hml, hown, hts⟩, hK, -, -⟩ := id C
  unfold f_X3_has_seen at h
  refine lv_aload_n hx hb dX3_has_0 rfl (lv_at hl 0 rfl) ?_
  refine va_get (D := D) (ci := 3) (v := .ref (ad 31)) (C := RX3) (T := TX3) (N := 1) hx hb hts lX3_has_X3 hown hK w.1 5 rfl rfl 0 (by decide) (hts _ mX3_has_1) (fun _ h9 => h9) rfl dX3_has_1 ?_
  refine lv_iload_n hx hb dX3_has_4 rfl (lv_at hl 1 rfl) ?_
  refine lv_bipush (v := 6) hx hb dX3_has_5 (by decide) ?_
  refine lv_ishr hx hb dX3_has_7 ?_
  obtain ⟨g1, h⟩ := gd_some h
  refine va_lald hx hb hK w.1 31 1 rfl rfl g1 dX3_has_8 ?_
  refine lv_lconst (v := 1) hx hb dX3_has_9 (by decide) ?_
  refine lv_iload_n hx hb dX3_has_10 rfl (lv_at hl 1 rfl) ?_
  refine lv_bipush (v := 63) hx hb dX3_has_11 (by decide) ?_
  refine lv_iand hx hb dX3_has_13 ?_
  refine lv_lshl hx hb dX3_has_14 rfl ?_
  refine lv_land hx hb dX3_has_15 ?_
  refine lv_lconst (v := 0) hx hb dX3_has_16 (by decide) ?_
  refine W.lcmp hx hb dX3_has_17 ?_
  refine lv_if_eq (tgt := 25) hx hb dX3_has_18 (by decide) (fun g2 => ?_) (fun g2 => ?_)
  · replace h := it_pos g2 h
    refine lv_iconst (v := 0) hx hb dX3_has_25 (by decide) ?_
    exact hret _ _ _ _ _ dX3_has_26 rfl w (Option.some.inj h)
  · replace h := it_neg g2 h
    refine lv_iconst (v := 1) hx hb dX3_has_21 (by decide) ?_
    refine lv_goto (tgt := 26) hx hb dX3_has_22 (by decide) ?_
    exact hret _ _ _ _ _ dX3_has_26 rfl w (Option.some.inj h)
set_option maxHeartbeats 4000000 in
set_option maxRecDepth 100000 in
theorem c_X3_has_seen (l : Launch) (D : va_G) (kA : Nat → ClassId) (ad : Nat → Nat) (sz : Nat) (lq_situation : Int32) (adv_rooms : Int32) (adv_levels : Int32) (adv_goalRoom : Int32) (adv_allDoors : Int32) (dr_state : Int64) (dr_count : Int32) (se_count : Int32) (parent : Nat → Int32) (level : Nat → Int32) (kind : Nat → Int32) (snum : Nat → Int32) (xx : Nat → Int32) (yy : Nat → Int32) (lying : Nat → Int32) (switched : Nat → Int32) (doors : Nat → Int32) (beyond : Nat → Nat → Int32) (offered : Nat → Int32) (opn : Nat → Int32) (seenb : Nat → Int64) (savedb : Nat → Int64) (found : Nat → Int32) (distance : Nat → Int32) (opening : Nat → Int32) (p0 : Int32) {res : Int32} (h : f_X3_has_seen p0 seenb = some res) : Ci l yX3_has wsX3_has rm_X3_has D kA [.ref (ad 5), .int p0] sz (wC kA ad lq_situation adv_rooms adv_levels adv_goalRoom adv_allDoors dr_state dr_count se_count parent level kind snum xx yy lying switched doors beyond offered opn seenb savedb found distance opening) (wC kA ad lq_situation adv_rooms adv_levels adv_goalRoom adv_allDoors dr_state dr_count se_count parent level kind snum xx yy lying switched doors beyond offered opn seenb savedb found distance opening) res := by
  refine Met.ofW (cc := cX3_has) (maxL := 2) (ret := (some .boolean)) (by decide) rfl ?_
  intro p e s m args below meth c s₁ B hml hv
  obtain ⟨rfl, hsz, hP, hK, hD0, hX⟩ := hv
  subst hsz
  have hts := atoms_spec (ws := wsX3_has) B.pre
  have hl := lv_entry ([.ref (ad 5), .int p0]) (n := 2) (Nat.le_of_ble_eq_true rfl)
  rw [lg_entry_eq]
  have hlocks := B.notSynchronized
  refine t_X3_has_seen (A := va_A (wC kA ad lq_situation adv_rooms adv_levels adv_goalRoom adv_allDoors dr_state dr_count se_count parent level kind snum xx yy lying switched doors beyond offered opn seenb savedb found distance opening) s.heap.size) ⟨⟨B.exec, B.bytes, hml, findClass_of_methodNamed B.named, hts⟩, hK, fun q h => Or.inr h, hX⟩ (fun r H locs ls pc hd hz w hres => ?_) ⟨hP, hD0.self, va_S.rf⟩ hl h
  subst hres
  exact W.zret B.exec B.bytes B.returns hz (fun t ht hW => ⟨⟨_, (), rfl, rfl, by rw [ht]; exact w.1, va_K.moved hW.alike hK, w.2.1⟩, w.2.2.F ht⟩) w.2.2.2.2 hd hlocks
-- ('wC', 'LockQuest$Search', 'reach', '(III)V', ('se', None, None, None))
abbrev rm_X4_reach : Room := { frames := 1, cells := 0, slots := 0, locals := 21 }
set_option maxRecDepth 20000 in
theorem lX4_reach_X4 : ∀ w ∈ wsX40, w ∈ wsX4_reach := by decide +kernel
set_option maxRecDepth 20000 in
theorem mX4_reach_1 : Cond.fieldLink RX4 12 "LockQuest$Search" "seen" "LLockQuest$Marks;" ∈ wsX4_reach := by decide +kernel
set_option maxRecDepth 20000 in
theorem mX4_reach_2 : Cond.fieldLink RX4 41 "LockQuest$Search" "count" "I" ∈ wsX4_reach := by decide +kernel
set_option maxRecDepth 20000 in
theorem mX4_reach_3 : Cond.fieldLink RX4 23 "LockQuest$Search" "found" "[I" ∈ wsX4_reach := by decide +kernel
set_option maxRecDepth 20000 in
theorem mX4_reach_4 : Cond.fieldLink RX4 27 "LockQuest$Search" "distance" "[I" ∈ wsX4_reach := by decide +kernel
set_option maxRecDepth 20000 in
theorem mX4_reach_5 : Cond.fieldLink RX4 30 "LockQuest$Search" "opening" "[I" ∈ wsX4_reach := by decide +kernel
def f_X4_reach_83  (s1 : Int32) (s2 : Int32) (se_count : Int32) (seenb : Nat → Int64) (found : Nat → Int32) (distance : Nat → Int32) (opening : Nat → Int32) : Option (Int32 × (Nat → Int64) × (Nat → Int32) × (Nat → Int32) × (Nat → Int32)) := gd (s1 < 0 ∨ 12288 ≤ s1.toNatClampNeg) (some ((se_count + (1 : Int32)), seenb, found, distance, (upd opening s1.toNatClampNeg s2)))
set_option maxHeartbeats 4000000 in
set_option maxRecDepth 100000 in
theorem t_X4_reach_83 {p : Program} {l : Launch} {e : Env} {s : State} {m : MethodId} {args : Array Value} {below : List Frame} {meth : Method} {c : Code} {Q : State → Prop} {D : va_G} {kA : Nat → ClassId} {ad : Nat → Nat} {A : Nat → Prop} {lq_situation : Int32} {adv_rooms : Int32} {adv_levels : Int32} {adv_goalRoom : Int32} {adv_allDoors : Int32} {dr_state : Int64} {dr_count : Int32} {se_count : Int32} {parent : Nat → Int32} {level : Nat → Int32} {kind : Nat → Int32} {snum : Nat → Int32} {xx : Nat → Int32} {yy : Nat → Int32} {lying : Nat → Int32} {switched : Nat → Int32} {doors : Nat → Int32} {beyond : Nat → Nat → Int32} {offered : Nat → Int32} {opn : Nat → Int32} {seenb : Nat → Int64} {savedb : Nat → Int64} {found : Nat → Int32} {distance : Nat → Int32} {opening : Nat → Int32} {s1 : Int32} {s2 : Int32} {res : Int32 × (Nat → Int64) × (Nat → Int32) × (Nat → Int32) × (Nat → Int32)} (C : Cx p s m c args cX4_reach 4 RX4 wsX4_reach D kA A) (hret : ∀ (q0 : Int32) (q1 : Nat → Int64) (q2 : Nat → Int32) (q3 : Nat → Int32) (q4 : Nat → Int32) (H : Heap) (locs : List Loc) (ls : Array Slot) (pc : Nat), decode cX4_reach pc = .ok (.return_, 1) → Wd D A s H locs (wC kA ad lq_situation adv_rooms adv_levels adv_goalRoom adv_allDoors dr_state dr_count q0 parent level kind snum xx yy lying switched doors beyond offered opn q1 savedb q2 q3 q4) → (q0, q1, q2, q3, q4) = res → W p l e rm_X4_reach s m args below meth c H locs 0 0 Q (F0 m pc ls [])) {H : Heap} {locs : List Loc} {ls : Array Slot} (w : Wd D A s H locs (wC kA ad lq_situation adv_rooms adv_levels adv_goalRoom adv_allDoors dr_state dr_count se_count parent level kind snum xx yy lying switched doors beyond offered opn seenb savedb found distance opening)) (hl : lv_has ls 4 [(0, .ref (ad 4))]) (h : f_X4_reach_83  s1 s2 se_count seenb found distance opening = some res) : W p l e rm_X4_reach s m args below meth c H locs 0 0 Q (F0 m 83 ls [.int s2, .int s1, .ref (ad 35)]) := by
  obtain ⟨⟨hx, hb, hml, hown, hts⟩, hK, -, -⟩ := id C
  unfold f_X4_reach_83 at h
  obtain ⟨g1, h⟩ := gd_some h
  refine va_iast hx hb hK w.1 w.2.1 w.2.2 35 0 rfl rfl g1 dX4_reach_83 (fun H locs hP hD hS => ?_)
  have w : Wd D A s H locs (wC kA ad lq_situation adv_rooms adv_levels adv_goalRoom adv_allDoors dr_state dr_count se_count parent level kind snum xx yy lying switched doors beyond offered opn seenb savedb found distance (upd opening s1.toNatClampNeg s2)) := ⟨hP, hD, hS⟩
  refine lv_aload_n hx hb dX4_reach_84 rfl (lv_at hl 0 rfl) ?_
  refine lv_dup hx hb dX4_reach_85 rfl ?_
  refine va_get (D := D) (ci := 4) (v := .int se_count) (C := RX4) (T := TX4) (N := 7) hx hb hts lX4_reach_X4 hown hK w.1 4 rfl rfl 6 (by decide) (hts _ mX4_reach_2) (fun _ h9 => h9) rfl dX4_reach_86 ?_
  refine lv_iconst (v := 1) hx hb dX4_reach_89 (by decide) ?_
  refine lv_iadd hx hb dX4_reach_90 ?_
  refine va_put (D := D) (ci := 4) (v := .int (se_count + (1 : Int32))) (ty := .int) (C := RX4) (T := TX4) (N := 7) hx hb hts lX4_reach_X4 tyX4 tyX4_ok nmX4 hown hK w.1 w.2.1 w.2.2 4 rfl rfl 6 (by decide) (hts _ mX4_reach_2) (fun _ h9 => h9) rfl (by decide +kernel) rfl rfl (Nat.le_of_ble_eq_true rfl) dX4_reach_91 (fun H locs hP hD hS => ?_)
  have w : Wd D A s H locs (wC kA ad lq_situation adv_rooms adv_levels adv_goalRoom adv_allDoors dr_state dr_count (se_count + (1 : Int32)) parent level kind snum xx yy lying switched doors beyond offered opn seenb savedb found distance (upd opening s1.toNatClampNeg s2)) := ⟨hP, hD, hS⟩
  exact hret _ _ _ _ _ _ _ _ _ dX4_reach_94 w (Option.some.inj h)
def f_X4_reach (p0 : Int32) (p1 : Int32) (p2 : Int32) (se_count : Int32) (seenb : Nat → Int64) (found : Nat → Int32) (distance : Nat → Int32) (opening : Nat → Int32) : Option (Int32 × (Nat → Int64) × (Nat → Int32) × (Nat → Int32) × (Nat → Int32)) := if p0 < 0 then (some (se_count, seenb, found, distance, opening)) else ((f_X3_has_seen p0 seenb).bind (fun u3 => if u3 = 0 then (if se_count < (12288 : Int32) then ((f_X3_add_seen p0 seenb).bind (fun u6 => gd (se_count < 0 ∨ 12288 ≤ se_count.toNatClampNeg) (gd (p1 < 0 ∨ 12288 ≤ p1.toNatClampNeg) (gd (se_count < 0 ∨ 12288 ≤ se_count.toNatClampNeg) (if p1 = 0 then (f_X4_reach_83 se_count p2 se_count u6 (upd found se_count.toNatClampNeg p0) (upd distance se_count.toNatClampNeg ((distance p1.toNatClampNeg) + (1 : Int32))) opening) else (gd (p1 < 0 ∨ 12288 ≤ p1.toNatClampNeg) (f_X4_reach_83 se_count (opening p1.toNatClampNeg) se_count u6 (upd found se_count.toNatClampNeg p0) (upd distance se_count.toNatClampNeg ((distance p1.toNatClampNeg) + (1 : Int32))) opening))))))) else (some (se_count, seenb, found, distance, opening))) else (some (se_count, seenb, found, distance, opening))))
set_option maxHeartbeats 4000000 in
set_option maxRecDepth 100000 in
theorem t_X4_reach {p : Program} {l : Launch} {e : Env} {s : State} {m : MethodId} {args : Array Value} {below : List Frame} {meth : Method} {c : Code} {Q : State → Prop} {D : va_G} {kA : Nat → ClassId} {ad : Nat → Nat} {A : Nat → Prop} {lq_situation : Int32} {adv_rooms : Int32} {adv_levels : Int32} {adv_goalRoom : Int32} {adv_allDoors : Int32} {dr_state : Int64} {dr_count : Int32} {se_count : Int32} {parent : Nat → Int32} {level : Nat → Int32} {kind : Nat → Int32} {snum : Nat → Int32} {xx : Nat → Int32} {yy : Nat → Int32} {lying : Nat → Int32} {switched : Nat → Int32} {doors : Nat → Int32} {beyond : Nat → Nat → Int32} {offered : Nat → Int32} {opn : Nat → Int32} {seenb : Nat → Int64} {savedb : Nat → Int64} {found : Nat → Int32} {distance : Nat → Int32} {opening : Nat → Int32} {p0 : Int32} {p1 : Int32} {p2 : Int32} {res : Int32 × (Nat → Int64) × (Nat → Int32) × (Nat → Int32) × (Nat → Int32)} (C : Cx p s m c args cX4_reach 4 RX4 wsX4_reach D kA A) (hret : ∀ (q0 : Int32) (q1 : Nat → Int64) (q2 : Nat → Int32) (q3 : Nat → Int32) (q4 : Nat → Int32) (H : Heap) (locs : List Loc) (ls : Array Slot) (pc : Nat), decode cX4_reach pc = .ok (.return_, 1) → Wd D A s H locs (wC kA ad lq_situation adv_rooms adv_levels adv_goalRoom adv_allDoors dr_state dr_count q0 parent level kind snum xx yy lying switched doors beyond offered opn q1 savedb q2 q3 q4) → (q0, q1, q2, q3, q4) = res → W p l e rm_X4_reach s m args below meth c H locs 0 0 Q (F0 m pc ls [])) {H : Heap} {locs : List Loc} {ls : Array Slot} (w : Wd D A s H locs (wC kA ad lq_situation adv_rooms adv_levels adv_goalRoom adv_allDoors dr_state dr_count se_count parent level kind snum xx yy lying switched doors beyond offered opn seenb savedb found distance opening)) (hl : lv_has ls 4 [(0, .ref (ad 4)), (1, .int p0), (2, .int p1), (3, .int p2)]) (h : f_X4_reach p0 p1 p2 se_count seenb found distance opening = some res) : W p l e rm_X4_reach s m args below meth c H locs 0 0 Q (F0 m 0 ls []) := by
  obtain ⟨⟨hx, hb, hml, hown, hts⟩, hK, -, -⟩ := id C
  unfold f_X4_reach at h
  refine lv_iload_n hx hb dX4_reach_0 rfl (lv_at hl 1 rfl) ?_
  refine lv_if_lt (tgt := 25) hx hb dX4_reach_1 (by decide) (fun g2 => ?_) (fun g2 => ?_)
  · replace h := it_pos g2 h
    exact hret _ _ _ _ _ _ _ _ _ dX4_reach_25 w (Option.some.inj h)
  · replace h := it_neg g2 h
    refine lv_aload_n hx hb dX4_reach_4 rfl (lv_at hl 0 rfl) ?_
    refine va_get (D := D) (ci := 4) (v := .ref (ad 5)) (C := RX4) (T := TX4) (N := 7) hx hb hts lX4_reach_X4 hown hK w.1 4 rfl rfl 1 (by decide) (hts _ mX4_reach_1) (fun _ h9 => h9) rfl dX4_reach_5 ?_
    refine lv_iload_n hx hb dX4_reach_8 rfl (lv_at hl 1 rfl) ?_
    obtain ⟨u3, hc3, h⟩ := bd_some h
    refine gl_calli C w (va_runV (As := [.int p0]) (rest := []) ⟨hx, hb, hml, hown, hts⟩ (c_X3_has_seen l D kA ad H.size lq_situation adv_rooms adv_levels adv_goalRoom adv_allDoors dr_state dr_count se_count parent level kind snum xx yy lying switched doors beyond offered opn seenb savedb found distance opening p0 hc3) (cwV 1 hts gX4_reach_X3_has rfl rfl rfl (by decide +kernel) ⟨Nat.le_of_ble_eq_true rfl, Nat.le_of_ble_eq_true rfl⟩) (Wd.preV C w (q0 := 5) (ci := 3) rfl rfl rfl) rfl rfl hl.1 rfl (lv_room (Nat.le_of_ble_eq_true rfl)) dX4_reach_9 ⟨Nat.zero_le _, Nat.zero_le _⟩) (fun H locs w => ?_)
    refine lv_if_ne (tgt := 25) hx hb dX4_reach_12 (by decide) (fun g4 => ?_) (fun g4 => ?_)
    · replace h := it_neg g4 h
      exact hret _ _ _ _ _ _ _ _ _ dX4_reach_25 w (Option.some.inj h)
    · replace h := it_pos g4 h
      refine lv_aload_n hx hb dX4_reach_15 rfl (lv_at hl 0 rfl) ?_
      refine va_get (D := D) (ci := 4) (v := .int se_count) (C := RX4) (T := TX4) (N := 7) hx hb hts lX4_reach_X4 hown hK w.1 4 rfl rfl 6 (by decide) (hts _ mX4_reach_2) (fun _ h9 => h9) rfl dX4_reach_16 ?_
      refine lv_sipush (v := 12288) hx hb dX4_reach_19 (by decide) ?_
      refine lv_icmp_lt (tgt := 26) hx hb dX4_reach_22 (by decide) (fun g5 => ?_) (fun g5 => ?_)
      · replace h := it_pos g5 h
        refine lv_aload_n hx hb dX4_reach_26 rfl (lv_at hl 0 rfl) ?_
        refine va_get (D := D) (ci := 4) (v := .ref (ad 5)) (C := RX4) (T := TX4) (N := 7) hx hb hts lX4_reach_X4 hown hK w.1 4 rfl rfl 1 (by decide) (hts _ mX4_reach_1) (fun _ h9 => h9) rfl dX4_reach_27 ?_
        refine lv_iload_n hx hb dX4_reach_30 rfl (lv_at hl 1 rfl) ?_
        obtain ⟨u6, hc6, h⟩ := bd_some h
        refine gl_callv C w (va_runV (As := [.int p0]) (rest := []) ⟨hx, hb, hml, hown, hts⟩ (c_X3_add_seen l D kA ad H.size lq_situation adv_rooms adv_levels adv_goalRoom adv_allDoors dr_state dr_count se_count parent level kind snum xx yy lying switched doors beyond offered opn seenb savedb found distance opening p0 hc6) (cwV 1 hts gX4_reach_X3_add rfl rfl rfl (by decide +kernel) ⟨Nat.le_of_ble_eq_true rfl, Nat.le_of_ble_eq_true rfl⟩) (Wd.preV C w (q0 := 5) (ci := 3) rfl rfl rfl) rfl rfl hl.1 rfl (lv_room (Nat.le_of_ble_eq_true rfl)) dX4_reach_31 ⟨Nat.zero_le _, Nat.zero_le _⟩) (fun H locs w => ?_)
        refine lv_aload_n hx hb dX4_reach_34 rfl (lv_at hl 0 rfl) ?_
        refine va_get (D := D) (ci := 4) (v := .ref (ad 33)) (C := RX4) (T := TX4) (N := 7) hx hb hts lX4_reach_X4 hown hK w.1 4 rfl rfl 3 (by decide) (hts _ mX4_reach_3) (fun _ h9 => h9) rfl dX4_reach_35 ?_
        refine lv_aload_n hx hb dX4_reach_38 rfl (lv_at hl 0 rfl) ?_
        refine va_get (D := D) (ci := 4) (v := .int se_count) (C := RX4) (T := TX4) (N := 7) hx hb hts lX4_reach_X4 hown hK w.1 4 rfl rfl 6 (by decide) (hts _ mX4_reach_2) (fun _ h9 => h9) rfl dX4_reach_39 ?_
        refine lv_iload_n hx hb dX4_reach_42 rfl (lv_at hl 1 rfl) ?_
        obtain ⟨g7, h⟩ := gd_some h
        refine va_iast hx hb hK w.1 w.2.1 w.2.2 33 0 rfl rfl g7 dX4_reach_43 (fun H locs hP hD hS => ?_)
        have w : Wd D A s H locs (wC kA ad lq_situation adv_rooms adv_levels adv_goalRoom adv_allDoors dr_state dr_count se_count parent level kind snum xx yy lying switched doors beyond offered opn u6 savedb (upd found se_count.toNatClampNeg p0) distance opening) := ⟨hP, hD, hS⟩
        refine lv_aload_n hx hb dX4_reach_44 rfl (lv_at hl 0 rfl) ?_
        refine va_get (D := D) (ci := 4) (v := .ref (ad 34)) (C := RX4) (T := TX4) (N := 7) hx hb hts lX4_reach_X4 hown hK w.1 4 rfl rfl 4 (by decide) (hts _ mX4_reach_4) (fun _ h9 => h9) rfl dX4_reach_45 ?_
        refine lv_aload_n hx hb dX4_reach_48 rfl (lv_at hl 0 rfl) ?_
        refine va_get (D := D) (ci := 4) (v := .int se_count) (C := RX4) (T := TX4) (N := 7) hx hb hts lX4_reach_X4 hown hK w.1 4 rfl rfl 6 (by decide) (hts _ mX4_reach_2) (fun _ h9 => h9) rfl dX4_reach_49 ?_
        refine lv_aload_n hx hb dX4_reach_52 rfl (lv_at hl 0 rfl) ?_
        refine va_get (D := D) (ci := 4) (v := .ref (ad 34)) (C := RX4) (T := TX4) (N := 7) hx hb hts lX4_reach_X4 hown hK w.1 4 rfl rfl 4 (by decide) (hts _ mX4_reach_4) (fun _ h9 => h9) rfl dX4_reach_53 ?_
        refine lv_iload_n hx hb dX4_reach_56 rfl (lv_at hl 2 rfl) ?_
        obtain ⟨g8, h⟩ := gd_some h
        refine va_iald hx hb hK w.1 34 0 rfl rfl g8 dX4_reach_57 ?_
        refine lv_iconst (v := 1) hx hb dX4_reach_58 (by decide) ?_
        refine lv_iadd hx hb dX4_reach_59 ?_
        obtain ⟨g9, h⟩ := gd_some h
        refine va_iast hx hb hK w.1 w.2.1 w.2.2 34 0 rfl rfl g9 dX4_reach_60 (fun H locs hP hD hS => ?_)
        have w : Wd D A s H locs (wC kA ad lq_situation adv_rooms adv_levels adv_goalRoom adv_allDoors dr_state dr_count se_count parent level kind snum xx yy lying switched doors beyond offered opn u6 savedb (upd found se_count.toNatClampNeg p0) (upd distance se_count.toNatClampNeg ((distance p1.toNatClampNeg) + (1 : Int32))) opening) := ⟨hP, hD, hS⟩
        refine lv_aload_n hx hb dX4_reach_61 rfl (lv_at hl 0 rfl) ?_
        refine va_get (D := D) (ci := 4) (v := .ref (ad 35)) (C := RX4) (T := TX4) (N := 7) hx hb hts lX4_reach_X4 hown hK w.1 4 rfl rfl 5 (by decide) (hts _ mX4_reach_5) (fun _ h9 => h9) rfl dX4_reach_62 ?_
        refine lv_aload_n hx hb dX4_reach_65 rfl (lv_at hl 0 rfl) ?_
        refine va_get (D := D) (ci := 4) (v := .int se_count) (C := RX4) (T := TX4) (N := 7) hx hb hts lX4_reach_X4 hown hK w.1 4 rfl rfl 6 (by decide) (hts _ mX4_reach_2) (fun _ h9 => h9) rfl dX4_reach_66 ?_
        refine lv_iload_n hx hb dX4_reach_69 rfl (lv_at hl 2 rfl) ?_
        refine lv_if_ne (tgt := 77) hx hb dX4_reach_70 (by decide) (fun g10 => ?_) (fun g10 => ?_)
        · replace h := it_neg g10 h
          refine lv_aload_n hx hb dX4_reach_77 rfl (lv_at hl 0 rfl) ?_
          refine va_get (D := D) (ci := 4) (v := .ref (ad 35)) (C := RX4) (T := TX4) (N := 7) hx hb hts lX4_reach_X4 hown hK w.1 4 rfl rfl 5 (by decide) (hts _ mX4_reach_5) (fun _ h9 => h9) rfl dX4_reach_78 ?_
          refine lv_iload_n hx hb dX4_reach_81 rfl (lv_at hl 2 rfl) ?_
          obtain ⟨g11, h⟩ := gd_some h
          refine va_iald hx hb hK w.1 35 0 rfl rfl g11 dX4_reach_82 ?_
          exact t_X4_reach_83 C  hret w (lv_sub hl [0] rfl) h
        · replace h := it_pos g10 h
          refine lv_iload_n hx hb dX4_reach_73 rfl (lv_at hl 3 rfl) ?_
          refine lv_goto (tgt := 83) hx hb dX4_reach_74 (by decide) ?_
          exact t_X4_reach_83 C  hret w (lv_sub hl [0] rfl) h
      · replace h := it_neg g5 h
        exact hret _ _ _ _ _ _ _ _ _ dX4_reach_25 w (Option.some.inj h)
set_option maxHeartbeats 4000000 in
set_option maxRecDepth 100000 in
theorem c_X4_reach (l : Launch) (D : va_G) (kA : Nat → ClassId) (ad : Nat → Nat) (sz : Nat) (lq_situation : Int32) (adv_rooms : Int32) (adv_levels : Int32) (adv_goalRoom : Int32) (adv_allDoors : Int32) (dr_state : Int64) (dr_count : Int32) (se_count : Int32) (parent : Nat → Int32) (level : Nat → Int32) (kind : Nat → Int32) (snum : Nat → Int32) (xx : Nat → Int32) (yy : Nat → Int32) (lying : Nat → Int32) (switched : Nat → Int32) (doors : Nat → Int32) (beyond : Nat → Nat → Int32) (offered : Nat → Int32) (opn : Nat → Int32) (seenb : Nat → Int64) (savedb : Nat → Int64) (found : Nat → Int32) (distance : Nat → Int32) (opening : Nat → Int32) (p0 : Int32) (p1 : Int32) (p2 : Int32) {res : Int32 × (Nat → Int64) × (Nat → Int32) × (Nat → Int32) × (Nat → Int32)} (h : f_X4_reach p0 p1 p2 se_count seenb found distance opening = some res) : Cv l yX4_reach wsX4_reach rm_X4_reach D kA [.ref (ad 4), .int p0, .int p1, .int p2] sz (wC kA ad lq_situation adv_rooms adv_levels adv_goalRoom adv_allDoors dr_state dr_count se_count parent level kind snum xx yy lying switched doors beyond offered opn seenb savedb found distance opening) (wC kA ad lq_situation adv_rooms adv_levels adv_goalRoom adv_allDoors dr_state dr_count res.1 parent level kind snum xx yy lying switched doors beyond offered opn res.2.1 savedb res.2.2.1 res.2.2.2.1 res.2.2.2.2) := by
  refine Met.ofW (cc := cX4_reach) (maxL := 4) (ret := none) (by decide) rfl ?_
  intro p e s m args below meth c s₁ B hml hv
  obtain ⟨rfl, hsz, hP, hK, hD0, hX⟩ := hv
  subst hsz
  have hts := atoms_spec (ws := wsX4_reach) B.pre
  have hl := lv_entry ([.ref (ad 4), .int p0, .int p1, .int p2]) (n := 4) (Nat.le_of_ble_eq_true rfl)
  rw [lg_entry_eq]
  have hlocks := B.notSynchronized
  refine t_X4_reach (A := va_A (wC kA ad lq_situation adv_rooms adv_levels adv_goalRoom adv_allDoors dr_state dr_count se_count parent level kind snum xx yy lying switched doors beyond offered opn seenb savedb found distance opening) s.heap.size) ⟨⟨B.exec, B.bytes, hml, findClass_of_methodNamed B.named, hts⟩, hK, fun q h => Or.inr h, hX⟩ (fun q0 q1 q2 q3 q4 H locs ls pc hd w hres => ?_) ⟨hP, hD0.self, va_S.rf⟩ hl h
  subst hres
  exact W.vret B.exec B.bytes B.returns (fun t ht hW => ⟨⟨(), rfl, trivial, by rw [ht]; exact w.1, va_K.moved hW.alike hK, w.2.1⟩, w.2.2.F ht⟩) w.2.2.2.2 hd hlocks
