-- ('wC', 'LockQuest', 'behind', '(II)I', ('lq', None, None))
abbrev rm_X6_behind : Room := { frames := 2, cells := 0, slots := 0, locals := 43 }
set_option maxRecDepth 20000 in
theorem lX6_behind_X6 : ∀ w ∈ wsX60, w ∈ wsX6_behind := by decide +kernel
set_option maxRecDepth 20000 in
theorem mX6_behind_1 : Cond.fieldLink RX6 10 "LockQuest" "adventure" "LLockQuest$Adventure;" ∈ wsX6_behind := by decide +kernel
set_option maxRecDepth 20000 in
theorem lX6_behind_X0 : ∀ w ∈ wsX00, w ∈ wsX6_behind := by decide +kernel
set_option maxRecDepth 20000 in
theorem mX6_behind_3 : Cond.fieldLink RX6 83 "LockQuest$Adventure" "beyond" "[[I" ∈ wsX6_behind := by decide +kernel
def f_X6_behind (p0 : Int32) (p1 : Int32) (adv_rooms : Int32) (doors : Nat → Int32) (beyond : Nat → Nat → Int32) : Option (Int32) := (f_X0_hasDoor p0 p1 adv_rooms doors).bind (fun u1 => if u1 = 0 then (some (-1 : Int32)) else (gd (p0 < 0 ∨ 12 ≤ p0.toNatClampNeg) (gd (p1 < 0 ∨ 12 ≤ p1.toNatClampNeg) (some (beyond p0.toNatClampNeg p1.toNatClampNeg)))))
set_option maxHeartbeats 4000000 in
set_option maxRecDepth 100000 in
theorem t_X6_behind {p : Program} {l : Launch} {e : Env} {s : State} {m : MethodId} {args : Array Value} {below : List Frame} {meth : Method} {c : Code} {Q : State → Prop} {D : va_G} {kA : Nat → ClassId} {ad : Nat → Nat} {A : Nat → Prop} {lq_situation : Int32} {adv_rooms : Int32} {adv_levels : Int32} {adv_goalRoom : Int32} {adv_allDoors : Int32} {dr_state : Int64} {dr_count : Int32} {se_count : Int32} {parent : Nat → Int32} {level : Nat → Int32} {kind : Nat → Int32} {snum : Nat → Int32} {xx : Nat → Int32} {yy : Nat → Int32} {lying : Nat → Int32} {switched : Nat → Int32} {doors : Nat → Int32} {beyond : Nat → Nat → Int32} {offered : Nat → Int32} {opn : Nat → Int32} {seenb : Nat → Int64} {savedb : Nat → Int64} {found : Nat → Int32} {distance : Nat → Int32} {opening : Nat → Int32} {p0 : Int32} {p1 : Int32} {res : Int32} (C : Cx p s m c args cX6_behind 3 RX6 wsX6_behind D kA A) (hret : ∀ (r : Int32) (H : Heap) (locs : List Loc) (ls : Array Slot) (pc : Nat), decode cX6_behind pc = .ok (.ireturn, 1) → Wd D A s H locs (wC kA ad lq_situation adv_rooms adv_levels adv_goalRoom adv_allDoors dr_state dr_count se_count parent level kind snum xx yy lying switched doors beyond offered opn seenb savedb found distance opening) → r = res → W p l e rm_X6_behind s m args below meth c H locs 0 0 Q (F0 m pc ls [.int r])) {H : Heap} {locs : List Loc} {ls : Array Slot} (w : Wd D A s H locs (wC kA ad lq_situation adv_rooms adv_levels adv_goalRoom adv_allDoors dr_state dr_count se_count parent level kind snum xx yy lying switched doors beyond offered opn seenb savedb found distance opening)) (hl : lv_has ls 3 [(0, .ref (ad 0)), (1, .int p0), (2, .int p1)]) (h : f_X6_behind p0 p1 adv_rooms doors beyond = some res) : W p l e rm_X6_behind s m args below meth c H locs 0 0 Q (F0 m 0 ls []) := by
  obtain ⟨⟨hx, hb, hml, hown, hts⟩, hK, -, -⟩ := id C
  unfold f_X6_behind at h
  refine lv_aload_n hx hb dX6_behind_0 rfl (lv_at hl 0 rfl) ?_
  refine va_get (D := D) (ci := 5) (v := .ref (ad 1)) (C := RX6) (T := TX6) (N := 4) hx hb hts lX6_behind_X6 hown hK w.1 0 rfl rfl 0 (by decide) (hts _ mX6_behind_1) (fun _ h9 => h9) rfl dX6_behind_1 ?_
  refine lv_iload_n hx hb dX6_behind_4 rfl (lv_at hl 1 rfl) ?_
  refine lv_iload_n hx hb dX6_behind_5 rfl (lv_at hl 2 rfl) ?_
  obtain ⟨u1, hc1, h⟩ := bd_some h
  refine gl_calli C w (va_runV (As := [.int p0, .int p1]) (rest := []) ⟨hx, hb, hml, hown, hts⟩ (c_X0_hasDoor l D kA ad H.size lq_situation adv_rooms adv_levels adv_goalRoom adv_allDoors dr_state dr_count se_count parent level kind snum xx yy lying switched doors beyond offered opn seenb savedb found distance opening p0 p1 hc1) (cwV 2 hts gX6_behind_X0_hasDoor rfl rfl rfl (by decide +kernel) ⟨Nat.le_of_ble_eq_true rfl, Nat.le_of_ble_eq_true rfl⟩) (Wd.preV C w (q0 := 1) (ci := 0) rfl rfl rfl) rfl rfl hl.1 rfl (lv_room (Nat.le_of_ble_eq_true rfl)) dX6_behind_6 ⟨Nat.zero_le _, Nat.zero_le _⟩) (fun H locs w => ?_)
  refine lv_if_eq (tgt := 26) hx hb dX6_behind_9 (by decide) (fun g2 => ?_) (fun g2 => ?_)
  · replace h := it_pos g2 h
    refine lv_iconst (v := -1) hx hb dX6_behind_26 (by decide) ?_
    exact hret _ _ _ _ _ dX6_behind_27 w (Option.some.inj h)
  · replace h := it_neg g2 h
    refine lv_aload_n hx hb dX6_behind_12 rfl (lv_at hl 0 rfl) ?_
    refine va_get (D := D) (ci := 5) (v := .ref (ad 1)) (C := RX6) (T := TX6) (N := 4) hx hb hts lX6_behind_X6 hown hK w.1 0 rfl rfl 0 (by decide) (hts _ mX6_behind_1) (fun _ h9 => h9) rfl dX6_behind_13 ?_
    refine va_get (D := D) (ci := 0) (v := .ref (ad 16)) (C := RX0) (T := TX0) (N := 14) hx hb hts lX6_behind_X0 hown hK w.1 1 rfl rfl 13 (by decide) (hts _ mX6_behind_3) (fun _ h9 => h9) rfl dX6_behind_16 ?_
    refine lv_iload_n hx hb dX6_behind_19 rfl (lv_at hl 1 rfl) ?_
    obtain ⟨g3, h⟩ := gd_some h
    refine gl_aldg hx hb hK w.1 16 3 rfl rfl g3 dX6_behind_20 ?_
    refine lv_iload_n hx hb dX6_behind_21 rfl (lv_at hl 2 rfl) ?_
    obtain ⟨g4, h⟩ := gd_some h
    refine va_iald hx hb hK w.1 (17 + p0.toNatClampNeg) 0 (gr_wC_beyond (Nat.not_le.mp fun q => g3 (Or.inr q))) rfl g4 dX6_behind_22 ?_
    refine lv_goto (tgt := 27) hx hb dX6_behind_23 (by decide) ?_
    exact hret _ _ _ _ _ dX6_behind_27 w (Option.some.inj h)
set_option maxHeartbeats 4000000 in
set_option maxRecDepth 100000 in
theorem c_X6_behind (l : Launch) (D : va_G) (kA : Nat → ClassId) (ad : Nat → Nat) (sz : Nat) (lq_situation : Int32) (adv_rooms : Int32) (adv_levels : Int32) (adv_goalRoom : Int32) (adv_allDoors : Int32) (dr_state : Int64) (dr_count : Int32) (se_count : Int32) (parent : Nat → Int32) (level : Nat → Int32) (kind : Nat → Int32) (snum : Nat → Int32) (xx : Nat → Int32) (yy : Nat → Int32) (lying : Nat → Int32) (switched : Nat → Int32) (doors : Nat → Int32) (beyond : Nat → Nat → Int32) (offered : Nat → Int32) (opn : Nat → Int32) (seenb : Nat → Int64) (savedb : Nat → Int64) (found : Nat → Int32) (distance : Nat → Int32) (opening : Nat → Int32) (p0 : Int32) (p1 : Int32) {res : Int32} (h : f_X6_behind p0 p1 adv_rooms doors beyond = some res) : Ci l yX6_behind wsX6_behind rm_X6_behind D kA [.ref (ad 0), .int p0, .int p1] sz (wC kA ad lq_situation adv_rooms adv_levels adv_goalRoom adv_allDoors dr_state dr_count se_count parent level kind snum xx yy lying switched doors beyond offered opn seenb savedb found distance opening) (wC kA ad lq_situation adv_rooms adv_levels adv_goalRoom adv_allDoors dr_state dr_count se_count parent level kind snum xx yy lying switched doors beyond offered opn seenb savedb found distance opening) res := by
  refine Met.ofW (cc := cX6_behind) (maxL := 3) (ret := (some .int)) (by decide) rfl ?_
  intro p e s m args below meth c s₁ B hml hv
  obtain ⟨rfl, hsz, hP, hK, hD0, hX⟩ := hv
  subst hsz
  have hts := atoms_spec (ws := wsX6_behind) B.pre
  have hl := lv_entry ([.ref (ad 0), .int p0, .int p1]) (n := 3) (Nat.le_of_ble_eq_true rfl)
  rw [lg_entry_eq]
  have hlocks := B.notSynchronized
  refine t_X6_behind (A := va_A (wC kA ad lq_situation adv_rooms adv_levels adv_goalRoom adv_allDoors dr_state dr_count se_count parent level kind snum xx yy lying switched doors beyond offered opn seenb savedb found distance opening) s.heap.size) ⟨⟨B.exec, B.bytes, hml, findClass_of_methodNamed B.named, hts⟩, hK, fun q h => Or.inr h, hX⟩ (fun r H locs ls pc hd w hres => ?_) ⟨hP, hD0.self, va_S.rf⟩ hl h
  subst hres
  exact W.iret B.exec B.bytes B.returns (fun t ht hW => ⟨⟨_, (), rfl, rfl, by rw [ht]; exact w.1, va_K.moved hW.alike hK, w.2.1⟩, w.2.2.F ht⟩) w.2.2.2.2 hd hlocks
-- ('wC', 'LockQuest', 'goal', '()I', ('lq',))
abbrev rm_X6_goal : Room := { frames := 0, cells := 0, slots := 0, locals := 0 }
set_option maxRecDepth 20000 in
theorem lX6_goal_X6 : ∀ w ∈ wsX60, w ∈ wsX6_goal := by decide +kernel
set_option maxRecDepth 20000 in
theorem mX6_goal_1 : Cond.fieldLink RX6 10 "LockQuest" "adventure" "LLockQuest$Adventure;" ∈ wsX6_goal := by decide +kernel
set_option maxRecDepth 20000 in
theorem lX6_goal_X0 : ∀ w ∈ wsX00, w ∈ wsX6_goal := by decide +kernel
set_option maxRecDepth 20000 in
theorem mX6_goal_3 : Cond.fieldLink RX6 87 "LockQuest$Adventure" "goalRoom" "I" ∈ wsX6_goal := by decide +kernel
def f_X6_goal  (adv_goalRoom : Int32) : Option (Int32) := some adv_goalRoom
set_option maxHeartbeats 4000000 in
set_option maxRecDepth 100000 in
theorem t_X6_goal {p : Program} {l : Launch} {e : Env} {s : State} {m : MethodId} {args : Array Value} {below : List Frame} {meth : Method} {c : Code} {Q : State → Prop} {D : va_G} {kA : Nat → ClassId} {ad : Nat → Nat} {A : Nat → Prop} {lq_situation : Int32} {adv_rooms : Int32} {adv_levels : Int32} {adv_goalRoom : Int32} {adv_allDoors : Int32} {dr_state : Int64} {dr_count : Int32} {se_count : Int32} {parent : Nat → Int32} {level : Nat → Int32} {kind : Nat → Int32} {snum : Nat → Int32} {xx : Nat → Int32} {yy : Nat → Int32} {lying : Nat → Int32} {switched : Nat → Int32} {doors : Nat → Int32} {beyond : Nat → Nat → Int32} {offered : Nat → Int32} {opn : Nat → Int32} {seenb : Nat → Int64} {savedb : Nat → Int64} {found : Nat → Int32} {distance : Nat → Int32} {opening : Nat → Int32}  {res : Int32} (C : Cx p s m c args cX6_goal 1 RX6 wsX6_goal D kA A) (hret : ∀ (r : Int32) (H : Heap) (locs : List Loc) (ls : Array Slot) (pc : Nat), decode cX6_goal pc = .ok (.ireturn, 1) → Wd D A s H locs (wC kA ad lq_situation adv_rooms adv_levels adv_goalRoom adv_allDoors dr_state dr_count se_count parent level kind snum xx yy lying switched doors beyond offered opn seenb savedb found distance opening) → r = res → W p l e rm_X6_goal s m args below meth c H locs 0 0 Q (F0 m pc ls [.int r])) {H : Heap} {locs : List Loc} {ls : Array Slot} (w : Wd D A s H locs (wC kA ad lq_situation adv_rooms adv_levels adv_goalRoom adv_allDoors dr_state dr_count se_count parent level kind snum xx yy lying switched doors beyond offered opn seenb savedb found distance opening)) (hl : lv_has ls 1 [(0, .ref (ad 0))]) (h : f_X6_goal  adv_goalRoom = some res) : W p l e rm_X6_goal s m args below meth c H locs 0 0 Q (F0 m 0 ls []) := by
  obtain ⟨⟨hx, hb, hml, hown, hts⟩, hK, -, -⟩ := id C
  unfold f_X6_goal at h
  refine lv_aload_n hx hb dX6_goal_0 rfl (lv_at hl 0 rfl) ?_
  refine va_get (D := D) (ci := 5) (v := .ref (ad 1)) (C := RX6) (T := TX6) (N := 4) hx hb hts lX6_goal_X6 hown hK w.1 0 rfl rfl 0 (by decide) (hts _ mX6_goal_1) (fun _ h9 => h9) rfl dX6_goal_1 ?_
  refine va_get (D := D) (ci := 0) (v := .int adv_goalRoom) (C := RX0) (T := TX0) (N := 14) hx hb hts lX6_goal_X0 hown hK w.1 1 rfl rfl 2 (by decide) (hts _ mX6_goal_3) (fun _ h9 => h9) rfl dX6_goal_4 ?_
  exact hret _ _ _ _ _ dX6_goal_7 w (Option.some.inj h)
set_option maxHeartbeats 4000000 in
set_option maxRecDepth 100000 in
theorem c_X6_goal (l : Launch) (D : va_G) (kA : Nat → ClassId) (ad : Nat → Nat) (sz : Nat) (lq_situation : Int32) (adv_rooms : Int32) (adv_levels : Int32) (adv_goalRoom : Int32) (adv_allDoors : Int32) (dr_state : Int64) (dr_count : Int32) (se_count : Int32) (parent : Nat → Int32) (level : Nat → Int32) (kind : Nat → Int32) (snum : Nat → Int32) (xx : Nat → Int32) (yy : Nat → Int32) (lying : Nat → Int32) (switched : Nat → Int32) (doors : Nat → Int32) (beyond : Nat → Nat → Int32) (offered : Nat → Int32) (opn : Nat → Int32) (seenb : Nat → Int64) (savedb : Nat → Int64) (found : Nat → Int32) (distance : Nat → Int32) (opening : Nat → Int32)  {res : Int32} (h : f_X6_goal  adv_goalRoom = some res) : Ci l yX6_goal wsX6_goal rm_X6_goal D kA [.ref (ad 0)] sz (wC kA ad lq_situation adv_rooms adv_levels adv_goalRoom adv_allDoors dr_state dr_count se_count parent level kind snum xx yy lying switched doors beyond offered opn seenb savedb found distance opening) (wC kA ad lq_situation adv_rooms adv_levels adv_goalRoom adv_allDoors dr_state dr_count se_count parent level kind snum xx yy lying switched doors beyond offered opn seenb savedb found distance opening) res := by
  refine Met.ofW (cc := cX6_goal) (maxL := 1) (ret := (some .int)) (by decide) rfl ?_
  intro p e s m args below meth c s₁ B hml hv
  obtain ⟨rfl, hsz, hP, hK, hD0, hX⟩ := hv
  subst hsz
  have hts := atoms_spec (ws := wsX6_goal) B.pre
  have hl := lv_entry ([.ref (ad 0)]) (n := 1) (Nat.le_of_ble_eq_true rfl)
  rw [lg_entry_eq]
  have hlocks := B.notSynchronized
  refine t_X6_goal (A := va_A (wC kA ad lq_situation adv_rooms adv_levels adv_goalRoom adv_allDoors dr_state dr_count se_count parent level kind snum xx yy lying switched doors beyond offered opn seenb savedb found distance opening) s.heap.size) ⟨⟨B.exec, B.bytes, hml, findClass_of_methodNamed B.named, hts⟩, hK, fun q h => Or.inr h, hX⟩ (fun r H locs ls pc hd w hres => ?_) ⟨hP, hD0.self, va_S.rf⟩ hl h
  subst hres
  exact W.iret B.exec B.bytes B.returns (fun t ht hW => ⟨⟨_, (), rfl, rfl, by rw [ht]; exact w.1, va_K.moved hW.alike hK, w.2.1⟩, w.2.2.F ht⟩) w.2.2.2.2 hd hlocks
-- ('wC', 'LockQuest', 'restart', '()V', ('lq',))
abbrev rm_X6_restart : Room := { frames := 0, cells := 0, slots := 0, locals := 0 }
set_option maxRecDepth 20000 in
theorem lX6_restart_X6 : ∀ w ∈ wsX60, w ∈ wsX6_restart := by decide +kernel
set_option maxRecDepth 20000 in
theorem mX6_restart_1 : Cond.fieldLink RX6 38 "LockQuest" "situation" "I" ∈ wsX6_restart := by decide +kernel
def f_X6_restart  (lq_situation : Int32) : Option (Int32) := some (0 : Int32)
set_option maxHeartbeats 4000000 in
set_option maxRecDepth 100000 in
theorem t_X6_restart {p : Program} {l : Launch} {e : Env} {s : State} {m : MethodId} {args : Array Value} {below : List Frame} {meth : Method} {c : Code} {Q : State → Prop} {D : va_G} {kA : Nat → ClassId} {ad : Nat → Nat} {A : Nat → Prop} {lq_situation : Int32} {adv_rooms : Int32} {adv_levels : Int32} {adv_goalRoom : Int32} {adv_allDoors : Int32} {dr_state : Int64} {dr_count : Int32} {se_count : Int32} {parent : Nat → Int32} {level : Nat → Int32} {kind : Nat → Int32} {snum : Nat → Int32} {xx : Nat → Int32} {yy : Nat → Int32} {lying : Nat → Int32} {switched : Nat → Int32} {doors : Nat → Int32} {beyond : Nat → Nat → Int32} {offered : Nat → Int32} {opn : Nat → Int32} {seenb : Nat → Int64} {savedb : Nat → Int64} {found : Nat → Int32} {distance : Nat → Int32} {opening : Nat → Int32}  {res : Int32} (C : Cx p s m c args cX6_restart 1 RX6 wsX6_restart D kA A) (hret : ∀ (q0 : Int32) (H : Heap) (locs : List Loc) (ls : Array Slot) (pc : Nat), decode cX6_restart pc = .ok (.return_, 1) → Wd D A s H locs (wC kA ad q0 adv_rooms adv_levels adv_goalRoom adv_allDoors dr_state dr_count se_count parent level kind snum xx yy lying switched doors beyond offered opn seenb savedb found distance opening) → q0 = res → W p l e rm_X6_restart s m args below meth c H locs 0 0 Q (F0 m pc ls [])) {H : Heap} {locs : List Loc} {ls : Array Slot} (w : Wd D A s H locs (wC kA ad lq_situation adv_rooms adv_levels adv_goalRoom adv_allDoors dr_state dr_count se_count parent level kind snum xx yy lying switched doors beyond offered opn seenb savedb found distance opening)) (hl : lv_has ls 1 [(0, .ref (ad 0))]) (h : f_X6_restart  lq_situation = some res) : W p l e rm_X6_restart s m args below meth c H locs 0 0 Q (F0 m 0 ls []) := by
  obtain ⟨⟨hx, hb, hml, hown, hts⟩, hK, -, -⟩ := id C
  unfold f_X6_restart at h
  refine lv_aload_n hx hb dX6_restart_0 rfl (lv_at hl 0 rfl) ?_
  refine lv_iconst (v := 0) hx hb dX6_restart_1 (by decide) ?_
  refine va_put (D := D) (ci := 5) (v := .int (0 : Int32)) (ty := .int) (C := RX6) (T := TX6) (N := 4) hx hb hts lX6_restart_X6 tyX6 tyX6_ok nmX6 hown hK w.1 w.2.1 w.2.2 0 rfl rfl 3 (by decide) (hts _ mX6_restart_1) (fun _ h9 => h9) rfl (by decide +kernel) rfl rfl (Nat.le_of_ble_eq_true rfl) dX6_restart_2 (fun H locs hP hD hS => ?_)
  have w : Wd D A s H locs (wC kA ad (0 : Int32) adv_rooms adv_levels adv_goalRoom adv_allDoors dr_state dr_count se_count parent level kind snum xx yy lying switched doors beyond offered opn seenb savedb found distance opening) := ⟨hP, hD, hS⟩
  exact hret _ _ _ _ _ dX6_restart_5 w (Option.some.inj h)
set_option maxHeartbeats 4000000 in
set_option maxRecDepth 100000 in
theorem c_X6_restart (l : Launch) (D : va_G) (kA : Nat → ClassId) (ad : Nat → Nat) (sz : Nat) (lq_situation : Int32) (adv_rooms : Int32) (adv_levels : Int32) (adv_goalRoom : Int32) (adv_allDoors : Int32) (dr_state : Int64) (dr_count : Int32) (se_count : Int32) (parent : Nat → Int32) (level : Nat → Int32) (kind : Nat → Int32) (snum : Nat → Int32) (xx : Nat → Int32) (yy : Nat → Int32) (lying : Nat → Int32) (switched : Nat → Int32) (doors : Nat → Int32) (beyond : Nat → Nat → Int32) (offered : Nat → Int32) (opn : Nat → Int32) (seenb : Nat → Int64) (savedb : Nat → Int64) (found : Nat → Int32) (distance : Nat → Int32) (opening : Nat → Int32)  {res : Int32} (h : f_X6_restart  lq_situation = some res) : Cv l yX6_restart wsX6_restart rm_X6_restart D kA [.ref (ad 0)] sz (wC kA ad lq_situation adv_rooms adv_levels adv_goalRoom adv_allDoors dr_state dr_count se_count parent level kind snum xx yy lying switched doors beyond offered opn seenb savedb found distance opening) (wC kA ad res adv_rooms adv_levels adv_goalRoom adv_allDoors dr_state dr_count se_count parent level kind snum xx yy lying switched doors beyond offered opn seenb savedb found distance opening) := by
  refine Met.ofW (cc := cX6_restart) (maxL := 1) (ret := none) (by decide) rfl ?_
  intro p e s m args below meth c s₁ B hml hv
  obtain ⟨rfl, hsz, hP, hK, hD0, hX⟩ := hv
  subst hsz
  have hts := atoms_spec (ws := wsX6_restart) B.pre
  have hl := lv_entry ([.ref (ad 0)]) (n := 1) (Nat.le_of_ble_eq_true rfl)
  rw [lg_entry_eq]
  have hlocks := B.notSynchronized
  refine t_X6_restart (A := va_A (wC kA ad lq_situation adv_rooms adv_levels adv_goalRoom adv_allDoors dr_state dr_count se_count parent level kind snum xx yy lying switched doors beyond offered opn seenb savedb found distance opening) s.heap.size) ⟨⟨B.exec, B.bytes, hml, findClass_of_methodNamed B.named, hts⟩, hK, fun q h => Or.inr h, hX⟩ (fun q0 H locs ls pc hd w hres => ?_) ⟨hP, hD0.self, va_S.rf⟩ hl h
  subst hres
  exact W.vret B.exec B.bytes B.returns (fun t ht hW => ⟨⟨(), rfl, trivial, by rw [ht]; exact w.1, va_K.moved hW.alike hK, w.2.1⟩, w.2.2.F ht⟩) w.2.2.2.2 hd hlocks
-- ('wC', 'LockQuest$Situation', 'roomOf', '(I)I', (None,))
abbrev rm_X5_roomOf : Room := { frames := 0, cells := 0, slots := 0, locals := 0 }
def f_X5_roomOf (p0 : Int32)  : Option (Int32) := some (p0 >>> ((10 : Int32) &&& 31))
set_option maxHeartbeats 4000000 in
set_option maxRecDepth 100000 in
theorem t_X5_roomOf {p : Program} {l : Launch} {e : Env} {s : State} {m : MethodId} {args : Array Value} {below : List Frame} {meth : Method} {c : Code} {Q : State → Prop} {D : va_G} {kA : Nat → ClassId} {ad : Nat → Nat} {A : Nat → Prop} {lq_situation : Int32} {adv_rooms : Int32} {adv_levels : Int32} {adv_goalRoom : Int32} {adv_allDoors : Int32} {dr_state : Int64} {dr_count : Int32} {se_count : Int32} {parent : Nat → Int32} {level : Nat → Int32} {kind : Nat → Int32} {snum : Nat → Int32} {xx : Nat → Int32} {yy : Nat → Int32} {lying : Nat → Int32} {switched : Nat → Int32} {doors : Nat → Int32} {beyond : Nat → Nat → Int32} {offered : Nat → Int32} {opn : Nat → Int32} {seenb : Nat → Int64} {savedb : Nat → Int64} {found : Nat → Int32} {distance : Nat → Int32} {opening : Nat → Int32} {p0 : Int32} {res : Int32} (C : Cx p s m c args cX5_roomOf 1 RX5 wsX5_roomOf D kA A) (hret : ∀ (r : Int32) (H : Heap) (locs : List Loc) (ls : Array Slot) (pc : Nat), decode cX5_roomOf pc = .ok (.ireturn, 1) → Wd D A s H locs (wC kA ad lq_situation adv_rooms adv_levels adv_goalRoom adv_allDoors dr_state dr_count se_count parent level kind snum xx yy lying switched doors beyond offered opn seenb savedb found distance opening) → r = res → W p l e rm_X5_roomOf s m args below meth c H locs 0 0 Q (F0 m pc ls [.int r])) {H : Heap} {locs : List Loc} {ls : Array Slot} (w : Wd D A s H locs (wC kA ad lq_situation adv_rooms adv_levels adv_goalRoom adv_allDoors dr_state dr_count se_count parent level kind snum xx yy lying switched doors beyond offered opn seenb savedb found distance opening)) (hl : lv_has ls 1 [(0, .int p0)]) (h : f_X5_roomOf p0  = some res) : W p l e rm_X5_roomOf s m args below meth c H locs 0 0 Q (F0 m 0 ls []) := by
  obtain ⟨⟨hx, hb, hml, hown, hts⟩, hK, -, -⟩ := id C
  unfold f_X5_roomOf at h
  refine lv_iload_n hx hb dX5_roomOf_0 rfl (lv_at hl 0 rfl) ?_
  refine lv_bipush (v := 10) hx hb dX5_roomOf_1 (by decide) ?_
  refine lv_ishr hx hb dX5_roomOf_3 ?_
  exact hret _ _ _ _ _ dX5_roomOf_4 w (Option.some.inj h)
set_option maxHeartbeats 4000000 in
set_option maxRecDepth 100000 in
theorem c_X5_roomOf (l : Launch) (D : va_G) (kA : Nat → ClassId) (ad : Nat → Nat) (sz : Nat) (lq_situation : Int32) (adv_rooms : Int32) (adv_levels : Int32) (adv_goalRoom : Int32) (adv_allDoors : Int32) (dr_state : Int64) (dr_count : Int32) (se_count : Int32) (parent : Nat → Int32) (level : Nat → Int32) (kind : Nat → Int32) (snum : Nat → Int32) (xx : Nat → Int32) (yy : Nat → Int32) (lying : Nat → Int32) (switched : Nat → Int32) (doors : Nat → Int32) (beyond : Nat → Nat → Int32) (offered : Nat → Int32) (opn : Nat → Int32) (seenb : Nat → Int64) (savedb : Nat → Int64) (found : Nat → Int32) (distance : Nat → Int32) (opening : Nat → Int32) (p0 : Int32) {res : Int32} (h : f_X5_roomOf p0  = some res) : Ci l yX5_roomOf wsX5_roomOf rm_X5_roomOf D kA [.int p0] sz (wC kA ad lq_situation adv_rooms adv_levels adv_goalRoom adv_allDoors dr_state dr_count se_count parent level kind snum xx yy lying switched doors beyond offered opn seenb savedb found distance opening) (wC kA ad lq_situation adv_rooms adv_levels adv_goalRoom adv_allDoors dr_state dr_count se_count parent level kind snum xx yy lying switched doors beyond offered opn seenb savedb found distance opening) res := by
  refine Met.ofW (cc := cX5_roomOf) (maxL := 1) (ret := (some .int)) (by decide) rfl ?_
  intro p e s m args below meth c s₁ B hml hv
  obtain ⟨rfl, hsz, hP, hK, hD0, hX⟩ := hv
  subst hsz
  have hts := atoms_spec (ws := wsX5_roomOf) B.pre
  have hl := lv_entry ([.int p0]) (n := 1) (Nat.le_of_ble_eq_true rfl)
  rw [lg_entry_eq]
  have hlocks := B.notSynchronized
  refine t_X5_roomOf (A := va_A (wC kA ad lq_situation adv_rooms adv_levels adv_goalRoom adv_allDoors dr_state dr_count se_count parent level kind snum xx yy lying switched doors beyond offered opn seenb savedb found distance opening) s.heap.size) ⟨⟨B.exec, B.bytes, hml, findClass_of_methodNamed B.named, hts⟩, hK, fun q h => Or.inr h, hX⟩ (fun r H locs ls pc hd w hres => ?_) ⟨hP, hD0.self, va_S.rf⟩ hl h
  subst hres
  exact W.iret B.exec B.bytes B.returns (fun t ht hW => ⟨⟨_, (), rfl, rfl, by rw [ht]; exact w.1, va_K.moved hW.alike hK, w.2.1⟩, w.2.2.F ht⟩) w.2.2.2.2 hd hlocks
-- ('wC', 'LockQuest$Adventure', 'doorOwner', '(II)I', ('adv', None, None))
abbrev rm_X0_doorOwner : Room := { frames := 0, cells := 0, slots := 0, locals := 0 }
set_option maxRecDepth 20000 in
theorem lX0_doorOwner_X0 : ∀ w ∈ wsX00, w ∈ wsX0_doorOwner := by decide +kernel
set_option maxRecDepth 20000 in
theorem mX0_doorOwner_1 : Cond.fieldLink RX0 9 "LockQuest$Adventure" "parent" "[I" ∈ wsX0_doorOwner := by decide +kernel
def f_X0_doorOwner (p0 : Int32) (p1 : Int32) (parent : Nat → Int32) : Option (Int32) := gd (p0 < 0 ∨ 12 ≤ p0.toNatClampNeg) (if (parent p0.toNatClampNeg) = p1 then (some p0) else (gd (p1 < 0 ∨ 12 ≤ p1.toNatClampNeg) (if (parent p1.toNatClampNeg) = p0 then (some p1) else (some (0 : Int32)))))
set_option maxHeartbeats 4000000 in
set_option maxRecDepth 100000 in
theorem t_X0_doorOwner {p : Program} {l : Launch} {e : Env} {s : State} {m : MethodId} {args : Array Value} {below : List Frame} {meth : Method} {c : Code} {Q : State → Prop} {D : va_G} {kA : Nat → ClassId} {ad : Nat → Nat} {A : Nat → Prop} {lq_situation : Int32} {adv_rooms : Int32} {adv_levels : Int32} {adv_goalRoom : Int32} {adv_allDoors : Int32} {dr_state : Int64} {dr_count : Int32} {se_count : Int32} {parent : Nat → Int32} {level : Nat → Int32} {kind : Nat → Int32} {snum : Nat → Int32} {xx : Nat → Int32} {yy : Nat → Int32} {lying : Nat → Int32} {switched : Nat → Int32} {doors : Nat → Int32} {beyond : Nat → Nat → Int32} {offered : Nat → Int32} {opn : Nat → Int32} {seenb : Nat → Int64} {savedb : Nat → Int64} {found : Nat → Int32} {distance : Nat → Int32} {opening : Nat → Int32} {p0 : Int32} {p1 : Int32} {res : Int32} (C : Cx p s m c args cX0_doorOwner 3 RX0 wsX0_doorOwner D kA A) (hret : ∀ (r : Int32) (H : Heap) (locs : List Loc) (ls : Array Slot) (pc : Nat), decode cX0_doorOwner pc = .ok (.ireturn, 1) → Wd D A s H locs (wC kA ad lq_situation adv_rooms adv_levels adv_goalRoom adv_allDoors dr_state dr_count se_count parent level kind snum xx yy lying switched doors beyond offered opn seenb savedb found distance opening) → r = res → W p l e rm_X0_doorOwner s m args below meth c H locs 0 0 Q (F0 m pc ls [.int r])) {H : Heap} {locs : List Loc} {ls : Array Slot} (w : Wd D A s H locs (wC kA ad lq_situation adv_rooms adv_levels adv_goalRoom adv_allDoors dr_state dr_count se_count parent level kind snum xx yy lying switched doors beyond offered opn seenb savedb found distance opening)) (hl : lv_has ls 3 [(0, .ref (ad 1)), (1, .int p0), (2, .int p1)]) (h : f_X0_doorOwner p0 p1 parent = some res) : W p l e rm_X0_doorOwner s m args below meth c H locs 0 0 Q (F0 m 0 ls []) := by
  obtain ⟨⟨hx, hb, hml, hown, hts⟩, hK, -, -⟩ := id C
  unfold f_X0_doorOwner at h
  refine lv_aload_n hx hb dX0_doorOwner_0 rfl (lv_at hl 0 rfl) ?_
  refine va_get (D := D) (ci := 0) (v := .ref (ad 7)) (C := RX0) (T := TX0) (N := 14) hx hb hts lX0_doorOwner_X0 hown hK w.1 1 rfl rfl 4 (by decide) (hts _ mX0_doorOwner_1) (fun _ h9 => h9) rfl dX0_doorOwner_1 ?_
  refine lv_iload_n hx hb dX0_doorOwner_4 rfl (lv_at hl 1 rfl) ?_
  obtain ⟨g1, h⟩ := gd_some h
  refine va_iald hx hb hK w.1 7 0 rfl rfl g1 dX0_doorOwner_5 ?_
  refine lv_iload_n hx hb dX0_doorOwner_6 rfl (lv_at hl 2 rfl) ?_
  refine lv_icmp_ne (tgt := 12) hx hb dX0_doorOwner_7 (by decide) (fun g2 => ?_) (fun g2 => ?_)
  · replace h := it_neg g2 h
    refine lv_aload_n hx hb dX0_doorOwner_12 rfl (lv_at hl 0 rfl) ?_
    refine va_get (D := D) (ci := 0) (v := .ref (ad 7)) (C := RX0) (T := TX0) (N := 14) hx hb hts lX0_doorOwner_X0 hown hK w.1 1 rfl rfl 4 (by decide) (hts _ mX0_doorOwner_1) (fun _ h9 => h9) rfl dX0_doorOwner_13 ?_
    refine lv_iload_n hx hb dX0_doorOwner_16 rfl (lv_at hl 2 rfl) ?_
    obtain ⟨g3, h⟩ := gd_some h
    refine va_iald hx hb hK w.1 7 0 rfl rfl g3 dX0_doorOwner_17 ?_
    refine lv_iload_n hx hb dX0_doorOwner_18 rfl (lv_at hl 1 rfl) ?_
    refine lv_icmp_ne (tgt := 26) hx hb dX0_doorOwner_19 (by decide) (fun g4 => ?_) (fun g4 => ?_)
    · replace h := it_neg g4 h
      refine lv_iconst (v := 0) hx hb dX0_doorOwner_26 (by decide) ?_
      exact hret _ _ _ _ _ dX0_doorOwner_27 w (Option.some.inj h)
    · replace h := it_pos g4 h
      refine lv_iload_n hx hb dX0_doorOwner_22 rfl (lv_at hl 2 rfl) ?_
      refine lv_goto (tgt := 27) hx hb dX0_doorOwner_23 (by decide) ?_
      exact hret _ _ _ _ _ dX0_doorOwner_27 w (Option.some.inj h)
  · replace h := it_pos g2 h
    refine lv_iload_n hx hb dX0_doorOwner_10 rfl (lv_at hl 1 rfl) ?_
    exact hret _ _ _ _ _ dX0_doorOwner_11 w (Option.some.inj h)
set_option maxHeartbeats 4000000 in
set_option maxRecDepth 100000 in
theorem c_X0_doorOwner (l : Launch) (D : va_G) (kA : Nat → ClassId) (ad : Nat → Nat) (sz : Nat) (lq_situation : Int32) (adv_rooms : Int32) (adv_levels : Int32) (adv_goalRoom : Int32) (adv_allDoors : Int32) (dr_state : Int64) (dr_count : Int32) (se_count : Int32) (parent : Nat → Int32) (level : Nat → Int32) (kind : Nat → Int32) (snum : Nat → Int32) (xx : Nat → Int32) (yy : Nat → Int32) (lying : Nat → Int32) (switched : Nat → Int32) (doors : Nat → Int32) (beyond : Nat → Nat → Int32) (offered : Nat → Int32) (opn : Nat → Int32) (seenb : Nat → Int64) (savedb : Nat → Int64) (found : Nat → Int32) (distance : Nat → Int32) (opening : Nat → Int32) (p0 : Int32) (p1 : Int32) {res : Int32} (h : f_X0_doorOwner p0 p1 parent = some res) : Ci l yX0_doorOwner wsX0_doorOwner rm_X0_doorOwner D kA [.ref (ad 1), .int p0, .int p1] sz (wC kA ad lq_situation adv_rooms adv_levels adv_goalRoom adv_allDoors dr_state dr_count se_count parent level kind snum xx yy lying switched doors beyond offered opn seenb savedb found distance opening) (wC kA ad lq_situation adv_rooms adv_levels adv_goalRoom adv_allDoors dr_state dr_count se_count parent level kind snum xx yy lying switched doors beyond offered opn seenb savedb found distance opening) res := by
  refine Met.ofW (cc := cX0_doorOwner) (maxL := 3) (ret := (some .int)) (by decide) rfl ?_
  intro p e s m args below meth c s₁ B hml hv
  obtain ⟨rfl, hsz, hP, hK, hD0, hX⟩ := hv
  subst hsz
  have hts := atoms_spec (ws := wsX0_doorOwner) B.pre
  have hl := lv_entry ([.ref (ad 1), .int p0, .int p1]) (n := 3) (Nat.le_of_ble_eq_true rfl)
  rw [lg_entry_eq]
  have hlocks := B.notSynchronized
  refine t_X0_doorOwner (A := va_A (wC kA ad lq_situation adv_rooms adv_levels adv_goalRoom adv_allDoors dr_state dr_count se_count parent level kind snum xx yy lying switched doors beyond offered opn seenb savedb found distance opening) s.heap.size) ⟨⟨B.exec, B.bytes, hml, findClass_of_methodNamed B.named, hts⟩, hK, fun q h => Or.inr h, hX⟩ (fun r H locs ls pc hd w hres => ?_) ⟨hP, hD0.self, va_S.rf⟩ hl h
  subst hres
  exact W.iret B.exec B.bytes B.returns (fun t ht hW => ⟨⟨_, (), rfl, rfl, by rw [ht]; exact w.1, va_K.moved hW.alike hK, w.2.1⟩, w.2.2.F ht⟩) w.2.2.2.2 hd hlocks
-- ('wC', 'LockQuest$Situation', 'hasKey', '(II)Z', (None, None))
abbrev rm_X5_hasKey : Room := { frames := 1, cells := 0, slots := 0, locals := 20 }
def f_X5_hasKey (p0 : Int32) (p1 : Int32)  : Option (Int32) := (f_X5_keyBit p1).bind (fun u1 => if (p0 &&& u1) = 0 then (some (0 : Int32)) else (some (1 : Int32)))
set_option maxHeartbeats 4000000 in
set_option maxRecDepth 100000 in
theorem t_X5_hasKey {p : Program} {l : Launch} {e : Env} {s : State} {m : MethodId} {args : Array Value} {below : List Frame} {meth : Method} {c : Code} {Q : State → Prop} {D : va_G} {kA : Nat → ClassId} {ad : Nat → Nat} {A : Nat → Prop} {lq_situation : Int32} {adv_rooms : Int32} {adv_levels : Int32} {adv_goalRoom : Int32} {adv_allDoors : Int32} {dr_state : Int64} {dr_count : Int32} {se_count : Int32} {parent : Nat → Int32} {level : Nat → Int32} {kind : Nat → Int32} {snum : Nat → Int32} {xx : Nat → Int32} {yy : Nat → Int32} {lying : Nat → Int32} {switched : Nat → Int32} {doors : Nat → Int32} {beyond : Nat → Nat → Int32} {offered : Nat → Int32} {opn : Nat → Int32} {seenb : Nat → Int64} {savedb : Nat → Int64} {found : Nat → Int32} {distance : Nat → Int32} {opening : Nat → Int32} {p0 : Int32} {p1 : Int32} {res : Int32} (C : Cx p s m c args cX5_hasKey 2 RX5 wsX5_hasKey D kA A) (hret : ∀ (r : Int32) (H : Heap) (locs : List Loc) (ls : Array Slot) (pc : Nat), decode cX5_hasKey pc = .ok (.ireturn, 1) → narrow .boolean (.int r) = .int r → Wd D A s H locs (wC kA ad lq_situation adv_rooms adv_levels adv_goalRoom adv_allDoors dr_state dr_count se_count parent level kind snum xx yy lying switched doors beyond offered opn seenb savedb found distance opening) → r = res → W p l e rm_X5_hasKey s m args below meth c H locs 0 0 Q (F0 m pc ls [.int r])) {H : Heap} {locs : List Loc} {ls : Array Slot} (w : Wd D A s H locs (wC kA ad lq_situation adv_rooms adv_levels adv_goalRoom adv_allDoors dr_state dr_count se_count parent level kind snum xx yy lying switched doors beyond offered opn seenb savedb found distance opening)) (hl : lv_has ls 2 [(0, .int p0), (1, .int p1)]) (h : f_X5_hasKey p0 p1  = some res) : W p l e rm_X5_hasKey s m args below meth c H locs 0 0 Q (F0 m 0 ls []) := by
  obtain ⟨⟨hx, hb, hml, hown, hts⟩, hK, -, -⟩ := id C
  unfold f_X5_hasKey at h
  refine lv_iload_n hx hb dX5_hasKey_0 rfl (lv_at hl 0 rfl) ?_
  refine lv_iload_n hx hb dX5_hasKey_1 rfl (lv_at hl 1 rfl) ?_
  obtain ⟨u1, hc1, h⟩ := bd_some h
  refine gl_calli C w (va_runS (As := [.int p1]) (rest := [.int p0]) ⟨hx, hb, hml, hown, hts⟩ (c_X5_keyBit l D kA ad H.size lq_situation adv_rooms adv_levels adv_goalRoom adv_allDoors dr_state dr_count se_count parent level kind snum xx yy lying switched doors beyond offered opn seenb savedb found distance opening p1 hc1) (va_cwS 1 hts gX5_hasKey_X5_keyBit rfl rfl rfl (by decide +kernel) ⟨Nat.le_of_ble_eq_true rfl, Nat.le_of_ble_eq_true rfl⟩) (Wd.preS C w) rfl rfl hl.1 rfl (lv_room (Nat.le_of_ble_eq_true rfl)) dX5_hasKey_2 ⟨Nat.zero_le _, Nat.zero_le _⟩) (fun H locs w => ?_)
  refine lv_iand hx hb dX5_hasKey_5 ?_
  refine lv_if_eq (tgt := 13) hx hb dX5_hasKey_6 (by decide) (fun g2 => ?_) (fun g2 => ?_)
  · replace h := it_pos g2 h
    refine lv_iconst (v := 0) hx hb dX5_hasKey_13 (by decide) ?_
    exact hret _ _ _ _ _ dX5_hasKey_14 rfl w (Option.some.inj h)
  · replace h := it_neg g2 h
    refine lv_iconst (v := 1) hx hb dX5_hasKey_9 (by decide) ?_
    refine lv_goto (tgt := 14) hx hb dX5_hasKey_10 (by decide) ?_
    exact hret _ _ _ _ _ dX5_hasKey_14 rfl w (Option.some.inj h)
set_option maxHeartbeats 4000000 in
set_option maxRecDepth 100000 in
theorem c_X5_hasKey (l : Launch) (D : va_G) (kA : Nat → ClassId) (ad : Nat → Nat) (sz : Nat) (lq_situation : Int32) (adv_rooms : Int32) (adv_levels : Int32) (adv_goalRoom : Int32) (adv_allDoors : Int32) (dr_state : Int64) (dr_count : Int32) (se_count : Int32) (parent : Nat → Int32) (level : Nat → Int32) (kind : Nat → Int32) (snum : Nat → Int32) (xx : Nat → Int32) (yy : Nat → Int32) (lying : Nat → Int32) (switched : Nat → Int32) (doors : Nat → Int32) (beyond : Nat → Nat → Int32) (offered : Nat → Int32) (opn : Nat → Int32) (seenb : Nat → Int64) (savedb : Nat → Int64) (found : Nat → Int32) (distance : Nat → Int32) (opening : Nat → Int32) (p0 : Int32) (p1 : Int32) {res : Int32} (h : f_X5_hasKey p0 p1  = some res) : Ci l yX5_hasKey wsX5_hasKey rm_X5_hasKey D kA [.int p0, .int p1] sz (wC kA ad lq_situation adv_rooms adv_levels adv_goalRoom adv_allDoors dr_state dr_count se_count parent level kind snum xx yy lying switched doors beyond offered opn seenb savedb found distance opening) (wC kA ad lq_situation adv_rooms adv_levels adv_goalRoom adv_allDoors dr_state dr_count se_count parent level kind snum xx yy lying switched doors beyond offered opn seenb savedb found distance opening) res := by
  refine Met.ofW (cc := cX5_hasKey) (maxL := 2) (ret := (some .boolean)) (by decide) rfl ?_
  intro p e s m args below meth c s₁ B hml hv
  obtain ⟨rfl, hsz, hP, hK, hD0, hX⟩ := hv
  subst hsz
  have hts := atoms_spec (ws := wsX5_hasKey) B.pre
  have hl := lv_entry ([.int p0, .int p1]) (n := 2) (Nat.le_of_ble_eq_true rfl)
  rw [lg_entry_eq]
  have hlocks := B.notSynchronized
  refine t_X5_hasKey (A := va_A (wC kA ad lq_situation adv_rooms adv_levels adv_goalRoom adv_allDoors dr_state dr_count se_count parent level kind snum xx yy lying switched doors beyond offered opn seenb savedb found distance opening) s.heap.size) ⟨⟨B.exec, B.bytes, hml, findClass_of_methodNamed B.named, hts⟩, hK, fun q h => Or.inr h, hX⟩ (fun r H locs ls pc hd hz w hres => ?_) ⟨hP, hD0.self, va_S.rf⟩ hl h
  subst hres
  exact W.zret B.exec B.bytes B.returns hz (fun t ht hW => ⟨⟨_, (), rfl, rfl, by rw [ht]; exact w.1, va_K.moved hW.alike hK, w.2.1⟩, w.2.2.F ht⟩) w.2.2.2.2 hd hlocks
-- ('wC', 'LockQuest$Situation', 'openedBit', '(I)I', (None,))
abbrev rm_X5_openedBit : Room := { frames := 0, cells := 0, slots := 0, locals := 0 }
def f_X5_openedBit (p0 : Int32)  : Option (Int32) := some ((64 : Int32) <<< (p0 &&& 31))
set_option maxHeartbeats 4000000 in
set_option maxRecDepth 100000 in
theorem t_X5_openedBit {p : Program} {l : Launch} {e : Env} {s : State} {m : MethodId} {args : Array Value} {below : List Frame} {meth : Method} {c : Code} {Q : State → Prop} {D : va_G} {kA : Nat → ClassId} {ad : Nat → Nat} {A : Nat → Prop} {lq_situation : Int32} {adv_rooms : Int32} {adv_levels : Int32} {adv_goalRoom : Int32} {adv_allDoors : Int32} {dr_state : Int64} {dr_count : Int32} {se_count : Int32} {parent : Nat → Int32} {level : Nat → Int32} {kind : Nat → Int32} {snum : Nat → Int32} {xx : Nat → Int32} {yy : Nat → Int32} {lying : Nat → Int32} {switched : Nat → Int32} {doors : Nat → Int32} {beyond : Nat → Nat → Int32} {offered : Nat → Int32} {opn : Nat → Int32} {seenb : Nat → Int64} {savedb : Nat → Int64} {found : Nat → Int32} {distance : Nat → Int32} {opening : Nat → Int32} {p0 : Int32} {res : Int32} (C : Cx p s m c args cX5_openedBit 1 RX5 wsX5_openedBit D kA A) (hret : ∀ (r : Int32) (H : Heap) (locs : List Loc) (ls : Array Slot) (pc : Nat), decode cX5_openedBit pc = .ok (.ireturn, 1) → Wd D A s H locs (wC kA ad lq_situation adv_rooms adv_levels adv_goalRoom adv_allDoors dr_state dr_count se_count parent level kind snum xx yy lying switched doors beyond offered opn seenb savedb found distance opening) → r = res → W p l e rm_X5_openedBit s m args below meth c H locs 0 0 Q (F0 m pc ls [.int r])) {H : Heap} {locs : List Loc} {ls : Array Slot} (w : Wd D A s H locs (wC kA ad lq_situation adv_rooms adv_levels adv_goalRoom adv_allDoors dr_state dr_count se_count parent level kind snum xx yy lying switched doors beyond offered opn seenb savedb found distance opening)) (hl : lv_has ls 1 [(0, .int p0)]) (h : f_X5_openedBit p0  = some res) : W p l e rm_X5_openedBit s m args below meth c H locs 0 0 Q (F0 m 0 ls []) := by
  obtain ⟨⟨hx, hb, hml, hown, hts⟩, hK, -, -⟩ := id C
  unfold f_X5_openedBit at h
  refine lv_bipush (v := 64) hx hb dX5_openedBit_0 (by decide) ?_
  refine lv_iload_n hx hb dX5_openedBit_2 rfl (lv_at hl 0 rfl) ?_
  refine lv_ishl hx hb dX5_openedBit_3 ?_
  exact hret _ _ _ _ _ dX5_openedBit_4 w (Option.some.inj h)
set_option maxHeartbeats 4000000 in
set_option maxRecDepth 100000 in
theorem c_X5_openedBit (l : Launch) (D : va_G) (kA : Nat → ClassId) (ad : Nat → Nat) (sz : Nat) (lq_situation : Int32) (adv_rooms : Int32) (adv_levels : Int32) (adv_goalRoom : Int32) (adv_allDoors : Int32) (dr_state : Int64) (dr_count : Int32) (se_count : Int32) (parent : Nat → Int32) (level : Nat → Int32) (kind : Nat → Int32) (snum : Nat → Int32) (xx : Nat → Int32) (yy : Nat → Int32) (lying : Nat → Int32) (switched : Nat → Int32) (doors : Nat → Int32) (beyond : Nat → Nat → Int32) (offered : Nat → Int32) (opn : Nat → Int32) (seenb : Nat → Int64) (savedb : Nat → Int64) (found : Nat → Int32) (distance : Nat → Int32) (opening : Nat → Int32) (p0 : Int32) {res : Int32} (h : f_X5_openedBit p0  = some res) : Ci l yX5_openedBit wsX5_openedBit rm_X5_openedBit D kA [.int p0] sz (wC kA ad lq_situation adv_rooms adv_levels adv_goalRoom adv_allDoors dr_state dr_count se_count parent level kind snum xx yy lying switched doors beyond offered opn seenb savedb found distance opening) (wC kA ad lq_situation adv_rooms adv_levels adv_goalRoom adv_allDoors dr_state dr_count se_count parent level kind snum xx yy lying switched doors beyond offered opn seenb savedb found distance opening) res := by
  refine Met.ofW (cc := cX5_openedBit) (maxL := 1) (ret := (some .int)) (by decide) rfl ?_
  intro p e s m args below meth c s₁ B hml hv
  obtain ⟨rfl, hsz, hP, hK, hD0, hX⟩ := hv
  subst hsz
  have hts := atoms_spec (ws := wsX5_openedBit) B.pre
  have hl := lv_entry ([.int p0]) (n := 1) (Nat.le_of_ble_eq_true rfl)
  rw [lg_entry_eq]
  have hlocks := B.notSynchronized
  refine t_X5_openedBit (A := va_A (wC kA ad lq_situation adv_rooms adv_levels adv_goalRoom adv_allDoors dr_state dr_count se_count parent level kind snum xx yy lying switched doors beyond offered opn seenb savedb found distance opening) s.heap.size) ⟨⟨B.exec, B.bytes, hml, findClass_of_methodNamed B.named, hts⟩, hK, fun q h => Or.inr h, hX⟩ (fun r H locs ls pc hd w hres => ?_) ⟨hP, hD0.self, va_S.rf⟩ hl h
  subst hres
  exact W.iret B.exec B.bytes B.returns (fun t ht hW => ⟨⟨_, (), rfl, rfl, by rw [ht]; exact w.1, va_K.moved hW.alike hK, w.2.1⟩, w.2.2.F ht⟩) w.2.2.2.2 hd hlocks
-- ('wC', 'LockQuest$Situation', 'hasOpened', '(II)Z', (None, None))
abbrev rm_X5_hasOpened : Room := { frames := 1, cells := 0, slots := 0, locals := 20 }
def f_X5_hasOpened (p0 : Int32) (p1 : Int32)  : Option (Int32) := (f_X5_openedBit p1).bind (fun u1 => if (p0 &&& u1) = 0 then (some (0 : Int32)) else (some (1 : Int32)))
set_option maxHeartbeats 4000000 in
set_option maxRecDepth 100000 in
theorem t_X5_hasOpened {p : Program} {l : Launch} {e : Env} {s : State} {m : MethodId} {args : Array Value} {below : List Frame} {meth : Method} {c : Code} {Q : State → Prop} {D : va_G} {kA : Nat → ClassId} {ad : Nat → Nat} {A : Nat → Prop} {lq_situation : Int32} {adv_rooms : Int32} {adv_levels : Int32} {adv_goalRoom : Int32} {adv_allDoors : Int32} {dr_state : Int64} {dr_count : Int32} {se_count : Int32} {parent : Nat → Int32} {level : Nat → Int32} {kind : Nat → Int32} {snum : Nat → Int32} {xx : Nat → Int32} {yy : Nat → Int32} {lying : Nat → Int32} {switched : Nat → Int32} {doors : Nat → Int32} {beyond : Nat → Nat → Int32} {offered : Nat → Int32} {opn : Nat → Int32} {seenb : Nat → Int64} {savedb : Nat → Int64} {found : Nat → Int32} {distance : Nat → Int32} {opening : Nat → Int32} {p0 : Int32} {p1 : Int32} {res : Int32} (C : Cx p s m c args cX5_hasOpened 2 RX5 wsX5_hasOpened D kA A) (hret : ∀ (r : Int32) (H : Heap) (locs : List Loc) (ls : Array Slot) (pc : Nat), decode cX5_hasOpened pc = .ok (.ireturn, 1) → narrow .boolean (.int r) = .int r → Wd D A s H locs (wC kA ad lq_situation adv_rooms adv_levels adv_goalRoom adv_allDoors dr_state dr_count se_count parent level kind snum xx yy lying switched doors beyond offered opn seenb savedb found distance opening) → r = res → W p l e rm_X5_hasOpened s m args below meth c H locs 0 0 Q (F0 m pc ls [.int r])) {H : Heap} {locs : List Loc} {ls : Array Slot} (w : Wd D A s H locs (wC kA ad lq_situation adv_rooms adv_levels adv_goalRoom adv_allDoors dr_state dr_count se_count parent level kind snum xx yy lying switched doors beyond offered opn seenb savedb found distance opening)) (hl : lv_has ls 2 [(0, .int p0), (1, .int p1)]) (h : f_X5_hasOpened p0 p1  = some res) : W p l e rm_X5_hasOpened s m args below meth c H locs 0 0 Q (F0 m 0 ls []) := by
  obtain ⟨⟨hx, hb, hml, hown, hts⟩, hK, -, -⟩ := id C
  unfold f_X5_hasOpened at h
  refine lv_iload_n hx hb dX5_hasOpened_0 rfl (lv_at hl 0 rfl) ?_
  refine lv_iload_n hx hb dX5_hasOpened_1 rfl (lv_at hl 1 rfl) ?_
  obtain ⟨u1, hc1, h⟩ := bd_some h
  refine gl_calli C w (va_runS (As := [.int p1]) (rest := [.int p0]) ⟨hx, hb, hml, hown, hts⟩ (c_X5_openedBit l D kA ad H.size lq_situation adv_rooms adv_levels adv_goalRoom adv_allDoors dr_state dr_count se_count parent level kind snum xx yy lying switched doors beyond offered opn seenb savedb found distance opening p1 hc1) (va_cwS 1 hts gX5_hasOpened_X5_openedBit rfl rfl rfl (by decide +kernel) ⟨Nat.le_of_ble_eq_true rfl, Nat.le_of_ble_eq_true rfl⟩) (Wd.preS C w) rfl rfl hl.1 rfl (lv_room (Nat.le_of_ble_eq_true rfl)) dX5_hasOpened_2 ⟨Nat.zero_le _, Nat.zero_le _⟩) (fun H locs w => ?_)
  refine lv_iand hx hb dX5_hasOpened_5 ?_
  refine lv_if_eq (tgt := 13) hx hb dX5_hasOpened_6 (by decide) (fun g2 => ?_) (fun g2 => ?_)
  · replace h := it_pos g2 h
    refine lv_iconst (v := 0) hx hb dX5_hasOpened_13 (by decide) ?_
    exact hret _ _ _ _ _ dX5_hasOpened_14 rfl w (Option.some.inj h)
  · replace h := it_neg g2 h
    refine lv_iconst (v := 1) hx hb dX5_hasOpened_9 (by decide) ?_
    refine lv_goto (tgt := 14) hx hb dX5_hasOpened_10 (by decide) ?_
    exact hret _ _ _ _ _ dX5_hasOpened_14 rfl w (Option.some.inj h)
set_option maxHeartbeats 4000000 in
set_option maxRecDepth 100000 in
theorem c_X5_hasOpened (l : Launch) (D : va_G) (kA : Nat → ClassId) (ad : Nat → Nat) (sz : Nat) (lq_situation : Int32) (adv_rooms : Int32) (adv_levels : Int32) (adv_goalRoom : Int32) (adv_allDoors : Int32) (dr_state : Int64) (dr_count : Int32) (se_count : Int32) (parent : Nat → Int32) (level : Nat → Int32) (kind : Nat → Int32) (snum : Nat → Int32) (xx : Nat → Int32) (yy : Nat → Int32) (lying : Nat → Int32) (switched : Nat → Int32) (doors : Nat → Int32) (beyond : Nat → Nat → Int32) (offered : Nat → Int32) (opn : Nat → Int32) (seenb : Nat → Int64) (savedb : Nat → Int64) (found : Nat → Int32) (distance : Nat → Int32) (opening : Nat → Int32) (p0 : Int32) (p1 : Int32) {res : Int32} (h : f_X5_hasOpened p0 p1  = some res) : Ci l yX5_hasOpened wsX5_hasOpened rm_X5_hasOpened D kA [.int p0, .int p1] sz (wC kA ad lq_situation adv_rooms adv_levels adv_goalRoom adv_allDoors dr_state dr_count se_count parent level kind snum xx yy lying switched doors beyond offered opn seenb savedb found distance opening) (wC kA ad lq_situation adv_rooms adv_levels adv_goalRoom adv_allDoors dr_state dr_count se_count parent level kind snum xx yy lying switched doors beyond offered opn seenb savedb found distance opening) res := by
  refine Met.ofW (cc := cX5_hasOpened) (maxL := 2) (ret := (some .boolean)) (by decide) rfl ?_
  intro p e s m args below meth c s₁ B hml hv
  obtain ⟨rfl, hsz, hP, hK, hD0, hX⟩ := hv
  subst hsz
  have hts := atoms_spec (ws := wsX5_hasOpened) B.pre
  have hl := lv_entry ([.int p0, .int p1]) (n := 2) (Nat.le_of_ble_eq_true rfl)
  rw [lg_entry_eq]
  have hlocks := B.notSynchronized
  refine t_X5_hasOpened (A := va_A (wC kA ad lq_situation adv_rooms adv_levels adv_goalRoom adv_allDoors dr_state dr_count se_count parent level kind snum xx yy lying switched doors beyond offered opn seenb savedb found distance opening) s.heap.size) ⟨⟨B.exec, B.bytes, hml, findClass_of_methodNamed B.named, hts⟩, hK, fun q h => Or.inr h, hX⟩ (fun r H locs ls pc hd hz w hres => ?_) ⟨hP, hD0.self, va_S.rf⟩ hl h
  subst hres
  exact W.zret B.exec B.bytes B.returns hz (fun t ht hW => ⟨⟨_, (), rfl, rfl, by rw [ht]; exact w.1, va_K.moved hW.alike hK, w.2.1⟩, w.2.2.F ht⟩) w.2.2.2.2 hd hlocks
-- ('wC', 'java/lang/Integer', 'bitCount', '(I)I', (None,))
abbrev rm_J6_bitCount_0f7a4 : Room := { frames := 0, cells := 0, slots := 0, locals := 0 }
set_option maxRecDepth 20000 in
theorem mJ6_bitCount_0f7a4_0 : Cond.constant RJ6 265 (1431655765) ∈ wsJ6_bitCount_0f7a4 := by decide +kernel
set_option maxRecDepth 20000 in
theorem mJ6_bitCount_0f7a4_1 : Cond.constant RJ6 266 (858993459) ∈ wsJ6_bitCount_0f7a4 := by decide +kernel
set_option maxRecDepth 20000 in
theorem mJ6_bitCount_0f7a4_2 : Cond.constant RJ6 267 (252645135) ∈ wsJ6_bitCount_0f7a4 := by decide +kernel
def f_J6_bitCount (p0 : Int32)  : Option (Int32) := some ((((((((p0 - ((p0.toUInt32 >>> ((1 : Int32).toUInt32 &&& Int32.toUInt32 31)).toInt32 &&& (1431655765 : Int32))) &&& (858993459 : Int32)) + (((p0 - ((p0.toUInt32 >>> ((1 : Int32).toUInt32 &&& Int32.toUInt32 31)).toInt32 &&& (1431655765 : Int32))).toUInt32 >>> ((2 : Int32).toUInt32 &&& Int32.toUInt32 31)).toInt32 &&& (858993459 : Int32))) + ((((p0 - ((p0.toUInt32 >>> ((1 : Int32).toUInt32 &&& Int32.toUInt32 31)).toInt32 &&& (1431655765 : Int32))) &&& (858993459 : Int32)) + (((p0 - ((p0.toUInt32 >>> ((1 : Int32).toUInt32 &&& Int32.toUInt32 31)).toInt32 &&& (1431655765 : Int32))).toUInt32 >>> ((2 : Int32).toUInt32 &&& Int32.toUInt32 31)).toInt32 &&& (858993459 : Int32))).toUInt32 >>> ((4 : Int32).toUInt32 &&& Int32.toUInt32 31)).toInt32) &&& (252645135 : Int32)) + ((((((p0 - ((p0.toUInt32 >>> ((1 : Int32).toUInt32 &&& Int32.toUInt32 31)).toInt32 &&& (1431655765 : Int32))) &&& (858993459 : Int32)) + (((p0 - ((p0.toUInt32 >>> ((1 : Int32).toUInt32 &&& Int32.toUInt32 31)).toInt32 &&& (1431655765 : Int32))).toUInt32 >>> ((2 : Int32).toUInt32 &&& Int32.toUInt32 31)).toInt32 &&& (858993459 : Int32))) + ((((p0 - ((p0.toUInt32 >>> ((1 : Int32).toUInt32 &&& Int32.toUInt32 31)).toInt32 &&& (1431655765 : Int32))) &&& (858993459 : Int32)) + (((p0 - ((p0.toUInt32 >>> ((1 : Int32).toUInt32 &&& Int32.toUInt32 31)).toInt32 &&& (1431655765 : Int32))).toUInt32 >>> ((2 : Int32).toUInt32 &&& Int32.toUInt32 31)).toInt32 &&& (858993459 : Int32))).toUInt32 >>> ((4 : Int32).toUInt32 &&& Int32.toUInt32 31)).toInt32) &&& (252645135 : Int32)).toUInt32 >>> ((8 : Int32).toUInt32 &&& Int32.toUInt32 31)).toInt32) + (((((((p0 - ((p0.toUInt32 >>> ((1 : Int32).toUInt32 &&& Int32.toUInt32 31)).toInt32 &&& (1431655765 : Int32))) &&& (858993459 : Int32)) + (((p0 - ((p0.toUInt32 >>> ((1 : Int32).toUInt32 &&& Int32.toUInt32 31)).toInt32 &&& (1431655765 : Int32))).toUInt32 >>> ((2 : Int32).toUInt32 &&& Int32.toUInt32 31)).toInt32 &&& (858993459 : Int32))) + ((((p0 - ((p0.toUInt32 >>> ((1 : Int32).toUInt32 &&& Int32.toUInt32 31)).toInt32 &&& (1431655765 : Int32))) &&& (858993459 : Int32)) + (((p0 - ((p0.toUInt32 >>> ((1 : Int32).toUInt32 &&& Int32.toUInt32 31)).toInt32 &&& (1431655765 : Int32))).toUInt32 >>> ((2 : Int32).toUInt32 &&& Int32.toUInt32 31)).toInt32 &&& (858993459 : Int32))).toUInt32 >>> ((4 : Int32).toUInt32 &&& Int32.toUInt32 31)).toInt32) &&& (252645135 : Int32)) + ((((((p0 - ((p0.toUInt32 >>> ((1 : Int32).toUInt32 &&& Int32.toUInt32 31)).toInt32 &&& (1431655765 : Int32))) &&& (858993459 : Int32)) + (((p0 - ((p0.toUInt32 >>> ((1 : Int32).toUInt32 &&& Int32.toUInt32 31)).toInt32 &&& (1431655765 : Int32))).toUInt32 >>> ((2 : Int32).toUInt32 &&& Int32.toUInt32 31)).toInt32 &&& (858993459 : Int32))) + ((((p0 - ((p0.toUInt32 >>> ((1 : Int32).toUInt32 &&& Int32.toUInt32 31)).toInt32 &&& (1431655765 : Int32))) &&& (858993459 : Int32)) + (((p0 - ((p0.toUInt32 >>> ((1 : Int32).toUInt32 &&& Int32.toUInt32 31)).toInt32 &&& (1431655765 : Int32))).toUInt32 >>> ((2 : Int32).toUInt32 &&& Int32.toUInt32 31)).toInt32 &&& (858993459 : Int32))).toUInt32 >>> ((4 : Int32).toUInt32 &&& Int32.toUInt32 31)).toInt32) &&& (252645135 : Int32)).toUInt32 >>> ((8 : Int32).toUInt32 &&& Int32.toUInt32 31)).toInt32).toUInt32 >>> ((16 : Int32).toUInt32 &&& Int32.toUInt32 31)).toInt32) &&& (63 : Int32))
set_option maxHeartbeats 4000000 in
set_option maxRecDepth 100000 in
theorem t_J6_bitCount {p : Program} {l : Launch} {e : Env} {s : State} {m : MethodId} {args : Array Value} {below : List Frame} {meth : Method} {c : Code} {Q : State → Prop} {D : va_G} {kA : Nat → ClassId} {ad : Nat → Nat} {A : Nat → Prop} {lq_situation : Int32} {adv_rooms : Int32} {adv_levels : Int32} {adv_goalRoom : Int32} {adv_allDoors : Int32} {dr_state : Int64} {dr_count : Int32} {se_count : Int32} {parent : Nat → Int32} {level : Nat → Int32} {kind : Nat → Int32} {snum : Nat → Int32} {xx : Nat → Int32} {yy : Nat → Int32} {lying : Nat → Int32} {switched : Nat → Int32} {doors : Nat → Int32} {beyond : Nat → Nat → Int32} {offered : Nat → Int32} {opn : Nat → Int32} {seenb : Nat → Int64} {savedb : Nat → Int64} {found : Nat → Int32} {distance : Nat → Int32} {opening : Nat → Int32} {p0 : Int32} {res : Int32} (C : Cx p s m c args cJ6_bitCount_0f7a4 1 RJ6 wsJ6_bitCount_0f7a4 D kA A) (hret : ∀ (r : Int32) (H : Heap) (locs : List Loc) (ls : Array Slot) (pc : Nat), decode cJ6_bitCount_0f7a4 pc = .ok (.ireturn, 1) → Wd D A s H locs (wC kA ad lq_situation adv_rooms adv_levels adv_goalRoom adv_allDoors dr_state dr_count se_count parent level kind snum xx yy lying switched doors beyond offered opn seenb savedb found distance opening) → r = res → W p l e rm_J6_bitCount_0f7a4 s m args below meth c H locs 0 0 Q (F0 m pc ls [.int r])) {H : Heap} {locs : List Loc} {ls : Array Slot} (w : Wd D A s H locs (wC kA ad lq_situation adv_rooms adv_levels adv_goalRoom adv_allDoors dr_state dr_count se_count parent level kind snum xx yy lying switched doors beyond offered opn seenb savedb found distance opening)) (hl : lv_has ls 1 [(0, .int p0)]) (h : f_J6_bitCount p0  = some res) : W p l e rm_J6_bitCount_0f7a4 s m args below meth c H locs 0 0 Q (F0 m 0 ls []) := by
  obtain ⟨⟨hx, hb, hml, hown, hts⟩, hK, -, -⟩ := id C
  unfold f_J6_bitCount at h
  refine lv_iload_n hx hb dJ6_bitCount_0f7a4_0 rfl (lv_at hl 0 rfl) ?_
  refine lv_iload_n hx hb dJ6_bitCount_0f7a4_1 rfl (lv_at hl 0 rfl) ?_
  refine lv_iconst (v := 1) hx hb dJ6_bitCount_0f7a4_2 (by decide) ?_
  refine lv_iushr hx hb dJ6_bitCount_0f7a4_3 rfl ?_
  refine lv_ldcw (v := 1431655765) hx hb hown (hts _ mJ6_bitCount_0f7a4_0) dJ6_bitCount_0f7a4_4 ?_
  refine lv_iand hx hb dJ6_bitCount_0f7a4_7 ?_
  refine lv_isub hx hb dJ6_bitCount_0f7a4_8 ?_
  refine lv_istore_n (lv' := [(0, .int (p0 - ((p0.toUInt32 >>> ((1 : Int32).toUInt32 &&& Int32.toUInt32 31)).toInt32 &&& (1431655765 : Int32))))]) hx hb dJ6_bitCount_0f7a4_9 rfl hl (by decide) rfl (fun ls hl => ?_)
  refine lv_iload_n hx hb dJ6_bitCount_0f7a4_10 rfl (lv_at hl 0 rfl) ?_
  refine lv_ldcw (v := 858993459) hx hb hown (hts _ mJ6_bitCount_0f7a4_1) dJ6_bitCount_0f7a4_11 ?_
  refine lv_iand hx hb dJ6_bitCount_0f7a4_14 ?_
  refine lv_iload_n hx hb dJ6_bitCount_0f7a4_15 rfl (lv_at hl 0 rfl) ?_
  refine lv_iconst (v := 2) hx hb dJ6_bitCount_0f7a4_16 (by decide) ?_
  refine lv_iushr hx hb dJ6_bitCount_0f7a4_17 rfl ?_
  refine lv_ldcw (v := 858993459) hx hb hown (hts _ mJ6_bitCount_0f7a4_1) dJ6_bitCount_0f7a4_18 ?_
  refine lv_iand hx hb dJ6_bitCount_0f7a4_21 ?_
  refine lv_iadd hx hb dJ6_bitCount_0f7a4_22 ?_
  refine lv_istore_n (lv' := [(0, .int (((p0 - ((p0.toUInt32 >>> ((1 : Int32).toUInt32 &&& Int32.toUInt32 31)).toInt32 &&& (1431655765 : Int32))) &&& (858993459 : Int32)) + (((p0 - ((p0.toUInt32 >>> ((1 : Int32).toUInt32 &&& Int32.toUInt32 31)).toInt32 &&& (1431655765 : Int32))).toUInt32 >>> ((2 : Int32).toUInt32 &&& Int32.toUInt32 31)).toInt32 &&& (858993459 : Int32))))]) hx hb dJ6_bitCount_0f7a4_23 rfl hl (by decide) rfl (fun ls hl => ?_)
  refine lv_iload_n hx hb dJ6_bitCount_0f7a4_24 rfl (lv_at hl 0 rfl) ?_
  refine lv_iload_n hx hb dJ6_bitCount_0f7a4_25 rfl (lv_at hl 0 rfl) ?_
  refine lv_iconst (v := 4) hx hb dJ6_bitCount_0f7a4_26 (by decide) ?_
  refine lv_iushr hx hb dJ6_bitCount_0f7a4_27 rfl ?_
  refine lv_iadd hx hb dJ6_bitCount_0f7a4_28 ?_
  refine lv_ldcw (v := 252645135) hx hb hown (hts _ mJ6_bitCount_0f7a4_2) dJ6_bitCount_0f7a4_29 ?_
  refine lv_iand hx hb dJ6_bitCount_0f7a4_32 ?_
  refine lv_istore_n (lv' := [(0, .int (((((p0 - ((p0.toUInt32 >>> ((1 : Int32).toUInt32 &&& Int32.toUInt32 31)).toInt32 &&& (1431655765 : Int32))) &&& (858993459 : Int32)) + (((p0 - ((p0.toUInt32 >>> ((1 : Int32).toUInt32 &&& Int32.toUInt32 31)).toInt32 &&& (1431655765 : Int32))).toUInt32 >>> ((2 : Int32).toUInt32 &&& Int32.toUInt32 31)).toInt32 &&& (858993459 : Int32))) + ((((p0 - ((p0.toUInt32 >>> ((1 : Int32).toUInt32 &&& Int32.toUInt32 31)).toInt32 &&& (1431655765 : Int32))) &&& (858993459 : Int32)) + (((p0 - ((p0.toUInt32 >>> ((1 : Int32).toUInt32 &&& Int32.toUInt32 31)).toInt32 &&& (1431655765 : Int32))).toUInt32 >>> ((2 : Int32).toUInt32 &&& Int32.toUInt32 31)).toInt32 &&& (858993459 : Int32))).toUInt32 >>> ((4 : Int32).toUInt32 &&& Int32.toUInt32 31)).toInt32) &&& (252645135 : Int32)))]) hx hb dJ6_bitCount_0f7a4_33 rfl hl (by decide) rfl (fun ls hl => ?_)
  refine lv_iload_n hx hb dJ6_bitCount_0f7a4_34 rfl (lv_at hl 0 rfl) ?_
  refine lv_iload_n hx hb dJ6_bitCount_0f7a4_35 rfl (lv_at hl 0 rfl) ?_
  refine lv_bipush (v := 8) hx hb dJ6_bitCount_0f7a4_36 (by decide) ?_
  refine lv_iushr hx hb dJ6_bitCount_0f7a4_38 rfl ?_
  refine lv_iadd hx hb dJ6_bitCount_0f7a4_39 ?_
  refine lv_istore_n (lv' := [(0, .int ((((((p0 - ((p0.toUInt32 >>> ((1 : Int32).toUInt32 &&& Int32.toUInt32 31)).toInt32 &&& (1431655765 : Int32))) &&& (858993459 : Int32)) + (((p0 - ((p0.toUInt32 >>> ((1 : Int32).toUInt32 &&& Int32.toUInt32 31)).toInt32 &&& (1431655765 : Int32))).toUInt32 >>> ((2 : Int32).toUInt32 &&& Int32.toUInt32 31)).toInt32 &&& (858993459 : Int32))) + ((((p0 - ((p0.toUInt32 >>> ((1 : Int32).toUInt32 &&& Int32.toUInt32 31)).toInt32 &&& (1431655765 : Int32))) &&& (858993459 : Int32)) + (((p0 - ((p0.toUInt32 >>> ((1 : Int32).toUInt32 &&& Int32.toUInt32 31)).toInt32 &&& (1431655765 : Int32))).toUInt32 >>> ((2 : Int32).toUInt32 &&& Int32.toUInt32 31)).toInt32 &&& (858993459 : Int32))).toUInt32 >>> ((4 : Int32).toUInt32 &&& Int32.toUInt32 31)).toInt32) &&& (252645135 : Int32)) + ((((((p0 - ((p0.toUInt32 >>> ((1 : Int32).toUInt32 &&& Int32.toUInt32 31)).toInt32 &&& (1431655765 : Int32))) &&& (858993459 : Int32)) + (((p0 - ((p0.toUInt32 >>> ((1 : Int32).toUInt32 &&& Int32.toUInt32 31)).toInt32 &&& (1431655765 : Int32))).toUInt32 >>> ((2 : Int32).toUInt32 &&& Int32.toUInt32 31)).toInt32 &&& (858993459 : Int32))) + ((((p0 - ((p0.toUInt32 >>> ((1 : Int32).toUInt32 &&& Int32.toUInt32 31)).toInt32 &&& (1431655765 : Int32))) &&& (858993459 : Int32)) + (((p0 - ((p0.toUInt32 >>> ((1 : Int32).toUInt32 &&& Int32.toUInt32 31)).toInt32 &&& (1431655765 : Int32))).toUInt32 >>> ((2 : Int32).toUInt32 &&& Int32.toUInt32 31)).toInt32 &&& (858993459 : Int32))).toUInt32 >>> ((4 : Int32).toUInt32 &&& Int32.toUInt32 31)).toInt32) &&& (252645135 : Int32)).toUInt32 >>> ((8 : Int32).toUInt32 &&& Int32.toUInt32 31)).toInt32))]) hx hb dJ6_bitCount_0f7a4_40 rfl hl (by decide) rfl (fun ls hl => ?_)
  refine lv_iload_n hx hb dJ6_bitCount_0f7a4_41 rfl (lv_at hl 0 rfl) ?_
  refine lv_iload_n hx hb dJ6_bitCount_0f7a4_42 rfl (lv_at hl 0 rfl) ?_
  refine lv_bipush (v := 16) hx hb dJ6_bitCount_0f7a4_43 (by decide) ?_
  refine lv_iushr hx hb dJ6_bitCount_0f7a4_45 rfl ?_
  refine lv_iadd hx hb dJ6_bitCount_0f7a4_46 ?_
  refine lv_istore_n (lv' := [(0, .int (((((((p0 - ((p0.toUInt32 >>> ((1 : Int32).toUInt32 &&& Int32.toUInt32 31)).toInt32 &&& (1431655765 : Int32))) &&& (858993459 : Int32)) + (((p0 - ((p0.toUInt32 >>> ((1 : Int32).toUInt32 &&& Int32.toUInt32 31)).toInt32 &&& (1431655765 : Int32))).toUInt32 >>> ((2 : Int32).toUInt32 &&& Int32.toUInt32 31)).toInt32 &&& (858993459 : Int32))) + ((((p0 - ((p0.toUInt32 >>> ((1 : Int32).toUInt32 &&& Int32.toUInt32 31)).toInt32 &&& (1431655765 : Int32))) &&& (858993459 : Int32)) + (((p0 - ((p0.toUInt32 >>> ((1 : Int32).toUInt32 &&& Int32.toUInt32 31)).toInt32 &&& (1431655765 : Int32))).toUInt32 >>> ((2 : Int32).toUInt32 &&& Int32.toUInt32 31)).toInt32 &&& (858993459 : Int32))).toUInt32 >>> ((4 : Int32).toUInt32 &&& Int32.toUInt32 31)).toInt32) &&& (252645135 : Int32)) + ((((((p0 - ((p0.toUInt32 >>> ((1 : Int32).toUInt32 &&& Int32.toUInt32 31)).toInt32 &&& (1431655765 : Int32))) &&& (858993459 : Int32)) + (((p0 - ((p0.toUInt32 >>> ((1 : Int32).toUInt32 &&& Int32.toUInt32 31)).toInt32 &&& (1431655765 : Int32))).toUInt32 >>> ((2 : Int32).toUInt32 &&& Int32.toUInt32 31)).toInt32 &&& (858993459 : Int32))) + ((((p0 - ((p0.toUInt32 >>> ((1 : Int32).toUInt32 &&& Int32.toUInt32 31)).toInt32 &&& (1431655765 : Int32))) &&& (858993459 : Int32)) + (((p0 - ((p0.toUInt32 >>> ((1 : Int32).toUInt32 &&& Int32.toUInt32 31)).toInt32 &&& (1431655765 : Int32))).toUInt32 >>> ((2 : Int32).toUInt32 &&& Int32.toUInt32 31)).toInt32 &&& (858993459 : Int32))).toUInt32 >>> ((4 : Int32).toUInt32 &&& Int32.toUInt32 31)).toInt32) &&& (252645135 : Int32)).toUInt32 >>> ((8 : Int32).toUInt32 &&& Int32.toUInt32 31)).toInt32) + (((((((p0 - ((p0.toUInt32 >>> ((1 : Int32).toUInt32 &&& Int32.toUInt32 31)).toInt32 &&& (1431655765 : Int32))) &&& (858993459 : Int32)) + (((p0 - ((p0.toUInt32 >>> ((1 : Int32).toUInt32 &&& Int32.toUInt32 31)).toInt32 &&& (1431655765 : Int32))).toUInt32 >>> ((2 : Int32).toUInt32 &&& Int32.toUInt32 31)).toInt32 &&& (858993459 : Int32))) + ((((p0 - ((p0.toUInt32 >>> ((1 : Int32).toUInt32 &&& Int32.toUInt32 31)).toInt32 &&& (1431655765 : Int32))) &&& (858993459 : Int32)) + (((p0 - ((p0.toUInt32 >>> ((1 : Int32).toUInt32 &&& Int32.toUInt32 31)).toInt32 &&& (1431655765 : Int32))).toUInt32 >>> ((2 : Int32).toUInt32 &&& Int32.toUInt32 31)).toInt32 &&& (858993459 : Int32))).toUInt32 >>> ((4 : Int32).toUInt32 &&& Int32.toUInt32 31)).toInt32) &&& (252645135 : Int32)) + ((((((p0 - ((p0.toUInt32 >>> ((1 : Int32).toUInt32 &&& Int32.toUInt32 31)).toInt32 &&& (1431655765 : Int32))) &&& (858993459 : Int32)) + (((p0 - ((p0.toUInt32 >>> ((1 : Int32).toUInt32 &&& Int32.toUInt32 31)).toInt32 &&& (1431655765 : Int32))).toUInt32 >>> ((2 : Int32).toUInt32 &&& Int32.toUInt32 31)).toInt32 &&& (858993459 : Int32))) + ((((p0 - ((p0.toUInt32 >>> ((1 : Int32).toUInt32 &&& Int32.toUInt32 31)).toInt32 &&& (1431655765 : Int32))) &&& (858993459 : Int32)) + (((p0 - ((p0.toUInt32 >>> ((1 : Int32).toUInt32 &&& Int32.toUInt32 31)).toInt32 &&& (1431655765 : Int32))).toUInt32 >>> ((2 : Int32).toUInt32 &&& Int32.toUInt32 31)).toInt32 &&& (858993459 : Int32))).toUInt32 >>> ((4 : Int32).toUInt32 &&& Int32.toUInt32 31)).toInt32) &&& (252645135 : Int32)).toUInt32 >>> ((8 : Int32).toUInt32 &&& Int32.toUInt32 31)).toInt32).toUInt32 >>> ((16 : Int32).toUInt32 &&& Int32.toUInt32 31)).toInt32))]) hx hb dJ6_bitCount_0f7a4_47 rfl hl (by decide) rfl (fun ls hl => ?_)
  refine lv_iload_n hx hb dJ6_bitCount_0f7a4_48 rfl (lv_at hl 0 rfl) ?_
  refine lv_bipush (v := 63) hx hb dJ6_bitCount_0f7a4_49 (by decide) ?_
  refine lv_iand hx hb dJ6_bitCount_0f7a4_51 ?_
  exact hret _ _ _ _ _ dJ6_bitCount_0f7a4_52 w (Option.some.inj h)
set_option maxHeartbeats 4000000 in
set_option maxRecDepth 100000 in
theorem c_J6_bitCount (l : Launch) (D : va_G) (kA : Nat → ClassId) (ad : Nat → Nat) (sz : Nat) (lq_situation : Int32) (adv_rooms : Int32) (adv_levels : Int32) (adv_goalRoom : Int32) (adv_allDoors : Int32) (dr_state : Int64) (dr_count : Int32) (se_count : Int32) (parent : Nat → Int32) (level : Nat → Int32) (kind : Nat → Int32) (snum : Nat → Int32) (xx : Nat → Int32) (yy : Nat → Int32) (lying : Nat → Int32) (switched : Nat → Int32) (doors : Nat → Int32) (beyond : Nat → Nat → Int32) (offered : Nat → Int32) (opn : Nat → Int32) (seenb : Nat → Int64) (savedb : Nat → Int64) (found : Nat → Int32) (distance : Nat → Int32) (opening : Nat → Int32) (p0 : Int32) {res : Int32} (h : f_J6_bitCount p0  = some res) : Ci l yJ6_bitCount_0f7a4 wsJ6_bitCount_0f7a4 rm_J6_bitCount_0f7a4 D kA [.int p0] sz (wC kA ad lq_situation adv_rooms adv_levels adv_goalRoom adv_allDoors dr_state dr_count se_count parent level kind snum xx yy lying switched doors beyond offered opn seenb savedb found distance opening) (wC kA ad lq_situation adv_rooms adv_levels adv_goalRoom adv_allDoors dr_state dr_count se_count parent level kind snum xx yy lying switched doors beyond offered opn seenb savedb found distance opening) res := by
  refine Met.ofW (cc := cJ6_bitCount_0f7a4) (maxL := 1) (ret := (some .int)) (by decide) rfl ?_
  intro p e s m args below meth c s₁ B hml hv
  obtain ⟨rfl, hsz, hP, hK, hD0, hX⟩ := hv
  subst hsz
  have hts := atoms_spec (ws := wsJ6_bitCount_0f7a4) B.pre
  have hl := lv_entry ([.int p0]) (n := 1) (Nat.le_of_ble_eq_true rfl)
  rw [lg_entry_eq]
  have hlocks := B.notSynchronized
  refine t_J6_bitCount (A := va_A (wC kA ad lq_situation adv_rooms adv_levels adv_goalRoom adv_allDoors dr_state dr_count se_count parent level kind snum xx yy lying switched doors beyond offered opn seenb savedb found distance opening) s.heap.size) ⟨⟨B.exec, B.bytes, hml, findClass_of_methodNamed B.named, hts⟩, hK, fun q h => Or.inr h, hX⟩ (fun r H locs ls pc hd w hres => ?_) ⟨hP, hD0.self, va_S.rf⟩ hl h
  subst hres
  exact W.iret B.exec B.bytes B.returns (fun t ht hW => ⟨⟨_, (), rfl, rfl, by rw [ht]; exact w.1, va_K.moved hW.alike hK, w.2.1⟩, w.2.2.F ht⟩) w.2.2.2.2 hd hlocks
-- ('wC', 'LockQuest$Situation', 'smallKeysLeft', '(I)I', (None,))
abbrev rm_X5_smallKeysLeft : Room := { frames := 1, cells := 0, slots := 0, locals := 20 }
def f_X5_smallKeysLeft (p0 : Int32)  : Option (Int32) := (f_J6_bitCount (p0 &&& (56 : Int32))).bind (fun u1 => (f_J6_bitCount (p0 &&& (448 : Int32))).bind (fun u2 => some (u1 - u2)))
set_option maxHeartbeats 4000000 in
set_option maxRecDepth 100000 in
theorem t_X5_smallKeysLeft {p : Program} {l : Launch} {e : Env} {s : State} {m : MethodId} {args : Array Value} {below : List Frame} {meth : Method} {c : Code} {Q : State → Prop} {D : va_G} {kA : Nat → ClassId} {ad : Nat → Nat} {A : Nat → Prop} {lq_situation : Int32} {adv_rooms : Int32} {adv_levels : Int32} {adv_goalRoom : Int32} {adv_allDoors : Int32} {dr_state : Int64} {dr_count : Int32} {se_count : Int32} {parent : Nat → Int32} {level : Nat → Int32} {kind : Nat → Int32} {snum : Nat → Int32} {xx : Nat → Int32} {yy : Nat → Int32} {lying : Nat → Int32} {switched : Nat → Int32} {doors : Nat → Int32} {beyond : Nat → Nat → Int32} {offered : Nat → Int32} {opn : Nat → Int32} {seenb : Nat → Int64} {savedb : Nat → Int64} {found : Nat → Int32} {distance : Nat → Int32} {opening : Nat → Int32} {p0 : Int32} {res : Int32} (C : Cx p s m c args cX5_smallKeysLeft 1 RX5 wsX5_smallKeysLeft D kA A) (hret : ∀ (r : Int32) (H : Heap) (locs : List Loc) (ls : Array Slot) (pc : Nat), decode cX5_smallKeysLeft pc = .ok (.ireturn, 1) → Wd D A s H locs (wC kA ad lq_situation adv_rooms adv_levels adv_goalRoom adv_allDoors dr_state dr_count se_count parent level kind snum xx yy lying switched doors beyond offered opn seenb savedb found distance opening) → r = res → W p l e rm_X5_smallKeysLeft s m args below meth c H locs 0 0 Q (F0 m pc ls [.int r])) {H : Heap} {locs : List Loc} {ls : Array Slot} (w : Wd D A s H locs (wC kA ad lq_situation adv_rooms adv_levels adv_goalRoom adv_allDoors dr_state dr_count se_count parent level kind snum xx yy lying switched doors beyond offered opn seenb savedb found distance opening)) (hl : lv_has ls 1 [(0, .int p0)]) (h : f_X5_smallKeysLeft p0  = some res) : W p l e rm_X5_smallKeysLeft s m args below meth c H locs 0 0 Q (F0 m 0 ls []) := by
  obtain ⟨⟨hx, hb, hml, hown, hts⟩, hK, -, -⟩ := id C
  unfold f_X5_smallKeysLeft at h
  refine lv_iload_n hx hb dX5_smallKeysLeft_0 rfl (lv_at hl 0 rfl) ?_
  refine lv_bipush (v := 56) hx hb dX5_smallKeysLeft_1 (by decide) ?_
  refine lv_iand hx hb dX5_smallKeysLeft_3 ?_
  obtain ⟨u1, hc1, h⟩ := bd_some h
  refine gl_calli C w (va_runS (As := [.int (p0 &&& (56 : Int32))]) (rest := []) ⟨hx, hb, hml, hown, hts⟩ (c_J6_bitCount l D kA ad H.size lq_situation adv_rooms adv_levels adv_goalRoom adv_allDoors dr_state dr_count se_count parent level kind snum xx yy lying switched doors beyond offered opn seenb savedb found distance opening (p0 &&& (56 : Int32)) hc1) (va_cwS 1 hts gX5_smallKeysLeft_J6_bitCount_0f7a4 rfl rfl rfl (by decide +kernel) ⟨Nat.le_of_ble_eq_true rfl, Nat.le_of_ble_eq_true rfl⟩) (Wd.preS C w) rfl rfl hl.1 rfl (lv_room (Nat.le_of_ble_eq_true rfl)) dX5_smallKeysLeft_4 ⟨Nat.zero_le _, Nat.zero_le _⟩) (fun H locs w => ?_)
  refine lv_iload_n hx hb dX5_smallKeysLeft_7 rfl (lv_at hl 0 rfl) ?_
  refine lv_sipush (v := 448) hx hb dX5_smallKeysLeft_8 (by decide) ?_
  refine lv_iand hx hb dX5_smallKeysLeft_11 ?_
  obtain ⟨u2, hc2, h⟩ := bd_some h
  refine gl_calli C w (va_runS (As := [.int (p0 &&& (448 : Int32))]) (rest := [.int u1]) ⟨hx, hb, hml, hown, hts⟩ (c_J6_bitCount l D kA ad H.size lq_situation adv_rooms adv_levels adv_goalRoom adv_allDoors dr_state dr_count se_count parent level kind snum xx yy lying switched doors beyond offered opn seenb savedb found distance opening (p0 &&& (448 : Int32)) hc2) (va_cwS 1 hts gX5_smallKeysLeft_J6_bitCount_0f7a4 rfl rfl rfl (by decide +kernel) ⟨Nat.le_of_ble_eq_true rfl, Nat.le_of_ble_eq_true rfl⟩) (Wd.preS C w) rfl rfl hl.1 rfl (lv_room (Nat.le_of_ble_eq_true rfl)) dX5_smallKeysLeft_12 ⟨Nat.zero_le _, Nat.zero_le _⟩) (fun H locs w => ?_)
  refine lv_isub hx hb dX5_smallKeysLeft_15 ?_
  exact hret _ _ _ _ _ dX5_smallKeysLeft_16 w (Option.some.inj h)
set_option maxHeartbeats 4000000 in
set_option maxRecDepth 100000 in
theorem c_X5_smallKeysLeft (l : Launch) (D : va_G) (kA : Nat → ClassId) (ad : Nat → Nat) (sz : Nat) (lq_situation : Int32) (adv_rooms : Int32) (adv_levels : Int32) (adv_goalRoom : Int32) (adv_allDoors : Int32) (dr_state : Int64) (dr_count : Int32) (se_count : Int32) (parent : Nat → Int32) (level : Nat → Int32) (kind : Nat → Int32) (snum : Nat → Int32) (xx : Nat → Int32) (yy : Nat → Int32) (lying : Nat → Int32) (switched : Nat → Int32) (doors : Nat → Int32) (beyond : Nat → Nat → Int32) (offered : Nat → Int32) (opn : Nat → Int32) (seenb : Nat → Int64) (savedb : Nat → Int64) (found : Nat → Int32) (distance : Nat → Int32) (opening : Nat → Int32) (p0 : Int32) {res : Int32} (h : f_X5_smallKeysLeft p0  = some res) : Ci l yX5_smallKeysLeft wsX5_smallKeysLeft rm_X5_smallKeysLeft D kA [.int p0] sz (wC kA ad lq_situation adv_rooms adv_levels adv_goalRoom adv_allDoors dr_state dr_count se_count parent level kind snum xx yy lying switched doors beyond offered opn seenb savedb found distance opening) (wC kA ad lq_situation adv_rooms adv_levels adv_goalRoom adv_allDoors dr_state dr_count se_count parent level kind snum xx yy lying switched doors beyond offered opn seenb savedb found distance opening) res := by
  refine Met.ofW (cc := cX5_smallKeysLeft) (maxL := 1) (ret := (some .int)) (by decide) rfl ?_
  intro p e s m args below meth c s₁ B hml hv
  obtain ⟨rfl, hsz, hP, hK, hD0, hX⟩ := hv
  subst hsz
  have hts := atoms_spec (ws := wsX5_smallKeysLeft) B.pre
  have hl := lv_entry ([.int p0]) (n := 1) (Nat.le_of_ble_eq_true rfl)
  rw [lg_entry_eq]
  have hlocks := B.notSynchronized
  refine t_X5_smallKeysLeft (A := va_A (wC kA ad lq_situation adv_rooms adv_levels adv_goalRoom adv_allDoors dr_state dr_count se_count parent level kind snum xx yy lying switched doors beyond offered opn seenb savedb found distance opening) s.heap.size) ⟨⟨B.exec, B.bytes, hml, findClass_of_methodNamed B.named, hts⟩, hK, fun q h => Or.inr h, hX⟩ (fun r H locs ls pc hd w hres => ?_) ⟨hP, hD0.self, va_S.rf⟩ hl h
  subst hres
  exact W.iret B.exec B.bytes B.returns (fun t ht hW => ⟨⟨_, (), rfl, rfl, by rw [ht]; exact w.1, va_K.moved hW.alike hK, w.2.1⟩, w.2.2.F ht⟩) w.2.2.2.2 hd hlocks
-- ('wC', 'LockQuest$Situation', 'positionOf', '(I)I', (None,))
abbrev rm_X5_positionOf : Room := { frames := 0, cells := 0, slots := 0, locals := 0 }
def f_X5_positionOf (p0 : Int32)  : Option (Int32) := if (p0 &&& (512 : Int32)) = 0 then (some (0 : Int32)) else (some (1 : Int32))
set_option maxHeartbeats 4000000 in
set_option maxRecDepth 100000 in
theorem t_X5_positionOf {p : Program} {l : Launch} {e : Env} {s : State} {m : MethodId} {args : Array Value} {below : List Frame} {meth : Method} {c : Code} {Q : State → Prop} {D : va_G} {kA : Nat → ClassId} {ad : Nat → Nat} {A : Nat → Prop} {lq_situation : Int32} {adv_rooms : Int32} {adv_levels : Int32} {adv_goalRoom : Int32} {adv_allDoors : Int32} {dr_state : Int64} {dr_count : Int32} {se_count : Int32} {parent : Nat → Int32} {level : Nat → Int32} {kind : Nat → Int32} {snum : Nat → Int32} {xx : Nat → Int32} {yy : Nat → Int32} {lying : Nat → Int32} {switched : Nat → Int32} {doors : Nat → Int32} {beyond : Nat → Nat → Int32} {offered : Nat → Int32} {opn : Nat → Int32} {seenb : Nat → Int64} {savedb : Nat → Int64} {found : Nat → Int32} {distance : Nat → Int32} {opening : Nat → Int32} {p0 : Int32} {res : Int32} (C : Cx p s m c args cX5_positionOf 1 RX5 wsX5_positionOf D kA A) (hret : ∀ (r : Int32) (H : Heap) (locs : List Loc) (ls : Array Slot) (pc : Nat), decode cX5_positionOf pc = .ok (.ireturn, 1) → Wd D A s H locs (wC kA ad lq_situation adv_rooms adv_levels adv_goalRoom adv_allDoors dr_state dr_count se_count parent level kind snum xx yy lying switched doors beyond offered opn seenb savedb found distance opening) → r = res → W p l e rm_X5_positionOf s m args below meth c H locs 0 0 Q (F0 m pc ls [.int r])) {H : Heap} {locs : List Loc} {ls : Array Slot} (w : Wd D A s H locs (wC kA ad lq_situation adv_rooms adv_levels adv_goalRoom adv_allDoors dr_state dr_count se_count parent level kind snum xx yy lying switched doors beyond offered opn seenb savedb found distance opening)) (hl : lv_has ls 1 [(0, .int p0)]) (h : f_X5_positionOf p0  = some res) : W p l e rm_X5_positionOf s m args below meth c H locs 0 0 Q (F0 m 0 ls []) := by
  obtain ⟨⟨hx, hb, hml, hown, hts⟩, hK, -, -⟩ := id C
  unfold f_X5_positionOf at h
  refine lv_iload_n hx hb dX5_positionOf_0 rfl (lv_at hl 0 rfl) ?_
  refine lv_sipush (v := 512) hx hb dX5_positionOf_1 (by decide) ?_
  refine lv_iand hx hb dX5_positionOf_4 ?_
  refine lv_if_ne (tgt := 12) hx hb dX5_positionOf_5 (by decide) (fun g1 => ?_) (fun g1 => ?_)
  · replace h := it_neg g1 h
    refine lv_iconst (v := 1) hx hb dX5_positionOf_12 (by decide) ?_
    exact hret _ _ _ _ _ dX5_positionOf_13 w (Option.some.inj h)
  · replace h := it_pos g1 h
    refine lv_iconst (v := 0) hx hb dX5_positionOf_8 (by decide) ?_
    refine lv_goto (tgt := 13) hx hb dX5_positionOf_9 (by decide) ?_
    exact hret _ _ _ _ _ dX5_positionOf_13 w (Option.some.inj h)
set_option maxHeartbeats 4000000 in
set_option maxRecDepth 100000 in
theorem c_X5_positionOf (l : Launch) (D : va_G) (kA : Nat → ClassId) (ad : Nat → Nat) (sz : Nat) (lq_situation : Int32) (adv_rooms : Int32) (adv_levels : Int32) (adv_goalRoom : Int32) (adv_allDoors : Int32) (dr_state : Int64) (dr_count : Int32) (se_count : Int32) (parent : Nat → Int32) (level : Nat → Int32) (kind : Nat → Int32) (snum : Nat → Int32) (xx : Nat → Int32) (yy : Nat → Int32) (lying : Nat → Int32) (switched : Nat → Int32) (doors : Nat → Int32) (beyond : Nat → Nat → Int32) (offered : Nat → Int32) (opn : Nat → Int32) (seenb : Nat → Int64) (savedb : Nat → Int64) (found : Nat → Int32) (distance : Nat → Int32) (opening : Nat → Int32) (p0 : Int32) {res : Int32} (h : f_X5_positionOf p0  = some res) : Ci l yX5_positionOf wsX5_positionOf rm_X5_positionOf D kA [.int p0] sz (wC kA ad lq_situation adv_rooms adv_levels adv_goalRoom adv_allDoors dr_state dr_count se_count parent level kind snum xx yy lying switched doors beyond offered opn seenb savedb found distance opening) (wC kA ad lq_situation adv_rooms adv_levels adv_goalRoom adv_allDoors dr_state dr_count se_count parent level kind snum xx yy lying switched doors beyond offered opn seenb savedb found distance opening) res := by
  refine Met.ofW (cc := cX5_positionOf) (maxL := 1) (ret := (some .int)) (by decide) rfl ?_
  intro p e s m args below meth c s₁ B hml hv
  obtain ⟨rfl, hsz, hP, hK, hD0, hX⟩ := hv
  subst hsz
  have hts := atoms_spec (ws := wsX5_positionOf) B.pre
  have hl := lv_entry ([.int p0]) (n := 1) (Nat.le_of_ble_eq_true rfl)
  rw [lg_entry_eq]
  have hlocks := B.notSynchronized
  refine t_X5_positionOf (A := va_A (wC kA ad lq_situation adv_rooms adv_levels adv_goalRoom adv_allDoors dr_state dr_count se_count parent level kind snum xx yy lying switched doors beyond offered opn seenb savedb found distance opening) s.heap.size) ⟨⟨B.exec, B.bytes, hml, findClass_of_methodNamed B.named, hts⟩, hK, fun q h => Or.inr h, hX⟩ (fun r H locs ls pc hd w hres => ?_) ⟨hP, hD0.self, va_S.rf⟩ hl h
  subst hres
  exact W.iret B.exec B.bytes B.returns (fun t ht hW => ⟨⟨_, (), rfl, rfl, by rw [ht]; exact w.1, va_K.moved hW.alike hK, w.2.1⟩, w.2.2.F ht⟩) w.2.2.2.2 hd hlocks
-- ('wC', 'LockQuest$Adventure', 'opens', '(II)Z', ('adv', None, None))
abbrev rm_X0_opens : Room := { frames := 2, cells := 0, slots := 0, locals := 41 }
set_option maxRecDepth 20000 in
theorem lX0_opens_X0 : ∀ w ∈ wsX00, w ∈ wsX0_opens := by decide +kernel
set_option maxRecDepth 20000 in
theorem mX0_opens_1 : Cond.fieldLink RX0 18 "LockQuest$Adventure" "kind" "[I" ∈ wsX0_opens := by decide +kernel
set_option maxRecDepth 20000 in
theorem mX0_opens_2 : Cond.fieldLink RX0 15 "LockQuest$Adventure" "level" "[I" ∈ wsX0_opens := by decide +kernel
set_option maxRecDepth 20000 in
theorem mX0_opens_3 : Cond.fieldLink RX0 21 "LockQuest$Adventure" "smallNumber" "[I" ∈ wsX0_opens := by decide +kernel
def f_X0_opens (p0 : Int32) (p1 : Int32) (level : Nat → Int32) (kind : Nat → Int32) (snum : Nat → Int32) : Option (Int32) := gd (p1 < 0 ∨ 12 ≤ p1.toNatClampNeg) (if (kind p1.toNatClampNeg) = (1 : Int32) then (gd (p1 < 0 ∨ 12 ≤ p1.toNatClampNeg) ((f_X5_hasKey p0 (level p1.toNatClampNeg)).bind (fun u4 => gd (¬ u4 = 0 ∧ ¬ u4 = 1) (some u4)))) else (if (kind p1.toNatClampNeg) = (2 : Int32) then (gd (p1 < 0 ∨ 12 ≤ p1.toNatClampNeg) ((f_X5_hasOpened p0 (snum p1.toNatClampNeg)).bind (fun u8 => if u8 = 0 then ((f_X5_smallKeysLeft p0).bind (fun u10 => if u10 ≤ 0 then (some (0 : Int32)) else (some (1 : Int32)))) else (some (1 : Int32))))) else (if (kind p1.toNatClampNeg) = (3 : Int32) then ((f_X5_positionOf p0).bind (fun u13 => if u13 = 0 then (some (1 : Int32)) else (some (0 : Int32)))) else (if (kind p1.toNatClampNeg) = (4 : Int32) then ((f_X5_positionOf p0).bind (fun u16 => if u16 = (1 : Int32) then (some (1 : Int32)) else (some (0 : Int32)))) else (some (1 : Int32))))))
set_option maxHeartbeats 4000000 in
set_option maxRecDepth 100000 in
theorem t_X0_opens {p : Program} {l : Launch} {e : Env} {s : State} {m : MethodId} {args : Array Value} {below : List Frame} {meth : Method} {c : Code} {Q : State → Prop} {D : va_G} {kA : Nat → ClassId} {ad : Nat → Nat} {A : Nat → Prop} {lq_situation : Int32} {adv_rooms : Int32} {adv_levels : Int32} {adv_goalRoom : Int32} {adv_allDoors : Int32} {dr_state : Int64} {dr_count : Int32} {se_count : Int32} {parent : Nat → Int32} {level : Nat → Int32} {kind : Nat → Int32} {snum : Nat → Int32} {xx : Nat → Int32} {yy : Nat → Int32} {lying : Nat → Int32} {switched : Nat → Int32} {doors : Nat → Int32} {beyond : Nat → Nat → Int32} {offered : Nat → Int32} {opn : Nat → Int32} {seenb : Nat → Int64} {savedb : Nat → Int64} {found : Nat → Int32} {distance : Nat → Int32} {opening : Nat → Int32} {p0 : Int32} {p1 : Int32} {res : Int32} (C : Cx p s m c args cX0_opens 3 RX0 wsX0_opens D kA A) (hret : ∀ (r : Int32) (H : Heap) (locs : List Loc) (ls : Array Slot) (pc : Nat), decode cX0_opens pc = .ok (.ireturn, 1) → narrow .boolean (.int r) = .int r → Wd D A s H locs (wC kA ad lq_situation adv_rooms adv_levels adv_goalRoom adv_allDoors dr_state dr_count se_count parent level kind snum xx yy lying switched doors beyond offered opn seenb savedb found distance opening) → r = res → W p l e rm_X0_opens s m args below meth c H locs 0 0 Q (F0 m pc ls [.int r])) {H : Heap} {locs : List Loc} {ls : Array Slot} (w : Wd D A s H locs (wC kA ad lq_situation adv_rooms adv_levels adv_goalRoom adv_allDoors dr_state dr_count se_count parent level kind snum xx yy lying switched doors beyond offered opn seenb savedb found distance opening)) (hl : lv_has ls 3 [(0, .ref (ad 1)), (1, .int p0), (2, .int p1)]) (h : f_X0_opens p0 p1 level kind snum = some res) : W p l e rm_X0_opens s m args below meth c H locs 0 0 Q (F0 m 0 ls []) := by
  obtain ⟨⟨hx, hb, hml, hown, hts⟩, hK, -, -⟩ := id C
  unfold f_X0_opens at h
  refine lv_aload_n hx hb dX0_opens_0 rfl (lv_at hl 0 rfl) ?_
  refine va_get (D := D) (ci := 0) (v := .ref (ad 9)) (C := RX0) (T := TX0) (N := 14) hx hb hts lX0_opens_X0 hown hK w.1 1 rfl rfl 6 (by decide) (hts _ mX0_opens_1) (fun _ h9 => h9) rfl dX0_opens_1 ?_
  refine lv_iload_n hx hb dX0_opens_4 rfl (lv_at hl 2 rfl) ?_
  obtain ⟨g1, h⟩ := gd_some h
  refine va_iald hx hb hK w.1 9 0 rfl rfl g1 dX0_opens_5 ?_
  by_cases g2 : (kind p1.toNatClampNeg) = (1 : Int32)
  · replace h := it_pos g2 h
    refine lv_tableIn (off := 30) (tgt := 36) hx hb dX0_opens_6 (by rw [g2]; decide) (by rw [g2]; decide) (by rw [g2]; rfl) (by decide) ?_
    refine lv_iload_n hx hb dX0_opens_36 rfl (lv_at hl 1 rfl) ?_
    refine lv_aload_n hx hb dX0_opens_37 rfl (lv_at hl 0 rfl) ?_
    refine va_get (D := D) (ci := 0) (v := .ref (ad 8)) (C := RX0) (T := TX0) (N := 14) hx hb hts lX0_opens_X0 hown hK w.1 1 rfl rfl 5 (by decide) (hts _ mX0_opens_2) (fun _ h9 => h9) rfl dX0_opens_38 ?_
    refine lv_iload_n hx hb dX0_opens_41 rfl (lv_at hl 2 rfl) ?_
    obtain ⟨g3, h⟩ := gd_some h
    refine va_iald hx hb hK w.1 8 0 rfl rfl g3 dX0_opens_42 ?_
    obtain ⟨u4, hc4, h⟩ := bd_some h
    refine gl_calli C w (va_runS (As := [.int p0, .int (level p1.toNatClampNeg)]) (rest := []) ⟨hx, hb, hml, hown, hts⟩ (c_X5_hasKey l D kA ad H.size lq_situation adv_rooms adv_levels adv_goalRoom adv_allDoors dr_state dr_count se_count parent level kind snum xx yy lying switched doors beyond offered opn seenb savedb found distance opening p0 (level p1.toNatClampNeg) hc4) (va_cwS 2 hts gX0_opens_X5_hasKey rfl rfl rfl (by decide +kernel) ⟨Nat.le_of_ble_eq_true rfl, Nat.le_of_ble_eq_true rfl⟩) (Wd.preS C w) rfl rfl hl.1 rfl (lv_room (Nat.le_of_ble_eq_true rfl)) dX0_opens_43 ⟨Nat.zero_le _, Nat.zero_le _⟩) (fun H locs w => ?_)
    obtain ⟨g5, h⟩ := gd_some h
    exact hret _ _ _ _ _ dX0_opens_46 (z01 g5) w (Option.some.inj h)
  replace h := it_neg g2 h
  by_cases g6 : (kind p1.toNatClampNeg) = (2 : Int32)
  · replace h := it_pos g6 h
    refine lv_tableIn (off := 41) (tgt := 47) hx hb dX0_opens_6 (by rw [g6]; decide) (by rw [g6]; decide) (by rw [g6]; rfl) (by decide) ?_
    refine lv_iload_n hx hb dX0_opens_47 rfl (lv_at hl 1 rfl) ?_
    refine lv_aload_n hx hb dX0_opens_48 rfl (lv_at hl 0 rfl) ?_
    refine va_get (D := D) (ci := 0) (v := .ref (ad 10)) (C := RX0) (T := TX0) (N := 14) hx hb hts lX0_opens_X0 hown hK w.1 1 rfl rfl 7 (by decide) (hts _ mX0_opens_3) (fun _ h9 => h9) rfl dX0_opens_49 ?_
    refine lv_iload_n hx hb dX0_opens_52 rfl (lv_at hl 2 rfl) ?_
    obtain ⟨g7, h⟩ := gd_some h
    refine va_iald hx hb hK w.1 10 0 rfl rfl g7 dX0_opens_53 ?_
    obtain ⟨u8, hc8, h⟩ := bd_some h
    refine gl_calli C w (va_runS (As := [.int p0, .int (snum p1.toNatClampNeg)]) (rest := []) ⟨hx, hb, hml, hown, hts⟩ (c_X5_hasOpened l D kA ad H.size lq_situation adv_rooms adv_levels adv_goalRoom adv_allDoors dr_state dr_count se_count parent level kind snum xx yy lying switched doors beyond offered opn seenb savedb found distance opening p0 (snum p1.toNatClampNeg) hc8) (va_cwS 2 hts gX0_opens_X5_hasOpened rfl rfl rfl (by decide +kernel) ⟨Nat.le_of_ble_eq_true rfl, Nat.le_of_ble_eq_true rfl⟩) (Wd.preS C w) rfl rfl hl.1 rfl (lv_room (Nat.le_of_ble_eq_true rfl)) dX0_opens_54 ⟨Nat.zero_le _, Nat.zero_le _⟩) (fun H locs w => ?_)
    refine lv_if_ne (tgt := 67) hx hb dX0_opens_57 (by decide) (fun g9 => ?_) (fun g9 => ?_)
    · replace h := it_neg g9 h
      refine lv_iconst (v := 1) hx hb dX0_opens_67 (by decide) ?_
      refine lv_goto (tgt := 72) hx hb dX0_opens_68 (by decide) ?_
      exact hret _ _ _ _ _ dX0_opens_72 rfl w (Option.some.inj h)
    · replace h := it_pos g9 h
      refine lv_iload_n hx hb dX0_opens_60 rfl (lv_at hl 1 rfl) ?_
      obtain ⟨u10, hc10, h⟩ := bd_some h
      refine gl_calli C w (va_runS (As := [.int p0]) (rest := []) ⟨hx, hb, hml, hown, hts⟩ (c_X5_smallKeysLeft l D kA ad H.size lq_situation adv_rooms adv_levels adv_goalRoom adv_allDoors dr_state dr_count se_count parent level kind snum xx yy lying switched doors beyond offered opn seenb savedb found distance opening p0 hc10) (va_cwS 1 hts gX0_opens_X5_smallKeysLeft rfl rfl rfl (by decide +kernel) ⟨Nat.le_of_ble_eq_true rfl, Nat.le_of_ble_eq_true rfl⟩) (Wd.preS C w) rfl rfl hl.1 rfl (lv_room (Nat.le_of_ble_eq_true rfl)) dX0_opens_61 ⟨Nat.zero_le _, Nat.zero_le _⟩) (fun H locs w => ?_)
      refine lv_if_le (tgt := 71) hx hb dX0_opens_64 (by decide) (fun g11 => ?_) (fun g11 => ?_)
      · replace h := it_pos g11 h
        refine lv_iconst (v := 0) hx hb dX0_opens_71 (by decide) ?_
        exact hret _ _ _ _ _ dX0_opens_72 rfl w (Option.some.inj h)
      · replace h := it_neg g11 h
        refine lv_iconst (v := 1) hx hb dX0_opens_67 (by decide) ?_
        refine lv_goto (tgt := 72) hx hb dX0_opens_68 (by decide) ?_
        exact hret _ _ _ _ _ dX0_opens_72 rfl w (Option.some.inj h)
  replace h := it_neg g6 h
  by_cases g12 : (kind p1.toNatClampNeg) = (3 : Int32)
  · replace h := it_pos g12 h
    refine lv_tableIn (off := 67) (tgt := 73) hx hb dX0_opens_6 (by rw [g12]; decide) (by rw [g12]; decide) (by rw [g12]; rfl) (by decide) ?_
    refine lv_iload_n hx hb dX0_opens_73 rfl (lv_at hl 1 rfl) ?_
    obtain ⟨u13, hc13, h⟩ := bd_some h
    refine gl_calli C w (va_runS (As := [.int p0]) (rest := []) ⟨hx, hb, hml, hown, hts⟩ (c_X5_positionOf l D kA ad H.size lq_situation adv_rooms adv_levels adv_goalRoom adv_allDoors dr_state dr_count se_count parent level kind snum xx yy lying switched doors beyond offered opn seenb savedb found distance opening p0 hc13) (va_cwS 1 hts gX0_opens_X5_positionOf rfl rfl rfl (by decide +kernel) ⟨Nat.le_of_ble_eq_true rfl, Nat.le_of_ble_eq_true rfl⟩) (Wd.preS C w) rfl rfl hl.1 rfl (lv_room (Nat.le_of_ble_eq_true rfl)) dX0_opens_74 ⟨Nat.zero_le _, Nat.zero_le _⟩) (fun H locs w => ?_)
    refine lv_if_ne (tgt := 84) hx hb dX0_opens_77 (by decide) (fun g14 => ?_) (fun g14 => ?_)
    · replace h := it_neg g14 h
      refine lv_iconst (v := 0) hx hb dX0_opens_84 (by decide) ?_
      exact hret _ _ _ _ _ dX0_opens_85 rfl w (Option.some.inj h)
    · replace h := it_pos g14 h
      refine lv_iconst (v := 1) hx hb dX0_opens_80 (by decide) ?_
      refine lv_goto (tgt := 85) hx hb dX0_opens_81 (by decide) ?_
      exact hret _ _ _ _ _ dX0_opens_85 rfl w (Option.some.inj h)
  replace h := it_neg g12 h
  by_cases g15 : (kind p1.toNatClampNeg) = (4 : Int32)
  · replace h := it_pos g15 h
    refine lv_tableIn (off := 80) (tgt := 86) hx hb dX0_opens_6 (by rw [g15]; decide) (by rw [g15]; decide) (by rw [g15]; rfl) (by decide) ?_
    refine lv_iload_n hx hb dX0_opens_86 rfl (lv_at hl 1 rfl) ?_
    obtain ⟨u16, hc16, h⟩ := bd_some h
    refine gl_calli C w (va_runS (As := [.int p0]) (rest := []) ⟨hx, hb, hml, hown, hts⟩ (c_X5_positionOf l D kA ad H.size lq_situation adv_rooms adv_levels adv_goalRoom adv_allDoors dr_state dr_count se_count parent level kind snum xx yy lying switched doors beyond offered opn seenb savedb found distance opening p0 hc16) (va_cwS 1 hts gX0_opens_X5_positionOf rfl rfl rfl (by decide +kernel) ⟨Nat.le_of_ble_eq_true rfl, Nat.le_of_ble_eq_true rfl⟩) (Wd.preS C w) rfl rfl hl.1 rfl (lv_room (Nat.le_of_ble_eq_true rfl)) dX0_opens_87 ⟨Nat.zero_le _, Nat.zero_le _⟩) (fun H locs w => ?_)
    refine lv_iconst (v := 1) hx hb dX0_opens_90 (by decide) ?_
    refine lv_icmp_ne (tgt := 98) hx hb dX0_opens_91 (by decide) (fun g17 => ?_) (fun g17 => ?_)
    · replace h := it_neg g17 h
      refine lv_iconst (v := 0) hx hb dX0_opens_98 (by decide) ?_
      exact hret _ _ _ _ _ dX0_opens_99 rfl w (Option.some.inj h)
    · replace h := it_pos g17 h
      refine lv_iconst (v := 1) hx hb dX0_opens_94 (by decide) ?_
      refine lv_goto (tgt := 99) hx hb dX0_opens_95 (by decide) ?_
      exact hret _ _ _ _ _ dX0_opens_99 rfl w (Option.some.inj h)
  replace h := it_neg g15 h
  have hout : (kind p1.toNatClampNeg).toInt < 1 ∨ 4 < (kind p1.toNatClampNeg).toInt := by
    have eg2 : (kind p1.toNatClampNeg).toInt ≠ 1 := fun q => g2 (Int32.toInt_inj.mp (q.trans (by decide)))
    have eg6 : (kind p1.toNatClampNeg).toInt ≠ 2 := fun q => g6 (Int32.toInt_inj.mp (q.trans (by decide)))
    have eg12 : (kind p1.toNatClampNeg).toInt ≠ 3 := fun q => g12 (Int32.toInt_inj.mp (q.trans (by decide)))
    have eg15 : (kind p1.toNatClampNeg).toInt ≠ 4 := fun q => g15 (Int32.toInt_inj.mp (q.trans (by decide)))
    omega
  refine lv_tableOut (tgt := 100) hx hb dX0_opens_6 hout (by decide) ?_
  refine lv_iconst (v := 1) hx hb dX0_opens_100 (by decide) ?_
  exact hret _ _ _ _ _ dX0_opens_101 rfl w (Option.some.inj h)
set_option maxHeartbeats 4000000 in
set_option maxRecDepth 100000 in
theorem c_X0_opens (l : Launch) (D : va_G) (kA : Nat → ClassId) (ad : Nat → Nat) (sz : Nat) (lq_situation : Int32) (adv_rooms : Int32) (adv_levels : Int32) (adv_goalRoom : Int32) (adv_allDoors : Int32) (dr_state : Int64) (dr_count : Int32) (se_count : Int32) (parent : Nat → Int32) (level : Nat → Int32) (kind : Nat → Int32) (snum : Nat → Int32) (xx : Nat → Int32) (yy : Nat → Int32) (lying : Nat → Int32) (switched : Nat → Int32) (doors : Nat → Int32) (beyond : Nat → Nat → Int32) (offered : Nat → Int32) (opn : Nat → Int32) (seenb : Nat → Int64) (savedb : Nat → Int64) (found : Nat → Int32) (distance : Nat → Int32) (opening : Nat → Int32) (p0 : Int32) (p1 : Int32) {res : Int32} (h : f_X0_opens p0 p1 level kind snum = some res) : Ci l yX0_opens wsX0_opens rm_X0_opens D kA [.ref (ad 1), .int p0, .int p1] sz (wC kA ad lq_situation adv_rooms adv_levels adv_goalRoom adv_allDoors dr_state dr_count se_count parent level kind snum xx yy lying switched doors beyond offered opn seenb savedb found distance opening) (wC kA ad lq_situation adv_rooms adv_levels adv_goalRoom adv_allDoors dr_state dr_count se_count parent level kind snum xx yy lying switched doors beyond offered opn seenb savedb found distance opening) res := by
  refine Met.ofW (cc := cX0_opens) (maxL := 3) (ret := (some .boolean)) (by decide) rfl ?_
  intro p e s m args below meth c s₁ B hml hv
  obtain ⟨rfl, hsz, hP, hK, hD0, hX⟩ := hv
  subst hsz
  have hts := atoms_spec (ws := wsX0_opens) B.pre
  have hl := lv_entry ([.ref (ad 1), .int p0, .int p1]) (n := 3) (Nat.le_of_ble_eq_true rfl)
  rw [lg_entry_eq]
  have hlocks := B.notSynchronized
  refine t_X0_opens (A := va_A (wC kA ad lq_situation adv_rooms adv_levels adv_goalRoom adv_allDoors dr_state dr_count se_count parent level kind snum xx yy lying switched doors beyond offered opn seenb savedb found distance opening) s.heap.size) ⟨⟨B.exec, B.bytes, hml, findClass_of_methodNamed B.named, hts⟩, hK, fun q h => Or.inr h, hX⟩ (fun r H locs ls pc hd hz w hres => ?_) ⟨hP, hD0.self, va_S.rf⟩ hl h
  subst hres
  exact W.zret B.exec B.bytes B.returns hz (fun t ht hW => ⟨⟨_, (), rfl, rfl, by rw [ht]; exact w.1, va_K.moved hW.alike hK, w.2.1⟩, w.2.2.F ht⟩) w.2.2.2.2 hd hlocks
-- ('wC', 'LockQuest$Situation', 'inRoom', '(II)I', (None, None))
abbrev rm_X5_inRoom : Room := { frames := 0, cells := 0, slots := 0, locals := 0 }
def f_X5_inRoom (p0 : Int32) (p1 : Int32)  : Option (Int32) := some ((p0 &&& (1023 : Int32)) ||| (p1 <<< ((10 : Int32) &&& 31)))
set_option maxHeartbeats 4000000 in
set_option maxRecDepth 100000 in
theorem t_X5_inRoom {p : Program} {l : Launch} {e : Env} {s : State} {m : MethodId} {args : Array Value} {below : List Frame} {meth : Method} {c : Code} {Q : State → Prop} {D : va_G} {kA : Nat → ClassId} {ad : Nat → Nat} {A : Nat → Prop} {lq_situation : Int32} {adv_rooms : Int32} {adv_levels : Int32} {adv_goalRoom : Int32} {adv_allDoors : Int32} {dr_state : Int64} {dr_count : Int32} {se_count : Int32} {parent : Nat → Int32} {level : Nat → Int32} {kind : Nat → Int32} {snum : Nat → Int32} {xx : Nat → Int32} {yy : Nat → Int32} {lying : Nat → Int32} {switched : Nat → Int32} {doors : Nat → Int32} {beyond : Nat → Nat → Int32} {offered : Nat → Int32} {opn : Nat → Int32} {seenb : Nat → Int64} {savedb : Nat → Int64} {found : Nat → Int32} {distance : Nat → Int32} {opening : Nat → Int32} {p0 : Int32} {p1 : Int32} {res : Int32} (C : Cx p s m c args cX5_inRoom 2 RX5 wsX5_inRoom D kA A) (hret : ∀ (r : Int32) (H : Heap) (locs : List Loc) (ls : Array Slot) (pc : Nat), decode cX5_inRoom pc = .ok (.ireturn, 1) → Wd D A s H locs (wC kA ad lq_situation adv_rooms adv_levels adv_goalRoom adv_allDoors dr_state dr_count se_count parent level kind snum xx yy lying switched doors beyond offered opn seenb savedb found distance opening) → r = res → W p l e rm_X5_inRoom s m args below meth c H locs 0 0 Q (F0 m pc ls [.int r])) {H : Heap} {locs : List Loc} {ls : Array Slot} (w : Wd D A s H locs (wC kA ad lq_situation adv_rooms adv_levels adv_goalRoom adv_allDoors dr_state dr_count se_count parent level kind snum xx yy lying switched doors beyond offered opn seenb savedb found distance opening)) (hl : lv_has ls 2 [(0, .int p0), (1, .int p1)]) (h : f_X5_inRoom p0 p1  = some res) : W p l e rm_X5_inRoom s m args below meth c H locs 0 0 Q (F0 m 0 ls []) := by
  obtain ⟨⟨hx, hb, hml, hown, hts⟩, hK, -, -⟩ := id C
  unfold f_X5_inRoom at h
  refine lv_iload_n hx hb dX5_inRoom_0 rfl (lv_at hl 0 rfl) ?_
  refine lv_sipush (v := 1023) hx hb dX5_inRoom_1 (by decide) ?_
  refine lv_iand hx hb dX5_inRoom_4 ?_
  refine lv_iload_n hx hb dX5_inRoom_5 rfl (lv_at hl 1 rfl) ?_
  refine lv_bipush (v := 10) hx hb dX5_inRoom_6 (by decide) ?_
  refine lv_ishl hx hb dX5_inRoom_8 ?_
  refine lv_ior hx hb dX5_inRoom_9 ?_
  exact hret _ _ _ _ _ dX5_inRoom_10 w (Option.some.inj h)
set_option maxHeartbeats 4000000 in
set_option maxRecDepth 100000 in
theorem c_X5_inRoom (l : Launch) (D : va_G) (kA : Nat → ClassId) (ad : Nat → Nat) (sz : Nat) (lq_situation : Int32) (adv_rooms : Int32) (adv_levels : Int32) (adv_goalRoom : Int32) (adv_allDoors : Int32) (dr_state : Int64) (dr_count : Int32) (se_count : Int32) (parent : Nat → Int32) (level : Nat → Int32) (kind : Nat → Int32) (snum : Nat → Int32) (xx : Nat → Int32) (yy : Nat → Int32) (lying : Nat → Int32) (switched : Nat → Int32) (doors : Nat → Int32) (beyond : Nat → Nat → Int32) (offered : Nat → Int32) (opn : Nat → Int32) (seenb : Nat → Int64) (savedb : Nat → Int64) (found : Nat → Int32) (distance : Nat → Int32) (opening : Nat → Int32) (p0 : Int32) (p1 : Int32) {res : Int32} (h : f_X5_inRoom p0 p1  = some res) : Ci l yX5_inRoom wsX5_inRoom rm_X5_inRoom D kA [.int p0, .int p1] sz (wC kA ad lq_situation adv_rooms adv_levels adv_goalRoom adv_allDoors dr_state dr_count se_count parent level kind snum xx yy lying switched doors beyond offered opn seenb savedb found distance opening) (wC kA ad lq_situation adv_rooms adv_levels adv_goalRoom adv_allDoors dr_state dr_count se_count parent level kind snum xx yy lying switched doors beyond offered opn seenb savedb found distance opening) res := by
  refine Met.ofW (cc := cX5_inRoom) (maxL := 2) (ret := (some .int)) (by decide) rfl ?_
  intro p e s m args below meth c s₁ B hml hv
  obtain ⟨rfl, hsz, hP, hK, hD0, hX⟩ := hv
  subst hsz
  have hts := atoms_spec (ws := wsX5_inRoom) B.pre
  have hl := lv_entry ([.int p0, .int p1]) (n := 2) (Nat.le_of_ble_eq_true rfl)
  rw [lg_entry_eq]
  have hlocks := B.notSynchronized
  refine t_X5_inRoom (A := va_A (wC kA ad lq_situation adv_rooms adv_levels adv_goalRoom adv_allDoors dr_state dr_count se_count parent level kind snum xx yy lying switched doors beyond offered opn seenb savedb found distance opening) s.heap.size) ⟨⟨B.exec, B.bytes, hml, findClass_of_methodNamed B.named, hts⟩, hK, fun q h => Or.inr h, hX⟩ (fun r H locs ls pc hd w hres => ?_) ⟨hP, hD0.self, va_S.rf⟩ hl h
  subst hres
  exact W.iret B.exec B.bytes B.returns (fun t ht hW => ⟨⟨_, (), rfl, rfl, by rw [ht]; exact w.1, va_K.moved hW.alike hK, w.2.1⟩, w.2.2.F ht⟩) w.2.2.2.2 hd hlocks
-- ('wC', 'LockQuest$Adventure', 'afterWalking', '(II)I', ('adv', None, None))
abbrev rm_X0_afterWalking : Room := { frames := 3, cells := 0, slots := 0, locals := 63 }
set_option maxRecDepth 20000 in
theorem lX0_afterWalking_X0 : ∀ w ∈ wsX00, w ∈ wsX0_afterWalking := by decide +kernel
set_option maxRecDepth 20000 in
theorem mX0_afterWalking_1 : Cond.fieldLink RX0 42 "LockQuest$Adventure" "beyond" "[[I" ∈ wsX0_afterWalking := by decide +kernel
set_option maxRecDepth 20000 in
theorem mX0_afterWalking_2 : Cond.fieldLink RX0 18 "LockQuest$Adventure" "kind" "[I" ∈ wsX0_afterWalking := by decide +kernel
set_option maxRecDepth 20000 in
theorem mX0_afterWalking_3 : Cond.fieldLink RX0 21 "LockQuest$Adventure" "smallNumber" "[I" ∈ wsX0_afterWalking := by decide +kernel
def f_X0_afterWalking (p0 : Int32) (p1 : Int32) (adv_rooms : Int32) (parent : Nat → Int32) (level : Nat → Int32) (kind : Nat → Int32) (snum : Nat → Int32) (doors : Nat → Int32) (beyond : Nat → Nat → Int32) : Option (Int32) := (f_X5_roomOf p0).bind (fun u1 => (f_X0_hasDoor u1 p1 adv_rooms doors).bind (fun u2 => if u2 = 0 then (some (-1 : Int32)) else (gd (u1 < 0 ∨ 12 ≤ u1.toNatClampNeg) (gd (p1 < 0 ∨ 12 ≤ p1.toNatClampNeg) ((f_X0_doorOwner u1 (beyond u1.toNatClampNeg p1.toNatClampNeg) parent).bind (fun u6 => (f_X0_opens p0 u6 level kind snum).bind (fun u7 => if u7 = 0 then (some (-2 : Int32)) else ((f_X5_inRoom p0 (beyond u1.toNatClampNeg p1.toNatClampNeg)).bind (fun u9 => gd (u6 < 0 ∨ 12 ≤ u6.toNatClampNeg) (if (kind u6.toNatClampNeg) = (2 : Int32) then (gd (u6 < 0 ∨ 12 ≤ u6.toNatClampNeg) ((f_X5_openedBit (snum u6.toNatClampNeg)).bind (fun u13 => some (u9 ||| u13)))) else (some u9)))))))))))
set_option maxHeartbeats 4000000 in
set_option maxRecDepth 100000 in
theorem t_X0_afterWalking {p : Program} {l : Launch} {e : Env} {s : State} {m : MethodId} {args : Array Value} {below : List Frame} {meth : Method} {c : Code} {Q : State → Prop} {D : va_G} {kA : Nat → ClassId} {ad : Nat → Nat} {A : Nat → Prop} {lq_situation : Int32} {adv_rooms : Int32} {adv_levels : Int32} {adv_goalRoom : Int32} {adv_allDoors : Int32} {dr_state : Int64} {dr_count : Int32} {se_count : Int32} {parent : Nat → Int32} {level : Nat → Int32} {kind : Nat → Int32} {snum : Nat → Int32} {xx : Nat → Int32} {yy : Nat → Int32} {lying : Nat → Int32} {switched : Nat → Int32} {doors : Nat → Int32} {beyond : Nat → Nat → Int32} {offered : Nat → Int32} {opn : Nat → Int32} {seenb : Nat → Int64} {savedb : Nat → Int64} {found : Nat → Int32} {distance : Nat → Int32} {opening : Nat → Int32} {p0 : Int32} {p1 : Int32} {res : Int32} (C : Cx p s m c args cX0_afterWalking 7 RX0 wsX0_afterWalking D kA A) (hret : ∀ (r : Int32) (H : Heap) (locs : List Loc) (ls : Array Slot) (pc : Nat), decode cX0_afterWalking pc = .ok (.ireturn, 1) → Wd D A s H locs (wC kA ad lq_situation adv_rooms adv_levels adv_goalRoom adv_allDoors dr_state dr_count se_count parent level kind snum xx yy lying switched doors beyond offered opn seenb savedb found distance opening) → r = res → W p l e rm_X0_afterWalking s m args below meth c H locs 0 0 Q (F0 m pc ls [.int r])) {H : Heap} {locs : List Loc} {ls : Array Slot} (w : Wd D A s H locs (wC kA ad lq_situation adv_rooms adv_levels adv_goalRoom adv_allDoors dr_state dr_count se_count parent level kind snum xx yy lying switched doors beyond offered opn seenb savedb found distance opening)) (hl : lv_has ls 7 [(0, .ref (ad 1)), (1, .int p0), (2, .int p1)]) (h : f_X0_afterWalking p0 p1 adv_rooms parent level kind snum doors beyond = some res) : W p l e rm_X0_afterWalking s m args below meth c H locs 0 0 Q (F0 m 0 ls []) := by
  obtain ⟨⟨hx, hb, hml, hown, hts⟩, hK, -, -⟩ := id C
  unfold f_X0_afterWalking at h
  refine lv_iload_n hx hb dX0_afterWalking_0 rfl (lv_at hl 1 rfl) ?_
  obtain ⟨u1, hc1, h⟩ := bd_some h
  refine gl_calli C w (va_runS (As := [.int p0]) (rest := []) ⟨hx, hb, hml, hown, hts⟩ (c_X5_roomOf l D kA ad H.size lq_situation adv_rooms adv_levels adv_goalRoom adv_allDoors dr_state dr_count se_count parent level kind snum xx yy lying switched doors beyond offered opn seenb savedb found distance opening p0 hc1) (va_cwS 1 hts gX0_afterWalking_X5_roomOf rfl rfl rfl (by decide +kernel) ⟨Nat.le_of_ble_eq_true rfl, Nat.le_of_ble_eq_true rfl⟩) (Wd.preS C w) rfl rfl hl.1 rfl (lv_room (Nat.le_of_ble_eq_true rfl)) dX0_afterWalking_1 ⟨Nat.zero_le _, Nat.zero_le _⟩) (fun H locs w => ?_)
  refine lv_istore_n (lv' := [(3, .int u1), (0, .ref (ad 1)), (1, .int p0), (2, .int p1)]) hx hb dX0_afterWalking_4 rfl hl (by decide) rfl (fun ls hl => ?_)
  refine lv_aload_n hx hb dX0_afterWalking_5 rfl (lv_at hl 1 rfl) ?_
  refine lv_iload_n hx hb dX0_afterWalking_6 rfl (lv_at hl 0 rfl) ?_
  refine lv_iload_n hx hb dX0_afterWalking_7 rfl (lv_at hl 3 rfl) ?_
  obtain ⟨u2, hc2, h⟩ := bd_some h
  refine gl_calli C w (va_runV (As := [.int u1, .int p1]) (rest := []) ⟨hx, hb, hml, hown, hts⟩ (c_X0_hasDoor l D kA ad H.size lq_situation adv_rooms adv_levels adv_goalRoom adv_allDoors dr_state dr_count se_count parent level kind snum xx yy lying switched doors beyond offered opn seenb savedb found distance opening u1 p1 hc2) (cwV 2 hts gX0_afterWalking_X0_hasDoor rfl rfl rfl (by decide +kernel) ⟨Nat.le_of_ble_eq_true rfl, Nat.le_of_ble_eq_true rfl⟩) (Wd.preV C w (q0 := 1) (ci := 0) rfl rfl rfl) rfl rfl hl.1 rfl (lv_room (Nat.le_of_ble_eq_true rfl)) dX0_afterWalking_8 ⟨Nat.zero_le _, Nat.zero_le _⟩) (fun H locs w => ?_)
  refine lv_if_ne (tgt := 16) hx hb dX0_afterWalking_11 (by decide) (fun g3 => ?_) (fun g3 => ?_)
  · replace h := it_neg g3 h
    refine lv_aload_n hx hb dX0_afterWalking_16 rfl (lv_at hl 1 rfl) ?_
    refine va_get (D := D) (ci := 0) (v := .ref (ad 16)) (C := RX0) (T := TX0) (N := 14) hx hb hts lX0_afterWalking_X0 hown hK w.1 1 rfl rfl 13 (by decide) (hts _ mX0_afterWalking_1) (fun _ h9 => h9) rfl dX0_afterWalking_17 ?_
    refine lv_iload_n hx hb dX0_afterWalking_20 rfl (lv_at hl 0 rfl) ?_
    obtain ⟨g4, h⟩ := gd_some h
    refine gl_aldg hx hb hK w.1 16 3 rfl rfl g4 dX0_afterWalking_21 ?_
    refine lv_iload_n hx hb dX0_afterWalking_22 rfl (lv_at hl 3 rfl) ?_
    obtain ⟨g5, h⟩ := gd_some h
    refine va_iald hx hb hK w.1 (17 + u1.toNatClampNeg) 0 (gr_wC_beyond (Nat.not_le.mp fun q => g4 (Or.inr q))) rfl g5 dX0_afterWalking_23 ?_
    refine lv_istore (lv' := [(4, .int (beyond u1.toNatClampNeg p1.toNatClampNeg)), (3, .int u1), (0, .ref (ad 1)), (1, .int p0), (2, .int p1)]) hx hb dX0_afterWalking_24 hl (by decide) rfl (fun ls hl => ?_)
    refine lv_aload_n hx hb dX0_afterWalking_26 rfl (lv_at hl 2 rfl) ?_
    refine lv_iload_n hx hb dX0_afterWalking_27 rfl (lv_at hl 1 rfl) ?_
    refine lv_iload hx hb dX0_afterWalking_28 (lv_at hl 0 rfl) ?_
    obtain ⟨u6, hc6, h⟩ := bd_some h
    refine gl_calli C w (va_runV (As := [.int u1, .int (beyond u1.toNatClampNeg p1.toNatClampNeg)]) (rest := []) ⟨hx, hb, hml, hown, hts⟩ (c_X0_doorOwner l D kA ad H.size lq_situation adv_rooms adv_levels adv_goalRoom adv_allDoors dr_state dr_count se_count parent level kind snum xx yy lying switched doors beyond offered opn seenb savedb found distance opening u1 (beyond u1.toNatClampNeg p1.toNatClampNeg) hc6) (cwV 2 hts gX0_afterWalking_X0_doorOwner rfl rfl rfl (by decide +kernel) ⟨Nat.le_of_ble_eq_true rfl, Nat.le_of_ble_eq_true rfl⟩) (Wd.preV C w (q0 := 1) (ci := 0) rfl rfl rfl) rfl rfl hl.1 rfl (lv_room (Nat.le_of_ble_eq_true rfl)) dX0_afterWalking_30 ⟨Nat.zero_le _, Nat.zero_le _⟩) (fun H locs w => ?_)
    refine lv_istore (lv' := [(5, .int u6), (4, .int (beyond u1.toNatClampNeg p1.toNatClampNeg)), (3, .int u1), (0, .ref (ad 1)), (1, .int p0), (2, .int p1)]) hx hb dX0_afterWalking_33 hl (by decide) rfl (fun ls hl => ?_)
    refine lv_aload_n hx hb dX0_afterWalking_35 rfl (lv_at hl 3 rfl) ?_
    refine lv_iload_n hx hb dX0_afterWalking_36 rfl (lv_at hl 4 rfl) ?_
    refine lv_iload hx hb dX0_afterWalking_37 (lv_at hl 0 rfl) ?_
    obtain ⟨u7, hc7, h⟩ := bd_some h
    refine gl_calli C w (va_runV (As := [.int p0, .int u6]) (rest := []) ⟨hx, hb, hml, hown, hts⟩ (c_X0_opens l D kA ad H.size lq_situation adv_rooms adv_levels adv_goalRoom adv_allDoors dr_state dr_count se_count parent level kind snum xx yy lying switched doors beyond offered opn seenb savedb found distance opening p0 u6 hc7) (cwV 2 hts gX0_afterWalking_X0_opens rfl rfl rfl (by decide +kernel) ⟨Nat.le_of_ble_eq_true rfl, Nat.le_of_ble_eq_true rfl⟩) (Wd.preV C w (q0 := 1) (ci := 0) rfl rfl rfl) rfl rfl hl.1 rfl (lv_room (Nat.le_of_ble_eq_true rfl)) dX0_afterWalking_39 ⟨Nat.zero_le _, Nat.zero_le _⟩) (fun H locs w => ?_)
    refine lv_if_ne (tgt := 48) hx hb dX0_afterWalking_42 (by decide) (fun g8 => ?_) (fun g8 => ?_)
    · replace h := it_neg g8 h
      refine lv_iload_n hx hb dX0_afterWalking_48 rfl (lv_at hl 4 rfl) ?_
      refine lv_iload hx hb dX0_afterWalking_49 (lv_at hl 1 rfl) ?_
      obtain ⟨u9, hc9, h⟩ := bd_some h
      refine gl_calli C w (va_runS (As := [.int p0, .int (beyond u1.toNatClampNeg p1.toNatClampNeg)]) (rest := []) ⟨hx, hb, hml, hown, hts⟩ (c_X5_inRoom l D kA ad H.size lq_situation adv_rooms adv_levels adv_goalRoom adv_allDoors dr_state dr_count se_count parent level kind snum xx yy lying switched doors beyond offered opn seenb savedb found distance opening p0 (beyond u1.toNatClampNeg p1.toNatClampNeg) hc9) (va_cwS 2 hts gX0_afterWalking_X5_inRoom rfl rfl rfl (by decide +kernel) ⟨Nat.le_of_ble_eq_true rfl, Nat.le_of_ble_eq_true rfl⟩) (Wd.preS C w) rfl rfl hl.1 rfl (lv_room (Nat.le_of_ble_eq_true rfl)) dX0_afterWalking_51 ⟨Nat.zero_le _, Nat.zero_le _⟩) (fun H locs w => ?_)
      refine lv_istore (lv' := [(6, .int u9), (5, .int u6), (4, .int (beyond u1.toNatClampNeg p1.toNatClampNeg)), (3, .int u1), (0, .ref (ad 1)), (1, .int p0), (2, .int p1)]) hx hb dX0_afterWalking_54 hl (by decide) rfl (fun ls hl => ?_)
      refine lv_aload_n hx hb dX0_afterWalking_56 rfl (lv_at hl 4 rfl) ?_
      refine va_get (D := D) (ci := 0) (v := .ref (ad 9)) (C := RX0) (T := TX0) (N := 14) hx hb hts lX0_afterWalking_X0 hown hK w.1 1 rfl rfl 6 (by decide) (hts _ mX0_afterWalking_2) (fun _ h9 => h9) rfl dX0_afterWalking_57 ?_
      refine lv_iload hx hb dX0_afterWalking_60 (lv_at hl 1 rfl) ?_
      obtain ⟨g10, h⟩ := gd_some h
      refine va_iald hx hb hK w.1 9 0 rfl rfl g10 dX0_afterWalking_62 ?_
      refine lv_iconst (v := 2) hx hb dX0_afterWalking_63 (by decide) ?_
      refine lv_icmp_ne (tgt := 83) hx hb dX0_afterWalking_64 (by decide) (fun g11 => ?_) (fun g11 => ?_)
      · replace h := it_neg g11 h
        refine lv_iload hx hb dX0_afterWalking_83 (lv_at hl 0 rfl) ?_
        exact hret _ _ _ _ _ dX0_afterWalking_85 w (Option.some.inj h)
      · replace h := it_pos g11 h
        refine lv_iload hx hb dX0_afterWalking_67 (lv_at hl 0 rfl) ?_
        refine lv_aload_n hx hb dX0_afterWalking_69 rfl (lv_at hl 4 rfl) ?_
        refine va_get (D := D) (ci := 0) (v := .ref (ad 10)) (C := RX0) (T := TX0) (N := 14) hx hb hts lX0_afterWalking_X0 hown hK w.1 1 rfl rfl 7 (by decide) (hts _ mX0_afterWalking_3) (fun _ h9 => h9) rfl dX0_afterWalking_70 ?_
        refine lv_iload hx hb dX0_afterWalking_73 (lv_at hl 1 rfl) ?_
        obtain ⟨g12, h⟩ := gd_some h
        refine va_iald hx hb hK w.1 10 0 rfl rfl g12 dX0_afterWalking_75 ?_
        obtain ⟨u13, hc13, h⟩ := bd_some h
        refine gl_calli C w (va_runS (As := [.int (snum u6.toNatClampNeg)]) (rest := [.int u9]) ⟨hx, hb, hml, hown, hts⟩ (c_X5_openedBit l D kA ad H.size lq_situation adv_rooms adv_levels adv_goalRoom adv_allDoors dr_state dr_count se_count parent level kind snum xx yy lying switched doors beyond offered opn seenb savedb found distance opening (snum u6.toNatClampNeg) hc13) (va_cwS 1 hts gX0_afterWalking_X5_openedBit rfl rfl rfl (by decide +kernel) ⟨Nat.le_of_ble_eq_true rfl, Nat.le_of_ble_eq_true rfl⟩) (Wd.preS C w) rfl rfl hl.1 rfl (lv_room (Nat.le_of_ble_eq_true rfl)) dX0_afterWalking_76 ⟨Nat.zero_le _, Nat.zero_le _⟩) (fun H locs w => ?_)
        refine lv_ior hx hb dX0_afterWalking_79 ?_
        refine lv_goto (tgt := 85) hx hb dX0_afterWalking_80 (by decide) ?_
        exact hret _ _ _ _ _ dX0_afterWalking_85 w (Option.some.inj h)
    · replace h := it_pos g8 h
      refine lv_bipush (v := -2) hx hb dX0_afterWalking_45 (by decide) ?_
      exact hret _ _ _ _ _ dX0_afterWalking_47 w (Option.some.inj h)
  · replace h := it_pos g3 h
    refine lv_iconst (v := -1) hx hb dX0_afterWalking_14 (by decide) ?_
    exact hret _ _ _ _ _ dX0_afterWalking_15 w (Option.some.inj h)
set_option maxHeartbeats 4000000 in
set_option maxRecDepth 100000 in
theorem c_X0_afterWalking (l : Launch) (D : va_G) (kA : Nat → ClassId) (ad : Nat → Nat) (sz : Nat) (lq_situation : Int32) (adv_rooms : Int32) (adv_levels : Int32) (adv_goalRoom : Int32) (adv_allDoors : Int32) (dr_state : Int64) (dr_count : Int32) (se_count : Int32) (parent : Nat → Int32) (level : Nat → Int32) (kind : Nat → Int32) (snum : Nat → Int32) (xx : Nat → Int32) (yy : Nat → Int32) (lying : Nat → Int32) (switched : Nat → Int32) (doors : Nat → Int32) (beyond : Nat → Nat → Int32) (offered : Nat → Int32) (opn : Nat → Int32) (seenb : Nat → Int64) (savedb : Nat → Int64) (found : Nat → Int32) (distance : Nat → Int32) (opening : Nat → Int32) (p0 : Int32) (p1 : Int32) {res : Int32} (h : f_X0_afterWalking p0 p1 adv_rooms parent level kind snum doors beyond = some res) : Ci l yX0_afterWalking wsX0_afterWalking rm_X0_afterWalking D kA [.ref (ad 1), .int p0, .int p1] sz (wC kA ad lq_situation adv_rooms adv_levels adv_goalRoom adv_allDoors dr_state dr_count se_count parent level kind snum xx yy lying switched doors beyond offered opn seenb savedb found distance opening) (wC kA ad lq_situation adv_rooms adv_levels adv_goalRoom adv_allDoors dr_state dr_count se_count parent level kind snum xx yy lying switched doors beyond offered opn seenb savedb found distance opening) res := by
  refine Met.ofW (cc := cX0_afterWalking) (maxL := 7) (ret := (some .int)) (by decide) rfl ?_
  intro p e s m args below meth c s₁ B hml hv
  obtain ⟨rfl, hsz, hP, hK, hD0, hX⟩ := hv
  subst hsz
  have hts := atoms_spec (ws := wsX0_afterWalking) B.pre
  have hl := lv_entry ([.ref (ad 1), .int p0, .int p1]) (n := 7) (Nat.le_of_ble_eq_true rfl)
  rw [lg_entry_eq]
  have hlocks := B.notSynchronized
  refine t_X0_afterWalking (A := va_A (wC kA ad lq_situation adv_rooms adv_levels adv_goalRoom adv_allDoors dr_state dr_count se_count parent level kind snum xx yy lying switched doors beyond offered opn seenb savedb found distance opening) s.heap.size) ⟨⟨B.exec, B.bytes, hml, findClass_of_methodNamed B.named, hts⟩, hK, fun q h => Or.inr h, hX⟩ (fun r H locs ls pc hd w hres => ?_) ⟨hP, hD0.self, va_S.rf⟩ hl h
  subst hres
  exact W.iret B.exec B.bytes B.returns (fun t ht hW => ⟨⟨_, (), rfl, rfl, by rw [ht]; exact w.1, va_K.moved hW.alike hK, w.2.1⟩, w.2.2.F ht⟩) w.2.2.2.2 hd hlocks
-- ('wC', 'LockQuest', 'walk', '(I)I', ('lq', None))
abbrev rm_X6_walk : Room := { frames := 4, cells := 0, slots := 0, locals := 89 }
set_option maxRecDepth 20000 in
theorem lX6_walk_X6 : ∀ w ∈ wsX60, w ∈ wsX6_walk := by decide +kernel
set_option maxRecDepth 20000 in
theorem mX6_walk_1 : Cond.fieldLink RX6 10 "LockQuest" "adventure" "LLockQuest$Adventure;" ∈ wsX6_walk := by decide +kernel
set_option maxRecDepth 20000 in
theorem mX6_walk_2 : Cond.fieldLink RX6 38 "LockQuest" "situation" "I" ∈ wsX6_walk := by decide +kernel
def f_X6_walk (p0 : Int32) (lq_situation : Int32) (adv_rooms : Int32) (parent : Nat → Int32) (level : Nat → Int32) (kind : Nat → Int32) (snum : Nat → Int32) (doors : Nat → Int32) (beyond : Nat → Nat → Int32) : Option (Int32 × Int32) := (f_X0_afterWalking lq_situation p0 adv_rooms parent level kind snum doors beyond).bind (fun u1 => if 0 ≤ u1 then ((f_X5_roomOf u1).bind (fun u3 => some (u3, u1))) else (some (u1, lq_situation)))
set_option maxHeartbeats 4000000 in
set_option maxRecDepth 100000 in
theorem t_X6_walk {p : Program} {l : Launch} {e : Env} {s : State} {m : MethodId} {args : Array Value} {below : List Frame} {meth : Method} {c : Code} {Q : State → Prop} {D : va_G} {kA : Nat → ClassId} {ad : Nat → Nat} {A : Nat → Prop} {lq_situation : Int32} {adv_rooms : Int32} {adv_levels : Int32} {adv_goalRoom : Int32} {adv_allDoors : Int32} {dr_state : Int64} {dr_count : Int32} {se_count : Int32} {parent : Nat → Int32} {level : Nat → Int32} {kind : Nat → Int32} {snum : Nat → Int32} {xx : Nat → Int32} {yy : Nat → Int32} {lying : Nat → Int32} {switched : Nat → Int32} {doors : Nat → Int32} {beyond : Nat → Nat → Int32} {offered : Nat → Int32} {opn : Nat → Int32} {seenb : Nat → Int64} {savedb : Nat → Int64} {found : Nat → Int32} {distance : Nat → Int32} {opening : Nat → Int32} {p0 : Int32} {res : Int32 × Int32} (C : Cx p s m c args cX6_walk 3 RX6 wsX6_walk D kA A) (hret : ∀ (r : Int32) (q0 : Int32) (H : Heap) (locs : List Loc) (ls : Array Slot) (pc : Nat), decode cX6_walk pc = .ok (.ireturn, 1) → Wd D A s H locs (wC kA ad q0 adv_rooms adv_levels adv_goalRoom adv_allDoors dr_state dr_count se_count parent level kind snum xx yy lying switched doors beyond offered opn seenb savedb found distance opening) → (r, q0) = res → W p l e rm_X6_walk s m args below meth c H locs 0 0 Q (F0 m pc ls [.int r])) {H : Heap} {locs : List Loc} {ls : Array Slot} (w : Wd D A s H locs (wC kA ad lq_situation adv_rooms adv_levels adv_goalRoom adv_allDoors dr_state dr_count se_count parent level kind snum xx yy lying switched doors beyond offered opn seenb savedb found distance opening)) (hl : lv_has ls 3 [(0, .ref (ad 0)), (1, .int p0)]) (h : f_X6_walk p0 lq_situation adv_rooms parent level kind snum doors beyond = some res) : W p l e rm_X6_walk s m args below meth c H locs 0 0 Q (F0 m 0 ls []) := by
  obtain ⟨⟨hx, hb, hml, hown, hts⟩, hK, -, -⟩ := id C
  unfold f_X6_walk at h
  refine lv_aload_n hx hb dX6_walk_0 rfl (lv_at hl 0 rfl) ?_
  refine va_get (D := D) (ci := 5) (v := .ref (ad 1)) (C := RX6) (T := TX6) (N := 4) hx hb hts lX6_walk_X6 hown hK w.1 0 rfl rfl 0 (by decide) (hts _ mX6_walk_1) (fun _ h9 => h9) rfl dX6_walk_1 ?_
  refine lv_aload_n hx hb dX6_walk_4 rfl (lv_at hl 0 rfl) ?_
  refine va_get (D := D) (ci := 5) (v := .int lq_situation) (C := RX6) (T := TX6) (N := 4) hx hb hts lX6_walk_X6 hown hK w.1 0 rfl rfl 3 (by decide) (hts _ mX6_walk_2) (fun _ h9 => h9) rfl dX6_walk_5 ?_
  refine lv_iload_n hx hb dX6_walk_8 rfl (lv_at hl 1 rfl) ?_
  obtain ⟨u1, hc1, h⟩ := bd_some h
  refine gl_calli C w (va_runV (As := [.int lq_situation, .int p0]) (rest := []) ⟨hx, hb, hml, hown, hts⟩ (c_X0_afterWalking l D kA ad H.size lq_situation adv_rooms adv_levels adv_goalRoom adv_allDoors dr_state dr_count se_count parent level kind snum xx yy lying switched doors beyond offered opn seenb savedb found distance opening lq_situation p0 hc1) (cwV 2 hts gX6_walk_X0_afterWalking rfl rfl rfl (by decide +kernel) ⟨Nat.le_of_ble_eq_true rfl, Nat.le_of_ble_eq_true rfl⟩) (Wd.preV C w (q0 := 1) (ci := 0) rfl rfl rfl) rfl rfl hl.1 rfl (lv_room (Nat.le_of_ble_eq_true rfl)) dX6_walk_9 ⟨Nat.zero_le _, Nat.zero_le _⟩) (fun H locs w => ?_)
  refine lv_istore_n (lv' := [(2, .int u1), (0, .ref (ad 0)), (1, .int p0)]) hx hb dX6_walk_12 rfl hl (by decide) rfl (fun ls hl => ?_)
  refine lv_iload_n hx hb dX6_walk_13 rfl (lv_at hl 0 rfl) ?_
  refine lv_if_ge (tgt := 19) hx hb dX6_walk_14 (by decide) (fun g2 => ?_) (fun g2 => ?_)
  · replace h := it_pos g2 h
    refine lv_aload_n hx hb dX6_walk_19 rfl (lv_at hl 1 rfl) ?_
    refine lv_iload_n hx hb dX6_walk_20 rfl (lv_at hl 0 rfl) ?_
    refine va_put (D := D) (ci := 5) (v := .int u1) (ty := .int) (C := RX6) (T := TX6) (N := 4) hx hb hts lX6_walk_X6 tyX6 tyX6_ok nmX6 hown hK w.1 w.2.1 w.2.2 0 rfl rfl 3 (by decide) (hts _ mX6_walk_2) (fun _ h9 => h9) rfl (by decide +kernel) rfl rfl (Nat.le_of_ble_eq_true rfl) dX6_walk_21 (fun H locs hP hD hS => ?_)
    have w : Wd D A s H locs (wC kA ad u1 adv_rooms adv_levels adv_goalRoom adv_allDoors dr_state dr_count se_count parent level kind snum xx yy lying switched doors beyond offered opn seenb savedb found distance opening) := ⟨hP, hD, hS⟩
    refine lv_iload_n hx hb dX6_walk_24 rfl (lv_at hl 0 rfl) ?_
    obtain ⟨u3, hc3, h⟩ := bd_some h
    refine gl_calli C w (va_runS (As := [.int u1]) (rest := []) ⟨hx, hb, hml, hown, hts⟩ (c_X5_roomOf l D kA ad H.size u1 adv_rooms adv_levels adv_goalRoom adv_allDoors dr_state dr_count se_count parent level kind snum xx yy lying switched doors beyond offered opn seenb savedb found distance opening u1 hc3) (va_cwS 1 hts gX6_walk_X5_roomOf rfl rfl rfl (by decide +kernel) ⟨Nat.le_of_ble_eq_true rfl, Nat.le_of_ble_eq_true rfl⟩) (Wd.preS C w) rfl rfl hl.1 rfl (lv_room (Nat.le_of_ble_eq_true rfl)) dX6_walk_25 ⟨Nat.zero_le _, Nat.zero_le _⟩) (fun H locs w => ?_)
    exact hret _ _ _ _ _ _ dX6_walk_28 w (Option.some.inj h)
  · replace h := it_neg g2 h
    refine lv_iload_n hx hb dX6_walk_17 rfl (lv_at hl 0 rfl) ?_
    exact hret _ _ _ _ _ _ dX6_walk_18 w (Option.some.inj h)
set_option maxHeartbeats 4000000 in
set_option maxRecDepth 100000 in
theorem c_X6_walk (l : Launch) (D : va_G) (kA : Nat → ClassId) (ad : Nat → Nat) (sz : Nat) (lq_situation : Int32) (adv_rooms : Int32) (adv_levels : Int32) (adv_goalRoom : Int32) (adv_allDoors : Int32) (dr_state : Int64) (dr_count : Int32) (se_count : Int32) (parent : Nat → Int32) (level : Nat → Int32) (kind : Nat → Int32) (snum : Nat → Int32) (xx : Nat → Int32) (yy : Nat → Int32) (lying : Nat → Int32) (switched : Nat → Int32) (doors : Nat → Int32) (beyond : Nat → Nat → Int32) (offered : Nat → Int32) (opn : Nat → Int32) (seenb : Nat → Int64) (savedb : Nat → Int64) (found : Nat → Int32) (distance : Nat → Int32) (opening : Nat → Int32) (p0 : Int32) {res : Int32 × Int32} (h : f_X6_walk p0 lq_situation adv_rooms parent level kind snum doors beyond = some res) : Ci l yX6_walk wsX6_walk rm_X6_walk D kA [.ref (ad 0), .int p0] sz (wC kA ad lq_situation adv_rooms adv_levels adv_goalRoom adv_allDoors dr_state dr_count se_count parent level kind snum xx yy lying switched doors beyond offered opn seenb savedb found distance opening) (wC kA ad res.2 adv_rooms adv_levels adv_goalRoom adv_allDoors dr_state dr_count se_count parent level kind snum xx yy lying switched doors beyond offered opn seenb savedb found distance opening) res.1 := by
  refine Met.ofW (cc := cX6_walk) (maxL := 3) (ret := (some .int)) (by decide) rfl ?_
  intro p e s m args below meth c s₁ B hml hv
  obtain ⟨rfl, hsz, hP, hK, hD0, hX⟩ := hv
  subst hsz
  have hts := atoms_spec (ws := wsX6_walk) B.pre
  have hl := lv_entry ([.ref (ad 0), .int p0]) (n := 3) (Nat.le_of_ble_eq_true rfl)
  rw [lg_entry_eq]
  have hlocks := B.notSynchronized
  refine t_X6_walk (A := va_A (wC kA ad lq_situation adv_rooms adv_levels adv_goalRoom adv_allDoors dr_state dr_count se_count parent level kind snum xx yy lying switched doors beyond offered opn seenb savedb found distance opening) s.heap.size) ⟨⟨B.exec, B.bytes, hml, findClass_of_methodNamed B.named, hts⟩, hK, fun q h => Or.inr h, hX⟩ (fun r q0 H locs ls pc hd w hres => ?_) ⟨hP, hD0.self, va_S.rf⟩ hl h
  subst hres
  exact W.iret B.exec B.bytes B.returns (fun t ht hW => ⟨⟨_, (), rfl, rfl, by rw [ht]; exact w.1, va_K.moved hW.alike hK, w.2.1⟩, w.2.2.F ht⟩) w.2.2.2.2 hd hlocks
