-- ('wC', 'LockQuest$Maker', 'makeBarriers', '(I)V', ('mk', None))
abbrev rm_X2_makeBarriers : Room := { frames := 2, cells := 0, slots := 0, locals := 42 }
set_option maxRecDepth 20000 in
theorem lX2_makeBarriers_X2 : ∀ w ∈ wsX20, w ∈ wsX2_makeBarriers := by decide +kernel
set_option maxRecDepth 20000 in
theorem mX2_makeBarriers_1 : Cond.fieldLink RX2 12 "LockQuest$Maker" "drawing" "LLockQuest$Drawing;" ∈ wsX2_makeBarriers := by decide +kernel
set_option maxRecDepth 20000 in
theorem mX2_makeBarriers_2 : Cond.fieldLink RX2 22 "LockQuest$Maker" "made" "LLockQuest$Adventure;" ∈ wsX2_makeBarriers := by decide +kernel
set_option maxRecDepth 20000 in
theorem lX2_makeBarriers_X0 : ∀ w ∈ wsX00, w ∈ wsX2_makeBarriers := by decide +kernel
set_option maxRecDepth 20000 in
theorem mX2_makeBarriers_4 : Cond.fieldLink RX2 104 "LockQuest$Adventure" "kind" "[I" ∈ wsX2_makeBarriers := by decide +kernel
set_option maxRecDepth 20000 in
theorem mX2_makeBarriers_5 : Cond.fieldLink RX2 92 "LockQuest$Adventure" "switched" "[Z" ∈ wsX2_makeBarriers := by decide +kernel
set_option maxRecDepth 20000 in
theorem mX2_makeBarriers_6 : Cond.fieldLink RX2 98 "LockQuest$Adventure" "parent" "[I" ∈ wsX2_makeBarriers := by decide +kernel
def f_X2_makeBarriers_82 (adv_rooms : Int32) (parent : Nat → Int32) (k2 : Int32 → Int32 → Int64 → Int32 → (Nat → Int32) → (Nat → Int32) → (Nat → Int32) → Option (Int64 × Int32 × (Nat → Int32) × (Nat → Int32) × (Nat → Int32))) (x1 : Int32) (x2 : Int32) (dr_state : Int64) (dr_count : Int32) (kind : Nat → Int32) (switched : Nat → Int32) (offered : Nat → Int32) : Option (Int64 × Int32 × (Nat → Int32) × (Nat → Int32) × (Nat → Int32)) := k2 x1 (x2 + (1 : Int32)) dr_state dr_count kind switched offered
set_option maxHeartbeats 4000000 in
set_option maxRecDepth 100000 in
theorem t_X2_makeBarriers_82 {p : Program} {l : Launch} {e : Env} {s : State} {m : MethodId} {args : Array Value} {below : List Frame} {meth : Method} {c : Code} {Q : State → Prop} {D : va_G} {kA : Nat → ClassId} {ad : Nat → Nat} {A : Nat → Prop} {lq_situation : Int32} {adv_rooms : Int32} {adv_levels : Int32} {adv_goalRoom : Int32} {adv_allDoors : Int32} {dr_state : Int64} {dr_count : Int32} {se_count : Int32} {parent : Nat → Int32} {level : Nat → Int32} {kind : Nat → Int32} {snum : Nat → Int32} {xx : Nat → Int32} {yy : Nat → Int32} {lying : Nat → Int32} {switched : Nat → Int32} {doors : Nat → Int32} {beyond : Nat → Nat → Int32} {offered : Nat → Int32} {opn : Nat → Int32} {seenb : Nat → Int64} {savedb : Nat → Int64} {found : Nat → Int32} {distance : Nat → Int32} {opening : Nat → Int32} {x1 : Int32} {x2 : Int32} {k2 : Int32 → Int32 → Int64 → Int32 → (Nat → Int32) → (Nat → Int32) → (Nat → Int32) → Option (Int64 × Int32 × (Nat → Int32) × (Nat → Int32) × (Nat → Int32))} {res : Int64 × Int32 × (Nat → Int32) × (Nat → Int32) × (Nat → Int32)} (C : Cx p s m c args cX2_makeBarriers 4 RX2 wsX2_makeBarriers D kA A) (hk2 : ∀ (x1 : Int32) (x2 : Int32) (dr_state : Int64) (dr_count : Int32) (kind : Nat → Int32) (switched : Nat → Int32) (offered : Nat → Int32) (H : Heap) (locs : List Loc) (ls : Array Slot), Wd D A s H locs (wC kA ad lq_situation adv_rooms adv_levels adv_goalRoom adv_allDoors dr_state dr_count se_count parent level kind snum xx yy lying switched doors beyond offered opn seenb savedb found distance opening) → lv_has ls 4 [(0, .ref (ad 2)), (1, .int x1), (2, .int x2)] → k2 x1 x2 dr_state dr_count kind switched offered = some res → W p l e rm_X2_makeBarriers s m args below meth c H locs 0 0 Q (F0 m 2 ls [])) (hret : ∀ (q0 : Int64) (q1 : Int32) (q2 : Nat → Int32) (q3 : Nat → Int32) (q4 : Nat → Int32) (H : Heap) (locs : List Loc) (ls : Array Slot) (pc : Nat), decode cX2_makeBarriers pc = .ok (.return_, 1) → Wd D A s H locs (wC kA ad lq_situation adv_rooms adv_levels adv_goalRoom adv_allDoors q0 q1 se_count parent level q2 snum xx yy lying q3 doors beyond q4 opn seenb savedb found distance opening) → (q0, q1, q2, q3, q4) = res → W p l e rm_X2_makeBarriers s m args below meth c H locs 0 0 Q (F0 m pc ls [])) {H : Heap} {locs : List Loc} {ls : Array Slot} (w : Wd D A s H locs (wC kA ad lq_situation adv_rooms adv_levels adv_goalRoom adv_allDoors dr_state dr_count se_count parent level kind snum xx yy lying switched doors beyond offered opn seenb savedb found distance opening)) (hl : lv_has ls 4 [(0, .ref (ad 2)), (1, .int x1), (2, .int x2)]) (h : f_X2_makeBarriers_82 adv_rooms parent k2 x1 x2 dr_state dr_count kind switched offered = some res) : W p l e rm_X2_makeBarriers s m args below meth c H locs 0 0 Q (F0 m 82 ls []) := by
  obtain ⟨⟨hx, hb, hml, hown, hts⟩, hK, -, -⟩ := id C
  unfold f_X2_makeBarriers_82 at h
  refine lv_iinc (v := (x2 + (1 : Int32))) (lv' := [(2, .int (x2 + (1 : Int32))), (0, .ref (ad 2)), (1, .int x1)]) hx hb dX2_makeBarriers_82 hl (k := 2) rfl rfl (by decide) rfl (fun ls hl => ?_)
  refine lv_goto (tgt := 2) hx hb dX2_makeBarriers_85 (by decide) ?_
  exact hk2 _ _ _ _ _ _ _ H locs ls w (lv_sub hl [1, 2, 0] rfl) h
def f_X2_makeBarriers_53 (adv_rooms : Int32) (parent : Nat → Int32) (k2 : Int32 → Int32 → Int64 → Int32 → (Nat → Int32) → (Nat → Int32) → (Nat → Int32) → Option (Int64 × Int32 × (Nat → Int32) × (Nat → Int32) × (Nat → Int32))) (x1 : Int32) (x2 : Int32) (x3 : Int32) (s1 : Int32) (s2 : Int32) (dr_state : Int64) (dr_count : Int32) (kind : Nat → Int32) (switched : Nat → Int32) (offered : Nat → Int32) : Option (Int64 × Int32 × (Nat → Int32) × (Nat → Int32) × (Nat → Int32)) := gd (s1 < 0 ∨ 12 ≤ s1.toNatClampNeg) (gd (x3 < 0 ∨ 12 ≤ x3.toNatClampNeg) (gd (x3 < 0 ∨ 12 ≤ x3.toNatClampNeg) (gd ((parent x3.toNatClampNeg) < 0 ∨ 12 ≤ (parent x3.toNatClampNeg).toNatClampNeg) (f_X2_makeBarriers_82 adv_rooms parent k2 x1 x2 dr_state dr_count (upd kind s1.toNatClampNeg s2) (upd (upd switched x3.toNatClampNeg (vp_nar .boolean (1 : Int32))) (parent x3.toNatClampNeg).toNatClampNeg (vp_nar .boolean (1 : Int32))) offered))))
set_option maxHeartbeats 4000000 in
set_option maxRecDepth 100000 in
theorem t_X2_makeBarriers_53 {p : Program} {l : Launch} {e : Env} {s : State} {m : MethodId} {args : Array Value} {below : List Frame} {meth : Method} {c : Code} {Q : State → Prop} {D : va_G} {kA : Nat → ClassId} {ad : Nat → Nat} {A : Nat → Prop} {lq_situation : Int32} {adv_rooms : Int32} {adv_levels : Int32} {adv_goalRoom : Int32} {adv_allDoors : Int32} {dr_state : Int64} {dr_count : Int32} {se_count : Int32} {parent : Nat → Int32} {level : Nat → Int32} {kind : Nat → Int32} {snum : Nat → Int32} {xx : Nat → Int32} {yy : Nat → Int32} {lying : Nat → Int32} {switched : Nat → Int32} {doors : Nat → Int32} {beyond : Nat → Nat → Int32} {offered : Nat → Int32} {opn : Nat → Int32} {seenb : Nat → Int64} {savedb : Nat → Int64} {found : Nat → Int32} {distance : Nat → Int32} {opening : Nat → Int32} {x1 : Int32} {x2 : Int32} {x3 : Int32} {s1 : Int32} {s2 : Int32} {k2 : Int32 → Int32 → Int64 → Int32 → (Nat → Int32) → (Nat → Int32) → (Nat → Int32) → Option (Int64 × Int32 × (Nat → Int32) × (Nat → Int32) × (Nat → Int32))} {res : Int64 × Int32 × (Nat → Int32) × (Nat → Int32) × (Nat → Int32)} (C : Cx p s m c args cX2_makeBarriers 4 RX2 wsX2_makeBarriers D kA A) (hk2 : ∀ (x1 : Int32) (x2 : Int32) (dr_state : Int64) (dr_count : Int32) (kind : Nat → Int32) (switched : Nat → Int32) (offered : Nat → Int32) (H : Heap) (locs : List Loc) (ls : Array Slot), Wd D A s H locs (wC kA ad lq_situation adv_rooms adv_levels adv_goalRoom adv_allDoors dr_state dr_count se_count parent level kind snum xx yy lying switched doors beyond offered opn seenb savedb found distance opening) → lv_has ls 4 [(0, .ref (ad 2)), (1, .int x1), (2, .int x2)] → k2 x1 x2 dr_state dr_count kind switched offered = some res → W p l e rm_X2_makeBarriers s m args below meth c H locs 0 0 Q (F0 m 2 ls [])) (hret : ∀ (q0 : Int64) (q1 : Int32) (q2 : Nat → Int32) (q3 : Nat → Int32) (q4 : Nat → Int32) (H : Heap) (locs : List Loc) (ls : Array Slot) (pc : Nat), decode cX2_makeBarriers pc = .ok (.return_, 1) → Wd D A s H locs (wC kA ad lq_situation adv_rooms adv_levels adv_goalRoom adv_allDoors q0 q1 se_count parent level q2 snum xx yy lying q3 doors beyond q4 opn seenb savedb found distance opening) → (q0, q1, q2, q3, q4) = res → W p l e rm_X2_makeBarriers s m args below meth c H locs 0 0 Q (F0 m pc ls [])) {H : Heap} {locs : List Loc} {ls : Array Slot} (w : Wd D A s H locs (wC kA ad lq_situation adv_rooms adv_levels adv_goalRoom adv_allDoors dr_state dr_count se_count parent level kind snum xx yy lying switched doors beyond offered opn seenb savedb found distance opening)) (hl : lv_has ls 4 [(0, .ref (ad 2)), (1, .int x1), (2, .int x2), (3, .int x3)]) (h : f_X2_makeBarriers_53 adv_rooms parent k2 x1 x2 x3 s1 s2 dr_state dr_count kind switched offered = some res) : W p l e rm_X2_makeBarriers s m args below meth c H locs 0 0 Q (F0 m 53 ls [.int s2, .int s1, .ref (ad 9)]) := by
  obtain ⟨⟨hx, hb, hml, hown, hts⟩, hK, -, -⟩ := id C
  unfold f_X2_makeBarriers_53 at h
  obtain ⟨g1, h⟩ := gd_some h
  refine va_iast hx hb hK w.1 w.2.1 w.2.2 9 0 rfl rfl g1 dX2_makeBarriers_53 (fun H locs hP hD hS => ?_)
  have w : Wd D A s H locs (wC kA ad lq_situation adv_rooms adv_levels adv_goalRoom adv_allDoors dr_state dr_count se_count parent level (upd kind s1.toNatClampNeg s2) snum xx yy lying switched doors beyond offered opn seenb savedb found distance opening) := ⟨hP, hD, hS⟩
  refine lv_aload_n hx hb dX2_makeBarriers_54 rfl (lv_at hl 0 rfl) ?_
  refine va_get (D := D) (ci := 2) (v := .ref (ad 1)) (C := RX2) (T := TX2) (N := 3) hx hb hts lX2_makeBarriers_X2 hown hK w.1 2 rfl rfl 0 (by decide) (hts _ mX2_makeBarriers_2) (fun _ h9 => h9) rfl dX2_makeBarriers_55 ?_
  refine va_get (D := D) (ci := 0) (v := .ref (ad 14)) (C := RX0) (T := TX0) (N := 14) hx hb hts lX2_makeBarriers_X0 hown hK w.1 1 rfl rfl 11 (by decide) (hts _ mX2_makeBarriers_5) (fun _ h9 => h9) rfl dX2_makeBarriers_58 ?_
  refine lv_iload_n hx hb dX2_makeBarriers_61 rfl (lv_at hl 3 rfl) ?_
  refine lv_iconst (v := 1) hx hb dX2_makeBarriers_62 (by decide) ?_
  obtain ⟨g2, h⟩ := gd_some h
  refine va_zast hx hb hK w.1 w.2.1 w.2.2 14 2 rfl rfl g2 dX2_makeBarriers_63 (fun H locs hP hD hS => ?_)
  have w : Wd D A s H locs (wC kA ad lq_situation adv_rooms adv_levels adv_goalRoom adv_allDoors dr_state dr_count se_count parent level (upd kind s1.toNatClampNeg s2) snum xx yy lying (upd switched x3.toNatClampNeg (vp_nar .boolean (1 : Int32))) doors beyond offered opn seenb savedb found distance opening) := ⟨hP, hD, hS⟩
  refine lv_aload_n hx hb dX2_makeBarriers_64 rfl (lv_at hl 0 rfl) ?_
  refine va_get (D := D) (ci := 2) (v := .ref (ad 1)) (C := RX2) (T := TX2) (N := 3) hx hb hts lX2_makeBarriers_X2 hown hK w.1 2 rfl rfl 0 (by decide) (hts _ mX2_makeBarriers_2) (fun _ h9 => h9) rfl dX2_makeBarriers_65 ?_
  refine va_get (D := D) (ci := 0) (v := .ref (ad 14)) (C := RX0) (T := TX0) (N := 14) hx hb hts lX2_makeBarriers_X0 hown hK w.1 1 rfl rfl 11 (by decide) (hts _ mX2_makeBarriers_5) (fun _ h9 => h9) rfl dX2_makeBarriers_68 ?_
  refine lv_aload_n hx hb dX2_makeBarriers_71 rfl (lv_at hl 0 rfl) ?_
  refine va_get (D := D) (ci := 2) (v := .ref (ad 1)) (C := RX2) (T := TX2) (N := 3) hx hb hts lX2_makeBarriers_X2 hown hK w.1 2 rfl rfl 0 (by decide) (hts _ mX2_makeBarriers_2) (fun _ h9 => h9) rfl dX2_makeBarriers_72 ?_
  refine va_get (D := D) (ci := 0) (v := .ref (ad 7)) (C := RX0) (T := TX0) (N := 14) hx hb hts lX2_makeBarriers_X0 hown hK w.1 1 rfl rfl 4 (by decide) (hts _ mX2_makeBarriers_6) (fun _ h9 => h9) rfl dX2_makeBarriers_75 ?_
  refine lv_iload_n hx hb dX2_makeBarriers_78 rfl (lv_at hl 3 rfl) ?_
  obtain ⟨g3, h⟩ := gd_some h
  refine va_iald hx hb hK w.1 7 0 rfl rfl g3 dX2_makeBarriers_79 ?_
  refine lv_iconst (v := 1) hx hb dX2_makeBarriers_80 (by decide) ?_
  obtain ⟨g4, h⟩ := gd_some h
  refine va_zast hx hb hK w.1 w.2.1 w.2.2 14 2 rfl rfl g4 dX2_makeBarriers_81 (fun H locs hP hD hS => ?_)
  have w : Wd D A s H locs (wC kA ad lq_situation adv_rooms adv_levels adv_goalRoom adv_allDoors dr_state dr_count se_count parent level (upd kind s1.toNatClampNeg s2) snum xx yy lying (upd (upd switched x3.toNatClampNeg (vp_nar .boolean (1 : Int32))) (parent x3.toNatClampNeg).toNatClampNeg (vp_nar .boolean (1 : Int32))) doors beyond offered opn seenb savedb found distance opening) := ⟨hP, hD, hS⟩
  exact t_X2_makeBarriers_82 C hk2 hret w (lv_sub hl [0, 1, 2] rfl) h
def fb_X2_makeBarriers_2 (adv_rooms : Int32) (parent : Nat → Int32) (k2 : Int32 → Int32 → Int64 → Int32 → (Nat → Int32) → (Nat → Int32) → (Nat → Int32) → Option (Int64 × Int32 × (Nat → Int32) × (Nat → Int32) × (Nat → Int32))) (x1 : Int32) (x2 : Int32) (dr_state : Int64) (dr_count : Int32) (kind : Nat → Int32) (switched : Nat → Int32) (offered : Nat → Int32) : Option (Int64 × Int32 × (Nat → Int32) × (Nat → Int32) × (Nat → Int32)) := if x1 ≤ x2 then (some (dr_state, dr_count, kind, switched, offered)) else ((f_X2_offerPlainDoors adv_rooms dr_count kind offered).bind (fun u6 => (f_X1_hasOffer u6.1).bind (fun u7 => if u7 = 0 then (f_X2_makeBarriers_82 adv_rooms parent k2 x1 x2 dr_state u6.1 kind switched u6.2) else ((f_X1_offeredRoom dr_state u6.1 u6.2).bind (fun u9 => (f_X1_number (2 : Int32) u9.2).bind (fun u10 => if u10.1 = 0 then (f_X2_makeBarriers_53 adv_rooms parent k2 x1 x2 u9.1 u9.1 (3 : Int32) u10.2 u6.1 kind switched u6.2) else (f_X2_makeBarriers_53 adv_rooms parent k2 x1 x2 u9.1 u9.1 (4 : Int32) u10.2 u6.1 kind switched u6.2)))))))
set_option maxHeartbeats 4000000 in
set_option maxRecDepth 100000 in
theorem tb_X2_makeBarriers_2 {p : Program} {l : Launch} {e : Env} {s : State} {m : MethodId} {args : Array Value} {below : List Frame} {meth : Method} {c : Code} {Q : State → Prop} {D : va_G} {kA : Nat → ClassId} {ad : Nat → Nat} {A : Nat → Prop} {lq_situation : Int32} {adv_rooms : Int32} {adv_levels : Int32} {adv_goalRoom : Int32} {adv_allDoors : Int32} {dr_state : Int64} {dr_count : Int32} {se_count : Int32} {parent : Nat → Int32} {level : Nat → Int32} {kind : Nat → Int32} {snum : Nat → Int32} {xx : Nat → Int32} {yy : Nat → Int32} {lying : Nat → Int32} {switched : Nat → Int32} {doors : Nat → Int32} {beyond : Nat → Nat → Int32} {offered : Nat → Int32} {opn : Nat → Int32} {seenb : Nat → Int64} {savedb : Nat → Int64} {found : Nat → Int32} {distance : Nat → Int32} {opening : Nat → Int32} {x1 : Int32} {x2 : Int32} {k2 : Int32 → Int32 → Int64 → Int32 → (Nat → Int32) → (Nat → Int32) → (Nat → Int32) → Option (Int64 × Int32 × (Nat → Int32) × (Nat → Int32) × (Nat → Int32))} {res : Int64 × Int32 × (Nat → Int32) × (Nat → Int32) × (Nat → Int32)} (C : Cx p s m c args cX2_makeBarriers 4 RX2 wsX2_makeBarriers D kA A) (hk2 : ∀ (x1 : Int32) (x2 : Int32) (dr_state : Int64) (dr_count : Int32) (kind : Nat → Int32) (switched : Nat → Int32) (offered : Nat → Int32) (H : Heap) (locs : List Loc) (ls : Array Slot), Wd D A s H locs (wC kA ad lq_situation adv_rooms adv_levels adv_goalRoom adv_allDoors dr_state dr_count se_count parent level kind snum xx yy lying switched doors beyond offered opn seenb savedb found distance opening) → lv_has ls 4 [(0, .ref (ad 2)), (1, .int x1), (2, .int x2)] → k2 x1 x2 dr_state dr_count kind switched offered = some res → W p l e rm_X2_makeBarriers s m args below meth c H locs 0 0 Q (F0 m 2 ls [])) (hret : ∀ (q0 : Int64) (q1 : Int32) (q2 : Nat → Int32) (q3 : Nat → Int32) (q4 : Nat → Int32) (H : Heap) (locs : List Loc) (ls : Array Slot) (pc : Nat), decode cX2_makeBarriers pc = .ok (.return_, 1) → Wd D A s H locs (wC kA ad lq_situation adv_rooms adv_levels adv_goalRoom adv_allDoors q0 q1 se_count parent level q2 snum xx yy lying q3 doors beyond q4 opn seenb savedb found distance opening) → (q0, q1, q2, q3, q4) = res → W p l e rm_X2_makeBarriers s m args below meth c H locs 0 0 Q (F0 m pc ls [])) {H : Heap} {locs : List Loc} {ls : Array Slot} (w : Wd D A s H locs (wC kA ad lq_situation adv_rooms adv_levels adv_goalRoom adv_allDoors dr_state dr_count se_count parent level kind snum xx yy lying switched doors beyond offered opn seenb savedb found distance opening)) (hl : lv_has ls 4 [(0, .ref (ad 2)), (1, .int x1), (2, .int x2)]) (h : fb_X2_makeBarriers_2 adv_rooms parent k2 x1 x2 dr_state dr_count kind switched offered = some res) : W p l e rm_X2_makeBarriers s m args below meth c H locs 0 0 Q (F0 m 2 ls []) := by
  obtain ⟨⟨hx, hb, hml, hown, hts⟩, hK, -, -⟩ := id C
  unfold fb_X2_makeBarriers_2 at h
  refine lv_iload_n hx hb dX2_makeBarriers_2 rfl (lv_at hl 2 rfl) ?_
  refine lv_iload_n hx hb dX2_makeBarriers_3 rfl (lv_at hl 1 rfl) ?_
  refine lv_icmp_ge (tgt := 88) hx hb dX2_makeBarriers_4 (by decide) (fun g5 => ?_) (fun g5 => ?_)
  · replace h := it_pos g5 h
    exact hret _ _ _ _ _ _ _ _ _ dX2_makeBarriers_88 w (Option.some.inj h)
  · replace h := it_neg g5 h
    refine lv_aload_n hx hb dX2_makeBarriers_7 rfl (lv_at hl 0 rfl) ?_
    obtain ⟨u6, hc6, h⟩ := bd_some h
    refine gl_callv C w (va_runV (As := []) (rest := []) ⟨hx, hb, hml, hown, hts⟩ (c_X2_offerPlainDoors l D kA ad H.size lq_situation adv_rooms adv_levels adv_goalRoom adv_allDoors dr_state dr_count se_count parent level kind snum xx yy lying switched doors beyond offered opn seenb savedb found distance opening  hc6) (cwV 0 hts gX2_makeBarriers_X2_offerPlainDoors rfl rfl rfl (by decide +kernel) ⟨Nat.le_of_ble_eq_true rfl, Nat.le_of_ble_eq_true rfl⟩) (Wd.preV C w (q0 := 2) (ci := 2) rfl rfl rfl) rfl rfl hl.1 rfl (lv_room (Nat.le_of_ble_eq_true rfl)) dX2_makeBarriers_8 ⟨Nat.zero_le _, Nat.zero_le _⟩) (fun H locs w => ?_)
    refine lv_aload_n hx hb dX2_makeBarriers_11 rfl (lv_at hl 0 rfl) ?_
    refine va_get (D := D) (ci := 2) (v := .ref (ad 3)) (C := RX2) (T := TX2) (N := 3) hx hb hts lX2_makeBarriers_X2 hown hK w.1 2 rfl rfl 1 (by decide) (hts _ mX2_makeBarriers_1) (fun _ h9 => h9) rfl dX2_makeBarriers_12 ?_
    obtain ⟨u7, hc7, h⟩ := bd_some h
    refine gl_calli C w (va_runV (As := []) (rest := []) ⟨hx, hb, hml, hown, hts⟩ (c_X1_hasOffer l D kA ad H.size lq_situation adv_rooms adv_levels adv_goalRoom adv_allDoors dr_state u6.1 se_count parent level kind snum xx yy lying switched doors beyond u6.2 opn seenb savedb found distance opening  hc7) (cwV 0 hts gX2_makeBarriers_X1_hasOffer rfl rfl rfl (by decide +kernel) ⟨Nat.le_of_ble_eq_true rfl, Nat.le_of_ble_eq_true rfl⟩) (Wd.preV C w (q0 := 3) (ci := 1) rfl rfl rfl) rfl rfl hl.1 rfl (lv_room (Nat.le_of_ble_eq_true rfl)) dX2_makeBarriers_15 ⟨Nat.zero_le _, Nat.zero_le _⟩) (fun H locs w => ?_)
    refine lv_if_eq (tgt := 82) hx hb dX2_makeBarriers_18 (by decide) (fun g8 => ?_) (fun g8 => ?_)
    · replace h := it_pos g8 h
      exact t_X2_makeBarriers_82 C hk2 hret w (lv_sub hl [0, 1, 2] rfl) h
    · replace h := it_neg g8 h
      refine lv_aload_n hx hb dX2_makeBarriers_21 rfl (lv_at hl 0 rfl) ?_
      refine va_get (D := D) (ci := 2) (v := .ref (ad 3)) (C := RX2) (T := TX2) (N := 3) hx hb hts lX2_makeBarriers_X2 hown hK w.1 2 rfl rfl 1 (by decide) (hts _ mX2_makeBarriers_1) (fun _ h9 => h9) rfl dX2_makeBarriers_22 ?_
      obtain ⟨u9, hc9, h⟩ := bd_some h
      refine gl_calli C w (va_runV (As := []) (rest := []) ⟨hx, hb, hml, hown, hts⟩ (c_X1_offeredRoom l D kA ad H.size lq_situation adv_rooms adv_levels adv_goalRoom adv_allDoors dr_state u6.1 se_count parent level kind snum xx yy lying switched doors beyond u6.2 opn seenb savedb found distance opening  hc9) (cwV 0 hts gX2_makeBarriers_X1_offeredRoom rfl rfl rfl (by decide +kernel) ⟨Nat.le_of_ble_eq_true rfl, Nat.le_of_ble_eq_true rfl⟩) (Wd.preV C w (q0 := 3) (ci := 1) rfl rfl rfl) rfl rfl hl.1 rfl (lv_room (Nat.le_of_ble_eq_true rfl)) dX2_makeBarriers_25 ⟨Nat.zero_le _, Nat.zero_le _⟩) (fun H locs w => ?_)
      refine lv_istore_n (lv' := [(3, .int u9.1), (0, .ref (ad 2)), (1, .int x1), (2, .int x2)]) hx hb dX2_makeBarriers_28 rfl hl (by decide) rfl (fun ls hl => ?_)
      refine lv_aload_n hx hb dX2_makeBarriers_29 rfl (lv_at hl 1 rfl) ?_
      refine va_get (D := D) (ci := 2) (v := .ref (ad 1)) (C := RX2) (T := TX2) (N := 3) hx hb hts lX2_makeBarriers_X2 hown hK w.1 2 rfl rfl 0 (by decide) (hts _ mX2_makeBarriers_2) (fun _ h9 => h9) rfl dX2_makeBarriers_30 ?_
      refine va_get (D := D) (ci := 0) (v := .ref (ad 9)) (C := RX0) (T := TX0) (N := 14) hx hb hts lX2_makeBarriers_X0 hown hK w.1 1 rfl rfl 6 (by decide) (hts _ mX2_makeBarriers_4) (fun _ h9 => h9) rfl dX2_makeBarriers_33 ?_
      refine lv_iload_n hx hb dX2_makeBarriers_36 rfl (lv_at hl 0 rfl) ?_
      refine lv_aload_n hx hb dX2_makeBarriers_37 rfl (lv_at hl 1 rfl) ?_
      refine va_get (D := D) (ci := 2) (v := .ref (ad 3)) (C := RX2) (T := TX2) (N := 3) hx hb hts lX2_makeBarriers_X2 hown hK w.1 2 rfl rfl 1 (by decide) (hts _ mX2_makeBarriers_1) (fun _ h9 => h9) rfl dX2_makeBarriers_38 ?_
      refine lv_iconst (v := 2) hx hb dX2_makeBarriers_41 (by decide) ?_
      obtain ⟨u10, hc10, h⟩ := bd_some h
      refine gl_calli C w (va_runV (As := [.int (2 : Int32)]) (rest := [.int u9.1, .ref (ad 9)]) ⟨hx, hb, hml, hown, hts⟩ (c_X1_number l D kA ad H.size lq_situation adv_rooms adv_levels adv_goalRoom adv_allDoors u9.2 u6.1 se_count parent level kind snum xx yy lying switched doors beyond u6.2 opn seenb savedb found distance opening (2 : Int32) hc10) (cwV 1 hts gX2_makeBarriers_X1_number rfl rfl rfl (by decide +kernel) ⟨Nat.le_of_ble_eq_true rfl, Nat.le_of_ble_eq_true rfl⟩) (Wd.preV C w (q0 := 3) (ci := 1) rfl rfl rfl) rfl rfl hl.1 rfl (lv_room (Nat.le_of_ble_eq_true rfl)) dX2_makeBarriers_42 ⟨Nat.zero_le _, Nat.zero_le _⟩) (fun H locs w => ?_)
      refine lv_if_ne (tgt := 52) hx hb dX2_makeBarriers_45 (by decide) (fun g11 => ?_) (fun g11 => ?_)
      · replace h := it_neg g11 h
        refine lv_iconst (v := 4) hx hb dX2_makeBarriers_52 (by decide) ?_
        exact t_X2_makeBarriers_53 C hk2 hret w (lv_sub hl [1, 2, 3, 0] rfl) h
      · replace h := it_pos g11 h
        refine lv_iconst (v := 3) hx hb dX2_makeBarriers_48 (by decide) ?_
        refine lv_goto (tgt := 53) hx hb dX2_makeBarriers_49 (by decide) ?_
        exact t_X2_makeBarriers_53 C hk2 hret w (lv_sub hl [1, 2, 3, 0] rfl) h
def f_X2_makeBarriers_2 (adv_rooms : Int32) (parent : Nat → Int32) (x1 : Int32) (x2 : Int32) (dr_state : Int64) (dr_count : Int32) (kind : Nat → Int32) (switched : Nat → Int32) (offered : Nat → Int32) : Option (Int64 × Int32 × (Nat → Int32) × (Nat → Int32) × (Nat → Int32)) := lp (σ := Int32 × Int32 × Int64 × Int32 × (Nat → Int32) × (Nat → Int32) × (Nat → Int32)) (fun k st => fb_X2_makeBarriers_2 adv_rooms parent (fun x1 x2 dr_state dr_count kind switched offered => k (x1, x2, dr_state, dr_count, kind, switched, offered)) st.1 st.2.1 st.2.2.1 st.2.2.2.1 st.2.2.2.2.1 st.2.2.2.2.2.1 st.2.2.2.2.2.2) fuel (x1, x2, dr_state, dr_count, kind, switched, offered)
set_option maxHeartbeats 4000000 in
set_option maxRecDepth 100000 in
theorem t_X2_makeBarriers_2 {p : Program} {l : Launch} {e : Env} {s : State} {m : MethodId} {args : Array Value} {below : List Frame} {meth : Method} {c : Code} {Q : State → Prop} {D : va_G} {kA : Nat → ClassId} {ad : Nat → Nat} {A : Nat → Prop} {lq_situation : Int32} {adv_rooms : Int32} {adv_levels : Int32} {adv_goalRoom : Int32} {adv_allDoors : Int32} {dr_state : Int64} {dr_count : Int32} {se_count : Int32} {parent : Nat → Int32} {level : Nat → Int32} {kind : Nat → Int32} {snum : Nat → Int32} {xx : Nat → Int32} {yy : Nat → Int32} {lying : Nat → Int32} {switched : Nat → Int32} {doors : Nat → Int32} {beyond : Nat → Nat → Int32} {offered : Nat → Int32} {opn : Nat → Int32} {seenb : Nat → Int64} {savedb : Nat → Int64} {found : Nat → Int32} {distance : Nat → Int32} {opening : Nat → Int32} {x1 : Int32} {x2 : Int32} {res : Int64 × Int32 × (Nat → Int32) × (Nat → Int32) × (Nat → Int32)} (C : Cx p s m c args cX2_makeBarriers 4 RX2 wsX2_makeBarriers D kA A) (hret : ∀ (q0 : Int64) (q1 : Int32) (q2 : Nat → Int32) (q3 : Nat → Int32) (q4 : Nat → Int32) (H : Heap) (locs : List Loc) (ls : Array Slot) (pc : Nat), decode cX2_makeBarriers pc = .ok (.return_, 1) → Wd D A s H locs (wC kA ad lq_situation adv_rooms adv_levels adv_goalRoom adv_allDoors q0 q1 se_count parent level q2 snum xx yy lying q3 doors beyond q4 opn seenb savedb found distance opening) → (q0, q1, q2, q3, q4) = res → W p l e rm_X2_makeBarriers s m args below meth c H locs 0 0 Q (F0 m pc ls [])) {H : Heap} {locs : List Loc} {ls : Array Slot} (w : Wd D A s H locs (wC kA ad lq_situation adv_rooms adv_levels adv_goalRoom adv_allDoors dr_state dr_count se_count parent level kind snum xx yy lying switched doors beyond offered opn seenb savedb found distance opening)) (hl : lv_has ls 4 [(0, .ref (ad 2)), (1, .int x1), (2, .int x2)]) (h : f_X2_makeBarriers_2 adv_rooms parent x1 x2 dr_state dr_count kind switched offered = some res) : W p l e rm_X2_makeBarriers s m args below meth c H locs 0 0 Q (F0 m 2 ls []) := by
  unfold f_X2_makeBarriers_2 at h
  exact lp_ind (P := (fun (st : Int32 × Int32 × Int64 × Int32 × (Nat → Int32) × (Nat → Int32) × (Nat → Int32)) => ∀ (H : Heap) (locs : List Loc) (ls : Array Slot), Wd D A s H locs (wC kA ad lq_situation adv_rooms adv_levels adv_goalRoom adv_allDoors st.2.2.1 st.2.2.2.1 se_count parent level st.2.2.2.2.1 snum xx yy lying st.2.2.2.2.2.1 doors beyond st.2.2.2.2.2.2 opn seenb savedb found distance opening) → lv_has ls 4 [(0, .ref (ad 2)), (1, .int st.1), (2, .int st.2.1)] → W p l e rm_X2_makeBarriers s m args below meth c H locs 0 0 Q (F0 m 2 ls []))) (fun k hk st h H locs ls w hl => tb_X2_makeBarriers_2 C  (fun a0 a1 a2 a3 a4 a5 a6 H locs ls w hl h => hk (a0, a1, a2, a3, a4, a5, a6) h H locs ls w hl) hret w hl h) fuel (x1, x2, dr_state, dr_count, kind, switched, offered) h H locs ls w hl
def f_X2_makeBarriers (p0 : Int32) (adv_rooms : Int32) (dr_state : Int64) (dr_count : Int32) (parent : Nat → Int32) (kind : Nat → Int32) (switched : Nat → Int32) (offered : Nat → Int32) : Option (Int64 × Int32 × (Nat → Int32) × (Nat → Int32) × (Nat → Int32)) := f_X2_makeBarriers_2 adv_rooms parent p0 (0 : Int32) dr_state dr_count kind switched offered
set_option maxHeartbeats 4000000 in
set_option maxRecDepth 100000 in
theorem t_X2_makeBarriers {p : Program} {l : Launch} {e : Env} {s : State} {m : MethodId} {args : Array Value} {below : List Frame} {meth : Method} {c : Code} {Q : State → Prop} {D : va_G} {kA : Nat → ClassId} {ad : Nat → Nat} {A : Nat → Prop} {lq_situation : Int32} {adv_rooms : Int32} {adv_levels : Int32} {adv_goalRoom : Int32} {adv_allDoors : Int32} {dr_state : Int64} {dr_count : Int32} {se_count : Int32} {parent : Nat → Int32} {level : Nat → Int32} {kind : Nat → Int32} {snum : Nat → Int32} {xx : Nat → Int32} {yy : Nat → Int32} {lying : Nat → Int32} {switched : Nat → Int32} {doors : Nat → Int32} {beyond : Nat → Nat → Int32} {offered : Nat → Int32} {opn : Nat → Int32} {seenb : Nat → Int64} {savedb : Nat → Int64} {found : Nat → Int32} {distance : Nat → Int32} {opening : Nat → Int32} {p0 : Int32} {res : Int64 × Int32 × (Nat → Int32) × (Nat → Int32) × (Nat → Int32)} (C : Cx p s m c args cX2_makeBarriers 4 RX2 wsX2_makeBarriers D kA A) (hret : ∀ (q0 : Int64) (q1 : Int32) (q2 : Nat → Int32) (q3 : Nat → Int32) (q4 : Nat → Int32) (H : Heap) (locs : List Loc) (ls : Array Slot) (pc : Nat), decode cX2_makeBarriers pc = .ok (.return_, 1) → Wd D A s H locs (wC kA ad lq_situation adv_rooms adv_levels adv_goalRoom adv_allDoors q0 q1 se_count parent level q2 snum xx yy lying q3 doors beyond q4 opn seenb savedb found distance opening) → (q0, q1, q2, q3, q4) = res → W p l e rm_X2_makeBarriers s m args below meth c H locs 0 0 Q (F0 m pc ls [])) {H : Heap} {locs : List Loc} {ls : Array Slot} (w : Wd D A s H locs (wC kA ad lq_situation adv_rooms adv_levels adv_goalRoom adv_allDoors dr_state dr_count se_count parent level kind snum xx yy lying switched doors beyond offered opn seenb savedb found distance opening)) (hl : lv_has ls 4 [(0, .ref (ad 2)), (1, .int p0)]) (h : f_X2_makeBarriers p0 adv_rooms dr_state dr_count parent kind switched offered = some res) : W p l e rm_X2_makeBarriers s m args below meth c H locs 0 0 Q (F0 m 0 ls []) := by
  obtain ⟨⟨hx, hb, hml, hown, hts⟩, hK, -, -⟩ := id C
  unfold f_X2_makeBarriers at h
  refine lv_iconst (v := 0) hx hb dX2_makeBarriers_0 (by decide) ?_
  refine lv_istore_n (lv' := [(2, .int (0 : Int32)), (0, .ref (ad 2)), (1, .int p0)]) hx hb dX2_makeBarriers_1 rfl hl (by decide) rfl (fun ls hl => ?_)
  exact t_X2_makeBarriers_2 C  hret w (lv_sub hl [1, 2, 0] rfl) h
set_option maxHeartbeats 4000000 in
set_option maxRecDepth 100000 in
theorem c_X2_makeBarriers (l : Launch) (D : va_G) (kA : Nat → ClassId) (ad : Nat → Nat) (sz : Nat) (lq_situation : Int32) (adv_rooms : Int32) (adv_levels : Int32) (adv_goalRoom : Int32) (adv_allDoors : Int32) (dr_state : Int64) (dr_count : Int32) (se_count : Int32) (parent : Nat → Int32) (level : Nat → Int32) (kind : Nat → Int32) (snum : Nat → Int32) (xx : Nat → Int32) (yy : Nat → Int32) (lying : Nat → Int32) (switched : Nat → Int32) (doors : Nat → Int32) (beyond : Nat → Nat → Int32) (offered : Nat → Int32) (opn : Nat → Int32) (seenb : Nat → Int64) (savedb : Nat → Int64) (found : Nat → Int32) (distance : Nat → Int32) (opening : Nat → Int32) (p0 : Int32) {res : Int64 × Int32 × (Nat → Int32) × (Nat → Int32) × (Nat → Int32)} (h : f_X2_makeBarriers p0 adv_rooms dr_state dr_count parent kind switched offered = some res) : Cv l yX2_makeBarriers wsX2_makeBarriers rm_X2_makeBarriers D kA [.ref (ad 2), .int p0] sz (wC kA ad lq_situation adv_rooms adv_levels adv_goalRoom adv_allDoors dr_state dr_count se_count parent level kind snum xx yy lying switched doors beyond offered opn seenb savedb found distance opening) (wC kA ad lq_situation adv_rooms adv_levels adv_goalRoom adv_allDoors res.1 res.2.1 se_count parent level res.2.2.1 snum xx yy lying res.2.2.2.1 doors beyond res.2.2.2.2 opn seenb savedb found distance opening) := by
  refine Met.ofW (cc := cX2_makeBarriers) (maxL := 4) (ret := none) (by decide) rfl ?_
  intro p e s m args below meth c s₁ B hml hv
  obtain ⟨rfl, hsz, hP, hK, hD0, hX⟩ := hv
  subst hsz
  have hts := atoms_spec (ws := wsX2_makeBarriers) B.pre
  have hl := lv_entry ([.ref (ad 2), .int p0]) (n := 4) (Nat.le_of_ble_eq_true rfl)
  rw [lg_entry_eq]
  have hlocks := B.notSynchronized
  refine t_X2_makeBarriers (A := va_A (wC kA ad lq_situation adv_rooms adv_levels adv_goalRoom adv_allDoors dr_state dr_count se_count parent level kind snum xx yy lying switched doors beyond offered opn seenb savedb found distance opening) s.heap.size) ⟨⟨B.exec, B.bytes, hml, findClass_of_methodNamed B.named, hts⟩, hK, fun q h => Or.inr h, hX⟩ (fun q0 q1 q2 q3 q4 H locs ls pc hd w hres => ?_) ⟨hP, hD0.self, va_S.rf⟩ hl h
  subst hres
  exact W.vret B.exec B.bytes B.returns (fun t ht hW => ⟨⟨(), rfl, trivial, by rw [ht]; exact w.1, va_K.moved hW.alike hK, w.2.1⟩, w.2.2.F ht⟩) w.2.2.2.2 hd hlocks
-- ('wC', 'LockQuest$Maker', 'isFree', '(III)Z', ('mk', None, None, None))
abbrev rm_X2_isFree : Room := { frames := 0, cells := 0, slots := 0, locals := 0 }
set_option maxRecDepth 20000 in
theorem lX2_isFree_X2 : ∀ w ∈ wsX20, w ∈ wsX2_isFree := by decide +kernel
set_option maxRecDepth 20000 in
theorem mX2_isFree_1 : Cond.fieldLink RX2 22 "LockQuest$Maker" "made" "LLockQuest$Adventure;" ∈ wsX2_isFree := by decide +kernel
set_option maxRecDepth 20000 in
theorem lX2_isFree_X0 : ∀ w ∈ wsX00, w ∈ wsX2_isFree := by decide +kernel
set_option maxRecDepth 20000 in
theorem mX2_isFree_3 : Cond.fieldLink RX2 149 "LockQuest$Adventure" "x" "[I" ∈ wsX2_isFree := by decide +kernel
set_option maxRecDepth 20000 in
theorem mX2_isFree_4 : Cond.fieldLink RX2 152 "LockQuest$Adventure" "y" "[I" ∈ wsX2_isFree := by decide +kernel
def f_X2_isFree_39 (xx : Nat → Int32) (yy : Nat → Int32) (k3 : Int32 → Int32 → Int32 → Int32 → Option (Int32)) (x1 : Int32) (x2 : Int32) (x3 : Int32) (x4 : Int32) : Option (Int32) := k3 x1 x2 x3 (x4 + (1 : Int32))
set_option maxHeartbeats 4000000 in
set_option maxRecDepth 100000 in
theorem t_X2_isFree_39 {p : Program} {l : Launch} {e : Env} {s : State} {m : MethodId} {args : Array Value} {below : List Frame} {meth : Method} {c : Code} {Q : State → Prop} {D : va_G} {kA : Nat → ClassId} {ad : Nat → Nat} {A : Nat → Prop} {lq_situation : Int32} {adv_rooms : Int32} {adv_levels : Int32} {adv_goalRoom : Int32} {adv_allDoors : Int32} {dr_state : Int64} {dr_count : Int32} {se_count : Int32} {parent : Nat → Int32} {level : Nat → Int32} {kind : Nat → Int32} {snum : Nat → Int32} {xx : Nat → Int32} {yy : Nat → Int32} {lying : Nat → Int32} {switched : Nat → Int32} {doors : Nat → Int32} {beyond : Nat → Nat → Int32} {offered : Nat → Int32} {opn : Nat → Int32} {seenb : Nat → Int64} {savedb : Nat → Int64} {found : Nat → Int32} {distance : Nat → Int32} {opening : Nat → Int32} {x1 : Int32} {x2 : Int32} {x3 : Int32} {x4 : Int32} {k3 : Int32 → Int32 → Int32 → Int32 → Option (Int32)} {res : Int32} (C : Cx p s m c args cX2_isFree 5 RX2 wsX2_isFree D kA A) (hk3 : ∀ (x1 : Int32) (x2 : Int32) (x3 : Int32) (x4 : Int32) (H : Heap) (locs : List Loc) (ls : Array Slot), Wd D A s H locs (wC kA ad lq_situation adv_rooms adv_levels adv_goalRoom adv_allDoors dr_state dr_count se_count parent level kind snum xx yy lying switched doors beyond offered opn seenb savedb found distance opening) → lv_has ls 5 [(0, .ref (ad 2)), (1, .int x1), (2, .int x2), (3, .int x3), (4, .int x4)] → k3 x1 x2 x3 x4 = some res → W p l e rm_X2_isFree s m args below meth c H locs 0 0 Q (F0 m 3 ls [])) (hret : ∀ (r : Int32) (H : Heap) (locs : List Loc) (ls : Array Slot) (pc : Nat), decode cX2_isFree pc = .ok (.ireturn, 1) → narrow .boolean (.int r) = .int r → Wd D A s H locs (wC kA ad lq_situation adv_rooms adv_levels adv_goalRoom adv_allDoors dr_state dr_count se_count parent level kind snum xx yy lying switched doors beyond offered opn seenb savedb found distance opening) → r = res → W p l e rm_X2_isFree s m args below meth c H locs 0 0 Q (F0 m pc ls [.int r])) {H : Heap} {locs : List Loc} {ls : Array Slot} (w : Wd D A s H locs (wC kA ad lq_situation adv_rooms adv_levels adv_goalRoom adv_allDoors dr_state dr_count se_count parent level kind snum xx yy lying switched doors beyond offered opn seenb savedb found distance opening)) (hl : lv_has ls 5 [(0, .ref (ad 2)), (1, .int x1), (2, .int x2), (3, .int x3), (4, .int x4)]) (h : f_X2_isFree_39 xx yy k3 x1 x2 x3 x4 = some res) : W p l e rm_X2_isFree s m args below meth c H locs 0 0 Q (F0 m 39 ls []) := by
  obtain ⟨⟨hx, hb, hml, hown, hts⟩, hK, -, -⟩ := id C
  unfold f_X2_isFree_39 at h
  refine lv_iinc (v := (x4 + (1 : Int32))) (lv' := [(4, .int (x4 + (1 : Int32))), (0, .ref (ad 2)), (1, .int x1), (2, .int x2), (3, .int x3)]) hx hb dX2_isFree_39 hl (k := 4) rfl rfl (by decide) rfl (fun ls hl => ?_)
  refine lv_goto (tgt := 3) hx hb dX2_isFree_42 (by decide) ?_
  exact hk3 _ _ _ _ H locs ls w (lv_sub hl [1, 2, 3, 4, 0] rfl) h
def fb_X2_isFree_3 (xx : Nat → Int32) (yy : Nat → Int32) (k3 : Int32 → Int32 → Int32 → Int32 → Option (Int32)) (x1 : Int32) (x2 : Int32) (x3 : Int32) (x4 : Int32) : Option (Int32) := if x3 ≤ x4 then (some (1 : Int32)) else (gd (x4 < 0 ∨ 12 ≤ x4.toNatClampNeg) (if (xx x4.toNatClampNeg) = x1 then (gd (x4 < 0 ∨ 12 ≤ x4.toNatClampNeg) (if (yy x4.toNatClampNeg) = x2 then (some (0 : Int32)) else (f_X2_isFree_39 xx yy k3 x1 x2 x3 x4))) else (f_X2_isFree_39 xx yy k3 x1 x2 x3 x4)))
set_option maxHeartbeats 4000000 in
set_option maxRecDepth 100000 in
theorem tb_X2_isFree_3 {p : Program} {l : Launch} {e : Env} {s : State} {m : MethodId} {args : Array Value} {below : List Frame} {meth : Method} {c : Code} {Q : State → Prop} {D : va_G} {kA : Nat → ClassId} {ad : Nat → Nat} {A : Nat → Prop} {lq_situation : Int32} {adv_rooms : Int32} {adv_levels : Int32} {adv_goalRoom : Int32} {adv_allDoors : Int32} {dr_state : Int64} {dr_count : Int32} {se_count : Int32} {parent : Nat → Int32} {level : Nat → Int32} {kind : Nat → Int32} {snum : Nat → Int32} {xx : Nat → Int32} {yy : Nat → Int32} {lying : Nat → Int32} {switched : Nat → Int32} {doors : Nat → Int32} {beyond : Nat → Nat → Int32} {offered : Nat → Int32} {opn : Nat → Int32} {seenb : Nat → Int64} {savedb : Nat → Int64} {found : Nat → Int32} {distance : Nat → Int32} {opening : Nat → Int32} {x1 : Int32} {x2 : Int32} {x3 : Int32} {x4 : Int32} {k3 : Int32 → Int32 → Int32 → Int32 → Option (Int32)} {res : Int32} (C : Cx p s m c args cX2_isFree 5 RX2 wsX2_isFree D kA A) (hk3 : ∀ (x1 : Int32) (x2 : Int32) (x3 : Int32) (x4 : Int32) (H : Heap) (locs : List Loc) (ls : Array Slot), Wd D A s H locs (wC kA ad lq_situation adv_rooms adv_levels adv_goalRoom adv_allDoors dr_state dr_count se_count parent level kind snum xx yy lying switched doors beyond offered opn seenb savedb found distance opening) → lv_has ls 5 [(0, .ref (ad 2)), (1, .int x1), (2, .int x2), (3, .int x3), (4, .int x4)] → k3 x1 x2 x3 x4 = some res → W p l e rm_X2_isFree s m args below meth c H locs 0 0 Q (F0 m 3 ls [])) (hret : ∀ (r : Int32) (H : Heap) (locs : List Loc) (ls : Array Slot) (pc : Nat), decode cX2_isFree pc = .ok (.ireturn, 1) → narrow .boolean (.int r) = .int r → Wd D A s H locs (wC kA ad lq_situation adv_rooms adv_levels adv_goalRoom adv_allDoors dr_state dr_count se_count parent level kind snum xx yy lying switched doors beyond offered opn seenb savedb found distance opening) → r = res → W p l e rm_X2_isFree s m args below meth c H locs 0 0 Q (F0 m pc ls [.int r])) {H : Heap} {locs : List Loc} {ls : Array Slot} (w : Wd D A s H locs (wC kA ad lq_situation adv_rooms adv_levels adv_goalRoom adv_allDoors dr_state dr_count se_count parent level kind snum xx yy lying switched doors beyond offered opn seenb savedb found distance opening)) (hl : lv_has ls 5 [(0, .ref (ad 2)), (1, .int x1), (2, .int x2), (3, .int x3), (4, .int x4)]) (h : fb_X2_isFree_3 xx yy k3 x1 x2 x3 x4 = some res) : W p l e rm_X2_isFree s m args below meth c H locs 0 0 Q (F0 m 3 ls []) := by
  obtain ⟨⟨hx, hb, hml, hown, hts⟩, hK, -, -⟩ := id C
  unfold fb_X2_isFree_3 at h
  refine lv_iload hx hb dX2_isFree_3 (lv_at hl 4 rfl) ?_
  refine lv_iload_n hx hb dX2_isFree_5 rfl (lv_at hl 3 rfl) ?_
  refine lv_icmp_ge (tgt := 45) hx hb dX2_isFree_6 (by decide) (fun g1 => ?_) (fun g1 => ?_)
  · replace h := it_pos g1 h
    refine lv_iconst (v := 1) hx hb dX2_isFree_45 (by decide) ?_
    exact hret _ _ _ _ _ dX2_isFree_46 rfl w (Option.some.inj h)
  · replace h := it_neg g1 h
    refine lv_aload_n hx hb dX2_isFree_9 rfl (lv_at hl 0 rfl) ?_
    refine va_get (D := D) (ci := 2) (v := .ref (ad 1)) (C := RX2) (T := TX2) (N := 3) hx hb hts lX2_isFree_X2 hown hK w.1 2 rfl rfl 0 (by decide) (hts _ mX2_isFree_1) (fun _ h9 => h9) rfl dX2_isFree_10 ?_
    refine va_get (D := D) (ci := 0) (v := .ref (ad 11)) (C := RX0) (T := TX0) (N := 14) hx hb hts lX2_isFree_X0 hown hK w.1 1 rfl rfl 8 (by decide) (hts _ mX2_isFree_3) (fun _ h9 => h9) rfl dX2_isFree_13 ?_
    refine lv_iload hx hb dX2_isFree_16 (lv_at hl 4 rfl) ?_
    obtain ⟨g2, h⟩ := gd_some h
    refine va_iald hx hb hK w.1 11 0 rfl rfl g2 dX2_isFree_18 ?_
    refine lv_iload_n hx hb dX2_isFree_19 rfl (lv_at hl 1 rfl) ?_
    refine lv_icmp_ne (tgt := 39) hx hb dX2_isFree_20 (by decide) (fun g3 => ?_) (fun g3 => ?_)
    · replace h := it_neg g3 h
      exact t_X2_isFree_39 C hk3 hret w (lv_sub hl [0, 1, 2, 3, 4] rfl) h
    · replace h := it_pos g3 h
      refine lv_aload_n hx hb dX2_isFree_23 rfl (lv_at hl 0 rfl) ?_
      refine va_get (D := D) (ci := 2) (v := .ref (ad 1)) (C := RX2) (T := TX2) (N := 3) hx hb hts lX2_isFree_X2 hown hK w.1 2 rfl rfl 0 (by decide) (hts _ mX2_isFree_1) (fun _ h9 => h9) rfl dX2_isFree_24 ?_
      refine va_get (D := D) (ci := 0) (v := .ref (ad 12)) (C := RX0) (T := TX0) (N := 14) hx hb hts lX2_isFree_X0 hown hK w.1 1 rfl rfl 9 (by decide) (hts _ mX2_isFree_4) (fun _ h9 => h9) rfl dX2_isFree_27 ?_
      refine lv_iload hx hb dX2_isFree_30 (lv_at hl 4 rfl) ?_
      obtain ⟨g4, h⟩ := gd_some h
      refine va_iald hx hb hK w.1 12 0 rfl rfl g4 dX2_isFree_32 ?_
      refine lv_iload_n hx hb dX2_isFree_33 rfl (lv_at hl 2 rfl) ?_
      refine lv_icmp_ne (tgt := 39) hx hb dX2_isFree_34 (by decide) (fun g5 => ?_) (fun g5 => ?_)
      · replace h := it_neg g5 h
        exact t_X2_isFree_39 C hk3 hret w (lv_sub hl [0, 1, 2, 3, 4] rfl) h
      · replace h := it_pos g5 h
        refine lv_iconst (v := 0) hx hb dX2_isFree_37 (by decide) ?_
        exact hret _ _ _ _ _ dX2_isFree_38 rfl w (Option.some.inj h)
def f_X2_isFree_3 (xx : Nat → Int32) (yy : Nat → Int32) (x1 : Int32) (x2 : Int32) (x3 : Int32) (x4 : Int32) : Option (Int32) := lp (σ := Int32 × Int32 × Int32 × Int32) (fun k st => fb_X2_isFree_3 xx yy (fun x1 x2 x3 x4 => k (x1, x2, x3, x4)) st.1 st.2.1 st.2.2.1 st.2.2.2) fuel (x1, x2, x3, x4)
set_option maxHeartbeats 4000000 in
set_option maxRecDepth 100000 in
theorem t_X2_isFree_3 {p : Program} {l : Launch} {e : Env} {s : State} {m : MethodId} {args : Array Value} {below : List Frame} {meth : Method} {c : Code} {Q : State → Prop} {D : va_G} {kA : Nat → ClassId} {ad : Nat → Nat} {A : Nat → Prop} {lq_situation : Int32} {adv_rooms : Int32} {adv_levels : Int32} {adv_goalRoom : Int32} {adv_allDoors : Int32} {dr_state : Int64} {dr_count : Int32} {se_count : Int32} {parent : Nat → Int32} {level : Nat → Int32} {kind : Nat → Int32} {snum : Nat → Int32} {xx : Nat → Int32} {yy : Nat → Int32} {lying : Nat → Int32} {switched : Nat → Int32} {doors : Nat → Int32} {beyond : Nat → Nat → Int32} {offered : Nat → Int32} {opn : Nat → Int32} {seenb : Nat → Int64} {savedb : Nat → Int64} {found : Nat → Int32} {distance : Nat → Int32} {opening : Nat → Int32} {x1 : Int32} {x2 : Int32} {x3 : Int32} {x4 : Int32} {res : Int32} (C : Cx p s m c args cX2_isFree 5 RX2 wsX2_isFree D kA A) (hret : ∀ (r : Int32) (H : Heap) (locs : List Loc) (ls : Array Slot) (pc : Nat), decode cX2_isFree pc = .ok (.ireturn, 1) → narrow .boolean (.int r) = .int r → Wd D A s H locs (wC kA ad lq_situation adv_rooms adv_levels adv_goalRoom adv_allDoors dr_state dr_count se_count parent level kind snum xx yy lying switched doors beyond offered opn seenb savedb found distance opening) → r = res → W p l e rm_X2_isFree s m args below meth c H locs 0 0 Q (F0 m pc ls [.int r])) {H : Heap} {locs : List Loc} {ls : Array Slot} (w : Wd D A s H locs (wC kA ad lq_situation adv_rooms adv_levels adv_goalRoom adv_allDoors dr_state dr_count se_count parent level kind snum xx yy lying switched doors beyond offered opn seenb savedb found distance opening)) (hl : lv_has ls 5 [(0, .ref (ad 2)), (1, .int x1), (2, .int x2), (3, .int x3), (4, .int x4)]) (h : f_X2_isFree_3 xx yy x1 x2 x3 x4 = some res) : W p l e rm_X2_isFree s m args below meth c H locs 0 0 Q (F0 m 3 ls []) := by
  unfold f_X2_isFree_3 at h
  exact lp_ind (P := (fun (st : Int32 × Int32 × Int32 × Int32) => ∀ (H : Heap) (locs : List Loc) (ls : Array Slot), Wd D A s H locs (wC kA ad lq_situation adv_rooms adv_levels adv_goalRoom adv_allDoors dr_state dr_count se_count parent level kind snum xx yy lying switched doors beyond offered opn seenb savedb found distance opening) → lv_has ls 5 [(0, .ref (ad 2)), (1, .int st.1), (2, .int st.2.1), (3, .int st.2.2.1), (4, .int st.2.2.2)] → W p l e rm_X2_isFree s m args below meth c H locs 0 0 Q (F0 m 3 ls []))) (fun k hk st h H locs ls w hl => tb_X2_isFree_3 C  (fun a0 a1 a2 a3 H locs ls w hl h => hk (a0, a1, a2, a3) h H locs ls w hl) hret w hl h) fuel (x1, x2, x3, x4) h H locs ls w hl
def f_X2_isFree (p0 : Int32) (p1 : Int32) (p2 : Int32) (xx : Nat → Int32) (yy : Nat → Int32) : Option (Int32) := f_X2_isFree_3 xx yy p0 p1 p2 (0 : Int32)
set_option maxHeartbeats 4000000 in
set_option maxRecDepth 100000 in
theorem t_X2_isFree {p : Program} {l : Launch} {e : Env} {s : State} {m : MethodId} {args : Array Value} {below : List Frame} {meth : Method} {c : Code} {Q : State → Prop} {D : va_G} {kA : Nat → ClassId} {ad : Nat → Nat} {A : Nat → Prop} {lq_situation : Int32} {adv_rooms : Int32} {adv_levels : Int32} {adv_goalRoom : Int32} {adv_allDoors : Int32} {dr_state : Int64} {dr_count : Int32} {se_count : Int32} {parent : Nat → Int32} {level : Nat → Int32} {kind : Nat → Int32} {snum : Nat → Int32} {xx : Nat → Int32} {yy : Nat → Int32} {lying : Nat → Int32} {switched : Nat → Int32} {doors : Nat → Int32} {beyond : Nat → Nat → Int32} {offered : Nat → Int32} {opn : Nat → Int32} {seenb : Nat → Int64} {savedb : Nat → Int64} {found : Nat → Int32} {distance : Nat → Int32} {opening : Nat → Int32} {p0 : Int32} {p1 : Int32} {p2 : Int32} {res : Int32} (C : Cx p s m c args cX2_isFree 5 RX2 wsX2_isFree D kA A) (hret : ∀ (r : Int32) (H : Heap) (locs : List Loc) (ls : Array Slot) (pc : Nat), decode cX2_isFree pc = .ok (.ireturn, 1) → narrow .boolean (.int r) = .int r → Wd D A s H locs (wC kA ad lq_situation adv_rooms adv_levels adv_goalRoom adv_allDoors dr_state dr_count se_count parent level kind snum xx yy lying switched doors beyond offered opn seenb savedb found distance opening) → r = res → W p l e rm_X2_isFree s m args below meth c H locs 0 0 Q (F0 m pc ls [.int r])) {H : Heap} {locs : List Loc} {ls : Array Slot} (w : Wd D A s H locs (wC kA ad lq_situation adv_rooms adv_levels adv_goalRoom adv_allDoors dr_state dr_count se_count parent level kind snum xx yy lying switched doors beyond offered opn seenb savedb found distance opening)) (hl : lv_has ls 5 [(0, .ref (ad 2)), (1, .int p0), (2, .int p1), (3, .int p2)]) (h : f_X2_isFree p0 p1 p2 xx yy = some res) : W p l e rm_X2_isFree s m args below meth c H locs 0 0 Q (F0 m 0 ls []) := by
  obtain ⟨⟨hx, hb, hml, hown, hts⟩, hK, -, -⟩ := id C
  unfold f_X2_isFree at h
  refine lv_iconst (v := 0) hx hb dX2_isFree_0 (by decide) ?_
  refine lv_istore (lv' := [(4, .int (0 : Int32)), (0, .ref (ad 2)), (1, .int p0), (2, .int p1), (3, .int p2)]) hx hb dX2_isFree_1 hl (by decide) rfl (fun ls hl => ?_)
  exact t_X2_isFree_3 C  hret w (lv_sub hl [1, 2, 3, 4, 0] rfl) h
set_option maxHeartbeats 4000000 in
set_option maxRecDepth 100000 in
theorem c_X2_isFree (l : Launch) (D : va_G) (kA : Nat → ClassId) (ad : Nat → Nat) (sz : Nat) (lq_situation : Int32) (adv_rooms : Int32) (adv_levels : Int32) (adv_goalRoom : Int32) (adv_allDoors : Int32) (dr_state : Int64) (dr_count : Int32) (se_count : Int32) (parent : Nat → Int32) (level : Nat → Int32) (kind : Nat → Int32) (snum : Nat → Int32) (xx : Nat → Int32) (yy : Nat → Int32) (lying : Nat → Int32) (switched : Nat → Int32) (doors : Nat → Int32) (beyond : Nat → Nat → Int32) (offered : Nat → Int32) (opn : Nat → Int32) (seenb : Nat → Int64) (savedb : Nat → Int64) (found : Nat → Int32) (distance : Nat → Int32) (opening : Nat → Int32) (p0 : Int32) (p1 : Int32) (p2 : Int32) {res : Int32} (h : f_X2_isFree p0 p1 p2 xx yy = some res) : Ci l yX2_isFree wsX2_isFree rm_X2_isFree D kA [.ref (ad 2), .int p0, .int p1, .int p2] sz (wC kA ad lq_situation adv_rooms adv_levels adv_goalRoom adv_allDoors dr_state dr_count se_count parent level kind snum xx yy lying switched doors beyond offered opn seenb savedb found distance opening) (wC kA ad lq_situation adv_rooms adv_levels adv_goalRoom adv_allDoors dr_state dr_count se_count parent level kind snum xx yy lying switched doors beyond offered opn seenb savedb found distance opening) res := by
  refine Met.ofW (cc := cX2_isFree) (maxL := 5) (ret := (some .boolean)) (by decide) rfl ?_
  intro p e s m args below meth c s₁ B hml hv
  obtain ⟨rfl, hsz, hP, hK, hD0, hX⟩ := hv
  subst hsz
  have hts := atoms_spec (ws := wsX2_isFree) B.pre
  have hl := lv_entry ([.ref (ad 2), .int p0, .int p1, .int p2]) (n := 5) (Nat.le_of_ble_eq_true rfl)
  rw [lg_entry_eq]
  have hlocks := B.notSynchronized
  refine t_X2_isFree (A := va_A (wC kA ad lq_situation adv_rooms adv_levels adv_goalRoom adv_allDoors dr_state dr_count se_count parent level kind snum xx yy lying switched doors beyond offered opn seenb savedb found distance opening) s.heap.size) ⟨⟨B.exec, B.bytes, hml, findClass_of_methodNamed B.named, hts⟩, hK, fun q h => Or.inr h, hX⟩ (fun r H locs ls pc hd hz w hres => ?_) ⟨hP, hD0.self, va_S.rf⟩ hl h
  subst hres
  exact W.zret B.exec B.bytes B.returns hz (fun t ht hW => ⟨⟨_, (), rfl, rfl, by rw [ht]; exact w.1, va_K.moved hW.alike hK, w.2.1⟩, w.2.2.F ht⟩) w.2.2.2.2 hd hlocks
-- ('wC', 'LockQuest$Maker', 'place', '(II)V', ('mk', None, None))
abbrev rm_X2_place : Room := { frames := 1, cells := 0, slots := 0, locals := 24 }
set_option maxRecDepth 20000 in
theorem lX2_place_X2 : ∀ w ∈ wsX20, w ∈ wsX2_place := by decide +kernel
set_option maxRecDepth 20000 in
theorem mX2_place_1 : Cond.fieldLink RX2 22 "LockQuest$Maker" "made" "LLockQuest$Adventure;" ∈ wsX2_place := by decide +kernel
set_option maxRecDepth 20000 in
theorem lX2_place_X0 : ∀ w ∈ wsX00, w ∈ wsX2_place := by decide +kernel
set_option maxRecDepth 20000 in
theorem mX2_place_3 : Cond.fieldLink RX2 149 "LockQuest$Adventure" "x" "[I" ∈ wsX2_place := by decide +kernel
set_option maxRecDepth 20000 in
theorem mX2_place_4 : Cond.fieldLink RX2 98 "LockQuest$Adventure" "parent" "[I" ∈ wsX2_place := by decide +kernel
set_option maxRecDepth 20000 in
theorem mX2_place_5 : Cond.fieldLink RX2 152 "LockQuest$Adventure" "y" "[I" ∈ wsX2_place := by decide +kernel
set_option maxRecDepth 20000 in
theorem mX2_place_6 : Cond.fieldLink RX2 158 "LockQuest$Maker" "EAST" "[I" ∈ wsX2_place := by decide +kernel
set_option maxRecDepth 20000 in
theorem mX2_place_7 : Cond.fieldLink RX2 161 "LockQuest$Maker" "NORTH" "[I" ∈ wsX2_place := by decide +kernel
def f_X2_place_84 (parent : Nat → Int32) (x1 : Int32) (x3 : Int32) (x4 : Int32) (xx : Nat → Int32) (yy : Nat → Int32) : Option ((Nat → Int32) × (Nat → Int32)) := gd (x1 < 0 ∨ 12 ≤ x1.toNatClampNeg) (gd (x1 < 0 ∨ 12 ≤ x1.toNatClampNeg) (some ((upd xx x1.toNatClampNeg x3), (upd yy x1.toNatClampNeg x4))))
set_option maxHeartbeats 4000000 in
set_option maxRecDepth 100000 in
theorem t_X2_place_84 {p : Program} {l : Launch} {e : Env} {s : State} {m : MethodId} {args : Array Value} {below : List Frame} {meth : Method} {c : Code} {Q : State → Prop} {D : va_G} {kA : Nat → ClassId} {ad : Nat → Nat} {A : Nat → Prop} {lq_situation : Int32} {adv_rooms : Int32} {adv_levels : Int32} {adv_goalRoom : Int32} {adv_allDoors : Int32} {dr_state : Int64} {dr_count : Int32} {se_count : Int32} {parent : Nat → Int32} {level : Nat → Int32} {kind : Nat → Int32} {snum : Nat → Int32} {xx : Nat → Int32} {yy : Nat → Int32} {lying : Nat → Int32} {switched : Nat → Int32} {doors : Nat → Int32} {beyond : Nat → Nat → Int32} {offered : Nat → Int32} {opn : Nat → Int32} {seenb : Nat → Int64} {savedb : Nat → Int64} {found : Nat → Int32} {distance : Nat → Int32} {opening : Nat → Int32} {x1 : Int32} {x3 : Int32} {x4 : Int32} {res : (Nat → Int32) × (Nat → Int32)} (C : Cx p s m c args cX2_place 6 RX2 wsX2_place D kA A) (hret : ∀ (q0 : Nat → Int32) (q1 : Nat → Int32) (H : Heap) (locs : List Loc) (ls : Array Slot) (pc : Nat), decode cX2_place pc = .ok (.return_, 1) → Wd D A s H locs (wC kA ad lq_situation adv_rooms adv_levels adv_goalRoom adv_allDoors dr_state dr_count se_count parent level kind snum q0 q1 lying switched doors beyond offered opn seenb savedb found distance opening) → (q0, q1) = res → W p l e rm_X2_place s m args below meth c H locs 0 0 Q (F0 m pc ls [])) {H : Heap} {locs : List Loc} {ls : Array Slot} (w : Wd D A s H locs (wC kA ad lq_situation adv_rooms adv_levels adv_goalRoom adv_allDoors dr_state dr_count se_count parent level kind snum xx yy lying switched doors beyond offered opn seenb savedb found distance opening)) (hl : lv_has ls 6 [(0, .ref (ad 2)), (1, .int x1), (3, .int x3), (4, .int x4)]) (h : f_X2_place_84 parent x1 x3 x4 xx yy = some res) : W p l e rm_X2_place s m args below meth c H locs 0 0 Q (F0 m 84 ls []) := by
  obtain ⟨⟨hx, hb, hml, hown, hts⟩, hK, -, -⟩ := id C
  unfold f_X2_place_84 at h
  refine lv_aload_n hx hb dX2_place_84 rfl (lv_at hl 0 rfl) ?_
  refine va_get (D := D) (ci := 2) (v := .ref (ad 1)) (C := RX2) (T := TX2) (N := 3) hx hb hts lX2_place_X2 hown hK w.1 2 rfl rfl 0 (by decide) (hts _ mX2_place_1) (fun _ h9 => h9) rfl dX2_place_85 ?_
  refine va_get (D := D) (ci := 0) (v := .ref (ad 11)) (C := RX0) (T := TX0) (N := 14) hx hb hts lX2_place_X0 hown hK w.1 1 rfl rfl 8 (by decide) (hts _ mX2_place_3) (fun _ h9 => h9) rfl dX2_place_88 ?_
  refine lv_iload_n hx hb dX2_place_91 rfl (lv_at hl 1 rfl) ?_
  refine lv_iload_n hx hb dX2_place_92 rfl (lv_at hl 2 rfl) ?_
  obtain ⟨g1, h⟩ := gd_some h
  refine va_iast hx hb hK w.1 w.2.1 w.2.2 11 0 rfl rfl g1 dX2_place_93 (fun H locs hP hD hS => ?_)
  have w : Wd D A s H locs (wC kA ad lq_situation adv_rooms adv_levels adv_goalRoom adv_allDoors dr_state dr_count se_count parent level kind snum (upd xx x1.toNatClampNeg x3) yy lying switched doors beyond offered opn seenb savedb found distance opening) := ⟨hP, hD, hS⟩
  refine lv_aload_n hx hb dX2_place_94 rfl (lv_at hl 0 rfl) ?_
  refine va_get (D := D) (ci := 2) (v := .ref (ad 1)) (C := RX2) (T := TX2) (N := 3) hx hb hts lX2_place_X2 hown hK w.1 2 rfl rfl 0 (by decide) (hts _ mX2_place_1) (fun _ h9 => h9) rfl dX2_place_95 ?_
  refine va_get (D := D) (ci := 0) (v := .ref (ad 12)) (C := RX0) (T := TX0) (N := 14) hx hb hts lX2_place_X0 hown hK w.1 1 rfl rfl 9 (by decide) (hts _ mX2_place_5) (fun _ h9 => h9) rfl dX2_place_98 ?_
  refine lv_iload_n hx hb dX2_place_101 rfl (lv_at hl 1 rfl) ?_
  refine lv_iload hx hb dX2_place_102 (lv_at hl 3 rfl) ?_
  obtain ⟨g2, h⟩ := gd_some h
  refine va_iast hx hb hK w.1 w.2.1 w.2.2 12 0 rfl rfl g2 dX2_place_104 (fun H locs hP hD hS => ?_)
  have w : Wd D A s H locs (wC kA ad lq_situation adv_rooms adv_levels adv_goalRoom adv_allDoors dr_state dr_count se_count parent level kind snum (upd xx x1.toNatClampNeg x3) (upd yy x1.toNatClampNeg x4) lying switched doors beyond offered opn seenb savedb found distance opening) := ⟨hP, hD, hS⟩
  exact hret _ _ _ _ _ _ dX2_place_105 w (Option.some.inj h)
def fb_X2_place_40 (parent : Nat → Int32) (k40 : Int32 → Int32 → Int32 → Int32 → Int32 → (Nat → Int32) → (Nat → Int32) → Option ((Nat → Int32) × (Nat → Int32))) (x1 : Int32) (x2 : Int32) (x3 : Int32) (x4 : Int32) (x5 : Int32) (xx : Nat → Int32) (yy : Nat → Int32) : Option ((Nat → Int32) × (Nat → Int32)) := if x1 ≤ x5 then (f_X2_place_84 parent x1 x3 x4 xx yy) else (gd (x2 < 0 ∨ 4 ≤ x2.toNatClampNeg) (gd (x2 < 0 ∨ 4 ≤ x2.toNatClampNeg) ((f_X2_isFree (x3 + (eastF x2.toNatClampNeg)) (x4 + (northF x2.toNatClampNeg)) x1 xx yy).bind (fun u8 => if u8 = 0 then (k40 x1 x2 (x3 + (eastF x2.toNatClampNeg)) (x4 + (northF x2.toNatClampNeg)) (x5 + (1 : Int32)) xx yy) else (f_X2_place_84 parent x1 (x3 + (eastF x2.toNatClampNeg)) (x4 + (northF x2.toNatClampNeg)) xx yy)))))
set_option maxHeartbeats 4000000 in
set_option maxRecDepth 100000 in
theorem tb_X2_place_40 {p : Program} {l : Launch} {e : Env} {s : State} {m : MethodId} {args : Array Value} {below : List Frame} {meth : Method} {c : Code} {Q : State → Prop} {D : va_G} {kA : Nat → ClassId} {ad : Nat → Nat} {A : Nat → Prop} {lq_situation : Int32} {adv_rooms : Int32} {adv_levels : Int32} {adv_goalRoom : Int32} {adv_allDoors : Int32} {dr_state : Int64} {dr_count : Int32} {se_count : Int32} {parent : Nat → Int32} {level : Nat → Int32} {kind : Nat → Int32} {snum : Nat → Int32} {xx : Nat → Int32} {yy : Nat → Int32} {lying : Nat → Int32} {switched : Nat → Int32} {doors : Nat → Int32} {beyond : Nat → Nat → Int32} {offered : Nat → Int32} {opn : Nat → Int32} {seenb : Nat → Int64} {savedb : Nat → Int64} {found : Nat → Int32} {distance : Nat → Int32} {opening : Nat → Int32} {x1 : Int32} {x2 : Int32} {x3 : Int32} {x4 : Int32} {x5 : Int32} {k40 : Int32 → Int32 → Int32 → Int32 → Int32 → (Nat → Int32) → (Nat → Int32) → Option ((Nat → Int32) × (Nat → Int32))} {res : (Nat → Int32) × (Nat → Int32)} (C : Cx p s m c args cX2_place 6 RX2 wsX2_place D kA A) (hk40 : ∀ (x1 : Int32) (x2 : Int32) (x3 : Int32) (x4 : Int32) (x5 : Int32) (xx : Nat → Int32) (yy : Nat → Int32) (H : Heap) (locs : List Loc) (ls : Array Slot), Wd D A s H locs (wC kA ad lq_situation adv_rooms adv_levels adv_goalRoom adv_allDoors dr_state dr_count se_count parent level kind snum xx yy lying switched doors beyond offered opn seenb savedb found distance opening) → lv_has ls 6 [(0, .ref (ad 2)), (1, .int x1), (2, .int x2), (3, .int x3), (4, .int x4), (5, .int x5)] → k40 x1 x2 x3 x4 x5 xx yy = some res → W p l e rm_X2_place s m args below meth c H locs 0 0 Q (F0 m 40 ls [])) (hret : ∀ (q0 : Nat → Int32) (q1 : Nat → Int32) (H : Heap) (locs : List Loc) (ls : Array Slot) (pc : Nat), decode cX2_place pc = .ok (.return_, 1) → Wd D A s H locs (wC kA ad lq_situation adv_rooms adv_levels adv_goalRoom adv_allDoors dr_state dr_count se_count parent level kind snum q0 q1 lying switched doors beyond offered opn seenb savedb found distance opening) → (q0, q1) = res → W p l e rm_X2_place s m args below meth c H locs 0 0 Q (F0 m pc ls [])) {H : Heap} {locs : List Loc} {ls : Array Slot} (w : Wd D A s H locs (wC kA ad lq_situation adv_rooms adv_levels adv_goalRoom adv_allDoors dr_state dr_count se_count parent level kind snum xx yy lying switched doors beyond offered opn seenb savedb found distance opening)) (hl : lv_has ls 6 [(0, .ref (ad 2)), (1, .int x1), (2, .int x2), (3, .int x3), (4, .int x4), (5, .int x5)]) (h : fb_X2_place_40 parent k40 x1 x2 x3 x4 x5 xx yy = some res) : W p l e rm_X2_place s m args below meth c H locs 0 0 Q (F0 m 40 ls []) := by
  obtain ⟨⟨hx, hb, hml, hown, hts⟩, hK, -, -⟩ := id C
  unfold fb_X2_place_40 at h
  refine lv_iload hx hb dX2_place_40 (lv_at hl 5 rfl) ?_
  refine lv_iload_n hx hb dX2_place_42 rfl (lv_at hl 1 rfl) ?_
  refine lv_icmp_ge (tgt := 84) hx hb dX2_place_43 (by decide) (fun g3 => ?_) (fun g3 => ?_)
  · replace h := it_pos g3 h
    exact t_X2_place_84 C  hret w (lv_sub hl [0, 1, 3, 4] rfl) h
  · replace h := it_neg g3 h
    refine lv_iload_n hx hb dX2_place_46 rfl (lv_at hl 3 rfl) ?_
    obtain ⟨t4, hZt4, hTt4⟩ := C.2.2.2.1
    refine va_gets hx hb hZt4 w.2.2 hown (hts _ mX2_place_6) (fun _ h9 => h9) dX2_place_47 ?_
    refine lv_iload_n hx hb dX2_place_50 rfl (lv_at hl 2 rfl) ?_
    obtain ⟨g5, h⟩ := gd_some h
    refine va_ti hx hb hTt4 w.2.2 g5 rfl dX2_place_51 ?_
    refine lv_iadd hx hb dX2_place_52 ?_
    refine lv_istore_n (lv' := [(3, .int (x3 + (eastF x2.toNatClampNeg))), (0, .ref (ad 2)), (1, .int x1), (2, .int x2), (4, .int x4), (5, .int x5)]) hx hb dX2_place_53 rfl hl (by decide) rfl (fun ls hl => ?_)
    refine lv_iload hx hb dX2_place_54 (lv_at hl 4 rfl) ?_
    obtain ⟨t6, hZt6, hTt6⟩ := C.2.2.2.2.1
    refine va_gets hx hb hZt6 w.2.2 hown (hts _ mX2_place_7) (fun _ h9 => h9) dX2_place_56 ?_
    refine lv_iload_n hx hb dX2_place_59 rfl (lv_at hl 3 rfl) ?_
    obtain ⟨g7, h⟩ := gd_some h
    refine va_ti hx hb hTt6 w.2.2 g7 rfl dX2_place_60 ?_
    refine lv_iadd hx hb dX2_place_61 ?_
    refine lv_istore (lv' := [(4, .int (x4 + (northF x2.toNatClampNeg))), (3, .int (x3 + (eastF x2.toNatClampNeg))), (0, .ref (ad 2)), (1, .int x1), (2, .int x2), (5, .int x5)]) hx hb dX2_place_62 hl (by decide) rfl (fun ls hl => ?_)
    refine lv_aload_n hx hb dX2_place_64 rfl (lv_at hl 2 rfl) ?_
    refine lv_iload_n hx hb dX2_place_65 rfl (lv_at hl 1 rfl) ?_
    refine lv_iload hx hb dX2_place_66 (lv_at hl 0 rfl) ?_
    refine lv_iload_n hx hb dX2_place_68 rfl (lv_at hl 3 rfl) ?_
    obtain ⟨u8, hc8, h⟩ := bd_some h
    refine gl_calli C w (va_runV (As := [.int (x3 + (eastF x2.toNatClampNeg)), .int (x4 + (northF x2.toNatClampNeg)), .int x1]) (rest := []) ⟨hx, hb, hml, hown, hts⟩ (c_X2_isFree l D kA ad H.size lq_situation adv_rooms adv_levels adv_goalRoom adv_allDoors dr_state dr_count se_count parent level kind snum xx yy lying switched doors beyond offered opn seenb savedb found distance opening (x3 + (eastF x2.toNatClampNeg)) (x4 + (northF x2.toNatClampNeg)) x1 hc8) (cwV 3 hts gX2_place_X2_isFree rfl rfl rfl (by decide +kernel) ⟨Nat.le_of_ble_eq_true rfl, Nat.le_of_ble_eq_true rfl⟩) (Wd.preV C w (q0 := 2) (ci := 2) rfl rfl rfl) rfl rfl hl.1 rfl (lv_room (Nat.le_of_ble_eq_true rfl)) dX2_place_69 ⟨Nat.zero_le _, Nat.zero_le _⟩) (fun H locs w => ?_)
    refine lv_if_eq (tgt := 78) hx hb dX2_place_72 (by decide) (fun g9 => ?_) (fun g9 => ?_)
    · replace h := it_pos g9 h
      refine lv_iinc (v := (x5 + (1 : Int32))) (lv' := [(5, .int (x5 + (1 : Int32))), (4, .int (x4 + (northF x2.toNatClampNeg))), (3, .int (x3 + (eastF x2.toNatClampNeg))), (0, .ref (ad 2)), (1, .int x1), (2, .int x2)]) hx hb dX2_place_78 hl (k := 5) rfl rfl (by decide) rfl (fun ls hl => ?_)
      refine lv_goto (tgt := 40) hx hb dX2_place_81 (by decide) ?_
      exact hk40 _ _ _ _ _ _ _ H locs ls w (lv_sub hl [3, 4, 5, 2, 1, 0] rfl) h
    · replace h := it_neg g9 h
      refine lv_goto (tgt := 84) hx hb dX2_place_75 (by decide) ?_
      exact t_X2_place_84 C  hret w (lv_sub hl [2, 3, 1, 0] rfl) h
def f_X2_place_40 (parent : Nat → Int32) (x1 : Int32) (x2 : Int32) (x3 : Int32) (x4 : Int32) (x5 : Int32) (xx : Nat → Int32) (yy : Nat → Int32) : Option ((Nat → Int32) × (Nat → Int32)) := lp (σ := Int32 × Int32 × Int32 × Int32 × Int32 × (Nat → Int32) × (Nat → Int32)) (fun k st => fb_X2_place_40 parent (fun x1 x2 x3 x4 x5 xx yy => k (x1, x2, x3, x4, x5, xx, yy)) st.1 st.2.1 st.2.2.1 st.2.2.2.1 st.2.2.2.2.1 st.2.2.2.2.2.1 st.2.2.2.2.2.2) fuel (x1, x2, x3, x4, x5, xx, yy)
set_option maxHeartbeats 4000000 in
set_option maxRecDepth 100000 in
theorem t_X2_place_40 {p : Program} {l : Launch} {e : Env} {s : State} {m : MethodId} {args : Array Value} {below : List Frame} {meth : Method} {c : Code} {Q : State → Prop} {D : va_G} {kA : Nat → ClassId} {ad : Nat → Nat} {A : Nat → Prop} {lq_situation : Int32} {adv_rooms : Int32} {adv_levels : Int32} {adv_goalRoom : Int32} {adv_allDoors : Int32} {dr_state : Int64} {dr_count : Int32} {se_count : Int32} {parent : Nat → Int32} {level : Nat → Int32} {kind : Nat → Int32} {snum : Nat → Int32} {xx : Nat → Int32} {yy : Nat → Int32} {lying : Nat → Int32} {switched : Nat → Int32} {doors : Nat → Int32} {beyond : Nat → Nat → Int32} {offered : Nat → Int32} {opn : Nat → Int32} {seenb : Nat → Int64} {savedb : Nat → Int64} {found : Nat → Int32} {distance : Nat → Int32} {opening : Nat → Int32} {x1 : Int32} {x2 : Int32} {x3 : Int32} {x4 : Int32} {x5 : Int32} {res : (Nat → Int32) × (Nat → Int32)} (C : Cx p s m c args cX2_place 6 RX2 wsX2_place D kA A) (hret : ∀ (q0 : Nat → Int32) (q1 : Nat → Int32) (H : Heap) (locs : List Loc) (ls : Array Slot) (pc : Nat), decode cX2_place pc = .ok (.return_, 1) → Wd D A s H locs (wC kA ad lq_situation adv_rooms adv_levels adv_goalRoom adv_allDoors dr_state dr_count se_count parent level kind snum q0 q1 lying switched doors beyond offered opn seenb savedb found distance opening) → (q0, q1) = res → W p l e rm_X2_place s m args below meth c H locs 0 0 Q (F0 m pc ls [])) {H : Heap} {locs : List Loc} {ls : Array Slot} (w : Wd D A s H locs (wC kA ad lq_situation adv_rooms adv_levels adv_goalRoom adv_allDoors dr_state dr_count se_count parent level kind snum xx yy lying switched doors beyond offered opn seenb savedb found distance opening)) (hl : lv_has ls 6 [(0, .ref (ad 2)), (1, .int x1), (2, .int x2), (3, .int x3), (4, .int x4), (5, .int x5)]) (h : f_X2_place_40 parent x1 x2 x3 x4 x5 xx yy = some res) : W p l e rm_X2_place s m args below meth c H locs 0 0 Q (F0 m 40 ls []) := by
  unfold f_X2_place_40 at h
  exact lp_ind (P := (fun (st : Int32 × Int32 × Int32 × Int32 × Int32 × (Nat → Int32) × (Nat → Int32)) => ∀ (H : Heap) (locs : List Loc) (ls : Array Slot), Wd D A s H locs (wC kA ad lq_situation adv_rooms adv_levels adv_goalRoom adv_allDoors dr_state dr_count se_count parent level kind snum st.2.2.2.2.2.1 st.2.2.2.2.2.2 lying switched doors beyond offered opn seenb savedb found distance opening) → lv_has ls 6 [(0, .ref (ad 2)), (1, .int st.1), (2, .int st.2.1), (3, .int st.2.2.1), (4, .int st.2.2.2.1), (5, .int st.2.2.2.2.1)] → W p l e rm_X2_place s m args below meth c H locs 0 0 Q (F0 m 40 ls []))) (fun k hk st h H locs ls w hl => tb_X2_place_40 C  (fun a0 a1 a2 a3 a4 a5 a6 H locs ls w hl h => hk (a0, a1, a2, a3, a4, a5, a6) h H locs ls w hl) hret w hl h) fuel (x1, x2, x3, x4, x5, xx, yy) h H locs ls w hl
def f_X2_place (p0 : Int32) (p1 : Int32) (parent : Nat → Int32) (xx : Nat → Int32) (yy : Nat → Int32) : Option ((Nat → Int32) × (Nat → Int32)) := gd (p0 < 0 ∨ 12 ≤ p0.toNatClampNeg) (gd ((parent p0.toNatClampNeg) < 0 ∨ 12 ≤ (parent p0.toNatClampNeg).toNatClampNeg) (gd (p0 < 0 ∨ 12 ≤ p0.toNatClampNeg) (gd ((parent p0.toNatClampNeg) < 0 ∨ 12 ≤ (parent p0.toNatClampNeg).toNatClampNeg) (f_X2_place_40 parent p0 p1 (xx (parent p0.toNatClampNeg).toNatClampNeg) (yy (parent p0.toNatClampNeg).toNatClampNeg) (0 : Int32) xx yy))))
set_option maxHeartbeats 4000000 in
set_option maxRecDepth 100000 in
theorem t_X2_place {p : Program} {l : Launch} {e : Env} {s : State} {m : MethodId} {args : Array Value} {below : List Frame} {meth : Method} {c : Code} {Q : State → Prop} {D : va_G} {kA : Nat → ClassId} {ad : Nat → Nat} {A : Nat → Prop} {lq_situation : Int32} {adv_rooms : Int32} {adv_levels : Int32} {adv_goalRoom : Int32} {adv_allDoors : Int32} {dr_state : Int64} {dr_count : Int32} {se_count : Int32} {parent : Nat → Int32} {level : Nat → Int32} {kind : Nat → Int32} {snum : Nat → Int32} {xx : Nat → Int32} {yy : Nat → Int32} {lying : Nat → Int32} {switched : Nat → Int32} {doors : Nat → Int32} {beyond : Nat → Nat → Int32} {offered : Nat → Int32} {opn : Nat → Int32} {seenb : Nat → Int64} {savedb : Nat → Int64} {found : Nat → Int32} {distance : Nat → Int32} {opening : Nat → Int32} {p0 : Int32} {p1 : Int32} {res : (Nat → Int32) × (Nat → Int32)} (C : Cx p s m c args cX2_place 6 RX2 wsX2_place D kA A) (hret : ∀ (q0 : Nat → Int32) (q1 : Nat → Int32) (H : Heap) (locs : List Loc) (ls : Array Slot) (pc : Nat), decode cX2_place pc = .ok (.return_, 1) → Wd D A s H locs (wC kA ad lq_situation adv_rooms adv_levels adv_goalRoom adv_allDoors dr_state dr_count se_count parent level kind snum q0 q1 lying switched doors beyond offered opn seenb savedb found distance opening) → (q0, q1) = res → W p l e rm_X2_place s m args below meth c H locs 0 0 Q (F0 m pc ls [])) {H : Heap} {locs : List Loc} {ls : Array Slot} (w : Wd D A s H locs (wC kA ad lq_situation adv_rooms adv_levels adv_goalRoom adv_allDoors dr_state dr_count se_count parent level kind snum xx yy lying switched doors beyond offered opn seenb savedb found distance opening)) (hl : lv_has ls 6 [(0, .ref (ad 2)), (1, .int p0), (2, .int p1)]) (h : f_X2_place p0 p1 parent xx yy = some res) : W p l e rm_X2_place s m args below meth c H locs 0 0 Q (F0 m 0 ls []) := by
  obtain ⟨⟨hx, hb, hml, hown, hts⟩, hK, -, -⟩ := id C
  unfold f_X2_place at h
  refine lv_aload_n hx hb dX2_place_0 rfl (lv_at hl 0 rfl) ?_
  refine va_get (D := D) (ci := 2) (v := .ref (ad 1)) (C := RX2) (T := TX2) (N := 3) hx hb hts lX2_place_X2 hown hK w.1 2 rfl rfl 0 (by decide) (hts _ mX2_place_1) (fun _ h9 => h9) rfl dX2_place_1 ?_
  refine va_get (D := D) (ci := 0) (v := .ref (ad 11)) (C := RX0) (T := TX0) (N := 14) hx hb hts lX2_place_X0 hown hK w.1 1 rfl rfl 8 (by decide) (hts _ mX2_place_3) (fun _ h9 => h9) rfl dX2_place_4 ?_
  refine lv_aload_n hx hb dX2_place_7 rfl (lv_at hl 0 rfl) ?_
  refine va_get (D := D) (ci := 2) (v := .ref (ad 1)) (C := RX2) (T := TX2) (N := 3) hx hb hts lX2_place_X2 hown hK w.1 2 rfl rfl 0 (by decide) (hts _ mX2_place_1) (fun _ h9 => h9) rfl dX2_place_8 ?_
  refine va_get (D := D) (ci := 0) (v := .ref (ad 7)) (C := RX0) (T := TX0) (N := 14) hx hb hts lX2_place_X0 hown hK w.1 1 rfl rfl 4 (by decide) (hts _ mX2_place_4) (fun _ h9 => h9) rfl dX2_place_11 ?_
  refine lv_iload_n hx hb dX2_place_14 rfl (lv_at hl 1 rfl) ?_
  obtain ⟨g10, h⟩ := gd_some h
  refine va_iald hx hb hK w.1 7 0 rfl rfl g10 dX2_place_15 ?_
  obtain ⟨g11, h⟩ := gd_some h
  refine va_iald hx hb hK w.1 11 0 rfl rfl g11 dX2_place_16 ?_
  refine lv_istore_n (lv' := [(3, .int (xx (parent p0.toNatClampNeg).toNatClampNeg)), (0, .ref (ad 2)), (1, .int p0), (2, .int p1)]) hx hb dX2_place_17 rfl hl (by decide) rfl (fun ls hl => ?_)
  refine lv_aload_n hx hb dX2_place_18 rfl (lv_at hl 1 rfl) ?_
  refine va_get (D := D) (ci := 2) (v := .ref (ad 1)) (C := RX2) (T := TX2) (N := 3) hx hb hts lX2_place_X2 hown hK w.1 2 rfl rfl 0 (by decide) (hts _ mX2_place_1) (fun _ h9 => h9) rfl dX2_place_19 ?_
  refine va_get (D := D) (ci := 0) (v := .ref (ad 12)) (C := RX0) (T := TX0) (N := 14) hx hb hts lX2_place_X0 hown hK w.1 1 rfl rfl 9 (by decide) (hts _ mX2_place_5) (fun _ h9 => h9) rfl dX2_place_22 ?_
  refine lv_aload_n hx hb dX2_place_25 rfl (lv_at hl 1 rfl) ?_
  refine va_get (D := D) (ci := 2) (v := .ref (ad 1)) (C := RX2) (T := TX2) (N := 3) hx hb hts lX2_place_X2 hown hK w.1 2 rfl rfl 0 (by decide) (hts _ mX2_place_1) (fun _ h9 => h9) rfl dX2_place_26 ?_
  refine va_get (D := D) (ci := 0) (v := .ref (ad 7)) (C := RX0) (T := TX0) (N := 14) hx hb hts lX2_place_X0 hown hK w.1 1 rfl rfl 4 (by decide) (hts _ mX2_place_4) (fun _ h9 => h9) rfl dX2_place_29 ?_
  refine lv_iload_n hx hb dX2_place_32 rfl (lv_at hl 2 rfl) ?_
  obtain ⟨g12, h⟩ := gd_some h
  refine va_iald hx hb hK w.1 7 0 rfl rfl g12 dX2_place_33 ?_
  obtain ⟨g13, h⟩ := gd_some h
  refine va_iald hx hb hK w.1 12 0 rfl rfl g13 dX2_place_34 ?_
  refine lv_istore (lv' := [(4, .int (yy (parent p0.toNatClampNeg).toNatClampNeg)), (3, .int (xx (parent p0.toNatClampNeg).toNatClampNeg)), (0, .ref (ad 2)), (1, .int p0), (2, .int p1)]) hx hb dX2_place_35 hl (by decide) rfl (fun ls hl => ?_)
  refine lv_iconst (v := 0) hx hb dX2_place_37 (by decide) ?_
  refine lv_istore (lv' := [(5, .int (0 : Int32)), (4, .int (yy (parent p0.toNatClampNeg).toNatClampNeg)), (3, .int (xx (parent p0.toNatClampNeg).toNatClampNeg)), (0, .ref (ad 2)), (1, .int p0), (2, .int p1)]) hx hb dX2_place_38 hl (by decide) rfl (fun ls hl => ?_)
  exact t_X2_place_40 C  hret w (lv_sub hl [3, 4, 5, 2, 1, 0] rfl) h
set_option maxHeartbeats 4000000 in
set_option maxRecDepth 100000 in
theorem c_X2_place (l : Launch) (D : va_G) (kA : Nat → ClassId) (ad : Nat → Nat) (sz : Nat) (lq_situation : Int32) (adv_rooms : Int32) (adv_levels : Int32) (adv_goalRoom : Int32) (adv_allDoors : Int32) (dr_state : Int64) (dr_count : Int32) (se_count : Int32) (parent : Nat → Int32) (level : Nat → Int32) (kind : Nat → Int32) (snum : Nat → Int32) (xx : Nat → Int32) (yy : Nat → Int32) (lying : Nat → Int32) (switched : Nat → Int32) (doors : Nat → Int32) (beyond : Nat → Nat → Int32) (offered : Nat → Int32) (opn : Nat → Int32) (seenb : Nat → Int64) (savedb : Nat → Int64) (found : Nat → Int32) (distance : Nat → Int32) (opening : Nat → Int32) (p0 : Int32) (p1 : Int32) {res : (Nat → Int32) × (Nat → Int32)} (h : f_X2_place p0 p1 parent xx yy = some res) : Cv l yX2_place wsX2_place rm_X2_place D kA [.ref (ad 2), .int p0, .int p1] sz (wC kA ad lq_situation adv_rooms adv_levels adv_goalRoom adv_allDoors dr_state dr_count se_count parent level kind snum xx yy lying switched doors beyond offered opn seenb savedb found distance opening) (wC kA ad lq_situation adv_rooms adv_levels adv_goalRoom adv_allDoors dr_state dr_count se_count parent level kind snum res.1 res.2 lying switched doors beyond offered opn seenb savedb found distance opening) := by
  refine Met.ofW (cc := cX2_place) (maxL := 6) (ret := none) (by decide) rfl ?_
  intro p e s m args below meth c s₁ B hml hv
  obtain ⟨rfl, hsz, hP, hK, hD0, hX⟩ := hv
  subst hsz
  have hts := atoms_spec (ws := wsX2_place) B.pre
  have hl := lv_entry ([.ref (ad 2), .int p0, .int p1]) (n := 6) (Nat.le_of_ble_eq_true rfl)
  rw [lg_entry_eq]
  have hlocks := B.notSynchronized
  refine t_X2_place (A := va_A (wC kA ad lq_situation adv_rooms adv_levels adv_goalRoom adv_allDoors dr_state dr_count se_count parent level kind snum xx yy lying switched doors beyond offered opn seenb savedb found distance opening) s.heap.size) ⟨⟨B.exec, B.bytes, hml, findClass_of_methodNamed B.named, hts⟩, hK, fun q h => Or.inr h, hX⟩ (fun q0 q1 H locs ls pc hd w hres => ?_) ⟨hP, hD0.self, va_S.rf⟩ hl h
  subst hres
  exact W.vret B.exec B.bytes B.returns (fun t ht hW => ⟨⟨(), rfl, trivial, by rw [ht]; exact w.1, va_K.moved hW.alike hK, w.2.1⟩, w.2.2.F ht⟩) w.2.2.2.2 hd hlocks
-- ('wC', 'LockQuest$Maker', 'placeRooms', '()V', ('mk',))
abbrev rm_X2_placeRooms : Room := { frames := 2, cells := 0, slots := 0, locals := 49 }
set_option maxRecDepth 20000 in
theorem lX2_placeRooms_X2 : ∀ w ∈ wsX20, w ∈ wsX2_placeRooms := by decide +kernel
set_option maxRecDepth 20000 in
theorem mX2_placeRooms_1 : Cond.fieldLink RX2 22 "LockQuest$Maker" "made" "LLockQuest$Adventure;" ∈ wsX2_placeRooms := by decide +kernel
set_option maxRecDepth 20000 in
theorem lX2_placeRooms_X0 : ∀ w ∈ wsX00, w ∈ wsX2_placeRooms := by decide +kernel
set_option maxRecDepth 20000 in
theorem mX2_placeRooms_3 : Cond.fieldLink RX2 149 "LockQuest$Adventure" "x" "[I" ∈ wsX2_placeRooms := by decide +kernel
set_option maxRecDepth 20000 in
theorem mX2_placeRooms_4 : Cond.fieldLink RX2 152 "LockQuest$Adventure" "y" "[I" ∈ wsX2_placeRooms := by decide +kernel
set_option maxRecDepth 20000 in
theorem mX2_placeRooms_5 : Cond.fieldLink RX2 33 "LockQuest$Adventure" "rooms" "I" ∈ wsX2_placeRooms := by decide +kernel
set_option maxRecDepth 20000 in
theorem mX2_placeRooms_6 : Cond.fieldLink RX2 12 "LockQuest$Maker" "drawing" "LLockQuest$Drawing;" ∈ wsX2_placeRooms := by decide +kernel
def fb_X2_placeRooms_22 (adv_rooms : Int32) (parent : Nat → Int32) (k22 : Int32 → Int64 → (Nat → Int32) → (Nat → Int32) → Option (Int64 × (Nat → Int32) × (Nat → Int32))) (x1 : Int32) (dr_state : Int64) (xx : Nat → Int32) (yy : Nat → Int32) : Option (Int64 × (Nat → Int32) × (Nat → Int32)) := if adv_rooms ≤ x1 then (some (dr_state, xx, yy)) else ((f_X1_number (4 : Int32) dr_state).bind (fun u2 => (f_X2_place x1 u2.1 parent xx yy).bind (fun u3 => k22 (x1 + (1 : Int32)) u2.2 u3.1 u3.2)))
set_option maxHeartbeats 4000000 in
set_option maxRecDepth 100000 in
theorem tb_X2_placeRooms_22 {p : Program} {l : Launch} {e : Env} {s : State} {m : MethodId} {args : Array Value} {below : List Frame} {meth : Method} {c : Code} {Q : State → Prop} {D : va_G} {kA : Nat → ClassId} {ad : Nat → Nat} {A : Nat → Prop} {lq_situation : Int32} {adv_rooms : Int32} {adv_levels : Int32} {adv_goalRoom : Int32} {adv_allDoors : Int32} {dr_state : Int64} {dr_count : Int32} {se_count : Int32} {parent : Nat → Int32} {level : Nat → Int32} {kind : Nat → Int32} {snum : Nat → Int32} {xx : Nat → Int32} {yy : Nat → Int32} {lying : Nat → Int32} {switched : Nat → Int32} {doors : Nat → Int32} {beyond : Nat → Nat → Int32} {offered : Nat → Int32} {opn : Nat → Int32} {seenb : Nat → Int64} {savedb : Nat → Int64} {found : Nat → Int32} {distance : Nat → Int32} {opening : Nat → Int32} {x1 : Int32} {k22 : Int32 → Int64 → (Nat → Int32) → (Nat → Int32) → Option (Int64 × (Nat → Int32) × (Nat → Int32))} {res : Int64 × (Nat → Int32) × (Nat → Int32)} (C : Cx p s m c args cX2_placeRooms 2 RX2 wsX2_placeRooms D kA A) (hk22 : ∀ (x1 : Int32) (dr_state : Int64) (xx : Nat → Int32) (yy : Nat → Int32) (H : Heap) (locs : List Loc) (ls : Array Slot), Wd D A s H locs (wC kA ad lq_situation adv_rooms adv_levels adv_goalRoom adv_allDoors dr_state dr_count se_count parent level kind snum xx yy lying switched doors beyond offered opn seenb savedb found distance opening) → lv_has ls 2 [(0, .ref (ad 2)), (1, .int x1)] → k22 x1 dr_state xx yy = some res → W p l e rm_X2_placeRooms s m args below meth c H locs 0 0 Q (F0 m 22 ls [])) (hret : ∀ (q0 : Int64) (q1 : Nat → Int32) (q2 : Nat → Int32) (H : Heap) (locs : List Loc) (ls : Array Slot) (pc : Nat), decode cX2_placeRooms pc = .ok (.return_, 1) → Wd D A s H locs (wC kA ad lq_situation adv_rooms adv_levels adv_goalRoom adv_allDoors q0 dr_count se_count parent level kind snum q1 q2 lying switched doors beyond offered opn seenb savedb found distance opening) → (q0, q1, q2) = res → W p l e rm_X2_placeRooms s m args below meth c H locs 0 0 Q (F0 m pc ls [])) {H : Heap} {locs : List Loc} {ls : Array Slot} (w : Wd D A s H locs (wC kA ad lq_situation adv_rooms adv_levels adv_goalRoom adv_allDoors dr_state dr_count se_count parent level kind snum xx yy lying switched doors beyond offered opn seenb savedb found distance opening)) (hl : lv_has ls 2 [(0, .ref (ad 2)), (1, .int x1)]) (h : fb_X2_placeRooms_22 adv_rooms parent k22 x1 dr_state xx yy = some res) : W p l e rm_X2_placeRooms s m args below meth c H locs 0 0 Q (F0 m 22 ls []) := by
  obtain ⟨⟨hx, hb, hml, hown, hts⟩, hK, -, -⟩ := id C
  unfold fb_X2_placeRooms_22 at h
  refine lv_iload_n hx hb dX2_placeRooms_22 rfl (lv_at hl 1 rfl) ?_
  refine lv_aload_n hx hb dX2_placeRooms_23 rfl (lv_at hl 0 rfl) ?_
  refine va_get (D := D) (ci := 2) (v := .ref (ad 1)) (C := RX2) (T := TX2) (N := 3) hx hb hts lX2_placeRooms_X2 hown hK w.1 2 rfl rfl 0 (by decide) (hts _ mX2_placeRooms_1) (fun _ h9 => h9) rfl dX2_placeRooms_24 ?_
  refine va_get (D := D) (ci := 0) (v := .int adv_rooms) (C := RX0) (T := TX0) (N := 14) hx hb hts lX2_placeRooms_X0 hown hK w.1 1 rfl rfl 0 (by decide) (hts _ mX2_placeRooms_5) (fun _ h9 => h9) rfl dX2_placeRooms_27 ?_
  refine lv_icmp_ge (tgt := 52) hx hb dX2_placeRooms_30 (by decide) (fun g1 => ?_) (fun g1 => ?_)
  · replace h := it_pos g1 h
    exact hret _ _ _ _ _ _ _ dX2_placeRooms_52 w (Option.some.inj h)
  · replace h := it_neg g1 h
    refine lv_aload_n hx hb dX2_placeRooms_33 rfl (lv_at hl 0 rfl) ?_
    refine lv_iload_n hx hb dX2_placeRooms_34 rfl (lv_at hl 1 rfl) ?_
    refine lv_aload_n hx hb dX2_placeRooms_35 rfl (lv_at hl 0 rfl) ?_
    refine va_get (D := D) (ci := 2) (v := .ref (ad 3)) (C := RX2) (T := TX2) (N := 3) hx hb hts lX2_placeRooms_X2 hown hK w.1 2 rfl rfl 1 (by decide) (hts _ mX2_placeRooms_6) (fun _ h9 => h9) rfl dX2_placeRooms_36 ?_
    refine lv_iconst (v := 4) hx hb dX2_placeRooms_39 (by decide) ?_
    obtain ⟨u2, hc2, h⟩ := bd_some h
    refine gl_calli C w (va_runV (As := [.int (4 : Int32)]) (rest := [.int x1, .ref (ad 2)]) ⟨hx, hb, hml, hown, hts⟩ (c_X1_number l D kA ad H.size lq_situation adv_rooms adv_levels adv_goalRoom adv_allDoors dr_state dr_count se_count parent level kind snum xx yy lying switched doors beyond offered opn seenb savedb found distance opening (4 : Int32) hc2) (cwV 1 hts gX2_placeRooms_X1_number rfl rfl rfl (by decide +kernel) ⟨Nat.le_of_ble_eq_true rfl, Nat.le_of_ble_eq_true rfl⟩) (Wd.preV C w (q0 := 3) (ci := 1) rfl rfl rfl) rfl rfl hl.1 rfl (lv_room (Nat.le_of_ble_eq_true rfl)) dX2_placeRooms_40 ⟨Nat.zero_le _, Nat.zero_le _⟩) (fun H locs w => ?_)
    obtain ⟨u3, hc3, h⟩ := bd_some h
    refine gl_callv C w (va_runV (As := [.int x1, .int u2.1]) (rest := []) ⟨hx, hb, hml, hown, hts⟩ (c_X2_place l D kA ad H.size lq_situation adv_rooms adv_levels adv_goalRoom adv_allDoors u2.2 dr_count se_count parent level kind snum xx yy lying switched doors beyond offered opn seenb savedb found distance opening x1 u2.1 hc3) (cwV 2 hts gX2_placeRooms_X2_place rfl rfl rfl (by decide +kernel) ⟨Nat.le_of_ble_eq_true rfl, Nat.le_of_ble_eq_true rfl⟩) (Wd.preV C w (q0 := 2) (ci := 2) rfl rfl rfl) rfl rfl hl.1 rfl (lv_room (Nat.le_of_ble_eq_true rfl)) dX2_placeRooms_43 ⟨Nat.zero_le _, Nat.zero_le _⟩) (fun H locs w => ?_)
    refine lv_iinc (v := (x1 + (1 : Int32))) (lv' := [(1, .int (x1 + (1 : Int32))), (0, .ref (ad 2))]) hx hb dX2_placeRooms_46 hl (k := 1) rfl rfl (by decide) rfl (fun ls hl => ?_)
    refine lv_goto (tgt := 22) hx hb dX2_placeRooms_49 (by decide) ?_
    exact hk22 _ _ _ _ H locs ls w (lv_sub hl [1, 0] rfl) h
def f_X2_placeRooms_22 (adv_rooms : Int32) (parent : Nat → Int32) (x1 : Int32) (dr_state : Int64) (xx : Nat → Int32) (yy : Nat → Int32) : Option (Int64 × (Nat → Int32) × (Nat → Int32)) := lp (σ := Int32 × Int64 × (Nat → Int32) × (Nat → Int32)) (fun k st => fb_X2_placeRooms_22 adv_rooms parent (fun x1 dr_state xx yy => k (x1, dr_state, xx, yy)) st.1 st.2.1 st.2.2.1 st.2.2.2) fuel (x1, dr_state, xx, yy)
set_option maxHeartbeats 4000000 in
set_option maxRecDepth 100000 in
theorem t_X2_placeRooms_22 {p : Program} {l : Launch} {e : Env} {s : State} {m : MethodId} {args : Array Value} {below : List Frame} {meth : Method} {c : Code} {Q : State → Prop} {D : va_G} {kA : Nat → ClassId} {ad : Nat → Nat} {A : Nat → Prop} {lq_situation : Int32} {adv_rooms : Int32} {adv_levels : Int32} {adv_goalRoom : Int32} {adv_allDoors : Int32} {dr_state : Int64} {dr_count : Int32} {se_count : Int32} {parent : Nat → Int32} {level : Nat → Int32} {kind : Nat → Int32} {snum : Nat → Int32} {xx : Nat → Int32} {yy : Nat → Int32} {lying : Nat → Int32} {switched : Nat → Int32} {doors : Nat → Int32} {beyond : Nat → Nat → Int32} {offered : Nat → Int32} {opn : Nat → Int32} {seenb : Nat → Int64} {savedb : Nat → Int64} {found : Nat → Int32} {distance : Nat → Int32} {opening : Nat → Int32} {x1 : Int32} {res : Int64 × (Nat → Int32) × (Nat → Int32)} (C : Cx p s m c args cX2_placeRooms 2 RX2 wsX2_placeRooms D kA A) (hret : ∀ (q0 : Int64) (q1 : Nat → Int32) (q2 : Nat → Int32) (H : Heap) (locs : List Loc) (ls : Array Slot) (pc : Nat), decode cX2_placeRooms pc = .ok (.return_, 1) → Wd D A s H locs (wC kA ad lq_situation adv_rooms adv_levels adv_goalRoom adv_allDoors q0 dr_count se_count parent level kind snum q1 q2 lying switched doors beyond offered opn seenb savedb found distance opening) → (q0, q1, q2) = res → W p l e rm_X2_placeRooms s m args below meth c H locs 0 0 Q (F0 m pc ls [])) {H : Heap} {locs : List Loc} {ls : Array Slot} (w : Wd D A s H locs (wC kA ad lq_situation adv_rooms adv_levels adv_goalRoom adv_allDoors dr_state dr_count se_count parent level kind snum xx yy lying switched doors beyond offered opn seenb savedb found distance opening)) (hl : lv_has ls 2 [(0, .ref (ad 2)), (1, .int x1)]) (h : f_X2_placeRooms_22 adv_rooms parent x1 dr_state xx yy = some res) : W p l e rm_X2_placeRooms s m args below meth c H locs 0 0 Q (F0 m 22 ls []) := by
  unfold f_X2_placeRooms_22 at h
  exact lp_ind (P := (fun (st : Int32 × Int64 × (Nat → Int32) × (Nat → Int32)) => ∀ (H : Heap) (locs : List Loc) (ls : Array Slot), Wd D A s H locs (wC kA ad lq_situation adv_rooms adv_levels adv_goalRoom adv_allDoors st.2.1 dr_count se_count parent level kind snum st.2.2.1 st.2.2.2 lying switched doors beyond offered opn seenb savedb found distance opening) → lv_has ls 2 [(0, .ref (ad 2)), (1, .int st.1)] → W p l e rm_X2_placeRooms s m args below meth c H locs 0 0 Q (F0 m 22 ls []))) (fun k hk st h H locs ls w hl => tb_X2_placeRooms_22 C  (fun a0 a1 a2 a3 H locs ls w hl h => hk (a0, a1, a2, a3) h H locs ls w hl) hret w hl h) fuel (x1, dr_state, xx, yy) h H locs ls w hl
def f_X2_placeRooms  (adv_rooms : Int32) (dr_state : Int64) (parent : Nat → Int32) (xx : Nat → Int32) (yy : Nat → Int32) : Option (Int64 × (Nat → Int32) × (Nat → Int32)) := gd ((0 : Int32) < 0 ∨ 12 ≤ (0 : Int32).toNatClampNeg) (gd ((0 : Int32) < 0 ∨ 12 ≤ (0 : Int32).toNatClampNeg) (f_X2_placeRooms_22 adv_rooms parent (1 : Int32) dr_state (upd xx (0 : Int32).toNatClampNeg (0 : Int32)) (upd yy (0 : Int32).toNatClampNeg (0 : Int32))))
set_option maxHeartbeats 4000000 in
set_option maxRecDepth 100000 in
theorem t_X2_placeRooms {p : Program} {l : Launch} {e : Env} {s : State} {m : MethodId} {args : Array Value} {below : List Frame} {meth : Method} {c : Code} {Q : State → Prop} {D : va_G} {kA : Nat → ClassId} {ad : Nat → Nat} {A : Nat → Prop} {lq_situation : Int32} {adv_rooms : Int32} {adv_levels : Int32} {adv_goalRoom : Int32} {adv_allDoors : Int32} {dr_state : Int64} {dr_count : Int32} {se_count : Int32} {parent : Nat → Int32} {level : Nat → Int32} {kind : Nat → Int32} {snum : Nat → Int32} {xx : Nat → Int32} {yy : Nat → Int32} {lying : Nat → Int32} {switched : Nat → Int32} {doors : Nat → Int32} {beyond : Nat → Nat → Int32} {offered : Nat → Int32} {opn : Nat → Int32} {seenb : Nat → Int64} {savedb : Nat → Int64} {found : Nat → Int32} {distance : Nat → Int32} {opening : Nat → Int32}  {res : Int64 × (Nat → Int32) × (Nat → Int32)} (C : Cx p s m c args cX2_placeRooms 2 RX2 wsX2_placeRooms D kA A) (hret : ∀ (q0 : Int64) (q1 : Nat → Int32) (q2 : Nat → Int32) (H : Heap) (locs : List Loc) (ls : Array Slot) (pc : Nat), decode cX2_placeRooms pc = .ok (.return_, 1) → Wd D A s H locs (wC kA ad lq_situation adv_rooms adv_levels adv_goalRoom adv_allDoors q0 dr_count se_count parent level kind snum q1 q2 lying switched doors beyond offered opn seenb savedb found distance opening) → (q0, q1, q2) = res → W p l e rm_X2_placeRooms s m args below meth c H locs 0 0 Q (F0 m pc ls [])) {H : Heap} {locs : List Loc} {ls : Array Slot} (w : Wd D A s H locs (wC kA ad lq_situation adv_rooms adv_levels adv_goalRoom adv_allDoors dr_state dr_count se_count parent level kind snum xx yy lying switched doors beyond offered opn seenb savedb found distance opening)) (hl : lv_has ls 2 [(0, .ref (ad 2))]) (h : f_X2_placeRooms  adv_rooms dr_state parent xx yy = some res) : W p l e rm_X2_placeRooms s m args below meth c H locs 0 0 Q (F0 m 0 ls []) := by
  obtain ⟨⟨hx, hb, hml, hown, hts⟩, hK, -, -⟩ := id C
  unfold f_X2_placeRooms at h
  refine lv_aload_n hx hb dX2_placeRooms_0 rfl (lv_at hl 0 rfl) ?_
  refine va_get (D := D) (ci := 2) (v := .ref (ad 1)) (C := RX2) (T := TX2) (N := 3) hx hb hts lX2_placeRooms_X2 hown hK w.1 2 rfl rfl 0 (by decide) (hts _ mX2_placeRooms_1) (fun _ h9 => h9) rfl dX2_placeRooms_1 ?_
  refine va_get (D := D) (ci := 0) (v := .ref (ad 11)) (C := RX0) (T := TX0) (N := 14) hx hb hts lX2_placeRooms_X0 hown hK w.1 1 rfl rfl 8 (by decide) (hts _ mX2_placeRooms_3) (fun _ h9 => h9) rfl dX2_placeRooms_4 ?_
  refine lv_iconst (v := 0) hx hb dX2_placeRooms_7 (by decide) ?_
  refine lv_iconst (v := 0) hx hb dX2_placeRooms_8 (by decide) ?_
  obtain ⟨g4, h⟩ := gd_some h
  refine va_iast hx hb hK w.1 w.2.1 w.2.2 11 0 rfl rfl g4 dX2_placeRooms_9 (fun H locs hP hD hS => ?_)
  have w : Wd D A s H locs (wC kA ad lq_situation adv_rooms adv_levels adv_goalRoom adv_allDoors dr_state dr_count se_count parent level kind snum (upd xx (0 : Int32).toNatClampNeg (0 : Int32)) yy lying switched doors beyond offered opn seenb savedb found distance opening) := ⟨hP, hD, hS⟩
  refine lv_aload_n hx hb dX2_placeRooms_10 rfl (lv_at hl 0 rfl) ?_
  refine va_get (D := D) (ci := 2) (v := .ref (ad 1)) (C := RX2) (T := TX2) (N := 3) hx hb hts lX2_placeRooms_X2 hown hK w.1 2 rfl rfl 0 (by decide) (hts _ mX2_placeRooms_1) (fun _ h9 => h9) rfl dX2_placeRooms_11 ?_
  refine va_get (D := D) (ci := 0) (v := .ref (ad 12)) (C := RX0) (T := TX0) (N := 14) hx hb hts lX2_placeRooms_X0 hown hK w.1 1 rfl rfl 9 (by decide) (hts _ mX2_placeRooms_4) (fun _ h9 => h9) rfl dX2_placeRooms_14 ?_
  refine lv_iconst (v := 0) hx hb dX2_placeRooms_17 (by decide) ?_
  refine lv_iconst (v := 0) hx hb dX2_placeRooms_18 (by decide) ?_
  obtain ⟨g5, h⟩ := gd_some h
  refine va_iast hx hb hK w.1 w.2.1 w.2.2 12 0 rfl rfl g5 dX2_placeRooms_19 (fun H locs hP hD hS => ?_)
  have w : Wd D A s H locs (wC kA ad lq_situation adv_rooms adv_levels adv_goalRoom adv_allDoors dr_state dr_count se_count parent level kind snum (upd xx (0 : Int32).toNatClampNeg (0 : Int32)) (upd yy (0 : Int32).toNatClampNeg (0 : Int32)) lying switched doors beyond offered opn seenb savedb found distance opening) := ⟨hP, hD, hS⟩
  refine lv_iconst (v := 1) hx hb dX2_placeRooms_20 (by decide) ?_
  refine lv_istore_n (lv' := [(1, .int (1 : Int32)), (0, .ref (ad 2))]) hx hb dX2_placeRooms_21 rfl hl (by decide) rfl (fun ls hl => ?_)
  exact t_X2_placeRooms_22 C  hret w (lv_sub hl [1, 0] rfl) h
set_option maxHeartbeats 4000000 in
set_option maxRecDepth 100000 in
theorem c_X2_placeRooms (l : Launch) (D : va_G) (kA : Nat → ClassId) (ad : Nat → Nat) (sz : Nat) (lq_situation : Int32) (adv_rooms : Int32) (adv_levels : Int32) (adv_goalRoom : Int32) (adv_allDoors : Int32) (dr_state : Int64) (dr_count : Int32) (se_count : Int32) (parent : Nat → Int32) (level : Nat → Int32) (kind : Nat → Int32) (snum : Nat → Int32) (xx : Nat → Int32) (yy : Nat → Int32) (lying : Nat → Int32) (switched : Nat → Int32) (doors : Nat → Int32) (beyond : Nat → Nat → Int32) (offered : Nat → Int32) (opn : Nat → Int32) (seenb : Nat → Int64) (savedb : Nat → Int64) (found : Nat → Int32) (distance : Nat → Int32) (opening : Nat → Int32)  {res : Int64 × (Nat → Int32) × (Nat → Int32)} (h : f_X2_placeRooms  adv_rooms dr_state parent xx yy = some res) : Cv l yX2_placeRooms wsX2_placeRooms rm_X2_placeRooms D kA [.ref (ad 2)] sz (wC kA ad lq_situation adv_rooms adv_levels adv_goalRoom adv_allDoors dr_state dr_count se_count parent level kind snum xx yy lying switched doors beyond offered opn seenb savedb found distance opening) (wC kA ad lq_situation adv_rooms adv_levels adv_goalRoom adv_allDoors res.1 dr_count se_count parent level kind snum res.2.1 res.2.2 lying switched doors beyond offered opn seenb savedb found distance opening) := by
  refine Met.ofW (cc := cX2_placeRooms) (maxL := 2) (ret := none) (by decide) rfl ?_
  intro p e s m args below meth c s₁ B hml hv
  obtain ⟨rfl, hsz, hP, hK, hD0, hX⟩ := hv
  subst hsz
  have hts := atoms_spec (ws := wsX2_placeRooms) B.pre
  have hl := lv_entry ([.ref (ad 2)]) (n := 2) (Nat.le_of_ble_eq_true rfl)
  rw [lg_entry_eq]
  have hlocks := B.notSynchronized
  refine t_X2_placeRooms (A := va_A (wC kA ad lq_situation adv_rooms adv_levels adv_goalRoom adv_allDoors dr_state dr_count se_count parent level kind snum xx yy lying switched doors beyond offered opn seenb savedb found distance opening) s.heap.size) ⟨⟨B.exec, B.bytes, hml, findClass_of_methodNamed B.named, hts⟩, hK, fun q h => Or.inr h, hX⟩ (fun q0 q1 q2 H locs ls pc hd w hres => ?_) ⟨hP, hD0.self, va_S.rf⟩ hl h
  subst hres
  exact W.vret B.exec B.bytes B.returns (fun t ht hW => ⟨⟨(), rfl, trivial, by rw [ht]; exact w.1, va_K.moved hW.alike hK, w.2.1⟩, w.2.2.F ht⟩) w.2.2.2.2 hd hlocks
-- ('wC', 'LockQuest$Maker', 'join', '(II)V', ('mk', None, None))
abbrev rm_X2_join : Room := { frames := 0, cells := 0, slots := 0, locals := 0 }
set_option maxRecDepth 20000 in
theorem lX2_join_X2 : ∀ w ∈ wsX20, w ∈ wsX2_join := by decide +kernel
set_option maxRecDepth 20000 in
theorem mX2_join_1 : Cond.fieldLink RX2 22 "LockQuest$Maker" "made" "LLockQuest$Adventure;" ∈ wsX2_join := by decide +kernel
set_option maxRecDepth 20000 in
theorem lX2_join_X0 : ∀ w ∈ wsX00, w ∈ wsX2_join := by decide +kernel
set_option maxRecDepth 20000 in
theorem mX2_join_3 : Cond.fieldLink RX2 178 "LockQuest$Adventure" "beyond" "[[I" ∈ wsX2_join := by decide +kernel
set_option maxRecDepth 20000 in
theorem mX2_join_4 : Cond.fieldLink RX2 89 "LockQuest$Adventure" "doors" "[I" ∈ wsX2_join := by decide +kernel
set_option maxRecDepth 20000 in
theorem mX2_join_5 : Cond.fieldLink RX2 95 "LockQuest$Adventure" "allDoors" "I" ∈ wsX2_join := by decide +kernel
def f_X2_join (p0 : Int32) (p1 : Int32) (adv_allDoors : Int32) (doors : Nat → Int32) (beyond : Nat → Nat → Int32) : Option (Int32 × (Nat → Int32) × (Nat → Nat → Int32)) := gd (p0 < 0 ∨ 12 ≤ p0.toNatClampNeg) (gd (p0 < 0 ∨ 12 ≤ p0.toNatClampNeg) (gd ((doors p0.toNatClampNeg) < 0 ∨ 12 ≤ (doors p0.toNatClampNeg).toNatClampNeg) (gd (p1 < 0 ∨ 12 ≤ p1.toNatClampNeg) (gd (p1 < 0 ∨ 12 ≤ p1.toNatClampNeg) (gd ((doors p1.toNatClampNeg) < 0 ∨ 12 ≤ (doors p1.toNatClampNeg).toNatClampNeg) (gd (p0 < 0 ∨ 12 ≤ p0.toNatClampNeg) (gd (p0 < 0 ∨ 12 ≤ p0.toNatClampNeg) (gd (p1 < 0 ∨ 12 ≤ p1.toNatClampNeg) (gd (p1 < 0 ∨ 12 ≤ p1.toNatClampNeg) (some ((adv_allDoors + (1 : Int32)), (upd (upd doors p0.toNatClampNeg ((doors p0.toNatClampNeg) + (1 : Int32))) p1.toNatClampNeg (((upd doors p0.toNatClampNeg ((doors p0.toNatClampNeg) + (1 : Int32))) p1.toNatClampNeg) + (1 : Int32))), (upd2 (upd2 beyond p0.toNatClampNeg (doors p0.toNatClampNeg).toNatClampNeg p1) p1.toNatClampNeg (doors p1.toNatClampNeg).toNatClampNeg p0))))))))))))
set_option maxHeartbeats 4000000 in
set_option maxRecDepth 100000 in
theorem t_X2_join {p : Program} {l : Launch} {e : Env} {s : State} {m : MethodId} {args : Array Value} {below : List Frame} {meth : Method} {c : Code} {Q : State → Prop} {D : va_G} {kA : Nat → ClassId} {ad : Nat → Nat} {A : Nat → Prop} {lq_situation : Int32} {adv_rooms : Int32} {adv_levels : Int32} {adv_goalRoom : Int32} {adv_allDoors : Int32} {dr_state : Int64} {dr_count : Int32} {se_count : Int32} {parent : Nat → Int32} {level : Nat → Int32} {kind : Nat → Int32} {snum : Nat → Int32} {xx : Nat → Int32} {yy : Nat → Int32} {lying : Nat → Int32} {switched : Nat → Int32} {doors : Nat → Int32} {beyond : Nat → Nat → Int32} {offered : Nat → Int32} {opn : Nat → Int32} {seenb : Nat → Int64} {savedb : Nat → Int64} {found : Nat → Int32} {distance : Nat → Int32} {opening : Nat → Int32} {p0 : Int32} {p1 : Int32} {res : Int32 × (Nat → Int32) × (Nat → Nat → Int32)} (C : Cx p s m c args cX2_join 3 RX2 wsX2_join D kA A) (hret : ∀ (q0 : Int32) (q1 : Nat → Int32) (q2 : Nat → Nat → Int32) (H : Heap) (locs : List Loc) (ls : Array Slot) (pc : Nat), decode cX2_join pc = .ok (.return_, 1) → Wd D A s H locs (wC kA ad lq_situation adv_rooms adv_levels adv_goalRoom q0 dr_state dr_count se_count parent level kind snum xx yy lying switched q1 q2 offered opn seenb savedb found distance opening) → (q0, q1, q2) = res → W p l e rm_X2_join s m args below meth c H locs 0 0 Q (F0 m pc ls [])) {H : Heap} {locs : List Loc} {ls : Array Slot} (w : Wd D A s H locs (wC kA ad lq_situation adv_rooms adv_levels adv_goalRoom adv_allDoors dr_state dr_count se_count parent level kind snum xx yy lying switched doors beyond offered opn seenb savedb found distance opening)) (hl : lv_has ls 3 [(0, .ref (ad 2)), (1, .int p0), (2, .int p1)]) (h : f_X2_join p0 p1 adv_allDoors doors beyond = some res) : W p l e rm_X2_join s m args below meth c H locs 0 0 Q (F0 m 0 ls []) := by
  obtain ⟨⟨hx, hb, hml, hown, hts⟩, hK, -, -⟩ := id C
  unfold f_X2_join at h
  refine lv_aload_n hx hb dX2_join_0 rfl (lv_at hl 0 rfl) ?_
  refine va_get (D := D) (ci := 2) (v := .ref (ad 1)) (C := RX2) (T := TX2) (N := 3) hx hb hts lX2_join_X2 hown hK w.1 2 rfl rfl 0 (by decide) (hts _ mX2_join_1) (fun _ h9 => h9) rfl dX2_join_1 ?_
  refine va_get (D := D) (ci := 0) (v := .ref (ad 16)) (C := RX0) (T := TX0) (N := 14) hx hb hts lX2_join_X0 hown hK w.1 1 rfl rfl 13 (by decide) (hts _ mX2_join_3) (fun _ h9 => h9) rfl dX2_join_4 ?_
  refine lv_iload_n hx hb dX2_join_7 rfl (lv_at hl 1 rfl) ?_
  obtain ⟨g1, h⟩ := gd_some h
  refine gl_aldg hx hb hK w.1 16 3 rfl rfl g1 dX2_join_8 ?_
  refine lv_aload_n hx hb dX2_join_9 rfl (lv_at hl 0 rfl) ?_
  refine va_get (D := D) (ci := 2) (v := .ref (ad 1)) (C := RX2) (T := TX2) (N := 3) hx hb hts lX2_join_X2 hown hK w.1 2 rfl rfl 0 (by decide) (hts _ mX2_join_1) (fun _ h9 => h9) rfl dX2_join_10 ?_
  refine va_get (D := D) (ci := 0) (v := .ref (ad 15)) (C := RX0) (T := TX0) (N := 14) hx hb hts lX2_join_X0 hown hK w.1 1 rfl rfl 12 (by decide) (hts _ mX2_join_4) (fun _ h9 => h9) rfl dX2_join_13 ?_
  refine lv_iload_n hx hb dX2_join_16 rfl (lv_at hl 1 rfl) ?_
  obtain ⟨g2, h⟩ := gd_some h
  refine va_iald hx hb hK w.1 15 0 rfl rfl g2 dX2_join_17 ?_
  refine lv_iload_n hx hb dX2_join_18 rfl (lv_at hl 2 rfl) ?_
  obtain ⟨g3, h⟩ := gd_some h
  refine va_iast hx hb hK w.1 w.2.1 w.2.2 (17 + p0.toNatClampNeg) 0 (gr_wC_beyond (Nat.not_le.mp fun q => g1 (Or.inr q))) rfl g3 dX2_join_19 (fun H locs hP hD hS => ?_)
  rw [gs_wC_beyond (Nat.not_le.mp fun q => g1 (Or.inr q))] at hP hD
  have w : Wd D A s H locs (wC kA ad lq_situation adv_rooms adv_levels adv_goalRoom adv_allDoors dr_state dr_count se_count parent level kind snum xx yy lying switched doors (upd2 beyond p0.toNatClampNeg (doors p0.toNatClampNeg).toNatClampNeg p1) offered opn seenb savedb found distance opening) := ⟨hP, hD, hS⟩
  refine lv_aload_n hx hb dX2_join_20 rfl (lv_at hl 0 rfl) ?_
  refine va_get (D := D) (ci := 2) (v := .ref (ad 1)) (C := RX2) (T := TX2) (N := 3) hx hb hts lX2_join_X2 hown hK w.1 2 rfl rfl 0 (by decide) (hts _ mX2_join_1) (fun _ h9 => h9) rfl dX2_join_21 ?_
  refine va_get (D := D) (ci := 0) (v := .ref (ad 16)) (C := RX0) (T := TX0) (N := 14) hx hb hts lX2_join_X0 hown hK w.1 1 rfl rfl 13 (by decide) (hts _ mX2_join_3) (fun _ h9 => h9) rfl dX2_join_24 ?_
  refine lv_iload_n hx hb dX2_join_27 rfl (lv_at hl 2 rfl) ?_
  obtain ⟨g4, h⟩ := gd_some h
  refine gl_aldg hx hb hK w.1 16 3 rfl rfl g4 dX2_join_28 ?_
  refine lv_aload_n hx hb dX2_join_29 rfl (lv_at hl 0 rfl) ?_
  refine va_get (D := D) (ci := 2) (v := .ref (ad 1)) (C := RX2) (T := TX2) (N := 3) hx hb hts lX2_join_X2 hown hK w.1 2 rfl rfl 0 (by decide) (hts _ mX2_join_1) (fun _ h9 => h9) rfl dX2_join_30 ?_
  refine va_get (D := D) (ci := 0) (v := .ref (ad 15)) (C := RX0) (T := TX0) (N := 14) hx hb hts lX2_join_X0 hown hK w.1 1 rfl rfl 12 (by decide) (hts _ mX2_join_4) (fun _ h9 => h9) rfl dX2_join_33 ?_
  refine lv_iload_n hx hb dX2_join_36 rfl (lv_at hl 2 rfl) ?_
  obtain ⟨g5, h⟩ := gd_some h
  refine va_iald hx hb hK w.1 15 0 rfl rfl g5 dX2_join_37 ?_
  refine lv_iload_n hx hb dX2_join_38 rfl (lv_at hl 1 rfl) ?_
  obtain ⟨g6, h⟩ := gd_some h
  refine va_iast hx hb hK w.1 w.2.1 w.2.2 (17 + p1.toNatClampNeg) 0 (gr_wC_beyond (Nat.not_le.mp fun q => g4 (Or.inr q))) rfl g6 dX2_join_39 (fun H locs hP hD hS => ?_)
  rw [gs_wC_beyond (Nat.not_le.mp fun q => g4 (Or.inr q))] at hP hD
  have w : Wd D A s H locs (wC kA ad lq_situation adv_rooms adv_levels adv_goalRoom adv_allDoors dr_state dr_count se_count parent level kind snum xx yy lying switched doors (upd2 (upd2 beyond p0.toNatClampNeg (doors p0.toNatClampNeg).toNatClampNeg p1) p1.toNatClampNeg (doors p1.toNatClampNeg).toNatClampNeg p0) offered opn seenb savedb found distance opening) := ⟨hP, hD, hS⟩
  refine lv_aload_n hx hb dX2_join_40 rfl (lv_at hl 0 rfl) ?_
  refine va_get (D := D) (ci := 2) (v := .ref (ad 1)) (C := RX2) (T := TX2) (N := 3) hx hb hts lX2_join_X2 hown hK w.1 2 rfl rfl 0 (by decide) (hts _ mX2_join_1) (fun _ h9 => h9) rfl dX2_join_41 ?_
  refine va_get (D := D) (ci := 0) (v := .ref (ad 15)) (C := RX0) (T := TX0) (N := 14) hx hb hts lX2_join_X0 hown hK w.1 1 rfl rfl 12 (by decide) (hts _ mX2_join_4) (fun _ h9 => h9) rfl dX2_join_44 ?_
  refine lv_iload_n hx hb dX2_join_47 rfl (lv_at hl 1 rfl) ?_
  refine lv_dup2_11 hx hb dX2_join_48 rfl rfl ?_
  obtain ⟨g7, h⟩ := gd_some h
  refine va_iald hx hb hK w.1 15 0 rfl rfl g7 dX2_join_49 ?_
  refine lv_iconst (v := 1) hx hb dX2_join_50 (by decide) ?_
  refine lv_iadd hx hb dX2_join_51 ?_
  obtain ⟨g8, h⟩ := gd_some h
  refine va_iast hx hb hK w.1 w.2.1 w.2.2 15 0 rfl rfl g8 dX2_join_52 (fun H locs hP hD hS => ?_)
  have w : Wd D A s H locs (wC kA ad lq_situation adv_rooms adv_levels adv_goalRoom adv_allDoors dr_state dr_count se_count parent level kind snum xx yy lying switched (upd doors p0.toNatClampNeg ((doors p0.toNatClampNeg) + (1 : Int32))) (upd2 (upd2 beyond p0.toNatClampNeg (doors p0.toNatClampNeg).toNatClampNeg p1) p1.toNatClampNeg (doors p1.toNatClampNeg).toNatClampNeg p0) offered opn seenb savedb found distance opening) := ⟨hP, hD, hS⟩
  refine lv_aload_n hx hb dX2_join_53 rfl (lv_at hl 0 rfl) ?_
  refine va_get (D := D) (ci := 2) (v := .ref (ad 1)) (C := RX2) (T := TX2) (N := 3) hx hb hts lX2_join_X2 hown hK w.1 2 rfl rfl 0 (by decide) (hts _ mX2_join_1) (fun _ h9 => h9) rfl dX2_join_54 ?_
  refine va_get (D := D) (ci := 0) (v := .ref (ad 15)) (C := RX0) (T := TX0) (N := 14) hx hb hts lX2_join_X0 hown hK w.1 1 rfl rfl 12 (by decide) (hts _ mX2_join_4) (fun _ h9 => h9) rfl dX2_join_57 ?_
  refine lv_iload_n hx hb dX2_join_60 rfl (lv_at hl 2 rfl) ?_
  refine lv_dup2_11 hx hb dX2_join_61 rfl rfl ?_
  obtain ⟨g9, h⟩ := gd_some h
  refine va_iald hx hb hK w.1 15 0 rfl rfl g9 dX2_join_62 ?_
  refine lv_iconst (v := 1) hx hb dX2_join_63 (by decide) ?_
  refine lv_iadd hx hb dX2_join_64 ?_
  obtain ⟨g10, h⟩ := gd_some h
  refine va_iast hx hb hK w.1 w.2.1 w.2.2 15 0 rfl rfl g10 dX2_join_65 (fun H locs hP hD hS => ?_)
  have w : Wd D A s H locs (wC kA ad lq_situation adv_rooms adv_levels adv_goalRoom adv_allDoors dr_state dr_count se_count parent level kind snum xx yy lying switched (upd (upd doors p0.toNatClampNeg ((doors p0.toNatClampNeg) + (1 : Int32))) p1.toNatClampNeg (((upd doors p0.toNatClampNeg ((doors p0.toNatClampNeg) + (1 : Int32))) p1.toNatClampNeg) + (1 : Int32))) (upd2 (upd2 beyond p0.toNatClampNeg (doors p0.toNatClampNeg).toNatClampNeg p1) p1.toNatClampNeg (doors p1.toNatClampNeg).toNatClampNeg p0) offered opn seenb savedb found distance opening) := ⟨hP, hD, hS⟩
  refine lv_aload_n hx hb dX2_join_66 rfl (lv_at hl 0 rfl) ?_
  refine va_get (D := D) (ci := 2) (v := .ref (ad 1)) (C := RX2) (T := TX2) (N := 3) hx hb hts lX2_join_X2 hown hK w.1 2 rfl rfl 0 (by decide) (hts _ mX2_join_1) (fun _ h9 => h9) rfl dX2_join_67 ?_
  refine lv_dup hx hb dX2_join_70 rfl ?_
  refine va_get (D := D) (ci := 0) (v := .int adv_allDoors) (C := RX0) (T := TX0) (N := 14) hx hb hts lX2_join_X0 hown hK w.1 1 rfl rfl 3 (by decide) (hts _ mX2_join_5) (fun _ h9 => h9) rfl dX2_join_71 ?_
  refine lv_iconst (v := 1) hx hb dX2_join_74 (by decide) ?_
  refine lv_iadd hx hb dX2_join_75 ?_
  refine va_put (D := D) (ci := 0) (v := .int (adv_allDoors + (1 : Int32))) (ty := .int) (C := RX0) (T := TX0) (N := 14) hx hb hts lX2_join_X0 tyX0 tyX0_ok nmX0 hown hK w.1 w.2.1 w.2.2 1 rfl rfl 3 (by decide) (hts _ mX2_join_5) (fun _ h9 => h9) rfl (by decide +kernel) rfl rfl (Nat.le_of_ble_eq_true rfl) dX2_join_76 (fun H locs hP hD hS => ?_)
  have w : Wd D A s H locs (wC kA ad lq_situation adv_rooms adv_levels adv_goalRoom (adv_allDoors + (1 : Int32)) dr_state dr_count se_count parent level kind snum xx yy lying switched (upd (upd doors p0.toNatClampNeg ((doors p0.toNatClampNeg) + (1 : Int32))) p1.toNatClampNeg (((upd doors p0.toNatClampNeg ((doors p0.toNatClampNeg) + (1 : Int32))) p1.toNatClampNeg) + (1 : Int32))) (upd2 (upd2 beyond p0.toNatClampNeg (doors p0.toNatClampNeg).toNatClampNeg p1) p1.toNatClampNeg (doors p1.toNatClampNeg).toNatClampNeg p0) offered opn seenb savedb found distance opening) := ⟨hP, hD, hS⟩
  exact hret _ _ _ _ _ _ _ dX2_join_79 w (Option.some.inj h)
set_option maxHeartbeats 4000000 in
set_option maxRecDepth 100000 in
theorem c_X2_join (l : Launch) (D : va_G) (kA : Nat → ClassId) (ad : Nat → Nat) (sz : Nat) (lq_situation : Int32) (adv_rooms : Int32) (adv_levels : Int32) (adv_goalRoom : Int32) (adv_allDoors : Int32) (dr_state : Int64) (dr_count : Int32) (se_count : Int32) (parent : Nat → Int32) (level : Nat → Int32) (kind : Nat → Int32) (snum : Nat → Int32) (xx : Nat → Int32) (yy : Nat → Int32) (lying : Nat → Int32) (switched : Nat → Int32) (doors : Nat → Int32) (beyond : Nat → Nat → Int32) (offered : Nat → Int32) (opn : Nat → Int32) (seenb : Nat → Int64) (savedb : Nat → Int64) (found : Nat → Int32) (distance : Nat → Int32) (opening : Nat → Int32) (p0 : Int32) (p1 : Int32) {res : Int32 × (Nat → Int32) × (Nat → Nat → Int32)} (h : f_X2_join p0 p1 adv_allDoors doors beyond = some res) : Cv l yX2_join wsX2_join rm_X2_join D kA [.ref (ad 2), .int p0, .int p1] sz (wC kA ad lq_situation adv_rooms adv_levels adv_goalRoom adv_allDoors dr_state dr_count se_count parent level kind snum xx yy lying switched doors beyond offered opn seenb savedb found distance opening) (wC kA ad lq_situation adv_rooms adv_levels adv_goalRoom res.1 dr_state dr_count se_count parent level kind snum xx yy lying switched res.2.1 res.2.2 offered opn seenb savedb found distance opening) := by
  refine Met.ofW (cc := cX2_join) (maxL := 3) (ret := none) (by decide) rfl ?_
  intro p e s m args below meth c s₁ B hml hv
  obtain ⟨rfl, hsz, hP, hK, hD0, hX⟩ := hv
  subst hsz
  have hts := atoms_spec (ws := wsX2_join) B.pre
  have hl := lv_entry ([.ref (ad 2), .int p0, .int p1]) (n := 3) (Nat.le_of_ble_eq_true rfl)
  rw [lg_entry_eq]
  have hlocks := B.notSynchronized
  refine t_X2_join (A := va_A (wC kA ad lq_situation adv_rooms adv_levels adv_goalRoom adv_allDoors dr_state dr_count se_count parent level kind snum xx yy lying switched doors beyond offered opn seenb savedb found distance opening) s.heap.size) ⟨⟨B.exec, B.bytes, hml, findClass_of_methodNamed B.named, hts⟩, hK, fun q h => Or.inr h, hX⟩ (fun q0 q1 q2 H locs ls pc hd w hres => ?_) ⟨hP, hD0.self, va_S.rf⟩ hl h
  subst hres
  exact W.vret B.exec B.bytes B.returns (fun t ht hW => ⟨⟨(), rfl, trivial, by rw [ht]; exact w.1, va_K.moved hW.alike hK, w.2.1⟩, w.2.2.F ht⟩) w.2.2.2.2 hd hlocks
-- ('wC', 'LockQuest$Maker', 'joinFamilies', '()V', ('mk',))
abbrev rm_X2_joinFamilies : Room := { frames := 1, cells := 0, slots := 0, locals := 22 }
set_option maxRecDepth 20000 in
theorem lX2_joinFamilies_X2 : ∀ w ∈ wsX20, w ∈ wsX2_joinFamilies := by decide +kernel
set_option maxRecDepth 20000 in
theorem mX2_joinFamilies_1 : Cond.fieldLink RX2 22 "LockQuest$Maker" "made" "LLockQuest$Adventure;" ∈ wsX2_joinFamilies := by decide +kernel
set_option maxRecDepth 20000 in
theorem lX2_joinFamilies_X0 : ∀ w ∈ wsX00, w ∈ wsX2_joinFamilies := by decide +kernel
set_option maxRecDepth 20000 in
theorem mX2_joinFamilies_3 : Cond.fieldLink RX2 33 "LockQuest$Adventure" "rooms" "I" ∈ wsX2_joinFamilies := by decide +kernel
set_option maxRecDepth 20000 in
theorem mX2_joinFamilies_4 : Cond.fieldLink RX2 98 "LockQuest$Adventure" "parent" "[I" ∈ wsX2_joinFamilies := by decide +kernel
def fb_X2_joinFamilies_2 (adv_rooms : Int32) (parent : Nat → Int32) (k2 : Int32 → Int32 → (Nat → Int32) → (Nat → Nat → Int32) → Option (Int32 × (Nat → Int32) × (Nat → Nat → Int32))) (x1 : Int32) (adv_allDoors : Int32) (doors : Nat → Int32) (beyond : Nat → Nat → Int32) : Option (Int32 × (Nat → Int32) × (Nat → Nat → Int32)) := if adv_rooms ≤ x1 then (some (adv_allDoors, doors, beyond)) else (gd (x1 < 0 ∨ 12 ≤ x1.toNatClampNeg) ((f_X2_join x1 (parent x1.toNatClampNeg) adv_allDoors doors beyond).bind (fun u3 => k2 (x1 + (1 : Int32)) u3.1 u3.2.1 u3.2.2)))
set_option maxHeartbeats 4000000 in
set_option maxRecDepth 100000 in
theorem tb_X2_joinFamilies_2 {p : Program} {l : Launch} {e : Env} {s : State} {m : MethodId} {args : Array Value} {below : List Frame} {meth : Method} {c : Code} {Q : State → Prop} {D : va_G} {kA : Nat → ClassId} {ad : Nat → Nat} {A : Nat → Prop} {lq_situation : Int32} {adv_rooms : Int32} {adv_levels : Int32} {adv_goalRoom : Int32} {adv_allDoors : Int32} {dr_state : Int64} {dr_count : Int32} {se_count : Int32} {parent : Nat → Int32} {level : Nat → Int32} {kind : Nat → Int32} {snum : Nat → Int32} {xx : Nat → Int32} {yy : Nat → Int32} {lying : Nat → Int32} {switched : Nat → Int32} {doors : Nat → Int32} {beyond : Nat → Nat → Int32} {offered : Nat → Int32} {opn : Nat → Int32} {seenb : Nat → Int64} {savedb : Nat → Int64} {found : Nat → Int32} {distance : Nat → Int32} {opening : Nat → Int32} {x1 : Int32} {k2 : Int32 → Int32 → (Nat → Int32) → (Nat → Nat → Int32) → Option (Int32 × (Nat → Int32) × (Nat → Nat → Int32))} {res : Int32 × (Nat → Int32) × (Nat → Nat → Int32)} (C : Cx p s m c args cX2_joinFamilies 2 RX2 wsX2_joinFamilies D kA A) (hk2 : ∀ (x1 : Int32) (adv_allDoors : Int32) (doors : Nat → Int32) (beyond : Nat → Nat → Int32) (H : Heap) (locs : List Loc) (ls : Array Slot), Wd D A s H locs (wC kA ad lq_situation adv_rooms adv_levels adv_goalRoom adv_allDoors dr_state dr_count se_count parent level kind snum xx yy lying switched doors beyond offered opn seenb savedb found distance opening) → lv_has ls 2 [(0, .ref (ad 2)), (1, .int x1)] → k2 x1 adv_allDoors doors beyond = some res → W p l e rm_X2_joinFamilies s m args below meth c H locs 0 0 Q (F0 m 2 ls [])) (hret : ∀ (q0 : Int32) (q1 : Nat → Int32) (q2 : Nat → Nat → Int32) (H : Heap) (locs : List Loc) (ls : Array Slot) (pc : Nat), decode cX2_joinFamilies pc = .ok (.return_, 1) → Wd D A s H locs (wC kA ad lq_situation adv_rooms adv_levels adv_goalRoom q0 dr_state dr_count se_count parent level kind snum xx yy lying switched q1 q2 offered opn seenb savedb found distance opening) → (q0, q1, q2) = res → W p l e rm_X2_joinFamilies s m args below meth c H locs 0 0 Q (F0 m pc ls [])) {H : Heap} {locs : List Loc} {ls : Array Slot} (w : Wd D A s H locs (wC kA ad lq_situation adv_rooms adv_levels adv_goalRoom adv_allDoors dr_state dr_count se_count parent level kind snum xx yy lying switched doors beyond offered opn seenb savedb found distance opening)) (hl : lv_has ls 2 [(0, .ref (ad 2)), (1, .int x1)]) (h : fb_X2_joinFamilies_2 adv_rooms parent k2 x1 adv_allDoors doors beyond = some res) : W p l e rm_X2_joinFamilies s m args below meth c H locs 0 0 Q (F0 m 2 ls []) := by
  obtain ⟨⟨hx, hb, hml, hown, hts⟩, hK, -, -⟩ := id C
  unfold fb_X2_joinFamilies_2 at h
  refine lv_iload_n hx hb dX2_joinFamilies_2 rfl (lv_at hl 1 rfl) ?_
  refine lv_aload_n hx hb dX2_joinFamilies_3 rfl (lv_at hl 0 rfl) ?_
  refine va_get (D := D) (ci := 2) (v := .ref (ad 1)) (C := RX2) (T := TX2) (N := 3) hx hb hts lX2_joinFamilies_X2 hown hK w.1 2 rfl rfl 0 (by decide) (hts _ mX2_joinFamilies_1) (fun _ h9 => h9) rfl dX2_joinFamilies_4 ?_
  refine va_get (D := D) (ci := 0) (v := .int adv_rooms) (C := RX0) (T := TX0) (N := 14) hx hb hts lX2_joinFamilies_X0 hown hK w.1 1 rfl rfl 0 (by decide) (hts _ mX2_joinFamilies_3) (fun _ h9 => h9) rfl dX2_joinFamilies_7 ?_
  refine lv_icmp_ge (tgt := 33) hx hb dX2_joinFamilies_10 (by decide) (fun g1 => ?_) (fun g1 => ?_)
  · replace h := it_pos g1 h
    exact hret _ _ _ _ _ _ _ dX2_joinFamilies_33 w (Option.some.inj h)
  · replace h := it_neg g1 h
    refine lv_aload_n hx hb dX2_joinFamilies_13 rfl (lv_at hl 0 rfl) ?_
    refine lv_iload_n hx hb dX2_joinFamilies_14 rfl (lv_at hl 1 rfl) ?_
    refine lv_aload_n hx hb dX2_joinFamilies_15 rfl (lv_at hl 0 rfl) ?_
    refine va_get (D := D) (ci := 2) (v := .ref (ad 1)) (C := RX2) (T := TX2) (N := 3) hx hb hts lX2_joinFamilies_X2 hown hK w.1 2 rfl rfl 0 (by decide) (hts _ mX2_joinFamilies_1) (fun _ h9 => h9) rfl dX2_joinFamilies_16 ?_
    refine va_get (D := D) (ci := 0) (v := .ref (ad 7)) (C := RX0) (T := TX0) (N := 14) hx hb hts lX2_joinFamilies_X0 hown hK w.1 1 rfl rfl 4 (by decide) (hts _ mX2_joinFamilies_4) (fun _ h9 => h9) rfl dX2_joinFamilies_19 ?_
    refine lv_iload_n hx hb dX2_joinFamilies_22 rfl (lv_at hl 1 rfl) ?_
    obtain ⟨g2, h⟩ := gd_some h
    refine va_iald hx hb hK w.1 7 0 rfl rfl g2 dX2_joinFamilies_23 ?_
    obtain ⟨u3, hc3, h⟩ := bd_some h
    refine gl_callv C w (va_runV (As := [.int x1, .int (parent x1.toNatClampNeg)]) (rest := []) ⟨hx, hb, hml, hown, hts⟩ (c_X2_join l D kA ad H.size lq_situation adv_rooms adv_levels adv_goalRoom adv_allDoors dr_state dr_count se_count parent level kind snum xx yy lying switched doors beyond offered opn seenb savedb found distance opening x1 (parent x1.toNatClampNeg) hc3) (cwV 2 hts gX2_joinFamilies_X2_join rfl rfl rfl (by decide +kernel) ⟨Nat.le_of_ble_eq_true rfl, Nat.le_of_ble_eq_true rfl⟩) (Wd.preV C w (q0 := 2) (ci := 2) rfl rfl rfl) rfl rfl hl.1 rfl (lv_room (Nat.le_of_ble_eq_true rfl)) dX2_joinFamilies_24 ⟨Nat.zero_le _, Nat.zero_le _⟩) (fun H locs w => ?_)
    refine lv_iinc (v := (x1 + (1 : Int32))) (lv' := [(1, .int (x1 + (1 : Int32))), (0, .ref (ad 2))]) hx hb dX2_joinFamilies_27 hl (k := 1) rfl rfl (by decide) rfl (fun ls hl => ?_)
    refine lv_goto (tgt := 2) hx hb dX2_joinFamilies_30 (by decide) ?_
    exact hk2 _ _ _ _ H locs ls w (lv_sub hl [1, 0] rfl) h
def f_X2_joinFamilies_2 (adv_rooms : Int32) (parent : Nat → Int32) (x1 : Int32) (adv_allDoors : Int32) (doors : Nat → Int32) (beyond : Nat → Nat → Int32) : Option (Int32 × (Nat → Int32) × (Nat → Nat → Int32)) := lp (σ := Int32 × Int32 × (Nat → Int32) × (Nat → Nat → Int32)) (fun k st => fb_X2_joinFamilies_2 adv_rooms parent (fun x1 adv_allDoors doors beyond => k (x1, adv_allDoors, doors, beyond)) st.1 st.2.1 st.2.2.1 st.2.2.2) fuel (x1, adv_allDoors, doors, beyond)
set_option maxHeartbeats 4000000 in
set_option maxRecDepth 100000 in
theorem t_X2_joinFamilies_2 {p : Program} {l : Launch} {e : Env} {s : State} {m : MethodId} {args : Array Value} {below : List Frame} {meth : Method} {c : Code} {Q : State → Prop} {D : va_G} {kA : Nat → ClassId} {ad : Nat → Nat} {A : Nat → Prop} {lq_situation : Int32} {adv_rooms : Int32} {adv_levels : Int32} {adv_goalRoom : Int32} {adv_allDoors : Int32} {dr_state : Int64} {dr_count : Int32} {se_count : Int32} {parent : Nat → Int32} {level : Nat → Int32} {kind : Nat → Int32} {snum : Nat → Int32} {xx : Nat → Int32} {yy : Nat → Int32} {lying : Nat → Int32} {switched : Nat → Int32} {doors : Nat → Int32} {beyond : Nat → Nat → Int32} {offered : Nat → Int32} {opn : Nat → Int32} {seenb : Nat → Int64} {savedb : Nat → Int64} {found : Nat → Int32} {distance : Nat → Int32} {opening : Nat → Int32} {x1 : Int32} {res : Int32 × (Nat → Int32) × (Nat → Nat → Int32)} (C : Cx p s m c args cX2_joinFamilies 2 RX2 wsX2_joinFamilies D kA A) (hret : ∀ (q0 : Int32) (q1 : Nat → Int32) (q2 : Nat → Nat → Int32) (H : Heap) (locs : List Loc) (ls : Array Slot) (pc : Nat), decode cX2_joinFamilies pc = .ok (.return_, 1) → Wd D A s H locs (wC kA ad lq_situation adv_rooms adv_levels adv_goalRoom q0 dr_state dr_count se_count parent level kind snum xx yy lying switched q1 q2 offered opn seenb savedb found distance opening) → (q0, q1, q2) = res → W p l e rm_X2_joinFamilies s m args below meth c H locs 0 0 Q (F0 m pc ls [])) {H : Heap} {locs : List Loc} {ls : Array Slot} (w : Wd D A s H locs (wC kA ad lq_situation adv_rooms adv_levels adv_goalRoom adv_allDoors dr_state dr_count se_count parent level kind snum xx yy lying switched doors beyond offered opn seenb savedb found distance opening)) (hl : lv_has ls 2 [(0, .ref (ad 2)), (1, .int x1)]) (h : f_X2_joinFamilies_2 adv_rooms parent x1 adv_allDoors doors beyond = some res) : W p l e rm_X2_joinFamilies s m args below meth c H locs 0 0 Q (F0 m 2 ls []) := by
  unfold f_X2_joinFamilies_2 at h
  exact lp_ind (P := (fun (st : Int32 × Int32 × (Nat → Int32) × (Nat → Nat → Int32)) => ∀ (H : Heap) (locs : List Loc) (ls : Array Slot), Wd D A s H locs (wC kA ad lq_situation adv_rooms adv_levels adv_goalRoom st.2.1 dr_state dr_count se_count parent level kind snum xx yy lying switched st.2.2.1 st.2.2.2 offered opn seenb savedb found distance opening) → lv_has ls 2 [(0, .ref (ad 2)), (1, .int st.1)] → W p l e rm_X2_joinFamilies s m args below meth c H locs 0 0 Q (F0 m 2 ls []))) (fun k hk st h H locs ls w hl => tb_X2_joinFamilies_2 C  (fun a0 a1 a2 a3 H locs ls w hl h => hk (a0, a1, a2, a3) h H locs ls w hl) hret w hl h) fuel (x1, adv_allDoors, doors, beyond) h H locs ls w hl
def f_X2_joinFamilies  (adv_rooms : Int32) (adv_allDoors : Int32) (parent : Nat → Int32) (doors : Nat → Int32) (beyond : Nat → Nat → Int32) : Option (Int32 × (Nat → Int32) × (Nat → Nat → Int32)) := f_X2_joinFamilies_2 adv_rooms parent (1 : Int32) adv_allDoors doors beyond
set_option maxHeartbeats 4000000 in
set_option maxRecDepth 100000 in
theorem t_X2_joinFamilies {p : Program} {l : Launch} {e : Env} {s : State} {m : MethodId} {args : Array Value} {below : List Frame} {meth : Method} {c : Code} {Q : State → Prop} {D : va_G} {kA : Nat → ClassId} {ad : Nat → Nat} {A : Nat → Prop} {lq_situation : Int32} {adv_rooms : Int32} {adv_levels : Int32} {adv_goalRoom : Int32} {adv_allDoors : Int32} {dr_state : Int64} {dr_count : Int32} {se_count : Int32} {parent : Nat → Int32} {level : Nat → Int32} {kind : Nat → Int32} {snum : Nat → Int32} {xx : Nat → Int32} {yy : Nat → Int32} {lying : Nat → Int32} {switched : Nat → Int32} {doors : Nat → Int32} {beyond : Nat → Nat → Int32} {offered : Nat → Int32} {opn : Nat → Int32} {seenb : Nat → Int64} {savedb : Nat → Int64} {found : Nat → Int32} {distance : Nat → Int32} {opening : Nat → Int32}  {res : Int32 × (Nat → Int32) × (Nat → Nat → Int32)} (C : Cx p s m c args cX2_joinFamilies 2 RX2 wsX2_joinFamilies D kA A) (hret : ∀ (q0 : Int32) (q1 : Nat → Int32) (q2 : Nat → Nat → Int32) (H : Heap) (locs : List Loc) (ls : Array Slot) (pc : Nat), decode cX2_joinFamilies pc = .ok (.return_, 1) → Wd D A s H locs (wC kA ad lq_situation adv_rooms adv_levels adv_goalRoom q0 dr_state dr_count se_count parent level kind snum xx yy lying switched q1 q2 offered opn seenb savedb found distance opening) → (q0, q1, q2) = res → W p l e rm_X2_joinFamilies s m args below meth c H locs 0 0 Q (F0 m pc ls [])) {H : Heap} {locs : List Loc} {ls : Array Slot} (w : Wd D A s H locs (wC kA ad lq_situation adv_rooms adv_levels adv_goalRoom adv_allDoors dr_state dr_count se_count parent level kind snum xx yy lying switched doors beyond offered opn seenb savedb found distance opening)) (hl : lv_has ls 2 [(0, .ref (ad 2))]) (h : f_X2_joinFamilies  adv_rooms adv_allDoors parent doors beyond = some res) : W p l e rm_X2_joinFamilies s m args below meth c H locs 0 0 Q (F0 m 0 ls []) := by
  obtain ⟨⟨hx, hb, hml, hown, hts⟩, hK, -, -⟩ := id C
  unfold f_X2_joinFamilies at h
  refine lv_iconst (v := 1) hx hb dX2_joinFamilies_0 (by decide) ?_
  refine lv_istore_n (lv' := [(1, .int (1 : Int32)), (0, .ref (ad 2))]) hx hb dX2_joinFamilies_1 rfl hl (by decide) rfl (fun ls hl => ?_)
  exact t_X2_joinFamilies_2 C  hret w (lv_sub hl [1, 0] rfl) h
set_option maxHeartbeats 4000000 in
set_option maxRecDepth 100000 in
theorem c_X2_joinFamilies (l : Launch) (D : va_G) (kA : Nat → ClassId) (ad : Nat → Nat) (sz : Nat) (lq_situation : Int32) (adv_rooms : Int32) (adv_levels : Int32) (adv_goalRoom : Int32) (adv_allDoors : Int32) (dr_state : Int64) (dr_count : Int32) (se_count : Int32) (parent : Nat → Int32) (level : Nat → Int32) (kind : Nat → Int32) (snum : Nat → Int32) (xx : Nat → Int32) (yy : Nat → Int32) (lying : Nat → Int32) (switched : Nat → Int32) (doors : Nat → Int32) (beyond : Nat → Nat → Int32) (offered : Nat → Int32) (opn : Nat → Int32) (seenb : Nat → Int64) (savedb : Nat → Int64) (found : Nat → Int32) (distance : Nat → Int32) (opening : Nat → Int32)  {res : Int32 × (Nat → Int32) × (Nat → Nat → Int32)} (h : f_X2_joinFamilies  adv_rooms adv_allDoors parent doors beyond = some res) : Cv l yX2_joinFamilies wsX2_joinFamilies rm_X2_joinFamilies D kA [.ref (ad 2)] sz (wC kA ad lq_situation adv_rooms adv_levels adv_goalRoom adv_allDoors dr_state dr_count se_count parent level kind snum xx yy lying switched doors beyond offered opn seenb savedb found distance opening) (wC kA ad lq_situation adv_rooms adv_levels adv_goalRoom res.1 dr_state dr_count se_count parent level kind snum xx yy lying switched res.2.1 res.2.2 offered opn seenb savedb found distance opening) := by
  refine Met.ofW (cc := cX2_joinFamilies) (maxL := 2) (ret := none) (by decide) rfl ?_
  intro p e s m args below meth c s₁ B hml hv
  obtain ⟨rfl, hsz, hP, hK, hD0, hX⟩ := hv
  subst hsz
  have hts := atoms_spec (ws := wsX2_joinFamilies) B.pre
  have hl := lv_entry ([.ref (ad 2)]) (n := 2) (Nat.le_of_ble_eq_true rfl)
  rw [lg_entry_eq]
  have hlocks := B.notSynchronized
  refine t_X2_joinFamilies (A := va_A (wC kA ad lq_situation adv_rooms adv_levels adv_goalRoom adv_allDoors dr_state dr_count se_count parent level kind snum xx yy lying switched doors beyond offered opn seenb savedb found distance opening) s.heap.size) ⟨⟨B.exec, B.bytes, hml, findClass_of_methodNamed B.named, hts⟩, hK, fun q h => Or.inr h, hX⟩ (fun q0 q1 q2 H locs ls pc hd w hres => ?_) ⟨hP, hD0.self, va_S.rf⟩ hl h
  subst hres
  exact W.vret B.exec B.bytes B.returns (fun t ht hW => ⟨⟨(), rfl, trivial, by rw [ht]; exact w.1, va_K.moved hW.alike hK, w.2.1⟩, w.2.2.F ht⟩) w.2.2.2.2 hd hlocks
