-- ('wC', 'LockQuest', 'isWithin', '(III)Z', (None, None, None))
abbrev rm_X6_isWithin : Room := { frames := 0, cells := 0, slots := 0, locals := 0 }
def f_X6_isWithin (p0 : Int32) (p1 : Int32) (p2 : Int32)  : Option (Int32) := if p0 < p1 then (some (0 : Int32)) else (if p2 < p0 then (some (0 : Int32)) else (some (1 : Int32)))
set_option maxHeartbeats 4000000 in
set_option maxRecDepth 100000 in
theorem t_X6_isWithin {p : Program} {l : Launch} {e : Env} {s : State} {m : MethodId} {args : Array Value} {below : List Frame} {meth : Method} {c : Code} {Q : State → Prop} {D : va_G} {kA : Nat → ClassId} {ad : Nat → Nat} {A : Nat → Prop} {lq_situation : Int32} {adv_rooms : Int32} {adv_levels : Int32} {adv_goalRoom : Int32} {adv_allDoors : Int32} {dr_state : Int64} {dr_count : Int32} {se_count : Int32} {parent : Nat → Int32} {level : Nat → Int32} {kind : Nat → Int32} {snum : Nat → Int32} {xx : Nat → Int32} {yy : Nat → Int32} {lying : Nat → Int32} {switched : Nat → Int32} {doors : Nat → Int32} {beyond : Nat → Nat → Int32} {offered : Nat → Int32} {opn : Nat → Int32} {seenb : Nat → Int64} {savedb : Nat → Int64} {found : Nat → Int32} {distance : Nat → Int32} {opening : Nat → Int32} {p0 : Int32} {p1 : Int32} {p2 : Int32} {res : Int32} (C : Cx p s m c args cX6_isWithin 3 RX6 wsX6_isWithin D kA A) (hret : ∀ (r : Int32) (H : Heap) (locs : List Loc) (ls : Array Slot) (pc : Nat), decode cX6_isWithin pc = .ok (.ireturn, 1) → narrow .boolean (.int r) = .int r → Wd D A s H locs (wC kA ad lq_situation adv_rooms adv_levels adv_goalRoom adv_allDoors dr_state dr_count se_count parent level kind snum xx yy lying switched doors beyond offered opn seenb savedb found distance opening) → r = res → W p l e rm_X6_isWithin s m args below meth c H locs 0 0 Q (F0 m pc ls [.int r])) {H : Heap} {locs : List Loc} {ls : Array Slot} (w : Wd D A s H locs (wC kA ad lq_situation adv_rooms adv_levels adv_goalRoom adv_allDoors dr_state dr_count se_count parent level kind snum xx yy lying switched doors beyond offered opn seenb savedb found distance opening)) (hl : lv_has ls 3 [(0, .int p0), (1, .int p1), (2, .int p2)]) (h : f_X6_isWithin p0 p1 p2  = some res) : W p l e rm_X6_isWithin s m args below meth c H locs 0 0 Q (F0 m 0 ls []) := by
  obtain ⟨⟨hx, hb, hml, hown, hts⟩, hK, -, -⟩ := id C
  unfold f_X6_isWithin at h
  refine lv_iload_n hx hb dX6_isWithin_0 rfl (lv_at hl 0 rfl) ?_
  refine lv_iload_n hx hb dX6_isWithin_1 rfl (lv_at hl 1 rfl) ?_
  refine lv_icmp_lt (tgt := 14) hx hb dX6_isWithin_2 (by decide) (fun g1 => ?_) (fun g1 => ?_)
  · replace h := it_pos g1 h
    refine lv_iconst (v := 0) hx hb dX6_isWithin_14 (by decide) ?_
    exact hret _ _ _ _ _ dX6_isWithin_15 rfl w (Option.some.inj h)
  · replace h := it_neg g1 h
    refine lv_iload_n hx hb dX6_isWithin_5 rfl (lv_at hl 0 rfl) ?_
    refine lv_iload_n hx hb dX6_isWithin_6 rfl (lv_at hl 2 rfl) ?_
    refine lv_icmp_gt (tgt := 14) hx hb dX6_isWithin_7 (by decide) (fun g2 => ?_) (fun g2 => ?_)
    · replace h := it_pos g2 h
      refine lv_iconst (v := 0) hx hb dX6_isWithin_14 (by decide) ?_
      exact hret _ _ _ _ _ dX6_isWithin_15 rfl w (Option.some.inj h)
    · replace h := it_neg g2 h
      refine lv_iconst (v := 1) hx hb dX6_isWithin_10 (by decide) ?_
      refine lv_goto (tgt := 15) hx hb dX6_isWithin_11 (by decide) ?_
      exact hret _ _ _ _ _ dX6_isWithin_15 rfl w (Option.some.inj h)
set_option maxHeartbeats 4000000 in
set_option maxRecDepth 100000 in
theorem c_X6_isWithin (l : Launch) (D : va_G) (kA : Nat → ClassId) (ad : Nat → Nat) (sz : Nat) (lq_situation : Int32) (adv_rooms : Int32) (adv_levels : Int32) (adv_goalRoom : Int32) (adv_allDoors : Int32) (dr_state : Int64) (dr_count : Int32) (se_count : Int32) (parent : Nat → Int32) (level : Nat → Int32) (kind : Nat → Int32) (snum : Nat → Int32) (xx : Nat → Int32) (yy : Nat → Int32) (lying : Nat → Int32) (switched : Nat → Int32) (doors : Nat → Int32) (beyond : Nat → Nat → Int32) (offered : Nat → Int32) (opn : Nat → Int32) (seenb : Nat → Int64) (savedb : Nat → Int64) (found : Nat → Int32) (distance : Nat → Int32) (opening : Nat → Int32) (p0 : Int32) (p1 : Int32) (p2 : Int32) {res : Int32} (h : f_X6_isWithin p0 p1 p2  = some res) : Ci l yX6_isWithin wsX6_isWithin rm_X6_isWithin D kA [.int p0, .int p1, .int p2] sz (wC kA ad lq_situation adv_rooms adv_levels adv_goalRoom adv_allDoors dr_state dr_count se_count parent level kind snum xx yy lying switched doors beyond offered opn seenb savedb found distance opening) (wC kA ad lq_situation adv_rooms adv_levels adv_goalRoom adv_allDoors dr_state dr_count se_count parent level kind snum xx yy lying switched doors beyond offered opn seenb savedb found distance opening) res := by
  refine Met.ofW (cc := cX6_isWithin) (maxL := 3) (ret := (some .boolean)) (by decide) rfl ?_
  intro p e s m args below meth c s₁ B hml hv
  obtain ⟨rfl, hsz, hP, hK, hD0, hX⟩ := hv
  subst hsz
  have hts := atoms_spec (ws := wsX6_isWithin) B.pre
  have hl := lv_entry ([.int p0, .int p1, .int p2]) (n := 3) (Nat.le_of_ble_eq_true rfl)
  rw [lg_entry_eq]
  have hlocks := B.notSynchronized
  refine t_X6_isWithin (A := va_A (wC kA ad lq_situation adv_rooms adv_levels adv_goalRoom adv_allDoors dr_state dr_count se_count parent level kind snum xx yy lying switched doors beyond offered opn seenb savedb found distance opening) s.heap.size) ⟨⟨B.exec, B.bytes, hml, findClass_of_methodNamed B.named, hts⟩, hK, fun q h => Or.inr h, hX⟩ (fun r H locs ls pc hd hz w hres => ?_) ⟨hP, hD0.self, va_S.rf⟩ hl h
  subst hres
  exact W.zret B.exec B.bytes B.returns hz (fun t ht hW => ⟨⟨_, (), rfl, rfl, by rw [ht]; exact w.1, va_K.moved hW.alike hK, w.2.1⟩, w.2.2.F ht⟩) w.2.2.2.2 hd hlocks
-- ('wC', 'LockQuest$Drawing', 'begin', '(J)V', ('dr', None))
abbrev rm_X1_begin : Room := { frames := 0, cells := 0, slots := 0, locals := 0 }
set_option maxRecDepth 20000 in
theorem lX1_begin_X1 : ∀ w ∈ wsX10, w ∈ wsX1_begin := by decide +kernel
set_option maxRecDepth 20000 in
theorem mX1_begin_1 : Cond.fieldLink RX1 15 "LockQuest$Drawing" "state" "J" ∈ wsX1_begin := by decide +kernel
def f_X1_begin (p0 : Int64) (dr_state : Int64) : Option (Int64) := some p0
set_option maxHeartbeats 4000000 in
set_option maxRecDepth 100000 in
theorem t_X1_begin {p : Program} {l : Launch} {e : Env} {s : State} {m : MethodId} {args : Array Value} {below : List Frame} {meth : Method} {c : Code} {Q : State → Prop} {D : va_G} {kA : Nat → ClassId} {ad : Nat → Nat} {A : Nat → Prop} {lq_situation : Int32} {adv_rooms : Int32} {adv_levels : Int32} {adv_goalRoom : Int32} {adv_allDoors : Int32} {dr_state : Int64} {dr_count : Int32} {se_count : Int32} {parent : Nat → Int32} {level : Nat → Int32} {kind : Nat → Int32} {snum : Nat → Int32} {xx : Nat → Int32} {yy : Nat → Int32} {lying : Nat → Int32} {switched : Nat → Int32} {doors : Nat → Int32} {beyond : Nat → Nat → Int32} {offered : Nat → Int32} {opn : Nat → Int32} {seenb : Nat → Int64} {savedb : Nat → Int64} {found : Nat → Int32} {distance : Nat → Int32} {opening : Nat → Int32} {p0 : Int64} {res : Int64} (C : Cx p s m c args cX1_begin 3 RX1 wsX1_begin D kA A) (hret : ∀ (q0 : Int64) (H : Heap) (locs : List Loc) (ls : Array Slot) (pc : Nat), decode cX1_begin pc = .ok (.return_, 1) → Wd D A s H locs (wC kA ad lq_situation adv_rooms adv_levels adv_goalRoom adv_allDoors q0 dr_count se_count parent level kind snum xx yy lying switched doors beyond offered opn seenb savedb found distance opening) → q0 = res → W p l e rm_X1_begin s m args below meth c H locs 0 0 Q (F0 m pc ls [])) {H : Heap} {locs : List Loc} {ls : Array Slot} (w : Wd D A s H locs (wC kA ad lq_situation adv_rooms adv_levels adv_goalRoom adv_allDoors dr_state dr_count se_count parent level kind snum xx yy lying switched doors beyond offered opn seenb savedb found distance opening)) (hl : lv_has ls 3 [(0, .ref (ad 3)), (1, .long p0)]) (h : f_X1_begin p0 dr_state = some res) : W p l e rm_X1_begin s m args below meth c H locs 0 0 Q (F0 m 0 ls []) := by
  obtain ⟨⟨hx, hb, hml, hown, hts⟩, hK, -, -⟩ := id C
  unfold f_X1_begin at h
  refine lv_aload_n hx hb dX1_begin_0 rfl (lv_at hl 0 rfl) ?_
  refine lv_lload_n hx hb dX1_begin_1 rfl (lv_at hl 1 rfl) ?_
  refine va_put (D := D) (ci := 1) (v := .long p0) (ty := .long) (C := RX1) (T := TX1) (N := 3) hx hb hts lX1_begin_X1 tyX1 tyX1_ok nmX1 hown hK w.1 w.2.1 w.2.2 3 rfl rfl 0 (by decide) (hts _ mX1_begin_1) (fun _ h9 => h9) rfl (by decide +kernel) rfl rfl (Nat.le_of_ble_eq_true rfl) dX1_begin_2 (fun H locs hP hD hS => ?_)
  have w : Wd D A s H locs (wC kA ad lq_situation adv_rooms adv_levels adv_goalRoom adv_allDoors p0 dr_count se_count parent level kind snum xx yy lying switched doors beyond offered opn seenb savedb found distance opening) := ⟨hP, hD, hS⟩
  exact hret _ _ _ _ _ dX1_begin_5 w (Option.some.inj h)
set_option maxHeartbeats 4000000 in
set_option maxRecDepth 100000 in
theorem c_X1_begin (l : Launch) (D : va_G) (kA : Nat → ClassId) (ad : Nat → Nat) (sz : Nat) (lq_situation : Int32) (adv_rooms : Int32) (adv_levels : Int32) (adv_goalRoom : Int32) (adv_allDoors : Int32) (dr_state : Int64) (dr_count : Int32) (se_count : Int32) (parent : Nat → Int32) (level : Nat → Int32) (kind : Nat → Int32) (snum : Nat → Int32) (xx : Nat → Int32) (yy : Nat → Int32) (lying : Nat → Int32) (switched : Nat → Int32) (doors : Nat → Int32) (beyond : Nat → Nat → Int32) (offered : Nat → Int32) (opn : Nat → Int32) (seenb : Nat → Int64) (savedb : Nat → Int64) (found : Nat → Int32) (distance : Nat → Int32) (opening : Nat → Int32) (p0 : Int64) {res : Int64} (h : f_X1_begin p0 dr_state = some res) : Cv l yX1_begin wsX1_begin rm_X1_begin D kA [.ref (ad 3), .long p0] sz (wC kA ad lq_situation adv_rooms adv_levels adv_goalRoom adv_allDoors dr_state dr_count se_count parent level kind snum xx yy lying switched doors beyond offered opn seenb savedb found distance opening) (wC kA ad lq_situation adv_rooms adv_levels adv_goalRoom adv_allDoors res dr_count se_count parent level kind snum xx yy lying switched doors beyond offered opn seenb savedb found distance opening) := by
  refine Met.ofW (cc := cX1_begin) (maxL := 3) (ret := none) (by decide) rfl ?_
  intro p e s m args below meth c s₁ B hml hv
  obtain ⟨rfl, hsz, hP, hK, hD0, hX⟩ := hv
  subst hsz
  have hts := atoms_spec (ws := wsX1_begin) B.pre
  have hl := lv_entry ([.ref (ad 3), .long p0]) (n := 3) (Nat.le_of_ble_eq_true rfl)
  rw [lg_entry_eq]
  have hlocks := B.notSynchronized
  refine t_X1_begin (A := va_A (wC kA ad lq_situation adv_rooms adv_levels adv_goalRoom adv_allDoors dr_state dr_count se_count parent level kind snum xx yy lying switched doors beyond offered opn seenb savedb found distance opening) s.heap.size) ⟨⟨B.exec, B.bytes, hml, findClass_of_methodNamed B.named, hts⟩, hK, fun q h => Or.inr h, hX⟩ (fun q0 H locs ls pc hd w hres => ?_) ⟨hP, hD0.self, va_S.rf⟩ hl h
  subst hres
  exact W.vret B.exec B.bytes B.returns (fun t ht hW => ⟨⟨(), rfl, trivial, by rw [ht]; exact w.1, va_K.moved hW.alike hK, w.2.1⟩, w.2.2.F ht⟩) w.2.2.2.2 hd hlocks
-- ('wC', 'java/util/Arrays', 'fill', '([II)V', ('lying', None))
abbrev rm_J7_fill_53178 : Room := { frames := 0, cells := 0, slots := 0, locals := 0 }
def fb_J7_fill_lying_5  (k5 : Int32 → Int32 → Int32 → (Nat → Int32) → Option ((Nat → Int32))) (x1 : Int32) (x2 : Int32) (x3 : Int32) (lying : Nat → Int32) : Option ((Nat → Int32)) := if x3 ≤ x2 then (some lying) else (gd (x2 < 0 ∨ 12 ≤ x2.toNatClampNeg) (k5 x1 (x2 + (1 : Int32)) x3 (upd lying x2.toNatClampNeg x1)))
set_option maxHeartbeats 4000000 in
set_option maxRecDepth 100000 in
theorem tb_J7_fill_lying_5 {p : Program} {l : Launch} {e : Env} {s : State} {m : MethodId} {args : Array Value} {below : List Frame} {meth : Method} {c : Code} {Q : State → Prop} {D : va_G} {kA : Nat → ClassId} {ad : Nat → Nat} {A : Nat → Prop} {lq_situation : Int32} {adv_rooms : Int32} {adv_levels : Int32} {adv_goalRoom : Int32} {adv_allDoors : Int32} {dr_state : Int64} {dr_count : Int32} {se_count : Int32} {parent : Nat → Int32} {level : Nat → Int32} {kind : Nat → Int32} {snum : Nat → Int32} {xx : Nat → Int32} {yy : Nat → Int32} {lying : Nat → Int32} {switched : Nat → Int32} {doors : Nat → Int32} {beyond : Nat → Nat → Int32} {offered : Nat → Int32} {opn : Nat → Int32} {seenb : Nat → Int64} {savedb : Nat → Int64} {found : Nat → Int32} {distance : Nat → Int32} {opening : Nat → Int32} {x1 : Int32} {x2 : Int32} {x3 : Int32} {k5 : Int32 → Int32 → Int32 → (Nat → Int32) → Option ((Nat → Int32))} {res : (Nat → Int32)} (C : Cx p s m c args cJ7_fill_53178 4 RJ7 wsJ7_fill_53178 D kA A) (hk5 : ∀ (x1 : Int32) (x2 : Int32) (x3 : Int32) (lying : Nat → Int32) (H : Heap) (locs : List Loc) (ls : Array Slot), Wd D A s H locs (wC kA ad lq_situation adv_rooms adv_levels adv_goalRoom adv_allDoors dr_state dr_count se_count parent level kind snum xx yy lying switched doors beyond offered opn seenb savedb found distance opening) → lv_has ls 4 [(0, .ref (ad 13)), (1, .int x1), (2, .int x2), (3, .int x3)] → k5 x1 x2 x3 lying = some res → W p l e rm_J7_fill_53178 s m args below meth c H locs 0 0 Q (F0 m 5 ls [])) (hret : ∀ (q0 : Nat → Int32) (H : Heap) (locs : List Loc) (ls : Array Slot) (pc : Nat), decode cJ7_fill_53178 pc = .ok (.return_, 1) → Wd D A s H locs (wC kA ad lq_situation adv_rooms adv_levels adv_goalRoom adv_allDoors dr_state dr_count se_count parent level kind snum xx yy q0 switched doors beyond offered opn seenb savedb found distance opening) → q0 = res → W p l e rm_J7_fill_53178 s m args below meth c H locs 0 0 Q (F0 m pc ls [])) {H : Heap} {locs : List Loc} {ls : Array Slot} (w : Wd D A s H locs (wC kA ad lq_situation adv_rooms adv_levels adv_goalRoom adv_allDoors dr_state dr_count se_count parent level kind snum xx yy lying switched doors beyond offered opn seenb savedb found distance opening)) (hl : lv_has ls 4 [(0, .ref (ad 13)), (1, .int x1), (2, .int x2), (3, .int x3)]) (h : fb_J7_fill_lying_5  k5 x1 x2 x3 lying = some res) : W p l e rm_J7_fill_53178 s m args below meth c H locs 0 0 Q (F0 m 5 ls []) := by
  obtain ⟨⟨hx, hb, hml, hown, hts⟩, hK, -, -⟩ := id C
  unfold fb_J7_fill_lying_5 at h
  refine lv_iload_n hx hb dJ7_fill_53178_5 rfl (lv_at hl 2 rfl) ?_
  refine lv_iload_n hx hb dJ7_fill_53178_6 rfl (lv_at hl 3 rfl) ?_
  refine lv_icmp_ge (tgt := 20) hx hb dJ7_fill_53178_7 (by decide) (fun g1 => ?_) (fun g1 => ?_)
  · replace h := it_pos g1 h
    exact hret _ _ _ _ _ dJ7_fill_53178_20 w (Option.some.inj h)
  · replace h := it_neg g1 h
    refine lv_aload_n hx hb dJ7_fill_53178_10 rfl (lv_at hl 0 rfl) ?_
    refine lv_iload_n hx hb dJ7_fill_53178_11 rfl (lv_at hl 2 rfl) ?_
    refine lv_iload_n hx hb dJ7_fill_53178_12 rfl (lv_at hl 1 rfl) ?_
    obtain ⟨g2, h⟩ := gd_some h
    refine va_iast hx hb hK w.1 w.2.1 w.2.2 13 0 rfl rfl g2 dJ7_fill_53178_13 (fun H locs hP hD hS => ?_)
    have w : Wd D A s H locs (wC kA ad lq_situation adv_rooms adv_levels adv_goalRoom adv_allDoors dr_state dr_count se_count parent level kind snum xx yy (upd lying x2.toNatClampNeg x1) switched doors beyond offered opn seenb savedb found distance opening) := ⟨hP, hD, hS⟩
    refine lv_iinc (v := (x2 + (1 : Int32))) (lv' := [(2, .int (x2 + (1 : Int32))), (0, .ref (ad 13)), (1, .int x1), (3, .int x3)]) hx hb dJ7_fill_53178_14 hl (k := 2) rfl rfl (by decide) rfl (fun ls hl => ?_)
    refine lv_goto (tgt := 5) hx hb dJ7_fill_53178_17 (by decide) ?_
    exact hk5 _ _ _ _ H locs ls w (lv_sub hl [1, 2, 0, 3] rfl) h
def f_J7_fill_lying_5  (x1 : Int32) (x2 : Int32) (x3 : Int32) (lying : Nat → Int32) : Option ((Nat → Int32)) := lp (σ := Int32 × Int32 × Int32 × (Nat → Int32)) (fun k st => fb_J7_fill_lying_5  (fun x1 x2 x3 lying => k (x1, x2, x3, lying)) st.1 st.2.1 st.2.2.1 st.2.2.2) fuel (x1, x2, x3, lying)
set_option maxHeartbeats 4000000 in
set_option maxRecDepth 100000 in
theorem t_J7_fill_lying_5 {p : Program} {l : Launch} {e : Env} {s : State} {m : MethodId} {args : Array Value} {below : List Frame} {meth : Method} {c : Code} {Q : State → Prop} {D : va_G} {kA : Nat → ClassId} {ad : Nat → Nat} {A : Nat → Prop} {lq_situation : Int32} {adv_rooms : Int32} {adv_levels : Int32} {adv_goalRoom : Int32} {adv_allDoors : Int32} {dr_state : Int64} {dr_count : Int32} {se_count : Int32} {parent : Nat → Int32} {level : Nat → Int32} {kind : Nat → Int32} {snum : Nat → Int32} {xx : Nat → Int32} {yy : Nat → Int32} {lying : Nat → Int32} {switched : Nat → Int32} {doors : Nat → Int32} {beyond : Nat → Nat → Int32} {offered : Nat → Int32} {opn : Nat → Int32} {seenb : Nat → Int64} {savedb : Nat → Int64} {found : Nat → Int32} {distance : Nat → Int32} {opening : Nat → Int32} {x1 : Int32} {x2 : Int32} {x3 : Int32} {res : (Nat → Int32)} (C : Cx p s m c args cJ7_fill_53178 4 RJ7 wsJ7_fill_53178 D kA A) (hret : ∀ (q0 : Nat → Int32) (H : Heap) (locs : List Loc) (ls : Array Slot) (pc : Nat), decode cJ7_fill_53178 pc = .ok (.return_, 1) → Wd D A s H locs (wC kA ad lq_situation adv_rooms adv_levels adv_goalRoom adv_allDoors dr_state dr_count se_count parent level kind snum xx yy q0 switched doors beyond offered opn seenb savedb found distance opening) → q0 = res → W p l e rm_J7_fill_53178 s m args below meth c H locs 0 0 Q (F0 m pc ls [])) {H : Heap} {locs : List Loc} {ls : Array Slot} (w : Wd D A s H locs (wC kA ad lq_situation adv_rooms adv_levels adv_goalRoom adv_allDoors dr_state dr_count se_count parent level kind snum xx yy lying switched doors beyond offered opn seenb savedb found distance opening)) (hl : lv_has ls 4 [(0, .ref (ad 13)), (1, .int x1), (2, .int x2), (3, .int x3)]) (h : f_J7_fill_lying_5  x1 x2 x3 lying = some res) : W p l e rm_J7_fill_53178 s m args below meth c H locs 0 0 Q (F0 m 5 ls []) := by
  unfold f_J7_fill_lying_5 at h
  exact lp_ind (P := (fun (st : Int32 × Int32 × Int32 × (Nat → Int32)) => ∀ (H : Heap) (locs : List Loc) (ls : Array Slot), Wd D A s H locs (wC kA ad lq_situation adv_rooms adv_levels adv_goalRoom adv_allDoors dr_state dr_count se_count parent level kind snum xx yy st.2.2.2 switched doors beyond offered opn seenb savedb found distance opening) → lv_has ls 4 [(0, .ref (ad 13)), (1, .int st.1), (2, .int st.2.1), (3, .int st.2.2.1)] → W p l e rm_J7_fill_53178 s m args below meth c H locs 0 0 Q (F0 m 5 ls []))) (fun k hk st h H locs ls w hl => tb_J7_fill_lying_5 C  (fun a0 a1 a2 a3 H locs ls w hl h => hk (a0, a1, a2, a3) h H locs ls w hl) hret w hl h) fuel (x1, x2, x3, lying) h H locs ls w hl
def f_J7_fill_lying (p1 : Int32) (lying : Nat → Int32) : Option ((Nat → Int32)) := f_J7_fill_lying_5 p1 (0 : Int32) (12 : Int32) lying
set_option maxHeartbeats 4000000 in
set_option maxRecDepth 100000 in
theorem t_J7_fill_lying {p : Program} {l : Launch} {e : Env} {s : State} {m : MethodId} {args : Array Value} {below : List Frame} {meth : Method} {c : Code} {Q : State → Prop} {D : va_G} {kA : Nat → ClassId} {ad : Nat → Nat} {A : Nat → Prop} {lq_situation : Int32} {adv_rooms : Int32} {adv_levels : Int32} {adv_goalRoom : Int32} {adv_allDoors : Int32} {dr_state : Int64} {dr_count : Int32} {se_count : Int32} {parent : Nat → Int32} {level : Nat → Int32} {kind : Nat → Int32} {snum : Nat → Int32} {xx : Nat → Int32} {yy : Nat → Int32} {lying : Nat → Int32} {switched : Nat → Int32} {doors : Nat → Int32} {beyond : Nat → Nat → Int32} {offered : Nat → Int32} {opn : Nat → Int32} {seenb : Nat → Int64} {savedb : Nat → Int64} {found : Nat → Int32} {distance : Nat → Int32} {opening : Nat → Int32} {p1 : Int32} {res : (Nat → Int32)} (C : Cx p s m c args cJ7_fill_53178 4 RJ7 wsJ7_fill_53178 D kA A) (hret : ∀ (q0 : Nat → Int32) (H : Heap) (locs : List Loc) (ls : Array Slot) (pc : Nat), decode cJ7_fill_53178 pc = .ok (.return_, 1) → Wd D A s H locs (wC kA ad lq_situation adv_rooms adv_levels adv_goalRoom adv_allDoors dr_state dr_count se_count parent level kind snum xx yy q0 switched doors beyond offered opn seenb savedb found distance opening) → q0 = res → W p l e rm_J7_fill_53178 s m args below meth c H locs 0 0 Q (F0 m pc ls [])) {H : Heap} {locs : List Loc} {ls : Array Slot} (w : Wd D A s H locs (wC kA ad lq_situation adv_rooms adv_levels adv_goalRoom adv_allDoors dr_state dr_count se_count parent level kind snum xx yy lying switched doors beyond offered opn seenb savedb found distance opening)) (hl : lv_has ls 4 [(0, .ref (ad 13)), (1, .int p1)]) (h : f_J7_fill_lying p1 lying = some res) : W p l e rm_J7_fill_53178 s m args below meth c H locs 0 0 Q (F0 m 0 ls []) := by
  obtain ⟨⟨hx, hb, hml, hown, hts⟩, hK, -, -⟩ := id C
  unfold f_J7_fill_lying at h
  refine lv_iconst (v := 0) hx hb dJ7_fill_53178_0 (by decide) ?_
  refine lv_istore_n (lv' := [(2, .int (0 : Int32)), (0, .ref (ad 13)), (1, .int p1)]) hx hb dJ7_fill_53178_1 rfl hl (by decide) rfl (fun ls hl => ?_)
  refine lv_aload_n hx hb dJ7_fill_53178_2 rfl (lv_at hl 1 rfl) ?_
  refine va_alen (v := 12) hx hb hK w.1 13 0 rfl rfl rfl dJ7_fill_53178_3 ?_
  refine lv_istore_n (lv' := [(3, .int (12 : Int32)), (2, .int (0 : Int32)), (0, .ref (ad 13)), (1, .int p1)]) hx hb dJ7_fill_53178_4 rfl hl (by decide) rfl (fun ls hl => ?_)
  exact t_J7_fill_lying_5 C  hret w (lv_sub hl [2, 3, 1, 0] rfl) h
set_option maxHeartbeats 4000000 in
set_option maxRecDepth 100000 in
theorem c_J7_fill_lying (l : Launch) (D : va_G) (kA : Nat → ClassId) (ad : Nat → Nat) (sz : Nat) (lq_situation : Int32) (adv_rooms : Int32) (adv_levels : Int32) (adv_goalRoom : Int32) (adv_allDoors : Int32) (dr_state : Int64) (dr_count : Int32) (se_count : Int32) (parent : Nat → Int32) (level : Nat → Int32) (kind : Nat → Int32) (snum : Nat → Int32) (xx : Nat → Int32) (yy : Nat → Int32) (lying : Nat → Int32) (switched : Nat → Int32) (doors : Nat → Int32) (beyond : Nat → Nat → Int32) (offered : Nat → Int32) (opn : Nat → Int32) (seenb : Nat → Int64) (savedb : Nat → Int64) (found : Nat → Int32) (distance : Nat → Int32) (opening : Nat → Int32) (p1 : Int32) {res : (Nat → Int32)} (h : f_J7_fill_lying p1 lying = some res) : Cv l yJ7_fill_53178 wsJ7_fill_53178 rm_J7_fill_53178 D kA [.ref (ad 13), .int p1] sz (wC kA ad lq_situation adv_rooms adv_levels adv_goalRoom adv_allDoors dr_state dr_count se_count parent level kind snum xx yy lying switched doors beyond offered opn seenb savedb found distance opening) (wC kA ad lq_situation adv_rooms adv_levels adv_goalRoom adv_allDoors dr_state dr_count se_count parent level kind snum xx yy res switched doors beyond offered opn seenb savedb found distance opening) := by
  refine Met.ofW (cc := cJ7_fill_53178) (maxL := 4) (ret := none) (by decide) rfl ?_
  intro p e s m args below meth c s₁ B hml hv
  obtain ⟨rfl, hsz, hP, hK, hD0, hX⟩ := hv
  subst hsz
  have hts := atoms_spec (ws := wsJ7_fill_53178) B.pre
  have hl := lv_entry ([.ref (ad 13), .int p1]) (n := 4) (Nat.le_of_ble_eq_true rfl)
  rw [lg_entry_eq]
  have hlocks := B.notSynchronized
  refine t_J7_fill_lying (A := va_A (wC kA ad lq_situation adv_rooms adv_levels adv_goalRoom adv_allDoors dr_state dr_count se_count parent level kind snum xx yy lying switched doors beyond offered opn seenb savedb found distance opening) s.heap.size) ⟨⟨B.exec, B.bytes, hml, findClass_of_methodNamed B.named, hts⟩, hK, fun q h => Or.inr h, hX⟩ (fun q0 H locs ls pc hd w hres => ?_) ⟨hP, hD0.self, va_S.rf⟩ hl h
  subst hres
  exact W.vret B.exec B.bytes B.returns (fun t ht hW => ⟨⟨(), rfl, trivial, by rw [ht]; exact w.1, va_K.moved hW.alike hK, w.2.1⟩, w.2.2.F ht⟩) w.2.2.2.2 hd hlocks
-- ('wC', 'java/util/Arrays', 'fill', '([II)V', ('doors', None))
def fb_J7_fill_doors_5  (k5 : Int32 → Int32 → Int32 → (Nat → Int32) → Option ((Nat → Int32))) (x1 : Int32) (x2 : Int32) (x3 : Int32) (doors : Nat → Int32) : Option ((Nat → Int32)) := if x3 ≤ x2 then (some doors) else (gd (x2 < 0 ∨ 12 ≤ x2.toNatClampNeg) (k5 x1 (x2 + (1 : Int32)) x3 (upd doors x2.toNatClampNeg x1)))
set_option maxHeartbeats 4000000 in
set_option maxRecDepth 100000 in
theorem tb_J7_fill_doors_5 {p : Program} {l : Launch} {e : Env} {s : State} {m : MethodId} {args : Array Value} {below : List Frame} {meth : Method} {c : Code} {Q : State → Prop} {D : va_G} {kA : Nat → ClassId} {ad : Nat → Nat} {A : Nat → Prop} {lq_situation : Int32} {adv_rooms : Int32} {adv_levels : Int32} {adv_goalRoom : Int32} {adv_allDoors : Int32} {dr_state : Int64} {dr_count : Int32} {se_count : Int32} {parent : Nat → Int32} {level : Nat → Int32} {kind : Nat → Int32} {snum : Nat → Int32} {xx : Nat → Int32} {yy : Nat → Int32} {lying : Nat → Int32} {switched : Nat → Int32} {doors : Nat → Int32} {beyond : Nat → Nat → Int32} {offered : Nat → Int32} {opn : Nat → Int32} {seenb : Nat → Int64} {savedb : Nat → Int64} {found : Nat → Int32} {distance : Nat → Int32} {opening : Nat → Int32} {x1 : Int32} {x2 : Int32} {x3 : Int32} {k5 : Int32 → Int32 → Int32 → (Nat → Int32) → Option ((Nat → Int32))} {res : (Nat → Int32)} (C : Cx p s m c args cJ7_fill_53178 4 RJ7 wsJ7_fill_53178 D kA A) (hk5 : ∀ (x1 : Int32) (x2 : Int32) (x3 : Int32) (doors : Nat → Int32) (H : Heap) (locs : List Loc) (ls : Array Slot), Wd D A s H locs (wC kA ad lq_situation adv_rooms adv_levels adv_goalRoom adv_allDoors dr_state dr_count se_count parent level kind snum xx yy lying switched doors beyond offered opn seenb savedb found distance opening) → lv_has ls 4 [(0, .ref (ad 15)), (1, .int x1), (2, .int x2), (3, .int x3)] → k5 x1 x2 x3 doors = some res → W p l e rm_J7_fill_53178 s m args below meth c H locs 0 0 Q (F0 m 5 ls [])) (hret : ∀ (q0 : Nat → Int32) (H : Heap) (locs : List Loc) (ls : Array Slot) (pc : Nat), decode cJ7_fill_53178 pc = .ok (.return_, 1) → Wd D A s H locs (wC kA ad lq_situation adv_rooms adv_levels adv_goalRoom adv_allDoors dr_state dr_count se_count parent level kind snum xx yy lying switched q0 beyond offered opn seenb savedb found distance opening) → q0 = res → W p l e rm_J7_fill_53178 s m args below meth c H locs 0 0 Q (F0 m pc ls [])) {H : Heap} {locs : List Loc} {ls : Array Slot} (w : Wd D A s H locs (wC kA ad lq_situation adv_rooms adv_levels adv_goalRoom adv_allDoors dr_state dr_count se_count parent level kind snum xx yy lying switched doors beyond offered opn seenb savedb found distance opening)) (hl : lv_has ls 4 [(0, .ref (ad 15)), (1, .int x1), (2, .int x2), (3, .int x3)]) (h : fb_J7_fill_doors_5  k5 x1 x2 x3 doors = some res) : W p l e rm_J7_fill_53178 s m args below meth c H locs 0 0 Q (F0 m 5 ls []) := by
  obtain ⟨⟨hx, hb, hml, hown, hts⟩, hK, -, -⟩ := id C
  unfold fb_J7_fill_doors_5 at h
  refine lv_iload_n hx hb dJ7_fill_53178_5 rfl (lv_at hl 2 rfl) ?_
  refine lv_iload_n hx hb dJ7_fill_53178_6 rfl (lv_at hl 3 rfl) ?_
  refine lv_icmp_ge (tgt := 20) hx hb dJ7_fill_53178_7 (by decide) (fun g1 => ?_) (fun g1 => ?_)
  · replace h := it_pos g1 h
    exact hret _ _ _ _ _ dJ7_fill_53178_20 w (Option.some.inj h)
  · replace h := it_neg g1 h
    refine lv_aload_n hx hb dJ7_fill_53178_10 rfl (lv_at hl 0 rfl) ?_
    refine lv_iload_n hx hb dJ7_fill_53178_11 rfl (lv_at hl 2 rfl) ?_
    refine lv_iload_n hx hb dJ7_fill_53178_12 rfl (lv_at hl 1 rfl) ?_
    obtain ⟨g2, h⟩ := gd_some h
    refine va_iast hx hb hK w.1 w.2.1 w.2.2 15 0 rfl rfl g2 dJ7_fill_53178_13 (fun H locs hP hD hS => ?_)
    have w : Wd D A s H locs (wC kA ad lq_situation adv_rooms adv_levels adv_goalRoom adv_allDoors dr_state dr_count se_count parent level kind snum xx yy lying switched (upd doors x2.toNatClampNeg x1) beyond offered opn seenb savedb found distance opening) := ⟨hP, hD, hS⟩
    refine lv_iinc (v := (x2 + (1 : Int32))) (lv' := [(2, .int (x2 + (1 : Int32))), (0, .ref (ad 15)), (1, .int x1), (3, .int x3)]) hx hb dJ7_fill_53178_14 hl (k := 2) rfl rfl (by decide) rfl (fun ls hl => ?_)
    refine lv_goto (tgt := 5) hx hb dJ7_fill_53178_17 (by decide) ?_
    exact hk5 _ _ _ _ H locs ls w (lv_sub hl [1, 2, 0, 3] rfl) h
def f_J7_fill_doors_5  (x1 : Int32) (x2 : Int32) (x3 : Int32) (doors : Nat → Int32) : Option ((Nat → Int32)) := lp (σ := Int32 × Int32 × Int32 × (Nat → Int32)) (fun k st => fb_J7_fill_doors_5  (fun x1 x2 x3 doors => k (x1, x2, x3, doors)) st.1 st.2.1 st.2.2.1 st.2.2.2) fuel (x1, x2, x3, doors)
set_option maxHeartbeats 4000000 in
set_option maxRecDepth 100000 in
theorem t_J7_fill_doors_5 {p : Program} {l : Launch} {e : Env} {s : State} {m : MethodId} {args : Array Value} {below : List Frame} {meth : Method} {c : Code} {Q : State → Prop} {D : va_G} {kA : Nat → ClassId} {ad : Nat → Nat} {A : Nat → Prop} {lq_situation : Int32} {adv_rooms : Int32} {adv_levels : Int32} {adv_goalRoom : Int32} {adv_allDoors : Int32} {dr_state : Int64} {dr_count : Int32} {se_count : Int32} {parent : Nat → Int32} {level : Nat → Int32} {kind : Nat → Int32} {snum : Nat → Int32} {xx : Nat → Int32} {yy : Nat → Int32} {lying : Nat → Int32} {switched : Nat → Int32} {doors : Nat → Int32} {beyond : Nat → Nat → Int32} {offered : Nat → Int32} {opn : Nat → Int32} {seenb : Nat → Int64} {savedb : Nat → Int64} {found : Nat → Int32} {distance : Nat → Int32} {opening : Nat → Int32} {x1 : Int32} {x2 : Int32} {x3 : Int32} {res : (Nat → Int32)} (C : Cx p s m c args cJ7_fill_53178 4 RJ7 wsJ7_fill_53178 D kA A) (hret : ∀ (q0 : Nat → Int32) (H : Heap) (locs : List Loc) (ls : Array Slot) (pc : Nat), decode cJ7_fill_53178 pc = .ok (.return_, 1) → Wd D A s H locs (wC kA ad lq_situation adv_rooms adv_levels adv_goalRoom adv_allDoors dr_state dr_count se_count parent level kind snum xx yy lying switched q0 beyond offered opn seenb savedb found distance opening) → q0 = res → W p l e rm_J7_fill_53178 s m args below meth c H locs 0 0 Q (F0 m pc ls [])) {H : Heap} {locs : List Loc} {ls : Array Slot} (w : Wd D A s H locs (wC kA ad lq_situation adv_rooms adv_levels adv_goalRoom adv_allDoors dr_state dr_count se_count parent level kind snum xx yy lying switched doors beyond offered opn seenb savedb found distance opening)) (hl : lv_has ls 4 [(0, .ref (ad 15)), (1, .int x1), (2, .int x2), (3, .int x3)]) (h : f_J7_fill_doors_5  x1 x2 x3 doors = some res) : W p l e rm_J7_fill_53178 s m args below meth c H locs 0 0 Q (F0 m 5 ls []) := by
  unfold f_J7_fill_doors_5 at h
  exact lp_ind (P := (fun (st : Int32 × Int32 × Int32 × (Nat → Int32)) => ∀ (H : Heap) (locs : List Loc) (ls : Array Slot), Wd D A s H locs (wC kA ad lq_situation adv_rooms adv_levels adv_goalRoom adv_allDoors dr_state dr_count se_count parent level kind snum xx yy lying switched st.2.2.2 beyond offered opn seenb savedb found distance opening) → lv_has ls 4 [(0, .ref (ad 15)), (1, .int st.1), (2, .int st.2.1), (3, .int st.2.2.1)] → W p l e rm_J7_fill_53178 s m args below meth c H locs 0 0 Q (F0 m 5 ls []))) (fun k hk st h H locs ls w hl => tb_J7_fill_doors_5 C  (fun a0 a1 a2 a3 H locs ls w hl h => hk (a0, a1, a2, a3) h H locs ls w hl) hret w hl h) fuel (x1, x2, x3, doors) h H locs ls w hl
def f_J7_fill_doors (p1 : Int32) (doors : Nat → Int32) : Option ((Nat → Int32)) := f_J7_fill_doors_5 p1 (0 : Int32) (12 : Int32) doors
set_option maxHeartbeats 4000000 in
set_option maxRecDepth 100000 in
theorem t_J7_fill_doors {p : Program} {l : Launch} {e : Env} {s : State} {m : MethodId} {args : Array Value} {below : List Frame} {meth : Method} {c : Code} {Q : State → Prop} {D : va_G} {kA : Nat → ClassId} {ad : Nat → Nat} {A : Nat → Prop} {lq_situation : Int32} {adv_rooms : Int32} {adv_levels : Int32} {adv_goalRoom : Int32} {adv_allDoors : Int32} {dr_state : Int64} {dr_count : Int32} {se_count : Int32} {parent : Nat → Int32} {level : Nat → Int32} {kind : Nat → Int32} {snum : Nat → Int32} {xx : Nat → Int32} {yy : Nat → Int32} {lying : Nat → Int32} {switched : Nat → Int32} {doors : Nat → Int32} {beyond : Nat → Nat → Int32} {offered : Nat → Int32} {opn : Nat → Int32} {seenb : Nat → Int64} {savedb : Nat → Int64} {found : Nat → Int32} {distance : Nat → Int32} {opening : Nat → Int32} {p1 : Int32} {res : (Nat → Int32)} (C : Cx p s m c args cJ7_fill_53178 4 RJ7 wsJ7_fill_53178 D kA A) (hret : ∀ (q0 : Nat → Int32) (H : Heap) (locs : List Loc) (ls : Array Slot) (pc : Nat), decode cJ7_fill_53178 pc = .ok (.return_, 1) → Wd D A s H locs (wC kA ad lq_situation adv_rooms adv_levels adv_goalRoom adv_allDoors dr_state dr_count se_count parent level kind snum xx yy lying switched q0 beyond offered opn seenb savedb found distance opening) → q0 = res → W p l e rm_J7_fill_53178 s m args below meth c H locs 0 0 Q (F0 m pc ls [])) {H : Heap} {locs : List Loc} {ls : Array Slot} (w : Wd D A s H locs (wC kA ad lq_situation adv_rooms adv_levels adv_goalRoom adv_allDoors dr_state dr_count se_count parent level kind snum xx yy lying switched doors beyond offered opn seenb savedb found distance opening)) (hl : lv_has ls 4 [(0, .ref (ad 15)), (1, .int p1)]) (h : f_J7_fill_doors p1 doors = some res) : W p l e rm_J7_fill_53178 s m args below meth c H locs 0 0 Q (F0 m 0 ls []) := by
  obtain ⟨⟨hx, hb, hml, hown, hts⟩, hK, -, -⟩ := id C
  unfold f_J7_fill_doors at h
  refine lv_iconst (v := 0) hx hb dJ7_fill_53178_0 (by decide) ?_
  refine lv_istore_n (lv' := [(2, .int (0 : Int32)), (0, .ref (ad 15)), (1, .int p1)]) hx hb dJ7_fill_53178_1 rfl hl (by decide) rfl (fun ls hl => ?_)
  refine lv_aload_n hx hb dJ7_fill_53178_2 rfl (lv_at hl 1 rfl) ?_
  refine va_alen (v := 12) hx hb hK w.1 15 0 rfl rfl rfl dJ7_fill_53178_3 ?_
  refine lv_istore_n (lv' := [(3, .int (12 : Int32)), (2, .int (0 : Int32)), (0, .ref (ad 15)), (1, .int p1)]) hx hb dJ7_fill_53178_4 rfl hl (by decide) rfl (fun ls hl => ?_)
  exact t_J7_fill_doors_5 C  hret w (lv_sub hl [2, 3, 1, 0] rfl) h
set_option maxHeartbeats 4000000 in
set_option maxRecDepth 100000 in
theorem c_J7_fill_doors (l : Launch) (D : va_G) (kA : Nat → ClassId) (ad : Nat → Nat) (sz : Nat) (lq_situation : Int32) (adv_rooms : Int32) (adv_levels : Int32) (adv_goalRoom : Int32) (adv_allDoors : Int32) (dr_state : Int64) (dr_count : Int32) (se_count : Int32) (parent : Nat → Int32) (level : Nat → Int32) (kind : Nat → Int32) (snum : Nat → Int32) (xx : Nat → Int32) (yy : Nat → Int32) (lying : Nat → Int32) (switched : Nat → Int32) (doors : Nat → Int32) (beyond : Nat → Nat → Int32) (offered : Nat → Int32) (opn : Nat → Int32) (seenb : Nat → Int64) (savedb : Nat → Int64) (found : Nat → Int32) (distance : Nat → Int32) (opening : Nat → Int32) (p1 : Int32) {res : (Nat → Int32)} (h : f_J7_fill_doors p1 doors = some res) : Cv l yJ7_fill_53178 wsJ7_fill_53178 rm_J7_fill_53178 D kA [.ref (ad 15), .int p1] sz (wC kA ad lq_situation adv_rooms adv_levels adv_goalRoom adv_allDoors dr_state dr_count se_count parent level kind snum xx yy lying switched doors beyond offered opn seenb savedb found distance opening) (wC kA ad lq_situation adv_rooms adv_levels adv_goalRoom adv_allDoors dr_state dr_count se_count parent level kind snum xx yy lying switched res beyond offered opn seenb savedb found distance opening) := by
  refine Met.ofW (cc := cJ7_fill_53178) (maxL := 4) (ret := none) (by decide) rfl ?_
  intro p e s m args below meth c s₁ B hml hv
  obtain ⟨rfl, hsz, hP, hK, hD0, hX⟩ := hv
  subst hsz
  have hts := atoms_spec (ws := wsJ7_fill_53178) B.pre
  have hl := lv_entry ([.ref (ad 15), .int p1]) (n := 4) (Nat.le_of_ble_eq_true rfl)
  rw [lg_entry_eq]
  have hlocks := B.notSynchronized
  refine t_J7_fill_doors (A := va_A (wC kA ad lq_situation adv_rooms adv_levels adv_goalRoom adv_allDoors dr_state dr_count se_count parent level kind snum xx yy lying switched doors beyond offered opn seenb savedb found distance opening) s.heap.size) ⟨⟨B.exec, B.bytes, hml, findClass_of_methodNamed B.named, hts⟩, hK, fun q h => Or.inr h, hX⟩ (fun q0 H locs ls pc hd w hres => ?_) ⟨hP, hD0.self, va_S.rf⟩ hl h
  subst hres
  exact W.vret B.exec B.bytes B.returns (fun t ht hW => ⟨⟨(), rfl, trivial, by rw [ht]; exact w.1, va_K.moved hW.alike hK, w.2.1⟩, w.2.2.F ht⟩) w.2.2.2.2 hd hlocks
-- ('wC', 'LockQuest$Maker', 'clear', '()V', ('mk',))
abbrev rm_X2_clear : Room := { frames := 1, cells := 0, slots := 0, locals := 23 }
set_option maxRecDepth 20000 in
theorem lX2_clear_X2 : ∀ w ∈ wsX20, w ∈ wsX2_clear := by decide +kernel
set_option maxRecDepth 20000 in
theorem mX2_clear_1 : Cond.fieldLink RX2 22 "LockQuest$Maker" "made" "LLockQuest$Adventure;" ∈ wsX2_clear := by decide +kernel
set_option maxRecDepth 20000 in
theorem lX2_clear_X0 : ∀ w ∈ wsX00, w ∈ wsX2_clear := by decide +kernel
set_option maxRecDepth 20000 in
theorem mX2_clear_3 : Cond.fieldLink RX2 79 "LockQuest$Adventure" "lying" "[I" ∈ wsX2_clear := by decide +kernel
set_option maxRecDepth 20000 in
theorem mX2_clear_4 : Cond.fieldLink RX2 89 "LockQuest$Adventure" "doors" "[I" ∈ wsX2_clear := by decide +kernel
set_option maxRecDepth 20000 in
theorem mX2_clear_5 : Cond.fieldLink RX2 95 "LockQuest$Adventure" "allDoors" "I" ∈ wsX2_clear := by decide +kernel
set_option maxRecDepth 20000 in
theorem mX2_clear_6 : Cond.fieldLink RX2 92 "LockQuest$Adventure" "switched" "[Z" ∈ wsX2_clear := by decide +kernel
def fb_X2_clear_24  (k24 : Int32 → Int32 → (Nat → Int32) → (Nat → Int32) → (Nat → Int32) → Option (Int32 × (Nat → Int32) × (Nat → Int32) × (Nat → Int32))) (x1 : Int32) (adv_allDoors : Int32) (lying : Nat → Int32) (switched : Nat → Int32) (doors : Nat → Int32) : Option (Int32 × (Nat → Int32) × (Nat → Int32) × (Nat → Int32)) := if (12 : Int32) ≤ x1 then (some ((0 : Int32), lying, switched, doors)) else (gd (x1 < 0 ∨ 12 ≤ x1.toNatClampNeg) (k24 (x1 + (1 : Int32)) adv_allDoors lying (upd switched x1.toNatClampNeg (vp_nar .boolean (0 : Int32))) doors))
set_option maxHeartbeats 4000000 in
set_option maxRecDepth 100000 in
theorem tb_X2_clear_24 {p : Program} {l : Launch} {e : Env} {s : State} {m : MethodId} {args : Array Value} {below : List Frame} {meth : Method} {c : Code} {Q : State → Prop} {D : va_G} {kA : Nat → ClassId} {ad : Nat → Nat} {A : Nat → Prop} {lq_situation : Int32} {adv_rooms : Int32} {adv_levels : Int32} {adv_goalRoom : Int32} {adv_allDoors : Int32} {dr_state : Int64} {dr_count : Int32} {se_count : Int32} {parent : Nat → Int32} {level : Nat → Int32} {kind : Nat → Int32} {snum : Nat → Int32} {xx : Nat → Int32} {yy : Nat → Int32} {lying : Nat → Int32} {switched : Nat → Int32} {doors : Nat → Int32} {beyond : Nat → Nat → Int32} {offered : Nat → Int32} {opn : Nat → Int32} {seenb : Nat → Int64} {savedb : Nat → Int64} {found : Nat → Int32} {distance : Nat → Int32} {opening : Nat → Int32} {x1 : Int32} {k24 : Int32 → Int32 → (Nat → Int32) → (Nat → Int32) → (Nat → Int32) → Option (Int32 × (Nat → Int32) × (Nat → Int32) × (Nat → Int32))} {res : Int32 × (Nat → Int32) × (Nat → Int32) × (Nat → Int32)} (C : Cx p s m c args cX2_clear 2 RX2 wsX2_clear D kA A) (hk24 : ∀ (x1 : Int32) (adv_allDoors : Int32) (lying : Nat → Int32) (switched : Nat → Int32) (doors : Nat → Int32) (H : Heap) (locs : List Loc) (ls : Array Slot), Wd D A s H locs (wC kA ad lq_situation adv_rooms adv_levels adv_goalRoom adv_allDoors dr_state dr_count se_count parent level kind snum xx yy lying switched doors beyond offered opn seenb savedb found distance opening) → lv_has ls 2 [(0, .ref (ad 2)), (1, .int x1)] → k24 x1 adv_allDoors lying switched doors = some res → W p l e rm_X2_clear s m args below meth c H locs 0 0 Q (F0 m 24 ls [])) (hret : ∀ (q0 : Int32) (q1 : Nat → Int32) (q2 : Nat → Int32) (q3 : Nat → Int32) (H : Heap) (locs : List Loc) (ls : Array Slot) (pc : Nat), decode cX2_clear pc = .ok (.return_, 1) → Wd D A s H locs (wC kA ad lq_situation adv_rooms adv_levels adv_goalRoom q0 dr_state dr_count se_count parent level kind snum xx yy q1 q2 q3 beyond offered opn seenb savedb found distance opening) → (q0, q1, q2, q3) = res → W p l e rm_X2_clear s m args below meth c H locs 0 0 Q (F0 m pc ls [])) {H : Heap} {locs : List Loc} {ls : Array Slot} (w : Wd D A s H locs (wC kA ad lq_situation adv_rooms adv_levels adv_goalRoom adv_allDoors dr_state dr_count se_count parent level kind snum xx yy lying switched doors beyond offered opn seenb savedb found distance opening)) (hl : lv_has ls 2 [(0, .ref (ad 2)), (1, .int x1)]) (h : fb_X2_clear_24  k24 x1 adv_allDoors lying switched doors = some res) : W p l e rm_X2_clear s m args below meth c H locs 0 0 Q (F0 m 24 ls []) := by
  obtain ⟨⟨hx, hb, hml, hown, hts⟩, hK, -, -⟩ := id C
  unfold fb_X2_clear_24 at h
  refine lv_iload_n hx hb dX2_clear_24 rfl (lv_at hl 1 rfl) ?_
  refine lv_bipush (v := 12) hx hb dX2_clear_25 (by decide) ?_
  refine lv_icmp_ge (tgt := 46) hx hb dX2_clear_27 (by decide) (fun g1 => ?_) (fun g1 => ?_)
  · replace h := it_pos g1 h
    refine lv_aload_n hx hb dX2_clear_46 rfl (lv_at hl 0 rfl) ?_
    refine va_get (D := D) (ci := 2) (v := .ref (ad 1)) (C := RX2) (T := TX2) (N := 3) hx hb hts lX2_clear_X2 hown hK w.1 2 rfl rfl 0 (by decide) (hts _ mX2_clear_1) (fun _ h9 => h9) rfl dX2_clear_47 ?_
    refine lv_iconst (v := 0) hx hb dX2_clear_50 (by decide) ?_
    refine va_put (D := D) (ci := 0) (v := .int (0 : Int32)) (ty := .int) (C := RX0) (T := TX0) (N := 14) hx hb hts lX2_clear_X0 tyX0 tyX0_ok nmX0 hown hK w.1 w.2.1 w.2.2 1 rfl rfl 3 (by decide) (hts _ mX2_clear_5) (fun _ h9 => h9) rfl (by decide +kernel) rfl rfl (Nat.le_of_ble_eq_true rfl) dX2_clear_51 (fun H locs hP hD hS => ?_)
    have w : Wd D A s H locs (wC kA ad lq_situation adv_rooms adv_levels adv_goalRoom (0 : Int32) dr_state dr_count se_count parent level kind snum xx yy lying switched doors beyond offered opn seenb savedb found distance opening) := ⟨hP, hD, hS⟩
    exact hret _ _ _ _ _ _ _ _ dX2_clear_54 w (Option.some.inj h)
  · replace h := it_neg g1 h
    refine lv_aload_n hx hb dX2_clear_30 rfl (lv_at hl 0 rfl) ?_
    refine va_get (D := D) (ci := 2) (v := .ref (ad 1)) (C := RX2) (T := TX2) (N := 3) hx hb hts lX2_clear_X2 hown hK w.1 2 rfl rfl 0 (by decide) (hts _ mX2_clear_1) (fun _ h9 => h9) rfl dX2_clear_31 ?_
    refine va_get (D := D) (ci := 0) (v := .ref (ad 14)) (C := RX0) (T := TX0) (N := 14) hx hb hts lX2_clear_X0 hown hK w.1 1 rfl rfl 11 (by decide) (hts _ mX2_clear_6) (fun _ h9 => h9) rfl dX2_clear_34 ?_
    refine lv_iload_n hx hb dX2_clear_37 rfl (lv_at hl 1 rfl) ?_
    refine lv_iconst (v := 0) hx hb dX2_clear_38 (by decide) ?_
    obtain ⟨g2, h⟩ := gd_some h
    refine va_zast hx hb hK w.1 w.2.1 w.2.2 14 2 rfl rfl g2 dX2_clear_39 (fun H locs hP hD hS => ?_)
    have w : Wd D A s H locs (wC kA ad lq_situation adv_rooms adv_levels adv_goalRoom adv_allDoors dr_state dr_count se_count parent level kind snum xx yy lying (upd switched x1.toNatClampNeg (vp_nar .boolean (0 : Int32))) doors beyond offered opn seenb savedb found distance opening) := ⟨hP, hD, hS⟩
    refine lv_iinc (v := (x1 + (1 : Int32))) (lv' := [(1, .int (x1 + (1 : Int32))), (0, .ref (ad 2))]) hx hb dX2_clear_40 hl (k := 1) rfl rfl (by decide) rfl (fun ls hl => ?_)
    refine lv_goto (tgt := 24) hx hb dX2_clear_43 (by decide) ?_
    exact hk24 _ _ _ _ _ H locs ls w (lv_sub hl [1, 0] rfl) h
def f_X2_clear_24  (x1 : Int32) (adv_allDoors : Int32) (lying : Nat → Int32) (switched : Nat → Int32) (doors : Nat → Int32) : Option (Int32 × (Nat → Int32) × (Nat → Int32) × (Nat → Int32)) := lp (σ := Int32 × Int32 × (Nat → Int32) × (Nat → Int32) × (Nat → Int32)) (fun k st => fb_X2_clear_24  (fun x1 adv_allDoors lying switched doors => k (x1, adv_allDoors, lying, switched, doors)) st.1 st.2.1 st.2.2.1 st.2.2.2.1 st.2.2.2.2) fuel (x1, adv_allDoors, lying, switched, doors)
set_option maxHeartbeats 4000000 in
set_option maxRecDepth 100000 in
theorem t_X2_clear_24 {p : Program} {l : Launch} {e : Env} {s : State} {m : MethodId} {args : Array Value} {below : List Frame} {meth : Method} {c : Code} {Q : State → Prop} {D : va_G} {kA : Nat → ClassId} {ad : Nat → Nat} {A : Nat → Prop} {lq_situation : Int32} {adv_rooms : Int32} {adv_levels : Int32} {adv_goalRoom : Int32} {adv_allDoors : Int32} {dr_state : Int64} {dr_count : Int32} {se_count : Int32} {parent : Nat → Int32} {level : Nat → Int32} {kind : Nat → Int32} {snum : Nat → Int32} {xx : Nat → Int32} {yy : Nat → Int32} {lying : Nat → Int32} {switched : Nat → Int32} {doors : Nat → Int32} {beyond : Nat → Nat → Int32} {offered : Nat → Int32} {opn : Nat → Int32} {seenb : Nat → Int64} {savedb : Nat → Int64} {found : Nat → Int32} {distance : Nat → Int32} {opening : Nat → Int32} {x1 : Int32} {res : Int32 × (Nat → Int32) × (Nat → Int32) × (Nat → Int32)} (C : Cx p s m c args cX2_clear 2 RX2 wsX2_clear D kA A) (hret : ∀ (q0 : Int32) (q1 : Nat → Int32) (q2 : Nat → Int32) (q3 : Nat → Int32) (H : Heap) (locs : List Loc) (ls : Array Slot) (pc : Nat), decode cX2_clear pc = .ok (.return_, 1) → Wd D A s H locs (wC kA ad lq_situation adv_rooms adv_levels adv_goalRoom q0 dr_state dr_count se_count parent level kind snum xx yy q1 q2 q3 beyond offered opn seenb savedb found distance opening) → (q0, q1, q2, q3) = res → W p l e rm_X2_clear s m args below meth c H locs 0 0 Q (F0 m pc ls [])) {H : Heap} {locs : List Loc} {ls : Array Slot} (w : Wd D A s H locs (wC kA ad lq_situation adv_rooms adv_levels adv_goalRoom adv_allDoors dr_state dr_count se_count parent level kind snum xx yy lying switched doors beyond offered opn seenb savedb found distance opening)) (hl : lv_has ls 2 [(0, .ref (ad 2)), (1, .int x1)]) (h : f_X2_clear_24  x1 adv_allDoors lying switched doors = some res) : W p l e rm_X2_clear s m args below meth c H locs 0 0 Q (F0 m 24 ls []) := by
  unfold f_X2_clear_24 at h
  exact lp_ind (P := (fun (st : Int32 × Int32 × (Nat → Int32) × (Nat → Int32) × (Nat → Int32)) => ∀ (H : Heap) (locs : List Loc) (ls : Array Slot), Wd D A s H locs (wC kA ad lq_situation adv_rooms adv_levels adv_goalRoom st.2.1 dr_state dr_count se_count parent level kind snum xx yy st.2.2.1 st.2.2.2.1 st.2.2.2.2 beyond offered opn seenb savedb found distance opening) → lv_has ls 2 [(0, .ref (ad 2)), (1, .int st.1)] → W p l e rm_X2_clear s m args below meth c H locs 0 0 Q (F0 m 24 ls []))) (fun k hk st h H locs ls w hl => tb_X2_clear_24 C  (fun a0 a1 a2 a3 a4 H locs ls w hl h => hk (a0, a1, a2, a3, a4) h H locs ls w hl) hret w hl h) fuel (x1, adv_allDoors, lying, switched, doors) h H locs ls w hl
def f_X2_clear  (adv_allDoors : Int32) (lying : Nat → Int32) (switched : Nat → Int32) (doors : Nat → Int32) : Option (Int32 × (Nat → Int32) × (Nat → Int32) × (Nat → Int32)) := (f_J7_fill_lying (0 : Int32) lying).bind (fun u3 => (f_J7_fill_doors (0 : Int32) doors).bind (fun u4 => f_X2_clear_24 (0 : Int32) adv_allDoors u3 switched u4))
set_option maxHeartbeats 4000000 in
set_option maxRecDepth 100000 in
theorem t_X2_clear {p : Program} {l : Launch} {e : Env} {s : State} {m : MethodId} {args : Array Value} {below : List Frame} {meth : Method} {c : Code} {Q : State → Prop} {D : va_G} {kA : Nat → ClassId} {ad : Nat → Nat} {A : Nat → Prop} {lq_situation : Int32} {adv_rooms : Int32} {adv_levels : Int32} {adv_goalRoom : Int32} {adv_allDoors : Int32} {dr_state : Int64} {dr_count : Int32} {se_count : Int32} {parent : Nat → Int32} {level : Nat → Int32} {kind : Nat → Int32} {snum : Nat → Int32} {xx : Nat → Int32} {yy : Nat → Int32} {lying : Nat → Int32} {switched : Nat → Int32} {doors : Nat → Int32} {beyond : Nat → Nat → Int32} {offered : Nat → Int32} {opn : Nat → Int32} {seenb : Nat → Int64} {savedb : Nat → Int64} {found : Nat → Int32} {distance : Nat → Int32} {opening : Nat → Int32}  {res : Int32 × (Nat → Int32) × (Nat → Int32) × (Nat → Int32)} (C : Cx p s m c args cX2_clear 2 RX2 wsX2_clear D kA A) (hret : ∀ (q0 : Int32) (q1 : Nat → Int32) (q2 : Nat → Int32) (q3 : Nat → Int32) (H : Heap) (locs : List Loc) (ls : Array Slot) (pc : Nat), decode cX2_clear pc = .ok (.return_, 1) → Wd D A s H locs (wC kA ad lq_situation adv_rooms adv_levels adv_goalRoom q0 dr_state dr_count se_count parent level kind snum xx yy q1 q2 q3 beyond offered opn seenb savedb found distance opening) → (q0, q1, q2, q3) = res → W p l e rm_X2_clear s m args below meth c H locs 0 0 Q (F0 m pc ls [])) {H : Heap} {locs : List Loc} {ls : Array Slot} (w : Wd D A s H locs (wC kA ad lq_situation adv_rooms adv_levels adv_goalRoom adv_allDoors dr_state dr_count se_count parent level kind snum xx yy lying switched doors beyond offered opn seenb savedb found distance opening)) (hl : lv_has ls 2 [(0, .ref (ad 2))]) (h : f_X2_clear  adv_allDoors lying switched doors = some res) : W p l e rm_X2_clear s m args below meth c H locs 0 0 Q (F0 m 0 ls []) := by
  obtain ⟨⟨hx, hb, hml, hown, hts⟩, hK, -, -⟩ := id C
  unfold f_X2_clear at h
  refine lv_aload_n hx hb dX2_clear_0 rfl (lv_at hl 0 rfl) ?_
  refine va_get (D := D) (ci := 2) (v := .ref (ad 1)) (C := RX2) (T := TX2) (N := 3) hx hb hts lX2_clear_X2 hown hK w.1 2 rfl rfl 0 (by decide) (hts _ mX2_clear_1) (fun _ h9 => h9) rfl dX2_clear_1 ?_
  refine va_get (D := D) (ci := 0) (v := .ref (ad 13)) (C := RX0) (T := TX0) (N := 14) hx hb hts lX2_clear_X0 hown hK w.1 1 rfl rfl 10 (by decide) (hts _ mX2_clear_3) (fun _ h9 => h9) rfl dX2_clear_4 ?_
  refine lv_iconst (v := 0) hx hb dX2_clear_7 (by decide) ?_
  obtain ⟨u3, hc3, h⟩ := bd_some h
  refine gl_callv C w (va_runS (As := [.ref (ad 13), .int (0 : Int32)]) (rest := []) ⟨hx, hb, hml, hown, hts⟩ (c_J7_fill_lying l D kA ad H.size lq_situation adv_rooms adv_levels adv_goalRoom adv_allDoors dr_state dr_count se_count parent level kind snum xx yy lying switched doors beyond offered opn seenb savedb found distance opening (0 : Int32) hc3) (va_cwS 2 hts gX2_clear_J7_fill_53178 rfl rfl rfl (by decide +kernel) ⟨Nat.le_of_ble_eq_true rfl, Nat.le_of_ble_eq_true rfl⟩) (Wd.preS C w) rfl rfl hl.1 rfl (lv_room (Nat.le_of_ble_eq_true rfl)) dX2_clear_8 ⟨Nat.zero_le _, Nat.zero_le _⟩) (fun H locs w => ?_)
  refine lv_aload_n hx hb dX2_clear_11 rfl (lv_at hl 0 rfl) ?_
  refine va_get (D := D) (ci := 2) (v := .ref (ad 1)) (C := RX2) (T := TX2) (N := 3) hx hb hts lX2_clear_X2 hown hK w.1 2 rfl rfl 0 (by decide) (hts _ mX2_clear_1) (fun _ h9 => h9) rfl dX2_clear_12 ?_
  refine va_get (D := D) (ci := 0) (v := .ref (ad 15)) (C := RX0) (T := TX0) (N := 14) hx hb hts lX2_clear_X0 hown hK w.1 1 rfl rfl 12 (by decide) (hts _ mX2_clear_4) (fun _ h9 => h9) rfl dX2_clear_15 ?_
  refine lv_iconst (v := 0) hx hb dX2_clear_18 (by decide) ?_
  obtain ⟨u4, hc4, h⟩ := bd_some h
  refine gl_callv C w (va_runS (As := [.ref (ad 15), .int (0 : Int32)]) (rest := []) ⟨hx, hb, hml, hown, hts⟩ (c_J7_fill_doors l D kA ad H.size lq_situation adv_rooms adv_levels adv_goalRoom adv_allDoors dr_state dr_count se_count parent level kind snum xx yy u3 switched doors beyond offered opn seenb savedb found distance opening (0 : Int32) hc4) (va_cwS 2 hts gX2_clear_J7_fill_53178 rfl rfl rfl (by decide +kernel) ⟨Nat.le_of_ble_eq_true rfl, Nat.le_of_ble_eq_true rfl⟩) (Wd.preS C w) rfl rfl hl.1 rfl (lv_room (Nat.le_of_ble_eq_true rfl)) dX2_clear_19 ⟨Nat.zero_le _, Nat.zero_le _⟩) (fun H locs w => ?_)
  refine lv_iconst (v := 0) hx hb dX2_clear_22 (by decide) ?_
  refine lv_istore_n (lv' := [(1, .int (0 : Int32)), (0, .ref (ad 2))]) hx hb dX2_clear_23 rfl hl (by decide) rfl (fun ls hl => ?_)
  exact t_X2_clear_24 C  hret w (lv_sub hl [1, 0] rfl) h
set_option maxHeartbeats 4000000 in
set_option maxRecDepth 100000 in
theorem c_X2_clear (l : Launch) (D : va_G) (kA : Nat → ClassId) (ad : Nat → Nat) (sz : Nat) (lq_situation : Int32) (adv_rooms : Int32) (adv_levels : Int32) (adv_goalRoom : Int32) (adv_allDoors : Int32) (dr_state : Int64) (dr_count : Int32) (se_count : Int32) (parent : Nat → Int32) (level : Nat → Int32) (kind : Nat → Int32) (snum : Nat → Int32) (xx : Nat → Int32) (yy : Nat → Int32) (lying : Nat → Int32) (switched : Nat → Int32) (doors : Nat → Int32) (beyond : Nat → Nat → Int32) (offered : Nat → Int32) (opn : Nat → Int32) (seenb : Nat → Int64) (savedb : Nat → Int64) (found : Nat → Int32) (distance : Nat → Int32) (opening : Nat → Int32)  {res : Int32 × (Nat → Int32) × (Nat → Int32) × (Nat → Int32)} (h : f_X2_clear  adv_allDoors lying switched doors = some res) : Cv l yX2_clear wsX2_clear rm_X2_clear D kA [.ref (ad 2)] sz (wC kA ad lq_situation adv_rooms adv_levels adv_goalRoom adv_allDoors dr_state dr_count se_count parent level kind snum xx yy lying switched doors beyond offered opn seenb savedb found distance opening) (wC kA ad lq_situation adv_rooms adv_levels adv_goalRoom res.1 dr_state dr_count se_count parent level kind snum xx yy res.2.1 res.2.2.1 res.2.2.2 beyond offered opn seenb savedb found distance opening) := by
  refine Met.ofW (cc := cX2_clear) (maxL := 2) (ret := none) (by decide) rfl ?_
  intro p e s m args below meth c s₁ B hml hv
  obtain ⟨rfl, hsz, hP, hK, hD0, hX⟩ := hv
  subst hsz
  have hts := atoms_spec (ws := wsX2_clear) B.pre
  have hl := lv_entry ([.ref (ad 2)]) (n := 2) (Nat.le_of_ble_eq_true rfl)
  rw [lg_entry_eq]
  have hlocks := B.notSynchronized
  refine t_X2_clear (A := va_A (wC kA ad lq_situation adv_rooms adv_levels adv_goalRoom adv_allDoors dr_state dr_count se_count parent level kind snum xx yy lying switched doors beyond offered opn seenb savedb found distance opening) s.heap.size) ⟨⟨B.exec, B.bytes, hml, findClass_of_methodNamed B.named, hts⟩, hK, fun q h => Or.inr h, hX⟩ (fun q0 q1 q2 q3 H locs ls pc hd w hres => ?_) ⟨hP, hD0.self, va_S.rf⟩ hl h
  subst hres
  exact W.vret B.exec B.bytes B.returns (fun t ht hW => ⟨⟨(), rfl, trivial, by rw [ht]; exact w.1, va_K.moved hW.alike hK, w.2.1⟩, w.2.2.F ht⟩) w.2.2.2.2 hd hlocks
-- ('wC', 'LockQuest$Drawing', 'number', '(I)I', ('dr', None))
abbrev rm_X1_number : Room := { frames := 0, cells := 0, slots := 0, locals := 0 }
set_option maxRecDepth 20000 in
theorem lX1_number_X1 : ∀ w ∈ wsX10, w ∈ wsX1_number := by decide +kernel
set_option maxRecDepth 20000 in
theorem mX1_number_1 : Cond.fieldLink RX1 15 "LockQuest$Drawing" "state" "J" ∈ wsX1_number := by decide +kernel
set_option maxRecDepth 20000 in
theorem mX1_number_2 : Cond.constantLong RX1 19 (6364136223846793005) ∈ wsX1_number := by decide +kernel
set_option maxRecDepth 20000 in
theorem mX1_number_3 : Cond.constantLong RX1 21 (1442695040888963407) ∈ wsX1_number := by decide +kernel
def f_X1_number (p0 : Int32) (dr_state : Int64) : Option (Int32 × Int64) := if (1 : Int32) ≤ p0 then (gd (p0.toInt64 = 0) (some (((((dr_state * (6364136223846793005 : Int64)) + (1442695040888963407 : Int64)).toUInt64 >>> ((33 : Int32).toInt64.toUInt64 &&& Int64.toUInt64 63)).toInt64 - (((dr_state * (6364136223846793005 : Int64)) + (1442695040888963407 : Int64)).toUInt64 >>> ((33 : Int32).toInt64.toUInt64 &&& Int64.toUInt64 63)).toInt64 / p0.toInt64 * p0.toInt64).toInt32, ((dr_state * (6364136223846793005 : Int64)) + (1442695040888963407 : Int64))))) else (some ((0 : Int32), ((dr_state * (6364136223846793005 : Int64)) + (1442695040888963407 : Int64))))
set_option maxHeartbeats 4000000 in
set_option maxRecDepth 100000 in
theorem t_X1_number {p : Program} {l : Launch} {e : Env} {s : State} {m : MethodId} {args : Array Value} {below : List Frame} {meth : Method} {c : Code} {Q : State → Prop} {D : va_G} {kA : Nat → ClassId} {ad : Nat → Nat} {A : Nat → Prop} {lq_situation : Int32} {adv_rooms : Int32} {adv_levels : Int32} {adv_goalRoom : Int32} {adv_allDoors : Int32} {dr_state : Int64} {dr_count : Int32} {se_count : Int32} {parent : Nat → Int32} {level : Nat → Int32} {kind : Nat → Int32} {snum : Nat → Int32} {xx : Nat → Int32} {yy : Nat → Int32} {lying : Nat → Int32} {switched : Nat → Int32} {doors : Nat → Int32} {beyond : Nat → Nat → Int32} {offered : Nat → Int32} {opn : Nat → Int32} {seenb : Nat → Int64} {savedb : Nat → Int64} {found : Nat → Int32} {distance : Nat → Int32} {opening : Nat → Int32} {p0 : Int32} {res : Int32 × Int64} (C : Cx p s m c args cX1_number 2 RX1 wsX1_number D kA A) (hret : ∀ (r : Int32) (q0 : Int64) (H : Heap) (locs : List Loc) (ls : Array Slot) (pc : Nat), decode cX1_number pc = .ok (.ireturn, 1) → Wd D A s H locs (wC kA ad lq_situation adv_rooms adv_levels adv_goalRoom adv_allDoors q0 dr_count se_count parent level kind snum xx yy lying switched doors beyond offered opn seenb savedb found distance opening) → (r, q0) = res → W p l e rm_X1_number s m args below meth c H locs 0 0 Q (F0 m pc ls [.int r])) {H : Heap} {locs : List Loc} {ls : Array Slot} (w : Wd D A s H locs (wC kA ad lq_situation adv_rooms adv_levels adv_goalRoom adv_allDoors dr_state dr_count se_count parent level kind snum xx yy lying switched doors beyond offered opn seenb savedb found distance opening)) (hl : lv_has ls 2 [(0, .ref (ad 3)), (1, .int p0)]) (h : f_X1_number p0 dr_state = some res) : W p l e rm_X1_number s m args below meth c H locs 0 0 Q (F0 m 0 ls []) := by
  obtain ⟨⟨hx, hb, hml, hown, hts⟩, hK, -, -⟩ := id C
  unfold f_X1_number at h
  refine lv_aload_n hx hb dX1_number_0 rfl (lv_at hl 0 rfl) ?_
  refine lv_aload_n hx hb dX1_number_1 rfl (lv_at hl 0 rfl) ?_
  refine va_get (D := D) (ci := 1) (v := .long dr_state) (C := RX1) (T := TX1) (N := 3) hx hb hts lX1_number_X1 hown hK w.1 3 rfl rfl 0 (by decide) (hts _ mX1_number_1) (fun _ h9 => h9) rfl dX1_number_2 ?_
  refine lv_ldc2 (v := 6364136223846793005) hx hb hown (hts _ mX1_number_2) dX1_number_5 ?_
  refine lv_lmul hx hb dX1_number_8 ?_
  refine lv_ldc2 (v := 1442695040888963407) hx hb hown (hts _ mX1_number_3) dX1_number_9 ?_
  refine lv_ladd hx hb dX1_number_12 ?_
  refine va_put (D := D) (ci := 1) (v := .long ((dr_state * (6364136223846793005 : Int64)) + (1442695040888963407 : Int64))) (ty := .long) (C := RX1) (T := TX1) (N := 3) hx hb hts lX1_number_X1 tyX1 tyX1_ok nmX1 hown hK w.1 w.2.1 w.2.2 3 rfl rfl 0 (by decide) (hts _ mX1_number_1) (fun _ h9 => h9) rfl (by decide +kernel) rfl rfl (Nat.le_of_ble_eq_true rfl) dX1_number_13 (fun H locs hP hD hS => ?_)
  have w : Wd D A s H locs (wC kA ad lq_situation adv_rooms adv_levels adv_goalRoom adv_allDoors ((dr_state * (6364136223846793005 : Int64)) + (1442695040888963407 : Int64)) dr_count se_count parent level kind snum xx yy lying switched doors beyond offered opn seenb savedb found distance opening) := ⟨hP, hD, hS⟩
  refine lv_iload_n hx hb dX1_number_16 rfl (lv_at hl 1 rfl) ?_
  refine lv_iconst (v := 1) hx hb dX1_number_17 (by decide) ?_
  refine lv_icmp_ge (tgt := 25) hx hb dX1_number_18 (by decide) (fun g1 => ?_) (fun g1 => ?_)
  · replace h := it_pos g1 h
    refine lv_aload_n hx hb dX1_number_25 rfl (lv_at hl 0 rfl) ?_
    refine va_get (D := D) (ci := 1) (v := .long ((dr_state * (6364136223846793005 : Int64)) + (1442695040888963407 : Int64))) (C := RX1) (T := TX1) (N := 3) hx hb hts lX1_number_X1 hown hK w.1 3 rfl rfl 0 (by decide) (hts _ mX1_number_1) (fun _ h9 => h9) rfl dX1_number_26 ?_
    refine lv_bipush (v := 33) hx hb dX1_number_29 (by decide) ?_
    refine lv_lushr hx hb dX1_number_31 rfl ?_
    refine lv_iload_n hx hb dX1_number_32 rfl (lv_at hl 1 rfl) ?_
    refine lv_i2l hx hb dX1_number_33 rfl ?_
    obtain ⟨g2, h⟩ := gd_some h
    refine lv_lrem hx hb dX1_number_34 g2 ?_
    refine lv_l2i hx hb dX1_number_35 rfl ?_
    exact hret _ _ _ _ _ _ dX1_number_36 w (Option.some.inj h)
  · replace h := it_neg g1 h
    refine lv_iconst (v := 0) hx hb dX1_number_21 (by decide) ?_
    refine lv_goto (tgt := 36) hx hb dX1_number_22 (by decide) ?_
    exact hret _ _ _ _ _ _ dX1_number_36 w (Option.some.inj h)
set_option maxHeartbeats 4000000 in
set_option maxRecDepth 100000 in
theorem c_X1_number (l : Launch) (D : va_G) (kA : Nat → ClassId) (ad : Nat → Nat) (sz : Nat) (lq_situation : Int32) (adv_rooms : Int32) (adv_levels : Int32) (adv_goalRoom : Int32) (adv_allDoors : Int32) (dr_state : Int64) (dr_count : Int32) (se_count : Int32) (parent : Nat → Int32) (level : Nat → Int32) (kind : Nat → Int32) (snum : Nat → Int32) (xx : Nat → Int32) (yy : Nat → Int32) (lying : Nat → Int32) (switched : Nat → Int32) (doors : Nat → Int32) (beyond : Nat → Nat → Int32) (offered : Nat → Int32) (opn : Nat → Int32) (seenb : Nat → Int64) (savedb : Nat → Int64) (found : Nat → Int32) (distance : Nat → Int32) (opening : Nat → Int32) (p0 : Int32) {res : Int32 × Int64} (h : f_X1_number p0 dr_state = some res) : Ci l yX1_number wsX1_number rm_X1_number D kA [.ref (ad 3), .int p0] sz (wC kA ad lq_situation adv_rooms adv_levels adv_goalRoom adv_allDoors dr_state dr_count se_count parent level kind snum xx yy lying switched doors beyond offered opn seenb savedb found distance opening) (wC kA ad lq_situation adv_rooms adv_levels adv_goalRoom adv_allDoors res.2 dr_count se_count parent level kind snum xx yy lying switched doors beyond offered opn seenb savedb found distance opening) res.1 := by
  refine Met.ofW (cc := cX1_number) (maxL := 2) (ret := (some .int)) (by decide) rfl ?_
  intro p e s m args below meth c s₁ B hml hv
  obtain ⟨rfl, hsz, hP, hK, hD0, hX⟩ := hv
  subst hsz
  have hts := atoms_spec (ws := wsX1_number) B.pre
  have hl := lv_entry ([.ref (ad 3), .int p0]) (n := 2) (Nat.le_of_ble_eq_true rfl)
  rw [lg_entry_eq]
  have hlocks := B.notSynchronized
  refine t_X1_number (A := va_A (wC kA ad lq_situation adv_rooms adv_levels adv_goalRoom adv_allDoors dr_state dr_count se_count parent level kind snum xx yy lying switched doors beyond offered opn seenb savedb found distance opening) s.heap.size) ⟨⟨B.exec, B.bytes, hml, findClass_of_methodNamed B.named, hts⟩, hK, fun q h => Or.inr h, hX⟩ (fun r q0 H locs ls pc hd w hres => ?_) ⟨hP, hD0.self, va_S.rf⟩ hl h
  subst hres
  exact W.iret B.exec B.bytes B.returns (fun t ht hW => ⟨⟨_, (), rfl, rfl, by rw [ht]; exact w.1, va_K.moved hW.alike hK, w.2.1⟩, w.2.2.F ht⟩) w.2.2.2.2 hd hlocks
-- ('wC', 'LockQuest$Drawing', 'clearOffer', '()V', ('dr',))
abbrev rm_X1_clearOffer : Room := { frames := 0, cells := 0, slots := 0, locals := 0 }
set_option maxRecDepth 20000 in
theorem lX1_clearOffer_X1 : ∀ w ∈ wsX10, w ∈ wsX1_clearOffer := by decide +kernel
set_option maxRecDepth 20000 in
theorem mX1_clearOffer_1 : Cond.fieldLink RX1 23 "LockQuest$Drawing" "count" "I" ∈ wsX1_clearOffer := by decide +kernel
def f_X1_clearOffer  (dr_count : Int32) : Option (Int32) := some (0 : Int32)
set_option maxHeartbeats 4000000 in
set_option maxRecDepth 100000 in
theorem t_X1_clearOffer {p : Program} {l : Launch} {e : Env} {s : State} {m : MethodId} {args : Array Value} {below : List Frame} {meth : Method} {c : Code} {Q : State → Prop} {D : va_G} {kA : Nat → ClassId} {ad : Nat → Nat} {A : Nat → Prop} {lq_situation : Int32} {adv_rooms : Int32} {adv_levels : Int32} {adv_goalRoom : Int32} {adv_allDoors : Int32} {dr_state : Int64} {dr_count : Int32} {se_count : Int32} {parent : Nat → Int32} {level : Nat → Int32} {kind : Nat → Int32} {snum : Nat → Int32} {xx : Nat → Int32} {yy : Nat → Int32} {lying : Nat → Int32} {switched : Nat → Int32} {doors : Nat → Int32} {beyond : Nat → Nat → Int32} {offered : Nat → Int32} {opn : Nat → Int32} {seenb : Nat → Int64} {savedb : Nat → Int64} {found : Nat → Int32} {distance : Nat → Int32} {opening : Nat → Int32}  {res : Int32} (C : Cx p s m c args cX1_clearOffer 1 RX1 wsX1_clearOffer D kA A) (hret : ∀ (q0 : Int32) (H : Heap) (locs : List Loc) (ls : Array Slot) (pc : Nat), decode cX1_clearOffer pc = .ok (.return_, 1) → Wd D A s H locs (wC kA ad lq_situation adv_rooms adv_levels adv_goalRoom adv_allDoors dr_state q0 se_count parent level kind snum xx yy lying switched doors beyond offered opn seenb savedb found distance opening) → q0 = res → W p l e rm_X1_clearOffer s m args below meth c H locs 0 0 Q (F0 m pc ls [])) {H : Heap} {locs : List Loc} {ls : Array Slot} (w : Wd D A s H locs (wC kA ad lq_situation adv_rooms adv_levels adv_goalRoom adv_allDoors dr_state dr_count se_count parent level kind snum xx yy lying switched doors beyond offered opn seenb savedb found distance opening)) (hl : lv_has ls 1 [(0, .ref (ad 3))]) (h : f_X1_clearOffer  dr_count = some res) : W p l e rm_X1_clearOffer s m args below meth c H locs 0 0 Q (F0 m 0 ls []) := by
  obtain ⟨⟨hx, hb, hml, hown, hts⟩, hK, -, -⟩ := id C
  unfold f_X1_clearOffer at h
  refine lv_aload_n hx hb dX1_clearOffer_0 rfl (lv_at hl 0 rfl) ?_
  refine lv_iconst (v := 0) hx hb dX1_clearOffer_1 (by decide) ?_
  refine va_put (D := D) (ci := 1) (v := .int (0 : Int32)) (ty := .int) (C := RX1) (T := TX1) (N := 3) hx hb hts lX1_clearOffer_X1 tyX1 tyX1_ok nmX1 hown hK w.1 w.2.1 w.2.2 3 rfl rfl 1 (by decide) (hts _ mX1_clearOffer_1) (fun _ h9 => h9) rfl (by decide +kernel) rfl rfl (Nat.le_of_ble_eq_true rfl) dX1_clearOffer_2 (fun H locs hP hD hS => ?_)
  have w : Wd D A s H locs (wC kA ad lq_situation adv_rooms adv_levels adv_goalRoom adv_allDoors dr_state (0 : Int32) se_count parent level kind snum xx yy lying switched doors beyond offered opn seenb savedb found distance opening) := ⟨hP, hD, hS⟩
  exact hret _ _ _ _ _ dX1_clearOffer_5 w (Option.some.inj h)
set_option maxHeartbeats 4000000 in
set_option maxRecDepth 100000 in
theorem c_X1_clearOffer (l : Launch) (D : va_G) (kA : Nat → ClassId) (ad : Nat → Nat) (sz : Nat) (lq_situation : Int32) (adv_rooms : Int32) (adv_levels : Int32) (adv_goalRoom : Int32) (adv_allDoors : Int32) (dr_state : Int64) (dr_count : Int32) (se_count : Int32) (parent : Nat → Int32) (level : Nat → Int32) (kind : Nat → Int32) (snum : Nat → Int32) (xx : Nat → Int32) (yy : Nat → Int32) (lying : Nat → Int32) (switched : Nat → Int32) (doors : Nat → Int32) (beyond : Nat → Nat → Int32) (offered : Nat → Int32) (opn : Nat → Int32) (seenb : Nat → Int64) (savedb : Nat → Int64) (found : Nat → Int32) (distance : Nat → Int32) (opening : Nat → Int32)  {res : Int32} (h : f_X1_clearOffer  dr_count = some res) : Cv l yX1_clearOffer wsX1_clearOffer rm_X1_clearOffer D kA [.ref (ad 3)] sz (wC kA ad lq_situation adv_rooms adv_levels adv_goalRoom adv_allDoors dr_state dr_count se_count parent level kind snum xx yy lying switched doors beyond offered opn seenb savedb found distance opening) (wC kA ad lq_situation adv_rooms adv_levels adv_goalRoom adv_allDoors dr_state res se_count parent level kind snum xx yy lying switched doors beyond offered opn seenb savedb found distance opening) := by
  refine Met.ofW (cc := cX1_clearOffer) (maxL := 1) (ret := none) (by decide) rfl ?_
  intro p e s m args below meth c s₁ B hml hv
  obtain ⟨rfl, hsz, hP, hK, hD0, hX⟩ := hv
  subst hsz
  have hts := atoms_spec (ws := wsX1_clearOffer) B.pre
  have hl := lv_entry ([.ref (ad 3)]) (n := 1) (Nat.le_of_ble_eq_true rfl)
  rw [lg_entry_eq]
  have hlocks := B.notSynchronized
  refine t_X1_clearOffer (A := va_A (wC kA ad lq_situation adv_rooms adv_levels adv_goalRoom adv_allDoors dr_state dr_count se_count parent level kind snum xx yy lying switched doors beyond offered opn seenb savedb found distance opening) s.heap.size) ⟨⟨B.exec, B.bytes, hml, findClass_of_methodNamed B.named, hts⟩, hK, fun q h => Or.inr h, hX⟩ (fun q0 H locs ls pc hd w hres => ?_) ⟨hP, hD0.self, va_S.rf⟩ hl h
  subst hres
  exact W.vret B.exec B.bytes B.returns (fun t ht hW => ⟨⟨(), rfl, trivial, by rw [ht]; exact w.1, va_K.moved hW.alike hK, w.2.1⟩, w.2.2.F ht⟩) w.2.2.2.2 hd hlocks
-- ('wC', 'LockQuest$Drawing', 'offeredRoom', '()I', ('dr',))
abbrev rm_X1_offeredRoom : Room := { frames := 1, cells := 0, slots := 0, locals := 21 }
set_option maxRecDepth 20000 in
theorem lX1_offeredRoom_X1 : ∀ w ∈ wsX10, w ∈ wsX1_offeredRoom := by decide +kernel
set_option maxRecDepth 20000 in
theorem mX1_offeredRoom_1 : Cond.fieldLink RX1 9 "LockQuest$Drawing" "offered" "[I" ∈ wsX1_offeredRoom := by decide +kernel
set_option maxRecDepth 20000 in
theorem mX1_offeredRoom_2 : Cond.fieldLink RX1 23 "LockQuest$Drawing" "count" "I" ∈ wsX1_offeredRoom := by decide +kernel
def f_X1_offeredRoom  (dr_state : Int64) (dr_count : Int32) (offered : Nat → Int32) : Option (Int32 × Int64) := (f_X1_number dr_count dr_state).bind (fun u1 => gd (u1.1 < 0 ∨ 12 ≤ u1.1.toNatClampNeg) (some ((offered u1.1.toNatClampNeg), u1.2)))
set_option maxHeartbeats 4000000 in
set_option maxRecDepth 100000 in
theorem t_X1_offeredRoom {p : Program} {l : Launch} {e : Env} {s : State} {m : MethodId} {args : Array Value} {below : List Frame} {meth : Method} {c : Code} {Q : State → Prop} {D : va_G} {kA : Nat → ClassId} {ad : Nat → Nat} {A : Nat → Prop} {lq_situation : Int32} {adv_rooms : Int32} {adv_levels : Int32} {adv_goalRoom : Int32} {adv_allDoors : Int32} {dr_state : Int64} {dr_count : Int32} {se_count : Int32} {parent : Nat → Int32} {level : Nat → Int32} {kind : Nat → Int32} {snum : Nat → Int32} {xx : Nat → Int32} {yy : Nat → Int32} {lying : Nat → Int32} {switched : Nat → Int32} {doors : Nat → Int32} {beyond : Nat → Nat → Int32} {offered : Nat → Int32} {opn : Nat → Int32} {seenb : Nat → Int64} {savedb : Nat → Int64} {found : Nat → Int32} {distance : Nat → Int32} {opening : Nat → Int32}  {res : Int32 × Int64} (C : Cx p s m c args cX1_offeredRoom 1 RX1 wsX1_offeredRoom D kA A) (hret : ∀ (r : Int32) (q0 : Int64) (H : Heap) (locs : List Loc) (ls : Array Slot) (pc : Nat), decode cX1_offeredRoom pc = .ok (.ireturn, 1) → Wd D A s H locs (wC kA ad lq_situation adv_rooms adv_levels adv_goalRoom adv_allDoors q0 dr_count se_count parent level kind snum xx yy lying switched doors beyond offered opn seenb savedb found distance opening) → (r, q0) = res → W p l e rm_X1_offeredRoom s m args below meth c H locs 0 0 Q (F0 m pc ls [.int r])) {H : Heap} {locs : List Loc} {ls : Array Slot} (w : Wd D A s H locs (wC kA ad lq_situation adv_rooms adv_levels adv_goalRoom adv_allDoors dr_state dr_count se_count parent level kind snum xx yy lying switched doors beyond offered opn seenb savedb found distance opening)) (hl : lv_has ls 1 [(0, .ref (ad 3))]) (h : f_X1_offeredRoom  dr_state dr_count offered = some res) : W p l e rm_X1_offeredRoom s m args below meth c H locs 0 0 Q (F0 m 0 ls []) := by
  obtain ⟨⟨hx, hb, hml, hown, hts⟩, hK, -, -⟩ := id C
  unfold f_X1_offeredRoom at h
  refine lv_aload_n hx hb dX1_offeredRoom_0 rfl (lv_at hl 0 rfl) ?_
  refine va_get (D := D) (ci := 1) (v := .ref (ad 29)) (C := RX1) (T := TX1) (N := 3) hx hb hts lX1_offeredRoom_X1 hown hK w.1 3 rfl rfl 2 (by decide) (hts _ mX1_offeredRoom_1) (fun _ h9 => h9) rfl dX1_offeredRoom_1 ?_
  refine lv_aload_n hx hb dX1_offeredRoom_4 rfl (lv_at hl 0 rfl) ?_
  refine lv_aload_n hx hb dX1_offeredRoom_5 rfl (lv_at hl 0 rfl) ?_
  refine va_get (D := D) (ci := 1) (v := .int dr_count) (C := RX1) (T := TX1) (N := 3) hx hb hts lX1_offeredRoom_X1 hown hK w.1 3 rfl rfl 1 (by decide) (hts _ mX1_offeredRoom_2) (fun _ h9 => h9) rfl dX1_offeredRoom_6 ?_
  obtain ⟨u1, hc1, h⟩ := bd_some h
  refine gl_calli C w (va_runV (As := [.int dr_count]) (rest := [.ref (ad 29)]) ⟨hx, hb, hml, hown, hts⟩ (c_X1_number l D kA ad H.size lq_situation adv_rooms adv_levels adv_goalRoom adv_allDoors dr_state dr_count se_count parent level kind snum xx yy lying switched doors beyond offered opn seenb savedb found distance opening dr_count hc1) (cwV 1 hts gX1_offeredRoom_X1_number rfl rfl rfl (by decide +kernel) ⟨Nat.le_of_ble_eq_true rfl, Nat.le_of_ble_eq_true rfl⟩) (Wd.preV C w (q0 := 3) (ci := 1) rfl rfl rfl) rfl rfl hl.1 rfl (lv_room (Nat.le_of_ble_eq_true rfl)) dX1_offeredRoom_9 ⟨Nat.zero_le _, Nat.zero_le _⟩) (fun H locs w => ?_)
  obtain ⟨g2, h⟩ := gd_some h
  refine va_iald hx hb hK w.1 29 0 rfl rfl g2 dX1_offeredRoom_12 ?_
  exact hret _ _ _ _ _ _ dX1_offeredRoom_13 w (Option.some.inj h)
set_option maxHeartbeats 4000000 in
set_option maxRecDepth 100000 in
theorem c_X1_offeredRoom (l : Launch) (D : va_G) (kA : Nat → ClassId) (ad : Nat → Nat) (sz : Nat) (lq_situation : Int32) (adv_rooms : Int32) (adv_levels : Int32) (adv_goalRoom : Int32) (adv_allDoors : Int32) (dr_state : Int64) (dr_count : Int32) (se_count : Int32) (parent : Nat → Int32) (level : Nat → Int32) (kind : Nat → Int32) (snum : Nat → Int32) (xx : Nat → Int32) (yy : Nat → Int32) (lying : Nat → Int32) (switched : Nat → Int32) (doors : Nat → Int32) (beyond : Nat → Nat → Int32) (offered : Nat → Int32) (opn : Nat → Int32) (seenb : Nat → Int64) (savedb : Nat → Int64) (found : Nat → Int32) (distance : Nat → Int32) (opening : Nat → Int32)  {res : Int32 × Int64} (h : f_X1_offeredRoom  dr_state dr_count offered = some res) : Ci l yX1_offeredRoom wsX1_offeredRoom rm_X1_offeredRoom D kA [.ref (ad 3)] sz (wC kA ad lq_situation adv_rooms adv_levels adv_goalRoom adv_allDoors dr_state dr_count se_count parent level kind snum xx yy lying switched doors beyond offered opn seenb savedb found distance opening) (wC kA ad lq_situation adv_rooms adv_levels adv_goalRoom adv_allDoors res.2 dr_count se_count parent level kind snum xx yy lying switched doors beyond offered opn seenb savedb found distance opening) res.1 := by
  refine Met.ofW (cc := cX1_offeredRoom) (maxL := 1) (ret := (some .int)) (by decide) rfl ?_
  intro p e s m args below meth c s₁ B hml hv
  obtain ⟨rfl, hsz, hP, hK, hD0, hX⟩ := hv
  subst hsz
  have hts := atoms_spec (ws := wsX1_offeredRoom) B.pre
  have hl := lv_entry ([.ref (ad 3)]) (n := 1) (Nat.le_of_ble_eq_true rfl)
  rw [lg_entry_eq]
  have hlocks := B.notSynchronized
  refine t_X1_offeredRoom (A := va_A (wC kA ad lq_situation adv_rooms adv_levels adv_goalRoom adv_allDoors dr_state dr_count se_count parent level kind snum xx yy lying switched doors beyond offered opn seenb savedb found distance opening) s.heap.size) ⟨⟨B.exec, B.bytes, hml, findClass_of_methodNamed B.named, hts⟩, hK, fun q h => Or.inr h, hX⟩ (fun r q0 H locs ls pc hd w hres => ?_) ⟨hP, hD0.self, va_S.rf⟩ hl h
  subst hres
  exact W.iret B.exec B.bytes B.returns (fun t ht hW => ⟨⟨_, (), rfl, rfl, by rw [ht]; exact w.1, va_K.moved hW.alike hK, w.2.1⟩, w.2.2.F ht⟩) w.2.2.2.2 hd hlocks
-- ('wC', 'LockQuest$Drawing', 'offer', '(I)V', ('dr', None))
abbrev rm_X1_offer : Room := { frames := 0, cells := 0, slots := 0, locals := 0 }
set_option maxRecDepth 20000 in
theorem lX1_offer_X1 : ∀ w ∈ wsX10, w ∈ wsX1_offer := by decide +kernel
set_option maxRecDepth 20000 in
theorem mX1_offer_1 : Cond.fieldLink RX1 23 "LockQuest$Drawing" "count" "I" ∈ wsX1_offer := by decide +kernel
set_option maxRecDepth 20000 in
theorem mX1_offer_2 : Cond.fieldLink RX1 9 "LockQuest$Drawing" "offered" "[I" ∈ wsX1_offer := by decide +kernel
def f_X1_offer (p0 : Int32) (dr_count : Int32) (offered : Nat → Int32) : Option (Int32 × (Nat → Int32)) := if (12 : Int32) ≤ dr_count then (some (dr_count, offered)) else (gd (dr_count < 0 ∨ 12 ≤ dr_count.toNatClampNeg) (some ((dr_count + (1 : Int32)), (upd offered dr_count.toNatClampNeg p0))))
set_option maxHeartbeats 4000000 in
set_option maxRecDepth 100000 in
theorem t_X1_offer {p : Program} {l : Launch} {e : Env} {s : State} {m : MethodId} {args : Array Value} {below : List Frame} {meth : Method} {c : Code} {Q : State → Prop} {D : va_G} {kA : Nat → ClassId} {ad : Nat → Nat} {A : Nat → Prop} {lq_situation : Int32} {adv_rooms : Int32} {adv_levels : Int32} {adv_goalRoom : Int32} {adv_allDoors : Int32} {dr_state : Int64} {dr_count : Int32} {se_count : Int32} {parent : Nat → Int32} {level : Nat → Int32} {kind : Nat → Int32} {snum : Nat → Int32} {xx : Nat → Int32} {yy : Nat → Int32} {lying : Nat → Int32} {switched : Nat → Int32} {doors : Nat → Int32} {beyond : Nat → Nat → Int32} {offered : Nat → Int32} {opn : Nat → Int32} {seenb : Nat → Int64} {savedb : Nat → Int64} {found : Nat → Int32} {distance : Nat → Int32} {opening : Nat → Int32} {p0 : Int32} {res : Int32 × (Nat → Int32)} (C : Cx p s m c args cX1_offer 2 RX1 wsX1_offer D kA A) (hret : ∀ (q0 : Int32) (q1 : Nat → Int32) (H : Heap) (locs : List Loc) (ls : Array Slot) (pc : Nat), decode cX1_offer pc = .ok (.return_, 1) → Wd D A s H locs (wC kA ad lq_situation adv_rooms adv_levels adv_goalRoom adv_allDoors dr_state q0 se_count parent level kind snum xx yy lying switched doors beyond q1 opn seenb savedb found distance opening) → (q0, q1) = res → W p l e rm_X1_offer s m args below meth c H locs 0 0 Q (F0 m pc ls [])) {H : Heap} {locs : List Loc} {ls : Array Slot} (w : Wd D A s H locs (wC kA ad lq_situation adv_rooms adv_levels adv_goalRoom adv_allDoors dr_state dr_count se_count parent level kind snum xx yy lying switched doors beyond offered opn seenb savedb found distance opening)) (hl : lv_has ls 2 [(0, .ref (ad 3)), (1, .int p0)]) (h : f_X1_offer p0 dr_count offered = some res) : W p l e rm_X1_offer s m args below meth c H locs 0 0 Q (F0 m 0 ls []) := by
  obtain ⟨⟨hx, hb, hml, hown, hts⟩, hK, -, -⟩ := id C
  unfold f_X1_offer at h
  refine lv_aload_n hx hb dX1_offer_0 rfl (lv_at hl 0 rfl) ?_
  refine va_get (D := D) (ci := 1) (v := .int dr_count) (C := RX1) (T := TX1) (N := 3) hx hb hts lX1_offer_X1 hown hK w.1 3 rfl rfl 1 (by decide) (hts _ mX1_offer_1) (fun _ h9 => h9) rfl dX1_offer_1 ?_
  refine lv_aload_n hx hb dX1_offer_4 rfl (lv_at hl 0 rfl) ?_
  refine va_get (D := D) (ci := 1) (v := .ref (ad 29)) (C := RX1) (T := TX1) (N := 3) hx hb hts lX1_offer_X1 hown hK w.1 3 rfl rfl 2 (by decide) (hts _ mX1_offer_2) (fun _ h9 => h9) rfl dX1_offer_5 ?_
  refine va_alen (v := 12) hx hb hK w.1 29 0 rfl rfl rfl dX1_offer_8 ?_
  refine lv_icmp_ge (tgt := 32) hx hb dX1_offer_9 (by decide) (fun g1 => ?_) (fun g1 => ?_)
  · replace h := it_pos g1 h
    exact hret _ _ _ _ _ _ dX1_offer_32 w (Option.some.inj h)
  · replace h := it_neg g1 h
    refine lv_aload_n hx hb dX1_offer_12 rfl (lv_at hl 0 rfl) ?_
    refine va_get (D := D) (ci := 1) (v := .ref (ad 29)) (C := RX1) (T := TX1) (N := 3) hx hb hts lX1_offer_X1 hown hK w.1 3 rfl rfl 2 (by decide) (hts _ mX1_offer_2) (fun _ h9 => h9) rfl dX1_offer_13 ?_
    refine lv_aload_n hx hb dX1_offer_16 rfl (lv_at hl 0 rfl) ?_
    refine va_get (D := D) (ci := 1) (v := .int dr_count) (C := RX1) (T := TX1) (N := 3) hx hb hts lX1_offer_X1 hown hK w.1 3 rfl rfl 1 (by decide) (hts _ mX1_offer_1) (fun _ h9 => h9) rfl dX1_offer_17 ?_
    refine lv_iload_n hx hb dX1_offer_20 rfl (lv_at hl 1 rfl) ?_
    obtain ⟨g2, h⟩ := gd_some h
    refine va_iast hx hb hK w.1 w.2.1 w.2.2 29 0 rfl rfl g2 dX1_offer_21 (fun H locs hP hD hS => ?_)
    have w : Wd D A s H locs (wC kA ad lq_situation adv_rooms adv_levels adv_goalRoom adv_allDoors dr_state dr_count se_count parent level kind snum xx yy lying switched doors beyond (upd offered dr_count.toNatClampNeg p0) opn seenb savedb found distance opening) := ⟨hP, hD, hS⟩
    refine lv_aload_n hx hb dX1_offer_22 rfl (lv_at hl 0 rfl) ?_
    refine lv_dup hx hb dX1_offer_23 rfl ?_
    refine va_get (D := D) (ci := 1) (v := .int dr_count) (C := RX1) (T := TX1) (N := 3) hx hb hts lX1_offer_X1 hown hK w.1 3 rfl rfl 1 (by decide) (hts _ mX1_offer_1) (fun _ h9 => h9) rfl dX1_offer_24 ?_
    refine lv_iconst (v := 1) hx hb dX1_offer_27 (by decide) ?_
    refine lv_iadd hx hb dX1_offer_28 ?_
    refine va_put (D := D) (ci := 1) (v := .int (dr_count + (1 : Int32))) (ty := .int) (C := RX1) (T := TX1) (N := 3) hx hb hts lX1_offer_X1 tyX1 tyX1_ok nmX1 hown hK w.1 w.2.1 w.2.2 3 rfl rfl 1 (by decide) (hts _ mX1_offer_1) (fun _ h9 => h9) rfl (by decide +kernel) rfl rfl (Nat.le_of_ble_eq_true rfl) dX1_offer_29 (fun H locs hP hD hS => ?_)
    have w : Wd D A s H locs (wC kA ad lq_situation adv_rooms adv_levels adv_goalRoom adv_allDoors dr_state (dr_count + (1 : Int32)) se_count parent level kind snum xx yy lying switched doors beyond (upd offered dr_count.toNatClampNeg p0) opn seenb savedb found distance opening) := ⟨hP, hD, hS⟩
    exact hret _ _ _ _ _ _ dX1_offer_32 w (Option.some.inj h)
set_option maxHeartbeats 4000000 in
set_option maxRecDepth 100000 in
theorem c_X1_offer (l : Launch) (D : va_G) (kA : Nat → ClassId) (ad : Nat → Nat) (sz : Nat) (lq_situation : Int32) (adv_rooms : Int32) (adv_levels : Int32) (adv_goalRoom : Int32) (adv_allDoors : Int32) (dr_state : Int64) (dr_count : Int32) (se_count : Int32) (parent : Nat → Int32) (level : Nat → Int32) (kind : Nat → Int32) (snum : Nat → Int32) (xx : Nat → Int32) (yy : Nat → Int32) (lying : Nat → Int32) (switched : Nat → Int32) (doors : Nat → Int32) (beyond : Nat → Nat → Int32) (offered : Nat → Int32) (opn : Nat → Int32) (seenb : Nat → Int64) (savedb : Nat → Int64) (found : Nat → Int32) (distance : Nat → Int32) (opening : Nat → Int32) (p0 : Int32) {res : Int32 × (Nat → Int32)} (h : f_X1_offer p0 dr_count offered = some res) : Cv l yX1_offer wsX1_offer rm_X1_offer D kA [.ref (ad 3), .int p0] sz (wC kA ad lq_situation adv_rooms adv_levels adv_goalRoom adv_allDoors dr_state dr_count se_count parent level kind snum xx yy lying switched doors beyond offered opn seenb savedb found distance opening) (wC kA ad lq_situation adv_rooms adv_levels adv_goalRoom adv_allDoors dr_state res.1 se_count parent level kind snum xx yy lying switched doors beyond res.2 opn seenb savedb found distance opening) := by
  refine Met.ofW (cc := cX1_offer) (maxL := 2) (ret := none) (by decide) rfl ?_
  intro p e s m args below meth c s₁ B hml hv
  obtain ⟨rfl, hsz, hP, hK, hD0, hX⟩ := hv
  subst hsz
  have hts := atoms_spec (ws := wsX1_offer) B.pre
  have hl := lv_entry ([.ref (ad 3), .int p0]) (n := 2) (Nat.le_of_ble_eq_true rfl)
  rw [lg_entry_eq]
  have hlocks := B.notSynchronized
  refine t_X1_offer (A := va_A (wC kA ad lq_situation adv_rooms adv_levels adv_goalRoom adv_allDoors dr_state dr_count se_count parent level kind snum xx yy lying switched doors beyond offered opn seenb savedb found distance opening) s.heap.size) ⟨⟨B.exec, B.bytes, hml, findClass_of_methodNamed B.named, hts⟩, hK, fun q h => Or.inr h, hX⟩ (fun q0 q1 H locs ls pc hd w hres => ?_) ⟨hP, hD0.self, va_S.rf⟩ hl h
  subst hres
  exact W.vret B.exec B.bytes B.returns (fun t ht hW => ⟨⟨(), rfl, trivial, by rw [ht]; exact w.1, va_K.moved hW.alike hK, w.2.1⟩, w.2.2.F ht⟩) w.2.2.2.2 hd hlocks
-- ('wC', 'LockQuest$Maker', 'drawnBefore', '(II)I', ('mk', None, None))
abbrev rm_X2_drawnBefore : Room := { frames := 2, cells := 0, slots := 0, locals := 41 }
set_option maxRecDepth 20000 in
theorem lX2_drawnBefore_X2 : ∀ w ∈ wsX20, w ∈ wsX2_drawnBefore := by decide +kernel
set_option maxRecDepth 20000 in
theorem mX2_drawnBefore_1 : Cond.fieldLink RX2 12 "LockQuest$Maker" "drawing" "LLockQuest$Drawing;" ∈ wsX2_drawnBefore := by decide +kernel
set_option maxRecDepth 20000 in
theorem mX2_drawnBefore_2 : Cond.fieldLink RX2 22 "LockQuest$Maker" "made" "LLockQuest$Adventure;" ∈ wsX2_drawnBefore := by decide +kernel
set_option maxRecDepth 20000 in
theorem lX2_drawnBefore_X0 : ∀ w ∈ wsX00, w ∈ wsX2_drawnBefore := by decide +kernel
set_option maxRecDepth 20000 in
theorem mX2_drawnBefore_4 : Cond.fieldLink RX2 101 "LockQuest$Adventure" "level" "[I" ∈ wsX2_drawnBefore := by decide +kernel
def f_X2_drawnBefore_35 (level : Nat → Int32) (k9 : Int32 → Int32 → Int32 → Int64 → Int32 → (Nat → Int32) → Option (Int32 × Int64 × Int32 × (Nat → Int32))) (x1 : Int32) (x2 : Int32) (x3 : Int32) (dr_state : Int64) (dr_count : Int32) (offered : Nat → Int32) : Option (Int32 × Int64 × Int32 × (Nat → Int32)) := k9 x1 x2 (x3 + (1 : Int32)) dr_state dr_count offered
set_option maxHeartbeats 4000000 in
set_option maxRecDepth 100000 in
theorem t_X2_drawnBefore_35 {p : Program} {l : Launch} {e : Env} {s : State} {m : MethodId} {args : Array Value} {below : List Frame} {meth : Method} {c : Code} {Q : State → Prop} {D : va_G} {kA : Nat → ClassId} {ad : Nat → Nat} {A : Nat → Prop} {lq_situation : Int32} {adv_rooms : Int32} {adv_levels : Int32} {adv_goalRoom : Int32} {adv_allDoors : Int32} {dr_state : Int64} {dr_count : Int32} {se_count : Int32} {parent : Nat → Int32} {level : Nat → Int32} {kind : Nat → Int32} {snum : Nat → Int32} {xx : Nat → Int32} {yy : Nat → Int32} {lying : Nat → Int32} {switched : Nat → Int32} {doors : Nat → Int32} {beyond : Nat → Nat → Int32} {offered : Nat → Int32} {opn : Nat → Int32} {seenb : Nat → Int64} {savedb : Nat → Int64} {found : Nat → Int32} {distance : Nat → Int32} {opening : Nat → Int32} {x1 : Int32} {x2 : Int32} {x3 : Int32} {k9 : Int32 → Int32 → Int32 → Int64 → Int32 → (Nat → Int32) → Option (Int32 × Int64 × Int32 × (Nat → Int32))} {res : Int32 × Int64 × Int32 × (Nat → Int32)} (C : Cx p s m c args cX2_drawnBefore 4 RX2 wsX2_drawnBefore D kA A) (hk9 : ∀ (x1 : Int32) (x2 : Int32) (x3 : Int32) (dr_state : Int64) (dr_count : Int32) (offered : Nat → Int32) (H : Heap) (locs : List Loc) (ls : Array Slot), Wd D A s H locs (wC kA ad lq_situation adv_rooms adv_levels adv_goalRoom adv_allDoors dr_state dr_count se_count parent level kind snum xx yy lying switched doors beyond offered opn seenb savedb found distance opening) → lv_has ls 4 [(0, .ref (ad 2)), (1, .int x1), (2, .int x2), (3, .int x3)] → k9 x1 x2 x3 dr_state dr_count offered = some res → W p l e rm_X2_drawnBefore s m args below meth c H locs 0 0 Q (F0 m 9 ls [])) (hret : ∀ (r : Int32) (q0 : Int64) (q1 : Int32) (q2 : Nat → Int32) (H : Heap) (locs : List Loc) (ls : Array Slot) (pc : Nat), decode cX2_drawnBefore pc = .ok (.ireturn, 1) → Wd D A s H locs (wC kA ad lq_situation adv_rooms adv_levels adv_goalRoom adv_allDoors q0 q1 se_count parent level kind snum xx yy lying switched doors beyond q2 opn seenb savedb found distance opening) → (r, q0, q1, q2) = res → W p l e rm_X2_drawnBefore s m args below meth c H locs 0 0 Q (F0 m pc ls [.int r])) {H : Heap} {locs : List Loc} {ls : Array Slot} (w : Wd D A s H locs (wC kA ad lq_situation adv_rooms adv_levels adv_goalRoom adv_allDoors dr_state dr_count se_count parent level kind snum xx yy lying switched doors beyond offered opn seenb savedb found distance opening)) (hl : lv_has ls 4 [(0, .ref (ad 2)), (1, .int x1), (2, .int x2), (3, .int x3)]) (h : f_X2_drawnBefore_35 level k9 x1 x2 x3 dr_state dr_count offered = some res) : W p l e rm_X2_drawnBefore s m args below meth c H locs 0 0 Q (F0 m 35 ls []) := by
  obtain ⟨⟨hx, hb, hml, hown, hts⟩, hK, -, -⟩ := id C
  unfold f_X2_drawnBefore_35 at h
  refine lv_iinc (v := (x3 + (1 : Int32))) (lv' := [(3, .int (x3 + (1 : Int32))), (0, .ref (ad 2)), (1, .int x1), (2, .int x2)]) hx hb dX2_drawnBefore_35 hl (k := 3) rfl rfl (by decide) rfl (fun ls hl => ?_)
  refine lv_goto (tgt := 9) hx hb dX2_drawnBefore_38 (by decide) ?_
  exact hk9 _ _ _ _ _ _ H locs ls w (lv_sub hl [1, 2, 3, 0] rfl) h
def fb_X2_drawnBefore_9 (level : Nat → Int32) (k9 : Int32 → Int32 → Int32 → Int64 → Int32 → (Nat → Int32) → Option (Int32 × Int64 × Int32 × (Nat → Int32))) (x1 : Int32) (x2 : Int32) (x3 : Int32) (dr_state : Int64) (dr_count : Int32) (offered : Nat → Int32) : Option (Int32 × Int64 × Int32 × (Nat → Int32)) := if x1 ≤ x3 then ((f_X1_offeredRoom dr_state dr_count offered).bind (fun u2 => some (u2.1, u2.2, dr_count, offered))) else (gd (x3 < 0 ∨ 12 ≤ x3.toNatClampNeg) (if (level x3.toNatClampNeg) = x2 then ((f_X1_offer x3 dr_count offered).bind (fun u5 => f_X2_drawnBefore_35 level k9 x1 x2 x3 dr_state u5.1 u5.2)) else (f_X2_drawnBefore_35 level k9 x1 x2 x3 dr_state dr_count offered)))
set_option maxHeartbeats 4000000 in
set_option maxRecDepth 100000 in
theorem tb_X2_drawnBefore_9 {p : Program} {l : Launch} {e : Env} {s : State} {m : MethodId} {args : Array Value} {below : List Frame} {meth : Method} {c : Code} {Q : State → Prop} {D : va_G} {kA : Nat → ClassId} {ad : Nat → Nat} {A : Nat → Prop} {lq_situation : Int32} {adv_rooms : Int32} {adv_levels : Int32} {adv_goalRoom : Int32} {adv_allDoors : Int32} {dr_state : Int64} {dr_count : Int32} {se_count : Int32} {parent : Nat → Int32} {level : Nat → Int32} {kind : Nat → Int32} {snum : Nat → Int32} {xx : Nat → Int32} {yy : Nat → Int32} {lying : Nat → Int32} {switched : Nat → Int32} {doors : Nat → Int32} {beyond : Nat → Nat → Int32} {offered : Nat → Int32} {opn : Nat → Int32} {seenb : Nat → Int64} {savedb : Nat → Int64} {found : Nat → Int32} {distance : Nat → Int32} {opening : Nat → Int32} {x1 : Int32} {x2 : Int32} {x3 : Int32} {k9 : Int32 → Int32 → Int32 → Int64 → Int32 → (Nat → Int32) → Option (Int32 × Int64 × Int32 × (Nat → Int32))} {res : Int32 × Int64 × Int32 × (Nat → Int32)} (C : Cx p s m c args cX2_drawnBefore 4 RX2 wsX2_drawnBefore D kA A) (hk9 : ∀ (x1 : Int32) (x2 : Int32) (x3 : Int32) (dr_state : Int64) (dr_count : Int32) (offered : Nat → Int32) (H : Heap) (locs : List Loc) (ls : Array Slot), Wd D A s H locs (wC kA ad lq_situation adv_rooms adv_levels adv_goalRoom adv_allDoors dr_state dr_count se_count parent level kind snum xx yy lying switched doors beyond offered opn seenb savedb found distance opening) → lv_has ls 4 [(0, .ref (ad 2)), (1, .int x1), (2, .int x2), (3, .int x3)] → k9 x1 x2 x3 dr_state dr_count offered = some res → W p l e rm_X2_drawnBefore s m args below meth c H locs 0 0 Q (F0 m 9 ls [])) (hret : ∀ (r : Int32) (q0 : Int64) (q1 : Int32) (q2 : Nat → Int32) (H : Heap) (locs : List Loc) (ls : Array Slot) (pc : Nat), decode cX2_drawnBefore pc = .ok (.ireturn, 1) → Wd D A s H locs (wC kA ad lq_situation adv_rooms adv_levels adv_goalRoom adv_allDoors q0 q1 se_count parent level kind snum xx yy lying switched doors beyond q2 opn seenb savedb found distance opening) → (r, q0, q1, q2) = res → W p l e rm_X2_drawnBefore s m args below meth c H locs 0 0 Q (F0 m pc ls [.int r])) {H : Heap} {locs : List Loc} {ls : Array Slot} (w : Wd D A s H locs (wC kA ad lq_situation adv_rooms adv_levels adv_goalRoom adv_allDoors dr_state dr_count se_count parent level kind snum xx yy lying switched doors beyond offered opn seenb savedb found distance opening)) (hl : lv_has ls 4 [(0, .ref (ad 2)), (1, .int x1), (2, .int x2), (3, .int x3)]) (h : fb_X2_drawnBefore_9 level k9 x1 x2 x3 dr_state dr_count offered = some res) : W p l e rm_X2_drawnBefore s m args below meth c H locs 0 0 Q (F0 m 9 ls []) := by
  obtain ⟨⟨hx, hb, hml, hown, hts⟩, hK, -, -⟩ := id C
  unfold fb_X2_drawnBefore_9 at h
  refine lv_iload_n hx hb dX2_drawnBefore_9 rfl (lv_at hl 3 rfl) ?_
  refine lv_iload_n hx hb dX2_drawnBefore_10 rfl (lv_at hl 1 rfl) ?_
  refine lv_icmp_ge (tgt := 41) hx hb dX2_drawnBefore_11 (by decide) (fun g1 => ?_) (fun g1 => ?_)
  · replace h := it_pos g1 h
    refine lv_aload_n hx hb dX2_drawnBefore_41 rfl (lv_at hl 0 rfl) ?_
    refine va_get (D := D) (ci := 2) (v := .ref (ad 3)) (C := RX2) (T := TX2) (N := 3) hx hb hts lX2_drawnBefore_X2 hown hK w.1 2 rfl rfl 1 (by decide) (hts _ mX2_drawnBefore_1) (fun _ h9 => h9) rfl dX2_drawnBefore_42 ?_
    obtain ⟨u2, hc2, h⟩ := bd_some h
    refine gl_calli C w (va_runV (As := []) (rest := []) ⟨hx, hb, hml, hown, hts⟩ (c_X1_offeredRoom l D kA ad H.size lq_situation adv_rooms adv_levels adv_goalRoom adv_allDoors dr_state dr_count se_count parent level kind snum xx yy lying switched doors beyond offered opn seenb savedb found distance opening  hc2) (cwV 0 hts gX2_drawnBefore_X1_offeredRoom rfl rfl rfl (by decide +kernel) ⟨Nat.le_of_ble_eq_true rfl, Nat.le_of_ble_eq_true rfl⟩) (Wd.preV C w (q0 := 3) (ci := 1) rfl rfl rfl) rfl rfl hl.1 rfl (lv_room (Nat.le_of_ble_eq_true rfl)) dX2_drawnBefore_45 ⟨Nat.zero_le _, Nat.zero_le _⟩) (fun H locs w => ?_)
    exact hret _ _ _ _ _ _ _ _ dX2_drawnBefore_48 w (Option.some.inj h)
  · replace h := it_neg g1 h
    refine lv_aload_n hx hb dX2_drawnBefore_14 rfl (lv_at hl 0 rfl) ?_
    refine va_get (D := D) (ci := 2) (v := .ref (ad 1)) (C := RX2) (T := TX2) (N := 3) hx hb hts lX2_drawnBefore_X2 hown hK w.1 2 rfl rfl 0 (by decide) (hts _ mX2_drawnBefore_2) (fun _ h9 => h9) rfl dX2_drawnBefore_15 ?_
    refine va_get (D := D) (ci := 0) (v := .ref (ad 8)) (C := RX0) (T := TX0) (N := 14) hx hb hts lX2_drawnBefore_X0 hown hK w.1 1 rfl rfl 5 (by decide) (hts _ mX2_drawnBefore_4) (fun _ h9 => h9) rfl dX2_drawnBefore_18 ?_
    refine lv_iload_n hx hb dX2_drawnBefore_21 rfl (lv_at hl 3 rfl) ?_
    obtain ⟨g3, h⟩ := gd_some h
    refine va_iald hx hb hK w.1 8 0 rfl rfl g3 dX2_drawnBefore_22 ?_
    refine lv_iload_n hx hb dX2_drawnBefore_23 rfl (lv_at hl 2 rfl) ?_
    refine lv_icmp_ne (tgt := 35) hx hb dX2_drawnBefore_24 (by decide) (fun g4 => ?_) (fun g4 => ?_)
    · replace h := it_neg g4 h
      exact t_X2_drawnBefore_35 C hk9 hret w (lv_sub hl [0, 1, 2, 3] rfl) h
    · replace h := it_pos g4 h
      refine lv_aload_n hx hb dX2_drawnBefore_27 rfl (lv_at hl 0 rfl) ?_
      refine va_get (D := D) (ci := 2) (v := .ref (ad 3)) (C := RX2) (T := TX2) (N := 3) hx hb hts lX2_drawnBefore_X2 hown hK w.1 2 rfl rfl 1 (by decide) (hts _ mX2_drawnBefore_1) (fun _ h9 => h9) rfl dX2_drawnBefore_28 ?_
      refine lv_iload_n hx hb dX2_drawnBefore_31 rfl (lv_at hl 3 rfl) ?_
      obtain ⟨u5, hc5, h⟩ := bd_some h
      refine gl_callv C w (va_runV (As := [.int x3]) (rest := []) ⟨hx, hb, hml, hown, hts⟩ (c_X1_offer l D kA ad H.size lq_situation adv_rooms adv_levels adv_goalRoom adv_allDoors dr_state dr_count se_count parent level kind snum xx yy lying switched doors beyond offered opn seenb savedb found distance opening x3 hc5) (cwV 1 hts gX2_drawnBefore_X1_offer rfl rfl rfl (by decide +kernel) ⟨Nat.le_of_ble_eq_true rfl, Nat.le_of_ble_eq_true rfl⟩) (Wd.preV C w (q0 := 3) (ci := 1) rfl rfl rfl) rfl rfl hl.1 rfl (lv_room (Nat.le_of_ble_eq_true rfl)) dX2_drawnBefore_32 ⟨Nat.zero_le _, Nat.zero_le _⟩) (fun H locs w => ?_)
      exact t_X2_drawnBefore_35 C hk9 hret w (lv_sub hl [0, 1, 2, 3] rfl) h
def f_X2_drawnBefore_9 (level : Nat → Int32) (x1 : Int32) (x2 : Int32) (x3 : Int32) (dr_state : Int64) (dr_count : Int32) (offered : Nat → Int32) : Option (Int32 × Int64 × Int32 × (Nat → Int32)) := lp (σ := Int32 × Int32 × Int32 × Int64 × Int32 × (Nat → Int32)) (fun k st => fb_X2_drawnBefore_9 level (fun x1 x2 x3 dr_state dr_count offered => k (x1, x2, x3, dr_state, dr_count, offered)) st.1 st.2.1 st.2.2.1 st.2.2.2.1 st.2.2.2.2.1 st.2.2.2.2.2) fuel (x1, x2, x3, dr_state, dr_count, offered)
set_option maxHeartbeats 4000000 in
set_option maxRecDepth 100000 in
theorem t_X2_drawnBefore_9 {p : Program} {l : Launch} {e : Env} {s : State} {m : MethodId} {args : Array Value} {below : List Frame} {meth : Method} {c : Code} {Q : State → Prop} {D : va_G} {kA : Nat → ClassId} {ad : Nat → Nat} {A : Nat → Prop} {lq_situation : Int32} {adv_rooms : Int32} {adv_levels : Int32} {adv_goalRoom : Int32} {adv_allDoors : Int32} {dr_state : Int64} {dr_count : Int32} {se_count : Int32} {parent : Nat → Int32} {level : Nat → Int32} {kind : Nat → Int32} {snum : Nat → Int32} {xx : Nat → Int32} {yy : Nat → Int32} {lying : Nat → Int32} {switched : Nat → Int32} {doors : Nat → Int32} {beyond : Nat → Nat → Int32} {offered : Nat → Int32} {opn : Nat → Int32} {seenb : Nat → Int64} {savedb : Nat → Int64} {found : Nat → Int32} {distance : Nat → Int32} {opening : Nat → Int32} {x1 : Int32} {x2 : Int32} {x3 : Int32} {res : Int32 × Int64 × Int32 × (Nat → Int32)} (C : Cx p s m c args cX2_drawnBefore 4 RX2 wsX2_drawnBefore D kA A) (hret : ∀ (r : Int32) (q0 : Int64) (q1 : Int32) (q2 : Nat → Int32) (H : Heap) (locs : List Loc) (ls : Array Slot) (pc : Nat), decode cX2_drawnBefore pc = .ok (.ireturn, 1) → Wd D A s H locs (wC kA ad lq_situation adv_rooms adv_levels adv_goalRoom adv_allDoors q0 q1 se_count parent level kind snum xx yy lying switched doors beyond q2 opn seenb savedb found distance opening) → (r, q0, q1, q2) = res → W p l e rm_X2_drawnBefore s m args below meth c H locs 0 0 Q (F0 m pc ls [.int r])) {H : Heap} {locs : List Loc} {ls : Array Slot} (w : Wd D A s H locs (wC kA ad lq_situation adv_rooms adv_levels adv_goalRoom adv_allDoors dr_state dr_count se_count parent level kind snum xx yy lying switched doors beyond offered opn seenb savedb found distance opening)) (hl : lv_has ls 4 [(0, .ref (ad 2)), (1, .int x1), (2, .int x2), (3, .int x3)]) (h : f_X2_drawnBefore_9 level x1 x2 x3 dr_state dr_count offered = some res) : W p l e rm_X2_drawnBefore s m args below meth c H locs 0 0 Q (F0 m 9 ls []) := by
  unfold f_X2_drawnBefore_9 at h
  exact lp_ind (P := (fun (st : Int32 × Int32 × Int32 × Int64 × Int32 × (Nat → Int32)) => ∀ (H : Heap) (locs : List Loc) (ls : Array Slot), Wd D A s H locs (wC kA ad lq_situation adv_rooms adv_levels adv_goalRoom adv_allDoors st.2.2.2.1 st.2.2.2.2.1 se_count parent level kind snum xx yy lying switched doors beyond st.2.2.2.2.2 opn seenb savedb found distance opening) → lv_has ls 4 [(0, .ref (ad 2)), (1, .int st.1), (2, .int st.2.1), (3, .int st.2.2.1)] → W p l e rm_X2_drawnBefore s m args below meth c H locs 0 0 Q (F0 m 9 ls []))) (fun k hk st h H locs ls w hl => tb_X2_drawnBefore_9 C  (fun a0 a1 a2 a3 a4 a5 H locs ls w hl h => hk (a0, a1, a2, a3, a4, a5) h H locs ls w hl) hret w hl h) fuel (x1, x2, x3, dr_state, dr_count, offered) h H locs ls w hl
def f_X2_drawnBefore (p0 : Int32) (p1 : Int32) (dr_state : Int64) (dr_count : Int32) (level : Nat → Int32) (offered : Nat → Int32) : Option (Int32 × Int64 × Int32 × (Nat → Int32)) := (f_X1_clearOffer dr_count).bind (fun u6 => f_X2_drawnBefore_9 level p0 p1 (0 : Int32) dr_state u6 offered)
set_option maxHeartbeats 4000000 in
set_option maxRecDepth 100000 in
theorem t_X2_drawnBefore {p : Program} {l : Launch} {e : Env} {s : State} {m : MethodId} {args : Array Value} {below : List Frame} {meth : Method} {c : Code} {Q : State → Prop} {D : va_G} {kA : Nat → ClassId} {ad : Nat → Nat} {A : Nat → Prop} {lq_situation : Int32} {adv_rooms : Int32} {adv_levels : Int32} {adv_goalRoom : Int32} {adv_allDoors : Int32} {dr_state : Int64} {dr_count : Int32} {se_count : Int32} {parent : Nat → Int32} {level : Nat → Int32} {kind : Nat → Int32} {snum : Nat → Int32} {xx : Nat → Int32} {yy : Nat → Int32} {lying : Nat → Int32} {switched : Nat → Int32} {doors : Nat → Int32} {beyond : Nat → Nat → Int32} {offered : Nat → Int32} {opn : Nat → Int32} {seenb : Nat → Int64} {savedb : Nat → Int64} {found : Nat → Int32} {distance : Nat → Int32} {opening : Nat → Int32} {p0 : Int32} {p1 : Int32} {res : Int32 × Int64 × Int32 × (Nat → Int32)} (C : Cx p s m c args cX2_drawnBefore 4 RX2 wsX2_drawnBefore D kA A) (hret : ∀ (r : Int32) (q0 : Int64) (q1 : Int32) (q2 : Nat → Int32) (H : Heap) (locs : List Loc) (ls : Array Slot) (pc : Nat), decode cX2_drawnBefore pc = .ok (.ireturn, 1) → Wd D A s H locs (wC kA ad lq_situation adv_rooms adv_levels adv_goalRoom adv_allDoors q0 q1 se_count parent level kind snum xx yy lying switched doors beyond q2 opn seenb savedb found distance opening) → (r, q0, q1, q2) = res → W p l e rm_X2_drawnBefore s m args below meth c H locs 0 0 Q (F0 m pc ls [.int r])) {H : Heap} {locs : List Loc} {ls : Array Slot} (w : Wd D A s H locs (wC kA ad lq_situation adv_rooms adv_levels adv_goalRoom adv_allDoors dr_state dr_count se_count parent level kind snum xx yy lying switched doors beyond offered opn seenb savedb found distance opening)) (hl : lv_has ls 4 [(0, .ref (ad 2)), (1, .int p0), (2, .int p1)]) (h : f_X2_drawnBefore p0 p1 dr_state dr_count level offered = some res) : W p l e rm_X2_drawnBefore s m args below meth c H locs 0 0 Q (F0 m 0 ls []) := by
  obtain ⟨⟨hx, hb, hml, hown, hts⟩, hK, -, -⟩ := id C
  unfold f_X2_drawnBefore at h
  refine lv_aload_n hx hb dX2_drawnBefore_0 rfl (lv_at hl 0 rfl) ?_
  refine va_get (D := D) (ci := 2) (v := .ref (ad 3)) (C := RX2) (T := TX2) (N := 3) hx hb hts lX2_drawnBefore_X2 hown hK w.1 2 rfl rfl 1 (by decide) (hts _ mX2_drawnBefore_1) (fun _ h9 => h9) rfl dX2_drawnBefore_1 ?_
  obtain ⟨u6, hc6, h⟩ := bd_some h
  refine gl_callv C w (va_runV (As := []) (rest := []) ⟨hx, hb, hml, hown, hts⟩ (c_X1_clearOffer l D kA ad H.size lq_situation adv_rooms adv_levels adv_goalRoom adv_allDoors dr_state dr_count se_count parent level kind snum xx yy lying switched doors beyond offered opn seenb savedb found distance opening  hc6) (cwV 0 hts gX2_drawnBefore_X1_clearOffer rfl rfl rfl (by decide +kernel) ⟨Nat.le_of_ble_eq_true rfl, Nat.le_of_ble_eq_true rfl⟩) (Wd.preV C w (q0 := 3) (ci := 1) rfl rfl rfl) rfl rfl hl.1 rfl (lv_room (Nat.le_of_ble_eq_true rfl)) dX2_drawnBefore_4 ⟨Nat.zero_le _, Nat.zero_le _⟩) (fun H locs w => ?_)
  refine lv_iconst (v := 0) hx hb dX2_drawnBefore_7 (by decide) ?_
  refine lv_istore_n (lv' := [(3, .int (0 : Int32)), (0, .ref (ad 2)), (1, .int p0), (2, .int p1)]) hx hb dX2_drawnBefore_8 rfl hl (by decide) rfl (fun ls hl => ?_)
  exact t_X2_drawnBefore_9 C  hret w (lv_sub hl [1, 2, 3, 0] rfl) h
set_option maxHeartbeats 4000000 in
set_option maxRecDepth 100000 in
theorem c_X2_drawnBefore (l : Launch) (D : va_G) (kA : Nat → ClassId) (ad : Nat → Nat) (sz : Nat) (lq_situation : Int32) (adv_rooms : Int32) (adv_levels : Int32) (adv_goalRoom : Int32) (adv_allDoors : Int32) (dr_state : Int64) (dr_count : Int32) (se_count : Int32) (parent : Nat → Int32) (level : Nat → Int32) (kind : Nat → Int32) (snum : Nat → Int32) (xx : Nat → Int32) (yy : Nat → Int32) (lying : Nat → Int32) (switched : Nat → Int32) (doors : Nat → Int32) (beyond : Nat → Nat → Int32) (offered : Nat → Int32) (opn : Nat → Int32) (seenb : Nat → Int64) (savedb : Nat → Int64) (found : Nat → Int32) (distance : Nat → Int32) (opening : Nat → Int32) (p0 : Int32) (p1 : Int32) {res : Int32 × Int64 × Int32 × (Nat → Int32)} (h : f_X2_drawnBefore p0 p1 dr_state dr_count level offered = some res) : Ci l yX2_drawnBefore wsX2_drawnBefore rm_X2_drawnBefore D kA [.ref (ad 2), .int p0, .int p1] sz (wC kA ad lq_situation adv_rooms adv_levels adv_goalRoom adv_allDoors dr_state dr_count se_count parent level kind snum xx yy lying switched doors beyond offered opn seenb savedb found distance opening) (wC kA ad lq_situation adv_rooms adv_levels adv_goalRoom adv_allDoors res.2.1 res.2.2.1 se_count parent level kind snum xx yy lying switched doors beyond res.2.2.2 opn seenb savedb found distance opening) res.1 := by
  refine Met.ofW (cc := cX2_drawnBefore) (maxL := 4) (ret := (some .int)) (by decide) rfl ?_
  intro p e s m args below meth c s₁ B hml hv
  obtain ⟨rfl, hsz, hP, hK, hD0, hX⟩ := hv
  subst hsz
  have hts := atoms_spec (ws := wsX2_drawnBefore) B.pre
  have hl := lv_entry ([.ref (ad 2), .int p0, .int p1]) (n := 4) (Nat.le_of_ble_eq_true rfl)
  rw [lg_entry_eq]
  have hlocks := B.notSynchronized
  refine t_X2_drawnBefore (A := va_A (wC kA ad lq_situation adv_rooms adv_levels adv_goalRoom adv_allDoors dr_state dr_count se_count parent level kind snum xx yy lying switched doors beyond offered opn seenb savedb found distance opening) s.heap.size) ⟨⟨B.exec, B.bytes, hml, findClass_of_methodNamed B.named, hts⟩, hK, fun q h => Or.inr h, hX⟩ (fun r q0 q1 q2 H locs ls pc hd w hres => ?_) ⟨hP, hD0.self, va_S.rf⟩ hl h
  subst hres
  exact W.iret B.exec B.bytes B.returns (fun t ht hW => ⟨⟨_, (), rfl, rfl, by rw [ht]; exact w.1, va_K.moved hW.alike hK, w.2.1⟩, w.2.2.F ht⟩) w.2.2.2.2 hd hlocks
-- ('wC', 'LockQuest$Maker', 'mayRise', '(II)Z', ('mk', None, None))
abbrev rm_X2_mayRise : Room := { frames := 0, cells := 0, slots := 0, locals := 0 }
set_option maxRecDepth 20000 in
theorem lX2_mayRise_X2 : ∀ w ∈ wsX20, w ∈ wsX2_mayRise := by decide +kernel
set_option maxRecDepth 20000 in
theorem mX2_mayRise_1 : Cond.fieldLink RX2 22 "LockQuest$Maker" "made" "LLockQuest$Adventure;" ∈ wsX2_mayRise := by decide +kernel
set_option maxRecDepth 20000 in
theorem lX2_mayRise_X0 : ∀ w ∈ wsX00, w ∈ wsX2_mayRise := by decide +kernel
set_option maxRecDepth 20000 in
theorem mX2_mayRise_3 : Cond.fieldLink RX2 101 "LockQuest$Adventure" "level" "[I" ∈ wsX2_mayRise := by decide +kernel
set_option maxRecDepth 20000 in
theorem mX2_mayRise_4 : Cond.fieldLink RX2 39 "LockQuest$Adventure" "levels" "I" ∈ wsX2_mayRise := by decide +kernel
def f_X2_mayRise (p0 : Int32) (p1 : Int32) (adv_levels : Int32) (level : Nat → Int32) : Option (Int32) := gd (p0 < 0 ∨ 12 ≤ p0.toNatClampNeg) (if (level p0.toNatClampNeg) = p1 then (if adv_levels ≤ p1 then (some (0 : Int32)) else (some (1 : Int32))) else (some (0 : Int32)))
set_option maxHeartbeats 4000000 in
set_option maxRecDepth 100000 in
theorem t_X2_mayRise {p : Program} {l : Launch} {e : Env} {s : State} {m : MethodId} {args : Array Value} {below : List Frame} {meth : Method} {c : Code} {Q : State → Prop} {D : va_G} {kA : Nat → ClassId} {ad : Nat → Nat} {A : Nat → Prop} {lq_situation : Int32} {adv_rooms : Int32} {adv_levels : Int32} {adv_goalRoom : Int32} {adv_allDoors : Int32} {dr_state : Int64} {dr_count : Int32} {se_count : Int32} {parent : Nat → Int32} {level : Nat → Int32} {kind : Nat → Int32} {snum : Nat → Int32} {xx : Nat → Int32} {yy : Nat → Int32} {lying : Nat → Int32} {switched : Nat → Int32} {doors : Nat → Int32} {beyond : Nat → Nat → Int32} {offered : Nat → Int32} {opn : Nat → Int32} {seenb : Nat → Int64} {savedb : Nat → Int64} {found : Nat → Int32} {distance : Nat → Int32} {opening : Nat → Int32} {p0 : Int32} {p1 : Int32} {res : Int32} (C : Cx p s m c args cX2_mayRise 3 RX2 wsX2_mayRise D kA A) (hret : ∀ (r : Int32) (H : Heap) (locs : List Loc) (ls : Array Slot) (pc : Nat), decode cX2_mayRise pc = .ok (.ireturn, 1) → narrow .boolean (.int r) = .int r → Wd D A s H locs (wC kA ad lq_situation adv_rooms adv_levels adv_goalRoom adv_allDoors dr_state dr_count se_count parent level kind snum xx yy lying switched doors beyond offered opn seenb savedb found distance opening) → r = res → W p l e rm_X2_mayRise s m args below meth c H locs 0 0 Q (F0 m pc ls [.int r])) {H : Heap} {locs : List Loc} {ls : Array Slot} (w : Wd D A s H locs (wC kA ad lq_situation adv_rooms adv_levels adv_goalRoom adv_allDoors dr_state dr_count se_count parent level kind snum xx yy lying switched doors beyond offered opn seenb savedb found distance opening)) (hl : lv_has ls 3 [(0, .ref (ad 2)), (1, .int p0), (2, .int p1)]) (h : f_X2_mayRise p0 p1 adv_levels level = some res) : W p l e rm_X2_mayRise s m args below meth c H locs 0 0 Q (F0 m 0 ls []) := by
  obtain ⟨⟨hx, hb, hml, hown, hts⟩, hK, -, -⟩ := id C
  unfold f_X2_mayRise at h
  refine lv_aload_n hx hb dX2_mayRise_0 rfl (lv_at hl 0 rfl) ?_
  refine va_get (D := D) (ci := 2) (v := .ref (ad 1)) (C := RX2) (T := TX2) (N := 3) hx hb hts lX2_mayRise_X2 hown hK w.1 2 rfl rfl 0 (by decide) (hts _ mX2_mayRise_1) (fun _ h9 => h9) rfl dX2_mayRise_1 ?_
  refine va_get (D := D) (ci := 0) (v := .ref (ad 8)) (C := RX0) (T := TX0) (N := 14) hx hb hts lX2_mayRise_X0 hown hK w.1 1 rfl rfl 5 (by decide) (hts _ mX2_mayRise_3) (fun _ h9 => h9) rfl dX2_mayRise_4 ?_
  refine lv_iload_n hx hb dX2_mayRise_7 rfl (lv_at hl 1 rfl) ?_
  obtain ⟨g1, h⟩ := gd_some h
  refine va_iald hx hb hK w.1 8 0 rfl rfl g1 dX2_mayRise_8 ?_
  refine lv_iload_n hx hb dX2_mayRise_9 rfl (lv_at hl 2 rfl) ?_
  refine lv_icmp_ne (tgt := 28) hx hb dX2_mayRise_10 (by decide) (fun g2 => ?_) (fun g2 => ?_)
  · replace h := it_neg g2 h
    refine lv_iconst (v := 0) hx hb dX2_mayRise_28 (by decide) ?_
    exact hret _ _ _ _ _ dX2_mayRise_29 rfl w (Option.some.inj h)
  · replace h := it_pos g2 h
    refine lv_iload_n hx hb dX2_mayRise_13 rfl (lv_at hl 2 rfl) ?_
    refine lv_aload_n hx hb dX2_mayRise_14 rfl (lv_at hl 0 rfl) ?_
    refine va_get (D := D) (ci := 2) (v := .ref (ad 1)) (C := RX2) (T := TX2) (N := 3) hx hb hts lX2_mayRise_X2 hown hK w.1 2 rfl rfl 0 (by decide) (hts _ mX2_mayRise_1) (fun _ h9 => h9) rfl dX2_mayRise_15 ?_
    refine va_get (D := D) (ci := 0) (v := .int adv_levels) (C := RX0) (T := TX0) (N := 14) hx hb hts lX2_mayRise_X0 hown hK w.1 1 rfl rfl 1 (by decide) (hts _ mX2_mayRise_4) (fun _ h9 => h9) rfl dX2_mayRise_18 ?_
    refine lv_icmp_ge (tgt := 28) hx hb dX2_mayRise_21 (by decide) (fun g3 => ?_) (fun g3 => ?_)
    · replace h := it_pos g3 h
      refine lv_iconst (v := 0) hx hb dX2_mayRise_28 (by decide) ?_
      exact hret _ _ _ _ _ dX2_mayRise_29 rfl w (Option.some.inj h)
    · replace h := it_neg g3 h
      refine lv_iconst (v := 1) hx hb dX2_mayRise_24 (by decide) ?_
      refine lv_goto (tgt := 29) hx hb dX2_mayRise_25 (by decide) ?_
      exact hret _ _ _ _ _ dX2_mayRise_29 rfl w (Option.some.inj h)
set_option maxHeartbeats 4000000 in
set_option maxRecDepth 100000 in
theorem c_X2_mayRise (l : Launch) (D : va_G) (kA : Nat → ClassId) (ad : Nat → Nat) (sz : Nat) (lq_situation : Int32) (adv_rooms : Int32) (adv_levels : Int32) (adv_goalRoom : Int32) (adv_allDoors : Int32) (dr_state : Int64) (dr_count : Int32) (se_count : Int32) (parent : Nat → Int32) (level : Nat → Int32) (kind : Nat → Int32) (snum : Nat → Int32) (xx : Nat → Int32) (yy : Nat → Int32) (lying : Nat → Int32) (switched : Nat → Int32) (doors : Nat → Int32) (beyond : Nat → Nat → Int32) (offered : Nat → Int32) (opn : Nat → Int32) (seenb : Nat → Int64) (savedb : Nat → Int64) (found : Nat → Int32) (distance : Nat → Int32) (opening : Nat → Int32) (p0 : Int32) (p1 : Int32) {res : Int32} (h : f_X2_mayRise p0 p1 adv_levels level = some res) : Ci l yX2_mayRise wsX2_mayRise rm_X2_mayRise D kA [.ref (ad 2), .int p0, .int p1] sz (wC kA ad lq_situation adv_rooms adv_levels adv_goalRoom adv_allDoors dr_state dr_count se_count parent level kind snum xx yy lying switched doors beyond offered opn seenb savedb found distance opening) (wC kA ad lq_situation adv_rooms adv_levels adv_goalRoom adv_allDoors dr_state dr_count se_count parent level kind snum xx yy lying switched doors beyond offered opn seenb savedb found distance opening) res := by
  refine Met.ofW (cc := cX2_mayRise) (maxL := 3) (ret := (some .boolean)) (by decide) rfl ?_
  intro p e s m args below meth c s₁ B hml hv
  obtain ⟨rfl, hsz, hP, hK, hD0, hX⟩ := hv
  subst hsz
  have hts := atoms_spec (ws := wsX2_mayRise) B.pre
  have hl := lv_entry ([.ref (ad 2), .int p0, .int p1]) (n := 3) (Nat.le_of_ble_eq_true rfl)
  rw [lg_entry_eq]
  have hlocks := B.notSynchronized
  refine t_X2_mayRise (A := va_A (wC kA ad lq_situation adv_rooms adv_levels adv_goalRoom adv_allDoors dr_state dr_count se_count parent level kind snum xx yy lying switched doors beyond offered opn seenb savedb found distance opening) s.heap.size) ⟨⟨B.exec, B.bytes, hml, findClass_of_methodNamed B.named, hts⟩, hK, fun q h => Or.inr h, hX⟩ (fun r H locs ls pc hd hz w hres => ?_) ⟨hP, hD0.self, va_S.rf⟩ hl h
  subst hres
  exact W.zret B.exec B.bytes B.returns hz (fun t ht hW => ⟨⟨_, (), rfl, rfl, by rw [ht]; exact w.1, va_K.moved hW.alike hK, w.2.1⟩, w.2.2.F ht⟩) w.2.2.2.2 hd hlocks
