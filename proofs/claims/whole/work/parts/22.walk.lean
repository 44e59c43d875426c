-- ('wM', 'LockQuestModel', 'makeLoops', '()I', ('mo',))
abbrev rm_X7_makeLoops : Room := { frames := 1, cells := 0, slots := 0, locals := 21 }
set_option maxRecDepth 20000 in
theorem lX7_makeLoops_X7 : ∀ w ∈ wsX70, w ∈ wsX7_makeLoops := by decide +kernel
set_option maxRecDepth 20000 in
theorem mX7_makeLoops_1 : Cond.fieldLink RX7 56 "LockQuestModel" "rooms" "I" ∈ wsX7_makeLoops := by decide +kernel
set_option maxRecDepth 20000 in
theorem mX7_makeLoops_2 : Cond.fieldLink RX7 22 "LockQuestModel" "x" "[I" ∈ wsX7_makeLoops := by decide +kernel
set_option maxRecDepth 20000 in
theorem mX7_makeLoops_3 : Cond.fieldLink RX7 25 "LockQuestModel" "y" "[I" ∈ wsX7_makeLoops := by decide +kernel
set_option maxRecDepth 20000 in
theorem mX7_makeLoops_4 : Cond.fieldLink RX7 13 "LockQuestModel" "level" "[I" ∈ wsX7_makeLoops := by decide +kernel
set_option maxRecDepth 20000 in
theorem mX7_makeLoops_5 : Cond.fieldLink RX7 7 "LockQuestModel" "parent" "[I" ∈ wsX7_makeLoops := by decide +kernel
set_option maxRecDepth 20000 in
theorem mX7_makeLoops_6 : Cond.fieldLink RX7 35 "LockQuestModel" "loop" "[Z" ∈ wsX7_makeLoops := by decide +kernel
def f_X7_makeLoops_202 (mo_rooms : Int32) (mparent : Nat → Int32) (mlevel : Nat → Int32) (mx : Nat → Int32) (my : Nat → Int32) (k4 : Int32 → Int32 → Int64 → (Nat → Int32) → Option (Int32 × Int64 × (Nat → Int32))) (k14 : Int32 → Int32 → Int32 → Int64 → (Nat → Int32) → Option (Int32 × Int64 × (Nat → Int32))) (x1 : Int32) (x2 : Int32) (x3 : Int32) (mo_state : Int64) (mloop : Nat → Int32) : Option (Int32 × Int64 × (Nat → Int32)) := k14 x1 x2 (x3 + (1 : Int32)) mo_state mloop
set_option maxHeartbeats 4000000 in
set_option maxRecDepth 100000 in
theorem t_X7_makeLoops_202 {p : Program} {l : Launch} {e : Env} {s : State} {m : MethodId} {args : Array Value} {below : List Frame} {meth : Method} {c : Code} {Q : State → Prop} {D : va_G} {kA : Nat → ClassId} {ad : Nat → Nat} {A : Nat → Prop} {mo_state : Int64} {mo_rooms : Int32} {mo_smallDoors : Int32} {mo_goal : Int32} {mo_now : Int32} {mo_last : Int32} {mo_count : Int32} {mparent : Nat → Int32} {mlevel : Nat → Int32} {mkind : Nat → Int32} {mnum : Nat → Int32} {mx : Nat → Int32} {my : Nat → Int32} {mlying : Nat → Int32} {msw : Nat → Int32} {mloop : Nat → Int32} {mchosen : Nat → Int32} {met : Nat → Int32} {x1 : Int32} {x2 : Int32} {x3 : Int32} {k4 : Int32 → Int32 → Int64 → (Nat → Int32) → Option (Int32 × Int64 × (Nat → Int32))} {k14 : Int32 → Int32 → Int32 → Int64 → (Nat → Int32) → Option (Int32 × Int64 × (Nat → Int32))} {res : Int32 × Int64 × (Nat → Int32)} (C : Cx p s m c args cX7_makeLoops 7 RX7 wsX7_makeLoops D kA A) (hk4 : ∀ (x1 : Int32) (x2 : Int32) (mo_state : Int64) (mloop : Nat → Int32) (H : Heap) (locs : List Loc) (ls : Array Slot), Wd D A s H locs (wM kA ad mo_state mo_rooms mo_smallDoors mo_goal mo_now mo_last mo_count mparent mlevel mkind mnum mx my mlying msw mloop mchosen met) → lv_has ls 7 [(0, .ref (ad 0)), (1, .int x1), (2, .int x2)] → k4 x1 x2 mo_state mloop = some res → W p l e rm_X7_makeLoops s m args below meth c H locs 0 0 Q (F0 m 4 ls [])) (hk14 : ∀ (x1 : Int32) (x2 : Int32) (x3 : Int32) (mo_state : Int64) (mloop : Nat → Int32) (H : Heap) (locs : List Loc) (ls : Array Slot), Wd D A s H locs (wM kA ad mo_state mo_rooms mo_smallDoors mo_goal mo_now mo_last mo_count mparent mlevel mkind mnum mx my mlying msw mloop mchosen met) → lv_has ls 7 [(0, .ref (ad 0)), (1, .int x1), (2, .int x2), (3, .int x3)] → k14 x1 x2 x3 mo_state mloop = some res → W p l e rm_X7_makeLoops s m args below meth c H locs 0 0 Q (F0 m 14 ls [])) (hret : ∀ (r : Int32) (q0 : Int64) (q1 : Nat → Int32) (H : Heap) (locs : List Loc) (ls : Array Slot) (pc : Nat), decode cX7_makeLoops pc = .ok (.ireturn, 1) → Wd D A s H locs (wM kA ad q0 mo_rooms mo_smallDoors mo_goal mo_now mo_last mo_count mparent mlevel mkind mnum mx my mlying msw q1 mchosen met) → (r, q0, q1) = res → W p l e rm_X7_makeLoops s m args below meth c H locs 0 0 Q (F0 m pc ls [.int r])) {H : Heap} {locs : List Loc} {ls : Array Slot} (w : Wd D A s H locs (wM kA ad mo_state mo_rooms mo_smallDoors mo_goal mo_now mo_last mo_count mparent mlevel mkind mnum mx my mlying msw mloop mchosen met)) (hl : lv_has ls 7 [(0, .ref (ad 0)), (1, .int x1), (2, .int x2), (3, .int x3)]) (h : f_X7_makeLoops_202 mo_rooms mparent mlevel mx my k4 k14 x1 x2 x3 mo_state mloop = some res) : W p l e rm_X7_makeLoops s m args below meth c H locs 0 0 Q (F0 m 202 ls []) := by
  obtain ⟨⟨hx, hb, hml, hown, hts⟩, hK, -, -⟩ := id C
  unfold f_X7_makeLoops_202 at h
  refine lv_iinc (v := (x3 + (1 : Int32))) (lv' := [(3, .int (x3 + (1 : Int32))), (0, .ref (ad 0)), (1, .int x1), (2, .int x2)]) hx hb dX7_makeLoops_202 hl (k := 3) rfl rfl (by decide) rfl (fun ls hl => ?_)
  refine lv_goto (tgt := 14) hx hb dX7_makeLoops_205 (by decide) ?_
  exact hk14 _ _ _ _ _ H locs ls w (lv_sub hl [1, 2, 3, 0] rfl) h
def f_X7_makeLoops_160 (mo_rooms : Int32) (mparent : Nat → Int32) (mlevel : Nat → Int32) (mx : Nat → Int32) (my : Nat → Int32) (k4 : Int32 → Int32 → Int64 → (Nat → Int32) → Option (Int32 × Int64 × (Nat → Int32))) (k14 : Int32 → Int32 → Int32 → Int64 → (Nat → Int32) → Option (Int32 × Int64 × (Nat → Int32))) (x1 : Int32) (x2 : Int32) (x3 : Int32) (s0 : Int32) (mo_state : Int64) (mloop : Nat → Int32) : Option (Int32 × Int64 × (Nat → Int32)) := if s0 = 0 then (f_X7_makeLoops_202 mo_rooms mparent mlevel mx my k4 k14 x1 x2 x3 mo_state mloop) else ((f_X7_draw (3 : Int32) mo_state).bind (fun u2 => if u2.1 = 0 then (gd ((((12 : Int32) * x2) + x3) < 0 ∨ 144 ≤ (((12 : Int32) * x2) + x3).toNatClampNeg) (gd ((((12 : Int32) * x3) + x2) < 0 ∨ 144 ≤ (((12 : Int32) * x3) + x2).toNatClampNeg) (f_X7_makeLoops_202 mo_rooms mparent mlevel mx my k4 k14 (x1 + (1 : Int32)) x2 x3 u2.2 (upd (upd mloop (((12 : Int32) * x2) + x3).toNatClampNeg (vp_nar .boolean (1 : Int32))) (((12 : Int32) * x3) + x2).toNatClampNeg (vp_nar .boolean (1 : Int32)))))) else (f_X7_makeLoops_202 mo_rooms mparent mlevel mx my k4 k14 x1 x2 x3 u2.2 mloop)))
set_option maxHeartbeats 4000000 in
set_option maxRecDepth 100000 in
theorem t_X7_makeLoops_160 {p : Program} {l : Launch} {e : Env} {s : State} {m : MethodId} {args : Array Value} {below : List Frame} {meth : Method} {c : Code} {Q : State → Prop} {D : va_G} {kA : Nat → ClassId} {ad : Nat → Nat} {A : Nat → Prop} {mo_state : Int64} {mo_rooms : Int32} {mo_smallDoors : Int32} {mo_goal : Int32} {mo_now : Int32} {mo_last : Int32} {mo_count : Int32} {mparent : Nat → Int32} {mlevel : Nat → Int32} {mkind : Nat → Int32} {mnum : Nat → Int32} {mx : Nat → Int32} {my : Nat → Int32} {mlying : Nat → Int32} {msw : Nat → Int32} {mloop : Nat → Int32} {mchosen : Nat → Int32} {met : Nat → Int32} {x1 : Int32} {x2 : Int32} {x3 : Int32} {s0 : Int32} {k4 : Int32 → Int32 → Int64 → (Nat → Int32) → Option (Int32 × Int64 × (Nat → Int32))} {k14 : Int32 → Int32 → Int32 → Int64 → (Nat → Int32) → Option (Int32 × Int64 × (Nat → Int32))} {res : Int32 × Int64 × (Nat → Int32)} (C : Cx p s m c args cX7_makeLoops 7 RX7 wsX7_makeLoops D kA A) (hk4 : ∀ (x1 : Int32) (x2 : Int32) (mo_state : Int64) (mloop : Nat → Int32) (H : Heap) (locs : List Loc) (ls : Array Slot), Wd D A s H locs (wM kA ad mo_state mo_rooms mo_smallDoors mo_goal mo_now mo_last mo_count mparent mlevel mkind mnum mx my mlying msw mloop mchosen met) → lv_has ls 7 [(0, .ref (ad 0)), (1, .int x1), (2, .int x2)] → k4 x1 x2 mo_state mloop = some res → W p l e rm_X7_makeLoops s m args below meth c H locs 0 0 Q (F0 m 4 ls [])) (hk14 : ∀ (x1 : Int32) (x2 : Int32) (x3 : Int32) (mo_state : Int64) (mloop : Nat → Int32) (H : Heap) (locs : List Loc) (ls : Array Slot), Wd D A s H locs (wM kA ad mo_state mo_rooms mo_smallDoors mo_goal mo_now mo_last mo_count mparent mlevel mkind mnum mx my mlying msw mloop mchosen met) → lv_has ls 7 [(0, .ref (ad 0)), (1, .int x1), (2, .int x2), (3, .int x3)] → k14 x1 x2 x3 mo_state mloop = some res → W p l e rm_X7_makeLoops s m args below meth c H locs 0 0 Q (F0 m 14 ls [])) (hret : ∀ (r : Int32) (q0 : Int64) (q1 : Nat → Int32) (H : Heap) (locs : List Loc) (ls : Array Slot) (pc : Nat), decode cX7_makeLoops pc = .ok (.ireturn, 1) → Wd D A s H locs (wM kA ad q0 mo_rooms mo_smallDoors mo_goal mo_now mo_last mo_count mparent mlevel mkind mnum mx my mlying msw q1 mchosen met) → (r, q0, q1) = res → W p l e rm_X7_makeLoops s m args below meth c H locs 0 0 Q (F0 m pc ls [.int r])) {H : Heap} {locs : List Loc} {ls : Array Slot} (w : Wd D A s H locs (wM kA ad mo_state mo_rooms mo_smallDoors mo_goal mo_now mo_last mo_count mparent mlevel mkind mnum mx my mlying msw mloop mchosen met)) (hl : lv_has ls 7 [(0, .ref (ad 0)), (1, .int x1), (2, .int x2), (3, .int x3)]) (h : f_X7_makeLoops_160 mo_rooms mparent mlevel mx my k4 k14 x1 x2 x3 s0 mo_state mloop = some res) : W p l e rm_X7_makeLoops s m args below meth c H locs 0 0 Q (F0 m 160 ls [.int s0]) := by
  obtain ⟨⟨hx, hb, hml, hown, hts⟩, hK, -, -⟩ := id C
  unfold f_X7_makeLoops_160 at h
  refine lv_istore (lv' := [(6, .int s0), (0, .ref (ad 0)), (1, .int x1), (2, .int x2), (3, .int x3)]) hx hb dX7_makeLoops_160 hl (by decide) rfl (fun ls hl => ?_)
  refine lv_iload hx hb dX7_makeLoops_162 (lv_at hl 0 rfl) ?_
  refine lv_if_eq (tgt := 202) hx hb dX7_makeLoops_164 (by decide) (fun g1 => ?_) (fun g1 => ?_)
  · replace h := it_pos g1 h
    exact t_X7_makeLoops_202 C hk4 hk14 hret w (lv_sub hl [1, 2, 3, 4] rfl) h
  · replace h := it_neg g1 h
    refine lv_aload_n hx hb dX7_makeLoops_167 rfl (lv_at hl 1 rfl) ?_
    refine lv_iconst (v := 3) hx hb dX7_makeLoops_168 (by decide) ?_
    obtain ⟨u2, hc2, h⟩ := bd_some h
    refine gl_calli C w (va_runV (As := [.int (3 : Int32)]) (rest := []) ⟨hx, hb, hml, hown, hts⟩ (c_X7_draw l D kA ad H.size mo_state mo_rooms mo_smallDoors mo_goal mo_now mo_last mo_count mparent mlevel mkind mnum mx my mlying msw mloop mchosen met (3 : Int32) hc2) (cwV 1 hts gX7_makeLoops_X7_draw rfl rfl rfl (by decide +kernel) ⟨Nat.le_of_ble_eq_true rfl, Nat.le_of_ble_eq_true rfl⟩) (Wd.preV C w (q0 := 0) (ci := 6) rfl rfl rfl) rfl rfl hl.1 rfl (lv_room (Nat.le_of_ble_eq_true rfl)) dX7_makeLoops_169 ⟨Nat.zero_le _, Nat.zero_le _⟩) (fun H locs w => ?_)
    refine lv_if_ne (tgt := 202) hx hb dX7_makeLoops_172 (by decide) (fun g3 => ?_) (fun g3 => ?_)
    · replace h := it_neg g3 h
      exact t_X7_makeLoops_202 C hk4 hk14 hret w (lv_sub hl [1, 2, 3, 4] rfl) h
    · replace h := it_pos g3 h
      refine lv_aload_n hx hb dX7_makeLoops_175 rfl (lv_at hl 1 rfl) ?_
      refine va_get (D := D) (ci := 6) (v := .ref (ad 9)) (C := RX7) (T := TX7) (N := 18) hx hb hts lX7_makeLoops_X7 hown hK w.1 0 rfl rfl 12 (by decide) (hts _ mX7_makeLoops_6) (fun _ h9 => h9) rfl dX7_makeLoops_176 ?_
      refine lv_bipush (v := 12) hx hb dX7_makeLoops_179 (by decide) ?_
      refine lv_iload_n hx hb dX7_makeLoops_181 rfl (lv_at hl 3 rfl) ?_
      refine lv_imul hx hb dX7_makeLoops_182 ?_
      refine lv_iload_n hx hb dX7_makeLoops_183 rfl (lv_at hl 4 rfl) ?_
      refine lv_iadd hx hb dX7_makeLoops_184 ?_
      refine lv_iconst (v := 1) hx hb dX7_makeLoops_185 (by decide) ?_
      obtain ⟨g4, h⟩ := gd_some h
      refine va_zast hx hb hK w.1 w.2.1 w.2.2 9 2 rfl rfl g4 dX7_makeLoops_186 (fun H locs hP hD hS => ?_)
      have w : Wd D A s H locs (wM kA ad u2.2 mo_rooms mo_smallDoors mo_goal mo_now mo_last mo_count mparent mlevel mkind mnum mx my mlying msw (upd mloop (((12 : Int32) * x2) + x3).toNatClampNeg (vp_nar .boolean (1 : Int32))) mchosen met) := ⟨hP, hD, hS⟩
      refine lv_aload_n hx hb dX7_makeLoops_187 rfl (lv_at hl 1 rfl) ?_
      refine va_get (D := D) (ci := 6) (v := .ref (ad 9)) (C := RX7) (T := TX7) (N := 18) hx hb hts lX7_makeLoops_X7 hown hK w.1 0 rfl rfl 12 (by decide) (hts _ mX7_makeLoops_6) (fun _ h9 => h9) rfl dX7_makeLoops_188 ?_
      refine lv_bipush (v := 12) hx hb dX7_makeLoops_191 (by decide) ?_
      refine lv_iload_n hx hb dX7_makeLoops_193 rfl (lv_at hl 4 rfl) ?_
      refine lv_imul hx hb dX7_makeLoops_194 ?_
      refine lv_iload_n hx hb dX7_makeLoops_195 rfl (lv_at hl 3 rfl) ?_
      refine lv_iadd hx hb dX7_makeLoops_196 ?_
      refine lv_iconst (v := 1) hx hb dX7_makeLoops_197 (by decide) ?_
      obtain ⟨g5, h⟩ := gd_some h
      refine va_zast hx hb hK w.1 w.2.1 w.2.2 9 2 rfl rfl g5 dX7_makeLoops_198 (fun H locs hP hD hS => ?_)
      have w : Wd D A s H locs (wM kA ad u2.2 mo_rooms mo_smallDoors mo_goal mo_now mo_last mo_count mparent mlevel mkind mnum mx my mlying msw (upd (upd mloop (((12 : Int32) * x2) + x3).toNatClampNeg (vp_nar .boolean (1 : Int32))) (((12 : Int32) * x3) + x2).toNatClampNeg (vp_nar .boolean (1 : Int32))) mchosen met) := ⟨hP, hD, hS⟩
      refine lv_iinc (v := (x1 + (1 : Int32))) (lv' := [(1, .int (x1 + (1 : Int32))), (6, .int s0), (0, .ref (ad 0)), (2, .int x2), (3, .int x3)]) hx hb dX7_makeLoops_199 hl (k := 2) rfl rfl (by decide) rfl (fun ls hl => ?_)
      exact t_X7_makeLoops_202 C hk4 hk14 hret w (lv_sub hl [2, 0, 3, 4] rfl) h
def f_X7_makeLoops_159 (mo_rooms : Int32) (mparent : Nat → Int32) (mlevel : Nat → Int32) (mx : Nat → Int32) (my : Nat → Int32) (k4 : Int32 → Int32 → Int64 → (Nat → Int32) → Option (Int32 × Int64 × (Nat → Int32))) (k14 : Int32 → Int32 → Int32 → Int64 → (Nat → Int32) → Option (Int32 × Int64 × (Nat → Int32))) (x1 : Int32) (x2 : Int32) (x3 : Int32) (mo_state : Int64) (mloop : Nat → Int32) : Option (Int32 × Int64 × (Nat → Int32)) := f_X7_makeLoops_160 mo_rooms mparent mlevel mx my k4 k14 x1 x2 x3 (0 : Int32) mo_state mloop
set_option maxHeartbeats 4000000 in
set_option maxRecDepth 100000 in
theorem t_X7_makeLoops_159 {p : Program} {l : Launch} {e : Env} {s : State} {m : MethodId} {args : Array Value} {below : List Frame} {meth : Method} {c : Code} {Q : State → Prop} {D : va_G} {kA : Nat → ClassId} {ad : Nat → Nat} {A : Nat → Prop} {mo_state : Int64} {mo_rooms : Int32} {mo_smallDoors : Int32} {mo_goal : Int32} {mo_now : Int32} {mo_last : Int32} {mo_count : Int32} {mparent : Nat → Int32} {mlevel : Nat → Int32} {mkind : Nat → Int32} {mnum : Nat → Int32} {mx : Nat → Int32} {my : Nat → Int32} {mlying : Nat → Int32} {msw : Nat → Int32} {mloop : Nat → Int32} {mchosen : Nat → Int32} {met : Nat → Int32} {x1 : Int32} {x2 : Int32} {x3 : Int32} {k4 : Int32 → Int32 → Int64 → (Nat → Int32) → Option (Int32 × Int64 × (Nat → Int32))} {k14 : Int32 → Int32 → Int32 → Int64 → (Nat → Int32) → Option (Int32 × Int64 × (Nat → Int32))} {res : Int32 × Int64 × (Nat → Int32)} (C : Cx p s m c args cX7_makeLoops 7 RX7 wsX7_makeLoops D kA A) (hk4 : ∀ (x1 : Int32) (x2 : Int32) (mo_state : Int64) (mloop : Nat → Int32) (H : Heap) (locs : List Loc) (ls : Array Slot), Wd D A s H locs (wM kA ad mo_state mo_rooms mo_smallDoors mo_goal mo_now mo_last mo_count mparent mlevel mkind mnum mx my mlying msw mloop mchosen met) → lv_has ls 7 [(0, .ref (ad 0)), (1, .int x1), (2, .int x2)] → k4 x1 x2 mo_state mloop = some res → W p l e rm_X7_makeLoops s m args below meth c H locs 0 0 Q (F0 m 4 ls [])) (hk14 : ∀ (x1 : Int32) (x2 : Int32) (x3 : Int32) (mo_state : Int64) (mloop : Nat → Int32) (H : Heap) (locs : List Loc) (ls : Array Slot), Wd D A s H locs (wM kA ad mo_state mo_rooms mo_smallDoors mo_goal mo_now mo_last mo_count mparent mlevel mkind mnum mx my mlying msw mloop mchosen met) → lv_has ls 7 [(0, .ref (ad 0)), (1, .int x1), (2, .int x2), (3, .int x3)] → k14 x1 x2 x3 mo_state mloop = some res → W p l e rm_X7_makeLoops s m args below meth c H locs 0 0 Q (F0 m 14 ls [])) (hret : ∀ (r : Int32) (q0 : Int64) (q1 : Nat → Int32) (H : Heap) (locs : List Loc) (ls : Array Slot) (pc : Nat), decode cX7_makeLoops pc = .ok (.ireturn, 1) → Wd D A s H locs (wM kA ad q0 mo_rooms mo_smallDoors mo_goal mo_now mo_last mo_count mparent mlevel mkind mnum mx my mlying msw q1 mchosen met) → (r, q0, q1) = res → W p l e rm_X7_makeLoops s m args below meth c H locs 0 0 Q (F0 m pc ls [.int r])) {H : Heap} {locs : List Loc} {ls : Array Slot} (w : Wd D A s H locs (wM kA ad mo_state mo_rooms mo_smallDoors mo_goal mo_now mo_last mo_count mparent mlevel mkind mnum mx my mlying msw mloop mchosen met)) (hl : lv_has ls 7 [(0, .ref (ad 0)), (1, .int x1), (2, .int x2), (3, .int x3)]) (h : f_X7_makeLoops_159 mo_rooms mparent mlevel mx my k4 k14 x1 x2 x3 mo_state mloop = some res) : W p l e rm_X7_makeLoops s m args below meth c H locs 0 0 Q (F0 m 159 ls []) := by
  obtain ⟨⟨hx, hb, hml, hown, hts⟩, hK, -, -⟩ := id C
  unfold f_X7_makeLoops_159 at h
  refine lv_iconst (v := 0) hx hb dX7_makeLoops_159 (by decide) ?_
  exact t_X7_makeLoops_160 C hk4 hk14 hret w (lv_sub hl [0, 1, 2, 3] rfl) h
def f_X7_makeLoops_109 (mo_rooms : Int32) (mparent : Nat → Int32) (mlevel : Nat → Int32) (mx : Nat → Int32) (my : Nat → Int32) (k4 : Int32 → Int32 → Int64 → (Nat → Int32) → Option (Int32 × Int64 × (Nat → Int32))) (k14 : Int32 → Int32 → Int32 → Int64 → (Nat → Int32) → Option (Int32 × Int64 × (Nat → Int32))) (x1 : Int32) (x2 : Int32) (x3 : Int32) (x4 : Int32) (s0 : Int32) (mo_state : Int64) (mloop : Nat → Int32) : Option (Int32 × Int64 × (Nat → Int32)) := if (x4 + s0) = (1 : Int32) then (gd (x2 < 0 ∨ 12 ≤ x2.toNatClampNeg) (gd (x3 < 0 ∨ 12 ≤ x3.toNatClampNeg) (if (mlevel x2.toNatClampNeg) = (mlevel x3.toNatClampNeg) then (gd (x2 < 0 ∨ 12 ≤ x2.toNatClampNeg) (if (mparent x2.toNatClampNeg) = x3 then (f_X7_makeLoops_159 mo_rooms mparent mlevel mx my k4 k14 x1 x2 x3 mo_state mloop) else (gd (x3 < 0 ∨ 12 ≤ x3.toNatClampNeg) (if (mparent x3.toNatClampNeg) = x2 then (f_X7_makeLoops_159 mo_rooms mparent mlevel mx my k4 k14 x1 x2 x3 mo_state mloop) else (f_X7_makeLoops_160 mo_rooms mparent mlevel mx my k4 k14 x1 x2 x3 (1 : Int32) mo_state mloop))))) else (f_X7_makeLoops_159 mo_rooms mparent mlevel mx my k4 k14 x1 x2 x3 mo_state mloop)))) else (f_X7_makeLoops_159 mo_rooms mparent mlevel mx my k4 k14 x1 x2 x3 mo_state mloop)
set_option maxHeartbeats 4000000 in
set_option maxRecDepth 100000 in
theorem t_X7_makeLoops_109 {p : Program} {l : Launch} {e : Env} {s : State} {m : MethodId} {args : Array Value} {below : List Frame} {meth : Method} {c : Code} {Q : State → Prop} {D : va_G} {kA : Nat → ClassId} {ad : Nat → Nat} {A : Nat → Prop} {mo_state : Int64} {mo_rooms : Int32} {mo_smallDoors : Int32} {mo_goal : Int32} {mo_now : Int32} {mo_last : Int32} {mo_count : Int32} {mparent : Nat → Int32} {mlevel : Nat → Int32} {mkind : Nat → Int32} {mnum : Nat → Int32} {mx : Nat → Int32} {my : Nat → Int32} {mlying : Nat → Int32} {msw : Nat → Int32} {mloop : Nat → Int32} {mchosen : Nat → Int32} {met : Nat → Int32} {x1 : Int32} {x2 : Int32} {x3 : Int32} {x4 : Int32} {s0 : Int32} {k4 : Int32 → Int32 → Int64 → (Nat → Int32) → Option (Int32 × Int64 × (Nat → Int32))} {k14 : Int32 → Int32 → Int32 → Int64 → (Nat → Int32) → Option (Int32 × Int64 × (Nat → Int32))} {res : Int32 × Int64 × (Nat → Int32)} (C : Cx p s m c args cX7_makeLoops 7 RX7 wsX7_makeLoops D kA A) (hk4 : ∀ (x1 : Int32) (x2 : Int32) (mo_state : Int64) (mloop : Nat → Int32) (H : Heap) (locs : List Loc) (ls : Array Slot), Wd D A s H locs (wM kA ad mo_state mo_rooms mo_smallDoors mo_goal mo_now mo_last mo_count mparent mlevel mkind mnum mx my mlying msw mloop mchosen met) → lv_has ls 7 [(0, .ref (ad 0)), (1, .int x1), (2, .int x2)] → k4 x1 x2 mo_state mloop = some res → W p l e rm_X7_makeLoops s m args below meth c H locs 0 0 Q (F0 m 4 ls [])) (hk14 : ∀ (x1 : Int32) (x2 : Int32) (x3 : Int32) (mo_state : Int64) (mloop : Nat → Int32) (H : Heap) (locs : List Loc) (ls : Array Slot), Wd D A s H locs (wM kA ad mo_state mo_rooms mo_smallDoors mo_goal mo_now mo_last mo_count mparent mlevel mkind mnum mx my mlying msw mloop mchosen met) → lv_has ls 7 [(0, .ref (ad 0)), (1, .int x1), (2, .int x2), (3, .int x3)] → k14 x1 x2 x3 mo_state mloop = some res → W p l e rm_X7_makeLoops s m args below meth c H locs 0 0 Q (F0 m 14 ls [])) (hret : ∀ (r : Int32) (q0 : Int64) (q1 : Nat → Int32) (H : Heap) (locs : List Loc) (ls : Array Slot) (pc : Nat), decode cX7_makeLoops pc = .ok (.ireturn, 1) → Wd D A s H locs (wM kA ad q0 mo_rooms mo_smallDoors mo_goal mo_now mo_last mo_count mparent mlevel mkind mnum mx my mlying msw q1 mchosen met) → (r, q0, q1) = res → W p l e rm_X7_makeLoops s m args below meth c H locs 0 0 Q (F0 m pc ls [.int r])) {H : Heap} {locs : List Loc} {ls : Array Slot} (w : Wd D A s H locs (wM kA ad mo_state mo_rooms mo_smallDoors mo_goal mo_now mo_last mo_count mparent mlevel mkind mnum mx my mlying msw mloop mchosen met)) (hl : lv_has ls 7 [(0, .ref (ad 0)), (1, .int x1), (2, .int x2), (3, .int x3), (4, .int x4)]) (h : f_X7_makeLoops_109 mo_rooms mparent mlevel mx my k4 k14 x1 x2 x3 x4 s0 mo_state mloop = some res) : W p l e rm_X7_makeLoops s m args below meth c H locs 0 0 Q (F0 m 109 ls [.int s0]) := by
  obtain ⟨⟨hx, hb, hml, hown, hts⟩, hK, -, -⟩ := id C
  unfold f_X7_makeLoops_109 at h
  refine lv_istore (lv' := [(5, .int s0), (0, .ref (ad 0)), (1, .int x1), (2, .int x2), (3, .int x3), (4, .int x4)]) hx hb dX7_makeLoops_109 hl (by decide) rfl (fun ls hl => ?_)
  refine lv_iload hx hb dX7_makeLoops_111 (lv_at hl 5 rfl) ?_
  refine lv_iload hx hb dX7_makeLoops_113 (lv_at hl 0 rfl) ?_
  refine lv_iadd hx hb dX7_makeLoops_115 ?_
  refine lv_iconst (v := 1) hx hb dX7_makeLoops_116 (by decide) ?_
  refine lv_icmp_ne (tgt := 159) hx hb dX7_makeLoops_117 (by decide) (fun g6 => ?_) (fun g6 => ?_)
  · replace h := it_neg g6 h
    exact t_X7_makeLoops_159 C hk4 hk14 hret w (lv_sub hl [1, 2, 3, 4] rfl) h
  · replace h := it_pos g6 h
    refine lv_aload_n hx hb dX7_makeLoops_120 rfl (lv_at hl 1 rfl) ?_
    refine va_get (D := D) (ci := 6) (v := .ref (ad 2)) (C := RX7) (T := TX7) (N := 18) hx hb hts lX7_makeLoops_X7 hown hK w.1 0 rfl rfl 5 (by decide) (hts _ mX7_makeLoops_4) (fun _ h9 => h9) rfl dX7_makeLoops_121 ?_
    refine lv_iload_n hx hb dX7_makeLoops_124 rfl (lv_at hl 3 rfl) ?_
    obtain ⟨g7, h⟩ := gd_some h
    refine va_iald hx hb hK w.1 2 0 rfl rfl g7 dX7_makeLoops_125 ?_
    refine lv_aload_n hx hb dX7_makeLoops_126 rfl (lv_at hl 1 rfl) ?_
    refine va_get (D := D) (ci := 6) (v := .ref (ad 2)) (C := RX7) (T := TX7) (N := 18) hx hb hts lX7_makeLoops_X7 hown hK w.1 0 rfl rfl 5 (by decide) (hts _ mX7_makeLoops_4) (fun _ h9 => h9) rfl dX7_makeLoops_127 ?_
    refine lv_iload_n hx hb dX7_makeLoops_130 rfl (lv_at hl 4 rfl) ?_
    obtain ⟨g8, h⟩ := gd_some h
    refine va_iald hx hb hK w.1 2 0 rfl rfl g8 dX7_makeLoops_131 ?_
    refine lv_icmp_ne (tgt := 159) hx hb dX7_makeLoops_132 (by decide) (fun g9 => ?_) (fun g9 => ?_)
    · replace h := it_neg g9 h
      exact t_X7_makeLoops_159 C hk4 hk14 hret w (lv_sub hl [1, 2, 3, 4] rfl) h
    · replace h := it_pos g9 h
      refine lv_aload_n hx hb dX7_makeLoops_135 rfl (lv_at hl 1 rfl) ?_
      refine va_get (D := D) (ci := 6) (v := .ref (ad 1)) (C := RX7) (T := TX7) (N := 18) hx hb hts lX7_makeLoops_X7 hown hK w.1 0 rfl rfl 4 (by decide) (hts _ mX7_makeLoops_5) (fun _ h9 => h9) rfl dX7_makeLoops_136 ?_
      refine lv_iload_n hx hb dX7_makeLoops_139 rfl (lv_at hl 3 rfl) ?_
      obtain ⟨g10, h⟩ := gd_some h
      refine va_iald hx hb hK w.1 1 0 rfl rfl g10 dX7_makeLoops_140 ?_
      refine lv_iload_n hx hb dX7_makeLoops_141 rfl (lv_at hl 4 rfl) ?_
      refine lv_icmp_eq (tgt := 159) hx hb dX7_makeLoops_142 (by decide) (fun g11 => ?_) (fun g11 => ?_)
      · replace h := it_pos g11 h
        exact t_X7_makeLoops_159 C hk4 hk14 hret w (lv_sub hl [1, 2, 3, 4] rfl) h
      · replace h := it_neg g11 h
        refine lv_aload_n hx hb dX7_makeLoops_145 rfl (lv_at hl 1 rfl) ?_
        refine va_get (D := D) (ci := 6) (v := .ref (ad 1)) (C := RX7) (T := TX7) (N := 18) hx hb hts lX7_makeLoops_X7 hown hK w.1 0 rfl rfl 4 (by decide) (hts _ mX7_makeLoops_5) (fun _ h9 => h9) rfl dX7_makeLoops_146 ?_
        refine lv_iload_n hx hb dX7_makeLoops_149 rfl (lv_at hl 4 rfl) ?_
        obtain ⟨g12, h⟩ := gd_some h
        refine va_iald hx hb hK w.1 1 0 rfl rfl g12 dX7_makeLoops_150 ?_
        refine lv_iload_n hx hb dX7_makeLoops_151 rfl (lv_at hl 3 rfl) ?_
        refine lv_icmp_eq (tgt := 159) hx hb dX7_makeLoops_152 (by decide) (fun g13 => ?_) (fun g13 => ?_)
        · replace h := it_pos g13 h
          exact t_X7_makeLoops_159 C hk4 hk14 hret w (lv_sub hl [1, 2, 3, 4] rfl) h
        · replace h := it_neg g13 h
          refine lv_iconst (v := 1) hx hb dX7_makeLoops_155 (by decide) ?_
          refine lv_goto (tgt := 160) hx hb dX7_makeLoops_156 (by decide) ?_
          exact t_X7_makeLoops_160 C hk4 hk14 hret w (lv_sub hl [1, 2, 3, 4] rfl) h
def f_X7_makeLoops_63 (mo_rooms : Int32) (mparent : Nat → Int32) (mlevel : Nat → Int32) (mx : Nat → Int32) (my : Nat → Int32) (k4 : Int32 → Int32 → Int64 → (Nat → Int32) → Option (Int32 × Int64 × (Nat → Int32))) (k14 : Int32 → Int32 → Int32 → Int64 → (Nat → Int32) → Option (Int32 × Int64 × (Nat → Int32))) (x1 : Int32) (x2 : Int32) (x3 : Int32) (s0 : Int32) (mo_state : Int64) (mloop : Nat → Int32) : Option (Int32 × Int64 × (Nat → Int32)) := gd (x2 < 0 ∨ 12 ≤ x2.toNatClampNeg) (gd (x3 < 0 ∨ 12 ≤ x3.toNatClampNeg) (if (my x2.toNatClampNeg) ≤ (my x3.toNatClampNeg) then (gd (x3 < 0 ∨ 12 ≤ x3.toNatClampNeg) (gd (x2 < 0 ∨ 12 ≤ x2.toNatClampNeg) (f_X7_makeLoops_109 mo_rooms mparent mlevel mx my k4 k14 x1 x2 x3 s0 ((my x3.toNatClampNeg) - (my x2.toNatClampNeg)) mo_state mloop))) else (gd (x2 < 0 ∨ 12 ≤ x2.toNatClampNeg) (gd (x3 < 0 ∨ 12 ≤ x3.toNatClampNeg) (f_X7_makeLoops_109 mo_rooms mparent mlevel mx my k4 k14 x1 x2 x3 s0 ((my x2.toNatClampNeg) - (my x3.toNatClampNeg)) mo_state mloop)))))
set_option maxHeartbeats 4000000 in
set_option maxRecDepth 100000 in
theorem t_X7_makeLoops_63 {p : Program} {l : Launch} {e : Env} {s : State} {m : MethodId} {args : Array Value} {below : List Frame} {meth : Method} {c : Code} {Q : State → Prop} {D : va_G} {kA : Nat → ClassId} {ad : Nat → Nat} {A : Nat → Prop} {mo_state : Int64} {mo_rooms : Int32} {mo_smallDoors : Int32} {mo_goal : Int32} {mo_now : Int32} {mo_last : Int32} {mo_count : Int32} {mparent : Nat → Int32} {mlevel : Nat → Int32} {mkind : Nat → Int32} {mnum : Nat → Int32} {mx : Nat → Int32} {my : Nat → Int32} {mlying : Nat → Int32} {msw : Nat → Int32} {mloop : Nat → Int32} {mchosen : Nat → Int32} {met : Nat → Int32} {x1 : Int32} {x2 : Int32} {x3 : Int32} {s0 : Int32} {k4 : Int32 → Int32 → Int64 → (Nat → Int32) → Option (Int32 × Int64 × (Nat → Int32))} {k14 : Int32 → Int32 → Int32 → Int64 → (Nat → Int32) → Option (Int32 × Int64 × (Nat → Int32))} {res : Int32 × Int64 × (Nat → Int32)} (C : Cx p s m c args cX7_makeLoops 7 RX7 wsX7_makeLoops D kA A) (hk4 : ∀ (x1 : Int32) (x2 : Int32) (mo_state : Int64) (mloop : Nat → Int32) (H : Heap) (locs : List Loc) (ls : Array Slot), Wd D A s H locs (wM kA ad mo_state mo_rooms mo_smallDoors mo_goal mo_now mo_last mo_count mparent mlevel mkind mnum mx my mlying msw mloop mchosen met) → lv_has ls 7 [(0, .ref (ad 0)), (1, .int x1), (2, .int x2)] → k4 x1 x2 mo_state mloop = some res → W p l e rm_X7_makeLoops s m args below meth c H locs 0 0 Q (F0 m 4 ls [])) (hk14 : ∀ (x1 : Int32) (x2 : Int32) (x3 : Int32) (mo_state : Int64) (mloop : Nat → Int32) (H : Heap) (locs : List Loc) (ls : Array Slot), Wd D A s H locs (wM kA ad mo_state mo_rooms mo_smallDoors mo_goal mo_now mo_last mo_count mparent mlevel mkind mnum mx my mlying msw mloop mchosen met) → lv_has ls 7 [(0, .ref (ad 0)), (1, .int x1), (2, .int x2), (3, .int x3)] → k14 x1 x2 x3 mo_state mloop = some res → W p l e rm_X7_makeLoops s m args below meth c H locs 0 0 Q (F0 m 14 ls [])) (hret : ∀ (r : Int32) (q0 : Int64) (q1 : Nat → Int32) (H : Heap) (locs : List Loc) (ls : Array Slot) (pc : Nat), decode cX7_makeLoops pc = .ok (.ireturn, 1) → Wd D A s H locs (wM kA ad q0 mo_rooms mo_smallDoors mo_goal mo_now mo_last mo_count mparent mlevel mkind mnum mx my mlying msw q1 mchosen met) → (r, q0, q1) = res → W p l e rm_X7_makeLoops s m args below meth c H locs 0 0 Q (F0 m pc ls [.int r])) {H : Heap} {locs : List Loc} {ls : Array Slot} (w : Wd D A s H locs (wM kA ad mo_state mo_rooms mo_smallDoors mo_goal mo_now mo_last mo_count mparent mlevel mkind mnum mx my mlying msw mloop mchosen met)) (hl : lv_has ls 7 [(0, .ref (ad 0)), (1, .int x1), (2, .int x2), (3, .int x3)]) (h : f_X7_makeLoops_63 mo_rooms mparent mlevel mx my k4 k14 x1 x2 x3 s0 mo_state mloop = some res) : W p l e rm_X7_makeLoops s m args below meth c H locs 0 0 Q (F0 m 63 ls [.int s0]) := by
  obtain ⟨⟨hx, hb, hml, hown, hts⟩, hK, -, -⟩ := id C
  unfold f_X7_makeLoops_63 at h
  refine lv_istore (lv' := [(4, .int s0), (0, .ref (ad 0)), (1, .int x1), (2, .int x2), (3, .int x3)]) hx hb dX7_makeLoops_63 hl (by decide) rfl (fun ls hl => ?_)
  refine lv_aload_n hx hb dX7_makeLoops_65 rfl (lv_at hl 1 rfl) ?_
  refine va_get (D := D) (ci := 6) (v := .ref (ad 6)) (C := RX7) (T := TX7) (N := 18) hx hb hts lX7_makeLoops_X7 hown hK w.1 0 rfl rfl 9 (by decide) (hts _ mX7_makeLoops_3) (fun _ h9 => h9) rfl dX7_makeLoops_66 ?_
  refine lv_iload_n hx hb dX7_makeLoops_69 rfl (lv_at hl 3 rfl) ?_
  obtain ⟨g14, h⟩ := gd_some h
  refine va_iald hx hb hK w.1 6 0 rfl rfl g14 dX7_makeLoops_70 ?_
  refine lv_aload_n hx hb dX7_makeLoops_71 rfl (lv_at hl 1 rfl) ?_
  refine va_get (D := D) (ci := 6) (v := .ref (ad 6)) (C := RX7) (T := TX7) (N := 18) hx hb hts lX7_makeLoops_X7 hown hK w.1 0 rfl rfl 9 (by decide) (hts _ mX7_makeLoops_3) (fun _ h9 => h9) rfl dX7_makeLoops_72 ?_
  refine lv_iload_n hx hb dX7_makeLoops_75 rfl (lv_at hl 4 rfl) ?_
  obtain ⟨g15, h⟩ := gd_some h
  refine va_iald hx hb hK w.1 6 0 rfl rfl g15 dX7_makeLoops_76 ?_
  refine lv_icmp_le (tgt := 96) hx hb dX7_makeLoops_77 (by decide) (fun g16 => ?_) (fun g16 => ?_)
  · replace h := it_pos g16 h
    refine lv_aload_n hx hb dX7_makeLoops_96 rfl (lv_at hl 1 rfl) ?_
    refine va_get (D := D) (ci := 6) (v := .ref (ad 6)) (C := RX7) (T := TX7) (N := 18) hx hb hts lX7_makeLoops_X7 hown hK w.1 0 rfl rfl 9 (by decide) (hts _ mX7_makeLoops_3) (fun _ h9 => h9) rfl dX7_makeLoops_97 ?_
    refine lv_iload_n hx hb dX7_makeLoops_100 rfl (lv_at hl 4 rfl) ?_
    obtain ⟨g17, h⟩ := gd_some h
    refine va_iald hx hb hK w.1 6 0 rfl rfl g17 dX7_makeLoops_101 ?_
    refine lv_aload_n hx hb dX7_makeLoops_102 rfl (lv_at hl 1 rfl) ?_
    refine va_get (D := D) (ci := 6) (v := .ref (ad 6)) (C := RX7) (T := TX7) (N := 18) hx hb hts lX7_makeLoops_X7 hown hK w.1 0 rfl rfl 9 (by decide) (hts _ mX7_makeLoops_3) (fun _ h9 => h9) rfl dX7_makeLoops_103 ?_
    refine lv_iload_n hx hb dX7_makeLoops_106 rfl (lv_at hl 3 rfl) ?_
    obtain ⟨g18, h⟩ := gd_some h
    refine va_iald hx hb hK w.1 6 0 rfl rfl g18 dX7_makeLoops_107 ?_
    refine lv_isub hx hb dX7_makeLoops_108 ?_
    exact t_X7_makeLoops_109 C hk4 hk14 hret w (lv_sub hl [1, 2, 3, 4, 0] rfl) h
  · replace h := it_neg g16 h
    refine lv_aload_n hx hb dX7_makeLoops_80 rfl (lv_at hl 1 rfl) ?_
    refine va_get (D := D) (ci := 6) (v := .ref (ad 6)) (C := RX7) (T := TX7) (N := 18) hx hb hts lX7_makeLoops_X7 hown hK w.1 0 rfl rfl 9 (by decide) (hts _ mX7_makeLoops_3) (fun _ h9 => h9) rfl dX7_makeLoops_81 ?_
    refine lv_iload_n hx hb dX7_makeLoops_84 rfl (lv_at hl 3 rfl) ?_
    obtain ⟨g19, h⟩ := gd_some h
    refine va_iald hx hb hK w.1 6 0 rfl rfl g19 dX7_makeLoops_85 ?_
    refine lv_aload_n hx hb dX7_makeLoops_86 rfl (lv_at hl 1 rfl) ?_
    refine va_get (D := D) (ci := 6) (v := .ref (ad 6)) (C := RX7) (T := TX7) (N := 18) hx hb hts lX7_makeLoops_X7 hown hK w.1 0 rfl rfl 9 (by decide) (hts _ mX7_makeLoops_3) (fun _ h9 => h9) rfl dX7_makeLoops_87 ?_
    refine lv_iload_n hx hb dX7_makeLoops_90 rfl (lv_at hl 4 rfl) ?_
    obtain ⟨g20, h⟩ := gd_some h
    refine va_iald hx hb hK w.1 6 0 rfl rfl g20 dX7_makeLoops_91 ?_
    refine lv_isub hx hb dX7_makeLoops_92 ?_
    refine lv_goto (tgt := 109) hx hb dX7_makeLoops_93 (by decide) ?_
    exact t_X7_makeLoops_109 C hk4 hk14 hret w (lv_sub hl [1, 2, 3, 4, 0] rfl) h
def fb_X7_makeLoops_14 (mo_rooms : Int32) (mparent : Nat → Int32) (mlevel : Nat → Int32) (mx : Nat → Int32) (my : Nat → Int32) (k4 : Int32 → Int32 → Int64 → (Nat → Int32) → Option (Int32 × Int64 × (Nat → Int32))) (k14 : Int32 → Int32 → Int32 → Int64 → (Nat → Int32) → Option (Int32 × Int64 × (Nat → Int32))) (x1 : Int32) (x2 : Int32) (x3 : Int32) (mo_state : Int64) (mloop : Nat → Int32) : Option (Int32 × Int64 × (Nat → Int32)) := if x2 ≤ x3 then (k4 x1 (x2 + (1 : Int32)) mo_state mloop) else (gd (x2 < 0 ∨ 12 ≤ x2.toNatClampNeg) (gd (x3 < 0 ∨ 12 ≤ x3.toNatClampNeg) (if (mx x2.toNatClampNeg) ≤ (mx x3.toNatClampNeg) then (gd (x3 < 0 ∨ 12 ≤ x3.toNatClampNeg) (gd (x2 < 0 ∨ 12 ≤ x2.toNatClampNeg) (f_X7_makeLoops_63 mo_rooms mparent mlevel mx my k4 k14 x1 x2 x3 ((mx x3.toNatClampNeg) - (mx x2.toNatClampNeg)) mo_state mloop))) else (gd (x2 < 0 ∨ 12 ≤ x2.toNatClampNeg) (gd (x3 < 0 ∨ 12 ≤ x3.toNatClampNeg) (f_X7_makeLoops_63 mo_rooms mparent mlevel mx my k4 k14 x1 x2 x3 ((mx x2.toNatClampNeg) - (mx x3.toNatClampNeg)) mo_state mloop))))))
set_option maxHeartbeats 4000000 in
set_option maxRecDepth 100000 in
theorem tb_X7_makeLoops_14 {p : Program} {l : Launch} {e : Env} {s : State} {m : MethodId} {args : Array Value} {below : List Frame} {meth : Method} {c : Code} {Q : State → Prop} {D : va_G} {kA : Nat → ClassId} {ad : Nat → Nat} {A : Nat → Prop} {mo_state : Int64} {mo_rooms : Int32} {mo_smallDoors : Int32} {mo_goal : Int32} {mo_now : Int32} {mo_last : Int32} {mo_count : Int32} {mparent : Nat → Int32} {mlevel : Nat → Int32} {mkind : Nat → Int32} {mnum : Nat → Int32} {mx : Nat → Int32} {my : Nat → Int32} {mlying : Nat → Int32} {msw : Nat → Int32} {mloop : Nat → Int32} {mchosen : Nat → Int32} {met : Nat → Int32} {x1 : Int32} {x2 : Int32} {x3 : Int32} {k4 : Int32 → Int32 → Int64 → (Nat → Int32) → Option (Int32 × Int64 × (Nat → Int32))} {k14 : Int32 → Int32 → Int32 → Int64 → (Nat → Int32) → Option (Int32 × Int64 × (Nat → Int32))} {res : Int32 × Int64 × (Nat → Int32)} (C : Cx p s m c args cX7_makeLoops 7 RX7 wsX7_makeLoops D kA A) (hk4 : ∀ (x1 : Int32) (x2 : Int32) (mo_state : Int64) (mloop : Nat → Int32) (H : Heap) (locs : List Loc) (ls : Array Slot), Wd D A s H locs (wM kA ad mo_state mo_rooms mo_smallDoors mo_goal mo_now mo_last mo_count mparent mlevel mkind mnum mx my mlying msw mloop mchosen met) → lv_has ls 7 [(0, .ref (ad 0)), (1, .int x1), (2, .int x2)] → k4 x1 x2 mo_state mloop = some res → W p l e rm_X7_makeLoops s m args below meth c H locs 0 0 Q (F0 m 4 ls [])) (hk14 : ∀ (x1 : Int32) (x2 : Int32) (x3 : Int32) (mo_state : Int64) (mloop : Nat → Int32) (H : Heap) (locs : List Loc) (ls : Array Slot), Wd D A s H locs (wM kA ad mo_state mo_rooms mo_smallDoors mo_goal mo_now mo_last mo_count mparent mlevel mkind mnum mx my mlying msw mloop mchosen met) → lv_has ls 7 [(0, .ref (ad 0)), (1, .int x1), (2, .int x2), (3, .int x3)] → k14 x1 x2 x3 mo_state mloop = some res → W p l e rm_X7_makeLoops s m args below meth c H locs 0 0 Q (F0 m 14 ls [])) (hret : ∀ (r : Int32) (q0 : Int64) (q1 : Nat → Int32) (H : Heap) (locs : List Loc) (ls : Array Slot) (pc : Nat), decode cX7_makeLoops pc = .ok (.ireturn, 1) → Wd D A s H locs (wM kA ad q0 mo_rooms mo_smallDoors mo_goal mo_now mo_last mo_count mparent mlevel mkind mnum mx my mlying msw q1 mchosen met) → (r, q0, q1) = res → W p l e rm_X7_makeLoops s m args below meth c H locs 0 0 Q (F0 m pc ls [.int r])) {H : Heap} {locs : List Loc} {ls : Array Slot} (w : Wd D A s H locs (wM kA ad mo_state mo_rooms mo_smallDoors mo_goal mo_now mo_last mo_count mparent mlevel mkind mnum mx my mlying msw mloop mchosen met)) (hl : lv_has ls 7 [(0, .ref (ad 0)), (1, .int x1), (2, .int x2), (3, .int x3)]) (h : fb_X7_makeLoops_14 mo_rooms mparent mlevel mx my k4 k14 x1 x2 x3 mo_state mloop = some res) : W p l e rm_X7_makeLoops s m args below meth c H locs 0 0 Q (F0 m 14 ls []) := by
  obtain ⟨⟨hx, hb, hml, hown, hts⟩, hK, -, -⟩ := id C
  unfold fb_X7_makeLoops_14 at h
  refine lv_iload_n hx hb dX7_makeLoops_14 rfl (lv_at hl 3 rfl) ?_
  refine lv_iload_n hx hb dX7_makeLoops_15 rfl (lv_at hl 2 rfl) ?_
  refine lv_icmp_ge (tgt := 208) hx hb dX7_makeLoops_16 (by decide) (fun g21 => ?_) (fun g21 => ?_)
  · replace h := it_pos g21 h
    refine lv_iinc (v := (x2 + (1 : Int32))) (lv' := [(2, .int (x2 + (1 : Int32))), (0, .ref (ad 0)), (1, .int x1), (3, .int x3)]) hx hb dX7_makeLoops_208 hl (k := 2) rfl rfl (by decide) rfl (fun ls hl => ?_)
    refine lv_goto (tgt := 4) hx hb dX7_makeLoops_211 (by decide) ?_
    exact hk4 _ _ _ _ H locs ls w (lv_sub hl [1, 2, 0] rfl) h
  · replace h := it_neg g21 h
    refine lv_aload_n hx hb dX7_makeLoops_19 rfl (lv_at hl 0 rfl) ?_
    refine va_get (D := D) (ci := 6) (v := .ref (ad 5)) (C := RX7) (T := TX7) (N := 18) hx hb hts lX7_makeLoops_X7 hown hK w.1 0 rfl rfl 8 (by decide) (hts _ mX7_makeLoops_2) (fun _ h9 => h9) rfl dX7_makeLoops_20 ?_
    refine lv_iload_n hx hb dX7_makeLoops_23 rfl (lv_at hl 2 rfl) ?_
    obtain ⟨g22, h⟩ := gd_some h
    refine va_iald hx hb hK w.1 5 0 rfl rfl g22 dX7_makeLoops_24 ?_
    refine lv_aload_n hx hb dX7_makeLoops_25 rfl (lv_at hl 0 rfl) ?_
    refine va_get (D := D) (ci := 6) (v := .ref (ad 5)) (C := RX7) (T := TX7) (N := 18) hx hb hts lX7_makeLoops_X7 hown hK w.1 0 rfl rfl 8 (by decide) (hts _ mX7_makeLoops_2) (fun _ h9 => h9) rfl dX7_makeLoops_26 ?_
    refine lv_iload_n hx hb dX7_makeLoops_29 rfl (lv_at hl 3 rfl) ?_
    obtain ⟨g23, h⟩ := gd_some h
    refine va_iald hx hb hK w.1 5 0 rfl rfl g23 dX7_makeLoops_30 ?_
    refine lv_icmp_le (tgt := 50) hx hb dX7_makeLoops_31 (by decide) (fun g24 => ?_) (fun g24 => ?_)
    · replace h := it_pos g24 h
      refine lv_aload_n hx hb dX7_makeLoops_50 rfl (lv_at hl 0 rfl) ?_
      refine va_get (D := D) (ci := 6) (v := .ref (ad 5)) (C := RX7) (T := TX7) (N := 18) hx hb hts lX7_makeLoops_X7 hown hK w.1 0 rfl rfl 8 (by decide) (hts _ mX7_makeLoops_2) (fun _ h9 => h9) rfl dX7_makeLoops_51 ?_
      refine lv_iload_n hx hb dX7_makeLoops_54 rfl (lv_at hl 3 rfl) ?_
      obtain ⟨g25, h⟩ := gd_some h
      refine va_iald hx hb hK w.1 5 0 rfl rfl g25 dX7_makeLoops_55 ?_
      refine lv_aload_n hx hb dX7_makeLoops_56 rfl (lv_at hl 0 rfl) ?_
      refine va_get (D := D) (ci := 6) (v := .ref (ad 5)) (C := RX7) (T := TX7) (N := 18) hx hb hts lX7_makeLoops_X7 hown hK w.1 0 rfl rfl 8 (by decide) (hts _ mX7_makeLoops_2) (fun _ h9 => h9) rfl dX7_makeLoops_57 ?_
      refine lv_iload_n hx hb dX7_makeLoops_60 rfl (lv_at hl 2 rfl) ?_
      obtain ⟨g26, h⟩ := gd_some h
      refine va_iald hx hb hK w.1 5 0 rfl rfl g26 dX7_makeLoops_61 ?_
      refine lv_isub hx hb dX7_makeLoops_62 ?_
      exact t_X7_makeLoops_63 C hk4 hk14 hret w (lv_sub hl [0, 1, 2, 3] rfl) h
    · replace h := it_neg g24 h
      refine lv_aload_n hx hb dX7_makeLoops_34 rfl (lv_at hl 0 rfl) ?_
      refine va_get (D := D) (ci := 6) (v := .ref (ad 5)) (C := RX7) (T := TX7) (N := 18) hx hb hts lX7_makeLoops_X7 hown hK w.1 0 rfl rfl 8 (by decide) (hts _ mX7_makeLoops_2) (fun _ h9 => h9) rfl dX7_makeLoops_35 ?_
      refine lv_iload_n hx hb dX7_makeLoops_38 rfl (lv_at hl 2 rfl) ?_
      obtain ⟨g27, h⟩ := gd_some h
      refine va_iald hx hb hK w.1 5 0 rfl rfl g27 dX7_makeLoops_39 ?_
      refine lv_aload_n hx hb dX7_makeLoops_40 rfl (lv_at hl 0 rfl) ?_
      refine va_get (D := D) (ci := 6) (v := .ref (ad 5)) (C := RX7) (T := TX7) (N := 18) hx hb hts lX7_makeLoops_X7 hown hK w.1 0 rfl rfl 8 (by decide) (hts _ mX7_makeLoops_2) (fun _ h9 => h9) rfl dX7_makeLoops_41 ?_
      refine lv_iload_n hx hb dX7_makeLoops_44 rfl (lv_at hl 3 rfl) ?_
      obtain ⟨g28, h⟩ := gd_some h
      refine va_iald hx hb hK w.1 5 0 rfl rfl g28 dX7_makeLoops_45 ?_
      refine lv_isub hx hb dX7_makeLoops_46 ?_
      refine lv_goto (tgt := 63) hx hb dX7_makeLoops_47 (by decide) ?_
      exact t_X7_makeLoops_63 C hk4 hk14 hret w (lv_sub hl [0, 1, 2, 3] rfl) h
def f_X7_makeLoops_14 (mo_rooms : Int32) (mparent : Nat → Int32) (mlevel : Nat → Int32) (mx : Nat → Int32) (my : Nat → Int32) (k4 : Int32 → Int32 → Int64 → (Nat → Int32) → Option (Int32 × Int64 × (Nat → Int32))) (x1 : Int32) (x2 : Int32) (x3 : Int32) (mo_state : Int64) (mloop : Nat → Int32) : Option (Int32 × Int64 × (Nat → Int32)) := lp (σ := Int32 × Int32 × Int32 × Int64 × (Nat → Int32)) (fun k st => fb_X7_makeLoops_14 mo_rooms mparent mlevel mx my k4 (fun x1 x2 x3 mo_state mloop => k (x1, x2, x3, mo_state, mloop)) st.1 st.2.1 st.2.2.1 st.2.2.2.1 st.2.2.2.2) fuel (x1, x2, x3, mo_state, mloop)
set_option maxHeartbeats 4000000 in
set_option maxRecDepth 100000 in
theorem t_X7_makeLoops_14 {p : Program} {l : Launch} {e : Env} {s : State} {m : MethodId} {args : Array Value} {below : List Frame} {meth : Method} {c : Code} {Q : State → Prop} {D : va_G} {kA : Nat → ClassId} {ad : Nat → Nat} {A : Nat → Prop} {mo_state : Int64} {mo_rooms : Int32} {mo_smallDoors : Int32} {mo_goal : Int32} {mo_now : Int32} {mo_last : Int32} {mo_count : Int32} {mparent : Nat → Int32} {mlevel : Nat → Int32} {mkind : Nat → Int32} {mnum : Nat → Int32} {mx : Nat → Int32} {my : Nat → Int32} {mlying : Nat → Int32} {msw : Nat → Int32} {mloop : Nat → Int32} {mchosen : Nat → Int32} {met : Nat → Int32} {x1 : Int32} {x2 : Int32} {x3 : Int32} {k4 : Int32 → Int32 → Int64 → (Nat → Int32) → Option (Int32 × Int64 × (Nat → Int32))} {res : Int32 × Int64 × (Nat → Int32)} (C : Cx p s m c args cX7_makeLoops 7 RX7 wsX7_makeLoops D kA A) (hk4 : ∀ (x1 : Int32) (x2 : Int32) (mo_state : Int64) (mloop : Nat → Int32) (H : Heap) (locs : List Loc) (ls : Array Slot), Wd D A s H locs (wM kA ad mo_state mo_rooms mo_smallDoors mo_goal mo_now mo_last mo_count mparent mlevel mkind mnum mx my mlying msw mloop mchosen met) → lv_has ls 7 [(0, .ref (ad 0)), (1, .int x1), (2, .int x2)] → k4 x1 x2 mo_state mloop = some res → W p l e rm_X7_makeLoops s m args below meth c H locs 0 0 Q (F0 m 4 ls [])) (hret : ∀ (r : Int32) (q0 : Int64) (q1 : Nat → Int32) (H : Heap) (locs : List Loc) (ls : Array Slot) (pc : Nat), decode cX7_makeLoops pc = .ok (.ireturn, 1) → Wd D A s H locs (wM kA ad q0 mo_rooms mo_smallDoors mo_goal mo_now mo_last mo_count mparent mlevel mkind mnum mx my mlying msw q1 mchosen met) → (r, q0, q1) = res → W p l e rm_X7_makeLoops s m args below meth c H locs 0 0 Q (F0 m pc ls [.int r])) {H : Heap} {locs : List Loc} {ls : Array Slot} (w : Wd D A s H locs (wM kA ad mo_state mo_rooms mo_smallDoors mo_goal mo_now mo_last mo_count mparent mlevel mkind mnum mx my mlying msw mloop mchosen met)) (hl : lv_has ls 7 [(0, .ref (ad 0)), (1, .int x1), (2, .int x2), (3, .int x3)]) (h : f_X7_makeLoops_14 mo_rooms mparent mlevel mx my k4 x1 x2 x3 mo_state mloop = some res) : W p l e rm_X7_makeLoops s m args below meth c H locs 0 0 Q (F0 m 14 ls []) := by
  unfold f_X7_makeLoops_14 at h
  exact lp_ind (P := (fun (st : Int32 × Int32 × Int32 × Int64 × (Nat → Int32)) => ∀ (H : Heap) (locs : List Loc) (ls : Array Slot), Wd D A s H locs (wM kA ad st.2.2.2.1 mo_rooms mo_smallDoors mo_goal mo_now mo_last mo_count mparent mlevel mkind mnum mx my mlying msw st.2.2.2.2 mchosen met) → lv_has ls 7 [(0, .ref (ad 0)), (1, .int st.1), (2, .int st.2.1), (3, .int st.2.2.1)] → W p l e rm_X7_makeLoops s m args below meth c H locs 0 0 Q (F0 m 14 ls []))) (fun k hk st h H locs ls w hl => tb_X7_makeLoops_14 C hk4 (fun a0 a1 a2 a3 a4 H locs ls w hl h => hk (a0, a1, a2, a3, a4) h H locs ls w hl) hret w hl h) fuel (x1, x2, x3, mo_state, mloop) h H locs ls w hl
def fb_X7_makeLoops_4 (mo_rooms : Int32) (mparent : Nat → Int32) (mlevel : Nat → Int32) (mx : Nat → Int32) (my : Nat → Int32) (k4 : Int32 → Int32 → Int64 → (Nat → Int32) → Option (Int32 × Int64 × (Nat → Int32))) (x1 : Int32) (x2 : Int32) (mo_state : Int64) (mloop : Nat → Int32) : Option (Int32 × Int64 × (Nat → Int32)) := if mo_rooms ≤ x2 then (some (x1, mo_state, mloop)) else (f_X7_makeLoops_14 mo_rooms mparent mlevel mx my k4 x1 x2 (0 : Int32) mo_state mloop)
set_option maxHeartbeats 4000000 in
set_option maxRecDepth 100000 in
theorem tb_X7_makeLoops_4 {p : Program} {l : Launch} {e : Env} {s : State} {m : MethodId} {args : Array Value} {below : List Frame} {meth : Method} {c : Code} {Q : State → Prop} {D : va_G} {kA : Nat → ClassId} {ad : Nat → Nat} {A : Nat → Prop} {mo_state : Int64} {mo_rooms : Int32} {mo_smallDoors : Int32} {mo_goal : Int32} {mo_now : Int32} {mo_last : Int32} {mo_count : Int32} {mparent : Nat → Int32} {mlevel : Nat → Int32} {mkind : Nat → Int32} {mnum : Nat → Int32} {mx : Nat → Int32} {my : Nat → Int32} {mlying : Nat → Int32} {msw : Nat → Int32} {mloop : Nat → Int32} {mchosen : Nat → Int32} {met : Nat → Int32} {x1 : Int32} {x2 : Int32} {k4 : Int32 → Int32 → Int64 → (Nat → Int32) → Option (Int32 × Int64 × (Nat → Int32))} {res : Int32 × Int64 × (Nat → Int32)} (C : Cx p s m c args cX7_makeLoops 7 RX7 wsX7_makeLoops D kA A) (hk4 : ∀ (x1 : Int32) (x2 : Int32) (mo_state : Int64) (mloop : Nat → Int32) (H : Heap) (locs : List Loc) (ls : Array Slot), Wd D A s H locs (wM kA ad mo_state mo_rooms mo_smallDoors mo_goal mo_now mo_last mo_count mparent mlevel mkind mnum mx my mlying msw mloop mchosen met) → lv_has ls 7 [(0, .ref (ad 0)), (1, .int x1), (2, .int x2)] → k4 x1 x2 mo_state mloop = some res → W p l e rm_X7_makeLoops s m args below meth c H locs 0 0 Q (F0 m 4 ls [])) (hret : ∀ (r : Int32) (q0 : Int64) (q1 : Nat → Int32) (H : Heap) (locs : List Loc) (ls : Array Slot) (pc : Nat), decode cX7_makeLoops pc = .ok (.ireturn, 1) → Wd D A s H locs (wM kA ad q0 mo_rooms mo_smallDoors mo_goal mo_now mo_last mo_count mparent mlevel mkind mnum mx my mlying msw q1 mchosen met) → (r, q0, q1) = res → W p l e rm_X7_makeLoops s m args below meth c H locs 0 0 Q (F0 m pc ls [.int r])) {H : Heap} {locs : List Loc} {ls : Array Slot} (w : Wd D A s H locs (wM kA ad mo_state mo_rooms mo_smallDoors mo_goal mo_now mo_last mo_count mparent mlevel mkind mnum mx my mlying msw mloop mchosen met)) (hl : lv_has ls 7 [(0, .ref (ad 0)), (1, .int x1), (2, .int x2)]) (h : fb_X7_makeLoops_4 mo_rooms mparent mlevel mx my k4 x1 x2 mo_state mloop = some res) : W p l e rm_X7_makeLoops s m args below meth c H locs 0 0 Q (F0 m 4 ls []) := by
  obtain ⟨⟨hx, hb, hml, hown, hts⟩, hK, -, -⟩ := id C
  unfold fb_X7_makeLoops_4 at h
  refine lv_iload_n hx hb dX7_makeLoops_4 rfl (lv_at hl 2 rfl) ?_
  refine lv_aload_n hx hb dX7_makeLoops_5 rfl (lv_at hl 0 rfl) ?_
  refine va_get (D := D) (ci := 6) (v := .int mo_rooms) (C := RX7) (T := TX7) (N := 18) hx hb hts lX7_makeLoops_X7 hown hK w.1 0 rfl rfl 1 (by decide) (hts _ mX7_makeLoops_1) (fun _ h9 => h9) rfl dX7_makeLoops_6 ?_
  refine lv_icmp_ge (tgt := 214) hx hb dX7_makeLoops_9 (by decide) (fun g29 => ?_) (fun g29 => ?_)
  · replace h := it_pos g29 h
    refine lv_iload_n hx hb dX7_makeLoops_214 rfl (lv_at hl 1 rfl) ?_
    exact hret _ _ _ _ _ _ _ dX7_makeLoops_215 w (Option.some.inj h)
  · replace h := it_neg g29 h
    refine lv_iconst (v := 0) hx hb dX7_makeLoops_12 (by decide) ?_
    refine lv_istore_n (lv' := [(3, .int (0 : Int32)), (0, .ref (ad 0)), (1, .int x1), (2, .int x2)]) hx hb dX7_makeLoops_13 rfl hl (by decide) rfl (fun ls hl => ?_)
    exact t_X7_makeLoops_14 C hk4 hret w (lv_sub hl [1, 2, 3, 0] rfl) h
def f_X7_makeLoops_4 (mo_rooms : Int32) (mparent : Nat → Int32) (mlevel : Nat → Int32) (mx : Nat → Int32) (my : Nat → Int32) (x1 : Int32) (x2 : Int32) (mo_state : Int64) (mloop : Nat → Int32) : Option (Int32 × Int64 × (Nat → Int32)) := lp (σ := Int32 × Int32 × Int64 × (Nat → Int32)) (fun k st => fb_X7_makeLoops_4 mo_rooms mparent mlevel mx my (fun x1 x2 mo_state mloop => k (x1, x2, mo_state, mloop)) st.1 st.2.1 st.2.2.1 st.2.2.2) fuel (x1, x2, mo_state, mloop)
set_option maxHeartbeats 4000000 in
set_option maxRecDepth 100000 in
theorem t_X7_makeLoops_4 {p : Program} {l : Launch} {e : Env} {s : State} {m : MethodId} {args : Array Value} {below : List Frame} {meth : Method} {c : Code} {Q : State → Prop} {D : va_G} {kA : Nat → ClassId} {ad : Nat → Nat} {A : Nat → Prop} {mo_state : Int64} {mo_rooms : Int32} {mo_smallDoors : Int32} {mo_goal : Int32} {mo_now : Int32} {mo_last : Int32} {mo_count : Int32} {mparent : Nat → Int32} {mlevel : Nat → Int32} {mkind : Nat → Int32} {mnum : Nat → Int32} {mx : Nat → Int32} {my : Nat → Int32} {mlying : Nat → Int32} {msw : Nat → Int32} {mloop : Nat → Int32} {mchosen : Nat → Int32} {met : Nat → Int32} {x1 : Int32} {x2 : Int32} {res : Int32 × Int64 × (Nat → Int32)} (C : Cx p s m c args cX7_makeLoops 7 RX7 wsX7_makeLoops D kA A) (hret : ∀ (r : Int32) (q0 : Int64) (q1 : Nat → Int32) (H : Heap) (locs : List Loc) (ls : Array Slot) (pc : Nat), decode cX7_makeLoops pc = .ok (.ireturn, 1) → Wd D A s H locs (wM kA ad q0 mo_rooms mo_smallDoors mo_goal mo_now mo_last mo_count mparent mlevel mkind mnum mx my mlying msw q1 mchosen met) → (r, q0, q1) = res → W p l e rm_X7_makeLoops s m args below meth c H locs 0 0 Q (F0 m pc ls [.int r])) {H : Heap} {locs : List Loc} {ls : Array Slot} (w : Wd D A s H locs (wM kA ad mo_state mo_rooms mo_smallDoors mo_goal mo_now mo_last mo_count mparent mlevel mkind mnum mx my mlying msw mloop mchosen met)) (hl : lv_has ls 7 [(0, .ref (ad 0)), (1, .int x1), (2, .int x2)]) (h : f_X7_makeLoops_4 mo_rooms mparent mlevel mx my x1 x2 mo_state mloop = some res) : W p l e rm_X7_makeLoops s m args below meth c H locs 0 0 Q (F0 m 4 ls []) := by
  unfold f_X7_makeLoops_4 at h
  exact lp_ind (P := (fun (st : Int32 × Int32 × Int64 × (Nat → Int32)) => ∀ (H : Heap) (locs : List Loc) (ls : Array Slot), Wd D A s H locs (wM kA ad st.2.2.1 mo_rooms mo_smallDoors mo_goal mo_now mo_last mo_count mparent mlevel mkind mnum mx my mlying msw st.2.2.2 mchosen met) → lv_has ls 7 [(0, .ref (ad 0)), (1, .int st.1), (2, .int st.2.1)] → W p l e rm_X7_makeLoops s m args below meth c H locs 0 0 Q (F0 m 4 ls []))) (fun k hk st h H locs ls w hl => tb_X7_makeLoops_4 C  (fun a0 a1 a2 a3 H locs ls w hl h => hk (a0, a1, a2, a3) h H locs ls w hl) hret w hl h) fuel (x1, x2, mo_state, mloop) h H locs ls w hl
def f_X7_makeLoops  (mo_state : Int64) (mo_rooms : Int32) (mparent : Nat → Int32) (mlevel : Nat → Int32) (mx : Nat → Int32) (my : Nat → Int32) (mloop : Nat → Int32) : Option (Int32 × Int64 × (Nat → Int32)) := f_X7_makeLoops_4 mo_rooms mparent mlevel mx my (0 : Int32) (1 : Int32) mo_state mloop
set_option maxHeartbeats 4000000 in
set_option maxRecDepth 100000 in
theorem t_X7_makeLoops {p : Program} {l : Launch} {e : Env} {s : State} {m : MethodId} {args : Array Value} {below : List Frame} {meth : Method} {c : Code} {Q : State → Prop} {D : va_G} {kA : Nat → ClassId} {ad : Nat → Nat} {A : Nat → Prop} {mo_state : Int64} {mo_rooms : Int32} {mo_smallDoors : Int32} {mo_goal : Int32} {mo_now : Int32} {mo_last : Int32} {mo_count : Int32} {mparent : Nat → Int32} {mlevel : Nat → Int32} {mkind : Nat → Int32} {mnum : Nat → Int32} {mx : Nat → Int32} {my : Nat → Int32} {mlying : Nat → Int32} {msw : Nat → Int32} {mloop : Nat → Int32} {mchosen : Nat → Int32} {met : Nat → Int32}  {res : Int32 × Int64 × (Nat → Int32)} (C : Cx p s m c args cX7_makeLoops 7 RX7 wsX7_makeLoops D kA A) (hret : ∀ (r : Int32) (q0 : Int64) (q1 : Nat → Int32) (H : Heap) (locs : List Loc) (ls : Array Slot) (pc : Nat), decode cX7_makeLoops pc = .ok (.ireturn, 1) → Wd D A s H locs (wM kA ad q0 mo_rooms mo_smallDoors mo_goal mo_now mo_last mo_count mparent mlevel mkind mnum mx my mlying msw q1 mchosen met) → (r, q0, q1) = res → W p l e rm_X7_makeLoops s m args below meth c H locs 0 0 Q (F0 m pc ls [.int r])) {H : Heap} {locs : List Loc} {ls : Array Slot} (w : Wd D A s H locs (wM kA ad mo_state mo_rooms mo_smallDoors mo_goal mo_now mo_last mo_count mparent mlevel mkind mnum mx my mlying msw mloop mchosen met)) (hl : lv_has ls 7 [(0, .ref (ad 0))]) (h : f_X7_makeLoops  mo_state mo_rooms mparent mlevel mx my mloop = some res) : W p l e rm_X7_makeLoops s m args below meth c H locs 0 0 Q (F0 m 0 ls []) := by
  obtain ⟨⟨hx, hb, hml, hown, hts⟩, hK, -, -⟩ := id C
  unfold f_X7_makeLoops at h
  refine lv_iconst (v := 0) hx hb dX7_makeLoops_0 (by decide) ?_
  refine lv_istore_n (lv' := [(1, .int (0 : Int32)), (0, .ref (ad 0))]) hx hb dX7_makeLoops_1 rfl hl (by decide) rfl (fun ls hl => ?_)
  refine lv_iconst (v := 1) hx hb dX7_makeLoops_2 (by decide) ?_
  refine lv_istore_n (lv' := [(2, .int (1 : Int32)), (1, .int (0 : Int32)), (0, .ref (ad 0))]) hx hb dX7_makeLoops_3 rfl hl (by decide) rfl (fun ls hl => ?_)
  exact t_X7_makeLoops_4 C  hret w (lv_sub hl [2, 1, 0] rfl) h
set_option maxHeartbeats 4000000 in
set_option maxRecDepth 100000 in
theorem c_X7_makeLoops (l : Launch) (D : va_G) (kA : Nat → ClassId) (ad : Nat → Nat) (sz : Nat) (mo_state : Int64) (mo_rooms : Int32) (mo_smallDoors : Int32) (mo_goal : Int32) (mo_now : Int32) (mo_last : Int32) (mo_count : Int32) (mparent : Nat → Int32) (mlevel : Nat → Int32) (mkind : Nat → Int32) (mnum : Nat → Int32) (mx : Nat → Int32) (my : Nat → Int32) (mlying : Nat → Int32) (msw : Nat → Int32) (mloop : Nat → Int32) (mchosen : Nat → Int32) (met : Nat → Int32)  {res : Int32 × Int64 × (Nat → Int32)} (h : f_X7_makeLoops  mo_state mo_rooms mparent mlevel mx my mloop = some res) : Ci l yX7_makeLoops wsX7_makeLoops rm_X7_makeLoops D kA [.ref (ad 0)] sz (wM kA ad mo_state mo_rooms mo_smallDoors mo_goal mo_now mo_last mo_count mparent mlevel mkind mnum mx my mlying msw mloop mchosen met) (wM kA ad res.2.1 mo_rooms mo_smallDoors mo_goal mo_now mo_last mo_count mparent mlevel mkind mnum mx my mlying msw res.2.2 mchosen met) res.1 := by
  refine Met.ofW (cc := cX7_makeLoops) (maxL := 7) (ret := (some .int)) (by decide) rfl ?_
  intro p e s m args below meth c s₁ B hml hv
  obtain ⟨rfl, hsz, hP, hK, hD0, hX⟩ := hv
  subst hsz
  have hts := atoms_spec (ws := wsX7_makeLoops) B.pre
  have hl := lv_entry ([.ref (ad 0)]) (n := 7) (Nat.le_of_ble_eq_true rfl)
  rw [lg_entry_eq]
  have hlocks := B.notSynchronized
  refine t_X7_makeLoops (A := va_A (wM kA ad mo_state mo_rooms mo_smallDoors mo_goal mo_now mo_last mo_count mparent mlevel mkind mnum mx my mlying msw mloop mchosen met) s.heap.size) ⟨⟨B.exec, B.bytes, hml, findClass_of_methodNamed B.named, hts⟩, hK, fun q h => Or.inr h, hX⟩ (fun r q0 q1 H locs ls pc hd w hres => ?_) ⟨hP, hD0.self, va_S.rf⟩ hl h
  subst hres
  exact W.iret B.exec B.bytes B.returns (fun t ht hW => ⟨⟨_, (), rfl, rfl, by rw [ht]; exact w.1, va_K.moved hW.alike hK, w.2.1⟩, w.2.2.F ht⟩) w.2.2.2.2 hd hlocks
-- ('wM', 'LockQuestModel', 'make', '(JIIII)I', ('mo', None, None, None, None, None))
abbrev rm_X7_make : Room := { frames := 3, cells := 0, slots := 0, locals := 69 }
set_option maxRecDepth 20000 in
theorem lX7_make_X7 : ∀ w ∈ wsX70, w ∈ wsX7_make := by decide +kernel
set_option maxRecDepth 20000 in
theorem mX7_make_1 : Cond.fieldLink RX7 48 "LockQuestModel" "state" "J" ∈ wsX7_make := by decide +kernel
set_option maxRecDepth 20000 in
theorem mX7_make_2 : Cond.fieldLink RX7 56 "LockQuestModel" "rooms" "I" ∈ wsX7_make := by decide +kernel
set_option maxRecDepth 20000 in
theorem mX7_make_3 : Cond.fieldLink RX7 100 "LockQuestModel" "goal" "I" ∈ wsX7_make := by decide +kernel
set_option maxRecDepth 20000 in
theorem mX7_make_4 : Cond.fieldLink RX7 38 "LockQuestModel" "chosen" "[Z" ∈ wsX7_make := by decide +kernel
set_option maxRecDepth 20000 in
theorem mX7_make_5 : Cond.fieldLink RX7 13 "LockQuestModel" "level" "[I" ∈ wsX7_make := by decide +kernel
def f_X7_make_119  (k90 : Int32 → Int32 → Int32 → Int64 → Int32 → Int32 → Int32 → Int32 → (Nat → Int32) → (Nat → Int32) → (Nat → Int32) → (Nat → Int32) → (Nat → Int32) → (Nat → Int32) → (Nat → Int32) → (Nat → Int32) → (Nat → Int32) → (Nat → Int32) → Option (Int32 × Int64 × Int32 × Int32 × Int32 × Int32 × (Nat → Int32) × (Nat → Int32) × (Nat → Int32) × (Nat → Int32) × (Nat → Int32) × (Nat → Int32) × (Nat → Int32) × (Nat → Int32) × (Nat → Int32) × (Nat → Int32))) (x3 : Int32) (x4 : Int32) (x7 : Int32) (s1 : Int32) (s2 : Int32) (mo_state : Int64) (mo_rooms : Int32) (mo_smallDoors : Int32) (mo_goal : Int32) (mo_now : Int32) (mparent : Nat → Int32) (mlevel : Nat → Int32) (mkind : Nat → Int32) (mnum : Nat → Int32) (mx : Nat → Int32) (my : Nat → Int32) (mlying : Nat → Int32) (msw : Nat → Int32) (mloop : Nat → Int32) (mchosen : Nat → Int32) : Option (Int32 × Int64 × Int32 × Int32 × Int32 × Int32 × (Nat → Int32) × (Nat → Int32) × (Nat → Int32) × (Nat → Int32) × (Nat → Int32) × (Nat → Int32) × (Nat → Int32) × (Nat → Int32) × (Nat → Int32) × (Nat → Int32)) := gd (s1 < 0 ∨ 12 ≤ s1.toNatClampNeg) (k90 x3 x4 (x7 + (1 : Int32)) mo_state mo_rooms mo_smallDoors mo_goal mo_now mparent mlevel mkind mnum mx my mlying msw mloop (upd mchosen s1.toNatClampNeg (vp_nar .boolean s2)))
set_option maxHeartbeats 4000000 in
set_option maxRecDepth 100000 in
theorem t_X7_make_119 {p : Program} {l : Launch} {e : Env} {s : State} {m : MethodId} {args : Array Value} {below : List Frame} {meth : Method} {c : Code} {Q : State → Prop} {D : va_G} {kA : Nat → ClassId} {ad : Nat → Nat} {A : Nat → Prop} {mo_state : Int64} {mo_rooms : Int32} {mo_smallDoors : Int32} {mo_goal : Int32} {mo_now : Int32} {mo_last : Int32} {mo_count : Int32} {mparent : Nat → Int32} {mlevel : Nat → Int32} {mkind : Nat → Int32} {mnum : Nat → Int32} {mx : Nat → Int32} {my : Nat → Int32} {mlying : Nat → Int32} {msw : Nat → Int32} {mloop : Nat → Int32} {mchosen : Nat → Int32} {met : Nat → Int32} {x3 : Int32} {x4 : Int32} {x7 : Int32} {s1 : Int32} {s2 : Int32} {k90 : Int32 → Int32 → Int32 → Int64 → Int32 → Int32 → Int32 → Int32 → (Nat → Int32) → (Nat → Int32) → (Nat → Int32) → (Nat → Int32) → (Nat → Int32) → (Nat → Int32) → (Nat → Int32) → (Nat → Int32) → (Nat → Int32) → (Nat → Int32) → Option (Int32 × Int64 × Int32 × Int32 × Int32 × Int32 × (Nat → Int32) × (Nat → Int32) × (Nat → Int32) × (Nat → Int32) × (Nat → Int32) × (Nat → Int32) × (Nat → Int32) × (Nat → Int32) × (Nat → Int32) × (Nat → Int32))} {res : Int32 × Int64 × Int32 × Int32 × Int32 × Int32 × (Nat → Int32) × (Nat → Int32) × (Nat → Int32) × (Nat → Int32) × (Nat → Int32) × (Nat → Int32) × (Nat → Int32) × (Nat → Int32) × (Nat → Int32) × (Nat → Int32)} (C : Cx p s m c args cX7_make 8 RX7 wsX7_make D kA A) (hk90 : ∀ (x3 : Int32) (x4 : Int32) (x7 : Int32) (mo_state : Int64) (mo_rooms : Int32) (mo_smallDoors : Int32) (mo_goal : Int32) (mo_now : Int32) (mparent : Nat → Int32) (mlevel : Nat → Int32) (mkind : Nat → Int32) (mnum : Nat → Int32) (mx : Nat → Int32) (my : Nat → Int32) (mlying : Nat → Int32) (msw : Nat → Int32) (mloop : Nat → Int32) (mchosen : Nat → Int32) (H : Heap) (locs : List Loc) (ls : Array Slot), Wd D A s H locs (wM kA ad mo_state mo_rooms mo_smallDoors mo_goal mo_now mo_last mo_count mparent mlevel mkind mnum mx my mlying msw mloop mchosen met) → lv_has ls 8 [(0, .ref (ad 0)), (3, .int x3), (4, .int x4), (7, .int x7)] → k90 x3 x4 x7 mo_state mo_rooms mo_smallDoors mo_goal mo_now mparent mlevel mkind mnum mx my mlying msw mloop mchosen = some res → W p l e rm_X7_make s m args below meth c H locs 0 0 Q (F0 m 90 ls [])) (hret : ∀ (r : Int32) (q0 : Int64) (q1 : Int32) (q2 : Int32) (q3 : Int32) (q4 : Int32) (q5 : Nat → Int32) (q6 : Nat → Int32) (q7 : Nat → Int32) (q8 : Nat → Int32) (q9 : Nat → Int32) (q10 : Nat → Int32) (q11 : Nat → Int32) (q12 : Nat → Int32) (q13 : Nat → Int32) (q14 : Nat → Int32) (H : Heap) (locs : List Loc) (ls : Array Slot) (pc : Nat), decode cX7_make pc = .ok (.ireturn, 1) → Wd D A s H locs (wM kA ad q0 q1 q2 q3 q4 mo_last mo_count q5 q6 q7 q8 q9 q10 q11 q12 q13 q14 met) → (r, q0, q1, q2, q3, q4, q5, q6, q7, q8, q9, q10, q11, q12, q13, q14) = res → W p l e rm_X7_make s m args below meth c H locs 0 0 Q (F0 m pc ls [.int r])) {H : Heap} {locs : List Loc} {ls : Array Slot} (w : Wd D A s H locs (wM kA ad mo_state mo_rooms mo_smallDoors mo_goal mo_now mo_last mo_count mparent mlevel mkind mnum mx my mlying msw mloop mchosen met)) (hl : lv_has ls 8 [(0, .ref (ad 0)), (3, .int x3), (4, .int x4), (7, .int x7)]) (h : f_X7_make_119  k90 x3 x4 x7 s1 s2 mo_state mo_rooms mo_smallDoors mo_goal mo_now mparent mlevel mkind mnum mx my mlying msw mloop mchosen = some res) : W p l e rm_X7_make s m args below meth c H locs 0 0 Q (F0 m 119 ls [.int s2, .int s1, .ref (ad 10)]) := by
  obtain ⟨⟨hx, hb, hml, hown, hts⟩, hK, -, -⟩ := id C
  unfold f_X7_make_119 at h
  obtain ⟨g1, h⟩ := gd_some h
  refine va_zast hx hb hK w.1 w.2.1 w.2.2 10 2 rfl rfl g1 dX7_make_119 (fun H locs hP hD hS => ?_)
  have w : Wd D A s H locs (wM kA ad mo_state mo_rooms mo_smallDoors mo_goal mo_now mo_last mo_count mparent mlevel mkind mnum mx my mlying msw mloop (upd mchosen s1.toNatClampNeg (vp_nar .boolean s2)) met) := ⟨hP, hD, hS⟩
  refine lv_iinc (v := (x7 + (1 : Int32))) (lv' := [(7, .int (x7 + (1 : Int32))), (0, .ref (ad 0)), (3, .int x3), (4, .int x4)]) hx hb dX7_make_120 hl (k := 3) rfl rfl (by decide) rfl (fun ls hl => ?_)
  refine lv_goto (tgt := 90) hx hb dX7_make_123 (by decide) ?_
  exact hk90 _ _ _ _ _ _ _ _ _ _ _ _ _ _ _ _ _ _ H locs ls w (lv_sub hl [1, 2, 3, 0] rfl) h
def fb_X7_make_90  (k90 : Int32 → Int32 → Int32 → Int64 → Int32 → Int32 → Int32 → Int32 → (Nat → Int32) → (Nat → Int32) → (Nat → Int32) → (Nat → Int32) → (Nat → Int32) → (Nat → Int32) → (Nat → Int32) → (Nat → Int32) → (Nat → Int32) → (Nat → Int32) → Option (Int32 × Int64 × Int32 × Int32 × Int32 × Int32 × (Nat → Int32) × (Nat → Int32) × (Nat → Int32) × (Nat → Int32) × (Nat → Int32) × (Nat → Int32) × (Nat → Int32) × (Nat → Int32) × (Nat → Int32) × (Nat → Int32))) (x3 : Int32) (x4 : Int32) (x7 : Int32) (mo_state : Int64) (mo_rooms : Int32) (mo_smallDoors : Int32) (mo_goal : Int32) (mo_now : Int32) (mparent : Nat → Int32) (mlevel : Nat → Int32) (mkind : Nat → Int32) (mnum : Nat → Int32) (mx : Nat → Int32) (my : Nat → Int32) (mlying : Nat → Int32) (msw : Nat → Int32) (mloop : Nat → Int32) (mchosen : Nat → Int32) : Option (Int32 × Int64 × Int32 × Int32 × Int32 × Int32 × (Nat → Int32) × (Nat → Int32) × (Nat → Int32) × (Nat → Int32) × (Nat → Int32) × (Nat → Int32) × (Nat → Int32) × (Nat → Int32) × (Nat → Int32) × (Nat → Int32)) := if x3 ≤ x7 then ((f_X7_drawn mo_state mo_rooms mchosen).bind (fun u3 => (f_X7_makePlaces u3.2 mo_rooms mparent mx my).bind (fun u4 => (f_X7_makeLoops u4.1 mo_rooms mparent mlevel u4.2.1 u4.2.2 mloop).bind (fun u5 => some (((x3 - (1 : Int32)) + u5.1), u5.2.1, mo_rooms, mo_smallDoors, u3.1, mo_now, mparent, mlevel, mkind, mnum, u4.2.1, u4.2.2, mlying, msw, u5.2.2, mchosen))))) else (gd (x7 < 0 ∨ 12 ≤ x7.toNatClampNeg) (if (mlevel x7.toNatClampNeg) = x4 then (f_X7_make_119 k90 x3 x4 x7 x7 (1 : Int32) mo_state mo_rooms mo_smallDoors mo_goal mo_now mparent mlevel mkind mnum mx my mlying msw mloop mchosen) else (f_X7_make_119 k90 x3 x4 x7 x7 (0 : Int32) mo_state mo_rooms mo_smallDoors mo_goal mo_now mparent mlevel mkind mnum mx my mlying msw mloop mchosen)))
set_option maxHeartbeats 4000000 in
set_option maxRecDepth 100000 in
theorem tb_X7_make_90 {p : Program} {l : Launch} {e : Env} {s : State} {m : MethodId} {args : Array Value} {below : List Frame} {meth : Method} {c : Code} {Q : State → Prop} {D : va_G} {kA : Nat → ClassId} {ad : Nat → Nat} {A : Nat → Prop} {mo_state : Int64} {mo_rooms : Int32} {mo_smallDoors : Int32} {mo_goal : Int32} {mo_now : Int32} {mo_last : Int32} {mo_count : Int32} {mparent : Nat → Int32} {mlevel : Nat → Int32} {mkind : Nat → Int32} {mnum : Nat → Int32} {mx : Nat → Int32} {my : Nat → Int32} {mlying : Nat → Int32} {msw : Nat → Int32} {mloop : Nat → Int32} {mchosen : Nat → Int32} {met : Nat → Int32} {x3 : Int32} {x4 : Int32} {x7 : Int32} {k90 : Int32 → Int32 → Int32 → Int64 → Int32 → Int32 → Int32 → Int32 → (Nat → Int32) → (Nat → Int32) → (Nat → Int32) → (Nat → Int32) → (Nat → Int32) → (Nat → Int32) → (Nat → Int32) → (Nat → Int32) → (Nat → Int32) → (Nat → Int32) → Option (Int32 × Int64 × Int32 × Int32 × Int32 × Int32 × (Nat → Int32) × (Nat → Int32) × (Nat → Int32) × (Nat → Int32) × (Nat → Int32) × (Nat → Int32) × (Nat → Int32) × (Nat → Int32) × (Nat → Int32) × (Nat → Int32))} {res : Int32 × Int64 × Int32 × Int32 × Int32 × Int32 × (Nat → Int32) × (Nat → Int32) × (Nat → Int32) × (Nat → Int32) × (Nat → Int32) × (Nat → Int32) × (Nat → Int32) × (Nat → Int32) × (Nat → Int32) × (Nat → Int32)} (C : Cx p s m c args cX7_make 8 RX7 wsX7_make D kA A) (hk90 : ∀ (x3 : Int32) (x4 : Int32) (x7 : Int32) (mo_state : Int64) (mo_rooms : Int32) (mo_smallDoors : Int32) (mo_goal : Int32) (mo_now : Int32) (mparent : Nat → Int32) (mlevel : Nat → Int32) (mkind : Nat → Int32) (mnum : Nat → Int32) (mx : Nat → Int32) (my : Nat → Int32) (mlying : Nat → Int32) (msw : Nat → Int32) (mloop : Nat → Int32) (mchosen : Nat → Int32) (H : Heap) (locs : List Loc) (ls : Array Slot), Wd D A s H locs (wM kA ad mo_state mo_rooms mo_smallDoors mo_goal mo_now mo_last mo_count mparent mlevel mkind mnum mx my mlying msw mloop mchosen met) → lv_has ls 8 [(0, .ref (ad 0)), (3, .int x3), (4, .int x4), (7, .int x7)] → k90 x3 x4 x7 mo_state mo_rooms mo_smallDoors mo_goal mo_now mparent mlevel mkind mnum mx my mlying msw mloop mchosen = some res → W p l e rm_X7_make s m args below meth c H locs 0 0 Q (F0 m 90 ls [])) (hret : ∀ (r : Int32) (q0 : Int64) (q1 : Int32) (q2 : Int32) (q3 : Int32) (q4 : Int32) (q5 : Nat → Int32) (q6 : Nat → Int32) (q7 : Nat → Int32) (q8 : Nat → Int32) (q9 : Nat → Int32) (q10 : Nat → Int32) (q11 : Nat → Int32) (q12 : Nat → Int32) (q13 : Nat → Int32) (q14 : Nat → Int32) (H : Heap) (locs : List Loc) (ls : Array Slot) (pc : Nat), decode cX7_make pc = .ok (.ireturn, 1) → Wd D A s H locs (wM kA ad q0 q1 q2 q3 q4 mo_last mo_count q5 q6 q7 q8 q9 q10 q11 q12 q13 q14 met) → (r, q0, q1, q2, q3, q4, q5, q6, q7, q8, q9, q10, q11, q12, q13, q14) = res → W p l e rm_X7_make s m args below meth c H locs 0 0 Q (F0 m pc ls [.int r])) {H : Heap} {locs : List Loc} {ls : Array Slot} (w : Wd D A s H locs (wM kA ad mo_state mo_rooms mo_smallDoors mo_goal mo_now mo_last mo_count mparent mlevel mkind mnum mx my mlying msw mloop mchosen met)) (hl : lv_has ls 8 [(0, .ref (ad 0)), (3, .int x3), (4, .int x4), (7, .int x7)]) (h : fb_X7_make_90  k90 x3 x4 x7 mo_state mo_rooms mo_smallDoors mo_goal mo_now mparent mlevel mkind mnum mx my mlying msw mloop mchosen = some res) : W p l e rm_X7_make s m args below meth c H locs 0 0 Q (F0 m 90 ls []) := by
  obtain ⟨⟨hx, hb, hml, hown, hts⟩, hK, -, -⟩ := id C
  unfold fb_X7_make_90 at h
  refine lv_iload hx hb dX7_make_90 (lv_at hl 3 rfl) ?_
  refine lv_iload_n hx hb dX7_make_92 rfl (lv_at hl 1 rfl) ?_
  refine lv_icmp_ge (tgt := 126) hx hb dX7_make_93 (by decide) (fun g2 => ?_) (fun g2 => ?_)
  · replace h := it_pos g2 h
    refine lv_aload_n hx hb dX7_make_126 rfl (lv_at hl 0 rfl) ?_
    refine lv_aload_n hx hb dX7_make_127 rfl (lv_at hl 0 rfl) ?_
    obtain ⟨u3, hc3, h⟩ := bd_some h
    refine gl_calli C w (va_runV (As := []) (rest := [.ref (ad 0)]) ⟨hx, hb, hml, hown, hts⟩ (c_X7_drawn l D kA ad H.size mo_state mo_rooms mo_smallDoors mo_goal mo_now mo_last mo_count mparent mlevel mkind mnum mx my mlying msw mloop mchosen met  hc3) (cwV 0 hts gX7_make_X7_drawn rfl rfl rfl (by decide +kernel) ⟨Nat.le_of_ble_eq_true rfl, Nat.le_of_ble_eq_true rfl⟩) (Wd.preV C w (q0 := 0) (ci := 6) rfl rfl rfl) rfl rfl hl.1 rfl (lv_room (Nat.le_of_ble_eq_true rfl)) dX7_make_128 ⟨Nat.zero_le _, Nat.zero_le _⟩) (fun H locs w => ?_)
    refine va_put (D := D) (ci := 6) (v := .int u3.1) (ty := .int) (C := RX7) (T := TX7) (N := 18) hx hb hts lX7_make_X7 tyX7 tyX7_ok nmX7 hown hK w.1 w.2.1 w.2.2 0 rfl rfl 3 (by decide) (hts _ mX7_make_3) (fun _ h9 => h9) rfl (by decide +kernel) rfl rfl (Nat.le_of_ble_eq_true rfl) dX7_make_131 (fun H locs hP hD hS => ?_)
    have w : Wd D A s H locs (wM kA ad u3.2 mo_rooms mo_smallDoors u3.1 mo_now mo_last mo_count mparent mlevel mkind mnum mx my mlying msw mloop mchosen met) := ⟨hP, hD, hS⟩
    refine lv_aload_n hx hb dX7_make_134 rfl (lv_at hl 0 rfl) ?_
    obtain ⟨u4, hc4, h⟩ := bd_some h
    refine gl_callv C w (va_runV (As := []) (rest := []) ⟨hx, hb, hml, hown, hts⟩ (c_X7_makePlaces l D kA ad H.size u3.2 mo_rooms mo_smallDoors u3.1 mo_now mo_last mo_count mparent mlevel mkind mnum mx my mlying msw mloop mchosen met  hc4) (cwV 0 hts gX7_make_X7_makePlaces rfl rfl rfl (by decide +kernel) ⟨Nat.le_of_ble_eq_true rfl, Nat.le_of_ble_eq_true rfl⟩) (Wd.preV C w (q0 := 0) (ci := 6) rfl rfl rfl) rfl rfl hl.1 rfl (lv_room (Nat.le_of_ble_eq_true rfl)) dX7_make_135 ⟨Nat.zero_le _, Nat.zero_le _⟩) (fun H locs w => ?_)
    refine lv_iload_n hx hb dX7_make_138 rfl (lv_at hl 1 rfl) ?_
    refine lv_iconst (v := 1) hx hb dX7_make_139 (by decide) ?_
    refine lv_isub hx hb dX7_make_140 ?_
    refine lv_aload_n hx hb dX7_make_141 rfl (lv_at hl 0 rfl) ?_
    obtain ⟨u5, hc5, h⟩ := bd_some h
    refine gl_calli C w (va_runV (As := []) (rest := [.int (x3 - (1 : Int32))]) ⟨hx, hb, hml, hown, hts⟩ (c_X7_makeLoops l D kA ad H.size u4.1 mo_rooms mo_smallDoors u3.1 mo_now mo_last mo_count mparent mlevel mkind mnum u4.2.1 u4.2.2 mlying msw mloop mchosen met  hc5) (cwV 0 hts gX7_make_X7_makeLoops rfl rfl rfl (by decide +kernel) ⟨Nat.le_of_ble_eq_true rfl, Nat.le_of_ble_eq_true rfl⟩) (Wd.preV C w (q0 := 0) (ci := 6) rfl rfl rfl) rfl rfl hl.1 rfl (lv_room (Nat.le_of_ble_eq_true rfl)) dX7_make_142 ⟨Nat.zero_le _, Nat.zero_le _⟩) (fun H locs w => ?_)
    refine lv_iadd hx hb dX7_make_145 ?_
    exact hret _ _ _ _ _ _ _ _ _ _ _ _ _ _ _ _ _ _ _ _ dX7_make_146 w (Option.some.inj h)
  · replace h := it_neg g2 h
    refine lv_aload_n hx hb dX7_make_96 rfl (lv_at hl 0 rfl) ?_
    refine va_get (D := D) (ci := 6) (v := .ref (ad 10)) (C := RX7) (T := TX7) (N := 18) hx hb hts lX7_make_X7 hown hK w.1 0 rfl rfl 13 (by decide) (hts _ mX7_make_4) (fun _ h9 => h9) rfl dX7_make_97 ?_
    refine lv_iload hx hb dX7_make_100 (lv_at hl 3 rfl) ?_
    refine lv_aload_n hx hb dX7_make_102 rfl (lv_at hl 0 rfl) ?_
    refine va_get (D := D) (ci := 6) (v := .ref (ad 2)) (C := RX7) (T := TX7) (N := 18) hx hb hts lX7_make_X7 hown hK w.1 0 rfl rfl 5 (by decide) (hts _ mX7_make_5) (fun _ h9 => h9) rfl dX7_make_103 ?_
    refine lv_iload hx hb dX7_make_106 (lv_at hl 3 rfl) ?_
    obtain ⟨g6, h⟩ := gd_some h
    refine va_iald hx hb hK w.1 2 0 rfl rfl g6 dX7_make_108 ?_
    refine lv_iload hx hb dX7_make_109 (lv_at hl 2 rfl) ?_
    refine lv_icmp_ne (tgt := 118) hx hb dX7_make_111 (by decide) (fun g7 => ?_) (fun g7 => ?_)
    · replace h := it_neg g7 h
      refine lv_iconst (v := 0) hx hb dX7_make_118 (by decide) ?_
      exact t_X7_make_119 C hk90 hret w (lv_sub hl [0, 1, 2, 3] rfl) h
    · replace h := it_pos g7 h
      refine lv_iconst (v := 1) hx hb dX7_make_114 (by decide) ?_
      refine lv_goto (tgt := 119) hx hb dX7_make_115 (by decide) ?_
      exact t_X7_make_119 C hk90 hret w (lv_sub hl [0, 1, 2, 3] rfl) h
def f_X7_make_90  (x3 : Int32) (x4 : Int32) (x7 : Int32) (mo_state : Int64) (mo_rooms : Int32) (mo_smallDoors : Int32) (mo_goal : Int32) (mo_now : Int32) (mparent : Nat → Int32) (mlevel : Nat → Int32) (mkind : Nat → Int32) (mnum : Nat → Int32) (mx : Nat → Int32) (my : Nat → Int32) (mlying : Nat → Int32) (msw : Nat → Int32) (mloop : Nat → Int32) (mchosen : Nat → Int32) : Option (Int32 × Int64 × Int32 × Int32 × Int32 × Int32 × (Nat → Int32) × (Nat → Int32) × (Nat → Int32) × (Nat → Int32) × (Nat → Int32) × (Nat → Int32) × (Nat → Int32) × (Nat → Int32) × (Nat → Int32) × (Nat → Int32)) := lp (σ := Int32 × Int32 × Int32 × Int64 × Int32 × Int32 × Int32 × Int32 × (Nat → Int32) × (Nat → Int32) × (Nat → Int32) × (Nat → Int32) × (Nat → Int32) × (Nat → Int32) × (Nat → Int32) × (Nat → Int32) × (Nat → Int32) × (Nat → Int32)) (fun k st => fb_X7_make_90  (fun x3 x4 x7 mo_state mo_rooms mo_smallDoors mo_goal mo_now mparent mlevel mkind mnum mx my mlying msw mloop mchosen => k (x3, x4, x7, mo_state, mo_rooms, mo_smallDoors, mo_goal, mo_now, mparent, mlevel, mkind, mnum, mx, my, mlying, msw, mloop, mchosen)) st.1 st.2.1 st.2.2.1 st.2.2.2.1 st.2.2.2.2.1 st.2.2.2.2.2.1 st.2.2.2.2.2.2.1 st.2.2.2.2.2.2.2.1 st.2.2.2.2.2.2.2.2.1 st.2.2.2.2.2.2.2.2.2.1 st.2.2.2.2.2.2.2.2.2.2.1 st.2.2.2.2.2.2.2.2.2.2.2.1 st.2.2.2.2.2.2.2.2.2.2.2.2.1 st.2.2.2.2.2.2.2.2.2.2.2.2.2.1 st.2.2.2.2.2.2.2.2.2.2.2.2.2.2.1 st.2.2.2.2.2.2.2.2.2.2.2.2.2.2.2.1 st.2.2.2.2.2.2.2.2.2.2.2.2.2.2.2.2.1 st.2.2.2.2.2.2.2.2.2.2.2.2.2.2.2.2.2) fuel (x3, x4, x7, mo_state, mo_rooms, mo_smallDoors, mo_goal, mo_now, mparent, mlevel, mkind, mnum, mx, my, mlying, msw, mloop, mchosen)
set_option maxHeartbeats 4000000 in
set_option maxRecDepth 100000 in
theorem t_X7_make_90 {p : Program} {l : Launch} {e : Env} {s : State} {m : MethodId} {args : Array Value} {below : List Frame} {meth : Method} {c : Code} {Q : State → Prop} {D : va_G} {kA : Nat → ClassId} {ad : Nat → Nat} {A : Nat → Prop} {mo_state : Int64} {mo_rooms : Int32} {mo_smallDoors : Int32} {mo_goal : Int32} {mo_now : Int32} {mo_last : Int32} {mo_count : Int32} {mparent : Nat → Int32} {mlevel : Nat → Int32} {mkind : Nat → Int32} {mnum : Nat → Int32} {mx : Nat → Int32} {my : Nat → Int32} {mlying : Nat → Int32} {msw : Nat → Int32} {mloop : Nat → Int32} {mchosen : Nat → Int32} {met : Nat → Int32} {x3 : Int32} {x4 : Int32} {x7 : Int32} {res : Int32 × Int64 × Int32 × Int32 × Int32 × Int32 × (Nat → Int32) × (Nat → Int32) × (Nat → Int32) × (Nat → Int32) × (Nat → Int32) × (Nat → Int32) × (Nat → Int32) × (Nat → Int32) × (Nat → Int32) × (Nat → Int32)} (C : Cx p s m c args cX7_make 8 RX7 wsX7_make D kA A) (hret : ∀ (r : Int32) (q0 : Int64) (q1 : Int32) (q2 : Int32) (q3 : Int32) (q4 : Int32) (q5 : Nat → Int32) (q6 : Nat → Int32) (q7 : Nat → Int32) (q8 : Nat → Int32) (q9 : Nat → Int32) (q10 : Nat → Int32) (q11 : Nat → Int32) (q12 : Nat → Int32) (q13 : Nat → Int32) (q14 : Nat → Int32) (H : Heap) (locs : List Loc) (ls : Array Slot) (pc : Nat), decode cX7_make pc = .ok (.ireturn, 1) → Wd D A s H locs (wM kA ad q0 q1 q2 q3 q4 mo_last mo_count q5 q6 q7 q8 q9 q10 q11 q12 q13 q14 met) → (r, q0, q1, q2, q3, q4, q5, q6, q7, q8, q9, q10, q11, q12, q13, q14) = res → W p l e rm_X7_make s m args below meth c H locs 0 0 Q (F0 m pc ls [.int r])) {H : Heap} {locs : List Loc} {ls : Array Slot} (w : Wd D A s H locs (wM kA ad mo_state mo_rooms mo_smallDoors mo_goal mo_now mo_last mo_count mparent mlevel mkind mnum mx my mlying msw mloop mchosen met)) (hl : lv_has ls 8 [(0, .ref (ad 0)), (3, .int x3), (4, .int x4), (7, .int x7)]) (h : f_X7_make_90  x3 x4 x7 mo_state mo_rooms mo_smallDoors mo_goal mo_now mparent mlevel mkind mnum mx my mlying msw mloop mchosen = some res) : W p l e rm_X7_make s m args below meth c H locs 0 0 Q (F0 m 90 ls []) := by
  unfold f_X7_make_90 at h
  exact lp_ind (P := (fun (st : Int32 × Int32 × Int32 × Int64 × Int32 × Int32 × Int32 × Int32 × (Nat → Int32) × (Nat → Int32) × (Nat → Int32) × (Nat → Int32) × (Nat → Int32) × (Nat → Int32) × (Nat → Int32) × (Nat → Int32) × (Nat → Int32) × (Nat → Int32)) => ∀ (H : Heap) (locs : List Loc) (ls : Array Slot), Wd D A s H locs (wM kA ad st.2.2.2.1 st.2.2.2.2.1 st.2.2.2.2.2.1 st.2.2.2.2.2.2.1 st.2.2.2.2.2.2.2.1 mo_last mo_count st.2.2.2.2.2.2.2.2.1 st.2.2.2.2.2.2.2.2.2.1 st.2.2.2.2.2.2.2.2.2.2.1 st.2.2.2.2.2.2.2.2.2.2.2.1 st.2.2.2.2.2.2.2.2.2.2.2.2.1 st.2.2.2.2.2.2.2.2.2.2.2.2.2.1 st.2.2.2.2.2.2.2.2.2.2.2.2.2.2.1 st.2.2.2.2.2.2.2.2.2.2.2.2.2.2.2.1 st.2.2.2.2.2.2.2.2.2.2.2.2.2.2.2.2.1 st.2.2.2.2.2.2.2.2.2.2.2.2.2.2.2.2.2 met) → lv_has ls 8 [(0, .ref (ad 0)), (3, .int st.1), (4, .int st.2.1), (7, .int st.2.2.1)] → W p l e rm_X7_make s m args below meth c H locs 0 0 Q (F0 m 90 ls []))) (fun k hk st h H locs ls w hl => tb_X7_make_90 C  (fun a0 a1 a2 a3 a4 a5 a6 a7 a8 a9 a10 a11 a12 a13 a14 a15 a16 a17 H locs ls w hl h => hk (a0, a1, a2, a3, a4, a5, a6, a7, a8, a9, a10, a11, a12, a13, a14, a15, a16, a17) h H locs ls w hl) hret w hl h) fuel (x3, x4, x7, mo_state, mo_rooms, mo_smallDoors, mo_goal, mo_now, mparent, mlevel, mkind, mnum, mx, my, mlying, msw, mloop, mchosen) h H locs ls w hl
def f_X7_make (p0 : Int64) (p1 : Int32) (p2 : Int32) (p3 : Int32) (p4 : Int32) (mo_state : Int64) (mo_rooms : Int32) (mo_smallDoors : Int32) (mo_goal : Int32) (mo_now : Int32) (mparent : Nat → Int32) (mlevel : Nat → Int32) (mkind : Nat → Int32) (mnum : Nat → Int32) (mx : Nat → Int32) (my : Nat → Int32) (mlying : Nat → Int32) (msw : Nat → Int32) (mloop : Nat → Int32) (mchosen : Nat → Int32) : Option (Int32 × Int64 × Int32 × Int32 × Int32 × Int32 × (Nat → Int32) × (Nat → Int32) × (Nat → Int32) × (Nat → Int32) × (Nat → Int32) × (Nat → Int32) × (Nat → Int32) × (Nat → Int32) × (Nat → Int32) × (Nat → Int32)) := if p1 < (2 : Int32) then (some ((-1 : Int32), mo_state, mo_rooms, mo_smallDoors, mo_goal, mo_now, mparent, mlevel, mkind, mnum, mx, my, mlying, msw, mloop, mchosen)) else (if (12 : Int32) < p1 then (some ((-1 : Int32), mo_state, mo_rooms, mo_smallDoors, mo_goal, mo_now, mparent, mlevel, mkind, mnum, mx, my, mlying, msw, mloop, mchosen)) else (if p2 < (1 : Int32) then (some ((-1 : Int32), mo_state, mo_rooms, mo_smallDoors, mo_goal, mo_now, mparent, mlevel, mkind, mnum, mx, my, mlying, msw, mloop, mchosen)) else (if (3 : Int32) < p2 then (some ((-1 : Int32), mo_state, mo_rooms, mo_smallDoors, mo_goal, mo_now, mparent, mlevel, mkind, mnum, mx, my, mlying, msw, mloop, mchosen)) else (if p1 ≤ p2 then (some ((-1 : Int32), mo_state, mo_rooms, mo_smallDoors, mo_goal, mo_now, mparent, mlevel, mkind, mnum, mx, my, mlying, msw, mloop, mchosen)) else (if p3 < 0 then (some ((-1 : Int32), mo_state, mo_rooms, mo_smallDoors, mo_goal, mo_now, mparent, mlevel, mkind, mnum, mx, my, mlying, msw, mloop, mchosen)) else (if (3 : Int32) < p3 then (some ((-1 : Int32), mo_state, mo_rooms, mo_smallDoors, mo_goal, mo_now, mparent, mlevel, mkind, mnum, mx, my, mlying, msw, mloop, mchosen)) else (if p4 < 0 then (some ((-1 : Int32), mo_state, mo_rooms, mo_smallDoors, mo_goal, mo_now, mparent, mlevel, mkind, mnum, mx, my, mlying, msw, mloop, mchosen)) else (if p4 ≤ (2 : Int32) then ((f_X7_clear mo_smallDoors mo_now mparent mlevel mkind mx my mlying msw mloop).bind (fun u17 => (f_X7_makeRooms p2 p0 p1 u17.2.2.1 u17.2.2.2.1 u17.2.2.2.2.1 mchosen).bind (fun u18 => (f_X7_makeKeys p2 p3 u18.1 p1 u17.1 u18.2.1 u18.2.2.1 u18.2.2.2.1 mnum u17.2.2.2.2.2.2.2.1 u18.2.2.2.2).bind (fun u19 => (f_X7_makeBarriers p4 u19.1 p1 u18.2.1 u19.2.2.1 u17.2.2.2.2.2.2.2.2.1 u19.2.2.2.2.2).bind (fun u20 => f_X7_make_90 p1 p2 (0 : Int32) u20.1 p1 u19.2.1 mo_goal u17.2.1 u18.2.1 u18.2.2.1 u20.2.1 u19.2.2.2.1 u17.2.2.2.2.2.1 u17.2.2.2.2.2.2.1 u19.2.2.2.2.1 u20.2.2.1 u17.2.2.2.2.2.2.2.2.2 u20.2.2.2))))) else (some ((-1 : Int32), mo_state, mo_rooms, mo_smallDoors, mo_goal, mo_now, mparent, mlevel, mkind, mnum, mx, my, mlying, msw, mloop, mchosen))))))))))
set_option maxHeartbeats 4000000 in
set_option maxRecDepth 100000 in
theorem t_X7_make {p : Program} {l : Launch} {e : Env} {s : State} {m : MethodId} {args : Array Value} {below : List Frame} {meth : Method} {c : Code} {Q : State → Prop} {D : va_G} {kA : Nat → ClassId} {ad : Nat → Nat} {A : Nat → Prop} {mo_state : Int64} {mo_rooms : Int32} {mo_smallDoors : Int32} {mo_goal : Int32} {mo_now : Int32} {mo_last : Int32} {mo_count : Int32} {mparent : Nat → Int32} {mlevel : Nat → Int32} {mkind : Nat → Int32} {mnum : Nat → Int32} {mx : Nat → Int32} {my : Nat → Int32} {mlying : Nat → Int32} {msw : Nat → Int32} {mloop : Nat → Int32} {mchosen : Nat → Int32} {met : Nat → Int32} {p0 : Int64} {p1 : Int32} {p2 : Int32} {p3 : Int32} {p4 : Int32} {res : Int32 × Int64 × Int32 × Int32 × Int32 × Int32 × (Nat → Int32) × (Nat → Int32) × (Nat → Int32) × (Nat → Int32) × (Nat → Int32) × (Nat → Int32) × (Nat → Int32) × (Nat → Int32) × (Nat → Int32) × (Nat → Int32)} (C : Cx p s m c args cX7_make 8 RX7 wsX7_make D kA A) (hret : ∀ (r : Int32) (q0 : Int64) (q1 : Int32) (q2 : Int32) (q3 : Int32) (q4 : Int32) (q5 : Nat → Int32) (q6 : Nat → Int32) (q7 : Nat → Int32) (q8 : Nat → Int32) (q9 : Nat → Int32) (q10 : Nat → Int32) (q11 : Nat → Int32) (q12 : Nat → Int32) (q13 : Nat → Int32) (q14 : Nat → Int32) (H : Heap) (locs : List Loc) (ls : Array Slot) (pc : Nat), decode cX7_make pc = .ok (.ireturn, 1) → Wd D A s H locs (wM kA ad q0 q1 q2 q3 q4 mo_last mo_count q5 q6 q7 q8 q9 q10 q11 q12 q13 q14 met) → (r, q0, q1, q2, q3, q4, q5, q6, q7, q8, q9, q10, q11, q12, q13, q14) = res → W p l e rm_X7_make s m args below meth c H locs 0 0 Q (F0 m pc ls [.int r])) {H : Heap} {locs : List Loc} {ls : Array Slot} (w : Wd D A s H locs (wM kA ad mo_state mo_rooms mo_smallDoors mo_goal mo_now mo_last mo_count mparent mlevel mkind mnum mx my mlying msw mloop mchosen met)) (hl : lv_has ls 8 [(0, .ref (ad 0)), (1, .long p0), (3, .int p1), (4, .int p2), (5, .int p3), (6, .int p4)]) (h : f_X7_make p0 p1 p2 p3 p4 mo_state mo_rooms mo_smallDoors mo_goal mo_now mparent mlevel mkind mnum mx my mlying msw mloop mchosen = some res) : W p l e rm_X7_make s m args below meth c H locs 0 0 Q (F0 m 0 ls []) := by
  obtain ⟨⟨hx, hb, hml, hown, hts⟩, hK, -, -⟩ := id C
  unfold f_X7_make at h
  refine lv_iload_n hx hb dX7_make_0 rfl (lv_at hl 2 rfl) ?_
  refine lv_iconst (v := 2) hx hb dX7_make_1 (by decide) ?_
  refine lv_icmp_lt (tgt := 51) hx hb dX7_make_2 (by decide) (fun g8 => ?_) (fun g8 => ?_)
  · replace h := it_pos g8 h
    refine lv_iconst (v := -1) hx hb dX7_make_51 (by decide) ?_
    exact hret _ _ _ _ _ _ _ _ _ _ _ _ _ _ _ _ _ _ _ _ dX7_make_52 w (Option.some.inj h)
  · replace h := it_neg g8 h
    refine lv_iload_n hx hb dX7_make_5 rfl (lv_at hl 2 rfl) ?_
    refine lv_bipush (v := 12) hx hb dX7_make_6 (by decide) ?_
    refine lv_icmp_gt (tgt := 51) hx hb dX7_make_8 (by decide) (fun g9 => ?_) (fun g9 => ?_)
    · replace h := it_pos g9 h
      refine lv_iconst (v := -1) hx hb dX7_make_51 (by decide) ?_
      exact hret _ _ _ _ _ _ _ _ _ _ _ _ _ _ _ _ _ _ _ _ dX7_make_52 w (Option.some.inj h)
    · replace h := it_neg g9 h
      refine lv_iload hx hb dX7_make_11 (lv_at hl 3 rfl) ?_
      refine lv_iconst (v := 1) hx hb dX7_make_13 (by decide) ?_
      refine lv_icmp_lt (tgt := 51) hx hb dX7_make_14 (by decide) (fun g10 => ?_) (fun g10 => ?_)
      · replace h := it_pos g10 h
        refine lv_iconst (v := -1) hx hb dX7_make_51 (by decide) ?_
        exact hret _ _ _ _ _ _ _ _ _ _ _ _ _ _ _ _ _ _ _ _ dX7_make_52 w (Option.some.inj h)
      · replace h := it_neg g10 h
        refine lv_iload hx hb dX7_make_17 (lv_at hl 3 rfl) ?_
        refine lv_iconst (v := 3) hx hb dX7_make_19 (by decide) ?_
        refine lv_icmp_gt (tgt := 51) hx hb dX7_make_20 (by decide) (fun g11 => ?_) (fun g11 => ?_)
        · replace h := it_pos g11 h
          refine lv_iconst (v := -1) hx hb dX7_make_51 (by decide) ?_
          exact hret _ _ _ _ _ _ _ _ _ _ _ _ _ _ _ _ _ _ _ _ dX7_make_52 w (Option.some.inj h)
        · replace h := it_neg g11 h
          refine lv_iload hx hb dX7_make_23 (lv_at hl 3 rfl) ?_
          refine lv_iload_n hx hb dX7_make_25 rfl (lv_at hl 2 rfl) ?_
          refine lv_icmp_ge (tgt := 51) hx hb dX7_make_26 (by decide) (fun g12 => ?_) (fun g12 => ?_)
          · replace h := it_pos g12 h
            refine lv_iconst (v := -1) hx hb dX7_make_51 (by decide) ?_
            exact hret _ _ _ _ _ _ _ _ _ _ _ _ _ _ _ _ _ _ _ _ dX7_make_52 w (Option.some.inj h)
          · replace h := it_neg g12 h
            refine lv_iload hx hb dX7_make_29 (lv_at hl 4 rfl) ?_
            refine lv_if_lt (tgt := 51) hx hb dX7_make_31 (by decide) (fun g13 => ?_) (fun g13 => ?_)
            · replace h := it_pos g13 h
              refine lv_iconst (v := -1) hx hb dX7_make_51 (by decide) ?_
              exact hret _ _ _ _ _ _ _ _ _ _ _ _ _ _ _ _ _ _ _ _ dX7_make_52 w (Option.some.inj h)
            · replace h := it_neg g13 h
              refine lv_iload hx hb dX7_make_34 (lv_at hl 4 rfl) ?_
              refine lv_iconst (v := 3) hx hb dX7_make_36 (by decide) ?_
              refine lv_icmp_gt (tgt := 51) hx hb dX7_make_37 (by decide) (fun g14 => ?_) (fun g14 => ?_)
              · replace h := it_pos g14 h
                refine lv_iconst (v := -1) hx hb dX7_make_51 (by decide) ?_
                exact hret _ _ _ _ _ _ _ _ _ _ _ _ _ _ _ _ _ _ _ _ dX7_make_52 w (Option.some.inj h)
              · replace h := it_neg g14 h
                refine lv_iload hx hb dX7_make_40 (lv_at hl 5 rfl) ?_
                refine lv_if_lt (tgt := 51) hx hb dX7_make_42 (by decide) (fun g15 => ?_) (fun g15 => ?_)
                · replace h := it_pos g15 h
                  refine lv_iconst (v := -1) hx hb dX7_make_51 (by decide) ?_
                  exact hret _ _ _ _ _ _ _ _ _ _ _ _ _ _ _ _ _ _ _ _ dX7_make_52 w (Option.some.inj h)
                · replace h := it_neg g15 h
                  refine lv_iload hx hb dX7_make_45 (lv_at hl 5 rfl) ?_
                  refine lv_iconst (v := 2) hx hb dX7_make_47 (by decide) ?_
                  refine lv_icmp_le (tgt := 53) hx hb dX7_make_48 (by decide) (fun g16 => ?_) (fun g16 => ?_)
                  · replace h := it_pos g16 h
                    refine lv_aload_n hx hb dX7_make_53 rfl (lv_at hl 0 rfl) ?_
                    obtain ⟨u17, hc17, h⟩ := bd_some h
                    refine gl_callv C w (va_runV (As := []) (rest := []) ⟨hx, hb, hml, hown, hts⟩ (c_X7_clear l D kA ad H.size mo_state mo_rooms mo_smallDoors mo_goal mo_now mo_last mo_count mparent mlevel mkind mnum mx my mlying msw mloop mchosen met  hc17) (cwV 0 hts gX7_make_X7_clear rfl rfl rfl (by decide +kernel) ⟨Nat.le_of_ble_eq_true rfl, Nat.le_of_ble_eq_true rfl⟩) (Wd.preV C w (q0 := 0) (ci := 6) rfl rfl rfl) rfl rfl hl.1 rfl (lv_room (Nat.le_of_ble_eq_true rfl)) dX7_make_54 ⟨Nat.zero_le _, Nat.zero_le _⟩) (fun H locs w => ?_)
                    refine lv_aload_n hx hb dX7_make_57 rfl (lv_at hl 0 rfl) ?_
                    refine lv_lload_n hx hb dX7_make_58 rfl (lv_at hl 1 rfl) ?_
                    refine va_put (D := D) (ci := 6) (v := .long p0) (ty := .long) (C := RX7) (T := TX7) (N := 18) hx hb hts lX7_make_X7 tyX7 tyX7_ok nmX7 hown hK w.1 w.2.1 w.2.2 0 rfl rfl 0 (by decide) (hts _ mX7_make_1) (fun _ h9 => h9) rfl (by decide +kernel) rfl rfl (Nat.le_of_ble_eq_true rfl) dX7_make_59 (fun H locs hP hD hS => ?_)
                    have w : Wd D A s H locs (wM kA ad p0 mo_rooms u17.1 mo_goal u17.2.1 mo_last mo_count u17.2.2.1 u17.2.2.2.1 u17.2.2.2.2.1 mnum u17.2.2.2.2.2.1 u17.2.2.2.2.2.2.1 u17.2.2.2.2.2.2.2.1 u17.2.2.2.2.2.2.2.2.1 u17.2.2.2.2.2.2.2.2.2 mchosen met) := ⟨hP, hD, hS⟩
                    refine lv_aload_n hx hb dX7_make_62 rfl (lv_at hl 0 rfl) ?_
                    refine lv_iload_n hx hb dX7_make_63 rfl (lv_at hl 2 rfl) ?_
                    refine va_put (D := D) (ci := 6) (v := .int p1) (ty := .int) (C := RX7) (T := TX7) (N := 18) hx hb hts lX7_make_X7 tyX7 tyX7_ok nmX7 hown hK w.1 w.2.1 w.2.2 0 rfl rfl 1 (by decide) (hts _ mX7_make_2) (fun _ h9 => h9) rfl (by decide +kernel) rfl rfl (Nat.le_of_ble_eq_true rfl) dX7_make_64 (fun H locs hP hD hS => ?_)
                    have w : Wd D A s H locs (wM kA ad p0 p1 u17.1 mo_goal u17.2.1 mo_last mo_count u17.2.2.1 u17.2.2.2.1 u17.2.2.2.2.1 mnum u17.2.2.2.2.2.1 u17.2.2.2.2.2.2.1 u17.2.2.2.2.2.2.2.1 u17.2.2.2.2.2.2.2.2.1 u17.2.2.2.2.2.2.2.2.2 mchosen met) := ⟨hP, hD, hS⟩
                    refine lv_aload_n hx hb dX7_make_67 rfl (lv_at hl 0 rfl) ?_
                    refine lv_iload hx hb dX7_make_68 (lv_at hl 3 rfl) ?_
                    obtain ⟨u18, hc18, h⟩ := bd_some h
                    refine gl_callv C w (va_runV (As := [.int p2]) (rest := []) ⟨hx, hb, hml, hown, hts⟩ (c_X7_makeRooms l D kA ad H.size p0 p1 u17.1 mo_goal u17.2.1 mo_last mo_count u17.2.2.1 u17.2.2.2.1 u17.2.2.2.2.1 mnum u17.2.2.2.2.2.1 u17.2.2.2.2.2.2.1 u17.2.2.2.2.2.2.2.1 u17.2.2.2.2.2.2.2.2.1 u17.2.2.2.2.2.2.2.2.2 mchosen met p2 hc18) (cwV 1 hts gX7_make_X7_makeRooms rfl rfl rfl (by decide +kernel) ⟨Nat.le_of_ble_eq_true rfl, Nat.le_of_ble_eq_true rfl⟩) (Wd.preV C w (q0 := 0) (ci := 6) rfl rfl rfl) rfl rfl hl.1 rfl (lv_room (Nat.le_of_ble_eq_true rfl)) dX7_make_70 ⟨Nat.zero_le _, Nat.zero_le _⟩) (fun H locs w => ?_)
                    refine lv_aload_n hx hb dX7_make_73 rfl (lv_at hl 0 rfl) ?_
                    refine lv_iload hx hb dX7_make_74 (lv_at hl 3 rfl) ?_
                    refine lv_iload hx hb dX7_make_76 (lv_at hl 4 rfl) ?_
                    obtain ⟨u19, hc19, h⟩ := bd_some h
                    refine gl_callv C w (va_runV (As := [.int p2, .int p3]) (rest := []) ⟨hx, hb, hml, hown, hts⟩ (c_X7_makeKeys l D kA ad H.size u18.1 p1 u17.1 mo_goal u17.2.1 mo_last mo_count u18.2.1 u18.2.2.1 u18.2.2.2.1 mnum u17.2.2.2.2.2.1 u17.2.2.2.2.2.2.1 u17.2.2.2.2.2.2.2.1 u17.2.2.2.2.2.2.2.2.1 u17.2.2.2.2.2.2.2.2.2 u18.2.2.2.2 met p2 p3 hc19) (cwV 2 hts gX7_make_X7_makeKeys rfl rfl rfl (by decide +kernel) ⟨Nat.le_of_ble_eq_true rfl, Nat.le_of_ble_eq_true rfl⟩) (Wd.preV C w (q0 := 0) (ci := 6) rfl rfl rfl) rfl rfl hl.1 rfl (lv_room (Nat.le_of_ble_eq_true rfl)) dX7_make_78 ⟨Nat.zero_le _, Nat.zero_le _⟩) (fun H locs w => ?_)
                    refine lv_aload_n hx hb dX7_make_81 rfl (lv_at hl 0 rfl) ?_
                    refine lv_iload hx hb dX7_make_82 (lv_at hl 5 rfl) ?_
                    obtain ⟨u20, hc20, h⟩ := bd_some h
                    refine gl_callv C w (va_runV (As := [.int p4]) (rest := []) ⟨hx, hb, hml, hown, hts⟩ (c_X7_makeBarriers l D kA ad H.size u19.1 p1 u19.2.1 mo_goal u17.2.1 mo_last mo_count u18.2.1 u18.2.2.1 u19.2.2.1 u19.2.2.2.1 u17.2.2.2.2.2.1 u17.2.2.2.2.2.2.1 u19.2.2.2.2.1 u17.2.2.2.2.2.2.2.2.1 u17.2.2.2.2.2.2.2.2.2 u19.2.2.2.2.2 met p4 hc20) (cwV 1 hts gX7_make_X7_makeBarriers rfl rfl rfl (by decide +kernel) ⟨Nat.le_of_ble_eq_true rfl, Nat.le_of_ble_eq_true rfl⟩) (Wd.preV C w (q0 := 0) (ci := 6) rfl rfl rfl) rfl rfl hl.1 rfl (lv_room (Nat.le_of_ble_eq_true rfl)) dX7_make_84 ⟨Nat.zero_le _, Nat.zero_le _⟩) (fun H locs w => ?_)
                    refine lv_iconst (v := 0) hx hb dX7_make_87 (by decide) ?_
                    refine lv_istore (lv' := [(7, .int (0 : Int32)), (0, .ref (ad 0)), (1, .long p0), (3, .int p1), (4, .int p2), (5, .int p3), (6, .int p4)]) hx hb dX7_make_88 hl (by decide) rfl (fun ls hl => ?_)
                    exact t_X7_make_90 C  hret w (lv_sub hl [1, 3, 4, 0] rfl) h
                  · replace h := it_neg g16 h
                    refine lv_iconst (v := -1) hx hb dX7_make_51 (by decide) ?_
                    exact hret _ _ _ _ _ _ _ _ _ _ _ _ _ _ _ _ _ _ _ _ dX7_make_52 w (Option.some.inj h)
set_option maxHeartbeats 4000000 in
set_option maxRecDepth 100000 in
theorem c_X7_make (l : Launch) (D : va_G) (kA : Nat → ClassId) (ad : Nat → Nat) (sz : Nat) (mo_state : Int64) (mo_rooms : Int32) (mo_smallDoors : Int32) (mo_goal : Int32) (mo_now : Int32) (mo_last : Int32) (mo_count : Int32) (mparent : Nat → Int32) (mlevel : Nat → Int32) (mkind : Nat → Int32) (mnum : Nat → Int32) (mx : Nat → Int32) (my : Nat → Int32) (mlying : Nat → Int32) (msw : Nat → Int32) (mloop : Nat → Int32) (mchosen : Nat → Int32) (met : Nat → Int32) (p0 : Int64) (p1 : Int32) (p2 : Int32) (p3 : Int32) (p4 : Int32) {res : Int32 × Int64 × Int32 × Int32 × Int32 × Int32 × (Nat → Int32) × (Nat → Int32) × (Nat → Int32) × (Nat → Int32) × (Nat → Int32) × (Nat → Int32) × (Nat → Int32) × (Nat → Int32) × (Nat → Int32) × (Nat → Int32)} (h : f_X7_make p0 p1 p2 p3 p4 mo_state mo_rooms mo_smallDoors mo_goal mo_now mparent mlevel mkind mnum mx my mlying msw mloop mchosen = some res) : Ci l yX7_make wsX7_make rm_X7_make D kA [.ref (ad 0), .long p0, .int p1, .int p2, .int p3, .int p4] sz (wM kA ad mo_state mo_rooms mo_smallDoors mo_goal mo_now mo_last mo_count mparent mlevel mkind mnum mx my mlying msw mloop mchosen met) (wM kA ad res.2.1 res.2.2.1 res.2.2.2.1 res.2.2.2.2.1 res.2.2.2.2.2.1 mo_last mo_count res.2.2.2.2.2.2.1 res.2.2.2.2.2.2.2.1 res.2.2.2.2.2.2.2.2.1 res.2.2.2.2.2.2.2.2.2.1 res.2.2.2.2.2.2.2.2.2.2.1 res.2.2.2.2.2.2.2.2.2.2.2.1 res.2.2.2.2.2.2.2.2.2.2.2.2.1 res.2.2.2.2.2.2.2.2.2.2.2.2.2.1 res.2.2.2.2.2.2.2.2.2.2.2.2.2.2.1 res.2.2.2.2.2.2.2.2.2.2.2.2.2.2.2 met) res.1 := by
  refine Met.ofW (cc := cX7_make) (maxL := 8) (ret := (some .int)) (by decide) rfl ?_
  intro p e s m args below meth c s₁ B hml hv
  obtain ⟨rfl, hsz, hP, hK, hD0, hX⟩ := hv
  subst hsz
  have hts := atoms_spec (ws := wsX7_make) B.pre
  have hl := lv_entry ([.ref (ad 0), .long p0, .int p1, .int p2, .int p3, .int p4]) (n := 8) (Nat.le_of_ble_eq_true rfl)
  rw [lg_entry_eq]
  have hlocks := B.notSynchronized
  refine t_X7_make (A := va_A (wM kA ad mo_state mo_rooms mo_smallDoors mo_goal mo_now mo_last mo_count mparent mlevel mkind mnum mx my mlying msw mloop mchosen met) s.heap.size) ⟨⟨B.exec, B.bytes, hml, findClass_of_methodNamed B.named, hts⟩, hK, fun q h => Or.inr h, hX⟩ (fun r q0 q1 q2 q3 q4 q5 q6 q7 q8 q9 q10 q11 q12 q13 q14 H locs ls pc hd w hres => ?_) ⟨hP, hD0.self, va_S.rf⟩ hl h
  subst hres
  exact W.iret B.exec B.bytes B.returns (fun t ht hW => ⟨⟨_, (), rfl, rfl, by rw [ht]; exact w.1, va_K.moved hW.alike hK, w.2.1⟩, w.2.2.F ht⟩) w.2.2.2.2 hd hlocks
-- ('wM', 'LockQuestModel', 'meet', '(II)V', ('mo', None, None))
abbrev rm_X7_meet : Room := { frames := 0, cells := 0, slots := 0, locals := 0 }
set_option maxRecDepth 20000 in
theorem lX7_meet_X7 : ∀ w ∈ wsX70, w ∈ wsX7_meet := by decide +kernel
set_option maxRecDepth 20000 in
theorem mX7_meet_1 : Cond.fieldLink RX7 41 "LockQuestModel" "met" "[I" ∈ wsX7_meet := by decide +kernel
set_option maxRecDepth 20000 in
theorem mX7_meet_2 : Cond.fieldLink RX7 125 "LockQuestModel" "last" "I" ∈ wsX7_meet := by decide +kernel
set_option maxRecDepth 20000 in
theorem mX7_meet_3 : Cond.fieldLink RX7 128 "LockQuestModel" "count" "I" ∈ wsX7_meet := by decide +kernel
def f_X7_meet_55  (x1 : Int32) (mo_last : Int32) (mo_count : Int32) (met : Nat → Int32) : Option (Int32 × Int32 × (Nat → Int32)) := some (x1, (mo_count + (1 : Int32)), met)
set_option maxHeartbeats 4000000 in
set_option maxRecDepth 100000 in
theorem t_X7_meet_55 {p : Program} {l : Launch} {e : Env} {s : State} {m : MethodId} {args : Array Value} {below : List Frame} {meth : Method} {c : Code} {Q : State → Prop} {D : va_G} {kA : Nat → ClassId} {ad : Nat → Nat} {A : Nat → Prop} {mo_state : Int64} {mo_rooms : Int32} {mo_smallDoors : Int32} {mo_goal : Int32} {mo_now : Int32} {mo_last : Int32} {mo_count : Int32} {mparent : Nat → Int32} {mlevel : Nat → Int32} {mkind : Nat → Int32} {mnum : Nat → Int32} {mx : Nat → Int32} {my : Nat → Int32} {mlying : Nat → Int32} {msw : Nat → Int32} {mloop : Nat → Int32} {mchosen : Nat → Int32} {met : Nat → Int32} {x1 : Int32} {res : Int32 × Int32 × (Nat → Int32)} (C : Cx p s m c args cX7_meet 3 RX7 wsX7_meet D kA A) (hret : ∀ (q0 : Int32) (q1 : Int32) (q2 : Nat → Int32) (H : Heap) (locs : List Loc) (ls : Array Slot) (pc : Nat), decode cX7_meet pc = .ok (.return_, 1) → Wd D A s H locs (wM kA ad mo_state mo_rooms mo_smallDoors mo_goal mo_now q0 q1 mparent mlevel mkind mnum mx my mlying msw mloop mchosen q2) → (q0, q1, q2) = res → W p l e rm_X7_meet s m args below meth c H locs 0 0 Q (F0 m pc ls [])) {H : Heap} {locs : List Loc} {ls : Array Slot} (w : Wd D A s H locs (wM kA ad mo_state mo_rooms mo_smallDoors mo_goal mo_now mo_last mo_count mparent mlevel mkind mnum mx my mlying msw mloop mchosen met)) (hl : lv_has ls 3 [(0, .ref (ad 0)), (1, .int x1)]) (h : f_X7_meet_55  x1 mo_last mo_count met = some res) : W p l e rm_X7_meet s m args below meth c H locs 0 0 Q (F0 m 55 ls []) := by
  obtain ⟨⟨hx, hb, hml, hown, hts⟩, hK, -, -⟩ := id C
  unfold f_X7_meet_55 at h
  refine lv_aload_n hx hb dX7_meet_55 rfl (lv_at hl 0 rfl) ?_
  refine lv_iload_n hx hb dX7_meet_56 rfl (lv_at hl 1 rfl) ?_
  refine va_put (D := D) (ci := 6) (v := .int x1) (ty := .int) (C := RX7) (T := TX7) (N := 18) hx hb hts lX7_meet_X7 tyX7 tyX7_ok nmX7 hown hK w.1 w.2.1 w.2.2 0 rfl rfl 16 (by decide) (hts _ mX7_meet_2) (fun _ h9 => h9) rfl (by decide +kernel) rfl rfl (Nat.le_of_ble_eq_true rfl) dX7_meet_57 (fun H locs hP hD hS => ?_)
  have w : Wd D A s H locs (wM kA ad mo_state mo_rooms mo_smallDoors mo_goal mo_now x1 mo_count mparent mlevel mkind mnum mx my mlying msw mloop mchosen met) := ⟨hP, hD, hS⟩
  refine lv_aload_n hx hb dX7_meet_60 rfl (lv_at hl 0 rfl) ?_
  refine lv_dup hx hb dX7_meet_61 rfl ?_
  refine va_get (D := D) (ci := 6) (v := .int mo_count) (C := RX7) (T := TX7) (N := 18) hx hb hts lX7_meet_X7 hown hK w.1 0 rfl rfl 17 (by decide) (hts _ mX7_meet_3) (fun _ h9 => h9) rfl dX7_meet_62 ?_
  refine lv_iconst (v := 1) hx hb dX7_meet_65 (by decide) ?_
  refine lv_iadd hx hb dX7_meet_66 ?_
  refine va_put (D := D) (ci := 6) (v := .int (mo_count + (1 : Int32))) (ty := .int) (C := RX7) (T := TX7) (N := 18) hx hb hts lX7_meet_X7 tyX7 tyX7_ok nmX7 hown hK w.1 w.2.1 w.2.2 0 rfl rfl 17 (by decide) (hts _ mX7_meet_3) (fun _ h9 => h9) rfl (by decide +kernel) rfl rfl (Nat.le_of_ble_eq_true rfl) dX7_meet_67 (fun H locs hP hD hS => ?_)
  have w : Wd D A s H locs (wM kA ad mo_state mo_rooms mo_smallDoors mo_goal mo_now x1 (mo_count + (1 : Int32)) mparent mlevel mkind mnum mx my mlying msw mloop mchosen met) := ⟨hP, hD, hS⟩
  exact hret _ _ _ _ _ _ _ dX7_meet_70 w (Option.some.inj h)
def f_X7_meet (p0 : Int32) (p1 : Int32) (mo_last : Int32) (mo_count : Int32) (met : Nat → Int32) : Option (Int32 × Int32 × (Nat → Int32)) := if p0 < 0 then (some (mo_last, mo_count, met)) else (gd (p0 < 0 ∨ 12288 ≤ p0.toNatClampNeg) (if (met p0.toNatClampNeg) = 0 then (gd (p0 < 0 ∨ 12288 ≤ p0.toNatClampNeg) (if mo_last < 0 then (f_X7_meet_55 p0 mo_last mo_count (upd met p0.toNatClampNeg (p1 + (1 : Int32)))) else (gd (mo_last < 0 ∨ 12288 ≤ mo_last.toNatClampNeg) (gd (mo_last < 0 ∨ 12288 ≤ mo_last.toNatClampNeg) (f_X7_meet_55 p0 mo_last mo_count (upd (upd met p0.toNatClampNeg (p1 + (1 : Int32))) mo_last.toNatClampNeg (((upd met p0.toNatClampNeg (p1 + (1 : Int32))) mo_last.toNatClampNeg) + ((16384 : Int32) * (p0 + (1 : Int32)))))))))) else (some (mo_last, mo_count, met))))
set_option maxHeartbeats 4000000 in
set_option maxRecDepth 100000 in
theorem t_X7_meet {p : Program} {l : Launch} {e : Env} {s : State} {m : MethodId} {args : Array Value} {below : List Frame} {meth : Method} {c : Code} {Q : State → Prop} {D : va_G} {kA : Nat → ClassId} {ad : Nat → Nat} {A : Nat → Prop} {mo_state : Int64} {mo_rooms : Int32} {mo_smallDoors : Int32} {mo_goal : Int32} {mo_now : Int32} {mo_last : Int32} {mo_count : Int32} {mparent : Nat → Int32} {mlevel : Nat → Int32} {mkind : Nat → Int32} {mnum : Nat → Int32} {mx : Nat → Int32} {my : Nat → Int32} {mlying : Nat → Int32} {msw : Nat → Int32} {mloop : Nat → Int32} {mchosen : Nat → Int32} {met : Nat → Int32} {p0 : Int32} {p1 : Int32} {res : Int32 × Int32 × (Nat → Int32)} (C : Cx p s m c args cX7_meet 3 RX7 wsX7_meet D kA A) (hret : ∀ (q0 : Int32) (q1 : Int32) (q2 : Nat → Int32) (H : Heap) (locs : List Loc) (ls : Array Slot) (pc : Nat), decode cX7_meet pc = .ok (.return_, 1) → Wd D A s H locs (wM kA ad mo_state mo_rooms mo_smallDoors mo_goal mo_now q0 q1 mparent mlevel mkind mnum mx my mlying msw mloop mchosen q2) → (q0, q1, q2) = res → W p l e rm_X7_meet s m args below meth c H locs 0 0 Q (F0 m pc ls [])) {H : Heap} {locs : List Loc} {ls : Array Slot} (w : Wd D A s H locs (wM kA ad mo_state mo_rooms mo_smallDoors mo_goal mo_now mo_last mo_count mparent mlevel mkind mnum mx my mlying msw mloop mchosen met)) (hl : lv_has ls 3 [(0, .ref (ad 0)), (1, .int p0), (2, .int p1)]) (h : f_X7_meet p0 p1 mo_last mo_count met = some res) : W p l e rm_X7_meet s m args below meth c H locs 0 0 Q (F0 m 0 ls []) := by
  obtain ⟨⟨hx, hb, hml, hown, hts⟩, hK, -, -⟩ := id C
  unfold f_X7_meet at h
  refine lv_iload_n hx hb dX7_meet_0 rfl (lv_at hl 1 rfl) ?_
  refine lv_if_lt (tgt := 70) hx hb dX7_meet_1 (by decide) (fun g1 => ?_) (fun g1 => ?_)
  · replace h := it_pos g1 h
    exact hret _ _ _ _ _ _ _ dX7_meet_70 w (Option.some.inj h)
  · replace h := it_neg g1 h
    refine lv_aload_n hx hb dX7_meet_4 rfl (lv_at hl 0 rfl) ?_
    refine va_get (D := D) (ci := 6) (v := .ref (ad 11)) (C := RX7) (T := TX7) (N := 18) hx hb hts lX7_meet_X7 hown hK w.1 0 rfl rfl 15 (by decide) (hts _ mX7_meet_1) (fun _ h9 => h9) rfl dX7_meet_5 ?_
    refine lv_iload_n hx hb dX7_meet_8 rfl (lv_at hl 1 rfl) ?_
    obtain ⟨g2, h⟩ := gd_some h
    refine va_iald hx hb hK w.1 11 0 rfl rfl g2 dX7_meet_9 ?_
    refine lv_if_ne (tgt := 70) hx hb dX7_meet_10 (by decide) (fun g3 => ?_) (fun g3 => ?_)
    · replace h := it_neg g3 h
      exact hret _ _ _ _ _ _ _ dX7_meet_70 w (Option.some.inj h)
    · replace h := it_pos g3 h
      refine lv_aload_n hx hb dX7_meet_13 rfl (lv_at hl 0 rfl) ?_
      refine va_get (D := D) (ci := 6) (v := .ref (ad 11)) (C := RX7) (T := TX7) (N := 18) hx hb hts lX7_meet_X7 hown hK w.1 0 rfl rfl 15 (by decide) (hts _ mX7_meet_1) (fun _ h9 => h9) rfl dX7_meet_14 ?_
      refine lv_iload_n hx hb dX7_meet_17 rfl (lv_at hl 1 rfl) ?_
      refine lv_iload_n hx hb dX7_meet_18 rfl (lv_at hl 2 rfl) ?_
      refine lv_iconst (v := 1) hx hb dX7_meet_19 (by decide) ?_
      refine lv_iadd hx hb dX7_meet_20 ?_
      obtain ⟨g4, h⟩ := gd_some h
      refine va_iast hx hb hK w.1 w.2.1 w.2.2 11 0 rfl rfl g4 dX7_meet_21 (fun H locs hP hD hS => ?_)
      have w : Wd D A s H locs (wM kA ad mo_state mo_rooms mo_smallDoors mo_goal mo_now mo_last mo_count mparent mlevel mkind mnum mx my mlying msw mloop mchosen (upd met p0.toNatClampNeg (p1 + (1 : Int32)))) := ⟨hP, hD, hS⟩
      refine lv_aload_n hx hb dX7_meet_22 rfl (lv_at hl 0 rfl) ?_
      refine va_get (D := D) (ci := 6) (v := .int mo_last) (C := RX7) (T := TX7) (N := 18) hx hb hts lX7_meet_X7 hown hK w.1 0 rfl rfl 16 (by decide) (hts _ mX7_meet_2) (fun _ h9 => h9) rfl dX7_meet_23 ?_
      refine lv_if_lt (tgt := 55) hx hb dX7_meet_26 (by decide) (fun g5 => ?_) (fun g5 => ?_)
      · replace h := it_pos g5 h
        exact t_X7_meet_55 C  hret w (lv_sub hl [0, 1] rfl) h
      · replace h := it_neg g5 h
        refine lv_aload_n hx hb dX7_meet_29 rfl (lv_at hl 0 rfl) ?_
        refine va_get (D := D) (ci := 6) (v := .ref (ad 11)) (C := RX7) (T := TX7) (N := 18) hx hb hts lX7_meet_X7 hown hK w.1 0 rfl rfl 15 (by decide) (hts _ mX7_meet_1) (fun _ h9 => h9) rfl dX7_meet_30 ?_
        refine lv_aload_n hx hb dX7_meet_33 rfl (lv_at hl 0 rfl) ?_
        refine va_get (D := D) (ci := 6) (v := .int mo_last) (C := RX7) (T := TX7) (N := 18) hx hb hts lX7_meet_X7 hown hK w.1 0 rfl rfl 16 (by decide) (hts _ mX7_meet_2) (fun _ h9 => h9) rfl dX7_meet_34 ?_
        refine lv_aload_n hx hb dX7_meet_37 rfl (lv_at hl 0 rfl) ?_
        refine va_get (D := D) (ci := 6) (v := .ref (ad 11)) (C := RX7) (T := TX7) (N := 18) hx hb hts lX7_meet_X7 hown hK w.1 0 rfl rfl 15 (by decide) (hts _ mX7_meet_1) (fun _ h9 => h9) rfl dX7_meet_38 ?_
        refine lv_aload_n hx hb dX7_meet_41 rfl (lv_at hl 0 rfl) ?_
        refine va_get (D := D) (ci := 6) (v := .int mo_last) (C := RX7) (T := TX7) (N := 18) hx hb hts lX7_meet_X7 hown hK w.1 0 rfl rfl 16 (by decide) (hts _ mX7_meet_2) (fun _ h9 => h9) rfl dX7_meet_42 ?_
        obtain ⟨g6, h⟩ := gd_some h
        refine va_iald hx hb hK w.1 11 0 rfl rfl g6 dX7_meet_45 ?_
        refine lv_sipush (v := 16384) hx hb dX7_meet_46 (by decide) ?_
        refine lv_iload_n hx hb dX7_meet_49 rfl (lv_at hl 1 rfl) ?_
        refine lv_iconst (v := 1) hx hb dX7_meet_50 (by decide) ?_
        refine lv_iadd hx hb dX7_meet_51 ?_
        refine lv_imul hx hb dX7_meet_52 ?_
        refine lv_iadd hx hb dX7_meet_53 ?_
        obtain ⟨g7, h⟩ := gd_some h
        refine va_iast hx hb hK w.1 w.2.1 w.2.2 11 0 rfl rfl g7 dX7_meet_54 (fun H locs hP hD hS => ?_)
        have w : Wd D A s H locs (wM kA ad mo_state mo_rooms mo_smallDoors mo_goal mo_now mo_last mo_count mparent mlevel mkind mnum mx my mlying msw mloop mchosen (upd (upd met p0.toNatClampNeg (p1 + (1 : Int32))) mo_last.toNatClampNeg (((upd met p0.toNatClampNeg (p1 + (1 : Int32))) mo_last.toNatClampNeg) + ((16384 : Int32) * (p0 + (1 : Int32)))))) := ⟨hP, hD, hS⟩
        exact t_X7_meet_55 C  hret w (lv_sub hl [0, 1] rfl) h
set_option maxHeartbeats 4000000 in
set_option maxRecDepth 100000 in
theorem c_X7_meet (l : Launch) (D : va_G) (kA : Nat → ClassId) (ad : Nat → Nat) (sz : Nat) (mo_state : Int64) (mo_rooms : Int32) (mo_smallDoors : Int32) (mo_goal : Int32) (mo_now : Int32) (mo_last : Int32) (mo_count : Int32) (mparent : Nat → Int32) (mlevel : Nat → Int32) (mkind : Nat → Int32) (mnum : Nat → Int32) (mx : Nat → Int32) (my : Nat → Int32) (mlying : Nat → Int32) (msw : Nat → Int32) (mloop : Nat → Int32) (mchosen : Nat → Int32) (met : Nat → Int32) (p0 : Int32) (p1 : Int32) {res : Int32 × Int32 × (Nat → Int32)} (h : f_X7_meet p0 p1 mo_last mo_count met = some res) : Cv l yX7_meet wsX7_meet rm_X7_meet D kA [.ref (ad 0), .int p0, .int p1] sz (wM kA ad mo_state mo_rooms mo_smallDoors mo_goal mo_now mo_last mo_count mparent mlevel mkind mnum mx my mlying msw mloop mchosen met) (wM kA ad mo_state mo_rooms mo_smallDoors mo_goal mo_now res.1 res.2.1 mparent mlevel mkind mnum mx my mlying msw mloop mchosen res.2.2) := by
  refine Met.ofW (cc := cX7_meet) (maxL := 3) (ret := none) (by decide) rfl ?_
  intro p e s m args below meth c s₁ B hml hv
  obtain ⟨rfl, hsz, hP, hK, hD0, hX⟩ := hv
  subst hsz
  have hts := atoms_spec (ws := wsX7_meet) B.pre
  have hl := lv_entry ([.ref (ad 0), .int p0, .int p1]) (n := 3) (Nat.le_of_ble_eq_true rfl)
  rw [lg_entry_eq]
  have hlocks := B.notSynchronized
  refine t_X7_meet (A := va_A (wM kA ad mo_state mo_rooms mo_smallDoors mo_goal mo_now mo_last mo_count mparent mlevel mkind mnum mx my mlying msw mloop mchosen met) s.heap.size) ⟨⟨B.exec, B.bytes, hml, findClass_of_methodNamed B.named, hts⟩, hK, fun q h => Or.inr h, hX⟩ (fun q0 q1 q2 H locs ls pc hd w hres => ?_) ⟨hP, hD0.self, va_S.rf⟩ hl h
  subst hres
  exact W.vret B.exec B.bytes B.returns (fun t ht hW => ⟨⟨(), rfl, trivial, by rw [ht]; exact w.1, va_K.moved hW.alike hK, w.2.1⟩, w.2.2.F ht⟩) w.2.2.2.2 hd hlocks
