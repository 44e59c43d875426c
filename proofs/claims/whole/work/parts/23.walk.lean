-- ('wM', 'LockQuestModel', 'doors', '(I)I', ('mo', None))
abbrev rm_X7_doors : Room := { frames := 0, cells := 0, slots := 0, locals := 0 }
set_option maxRecDepth 20000 in
theorem lX7_doors_X7 : ∀ w ∈ wsX70, w ∈ wsX7_doors := by decide +kernel
set_option maxRecDepth 20000 in
theorem mX7_doors_1 : Cond.fieldLink RX7 56 "LockQuestModel" "rooms" "I" ∈ wsX7_doors := by decide +kernel
set_option maxRecDepth 20000 in
theorem mX7_doors_2 : Cond.fieldLink RX7 7 "LockQuestModel" "parent" "[I" ∈ wsX7_doors := by decide +kernel
set_option maxRecDepth 20000 in
theorem mX7_doors_3 : Cond.fieldLink RX7 35 "LockQuestModel" "loop" "[Z" ∈ wsX7_doors := by decide +kernel
def f_X7_doors_59 (mo_rooms : Int32) (mparent : Nat → Int32) (mloop : Nat → Int32) (k12 : Int32 → Int32 → Int32 → Option (Int32)) (x1 : Int32) (x3 : Int32) (s0 : Int32) : Option (Int32) := k12 x1 s0 (x3 + (1 : Int32))
set_option maxHeartbeats 4000000 in
set_option maxRecDepth 100000 in
theorem t_X7_doors_59 {p : Program} {l : Launch} {e : Env} {s : State} {m : MethodId} {args : Array Value} {below : List Frame} {meth : Method} {c : Code} {Q : State → Prop} {D : va_G} {kA : Nat → ClassId} {ad : Nat → Nat} {A : Nat → Prop} {mo_state : Int64} {mo_rooms : Int32} {mo_smallDoors : Int32} {mo_goal : Int32} {mo_now : Int32} {mo_last : Int32} {mo_count : Int32} {mparent : Nat → Int32} {mlevel : Nat → Int32} {mkind : Nat → Int32} {mnum : Nat → Int32} {mx : Nat → Int32} {my : Nat → Int32} {mlying : Nat → Int32} {msw : Nat → Int32} {mloop : Nat → Int32} {mchosen : Nat → Int32} {met : Nat → Int32} {x1 : Int32} {x3 : Int32} {s0 : Int32} {k12 : Int32 → Int32 → Int32 → Option (Int32)} {res : Int32} (C : Cx p s m c args cX7_doors 4 RX7 wsX7_doors D kA A) (hk12 : ∀ (x1 : Int32) (x2 : Int32) (x3 : Int32) (H : Heap) (locs : List Loc) (ls : Array Slot), Wd D A s H locs (wM kA ad mo_state mo_rooms mo_smallDoors mo_goal mo_now mo_last mo_count mparent mlevel mkind mnum mx my mlying msw mloop mchosen met) → lv_has ls 4 [(0, .ref (ad 0)), (1, .int x1), (2, .int x2), (3, .int x3)] → k12 x1 x2 x3 = some res → W p l e rm_X7_doors s m args below meth c H locs 0 0 Q (F0 m 12 ls [])) (hret : ∀ (r : Int32) (H : Heap) (locs : List Loc) (ls : Array Slot) (pc : Nat), decode cX7_doors pc = .ok (.ireturn, 1) → Wd D A s H locs (wM kA ad mo_state mo_rooms mo_smallDoors mo_goal mo_now mo_last mo_count mparent mlevel mkind mnum mx my mlying msw mloop mchosen met) → r = res → W p l e rm_X7_doors s m args below meth c H locs 0 0 Q (F0 m pc ls [.int r])) {H : Heap} {locs : List Loc} {ls : Array Slot} (w : Wd D A s H locs (wM kA ad mo_state mo_rooms mo_smallDoors mo_goal mo_now mo_last mo_count mparent mlevel mkind mnum mx my mlying msw mloop mchosen met)) (hl : lv_has ls 4 [(0, .ref (ad 0)), (1, .int x1), (3, .int x3)]) (h : f_X7_doors_59 mo_rooms mparent mloop k12 x1 x3 s0 = some res) : W p l e rm_X7_doors s m args below meth c H locs 0 0 Q (F0 m 59 ls [.int s0]) := by
  obtain ⟨⟨hx, hb, hml, hown, hts⟩, hK, -, -⟩ := id C
  unfold f_X7_doors_59 at h
  refine lv_istore_n (lv' := [(2, .int s0), (0, .ref (ad 0)), (1, .int x1), (3, .int x3)]) hx hb dX7_doors_59 rfl hl (by decide) rfl (fun ls hl => ?_)
  refine lv_iinc (v := (x3 + (1 : Int32))) (lv' := [(3, .int (x3 + (1 : Int32))), (2, .int s0), (0, .ref (ad 0)), (1, .int x1)]) hx hb dX7_doors_60 hl (k := 3) rfl rfl (by decide) rfl (fun ls hl => ?_)
  refine lv_goto (tgt := 12) hx hb dX7_doors_63 (by decide) ?_
  exact hk12 _ _ _ H locs ls w (lv_sub hl [2, 3, 1, 0] rfl) h
def f_X7_doors_37 (mo_rooms : Int32) (mparent : Nat → Int32) (mloop : Nat → Int32) (k12 : Int32 → Int32 → Int32 → Option (Int32)) (x1 : Int32) (x3 : Int32) (s0 : Int32) : Option (Int32) := gd ((((12 : Int32) * x1) + x3) < 0 ∨ 144 ≤ (((12 : Int32) * x1) + x3).toNatClampNeg) (if (mloop (((12 : Int32) * x1) + x3).toNatClampNeg) = 0 then (f_X7_doors_59 mo_rooms mparent mloop k12 x1 x3 s0) else (f_X7_doors_59 mo_rooms mparent mloop k12 x1 x3 (s0 + (1 : Int32))))
set_option maxHeartbeats 4000000 in
set_option maxRecDepth 100000 in
theorem t_X7_doors_37 {p : Program} {l : Launch} {e : Env} {s : State} {m : MethodId} {args : Array Value} {below : List Frame} {meth : Method} {c : Code} {Q : State → Prop} {D : va_G} {kA : Nat → ClassId} {ad : Nat → Nat} {A : Nat → Prop} {mo_state : Int64} {mo_rooms : Int32} {mo_smallDoors : Int32} {mo_goal : Int32} {mo_now : Int32} {mo_last : Int32} {mo_count : Int32} {mparent : Nat → Int32} {mlevel : Nat → Int32} {mkind : Nat → Int32} {mnum : Nat → Int32} {mx : Nat → Int32} {my : Nat → Int32} {mlying : Nat → Int32} {msw : Nat → Int32} {mloop : Nat → Int32} {mchosen : Nat → Int32} {met : Nat → Int32} {x1 : Int32} {x3 : Int32} {s0 : Int32} {k12 : Int32 → Int32 → Int32 → Option (Int32)} {res : Int32} (C : Cx p s m c args cX7_doors 4 RX7 wsX7_doors D kA A) (hk12 : ∀ (x1 : Int32) (x2 : Int32) (x3 : Int32) (H : Heap) (locs : List Loc) (ls : Array Slot), Wd D A s H locs (wM kA ad mo_state mo_rooms mo_smallDoors mo_goal mo_now mo_last mo_count mparent mlevel mkind mnum mx my mlying msw mloop mchosen met) → lv_has ls 4 [(0, .ref (ad 0)), (1, .int x1), (2, .int x2), (3, .int x3)] → k12 x1 x2 x3 = some res → W p l e rm_X7_doors s m args below meth c H locs 0 0 Q (F0 m 12 ls [])) (hret : ∀ (r : Int32) (H : Heap) (locs : List Loc) (ls : Array Slot) (pc : Nat), decode cX7_doors pc = .ok (.ireturn, 1) → Wd D A s H locs (wM kA ad mo_state mo_rooms mo_smallDoors mo_goal mo_now mo_last mo_count mparent mlevel mkind mnum mx my mlying msw mloop mchosen met) → r = res → W p l e rm_X7_doors s m args below meth c H locs 0 0 Q (F0 m pc ls [.int r])) {H : Heap} {locs : List Loc} {ls : Array Slot} (w : Wd D A s H locs (wM kA ad mo_state mo_rooms mo_smallDoors mo_goal mo_now mo_last mo_count mparent mlevel mkind mnum mx my mlying msw mloop mchosen met)) (hl : lv_has ls 4 [(0, .ref (ad 0)), (1, .int x1), (3, .int x3)]) (h : f_X7_doors_37 mo_rooms mparent mloop k12 x1 x3 s0 = some res) : W p l e rm_X7_doors s m args below meth c H locs 0 0 Q (F0 m 37 ls [.int s0]) := by
  obtain ⟨⟨hx, hb, hml, hown, hts⟩, hK, -, -⟩ := id C
  unfold f_X7_doors_37 at h
  refine lv_istore_n (lv' := [(2, .int s0), (0, .ref (ad 0)), (1, .int x1), (3, .int x3)]) hx hb dX7_doors_37 rfl hl (by decide) rfl (fun ls hl => ?_)
  refine lv_aload_n hx hb dX7_doors_38 rfl (lv_at hl 1 rfl) ?_
  refine va_get (D := D) (ci := 6) (v := .ref (ad 9)) (C := RX7) (T := TX7) (N := 18) hx hb hts lX7_doors_X7 hown hK w.1 0 rfl rfl 12 (by decide) (hts _ mX7_doors_3) (fun _ h9 => h9) rfl dX7_doors_39 ?_
  refine lv_bipush (v := 12) hx hb dX7_doors_42 (by decide) ?_
  refine lv_iload_n hx hb dX7_doors_44 rfl (lv_at hl 2 rfl) ?_
  refine lv_imul hx hb dX7_doors_45 ?_
  refine lv_iload_n hx hb dX7_doors_46 rfl (lv_at hl 3 rfl) ?_
  refine lv_iadd hx hb dX7_doors_47 ?_
  obtain ⟨g1, h⟩ := gd_some h
  refine va_zald hx hb hK w.1 9 2 rfl rfl g1 dX7_doors_48 ?_
  refine lv_if_eq (tgt := 58) hx hb dX7_doors_49 (by decide) (fun g2 => ?_) (fun g2 => ?_)
  · replace h := it_pos g2 h
    refine lv_iload_n hx hb dX7_doors_58 rfl (lv_at hl 0 rfl) ?_
    exact t_X7_doors_59 C hk12 hret w (lv_sub hl [1, 2, 3] rfl) h
  · replace h := it_neg g2 h
    refine lv_iload_n hx hb dX7_doors_52 rfl (lv_at hl 0 rfl) ?_
    refine lv_iconst (v := 1) hx hb dX7_doors_53 (by decide) ?_
    refine lv_iadd hx hb dX7_doors_54 ?_
    refine lv_goto (tgt := 59) hx hb dX7_doors_55 (by decide) ?_
    exact t_X7_doors_59 C hk12 hret w (lv_sub hl [1, 2, 3] rfl) h
def fb_X7_doors_12 (mo_rooms : Int32) (mparent : Nat → Int32) (mloop : Nat → Int32) (k12 : Int32 → Int32 → Int32 → Option (Int32)) (x1 : Int32) (x2 : Int32) (x3 : Int32) : Option (Int32) := if mo_rooms ≤ x3 then (some x2) else (gd (x3 < 0 ∨ 12 ≤ x3.toNatClampNeg) (if (mparent x3.toNatClampNeg) = x1 then (f_X7_doors_37 mo_rooms mparent mloop k12 x1 x3 (x2 + (1 : Int32))) else (f_X7_doors_37 mo_rooms mparent mloop k12 x1 x3 x2)))
set_option maxHeartbeats 4000000 in
set_option maxRecDepth 100000 in
theorem tb_X7_doors_12 {p : Program} {l : Launch} {e : Env} {s : State} {m : MethodId} {args : Array Value} {below : List Frame} {meth : Method} {c : Code} {Q : State → Prop} {D : va_G} {kA : Nat → ClassId} {ad : Nat → Nat} {A : Nat → Prop} {mo_state : Int64} {mo_rooms : Int32} {mo_smallDoors : Int32} {mo_goal : Int32} {mo_now : Int32} {mo_last : Int32} {mo_count : Int32} {mparent : Nat → Int32} {mlevel : Nat → Int32} {mkind : Nat → Int32} {mnum : Nat → Int32} {mx : Nat → Int32} {my : Nat → Int32} {mlying : Nat → Int32} {msw : Nat → Int32} {mloop : Nat → Int32} {mchosen : Nat → Int32} {met : Nat → Int32} {x1 : Int32} {x2 : Int32} {x3 : Int32} {k12 : Int32 → Int32 → Int32 → Option (Int32)} {res : Int32} (C : Cx p s m c args cX7_doors 4 RX7 wsX7_doors D kA A) (hk12 : ∀ (x1 : Int32) (x2 : Int32) (x3 : Int32) (H : Heap) (locs : List Loc) (ls : Array Slot), Wd D A s H locs (wM kA ad mo_state mo_rooms mo_smallDoors mo_goal mo_now mo_last mo_count mparent mlevel mkind mnum mx my mlying msw mloop mchosen met) → lv_has ls 4 [(0, .ref (ad 0)), (1, .int x1), (2, .int x2), (3, .int x3)] → k12 x1 x2 x3 = some res → W p l e rm_X7_doors s m args below meth c H locs 0 0 Q (F0 m 12 ls [])) (hret : ∀ (r : Int32) (H : Heap) (locs : List Loc) (ls : Array Slot) (pc : Nat), decode cX7_doors pc = .ok (.ireturn, 1) → Wd D A s H locs (wM kA ad mo_state mo_rooms mo_smallDoors mo_goal mo_now mo_last mo_count mparent mlevel mkind mnum mx my mlying msw mloop mchosen met) → r = res → W p l e rm_X7_doors s m args below meth c H locs 0 0 Q (F0 m pc ls [.int r])) {H : Heap} {locs : List Loc} {ls : Array Slot} (w : Wd D A s H locs (wM kA ad mo_state mo_rooms mo_smallDoors mo_goal mo_now mo_last mo_count mparent mlevel mkind mnum mx my mlying msw mloop mchosen met)) (hl : lv_has ls 4 [(0, .ref (ad 0)), (1, .int x1), (2, .int x2), (3, .int x3)]) (h : fb_X7_doors_12 mo_rooms mparent mloop k12 x1 x2 x3 = some res) : W p l e rm_X7_doors s m args below meth c H locs 0 0 Q (F0 m 12 ls []) := by
  obtain ⟨⟨hx, hb, hml, hown, hts⟩, hK, -, -⟩ := id C
  unfold fb_X7_doors_12 at h
  refine lv_iload_n hx hb dX7_doors_12 rfl (lv_at hl 3 rfl) ?_
  refine lv_aload_n hx hb dX7_doors_13 rfl (lv_at hl 0 rfl) ?_
  refine va_get (D := D) (ci := 6) (v := .int mo_rooms) (C := RX7) (T := TX7) (N := 18) hx hb hts lX7_doors_X7 hown hK w.1 0 rfl rfl 1 (by decide) (hts _ mX7_doors_1) (fun _ h9 => h9) rfl dX7_doors_14 ?_
  refine lv_icmp_ge (tgt := 66) hx hb dX7_doors_17 (by decide) (fun g3 => ?_) (fun g3 => ?_)
  · replace h := it_pos g3 h
    refine lv_iload_n hx hb dX7_doors_66 rfl (lv_at hl 2 rfl) ?_
    exact hret _ _ _ _ _ dX7_doors_67 w (Option.some.inj h)
  · replace h := it_neg g3 h
    refine lv_aload_n hx hb dX7_doors_20 rfl (lv_at hl 0 rfl) ?_
    refine va_get (D := D) (ci := 6) (v := .ref (ad 1)) (C := RX7) (T := TX7) (N := 18) hx hb hts lX7_doors_X7 hown hK w.1 0 rfl rfl 4 (by decide) (hts _ mX7_doors_2) (fun _ h9 => h9) rfl dX7_doors_21 ?_
    refine lv_iload_n hx hb dX7_doors_24 rfl (lv_at hl 3 rfl) ?_
    obtain ⟨g4, h⟩ := gd_some h
    refine va_iald hx hb hK w.1 1 0 rfl rfl g4 dX7_doors_25 ?_
    refine lv_iload_n hx hb dX7_doors_26 rfl (lv_at hl 1 rfl) ?_
    refine lv_icmp_ne (tgt := 36) hx hb dX7_doors_27 (by decide) (fun g5 => ?_) (fun g5 => ?_)
    · replace h := it_neg g5 h
      refine lv_iload_n hx hb dX7_doors_36 rfl (lv_at hl 2 rfl) ?_
      exact t_X7_doors_37 C hk12 hret w (lv_sub hl [0, 1, 3] rfl) h
    · replace h := it_pos g5 h
      refine lv_iload_n hx hb dX7_doors_30 rfl (lv_at hl 2 rfl) ?_
      refine lv_iconst (v := 1) hx hb dX7_doors_31 (by decide) ?_
      refine lv_iadd hx hb dX7_doors_32 ?_
      refine lv_goto (tgt := 37) hx hb dX7_doors_33 (by decide) ?_
      exact t_X7_doors_37 C hk12 hret w (lv_sub hl [0, 1, 3] rfl) h
def f_X7_doors_12 (mo_rooms : Int32) (mparent : Nat → Int32) (mloop : Nat → Int32) (x1 : Int32) (x2 : Int32) (x3 : Int32) : Option (Int32) := lp (σ := Int32 × Int32 × Int32) (fun k st => fb_X7_doors_12 mo_rooms mparent mloop (fun x1 x2 x3 => k (x1, x2, x3)) st.1 st.2.1 st.2.2) fuel (x1, x2, x3)
set_option maxHeartbeats 4000000 in
set_option maxRecDepth 100000 in
theorem t_X7_doors_12 {p : Program} {l : Launch} {e : Env} {s : State} {m : MethodId} {args : Array Value} {below : List Frame} {meth : Method} {c : Code} {Q : State → Prop} {D : va_G} {kA : Nat → ClassId} {ad : Nat → Nat} {A : Nat → Prop} {mo_state : Int64} {mo_rooms : Int32} {mo_smallDoors : Int32} {mo_goal : Int32} {mo_now : Int32} {mo_last : Int32} {mo_count : Int32} {mparent : Nat → Int32} {mlevel : Nat → Int32} {mkind : Nat → Int32} {mnum : Nat → Int32} {mx : Nat → Int32} {my : Nat → Int32} {mlying : Nat → Int32} {msw : Nat → Int32} {mloop : Nat → Int32} {mchosen : Nat → Int32} {met : Nat → Int32} {x1 : Int32} {x2 : Int32} {x3 : Int32} {res : Int32} (C : Cx p s m c args cX7_doors 4 RX7 wsX7_doors D kA A) (hret : ∀ (r : Int32) (H : Heap) (locs : List Loc) (ls : Array Slot) (pc : Nat), decode cX7_doors pc = .ok (.ireturn, 1) → Wd D A s H locs (wM kA ad mo_state mo_rooms mo_smallDoors mo_goal mo_now mo_last mo_count mparent mlevel mkind mnum mx my mlying msw mloop mchosen met) → r = res → W p l e rm_X7_doors s m args below meth c H locs 0 0 Q (F0 m pc ls [.int r])) {H : Heap} {locs : List Loc} {ls : Array Slot} (w : Wd D A s H locs (wM kA ad mo_state mo_rooms mo_smallDoors mo_goal mo_now mo_last mo_count mparent mlevel mkind mnum mx my mlying msw mloop mchosen met)) (hl : lv_has ls 4 [(0, .ref (ad 0)), (1, .int x1), (2, .int x2), (3, .int x3)]) (h : f_X7_doors_12 mo_rooms mparent mloop x1 x2 x3 = some res) : W p l e rm_X7_doors s m args below meth c H locs 0 0 Q (F0 m 12 ls []) := by
  unfold f_X7_doors_12 at h
  exact lp_ind (P := (fun (st : Int32 × Int32 × Int32) => ∀ (H : Heap) (locs : List Loc) (ls : Array Slot), Wd D A s H locs (wM kA ad mo_state mo_rooms mo_smallDoors mo_goal mo_now mo_last mo_count mparent mlevel mkind mnum mx my mlying msw mloop mchosen met) → lv_has ls 4 [(0, .ref (ad 0)), (1, .int st.1), (2, .int st.2.1), (3, .int st.2.2)] → W p l e rm_X7_doors s m args below meth c H locs 0 0 Q (F0 m 12 ls []))) (fun k hk st h H locs ls w hl => tb_X7_doors_12 C  (fun a0 a1 a2 H locs ls w hl h => hk (a0, a1, a2) h H locs ls w hl) hret w hl h) fuel (x1, x2, x3) h H locs ls w hl
def f_X7_doors_9 (mo_rooms : Int32) (mparent : Nat → Int32) (mloop : Nat → Int32) (x1 : Int32) (s0 : Int32) : Option (Int32) := f_X7_doors_12 mo_rooms mparent mloop x1 s0 (0 : Int32)
set_option maxHeartbeats 4000000 in
set_option maxRecDepth 100000 in
theorem t_X7_doors_9 {p : Program} {l : Launch} {e : Env} {s : State} {m : MethodId} {args : Array Value} {below : List Frame} {meth : Method} {c : Code} {Q : State → Prop} {D : va_G} {kA : Nat → ClassId} {ad : Nat → Nat} {A : Nat → Prop} {mo_state : Int64} {mo_rooms : Int32} {mo_smallDoors : Int32} {mo_goal : Int32} {mo_now : Int32} {mo_last : Int32} {mo_count : Int32} {mparent : Nat → Int32} {mlevel : Nat → Int32} {mkind : Nat → Int32} {mnum : Nat → Int32} {mx : Nat → Int32} {my : Nat → Int32} {mlying : Nat → Int32} {msw : Nat → Int32} {mloop : Nat → Int32} {mchosen : Nat → Int32} {met : Nat → Int32} {x1 : Int32} {s0 : Int32} {res : Int32} (C : Cx p s m c args cX7_doors 4 RX7 wsX7_doors D kA A) (hret : ∀ (r : Int32) (H : Heap) (locs : List Loc) (ls : Array Slot) (pc : Nat), decode cX7_doors pc = .ok (.ireturn, 1) → Wd D A s H locs (wM kA ad mo_state mo_rooms mo_smallDoors mo_goal mo_now mo_last mo_count mparent mlevel mkind mnum mx my mlying msw mloop mchosen met) → r = res → W p l e rm_X7_doors s m args below meth c H locs 0 0 Q (F0 m pc ls [.int r])) {H : Heap} {locs : List Loc} {ls : Array Slot} (w : Wd D A s H locs (wM kA ad mo_state mo_rooms mo_smallDoors mo_goal mo_now mo_last mo_count mparent mlevel mkind mnum mx my mlying msw mloop mchosen met)) (hl : lv_has ls 4 [(0, .ref (ad 0)), (1, .int x1)]) (h : f_X7_doors_9 mo_rooms mparent mloop x1 s0 = some res) : W p l e rm_X7_doors s m args below meth c H locs 0 0 Q (F0 m 9 ls [.int s0]) := by
  obtain ⟨⟨hx, hb, hml, hown, hts⟩, hK, -, -⟩ := id C
  unfold f_X7_doors_9 at h
  refine lv_istore_n (lv' := [(2, .int s0), (0, .ref (ad 0)), (1, .int x1)]) hx hb dX7_doors_9 rfl hl (by decide) rfl (fun ls hl => ?_)
  refine lv_iconst (v := 0) hx hb dX7_doors_10 (by decide) ?_
  refine lv_istore_n (lv' := [(3, .int (0 : Int32)), (2, .int s0), (0, .ref (ad 0)), (1, .int x1)]) hx hb dX7_doors_11 rfl hl (by decide) rfl (fun ls hl => ?_)
  exact t_X7_doors_12 C  hret w (lv_sub hl [2, 3, 1, 0] rfl) h
def f_X7_doors (p0 : Int32) (mo_rooms : Int32) (mparent : Nat → Int32) (mloop : Nat → Int32) : Option (Int32) := if p0 ≤ 0 then (f_X7_doors_9 mo_rooms mparent mloop p0 (0 : Int32)) else (f_X7_doors_9 mo_rooms mparent mloop p0 (1 : Int32))
set_option maxHeartbeats 4000000 in
set_option maxRecDepth 100000 in
theorem t_X7_doors {p : Program} {l : Launch} {e : Env} {s : State} {m : MethodId} {args : Array Value} {below : List Frame} {meth : Method} {c : Code} {Q : State → Prop} {D : va_G} {kA : Nat → ClassId} {ad : Nat → Nat} {A : Nat → Prop} {mo_state : Int64} {mo_rooms : Int32} {mo_smallDoors : Int32} {mo_goal : Int32} {mo_now : Int32} {mo_last : Int32} {mo_count : Int32} {mparent : Nat → Int32} {mlevel : Nat → Int32} {mkind : Nat → Int32} {mnum : Nat → Int32} {mx : Nat → Int32} {my : Nat → Int32} {mlying : Nat → Int32} {msw : Nat → Int32} {mloop : Nat → Int32} {mchosen : Nat → Int32} {met : Nat → Int32} {p0 : Int32} {res : Int32} (C : Cx p s m c args cX7_doors 4 RX7 wsX7_doors D kA A) (hret : ∀ (r : Int32) (H : Heap) (locs : List Loc) (ls : Array Slot) (pc : Nat), decode cX7_doors pc = .ok (.ireturn, 1) → Wd D A s H locs (wM kA ad mo_state mo_rooms mo_smallDoors mo_goal mo_now mo_last mo_count mparent mlevel mkind mnum mx my mlying msw mloop mchosen met) → r = res → W p l e rm_X7_doors s m args below meth c H locs 0 0 Q (F0 m pc ls [.int r])) {H : Heap} {locs : List Loc} {ls : Array Slot} (w : Wd D A s H locs (wM kA ad mo_state mo_rooms mo_smallDoors mo_goal mo_now mo_last mo_count mparent mlevel mkind mnum mx my mlying msw mloop mchosen met)) (hl : lv_has ls 4 [(0, .ref (ad 0)), (1, .int p0)]) (h : f_X7_doors p0 mo_rooms mparent mloop = some res) : W p l e rm_X7_doors s m args below meth c H locs 0 0 Q (F0 m 0 ls []) := by
  obtain ⟨⟨hx, hb, hml, hown, hts⟩, hK, -, -⟩ := id C
  unfold f_X7_doors at h
  refine lv_iload_n hx hb dX7_doors_0 rfl (lv_at hl 1 rfl) ?_
  refine lv_if_le (tgt := 8) hx hb dX7_doors_1 (by decide) (fun g6 => ?_) (fun g6 => ?_)
  · replace h := it_pos g6 h
    refine lv_iconst (v := 0) hx hb dX7_doors_8 (by decide) ?_
    exact t_X7_doors_9 C  hret w (lv_sub hl [0, 1] rfl) h
  · replace h := it_neg g6 h
    refine lv_iconst (v := 1) hx hb dX7_doors_4 (by decide) ?_
    refine lv_goto (tgt := 9) hx hb dX7_doors_5 (by decide) ?_
    exact t_X7_doors_9 C  hret w (lv_sub hl [0, 1] rfl) h
set_option maxHeartbeats 4000000 in
set_option maxRecDepth 100000 in
theorem c_X7_doors (l : Launch) (D : va_G) (kA : Nat → ClassId) (ad : Nat → Nat) (sz : Nat) (mo_state : Int64) (mo_rooms : Int32) (mo_smallDoors : Int32) (mo_goal : Int32) (mo_now : Int32) (mo_last : Int32) (mo_count : Int32) (mparent : Nat → Int32) (mlevel : Nat → Int32) (mkind : Nat → Int32) (mnum : Nat → Int32) (mx : Nat → Int32) (my : Nat → Int32) (mlying : Nat → Int32) (msw : Nat → Int32) (mloop : Nat → Int32) (mchosen : Nat → Int32) (met : Nat → Int32) (p0 : Int32) {res : Int32} (h : f_X7_doors p0 mo_rooms mparent mloop = some res) : Ci l yX7_doors wsX7_doors rm_X7_doors D kA [.ref (ad 0), .int p0] sz (wM kA ad mo_state mo_rooms mo_smallDoors mo_goal mo_now mo_last mo_count mparent mlevel mkind mnum mx my mlying msw mloop mchosen met) (wM kA ad mo_state mo_rooms mo_smallDoors mo_goal mo_now mo_last mo_count mparent mlevel mkind mnum mx my mlying msw mloop mchosen met) res := by
  refine Met.ofW (cc := cX7_doors) (maxL := 4) (ret := (some .int)) (by decide) rfl ?_
  intro p e s m args below meth c s₁ B hml hv
  obtain ⟨rfl, hsz, hP, hK, hD0, hX⟩ := hv
  subst hsz
  have hts := atoms_spec (ws := wsX7_doors) B.pre
  have hl := lv_entry ([.ref (ad 0), .int p0]) (n := 4) (Nat.le_of_ble_eq_true rfl)
  rw [lg_entry_eq]
  have hlocks := B.notSynchronized
  refine t_X7_doors (A := va_A (wM kA ad mo_state mo_rooms mo_smallDoors mo_goal mo_now mo_last mo_count mparent mlevel mkind mnum mx my mlying msw mloop mchosen met) s.heap.size) ⟨⟨B.exec, B.bytes, hml, findClass_of_methodNamed B.named, hts⟩, hK, fun q h => Or.inr h, hX⟩ (fun r H locs ls pc hd w hres => ?_) ⟨hP, hD0.self, va_S.rf⟩ hl h
  subst hres
  exact W.iret B.exec B.bytes B.returns (fun t ht hW => ⟨⟨_, (), rfl, rfl, by rw [ht]; exact w.1, va_K.moved hW.alike hK, w.2.1⟩, w.2.2.F ht⟩) w.2.2.2.2 hd hlocks
-- ('wM', 'LockQuestModel', 'beyond', '(II)I', ('mo', None, None))
abbrev rm_X7_beyond : Room := { frames := 0, cells := 0, slots := 0, locals := 0 }
set_option maxRecDepth 20000 in
theorem lX7_beyond_X7 : ∀ w ∈ wsX70, w ∈ wsX7_beyond := by decide +kernel
set_option maxRecDepth 20000 in
theorem mX7_beyond_1 : Cond.fieldLink RX7 7 "LockQuestModel" "parent" "[I" ∈ wsX7_beyond := by decide +kernel
set_option maxRecDepth 20000 in
theorem mX7_beyond_2 : Cond.fieldLink RX7 56 "LockQuestModel" "rooms" "I" ∈ wsX7_beyond := by decide +kernel
set_option maxRecDepth 20000 in
theorem mX7_beyond_3 : Cond.fieldLink RX7 35 "LockQuestModel" "loop" "[Z" ∈ wsX7_beyond := by decide +kernel
def f_X7_beyond_107 (mo_rooms : Int32) (mparent : Nat → Int32) (mloop : Nat → Int32) (k73 : Int32 → Int32 → Int32 → Option (Int32)) (x1 : Int32) (x3 : Int32) (x4 : Int32) : Option (Int32) := k73 x1 x3 (x4 + (1 : Int32))
set_option maxHeartbeats 4000000 in
set_option maxRecDepth 100000 in
theorem t_X7_beyond_107 {p : Program} {l : Launch} {e : Env} {s : State} {m : MethodId} {args : Array Value} {below : List Frame} {meth : Method} {c : Code} {Q : State → Prop} {D : va_G} {kA : Nat → ClassId} {ad : Nat → Nat} {A : Nat → Prop} {mo_state : Int64} {mo_rooms : Int32} {mo_smallDoors : Int32} {mo_goal : Int32} {mo_now : Int32} {mo_last : Int32} {mo_count : Int32} {mparent : Nat → Int32} {mlevel : Nat → Int32} {mkind : Nat → Int32} {mnum : Nat → Int32} {mx : Nat → Int32} {my : Nat → Int32} {mlying : Nat → Int32} {msw : Nat → Int32} {mloop : Nat → Int32} {mchosen : Nat → Int32} {met : Nat → Int32} {x1 : Int32} {x3 : Int32} {x4 : Int32} {k73 : Int32 → Int32 → Int32 → Option (Int32)} {res : Int32} (C : Cx p s m c args cX7_beyond 5 RX7 wsX7_beyond D kA A) (hk73 : ∀ (x1 : Int32) (x3 : Int32) (x4 : Int32) (H : Heap) (locs : List Loc) (ls : Array Slot), Wd D A s H locs (wM kA ad mo_state mo_rooms mo_smallDoors mo_goal mo_now mo_last mo_count mparent mlevel mkind mnum mx my mlying msw mloop mchosen met) → lv_has ls 5 [(0, .ref (ad 0)), (1, .int x1), (3, .int x3), (4, .int x4)] → k73 x1 x3 x4 = some res → W p l e rm_X7_beyond s m args below meth c H locs 0 0 Q (F0 m 73 ls [])) (hret : ∀ (r : Int32) (H : Heap) (locs : List Loc) (ls : Array Slot) (pc : Nat), decode cX7_beyond pc = .ok (.ireturn, 1) → Wd D A s H locs (wM kA ad mo_state mo_rooms mo_smallDoors mo_goal mo_now mo_last mo_count mparent mlevel mkind mnum mx my mlying msw mloop mchosen met) → r = res → W p l e rm_X7_beyond s m args below meth c H locs 0 0 Q (F0 m pc ls [.int r])) {H : Heap} {locs : List Loc} {ls : Array Slot} (w : Wd D A s H locs (wM kA ad mo_state mo_rooms mo_smallDoors mo_goal mo_now mo_last mo_count mparent mlevel mkind mnum mx my mlying msw mloop mchosen met)) (hl : lv_has ls 5 [(0, .ref (ad 0)), (1, .int x1), (3, .int x3), (4, .int x4)]) (h : f_X7_beyond_107 mo_rooms mparent mloop k73 x1 x3 x4 = some res) : W p l e rm_X7_beyond s m args below meth c H locs 0 0 Q (F0 m 107 ls []) := by
  obtain ⟨⟨hx, hb, hml, hown, hts⟩, hK, -, -⟩ := id C
  unfold f_X7_beyond_107 at h
  refine lv_iinc (v := (x4 + (1 : Int32))) (lv' := [(4, .int (x4 + (1 : Int32))), (0, .ref (ad 0)), (1, .int x1), (3, .int x3)]) hx hb dX7_beyond_107 hl (k := 3) rfl rfl (by decide) rfl (fun ls hl => ?_)
  refine lv_goto (tgt := 73) hx hb dX7_beyond_110 (by decide) ?_
  exact hk73 _ _ _ H locs ls w (lv_sub hl [1, 2, 3, 0] rfl) h
def fb_X7_beyond_73 (mo_rooms : Int32) (mparent : Nat → Int32) (mloop : Nat → Int32) (k73 : Int32 → Int32 → Int32 → Option (Int32)) (x1 : Int32) (x3 : Int32) (x4 : Int32) : Option (Int32) := if mo_rooms ≤ x4 then (some (-1 : Int32)) else (gd ((((12 : Int32) * x1) + x4) < 0 ∨ 144 ≤ (((12 : Int32) * x1) + x4).toNatClampNeg) (if (mloop (((12 : Int32) * x1) + x4).toNatClampNeg) = 0 then (f_X7_beyond_107 mo_rooms mparent mloop k73 x1 x3 x4) else (if x3 = 0 then (some x4) else (f_X7_beyond_107 mo_rooms mparent mloop k73 x1 (x3 + (-1 : Int32)) x4))))
set_option maxHeartbeats 4000000 in
set_option maxRecDepth 100000 in
theorem tb_X7_beyond_73 {p : Program} {l : Launch} {e : Env} {s : State} {m : MethodId} {args : Array Value} {below : List Frame} {meth : Method} {c : Code} {Q : State → Prop} {D : va_G} {kA : Nat → ClassId} {ad : Nat → Nat} {A : Nat → Prop} {mo_state : Int64} {mo_rooms : Int32} {mo_smallDoors : Int32} {mo_goal : Int32} {mo_now : Int32} {mo_last : Int32} {mo_count : Int32} {mparent : Nat → Int32} {mlevel : Nat → Int32} {mkind : Nat → Int32} {mnum : Nat → Int32} {mx : Nat → Int32} {my : Nat → Int32} {mlying : Nat → Int32} {msw : Nat → Int32} {mloop : Nat → Int32} {mchosen : Nat → Int32} {met : Nat → Int32} {x1 : Int32} {x3 : Int32} {x4 : Int32} {k73 : Int32 → Int32 → Int32 → Option (Int32)} {res : Int32} (C : Cx p s m c args cX7_beyond 5 RX7 wsX7_beyond D kA A) (hk73 : ∀ (x1 : Int32) (x3 : Int32) (x4 : Int32) (H : Heap) (locs : List Loc) (ls : Array Slot), Wd D A s H locs (wM kA ad mo_state mo_rooms mo_smallDoors mo_goal mo_now mo_last mo_count mparent mlevel mkind mnum mx my mlying msw mloop mchosen met) → lv_has ls 5 [(0, .ref (ad 0)), (1, .int x1), (3, .int x3), (4, .int x4)] → k73 x1 x3 x4 = some res → W p l e rm_X7_beyond s m args below meth c H locs 0 0 Q (F0 m 73 ls [])) (hret : ∀ (r : Int32) (H : Heap) (locs : List Loc) (ls : Array Slot) (pc : Nat), decode cX7_beyond pc = .ok (.ireturn, 1) → Wd D A s H locs (wM kA ad mo_state mo_rooms mo_smallDoors mo_goal mo_now mo_last mo_count mparent mlevel mkind mnum mx my mlying msw mloop mchosen met) → r = res → W p l e rm_X7_beyond s m args below meth c H locs 0 0 Q (F0 m pc ls [.int r])) {H : Heap} {locs : List Loc} {ls : Array Slot} (w : Wd D A s H locs (wM kA ad mo_state mo_rooms mo_smallDoors mo_goal mo_now mo_last mo_count mparent mlevel mkind mnum mx my mlying msw mloop mchosen met)) (hl : lv_has ls 5 [(0, .ref (ad 0)), (1, .int x1), (3, .int x3), (4, .int x4)]) (h : fb_X7_beyond_73 mo_rooms mparent mloop k73 x1 x3 x4 = some res) : W p l e rm_X7_beyond s m args below meth c H locs 0 0 Q (F0 m 73 ls []) := by
  obtain ⟨⟨hx, hb, hml, hown, hts⟩, hK, -, -⟩ := id C
  unfold fb_X7_beyond_73 at h
  refine lv_iload hx hb dX7_beyond_73 (lv_at hl 3 rfl) ?_
  refine lv_aload_n hx hb dX7_beyond_75 rfl (lv_at hl 0 rfl) ?_
  refine va_get (D := D) (ci := 6) (v := .int mo_rooms) (C := RX7) (T := TX7) (N := 18) hx hb hts lX7_beyond_X7 hown hK w.1 0 rfl rfl 1 (by decide) (hts _ mX7_beyond_2) (fun _ h9 => h9) rfl dX7_beyond_76 ?_
  refine lv_icmp_ge (tgt := 113) hx hb dX7_beyond_79 (by decide) (fun g1 => ?_) (fun g1 => ?_)
  · replace h := it_pos g1 h
    refine lv_iconst (v := -1) hx hb dX7_beyond_113 (by decide) ?_
    exact hret _ _ _ _ _ dX7_beyond_114 w (Option.some.inj h)
  · replace h := it_neg g1 h
    refine lv_aload_n hx hb dX7_beyond_82 rfl (lv_at hl 0 rfl) ?_
    refine va_get (D := D) (ci := 6) (v := .ref (ad 9)) (C := RX7) (T := TX7) (N := 18) hx hb hts lX7_beyond_X7 hown hK w.1 0 rfl rfl 12 (by decide) (hts _ mX7_beyond_3) (fun _ h9 => h9) rfl dX7_beyond_83 ?_
    refine lv_bipush (v := 12) hx hb dX7_beyond_86 (by decide) ?_
    refine lv_iload_n hx hb dX7_beyond_88 rfl (lv_at hl 1 rfl) ?_
    refine lv_imul hx hb dX7_beyond_89 ?_
    refine lv_iload hx hb dX7_beyond_90 (lv_at hl 3 rfl) ?_
    refine lv_iadd hx hb dX7_beyond_92 ?_
    obtain ⟨g2, h⟩ := gd_some h
    refine va_zald hx hb hK w.1 9 2 rfl rfl g2 dX7_beyond_93 ?_
    refine lv_if_eq (tgt := 107) hx hb dX7_beyond_94 (by decide) (fun g3 => ?_) (fun g3 => ?_)
    · replace h := it_pos g3 h
      exact t_X7_beyond_107 C hk73 hret w (lv_sub hl [0, 1, 2, 3] rfl) h
    · replace h := it_neg g3 h
      refine lv_iload_n hx hb dX7_beyond_97 rfl (lv_at hl 2 rfl) ?_
      refine lv_if_ne (tgt := 104) hx hb dX7_beyond_98 (by decide) (fun g4 => ?_) (fun g4 => ?_)
      · replace h := it_neg g4 h
        refine lv_iinc (v := (x3 + (-1 : Int32))) (lv' := [(3, .int (x3 + (-1 : Int32))), (0, .ref (ad 0)), (1, .int x1), (4, .int x4)]) hx hb dX7_beyond_104 hl (k := 2) rfl rfl (by decide) rfl (fun ls hl => ?_)
        exact t_X7_beyond_107 C hk73 hret w (lv_sub hl [1, 2, 0, 3] rfl) h
      · replace h := it_pos g4 h
        refine lv_iload hx hb dX7_beyond_101 (lv_at hl 3 rfl) ?_
        exact hret _ _ _ _ _ dX7_beyond_103 w (Option.some.inj h)
def f_X7_beyond_73 (mo_rooms : Int32) (mparent : Nat → Int32) (mloop : Nat → Int32) (x1 : Int32) (x3 : Int32) (x4 : Int32) : Option (Int32) := lp (σ := Int32 × Int32 × Int32) (fun k st => fb_X7_beyond_73 mo_rooms mparent mloop (fun x1 x3 x4 => k (x1, x3, x4)) st.1 st.2.1 st.2.2) fuel (x1, x3, x4)
set_option maxHeartbeats 4000000 in
set_option maxRecDepth 100000 in
theorem t_X7_beyond_73 {p : Program} {l : Launch} {e : Env} {s : State} {m : MethodId} {args : Array Value} {below : List Frame} {meth : Method} {c : Code} {Q : State → Prop} {D : va_G} {kA : Nat → ClassId} {ad : Nat → Nat} {A : Nat → Prop} {mo_state : Int64} {mo_rooms : Int32} {mo_smallDoors : Int32} {mo_goal : Int32} {mo_now : Int32} {mo_last : Int32} {mo_count : Int32} {mparent : Nat → Int32} {mlevel : Nat → Int32} {mkind : Nat → Int32} {mnum : Nat → Int32} {mx : Nat → Int32} {my : Nat → Int32} {mlying : Nat → Int32} {msw : Nat → Int32} {mloop : Nat → Int32} {mchosen : Nat → Int32} {met : Nat → Int32} {x1 : Int32} {x3 : Int32} {x4 : Int32} {res : Int32} (C : Cx p s m c args cX7_beyond 5 RX7 wsX7_beyond D kA A) (hret : ∀ (r : Int32) (H : Heap) (locs : List Loc) (ls : Array Slot) (pc : Nat), decode cX7_beyond pc = .ok (.ireturn, 1) → Wd D A s H locs (wM kA ad mo_state mo_rooms mo_smallDoors mo_goal mo_now mo_last mo_count mparent mlevel mkind mnum mx my mlying msw mloop mchosen met) → r = res → W p l e rm_X7_beyond s m args below meth c H locs 0 0 Q (F0 m pc ls [.int r])) {H : Heap} {locs : List Loc} {ls : Array Slot} (w : Wd D A s H locs (wM kA ad mo_state mo_rooms mo_smallDoors mo_goal mo_now mo_last mo_count mparent mlevel mkind mnum mx my mlying msw mloop mchosen met)) (hl : lv_has ls 5 [(0, .ref (ad 0)), (1, .int x1), (3, .int x3), (4, .int x4)]) (h : f_X7_beyond_73 mo_rooms mparent mloop x1 x3 x4 = some res) : W p l e rm_X7_beyond s m args below meth c H locs 0 0 Q (F0 m 73 ls []) := by
  unfold f_X7_beyond_73 at h
  exact lp_ind (P := (fun (st : Int32 × Int32 × Int32) => ∀ (H : Heap) (locs : List Loc) (ls : Array Slot), Wd D A s H locs (wM kA ad mo_state mo_rooms mo_smallDoors mo_goal mo_now mo_last mo_count mparent mlevel mkind mnum mx my mlying msw mloop mchosen met) → lv_has ls 5 [(0, .ref (ad 0)), (1, .int st.1), (3, .int st.2.1), (4, .int st.2.2)] → W p l e rm_X7_beyond s m args below meth c H locs 0 0 Q (F0 m 73 ls []))) (fun k hk st h H locs ls w hl => tb_X7_beyond_73 C  (fun a0 a1 a2 H locs ls w hl h => hk (a0, a1, a2) h H locs ls w hl) hret w hl h) fuel (x1, x3, x4) h H locs ls w hl
def f_X7_beyond_64 (mo_rooms : Int32) (mparent : Nat → Int32) (mloop : Nat → Int32) (k34 : Int32 → Int32 → Int32 → Option (Int32)) (x1 : Int32) (x3 : Int32) (x4 : Int32) : Option (Int32) := k34 x1 x3 (x4 + (1 : Int32))
set_option maxHeartbeats 4000000 in
set_option maxRecDepth 100000 in
theorem t_X7_beyond_64 {p : Program} {l : Launch} {e : Env} {s : State} {m : MethodId} {args : Array Value} {below : List Frame} {meth : Method} {c : Code} {Q : State → Prop} {D : va_G} {kA : Nat → ClassId} {ad : Nat → Nat} {A : Nat → Prop} {mo_state : Int64} {mo_rooms : Int32} {mo_smallDoors : Int32} {mo_goal : Int32} {mo_now : Int32} {mo_last : Int32} {mo_count : Int32} {mparent : Nat → Int32} {mlevel : Nat → Int32} {mkind : Nat → Int32} {mnum : Nat → Int32} {mx : Nat → Int32} {my : Nat → Int32} {mlying : Nat → Int32} {msw : Nat → Int32} {mloop : Nat → Int32} {mchosen : Nat → Int32} {met : Nat → Int32} {x1 : Int32} {x3 : Int32} {x4 : Int32} {k34 : Int32 → Int32 → Int32 → Option (Int32)} {res : Int32} (C : Cx p s m c args cX7_beyond 5 RX7 wsX7_beyond D kA A) (hk34 : ∀ (x1 : Int32) (x3 : Int32) (x4 : Int32) (H : Heap) (locs : List Loc) (ls : Array Slot), Wd D A s H locs (wM kA ad mo_state mo_rooms mo_smallDoors mo_goal mo_now mo_last mo_count mparent mlevel mkind mnum mx my mlying msw mloop mchosen met) → lv_has ls 5 [(0, .ref (ad 0)), (1, .int x1), (3, .int x3), (4, .int x4)] → k34 x1 x3 x4 = some res → W p l e rm_X7_beyond s m args below meth c H locs 0 0 Q (F0 m 34 ls [])) (hret : ∀ (r : Int32) (H : Heap) (locs : List Loc) (ls : Array Slot) (pc : Nat), decode cX7_beyond pc = .ok (.ireturn, 1) → Wd D A s H locs (wM kA ad mo_state mo_rooms mo_smallDoors mo_goal mo_now mo_last mo_count mparent mlevel mkind mnum mx my mlying msw mloop mchosen met) → r = res → W p l e rm_X7_beyond s m args below meth c H locs 0 0 Q (F0 m pc ls [.int r])) {H : Heap} {locs : List Loc} {ls : Array Slot} (w : Wd D A s H locs (wM kA ad mo_state mo_rooms mo_smallDoors mo_goal mo_now mo_last mo_count mparent mlevel mkind mnum mx my mlying msw mloop mchosen met)) (hl : lv_has ls 5 [(0, .ref (ad 0)), (1, .int x1), (3, .int x3), (4, .int x4)]) (h : f_X7_beyond_64 mo_rooms mparent mloop k34 x1 x3 x4 = some res) : W p l e rm_X7_beyond s m args below meth c H locs 0 0 Q (F0 m 64 ls []) := by
  obtain ⟨⟨hx, hb, hml, hown, hts⟩, hK, -, -⟩ := id C
  unfold f_X7_beyond_64 at h
  refine lv_iinc (v := (x4 + (1 : Int32))) (lv' := [(4, .int (x4 + (1 : Int32))), (0, .ref (ad 0)), (1, .int x1), (3, .int x3)]) hx hb dX7_beyond_64 hl (k := 3) rfl rfl (by decide) rfl (fun ls hl => ?_)
  refine lv_goto (tgt := 34) hx hb dX7_beyond_67 (by decide) ?_
  exact hk34 _ _ _ H locs ls w (lv_sub hl [1, 2, 3, 0] rfl) h
def fb_X7_beyond_34 (mo_rooms : Int32) (mparent : Nat → Int32) (mloop : Nat → Int32) (k34 : Int32 → Int32 → Int32 → Option (Int32)) (x1 : Int32) (x3 : Int32) (x4 : Int32) : Option (Int32) := if mo_rooms ≤ x4 then (f_X7_beyond_73 mo_rooms mparent mloop x1 x3 (0 : Int32)) else (gd (x4 < 0 ∨ 12 ≤ x4.toNatClampNeg) (if (mparent x4.toNatClampNeg) = x1 then (if x3 = 0 then (some x4) else (f_X7_beyond_64 mo_rooms mparent mloop k34 x1 (x3 + (-1 : Int32)) x4)) else (f_X7_beyond_64 mo_rooms mparent mloop k34 x1 x3 x4)))
set_option maxHeartbeats 4000000 in
set_option maxRecDepth 100000 in
theorem tb_X7_beyond_34 {p : Program} {l : Launch} {e : Env} {s : State} {m : MethodId} {args : Array Value} {below : List Frame} {meth : Method} {c : Code} {Q : State → Prop} {D : va_G} {kA : Nat → ClassId} {ad : Nat → Nat} {A : Nat → Prop} {mo_state : Int64} {mo_rooms : Int32} {mo_smallDoors : Int32} {mo_goal : Int32} {mo_now : Int32} {mo_last : Int32} {mo_count : Int32} {mparent : Nat → Int32} {mlevel : Nat → Int32} {mkind : Nat → Int32} {mnum : Nat → Int32} {mx : Nat → Int32} {my : Nat → Int32} {mlying : Nat → Int32} {msw : Nat → Int32} {mloop : Nat → Int32} {mchosen : Nat → Int32} {met : Nat → Int32} {x1 : Int32} {x3 : Int32} {x4 : Int32} {k34 : Int32 → Int32 → Int32 → Option (Int32)} {res : Int32} (C : Cx p s m c args cX7_beyond 5 RX7 wsX7_beyond D kA A) (hk34 : ∀ (x1 : Int32) (x3 : Int32) (x4 : Int32) (H : Heap) (locs : List Loc) (ls : Array Slot), Wd D A s H locs (wM kA ad mo_state mo_rooms mo_smallDoors mo_goal mo_now mo_last mo_count mparent mlevel mkind mnum mx my mlying msw mloop mchosen met) → lv_has ls 5 [(0, .ref (ad 0)), (1, .int x1), (3, .int x3), (4, .int x4)] → k34 x1 x3 x4 = some res → W p l e rm_X7_beyond s m args below meth c H locs 0 0 Q (F0 m 34 ls [])) (hret : ∀ (r : Int32) (H : Heap) (locs : List Loc) (ls : Array Slot) (pc : Nat), decode cX7_beyond pc = .ok (.ireturn, 1) → Wd D A s H locs (wM kA ad mo_state mo_rooms mo_smallDoors mo_goal mo_now mo_last mo_count mparent mlevel mkind mnum mx my mlying msw mloop mchosen met) → r = res → W p l e rm_X7_beyond s m args below meth c H locs 0 0 Q (F0 m pc ls [.int r])) {H : Heap} {locs : List Loc} {ls : Array Slot} (w : Wd D A s H locs (wM kA ad mo_state mo_rooms mo_smallDoors mo_goal mo_now mo_last mo_count mparent mlevel mkind mnum mx my mlying msw mloop mchosen met)) (hl : lv_has ls 5 [(0, .ref (ad 0)), (1, .int x1), (3, .int x3), (4, .int x4)]) (h : fb_X7_beyond_34 mo_rooms mparent mloop k34 x1 x3 x4 = some res) : W p l e rm_X7_beyond s m args below meth c H locs 0 0 Q (F0 m 34 ls []) := by
  obtain ⟨⟨hx, hb, hml, hown, hts⟩, hK, -, -⟩ := id C
  unfold fb_X7_beyond_34 at h
  refine lv_iload hx hb dX7_beyond_34 (lv_at hl 3 rfl) ?_
  refine lv_aload_n hx hb dX7_beyond_36 rfl (lv_at hl 0 rfl) ?_
  refine va_get (D := D) (ci := 6) (v := .int mo_rooms) (C := RX7) (T := TX7) (N := 18) hx hb hts lX7_beyond_X7 hown hK w.1 0 rfl rfl 1 (by decide) (hts _ mX7_beyond_2) (fun _ h9 => h9) rfl dX7_beyond_37 ?_
  refine lv_icmp_ge (tgt := 70) hx hb dX7_beyond_40 (by decide) (fun g5 => ?_) (fun g5 => ?_)
  · replace h := it_pos g5 h
    refine lv_iconst (v := 0) hx hb dX7_beyond_70 (by decide) ?_
    refine lv_istore (lv' := [(4, .int (0 : Int32)), (0, .ref (ad 0)), (1, .int x1), (3, .int x3)]) hx hb dX7_beyond_71 hl (by decide) rfl (fun ls hl => ?_)
    exact t_X7_beyond_73 C  hret w (lv_sub hl [1, 2, 3, 0] rfl) h
  · replace h := it_neg g5 h
    refine lv_aload_n hx hb dX7_beyond_43 rfl (lv_at hl 0 rfl) ?_
    refine va_get (D := D) (ci := 6) (v := .ref (ad 1)) (C := RX7) (T := TX7) (N := 18) hx hb hts lX7_beyond_X7 hown hK w.1 0 rfl rfl 4 (by decide) (hts _ mX7_beyond_1) (fun _ h9 => h9) rfl dX7_beyond_44 ?_
    refine lv_iload hx hb dX7_beyond_47 (lv_at hl 3 rfl) ?_
    obtain ⟨g6, h⟩ := gd_some h
    refine va_iald hx hb hK w.1 1 0 rfl rfl g6 dX7_beyond_49 ?_
    refine lv_iload_n hx hb dX7_beyond_50 rfl (lv_at hl 1 rfl) ?_
    refine lv_icmp_ne (tgt := 64) hx hb dX7_beyond_51 (by decide) (fun g7 => ?_) (fun g7 => ?_)
    · replace h := it_neg g7 h
      exact t_X7_beyond_64 C hk34 hret w (lv_sub hl [0, 1, 2, 3] rfl) h
    · replace h := it_pos g7 h
      refine lv_iload_n hx hb dX7_beyond_54 rfl (lv_at hl 2 rfl) ?_
      refine lv_if_ne (tgt := 61) hx hb dX7_beyond_55 (by decide) (fun g8 => ?_) (fun g8 => ?_)
      · replace h := it_neg g8 h
        refine lv_iinc (v := (x3 + (-1 : Int32))) (lv' := [(3, .int (x3 + (-1 : Int32))), (0, .ref (ad 0)), (1, .int x1), (4, .int x4)]) hx hb dX7_beyond_61 hl (k := 2) rfl rfl (by decide) rfl (fun ls hl => ?_)
        exact t_X7_beyond_64 C hk34 hret w (lv_sub hl [1, 2, 0, 3] rfl) h
      · replace h := it_pos g8 h
        refine lv_iload hx hb dX7_beyond_58 (lv_at hl 3 rfl) ?_
        exact hret _ _ _ _ _ dX7_beyond_60 w (Option.some.inj h)
def f_X7_beyond_34 (mo_rooms : Int32) (mparent : Nat → Int32) (mloop : Nat → Int32) (x1 : Int32) (x3 : Int32) (x4 : Int32) : Option (Int32) := lp (σ := Int32 × Int32 × Int32) (fun k st => fb_X7_beyond_34 mo_rooms mparent mloop (fun x1 x3 x4 => k (x1, x3, x4)) st.1 st.2.1 st.2.2) fuel (x1, x3, x4)
set_option maxHeartbeats 4000000 in
set_option maxRecDepth 100000 in
theorem t_X7_beyond_34 {p : Program} {l : Launch} {e : Env} {s : State} {m : MethodId} {args : Array Value} {below : List Frame} {meth : Method} {c : Code} {Q : State → Prop} {D : va_G} {kA : Nat → ClassId} {ad : Nat → Nat} {A : Nat → Prop} {mo_state : Int64} {mo_rooms : Int32} {mo_smallDoors : Int32} {mo_goal : Int32} {mo_now : Int32} {mo_last : Int32} {mo_count : Int32} {mparent : Nat → Int32} {mlevel : Nat → Int32} {mkind : Nat → Int32} {mnum : Nat → Int32} {mx : Nat → Int32} {my : Nat → Int32} {mlying : Nat → Int32} {msw : Nat → Int32} {mloop : Nat → Int32} {mchosen : Nat → Int32} {met : Nat → Int32} {x1 : Int32} {x3 : Int32} {x4 : Int32} {res : Int32} (C : Cx p s m c args cX7_beyond 5 RX7 wsX7_beyond D kA A) (hret : ∀ (r : Int32) (H : Heap) (locs : List Loc) (ls : Array Slot) (pc : Nat), decode cX7_beyond pc = .ok (.ireturn, 1) → Wd D A s H locs (wM kA ad mo_state mo_rooms mo_smallDoors mo_goal mo_now mo_last mo_count mparent mlevel mkind mnum mx my mlying msw mloop mchosen met) → r = res → W p l e rm_X7_beyond s m args below meth c H locs 0 0 Q (F0 m pc ls [.int r])) {H : Heap} {locs : List Loc} {ls : Array Slot} (w : Wd D A s H locs (wM kA ad mo_state mo_rooms mo_smallDoors mo_goal mo_now mo_last mo_count mparent mlevel mkind mnum mx my mlying msw mloop mchosen met)) (hl : lv_has ls 5 [(0, .ref (ad 0)), (1, .int x1), (3, .int x3), (4, .int x4)]) (h : f_X7_beyond_34 mo_rooms mparent mloop x1 x3 x4 = some res) : W p l e rm_X7_beyond s m args below meth c H locs 0 0 Q (F0 m 34 ls []) := by
  unfold f_X7_beyond_34 at h
  exact lp_ind (P := (fun (st : Int32 × Int32 × Int32) => ∀ (H : Heap) (locs : List Loc) (ls : Array Slot), Wd D A s H locs (wM kA ad mo_state mo_rooms mo_smallDoors mo_goal mo_now mo_last mo_count mparent mlevel mkind mnum mx my mlying msw mloop mchosen met) → lv_has ls 5 [(0, .ref (ad 0)), (1, .int st.1), (3, .int st.2.1), (4, .int st.2.2)] → W p l e rm_X7_beyond s m args below meth c H locs 0 0 Q (F0 m 34 ls []))) (fun k hk st h H locs ls w hl => tb_X7_beyond_34 C  (fun a0 a1 a2 H locs ls w hl h => hk (a0, a1, a2) h H locs ls w hl) hret w hl h) fuel (x1, x3, x4) h H locs ls w hl
def f_X7_beyond_11 (mo_rooms : Int32) (mparent : Nat → Int32) (mloop : Nat → Int32) (x1 : Int32) (x2 : Int32) (s0 : Int32) : Option (Int32) := if 0 ≤ s0 then (f_X7_beyond_34 mo_rooms mparent mloop x1 s0 (0 : Int32)) else (if 0 ≤ x2 then (gd (x1 < 0 ∨ 12 ≤ x1.toNatClampNeg) (some (mparent x1.toNatClampNeg))) else (some (-1 : Int32)))
set_option maxHeartbeats 4000000 in
set_option maxRecDepth 100000 in
theorem t_X7_beyond_11 {p : Program} {l : Launch} {e : Env} {s : State} {m : MethodId} {args : Array Value} {below : List Frame} {meth : Method} {c : Code} {Q : State → Prop} {D : va_G} {kA : Nat → ClassId} {ad : Nat → Nat} {A : Nat → Prop} {mo_state : Int64} {mo_rooms : Int32} {mo_smallDoors : Int32} {mo_goal : Int32} {mo_now : Int32} {mo_last : Int32} {mo_count : Int32} {mparent : Nat → Int32} {mlevel : Nat → Int32} {mkind : Nat → Int32} {mnum : Nat → Int32} {mx : Nat → Int32} {my : Nat → Int32} {mlying : Nat → Int32} {msw : Nat → Int32} {mloop : Nat → Int32} {mchosen : Nat → Int32} {met : Nat → Int32} {x1 : Int32} {x2 : Int32} {s0 : Int32} {res : Int32} (C : Cx p s m c args cX7_beyond 5 RX7 wsX7_beyond D kA A) (hret : ∀ (r : Int32) (H : Heap) (locs : List Loc) (ls : Array Slot) (pc : Nat), decode cX7_beyond pc = .ok (.ireturn, 1) → Wd D A s H locs (wM kA ad mo_state mo_rooms mo_smallDoors mo_goal mo_now mo_last mo_count mparent mlevel mkind mnum mx my mlying msw mloop mchosen met) → r = res → W p l e rm_X7_beyond s m args below meth c H locs 0 0 Q (F0 m pc ls [.int r])) {H : Heap} {locs : List Loc} {ls : Array Slot} (w : Wd D A s H locs (wM kA ad mo_state mo_rooms mo_smallDoors mo_goal mo_now mo_last mo_count mparent mlevel mkind mnum mx my mlying msw mloop mchosen met)) (hl : lv_has ls 5 [(0, .ref (ad 0)), (1, .int x1), (2, .int x2)]) (h : f_X7_beyond_11 mo_rooms mparent mloop x1 x2 s0 = some res) : W p l e rm_X7_beyond s m args below meth c H locs 0 0 Q (F0 m 11 ls [.int s0]) := by
  obtain ⟨⟨hx, hb, hml, hown, hts⟩, hK, -, -⟩ := id C
  unfold f_X7_beyond_11 at h
  refine lv_istore_n (lv' := [(3, .int s0), (0, .ref (ad 0)), (1, .int x1), (2, .int x2)]) hx hb dX7_beyond_11 rfl hl (by decide) rfl (fun ls hl => ?_)
  refine lv_iload_n hx hb dX7_beyond_12 rfl (lv_at hl 0 rfl) ?_
  refine lv_if_ge (tgt := 31) hx hb dX7_beyond_13 (by decide) (fun g9 => ?_) (fun g9 => ?_)
  · replace h := it_pos g9 h
    refine lv_iconst (v := 0) hx hb dX7_beyond_31 (by decide) ?_
    refine lv_istore (lv' := [(4, .int (0 : Int32)), (3, .int s0), (0, .ref (ad 0)), (1, .int x1), (2, .int x2)]) hx hb dX7_beyond_32 hl (by decide) rfl (fun ls hl => ?_)
    exact t_X7_beyond_34 C  hret w (lv_sub hl [2, 3, 1, 0] rfl) h
  · replace h := it_neg g9 h
    refine lv_iload_n hx hb dX7_beyond_16 rfl (lv_at hl 3 rfl) ?_
    refine lv_if_ge (tgt := 24) hx hb dX7_beyond_17 (by decide) (fun g10 => ?_) (fun g10 => ?_)
    · replace h := it_pos g10 h
      refine lv_aload_n hx hb dX7_beyond_24 rfl (lv_at hl 1 rfl) ?_
      refine va_get (D := D) (ci := 6) (v := .ref (ad 1)) (C := RX7) (T := TX7) (N := 18) hx hb hts lX7_beyond_X7 hown hK w.1 0 rfl rfl 4 (by decide) (hts _ mX7_beyond_1) (fun _ h9 => h9) rfl dX7_beyond_25 ?_
      refine lv_iload_n hx hb dX7_beyond_28 rfl (lv_at hl 2 rfl) ?_
      obtain ⟨g11, h⟩ := gd_some h
      refine va_iald hx hb hK w.1 1 0 rfl rfl g11 dX7_beyond_29 ?_
      exact hret _ _ _ _ _ dX7_beyond_30 w (Option.some.inj h)
    · replace h := it_neg g10 h
      refine lv_iconst (v := -1) hx hb dX7_beyond_20 (by decide) ?_
      refine lv_goto (tgt := 30) hx hb dX7_beyond_21 (by decide) ?_
      exact hret _ _ _ _ _ dX7_beyond_30 w (Option.some.inj h)
def f_X7_beyond (p0 : Int32) (p1 : Int32) (mo_rooms : Int32) (mparent : Nat → Int32) (mloop : Nat → Int32) : Option (Int32) := if p0 ≤ 0 then (f_X7_beyond_11 mo_rooms mparent mloop p0 p1 p1) else (f_X7_beyond_11 mo_rooms mparent mloop p0 p1 (p1 - (1 : Int32)))
set_option maxHeartbeats 4000000 in
set_option maxRecDepth 100000 in
theorem t_X7_beyond {p : Program} {l : Launch} {e : Env} {s : State} {m : MethodId} {args : Array Value} {below : List Frame} {meth : Method} {c : Code} {Q : State → Prop} {D : va_G} {kA : Nat → ClassId} {ad : Nat → Nat} {A : Nat → Prop} {mo_state : Int64} {mo_rooms : Int32} {mo_smallDoors : Int32} {mo_goal : Int32} {mo_now : Int32} {mo_last : Int32} {mo_count : Int32} {mparent : Nat → Int32} {mlevel : Nat → Int32} {mkind : Nat → Int32} {mnum : Nat → Int32} {mx : Nat → Int32} {my : Nat → Int32} {mlying : Nat → Int32} {msw : Nat → Int32} {mloop : Nat → Int32} {mchosen : Nat → Int32} {met : Nat → Int32} {p0 : Int32} {p1 : Int32} {res : Int32} (C : Cx p s m c args cX7_beyond 5 RX7 wsX7_beyond D kA A) (hret : ∀ (r : Int32) (H : Heap) (locs : List Loc) (ls : Array Slot) (pc : Nat), decode cX7_beyond pc = .ok (.ireturn, 1) → Wd D A s H locs (wM kA ad mo_state mo_rooms mo_smallDoors mo_goal mo_now mo_last mo_count mparent mlevel mkind mnum mx my mlying msw mloop mchosen met) → r = res → W p l e rm_X7_beyond s m args below meth c H locs 0 0 Q (F0 m pc ls [.int r])) {H : Heap} {locs : List Loc} {ls : Array Slot} (w : Wd D A s H locs (wM kA ad mo_state mo_rooms mo_smallDoors mo_goal mo_now mo_last mo_count mparent mlevel mkind mnum mx my mlying msw mloop mchosen met)) (hl : lv_has ls 5 [(0, .ref (ad 0)), (1, .int p0), (2, .int p1)]) (h : f_X7_beyond p0 p1 mo_rooms mparent mloop = some res) : W p l e rm_X7_beyond s m args below meth c H locs 0 0 Q (F0 m 0 ls []) := by
  obtain ⟨⟨hx, hb, hml, hown, hts⟩, hK, -, -⟩ := id C
  unfold f_X7_beyond at h
  refine lv_iload_n hx hb dX7_beyond_0 rfl (lv_at hl 1 rfl) ?_
  refine lv_if_le (tgt := 10) hx hb dX7_beyond_1 (by decide) (fun g12 => ?_) (fun g12 => ?_)
  · replace h := it_pos g12 h
    refine lv_iload_n hx hb dX7_beyond_10 rfl (lv_at hl 2 rfl) ?_
    exact t_X7_beyond_11 C  hret w (lv_sub hl [0, 1, 2] rfl) h
  · replace h := it_neg g12 h
    refine lv_iload_n hx hb dX7_beyond_4 rfl (lv_at hl 2 rfl) ?_
    refine lv_iconst (v := 1) hx hb dX7_beyond_5 (by decide) ?_
    refine lv_isub hx hb dX7_beyond_6 ?_
    refine lv_goto (tgt := 11) hx hb dX7_beyond_7 (by decide) ?_
    exact t_X7_beyond_11 C  hret w (lv_sub hl [0, 1, 2] rfl) h
set_option maxHeartbeats 4000000 in
set_option maxRecDepth 100000 in
theorem c_X7_beyond (l : Launch) (D : va_G) (kA : Nat → ClassId) (ad : Nat → Nat) (sz : Nat) (mo_state : Int64) (mo_rooms : Int32) (mo_smallDoors : Int32) (mo_goal : Int32) (mo_now : Int32) (mo_last : Int32) (mo_count : Int32) (mparent : Nat → Int32) (mlevel : Nat → Int32) (mkind : Nat → Int32) (mnum : Nat → Int32) (mx : Nat → Int32) (my : Nat → Int32) (mlying : Nat → Int32) (msw : Nat → Int32) (mloop : Nat → Int32) (mchosen : Nat → Int32) (met : Nat → Int32) (p0 : Int32) (p1 : Int32) {res : Int32} (h : f_X7_beyond p0 p1 mo_rooms mparent mloop = some res) : Ci l yX7_beyond wsX7_beyond rm_X7_beyond D kA [.ref (ad 0), .int p0, .int p1] sz (wM kA ad mo_state mo_rooms mo_smallDoors mo_goal mo_now mo_last mo_count mparent mlevel mkind mnum mx my mlying msw mloop mchosen met) (wM kA ad mo_state mo_rooms mo_smallDoors mo_goal mo_now mo_last mo_count mparent mlevel mkind mnum mx my mlying msw mloop mchosen met) res := by
  refine Met.ofW (cc := cX7_beyond) (maxL := 5) (ret := (some .int)) (by decide) rfl ?_
  intro p e s m args below meth c s₁ B hml hv
  obtain ⟨rfl, hsz, hP, hK, hD0, hX⟩ := hv
  subst hsz
  have hts := atoms_spec (ws := wsX7_beyond) B.pre
  have hl := lv_entry ([.ref (ad 0), .int p0, .int p1]) (n := 5) (Nat.le_of_ble_eq_true rfl)
  rw [lg_entry_eq]
  have hlocks := B.notSynchronized
  refine t_X7_beyond (A := va_A (wM kA ad mo_state mo_rooms mo_smallDoors mo_goal mo_now mo_last mo_count mparent mlevel mkind mnum mx my mlying msw mloop mchosen met) s.heap.size) ⟨⟨B.exec, B.bytes, hml, findClass_of_methodNamed B.named, hts⟩, hK, fun q h => Or.inr h, hX⟩ (fun r H locs ls pc hd w hres => ?_) ⟨hP, hD0.self, va_S.rf⟩ hl h
  subst hres
  exact W.iret B.exec B.bytes B.returns (fun t ht hW => ⟨⟨_, (), rfl, rfl, by rw [ht]; exact w.1, va_K.moved hW.alike hK, w.2.1⟩, w.2.2.F ht⟩) w.2.2.2.2 hd hlocks
-- ('wM', 'LockQuestModel', 'ones', '(I)I', (None,))
abbrev rm_X7_ones : Room := { frames := 0, cells := 0, slots := 0, locals := 0 }
def f_X7_ones (p0 : Int32)  : Option (Int32) := some (((p0 &&& (1 : Int32)) + ((p0 >>> ((1 : Int32) &&& 31)) &&& (1 : Int32))) + ((p0 >>> ((2 : Int32) &&& 31)) &&& (1 : Int32)))
set_option maxHeartbeats 4000000 in
set_option maxRecDepth 100000 in
theorem t_X7_ones {p : Program} {l : Launch} {e : Env} {s : State} {m : MethodId} {args : Array Value} {below : List Frame} {meth : Method} {c : Code} {Q : State → Prop} {D : va_G} {kA : Nat → ClassId} {ad : Nat → Nat} {A : Nat → Prop} {mo_state : Int64} {mo_rooms : Int32} {mo_smallDoors : Int32} {mo_goal : Int32} {mo_now : Int32} {mo_last : Int32} {mo_count : Int32} {mparent : Nat → Int32} {mlevel : Nat → Int32} {mkind : Nat → Int32} {mnum : Nat → Int32} {mx : Nat → Int32} {my : Nat → Int32} {mlying : Nat → Int32} {msw : Nat → Int32} {mloop : Nat → Int32} {mchosen : Nat → Int32} {met : Nat → Int32} {p0 : Int32} {res : Int32} (C : Cx p s m c args cX7_ones 1 RX7 wsX7_ones D kA A) (hret : ∀ (r : Int32) (H : Heap) (locs : List Loc) (ls : Array Slot) (pc : Nat), decode cX7_ones pc = .ok (.ireturn, 1) → Wd D A s H locs (wM kA ad mo_state mo_rooms mo_smallDoors mo_goal mo_now mo_last mo_count mparent mlevel mkind mnum mx my mlying msw mloop mchosen met) → r = res → W p l e rm_X7_ones s m args below meth c H locs 0 0 Q (F0 m pc ls [.int r])) {H : Heap} {locs : List Loc} {ls : Array Slot} (w : Wd D A s H locs (wM kA ad mo_state mo_rooms mo_smallDoors mo_goal mo_now mo_last mo_count mparent mlevel mkind mnum mx my mlying msw mloop mchosen met)) (hl : lv_has ls 1 [(0, .int p0)]) (h : f_X7_ones p0  = some res) : W p l e rm_X7_ones s m args below meth c H locs 0 0 Q (F0 m 0 ls []) := by
  obtain ⟨⟨hx, hb, hml, hown, hts⟩, hK, -, -⟩ := id C
  unfold f_X7_ones at h
  refine lv_iload_n hx hb dX7_ones_0 rfl (lv_at hl 0 rfl) ?_
  refine lv_iconst (v := 1) hx hb dX7_ones_1 (by decide) ?_
  refine lv_iand hx hb dX7_ones_2 ?_
  refine lv_iload_n hx hb dX7_ones_3 rfl (lv_at hl 0 rfl) ?_
  refine lv_iconst (v := 1) hx hb dX7_ones_4 (by decide) ?_
  refine lv_ishr hx hb dX7_ones_5 ?_
  refine lv_iconst (v := 1) hx hb dX7_ones_6 (by decide) ?_
  refine lv_iand hx hb dX7_ones_7 ?_
  refine lv_iadd hx hb dX7_ones_8 ?_
  refine lv_iload_n hx hb dX7_ones_9 rfl (lv_at hl 0 rfl) ?_
  refine lv_iconst (v := 2) hx hb dX7_ones_10 (by decide) ?_
  refine lv_ishr hx hb dX7_ones_11 ?_
  refine lv_iconst (v := 1) hx hb dX7_ones_12 (by decide) ?_
  refine lv_iand hx hb dX7_ones_13 ?_
  refine lv_iadd hx hb dX7_ones_14 ?_
  exact hret _ _ _ _ _ dX7_ones_15 w (Option.some.inj h)
set_option maxHeartbeats 4000000 in
set_option maxRecDepth 100000 in
theorem c_X7_ones (l : Launch) (D : va_G) (kA : Nat → ClassId) (ad : Nat → Nat) (sz : Nat) (mo_state : Int64) (mo_rooms : Int32) (mo_smallDoors : Int32) (mo_goal : Int32) (mo_now : Int32) (mo_last : Int32) (mo_count : Int32) (mparent : Nat → Int32) (mlevel : Nat → Int32) (mkind : Nat → Int32) (mnum : Nat → Int32) (mx : Nat → Int32) (my : Nat → Int32) (mlying : Nat → Int32) (msw : Nat → Int32) (mloop : Nat → Int32) (mchosen : Nat → Int32) (met : Nat → Int32) (p0 : Int32) {res : Int32} (h : f_X7_ones p0  = some res) : Ci l yX7_ones wsX7_ones rm_X7_ones D kA [.int p0] sz (wM kA ad mo_state mo_rooms mo_smallDoors mo_goal mo_now mo_last mo_count mparent mlevel mkind mnum mx my mlying msw mloop mchosen met) (wM kA ad mo_state mo_rooms mo_smallDoors mo_goal mo_now mo_last mo_count mparent mlevel mkind mnum mx my mlying msw mloop mchosen met) res := by
  refine Met.ofW (cc := cX7_ones) (maxL := 1) (ret := (some .int)) (by decide) rfl ?_
  intro p e s m args below meth c s₁ B hml hv
  obtain ⟨rfl, hsz, hP, hK, hD0, hX⟩ := hv
  subst hsz
  have hts := atoms_spec (ws := wsX7_ones) B.pre
  have hl := lv_entry ([.int p0]) (n := 1) (Nat.le_of_ble_eq_true rfl)
  rw [lg_entry_eq]
  have hlocks := B.notSynchronized
  refine t_X7_ones (A := va_A (wM kA ad mo_state mo_rooms mo_smallDoors mo_goal mo_now mo_last mo_count mparent mlevel mkind mnum mx my mlying msw mloop mchosen met) s.heap.size) ⟨⟨B.exec, B.bytes, hml, findClass_of_methodNamed B.named, hts⟩, hK, fun q h => Or.inr h, hX⟩ (fun r H locs ls pc hd w hres => ?_) ⟨hP, hD0.self, va_S.rf⟩ hl h
  subst hres
  exact W.iret B.exec B.bytes B.returns (fun t ht hW => ⟨⟨_, (), rfl, rfl, by rw [ht]; exact w.1, va_K.moved hW.alike hK, w.2.1⟩, w.2.2.F ht⟩) w.2.2.2.2 hd hlocks
-- ('wM', 'LockQuestModel', 'walked', '(II)I', ('mo', None, None))
abbrev rm_X7_walked : Room := { frames := 1, cells := 0, slots := 0, locals := 24 }
set_option maxRecDepth 20000 in
theorem lX7_walked_X7 : ∀ w ∈ wsX70, w ∈ wsX7_walked := by decide +kernel
set_option maxRecDepth 20000 in
theorem mX7_walked_1 : Cond.fieldLink RX7 7 "LockQuestModel" "parent" "[I" ∈ wsX7_walked := by decide +kernel
set_option maxRecDepth 20000 in
theorem mX7_walked_2 : Cond.fieldLink RX7 16 "LockQuestModel" "kind" "[I" ∈ wsX7_walked := by decide +kernel
set_option maxRecDepth 20000 in
theorem mX7_walked_3 : Cond.fieldLink RX7 19 "LockQuestModel" "number" "[I" ∈ wsX7_walked := by decide +kernel
set_option maxRecDepth 20000 in
theorem mX7_walked_4 : Cond.fieldLink RX7 13 "LockQuestModel" "level" "[I" ∈ wsX7_walked := by decide +kernel
def f_X7_walked_149 (mo_rooms : Int32) (mparent : Nat → Int32) (mlevel : Nat → Int32) (mkind : Nat → Int32) (mnum : Nat → Int32) (mloop : Nat → Int32) (x6 : Int32) (s0 : Int32) (s1 : Int32) : Option (Int32) := if s0 = s1 then (some x6) else (some (-1 : Int32))
set_option maxHeartbeats 4000000 in
set_option maxRecDepth 100000 in
theorem t_X7_walked_149 {p : Program} {l : Launch} {e : Env} {s : State} {m : MethodId} {args : Array Value} {below : List Frame} {meth : Method} {c : Code} {Q : State → Prop} {D : va_G} {kA : Nat → ClassId} {ad : Nat → Nat} {A : Nat → Prop} {mo_state : Int64} {mo_rooms : Int32} {mo_smallDoors : Int32} {mo_goal : Int32} {mo_now : Int32} {mo_last : Int32} {mo_count : Int32} {mparent : Nat → Int32} {mlevel : Nat → Int32} {mkind : Nat → Int32} {mnum : Nat → Int32} {mx : Nat → Int32} {my : Nat → Int32} {mlying : Nat → Int32} {msw : Nat → Int32} {mloop : Nat → Int32} {mchosen : Nat → Int32} {met : Nat → Int32} {x6 : Int32} {s0 : Int32} {s1 : Int32} {res : Int32} (C : Cx p s m c args cX7_walked 7 RX7 wsX7_walked D kA A) (hret : ∀ (r : Int32) (H : Heap) (locs : List Loc) (ls : Array Slot) (pc : Nat), decode cX7_walked pc = .ok (.ireturn, 1) → Wd D A s H locs (wM kA ad mo_state mo_rooms mo_smallDoors mo_goal mo_now mo_last mo_count mparent mlevel mkind mnum mx my mlying msw mloop mchosen met) → r = res → W p l e rm_X7_walked s m args below meth c H locs 0 0 Q (F0 m pc ls [.int r])) {H : Heap} {locs : List Loc} {ls : Array Slot} (w : Wd D A s H locs (wM kA ad mo_state mo_rooms mo_smallDoors mo_goal mo_now mo_last mo_count mparent mlevel mkind mnum mx my mlying msw mloop mchosen met)) (hl : lv_has ls 7 [(6, .int x6)]) (h : f_X7_walked_149 mo_rooms mparent mlevel mkind mnum mloop x6 s0 s1 = some res) : W p l e rm_X7_walked s m args below meth c H locs 0 0 Q (F0 m 149 ls [.int s1, .int s0]) := by
  obtain ⟨⟨hx, hb, hml, hown, hts⟩, hK, -, -⟩ := id C
  unfold f_X7_walked_149 at h
  refine lv_icmp_ne (tgt := 157) hx hb dX7_walked_149 (by decide) (fun g1 => ?_) (fun g1 => ?_)
  · replace h := it_neg g1 h
    refine lv_iconst (v := -1) hx hb dX7_walked_157 (by decide) ?_
    exact hret _ _ _ _ _ dX7_walked_158 w (Option.some.inj h)
  · replace h := it_pos g1 h
    refine lv_iload hx hb dX7_walked_152 (lv_at hl 0 rfl) ?_
    refine lv_goto (tgt := 158) hx hb dX7_walked_154 (by decide) ?_
    exact hret _ _ _ _ _ dX7_walked_158 w (Option.some.inj h)
def f_X7_walked_46 (mo_rooms : Int32) (mparent : Nat → Int32) (mlevel : Nat → Int32) (mkind : Nat → Int32) (mnum : Nat → Int32) (mloop : Nat → Int32) (x1 : Int32) (x4 : Int32) (s0 : Int32) : Option (Int32) := gd ((1024 : Int32) = 0) (if s0 < 0 then (some (((1024 : Int32) * x4) + (x1 - x1 / (1024 : Int32) * (1024 : Int32)))) else (gd (s0 < 0 ∨ 12 ≤ s0.toNatClampNeg) (if (mkind s0.toNatClampNeg) = 0 then (some (((1024 : Int32) * x4) + (x1 - x1 / (1024 : Int32) * (1024 : Int32)))) else (gd (s0 < 0 ∨ 12 ≤ s0.toNatClampNeg) (if (mkind s0.toNatClampNeg) = (1 : Int32) then (gd ((128 : Int32) = 0) (gd (s0 < 0 ∨ 12 ≤ s0.toNatClampNeg) (if (((x1 / (128 : Int32)) >>> (((mlevel s0.toNatClampNeg) - (1 : Int32)) &&& 31)) &&& (1 : Int32)) = (1 : Int32) then (some (((1024 : Int32) * x4) + (x1 - x1 / (1024 : Int32) * (1024 : Int32)))) else (some (-1 : Int32))))) else (gd (s0 < 0 ∨ 12 ≤ s0.toNatClampNeg) (if (mkind s0.toNatClampNeg) = (2 : Int32) then (gd ((2 : Int32) = 0) (gd (s0 < 0 ∨ 12 ≤ s0.toNatClampNeg) (if (((x1 / (2 : Int32)) >>> ((mnum s0.toNatClampNeg) &&& 31)) &&& (1 : Int32)) = (1 : Int32) then (some (((1024 : Int32) * x4) + (x1 - x1 / (1024 : Int32) * (1024 : Int32)))) else (gd ((16 : Int32) = 0) (gd ((8 : Int32) = 0) ((f_X7_ones ((x1 / (16 : Int32)) - (x1 / (16 : Int32)) / (8 : Int32) * (8 : Int32))).bind (fun u15 => gd ((2 : Int32) = 0) (gd ((8 : Int32) = 0) ((f_X7_ones ((x1 / (2 : Int32)) - (x1 / (2 : Int32)) / (8 : Int32) * (8 : Int32))).bind (fun u18 => if u15 ≤ u18 then (some (-1 : Int32)) else (gd (s0 < 0 ∨ 12 ≤ s0.toNatClampNeg) (some ((((1024 : Int32) * x4) + (x1 - x1 / (1024 : Int32) * (1024 : Int32))) + ((2 : Int32) <<< ((mnum s0.toNatClampNeg) &&& 31))))))))))))))) else (gd ((2 : Int32) = 0) (gd (s0 < 0 ∨ 12 ≤ s0.toNatClampNeg) (if (mkind s0.toNatClampNeg) = (3 : Int32) then (f_X7_walked_149 mo_rooms mparent mlevel mkind mnum mloop (((1024 : Int32) * x4) + (x1 - x1 / (1024 : Int32) * (1024 : Int32))) (x1 - x1 / (2 : Int32) * (2 : Int32)) (0 : Int32)) else (f_X7_walked_149 mo_rooms mparent mlevel mkind mnum mloop (((1024 : Int32) * x4) + (x1 - x1 / (1024 : Int32) * (1024 : Int32))) (x1 - x1 / (2 : Int32) * (2 : Int32)) (1 : Int32))))))))))))
set_option maxHeartbeats 4000000 in
set_option maxRecDepth 100000 in
theorem t_X7_walked_46 {p : Program} {l : Launch} {e : Env} {s : State} {m : MethodId} {args : Array Value} {below : List Frame} {meth : Method} {c : Code} {Q : State → Prop} {D : va_G} {kA : Nat → ClassId} {ad : Nat → Nat} {A : Nat → Prop} {mo_state : Int64} {mo_rooms : Int32} {mo_smallDoors : Int32} {mo_goal : Int32} {mo_now : Int32} {mo_last : Int32} {mo_count : Int32} {mparent : Nat → Int32} {mlevel : Nat → Int32} {mkind : Nat → Int32} {mnum : Nat → Int32} {mx : Nat → Int32} {my : Nat → Int32} {mlying : Nat → Int32} {msw : Nat → Int32} {mloop : Nat → Int32} {mchosen : Nat → Int32} {met : Nat → Int32} {x1 : Int32} {x4 : Int32} {s0 : Int32} {res : Int32} (C : Cx p s m c args cX7_walked 7 RX7 wsX7_walked D kA A) (hret : ∀ (r : Int32) (H : Heap) (locs : List Loc) (ls : Array Slot) (pc : Nat), decode cX7_walked pc = .ok (.ireturn, 1) → Wd D A s H locs (wM kA ad mo_state mo_rooms mo_smallDoors mo_goal mo_now mo_last mo_count mparent mlevel mkind mnum mx my mlying msw mloop mchosen met) → r = res → W p l e rm_X7_walked s m args below meth c H locs 0 0 Q (F0 m pc ls [.int r])) {H : Heap} {locs : List Loc} {ls : Array Slot} (w : Wd D A s H locs (wM kA ad mo_state mo_rooms mo_smallDoors mo_goal mo_now mo_last mo_count mparent mlevel mkind mnum mx my mlying msw mloop mchosen met)) (hl : lv_has ls 7 [(0, .ref (ad 0)), (1, .int x1), (4, .int x4)]) (h : f_X7_walked_46 mo_rooms mparent mlevel mkind mnum mloop x1 x4 s0 = some res) : W p l e rm_X7_walked s m args below meth c H locs 0 0 Q (F0 m 46 ls [.int s0]) := by
  obtain ⟨⟨hx, hb, hml, hown, hts⟩, hK, -, -⟩ := id C
  unfold f_X7_walked_46 at h
  refine lv_istore (lv' := [(5, .int s0), (0, .ref (ad 0)), (1, .int x1), (4, .int x4)]) hx hb dX7_walked_46 hl (by decide) rfl (fun ls hl => ?_)
  refine lv_sipush (v := 1024) hx hb dX7_walked_48 (by decide) ?_
  refine lv_iload hx hb dX7_walked_51 (lv_at hl 3 rfl) ?_
  refine lv_imul hx hb dX7_walked_53 ?_
  refine lv_iload_n hx hb dX7_walked_54 rfl (lv_at hl 2 rfl) ?_
  refine lv_sipush (v := 1024) hx hb dX7_walked_55 (by decide) ?_
  obtain ⟨g2, h⟩ := gd_some h
  refine lv_irem hx hb dX7_walked_58 g2 ?_
  refine lv_iadd hx hb dX7_walked_59 ?_
  refine lv_istore (lv' := [(6, .int (((1024 : Int32) * x4) + (x1 - x1 / (1024 : Int32) * (1024 : Int32)))), (5, .int s0), (0, .ref (ad 0)), (1, .int x1), (4, .int x4)]) hx hb dX7_walked_60 hl (by decide) rfl (fun ls hl => ?_)
  refine lv_iload hx hb dX7_walked_62 (lv_at hl 1 rfl) ?_
  refine lv_if_lt (tgt := 77) hx hb dX7_walked_64 (by decide) (fun g3 => ?_) (fun g3 => ?_)
  · replace h := it_pos g3 h
    refine lv_iload hx hb dX7_walked_77 (lv_at hl 0 rfl) ?_
    exact hret _ _ _ _ _ dX7_walked_79 w (Option.some.inj h)
  · replace h := it_neg g3 h
    refine lv_aload_n hx hb dX7_walked_67 rfl (lv_at hl 2 rfl) ?_
    refine va_get (D := D) (ci := 6) (v := .ref (ad 3)) (C := RX7) (T := TX7) (N := 18) hx hb hts lX7_walked_X7 hown hK w.1 0 rfl rfl 6 (by decide) (hts _ mX7_walked_2) (fun _ h9 => h9) rfl dX7_walked_68 ?_
    refine lv_iload hx hb dX7_walked_71 (lv_at hl 1 rfl) ?_
    obtain ⟨g4, h⟩ := gd_some h
    refine va_iald hx hb hK w.1 3 0 rfl rfl g4 dX7_walked_73 ?_
    refine lv_if_ne (tgt := 80) hx hb dX7_walked_74 (by decide) (fun g5 => ?_) (fun g5 => ?_)
    · replace h := it_neg g5 h
      refine lv_aload_n hx hb dX7_walked_80 rfl (lv_at hl 2 rfl) ?_
      refine va_get (D := D) (ci := 6) (v := .ref (ad 3)) (C := RX7) (T := TX7) (N := 18) hx hb hts lX7_walked_X7 hown hK w.1 0 rfl rfl 6 (by decide) (hts _ mX7_walked_2) (fun _ h9 => h9) rfl dX7_walked_81 ?_
      refine lv_iload hx hb dX7_walked_84 (lv_at hl 1 rfl) ?_
      obtain ⟨g6, h⟩ := gd_some h
      refine va_iald hx hb hK w.1 3 0 rfl rfl g6 dX7_walked_86 ?_
      refine lv_iconst (v := 1) hx hb dX7_walked_87 (by decide) ?_
      refine lv_icmp_ne (tgt := 119) hx hb dX7_walked_88 (by decide) (fun g7 => ?_) (fun g7 => ?_)
      · replace h := it_neg g7 h
        refine lv_aload_n hx hb dX7_walked_119 rfl (lv_at hl 2 rfl) ?_
        refine va_get (D := D) (ci := 6) (v := .ref (ad 3)) (C := RX7) (T := TX7) (N := 18) hx hb hts lX7_walked_X7 hown hK w.1 0 rfl rfl 6 (by decide) (hts _ mX7_walked_2) (fun _ h9 => h9) rfl dX7_walked_120 ?_
        refine lv_iload hx hb dX7_walked_123 (lv_at hl 1 rfl) ?_
        obtain ⟨g8, h⟩ := gd_some h
        refine va_iald hx hb hK w.1 3 0 rfl rfl g8 dX7_walked_125 ?_
        refine lv_iconst (v := 2) hx hb dX7_walked_126 (by decide) ?_
        refine lv_icmp_eq (tgt := 159) hx hb dX7_walked_127 (by decide) (fun g9 => ?_) (fun g9 => ?_)
        · replace h := it_pos g9 h
          refine lv_iload_n hx hb dX7_walked_159 rfl (lv_at hl 3 rfl) ?_
          refine lv_iconst (v := 2) hx hb dX7_walked_160 (by decide) ?_
          obtain ⟨g10, h⟩ := gd_some h
          refine lv_idiv hx hb dX7_walked_161 g10 ?_
          refine lv_aload_n hx hb dX7_walked_162 rfl (lv_at hl 2 rfl) ?_
          refine va_get (D := D) (ci := 6) (v := .ref (ad 4)) (C := RX7) (T := TX7) (N := 18) hx hb hts lX7_walked_X7 hown hK w.1 0 rfl rfl 7 (by decide) (hts _ mX7_walked_3) (fun _ h9 => h9) rfl dX7_walked_163 ?_
          refine lv_iload hx hb dX7_walked_166 (lv_at hl 1 rfl) ?_
          obtain ⟨g11, h⟩ := gd_some h
          refine va_iald hx hb hK w.1 4 0 rfl rfl g11 dX7_walked_168 ?_
          refine lv_ishr hx hb dX7_walked_169 ?_
          refine lv_iconst (v := 1) hx hb dX7_walked_170 (by decide) ?_
          refine lv_iand hx hb dX7_walked_171 ?_
          refine lv_iconst (v := 1) hx hb dX7_walked_172 (by decide) ?_
          refine lv_icmp_ne (tgt := 179) hx hb dX7_walked_173 (by decide) (fun g12 => ?_) (fun g12 => ?_)
          · replace h := it_neg g12 h
            refine lv_iload_n hx hb dX7_walked_179 rfl (lv_at hl 3 rfl) ?_
            refine lv_bipush (v := 16) hx hb dX7_walked_180 (by decide) ?_
            obtain ⟨g13, h⟩ := gd_some h
            refine lv_idiv hx hb dX7_walked_182 g13 ?_
            refine lv_bipush (v := 8) hx hb dX7_walked_183 (by decide) ?_
            obtain ⟨g14, h⟩ := gd_some h
            refine lv_irem hx hb dX7_walked_185 g14 ?_
            obtain ⟨u15, hc15, h⟩ := bd_some h
            refine gl_calli C w (va_runS (As := [.int ((x1 / (16 : Int32)) - (x1 / (16 : Int32)) / (8 : Int32) * (8 : Int32))]) (rest := []) ⟨hx, hb, hml, hown, hts⟩ (c_X7_ones l D kA ad H.size mo_state mo_rooms mo_smallDoors mo_goal mo_now mo_last mo_count mparent mlevel mkind mnum mx my mlying msw mloop mchosen met ((x1 / (16 : Int32)) - (x1 / (16 : Int32)) / (8 : Int32) * (8 : Int32)) hc15) (va_cwS 1 hts gX7_walked_X7_ones rfl rfl rfl (by decide +kernel) ⟨Nat.le_of_ble_eq_true rfl, Nat.le_of_ble_eq_true rfl⟩) (Wd.preS C w) rfl rfl hl.1 rfl (lv_room (Nat.le_of_ble_eq_true rfl)) dX7_walked_186 ⟨Nat.zero_le _, Nat.zero_le _⟩) (fun H locs w => ?_)
            refine lv_iload_n hx hb dX7_walked_189 rfl (lv_at hl 3 rfl) ?_
            refine lv_iconst (v := 2) hx hb dX7_walked_190 (by decide) ?_
            obtain ⟨g16, h⟩ := gd_some h
            refine lv_idiv hx hb dX7_walked_191 g16 ?_
            refine lv_bipush (v := 8) hx hb dX7_walked_192 (by decide) ?_
            obtain ⟨g17, h⟩ := gd_some h
            refine lv_irem hx hb dX7_walked_194 g17 ?_
            obtain ⟨u18, hc18, h⟩ := bd_some h
            refine gl_calli C w (va_runS (As := [.int ((x1 / (2 : Int32)) - (x1 / (2 : Int32)) / (8 : Int32) * (8 : Int32))]) (rest := [.int u15]) ⟨hx, hb, hml, hown, hts⟩ (c_X7_ones l D kA ad H.size mo_state mo_rooms mo_smallDoors mo_goal mo_now mo_last mo_count mparent mlevel mkind mnum mx my mlying msw mloop mchosen met ((x1 / (2 : Int32)) - (x1 / (2 : Int32)) / (8 : Int32) * (8 : Int32)) hc18) (va_cwS 1 hts gX7_walked_X7_ones rfl rfl rfl (by decide +kernel) ⟨Nat.le_of_ble_eq_true rfl, Nat.le_of_ble_eq_true rfl⟩) (Wd.preS C w) rfl rfl hl.1 rfl (lv_room (Nat.le_of_ble_eq_true rfl)) dX7_walked_195 ⟨Nat.zero_le _, Nat.zero_le _⟩) (fun H locs w => ?_)
            refine lv_icmp_le (tgt := 216) hx hb dX7_walked_198 (by decide) (fun g19 => ?_) (fun g19 => ?_)
            · replace h := it_pos g19 h
              refine lv_iconst (v := -1) hx hb dX7_walked_216 (by decide) ?_
              exact hret _ _ _ _ _ dX7_walked_217 w (Option.some.inj h)
            · replace h := it_neg g19 h
              refine lv_iload hx hb dX7_walked_201 (lv_at hl 0 rfl) ?_
              refine lv_iconst (v := 2) hx hb dX7_walked_203 (by decide) ?_
              refine lv_aload_n hx hb dX7_walked_204 rfl (lv_at hl 2 rfl) ?_
              refine va_get (D := D) (ci := 6) (v := .ref (ad 4)) (C := RX7) (T := TX7) (N := 18) hx hb hts lX7_walked_X7 hown hK w.1 0 rfl rfl 7 (by decide) (hts _ mX7_walked_3) (fun _ h9 => h9) rfl dX7_walked_205 ?_
              refine lv_iload hx hb dX7_walked_208 (lv_at hl 1 rfl) ?_
              obtain ⟨g20, h⟩ := gd_some h
              refine va_iald hx hb hK w.1 4 0 rfl rfl g20 dX7_walked_210 ?_
              refine lv_ishl hx hb dX7_walked_211 ?_
              refine lv_iadd hx hb dX7_walked_212 ?_
              refine lv_goto (tgt := 217) hx hb dX7_walked_213 (by decide) ?_
              exact hret _ _ _ _ _ dX7_walked_217 w (Option.some.inj h)
          · replace h := it_pos g12 h
            refine lv_iload hx hb dX7_walked_176 (lv_at hl 0 rfl) ?_
            exact hret _ _ _ _ _ dX7_walked_178 w (Option.some.inj h)
        · replace h := it_neg g9 h
          refine lv_iload_n hx hb dX7_walked_130 rfl (lv_at hl 3 rfl) ?_
          refine lv_iconst (v := 2) hx hb dX7_walked_131 (by decide) ?_
          obtain ⟨g21, h⟩ := gd_some h
          refine lv_irem hx hb dX7_walked_132 g21 ?_
          refine lv_aload_n hx hb dX7_walked_133 rfl (lv_at hl 2 rfl) ?_
          refine va_get (D := D) (ci := 6) (v := .ref (ad 3)) (C := RX7) (T := TX7) (N := 18) hx hb hts lX7_walked_X7 hown hK w.1 0 rfl rfl 6 (by decide) (hts _ mX7_walked_2) (fun _ h9 => h9) rfl dX7_walked_134 ?_
          refine lv_iload hx hb dX7_walked_137 (lv_at hl 1 rfl) ?_
          obtain ⟨g22, h⟩ := gd_some h
          refine va_iald hx hb hK w.1 3 0 rfl rfl g22 dX7_walked_139 ?_
          refine lv_iconst (v := 3) hx hb dX7_walked_140 (by decide) ?_
          refine lv_icmp_ne (tgt := 148) hx hb dX7_walked_141 (by decide) (fun g23 => ?_) (fun g23 => ?_)
          · replace h := it_neg g23 h
            refine lv_iconst (v := 1) hx hb dX7_walked_148 (by decide) ?_
            exact t_X7_walked_149 C  hret w (lv_sub hl [0] rfl) h
          · replace h := it_pos g23 h
            refine lv_iconst (v := 0) hx hb dX7_walked_144 (by decide) ?_
            refine lv_goto (tgt := 149) hx hb dX7_walked_145 (by decide) ?_
            exact t_X7_walked_149 C  hret w (lv_sub hl [0] rfl) h
      · replace h := it_pos g7 h
        refine lv_iload_n hx hb dX7_walked_91 rfl (lv_at hl 3 rfl) ?_
        refine lv_sipush (v := 128) hx hb dX7_walked_92 (by decide) ?_
        obtain ⟨g24, h⟩ := gd_some h
        refine lv_idiv hx hb dX7_walked_95 g24 ?_
        refine lv_aload_n hx hb dX7_walked_96 rfl (lv_at hl 2 rfl) ?_
        refine va_get (D := D) (ci := 6) (v := .ref (ad 2)) (C := RX7) (T := TX7) (N := 18) hx hb hts lX7_walked_X7 hown hK w.1 0 rfl rfl 5 (by decide) (hts _ mX7_walked_4) (fun _ h9 => h9) rfl dX7_walked_97 ?_
        refine lv_iload hx hb dX7_walked_100 (lv_at hl 1 rfl) ?_
        obtain ⟨g25, h⟩ := gd_some h
        refine va_iald hx hb hK w.1 2 0 rfl rfl g25 dX7_walked_102 ?_
        refine lv_iconst (v := 1) hx hb dX7_walked_103 (by decide) ?_
        refine lv_isub hx hb dX7_walked_104 ?_
        refine lv_ishr hx hb dX7_walked_105 ?_
        refine lv_iconst (v := 1) hx hb dX7_walked_106 (by decide) ?_
        refine lv_iand hx hb dX7_walked_107 ?_
        refine lv_iconst (v := 1) hx hb dX7_walked_108 (by decide) ?_
        refine lv_icmp_ne (tgt := 117) hx hb dX7_walked_109 (by decide) (fun g26 => ?_) (fun g26 => ?_)
        · replace h := it_neg g26 h
          refine lv_iconst (v := -1) hx hb dX7_walked_117 (by decide) ?_
          exact hret _ _ _ _ _ dX7_walked_118 w (Option.some.inj h)
        · replace h := it_pos g26 h
          refine lv_iload hx hb dX7_walked_112 (lv_at hl 0 rfl) ?_
          refine lv_goto (tgt := 118) hx hb dX7_walked_114 (by decide) ?_
          exact hret _ _ _ _ _ dX7_walked_118 w (Option.some.inj h)
    · replace h := it_pos g5 h
      refine lv_iload hx hb dX7_walked_77 (lv_at hl 0 rfl) ?_
      exact hret _ _ _ _ _ dX7_walked_79 w (Option.some.inj h)
def f_X7_walked (p0 : Int32) (p1 : Int32) (mo_rooms : Int32) (mparent : Nat → Int32) (mlevel : Nat → Int32) (mkind : Nat → Int32) (mnum : Nat → Int32) (mloop : Nat → Int32) : Option (Int32) := gd ((1024 : Int32) = 0) ((f_X7_beyond (p0 / (1024 : Int32)) p1 mo_rooms mparent mloop).bind (fun u28 => gd ((p0 / (1024 : Int32)) < 0 ∨ 12 ≤ (p0 / (1024 : Int32)).toNatClampNeg) (if (mparent (p0 / (1024 : Int32)).toNatClampNeg) = u28 then (f_X7_walked_46 mo_rooms mparent mlevel mkind mnum mloop p0 u28 (p0 / (1024 : Int32))) else (gd (u28 < 0 ∨ 12 ≤ u28.toNatClampNeg) (if (mparent u28.toNatClampNeg) = (p0 / (1024 : Int32)) then (f_X7_walked_46 mo_rooms mparent mlevel mkind mnum mloop p0 u28 u28) else (f_X7_walked_46 mo_rooms mparent mlevel mkind mnum mloop p0 u28 (-1 : Int32)))))))
set_option maxHeartbeats 4000000 in
set_option maxRecDepth 100000 in
theorem t_X7_walked {p : Program} {l : Launch} {e : Env} {s : State} {m : MethodId} {args : Array Value} {below : List Frame} {meth : Method} {c : Code} {Q : State → Prop} {D : va_G} {kA : Nat → ClassId} {ad : Nat → Nat} {A : Nat → Prop} {mo_state : Int64} {mo_rooms : Int32} {mo_smallDoors : Int32} {mo_goal : Int32} {mo_now : Int32} {mo_last : Int32} {mo_count : Int32} {mparent : Nat → Int32} {mlevel : Nat → Int32} {mkind : Nat → Int32} {mnum : Nat → Int32} {mx : Nat → Int32} {my : Nat → Int32} {mlying : Nat → Int32} {msw : Nat → Int32} {mloop : Nat → Int32} {mchosen : Nat → Int32} {met : Nat → Int32} {p0 : Int32} {p1 : Int32} {res : Int32} (C : Cx p s m c args cX7_walked 7 RX7 wsX7_walked D kA A) (hret : ∀ (r : Int32) (H : Heap) (locs : List Loc) (ls : Array Slot) (pc : Nat), decode cX7_walked pc = .ok (.ireturn, 1) → Wd D A s H locs (wM kA ad mo_state mo_rooms mo_smallDoors mo_goal mo_now mo_last mo_count mparent mlevel mkind mnum mx my mlying msw mloop mchosen met) → r = res → W p l e rm_X7_walked s m args below meth c H locs 0 0 Q (F0 m pc ls [.int r])) {H : Heap} {locs : List Loc} {ls : Array Slot} (w : Wd D A s H locs (wM kA ad mo_state mo_rooms mo_smallDoors mo_goal mo_now mo_last mo_count mparent mlevel mkind mnum mx my mlying msw mloop mchosen met)) (hl : lv_has ls 7 [(0, .ref (ad 0)), (1, .int p0), (2, .int p1)]) (h : f_X7_walked p0 p1 mo_rooms mparent mlevel mkind mnum mloop = some res) : W p l e rm_X7_walked s m args below meth c H locs 0 0 Q (F0 m 0 ls []) := by
  obtain ⟨⟨hx, hb, hml, hown, hts⟩, hK, -, -⟩ := id C
  unfold f_X7_walked at h
  refine lv_iload_n hx hb dX7_walked_0 rfl (lv_at hl 1 rfl) ?_
  refine lv_sipush (v := 1024) hx hb dX7_walked_1 (by decide) ?_
  obtain ⟨g27, h⟩ := gd_some h
  refine lv_idiv hx hb dX7_walked_4 g27 ?_
  refine lv_istore_n (lv' := [(3, .int (p0 / (1024 : Int32))), (0, .ref (ad 0)), (1, .int p0), (2, .int p1)]) hx hb dX7_walked_5 rfl hl (by decide) rfl (fun ls hl => ?_)
  refine lv_aload_n hx hb dX7_walked_6 rfl (lv_at hl 1 rfl) ?_
  refine lv_iload_n hx hb dX7_walked_7 rfl (lv_at hl 0 rfl) ?_
  refine lv_iload_n hx hb dX7_walked_8 rfl (lv_at hl 3 rfl) ?_
  obtain ⟨u28, hc28, h⟩ := bd_some h
  refine gl_calli C w (va_runV (As := [.int (p0 / (1024 : Int32)), .int p1]) (rest := []) ⟨hx, hb, hml, hown, hts⟩ (c_X7_beyond l D kA ad H.size mo_state mo_rooms mo_smallDoors mo_goal mo_now mo_last mo_count mparent mlevel mkind mnum mx my mlying msw mloop mchosen met (p0 / (1024 : Int32)) p1 hc28) (cwV 2 hts gX7_walked_X7_beyond rfl rfl rfl (by decide +kernel) ⟨Nat.le_of_ble_eq_true rfl, Nat.le_of_ble_eq_true rfl⟩) (Wd.preV C w (q0 := 0) (ci := 6) rfl rfl rfl) rfl rfl hl.1 rfl (lv_room (Nat.le_of_ble_eq_true rfl)) dX7_walked_9 ⟨Nat.zero_le _, Nat.zero_le _⟩) (fun H locs w => ?_)
  refine lv_istore (lv' := [(4, .int u28), (3, .int (p0 / (1024 : Int32))), (0, .ref (ad 0)), (1, .int p0), (2, .int p1)]) hx hb dX7_walked_12 hl (by decide) rfl (fun ls hl => ?_)
  refine lv_aload_n hx hb dX7_walked_14 rfl (lv_at hl 2 rfl) ?_
  refine va_get (D := D) (ci := 6) (v := .ref (ad 1)) (C := RX7) (T := TX7) (N := 18) hx hb hts lX7_walked_X7 hown hK w.1 0 rfl rfl 4 (by decide) (hts _ mX7_walked_1) (fun _ h9 => h9) rfl dX7_walked_15 ?_
  refine lv_iload_n hx hb dX7_walked_18 rfl (lv_at hl 1 rfl) ?_
  obtain ⟨g29, h⟩ := gd_some h
  refine va_iald hx hb hK w.1 1 0 rfl rfl g29 dX7_walked_19 ?_
  refine lv_iload hx hb dX7_walked_20 (lv_at hl 0 rfl) ?_
  refine lv_icmp_ne (tgt := 29) hx hb dX7_walked_22 (by decide) (fun g30 => ?_) (fun g30 => ?_)
  · replace h := it_neg g30 h
    refine lv_aload_n hx hb dX7_walked_29 rfl (lv_at hl 2 rfl) ?_
    refine va_get (D := D) (ci := 6) (v := .ref (ad 1)) (C := RX7) (T := TX7) (N := 18) hx hb hts lX7_walked_X7 hown hK w.1 0 rfl rfl 4 (by decide) (hts _ mX7_walked_1) (fun _ h9 => h9) rfl dX7_walked_30 ?_
    refine lv_iload hx hb dX7_walked_33 (lv_at hl 0 rfl) ?_
    obtain ⟨g31, h⟩ := gd_some h
    refine va_iald hx hb hK w.1 1 0 rfl rfl g31 dX7_walked_35 ?_
    refine lv_iload_n hx hb dX7_walked_36 rfl (lv_at hl 1 rfl) ?_
    refine lv_icmp_ne (tgt := 45) hx hb dX7_walked_37 (by decide) (fun g32 => ?_) (fun g32 => ?_)
    · replace h := it_neg g32 h
      refine lv_iconst (v := -1) hx hb dX7_walked_45 (by decide) ?_
      exact t_X7_walked_46 C  hret w (lv_sub hl [2, 3, 0] rfl) h
    · replace h := it_pos g32 h
      refine lv_iload hx hb dX7_walked_40 (lv_at hl 0 rfl) ?_
      refine lv_goto (tgt := 46) hx hb dX7_walked_42 (by decide) ?_
      exact t_X7_walked_46 C  hret w (lv_sub hl [2, 3, 0] rfl) h
  · replace h := it_pos g30 h
    refine lv_iload_n hx hb dX7_walked_25 rfl (lv_at hl 1 rfl) ?_
    refine lv_goto (tgt := 46) hx hb dX7_walked_26 (by decide) ?_
    exact t_X7_walked_46 C  hret w (lv_sub hl [2, 3, 0] rfl) h
set_option maxHeartbeats 4000000 in
set_option maxRecDepth 100000 in
theorem c_X7_walked (l : Launch) (D : va_G) (kA : Nat → ClassId) (ad : Nat → Nat) (sz : Nat) (mo_state : Int64) (mo_rooms : Int32) (mo_smallDoors : Int32) (mo_goal : Int32) (mo_now : Int32) (mo_last : Int32) (mo_count : Int32) (mparent : Nat → Int32) (mlevel : Nat → Int32) (mkind : Nat → Int32) (mnum : Nat → Int32) (mx : Nat → Int32) (my : Nat → Int32) (mlying : Nat → Int32) (msw : Nat → Int32) (mloop : Nat → Int32) (mchosen : Nat → Int32) (met : Nat → Int32) (p0 : Int32) (p1 : Int32) {res : Int32} (h : f_X7_walked p0 p1 mo_rooms mparent mlevel mkind mnum mloop = some res) : Ci l yX7_walked wsX7_walked rm_X7_walked D kA [.ref (ad 0), .int p0, .int p1] sz (wM kA ad mo_state mo_rooms mo_smallDoors mo_goal mo_now mo_last mo_count mparent mlevel mkind mnum mx my mlying msw mloop mchosen met) (wM kA ad mo_state mo_rooms mo_smallDoors mo_goal mo_now mo_last mo_count mparent mlevel mkind mnum mx my mlying msw mloop mchosen met) res := by
  refine Met.ofW (cc := cX7_walked) (maxL := 7) (ret := (some .int)) (by decide) rfl ?_
  intro p e s m args below meth c s₁ B hml hv
  obtain ⟨rfl, hsz, hP, hK, hD0, hX⟩ := hv
  subst hsz
  have hts := atoms_spec (ws := wsX7_walked) B.pre
  have hl := lv_entry ([.ref (ad 0), .int p0, .int p1]) (n := 7) (Nat.le_of_ble_eq_true rfl)
  rw [lg_entry_eq]
  have hlocks := B.notSynchronized
  refine t_X7_walked (A := va_A (wM kA ad mo_state mo_rooms mo_smallDoors mo_goal mo_now mo_last mo_count mparent mlevel mkind mnum mx my mlying msw mloop mchosen met) s.heap.size) ⟨⟨B.exec, B.bytes, hml, findClass_of_methodNamed B.named, hts⟩, hK, fun q h => Or.inr h, hX⟩ (fun r H locs ls pc hd w hres => ?_) ⟨hP, hD0.self, va_S.rf⟩ hl h
  subst hres
  exact W.iret B.exec B.bytes B.returns (fun t ht hW => ⟨⟨_, (), rfl, rfl, by rw [ht]; exact w.1, va_K.moved hW.alike hK, w.2.1⟩, w.2.2.F ht⟩) w.2.2.2.2 hd hlocks
-- ('wM', 'LockQuestModel', 'takeable', '(I)I', ('mo', None))
abbrev rm_X7_takeable : Room := { frames := 0, cells := 0, slots := 0, locals := 0 }
set_option maxRecDepth 20000 in
theorem lX7_takeable_X7 : ∀ w ∈ wsX70, w ∈ wsX7_takeable := by decide +kernel
set_option maxRecDepth 20000 in
theorem mX7_takeable_1 : Cond.fieldLink RX7 28 "LockQuestModel" "lying" "[I" ∈ wsX7_takeable := by decide +kernel
def f_X7_takeable (p0 : Int32) (mlying : Nat → Int32) : Option (Int32) := gd ((128 : Int32) = 0) (gd ((8 : Int32) = 0) (gd ((16 : Int32) = 0) (gd ((8 : Int32) = 0) (gd ((1024 : Int32) = 0) (gd ((p0 / (1024 : Int32)) < 0 ∨ 12 ≤ (p0 / (1024 : Int32)).toNatClampNeg) (some ((mlying (p0 / (1024 : Int32)).toNatClampNeg) &&& ((((p0 / (128 : Int32)) - (p0 / (128 : Int32)) / (8 : Int32) * (8 : Int32)) + ((8 : Int32) * ((p0 / (16 : Int32)) - (p0 / (16 : Int32)) / (8 : Int32) * (8 : Int32)))) ^^^ (-1 : Int32)))))))))
set_option maxHeartbeats 4000000 in
set_option maxRecDepth 100000 in
theorem t_X7_takeable {p : Program} {l : Launch} {e : Env} {s : State} {m : MethodId} {args : Array Value} {below : List Frame} {meth : Method} {c : Code} {Q : State → Prop} {D : va_G} {kA : Nat → ClassId} {ad : Nat → Nat} {A : Nat → Prop} {mo_state : Int64} {mo_rooms : Int32} {mo_smallDoors : Int32} {mo_goal : Int32} {mo_now : Int32} {mo_last : Int32} {mo_count : Int32} {mparent : Nat → Int32} {mlevel : Nat → Int32} {mkind : Nat → Int32} {mnum : Nat → Int32} {mx : Nat → Int32} {my : Nat → Int32} {mlying : Nat → Int32} {msw : Nat → Int32} {mloop : Nat → Int32} {mchosen : Nat → Int32} {met : Nat → Int32} {p0 : Int32} {res : Int32} (C : Cx p s m c args cX7_takeable 3 RX7 wsX7_takeable D kA A) (hret : ∀ (r : Int32) (H : Heap) (locs : List Loc) (ls : Array Slot) (pc : Nat), decode cX7_takeable pc = .ok (.ireturn, 1) → Wd D A s H locs (wM kA ad mo_state mo_rooms mo_smallDoors mo_goal mo_now mo_last mo_count mparent mlevel mkind mnum mx my mlying msw mloop mchosen met) → r = res → W p l e rm_X7_takeable s m args below meth c H locs 0 0 Q (F0 m pc ls [.int r])) {H : Heap} {locs : List Loc} {ls : Array Slot} (w : Wd D A s H locs (wM kA ad mo_state mo_rooms mo_smallDoors mo_goal mo_now mo_last mo_count mparent mlevel mkind mnum mx my mlying msw mloop mchosen met)) (hl : lv_has ls 3 [(0, .ref (ad 0)), (1, .int p0)]) (h : f_X7_takeable p0 mlying = some res) : W p l e rm_X7_takeable s m args below meth c H locs 0 0 Q (F0 m 0 ls []) := by
  obtain ⟨⟨hx, hb, hml, hown, hts⟩, hK, -, -⟩ := id C
  unfold f_X7_takeable at h
  refine lv_iload_n hx hb dX7_takeable_0 rfl (lv_at hl 1 rfl) ?_
  refine lv_sipush (v := 128) hx hb dX7_takeable_1 (by decide) ?_
  obtain ⟨g1, h⟩ := gd_some h
  refine lv_idiv hx hb dX7_takeable_4 g1 ?_
  refine lv_bipush (v := 8) hx hb dX7_takeable_5 (by decide) ?_
  obtain ⟨g2, h⟩ := gd_some h
  refine lv_irem hx hb dX7_takeable_7 g2 ?_
  refine lv_bipush (v := 8) hx hb dX7_takeable_8 (by decide) ?_
  refine lv_iload_n hx hb dX7_takeable_10 rfl (lv_at hl 1 rfl) ?_
  refine lv_bipush (v := 16) hx hb dX7_takeable_11 (by decide) ?_
  obtain ⟨g3, h⟩ := gd_some h
  refine lv_idiv hx hb dX7_takeable_13 g3 ?_
  refine lv_bipush (v := 8) hx hb dX7_takeable_14 (by decide) ?_
  obtain ⟨g4, h⟩ := gd_some h
  refine lv_irem hx hb dX7_takeable_16 g4 ?_
  refine lv_imul hx hb dX7_takeable_17 ?_
  refine lv_iadd hx hb dX7_takeable_18 ?_
  refine lv_istore_n (lv' := [(2, .int (((p0 / (128 : Int32)) - (p0 / (128 : Int32)) / (8 : Int32) * (8 : Int32)) + ((8 : Int32) * ((p0 / (16 : Int32)) - (p0 / (16 : Int32)) / (8 : Int32) * (8 : Int32))))), (0, .ref (ad 0)), (1, .int p0)]) hx hb dX7_takeable_19 rfl hl (by decide) rfl (fun ls hl => ?_)
  refine lv_aload_n hx hb dX7_takeable_20 rfl (lv_at hl 1 rfl) ?_
  refine va_get (D := D) (ci := 6) (v := .ref (ad 7)) (C := RX7) (T := TX7) (N := 18) hx hb hts lX7_takeable_X7 hown hK w.1 0 rfl rfl 10 (by decide) (hts _ mX7_takeable_1) (fun _ h9 => h9) rfl dX7_takeable_21 ?_
  refine lv_iload_n hx hb dX7_takeable_24 rfl (lv_at hl 2 rfl) ?_
  refine lv_sipush (v := 1024) hx hb dX7_takeable_25 (by decide) ?_
  obtain ⟨g5, h⟩ := gd_some h
  refine lv_idiv hx hb dX7_takeable_28 g5 ?_
  obtain ⟨g6, h⟩ := gd_some h
  refine va_iald hx hb hK w.1 7 0 rfl rfl g6 dX7_takeable_29 ?_
  refine lv_iload_n hx hb dX7_takeable_30 rfl (lv_at hl 0 rfl) ?_
  refine lv_iconst (v := -1) hx hb dX7_takeable_31 (by decide) ?_
  refine lv_ixor hx hb dX7_takeable_32 ?_
  refine lv_iand hx hb dX7_takeable_33 ?_
  exact hret _ _ _ _ _ dX7_takeable_34 w (Option.some.inj h)
set_option maxHeartbeats 4000000 in
set_option maxRecDepth 100000 in
theorem c_X7_takeable (l : Launch) (D : va_G) (kA : Nat → ClassId) (ad : Nat → Nat) (sz : Nat) (mo_state : Int64) (mo_rooms : Int32) (mo_smallDoors : Int32) (mo_goal : Int32) (mo_now : Int32) (mo_last : Int32) (mo_count : Int32) (mparent : Nat → Int32) (mlevel : Nat → Int32) (mkind : Nat → Int32) (mnum : Nat → Int32) (mx : Nat → Int32) (my : Nat → Int32) (mlying : Nat → Int32) (msw : Nat → Int32) (mloop : Nat → Int32) (mchosen : Nat → Int32) (met : Nat → Int32) (p0 : Int32) {res : Int32} (h : f_X7_takeable p0 mlying = some res) : Ci l yX7_takeable wsX7_takeable rm_X7_takeable D kA [.ref (ad 0), .int p0] sz (wM kA ad mo_state mo_rooms mo_smallDoors mo_goal mo_now mo_last mo_count mparent mlevel mkind mnum mx my mlying msw mloop mchosen met) (wM kA ad mo_state mo_rooms mo_smallDoors mo_goal mo_now mo_last mo_count mparent mlevel mkind mnum mx my mlying msw mloop mchosen met) res := by
  refine Met.ofW (cc := cX7_takeable) (maxL := 3) (ret := (some .int)) (by decide) rfl ?_
  intro p e s m args below meth c s₁ B hml hv
  obtain ⟨rfl, hsz, hP, hK, hD0, hX⟩ := hv
  subst hsz
  have hts := atoms_spec (ws := wsX7_takeable) B.pre
  have hl := lv_entry ([.ref (ad 0), .int p0]) (n := 3) (Nat.le_of_ble_eq_true rfl)
  rw [lg_entry_eq]
  have hlocks := B.notSynchronized
  refine t_X7_takeable (A := va_A (wM kA ad mo_state mo_rooms mo_smallDoors mo_goal mo_now mo_last mo_count mparent mlevel mkind mnum mx my mlying msw mloop mchosen met) s.heap.size) ⟨⟨B.exec, B.bytes, hml, findClass_of_methodNamed B.named, hts⟩, hK, fun q h => Or.inr h, hX⟩ (fun r H locs ls pc hd w hres => ?_) ⟨hP, hD0.self, va_S.rf⟩ hl h
  subst hres
  exact W.iret B.exec B.bytes B.returns (fun t ht hW => ⟨⟨_, (), rfl, rfl, by rw [ht]; exact w.1, va_K.moved hW.alike hK, w.2.1⟩, w.2.2.F ht⟩) w.2.2.2.2 hd hlocks
-- ('wM', 'LockQuestModel', 'after', '(II)I', ('mo', None, None))
abbrev rm_X7_after : Room := { frames := 2, cells := 0, slots := 0, locals := 50 }
set_option maxRecDepth 20000 in
theorem lX7_after_X7 : ∀ w ∈ wsX70, w ∈ wsX7_after := by decide +kernel
set_option maxRecDepth 20000 in
theorem mX7_after_1 : Cond.fieldLink RX7 31 "LockQuestModel" "switches" "[Z" ∈ wsX7_after := by decide +kernel
def f_X7_after (p0 : Int32) (p1 : Int32) (mo_rooms : Int32) (mparent : Nat → Int32) (mlevel : Nat → Int32) (mkind : Nat → Int32) (mnum : Nat → Int32) (mlying : Nat → Int32) (msw : Nat → Int32) (mloop : Nat → Int32) : Option (Int32) := gd ((1024 : Int32) = 0) (if p1 = (100 : Int32) then ((f_X7_takeable p0 mlying).bind (fun u11 => gd ((8 : Int32) = 0) (gd ((8 : Int32) = 0) (some ((p0 + ((128 : Int32) * (u11 - u11 / (8 : Int32) * (8 : Int32)))) + ((16 : Int32) * (u11 / (8 : Int32)))))))) else (if p1 = (200 : Int32) then (gd ((p0 / (1024 : Int32)) < 0 ∨ 12 ≤ (p0 / (1024 : Int32)).toNatClampNeg) (if (msw (p0 / (1024 : Int32)).toNatClampNeg) = 0 then (some (-1 : Int32)) else (gd ((2 : Int32) = 0) (if (p0 - p0 / (2 : Int32) * (2 : Int32)) = 0 then (some (p0 + (1 : Int32))) else (some (p0 - (1 : Int32))))))) else ((f_X7_doors (p0 / (1024 : Int32)) mo_rooms mparent mloop).bind (fun u4 => if u4 ≤ p1 then (some (-1 : Int32)) else ((f_X7_walked p0 p1 mo_rooms mparent mlevel mkind mnum mloop).bind (fun u6 => some u6))))))
set_option maxHeartbeats 4000000 in
set_option maxRecDepth 100000 in
theorem t_X7_after {p : Program} {l : Launch} {e : Env} {s : State} {m : MethodId} {args : Array Value} {below : List Frame} {meth : Method} {c : Code} {Q : State → Prop} {D : va_G} {kA : Nat → ClassId} {ad : Nat → Nat} {A : Nat → Prop} {mo_state : Int64} {mo_rooms : Int32} {mo_smallDoors : Int32} {mo_goal : Int32} {mo_now : Int32} {mo_last : Int32} {mo_count : Int32} {mparent : Nat → Int32} {mlevel : Nat → Int32} {mkind : Nat → Int32} {mnum : Nat → Int32} {mx : Nat → Int32} {my : Nat → Int32} {mlying : Nat → Int32} {msw : Nat → Int32} {mloop : Nat → Int32} {mchosen : Nat → Int32} {met : Nat → Int32} {p0 : Int32} {p1 : Int32} {res : Int32} (C : Cx p s m c args cX7_after 5 RX7 wsX7_after D kA A) (hret : ∀ (r : Int32) (H : Heap) (locs : List Loc) (ls : Array Slot) (pc : Nat), decode cX7_after pc = .ok (.ireturn, 1) → Wd D A s H locs (wM kA ad mo_state mo_rooms mo_smallDoors mo_goal mo_now mo_last mo_count mparent mlevel mkind mnum mx my mlying msw mloop mchosen met) → r = res → W p l e rm_X7_after s m args below meth c H locs 0 0 Q (F0 m pc ls [.int r])) {H : Heap} {locs : List Loc} {ls : Array Slot} (w : Wd D A s H locs (wM kA ad mo_state mo_rooms mo_smallDoors mo_goal mo_now mo_last mo_count mparent mlevel mkind mnum mx my mlying msw mloop mchosen met)) (hl : lv_has ls 5 [(0, .ref (ad 0)), (1, .int p0), (2, .int p1)]) (h : f_X7_after p0 p1 mo_rooms mparent mlevel mkind mnum mlying msw mloop = some res) : W p l e rm_X7_after s m args below meth c H locs 0 0 Q (F0 m 0 ls []) := by
  obtain ⟨⟨hx, hb, hml, hown, hts⟩, hK, -, -⟩ := id C
  unfold f_X7_after at h
  refine lv_iload_n hx hb dX7_after_0 rfl (lv_at hl 1 rfl) ?_
  refine lv_sipush (v := 1024) hx hb dX7_after_1 (by decide) ?_
  obtain ⟨g1, h⟩ := gd_some h
  refine lv_idiv hx hb dX7_after_4 g1 ?_
  refine lv_istore_n (lv' := [(3, .int (p0 / (1024 : Int32))), (0, .ref (ad 0)), (1, .int p0), (2, .int p1)]) hx hb dX7_after_5 rfl hl (by decide) rfl (fun ls hl => ?_)
  refine lv_iload_n hx hb dX7_after_6 rfl (lv_at hl 3 rfl) ?_
  refine lv_bipush (v := 100) hx hb dX7_after_7 (by decide) ?_
  refine lv_icmp_ne (tgt := 40) hx hb dX7_after_9 (by decide) (fun g2 => ?_) (fun g2 => ?_)
  · replace h := it_neg g2 h
    refine lv_iload_n hx hb dX7_after_40 rfl (lv_at hl 3 rfl) ?_
    refine lv_sipush (v := 200) hx hb dX7_after_41 (by decide) ?_
    refine lv_icmp_ne (tgt := 76) hx hb dX7_after_44 (by decide) (fun g3 => ?_) (fun g3 => ?_)
    · replace h := it_neg g3 h
      refine lv_iload_n hx hb dX7_after_76 rfl (lv_at hl 3 rfl) ?_
      refine lv_aload_n hx hb dX7_after_77 rfl (lv_at hl 1 rfl) ?_
      refine lv_iload_n hx hb dX7_after_78 rfl (lv_at hl 0 rfl) ?_
      obtain ⟨u4, hc4, h⟩ := bd_some h
      refine gl_calli C w (va_runV (As := [.int (p0 / (1024 : Int32))]) (rest := [.int p1]) ⟨hx, hb, hml, hown, hts⟩ (c_X7_doors l D kA ad H.size mo_state mo_rooms mo_smallDoors mo_goal mo_now mo_last mo_count mparent mlevel mkind mnum mx my mlying msw mloop mchosen met (p0 / (1024 : Int32)) hc4) (cwV 1 hts gX7_after_X7_doors rfl rfl rfl (by decide +kernel) ⟨Nat.le_of_ble_eq_true rfl, Nat.le_of_ble_eq_true rfl⟩) (Wd.preV C w (q0 := 0) (ci := 6) rfl rfl rfl) rfl rfl hl.1 rfl (lv_room (Nat.le_of_ble_eq_true rfl)) dX7_after_79 ⟨Nat.zero_le _, Nat.zero_le _⟩) (fun H locs w => ?_)
      refine lv_icmp_ge (tgt := 94) hx hb dX7_after_82 (by decide) (fun g5 => ?_) (fun g5 => ?_)
      · replace h := it_pos g5 h
        refine lv_iconst (v := -1) hx hb dX7_after_94 (by decide) ?_
        exact hret _ _ _ _ _ dX7_after_95 w (Option.some.inj h)
      · replace h := it_neg g5 h
        refine lv_aload_n hx hb dX7_after_85 rfl (lv_at hl 1 rfl) ?_
        refine lv_iload_n hx hb dX7_after_86 rfl (lv_at hl 2 rfl) ?_
        refine lv_iload_n hx hb dX7_after_87 rfl (lv_at hl 3 rfl) ?_
        obtain ⟨u6, hc6, h⟩ := bd_some h
        refine gl_calli C w (va_runV (As := [.int p0, .int p1]) (rest := []) ⟨hx, hb, hml, hown, hts⟩ (c_X7_walked l D kA ad H.size mo_state mo_rooms mo_smallDoors mo_goal mo_now mo_last mo_count mparent mlevel mkind mnum mx my mlying msw mloop mchosen met p0 p1 hc6) (cwV 2 hts gX7_after_X7_walked rfl rfl rfl (by decide +kernel) ⟨Nat.le_of_ble_eq_true rfl, Nat.le_of_ble_eq_true rfl⟩) (Wd.preV C w (q0 := 0) (ci := 6) rfl rfl rfl) rfl rfl hl.1 rfl (lv_room (Nat.le_of_ble_eq_true rfl)) dX7_after_88 ⟨Nat.zero_le _, Nat.zero_le _⟩) (fun H locs w => ?_)
        refine lv_goto (tgt := 95) hx hb dX7_after_91 (by decide) ?_
        exact hret _ _ _ _ _ dX7_after_95 w (Option.some.inj h)
    · replace h := it_pos g3 h
      refine lv_aload_n hx hb dX7_after_47 rfl (lv_at hl 1 rfl) ?_
      refine va_get (D := D) (ci := 6) (v := .ref (ad 8)) (C := RX7) (T := TX7) (N := 18) hx hb hts lX7_after_X7 hown hK w.1 0 rfl rfl 11 (by decide) (hts _ mX7_after_1) (fun _ h9 => h9) rfl dX7_after_48 ?_
      refine lv_iload_n hx hb dX7_after_51 rfl (lv_at hl 0 rfl) ?_
      obtain ⟨g7, h⟩ := gd_some h
      refine va_zald hx hb hK w.1 8 2 rfl rfl g7 dX7_after_52 ?_
      refine lv_if_ne (tgt := 60) hx hb dX7_after_53 (by decide) (fun g8 => ?_) (fun g8 => ?_)
      · replace h := it_neg g8 h
        refine lv_iload_n hx hb dX7_after_60 rfl (lv_at hl 2 rfl) ?_
        refine lv_iconst (v := 2) hx hb dX7_after_61 (by decide) ?_
        obtain ⟨g9, h⟩ := gd_some h
        refine lv_irem hx hb dX7_after_62 g9 ?_
        refine lv_if_ne (tgt := 72) hx hb dX7_after_63 (by decide) (fun g10 => ?_) (fun g10 => ?_)
        · replace h := it_neg g10 h
          refine lv_iload_n hx hb dX7_after_72 rfl (lv_at hl 2 rfl) ?_
          refine lv_iconst (v := 1) hx hb dX7_after_73 (by decide) ?_
          refine lv_isub hx hb dX7_after_74 ?_
          exact hret _ _ _ _ _ dX7_after_75 w (Option.some.inj h)
        · replace h := it_pos g10 h
          refine lv_iload_n hx hb dX7_after_66 rfl (lv_at hl 2 rfl) ?_
          refine lv_iconst (v := 1) hx hb dX7_after_67 (by decide) ?_
          refine lv_iadd hx hb dX7_after_68 ?_
          refine lv_goto (tgt := 75) hx hb dX7_after_69 (by decide) ?_
          exact hret _ _ _ _ _ dX7_after_75 w (Option.some.inj h)
      · replace h := it_pos g8 h
        refine lv_iconst (v := -1) hx hb dX7_after_56 (by decide) ?_
        refine lv_goto (tgt := 75) hx hb dX7_after_57 (by decide) ?_
        exact hret _ _ _ _ _ dX7_after_75 w (Option.some.inj h)
  · replace h := it_pos g2 h
    refine lv_aload_n hx hb dX7_after_12 rfl (lv_at hl 1 rfl) ?_
    refine lv_iload_n hx hb dX7_after_13 rfl (lv_at hl 2 rfl) ?_
    obtain ⟨u11, hc11, h⟩ := bd_some h
    refine gl_calli C w (va_runV (As := [.int p0]) (rest := []) ⟨hx, hb, hml, hown, hts⟩ (c_X7_takeable l D kA ad H.size mo_state mo_rooms mo_smallDoors mo_goal mo_now mo_last mo_count mparent mlevel mkind mnum mx my mlying msw mloop mchosen met p0 hc11) (cwV 1 hts gX7_after_X7_takeable rfl rfl rfl (by decide +kernel) ⟨Nat.le_of_ble_eq_true rfl, Nat.le_of_ble_eq_true rfl⟩) (Wd.preV C w (q0 := 0) (ci := 6) rfl rfl rfl) rfl rfl hl.1 rfl (lv_room (Nat.le_of_ble_eq_true rfl)) dX7_after_14 ⟨Nat.zero_le _, Nat.zero_le _⟩) (fun H locs w => ?_)
    refine lv_istore (lv' := [(4, .int u11), (3, .int (p0 / (1024 : Int32))), (0, .ref (ad 0)), (1, .int p0), (2, .int p1)]) hx hb dX7_after_17 hl (by decide) rfl (fun ls hl => ?_)
    refine lv_iload_n hx hb dX7_after_19 rfl (lv_at hl 3 rfl) ?_
    refine lv_sipush (v := 128) hx hb dX7_after_20 (by decide) ?_
    refine lv_iload hx hb dX7_after_23 (lv_at hl 0 rfl) ?_
    refine lv_bipush (v := 8) hx hb dX7_after_25 (by decide) ?_
    obtain ⟨g12, h⟩ := gd_some h
    refine lv_irem hx hb dX7_after_27 g12 ?_
    refine lv_imul hx hb dX7_after_28 ?_
    refine lv_iadd hx hb dX7_after_29 ?_
    refine lv_bipush (v := 16) hx hb dX7_after_30 (by decide) ?_
    refine lv_iload hx hb dX7_after_32 (lv_at hl 0 rfl) ?_
    refine lv_bipush (v := 8) hx hb dX7_after_34 (by decide) ?_
    obtain ⟨g13, h⟩ := gd_some h
    refine lv_idiv hx hb dX7_after_36 g13 ?_
    refine lv_imul hx hb dX7_after_37 ?_
    refine lv_iadd hx hb dX7_after_38 ?_
    exact hret _ _ _ _ _ dX7_after_39 w (Option.some.inj h)
set_option maxHeartbeats 4000000 in
set_option maxRecDepth 100000 in
theorem c_X7_after (l : Launch) (D : va_G) (kA : Nat → ClassId) (ad : Nat → Nat) (sz : Nat) (mo_state : Int64) (mo_rooms : Int32) (mo_smallDoors : Int32) (mo_goal : Int32) (mo_now : Int32) (mo_last : Int32) (mo_count : Int32) (mparent : Nat → Int32) (mlevel : Nat → Int32) (mkind : Nat → Int32) (mnum : Nat → Int32) (mx : Nat → Int32) (my : Nat → Int32) (mlying : Nat → Int32) (msw : Nat → Int32) (mloop : Nat → Int32) (mchosen : Nat → Int32) (met : Nat → Int32) (p0 : Int32) (p1 : Int32) {res : Int32} (h : f_X7_after p0 p1 mo_rooms mparent mlevel mkind mnum mlying msw mloop = some res) : Ci l yX7_after wsX7_after rm_X7_after D kA [.ref (ad 0), .int p0, .int p1] sz (wM kA ad mo_state mo_rooms mo_smallDoors mo_goal mo_now mo_last mo_count mparent mlevel mkind mnum mx my mlying msw mloop mchosen met) (wM kA ad mo_state mo_rooms mo_smallDoors mo_goal mo_now mo_last mo_count mparent mlevel mkind mnum mx my mlying msw mloop mchosen met) res := by
  refine Met.ofW (cc := cX7_after) (maxL := 5) (ret := (some .int)) (by decide) rfl ?_
  intro p e s m args below meth c s₁ B hml hv
  obtain ⟨rfl, hsz, hP, hK, hD0, hX⟩ := hv
  subst hsz
  have hts := atoms_spec (ws := wsX7_after) B.pre
  have hl := lv_entry ([.ref (ad 0), .int p0, .int p1]) (n := 5) (Nat.le_of_ble_eq_true rfl)
  rw [lg_entry_eq]
  have hlocks := B.notSynchronized
  refine t_X7_after (A := va_A (wM kA ad mo_state mo_rooms mo_smallDoors mo_goal mo_now mo_last mo_count mparent mlevel mkind mnum mx my mlying msw mloop mchosen met) s.heap.size) ⟨⟨B.exec, B.bytes, hml, findClass_of_methodNamed B.named, hts⟩, hK, fun q h => Or.inr h, hX⟩ (fun r H locs ls pc hd w hres => ?_) ⟨hP, hD0.self, va_S.rf⟩ hl h
  subst hres
  exact W.iret B.exec B.bytes B.returns (fun t ht hW => ⟨⟨_, (), rfl, rfl, by rw [ht]; exact w.1, va_K.moved hW.alike hK, w.2.1⟩, w.2.2.F ht⟩) w.2.2.2.2 hd hlocks
-- ('wM', 'LockQuestModel', 'nextAction', '(II)I', ('mo', None, None))
abbrev rm_X7_nextAction : Room := { frames := 1, cells := 0, slots := 0, locals := 23 }
def f_X7_nextAction (p0 : Int32) (p1 : Int32) (mo_rooms : Int32) (mparent : Nat → Int32) (mloop : Nat → Int32) : Option (Int32) := if p1 = (200 : Int32) then (some (-1 : Int32)) else (if p1 = (100 : Int32) then (some (200 : Int32)) else (gd ((1024 : Int32) = 0) ((f_X7_doors (p0 / (1024 : Int32)) mo_rooms mparent mloop).bind (fun u4 => if u4 ≤ (p1 + (1 : Int32)) then (some (100 : Int32)) else (some (p1 + (1 : Int32)))))))
set_option maxHeartbeats 4000000 in
set_option maxRecDepth 100000 in
theorem t_X7_nextAction {p : Program} {l : Launch} {e : Env} {s : State} {m : MethodId} {args : Array Value} {below : List Frame} {meth : Method} {c : Code} {Q : State → Prop} {D : va_G} {kA : Nat → ClassId} {ad : Nat → Nat} {A : Nat → Prop} {mo_state : Int64} {mo_rooms : Int32} {mo_smallDoors : Int32} {mo_goal : Int32} {mo_now : Int32} {mo_last : Int32} {mo_count : Int32} {mparent : Nat → Int32} {mlevel : Nat → Int32} {mkind : Nat → Int32} {mnum : Nat → Int32} {mx : Nat → Int32} {my : Nat → Int32} {mlying : Nat → Int32} {msw : Nat → Int32} {mloop : Nat → Int32} {mchosen : Nat → Int32} {met : Nat → Int32} {p0 : Int32} {p1 : Int32} {res : Int32} (C : Cx p s m c args cX7_nextAction 3 RX7 wsX7_nextAction D kA A) (hret : ∀ (r : Int32) (H : Heap) (locs : List Loc) (ls : Array Slot) (pc : Nat), decode cX7_nextAction pc = .ok (.ireturn, 1) → Wd D A s H locs (wM kA ad mo_state mo_rooms mo_smallDoors mo_goal mo_now mo_last mo_count mparent mlevel mkind mnum mx my mlying msw mloop mchosen met) → r = res → W p l e rm_X7_nextAction s m args below meth c H locs 0 0 Q (F0 m pc ls [.int r])) {H : Heap} {locs : List Loc} {ls : Array Slot} (w : Wd D A s H locs (wM kA ad mo_state mo_rooms mo_smallDoors mo_goal mo_now mo_last mo_count mparent mlevel mkind mnum mx my mlying msw mloop mchosen met)) (hl : lv_has ls 3 [(0, .ref (ad 0)), (1, .int p0), (2, .int p1)]) (h : f_X7_nextAction p0 p1 mo_rooms mparent mloop = some res) : W p l e rm_X7_nextAction s m args below meth c H locs 0 0 Q (F0 m 0 ls []) := by
  obtain ⟨⟨hx, hb, hml, hown, hts⟩, hK, -, -⟩ := id C
  unfold f_X7_nextAction at h
  refine lv_iload_n hx hb dX7_nextAction_0 rfl (lv_at hl 2 rfl) ?_
  refine lv_sipush (v := 200) hx hb dX7_nextAction_1 (by decide) ?_
  refine lv_icmp_ne (tgt := 11) hx hb dX7_nextAction_4 (by decide) (fun g1 => ?_) (fun g1 => ?_)
  · replace h := it_neg g1 h
    refine lv_iload_n hx hb dX7_nextAction_11 rfl (lv_at hl 2 rfl) ?_
    refine lv_bipush (v := 100) hx hb dX7_nextAction_12 (by decide) ?_
    refine lv_icmp_ne (tgt := 23) hx hb dX7_nextAction_14 (by decide) (fun g2 => ?_) (fun g2 => ?_)
    · replace h := it_neg g2 h
      refine lv_iload_n hx hb dX7_nextAction_23 rfl (lv_at hl 2 rfl) ?_
      refine lv_iconst (v := 1) hx hb dX7_nextAction_24 (by decide) ?_
      refine lv_iadd hx hb dX7_nextAction_25 ?_
      refine lv_aload_n hx hb dX7_nextAction_26 rfl (lv_at hl 0 rfl) ?_
      refine lv_iload_n hx hb dX7_nextAction_27 rfl (lv_at hl 1 rfl) ?_
      refine lv_sipush (v := 1024) hx hb dX7_nextAction_28 (by decide) ?_
      obtain ⟨g3, h⟩ := gd_some h
      refine lv_idiv hx hb dX7_nextAction_31 g3 ?_
      obtain ⟨u4, hc4, h⟩ := bd_some h
      refine gl_calli C w (va_runV (As := [.int (p0 / (1024 : Int32))]) (rest := [.int (p1 + (1 : Int32))]) ⟨hx, hb, hml, hown, hts⟩ (c_X7_doors l D kA ad H.size mo_state mo_rooms mo_smallDoors mo_goal mo_now mo_last mo_count mparent mlevel mkind mnum mx my mlying msw mloop mchosen met (p0 / (1024 : Int32)) hc4) (cwV 1 hts gX7_nextAction_X7_doors rfl rfl rfl (by decide +kernel) ⟨Nat.le_of_ble_eq_true rfl, Nat.le_of_ble_eq_true rfl⟩) (Wd.preV C w (q0 := 0) (ci := 6) rfl rfl rfl) rfl rfl hl.1 rfl (lv_room (Nat.le_of_ble_eq_true rfl)) dX7_nextAction_32 ⟨Nat.zero_le _, Nat.zero_le _⟩) (fun H locs w => ?_)
      refine lv_icmp_ge (tgt := 44) hx hb dX7_nextAction_35 (by decide) (fun g5 => ?_) (fun g5 => ?_)
      · replace h := it_pos g5 h
        refine lv_bipush (v := 100) hx hb dX7_nextAction_44 (by decide) ?_
        exact hret _ _ _ _ _ dX7_nextAction_46 w (Option.some.inj h)
      · replace h := it_neg g5 h
        refine lv_iload_n hx hb dX7_nextAction_38 rfl (lv_at hl 2 rfl) ?_
        refine lv_iconst (v := 1) hx hb dX7_nextAction_39 (by decide) ?_
        refine lv_iadd hx hb dX7_nextAction_40 ?_
        refine lv_goto (tgt := 46) hx hb dX7_nextAction_41 (by decide) ?_
        exact hret _ _ _ _ _ dX7_nextAction_46 w (Option.some.inj h)
    · replace h := it_pos g2 h
      refine lv_sipush (v := 200) hx hb dX7_nextAction_17 (by decide) ?_
      refine lv_goto (tgt := 46) hx hb dX7_nextAction_20 (by decide) ?_
      exact hret _ _ _ _ _ dX7_nextAction_46 w (Option.some.inj h)
  · replace h := it_pos g1 h
    refine lv_iconst (v := -1) hx hb dX7_nextAction_7 (by decide) ?_
    refine lv_goto (tgt := 46) hx hb dX7_nextAction_8 (by decide) ?_
    exact hret _ _ _ _ _ dX7_nextAction_46 w (Option.some.inj h)
set_option maxHeartbeats 4000000 in
set_option maxRecDepth 100000 in
theorem c_X7_nextAction (l : Launch) (D : va_G) (kA : Nat → ClassId) (ad : Nat → Nat) (sz : Nat) (mo_state : Int64) (mo_rooms : Int32) (mo_smallDoors : Int32) (mo_goal : Int32) (mo_now : Int32) (mo_last : Int32) (mo_count : Int32) (mparent : Nat → Int32) (mlevel : Nat → Int32) (mkind : Nat → Int32) (mnum : Nat → Int32) (mx : Nat → Int32) (my : Nat → Int32) (mlying : Nat → Int32) (msw : Nat → Int32) (mloop : Nat → Int32) (mchosen : Nat → Int32) (met : Nat → Int32) (p0 : Int32) (p1 : Int32) {res : Int32} (h : f_X7_nextAction p0 p1 mo_rooms mparent mloop = some res) : Ci l yX7_nextAction wsX7_nextAction rm_X7_nextAction D kA [.ref (ad 0), .int p0, .int p1] sz (wM kA ad mo_state mo_rooms mo_smallDoors mo_goal mo_now mo_last mo_count mparent mlevel mkind mnum mx my mlying msw mloop mchosen met) (wM kA ad mo_state mo_rooms mo_smallDoors mo_goal mo_now mo_last mo_count mparent mlevel mkind mnum mx my mlying msw mloop mchosen met) res := by
  refine Met.ofW (cc := cX7_nextAction) (maxL := 3) (ret := (some .int)) (by decide) rfl ?_
  intro p e s m args below meth c s₁ B hml hv
  obtain ⟨rfl, hsz, hP, hK, hD0, hX⟩ := hv
  subst hsz
  have hts := atoms_spec (ws := wsX7_nextAction) B.pre
  have hl := lv_entry ([.ref (ad 0), .int p0, .int p1]) (n := 3) (Nat.le_of_ble_eq_true rfl)
  rw [lg_entry_eq]
  have hlocks := B.notSynchronized
  refine t_X7_nextAction (A := va_A (wM kA ad mo_state mo_rooms mo_smallDoors mo_goal mo_now mo_last mo_count mparent mlevel mkind mnum mx my mlying msw mloop mchosen met) s.heap.size) ⟨⟨B.exec, B.bytes, hml, findClass_of_methodNamed B.named, hts⟩, hK, fun q h => Or.inr h, hX⟩ (fun r H locs ls pc hd w hres => ?_) ⟨hP, hD0.self, va_S.rf⟩ hl h
  subst hres
  exact W.iret B.exec B.bytes B.returns (fun t ht hW => ⟨⟨_, (), rfl, rfl, by rw [ht]; exact w.1, va_K.moved hW.alike hK, w.2.1⟩, w.2.2.F ht⟩) w.2.2.2.2 hd hlocks
