-- ('wM', 'LockQuestModel', 'safe', '()Z', ('mo',))
abbrev rm_X7_safe : Room := { frames := 4, cells := 0, slots := 0, locals := 99 }
set_option maxRecDepth 20000 in
theorem lX7_safe_X7 : ∀ w ∈ wsX70, w ∈ wsX7_safe := by decide +kernel
set_option maxRecDepth 20000 in
theorem mX7_safe_1 : Cond.fieldLink RX7 83 "LockQuestModel" "now" "I" ∈ wsX7_safe := by decide +kernel
set_option maxRecDepth 20000 in
theorem mX7_safe_2 : Cond.fieldLink RX7 128 "LockQuestModel" "count" "I" ∈ wsX7_safe := by decide +kernel
set_option maxRecDepth 20000 in
theorem mX7_safe_3 : Cond.fieldLink RX7 41 "LockQuestModel" "met" "[I" ∈ wsX7_safe := by decide +kernel
set_option maxRecDepth 20000 in
theorem mX7_safe_4 : Cond.constant RX7 143 (268435456) ∈ wsX7_safe := by decide +kernel
set_option maxRecDepth 20000 in
theorem mX7_safe_5 : Cond.fieldLink RX7 100 "LockQuestModel" "goal" "I" ∈ wsX7_safe := by decide +kernel
def f_X7_safe_98 (mo_rooms : Int32) (mo_goal : Int32) (mo_now : Int32) (mparent : Nat → Int32) (mlevel : Nat → Int32) (mkind : Nat → Int32) (mnum : Nat → Int32) (mlying : Nat → Int32) (msw : Nat → Int32) (mloop : Nat → Int32) (k13 : Int32 → Int32 → Int32 → Int32 → (Nat → Int32) → Option (Int32 × Int32 × Int32 × (Nat → Int32))) (k25 : Int32 → Int32 → Int32 → Int32 → Int32 → (Nat → Int32) → Option (Int32 × Int32 × Int32 × (Nat → Int32))) (x2 : Int32) (x3 : Int32) (x4 : Int32) (mo_last : Int32) (mo_count : Int32) (met : Nat → Int32) : Option (Int32 × Int32 × Int32 × (Nat → Int32)) := gd (x4 < 0 ∨ 12288 ≤ x4.toNatClampNeg) (gd ((268435456 : Int32) = 0) (gd ((16384 : Int32) = 0) (k25 x2 x3 ((((met x4.toNatClampNeg) - (met x4.toNatClampNeg) / (268435456 : Int32) * (268435456 : Int32)) / (16384 : Int32)) - (1 : Int32)) mo_last mo_count met)))
set_option maxHeartbeats 4000000 in
set_option maxRecDepth 100000 in
theorem t_X7_safe_98 {p : Program} {l : Launch} {e : Env} {s : State} {m : MethodId} {args : Array Value} {below : List Frame} {meth : Method} {c : Code} {Q : State → Prop} {D : va_G} {kA : Nat → ClassId} {ad : Nat → Nat} {A : Nat → Prop} {mo_state : Int64} {mo_rooms : Int32} {mo_smallDoors : Int32} {mo_goal : Int32} {mo_now : Int32} {mo_last : Int32} {mo_count : Int32} {mparent : Nat → Int32} {mlevel : Nat → Int32} {mkind : Nat → Int32} {mnum : Nat → Int32} {mx : Nat → Int32} {my : Nat → Int32} {mlying : Nat → Int32} {msw : Nat → Int32} {mloop : Nat → Int32} {mchosen : Nat → Int32} {met : Nat → Int32} {x2 : Int32} {x3 : Int32} {x4 : Int32} {k13 : Int32 → Int32 → Int32 → Int32 → (Nat → Int32) → Option (Int32 × Int32 × Int32 × (Nat → Int32))} {k25 : Int32 → Int32 → Int32 → Int32 → Int32 → (Nat → Int32) → Option (Int32 × Int32 × Int32 × (Nat → Int32))} {res : Int32 × Int32 × Int32 × (Nat → Int32)} (C : Cx p s m c args cX7_safe 6 RX7 wsX7_safe D kA A) (hk13 : ∀ (x2 : Int32) (x3 : Int32) (mo_last : Int32) (mo_count : Int32) (met : Nat → Int32) (H : Heap) (locs : List Loc) (ls : Array Slot), Wd D A s H locs (wM kA ad mo_state mo_rooms mo_smallDoors mo_goal mo_now mo_last mo_count mparent mlevel mkind mnum mx my mlying msw mloop mchosen met) → lv_has ls 6 [(0, .ref (ad 0)), (2, .int x2), (3, .int x3)] → k13 x2 x3 mo_last mo_count met = some res → W p l e rm_X7_safe s m args below meth c H locs 0 0 Q (F0 m 13 ls [])) (hk25 : ∀ (x2 : Int32) (x3 : Int32) (x4 : Int32) (mo_last : Int32) (mo_count : Int32) (met : Nat → Int32) (H : Heap) (locs : List Loc) (ls : Array Slot), Wd D A s H locs (wM kA ad mo_state mo_rooms mo_smallDoors mo_goal mo_now mo_last mo_count mparent mlevel mkind mnum mx my mlying msw mloop mchosen met) → lv_has ls 6 [(0, .ref (ad 0)), (2, .int x2), (3, .int x3), (4, .int x4)] → k25 x2 x3 x4 mo_last mo_count met = some res → W p l e rm_X7_safe s m args below meth c H locs 0 0 Q (F0 m 25 ls [])) (hret : ∀ (r : Int32) (q0 : Int32) (q1 : Int32) (q2 : Nat → Int32) (H : Heap) (locs : List Loc) (ls : Array Slot) (pc : Nat), decode cX7_safe pc = .ok (.ireturn, 1) → narrow .boolean (.int r) = .int r → Wd D A s H locs (wM kA ad mo_state mo_rooms mo_smallDoors mo_goal mo_now q0 q1 mparent mlevel mkind mnum mx my mlying msw mloop mchosen q2) → (r, q0, q1, q2) = res → W p l e rm_X7_safe s m args below meth c H locs 0 0 Q (F0 m pc ls [.int r])) {H : Heap} {locs : List Loc} {ls : Array Slot} (w : Wd D A s H locs (wM kA ad mo_state mo_rooms mo_smallDoors mo_goal mo_now mo_last mo_count mparent mlevel mkind mnum mx my mlying msw mloop mchosen met)) (hl : lv_has ls 6 [(0, .ref (ad 0)), (2, .int x2), (3, .int x3), (4, .int x4)]) (h : f_X7_safe_98 mo_rooms mo_goal mo_now mparent mlevel mkind mnum mlying msw mloop k13 k25 x2 x3 x4 mo_last mo_count met = some res) : W p l e rm_X7_safe s m args below meth c H locs 0 0 Q (F0 m 98 ls []) := by
  obtain ⟨⟨hx, hb, hml, hown, hts⟩, hK, -, -⟩ := id C
  unfold f_X7_safe_98 at h
  refine lv_aload_n hx hb dX7_safe_98 rfl (lv_at hl 0 rfl) ?_
  refine va_get (D := D) (ci := 6) (v := .ref (ad 11)) (C := RX7) (T := TX7) (N := 18) hx hb hts lX7_safe_X7 hown hK w.1 0 rfl rfl 15 (by decide) (hts _ mX7_safe_3) (fun _ h9 => h9) rfl dX7_safe_99 ?_
  refine lv_iload hx hb dX7_safe_102 (lv_at hl 3 rfl) ?_
  obtain ⟨g1, h⟩ := gd_some h
  refine va_iald hx hb hK w.1 11 0 rfl rfl g1 dX7_safe_104 ?_
  refine lv_ldc (v := 268435456) hx hb hown (hts _ mX7_safe_4) dX7_safe_105 ?_
  obtain ⟨g2, h⟩ := gd_some h
  refine lv_irem hx hb dX7_safe_107 g2 ?_
  refine lv_sipush (v := 16384) hx hb dX7_safe_108 (by decide) ?_
  obtain ⟨g3, h⟩ := gd_some h
  refine lv_idiv hx hb dX7_safe_111 g3 ?_
  refine lv_iconst (v := 1) hx hb dX7_safe_112 (by decide) ?_
  refine lv_isub hx hb dX7_safe_113 ?_
  refine lv_istore (lv' := [(4, .int ((((met x4.toNatClampNeg) - (met x4.toNatClampNeg) / (268435456 : Int32) * (268435456 : Int32)) / (16384 : Int32)) - (1 : Int32))), (0, .ref (ad 0)), (2, .int x2), (3, .int x3)]) hx hb dX7_safe_114 hl (by decide) rfl (fun ls hl => ?_)
  refine lv_goto (tgt := 25) hx hb dX7_safe_116 (by decide) ?_
  exact hk25 _ _ _ _ _ _ H locs ls w (lv_sub hl [1, 2, 3, 0] rfl) h
def f_X7_safe_69 (mo_rooms : Int32) (mo_goal : Int32) (mo_now : Int32) (mparent : Nat → Int32) (mlevel : Nat → Int32) (mkind : Nat → Int32) (mnum : Nat → Int32) (mlying : Nat → Int32) (msw : Nat → Int32) (mloop : Nat → Int32) (k13 : Int32 → Int32 → Int32 → Int32 → (Nat → Int32) → Option (Int32 × Int32 × Int32 × (Nat → Int32))) (k25 : Int32 → Int32 → Int32 → Int32 → Int32 → (Nat → Int32) → Option (Int32 × Int32 × Int32 × (Nat → Int32))) (x2 : Int32) (x3 : Int32) (x4 : Int32) (s0 : Int32) (mo_last : Int32) (mo_count : Int32) (met : Nat → Int32) : Option (Int32 × Int32 × Int32 × (Nat → Int32)) := if s0 = 0 then (f_X7_safe_98 mo_rooms mo_goal mo_now mparent mlevel mkind mnum mlying msw mloop k13 k25 x2 x3 x4 mo_last mo_count met) else (gd (x4 < 0 ∨ 12288 ≤ x4.toNatClampNeg) (gd (x4 < 0 ∨ 12288 ≤ x4.toNatClampNeg) (f_X7_safe_98 mo_rooms mo_goal mo_now mparent mlevel mkind mnum mlying msw mloop k13 k25 (1 : Int32) (x3 + (1 : Int32)) x4 mo_last mo_count (upd met x4.toNatClampNeg ((met x4.toNatClampNeg) + (268435456 : Int32))))))
set_option maxHeartbeats 4000000 in
set_option maxRecDepth 100000 in
theorem t_X7_safe_69 {p : Program} {l : Launch} {e : Env} {s : State} {m : MethodId} {args : Array Value} {below : List Frame} {meth : Method} {c : Code} {Q : State → Prop} {D : va_G} {kA : Nat → ClassId} {ad : Nat → Nat} {A : Nat → Prop} {mo_state : Int64} {mo_rooms : Int32} {mo_smallDoors : Int32} {mo_goal : Int32} {mo_now : Int32} {mo_last : Int32} {mo_count : Int32} {mparent : Nat → Int32} {mlevel : Nat → Int32} {mkind : Nat → Int32} {mnum : Nat → Int32} {mx : Nat → Int32} {my : Nat → Int32} {mlying : Nat → Int32} {msw : Nat → Int32} {mloop : Nat → Int32} {mchosen : Nat → Int32} {met : Nat → Int32} {x2 : Int32} {x3 : Int32} {x4 : Int32} {s0 : Int32} {k13 : Int32 → Int32 → Int32 → Int32 → (Nat → Int32) → Option (Int32 × Int32 × Int32 × (Nat → Int32))} {k25 : Int32 → Int32 → Int32 → Int32 → Int32 → (Nat → Int32) → Option (Int32 × Int32 × Int32 × (Nat → Int32))} {res : Int32 × Int32 × Int32 × (Nat → Int32)} (C : Cx p s m c args cX7_safe 6 RX7 wsX7_safe D kA A) (hk13 : ∀ (x2 : Int32) (x3 : Int32) (mo_last : Int32) (mo_count : Int32) (met : Nat → Int32) (H : Heap) (locs : List Loc) (ls : Array Slot), Wd D A s H locs (wM kA ad mo_state mo_rooms mo_smallDoors mo_goal mo_now mo_last mo_count mparent mlevel mkind mnum mx my mlying msw mloop mchosen met) → lv_has ls 6 [(0, .ref (ad 0)), (2, .int x2), (3, .int x3)] → k13 x2 x3 mo_last mo_count met = some res → W p l e rm_X7_safe s m args below meth c H locs 0 0 Q (F0 m 13 ls [])) (hk25 : ∀ (x2 : Int32) (x3 : Int32) (x4 : Int32) (mo_last : Int32) (mo_count : Int32) (met : Nat → Int32) (H : Heap) (locs : List Loc) (ls : Array Slot), Wd D A s H locs (wM kA ad mo_state mo_rooms mo_smallDoors mo_goal mo_now mo_last mo_count mparent mlevel mkind mnum mx my mlying msw mloop mchosen met) → lv_has ls 6 [(0, .ref (ad 0)), (2, .int x2), (3, .int x3), (4, .int x4)] → k25 x2 x3 x4 mo_last mo_count met = some res → W p l e rm_X7_safe s m args below meth c H locs 0 0 Q (F0 m 25 ls [])) (hret : ∀ (r : Int32) (q0 : Int32) (q1 : Int32) (q2 : Nat → Int32) (H : Heap) (locs : List Loc) (ls : Array Slot) (pc : Nat), decode cX7_safe pc = .ok (.ireturn, 1) → narrow .boolean (.int r) = .int r → Wd D A s H locs (wM kA ad mo_state mo_rooms mo_smallDoors mo_goal mo_now q0 q1 mparent mlevel mkind mnum mx my mlying msw mloop mchosen q2) → (r, q0, q1, q2) = res → W p l e rm_X7_safe s m args below meth c H locs 0 0 Q (F0 m pc ls [.int r])) {H : Heap} {locs : List Loc} {ls : Array Slot} (w : Wd D A s H locs (wM kA ad mo_state mo_rooms mo_smallDoors mo_goal mo_now mo_last mo_count mparent mlevel mkind mnum mx my mlying msw mloop mchosen met)) (hl : lv_has ls 6 [(0, .ref (ad 0)), (2, .int x2), (3, .int x3), (4, .int x4)]) (h : f_X7_safe_69 mo_rooms mo_goal mo_now mparent mlevel mkind mnum mlying msw mloop k13 k25 x2 x3 x4 s0 mo_last mo_count met = some res) : W p l e rm_X7_safe s m args below meth c H locs 0 0 Q (F0 m 69 ls [.int s0]) := by
  obtain ⟨⟨hx, hb, hml, hown, hts⟩, hK, -, -⟩ := id C
  unfold f_X7_safe_69 at h
  refine lv_istore (lv' := [(5, .int s0), (0, .ref (ad 0)), (2, .int x2), (3, .int x3), (4, .int x4)]) hx hb dX7_safe_69 hl (by decide) rfl (fun ls hl => ?_)
  refine lv_iload hx hb dX7_safe_71 (lv_at hl 0 rfl) ?_
  refine lv_if_eq (tgt := 98) hx hb dX7_safe_73 (by decide) (fun g4 => ?_) (fun g4 => ?_)
  · replace h := it_pos g4 h
    exact t_X7_safe_98 C hk13 hk25 hret w (lv_sub hl [1, 2, 3, 4] rfl) h
  · replace h := it_neg g4 h
    refine lv_aload_n hx hb dX7_safe_76 rfl (lv_at hl 1 rfl) ?_
    refine va_get (D := D) (ci := 6) (v := .ref (ad 11)) (C := RX7) (T := TX7) (N := 18) hx hb hts lX7_safe_X7 hown hK w.1 0 rfl rfl 15 (by decide) (hts _ mX7_safe_3) (fun _ h9 => h9) rfl dX7_safe_77 ?_
    refine lv_iload hx hb dX7_safe_80 (lv_at hl 4 rfl) ?_
    refine lv_aload_n hx hb dX7_safe_82 rfl (lv_at hl 1 rfl) ?_
    refine va_get (D := D) (ci := 6) (v := .ref (ad 11)) (C := RX7) (T := TX7) (N := 18) hx hb hts lX7_safe_X7 hown hK w.1 0 rfl rfl 15 (by decide) (hts _ mX7_safe_3) (fun _ h9 => h9) rfl dX7_safe_83 ?_
    refine lv_iload hx hb dX7_safe_86 (lv_at hl 4 rfl) ?_
    obtain ⟨g5, h⟩ := gd_some h
    refine va_iald hx hb hK w.1 11 0 rfl rfl g5 dX7_safe_88 ?_
    refine lv_ldc (v := 268435456) hx hb hown (hts _ mX7_safe_4) dX7_safe_89 ?_
    refine lv_iadd hx hb dX7_safe_91 ?_
    obtain ⟨g6, h⟩ := gd_some h
    refine va_iast hx hb hK w.1 w.2.1 w.2.2 11 0 rfl rfl g6 dX7_safe_92 (fun H locs hP hD hS => ?_)
    have w : Wd D A s H locs (wM kA ad mo_state mo_rooms mo_smallDoors mo_goal mo_now mo_last mo_count mparent mlevel mkind mnum mx my mlying msw mloop mchosen (upd met x4.toNatClampNeg ((met x4.toNatClampNeg) + (268435456 : Int32)))) := ⟨hP, hD, hS⟩
    refine lv_iinc (v := (x3 + (1 : Int32))) (lv' := [(3, .int (x3 + (1 : Int32))), (5, .int s0), (0, .ref (ad 0)), (2, .int x2), (4, .int x4)]) hx hb dX7_safe_93 hl (k := 3) rfl rfl (by decide) rfl (fun ls hl => ?_)
    refine lv_iconst (v := 1) hx hb dX7_safe_96 (by decide) ?_
    refine lv_istore_n (lv' := [(2, .int (1 : Int32)), (3, .int (x3 + (1 : Int32))), (5, .int s0), (0, .ref (ad 0)), (4, .int x4)]) hx hb dX7_safe_97 rfl hl (by decide) rfl (fun ls hl => ?_)
    exact t_X7_safe_98 C hk13 hk25 hret w (lv_sub hl [3, 0, 1, 4] rfl) h
def f_X7_safe_68 (mo_rooms : Int32) (mo_goal : Int32) (mo_now : Int32) (mparent : Nat → Int32) (mlevel : Nat → Int32) (mkind : Nat → Int32) (mnum : Nat → Int32) (mlying : Nat → Int32) (msw : Nat → Int32) (mloop : Nat → Int32) (k13 : Int32 → Int32 → Int32 → Int32 → (Nat → Int32) → Option (Int32 × Int32 × Int32 × (Nat → Int32))) (k25 : Int32 → Int32 → Int32 → Int32 → Int32 → (Nat → Int32) → Option (Int32 × Int32 × Int32 × (Nat → Int32))) (x2 : Int32) (x3 : Int32) (x4 : Int32) (mo_last : Int32) (mo_count : Int32) (met : Nat → Int32) : Option (Int32 × Int32 × Int32 × (Nat → Int32)) := f_X7_safe_69 mo_rooms mo_goal mo_now mparent mlevel mkind mnum mlying msw mloop k13 k25 x2 x3 x4 (0 : Int32) mo_last mo_count met
set_option maxHeartbeats 4000000 in
set_option maxRecDepth 100000 in
theorem t_X7_safe_68 {p : Program} {l : Launch} {e : Env} {s : State} {m : MethodId} {args : Array Value} {below : List Frame} {meth : Method} {c : Code} {Q : State → Prop} {D : va_G} {kA : Nat → ClassId} {ad : Nat → Nat} {A : Nat → Prop} {mo_state : Int64} {mo_rooms : Int32} {mo_smallDoors : Int32} {mo_goal : Int32} {mo_now : Int32} {mo_last : Int32} {mo_count : Int32} {mparent : Nat → Int32} {mlevel : Nat → Int32} {mkind : Nat → Int32} {mnum : Nat → Int32} {mx : Nat → Int32} {my : Nat → Int32} {mlying : Nat → Int32} {msw : Nat → Int32} {mloop : Nat → Int32} {mchosen : Nat → Int32} {met : Nat → Int32} {x2 : Int32} {x3 : Int32} {x4 : Int32} {k13 : Int32 → Int32 → Int32 → Int32 → (Nat → Int32) → Option (Int32 × Int32 × Int32 × (Nat → Int32))} {k25 : Int32 → Int32 → Int32 → Int32 → Int32 → (Nat → Int32) → Option (Int32 × Int32 × Int32 × (Nat → Int32))} {res : Int32 × Int32 × Int32 × (Nat → Int32)} (C : Cx p s m c args cX7_safe 6 RX7 wsX7_safe D kA A) (hk13 : ∀ (x2 : Int32) (x3 : Int32) (mo_last : Int32) (mo_count : Int32) (met : Nat → Int32) (H : Heap) (locs : List Loc) (ls : Array Slot), Wd D A s H locs (wM kA ad mo_state mo_rooms mo_smallDoors mo_goal mo_now mo_last mo_count mparent mlevel mkind mnum mx my mlying msw mloop mchosen met) → lv_has ls 6 [(0, .ref (ad 0)), (2, .int x2), (3, .int x3)] → k13 x2 x3 mo_last mo_count met = some res → W p l e rm_X7_safe s m args below meth c H locs 0 0 Q (F0 m 13 ls [])) (hk25 : ∀ (x2 : Int32) (x3 : Int32) (x4 : Int32) (mo_last : Int32) (mo_count : Int32) (met : Nat → Int32) (H : Heap) (locs : List Loc) (ls : Array Slot), Wd D A s H locs (wM kA ad mo_state mo_rooms mo_smallDoors mo_goal mo_now mo_last mo_count mparent mlevel mkind mnum mx my mlying msw mloop mchosen met) → lv_has ls 6 [(0, .ref (ad 0)), (2, .int x2), (3, .int x3), (4, .int x4)] → k25 x2 x3 x4 mo_last mo_count met = some res → W p l e rm_X7_safe s m args below meth c H locs 0 0 Q (F0 m 25 ls [])) (hret : ∀ (r : Int32) (q0 : Int32) (q1 : Int32) (q2 : Nat → Int32) (H : Heap) (locs : List Loc) (ls : Array Slot) (pc : Nat), decode cX7_safe pc = .ok (.ireturn, 1) → narrow .boolean (.int r) = .int r → Wd D A s H locs (wM kA ad mo_state mo_rooms mo_smallDoors mo_goal mo_now q0 q1 mparent mlevel mkind mnum mx my mlying msw mloop mchosen q2) → (r, q0, q1, q2) = res → W p l e rm_X7_safe s m args below meth c H locs 0 0 Q (F0 m pc ls [.int r])) {H : Heap} {locs : List Loc} {ls : Array Slot} (w : Wd D A s H locs (wM kA ad mo_state mo_rooms mo_smallDoors mo_goal mo_now mo_last mo_count mparent mlevel mkind mnum mx my mlying msw mloop mchosen met)) (hl : lv_has ls 6 [(0, .ref (ad 0)), (2, .int x2), (3, .int x3), (4, .int x4)]) (h : f_X7_safe_68 mo_rooms mo_goal mo_now mparent mlevel mkind mnum mlying msw mloop k13 k25 x2 x3 x4 mo_last mo_count met = some res) : W p l e rm_X7_safe s m args below meth c H locs 0 0 Q (F0 m 68 ls []) := by
  obtain ⟨⟨hx, hb, hml, hown, hts⟩, hK, -, -⟩ := id C
  unfold f_X7_safe_68 at h
  refine lv_iconst (v := 0) hx hb dX7_safe_68 (by decide) ?_
  exact t_X7_safe_69 C hk13 hk25 hret w (lv_sub hl [0, 1, 2, 3] rfl) h
def f_X7_safe_64 (mo_rooms : Int32) (mo_goal : Int32) (mo_now : Int32) (mparent : Nat → Int32) (mlevel : Nat → Int32) (mkind : Nat → Int32) (mnum : Nat → Int32) (mlying : Nat → Int32) (msw : Nat → Int32) (mloop : Nat → Int32) (k13 : Int32 → Int32 → Int32 → Int32 → (Nat → Int32) → Option (Int32 × Int32 × Int32 × (Nat → Int32))) (k25 : Int32 → Int32 → Int32 → Int32 → Int32 → (Nat → Int32) → Option (Int32 × Int32 × Int32 × (Nat → Int32))) (x2 : Int32) (x3 : Int32) (x4 : Int32) (mo_last : Int32) (mo_count : Int32) (met : Nat → Int32) : Option (Int32 × Int32 × Int32 × (Nat → Int32)) := f_X7_safe_69 mo_rooms mo_goal mo_now mparent mlevel mkind mnum mlying msw mloop k13 k25 x2 x3 x4 (1 : Int32) mo_last mo_count met
set_option maxHeartbeats 4000000 in
set_option maxRecDepth 100000 in
theorem t_X7_safe_64 {p : Program} {l : Launch} {e : Env} {s : State} {m : MethodId} {args : Array Value} {below : List Frame} {meth : Method} {c : Code} {Q : State → Prop} {D : va_G} {kA : Nat → ClassId} {ad : Nat → Nat} {A : Nat → Prop} {mo_state : Int64} {mo_rooms : Int32} {mo_smallDoors : Int32} {mo_goal : Int32} {mo_now : Int32} {mo_last : Int32} {mo_count : Int32} {mparent : Nat → Int32} {mlevel : Nat → Int32} {mkind : Nat → Int32} {mnum : Nat → Int32} {mx : Nat → Int32} {my : Nat → Int32} {mlying : Nat → Int32} {msw : Nat → Int32} {mloop : Nat → Int32} {mchosen : Nat → Int32} {met : Nat → Int32} {x2 : Int32} {x3 : Int32} {x4 : Int32} {k13 : Int32 → Int32 → Int32 → Int32 → (Nat → Int32) → Option (Int32 × Int32 × Int32 × (Nat → Int32))} {k25 : Int32 → Int32 → Int32 → Int32 → Int32 → (Nat → Int32) → Option (Int32 × Int32 × Int32 × (Nat → Int32))} {res : Int32 × Int32 × Int32 × (Nat → Int32)} (C : Cx p s m c args cX7_safe 6 RX7 wsX7_safe D kA A) (hk13 : ∀ (x2 : Int32) (x3 : Int32) (mo_last : Int32) (mo_count : Int32) (met : Nat → Int32) (H : Heap) (locs : List Loc) (ls : Array Slot), Wd D A s H locs (wM kA ad mo_state mo_rooms mo_smallDoors mo_goal mo_now mo_last mo_count mparent mlevel mkind mnum mx my mlying msw mloop mchosen met) → lv_has ls 6 [(0, .ref (ad 0)), (2, .int x2), (3, .int x3)] → k13 x2 x3 mo_last mo_count met = some res → W p l e rm_X7_safe s m args below meth c H locs 0 0 Q (F0 m 13 ls [])) (hk25 : ∀ (x2 : Int32) (x3 : Int32) (x4 : Int32) (mo_last : Int32) (mo_count : Int32) (met : Nat → Int32) (H : Heap) (locs : List Loc) (ls : Array Slot), Wd D A s H locs (wM kA ad mo_state mo_rooms mo_smallDoors mo_goal mo_now mo_last mo_count mparent mlevel mkind mnum mx my mlying msw mloop mchosen met) → lv_has ls 6 [(0, .ref (ad 0)), (2, .int x2), (3, .int x3), (4, .int x4)] → k25 x2 x3 x4 mo_last mo_count met = some res → W p l e rm_X7_safe s m args below meth c H locs 0 0 Q (F0 m 25 ls [])) (hret : ∀ (r : Int32) (q0 : Int32) (q1 : Int32) (q2 : Nat → Int32) (H : Heap) (locs : List Loc) (ls : Array Slot) (pc : Nat), decode cX7_safe pc = .ok (.ireturn, 1) → narrow .boolean (.int r) = .int r → Wd D A s H locs (wM kA ad mo_state mo_rooms mo_smallDoors mo_goal mo_now q0 q1 mparent mlevel mkind mnum mx my mlying msw mloop mchosen q2) → (r, q0, q1, q2) = res → W p l e rm_X7_safe s m args below meth c H locs 0 0 Q (F0 m pc ls [.int r])) {H : Heap} {locs : List Loc} {ls : Array Slot} (w : Wd D A s H locs (wM kA ad mo_state mo_rooms mo_smallDoors mo_goal mo_now mo_last mo_count mparent mlevel mkind mnum mx my mlying msw mloop mchosen met)) (hl : lv_has ls 6 [(0, .ref (ad 0)), (2, .int x2), (3, .int x3), (4, .int x4)]) (h : f_X7_safe_64 mo_rooms mo_goal mo_now mparent mlevel mkind mnum mlying msw mloop k13 k25 x2 x3 x4 mo_last mo_count met = some res) : W p l e rm_X7_safe s m args below meth c H locs 0 0 Q (F0 m 64 ls []) := by
  obtain ⟨⟨hx, hb, hml, hown, hts⟩, hK, -, -⟩ := id C
  unfold f_X7_safe_64 at h
  refine lv_iconst (v := 1) hx hb dX7_safe_64 (by decide) ?_
  refine lv_goto (tgt := 69) hx hb dX7_safe_65 (by decide) ?_
  exact t_X7_safe_69 C hk13 hk25 hret w (lv_sub hl [0, 1, 2, 3] rfl) h
def fb_X7_safe_25 (mo_rooms : Int32) (mo_goal : Int32) (mo_now : Int32) (mparent : Nat → Int32) (mlevel : Nat → Int32) (mkind : Nat → Int32) (mnum : Nat → Int32) (mlying : Nat → Int32) (msw : Nat → Int32) (mloop : Nat → Int32) (k13 : Int32 → Int32 → Int32 → Int32 → (Nat → Int32) → Option (Int32 × Int32 × Int32 × (Nat → Int32))) (k25 : Int32 → Int32 → Int32 → Int32 → Int32 → (Nat → Int32) → Option (Int32 × Int32 × Int32 × (Nat → Int32))) (x2 : Int32) (x3 : Int32) (x4 : Int32) (mo_last : Int32) (mo_count : Int32) (met : Nat → Int32) : Option (Int32 × Int32 × Int32 × (Nat → Int32)) := if x4 < 0 then (k13 x2 x3 mo_last mo_count met) else (gd (x4 < 0 ∨ 12288 ≤ x4.toNatClampNeg) (if (268435456 : Int32) ≤ (met x4.toNatClampNeg) then (f_X7_safe_68 mo_rooms mo_goal mo_now mparent mlevel mkind mnum mlying msw mloop k13 k25 x2 x3 x4 mo_last mo_count met) else (gd ((1024 : Int32) = 0) (if (x4 / (1024 : Int32)) = mo_goal then (f_X7_safe_64 mo_rooms mo_goal mo_now mparent mlevel mkind mnum mlying msw mloop k13 k25 x2 x3 x4 mo_last mo_count met) else ((f_X7_leads x4 mo_rooms mparent mlevel mkind mnum mlying msw mloop met).bind (fun u12 => if u12 = 0 then (f_X7_safe_68 mo_rooms mo_goal mo_now mparent mlevel mkind mnum mlying msw mloop k13 k25 x2 x3 x4 mo_last mo_count met) else (f_X7_safe_64 mo_rooms mo_goal mo_now mparent mlevel mkind mnum mlying msw mloop k13 k25 x2 x3 x4 mo_last mo_count met)))))))
set_option maxHeartbeats 4000000 in
set_option maxRecDepth 100000 in
theorem tb_X7_safe_25 {p : Program} {l : Launch} {e : Env} {s : State} {m : MethodId} {args : Array Value} {below : List Frame} {meth : Method} {c : Code} {Q : State → Prop} {D : va_G} {kA : Nat → ClassId} {ad : Nat → Nat} {A : Nat → Prop} {mo_state : Int64} {mo_rooms : Int32} {mo_smallDoors : Int32} {mo_goal : Int32} {mo_now : Int32} {mo_last : Int32} {mo_count : Int32} {mparent : Nat → Int32} {mlevel : Nat → Int32} {mkind : Nat → Int32} {mnum : Nat → Int32} {mx : Nat → Int32} {my : Nat → Int32} {mlying : Nat → Int32} {msw : Nat → Int32} {mloop : Nat → Int32} {mchosen : Nat → Int32} {met : Nat → Int32} {x2 : Int32} {x3 : Int32} {x4 : Int32} {k13 : Int32 → Int32 → Int32 → Int32 → (Nat → Int32) → Option (Int32 × Int32 × Int32 × (Nat → Int32))} {k25 : Int32 → Int32 → Int32 → Int32 → Int32 → (Nat → Int32) → Option (Int32 × Int32 × Int32 × (Nat → Int32))} {res : Int32 × Int32 × Int32 × (Nat → Int32)} (C : Cx p s m c args cX7_safe 6 RX7 wsX7_safe D kA A) (hk13 : ∀ (x2 : Int32) (x3 : Int32) (mo_last : Int32) (mo_count : Int32) (met : Nat → Int32) (H : Heap) (locs : List Loc) (ls : Array Slot), Wd D A s H locs (wM kA ad mo_state mo_rooms mo_smallDoors mo_goal mo_now mo_last mo_count mparent mlevel mkind mnum mx my mlying msw mloop mchosen met) → lv_has ls 6 [(0, .ref (ad 0)), (2, .int x2), (3, .int x3)] → k13 x2 x3 mo_last mo_count met = some res → W p l e rm_X7_safe s m args below meth c H locs 0 0 Q (F0 m 13 ls [])) (hk25 : ∀ (x2 : Int32) (x3 : Int32) (x4 : Int32) (mo_last : Int32) (mo_count : Int32) (met : Nat → Int32) (H : Heap) (locs : List Loc) (ls : Array Slot), Wd D A s H locs (wM kA ad mo_state mo_rooms mo_smallDoors mo_goal mo_now mo_last mo_count mparent mlevel mkind mnum mx my mlying msw mloop mchosen met) → lv_has ls 6 [(0, .ref (ad 0)), (2, .int x2), (3, .int x3), (4, .int x4)] → k25 x2 x3 x4 mo_last mo_count met = some res → W p l e rm_X7_safe s m args below meth c H locs 0 0 Q (F0 m 25 ls [])) (hret : ∀ (r : Int32) (q0 : Int32) (q1 : Int32) (q2 : Nat → Int32) (H : Heap) (locs : List Loc) (ls : Array Slot) (pc : Nat), decode cX7_safe pc = .ok (.ireturn, 1) → narrow .boolean (.int r) = .int r → Wd D A s H locs (wM kA ad mo_state mo_rooms mo_smallDoors mo_goal mo_now q0 q1 mparent mlevel mkind mnum mx my mlying msw mloop mchosen q2) → (r, q0, q1, q2) = res → W p l e rm_X7_safe s m args below meth c H locs 0 0 Q (F0 m pc ls [.int r])) {H : Heap} {locs : List Loc} {ls : Array Slot} (w : Wd D A s H locs (wM kA ad mo_state mo_rooms mo_smallDoors mo_goal mo_now mo_last mo_count mparent mlevel mkind mnum mx my mlying msw mloop mchosen met)) (hl : lv_has ls 6 [(0, .ref (ad 0)), (2, .int x2), (3, .int x3), (4, .int x4)]) (h : fb_X7_safe_25 mo_rooms mo_goal mo_now mparent mlevel mkind mnum mlying msw mloop k13 k25 x2 x3 x4 mo_last mo_count met = some res) : W p l e rm_X7_safe s m args below meth c H locs 0 0 Q (F0 m 25 ls []) := by
  obtain ⟨⟨hx, hb, hml, hown, hts⟩, hK, -, -⟩ := id C
  unfold fb_X7_safe_25 at h
  refine lv_iload hx hb dX7_safe_25 (lv_at hl 3 rfl) ?_
  refine lv_if_lt (tgt := 119) hx hb dX7_safe_27 (by decide) (fun g7 => ?_) (fun g7 => ?_)
  · replace h := it_pos g7 h
    refine lv_goto (tgt := 13) hx hb dX7_safe_119 (by decide) ?_
    exact hk13 _ _ _ _ _ H locs ls w (lv_sub hl [0, 1, 2] rfl) h
  · replace h := it_neg g7 h
    refine lv_aload_n hx hb dX7_safe_30 rfl (lv_at hl 0 rfl) ?_
    refine va_get (D := D) (ci := 6) (v := .ref (ad 11)) (C := RX7) (T := TX7) (N := 18) hx hb hts lX7_safe_X7 hown hK w.1 0 rfl rfl 15 (by decide) (hts _ mX7_safe_3) (fun _ h9 => h9) rfl dX7_safe_31 ?_
    refine lv_iload hx hb dX7_safe_34 (lv_at hl 3 rfl) ?_
    obtain ⟨g8, h⟩ := gd_some h
    refine va_iald hx hb hK w.1 11 0 rfl rfl g8 dX7_safe_36 ?_
    refine lv_ldc (v := 268435456) hx hb hown (hts _ mX7_safe_4) dX7_safe_37 ?_
    refine lv_icmp_ge (tgt := 68) hx hb dX7_safe_39 (by decide) (fun g9 => ?_) (fun g9 => ?_)
    · replace h := it_pos g9 h
      exact t_X7_safe_68 C hk13 hk25 hret w (lv_sub hl [0, 1, 2, 3] rfl) h
    · replace h := it_neg g9 h
      refine lv_iload hx hb dX7_safe_42 (lv_at hl 3 rfl) ?_
      refine lv_sipush (v := 1024) hx hb dX7_safe_44 (by decide) ?_
      obtain ⟨g10, h⟩ := gd_some h
      refine lv_idiv hx hb dX7_safe_47 g10 ?_
      refine lv_aload_n hx hb dX7_safe_48 rfl (lv_at hl 0 rfl) ?_
      refine va_get (D := D) (ci := 6) (v := .int mo_goal) (C := RX7) (T := TX7) (N := 18) hx hb hts lX7_safe_X7 hown hK w.1 0 rfl rfl 3 (by decide) (hts _ mX7_safe_5) (fun _ h9 => h9) rfl dX7_safe_49 ?_
      refine lv_icmp_eq (tgt := 64) hx hb dX7_safe_52 (by decide) (fun g11 => ?_) (fun g11 => ?_)
      · replace h := it_pos g11 h
        exact t_X7_safe_64 C hk13 hk25 hret w (lv_sub hl [0, 1, 2, 3] rfl) h
      · replace h := it_neg g11 h
        refine lv_aload_n hx hb dX7_safe_55 rfl (lv_at hl 0 rfl) ?_
        refine lv_iload hx hb dX7_safe_56 (lv_at hl 3 rfl) ?_
        obtain ⟨u12, hc12, h⟩ := bd_some h
        refine gl_calli C w (va_runV (As := [.int x4]) (rest := []) ⟨hx, hb, hml, hown, hts⟩ (c_X7_leads l D kA ad H.size mo_state mo_rooms mo_smallDoors mo_goal mo_now mo_last mo_count mparent mlevel mkind mnum mx my mlying msw mloop mchosen met x4 hc12) (cwV 1 hts gX7_safe_X7_leads rfl rfl rfl (by decide +kernel) ⟨Nat.le_of_ble_eq_true rfl, Nat.le_of_ble_eq_true rfl⟩) (Wd.preV C w (q0 := 0) (ci := 6) rfl rfl rfl) rfl rfl hl.1 rfl (lv_room (Nat.le_of_ble_eq_true rfl)) dX7_safe_58 ⟨Nat.zero_le _, Nat.zero_le _⟩) (fun H locs w => ?_)
        refine lv_if_eq (tgt := 68) hx hb dX7_safe_61 (by decide) (fun g13 => ?_) (fun g13 => ?_)
        · replace h := it_pos g13 h
          exact t_X7_safe_68 C hk13 hk25 hret w (lv_sub hl [0, 1, 2, 3] rfl) h
        · replace h := it_neg g13 h
          exact t_X7_safe_64 C hk13 hk25 hret w (lv_sub hl [0, 1, 2, 3] rfl) h
def f_X7_safe_25 (mo_rooms : Int32) (mo_goal : Int32) (mo_now : Int32) (mparent : Nat → Int32) (mlevel : Nat → Int32) (mkind : Nat → Int32) (mnum : Nat → Int32) (mlying : Nat → Int32) (msw : Nat → Int32) (mloop : Nat → Int32) (k13 : Int32 → Int32 → Int32 → Int32 → (Nat → Int32) → Option (Int32 × Int32 × Int32 × (Nat → Int32))) (x2 : Int32) (x3 : Int32) (x4 : Int32) (mo_last : Int32) (mo_count : Int32) (met : Nat → Int32) : Option (Int32 × Int32 × Int32 × (Nat → Int32)) := lp (σ := Int32 × Int32 × Int32 × Int32 × Int32 × (Nat → Int32)) (fun k st => fb_X7_safe_25 mo_rooms mo_goal mo_now mparent mlevel mkind mnum mlying msw mloop k13 (fun x2 x3 x4 mo_last mo_count met => k (x2, x3, x4, mo_last, mo_count, met)) st.1 st.2.1 st.2.2.1 st.2.2.2.1 st.2.2.2.2.1 st.2.2.2.2.2) fuel (x2, x3, x4, mo_last, mo_count, met)
set_option maxHeartbeats 4000000 in
set_option maxRecDepth 100000 in
theorem t_X7_safe_25 {p : Program} {l : Launch} {e : Env} {s : State} {m : MethodId} {args : Array Value} {below : List Frame} {meth : Method} {c : Code} {Q : State → Prop} {D : va_G} {kA : Nat → ClassId} {ad : Nat → Nat} {A : Nat → Prop} {mo_state : Int64} {mo_rooms : Int32} {mo_smallDoors : Int32} {mo_goal : Int32} {mo_now : Int32} {mo_last : Int32} {mo_count : Int32} {mparent : Nat → Int32} {mlevel : Nat → Int32} {mkind : Nat → Int32} {mnum : Nat → Int32} {mx : Nat → Int32} {my : Nat → Int32} {mlying : Nat → Int32} {msw : Nat → Int32} {mloop : Nat → Int32} {mchosen : Nat → Int32} {met : Nat → Int32} {x2 : Int32} {x3 : Int32} {x4 : Int32} {k13 : Int32 → Int32 → Int32 → Int32 → (Nat → Int32) → Option (Int32 × Int32 × Int32 × (Nat → Int32))} {res : Int32 × Int32 × Int32 × (Nat → Int32)} (C : Cx p s m c args cX7_safe 6 RX7 wsX7_safe D kA A) (hk13 : ∀ (x2 : Int32) (x3 : Int32) (mo_last : Int32) (mo_count : Int32) (met : Nat → Int32) (H : Heap) (locs : List Loc) (ls : Array Slot), Wd D A s H locs (wM kA ad mo_state mo_rooms mo_smallDoors mo_goal mo_now mo_last mo_count mparent mlevel mkind mnum mx my mlying msw mloop mchosen met) → lv_has ls 6 [(0, .ref (ad 0)), (2, .int x2), (3, .int x3)] → k13 x2 x3 mo_last mo_count met = some res → W p l e rm_X7_safe s m args below meth c H locs 0 0 Q (F0 m 13 ls [])) (hret : ∀ (r : Int32) (q0 : Int32) (q1 : Int32) (q2 : Nat → Int32) (H : Heap) (locs : List Loc) (ls : Array Slot) (pc : Nat), decode cX7_safe pc = .ok (.ireturn, 1) → narrow .boolean (.int r) = .int r → Wd D A s H locs (wM kA ad mo_state mo_rooms mo_smallDoors mo_goal mo_now q0 q1 mparent mlevel mkind mnum mx my mlying msw mloop mchosen q2) → (r, q0, q1, q2) = res → W p l e rm_X7_safe s m args below meth c H locs 0 0 Q (F0 m pc ls [.int r])) {H : Heap} {locs : List Loc} {ls : Array Slot} (w : Wd D A s H locs (wM kA ad mo_state mo_rooms mo_smallDoors mo_goal mo_now mo_last mo_count mparent mlevel mkind mnum mx my mlying msw mloop mchosen met)) (hl : lv_has ls 6 [(0, .ref (ad 0)), (2, .int x2), (3, .int x3), (4, .int x4)]) (h : f_X7_safe_25 mo_rooms mo_goal mo_now mparent mlevel mkind mnum mlying msw mloop k13 x2 x3 x4 mo_last mo_count met = some res) : W p l e rm_X7_safe s m args below meth c H locs 0 0 Q (F0 m 25 ls []) := by
  unfold f_X7_safe_25 at h
  exact lp_ind (P := (fun (st : Int32 × Int32 × Int32 × Int32 × Int32 × (Nat → Int32)) => ∀ (H : Heap) (locs : List Loc) (ls : Array Slot), Wd D A s H locs (wM kA ad mo_state mo_rooms mo_smallDoors mo_goal mo_now st.2.2.2.1 st.2.2.2.2.1 mparent mlevel mkind mnum mx my mlying msw mloop mchosen st.2.2.2.2.2) → lv_has ls 6 [(0, .ref (ad 0)), (2, .int st.1), (3, .int st.2.1), (4, .int st.2.2.1)] → W p l e rm_X7_safe s m args below meth c H locs 0 0 Q (F0 m 25 ls []))) (fun k hk st h H locs ls w hl => tb_X7_safe_25 C hk13 (fun a0 a1 a2 a3 a4 a5 H locs ls w hl h => hk (a0, a1, a2, a3, a4, a5) h H locs ls w hl) hret w hl h) fuel (x2, x3, x4, mo_last, mo_count, met) h H locs ls w hl
def fb_X7_safe_13 (mo_rooms : Int32) (mo_goal : Int32) (mo_now : Int32) (mparent : Nat → Int32) (mlevel : Nat → Int32) (mkind : Nat → Int32) (mnum : Nat → Int32) (mlying : Nat → Int32) (msw : Nat → Int32) (mloop : Nat → Int32) (k13 : Int32 → Int32 → Int32 → Int32 → (Nat → Int32) → Option (Int32 × Int32 × Int32 × (Nat → Int32))) (x2 : Int32) (x3 : Int32) (mo_last : Int32) (mo_count : Int32) (met : Nat → Int32) : Option (Int32 × Int32 × Int32 × (Nat → Int32)) := if x2 = 0 then (if x3 = mo_count then (some ((1 : Int32), mo_last, mo_count, met)) else (some ((0 : Int32), mo_last, mo_count, met))) else (f_X7_safe_25 mo_rooms mo_goal mo_now mparent mlevel mkind mnum mlying msw mloop k13 (0 : Int32) x3 mo_now mo_last mo_count met)
set_option maxHeartbeats 4000000 in
set_option maxRecDepth 100000 in
theorem tb_X7_safe_13 {p : Program} {l : Launch} {e : Env} {s : State} {m : MethodId} {args : Array Value} {below : List Frame} {meth : Method} {c : Code} {Q : State → Prop} {D : va_G} {kA : Nat → ClassId} {ad : Nat → Nat} {A : Nat → Prop} {mo_state : Int64} {mo_rooms : Int32} {mo_smallDoors : Int32} {mo_goal : Int32} {mo_now : Int32} {mo_last : Int32} {mo_count : Int32} {mparent : Nat → Int32} {mlevel : Nat → Int32} {mkind : Nat → Int32} {mnum : Nat → Int32} {mx : Nat → Int32} {my : Nat → Int32} {mlying : Nat → Int32} {msw : Nat → Int32} {mloop : Nat → Int32} {mchosen : Nat → Int32} {met : Nat → Int32} {x2 : Int32} {x3 : Int32} {k13 : Int32 → Int32 → Int32 → Int32 → (Nat → Int32) → Option (Int32 × Int32 × Int32 × (Nat → Int32))} {res : Int32 × Int32 × Int32 × (Nat → Int32)} (C : Cx p s m c args cX7_safe 6 RX7 wsX7_safe D kA A) (hk13 : ∀ (x2 : Int32) (x3 : Int32) (mo_last : Int32) (mo_count : Int32) (met : Nat → Int32) (H : Heap) (locs : List Loc) (ls : Array Slot), Wd D A s H locs (wM kA ad mo_state mo_rooms mo_smallDoors mo_goal mo_now mo_last mo_count mparent mlevel mkind mnum mx my mlying msw mloop mchosen met) → lv_has ls 6 [(0, .ref (ad 0)), (2, .int x2), (3, .int x3)] → k13 x2 x3 mo_last mo_count met = some res → W p l e rm_X7_safe s m args below meth c H locs 0 0 Q (F0 m 13 ls [])) (hret : ∀ (r : Int32) (q0 : Int32) (q1 : Int32) (q2 : Nat → Int32) (H : Heap) (locs : List Loc) (ls : Array Slot) (pc : Nat), decode cX7_safe pc = .ok (.ireturn, 1) → narrow .boolean (.int r) = .int r → Wd D A s H locs (wM kA ad mo_state mo_rooms mo_smallDoors mo_goal mo_now q0 q1 mparent mlevel mkind mnum mx my mlying msw mloop mchosen q2) → (r, q0, q1, q2) = res → W p l e rm_X7_safe s m args below meth c H locs 0 0 Q (F0 m pc ls [.int r])) {H : Heap} {locs : List Loc} {ls : Array Slot} (w : Wd D A s H locs (wM kA ad mo_state mo_rooms mo_smallDoors mo_goal mo_now mo_last mo_count mparent mlevel mkind mnum mx my mlying msw mloop mchosen met)) (hl : lv_has ls 6 [(0, .ref (ad 0)), (2, .int x2), (3, .int x3)]) (h : fb_X7_safe_13 mo_rooms mo_goal mo_now mparent mlevel mkind mnum mlying msw mloop k13 x2 x3 mo_last mo_count met = some res) : W p l e rm_X7_safe s m args below meth c H locs 0 0 Q (F0 m 13 ls []) := by
  obtain ⟨⟨hx, hb, hml, hown, hts⟩, hK, -, -⟩ := id C
  unfold fb_X7_safe_13 at h
  refine lv_iload_n hx hb dX7_safe_13 rfl (lv_at hl 1 rfl) ?_
  refine lv_if_eq (tgt := 122) hx hb dX7_safe_14 (by decide) (fun g14 => ?_) (fun g14 => ?_)
  · replace h := it_pos g14 h
    refine lv_iload_n hx hb dX7_safe_122 rfl (lv_at hl 2 rfl) ?_
    refine lv_aload_n hx hb dX7_safe_123 rfl (lv_at hl 0 rfl) ?_
    refine va_get (D := D) (ci := 6) (v := .int mo_count) (C := RX7) (T := TX7) (N := 18) hx hb hts lX7_safe_X7 hown hK w.1 0 rfl rfl 17 (by decide) (hts _ mX7_safe_2) (fun _ h9 => h9) rfl dX7_safe_124 ?_
    refine lv_icmp_ne (tgt := 134) hx hb dX7_safe_127 (by decide) (fun g15 => ?_) (fun g15 => ?_)
    · replace h := it_neg g15 h
      refine lv_iconst (v := 0) hx hb dX7_safe_134 (by decide) ?_
      exact hret _ _ _ _ _ _ _ _ dX7_safe_135 rfl w (Option.some.inj h)
    · replace h := it_pos g15 h
      refine lv_iconst (v := 1) hx hb dX7_safe_130 (by decide) ?_
      refine lv_goto (tgt := 135) hx hb dX7_safe_131 (by decide) ?_
      exact hret _ _ _ _ _ _ _ _ dX7_safe_135 rfl w (Option.some.inj h)
  · replace h := it_neg g14 h
    refine lv_iconst (v := 0) hx hb dX7_safe_17 (by decide) ?_
    refine lv_istore_n (lv' := [(2, .int (0 : Int32)), (0, .ref (ad 0)), (3, .int x3)]) hx hb dX7_safe_18 rfl hl (by decide) rfl (fun ls hl => ?_)
    refine lv_aload_n hx hb dX7_safe_19 rfl (lv_at hl 1 rfl) ?_
    refine va_get (D := D) (ci := 6) (v := .int mo_now) (C := RX7) (T := TX7) (N := 18) hx hb hts lX7_safe_X7 hown hK w.1 0 rfl rfl 14 (by decide) (hts _ mX7_safe_1) (fun _ h9 => h9) rfl dX7_safe_20 ?_
    refine lv_istore (lv' := [(4, .int mo_now), (2, .int (0 : Int32)), (0, .ref (ad 0)), (3, .int x3)]) hx hb dX7_safe_23 hl (by decide) rfl (fun ls hl => ?_)
    exact t_X7_safe_25 C hk13 hret w (lv_sub hl [2, 1, 3, 0] rfl) h
def f_X7_safe_13 (mo_rooms : Int32) (mo_goal : Int32) (mo_now : Int32) (mparent : Nat → Int32) (mlevel : Nat → Int32) (mkind : Nat → Int32) (mnum : Nat → Int32) (mlying : Nat → Int32) (msw : Nat → Int32) (mloop : Nat → Int32) (x2 : Int32) (x3 : Int32) (mo_last : Int32) (mo_count : Int32) (met : Nat → Int32) : Option (Int32 × Int32 × Int32 × (Nat → Int32)) := lp (σ := Int32 × Int32 × Int32 × Int32 × (Nat → Int32)) (fun k st => fb_X7_safe_13 mo_rooms mo_goal mo_now mparent mlevel mkind mnum mlying msw mloop (fun x2 x3 mo_last mo_count met => k (x2, x3, mo_last, mo_count, met)) st.1 st.2.1 st.2.2.1 st.2.2.2.1 st.2.2.2.2) fuel (x2, x3, mo_last, mo_count, met)
set_option maxHeartbeats 4000000 in
set_option maxRecDepth 100000 in
theorem t_X7_safe_13 {p : Program} {l : Launch} {e : Env} {s : State} {m : MethodId} {args : Array Value} {below : List Frame} {meth : Method} {c : Code} {Q : State → Prop} {D : va_G} {kA : Nat → ClassId} {ad : Nat → Nat} {A : Nat → Prop} {mo_state : Int64} {mo_rooms : Int32} {mo_smallDoors : Int32} {mo_goal : Int32} {mo_now : Int32} {mo_last : Int32} {mo_count : Int32} {mparent : Nat → Int32} {mlevel : Nat → Int32} {mkind : Nat → Int32} {mnum : Nat → Int32} {mx : Nat → Int32} {my : Nat → Int32} {mlying : Nat → Int32} {msw : Nat → Int32} {mloop : Nat → Int32} {mchosen : Nat → Int32} {met : Nat → Int32} {x2 : Int32} {x3 : Int32} {res : Int32 × Int32 × Int32 × (Nat → Int32)} (C : Cx p s m c args cX7_safe 6 RX7 wsX7_safe D kA A) (hret : ∀ (r : Int32) (q0 : Int32) (q1 : Int32) (q2 : Nat → Int32) (H : Heap) (locs : List Loc) (ls : Array Slot) (pc : Nat), decode cX7_safe pc = .ok (.ireturn, 1) → narrow .boolean (.int r) = .int r → Wd D A s H locs (wM kA ad mo_state mo_rooms mo_smallDoors mo_goal mo_now q0 q1 mparent mlevel mkind mnum mx my mlying msw mloop mchosen q2) → (r, q0, q1, q2) = res → W p l e rm_X7_safe s m args below meth c H locs 0 0 Q (F0 m pc ls [.int r])) {H : Heap} {locs : List Loc} {ls : Array Slot} (w : Wd D A s H locs (wM kA ad mo_state mo_rooms mo_smallDoors mo_goal mo_now mo_last mo_count mparent mlevel mkind mnum mx my mlying msw mloop mchosen met)) (hl : lv_has ls 6 [(0, .ref (ad 0)), (2, .int x2), (3, .int x3)]) (h : f_X7_safe_13 mo_rooms mo_goal mo_now mparent mlevel mkind mnum mlying msw mloop x2 x3 mo_last mo_count met = some res) : W p l e rm_X7_safe s m args below meth c H locs 0 0 Q (F0 m 13 ls []) := by
  unfold f_X7_safe_13 at h
  exact lp_ind (P := (fun (st : Int32 × Int32 × Int32 × Int32 × (Nat → Int32)) => ∀ (H : Heap) (locs : List Loc) (ls : Array Slot), Wd D A s H locs (wM kA ad mo_state mo_rooms mo_smallDoors mo_goal mo_now st.2.2.1 st.2.2.2.1 mparent mlevel mkind mnum mx my mlying msw mloop mchosen st.2.2.2.2) → lv_has ls 6 [(0, .ref (ad 0)), (2, .int st.1), (3, .int st.2.1)] → W p l e rm_X7_safe s m args below meth c H locs 0 0 Q (F0 m 13 ls []))) (fun k hk st h H locs ls w hl => tb_X7_safe_13 C  (fun a0 a1 a2 a3 a4 H locs ls w hl h => hk (a0, a1, a2, a3, a4) h H locs ls w hl) hret w hl h) fuel (x2, x3, mo_last, mo_count, met) h H locs ls w hl
def f_X7_safe  (mo_rooms : Int32) (mo_goal : Int32) (mo_now : Int32) (mo_last : Int32) (mo_count : Int32) (mparent : Nat → Int32) (mlevel : Nat → Int32) (mkind : Nat → Int32) (mnum : Nat → Int32) (mlying : Nat → Int32) (msw : Nat → Int32) (mloop : Nat → Int32) (met : Nat → Int32) : Option (Int32 × Int32 × Int32 × (Nat → Int32)) := (f_X7_spread mo_now mo_rooms mo_goal mo_last mo_count mparent mlevel mkind mnum mlying msw mloop met).bind (fun u16 => f_X7_safe_13 mo_rooms mo_goal mo_now mparent mlevel mkind mnum mlying msw mloop (1 : Int32) (0 : Int32) u16.2.1 u16.2.2.1 u16.2.2.2)
set_option maxHeartbeats 4000000 in
set_option maxRecDepth 100000 in
theorem t_X7_safe {p : Program} {l : Launch} {e : Env} {s : State} {m : MethodId} {args : Array Value} {below : List Frame} {meth : Method} {c : Code} {Q : State → Prop} {D : va_G} {kA : Nat → ClassId} {ad : Nat → Nat} {A : Nat → Prop} {mo_state : Int64} {mo_rooms : Int32} {mo_smallDoors : Int32} {mo_goal : Int32} {mo_now : Int32} {mo_last : Int32} {mo_count : Int32} {mparent : Nat → Int32} {mlevel : Nat → Int32} {mkind : Nat → Int32} {mnum : Nat → Int32} {mx : Nat → Int32} {my : Nat → Int32} {mlying : Nat → Int32} {msw : Nat → Int32} {mloop : Nat → Int32} {mchosen : Nat → Int32} {met : Nat → Int32}  {res : Int32 × Int32 × Int32 × (Nat → Int32)} (C : Cx p s m c args cX7_safe 6 RX7 wsX7_safe D kA A) (hret : ∀ (r : Int32) (q0 : Int32) (q1 : Int32) (q2 : Nat → Int32) (H : Heap) (locs : List Loc) (ls : Array Slot) (pc : Nat), decode cX7_safe pc = .ok (.ireturn, 1) → narrow .boolean (.int r) = .int r → Wd D A s H locs (wM kA ad mo_state mo_rooms mo_smallDoors mo_goal mo_now q0 q1 mparent mlevel mkind mnum mx my mlying msw mloop mchosen q2) → (r, q0, q1, q2) = res → W p l e rm_X7_safe s m args below meth c H locs 0 0 Q (F0 m pc ls [.int r])) {H : Heap} {locs : List Loc} {ls : Array Slot} (w : Wd D A s H locs (wM kA ad mo_state mo_rooms mo_smallDoors mo_goal mo_now mo_last mo_count mparent mlevel mkind mnum mx my mlying msw mloop mchosen met)) (hl : lv_has ls 6 [(0, .ref (ad 0))]) (h : f_X7_safe  mo_rooms mo_goal mo_now mo_last mo_count mparent mlevel mkind mnum mlying msw mloop met = some res) : W p l e rm_X7_safe s m args below meth c H locs 0 0 Q (F0 m 0 ls []) := by
  obtain ⟨⟨hx, hb, hml, hown, hts⟩, hK, -, -⟩ := id C
  unfold f_X7_safe at h
  refine lv_aload_n hx hb dX7_safe_0 rfl (lv_at hl 0 rfl) ?_
  refine lv_aload_n hx hb dX7_safe_1 rfl (lv_at hl 0 rfl) ?_
  refine va_get (D := D) (ci := 6) (v := .int mo_now) (C := RX7) (T := TX7) (N := 18) hx hb hts lX7_safe_X7 hown hK w.1 0 rfl rfl 14 (by decide) (hts _ mX7_safe_1) (fun _ h9 => h9) rfl dX7_safe_2 ?_
  obtain ⟨u16, hc16, h⟩ := bd_some h
  refine gl_calli C w (va_runV (As := [.int mo_now]) (rest := []) ⟨hx, hb, hml, hown, hts⟩ (c_X7_spread l D kA ad H.size mo_state mo_rooms mo_smallDoors mo_goal mo_now mo_last mo_count mparent mlevel mkind mnum mx my mlying msw mloop mchosen met mo_now hc16) (cwV 1 hts gX7_safe_X7_spread rfl rfl rfl (by decide +kernel) ⟨Nat.le_of_ble_eq_true rfl, Nat.le_of_ble_eq_true rfl⟩) (Wd.preV C w (q0 := 0) (ci := 6) rfl rfl rfl) rfl rfl hl.1 rfl (lv_room (Nat.le_of_ble_eq_true rfl)) dX7_safe_5 ⟨Nat.zero_le _, Nat.zero_le _⟩) (fun H locs w => ?_)
  refine lv_istore_n (lv' := [(1, .int u16.1), (0, .ref (ad 0))]) hx hb dX7_safe_8 rfl hl (by decide) rfl (fun ls hl => ?_)
  refine lv_iconst (v := 1) hx hb dX7_safe_9 (by decide) ?_
  refine lv_istore_n (lv' := [(2, .int (1 : Int32)), (1, .int u16.1), (0, .ref (ad 0))]) hx hb dX7_safe_10 rfl hl (by decide) rfl (fun ls hl => ?_)
  refine lv_iconst (v := 0) hx hb dX7_safe_11 (by decide) ?_
  refine lv_istore_n (lv' := [(3, .int (0 : Int32)), (2, .int (1 : Int32)), (1, .int u16.1), (0, .ref (ad 0))]) hx hb dX7_safe_12 rfl hl (by decide) rfl (fun ls hl => ?_)
  exact t_X7_safe_13 C  hret w (lv_sub hl [3, 1, 0] rfl) h
set_option maxHeartbeats 4000000 in
set_option maxRecDepth 100000 in
theorem c_X7_safe (l : Launch) (D : va_G) (kA : Nat → ClassId) (ad : Nat → Nat) (sz : Nat) (mo_state : Int64) (mo_rooms : Int32) (mo_smallDoors : Int32) (mo_goal : Int32) (mo_now : Int32) (mo_last : Int32) (mo_count : Int32) (mparent : Nat → Int32) (mlevel : Nat → Int32) (mkind : Nat → Int32) (mnum : Nat → Int32) (mx : Nat → Int32) (my : Nat → Int32) (mlying : Nat → Int32) (msw : Nat → Int32) (mloop : Nat → Int32) (mchosen : Nat → Int32) (met : Nat → Int32)  {res : Int32 × Int32 × Int32 × (Nat → Int32)} (h : f_X7_safe  mo_rooms mo_goal mo_now mo_last mo_count mparent mlevel mkind mnum mlying msw mloop met = some res) : Ci l yX7_safe wsX7_safe rm_X7_safe D kA [.ref (ad 0)] sz (wM kA ad mo_state mo_rooms mo_smallDoors mo_goal mo_now mo_last mo_count mparent mlevel mkind mnum mx my mlying msw mloop mchosen met) (wM kA ad mo_state mo_rooms mo_smallDoors mo_goal mo_now res.2.1 res.2.2.1 mparent mlevel mkind mnum mx my mlying msw mloop mchosen res.2.2.2) res.1 := by
  refine Met.ofW (cc := cX7_safe) (maxL := 6) (ret := (some .boolean)) (by decide) rfl ?_
  intro p e s m args below meth c s₁ B hml hv
  obtain ⟨rfl, hsz, hP, hK, hD0, hX⟩ := hv
  subst hsz
  have hts := atoms_spec (ws := wsX7_safe) B.pre
  have hl := lv_entry ([.ref (ad 0)]) (n := 6) (Nat.le_of_ble_eq_true rfl)
  rw [lg_entry_eq]
  have hlocks := B.notSynchronized
  refine t_X7_safe (A := va_A (wM kA ad mo_state mo_rooms mo_smallDoors mo_goal mo_now mo_last mo_count mparent mlevel mkind mnum mx my mlying msw mloop mchosen met) s.heap.size) ⟨⟨B.exec, B.bytes, hml, findClass_of_methodNamed B.named, hts⟩, hK, fun q h => Or.inr h, hX⟩ (fun r q0 q1 q2 H locs ls pc hd hz w hres => ?_) ⟨hP, hD0.self, va_S.rf⟩ hl h
  subst hres
  exact W.zret B.exec B.bytes B.returns hz (fun t ht hW => ⟨⟨_, (), rfl, rfl, by rw [ht]; exact w.1, va_K.moved hW.alike hK, w.2.1⟩, w.2.2.F ht⟩) w.2.2.2.2 hd hlocks
-- ('wM', 'LockQuestModel', 'room', '(II)I', ('mo', None, None))
abbrev rm_X7_room : Room := { frames := 1, cells := 0, slots := 0, locals := 23 }
set_option maxRecDepth 20000 in
theorem lX7_room_X7 : ∀ w ∈ wsX70, w ∈ wsX7_room := by decide +kernel
set_option maxRecDepth 20000 in
theorem mX7_room_1 : Cond.fieldLink RX7 56 "LockQuestModel" "rooms" "I" ∈ wsX7_room := by decide +kernel
set_option maxRecDepth 20000 in
theorem mX7_room_2 : Cond.fieldLink RX7 7 "LockQuestModel" "parent" "[I" ∈ wsX7_room := by decide +kernel
set_option maxRecDepth 20000 in
theorem mX7_room_3 : Cond.fieldLink RX7 13 "LockQuestModel" "level" "[I" ∈ wsX7_room := by decide +kernel
set_option maxRecDepth 20000 in
theorem mX7_room_4 : Cond.fieldLink RX7 16 "LockQuestModel" "kind" "[I" ∈ wsX7_room := by decide +kernel
set_option maxRecDepth 20000 in
theorem mX7_room_5 : Cond.fieldLink RX7 22 "LockQuestModel" "x" "[I" ∈ wsX7_room := by decide +kernel
set_option maxRecDepth 20000 in
theorem mX7_room_6 : Cond.fieldLink RX7 25 "LockQuestModel" "y" "[I" ∈ wsX7_room := by decide +kernel
set_option maxRecDepth 20000 in
theorem mX7_room_7 : Cond.fieldLink RX7 28 "LockQuestModel" "lying" "[I" ∈ wsX7_room := by decide +kernel
set_option maxRecDepth 20000 in
theorem mX7_room_8 : Cond.fieldLink RX7 31 "LockQuestModel" "switches" "[Z" ∈ wsX7_room := by decide +kernel
def f_X7_room (p0 : Int32) (p1 : Int32) (mo_rooms : Int32) (mparent : Nat → Int32) (mlevel : Nat → Int32) (mkind : Nat → Int32) (mx : Nat → Int32) (my : Nat → Int32) (mlying : Nat → Int32) (msw : Nat → Int32) (mloop : Nat → Int32) : Option (Int32) := if p0 < 0 then (some (-100 : Int32)) else (if mo_rooms ≤ p0 then (some (-100 : Int32)) else (if p1 < 0 then (some (-100 : Int32)) else (if p1 ≤ (7 : Int32) then (if p1 = (0 : Int32) then (gd (p0 < 0 ∨ 12 ≤ p0.toNatClampNeg) (some (mparent p0.toNatClampNeg))) else (if p1 = (1 : Int32) then (gd (p0 < 0 ∨ 12 ≤ p0.toNatClampNeg) (some (mlevel p0.toNatClampNeg))) else (if p1 = (2 : Int32) then (gd (p0 < 0 ∨ 12 ≤ p0.toNatClampNeg) (some (mkind p0.toNatClampNeg))) else (if p1 = (3 : Int32) then (gd (p0 < 0 ∨ 12 ≤ p0.toNatClampNeg) (some (mx p0.toNatClampNeg))) else (if p1 = (4 : Int32) then (gd (p0 < 0 ∨ 12 ≤ p0.toNatClampNeg) (some (my p0.toNatClampNeg))) else (if p1 = (5 : Int32) then (gd (p0 < 0 ∨ 12 ≤ p0.toNatClampNeg) (some (mlying p0.toNatClampNeg))) else (if p1 = (6 : Int32) then (gd (p0 < 0 ∨ 12 ≤ p0.toNatClampNeg) (if (msw p0.toNatClampNeg) = 0 then (some (0 : Int32)) else (some (1 : Int32)))) else ((f_X7_doors p0 mo_rooms mparent mloop).bind (fun u20 => some u20))))))))) else (some (-100 : Int32)))))
set_option maxHeartbeats 4000000 in
set_option maxRecDepth 100000 in
theorem t_X7_room {p : Program} {l : Launch} {e : Env} {s : State} {m : MethodId} {args : Array Value} {below : List Frame} {meth : Method} {c : Code} {Q : State → Prop} {D : va_G} {kA : Nat → ClassId} {ad : Nat → Nat} {A : Nat → Prop} {mo_state : Int64} {mo_rooms : Int32} {mo_smallDoors : Int32} {mo_goal : Int32} {mo_now : Int32} {mo_last : Int32} {mo_count : Int32} {mparent : Nat → Int32} {mlevel : Nat → Int32} {mkind : Nat → Int32} {mnum : Nat → Int32} {mx : Nat → Int32} {my : Nat → Int32} {mlying : Nat → Int32} {msw : Nat → Int32} {mloop : Nat → Int32} {mchosen : Nat → Int32} {met : Nat → Int32} {p0 : Int32} {p1 : Int32} {res : Int32} (C : Cx p s m c args cX7_room 3 RX7 wsX7_room D kA A) (hret : ∀ (r : Int32) (H : Heap) (locs : List Loc) (ls : Array Slot) (pc : Nat), decode cX7_room pc = .ok (.ireturn, 1) → Wd D A s H locs (wM kA ad mo_state mo_rooms mo_smallDoors mo_goal mo_now mo_last mo_count mparent mlevel mkind mnum mx my mlying msw mloop mchosen met) → r = res → W p l e rm_X7_room s m args below meth c H locs 0 0 Q (F0 m pc ls [.int r])) {H : Heap} {locs : List Loc} {ls : Array Slot} (w : Wd D A s H locs (wM kA ad mo_state mo_rooms mo_smallDoors mo_goal mo_now mo_last mo_count mparent mlevel mkind mnum mx my mlying msw mloop mchosen met)) (hl : lv_has ls 3 [(0, .ref (ad 0)), (1, .int p0), (2, .int p1)]) (h : f_X7_room p0 p1 mo_rooms mparent mlevel mkind mx my mlying msw mloop = some res) : W p l e rm_X7_room s m args below meth c H locs 0 0 Q (F0 m 0 ls []) := by
  obtain ⟨⟨hx, hb, hml, hown, hts⟩, hK, -, -⟩ := id C
  unfold f_X7_room at h
  refine lv_iload_n hx hb dX7_room_0 rfl (lv_at hl 1 rfl) ?_
  refine lv_if_lt (tgt := 22) hx hb dX7_room_1 (by decide) (fun g1 => ?_) (fun g1 => ?_)
  · replace h := it_pos g1 h
    refine lv_bipush (v := -100) hx hb dX7_room_22 (by decide) ?_
    exact hret _ _ _ _ _ dX7_room_24 w (Option.some.inj h)
  · replace h := it_neg g1 h
    refine lv_iload_n hx hb dX7_room_4 rfl (lv_at hl 1 rfl) ?_
    refine lv_aload_n hx hb dX7_room_5 rfl (lv_at hl 0 rfl) ?_
    refine va_get (D := D) (ci := 6) (v := .int mo_rooms) (C := RX7) (T := TX7) (N := 18) hx hb hts lX7_room_X7 hown hK w.1 0 rfl rfl 1 (by decide) (hts _ mX7_room_1) (fun _ h9 => h9) rfl dX7_room_6 ?_
    refine lv_icmp_ge (tgt := 22) hx hb dX7_room_9 (by decide) (fun g2 => ?_) (fun g2 => ?_)
    · replace h := it_pos g2 h
      refine lv_bipush (v := -100) hx hb dX7_room_22 (by decide) ?_
      exact hret _ _ _ _ _ dX7_room_24 w (Option.some.inj h)
    · replace h := it_neg g2 h
      refine lv_iload_n hx hb dX7_room_12 rfl (lv_at hl 2 rfl) ?_
      refine lv_if_lt (tgt := 22) hx hb dX7_room_13 (by decide) (fun g3 => ?_) (fun g3 => ?_)
      · replace h := it_pos g3 h
        refine lv_bipush (v := -100) hx hb dX7_room_22 (by decide) ?_
        exact hret _ _ _ _ _ dX7_room_24 w (Option.some.inj h)
      · replace h := it_neg g3 h
        refine lv_iload_n hx hb dX7_room_16 rfl (lv_at hl 2 rfl) ?_
        refine lv_bipush (v := 7) hx hb dX7_room_17 (by decide) ?_
        refine lv_icmp_le (tgt := 25) hx hb dX7_room_19 (by decide) (fun g4 => ?_) (fun g4 => ?_)
        · replace h := it_pos g4 h
          refine lv_iload_n hx hb dX7_room_25 rfl (lv_at hl 2 rfl) ?_
          by_cases g5 : p1 = (0 : Int32)
          · replace h := it_pos g5 h
            refine lv_tableIn (off := 42) (tgt := 68) hx hb dX7_room_26 (by rw [g5]; decide) (by rw [g5]; decide) (by rw [g5]; rfl) (by decide) ?_
            refine lv_aload_n hx hb dX7_room_68 rfl (lv_at hl 0 rfl) ?_
            refine va_get (D := D) (ci := 6) (v := .ref (ad 1)) (C := RX7) (T := TX7) (N := 18) hx hb hts lX7_room_X7 hown hK w.1 0 rfl rfl 4 (by decide) (hts _ mX7_room_2) (fun _ h9 => h9) rfl dX7_room_69 ?_
            refine lv_iload_n hx hb dX7_room_72 rfl (lv_at hl 1 rfl) ?_
            obtain ⟨g6, h⟩ := gd_some h
            refine va_iald hx hb hK w.1 1 0 rfl rfl g6 dX7_room_73 ?_
            exact hret _ _ _ _ _ dX7_room_74 w (Option.some.inj h)
          replace h := it_neg g5 h
          by_cases g7 : p1 = (1 : Int32)
          · replace h := it_pos g7 h
            refine lv_tableIn (off := 49) (tgt := 75) hx hb dX7_room_26 (by rw [g7]; decide) (by rw [g7]; decide) (by rw [g7]; rfl) (by decide) ?_
            refine lv_aload_n hx hb dX7_room_75 rfl (lv_at hl 0 rfl) ?_
            refine va_get (D := D) (ci := 6) (v := .ref (ad 2)) (C := RX7) (T := TX7) (N := 18) hx hb hts lX7_room_X7 hown hK w.1 0 rfl rfl 5 (by decide) (hts _ mX7_room_3) (fun _ h9 => h9) rfl dX7_room_76 ?_
            refine lv_iload_n hx hb dX7_room_79 rfl (lv_at hl 1 rfl) ?_
            obtain ⟨g8, h⟩ := gd_some h
            refine va_iald hx hb hK w.1 2 0 rfl rfl g8 dX7_room_80 ?_
            exact hret _ _ _ _ _ dX7_room_81 w (Option.some.inj h)
          replace h := it_neg g7 h
          by_cases g9 : p1 = (2 : Int32)
          · replace h := it_pos g9 h
            refine lv_tableIn (off := 56) (tgt := 82) hx hb dX7_room_26 (by rw [g9]; decide) (by rw [g9]; decide) (by rw [g9]; rfl) (by decide) ?_
            refine lv_aload_n hx hb dX7_room_82 rfl (lv_at hl 0 rfl) ?_
            refine va_get (D := D) (ci := 6) (v := .ref (ad 3)) (C := RX7) (T := TX7) (N := 18) hx hb hts lX7_room_X7 hown hK w.1 0 rfl rfl 6 (by decide) (hts _ mX7_room_4) (fun _ h9 => h9) rfl dX7_room_83 ?_
            refine lv_iload_n hx hb dX7_room_86 rfl (lv_at hl 1 rfl) ?_
            obtain ⟨g10, h⟩ := gd_some h
            refine va_iald hx hb hK w.1 3 0 rfl rfl g10 dX7_room_87 ?_
            exact hret _ _ _ _ _ dX7_room_88 w (Option.some.inj h)
          replace h := it_neg g9 h
          by_cases g11 : p1 = (3 : Int32)
          · replace h := it_pos g11 h
            refine lv_tableIn (off := 63) (tgt := 89) hx hb dX7_room_26 (by rw [g11]; decide) (by rw [g11]; decide) (by rw [g11]; rfl) (by decide) ?_
            refine lv_aload_n hx hb dX7_room_89 rfl (lv_at hl 0 rfl) ?_
            refine va_get (D := D) (ci := 6) (v := .ref (ad 5)) (C := RX7) (T := TX7) (N := 18) hx hb hts lX7_room_X7 hown hK w.1 0 rfl rfl 8 (by decide) (hts _ mX7_room_5) (fun _ h9 => h9) rfl dX7_room_90 ?_
            refine lv_iload_n hx hb dX7_room_93 rfl (lv_at hl 1 rfl) ?_
            obtain ⟨g12, h⟩ := gd_some h
            refine va_iald hx hb hK w.1 5 0 rfl rfl g12 dX7_room_94 ?_
            exact hret _ _ _ _ _ dX7_room_95 w (Option.some.inj h)
          replace h := it_neg g11 h
          by_cases g13 : p1 = (4 : Int32)
          · replace h := it_pos g13 h
            refine lv_tableIn (off := 70) (tgt := 96) hx hb dX7_room_26 (by rw [g13]; decide) (by rw [g13]; decide) (by rw [g13]; rfl) (by decide) ?_
            refine lv_aload_n hx hb dX7_room_96 rfl (lv_at hl 0 rfl) ?_
            refine va_get (D := D) (ci := 6) (v := .ref (ad 6)) (C := RX7) (T := TX7) (N := 18) hx hb hts lX7_room_X7 hown hK w.1 0 rfl rfl 9 (by decide) (hts _ mX7_room_6) (fun _ h9 => h9) rfl dX7_room_97 ?_
            refine lv_iload_n hx hb dX7_room_100 rfl (lv_at hl 1 rfl) ?_
            obtain ⟨g14, h⟩ := gd_some h
            refine va_iald hx hb hK w.1 6 0 rfl rfl g14 dX7_room_101 ?_
            exact hret _ _ _ _ _ dX7_room_102 w (Option.some.inj h)
          replace h := it_neg g13 h
          by_cases g15 : p1 = (5 : Int32)
          · replace h := it_pos g15 h
            refine lv_tableIn (off := 77) (tgt := 103) hx hb dX7_room_26 (by rw [g15]; decide) (by rw [g15]; decide) (by rw [g15]; rfl) (by decide) ?_
            refine lv_aload_n hx hb dX7_room_103 rfl (lv_at hl 0 rfl) ?_
            refine va_get (D := D) (ci := 6) (v := .ref (ad 7)) (C := RX7) (T := TX7) (N := 18) hx hb hts lX7_room_X7 hown hK w.1 0 rfl rfl 10 (by decide) (hts _ mX7_room_7) (fun _ h9 => h9) rfl dX7_room_104 ?_
            refine lv_iload_n hx hb dX7_room_107 rfl (lv_at hl 1 rfl) ?_
            obtain ⟨g16, h⟩ := gd_some h
            refine va_iald hx hb hK w.1 7 0 rfl rfl g16 dX7_room_108 ?_
            exact hret _ _ _ _ _ dX7_room_109 w (Option.some.inj h)
          replace h := it_neg g15 h
          by_cases g17 : p1 = (6 : Int32)
          · replace h := it_pos g17 h
            refine lv_tableIn (off := 84) (tgt := 110) hx hb dX7_room_26 (by rw [g17]; decide) (by rw [g17]; decide) (by rw [g17]; rfl) (by decide) ?_
            refine lv_aload_n hx hb dX7_room_110 rfl (lv_at hl 0 rfl) ?_
            refine va_get (D := D) (ci := 6) (v := .ref (ad 8)) (C := RX7) (T := TX7) (N := 18) hx hb hts lX7_room_X7 hown hK w.1 0 rfl rfl 11 (by decide) (hts _ mX7_room_8) (fun _ h9 => h9) rfl dX7_room_111 ?_
            refine lv_iload_n hx hb dX7_room_114 rfl (lv_at hl 1 rfl) ?_
            obtain ⟨g18, h⟩ := gd_some h
            refine va_zald hx hb hK w.1 8 2 rfl rfl g18 dX7_room_115 ?_
            refine lv_if_eq (tgt := 123) hx hb dX7_room_116 (by decide) (fun g19 => ?_) (fun g19 => ?_)
            · replace h := it_pos g19 h
              refine lv_iconst (v := 0) hx hb dX7_room_123 (by decide) ?_
              exact hret _ _ _ _ _ dX7_room_124 w (Option.some.inj h)
            · replace h := it_neg g19 h
              refine lv_iconst (v := 1) hx hb dX7_room_119 (by decide) ?_
              refine lv_goto (tgt := 124) hx hb dX7_room_120 (by decide) ?_
              exact hret _ _ _ _ _ dX7_room_124 w (Option.some.inj h)
          replace h := it_neg g17 h
          have hout : p1.toInt < 0 ∨ 6 < p1.toInt := by
            have eg5 : p1.toInt ≠ 0 := fun q => g5 (Int32.toInt_inj.mp (q.trans (by decide)))
            have eg7 : p1.toInt ≠ 1 := fun q => g7 (Int32.toInt_inj.mp (q.trans (by decide)))
            have eg9 : p1.toInt ≠ 2 := fun q => g9 (Int32.toInt_inj.mp (q.trans (by decide)))
            have eg11 : p1.toInt ≠ 3 := fun q => g11 (Int32.toInt_inj.mp (q.trans (by decide)))
            have eg13 : p1.toInt ≠ 4 := fun q => g13 (Int32.toInt_inj.mp (q.trans (by decide)))
            have eg15 : p1.toInt ≠ 5 := fun q => g15 (Int32.toInt_inj.mp (q.trans (by decide)))
            have eg17 : p1.toInt ≠ 6 := fun q => g17 (Int32.toInt_inj.mp (q.trans (by decide)))
            omega
          refine lv_tableOut (tgt := 125) hx hb dX7_room_26 hout (by decide) ?_
          refine lv_aload_n hx hb dX7_room_125 rfl (lv_at hl 0 rfl) ?_
          refine lv_iload_n hx hb dX7_room_126 rfl (lv_at hl 1 rfl) ?_
          obtain ⟨u20, hc20, h⟩ := bd_some h
          refine gl_calli C w (va_runV (As := [.int p0]) (rest := []) ⟨hx, hb, hml, hown, hts⟩ (c_X7_doors l D kA ad H.size mo_state mo_rooms mo_smallDoors mo_goal mo_now mo_last mo_count mparent mlevel mkind mnum mx my mlying msw mloop mchosen met p0 hc20) (cwV 1 hts gX7_room_X7_doors rfl rfl rfl (by decide +kernel) ⟨Nat.le_of_ble_eq_true rfl, Nat.le_of_ble_eq_true rfl⟩) (Wd.preV C w (q0 := 0) (ci := 6) rfl rfl rfl) rfl rfl hl.1 rfl (lv_room (Nat.le_of_ble_eq_true rfl)) dX7_room_127 ⟨Nat.zero_le _, Nat.zero_le _⟩) (fun H locs w => ?_)
          exact hret _ _ _ _ _ dX7_room_130 w (Option.some.inj h)
        · replace h := it_neg g4 h
          refine lv_bipush (v := -100) hx hb dX7_room_22 (by decide) ?_
          exact hret _ _ _ _ _ dX7_room_24 w (Option.some.inj h)
set_option maxHeartbeats 4000000 in
set_option maxRecDepth 100000 in
theorem c_X7_room (l : Launch) (D : va_G) (kA : Nat → ClassId) (ad : Nat → Nat) (sz : Nat) (mo_state : Int64) (mo_rooms : Int32) (mo_smallDoors : Int32) (mo_goal : Int32) (mo_now : Int32) (mo_last : Int32) (mo_count : Int32) (mparent : Nat → Int32) (mlevel : Nat → Int32) (mkind : Nat → Int32) (mnum : Nat → Int32) (mx : Nat → Int32) (my : Nat → Int32) (mlying : Nat → Int32) (msw : Nat → Int32) (mloop : Nat → Int32) (mchosen : Nat → Int32) (met : Nat → Int32) (p0 : Int32) (p1 : Int32) {res : Int32} (h : f_X7_room p0 p1 mo_rooms mparent mlevel mkind mx my mlying msw mloop = some res) : Ci l yX7_room wsX7_room rm_X7_room D kA [.ref (ad 0), .int p0, .int p1] sz (wM kA ad mo_state mo_rooms mo_smallDoors mo_goal mo_now mo_last mo_count mparent mlevel mkind mnum mx my mlying msw mloop mchosen met) (wM kA ad mo_state mo_rooms mo_smallDoors mo_goal mo_now mo_last mo_count mparent mlevel mkind mnum mx my mlying msw mloop mchosen met) res := by
  refine Met.ofW (cc := cX7_room) (maxL := 3) (ret := (some .int)) (by decide) rfl ?_
  intro p e s m args below meth c s₁ B hml hv
  obtain ⟨rfl, hsz, hP, hK, hD0, hX⟩ := hv
  subst hsz
  have hts := atoms_spec (ws := wsX7_room) B.pre
  have hl := lv_entry ([.ref (ad 0), .int p0, .int p1]) (n := 3) (Nat.le_of_ble_eq_true rfl)
  rw [lg_entry_eq]
  have hlocks := B.notSynchronized
  refine t_X7_room (A := va_A (wM kA ad mo_state mo_rooms mo_smallDoors mo_goal mo_now mo_last mo_count mparent mlevel mkind mnum mx my mlying msw mloop mchosen met) s.heap.size) ⟨⟨B.exec, B.bytes, hml, findClass_of_methodNamed B.named, hts⟩, hK, fun q h => Or.inr h, hX⟩ (fun r H locs ls pc hd w hres => ?_) ⟨hP, hD0.self, va_S.rf⟩ hl h
  subst hres
  exact W.iret B.exec B.bytes B.returns (fun t ht hW => ⟨⟨_, (), rfl, rfl, by rw [ht]; exact w.1, va_K.moved hW.alike hK, w.2.1⟩, w.2.2.F ht⟩) w.2.2.2.2 hd hlocks
-- ('wM', 'LockQuestModel', 'behind', '(II)I', ('mo', None, None))
abbrev rm_X7_behind : Room := { frames := 1, cells := 0, slots := 0, locals := 24 }
set_option maxRecDepth 20000 in
theorem lX7_behind_X7 : ∀ w ∈ wsX70, w ∈ wsX7_behind := by decide +kernel
set_option maxRecDepth 20000 in
theorem mX7_behind_1 : Cond.fieldLink RX7 56 "LockQuestModel" "rooms" "I" ∈ wsX7_behind := by decide +kernel
def f_X7_behind (p0 : Int32) (p1 : Int32) (mo_rooms : Int32) (mparent : Nat → Int32) (mloop : Nat → Int32) : Option (Int32) := if p0 < 0 then (some (-1 : Int32)) else (if mo_rooms ≤ p0 then (some (-1 : Int32)) else (if p1 < 0 then (some (-1 : Int32)) else ((f_X7_doors p0 mo_rooms mparent mloop).bind (fun u4 => if p1 < u4 then ((f_X7_beyond p0 p1 mo_rooms mparent mloop).bind (fun u6 => some u6)) else (some (-1 : Int32))))))
set_option maxHeartbeats 4000000 in
set_option maxRecDepth 100000 in
theorem t_X7_behind {p : Program} {l : Launch} {e : Env} {s : State} {m : MethodId} {args : Array Value} {below : List Frame} {meth : Method} {c : Code} {Q : State → Prop} {D : va_G} {kA : Nat → ClassId} {ad : Nat → Nat} {A : Nat → Prop} {mo_state : Int64} {mo_rooms : Int32} {mo_smallDoors : Int32} {mo_goal : Int32} {mo_now : Int32} {mo_last : Int32} {mo_count : Int32} {mparent : Nat → Int32} {mlevel : Nat → Int32} {mkind : Nat → Int32} {mnum : Nat → Int32} {mx : Nat → Int32} {my : Nat → Int32} {mlying : Nat → Int32} {msw : Nat → Int32} {mloop : Nat → Int32} {mchosen : Nat → Int32} {met : Nat → Int32} {p0 : Int32} {p1 : Int32} {res : Int32} (C : Cx p s m c args cX7_behind 3 RX7 wsX7_behind D kA A) (hret : ∀ (r : Int32) (H : Heap) (locs : List Loc) (ls : Array Slot) (pc : Nat), decode cX7_behind pc = .ok (.ireturn, 1) → Wd D A s H locs (wM kA ad mo_state mo_rooms mo_smallDoors mo_goal mo_now mo_last mo_count mparent mlevel mkind mnum mx my mlying msw mloop mchosen met) → r = res → W p l e rm_X7_behind s m args below meth c H locs 0 0 Q (F0 m pc ls [.int r])) {H : Heap} {locs : List Loc} {ls : Array Slot} (w : Wd D A s H locs (wM kA ad mo_state mo_rooms mo_smallDoors mo_goal mo_now mo_last mo_count mparent mlevel mkind mnum mx my mlying msw mloop mchosen met)) (hl : lv_has ls 3 [(0, .ref (ad 0)), (1, .int p0), (2, .int p1)]) (h : f_X7_behind p0 p1 mo_rooms mparent mloop = some res) : W p l e rm_X7_behind s m args below meth c H locs 0 0 Q (F0 m 0 ls []) := by
  obtain ⟨⟨hx, hb, hml, hown, hts⟩, hK, -, -⟩ := id C
  unfold f_X7_behind at h
  refine lv_iload_n hx hb dX7_behind_0 rfl (lv_at hl 1 rfl) ?_
  refine lv_if_lt (tgt := 25) hx hb dX7_behind_1 (by decide) (fun g1 => ?_) (fun g1 => ?_)
  · replace h := it_pos g1 h
    refine lv_iconst (v := -1) hx hb dX7_behind_25 (by decide) ?_
    refine lv_goto (tgt := 35) hx hb dX7_behind_26 (by decide) ?_
    exact hret _ _ _ _ _ dX7_behind_35 w (Option.some.inj h)
  · replace h := it_neg g1 h
    refine lv_iload_n hx hb dX7_behind_4 rfl (lv_at hl 1 rfl) ?_
    refine lv_aload_n hx hb dX7_behind_5 rfl (lv_at hl 0 rfl) ?_
    refine va_get (D := D) (ci := 6) (v := .int mo_rooms) (C := RX7) (T := TX7) (N := 18) hx hb hts lX7_behind_X7 hown hK w.1 0 rfl rfl 1 (by decide) (hts _ mX7_behind_1) (fun _ h9 => h9) rfl dX7_behind_6 ?_
    refine lv_icmp_ge (tgt := 25) hx hb dX7_behind_9 (by decide) (fun g2 => ?_) (fun g2 => ?_)
    · replace h := it_pos g2 h
      refine lv_iconst (v := -1) hx hb dX7_behind_25 (by decide) ?_
      refine lv_goto (tgt := 35) hx hb dX7_behind_26 (by decide) ?_
      exact hret _ _ _ _ _ dX7_behind_35 w (Option.some.inj h)
    · replace h := it_neg g2 h
      refine lv_iload_n hx hb dX7_behind_12 rfl (lv_at hl 2 rfl) ?_
      refine lv_if_lt (tgt := 25) hx hb dX7_behind_13 (by decide) (fun g3 => ?_) (fun g3 => ?_)
      · replace h := it_pos g3 h
        refine lv_iconst (v := -1) hx hb dX7_behind_25 (by decide) ?_
        refine lv_goto (tgt := 35) hx hb dX7_behind_26 (by decide) ?_
        exact hret _ _ _ _ _ dX7_behind_35 w (Option.some.inj h)
      · replace h := it_neg g3 h
        refine lv_iload_n hx hb dX7_behind_16 rfl (lv_at hl 2 rfl) ?_
        refine lv_aload_n hx hb dX7_behind_17 rfl (lv_at hl 0 rfl) ?_
        refine lv_iload_n hx hb dX7_behind_18 rfl (lv_at hl 1 rfl) ?_
        obtain ⟨u4, hc4, h⟩ := bd_some h
        refine gl_calli C w (va_runV (As := [.int p0]) (rest := [.int p1]) ⟨hx, hb, hml, hown, hts⟩ (c_X7_doors l D kA ad H.size mo_state mo_rooms mo_smallDoors mo_goal mo_now mo_last mo_count mparent mlevel mkind mnum mx my mlying msw mloop mchosen met p0 hc4) (cwV 1 hts gX7_behind_X7_doors rfl rfl rfl (by decide +kernel) ⟨Nat.le_of_ble_eq_true rfl, Nat.le_of_ble_eq_true rfl⟩) (Wd.preV C w (q0 := 0) (ci := 6) rfl rfl rfl) rfl rfl hl.1 rfl (lv_room (Nat.le_of_ble_eq_true rfl)) dX7_behind_19 ⟨Nat.zero_le _, Nat.zero_le _⟩) (fun H locs w => ?_)
        refine lv_icmp_lt (tgt := 29) hx hb dX7_behind_22 (by decide) (fun g5 => ?_) (fun g5 => ?_)
        · replace h := it_pos g5 h
          refine lv_aload_n hx hb dX7_behind_29 rfl (lv_at hl 0 rfl) ?_
          refine lv_iload_n hx hb dX7_behind_30 rfl (lv_at hl 1 rfl) ?_
          refine lv_iload_n hx hb dX7_behind_31 rfl (lv_at hl 2 rfl) ?_
          obtain ⟨u6, hc6, h⟩ := bd_some h
          refine gl_calli C w (va_runV (As := [.int p0, .int p1]) (rest := []) ⟨hx, hb, hml, hown, hts⟩ (c_X7_beyond l D kA ad H.size mo_state mo_rooms mo_smallDoors mo_goal mo_now mo_last mo_count mparent mlevel mkind mnum mx my mlying msw mloop mchosen met p0 p1 hc6) (cwV 2 hts gX7_behind_X7_beyond rfl rfl rfl (by decide +kernel) ⟨Nat.le_of_ble_eq_true rfl, Nat.le_of_ble_eq_true rfl⟩) (Wd.preV C w (q0 := 0) (ci := 6) rfl rfl rfl) rfl rfl hl.1 rfl (lv_room (Nat.le_of_ble_eq_true rfl)) dX7_behind_32 ⟨Nat.zero_le _, Nat.zero_le _⟩) (fun H locs w => ?_)
          exact hret _ _ _ _ _ dX7_behind_35 w (Option.some.inj h)
        · replace h := it_neg g5 h
          refine lv_iconst (v := -1) hx hb dX7_behind_25 (by decide) ?_
          refine lv_goto (tgt := 35) hx hb dX7_behind_26 (by decide) ?_
          exact hret _ _ _ _ _ dX7_behind_35 w (Option.some.inj h)
set_option maxHeartbeats 4000000 in
set_option maxRecDepth 100000 in
theorem c_X7_behind (l : Launch) (D : va_G) (kA : Nat → ClassId) (ad : Nat → Nat) (sz : Nat) (mo_state : Int64) (mo_rooms : Int32) (mo_smallDoors : Int32) (mo_goal : Int32) (mo_now : Int32) (mo_last : Int32) (mo_count : Int32) (mparent : Nat → Int32) (mlevel : Nat → Int32) (mkind : Nat → Int32) (mnum : Nat → Int32) (mx : Nat → Int32) (my : Nat → Int32) (mlying : Nat → Int32) (msw : Nat → Int32) (mloop : Nat → Int32) (mchosen : Nat → Int32) (met : Nat → Int32) (p0 : Int32) (p1 : Int32) {res : Int32} (h : f_X7_behind p0 p1 mo_rooms mparent mloop = some res) : Ci l yX7_behind wsX7_behind rm_X7_behind D kA [.ref (ad 0), .int p0, .int p1] sz (wM kA ad mo_state mo_rooms mo_smallDoors mo_goal mo_now mo_last mo_count mparent mlevel mkind mnum mx my mlying msw mloop mchosen met) (wM kA ad mo_state mo_rooms mo_smallDoors mo_goal mo_now mo_last mo_count mparent mlevel mkind mnum mx my mlying msw mloop mchosen met) res := by
  refine Met.ofW (cc := cX7_behind) (maxL := 3) (ret := (some .int)) (by decide) rfl ?_
  intro p e s m args below meth c s₁ B hml hv
  obtain ⟨rfl, hsz, hP, hK, hD0, hX⟩ := hv
  subst hsz
  have hts := atoms_spec (ws := wsX7_behind) B.pre
  have hl := lv_entry ([.ref (ad 0), .int p0, .int p1]) (n := 3) (Nat.le_of_ble_eq_true rfl)
  rw [lg_entry_eq]
  have hlocks := B.notSynchronized
  refine t_X7_behind (A := va_A (wM kA ad mo_state mo_rooms mo_smallDoors mo_goal mo_now mo_last mo_count mparent mlevel mkind mnum mx my mlying msw mloop mchosen met) s.heap.size) ⟨⟨B.exec, B.bytes, hml, findClass_of_methodNamed B.named, hts⟩, hK, fun q h => Or.inr h, hX⟩ (fun r H locs ls pc hd w hres => ?_) ⟨hP, hD0.self, va_S.rf⟩ hl h
  subst hres
  exact W.iret B.exec B.bytes B.returns (fun t ht hW => ⟨⟨_, (), rfl, rfl, by rw [ht]; exact w.1, va_K.moved hW.alike hK, w.2.1⟩, w.2.2.F ht⟩) w.2.2.2.2 hd hlocks
-- ('wM', 'LockQuestModel', 'goal', '()I', ('mo',))
abbrev rm_X7_goal : Room := { frames := 0, cells := 0, slots := 0, locals := 0 }
set_option maxRecDepth 20000 in
theorem lX7_goal_X7 : ∀ w ∈ wsX70, w ∈ wsX7_goal := by decide +kernel
set_option maxRecDepth 20000 in
theorem mX7_goal_1 : Cond.fieldLink RX7 100 "LockQuestModel" "goal" "I" ∈ wsX7_goal := by decide +kernel
def f_X7_goal  (mo_goal : Int32) : Option (Int32) := some mo_goal
set_option maxHeartbeats 4000000 in
set_option maxRecDepth 100000 in
theorem t_X7_goal {p : Program} {l : Launch} {e : Env} {s : State} {m : MethodId} {args : Array Value} {below : List Frame} {meth : Method} {c : Code} {Q : State → Prop} {D : va_G} {kA : Nat → ClassId} {ad : Nat → Nat} {A : Nat → Prop} {mo_state : Int64} {mo_rooms : Int32} {mo_smallDoors : Int32} {mo_goal : Int32} {mo_now : Int32} {mo_last : Int32} {mo_count : Int32} {mparent : Nat → Int32} {mlevel : Nat → Int32} {mkind : Nat → Int32} {mnum : Nat → Int32} {mx : Nat → Int32} {my : Nat → Int32} {mlying : Nat → Int32} {msw : Nat → Int32} {mloop : Nat → Int32} {mchosen : Nat → Int32} {met : Nat → Int32}  {res : Int32} (C : Cx p s m c args cX7_goal 1 RX7 wsX7_goal D kA A) (hret : ∀ (r : Int32) (H : Heap) (locs : List Loc) (ls : Array Slot) (pc : Nat), decode cX7_goal pc = .ok (.ireturn, 1) → Wd D A s H locs (wM kA ad mo_state mo_rooms mo_smallDoors mo_goal mo_now mo_last mo_count mparent mlevel mkind mnum mx my mlying msw mloop mchosen met) → r = res → W p l e rm_X7_goal s m args below meth c H locs 0 0 Q (F0 m pc ls [.int r])) {H : Heap} {locs : List Loc} {ls : Array Slot} (w : Wd D A s H locs (wM kA ad mo_state mo_rooms mo_smallDoors mo_goal mo_now mo_last mo_count mparent mlevel mkind mnum mx my mlying msw mloop mchosen met)) (hl : lv_has ls 1 [(0, .ref (ad 0))]) (h : f_X7_goal  mo_goal = some res) : W p l e rm_X7_goal s m args below meth c H locs 0 0 Q (F0 m 0 ls []) := by
  obtain ⟨⟨hx, hb, hml, hown, hts⟩, hK, -, -⟩ := id C
  unfold f_X7_goal at h
  refine lv_aload_n hx hb dX7_goal_0 rfl (lv_at hl 0 rfl) ?_
  refine va_get (D := D) (ci := 6) (v := .int mo_goal) (C := RX7) (T := TX7) (N := 18) hx hb hts lX7_goal_X7 hown hK w.1 0 rfl rfl 3 (by decide) (hts _ mX7_goal_1) (fun _ h9 => h9) rfl dX7_goal_1 ?_
  exact hret _ _ _ _ _ dX7_goal_4 w (Option.some.inj h)
set_option maxHeartbeats 4000000 in
set_option maxRecDepth 100000 in
theorem c_X7_goal (l : Launch) (D : va_G) (kA : Nat → ClassId) (ad : Nat → Nat) (sz : Nat) (mo_state : Int64) (mo_rooms : Int32) (mo_smallDoors : Int32) (mo_goal : Int32) (mo_now : Int32) (mo_last : Int32) (mo_count : Int32) (mparent : Nat → Int32) (mlevel : Nat → Int32) (mkind : Nat → Int32) (mnum : Nat → Int32) (mx : Nat → Int32) (my : Nat → Int32) (mlying : Nat → Int32) (msw : Nat → Int32) (mloop : Nat → Int32) (mchosen : Nat → Int32) (met : Nat → Int32)  {res : Int32} (h : f_X7_goal  mo_goal = some res) : Ci l yX7_goal wsX7_goal rm_X7_goal D kA [.ref (ad 0)] sz (wM kA ad mo_state mo_rooms mo_smallDoors mo_goal mo_now mo_last mo_count mparent mlevel mkind mnum mx my mlying msw mloop mchosen met) (wM kA ad mo_state mo_rooms mo_smallDoors mo_goal mo_now mo_last mo_count mparent mlevel mkind mnum mx my mlying msw mloop mchosen met) res := by
  refine Met.ofW (cc := cX7_goal) (maxL := 1) (ret := (some .int)) (by decide) rfl ?_
  intro p e s m args below meth c s₁ B hml hv
  obtain ⟨rfl, hsz, hP, hK, hD0, hX⟩ := hv
  subst hsz
  have hts := atoms_spec (ws := wsX7_goal) B.pre
  have hl := lv_entry ([.ref (ad 0)]) (n := 1) (Nat.le_of_ble_eq_true rfl)
  rw [lg_entry_eq]
  have hlocks := B.notSynchronized
  refine t_X7_goal (A := va_A (wM kA ad mo_state mo_rooms mo_smallDoors mo_goal mo_now mo_last mo_count mparent mlevel mkind mnum mx my mlying msw mloop mchosen met) s.heap.size) ⟨⟨B.exec, B.bytes, hml, findClass_of_methodNamed B.named, hts⟩, hK, fun q h => Or.inr h, hX⟩ (fun r H locs ls pc hd w hres => ?_) ⟨hP, hD0.self, va_S.rf⟩ hl h
  subst hres
  exact W.iret B.exec B.bytes B.returns (fun t ht hW => ⟨⟨_, (), rfl, rfl, by rw [ht]; exact w.1, va_K.moved hW.alike hK, w.2.1⟩, w.2.2.F ht⟩) w.2.2.2.2 hd hlocks
-- ('wM', 'LockQuestModel', 'restart', '()V', ('mo',))
abbrev rm_X7_restart : Room := { frames := 0, cells := 0, slots := 0, locals := 0 }
set_option maxRecDepth 20000 in
theorem lX7_restart_X7 : ∀ w ∈ wsX70, w ∈ wsX7_restart := by decide +kernel
set_option maxRecDepth 20000 in
theorem mX7_restart_1 : Cond.fieldLink RX7 83 "LockQuestModel" "now" "I" ∈ wsX7_restart := by decide +kernel
def f_X7_restart  (mo_now : Int32) : Option (Int32) := some (0 : Int32)
set_option maxHeartbeats 4000000 in
set_option maxRecDepth 100000 in
theorem t_X7_restart {p : Program} {l : Launch} {e : Env} {s : State} {m : MethodId} {args : Array Value} {below : List Frame} {meth : Method} {c : Code} {Q : State → Prop} {D : va_G} {kA : Nat → ClassId} {ad : Nat → Nat} {A : Nat → Prop} {mo_state : Int64} {mo_rooms : Int32} {mo_smallDoors : Int32} {mo_goal : Int32} {mo_now : Int32} {mo_last : Int32} {mo_count : Int32} {mparent : Nat → Int32} {mlevel : Nat → Int32} {mkind : Nat → Int32} {mnum : Nat → Int32} {mx : Nat → Int32} {my : Nat → Int32} {mlying : Nat → Int32} {msw : Nat → Int32} {mloop : Nat → Int32} {mchosen : Nat → Int32} {met : Nat → Int32}  {res : Int32} (C : Cx p s m c args cX7_restart 1 RX7 wsX7_restart D kA A) (hret : ∀ (q0 : Int32) (H : Heap) (locs : List Loc) (ls : Array Slot) (pc : Nat), decode cX7_restart pc = .ok (.return_, 1) → Wd D A s H locs (wM kA ad mo_state mo_rooms mo_smallDoors mo_goal q0 mo_last mo_count mparent mlevel mkind mnum mx my mlying msw mloop mchosen met) → q0 = res → W p l e rm_X7_restart s m args below meth c H locs 0 0 Q (F0 m pc ls [])) {H : Heap} {locs : List Loc} {ls : Array Slot} (w : Wd D A s H locs (wM kA ad mo_state mo_rooms mo_smallDoors mo_goal mo_now mo_last mo_count mparent mlevel mkind mnum mx my mlying msw mloop mchosen met)) (hl : lv_has ls 1 [(0, .ref (ad 0))]) (h : f_X7_restart  mo_now = some res) : W p l e rm_X7_restart s m args below meth c H locs 0 0 Q (F0 m 0 ls []) := by
  obtain ⟨⟨hx, hb, hml, hown, hts⟩, hK, -, -⟩ := id C
  unfold f_X7_restart at h
  refine lv_aload_n hx hb dX7_restart_0 rfl (lv_at hl 0 rfl) ?_
  refine lv_iconst (v := 0) hx hb dX7_restart_1 (by decide) ?_
  refine va_put (D := D) (ci := 6) (v := .int (0 : Int32)) (ty := .int) (C := RX7) (T := TX7) (N := 18) hx hb hts lX7_restart_X7 tyX7 tyX7_ok nmX7 hown hK w.1 w.2.1 w.2.2 0 rfl rfl 14 (by decide) (hts _ mX7_restart_1) (fun _ h9 => h9) rfl (by decide +kernel) rfl rfl (Nat.le_of_ble_eq_true rfl) dX7_restart_2 (fun H locs hP hD hS => ?_)
  have w : Wd D A s H locs (wM kA ad mo_state mo_rooms mo_smallDoors mo_goal (0 : Int32) mo_last mo_count mparent mlevel mkind mnum mx my mlying msw mloop mchosen met) := ⟨hP, hD, hS⟩
  exact hret _ _ _ _ _ dX7_restart_5 w (Option.some.inj h)
set_option maxHeartbeats 4000000 in
set_option maxRecDepth 100000 in
theorem c_X7_restart (l : Launch) (D : va_G) (kA : Nat → ClassId) (ad : Nat → Nat) (sz : Nat) (mo_state : Int64) (mo_rooms : Int32) (mo_smallDoors : Int32) (mo_goal : Int32) (mo_now : Int32) (mo_last : Int32) (mo_count : Int32) (mparent : Nat → Int32) (mlevel : Nat → Int32) (mkind : Nat → Int32) (mnum : Nat → Int32) (mx : Nat → Int32) (my : Nat → Int32) (mlying : Nat → Int32) (msw : Nat → Int32) (mloop : Nat → Int32) (mchosen : Nat → Int32) (met : Nat → Int32)  {res : Int32} (h : f_X7_restart  mo_now = some res) : Cv l yX7_restart wsX7_restart rm_X7_restart D kA [.ref (ad 0)] sz (wM kA ad mo_state mo_rooms mo_smallDoors mo_goal mo_now mo_last mo_count mparent mlevel mkind mnum mx my mlying msw mloop mchosen met) (wM kA ad mo_state mo_rooms mo_smallDoors mo_goal res mo_last mo_count mparent mlevel mkind mnum mx my mlying msw mloop mchosen met) := by
  refine Met.ofW (cc := cX7_restart) (maxL := 1) (ret := none) (by decide) rfl ?_
  intro p e s m args below meth c s₁ B hml hv
  obtain ⟨rfl, hsz, hP, hK, hD0, hX⟩ := hv
  subst hsz
  have hts := atoms_spec (ws := wsX7_restart) B.pre
  have hl := lv_entry ([.ref (ad 0)]) (n := 1) (Nat.le_of_ble_eq_true rfl)
  rw [lg_entry_eq]
  have hlocks := B.notSynchronized
  refine t_X7_restart (A := va_A (wM kA ad mo_state mo_rooms mo_smallDoors mo_goal mo_now mo_last mo_count mparent mlevel mkind mnum mx my mlying msw mloop mchosen met) s.heap.size) ⟨⟨B.exec, B.bytes, hml, findClass_of_methodNamed B.named, hts⟩, hK, fun q h => Or.inr h, hX⟩ (fun q0 H locs ls pc hd w hres => ?_) ⟨hP, hD0.self, va_S.rf⟩ hl h
  subst hres
  exact W.vret B.exec B.bytes B.returns (fun t ht hW => ⟨⟨(), rfl, trivial, by rw [ht]; exact w.1, va_K.moved hW.alike hK, w.2.1⟩, w.2.2.F ht⟩) w.2.2.2.2 hd hlocks
-- ('wM', 'LockQuestModel', 'walk', '(I)I', ('mo', None))
abbrev rm_X7_walk : Room := { frames := 2, cells := 0, slots := 0, locals := 50 }
set_option maxRecDepth 20000 in
theorem lX7_walk_X7 : ∀ w ∈ wsX70, w ∈ wsX7_walk := by decide +kernel
set_option maxRecDepth 20000 in
theorem mX7_walk_1 : Cond.fieldLink RX7 83 "LockQuestModel" "now" "I" ∈ wsX7_walk := by decide +kernel
def f_X7_walk (p0 : Int32) (mo_rooms : Int32) (mo_now : Int32) (mparent : Nat → Int32) (mlevel : Nat → Int32) (mkind : Nat → Int32) (mnum : Nat → Int32) (mloop : Nat → Int32) : Option (Int32 × Int32) := if p0 < 0 then (some ((-1 : Int32), mo_now)) else (gd ((1024 : Int32) = 0) ((f_X7_doors (mo_now / (1024 : Int32)) mo_rooms mparent mloop).bind (fun u3 => if p0 < u3 then ((f_X7_walked mo_now p0 mo_rooms mparent mlevel mkind mnum mloop).bind (fun u5 => if 0 ≤ u5 then (gd ((1024 : Int32) = 0) (some ((u5 / (1024 : Int32)), u5))) else (some ((-2 : Int32), mo_now)))) else (some ((-1 : Int32), mo_now)))))
set_option maxHeartbeats 4000000 in
set_option maxRecDepth 100000 in
theorem t_X7_walk {p : Program} {l : Launch} {e : Env} {s : State} {m : MethodId} {args : Array Value} {below : List Frame} {meth : Method} {c : Code} {Q : State → Prop} {D : va_G} {kA : Nat → ClassId} {ad : Nat → Nat} {A : Nat → Prop} {mo_state : Int64} {mo_rooms : Int32} {mo_smallDoors : Int32} {mo_goal : Int32} {mo_now : Int32} {mo_last : Int32} {mo_count : Int32} {mparent : Nat → Int32} {mlevel : Nat → Int32} {mkind : Nat → Int32} {mnum : Nat → Int32} {mx : Nat → Int32} {my : Nat → Int32} {mlying : Nat → Int32} {msw : Nat → Int32} {mloop : Nat → Int32} {mchosen : Nat → Int32} {met : Nat → Int32} {p0 : Int32} {res : Int32 × Int32} (C : Cx p s m c args cX7_walk 3 RX7 wsX7_walk D kA A) (hret : ∀ (r : Int32) (q0 : Int32) (H : Heap) (locs : List Loc) (ls : Array Slot) (pc : Nat), decode cX7_walk pc = .ok (.ireturn, 1) → Wd D A s H locs (wM kA ad mo_state mo_rooms mo_smallDoors mo_goal q0 mo_last mo_count mparent mlevel mkind mnum mx my mlying msw mloop mchosen met) → (r, q0) = res → W p l e rm_X7_walk s m args below meth c H locs 0 0 Q (F0 m pc ls [.int r])) {H : Heap} {locs : List Loc} {ls : Array Slot} (w : Wd D A s H locs (wM kA ad mo_state mo_rooms mo_smallDoors mo_goal mo_now mo_last mo_count mparent mlevel mkind mnum mx my mlying msw mloop mchosen met)) (hl : lv_has ls 3 [(0, .ref (ad 0)), (1, .int p0)]) (h : f_X7_walk p0 mo_rooms mo_now mparent mlevel mkind mnum mloop = some res) : W p l e rm_X7_walk s m args below meth c H locs 0 0 Q (F0 m 0 ls []) := by
  obtain ⟨⟨hx, hb, hml, hown, hts⟩, hK, -, -⟩ := id C
  unfold f_X7_walk at h
  refine lv_iload_n hx hb dX7_walk_0 rfl (lv_at hl 1 rfl) ?_
  refine lv_if_lt (tgt := 20) hx hb dX7_walk_1 (by decide) (fun g1 => ?_) (fun g1 => ?_)
  · replace h := it_pos g1 h
    refine lv_iconst (v := -1) hx hb dX7_walk_20 (by decide) ?_
    exact hret _ _ _ _ _ _ dX7_walk_21 w (Option.some.inj h)
  · replace h := it_neg g1 h
    refine lv_iload_n hx hb dX7_walk_4 rfl (lv_at hl 1 rfl) ?_
    refine lv_aload_n hx hb dX7_walk_5 rfl (lv_at hl 0 rfl) ?_
    refine lv_aload_n hx hb dX7_walk_6 rfl (lv_at hl 0 rfl) ?_
    refine va_get (D := D) (ci := 6) (v := .int mo_now) (C := RX7) (T := TX7) (N := 18) hx hb hts lX7_walk_X7 hown hK w.1 0 rfl rfl 14 (by decide) (hts _ mX7_walk_1) (fun _ h9 => h9) rfl dX7_walk_7 ?_
    refine lv_sipush (v := 1024) hx hb dX7_walk_10 (by decide) ?_
    obtain ⟨g2, h⟩ := gd_some h
    refine lv_idiv hx hb dX7_walk_13 g2 ?_
    obtain ⟨u3, hc3, h⟩ := bd_some h
    refine gl_calli C w (va_runV (As := [.int (mo_now / (1024 : Int32))]) (rest := [.int p0]) ⟨hx, hb, hml, hown, hts⟩ (c_X7_doors l D kA ad H.size mo_state mo_rooms mo_smallDoors mo_goal mo_now mo_last mo_count mparent mlevel mkind mnum mx my mlying msw mloop mchosen met (mo_now / (1024 : Int32)) hc3) (cwV 1 hts gX7_walk_X7_doors rfl rfl rfl (by decide +kernel) ⟨Nat.le_of_ble_eq_true rfl, Nat.le_of_ble_eq_true rfl⟩) (Wd.preV C w (q0 := 0) (ci := 6) rfl rfl rfl) rfl rfl hl.1 rfl (lv_room (Nat.le_of_ble_eq_true rfl)) dX7_walk_14 ⟨Nat.zero_le _, Nat.zero_le _⟩) (fun H locs w => ?_)
    refine lv_icmp_lt (tgt := 22) hx hb dX7_walk_17 (by decide) (fun g4 => ?_) (fun g4 => ?_)
    · replace h := it_pos g4 h
      refine lv_aload_n hx hb dX7_walk_22 rfl (lv_at hl 0 rfl) ?_
      refine lv_aload_n hx hb dX7_walk_23 rfl (lv_at hl 0 rfl) ?_
      refine va_get (D := D) (ci := 6) (v := .int mo_now) (C := RX7) (T := TX7) (N := 18) hx hb hts lX7_walk_X7 hown hK w.1 0 rfl rfl 14 (by decide) (hts _ mX7_walk_1) (fun _ h9 => h9) rfl dX7_walk_24 ?_
      refine lv_iload_n hx hb dX7_walk_27 rfl (lv_at hl 1 rfl) ?_
      obtain ⟨u5, hc5, h⟩ := bd_some h
      refine gl_calli C w (va_runV (As := [.int mo_now, .int p0]) (rest := []) ⟨hx, hb, hml, hown, hts⟩ (c_X7_walked l D kA ad H.size mo_state mo_rooms mo_smallDoors mo_goal mo_now mo_last mo_count mparent mlevel mkind mnum mx my mlying msw mloop mchosen met mo_now p0 hc5) (cwV 2 hts gX7_walk_X7_walked rfl rfl rfl (by decide +kernel) ⟨Nat.le_of_ble_eq_true rfl, Nat.le_of_ble_eq_true rfl⟩) (Wd.preV C w (q0 := 0) (ci := 6) rfl rfl rfl) rfl rfl hl.1 rfl (lv_room (Nat.le_of_ble_eq_true rfl)) dX7_walk_28 ⟨Nat.zero_le _, Nat.zero_le _⟩) (fun H locs w => ?_)
      refine lv_istore_n (lv' := [(2, .int u5), (0, .ref (ad 0)), (1, .int p0)]) hx hb dX7_walk_31 rfl hl (by decide) rfl (fun ls hl => ?_)
      refine lv_iload_n hx hb dX7_walk_32 rfl (lv_at hl 0 rfl) ?_
      refine lv_if_ge (tgt := 39) hx hb dX7_walk_33 (by decide) (fun g6 => ?_) (fun g6 => ?_)
      · replace h := it_pos g6 h
        refine lv_aload_n hx hb dX7_walk_39 rfl (lv_at hl 1 rfl) ?_
        refine lv_iload_n hx hb dX7_walk_40 rfl (lv_at hl 0 rfl) ?_
        refine va_put (D := D) (ci := 6) (v := .int u5) (ty := .int) (C := RX7) (T := TX7) (N := 18) hx hb hts lX7_walk_X7 tyX7 tyX7_ok nmX7 hown hK w.1 w.2.1 w.2.2 0 rfl rfl 14 (by decide) (hts _ mX7_walk_1) (fun _ h9 => h9) rfl (by decide +kernel) rfl rfl (Nat.le_of_ble_eq_true rfl) dX7_walk_41 (fun H locs hP hD hS => ?_)
        have w : Wd D A s H locs (wM kA ad mo_state mo_rooms mo_smallDoors mo_goal u5 mo_last mo_count mparent mlevel mkind mnum mx my mlying msw mloop mchosen met) := ⟨hP, hD, hS⟩
        refine lv_aload_n hx hb dX7_walk_44 rfl (lv_at hl 1 rfl) ?_
        refine va_get (D := D) (ci := 6) (v := .int u5) (C := RX7) (T := TX7) (N := 18) hx hb hts lX7_walk_X7 hown hK w.1 0 rfl rfl 14 (by decide) (hts _ mX7_walk_1) (fun _ h9 => h9) rfl dX7_walk_45 ?_
        refine lv_sipush (v := 1024) hx hb dX7_walk_48 (by decide) ?_
        obtain ⟨g7, h⟩ := gd_some h
        refine lv_idiv hx hb dX7_walk_51 g7 ?_
        exact hret _ _ _ _ _ _ dX7_walk_52 w (Option.some.inj h)
      · replace h := it_neg g6 h
        refine lv_bipush (v := -2) hx hb dX7_walk_36 (by decide) ?_
        exact hret _ _ _ _ _ _ dX7_walk_38 w (Option.some.inj h)
    · replace h := it_neg g4 h
      refine lv_iconst (v := -1) hx hb dX7_walk_20 (by decide) ?_
      exact hret _ _ _ _ _ _ dX7_walk_21 w (Option.some.inj h)
set_option maxHeartbeats 4000000 in
set_option maxRecDepth 100000 in
theorem c_X7_walk (l : Launch) (D : va_G) (kA : Nat → ClassId) (ad : Nat → Nat) (sz : Nat) (mo_state : Int64) (mo_rooms : Int32) (mo_smallDoors : Int32) (mo_goal : Int32) (mo_now : Int32) (mo_last : Int32) (mo_count : Int32) (mparent : Nat → Int32) (mlevel : Nat → Int32) (mkind : Nat → Int32) (mnum : Nat → Int32) (mx : Nat → Int32) (my : Nat → Int32) (mlying : Nat → Int32) (msw : Nat → Int32) (mloop : Nat → Int32) (mchosen : Nat → Int32) (met : Nat → Int32) (p0 : Int32) {res : Int32 × Int32} (h : f_X7_walk p0 mo_rooms mo_now mparent mlevel mkind mnum mloop = some res) : Ci l yX7_walk wsX7_walk rm_X7_walk D kA [.ref (ad 0), .int p0] sz (wM kA ad mo_state mo_rooms mo_smallDoors mo_goal mo_now mo_last mo_count mparent mlevel mkind mnum mx my mlying msw mloop mchosen met) (wM kA ad mo_state mo_rooms mo_smallDoors mo_goal res.2 mo_last mo_count mparent mlevel mkind mnum mx my mlying msw mloop mchosen met) res.1 := by
  refine Met.ofW (cc := cX7_walk) (maxL := 3) (ret := (some .int)) (by decide) rfl ?_
  intro p e s m args below meth c s₁ B hml hv
  obtain ⟨rfl, hsz, hP, hK, hD0, hX⟩ := hv
  subst hsz
  have hts := atoms_spec (ws := wsX7_walk) B.pre
  have hl := lv_entry ([.ref (ad 0), .int p0]) (n := 3) (Nat.le_of_ble_eq_true rfl)
  rw [lg_entry_eq]
  have hlocks := B.notSynchronized
  refine t_X7_walk (A := va_A (wM kA ad mo_state mo_rooms mo_smallDoors mo_goal mo_now mo_last mo_count mparent mlevel mkind mnum mx my mlying msw mloop mchosen met) s.heap.size) ⟨⟨B.exec, B.bytes, hml, findClass_of_methodNamed B.named, hts⟩, hK, fun q h => Or.inr h, hX⟩ (fun r q0 H locs ls pc hd w hres => ?_) ⟨hP, hD0.self, va_S.rf⟩ hl h
  subst hres
  exact W.iret B.exec B.bytes B.returns (fun t ht hW => ⟨⟨_, (), rfl, rfl, by rw [ht]; exact w.1, va_K.moved hW.alike hK, w.2.1⟩, w.2.2.F ht⟩) w.2.2.2.2 hd hlocks
-- ('wM', 'LockQuestModel', 'take', '()I', ('mo',))
abbrev rm_X7_take : Room := { frames := 3, cells := 0, slots := 0, locals := 74 }
set_option maxRecDepth 20000 in
theorem lX7_take_X7 : ∀ w ∈ wsX70, w ∈ wsX7_take := by decide +kernel
set_option maxRecDepth 20000 in
theorem mX7_take_1 : Cond.fieldLink RX7 83 "LockQuestModel" "now" "I" ∈ wsX7_take := by decide +kernel
def f_X7_take  (mo_rooms : Int32) (mo_now : Int32) (mparent : Nat → Int32) (mlevel : Nat → Int32) (mkind : Nat → Int32) (mnum : Nat → Int32) (mlying : Nat → Int32) (msw : Nat → Int32) (mloop : Nat → Int32) : Option (Int32 × Int32) := (f_X7_takeable mo_now mlying).bind (fun u1 => (f_X7_after mo_now (100 : Int32) mo_rooms mparent mlevel mkind mnum mlying msw mloop).bind (fun u2 => gd ((8 : Int32) = 0) ((f_X7_ones (u1 - u1 / (8 : Int32) * (8 : Int32))).bind (fun u4 => gd ((8 : Int32) = 0) ((f_X7_ones (u1 / (8 : Int32))).bind (fun u6 => some ((u4 + u6), u2)))))))
set_option maxHeartbeats 4000000 in
set_option maxRecDepth 100000 in
theorem t_X7_take {p : Program} {l : Launch} {e : Env} {s : State} {m : MethodId} {args : Array Value} {below : List Frame} {meth : Method} {c : Code} {Q : State → Prop} {D : va_G} {kA : Nat → ClassId} {ad : Nat → Nat} {A : Nat → Prop} {mo_state : Int64} {mo_rooms : Int32} {mo_smallDoors : Int32} {mo_goal : Int32} {mo_now : Int32} {mo_last : Int32} {mo_count : Int32} {mparent : Nat → Int32} {mlevel : Nat → Int32} {mkind : Nat → Int32} {mnum : Nat → Int32} {mx : Nat → Int32} {my : Nat → Int32} {mlying : Nat → Int32} {msw : Nat → Int32} {mloop : Nat → Int32} {mchosen : Nat → Int32} {met : Nat → Int32}  {res : Int32 × Int32} (C : Cx p s m c args cX7_take 2 RX7 wsX7_take D kA A) (hret : ∀ (r : Int32) (q0 : Int32) (H : Heap) (locs : List Loc) (ls : Array Slot) (pc : Nat), decode cX7_take pc = .ok (.ireturn, 1) → Wd D A s H locs (wM kA ad mo_state mo_rooms mo_smallDoors mo_goal q0 mo_last mo_count mparent mlevel mkind mnum mx my mlying msw mloop mchosen met) → (r, q0) = res → W p l e rm_X7_take s m args below meth c H locs 0 0 Q (F0 m pc ls [.int r])) {H : Heap} {locs : List Loc} {ls : Array Slot} (w : Wd D A s H locs (wM kA ad mo_state mo_rooms mo_smallDoors mo_goal mo_now mo_last mo_count mparent mlevel mkind mnum mx my mlying msw mloop mchosen met)) (hl : lv_has ls 2 [(0, .ref (ad 0))]) (h : f_X7_take  mo_rooms mo_now mparent mlevel mkind mnum mlying msw mloop = some res) : W p l e rm_X7_take s m args below meth c H locs 0 0 Q (F0 m 0 ls []) := by
  obtain ⟨⟨hx, hb, hml, hown, hts⟩, hK, -, -⟩ := id C
  unfold f_X7_take at h
  refine lv_aload_n hx hb dX7_take_0 rfl (lv_at hl 0 rfl) ?_
  refine lv_aload_n hx hb dX7_take_1 rfl (lv_at hl 0 rfl) ?_
  refine va_get (D := D) (ci := 6) (v := .int mo_now) (C := RX7) (T := TX7) (N := 18) hx hb hts lX7_take_X7 hown hK w.1 0 rfl rfl 14 (by decide) (hts _ mX7_take_1) (fun _ h9 => h9) rfl dX7_take_2 ?_
  obtain ⟨u1, hc1, h⟩ := bd_some h
  refine gl_calli C w (va_runV (As := [.int mo_now]) (rest := []) ⟨hx, hb, hml, hown, hts⟩ (c_X7_takeable l D kA ad H.size mo_state mo_rooms mo_smallDoors mo_goal mo_now mo_last mo_count mparent mlevel mkind mnum mx my mlying msw mloop mchosen met mo_now hc1) (cwV 1 hts gX7_take_X7_takeable rfl rfl rfl (by decide +kernel) ⟨Nat.le_of_ble_eq_true rfl, Nat.le_of_ble_eq_true rfl⟩) (Wd.preV C w (q0 := 0) (ci := 6) rfl rfl rfl) rfl rfl hl.1 rfl (lv_room (Nat.le_of_ble_eq_true rfl)) dX7_take_5 ⟨Nat.zero_le _, Nat.zero_le _⟩) (fun H locs w => ?_)
  refine lv_istore_n (lv' := [(1, .int u1), (0, .ref (ad 0))]) hx hb dX7_take_8 rfl hl (by decide) rfl (fun ls hl => ?_)
  refine lv_aload_n hx hb dX7_take_9 rfl (lv_at hl 1 rfl) ?_
  refine lv_aload_n hx hb dX7_take_10 rfl (lv_at hl 1 rfl) ?_
  refine lv_aload_n hx hb dX7_take_11 rfl (lv_at hl 1 rfl) ?_
  refine va_get (D := D) (ci := 6) (v := .int mo_now) (C := RX7) (T := TX7) (N := 18) hx hb hts lX7_take_X7 hown hK w.1 0 rfl rfl 14 (by decide) (hts _ mX7_take_1) (fun _ h9 => h9) rfl dX7_take_12 ?_
  refine lv_bipush (v := 100) hx hb dX7_take_15 (by decide) ?_
  obtain ⟨u2, hc2, h⟩ := bd_some h
  refine gl_calli C w (va_runV (As := [.int mo_now, .int (100 : Int32)]) (rest := [.ref (ad 0)]) ⟨hx, hb, hml, hown, hts⟩ (c_X7_after l D kA ad H.size mo_state mo_rooms mo_smallDoors mo_goal mo_now mo_last mo_count mparent mlevel mkind mnum mx my mlying msw mloop mchosen met mo_now (100 : Int32) hc2) (cwV 2 hts gX7_take_X7_after rfl rfl rfl (by decide +kernel) ⟨Nat.le_of_ble_eq_true rfl, Nat.le_of_ble_eq_true rfl⟩) (Wd.preV C w (q0 := 0) (ci := 6) rfl rfl rfl) rfl rfl hl.1 rfl (lv_room (Nat.le_of_ble_eq_true rfl)) dX7_take_17 ⟨Nat.zero_le _, Nat.zero_le _⟩) (fun H locs w => ?_)
  refine va_put (D := D) (ci := 6) (v := .int u2) (ty := .int) (C := RX7) (T := TX7) (N := 18) hx hb hts lX7_take_X7 tyX7 tyX7_ok nmX7 hown hK w.1 w.2.1 w.2.2 0 rfl rfl 14 (by decide) (hts _ mX7_take_1) (fun _ h9 => h9) rfl (by decide +kernel) rfl rfl (Nat.le_of_ble_eq_true rfl) dX7_take_20 (fun H locs hP hD hS => ?_)
  have w : Wd D A s H locs (wM kA ad mo_state mo_rooms mo_smallDoors mo_goal u2 mo_last mo_count mparent mlevel mkind mnum mx my mlying msw mloop mchosen met) := ⟨hP, hD, hS⟩
  refine lv_iload_n hx hb dX7_take_23 rfl (lv_at hl 0 rfl) ?_
  refine lv_bipush (v := 8) hx hb dX7_take_24 (by decide) ?_
  obtain ⟨g3, h⟩ := gd_some h
  refine lv_irem hx hb dX7_take_26 g3 ?_
  obtain ⟨u4, hc4, h⟩ := bd_some h
  refine gl_calli C w (va_runS (As := [.int (u1 - u1 / (8 : Int32) * (8 : Int32))]) (rest := []) ⟨hx, hb, hml, hown, hts⟩ (c_X7_ones l D kA ad H.size mo_state mo_rooms mo_smallDoors mo_goal u2 mo_last mo_count mparent mlevel mkind mnum mx my mlying msw mloop mchosen met (u1 - u1 / (8 : Int32) * (8 : Int32)) hc4) (va_cwS 1 hts gX7_take_X7_ones rfl rfl rfl (by decide +kernel) ⟨Nat.le_of_ble_eq_true rfl, Nat.le_of_ble_eq_true rfl⟩) (Wd.preS C w) rfl rfl hl.1 rfl (lv_room (Nat.le_of_ble_eq_true rfl)) dX7_take_27 ⟨Nat.zero_le _, Nat.zero_le _⟩) (fun H locs w => ?_)
  refine lv_iload_n hx hb dX7_take_30 rfl (lv_at hl 0 rfl) ?_
  refine lv_bipush (v := 8) hx hb dX7_take_31 (by decide) ?_
  obtain ⟨g5, h⟩ := gd_some h
  refine lv_idiv hx hb dX7_take_33 g5 ?_
  obtain ⟨u6, hc6, h⟩ := bd_some h
  refine gl_calli C w (va_runS (As := [.int (u1 / (8 : Int32))]) (rest := [.int u4]) ⟨hx, hb, hml, hown, hts⟩ (c_X7_ones l D kA ad H.size mo_state mo_rooms mo_smallDoors mo_goal u2 mo_last mo_count mparent mlevel mkind mnum mx my mlying msw mloop mchosen met (u1 / (8 : Int32)) hc6) (va_cwS 1 hts gX7_take_X7_ones rfl rfl rfl (by decide +kernel) ⟨Nat.le_of_ble_eq_true rfl, Nat.le_of_ble_eq_true rfl⟩) (Wd.preS C w) rfl rfl hl.1 rfl (lv_room (Nat.le_of_ble_eq_true rfl)) dX7_take_34 ⟨Nat.zero_le _, Nat.zero_le _⟩) (fun H locs w => ?_)
  refine lv_iadd hx hb dX7_take_37 ?_
  exact hret _ _ _ _ _ _ dX7_take_38 w (Option.some.inj h)
set_option maxHeartbeats 4000000 in
set_option maxRecDepth 100000 in
theorem c_X7_take (l : Launch) (D : va_G) (kA : Nat → ClassId) (ad : Nat → Nat) (sz : Nat) (mo_state : Int64) (mo_rooms : Int32) (mo_smallDoors : Int32) (mo_goal : Int32) (mo_now : Int32) (mo_last : Int32) (mo_count : Int32) (mparent : Nat → Int32) (mlevel : Nat → Int32) (mkind : Nat → Int32) (mnum : Nat → Int32) (mx : Nat → Int32) (my : Nat → Int32) (mlying : Nat → Int32) (msw : Nat → Int32) (mloop : Nat → Int32) (mchosen : Nat → Int32) (met : Nat → Int32)  {res : Int32 × Int32} (h : f_X7_take  mo_rooms mo_now mparent mlevel mkind mnum mlying msw mloop = some res) : Ci l yX7_take wsX7_take rm_X7_take D kA [.ref (ad 0)] sz (wM kA ad mo_state mo_rooms mo_smallDoors mo_goal mo_now mo_last mo_count mparent mlevel mkind mnum mx my mlying msw mloop mchosen met) (wM kA ad mo_state mo_rooms mo_smallDoors mo_goal res.2 mo_last mo_count mparent mlevel mkind mnum mx my mlying msw mloop mchosen met) res.1 := by
  refine Met.ofW (cc := cX7_take) (maxL := 2) (ret := (some .int)) (by decide) rfl ?_
  intro p e s m args below meth c s₁ B hml hv
  obtain ⟨rfl, hsz, hP, hK, hD0, hX⟩ := hv
  subst hsz
  have hts := atoms_spec (ws := wsX7_take) B.pre
  have hl := lv_entry ([.ref (ad 0)]) (n := 2) (Nat.le_of_ble_eq_true rfl)
  rw [lg_entry_eq]
  have hlocks := B.notSynchronized
  refine t_X7_take (A := va_A (wM kA ad mo_state mo_rooms mo_smallDoors mo_goal mo_now mo_last mo_count mparent mlevel mkind mnum mx my mlying msw mloop mchosen met) s.heap.size) ⟨⟨B.exec, B.bytes, hml, findClass_of_methodNamed B.named, hts⟩, hK, fun q h => Or.inr h, hX⟩ (fun r q0 H locs ls pc hd w hres => ?_) ⟨hP, hD0.self, va_S.rf⟩ hl h
  subst hres
  exact W.iret B.exec B.bytes B.returns (fun t ht hW => ⟨⟨_, (), rfl, rfl, by rw [ht]; exact w.1, va_K.moved hW.alike hK, w.2.1⟩, w.2.2.F ht⟩) w.2.2.2.2 hd hlocks
-- ('wM', 'LockQuestModel', 'toggle', '()I', ('mo',))
abbrev rm_X7_toggle : Room := { frames := 3, cells := 0, slots := 0, locals := 74 }
set_option maxRecDepth 20000 in
theorem lX7_toggle_X7 : ∀ w ∈ wsX70, w ∈ wsX7_toggle := by decide +kernel
set_option maxRecDepth 20000 in
theorem mX7_toggle_1 : Cond.fieldLink RX7 83 "LockQuestModel" "now" "I" ∈ wsX7_toggle := by decide +kernel
def f_X7_toggle  (mo_rooms : Int32) (mo_now : Int32) (mparent : Nat → Int32) (mlevel : Nat → Int32) (mkind : Nat → Int32) (mnum : Nat → Int32) (mlying : Nat → Int32) (msw : Nat → Int32) (mloop : Nat → Int32) : Option (Int32 × Int32) := (f_X7_after mo_now (200 : Int32) mo_rooms mparent mlevel mkind mnum mlying msw mloop).bind (fun u1 => if 0 ≤ u1 then (gd ((2 : Int32) = 0) (some ((u1 - u1 / (2 : Int32) * (2 : Int32)), u1))) else (some ((-1 : Int32), mo_now)))
set_option maxHeartbeats 4000000 in
set_option maxRecDepth 100000 in
theorem t_X7_toggle {p : Program} {l : Launch} {e : Env} {s : State} {m : MethodId} {args : Array Value} {below : List Frame} {meth : Method} {c : Code} {Q : State → Prop} {D : va_G} {kA : Nat → ClassId} {ad : Nat → Nat} {A : Nat → Prop} {mo_state : Int64} {mo_rooms : Int32} {mo_smallDoors : Int32} {mo_goal : Int32} {mo_now : Int32} {mo_last : Int32} {mo_count : Int32} {mparent : Nat → Int32} {mlevel : Nat → Int32} {mkind : Nat → Int32} {mnum : Nat → Int32} {mx : Nat → Int32} {my : Nat → Int32} {mlying : Nat → Int32} {msw : Nat → Int32} {mloop : Nat → Int32} {mchosen : Nat → Int32} {met : Nat → Int32}  {res : Int32 × Int32} (C : Cx p s m c args cX7_toggle 2 RX7 wsX7_toggle D kA A) (hret : ∀ (r : Int32) (q0 : Int32) (H : Heap) (locs : List Loc) (ls : Array Slot) (pc : Nat), decode cX7_toggle pc = .ok (.ireturn, 1) → Wd D A s H locs (wM kA ad mo_state mo_rooms mo_smallDoors mo_goal q0 mo_last mo_count mparent mlevel mkind mnum mx my mlying msw mloop mchosen met) → (r, q0) = res → W p l e rm_X7_toggle s m args below meth c H locs 0 0 Q (F0 m pc ls [.int r])) {H : Heap} {locs : List Loc} {ls : Array Slot} (w : Wd D A s H locs (wM kA ad mo_state mo_rooms mo_smallDoors mo_goal mo_now mo_last mo_count mparent mlevel mkind mnum mx my mlying msw mloop mchosen met)) (hl : lv_has ls 2 [(0, .ref (ad 0))]) (h : f_X7_toggle  mo_rooms mo_now mparent mlevel mkind mnum mlying msw mloop = some res) : W p l e rm_X7_toggle s m args below meth c H locs 0 0 Q (F0 m 0 ls []) := by
  obtain ⟨⟨hx, hb, hml, hown, hts⟩, hK, -, -⟩ := id C
  unfold f_X7_toggle at h
  refine lv_aload_n hx hb dX7_toggle_0 rfl (lv_at hl 0 rfl) ?_
  refine lv_aload_n hx hb dX7_toggle_1 rfl (lv_at hl 0 rfl) ?_
  refine va_get (D := D) (ci := 6) (v := .int mo_now) (C := RX7) (T := TX7) (N := 18) hx hb hts lX7_toggle_X7 hown hK w.1 0 rfl rfl 14 (by decide) (hts _ mX7_toggle_1) (fun _ h9 => h9) rfl dX7_toggle_2 ?_
  refine lv_sipush (v := 200) hx hb dX7_toggle_5 (by decide) ?_
  obtain ⟨u1, hc1, h⟩ := bd_some h
  refine gl_calli C w (va_runV (As := [.int mo_now, .int (200 : Int32)]) (rest := []) ⟨hx, hb, hml, hown, hts⟩ (c_X7_after l D kA ad H.size mo_state mo_rooms mo_smallDoors mo_goal mo_now mo_last mo_count mparent mlevel mkind mnum mx my mlying msw mloop mchosen met mo_now (200 : Int32) hc1) (cwV 2 hts gX7_toggle_X7_after rfl rfl rfl (by decide +kernel) ⟨Nat.le_of_ble_eq_true rfl, Nat.le_of_ble_eq_true rfl⟩) (Wd.preV C w (q0 := 0) (ci := 6) rfl rfl rfl) rfl rfl hl.1 rfl (lv_room (Nat.le_of_ble_eq_true rfl)) dX7_toggle_8 ⟨Nat.zero_le _, Nat.zero_le _⟩) (fun H locs w => ?_)
  refine lv_istore_n (lv' := [(1, .int u1), (0, .ref (ad 0))]) hx hb dX7_toggle_11 rfl hl (by decide) rfl (fun ls hl => ?_)
  refine lv_iload_n hx hb dX7_toggle_12 rfl (lv_at hl 0 rfl) ?_
  refine lv_if_ge (tgt := 18) hx hb dX7_toggle_13 (by decide) (fun g2 => ?_) (fun g2 => ?_)
  · replace h := it_pos g2 h
    refine lv_aload_n hx hb dX7_toggle_18 rfl (lv_at hl 1 rfl) ?_
    refine lv_iload_n hx hb dX7_toggle_19 rfl (lv_at hl 0 rfl) ?_
    refine va_put (D := D) (ci := 6) (v := .int u1) (ty := .int) (C := RX7) (T := TX7) (N := 18) hx hb hts lX7_toggle_X7 tyX7 tyX7_ok nmX7 hown hK w.1 w.2.1 w.2.2 0 rfl rfl 14 (by decide) (hts _ mX7_toggle_1) (fun _ h9 => h9) rfl (by decide +kernel) rfl rfl (Nat.le_of_ble_eq_true rfl) dX7_toggle_20 (fun H locs hP hD hS => ?_)
    have w : Wd D A s H locs (wM kA ad mo_state mo_rooms mo_smallDoors mo_goal u1 mo_last mo_count mparent mlevel mkind mnum mx my mlying msw mloop mchosen met) := ⟨hP, hD, hS⟩
    refine lv_aload_n hx hb dX7_toggle_23 rfl (lv_at hl 1 rfl) ?_
    refine va_get (D := D) (ci := 6) (v := .int u1) (C := RX7) (T := TX7) (N := 18) hx hb hts lX7_toggle_X7 hown hK w.1 0 rfl rfl 14 (by decide) (hts _ mX7_toggle_1) (fun _ h9 => h9) rfl dX7_toggle_24 ?_
    refine lv_iconst (v := 2) hx hb dX7_toggle_27 (by decide) ?_
    obtain ⟨g3, h⟩ := gd_some h
    refine lv_irem hx hb dX7_toggle_28 g3 ?_
    exact hret _ _ _ _ _ _ dX7_toggle_29 w (Option.some.inj h)
  · replace h := it_neg g2 h
    refine lv_iconst (v := -1) hx hb dX7_toggle_16 (by decide) ?_
    exact hret _ _ _ _ _ _ dX7_toggle_17 w (Option.some.inj h)
set_option maxHeartbeats 4000000 in
set_option maxRecDepth 100000 in
theorem c_X7_toggle (l : Launch) (D : va_G) (kA : Nat → ClassId) (ad : Nat → Nat) (sz : Nat) (mo_state : Int64) (mo_rooms : Int32) (mo_smallDoors : Int32) (mo_goal : Int32) (mo_now : Int32) (mo_last : Int32) (mo_count : Int32) (mparent : Nat → Int32) (mlevel : Nat → Int32) (mkind : Nat → Int32) (mnum : Nat → Int32) (mx : Nat → Int32) (my : Nat → Int32) (mlying : Nat → Int32) (msw : Nat → Int32) (mloop : Nat → Int32) (mchosen : Nat → Int32) (met : Nat → Int32)  {res : Int32 × Int32} (h : f_X7_toggle  mo_rooms mo_now mparent mlevel mkind mnum mlying msw mloop = some res) : Ci l yX7_toggle wsX7_toggle rm_X7_toggle D kA [.ref (ad 0)] sz (wM kA ad mo_state mo_rooms mo_smallDoors mo_goal mo_now mo_last mo_count mparent mlevel mkind mnum mx my mlying msw mloop mchosen met) (wM kA ad mo_state mo_rooms mo_smallDoors mo_goal res.2 mo_last mo_count mparent mlevel mkind mnum mx my mlying msw mloop mchosen met) res.1 := by
  refine Met.ofW (cc := cX7_toggle) (maxL := 2) (ret := (some .int)) (by decide) rfl ?_
  intro p e s m args below meth c s₁ B hml hv
  obtain ⟨rfl, hsz, hP, hK, hD0, hX⟩ := hv
  subst hsz
  have hts := atoms_spec (ws := wsX7_toggle) B.pre
  have hl := lv_entry ([.ref (ad 0)]) (n := 2) (Nat.le_of_ble_eq_true rfl)
  rw [lg_entry_eq]
  have hlocks := B.notSynchronized
  refine t_X7_toggle (A := va_A (wM kA ad mo_state mo_rooms mo_smallDoors mo_goal mo_now mo_last mo_count mparent mlevel mkind mnum mx my mlying msw mloop mchosen met) s.heap.size) ⟨⟨B.exec, B.bytes, hml, findClass_of_methodNamed B.named, hts⟩, hK, fun q h => Or.inr h, hX⟩ (fun r q0 H locs ls pc hd w hres => ?_) ⟨hP, hD0.self, va_S.rf⟩ hl h
  subst hres
  exact W.iret B.exec B.bytes B.returns (fun t ht hW => ⟨⟨_, (), rfl, rfl, by rw [ht]; exact w.1, va_K.moved hW.alike hK, w.2.1⟩, w.2.2.F ht⟩) w.2.2.2.2 hd hlocks
-- ('wM', 'LockQuestModel', 'here', '()I', ('mo',))
abbrev rm_X7_here : Room := { frames := 0, cells := 0, slots := 0, locals := 0 }
set_option maxRecDepth 20000 in
theorem lX7_here_X7 : ∀ w ∈ wsX70, w ∈ wsX7_here := by decide +kernel
set_option maxRecDepth 20000 in
theorem mX7_here_1 : Cond.fieldLink RX7 83 "LockQuestModel" "now" "I" ∈ wsX7_here := by decide +kernel
def f_X7_here  (mo_now : Int32) : Option (Int32) := gd ((1024 : Int32) = 0) (some (mo_now / (1024 : Int32)))
set_option maxHeartbeats 4000000 in
set_option maxRecDepth 100000 in
theorem t_X7_here {p : Program} {l : Launch} {e : Env} {s : State} {m : MethodId} {args : Array Value} {below : List Frame} {meth : Method} {c : Code} {Q : State → Prop} {D : va_G} {kA : Nat → ClassId} {ad : Nat → Nat} {A : Nat → Prop} {mo_state : Int64} {mo_rooms : Int32} {mo_smallDoors : Int32} {mo_goal : Int32} {mo_now : Int32} {mo_last : Int32} {mo_count : Int32} {mparent : Nat → Int32} {mlevel : Nat → Int32} {mkind : Nat → Int32} {mnum : Nat → Int32} {mx : Nat → Int32} {my : Nat → Int32} {mlying : Nat → Int32} {msw : Nat → Int32} {mloop : Nat → Int32} {mchosen : Nat → Int32} {met : Nat → Int32}  {res : Int32} (C : Cx p s m c args cX7_here 1 RX7 wsX7_here D kA A) (hret : ∀ (r : Int32) (H : Heap) (locs : List Loc) (ls : Array Slot) (pc : Nat), decode cX7_here pc = .ok (.ireturn, 1) → Wd D A s H locs (wM kA ad mo_state mo_rooms mo_smallDoors mo_goal mo_now mo_last mo_count mparent mlevel mkind mnum mx my mlying msw mloop mchosen met) → r = res → W p l e rm_X7_here s m args below meth c H locs 0 0 Q (F0 m pc ls [.int r])) {H : Heap} {locs : List Loc} {ls : Array Slot} (w : Wd D A s H locs (wM kA ad mo_state mo_rooms mo_smallDoors mo_goal mo_now mo_last mo_count mparent mlevel mkind mnum mx my mlying msw mloop mchosen met)) (hl : lv_has ls 1 [(0, .ref (ad 0))]) (h : f_X7_here  mo_now = some res) : W p l e rm_X7_here s m args below meth c H locs 0 0 Q (F0 m 0 ls []) := by
  obtain ⟨⟨hx, hb, hml, hown, hts⟩, hK, -, -⟩ := id C
  unfold f_X7_here at h
  refine lv_aload_n hx hb dX7_here_0 rfl (lv_at hl 0 rfl) ?_
  refine va_get (D := D) (ci := 6) (v := .int mo_now) (C := RX7) (T := TX7) (N := 18) hx hb hts lX7_here_X7 hown hK w.1 0 rfl rfl 14 (by decide) (hts _ mX7_here_1) (fun _ h9 => h9) rfl dX7_here_1 ?_
  refine lv_sipush (v := 1024) hx hb dX7_here_4 (by decide) ?_
  obtain ⟨g1, h⟩ := gd_some h
  refine lv_idiv hx hb dX7_here_7 g1 ?_
  exact hret _ _ _ _ _ dX7_here_8 w (Option.some.inj h)
set_option maxHeartbeats 4000000 in
set_option maxRecDepth 100000 in
theorem c_X7_here (l : Launch) (D : va_G) (kA : Nat → ClassId) (ad : Nat → Nat) (sz : Nat) (mo_state : Int64) (mo_rooms : Int32) (mo_smallDoors : Int32) (mo_goal : Int32) (mo_now : Int32) (mo_last : Int32) (mo_count : Int32) (mparent : Nat → Int32) (mlevel : Nat → Int32) (mkind : Nat → Int32) (mnum : Nat → Int32) (mx : Nat → Int32) (my : Nat → Int32) (mlying : Nat → Int32) (msw : Nat → Int32) (mloop : Nat → Int32) (mchosen : Nat → Int32) (met : Nat → Int32)  {res : Int32} (h : f_X7_here  mo_now = some res) : Ci l yX7_here wsX7_here rm_X7_here D kA [.ref (ad 0)] sz (wM kA ad mo_state mo_rooms mo_smallDoors mo_goal mo_now mo_last mo_count mparent mlevel mkind mnum mx my mlying msw mloop mchosen met) (wM kA ad mo_state mo_rooms mo_smallDoors mo_goal mo_now mo_last mo_count mparent mlevel mkind mnum mx my mlying msw mloop mchosen met) res := by
  refine Met.ofW (cc := cX7_here) (maxL := 1) (ret := (some .int)) (by decide) rfl ?_
  intro p e s m args below meth c s₁ B hml hv
  obtain ⟨rfl, hsz, hP, hK, hD0, hX⟩ := hv
  subst hsz
  have hts := atoms_spec (ws := wsX7_here) B.pre
  have hl := lv_entry ([.ref (ad 0)]) (n := 1) (Nat.le_of_ble_eq_true rfl)
  rw [lg_entry_eq]
  have hlocks := B.notSynchronized
  refine t_X7_here (A := va_A (wM kA ad mo_state mo_rooms mo_smallDoors mo_goal mo_now mo_last mo_count mparent mlevel mkind mnum mx my mlying msw mloop mchosen met) s.heap.size) ⟨⟨B.exec, B.bytes, hml, findClass_of_methodNamed B.named, hts⟩, hK, fun q h => Or.inr h, hX⟩ (fun r H locs ls pc hd w hres => ?_) ⟨hP, hD0.self, va_S.rf⟩ hl h
  subst hres
  exact W.iret B.exec B.bytes B.returns (fun t ht hW => ⟨⟨_, (), rfl, rfl, by rw [ht]; exact w.1, va_K.moved hW.alike hK, w.2.1⟩, w.2.2.F ht⟩) w.2.2.2.2 hd hlocks
-- ('wM', 'LockQuestModel', 'having', '()I', ('mo',))
abbrev rm_X7_having : Room := { frames := 1, cells := 0, slots := 0, locals := 20 }
set_option maxRecDepth 20000 in
theorem lX7_having_X7 : ∀ w ∈ wsX70, w ∈ wsX7_having := by decide +kernel
set_option maxRecDepth 20000 in
theorem mX7_having_1 : Cond.fieldLink RX7 83 "LockQuestModel" "now" "I" ∈ wsX7_having := by decide +kernel
def f_X7_having  (mo_now : Int32) : Option (Int32) := gd ((128 : Int32) = 0) (gd ((8 : Int32) = 0) (gd ((16 : Int32) = 0) (gd ((8 : Int32) = 0) ((f_X7_ones ((mo_now / (16 : Int32)) - (mo_now / (16 : Int32)) / (8 : Int32) * (8 : Int32))).bind (fun u5 => gd ((2 : Int32) = 0) (gd ((8 : Int32) = 0) ((f_X7_ones ((mo_now / (2 : Int32)) - (mo_now / (2 : Int32)) / (8 : Int32) * (8 : Int32))).bind (fun u8 => gd ((2 : Int32) = 0) (some ((((mo_now / (128 : Int32)) - (mo_now / (128 : Int32)) / (8 : Int32) * (8 : Int32)) + ((8 : Int32) * (u5 - u8))) + ((64 : Int32) * (mo_now - mo_now / (2 : Int32) * (2 : Int32)))))))))))))
set_option maxHeartbeats 4000000 in
set_option maxRecDepth 100000 in
theorem t_X7_having {p : Program} {l : Launch} {e : Env} {s : State} {m : MethodId} {args : Array Value} {below : List Frame} {meth : Method} {c : Code} {Q : State → Prop} {D : va_G} {kA : Nat → ClassId} {ad : Nat → Nat} {A : Nat → Prop} {mo_state : Int64} {mo_rooms : Int32} {mo_smallDoors : Int32} {mo_goal : Int32} {mo_now : Int32} {mo_last : Int32} {mo_count : Int32} {mparent : Nat → Int32} {mlevel : Nat → Int32} {mkind : Nat → Int32} {mnum : Nat → Int32} {mx : Nat → Int32} {my : Nat → Int32} {mlying : Nat → Int32} {msw : Nat → Int32} {mloop : Nat → Int32} {mchosen : Nat → Int32} {met : Nat → Int32}  {res : Int32} (C : Cx p s m c args cX7_having 1 RX7 wsX7_having D kA A) (hret : ∀ (r : Int32) (H : Heap) (locs : List Loc) (ls : Array Slot) (pc : Nat), decode cX7_having pc = .ok (.ireturn, 1) → Wd D A s H locs (wM kA ad mo_state mo_rooms mo_smallDoors mo_goal mo_now mo_last mo_count mparent mlevel mkind mnum mx my mlying msw mloop mchosen met) → r = res → W p l e rm_X7_having s m args below meth c H locs 0 0 Q (F0 m pc ls [.int r])) {H : Heap} {locs : List Loc} {ls : Array Slot} (w : Wd D A s H locs (wM kA ad mo_state mo_rooms mo_smallDoors mo_goal mo_now mo_last mo_count mparent mlevel mkind mnum mx my mlying msw mloop mchosen met)) (hl : lv_has ls 1 [(0, .ref (ad 0))]) (h : f_X7_having  mo_now = some res) : W p l e rm_X7_having s m args below meth c H locs 0 0 Q (F0 m 0 ls []) := by
  obtain ⟨⟨hx, hb, hml, hown, hts⟩, hK, -, -⟩ := id C
  unfold f_X7_having at h
  refine lv_aload_n hx hb dX7_having_0 rfl (lv_at hl 0 rfl) ?_
  refine va_get (D := D) (ci := 6) (v := .int mo_now) (C := RX7) (T := TX7) (N := 18) hx hb hts lX7_having_X7 hown hK w.1 0 rfl rfl 14 (by decide) (hts _ mX7_having_1) (fun _ h9 => h9) rfl dX7_having_1 ?_
  refine lv_sipush (v := 128) hx hb dX7_having_4 (by decide) ?_
  obtain ⟨g1, h⟩ := gd_some h
  refine lv_idiv hx hb dX7_having_7 g1 ?_
  refine lv_bipush (v := 8) hx hb dX7_having_8 (by decide) ?_
  obtain ⟨g2, h⟩ := gd_some h
  refine lv_irem hx hb dX7_having_10 g2 ?_
  refine lv_bipush (v := 8) hx hb dX7_having_11 (by decide) ?_
  refine lv_aload_n hx hb dX7_having_13 rfl (lv_at hl 0 rfl) ?_
  refine va_get (D := D) (ci := 6) (v := .int mo_now) (C := RX7) (T := TX7) (N := 18) hx hb hts lX7_having_X7 hown hK w.1 0 rfl rfl 14 (by decide) (hts _ mX7_having_1) (fun _ h9 => h9) rfl dX7_having_14 ?_
  refine lv_bipush (v := 16) hx hb dX7_having_17 (by decide) ?_
  obtain ⟨g3, h⟩ := gd_some h
  refine lv_idiv hx hb dX7_having_19 g3 ?_
  refine lv_bipush (v := 8) hx hb dX7_having_20 (by decide) ?_
  obtain ⟨g4, h⟩ := gd_some h
  refine lv_irem hx hb dX7_having_22 g4 ?_
  obtain ⟨u5, hc5, h⟩ := bd_some h
  refine gl_calli C w (va_runS (As := [.int ((mo_now / (16 : Int32)) - (mo_now / (16 : Int32)) / (8 : Int32) * (8 : Int32))]) (rest := [.int (8 : Int32), .int ((mo_now / (128 : Int32)) - (mo_now / (128 : Int32)) / (8 : Int32) * (8 : Int32))]) ⟨hx, hb, hml, hown, hts⟩ (c_X7_ones l D kA ad H.size mo_state mo_rooms mo_smallDoors mo_goal mo_now mo_last mo_count mparent mlevel mkind mnum mx my mlying msw mloop mchosen met ((mo_now / (16 : Int32)) - (mo_now / (16 : Int32)) / (8 : Int32) * (8 : Int32)) hc5) (va_cwS 1 hts gX7_having_X7_ones rfl rfl rfl (by decide +kernel) ⟨Nat.le_of_ble_eq_true rfl, Nat.le_of_ble_eq_true rfl⟩) (Wd.preS C w) rfl rfl hl.1 rfl (lv_room (Nat.le_of_ble_eq_true rfl)) dX7_having_23 ⟨Nat.zero_le _, Nat.zero_le _⟩) (fun H locs w => ?_)
  refine lv_aload_n hx hb dX7_having_26 rfl (lv_at hl 0 rfl) ?_
  refine va_get (D := D) (ci := 6) (v := .int mo_now) (C := RX7) (T := TX7) (N := 18) hx hb hts lX7_having_X7 hown hK w.1 0 rfl rfl 14 (by decide) (hts _ mX7_having_1) (fun _ h9 => h9) rfl dX7_having_27 ?_
  refine lv_iconst (v := 2) hx hb dX7_having_30 (by decide) ?_
  obtain ⟨g6, h⟩ := gd_some h
  refine lv_idiv hx hb dX7_having_31 g6 ?_
  refine lv_bipush (v := 8) hx hb dX7_having_32 (by decide) ?_
  obtain ⟨g7, h⟩ := gd_some h
  refine lv_irem hx hb dX7_having_34 g7 ?_
  obtain ⟨u8, hc8, h⟩ := bd_some h
  refine gl_calli C w (va_runS (As := [.int ((mo_now / (2 : Int32)) - (mo_now / (2 : Int32)) / (8 : Int32) * (8 : Int32))]) (rest := [.int u5, .int (8 : Int32), .int ((mo_now / (128 : Int32)) - (mo_now / (128 : Int32)) / (8 : Int32) * (8 : Int32))]) ⟨hx, hb, hml, hown, hts⟩ (c_X7_ones l D kA ad H.size mo_state mo_rooms mo_smallDoors mo_goal mo_now mo_last mo_count mparent mlevel mkind mnum mx my mlying msw mloop mchosen met ((mo_now / (2 : Int32)) - (mo_now / (2 : Int32)) / (8 : Int32) * (8 : Int32)) hc8) (va_cwS 1 hts gX7_having_X7_ones rfl rfl rfl (by decide +kernel) ⟨Nat.le_of_ble_eq_true rfl, Nat.le_of_ble_eq_true rfl⟩) (Wd.preS C w) rfl rfl hl.1 rfl (lv_room (Nat.le_of_ble_eq_true rfl)) dX7_having_35 ⟨Nat.zero_le _, Nat.zero_le _⟩) (fun H locs w => ?_)
  refine lv_isub hx hb dX7_having_38 ?_
  refine lv_imul hx hb dX7_having_39 ?_
  refine lv_iadd hx hb dX7_having_40 ?_
  refine lv_bipush (v := 64) hx hb dX7_having_41 (by decide) ?_
  refine lv_aload_n hx hb dX7_having_43 rfl (lv_at hl 0 rfl) ?_
  refine va_get (D := D) (ci := 6) (v := .int mo_now) (C := RX7) (T := TX7) (N := 18) hx hb hts lX7_having_X7 hown hK w.1 0 rfl rfl 14 (by decide) (hts _ mX7_having_1) (fun _ h9 => h9) rfl dX7_having_44 ?_
  refine lv_iconst (v := 2) hx hb dX7_having_47 (by decide) ?_
  obtain ⟨g9, h⟩ := gd_some h
  refine lv_irem hx hb dX7_having_48 g9 ?_
  refine lv_imul hx hb dX7_having_49 ?_
  refine lv_iadd hx hb dX7_having_50 ?_
  exact hret _ _ _ _ _ dX7_having_51 w (Option.some.inj h)
set_option maxHeartbeats 4000000 in
set_option maxRecDepth 100000 in
theorem c_X7_having (l : Launch) (D : va_G) (kA : Nat → ClassId) (ad : Nat → Nat) (sz : Nat) (mo_state : Int64) (mo_rooms : Int32) (mo_smallDoors : Int32) (mo_goal : Int32) (mo_now : Int32) (mo_last : Int32) (mo_count : Int32) (mparent : Nat → Int32) (mlevel : Nat → Int32) (mkind : Nat → Int32) (mnum : Nat → Int32) (mx : Nat → Int32) (my : Nat → Int32) (mlying : Nat → Int32) (msw : Nat → Int32) (mloop : Nat → Int32) (mchosen : Nat → Int32) (met : Nat → Int32)  {res : Int32} (h : f_X7_having  mo_now = some res) : Ci l yX7_having wsX7_having rm_X7_having D kA [.ref (ad 0)] sz (wM kA ad mo_state mo_rooms mo_smallDoors mo_goal mo_now mo_last mo_count mparent mlevel mkind mnum mx my mlying msw mloop mchosen met) (wM kA ad mo_state mo_rooms mo_smallDoors mo_goal mo_now mo_last mo_count mparent mlevel mkind mnum mx my mlying msw mloop mchosen met) res := by
  refine Met.ofW (cc := cX7_having) (maxL := 1) (ret := (some .int)) (by decide) rfl ?_
  intro p e s m args below meth c s₁ B hml hv
  obtain ⟨rfl, hsz, hP, hK, hD0, hX⟩ := hv
  subst hsz
  have hts := atoms_spec (ws := wsX7_having) B.pre
  have hl := lv_entry ([.ref (ad 0)]) (n := 1) (Nat.le_of_ble_eq_true rfl)
  rw [lg_entry_eq]
  have hlocks := B.notSynchronized
  refine t_X7_having (A := va_A (wM kA ad mo_state mo_rooms mo_smallDoors mo_goal mo_now mo_last mo_count mparent mlevel mkind mnum mx my mlying msw mloop mchosen met) s.heap.size) ⟨⟨B.exec, B.bytes, hml, findClass_of_methodNamed B.named, hts⟩, hK, fun q h => Or.inr h, hX⟩ (fun r H locs ls pc hd w hres => ?_) ⟨hP, hD0.self, va_S.rf⟩ hl h
  subst hres
  exact W.iret B.exec B.bytes B.returns (fun t ht hW => ⟨⟨_, (), rfl, rfl, by rw [ht]; exact w.1, va_K.moved hW.alike hK, w.2.1⟩, w.2.2.F ht⟩) w.2.2.2.2 hd hlocks
