/-! Maker of the reference. -/
def adH (h : Nat) (u : Nat → Nat) (i : Nat) : Nat := match i with | 0 => h | k + 1 => u k
abbrev rm_X7_init : Room := { frames := 4, cells := 11, slots := 12540, locals := 96 }
set_option maxRecDepth 20000 in
theorem mX7_init_0 : Cond.methodLink RX7 1 objectInit ∈ wsX7_init := by decide +kernel
set_option maxRecDepth 20000 in
theorem mX7_init_1 : Cond.instanceMethod objectInit ∈ wsX7_init := by decide +kernel
set_option maxRecDepth 20000 in
theorem mX7_init_2 : Cond.code objectInit ⟨#[0xb1]⟩ 1 none ∈ wsX7_init := by decide +kernel
set_option maxRecDepth 20000 in
theorem mX7_init_3 : Cond.arrayClass .int ∈ wsX7_init := by decide +kernel
set_option maxRecDepth 20000 in
theorem mX7_init_4 : Cond.fieldLink RX7 7 "LockQuestModel" "parent" "[I" ∈ wsX7_init := by decide +kernel
set_option maxRecDepth 20000 in
theorem lX7_init_X7 : ∀ w ∈ wsX70, w ∈ wsX7_init := by decide +kernel
set_option maxRecDepth 20000 in
theorem mX7_init_6 : Cond.fieldLink RX7 13 "LockQuestModel" "level" "[I" ∈ wsX7_init := by decide +kernel
set_option maxRecDepth 20000 in
theorem mX7_init_7 : Cond.fieldLink RX7 16 "LockQuestModel" "kind" "[I" ∈ wsX7_init := by decide +kernel
set_option maxRecDepth 20000 in
theorem mX7_init_8 : Cond.fieldLink RX7 19 "LockQuestModel" "number" "[I" ∈ wsX7_init := by decide +kernel
set_option maxRecDepth 20000 in
theorem mX7_init_9 : Cond.fieldLink RX7 22 "LockQuestModel" "x" "[I" ∈ wsX7_init := by decide +kernel
set_option maxRecDepth 20000 in
theorem mX7_init_10 : Cond.fieldLink RX7 25 "LockQuestModel" "y" "[I" ∈ wsX7_init := by decide +kernel
set_option maxRecDepth 20000 in
theorem mX7_init_11 : Cond.fieldLink RX7 28 "LockQuestModel" "lying" "[I" ∈ wsX7_init := by decide +kernel
set_option maxRecDepth 20000 in
theorem mX7_init_12 : Cond.arrayClass .boolean ∈ wsX7_init := by decide +kernel
set_option maxRecDepth 20000 in
theorem mX7_init_13 : Cond.fieldLink RX7 31 "LockQuestModel" "switches" "[Z" ∈ wsX7_init := by decide +kernel
set_option maxRecDepth 20000 in
theorem mX7_init_14 : Cond.fieldLink RX7 35 "LockQuestModel" "loop" "[Z" ∈ wsX7_init := by decide +kernel
set_option maxRecDepth 20000 in
theorem mX7_init_15 : Cond.fieldLink RX7 38 "LockQuestModel" "chosen" "[Z" ∈ wsX7_init := by decide +kernel
set_option maxRecDepth 20000 in
theorem mX7_init_16 : Cond.fieldLink RX7 41 "LockQuestModel" "met" "[I" ∈ wsX7_init := by decide +kernel
set_option maxHeartbeats 4000000 in
set_option maxRecDepth 100000 in
theorem t_X7_init {p : Program} {l : Launch} {e : Env} {s : State} {m : MethodId} {args : Array Value} {below : List Frame} {meth : Method} {c : Code} {Q : State → Prop} {D : va_G} {kA : Nat → ClassId} {A : Nat → Prop} {h : Nat} {res : Int32 × Int64 × Int32 × Int32 × Int32 × Int32 × (Nat → Int32) × (Nat → Int32) × (Nat → Int32) × (Nat → Int32) × (Nat → Int32) × (Nat → Int32) × (Nat → Int32) × (Nat → Int32) × (Nat → Int32) × (Nat → Int32)} (hres : f_X7_make 0 2 1 0 0 0 0 0 0 0 (fun _ => 0) (fun _ => 0) (fun _ => 0) (fun _ => 0) (fun _ => 0) (fun _ => 0) (fun _ => 0) (fun _ => 0) (fun _ => 0) (fun _ => 0) = some res) (C : Cx p s m c args cX7_init 2 RX7 wsX7_init D kA A) (hk : Kn kA s) (hin : meth.name = "<init>") (hret : ∀ (u : Nat → Nat) (H : Heap) (locs : List Loc) (ls : Array Slot) (pc : Nat), decode cX7_init pc = .ok (.return_, 1) → Wd D A s H locs (wM kA (adH h u) res.2.1 res.2.2.1 res.2.2.2.1 res.2.2.2.2.1 res.2.2.2.2.2.1 0 0 res.2.2.2.2.2.2.1 res.2.2.2.2.2.2.2.1 res.2.2.2.2.2.2.2.2.1 res.2.2.2.2.2.2.2.2.2.1 res.2.2.2.2.2.2.2.2.2.2.1 res.2.2.2.2.2.2.2.2.2.2.2.1 res.2.2.2.2.2.2.2.2.2.2.2.2.1 res.2.2.2.2.2.2.2.2.2.2.2.2.2.1 res.2.2.2.2.2.2.2.2.2.2.2.2.2.2.1 res.2.2.2.2.2.2.2.2.2.2.2.2.2.2.2 (fun _ => 0)) → W p l e rm_X7_init s m args below meth c H locs 11 12540 Q (F0 m pc ls [])) {H : Heap} {locs : List Loc} {ls : Array Slot} (w : Wd D A s H locs [(h, .inr (6, [.long 0, .int 0, .int 0, .int 0, .null, .null, .null, .null, .null, .null, .null, .null, .null, .null, .int 0, .null, .int 0, .int 0]))]) (hl : lv_has ls 2 [(0, .ref h)]) : W p l e rm_X7_init s m args below meth c H locs 0 0 Q (F0 m 0 ls []) := by
  obtain ⟨⟨hx, hb, hml, hown, hts⟩, hK, hA, -⟩ := id C
  refine lv_aload_n hx hb dX7_init_0 rfl (lv_at hl 0 rfl) ?_
  refine W.objInit hx hb hown (hts _ mX7_init_0) (hts _ mX7_init_1) (hts _ mX7_init_2) rfl (by rw [hml]; exact hl.1) rfl dX7_init_1 (Nat.le_of_ble_eq_true rfl) (Nat.le_of_ble_eq_true rfl) ?_
  refine W.eq (g2 := F0 m 4 ls []) rfl ?_
  refine lv_aload_n hx hb dX7_init_4 rfl (lv_at hl 0 rfl) ?_
  refine lv_bipush (v := 12) hx hb dX7_init_5 (by decide) ?_
  refine gl_newa (atype := .int) (a0 := (12, .inl (fun _ => 0))) (N' := 12) C w 0 rfl (hts _ mX7_init_3) rfl (fun _ _ h9 => h9) (fun _ => rfl) (by decide) (by decide) (by decide) (Nat.le_of_ble_eq_true rfl) (Nat.le_of_ble_eq_true rfl) dX7_init_7 (fun q1 H w => ?_)
  have w : Wd D A s H locs [(h, .inr (6, [.long 0, .int 0, .int 0, .int 0, .null, .null, .null, .null, .null, .null, .null, .null, .null, .null, .int 0, .null, .int 0, .int 0])), (q1, .inl (kA 0, 12, .inl (fun _ => 0)))] := w
  refine va_putF (D := D) (ci := 6) (v := .ref q1) (ty := (.array .int)) (C := RX7) (T := TX7) (N := 18) hx hb hts lX7_init_X7 tyX7 tyX7_ok nmX7 hown hK w.1 w.2.1 w.2.2 0 rfl rfl 4 (by decide) (hts _ mX7_init_4) (fun _ h9 => h9) rfl hin rfl (by decide +kernel) rfl rfl (Nat.le_of_ble_eq_true rfl) dX7_init_9 (fun H locs hP hD hS => ?_)
  have w : Wd D A s H locs [(h, .inr (6, [.long 0, .int 0, .int 0, .int 0, .ref q1, .null, .null, .null, .null, .null, .null, .null, .null, .null, .int 0, .null, .int 0, .int 0])), (q1, .inl (kA 0, 12, .inl (fun _ => 0)))] := ⟨hP, hD, hS⟩
  refine lv_aload_n hx hb dX7_init_12 rfl (lv_at hl 0 rfl) ?_
  refine lv_bipush (v := 12) hx hb dX7_init_13 (by decide) ?_
  refine gl_newa (atype := .int) (a0 := (12, .inl (fun _ => 0))) (N' := 12) C w 0 rfl (hts _ mX7_init_3) rfl (fun _ _ h9 => h9) (fun _ => rfl) (by decide) (by decide) (by decide) (Nat.le_of_ble_eq_true rfl) (Nat.le_of_ble_eq_true rfl) dX7_init_15 (fun q2 H w => ?_)
  have w : Wd D A s H locs [(h, .inr (6, [.long 0, .int 0, .int 0, .int 0, .ref q1, .null, .null, .null, .null, .null, .null, .null, .null, .null, .int 0, .null, .int 0, .int 0])), (q1, .inl (kA 0, 12, .inl (fun _ => 0))), (q2, .inl (kA 0, 12, .inl (fun _ => 0)))] := w
  refine va_putF (D := D) (ci := 6) (v := .ref q2) (ty := (.array .int)) (C := RX7) (T := TX7) (N := 18) hx hb hts lX7_init_X7 tyX7 tyX7_ok nmX7 hown hK w.1 w.2.1 w.2.2 0 rfl rfl 5 (by decide) (hts _ mX7_init_6) (fun _ h9 => h9) rfl hin rfl (by decide +kernel) rfl rfl (Nat.le_of_ble_eq_true rfl) dX7_init_17 (fun H locs hP hD hS => ?_)
  have w : Wd D A s H locs [(h, .inr (6, [.long 0, .int 0, .int 0, .int 0, .ref q1, .ref q2, .null, .null, .null, .null, .null, .null, .null, .null, .int 0, .null, .int 0, .int 0])), (q1, .inl (kA 0, 12, .inl (fun _ => 0))), (q2, .inl (kA 0, 12, .inl (fun _ => 0)))] := ⟨hP, hD, hS⟩
  refine lv_aload_n hx hb dX7_init_20 rfl (lv_at hl 0 rfl) ?_
  refine lv_bipush (v := 12) hx hb dX7_init_21 (by decide) ?_
  refine gl_newa (atype := .int) (a0 := (12, .inl (fun _ => 0))) (N' := 12) C w 0 rfl (hts _ mX7_init_3) rfl (fun _ _ h9 => h9) (fun _ => rfl) (by decide) (by decide) (by decide) (Nat.le_of_ble_eq_true rfl) (Nat.le_of_ble_eq_true rfl) dX7_init_23 (fun q3 H w => ?_)
  have w : Wd D A s H locs [(h, .inr (6, [.long 0, .int 0, .int 0, .int 0, .ref q1, .ref q2, .null, .null, .null, .null, .null, .null, .null, .null, .int 0, .null, .int 0, .int 0])), (q1, .inl (kA 0, 12, .inl (fun _ => 0))), (q2, .inl (kA 0, 12, .inl (fun _ => 0))), (q3, .inl (kA 0, 12, .inl (fun _ => 0)))] := w
  refine va_putF (D := D) (ci := 6) (v := .ref q3) (ty := (.array .int)) (C := RX7) (T := TX7) (N := 18) hx hb hts lX7_init_X7 tyX7 tyX7_ok nmX7 hown hK w.1 w.2.1 w.2.2 0 rfl rfl 6 (by decide) (hts _ mX7_init_7) (fun _ h9 => h9) rfl hin rfl (by decide +kernel) rfl rfl (Nat.le_of_ble_eq_true rfl) dX7_init_25 (fun H locs hP hD hS => ?_)
  have w : Wd D A s H locs [(h, .inr (6, [.long 0, .int 0, .int 0, .int 0, .ref q1, .ref q2, .ref q3, .null, .null, .null, .null, .null, .null, .null, .int 0, .null, .int 0, .int 0])), (q1, .inl (kA 0, 12, .inl (fun _ => 0))), (q2, .inl (kA 0, 12, .inl (fun _ => 0))), (q3, .inl (kA 0, 12, .inl (fun _ => 0)))] := ⟨hP, hD, hS⟩
  refine lv_aload_n hx hb dX7_init_28 rfl (lv_at hl 0 rfl) ?_
  refine lv_bipush (v := 12) hx hb dX7_init_29 (by decide) ?_
  refine gl_newa (atype := .int) (a0 := (12, .inl (fun _ => 0))) (N' := 12) C w 0 rfl (hts _ mX7_init_3) rfl (fun _ _ h9 => h9) (fun _ => rfl) (by decide) (by decide) (by decide) (Nat.le_of_ble_eq_true rfl) (Nat.le_of_ble_eq_true rfl) dX7_init_31 (fun q4 H w => ?_)
  have w : Wd D A s H locs [(h, .inr (6, [.long 0, .int 0, .int 0, .int 0, .ref q1, .ref q2, .ref q3, .null, .null, .null, .null, .null, .null, .null, .int 0, .null, .int 0, .int 0])), (q1, .inl (kA 0, 12, .inl (fun _ => 0))), (q2, .inl (kA 0, 12, .inl (fun _ => 0))), (q3, .inl (kA 0, 12, .inl (fun _ => 0))), (q4, .inl (kA 0, 12, .inl (fun _ => 0)))] := w
  refine va_putF (D := D) (ci := 6) (v := .ref q4) (ty := (.array .int)) (C := RX7) (T := TX7) (N := 18) hx hb hts lX7_init_X7 tyX7 tyX7_ok nmX7 hown hK w.1 w.2.1 w.2.2 0 rfl rfl 7 (by decide) (hts _ mX7_init_8) (fun _ h9 => h9) rfl hin rfl (by decide +kernel) rfl rfl (Nat.le_of_ble_eq_true rfl) dX7_init_33 (fun H locs hP hD hS => ?_)
  have w : Wd D A s H locs [(h, .inr (6, [.long 0, .int 0, .int 0, .int 0, .ref q1, .ref q2, .ref q3, .ref q4, .null, .null, .null, .null, .null, .null, .int 0, .null, .int 0, .int 0])), (q1, .inl (kA 0, 12, .inl (fun _ => 0))), (q2, .inl (kA 0, 12, .inl (fun _ => 0))), (q3, .inl (kA 0, 12, .inl (fun _ => 0))), (q4, .inl (kA 0, 12, .inl (fun _ => 0)))] := ⟨hP, hD, hS⟩
  refine lv_aload_n hx hb dX7_init_36 rfl (lv_at hl 0 rfl) ?_
  refine lv_bipush (v := 12) hx hb dX7_init_37 (by decide) ?_
  refine gl_newa (atype := .int) (a0 := (12, .inl (fun _ => 0))) (N' := 12) C w 0 rfl (hts _ mX7_init_3) rfl (fun _ _ h9 => h9) (fun _ => rfl) (by decide) (by decide) (by decide) (Nat.le_of_ble_eq_true rfl) (Nat.le_of_ble_eq_true rfl) dX7_init_39 (fun q5 H w => ?_)
  have w : Wd D A s H locs [(h, .inr (6, [.long 0, .int 0, .int 0, .int 0, .ref q1, .ref q2, .ref q3, .ref q4, .null, .null, .null, .null, .null, .null, .int 0, .null, .int 0, .int 0])), (q1, .inl (kA 0, 12, .inl (fun _ => 0))), (q2, .inl (kA 0, 12, .inl (fun _ => 0))), (q3, .inl (kA 0, 12, .inl (fun _ => 0))), (q4, .inl (kA 0, 12, .inl (fun _ => 0))), (q5, .inl (kA 0, 12, .inl (fun _ => 0)))] := w
  refine va_putF (D := D) (ci := 6) (v := .ref q5) (ty := (.array .int)) (C := RX7) (T := TX7) (N := 18) hx hb hts lX7_init_X7 tyX7 tyX7_ok nmX7 hown hK w.1 w.2.1 w.2.2 0 rfl rfl 8 (by decide) (hts _ mX7_init_9) (fun _ h9 => h9) rfl hin rfl (by decide +kernel) rfl rfl (Nat.le_of_ble_eq_true rfl) dX7_init_41 (fun H locs hP hD hS => ?_)
  have w : Wd D A s H locs [(h, .inr (6, [.long 0, .int 0, .int 0, .int 0, .ref q1, .ref q2, .ref q3, .ref q4, .ref q5, .null, .null, .null, .null, .null, .int 0, .null, .int 0, .int 0])), (q1, .inl (kA 0, 12, .inl (fun _ => 0))), (q2, .inl (kA 0, 12, .inl (fun _ => 0))), (q3, .inl (kA 0, 12, .inl (fun _ => 0))), (q4, .inl (kA 0, 12, .inl (fun _ => 0))), (q5, .inl (kA 0, 12, .inl (fun _ => 0)))] := ⟨hP, hD, hS⟩
  refine lv_aload_n hx hb dX7_init_44 rfl (lv_at hl 0 rfl) ?_
  refine lv_bipush (v := 12) hx hb dX7_init_45 (by decide) ?_
  refine gl_newa (atype := .int) (a0 := (12, .inl (fun _ => 0))) (N' := 12) C w 0 rfl (hts _ mX7_init_3) rfl (fun _ _ h9 => h9) (fun _ => rfl) (by decide) (by decide) (by decide) (Nat.le_of_ble_eq_true rfl) (Nat.le_of_ble_eq_true rfl) dX7_init_47 (fun q6 H w => ?_)
  have w : Wd D A s H locs [(h, .inr (6, [.long 0, .int 0, .int 0, .int 0, .ref q1, .ref q2, .ref q3, .ref q4, .ref q5, .null, .null, .null, .null, .null, .int 0, .null, .int 0, .int 0])), (q1, .inl (kA 0, 12, .inl (fun _ => 0))), (q2, .inl (kA 0, 12, .inl (fun _ => 0))), (q3, .inl (kA 0, 12, .inl (fun _ => 0))), (q4, .inl (kA 0, 12, .inl (fun _ => 0))), (q5, .inl (kA 0, 12, .inl (fun _ => 0))), (q6, .inl (kA 0, 12, .inl (fun _ => 0)))] := w
  refine va_putF (D := D) (ci := 6) (v := .ref q6) (ty := (.array .int)) (C := RX7) (T := TX7) (N := 18) hx hb hts lX7_init_X7 tyX7 tyX7_ok nmX7 hown hK w.1 w.2.1 w.2.2 0 rfl rfl 9 (by decide) (hts _ mX7_init_10) (fun _ h9 => h9) rfl hin rfl (by decide +kernel) rfl rfl (Nat.le_of_ble_eq_true rfl) dX7_init_49 (fun H locs hP hD hS => ?_)
  have w : Wd D A s H locs [(h, .inr (6, [.long 0, .int 0, .int 0, .int 0, .ref q1, .ref q2, .ref q3, .ref q4, .ref q5, .ref q6, .null, .null, .null, .null, .int 0, .null, .int 0, .int 0])), (q1, .inl (kA 0, 12, .inl (fun _ => 0))), (q2, .inl (kA 0, 12, .inl (fun _ => 0))), (q3, .inl (kA 0, 12, .inl (fun _ => 0))), (q4, .inl (kA 0, 12, .inl (fun _ => 0))), (q5, .inl (kA 0, 12, .inl (fun _ => 0))), (q6, .inl (kA 0, 12, .inl (fun _ => 0)))] := ⟨hP, hD, hS⟩
  refine lv_aload_n hx hb dX7_init_52 rfl (lv_at hl 0 rfl) ?_
  refine lv_bipush (v := 12) hx hb dX7_init_53 (by decide) ?_
  refine gl_newa (atype := .int) (a0 := (12, .inl (fun _ => 0))) (N' := 12) C w 0 rfl (hts _ mX7_init_3) rfl (fun _ _ h9 => h9) (fun _ => rfl) (by decide) (by decide) (by decide) (Nat.le_of_ble_eq_true rfl) (Nat.le_of_ble_eq_true rfl) dX7_init_55 (fun q7 H w => ?_)
  have w : Wd D A s H locs [(h, .inr (6, [.long 0, .int 0, .int 0, .int 0, .ref q1, .ref q2, .ref q3, .ref q4, .ref q5, .ref q6, .null, .null, .null, .null, .int 0, .null, .int 0, .int 0])), (q1, .inl (kA 0, 12, .inl (fun _ => 0))), (q2, .inl (kA 0, 12, .inl (fun _ => 0))), (q3, .inl (kA 0, 12, .inl (fun _ => 0))), (q4, .inl (kA 0, 12, .inl (fun _ => 0))), (q5, .inl (kA 0, 12, .inl (fun _ => 0))), (q6, .inl (kA 0, 12, .inl (fun _ => 0))), (q7, .inl (kA 0, 12, .inl (fun _ => 0)))] := w
  refine va_putF (D := D) (ci := 6) (v := .ref q7) (ty := (.array .int)) (C := RX7) (T := TX7) (N := 18) hx hb hts lX7_init_X7 tyX7 tyX7_ok nmX7 hown hK w.1 w.2.1 w.2.2 0 rfl rfl 10 (by decide) (hts _ mX7_init_11) (fun _ h9 => h9) rfl hin rfl (by decide +kernel) rfl rfl (Nat.le_of_ble_eq_true rfl) dX7_init_57 (fun H locs hP hD hS => ?_)
  have w : Wd D A s H locs [(h, .inr (6, [.long 0, .int 0, .int 0, .int 0, .ref q1, .ref q2, .ref q3, .ref q4, .ref q5, .ref q6, .ref q7, .null, .null, .null, .int 0, .null, .int 0, .int 0])), (q1, .inl (kA 0, 12, .inl (fun _ => 0))), (q2, .inl (kA 0, 12, .inl (fun _ => 0))), (q3, .inl (kA 0, 12, .inl (fun _ => 0))), (q4, .inl (kA 0, 12, .inl (fun _ => 0))), (q5, .inl (kA 0, 12, .inl (fun _ => 0))), (q6, .inl (kA 0, 12, .inl (fun _ => 0))), (q7, .inl (kA 0, 12, .inl (fun _ => 0)))] := ⟨hP, hD, hS⟩
  refine lv_aload_n hx hb dX7_init_60 rfl (lv_at hl 0 rfl) ?_
  refine lv_bipush (v := 12) hx hb dX7_init_61 (by decide) ?_
  refine gl_newa (atype := .boolean) (a0 := (12, .inl (fun _ => 0))) (N' := 12) C w 2 rfl (hts _ mX7_init_12) rfl (fun _ _ h9 => h9) (fun _ => rfl) (by decide) (by decide) (by decide) (Nat.le_of_ble_eq_true rfl) (Nat.le_of_ble_eq_true rfl) dX7_init_63 (fun q8 H w => ?_)
  have w : Wd D A s H locs [(h, .inr (6, [.long 0, .int 0, .int 0, .int 0, .ref q1, .ref q2, .ref q3, .ref q4, .ref q5, .ref q6, .ref q7, .null, .null, .null, .int 0, .null, .int 0, .int 0])), (q1, .inl (kA 0, 12, .inl (fun _ => 0))), (q2, .inl (kA 0, 12, .inl (fun _ => 0))), (q3, .inl (kA 0, 12, .inl (fun _ => 0))), (q4, .inl (kA 0, 12, .inl (fun _ => 0))), (q5, .inl (kA 0, 12, .inl (fun _ => 0))), (q6, .inl (kA 0, 12, .inl (fun _ => 0))), (q7, .inl (kA 0, 12, .inl (fun _ => 0))), (q8, .inl (kA 2, 12, .inl (fun _ => 0)))] := w
  refine va_putF (D := D) (ci := 6) (v := .ref q8) (ty := (.array .boolean)) (C := RX7) (T := TX7) (N := 18) hx hb hts lX7_init_X7 tyX7 tyX7_ok nmX7 hown hK w.1 w.2.1 w.2.2 0 rfl rfl 11 (by decide) (hts _ mX7_init_13) (fun _ h9 => h9) rfl hin rfl (by decide +kernel) rfl rfl (Nat.le_of_ble_eq_true rfl) dX7_init_65 (fun H locs hP hD hS => ?_)
  have w : Wd D A s H locs [(h, .inr (6, [.long 0, .int 0, .int 0, .int 0, .ref q1, .ref q2, .ref q3, .ref q4, .ref q5, .ref q6, .ref q7, .ref q8, .null, .null, .int 0, .null, .int 0, .int 0])), (q1, .inl (kA 0, 12, .inl (fun _ => 0))), (q2, .inl (kA 0, 12, .inl (fun _ => 0))), (q3, .inl (kA 0, 12, .inl (fun _ => 0))), (q4, .inl (kA 0, 12, .inl (fun _ => 0))), (q5, .inl (kA 0, 12, .inl (fun _ => 0))), (q6, .inl (kA 0, 12, .inl (fun _ => 0))), (q7, .inl (kA 0, 12, .inl (fun _ => 0))), (q8, .inl (kA 2, 12, .inl (fun _ => 0)))] := ⟨hP, hD, hS⟩
  refine lv_aload_n hx hb dX7_init_68 rfl (lv_at hl 0 rfl) ?_
  refine lv_sipush (v := 144) hx hb dX7_init_69 (by decide) ?_
  refine gl_newa (atype := .boolean) (a0 := (144, .inl (fun _ => 0))) (N' := 144) C w 2 rfl (hts _ mX7_init_12) rfl (fun _ _ h9 => h9) (fun _ => rfl) (by decide) (by decide) (by decide) (Nat.le_of_ble_eq_true rfl) (Nat.le_of_ble_eq_true rfl) dX7_init_72 (fun q9 H w => ?_)
  have w : Wd D A s H locs [(h, .inr (6, [.long 0, .int 0, .int 0, .int 0, .ref q1, .ref q2, .ref q3, .ref q4, .ref q5, .ref q6, .ref q7, .ref q8, .null, .null, .int 0, .null, .int 0, .int 0])), (q1, .inl (kA 0, 12, .inl (fun _ => 0))), (q2, .inl (kA 0, 12, .inl (fun _ => 0))), (q3, .inl (kA 0, 12, .inl (fun _ => 0))), (q4, .inl (kA 0, 12, .inl (fun _ => 0))), (q5, .inl (kA 0, 12, .inl (fun _ => 0))), (q6, .inl (kA 0, 12, .inl (fun _ => 0))), (q7, .inl (kA 0, 12, .inl (fun _ => 0))), (q8, .inl (kA 2, 12, .inl (fun _ => 0))), (q9, .inl (kA 2, 144, .inl (fun _ => 0)))] := w
  refine va_putF (D := D) (ci := 6) (v := .ref q9) (ty := (.array .boolean)) (C := RX7) (T := TX7) (N := 18) hx hb hts lX7_init_X7 tyX7 tyX7_ok nmX7 hown hK w.1 w.2.1 w.2.2 0 rfl rfl 12 (by decide) (hts _ mX7_init_14) (fun _ h9 => h9) rfl hin rfl (by decide +kernel) rfl rfl (Nat.le_of_ble_eq_true rfl) dX7_init_74 (fun H locs hP hD hS => ?_)
  have w : Wd D A s H locs [(h, .inr (6, [.long 0, .int 0, .int 0, .int 0, .ref q1, .ref q2, .ref q3, .ref q4, .ref q5, .ref q6, .ref q7, .ref q8, .ref q9, .null, .int 0, .null, .int 0, .int 0])), (q1, .inl (kA 0, 12, .inl (fun _ => 0))), (q2, .inl (kA 0, 12, .inl (fun _ => 0))), (q3, .inl (kA 0, 12, .inl (fun _ => 0))), (q4, .inl (kA 0, 12, .inl (fun _ => 0))), (q5, .inl (kA 0, 12, .inl (fun _ => 0))), (q6, .inl (kA 0, 12, .inl (fun _ => 0))), (q7, .inl (kA 0, 12, .inl (fun _ => 0))), (q8, .inl (kA 2, 12, .inl (fun _ => 0))), (q9, .inl (kA 2, 144, .inl (fun _ => 0)))] := ⟨hP, hD, hS⟩
  refine lv_aload_n hx hb dX7_init_77 rfl (lv_at hl 0 rfl) ?_
  refine lv_bipush (v := 12) hx hb dX7_init_78 (by decide) ?_
  refine gl_newa (atype := .boolean) (a0 := (12, .inl (fun _ => 0))) (N' := 12) C w 2 rfl (hts _ mX7_init_12) rfl (fun _ _ h9 => h9) (fun _ => rfl) (by decide) (by decide) (by decide) (Nat.le_of_ble_eq_true rfl) (Nat.le_of_ble_eq_true rfl) dX7_init_80 (fun q10 H w => ?_)
  have w : Wd D A s H locs [(h, .inr (6, [.long 0, .int 0, .int 0, .int 0, .ref q1, .ref q2, .ref q3, .ref q4, .ref q5, .ref q6, .ref q7, .ref q8, .ref q9, .null, .int 0, .null, .int 0, .int 0])), (q1, .inl (kA 0, 12, .inl (fun _ => 0))), (q2, .inl (kA 0, 12, .inl (fun _ => 0))), (q3, .inl (kA 0, 12, .inl (fun _ => 0))), (q4, .inl (kA 0, 12, .inl (fun _ => 0))), (q5, .inl (kA 0, 12, .inl (fun _ => 0))), (q6, .inl (kA 0, 12, .inl (fun _ => 0))), (q7, .inl (kA 0, 12, .inl (fun _ => 0))), (q8, .inl (kA 2, 12, .inl (fun _ => 0))), (q9, .inl (kA 2, 144, .inl (fun _ => 0))), (q10, .inl (kA 2, 12, .inl (fun _ => 0)))] := w
  refine va_putF (D := D) (ci := 6) (v := .ref q10) (ty := (.array .boolean)) (C := RX7) (T := TX7) (N := 18) hx hb hts lX7_init_X7 tyX7 tyX7_ok nmX7 hown hK w.1 w.2.1 w.2.2 0 rfl rfl 13 (by decide) (hts _ mX7_init_15) (fun _ h9 => h9) rfl hin rfl (by decide +kernel) rfl rfl (Nat.le_of_ble_eq_true rfl) dX7_init_82 (fun H locs hP hD hS => ?_)
  have w : Wd D A s H locs [(h, .inr (6, [.long 0, .int 0, .int 0, .int 0, .ref q1, .ref q2, .ref q3, .ref q4, .ref q5, .ref q6, .ref q7, .ref q8, .ref q9, .ref q10, .int 0, .null, .int 0, .int 0])), (q1, .inl (kA 0, 12, .inl (fun _ => 0))), (q2, .inl (kA 0, 12, .inl (fun _ => 0))), (q3, .inl (kA 0, 12, .inl (fun _ => 0))), (q4, .inl (kA 0, 12, .inl (fun _ => 0))), (q5, .inl (kA 0, 12, .inl (fun _ => 0))), (q6, .inl (kA 0, 12, .inl (fun _ => 0))), (q7, .inl (kA 0, 12, .inl (fun _ => 0))), (q8, .inl (kA 2, 12, .inl (fun _ => 0))), (q9, .inl (kA 2, 144, .inl (fun _ => 0))), (q10, .inl (kA 2, 12, .inl (fun _ => 0)))] := ⟨hP, hD, hS⟩
  refine lv_aload_n hx hb dX7_init_85 rfl (lv_at hl 0 rfl) ?_
  refine lv_sipush (v := 12288) hx hb dX7_init_86 (by decide) ?_
  refine gl_newa (atype := .int) (a0 := (12288, .inl (fun _ => 0))) (N' := 12288) C w 0 rfl (hts _ mX7_init_3) rfl (fun _ _ h9 => h9) (fun _ => rfl) (by decide) (by decide) (by decide) (Nat.le_of_ble_eq_true rfl) (Nat.le_of_ble_eq_true rfl) dX7_init_89 (fun q11 H w => ?_)
  have w : Wd D A s H locs [(h, .inr (6, [.long 0, .int 0, .int 0, .int 0, .ref q1, .ref q2, .ref q3, .ref q4, .ref q5, .ref q6, .ref q7, .ref q8, .ref q9, .ref q10, .int 0, .null, .int 0, .int 0])), (q1, .inl (kA 0, 12, .inl (fun _ => 0))), (q2, .inl (kA 0, 12, .inl (fun _ => 0))), (q3, .inl (kA 0, 12, .inl (fun _ => 0))), (q4, .inl (kA 0, 12, .inl (fun _ => 0))), (q5, .inl (kA 0, 12, .inl (fun _ => 0))), (q6, .inl (kA 0, 12, .inl (fun _ => 0))), (q7, .inl (kA 0, 12, .inl (fun _ => 0))), (q8, .inl (kA 2, 12, .inl (fun _ => 0))), (q9, .inl (kA 2, 144, .inl (fun _ => 0))), (q10, .inl (kA 2, 12, .inl (fun _ => 0))), (q11, .inl (kA 0, 12288, .inl (fun _ => 0)))] := w
  refine va_putF (D := D) (ci := 6) (v := .ref q11) (ty := (.array .int)) (C := RX7) (T := TX7) (N := 18) hx hb hts lX7_init_X7 tyX7 tyX7_ok nmX7 hown hK w.1 w.2.1 w.2.2 0 rfl rfl 15 (by decide) (hts _ mX7_init_16) (fun _ h9 => h9) rfl hin rfl (by decide +kernel) rfl rfl (Nat.le_of_ble_eq_true rfl) dX7_init_91 (fun H locs hP hD hS => ?_)
  have w : Wd D A s H locs [(h, .inr (6, [.long 0, .int 0, .int 0, .int 0, .ref q1, .ref q2, .ref q3, .ref q4, .ref q5, .ref q6, .ref q7, .ref q8, .ref q9, .ref q10, .int 0, .ref q11, .int 0, .int 0])), (q1, .inl (kA 0, 12, .inl (fun _ => 0))), (q2, .inl (kA 0, 12, .inl (fun _ => 0))), (q3, .inl (kA 0, 12, .inl (fun _ => 0))), (q4, .inl (kA 0, 12, .inl (fun _ => 0))), (q5, .inl (kA 0, 12, .inl (fun _ => 0))), (q6, .inl (kA 0, 12, .inl (fun _ => 0))), (q7, .inl (kA 0, 12, .inl (fun _ => 0))), (q8, .inl (kA 2, 12, .inl (fun _ => 0))), (q9, .inl (kA 2, 144, .inl (fun _ => 0))), (q10, .inl (kA 2, 12, .inl (fun _ => 0))), (q11, .inl (kA 0, 12288, .inl (fun _ => 0)))] := ⟨hP, hD, hS⟩
  obtain ⟨u, w⟩ : ∃ u : Nat → Nat, Wd D A s H locs (wM kA (adH h u) 0 0 0 0 0 0 0 (fun _ => 0) (fun _ => 0) (fun _ => 0) (fun _ => 0) (fun _ => 0) (fun _ => 0) (fun _ => 0) (fun _ => 0) (fun _ => 0) (fun _ => 0) (fun _ => 0)) := by
    refine ⟨fun i => [q1, q2, q3, q4, q5, q6, q7, q8, q9, q10, q11].getD i 0, ?_⟩
    exact ⟨w.1.sub [0, 1, 2, 3, 4, 5, 6, 7, 8, 9, 10, 11] rfl, w.2.1.sub [0, 1, 2, 3, 4, 5, 6, 7, 8, 9, 10, 11] (by decide) rfl, w.2.2⟩
  have hl : lv_has ls 2 [(0, .ref ((adH h u) 0))] := hl
  refine lv_aload_n hx hb dX7_init_94 rfl (lv_at hl 0 rfl) ?_
  refine lv_lconst (v := 0) hx hb dX7_init_95 (by decide) ?_
  refine lv_iconst (v := 2) hx hb dX7_init_96 (by decide) ?_
  refine lv_iconst (v := 1) hx hb dX7_init_97 (by decide) ?_
  refine lv_iconst (v := 0) hx hb dX7_init_98 (by decide) ?_
  refine lv_iconst (v := 0) hx hb dX7_init_99 (by decide) ?_
  refine gl_calli C w (va_runV (As := [.long 0, .int 2, .int 1, .int 0, .int 0]) (rest := []) ⟨hx, hb, hml, hown, hts⟩ (c_X7_make l D kA (adH h u) H.size 0 0 0 0 0 0 0 (fun _ => 0) (fun _ => 0) (fun _ => 0) (fun _ => 0) (fun _ => 0) (fun _ => 0) (fun _ => 0) (fun _ => 0) (fun _ => 0) (fun _ => 0) (fun _ => 0) 0 2 1 0 0 hres) (cwV 5 hts gX7_init_X7_make rfl rfl rfl (by decide +kernel) ⟨Nat.le_of_ble_eq_true rfl, Nat.le_of_ble_eq_true rfl⟩) (Wd.preV C w (q0 := 0) (ci := 6) rfl rfl rfl) rfl rfl hl.1 rfl (lv_room (Nat.le_of_ble_eq_true rfl)) dX7_init_100 ⟨Nat.le_of_ble_eq_true rfl, Nat.le_of_ble_eq_true rfl⟩) (fun H locs w => ?_)
  refine lv_istore_n (lv' := [(1, .int res.1), (0, .ref ((adH h u) 0))]) hx hb dX7_init_103 rfl hl (by decide) rfl (fun ls hl => ?_)
  exact hret u H locs ls _ dX7_init_104 w
set_option maxHeartbeats 4000000 in
set_option maxRecDepth 100000 in
theorem c_X7_init (l : Launch) (D : va_G) (kA : Nat → ClassId) (h : Nat) (sz : Nat) {res : Int32 × Int64 × Int32 × Int32 × Int32 × Int32 × (Nat → Int32) × (Nat → Int32) × (Nat → Int32) × (Nat → Int32) × (Nat → Int32) × (Nat → Int32) × (Nat → Int32) × (Nat → Int32) × (Nat → Int32) × (Nat → Int32)} (hres : f_X7_make 0 2 1 0 0 0 0 0 0 0 (fun _ => 0) (fun _ => 0) (fun _ => 0) (fun _ => 0) (fun _ => 0) (fun _ => 0) (fun _ => 0) (fun _ => 0) (fun _ => 0) (fun _ => 0) = some res) : Cn l yX7_init wsX7_init rm_X7_init D kA [.ref h] sz [(h, .inr (6, [.long 0, .int 0, .int 0, .int 0, .null, .null, .null, .null, .null, .null, .null, .null, .null, .null, .int 0, .null, .int 0, .int 0]))] 11 12540 (fun u => (wM kA (adH h u) res.2.1 res.2.2.1 res.2.2.2.1 res.2.2.2.2.1 res.2.2.2.2.2.1 0 0 res.2.2.2.2.2.2.1 res.2.2.2.2.2.2.2.1 res.2.2.2.2.2.2.2.2.1 res.2.2.2.2.2.2.2.2.2.1 res.2.2.2.2.2.2.2.2.2.2.1 res.2.2.2.2.2.2.2.2.2.2.2.1 res.2.2.2.2.2.2.2.2.2.2.2.2.1 res.2.2.2.2.2.2.2.2.2.2.2.2.2.1 res.2.2.2.2.2.2.2.2.2.2.2.2.2.2.1 res.2.2.2.2.2.2.2.2.2.2.2.2.2.2.2 (fun _ => 0))) := by
  refine Met.ofW (cc := cX7_init) (maxL := 2) (ret := none) (by decide) rfl ?_
  intro p e s m args below meth c s₁ B hml hv
  obtain ⟨rfl, ⟨hsz, hP, hK, hD0, hX⟩, hk⟩ := hv
  subst hsz
  have hts := atoms_spec (ws := wsX7_init) B.pre
  have hl := lv_entry ([.ref h]) (n := 2) (Nat.le_of_ble_eq_true rfl)
  rw [lg_entry_eq]
  have hlocks := B.notSynchronized
  refine t_X7_init hres (A := va_A [(h, .inr (6, [.long 0, .int 0, .int 0, .int 0, .null, .null, .null, .null, .null, .null, .null, .null, .null, .null, .int 0, .null, .int 0, .int 0]))] s.heap.size) ⟨⟨B.exec, B.bytes, hml, findClass_of_methodNamed B.named, hts⟩, hK, fun q h => Or.inr h, hX⟩ hk (name_of_methodNamed B.named B.method).1 (fun u H locs ls pc hd w => ?_) ⟨hP, hD0.self, va_S.rf⟩ hl
  exact W.vret B.exec B.bytes B.returns (fun t ht hW => ⟨⟨u, rfl, trivial, by rw [ht]; exact w.1, va_K.moved hW.alike hK, w.2.1⟩, w.2.2.F ht⟩) w.2.2.2.2 hd hlocks
