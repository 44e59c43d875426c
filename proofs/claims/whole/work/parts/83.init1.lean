/-! Makers of Drawing, Marks, Adventure. -/
abbrev rm_X1_init : Room := { frames := 1, cells := 1, slots := 12, locals := 20 }
set_option maxRecDepth 20000 in
theorem mX1_init_0 : Cond.methodLink RX1 3 objectInit ∈ wsX1_init := by decide +kernel
set_option maxRecDepth 20000 in
theorem mX1_init_1 : Cond.instanceMethod objectInit ∈ wsX1_init := by decide +kernel
set_option maxRecDepth 20000 in
theorem mX1_init_2 : Cond.code objectInit ⟨#[0xb1]⟩ 1 none ∈ wsX1_init := by decide +kernel
set_option maxRecDepth 20000 in
theorem mX1_init_3 : Cond.arrayClass .int ∈ wsX1_init := by decide +kernel
set_option maxRecDepth 20000 in
theorem mX1_init_4 : Cond.fieldLink RX1 9 "LockQuest$Drawing" "offered" "[I" ∈ wsX1_init := by decide +kernel
set_option maxRecDepth 20000 in
theorem lX1_init_X1 : ∀ w ∈ wsX10, w ∈ wsX1_init := by decide +kernel
set_option maxHeartbeats 4000000 in
set_option maxRecDepth 100000 in
theorem t_X1_init {p : Program} {l : Launch} {e : Env} {s : State} {m : MethodId} {args : Array Value} {below : List Frame} {meth : Method} {c : Code} {Q : State → Prop} {D : va_G} {kA : Nat → ClassId} {A : Nat → Prop} {h : Nat} (C : Cx p s m c args cX1_init 1 RX1 wsX1_init D kA A) (hk : Kn kA s) (hin : meth.name = "<init>") (hret : ∀ (u : Nat → Nat) (H : Heap) (locs : List Loc) (ls : Array Slot) (pc : Nat), decode cX1_init pc = .ok (.return_, 1) → Wd D A s H locs [(h, .inr (1, [.long 0, .int 0, .ref (u 0)])), (u 0, .inl (kA 0, 12, .inl (fun _ => 0)))] → W p l e rm_X1_init s m args below meth c H locs 1 12 Q (F0 m pc ls [])) {H : Heap} {locs : List Loc} {ls : Array Slot} (w : Wd D A s H locs [(h, .inr (1, [.long 0, .int 0, .null]))]) (hl : lv_has ls 1 [(0, .ref h)]) : W p l e rm_X1_init s m args below meth c H locs 0 0 Q (F0 m 0 ls []) := by
  obtain ⟨⟨hx, hb, hml, hown, hts⟩, hK, hA, -⟩ := id C
  refine lv_aload_n hx hb dX1_init_0 rfl (lv_at hl 0 rfl) ?_
  refine W.objInit hx hb hown (hts _ mX1_init_0) (hts _ mX1_init_1) (hts _ mX1_init_2) rfl (by rw [hml]; exact hl.1) rfl dX1_init_1 (Nat.le_of_ble_eq_true rfl) (Nat.le_of_ble_eq_true rfl) ?_
  refine W.eq (g2 := F0 m 4 ls []) rfl ?_
  refine lv_aload_n hx hb dX1_init_4 rfl (lv_at hl 0 rfl) ?_
  refine lv_bipush (v := 12) hx hb dX1_init_5 (by decide) ?_
  refine gl_newa (atype := .int) (a0 := (12, .inl (fun _ => 0))) (N' := 12) C w 0 rfl (hts _ mX1_init_3) rfl (fun _ _ h9 => h9) (fun _ => rfl) (by decide) (by decide) (by decide) (Nat.le_of_ble_eq_true rfl) (Nat.le_of_ble_eq_true rfl) dX1_init_7 (fun q1 H w => ?_)
  have w : Wd D A s H locs [(h, .inr (1, [.long 0, .int 0, .null])), (q1, .inl (kA 0, 12, .inl (fun _ => 0)))] := w
  refine va_putF (D := D) (ci := 1) (v := .ref q1) (ty := (.array .int)) (C := RX1) (T := TX1) (N := 3) hx hb hts lX1_init_X1 tyX1 tyX1_ok nmX1 hown hK w.1 w.2.1 w.2.2 0 rfl rfl 2 (by decide) (hts _ mX1_init_4) (fun _ h9 => h9) rfl hin rfl (by decide +kernel) rfl rfl (Nat.le_of_ble_eq_true rfl) dX1_init_9 (fun H locs hP hD hS => ?_)
  have w : Wd D A s H locs [(h, .inr (1, [.long 0, .int 0, .ref q1])), (q1, .inl (kA 0, 12, .inl (fun _ => 0)))] := ⟨hP, hD, hS⟩
  exact hret (fun i => [q1].getD i 0) H locs ls _ dX1_init_12 ⟨w.1.sub [0, 1] rfl, w.2.1.sub [0, 1] (by decide) rfl, w.2.2⟩
set_option maxHeartbeats 4000000 in
set_option maxRecDepth 100000 in
theorem c_X1_init (l : Launch) (D : va_G) (kA : Nat → ClassId) (h : Nat) (sz : Nat) : Cn l yX1_init wsX1_init rm_X1_init D kA [.ref h] sz [(h, .inr (1, [.long 0, .int 0, .null]))] 1 12 (fun u => [(h, .inr (1, [.long 0, .int 0, .ref (u 0)])), (u 0, .inl (kA 0, 12, .inl (fun _ => 0)))]) := by
  refine Met.ofW (cc := cX1_init) (maxL := 1) (ret := none) (by decide) rfl ?_
  intro p e s m args below meth c s₁ B hml hv
  obtain ⟨rfl, ⟨hsz, hP, hK, hD0, hX⟩, hk⟩ := hv
  subst hsz
  have hts := atoms_spec (ws := wsX1_init) B.pre
  have hl := lv_entry ([.ref h]) (n := 1) (Nat.le_of_ble_eq_true rfl)
  rw [lg_entry_eq]
  have hlocks := B.notSynchronized
  refine t_X1_init (A := va_A [(h, .inr (1, [.long 0, .int 0, .null]))] s.heap.size) ⟨⟨B.exec, B.bytes, hml, findClass_of_methodNamed B.named, hts⟩, hK, fun q h => Or.inr h, hX⟩ hk (name_of_methodNamed B.named B.method).1 (fun u H locs ls pc hd w => ?_) ⟨hP, hD0.self, va_S.rf⟩ hl
  exact W.vret B.exec B.bytes B.returns (fun t ht hW => ⟨⟨u, rfl, trivial, by rw [ht]; exact w.1, va_K.moved hW.alike hK, w.2.1⟩, w.2.2.F ht⟩) w.2.2.2.2 hd hlocks
abbrev rm_X3_init : Room := { frames := 1, cells := 1, slots := 192, locals := 20 }
set_option maxRecDepth 20000 in
theorem mX3_init_0 : Cond.methodLink RX3 1 objectInit ∈ wsX3_init := by decide +kernel
set_option maxRecDepth 20000 in
theorem mX3_init_1 : Cond.instanceMethod objectInit ∈ wsX3_init := by decide +kernel
set_option maxRecDepth 20000 in
theorem mX3_init_2 : Cond.code objectInit ⟨#[0xb1]⟩ 1 none ∈ wsX3_init := by decide +kernel
set_option maxRecDepth 20000 in
theorem mX3_init_3 : Cond.arrayClass .long ∈ wsX3_init := by decide +kernel
set_option maxRecDepth 20000 in
theorem mX3_init_4 : Cond.fieldLink RX3 9 "LockQuest$Marks" "bits" "[J" ∈ wsX3_init := by decide +kernel
set_option maxRecDepth 20000 in
theorem lX3_init_X3 : ∀ w ∈ wsX30, w ∈ wsX3_init := by decide +kernel
set_option maxHeartbeats 4000000 in
set_option maxRecDepth 100000 in
theorem t_X3_init {p : Program} {l : Launch} {e : Env} {s : State} {m : MethodId} {args : Array Value} {below : List Frame} {meth : Method} {c : Code} {Q : State → Prop} {D : va_G} {kA : Nat → ClassId} {A : Nat → Prop} {h : Nat} (C : Cx p s m c args cX3_init 1 RX3 wsX3_init D kA A) (hk : Kn kA s) (hin : meth.name = "<init>") (hret : ∀ (u : Nat → Nat) (H : Heap) (locs : List Loc) (ls : Array Slot) (pc : Nat), decode cX3_init pc = .ok (.return_, 1) → Wd D A s H locs [(h, .inr (3, [.ref (u 0)])), (u 0, .inl (kA 1, 192, .inr (.inl (fun _ => 0))))] → W p l e rm_X3_init s m args below meth c H locs 1 192 Q (F0 m pc ls [])) {H : Heap} {locs : List Loc} {ls : Array Slot} (w : Wd D A s H locs [(h, .inr (3, [.null]))]) (hl : lv_has ls 1 [(0, .ref h)]) : W p l e rm_X3_init s m args below meth c H locs 0 0 Q (F0 m 0 ls []) := by
  obtain ⟨⟨hx, hb, hml, hown, hts⟩, hK, hA, -⟩ := id C
  refine lv_aload_n hx hb dX3_init_0 rfl (lv_at hl 0 rfl) ?_
  refine W.objInit hx hb hown (hts _ mX3_init_0) (hts _ mX3_init_1) (hts _ mX3_init_2) rfl (by rw [hml]; exact hl.1) rfl dX3_init_1 (Nat.le_of_ble_eq_true rfl) (Nat.le_of_ble_eq_true rfl) ?_
  refine W.eq (g2 := F0 m 4 ls []) rfl ?_
  refine lv_aload_n hx hb dX3_init_4 rfl (lv_at hl 0 rfl) ?_
  refine lv_sipush (v := 192) hx hb dX3_init_5 (by decide) ?_
  refine gl_newa (atype := .long) (a0 := (192, .inr (.inl (fun _ => 0)))) (N' := 192) C w 1 rfl (hts _ mX3_init_3) rfl (fun _ _ h9 => h9) (fun _ => rfl) (by decide) (by decide) (by decide) (Nat.le_of_ble_eq_true rfl) (Nat.le_of_ble_eq_true rfl) dX3_init_8 (fun q1 H w => ?_)
  have w : Wd D A s H locs [(h, .inr (3, [.null])), (q1, .inl (kA 1, 192, .inr (.inl (fun _ => 0))))] := w
  refine va_putF (D := D) (ci := 3) (v := .ref q1) (ty := (.array .long)) (C := RX3) (T := TX3) (N := 1) hx hb hts lX3_init_X3 tyX3 tyX3_ok nmX3 hown hK w.1 w.2.1 w.2.2 0 rfl rfl 0 (by decide) (hts _ mX3_init_4) (fun _ h9 => h9) rfl hin rfl (by decide +kernel) rfl rfl (Nat.le_of_ble_eq_true rfl) dX3_init_10 (fun H locs hP hD hS => ?_)
  have w : Wd D A s H locs [(h, .inr (3, [.ref q1])), (q1, .inl (kA 1, 192, .inr (.inl (fun _ => 0))))] := ⟨hP, hD, hS⟩
  exact hret (fun i => [q1].getD i 0) H locs ls _ dX3_init_13 ⟨w.1.sub [0, 1] rfl, w.2.1.sub [0, 1] (by decide) rfl, w.2.2⟩
set_option maxHeartbeats 4000000 in
set_option maxRecDepth 100000 in
theorem c_X3_init (l : Launch) (D : va_G) (kA : Nat → ClassId) (h : Nat) (sz : Nat) : Cn l yX3_init wsX3_init rm_X3_init D kA [.ref h] sz [(h, .inr (3, [.null]))] 1 192 (fun u => [(h, .inr (3, [.ref (u 0)])), (u 0, .inl (kA 1, 192, .inr (.inl (fun _ => 0))))]) := by
  refine Met.ofW (cc := cX3_init) (maxL := 1) (ret := none) (by decide) rfl ?_
  intro p e s m args below meth c s₁ B hml hv
  obtain ⟨rfl, ⟨hsz, hP, hK, hD0, hX⟩, hk⟩ := hv
  subst hsz
  have hts := atoms_spec (ws := wsX3_init) B.pre
  have hl := lv_entry ([.ref h]) (n := 1) (Nat.le_of_ble_eq_true rfl)
  rw [lg_entry_eq]
  have hlocks := B.notSynchronized
  refine t_X3_init (A := va_A [(h, .inr (3, [.null]))] s.heap.size) ⟨⟨B.exec, B.bytes, hml, findClass_of_methodNamed B.named, hts⟩, hK, fun q h => Or.inr h, hX⟩ hk (name_of_methodNamed B.named B.method).1 (fun u H locs ls pc hd w => ?_) ⟨hP, hD0.self, va_S.rf⟩ hl
  exact W.vret B.exec B.bytes B.returns (fun t ht hW => ⟨⟨u, rfl, trivial, by rw [ht]; exact w.1, va_K.moved hW.alike hK, w.2.1⟩, w.2.2.F ht⟩) w.2.2.2.2 hd hlocks
abbrev rm_X0_init : Room := { frames := 1, cells := 22, slots := 264, locals := 20 }
set_option maxRecDepth 20000 in
theorem mX0_init_0 : Cond.methodLink RX0 3 objectInit ∈ wsX0_init := by decide +kernel
set_option maxRecDepth 20000 in
theorem mX0_init_1 : Cond.instanceMethod objectInit ∈ wsX0_init := by decide +kernel
set_option maxRecDepth 20000 in
theorem mX0_init_2 : Cond.code objectInit ⟨#[0xb1]⟩ 1 none ∈ wsX0_init := by decide +kernel
set_option maxRecDepth 20000 in
theorem mX0_init_3 : Cond.arrayClass .int ∈ wsX0_init := by decide +kernel
set_option maxRecDepth 20000 in
theorem mX0_init_4 : Cond.fieldLink RX0 9 "LockQuest$Adventure" "parent" "[I" ∈ wsX0_init := by decide +kernel
set_option maxRecDepth 20000 in
theorem lX0_init_X0 : ∀ w ∈ wsX00, w ∈ wsX0_init := by decide +kernel
set_option maxRecDepth 20000 in
theorem mX0_init_6 : Cond.fieldLink RX0 15 "LockQuest$Adventure" "level" "[I" ∈ wsX0_init := by decide +kernel
set_option maxRecDepth 20000 in
theorem mX0_init_7 : Cond.fieldLink RX0 18 "LockQuest$Adventure" "kind" "[I" ∈ wsX0_init := by decide +kernel
set_option maxRecDepth 20000 in
theorem mX0_init_8 : Cond.fieldLink RX0 21 "LockQuest$Adventure" "smallNumber" "[I" ∈ wsX0_init := by decide +kernel
set_option maxRecDepth 20000 in
theorem mX0_init_9 : Cond.fieldLink RX0 24 "LockQuest$Adventure" "x" "[I" ∈ wsX0_init := by decide +kernel
set_option maxRecDepth 20000 in
theorem mX0_init_10 : Cond.fieldLink RX0 27 "LockQuest$Adventure" "y" "[I" ∈ wsX0_init := by decide +kernel
set_option maxRecDepth 20000 in
theorem mX0_init_11 : Cond.fieldLink RX0 30 "LockQuest$Adventure" "lying" "[I" ∈ wsX0_init := by decide +kernel
set_option maxRecDepth 20000 in
theorem mX0_init_12 : Cond.arrayClass .boolean ∈ wsX0_init := by decide +kernel
set_option maxRecDepth 20000 in
theorem mX0_init_13 : Cond.fieldLink RX0 33 "LockQuest$Adventure" "switched" "[Z" ∈ wsX0_init := by decide +kernel
set_option maxRecDepth 20000 in
theorem mX0_init_14 : Cond.fieldLink RX0 37 "LockQuest$Adventure" "doors" "[I" ∈ wsX0_init := by decide +kernel
set_option maxRecDepth 20000 in
theorem mX0_init_15 : Cond.classLink RX0 40 "[[I" ∈ wsX0_init := by decide +kernel
set_option maxRecDepth 20000 in
theorem mX0_init_16 : Cond.fieldLink RX0 42 "LockQuest$Adventure" "beyond" "[[I" ∈ wsX0_init := by decide +kernel
set_option maxHeartbeats 4000000 in
set_option maxRecDepth 100000 in
theorem t_X0_init {p : Program} {l : Launch} {e : Env} {s : State} {m : MethodId} {args : Array Value} {below : List Frame} {meth : Method} {c : Code} {Q : State → Prop} {D : va_G} {kA : Nat → ClassId} {A : Nat → Prop} {h : Nat} (C : Cx p s m c args cX0_init 1 RX0 wsX0_init D kA A) (hk : Kn kA s) (hin : meth.name = "<init>") (hret : ∀ (u : Nat → Nat) (H : Heap) (locs : List Loc) (ls : Array Slot) (pc : Nat), decode cX0_init pc = .ok (.return_, 1) → Wd D A s H locs [(h, .inr (0, [.int 0, .int 0, .int 0, .int 0, .ref (u 0), .ref (u 1), .ref (u 2), .ref (u 3), .ref (u 4), .ref (u 5), .ref (u 6), .ref (u 7), .ref (u 8), .ref (u 9)])), (u 0, .inl (kA 0, 12, .inl (fun _ => 0))), (u 1, .inl (kA 0, 12, .inl (fun _ => 0))), (u 2, .inl (kA 0, 12, .inl (fun _ => 0))), (u 3, .inl (kA 0, 12, .inl (fun _ => 0))), (u 4, .inl (kA 0, 12, .inl (fun _ => 0))), (u 5, .inl (kA 0, 12, .inl (fun _ => 0))), (u 6, .inl (kA 0, 12, .inl (fun _ => 0))), (u 7, .inl (kA 2, 12, .inl (fun _ => 0))), (u 8, .inl (kA 0, 12, .inl (fun _ => 0))), (u 9, .inl (kA 3, 12, .inr (.inr (.inr (.inr (fun i => some (u 9 + 1 + i))))))), (u 9 + 1 + 0, .inl (kA 0, 12, .inl (fun _ => 0))), (u 9 + 1 + 1, .inl (kA 0, 12, .inl (fun _ => 0))), (u 9 + 1 + 2, .inl (kA 0, 12, .inl (fun _ => 0))), (u 9 + 1 + 3, .inl (kA 0, 12, .inl (fun _ => 0))), (u 9 + 1 + 4, .inl (kA 0, 12, .inl (fun _ => 0))), (u 9 + 1 + 5, .inl (kA 0, 12, .inl (fun _ => 0))), (u 9 + 1 + 6, .inl (kA 0, 12, .inl (fun _ => 0))), (u 9 + 1 + 7, .inl (kA 0, 12, .inl (fun _ => 0))), (u 9 + 1 + 8, .inl (kA 0, 12, .inl (fun _ => 0))), (u 9 + 1 + 9, .inl (kA 0, 12, .inl (fun _ => 0))), (u 9 + 1 + 10, .inl (kA 0, 12, .inl (fun _ => 0))), (u 9 + 1 + 11, .inl (kA 0, 12, .inl (fun _ => 0)))] → W p l e rm_X0_init s m args below meth c H locs 22 264 Q (F0 m pc ls [])) {H : Heap} {locs : List Loc} {ls : Array Slot} (w : Wd D A s H locs [(h, .inr (0, [.int 0, .int 0, .int 0, .int 0, .null, .null, .null, .null, .null, .null, .null, .null, .null, .null]))]) (hl : lv_has ls 1 [(0, .ref h)]) : W p l e rm_X0_init s m args below meth c H locs 0 0 Q (F0 m 0 ls []) := by
  obtain ⟨⟨hx, hb, hml, hown, hts⟩, hK, hA, -⟩ := id C
  refine lv_aload_n hx hb dX0_init_0 rfl (lv_at hl 0 rfl) ?_
  refine W.objInit hx hb hown (hts _ mX0_init_0) (hts _ mX0_init_1) (hts _ mX0_init_2) rfl (by rw [hml]; exact hl.1) rfl dX0_init_1 (Nat.le_of_ble_eq_true rfl) (Nat.le_of_ble_eq_true rfl) ?_
  refine W.eq (g2 := F0 m 4 ls []) rfl ?_
  refine lv_aload_n hx hb dX0_init_4 rfl (lv_at hl 0 rfl) ?_
  refine lv_bipush (v := 12) hx hb dX0_init_5 (by decide) ?_
  refine gl_newa (atype := .int) (a0 := (12, .inl (fun _ => 0))) (N' := 12) C w 0 rfl (hts _ mX0_init_3) rfl (fun _ _ h9 => h9) (fun _ => rfl) (by decide) (by decide) (by decide) (Nat.le_of_ble_eq_true rfl) (Nat.le_of_ble_eq_true rfl) dX0_init_7 (fun q1 H w => ?_)
  have w : Wd D A s H locs [(h, .inr (0, [.int 0, .int 0, .int 0, .int 0, .null, .null, .null, .null, .null, .null, .null, .null, .null, .null])), (q1, .inl (kA 0, 12, .inl (fun _ => 0)))] := w
  refine va_putF (D := D) (ci := 0) (v := .ref q1) (ty := (.array .int)) (C := RX0) (T := TX0) (N := 14) hx hb hts lX0_init_X0 tyX0 tyX0_ok nmX0 hown hK w.1 w.2.1 w.2.2 0 rfl rfl 4 (by decide) (hts _ mX0_init_4) (fun _ h9 => h9) rfl hin rfl (by decide +kernel) rfl rfl (Nat.le_of_ble_eq_true rfl) dX0_init_9 (fun H locs hP hD hS => ?_)
  have w : Wd D A s H locs [(h, .inr (0, [.int 0, .int 0, .int 0, .int 0, .ref q1, .null, .null, .null, .null, .null, .null, .null, .null, .null])), (q1, .inl (kA 0, 12, .inl (fun _ => 0)))] := ⟨hP, hD, hS⟩
  refine lv_aload_n hx hb dX0_init_12 rfl (lv_at hl 0 rfl) ?_
  refine lv_bipush (v := 12) hx hb dX0_init_13 (by decide) ?_
  refine gl_newa (atype := .int) (a0 := (12, .inl (fun _ => 0))) (N' := 12) C w 0 rfl (hts _ mX0_init_3) rfl (fun _ _ h9 => h9) (fun _ => rfl) (by decide) (by decide) (by decide) (Nat.le_of_ble_eq_true rfl) (Nat.le_of_ble_eq_true rfl) dX0_init_15 (fun q2 H w => ?_)
  have w : Wd D A s H locs [(h, .inr (0, [.int 0, .int 0, .int 0, .int 0, .ref q1, .null, .null, .null, .null, .null, .null, .null, .null, .null])), (q1, .inl (kA 0, 12, .inl (fun _ => 0))), (q2, .inl (kA 0, 12, .inl (fun _ => 0)))] := w
  refine va_putF (D := D) (ci := 0) (v := .ref q2) (ty := (.array .int)) (C := RX0) (T := TX0) (N := 14) hx hb hts lX0_init_X0 tyX0 tyX0_ok nmX0 hown hK w.1 w.2.1 w.2.2 0 rfl rfl 5 (by decide) (hts _ mX0_init_6) (fun _ h9 => h9) rfl hin rfl (by decide +kernel) rfl rfl (Nat.le_of_ble_eq_true rfl) dX0_init_17 (fun H locs hP hD hS => ?_)
  have w : Wd D A s H locs [(h, .inr (0, [.int 0, .int 0, .int 0, .int 0, .ref q1, .ref q2, .null, .null, .null, .null, .null, .null, .null, .null])), (q1, .inl (kA 0, 12, .inl (fun _ => 0))), (q2, .inl (kA 0, 12, .inl (fun _ => 0)))] := ⟨hP, hD, hS⟩
  refine lv_aload_n hx hb dX0_init_20 rfl (lv_at hl 0 rfl) ?_
  refine lv_bipush (v := 12) hx hb dX0_init_21 (by decide) ?_
  refine gl_newa (atype := .int) (a0 := (12, .inl (fun _ => 0))) (N' := 12) C w 0 rfl (hts _ mX0_init_3) rfl (fun _ _ h9 => h9) (fun _ => rfl) (by decide) (by decide) (by decide) (Nat.le_of_ble_eq_true rfl) (Nat.le_of_ble_eq_true rfl) dX0_init_23 (fun q3 H w => ?_)
  have w : Wd D A s H locs [(h, .inr (0, [.int 0, .int 0, .int 0, .int 0, .ref q1, .ref q2, .null, .null, .null, .null, .null, .null, .null, .null])), (q1, .inl (kA 0, 12, .inl (fun _ => 0))), (q2, .inl (kA 0, 12, .inl (fun _ => 0))), (q3, .inl (kA 0, 12, .inl (fun _ => 0)))] := w
  refine va_putF (D := D) (ci := 0) (v := .ref q3) (ty := (.array .int)) (C := RX0) (T := TX0) (N := 14) hx hb hts lX0_init_X0 tyX0 tyX0_ok nmX0 hown hK w.1 w.2.1 w.2.2 0 rfl rfl 6 (by decide) (hts _ mX0_init_7) (fun _ h9 => h9) rfl hin rfl (by decide +kernel) rfl rfl (Nat.le_of_ble_eq_true rfl) dX0_init_25 (fun H locs hP hD hS => ?_)
  have w : Wd D A s H locs [(h, .inr (0, [.int 0, .int 0, .int 0, .int 0, .ref q1, .ref q2, .ref q3, .null, .null, .null, .null, .null, .null, .null])), (q1, .inl (kA 0, 12, .inl (fun _ => 0))), (q2, .inl (kA 0, 12, .inl (fun _ => 0))), (q3, .inl (kA 0, 12, .inl (fun _ => 0)))] := ⟨hP, hD, hS⟩
  refine lv_aload_n hx hb dX0_init_28 rfl (lv_at hl 0 rfl) ?_
  refine lv_bipush (v := 12) hx hb dX0_init_29 (by decide) ?_
  refine gl_newa (atype := .int) (a0 := (12, .inl (fun _ => 0))) (N' := 12) C w 0 rfl (hts _ mX0_init_3) rfl (fun _ _ h9 => h9) (fun _ => rfl) (by decide) (by decide) (by decide) (Nat.le_of_ble_eq_true rfl) (Nat.le_of_ble_eq_true rfl) dX0_init_31 (fun q4 H w => ?_)
  have w : Wd D A s H locs [(h, .inr (0, [.int 0, .int 0, .int 0, .int 0, .ref q1, .ref q2, .ref q3, .null, .null, .null, .null, .null, .null, .null])), (q1, .inl (kA 0, 12, .inl (fun _ => 0))), (q2, .inl (kA 0, 12, .inl (fun _ => 0))), (q3, .inl (kA 0, 12, .inl (fun _ => 0))), (q4, .inl (kA 0, 12, .inl (fun _ => 0)))] := w
  refine va_putF (D := D) (ci := 0) (v := .ref q4) (ty := (.array .int)) (C := RX0) (T := TX0) (N := 14) hx hb hts lX0_init_X0 tyX0 tyX0_ok nmX0 hown hK w.1 w.2.1 w.2.2 0 rfl rfl 7 (by decide) (hts _ mX0_init_8) (fun _ h9 => h9) rfl hin rfl (by decide +kernel) rfl rfl (Nat.le_of_ble_eq_true rfl) dX0_init_33 (fun H locs hP hD hS => ?_)
  have w : Wd D A s H locs [(h, .inr (0, [.int 0, .int 0, .int 0, .int 0, .ref q1, .ref q2, .ref q3, .ref q4, .null, .null, .null, .null, .null, .null])), (q1, .inl (kA 0, 12, .inl (fun _ => 0))), (q2, .inl (kA 0, 12, .inl (fun _ => 0))), (q3, .inl (kA 0, 12, .inl (fun _ => 0))), (q4, .inl (kA 0, 12, .inl (fun _ => 0)))] := ⟨hP, hD, hS⟩
  refine lv_aload_n hx hb dX0_init_36 rfl (lv_at hl 0 rfl) ?_
  refine lv_bipush (v := 12) hx hb dX0_init_37 (by decide) ?_
  refine gl_newa (atype := .int) (a0 := (12, .inl (fun _ => 0))) (N' := 12) C w 0 rfl (hts _ mX0_init_3) rfl (fun _ _ h9 => h9) (fun _ => rfl) (by decide) (by decide) (by decide) (Nat.le_of_ble_eq_true rfl) (Nat.le_of_ble_eq_true rfl) dX0_init_39 (fun q5 H w => ?_)
  have w : Wd D A s H locs [(h, .inr (0, [.int 0, .int 0, .int 0, .int 0, .ref q1, .ref q2, .ref q3, .ref q4, .null, .null, .null, .null, .null, .null])), (q1, .inl (kA 0, 12, .inl (fun _ => 0))), (q2, .inl (kA 0, 12, .inl (fun _ => 0))), (q3, .inl (kA 0, 12, .inl (fun _ => 0))), (q4, .inl (kA 0, 12, .inl (fun _ => 0))), (q5, .inl (kA 0, 12, .inl (fun _ => 0)))] := w
  refine va_putF (D := D) (ci := 0) (v := .ref q5) (ty := (.array .int)) (C := RX0) (T := TX0) (N := 14) hx hb hts lX0_init_X0 tyX0 tyX0_ok nmX0 hown hK w.1 w.2.1 w.2.2 0 rfl rfl 8 (by decide) (hts _ mX0_init_9) (fun _ h9 => h9) rfl hin rfl (by decide +kernel) rfl rfl (Nat.le_of_ble_eq_true rfl) dX0_init_41 (fun H locs hP hD hS => ?_)
  have w : Wd D A s H locs [(h, .inr (0, [.int 0, .int 0, .int 0, .int 0, .ref q1, .ref q2, .ref q3, .ref q4, .ref q5, .null, .null, .null, .null, .null])), (q1, .inl (kA 0, 12, .inl (fun _ => 0))), (q2, .inl (kA 0, 12, .inl (fun _ => 0))), (q3, .inl (kA 0, 12, .inl (fun _ => 0))), (q4, .inl (kA 0, 12, .inl (fun _ => 0))), (q5, .inl (kA 0, 12, .inl (fun _ => 0)))] := ⟨hP, hD, hS⟩
  refine lv_aload_n hx hb dX0_init_44 rfl (lv_at hl 0 rfl) ?_
  refine lv_bipush (v := 12) hx hb dX0_init_45 (by decide) ?_
  refine gl_newa (atype := .int) (a0 := (12, .inl (fun _ => 0))) (N' := 12) C w 0 rfl (hts _ mX0_init_3) rfl (fun _ _ h9 => h9) (fun _ => rfl) (by decide) (by decide) (by decide) (Nat.le_of_ble_eq_true rfl) (Nat.le_of_ble_eq_true rfl) dX0_init_47 (fun q6 H w => ?_)
  have w : Wd D A s H locs [(h, .inr (0, [.int 0, .int 0, .int 0, .int 0, .ref q1, .ref q2, .ref q3, .ref q4, .ref q5, .null, .null, .null, .null, .null])), (q1, .inl (kA 0, 12, .inl (fun _ => 0))), (q2, .inl (kA 0, 12, .inl (fun _ => 0))), (q3, .inl (kA 0, 12, .inl (fun _ => 0))), (q4, .inl (kA 0, 12, .inl (fun _ => 0))), (q5, .inl (kA 0, 12, .inl (fun _ => 0))), (q6, .inl (kA 0, 12, .inl (fun _ => 0)))] := w
  refine va_putF (D := D) (ci := 0) (v := .ref q6) (ty := (.array .int)) (C := RX0) (T := TX0) (N := 14) hx hb hts lX0_init_X0 tyX0 tyX0_ok nmX0 hown hK w.1 w.2.1 w.2.2 0 rfl rfl 9 (by decide) (hts _ mX0_init_10) (fun _ h9 => h9) rfl hin rfl (by decide +kernel) rfl rfl (Nat.le_of_ble_eq_true rfl) dX0_init_49 (fun H locs hP hD hS => ?_)
  have w : Wd D A s H locs [(h, .inr (0, [.int 0, .int 0, .int 0, .int 0, .ref q1, .ref q2, .ref q3, .ref q4, .ref q5, .ref q6, .null, .null, .null, .null])), (q1, .inl (kA 0, 12, .inl (fun _ => 0))), (q2, .inl (kA 0, 12, .inl (fun _ => 0))), (q3, .inl (kA 0, 12, .inl (fun _ => 0))), (q4, .inl (kA 0, 12, .inl (fun _ => 0))), (q5, .inl (kA 0, 12, .inl (fun _ => 0))), (q6, .inl (kA 0, 12, .inl (fun _ => 0)))] := ⟨hP, hD, hS⟩
  refine lv_aload_n hx hb dX0_init_52 rfl (lv_at hl 0 rfl) ?_
  refine lv_bipush (v := 12) hx hb dX0_init_53 (by decide) ?_
  refine gl_newa (atype := .int) (a0 := (12, .inl (fun _ => 0))) (N' := 12) C w 0 rfl (hts _ mX0_init_3) rfl (fun _ _ h9 => h9) (fun _ => rfl) (by decide) (by decide) (by decide) (Nat.le_of_ble_eq_true rfl) (Nat.le_of_ble_eq_true rfl) dX0_init_55 (fun q7 H w => ?_)
  have w : Wd D A s H locs [(h, .inr (0, [.int 0, .int 0, .int 0, .int 0, .ref q1, .ref q2, .ref q3, .ref q4, .ref q5, .ref q6, .null, .null, .null, .null])), (q1, .inl (kA 0, 12, .inl (fun _ => 0))), (q2, .inl (kA 0, 12, .inl (fun _ => 0))), (q3, .inl (kA 0, 12, .inl (fun _ => 0))), (q4, .inl (kA 0, 12, .inl (fun _ => 0))), (q5, .inl (kA 0, 12, .inl (fun _ => 0))), (q6, .inl (kA 0, 12, .inl (fun _ => 0))), (q7, .inl (kA 0, 12, .inl (fun _ => 0)))] := w
  refine va_putF (D := D) (ci := 0) (v := .ref q7) (ty := (.array .int)) (C := RX0) (T := TX0) (N := 14) hx hb hts lX0_init_X0 tyX0 tyX0_ok nmX0 hown hK w.1 w.2.1 w.2.2 0 rfl rfl 10 (by decide) (hts _ mX0_init_11) (fun _ h9 => h9) rfl hin rfl (by decide +kernel) rfl rfl (Nat.le_of_ble_eq_true rfl) dX0_init_57 (fun H locs hP hD hS => ?_)
  have w : Wd D A s H locs [(h, .inr (0, [.int 0, .int 0, .int 0, .int 0, .ref q1, .ref q2, .ref q3, .ref q4, .ref q5, .ref q6, .ref q7, .null, .null, .null])), (q1, .inl (kA 0, 12, .inl (fun _ => 0))), (q2, .inl (kA 0, 12, .inl (fun _ => 0))), (q3, .inl (kA 0, 12, .inl (fun _ => 0))), (q4, .inl (kA 0, 12, .inl (fun _ => 0))), (q5, .inl (kA 0, 12, .inl (fun _ => 0))), (q6, .inl (kA 0, 12, .inl (fun _ => 0))), (q7, .inl (kA 0, 12, .inl (fun _ => 0)))] := ⟨hP, hD, hS⟩
  refine lv_aload_n hx hb dX0_init_60 rfl (lv_at hl 0 rfl) ?_
  refine lv_bipush (v := 12) hx hb dX0_init_61 (by decide) ?_
  refine gl_newa (atype := .boolean) (a0 := (12, .inl (fun _ => 0))) (N' := 12) C w 2 rfl (hts _ mX0_init_12) rfl (fun _ _ h9 => h9) (fun _ => rfl) (by decide) (by decide) (by decide) (Nat.le_of_ble_eq_true rfl) (Nat.le_of_ble_eq_true rfl) dX0_init_63 (fun q8 H w => ?_)
  have w : Wd D A s H locs [(h, .inr (0, [.int 0, .int 0, .int 0, .int 0, .ref q1, .ref q2, .ref q3, .ref q4, .ref q5, .ref q6, .ref q7, .null, .null, .null])), (q1, .inl (kA 0, 12, .inl (fun _ => 0))), (q2, .inl (kA 0, 12, .inl (fun _ => 0))), (q3, .inl (kA 0, 12, .inl (fun _ => 0))), (q4, .inl (kA 0, 12, .inl (fun _ => 0))), (q5, .inl (kA 0, 12, .inl (fun _ => 0))), (q6, .inl (kA 0, 12, .inl (fun _ => 0))), (q7, .inl (kA 0, 12, .inl (fun _ => 0))), (q8, .inl (kA 2, 12, .inl (fun _ => 0)))] := w
  refine va_putF (D := D) (ci := 0) (v := .ref q8) (ty := (.array .boolean)) (C := RX0) (T := TX0) (N := 14) hx hb hts lX0_init_X0 tyX0 tyX0_ok nmX0 hown hK w.1 w.2.1 w.2.2 0 rfl rfl 11 (by decide) (hts _ mX0_init_13) (fun _ h9 => h9) rfl hin rfl (by decide +kernel) rfl rfl (Nat.le_of_ble_eq_true rfl) dX0_init_65 (fun H locs hP hD hS => ?_)
  have w : Wd D A s H locs [(h, .inr (0, [.int 0, .int 0, .int 0, .int 0, .ref q1, .ref q2, .ref q3, .ref q4, .ref q5, .ref q6, .ref q7, .ref q8, .null, .null])), (q1, .inl (kA 0, 12, .inl (fun _ => 0))), (q2, .inl (kA 0, 12, .inl (fun _ => 0))), (q3, .inl (kA 0, 12, .inl (fun _ => 0))), (q4, .inl (kA 0, 12, .inl (fun _ => 0))), (q5, .inl (kA 0, 12, .inl (fun _ => 0))), (q6, .inl (kA 0, 12, .inl (fun _ => 0))), (q7, .inl (kA 0, 12, .inl (fun _ => 0))), (q8, .inl (kA 2, 12, .inl (fun _ => 0)))] := ⟨hP, hD, hS⟩
  refine lv_aload_n hx hb dX0_init_68 rfl (lv_at hl 0 rfl) ?_
  refine lv_bipush (v := 12) hx hb dX0_init_69 (by decide) ?_
  refine gl_newa (atype := .int) (a0 := (12, .inl (fun _ => 0))) (N' := 12) C w 0 rfl (hts _ mX0_init_3) rfl (fun _ _ h9 => h9) (fun _ => rfl) (by decide) (by decide) (by decide) (Nat.le_of_ble_eq_true rfl) (Nat.le_of_ble_eq_true rfl) dX0_init_71 (fun q9 H w => ?_)
  have w : Wd D A s H locs [(h, .inr (0, [.int 0, .int 0, .int 0, .int 0, .ref q1, .ref q2, .ref q3, .ref q4, .ref q5, .ref q6, .ref q7, .ref q8, .null, .null])), (q1, .inl (kA 0, 12, .inl (fun _ => 0))), (q2, .inl (kA 0, 12, .inl (fun _ => 0))), (q3, .inl (kA 0, 12, .inl (fun _ => 0))), (q4, .inl (kA 0, 12, .inl (fun _ => 0))), (q5, .inl (kA 0, 12, .inl (fun _ => 0))), (q6, .inl (kA 0, 12, .inl (fun _ => 0))), (q7, .inl (kA 0, 12, .inl (fun _ => 0))), (q8, .inl (kA 2, 12, .inl (fun _ => 0))), (q9, .inl (kA 0, 12, .inl (fun _ => 0)))] := w
  refine va_putF (D := D) (ci := 0) (v := .ref q9) (ty := (.array .int)) (C := RX0) (T := TX0) (N := 14) hx hb hts lX0_init_X0 tyX0 tyX0_ok nmX0 hown hK w.1 w.2.1 w.2.2 0 rfl rfl 12 (by decide) (hts _ mX0_init_14) (fun _ h9 => h9) rfl hin rfl (by decide +kernel) rfl rfl (Nat.le_of_ble_eq_true rfl) dX0_init_73 (fun H locs hP hD hS => ?_)
  have w : Wd D A s H locs [(h, .inr (0, [.int 0, .int 0, .int 0, .int 0, .ref q1, .ref q2, .ref q3, .ref q4, .ref q5, .ref q6, .ref q7, .ref q8, .ref q9, .null])), (q1, .inl (kA 0, 12, .inl (fun _ => 0))), (q2, .inl (kA 0, 12, .inl (fun _ => 0))), (q3, .inl (kA 0, 12, .inl (fun _ => 0))), (q4, .inl (kA 0, 12, .inl (fun _ => 0))), (q5, .inl (kA 0, 12, .inl (fun _ => 0))), (q6, .inl (kA 0, 12, .inl (fun _ => 0))), (q7, .inl (kA 0, 12, .inl (fun _ => 0))), (q8, .inl (kA 2, 12, .inl (fun _ => 0))), (q9, .inl (kA 0, 12, .inl (fun _ => 0)))] := ⟨hP, hD, hS⟩
  refine lv_aload_n hx hb dX0_init_76 rfl (lv_at hl 0 rfl) ?_
  refine lv_bipush (v := 12) hx hb dX0_init_77 (by decide) ?_
  refine lv_bipush (v := 12) hx hb dX0_init_79 (by decide) ?_
  refine gl_grid C w hk.1 (hts _ mX0_init_15) (Nat.le_of_ble_eq_true rfl) (Nat.le_of_ble_eq_true rfl) dX0_init_81 (fun q10 H w => ?_)
  have w : Wd D A s H locs [(h, .inr (0, [.int 0, .int 0, .int 0, .int 0, .ref q1, .ref q2, .ref q3, .ref q4, .ref q5, .ref q6, .ref q7, .ref q8, .ref q9, .null])), (q1, .inl (kA 0, 12, .inl (fun _ => 0))), (q2, .inl (kA 0, 12, .inl (fun _ => 0))), (q3, .inl (kA 0, 12, .inl (fun _ => 0))), (q4, .inl (kA 0, 12, .inl (fun _ => 0))), (q5, .inl (kA 0, 12, .inl (fun _ => 0))), (q6, .inl (kA 0, 12, .inl (fun _ => 0))), (q7, .inl (kA 0, 12, .inl (fun _ => 0))), (q8, .inl (kA 2, 12, .inl (fun _ => 0))), (q9, .inl (kA 0, 12, .inl (fun _ => 0))), (q10, .inl (kA 3, 12, .inr (.inr (.inr (.inr (fun i => some (q10 + 1 + i))))))), (q10 + 1 + 0, .inl (kA 0, 12, .inl (fun _ => 0))), (q10 + 1 + 1, .inl (kA 0, 12, .inl (fun _ => 0))), (q10 + 1 + 2, .inl (kA 0, 12, .inl (fun _ => 0))), (q10 + 1 + 3, .inl (kA 0, 12, .inl (fun _ => 0))), (q10 + 1 + 4, .inl (kA 0, 12, .inl (fun _ => 0))), (q10 + 1 + 5, .inl (kA 0, 12, .inl (fun _ => 0))), (q10 + 1 + 6, .inl (kA 0, 12, .inl (fun _ => 0))), (q10 + 1 + 7, .inl (kA 0, 12, .inl (fun _ => 0))), (q10 + 1 + 8, .inl (kA 0, 12, .inl (fun _ => 0))), (q10 + 1 + 9, .inl (kA 0, 12, .inl (fun _ => 0))), (q10 + 1 + 10, .inl (kA 0, 12, .inl (fun _ => 0))), (q10 + 1 + 11, .inl (kA 0, 12, .inl (fun _ => 0)))] := w
  refine va_putF (D := D) (ci := 0) (v := .ref q10) (ty := (.array (.array .int))) (C := RX0) (T := TX0) (N := 14) hx hb hts lX0_init_X0 tyX0 tyX0_ok nmX0 hown hK w.1 w.2.1 w.2.2 0 rfl rfl 13 (by decide) (hts _ mX0_init_16) (fun _ h9 => h9) rfl hin rfl (by decide +kernel) rfl rfl (Nat.le_of_ble_eq_true rfl) dX0_init_85 (fun H locs hP hD hS => ?_)
  have w : Wd D A s H locs [(h, .inr (0, [.int 0, .int 0, .int 0, .int 0, .ref q1, .ref q2, .ref q3, .ref q4, .ref q5, .ref q6, .ref q7, .ref q8, .ref q9, .ref q10])), (q1, .inl (kA 0, 12, .inl (fun _ => 0))), (q2, .inl (kA 0, 12, .inl (fun _ => 0))), (q3, .inl (kA 0, 12, .inl (fun _ => 0))), (q4, .inl (kA 0, 12, .inl (fun _ => 0))), (q5, .inl (kA 0, 12, .inl (fun _ => 0))), (q6, .inl (kA 0, 12, .inl (fun _ => 0))), (q7, .inl (kA 0, 12, .inl (fun _ => 0))), (q8, .inl (kA 2, 12, .inl (fun _ => 0))), (q9, .inl (kA 0, 12, .inl (fun _ => 0))), (q10, .inl (kA 3, 12, .inr (.inr (.inr (.inr (fun i => some (q10 + 1 + i))))))), (q10 + 1 + 0, .inl (kA 0, 12, .inl (fun _ => 0))), (q10 + 1 + 1, .inl (kA 0, 12, .inl (fun _ => 0))), (q10 + 1 + 2, .inl (kA 0, 12, .inl (fun _ => 0))), (q10 + 1 + 3, .inl (kA 0, 12, .inl (fun _ => 0))), (q10 + 1 + 4, .inl (kA 0, 12, .inl (fun _ => 0))), (q10 + 1 + 5, .inl (kA 0, 12, .inl (fun _ => 0))), (q10 + 1 + 6, .inl (kA 0, 12, .inl (fun _ => 0))), (q10 + 1 + 7, .inl (kA 0, 12, .inl (fun _ => 0))), (q10 + 1 + 8, .inl (kA 0, 12, .inl (fun _ => 0))), (q10 + 1 + 9, .inl (kA 0, 12, .inl (fun _ => 0))), (q10 + 1 + 10, .inl (kA 0, 12, .inl (fun _ => 0))), (q10 + 1 + 11, .inl (kA 0, 12, .inl (fun _ => 0)))] := ⟨hP, hD, hS⟩
  exact hret (fun i => [q1, q2, q3, q4, q5, q6, q7, q8, q9, q10].getD i 0) H locs ls _ dX0_init_88 ⟨w.1.sub [0, 1, 2, 3, 4, 5, 6, 7, 8, 9, 10, 11, 12, 13, 14, 15, 16, 17, 18, 19, 20, 21, 22] rfl, w.2.1.sub [0, 1, 2, 3, 4, 5, 6, 7, 8, 9, 10, 11, 12, 13, 14, 15, 16, 17, 18, 19, 20, 21, 22] (by decide) rfl, w.2.2⟩
set_option maxHeartbeats 4000000 in
set_option maxRecDepth 100000 in
theorem c_X0_init (l : Launch) (D : va_G) (kA : Nat → ClassId) (h : Nat) (sz : Nat) : Cn l yX0_init wsX0_init rm_X0_init D kA [.ref h] sz [(h, .inr (0, [.int 0, .int 0, .int 0, .int 0, .null, .null, .null, .null, .null, .null, .null, .null, .null, .null]))] 22 264 (fun u => [(h, .inr (0, [.int 0, .int 0, .int 0, .int 0, .ref (u 0), .ref (u 1), .ref (u 2), .ref (u 3), .ref (u 4), .ref (u 5), .ref (u 6), .ref (u 7), .ref (u 8), .ref (u 9)])), (u 0, .inl (kA 0, 12, .inl (fun _ => 0))), (u 1, .inl (kA 0, 12, .inl (fun _ => 0))), (u 2, .inl (kA 0, 12, .inl (fun _ => 0))), (u 3, .inl (kA 0, 12, .inl (fun _ => 0))), (u 4, .inl (kA 0, 12, .inl (fun _ => 0))), (u 5, .inl (kA 0, 12, .inl (fun _ => 0))), (u 6, .inl (kA 0, 12, .inl (fun _ => 0))), (u 7, .inl (kA 2, 12, .inl (fun _ => 0))), (u 8, .inl (kA 0, 12, .inl (fun _ => 0))), (u 9, .inl (kA 3, 12, .inr (.inr (.inr (.inr (fun i => some (u 9 + 1 + i))))))), (u 9 + 1 + 0, .inl (kA 0, 12, .inl (fun _ => 0))), (u 9 + 1 + 1, .inl (kA 0, 12, .inl (fun _ => 0))), (u 9 + 1 + 2, .inl (kA 0, 12, .inl (fun _ => 0))), (u 9 + 1 + 3, .inl (kA 0, 12, .inl (fun _ => 0))), (u 9 + 1 + 4, .inl (kA 0, 12, .inl (fun _ => 0))), (u 9 + 1 + 5, .inl (kA 0, 12, .inl (fun _ => 0))), (u 9 + 1 + 6, .inl (kA 0, 12, .inl (fun _ => 0))), (u 9 + 1 + 7, .inl (kA 0, 12, .inl (fun _ => 0))), (u 9 + 1 + 8, .inl (kA 0, 12, .inl (fun _ => 0))), (u 9 + 1 + 9, .inl (kA 0, 12, .inl (fun _ => 0))), (u 9 + 1 + 10, .inl (kA 0, 12, .inl (fun _ => 0))), (u 9 + 1 + 11, .inl (kA 0, 12, .inl (fun _ => 0)))]) := by
  refine Met.ofW (cc := cX0_init) (maxL := 1) (ret := none) (by decide) rfl ?_
  intro p e s m args below meth c s₁ B hml hv
  obtain ⟨rfl, ⟨hsz, hP, hK, hD0, hX⟩, hk⟩ := hv
  subst hsz
  have hts := atoms_spec (ws := wsX0_init) B.pre
  have hl := lv_entry ([.ref h]) (n := 1) (Nat.le_of_ble_eq_true rfl)
  rw [lg_entry_eq]
  have hlocks := B.notSynchronized
  refine t_X0_init (A := va_A [(h, .inr (0, [.int 0, .int 0, .int 0, .int 0, .null, .null, .null, .null, .null, .null, .null, .null, .null, .null]))] s.heap.size) ⟨⟨B.exec, B.bytes, hml, findClass_of_methodNamed B.named, hts⟩, hK, fun q h => Or.inr h, hX⟩ hk (name_of_methodNamed B.named B.method).1 (fun u H locs ls pc hd w => ?_) ⟨hP, hD0.self, va_S.rf⟩ hl
  exact W.vret B.exec B.bytes B.returns (fun t ht hW => ⟨⟨u, rfl, trivial, by rw [ht]; exact w.1, va_K.moved hW.alike hK, w.2.1⟩, w.2.2.F ht⟩) w.2.2.2.2 hd hlocks
