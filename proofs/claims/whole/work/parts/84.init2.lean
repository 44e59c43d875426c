/-! Makers of Maker, Search. -/
abbrev rm_X2_init : Room := { frames := 2, cells := 3, slots := 27, locals := 40 }
set_option maxRecDepth 20000 in
theorem mX2_init_0 : Cond.methodLink RX2 3 objectInit ∈ wsX2_init := by decide +kernel
set_option maxRecDepth 20000 in
theorem mX2_init_1 : Cond.instanceMethod objectInit ∈ wsX2_init := by decide +kernel
set_option maxRecDepth 20000 in
theorem mX2_init_2 : Cond.code objectInit ⟨#[0xb1]⟩ 1 none ∈ wsX2_init := by decide +kernel
set_option maxRecDepth 20000 in
theorem lX2_init_X1 : ∀ w ∈ wsX10, w ∈ wsX2_init := by decide +kernel
set_option maxRecDepth 20000 in
theorem mX2_init_4 : Cond.classLink RX2 9 RX1 ∈ wsX2_init := by decide +kernel
set_option maxRecDepth 20000 in
theorem mX2_init_5 : Cond.instantiable RX1 3 ∈ wsX2_init := by decide +kernel
set_option maxRecDepth 20000 in
theorem mX2_init_6 : Cond.initialized RX1 ∈ wsX2_init := by decide +kernel
set_option maxRecDepth 20000 in
theorem mX2_init_7 : Cond.instanceMethod yX1_init ∈ wsX2_init := by decide +kernel
set_option maxRecDepth 20000 in
theorem mX2_init_8 : Cond.fieldLink RX2 12 "LockQuest$Maker" "drawing" "LLockQuest$Drawing;" ∈ wsX2_init := by decide +kernel
set_option maxRecDepth 20000 in
theorem lX2_init_X2 : ∀ w ∈ wsX20, w ∈ wsX2_init := by decide +kernel
set_option maxRecDepth 20000 in
theorem mX2_init_10 : Cond.arrayClass .boolean ∈ wsX2_init := by decide +kernel
set_option maxRecDepth 20000 in
theorem mX2_init_11 : Cond.fieldLink RX2 18 "LockQuest$Maker" "open" "[Z" ∈ wsX2_init := by decide +kernel
set_option maxRecDepth 20000 in
theorem mX2_init_12 : Cond.fieldLink RX2 22 "LockQuest$Maker" "made" "LLockQuest$Adventure;" ∈ wsX2_init := by decide +kernel
set_option maxHeartbeats 4000000 in
set_option maxRecDepth 100000 in
theorem t_X2_init {p : Program} {l : Launch} {e : Env} {s : State} {m : MethodId} {args : Array Value} {below : List Frame} {meth : Method} {c : Code} {Q : State → Prop} {D : va_G} {kA : Nat → ClassId} {A : Nat → Prop} {h : Nat} {b : Nat} (C : Cx p s m c args cX2_init 2 RX2 wsX2_init D kA A) (hk : Kn kA s) (hin : meth.name = "<init>") (hret : ∀ (u : Nat → Nat) (H : Heap) (locs : List Loc) (ls : Array Slot) (pc : Nat), decode cX2_init pc = .ok (.return_, 1) → Wd D A s H locs [(h, .inr (2, [.ref b, .ref (u 0), .ref (u 2)])), ((u 0), .inr (1, [.long 0, .int 0, .ref (u 1)])), (u 1, .inl (kA 0, 12, .inl (fun _ => 0))), (u 2, .inl (kA 2, 12, .inl (fun _ => 0)))] → W p l e rm_X2_init s m args below meth c H locs 3 27 Q (F0 m pc ls [])) {H : Heap} {locs : List Loc} {ls : Array Slot} (w : Wd D A s H locs [(h, .inr (2, [.null, .null, .null]))]) (hl : lv_has ls 2 [(0, .ref h), (1, .ref b)]) : W p l e rm_X2_init s m args below meth c H locs 0 0 Q (F0 m 0 ls []) := by
  obtain ⟨⟨hx, hb, hml, hown, hts⟩, hK, hA, -⟩ := id C
  refine lv_aload_n hx hb dX2_init_0 rfl (lv_at hl 0 rfl) ?_
  refine W.objInit hx hb hown (hts _ mX2_init_0) (hts _ mX2_init_1) (hts _ mX2_init_2) rfl (by rw [hml]; exact hl.1) rfl dX2_init_1 (Nat.le_of_ble_eq_true rfl) (Nat.le_of_ble_eq_true rfl) ?_
  refine W.eq (g2 := F0 m 4 ls []) rfl ?_
  refine lv_aload_n hx hb dX2_init_4 rfl (lv_at hl 0 rfl) ?_
  refine va_new (ci := 1) (fs := [.long 0, .int 0, .null]) (C := RX1) (T := TX1) (N := 3) hx hb hts lX2_init_X1 tyX1 tyX1_ok hown (hts _ mX2_init_4) (hts _ mX2_init_5) (hts _ mX2_init_6) hK w.1 w.2.1 w.2.2 hA rfl (fun j hj => by rcases (show j = 0 ∨ j = 1 ∨ j = 2 by omega) with rfl | rfl | rfl <;> rfl) (Nat.le_of_ble_eq_true rfl) (Nat.le_of_ble_eq_true rfl) dX2_init_5 (fun q1 H hP hD hS => ?_)
  have w : Wd D A s H locs [(h, .inr (2, [.null, .null, .null])), (q1, .inr (1, [.long 0, .int 0, .null]))] := ⟨hP, hD, hS⟩
  refine lv_dup hx hb dX2_init_8 rfl ?_
  refine gl_callN (wc := [(q1, .inr (1, [.long 0, .int 0, .null]))]) (wr := [(h, .inr (2, [.null, .null, .null]))]) C w [1] [0] rfl rfl (by decide) (by decide) (va_runIN (As := []) (rest := [.ref q1, .ref h]) ⟨hx, hb, hml, hown, hts⟩ (c_X1_init l D kA q1  H.size) ⟨va_cnB 0 hts gX2_init_X1_init_n11 rfl rfl rfl hk.2.2.1 (hts _ mX2_init_6) (by decide +kernel) ⟨Nat.le_of_ble_eq_true rfl, Nat.le_of_ble_eq_true rfl⟩, rfl, hts _ mX2_init_7⟩ (Wd.preN (wc := [(q1, .inr (1, [.long 0, .int 0, .null]))]) C w hk [1] rfl rfl (by decide)) rfl rfl hl.1 rfl (lv_room (Nat.le_of_ble_eq_true rfl)) dX2_init_9 ⟨Nat.le_of_ble_eq_true rfl, Nat.le_of_ble_eq_true rfl⟩) (fun u2 H locs w => ?_)
  have w : Wd D A s H locs [(h, .inr (2, [.null, .null, .null])), (q1, .inr (1, [.long 0, .int 0, .ref (u2 0)])), (u2 0, .inl (kA 0, 12, .inl (fun _ => 0)))] := w
  refine va_putF (D := D) (ci := 2) (v := .ref q1) (ty := (.object "LockQuest$Drawing")) (C := RX2) (T := TX2) (N := 3) hx hb hts lX2_init_X2 tyX2 tyX2_ok nmX2 hown hK w.1 w.2.1 w.2.2 0 rfl rfl 1 (by decide) (hts _ mX2_init_8) (fun _ h9 => h9) rfl hin rfl (by decide +kernel) rfl rfl (Nat.le_of_ble_eq_true rfl) dX2_init_12 (fun H locs hP hD hS => ?_)
  have w : Wd D A s H locs [(h, .inr (2, [.null, .ref q1, .null])), (q1, .inr (1, [.long 0, .int 0, .ref (u2 0)])), (u2 0, .inl (kA 0, 12, .inl (fun _ => 0)))] := ⟨hP, hD, hS⟩
  refine lv_aload_n hx hb dX2_init_15 rfl (lv_at hl 0 rfl) ?_
  refine lv_bipush (v := 12) hx hb dX2_init_16 (by decide) ?_
  refine gl_newa (atype := .boolean) (a0 := (12, .inl (fun _ => 0))) (N' := 12) C w 2 rfl (hts _ mX2_init_10) rfl (fun _ _ h9 => h9) (fun _ => rfl) (by decide) (by decide) (by decide) (Nat.le_of_ble_eq_true rfl) (Nat.le_of_ble_eq_true rfl) dX2_init_18 (fun q3 H w => ?_)
  have w : Wd D A s H locs [(h, .inr (2, [.null, .ref q1, .null])), (q1, .inr (1, [.long 0, .int 0, .ref (u2 0)])), (u2 0, .inl (kA 0, 12, .inl (fun _ => 0))), (q3, .inl (kA 2, 12, .inl (fun _ => 0)))] := w
  refine va_putF (D := D) (ci := 2) (v := .ref q3) (ty := (.array .boolean)) (C := RX2) (T := TX2) (N := 3) hx hb hts lX2_init_X2 tyX2 tyX2_ok nmX2 hown hK w.1 w.2.1 w.2.2 0 rfl rfl 2 (by decide) (hts _ mX2_init_11) (fun _ h9 => h9) rfl hin rfl (by decide +kernel) rfl rfl (Nat.le_of_ble_eq_true rfl) dX2_init_20 (fun H locs hP hD hS => ?_)
  have w : Wd D A s H locs [(h, .inr (2, [.null, .ref q1, .ref q3])), (q1, .inr (1, [.long 0, .int 0, .ref (u2 0)])), (u2 0, .inl (kA 0, 12, .inl (fun _ => 0))), (q3, .inl (kA 2, 12, .inl (fun _ => 0)))] := ⟨hP, hD, hS⟩
  refine lv_aload_n hx hb dX2_init_23 rfl (lv_at hl 0 rfl) ?_
  refine lv_aload_n hx hb dX2_init_24 rfl (lv_at hl 1 rfl) ?_
  refine va_putF (D := D) (ci := 2) (v := .ref b) (ty := (.object "LockQuest$Adventure")) (C := RX2) (T := TX2) (N := 3) hx hb hts lX2_init_X2 tyX2 tyX2_ok nmX2 hown hK w.1 w.2.1 w.2.2 0 rfl rfl 0 (by decide) (hts _ mX2_init_12) (fun _ h9 => h9) rfl hin rfl (by decide +kernel) rfl rfl (Nat.le_of_ble_eq_true rfl) dX2_init_25 (fun H locs hP hD hS => ?_)
  have w : Wd D A s H locs [(h, .inr (2, [.ref b, .ref q1, .ref q3])), (q1, .inr (1, [.long 0, .int 0, .ref (u2 0)])), (u2 0, .inl (kA 0, 12, .inl (fun _ => 0))), (q3, .inl (kA 2, 12, .inl (fun _ => 0)))] := ⟨hP, hD, hS⟩
  exact hret (fun i => [q1, u2 0, q3].getD i 0) H locs ls _ dX2_init_28 ⟨w.1.sub [0, 1, 2, 3] rfl, w.2.1.sub [0, 1, 2, 3] (by decide) rfl, w.2.2⟩
set_option maxHeartbeats 4000000 in
set_option maxRecDepth 100000 in
theorem c_X2_init (l : Launch) (D : va_G) (kA : Nat → ClassId) (h : Nat) (b : Nat) (sz : Nat) : Cn l yX2_init wsX2_init rm_X2_init D kA [.ref h, .ref b] sz [(h, .inr (2, [.null, .null, .null]))] 3 27 (fun u => [(h, .inr (2, [.ref b, .ref (u 0), .ref (u 2)])), ((u 0), .inr (1, [.long 0, .int 0, .ref (u 1)])), (u 1, .inl (kA 0, 12, .inl (fun _ => 0))), (u 2, .inl (kA 2, 12, .inl (fun _ => 0)))]) := by
  refine Met.ofW (cc := cX2_init) (maxL := 2) (ret := none) (by decide) rfl ?_
  intro p e s m args below meth c s₁ B hml hv
  obtain ⟨rfl, ⟨hsz, hP, hK, hD0, hX⟩, hk⟩ := hv
  subst hsz
  have hts := atoms_spec (ws := wsX2_init) B.pre
  have hl := lv_entry ([.ref h, .ref b]) (n := 2) (Nat.le_of_ble_eq_true rfl)
  rw [lg_entry_eq]
  have hlocks := B.notSynchronized
  refine t_X2_init (A := va_A [(h, .inr (2, [.null, .null, .null]))] s.heap.size) ⟨⟨B.exec, B.bytes, hml, findClass_of_methodNamed B.named, hts⟩, hK, fun q h => Or.inr h, hX⟩ hk (name_of_methodNamed B.named B.method).1 (fun u H locs ls pc hd w => ?_) ⟨hP, hD0.self, va_S.rf⟩ hl
  exact W.vret B.exec B.bytes B.returns (fun t ht hW => ⟨⟨u, rfl, trivial, by rw [ht]; exact w.1, va_K.moved hW.alike hK, w.2.1⟩, w.2.2.F ht⟩) w.2.2.2.2 hd hlocks
abbrev rm_X4_init : Room := { frames := 2, cells := 7, slots := 37250, locals := 40 }
set_option maxRecDepth 20000 in
theorem mX4_init_0 : Cond.methodLink RX4 3 objectInit ∈ wsX4_init := by decide +kernel
set_option maxRecDepth 20000 in
theorem mX4_init_1 : Cond.instanceMethod objectInit ∈ wsX4_init := by decide +kernel
set_option maxRecDepth 20000 in
theorem mX4_init_2 : Cond.code objectInit ⟨#[0xb1]⟩ 1 none ∈ wsX4_init := by decide +kernel
set_option maxRecDepth 20000 in
theorem lX4_init_X3 : ∀ w ∈ wsX30, w ∈ wsX4_init := by decide +kernel
set_option maxRecDepth 20000 in
theorem mX4_init_4 : Cond.classLink RX4 9 RX3 ∈ wsX4_init := by decide +kernel
set_option maxRecDepth 20000 in
theorem mX4_init_5 : Cond.instantiable RX3 1 ∈ wsX4_init := by decide +kernel
set_option maxRecDepth 20000 in
theorem mX4_init_6 : Cond.initialized RX3 ∈ wsX4_init := by decide +kernel
set_option maxRecDepth 20000 in
theorem mX4_init_7 : Cond.instanceMethod yX3_init ∈ wsX4_init := by decide +kernel
set_option maxRecDepth 20000 in
theorem mX4_init_8 : Cond.fieldLink RX4 12 "LockQuest$Search" "seen" "LLockQuest$Marks;" ∈ wsX4_init := by decide +kernel
set_option maxRecDepth 20000 in
theorem lX4_init_X4 : ∀ w ∈ wsX40, w ∈ wsX4_init := by decide +kernel
set_option maxRecDepth 20000 in
theorem mX4_init_10 : Cond.fieldLink RX4 18 "LockQuest$Search" "saved" "LLockQuest$Marks;" ∈ wsX4_init := by decide +kernel
set_option maxRecDepth 20000 in
theorem mX4_init_11 : Cond.arrayClass .int ∈ wsX4_init := by decide +kernel
set_option maxRecDepth 20000 in
theorem mX4_init_12 : Cond.fieldLink RX4 23 "LockQuest$Search" "found" "[I" ∈ wsX4_init := by decide +kernel
set_option maxRecDepth 20000 in
theorem mX4_init_13 : Cond.fieldLink RX4 27 "LockQuest$Search" "distance" "[I" ∈ wsX4_init := by decide +kernel
set_option maxRecDepth 20000 in
theorem mX4_init_14 : Cond.fieldLink RX4 30 "LockQuest$Search" "opening" "[I" ∈ wsX4_init := by decide +kernel
set_option maxRecDepth 20000 in
theorem mX4_init_15 : Cond.fieldLink RX4 33 "LockQuest$Search" "adventure" "LLockQuest$Adventure;" ∈ wsX4_init := by decide +kernel
set_option maxHeartbeats 4000000 in
set_option maxRecDepth 100000 in
theorem t_X4_init {p : Program} {l : Launch} {e : Env} {s : State} {m : MethodId} {args : Array Value} {below : List Frame} {meth : Method} {c : Code} {Q : State → Prop} {D : va_G} {kA : Nat → ClassId} {A : Nat → Prop} {h : Nat} {b : Nat} (C : Cx p s m c args cX4_init 2 RX4 wsX4_init D kA A) (hk : Kn kA s) (hin : meth.name = "<init>") (hret : ∀ (u : Nat → Nat) (H : Heap) (locs : List Loc) (ls : Array Slot) (pc : Nat), decode cX4_init pc = .ok (.return_, 1) → Wd D A s H locs [(h, .inr (4, [.ref b, .ref (u 0), .ref (u 2), .ref (u 4), .ref (u 5), .ref (u 6), .int 0])), ((u 0), .inr (3, [.ref (u 1)])), (u 1, .inl (kA 1, 192, .inr (.inl (fun _ => 0)))), ((u 2), .inr (3, [.ref (u 3)])), (u 3, .inl (kA 1, 192, .inr (.inl (fun _ => 0)))), (u 4, .inl (kA 0, 12288, .inl (fun _ => 0))), (u 5, .inl (kA 0, 12288, .inl (fun _ => 0))), (u 6, .inl (kA 0, 12288, .inl (fun _ => 0)))] → W p l e rm_X4_init s m args below meth c H locs 7 37250 Q (F0 m pc ls [])) {H : Heap} {locs : List Loc} {ls : Array Slot} (w : Wd D A s H locs [(h, .inr (4, [.null, .null, .null, .null, .null, .null, .int 0]))]) (hl : lv_has ls 2 [(0, .ref h), (1, .ref b)]) : W p l e rm_X4_init s m args below meth c H locs 0 0 Q (F0 m 0 ls []) := by
  obtain ⟨⟨hx, hb, hml, hown, hts⟩, hK, hA, -⟩ := id C
  refine lv_aload_n hx hb dX4_init_0 rfl (lv_at hl 0 rfl) ?_
  refine W.objInit hx hb hown (hts _ mX4_init_0) (hts _ mX4_init_1) (hts _ mX4_init_2) rfl (by rw [hml]; exact hl.1) rfl dX4_init_1 (Nat.le_of_ble_eq_true rfl) (Nat.le_of_ble_eq_true rfl) ?_
  refine W.eq (g2 := F0 m 4 ls []) rfl ?_
  refine lv_aload_n hx hb dX4_init_4 rfl (lv_at hl 0 rfl) ?_
  refine va_new (ci := 3) (fs := [.null]) (C := RX3) (T := TX3) (N := 1) hx hb hts lX4_init_X3 tyX3 tyX3_ok hown (hts _ mX4_init_4) (hts _ mX4_init_5) (hts _ mX4_init_6) hK w.1 w.2.1 w.2.2 hA rfl (fun j hj => by rcases (show j = 0 by omega) with rfl <;> rfl) (Nat.le_of_ble_eq_true rfl) (Nat.le_of_ble_eq_true rfl) dX4_init_5 (fun q1 H hP hD hS => ?_)
  have w : Wd D A s H locs [(h, .inr (4, [.null, .null, .null, .null, .null, .null, .int 0])), (q1, .inr (3, [.null]))] := ⟨hP, hD, hS⟩
  refine lv_dup hx hb dX4_init_8 rfl ?_
  refine gl_callN (wc := [(q1, .inr (3, [.null]))]) (wr := [(h, .inr (4, [.null, .null, .null, .null, .null, .null, .int 0]))]) C w [1] [0] rfl rfl (by decide) (by decide) (va_runIN (As := []) (rest := [.ref q1, .ref h]) ⟨hx, hb, hml, hown, hts⟩ (c_X3_init l D kA q1  H.size) ⟨va_cnB 0 hts gX4_init_X3_init_n11 rfl rfl rfl hk.2.2.2 (hts _ mX4_init_6) (by decide +kernel) ⟨Nat.le_of_ble_eq_true rfl, Nat.le_of_ble_eq_true rfl⟩, rfl, hts _ mX4_init_7⟩ (Wd.preN (wc := [(q1, .inr (3, [.null]))]) C w hk [1] rfl rfl (by decide)) rfl rfl hl.1 rfl (lv_room (Nat.le_of_ble_eq_true rfl)) dX4_init_9 ⟨Nat.le_of_ble_eq_true rfl, Nat.le_of_ble_eq_true rfl⟩) (fun u2 H locs w => ?_)
  have w : Wd D A s H locs [(h, .inr (4, [.null, .null, .null, .null, .null, .null, .int 0])), (q1, .inr (3, [.ref (u2 0)])), (u2 0, .inl (kA 1, 192, .inr (.inl (fun _ => 0))))] := w
  refine va_putF (D := D) (ci := 4) (v := .ref q1) (ty := (.object "LockQuest$Marks")) (C := RX4) (T := TX4) (N := 7) hx hb hts lX4_init_X4 tyX4 tyX4_ok nmX4 hown hK w.1 w.2.1 w.2.2 0 rfl rfl 1 (by decide) (hts _ mX4_init_8) (fun _ h9 => h9) rfl hin rfl (by decide +kernel) rfl rfl (Nat.le_of_ble_eq_true rfl) dX4_init_12 (fun H locs hP hD hS => ?_)
  have w : Wd D A s H locs [(h, .inr (4, [.null, .ref q1, .null, .null, .null, .null, .int 0])), (q1, .inr (3, [.ref (u2 0)])), (u2 0, .inl (kA 1, 192, .inr (.inl (fun _ => 0))))] := ⟨hP, hD, hS⟩
  refine lv_aload_n hx hb dX4_init_15 rfl (lv_at hl 0 rfl) ?_
  refine va_new (ci := 3) (fs := [.null]) (C := RX3) (T := TX3) (N := 1) hx hb hts lX4_init_X3 tyX3 tyX3_ok hown (hts _ mX4_init_4) (hts _ mX4_init_5) (hts _ mX4_init_6) hK w.1 w.2.1 w.2.2 hA rfl (fun j hj => by rcases (show j = 0 by omega) with rfl <;> rfl) (Nat.le_of_ble_eq_true rfl) (Nat.le_of_ble_eq_true rfl) dX4_init_16 (fun q3 H hP hD hS => ?_)
  have w : Wd D A s H locs [(h, .inr (4, [.null, .ref q1, .null, .null, .null, .null, .int 0])), (q1, .inr (3, [.ref (u2 0)])), (u2 0, .inl (kA 1, 192, .inr (.inl (fun _ => 0)))), (q3, .inr (3, [.null]))] := ⟨hP, hD, hS⟩
  refine lv_dup hx hb dX4_init_19 rfl ?_
  refine gl_callN (wc := [(q3, .inr (3, [.null]))]) (wr := [(h, .inr (4, [.null, .ref q1, .null, .null, .null, .null, .int 0])), (q1, .inr (3, [.ref (u2 0)])), (u2 0, .inl (kA 1, 192, .inr (.inl (fun _ => 0))))]) C w [3] [0, 1, 2] rfl rfl (by decide) (by decide) (va_runIN (As := []) (rest := [.ref q3, .ref h]) ⟨hx, hb, hml, hown, hts⟩ (c_X3_init l D kA q3  H.size) ⟨va_cnB 0 hts gX4_init_X3_init_n11 rfl rfl rfl hk.2.2.2 (hts _ mX4_init_6) (by decide +kernel) ⟨Nat.le_of_ble_eq_true rfl, Nat.le_of_ble_eq_true rfl⟩, rfl, hts _ mX4_init_7⟩ (Wd.preN (wc := [(q3, .inr (3, [.null]))]) C w hk [3] rfl rfl (by decide)) rfl rfl hl.1 rfl (lv_room (Nat.le_of_ble_eq_true rfl)) dX4_init_20 ⟨Nat.le_of_ble_eq_true rfl, Nat.le_of_ble_eq_true rfl⟩) (fun u4 H locs w => ?_)
  have w : Wd D A s H locs [(h, .inr (4, [.null, .ref q1, .null, .null, .null, .null, .int 0])), (q1, .inr (3, [.ref (u2 0)])), (u2 0, .inl (kA 1, 192, .inr (.inl (fun _ => 0)))), (q3, .inr (3, [.ref (u4 0)])), (u4 0, .inl (kA 1, 192, .inr (.inl (fun _ => 0))))] := w
  refine va_putF (D := D) (ci := 4) (v := .ref q3) (ty := (.object "LockQuest$Marks")) (C := RX4) (T := TX4) (N := 7) hx hb hts lX4_init_X4 tyX4 tyX4_ok nmX4 hown hK w.1 w.2.1 w.2.2 0 rfl rfl 2 (by decide) (hts _ mX4_init_10) (fun _ h9 => h9) rfl hin rfl (by decide +kernel) rfl rfl (Nat.le_of_ble_eq_true rfl) dX4_init_23 (fun H locs hP hD hS => ?_)
  have w : Wd D A s H locs [(h, .inr (4, [.null, .ref q1, .ref q3, .null, .null, .null, .int 0])), (q1, .inr (3, [.ref (u2 0)])), (u2 0, .inl (kA 1, 192, .inr (.inl (fun _ => 0)))), (q3, .inr (3, [.ref (u4 0)])), (u4 0, .inl (kA 1, 192, .inr (.inl (fun _ => 0))))] := ⟨hP, hD, hS⟩
  refine lv_aload_n hx hb dX4_init_26 rfl (lv_at hl 0 rfl) ?_
  refine lv_sipush (v := 12288) hx hb dX4_init_27 (by decide) ?_
  refine gl_newa (atype := .int) (a0 := (12288, .inl (fun _ => 0))) (N' := 12288) C w 0 rfl (hts _ mX4_init_11) rfl (fun _ _ h9 => h9) (fun _ => rfl) (by decide) (by decide) (by decide) (Nat.le_of_ble_eq_true rfl) (Nat.le_of_ble_eq_true rfl) dX4_init_30 (fun q5 H w => ?_)
  have w : Wd D A s H locs [(h, .inr (4, [.null, .ref q1, .ref q3, .null, .null, .null, .int 0])), (q1, .inr (3, [.ref (u2 0)])), (u2 0, .inl (kA 1, 192, .inr (.inl (fun _ => 0)))), (q3, .inr (3, [.ref (u4 0)])), (u4 0, .inl (kA 1, 192, .inr (.inl (fun _ => 0)))), (q5, .inl (kA 0, 12288, .inl (fun _ => 0)))] := w
  refine va_putF (D := D) (ci := 4) (v := .ref q5) (ty := (.array .int)) (C := RX4) (T := TX4) (N := 7) hx hb hts lX4_init_X4 tyX4 tyX4_ok nmX4 hown hK w.1 w.2.1 w.2.2 0 rfl rfl 3 (by decide) (hts _ mX4_init_12) (fun _ h9 => h9) rfl hin rfl (by decide +kernel) rfl rfl (Nat.le_of_ble_eq_true rfl) dX4_init_32 (fun H locs hP hD hS => ?_)
  have w : Wd D A s H locs [(h, .inr (4, [.null, .ref q1, .ref q3, .ref q5, .null, .null, .int 0])), (q1, .inr (3, [.ref (u2 0)])), (u2 0, .inl (kA 1, 192, .inr (.inl (fun _ => 0)))), (q3, .inr (3, [.ref (u4 0)])), (u4 0, .inl (kA 1, 192, .inr (.inl (fun _ => 0)))), (q5, .inl (kA 0, 12288, .inl (fun _ => 0)))] := ⟨hP, hD, hS⟩
  refine lv_aload_n hx hb dX4_init_35 rfl (lv_at hl 0 rfl) ?_
  refine lv_sipush (v := 12288) hx hb dX4_init_36 (by decide) ?_
  refine gl_newa (atype := .int) (a0 := (12288, .inl (fun _ => 0))) (N' := 12288) C w 0 rfl (hts _ mX4_init_11) rfl (fun _ _ h9 => h9) (fun _ => rfl) (by decide) (by decide) (by decide) (Nat.le_of_ble_eq_true rfl) (Nat.le_of_ble_eq_true rfl) dX4_init_39 (fun q6 H w => ?_)
  have w : Wd D A s H locs [(h, .inr (4, [.null, .ref q1, .ref q3, .ref q5, .null, .null, .int 0])), (q1, .inr (3, [.ref (u2 0)])), (u2 0, .inl (kA 1, 192, .inr (.inl (fun _ => 0)))), (q3, .inr (3, [.ref (u4 0)])), (u4 0, .inl (kA 1, 192, .inr (.inl (fun _ => 0)))), (q5, .inl (kA 0, 12288, .inl (fun _ => 0))), (q6, .inl (kA 0, 12288, .inl (fun _ => 0)))] := w
  refine va_putF (D := D) (ci := 4) (v := .ref q6) (ty := (.array .int)) (C := RX4) (T := TX4) (N := 7) hx hb hts lX4_init_X4 tyX4 tyX4_ok nmX4 hown hK w.1 w.2.1 w.2.2 0 rfl rfl 4 (by decide) (hts _ mX4_init_13) (fun _ h9 => h9) rfl hin rfl (by decide +kernel) rfl rfl (Nat.le_of_ble_eq_true rfl) dX4_init_41 (fun H locs hP hD hS => ?_)
  have w : Wd D A s H locs [(h, .inr (4, [.null, .ref q1, .ref q3, .ref q5, .ref q6, .null, .int 0])), (q1, .inr (3, [.ref (u2 0)])), (u2 0, .inl (kA 1, 192, .inr (.inl (fun _ => 0)))), (q3, .inr (3, [.ref (u4 0)])), (u4 0, .inl (kA 1, 192, .inr (.inl (fun _ => 0)))), (q5, .inl (kA 0, 12288, .inl (fun _ => 0))), (q6, .inl (kA 0, 12288, .inl (fun _ => 0)))] := ⟨hP, hD, hS⟩
  refine lv_aload_n hx hb dX4_init_44 rfl (lv_at hl 0 rfl) ?_
  refine lv_sipush (v := 12288) hx hb dX4_init_45 (by decide) ?_
  refine gl_newa (atype := .int) (a0 := (12288, .inl (fun _ => 0))) (N' := 12288) C w 0 rfl (hts _ mX4_init_11) rfl (fun _ _ h9 => h9) (fun _ => rfl) (by decide) (by decide) (by decide) (Nat.le_of_ble_eq_true rfl) (Nat.le_of_ble_eq_true rfl) dX4_init_48 (fun q7 H w => ?_)
  have w : Wd D A s H locs [(h, .inr (4, [.null, .ref q1, .ref q3, .ref q5, .ref q6, .null, .int 0])), (q1, .inr (3, [.ref (u2 0)])), (u2 0, .inl (kA 1, 192, .inr (.inl (fun _ => 0)))), (q3, .inr (3, [.ref (u4 0)])), (u4 0, .inl (kA 1, 192, .inr (.inl (fun _ => 0)))), (q5, .inl (kA 0, 12288, .inl (fun _ => 0))), (q6, .inl (kA 0, 12288, .inl (fun _ => 0))), (q7, .inl (kA 0, 12288, .inl (fun _ => 0)))] := w
  refine va_putF (D := D) (ci := 4) (v := .ref q7) (ty := (.array .int)) (C := RX4) (T := TX4) (N := 7) hx hb hts lX4_init_X4 tyX4 tyX4_ok nmX4 hown hK w.1 w.2.1 w.2.2 0 rfl rfl 5 (by decide) (hts _ mX4_init_14) (fun _ h9 => h9) rfl hin rfl (by decide +kernel) rfl rfl (Nat.le_of_ble_eq_true rfl) dX4_init_50 (fun H locs hP hD hS => ?_)
  have w : Wd D A s H locs [(h, .inr (4, [.null, .ref q1, .ref q3, .ref q5, .ref q6, .ref q7, .int 0])), (q1, .inr (3, [.ref (u2 0)])), (u2 0, .inl (kA 1, 192, .inr (.inl (fun _ => 0)))), (q3, .inr (3, [.ref (u4 0)])), (u4 0, .inl (kA 1, 192, .inr (.inl (fun _ => 0)))), (q5, .inl (kA 0, 12288, .inl (fun _ => 0))), (q6, .inl (kA 0, 12288, .inl (fun _ => 0))), (q7, .inl (kA 0, 12288, .inl (fun _ => 0)))] := ⟨hP, hD, hS⟩
  refine lv_aload_n hx hb dX4_init_53 rfl (lv_at hl 0 rfl) ?_
  refine lv_aload_n hx hb dX4_init_54 rfl (lv_at hl 1 rfl) ?_
  refine va_putF (D := D) (ci := 4) (v := .ref b) (ty := (.object "LockQuest$Adventure")) (C := RX4) (T := TX4) (N := 7) hx hb hts lX4_init_X4 tyX4 tyX4_ok nmX4 hown hK w.1 w.2.1 w.2.2 0 rfl rfl 0 (by decide) (hts _ mX4_init_15) (fun _ h9 => h9) rfl hin rfl (by decide +kernel) rfl rfl (Nat.le_of_ble_eq_true rfl) dX4_init_55 (fun H locs hP hD hS => ?_)
  have w : Wd D A s H locs [(h, .inr (4, [.ref b, .ref q1, .ref q3, .ref q5, .ref q6, .ref q7, .int 0])), (q1, .inr (3, [.ref (u2 0)])), (u2 0, .inl (kA 1, 192, .inr (.inl (fun _ => 0)))), (q3, .inr (3, [.ref (u4 0)])), (u4 0, .inl (kA 1, 192, .inr (.inl (fun _ => 0)))), (q5, .inl (kA 0, 12288, .inl (fun _ => 0))), (q6, .inl (kA 0, 12288, .inl (fun _ => 0))), (q7, .inl (kA 0, 12288, .inl (fun _ => 0)))] := ⟨hP, hD, hS⟩
  exact hret (fun i => [q1, u2 0, q3, u4 0, q5, q6, q7].getD i 0) H locs ls _ dX4_init_58 ⟨w.1.sub [0, 1, 2, 3, 4, 5, 6, 7] rfl, w.2.1.sub [0, 1, 2, 3, 4, 5, 6, 7] (by decide) rfl, w.2.2⟩
set_option maxHeartbeats 4000000 in
set_option maxRecDepth 100000 in
theorem c_X4_init (l : Launch) (D : va_G) (kA : Nat → ClassId) (h : Nat) (b : Nat) (sz : Nat) : Cn l yX4_init wsX4_init rm_X4_init D kA [.ref h, .ref b] sz [(h, .inr (4, [.null, .null, .null, .null, .null, .null, .int 0]))] 7 37250 (fun u => [(h, .inr (4, [.ref b, .ref (u 0), .ref (u 2), .ref (u 4), .ref (u 5), .ref (u 6), .int 0])), ((u 0), .inr (3, [.ref (u 1)])), (u 1, .inl (kA 1, 192, .inr (.inl (fun _ => 0)))), ((u 2), .inr (3, [.ref (u 3)])), (u 3, .inl (kA 1, 192, .inr (.inl (fun _ => 0)))), (u 4, .inl (kA 0, 12288, .inl (fun _ => 0))), (u 5, .inl (kA 0, 12288, .inl (fun _ => 0))), (u 6, .inl (kA 0, 12288, .inl (fun _ => 0)))]) := by
  refine Met.ofW (cc := cX4_init) (maxL := 2) (ret := none) (by decide) rfl ?_
  intro p e s m args below meth c s₁ B hml hv
  obtain ⟨rfl, ⟨hsz, hP, hK, hD0, hX⟩, hk⟩ := hv
  subst hsz
  have hts := atoms_spec (ws := wsX4_init) B.pre
  have hl := lv_entry ([.ref h, .ref b]) (n := 2) (Nat.le_of_ble_eq_true rfl)
  rw [lg_entry_eq]
  have hlocks := B.notSynchronized
  refine t_X4_init (A := va_A [(h, .inr (4, [.null, .null, .null, .null, .null, .null, .int 0]))] s.heap.size) ⟨⟨B.exec, B.bytes, hml, findClass_of_methodNamed B.named, hts⟩, hK, fun q h => Or.inr h, hX⟩ hk (name_of_methodNamed B.named B.method).1 (fun u H locs ls pc hd w => ?_) ⟨hP, hD0.self, va_S.rf⟩ hl
  exact W.vret B.exec B.bytes B.returns (fun t ht hW => ⟨⟨u, rfl, trivial, by rw [ht]; exact w.1, va_K.moved hW.alike hK, w.2.1⟩, w.2.2.F ht⟩) w.2.2.2.2 hd hlocks
