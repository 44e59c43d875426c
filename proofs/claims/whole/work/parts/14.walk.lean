-- ('wC', 'LockQuest$Maker', 'mayLoop', '(II)Z', ('mk', None, None))
abbrev rm_X2_mayLoop : Room := { frames := 1, cells := 0, slots := 0, locals := 21 }
set_option maxRecDepth 20000 in
theorem lX2_mayLoop_X2 : ∀ w ∈ wsX20, w ∈ wsX2_mayLoop := by decide +kernel
set_option maxRecDepth 20000 in
theorem mX2_mayLoop_1 : Cond.fieldLink RX2 22 "LockQuest$Maker" "made" "LLockQuest$Adventure;" ∈ wsX2_mayLoop := by decide +kernel
set_option maxRecDepth 20000 in
theorem lX2_mayLoop_X0 : ∀ w ∈ wsX00, w ∈ wsX2_mayLoop := by decide +kernel
set_option maxRecDepth 20000 in
theorem mX2_mayLoop_3 : Cond.fieldLink RX2 149 "LockQuest$Adventure" "x" "[I" ∈ wsX2_mayLoop := by decide +kernel
set_option maxRecDepth 20000 in
theorem mX2_mayLoop_4 : Cond.methodLink RX2 173 Lib.Math.abs.name ∈ wsX2_mayLoop := by decide +kernel
set_option maxRecDepth 20000 in
theorem mX2_mayLoop_5 : Cond.static Lib.Math.abs.name ∈ wsX2_mayLoop := by decide +kernel
set_option maxRecDepth 20000 in
theorem mX2_mayLoop_6 : Cond.initialized "java/lang/Math" ∈ wsX2_mayLoop := by decide +kernel
set_option maxRecDepth 20000 in
theorem mX2_mayLoop_7 : Cond.code Lib.Math.abs.name Lib.Math.abs.code 1 (some .int) ∈ wsX2_mayLoop := by decide +kernel
set_option maxRecDepth 20000 in
theorem mX2_mayLoop_8 : Cond.fieldLink RX2 152 "LockQuest$Adventure" "y" "[I" ∈ wsX2_mayLoop := by decide +kernel
set_option maxRecDepth 20000 in
theorem mX2_mayLoop_9 : Cond.fieldLink RX2 101 "LockQuest$Adventure" "level" "[I" ∈ wsX2_mayLoop := by decide +kernel
set_option maxRecDepth 20000 in
theorem mX2_mayLoop_10 : Cond.fieldLink RX2 98 "LockQuest$Adventure" "parent" "[I" ∈ wsX2_mayLoop := by decide +kernel
def f_X2_mayLoop (p0 : Int32) (p1 : Int32) (parent : Nat → Int32) (level : Nat → Int32) (xx : Nat → Int32) (yy : Nat → Int32) : Option (Int32) := gd (p0 < 0 ∨ 12 ≤ p0.toNatClampNeg) (gd (p1 < 0 ∨ 12 ≤ p1.toNatClampNeg) (gd (p0 < 0 ∨ 12 ≤ p0.toNatClampNeg) (gd (p1 < 0 ∨ 12 ≤ p1.toNatClampNeg) (if ((if 0 ≤ ((xx p0.toNatClampNeg) - (xx p1.toNatClampNeg)) then ((xx p0.toNatClampNeg) - (xx p1.toNatClampNeg)) else 0 - ((xx p0.toNatClampNeg) - (xx p1.toNatClampNeg))) + (if 0 ≤ ((yy p0.toNatClampNeg) - (yy p1.toNatClampNeg)) then ((yy p0.toNatClampNeg) - (yy p1.toNatClampNeg)) else 0 - ((yy p0.toNatClampNeg) - (yy p1.toNatClampNeg)))) = (1 : Int32) then (gd (p0 < 0 ∨ 12 ≤ p0.toNatClampNeg) (gd (p1 < 0 ∨ 12 ≤ p1.toNatClampNeg) (if (level p0.toNatClampNeg) = (level p1.toNatClampNeg) then (gd (p0 < 0 ∨ 12 ≤ p0.toNatClampNeg) (if (parent p0.toNatClampNeg) = p1 then (some (0 : Int32)) else (some (1 : Int32)))) else (some (0 : Int32))))) else (some (0 : Int32))))))
set_option maxHeartbeats 4000000 in
set_option maxRecDepth 100000 in
theorem t_X2_mayLoop {p : Program} {l : Launch} {e : Env} {s : State} {m : MethodId} {args : Array Value} {below : List Frame} {meth : Method} {c : Code} {Q : State → Prop} {D : va_G} {kA : Nat → ClassId} {ad : Nat → Nat} {A : Nat → Prop} {lq_situation : Int32} {adv_rooms : Int32} {adv_levels : Int32} {adv_goalRoom : Int32} {adv_allDoors : Int32} {dr_state : Int64} {dr_count : Int32} {se_count : Int32} {parent : Nat → Int32} {level : Nat → Int32} {kind : Nat → Int32} {snum : Nat → Int32} {xx : Nat → Int32} {yy : Nat → Int32} {lying : Nat → Int32} {switched : Nat → Int32} {doors : Nat → Int32} {beyond : Nat → Nat → Int32} {offered : Nat → Int32} {opn : Nat → Int32} {seenb : Nat → Int64} {savedb : Nat → Int64} {found : Nat → Int32} {distance : Nat → Int32} {opening : Nat → Int32} {p0 : Int32} {p1 : Int32} {res : Int32} (C : Cx p s m c args cX2_mayLoop 4 RX2 wsX2_mayLoop D kA A) (hret : ∀ (r : Int32) (H : Heap) (locs : List Loc) (ls : Array Slot) (pc : Nat), decode cX2_mayLoop pc = .ok (.ireturn, 1) → narrow .boolean (.int r) = .int r → Wd D A s H locs (wC kA ad lq_situation adv_rooms adv_levels adv_goalRoom adv_allDoors dr_state dr_count se_count parent level kind snum xx yy lying switched doors beyond offered opn seenb savedb found distance opening) → r = res → W p l e rm_X2_mayLoop s m args below meth c H locs 0 0 Q (F0 m pc ls [.int r])) {H : Heap} {locs : List Loc} {ls : Array Slot} (w : Wd D A s H locs (wC kA ad lq_situation adv_rooms adv_levels adv_goalRoom adv_allDoors dr_state dr_count se_count parent level kind snum xx yy lying switched doors beyond offered opn seenb savedb found distance opening)) (hl : lv_has ls 4 [(0, .ref (ad 2)), (1, .int p0), (2, .int p1)]) (h : f_X2_mayLoop p0 p1 parent level xx yy = some res) : W p l e rm_X2_mayLoop s m args below meth c H locs 0 0 Q (F0 m 0 ls []) := by
  obtain ⟨⟨hx, hb, hml, hown, hts⟩, hK, -, -⟩ := id C
  unfold f_X2_mayLoop at h
  refine lv_aload_n hx hb dX2_mayLoop_0 rfl (lv_at hl 0 rfl) ?_
  refine va_get (D := D) (ci := 2) (v := .ref (ad 1)) (C := RX2) (T := TX2) (N := 3) hx hb hts lX2_mayLoop_X2 hown hK w.1 2 rfl rfl 0 (by decide) (hts _ mX2_mayLoop_1) (fun _ h9 => h9) rfl dX2_mayLoop_1 ?_
  refine va_get (D := D) (ci := 0) (v := .ref (ad 11)) (C := RX0) (T := TX0) (N := 14) hx hb hts lX2_mayLoop_X0 hown hK w.1 1 rfl rfl 8 (by decide) (hts _ mX2_mayLoop_3) (fun _ h9 => h9) rfl dX2_mayLoop_4 ?_
  refine lv_iload_n hx hb dX2_mayLoop_7 rfl (lv_at hl 1 rfl) ?_
  obtain ⟨g1, h⟩ := gd_some h
  refine va_iald hx hb hK w.1 11 0 rfl rfl g1 dX2_mayLoop_8 ?_
  refine lv_aload_n hx hb dX2_mayLoop_9 rfl (lv_at hl 0 rfl) ?_
  refine va_get (D := D) (ci := 2) (v := .ref (ad 1)) (C := RX2) (T := TX2) (N := 3) hx hb hts lX2_mayLoop_X2 hown hK w.1 2 rfl rfl 0 (by decide) (hts _ mX2_mayLoop_1) (fun _ h9 => h9) rfl dX2_mayLoop_10 ?_
  refine va_get (D := D) (ci := 0) (v := .ref (ad 11)) (C := RX0) (T := TX0) (N := 14) hx hb hts lX2_mayLoop_X0 hown hK w.1 1 rfl rfl 8 (by decide) (hts _ mX2_mayLoop_3) (fun _ h9 => h9) rfl dX2_mayLoop_13 ?_
  refine lv_iload_n hx hb dX2_mayLoop_16 rfl (lv_at hl 2 rfl) ?_
  obtain ⟨g2, h⟩ := gd_some h
  refine va_iald hx hb hK w.1 11 0 rfl rfl g2 dX2_mayLoop_17 ?_
  refine lv_isub hx hb dX2_mayLoop_18 ?_
  refine va_mabs hx hb (hml.trans hl.1.symm) hown (hts _ mX2_mayLoop_4) (hts _ mX2_mayLoop_5) (hts _ mX2_mayLoop_6) (hts _ mX2_mayLoop_7) (Nat.le_of_ble_eq_true rfl) (Nat.le_of_ble_eq_true rfl) (Nat.zero_le _) (Nat.zero_le _) dX2_mayLoop_19 ?_
  refine lv_aload_n hx hb dX2_mayLoop_22 rfl (lv_at hl 0 rfl) ?_
  refine va_get (D := D) (ci := 2) (v := .ref (ad 1)) (C := RX2) (T := TX2) (N := 3) hx hb hts lX2_mayLoop_X2 hown hK w.1 2 rfl rfl 0 (by decide) (hts _ mX2_mayLoop_1) (fun _ h9 => h9) rfl dX2_mayLoop_23 ?_
  refine va_get (D := D) (ci := 0) (v := .ref (ad 12)) (C := RX0) (T := TX0) (N := 14) hx hb hts lX2_mayLoop_X0 hown hK w.1 1 rfl rfl 9 (by decide) (hts _ mX2_mayLoop_8) (fun _ h9 => h9) rfl dX2_mayLoop_26 ?_
  refine lv_iload_n hx hb dX2_mayLoop_29 rfl (lv_at hl 1 rfl) ?_
  obtain ⟨g3, h⟩ := gd_some h
  refine va_iald hx hb hK w.1 12 0 rfl rfl g3 dX2_mayLoop_30 ?_
  refine lv_aload_n hx hb dX2_mayLoop_31 rfl (lv_at hl 0 rfl) ?_
  refine va_get (D := D) (ci := 2) (v := .ref (ad 1)) (C := RX2) (T := TX2) (N := 3) hx hb hts lX2_mayLoop_X2 hown hK w.1 2 rfl rfl 0 (by decide) (hts _ mX2_mayLoop_1) (fun _ h9 => h9) rfl dX2_mayLoop_32 ?_
  refine va_get (D := D) (ci := 0) (v := .ref (ad 12)) (C := RX0) (T := TX0) (N := 14) hx hb hts lX2_mayLoop_X0 hown hK w.1 1 rfl rfl 9 (by decide) (hts _ mX2_mayLoop_8) (fun _ h9 => h9) rfl dX2_mayLoop_35 ?_
  refine lv_iload_n hx hb dX2_mayLoop_38 rfl (lv_at hl 2 rfl) ?_
  obtain ⟨g4, h⟩ := gd_some h
  refine va_iald hx hb hK w.1 12 0 rfl rfl g4 dX2_mayLoop_39 ?_
  refine lv_isub hx hb dX2_mayLoop_40 ?_
  refine va_mabs hx hb (hml.trans hl.1.symm) hown (hts _ mX2_mayLoop_4) (hts _ mX2_mayLoop_5) (hts _ mX2_mayLoop_6) (hts _ mX2_mayLoop_7) (Nat.le_of_ble_eq_true rfl) (Nat.le_of_ble_eq_true rfl) (Nat.zero_le _) (Nat.zero_le _) dX2_mayLoop_41 ?_
  refine lv_iadd hx hb dX2_mayLoop_44 ?_
  refine lv_istore_n (lv' := [(3, .int ((if 0 ≤ ((xx p0.toNatClampNeg) - (xx p1.toNatClampNeg)) then ((xx p0.toNatClampNeg) - (xx p1.toNatClampNeg)) else 0 - ((xx p0.toNatClampNeg) - (xx p1.toNatClampNeg))) + (if 0 ≤ ((yy p0.toNatClampNeg) - (yy p1.toNatClampNeg)) then ((yy p0.toNatClampNeg) - (yy p1.toNatClampNeg)) else 0 - ((yy p0.toNatClampNeg) - (yy p1.toNatClampNeg))))), (0, .ref (ad 2)), (1, .int p0), (2, .int p1)]) hx hb dX2_mayLoop_45 rfl hl (by decide) rfl (fun ls hl => ?_)
  refine lv_iload_n hx hb dX2_mayLoop_46 rfl (lv_at hl 0 rfl) ?_
  refine lv_iconst (v := 1) hx hb dX2_mayLoop_47 (by decide) ?_
  refine lv_icmp_ne (tgt := 89) hx hb dX2_mayLoop_48 (by decide) (fun g5 => ?_) (fun g5 => ?_)
  · replace h := it_neg g5 h
    refine lv_iconst (v := 0) hx hb dX2_mayLoop_89 (by decide) ?_
    exact hret _ _ _ _ _ dX2_mayLoop_90 rfl w (Option.some.inj h)
  · replace h := it_pos g5 h
    refine lv_aload_n hx hb dX2_mayLoop_51 rfl (lv_at hl 1 rfl) ?_
    refine va_get (D := D) (ci := 2) (v := .ref (ad 1)) (C := RX2) (T := TX2) (N := 3) hx hb hts lX2_mayLoop_X2 hown hK w.1 2 rfl rfl 0 (by decide) (hts _ mX2_mayLoop_1) (fun _ h9 => h9) rfl dX2_mayLoop_52 ?_
    refine va_get (D := D) (ci := 0) (v := .ref (ad 8)) (C := RX0) (T := TX0) (N := 14) hx hb hts lX2_mayLoop_X0 hown hK w.1 1 rfl rfl 5 (by decide) (hts _ mX2_mayLoop_9) (fun _ h9 => h9) rfl dX2_mayLoop_55 ?_
    refine lv_iload_n hx hb dX2_mayLoop_58 rfl (lv_at hl 2 rfl) ?_
    obtain ⟨g6, h⟩ := gd_some h
    refine va_iald hx hb hK w.1 8 0 rfl rfl g6 dX2_mayLoop_59 ?_
    refine lv_aload_n hx hb dX2_mayLoop_60 rfl (lv_at hl 1 rfl) ?_
    refine va_get (D := D) (ci := 2) (v := .ref (ad 1)) (C := RX2) (T := TX2) (N := 3) hx hb hts lX2_mayLoop_X2 hown hK w.1 2 rfl rfl 0 (by decide) (hts _ mX2_mayLoop_1) (fun _ h9 => h9) rfl dX2_mayLoop_61 ?_
    refine va_get (D := D) (ci := 0) (v := .ref (ad 8)) (C := RX0) (T := TX0) (N := 14) hx hb hts lX2_mayLoop_X0 hown hK w.1 1 rfl rfl 5 (by decide) (hts _ mX2_mayLoop_9) (fun _ h9 => h9) rfl dX2_mayLoop_64 ?_
    refine lv_iload_n hx hb dX2_mayLoop_67 rfl (lv_at hl 3 rfl) ?_
    obtain ⟨g7, h⟩ := gd_some h
    refine va_iald hx hb hK w.1 8 0 rfl rfl g7 dX2_mayLoop_68 ?_
    refine lv_icmp_ne (tgt := 89) hx hb dX2_mayLoop_69 (by decide) (fun g8 => ?_) (fun g8 => ?_)
    · replace h := it_neg g8 h
      refine lv_iconst (v := 0) hx hb dX2_mayLoop_89 (by decide) ?_
      exact hret _ _ _ _ _ dX2_mayLoop_90 rfl w (Option.some.inj h)
    · replace h := it_pos g8 h
      refine lv_aload_n hx hb dX2_mayLoop_72 rfl (lv_at hl 1 rfl) ?_
      refine va_get (D := D) (ci := 2) (v := .ref (ad 1)) (C := RX2) (T := TX2) (N := 3) hx hb hts lX2_mayLoop_X2 hown hK w.1 2 rfl rfl 0 (by decide) (hts _ mX2_mayLoop_1) (fun _ h9 => h9) rfl dX2_mayLoop_73 ?_
      refine va_get (D := D) (ci := 0) (v := .ref (ad 7)) (C := RX0) (T := TX0) (N := 14) hx hb hts lX2_mayLoop_X0 hown hK w.1 1 rfl rfl 4 (by decide) (hts _ mX2_mayLoop_10) (fun _ h9 => h9) rfl dX2_mayLoop_76 ?_
      refine lv_iload_n hx hb dX2_mayLoop_79 rfl (lv_at hl 2 rfl) ?_
      obtain ⟨g9, h⟩ := gd_some h
      refine va_iald hx hb hK w.1 7 0 rfl rfl g9 dX2_mayLoop_80 ?_
      refine lv_iload_n hx hb dX2_mayLoop_81 rfl (lv_at hl 3 rfl) ?_
      refine lv_icmp_eq (tgt := 89) hx hb dX2_mayLoop_82 (by decide) (fun g10 => ?_) (fun g10 => ?_)
      · replace h := it_pos g10 h
        refine lv_iconst (v := 0) hx hb dX2_mayLoop_89 (by decide) ?_
        exact hret _ _ _ _ _ dX2_mayLoop_90 rfl w (Option.some.inj h)
      · replace h := it_neg g10 h
        refine lv_iconst (v := 1) hx hb dX2_mayLoop_85 (by decide) ?_
        refine lv_goto (tgt := 90) hx hb dX2_mayLoop_86 (by decide) ?_
        exact hret _ _ _ _ _ dX2_mayLoop_90 rfl w (Option.some.inj h)
set_option maxHeartbeats 4000000 in
set_option maxRecDepth 100000 in
theorem c_X2_mayLoop (l : Launch) (D : va_G) (kA : Nat → ClassId) (ad : Nat → Nat) (sz : Nat) (lq_situation : Int32) (adv_rooms : Int32) (adv_levels : Int32) (adv_goalRoom : Int32) (adv_allDoors : Int32) (dr_state : Int64) (dr_count : Int32) (se_count : Int32) (parent : Nat → Int32) (level : Nat → Int32) (kind : Nat → Int32) (snum : Nat → Int32) (xx : Nat → Int32) (yy : Nat → Int32) (lying : Nat → Int32) (switched : Nat → Int32) (doors : Nat → Int32) (beyond : Nat → Nat → Int32) (offered : Nat → Int32) (opn : Nat → Int32) (seenb : Nat → Int64) (savedb : Nat → Int64) (found : Nat → Int32) (distance : Nat → Int32) (opening : Nat → Int32) (p0 : Int32) (p1 : Int32) {res : Int32} (h : f_X2_mayLoop p0 p1 parent level xx yy = some res) : Ci l yX2_mayLoop wsX2_mayLoop rm_X2_mayLoop D kA [.ref (ad 2), .int p0, .int p1] sz (wC kA ad lq_situation adv_rooms adv_levels adv_goalRoom adv_allDoors dr_state dr_count se_count parent level kind snum xx yy lying switched doors beyond offered opn seenb savedb found distance opening) (wC kA ad lq_situation adv_rooms adv_levels adv_goalRoom adv_allDoors dr_state dr_count se_count parent level kind snum xx yy lying switched doors beyond offered opn seenb savedb found distance opening) res := by
  refine Met.ofW (cc := cX2_mayLoop) (maxL := 4) (ret := (some .boolean)) (by decide) rfl ?_
  intro p e s m args below meth c s₁ B hml hv
  obtain ⟨rfl, hsz, hP, hK, hD0, hX⟩ := hv
  subst hsz
  have hts := atoms_spec (ws := wsX2_mayLoop) B.pre
  have hl := lv_entry ([.ref (ad 2), .int p0, .int p1]) (n := 4) (Nat.le_of_ble_eq_true rfl)
  rw [lg_entry_eq]
  have hlocks := B.notSynchronized
  refine t_X2_mayLoop (A := va_A (wC kA ad lq_situation adv_rooms adv_levels adv_goalRoom adv_allDoors dr_state dr_count se_count parent level kind snum xx yy lying switched doors beyond offered opn seenb savedb found distance opening) s.heap.size) ⟨⟨B.exec, B.bytes, hml, findClass_of_methodNamed B.named, hts⟩, hK, fun q h => Or.inr h, hX⟩ (fun r H locs ls pc hd hz w hres => ?_) ⟨hP, hD0.self, va_S.rf⟩ hl h
  subst hres
  exact W.zret B.exec B.bytes B.returns hz (fun t ht hW => ⟨⟨_, (), rfl, rfl, by rw [ht]; exact w.1, va_K.moved hW.alike hK, w.2.1⟩, w.2.2.F ht⟩) w.2.2.2.2 hd hlocks
-- ('wC', 'LockQuest$Maker', 'joinLoops', '()V', ('mk',))
abbrev rm_X2_joinLoops : Room := { frames := 2, cells := 0, slots := 0, locals := 44 }
set_option maxRecDepth 20000 in
theorem lX2_joinLoops_X2 : ∀ w ∈ wsX20, w ∈ wsX2_joinLoops := by decide +kernel
set_option maxRecDepth 20000 in
theorem mX2_joinLoops_1 : Cond.fieldLink RX2 22 "LockQuest$Maker" "made" "LLockQuest$Adventure;" ∈ wsX2_joinLoops := by decide +kernel
set_option maxRecDepth 20000 in
theorem lX2_joinLoops_X0 : ∀ w ∈ wsX00, w ∈ wsX2_joinLoops := by decide +kernel
set_option maxRecDepth 20000 in
theorem mX2_joinLoops_3 : Cond.fieldLink RX2 33 "LockQuest$Adventure" "rooms" "I" ∈ wsX2_joinLoops := by decide +kernel
set_option maxRecDepth 20000 in
theorem mX2_joinLoops_4 : Cond.fieldLink RX2 12 "LockQuest$Maker" "drawing" "LLockQuest$Drawing;" ∈ wsX2_joinLoops := by decide +kernel
def f_X2_joinLoops_46 (adv_rooms : Int32) (parent : Nat → Int32) (level : Nat → Int32) (xx : Nat → Int32) (yy : Nat → Int32) (k2 : Int32 → Int32 → Int64 → (Nat → Int32) → (Nat → Nat → Int32) → Option (Int32 × Int64 × (Nat → Int32) × (Nat → Nat → Int32))) (k15 : Int32 → Int32 → Int32 → Int64 → (Nat → Int32) → (Nat → Nat → Int32) → Option (Int32 × Int64 × (Nat → Int32) × (Nat → Nat → Int32))) (x1 : Int32) (x2 : Int32) (adv_allDoors : Int32) (dr_state : Int64) (doors : Nat → Int32) (beyond : Nat → Nat → Int32) : Option (Int32 × Int64 × (Nat → Int32) × (Nat → Nat → Int32)) := k15 x1 (x2 + (1 : Int32)) adv_allDoors dr_state doors beyond
set_option maxHeartbeats 4000000 in
set_option maxRecDepth 100000 in
theorem t_X2_joinLoops_46 {p : Program} {l : Launch} {e : Env} {s : State} {m : MethodId} {args : Array Value} {below : List Frame} {meth : Method} {c : Code} {Q : State → Prop} {D : va_G} {kA : Nat → ClassId} {ad : Nat → Nat} {A : Nat → Prop} {lq_situation : Int32} {adv_rooms : Int32} {adv_levels : Int32} {adv_goalRoom : Int32} {adv_allDoors : Int32} {dr_state : Int64} {dr_count : Int32} {se_count : Int32} {parent : Nat → Int32} {level : Nat → Int32} {kind : Nat → Int32} {snum : Nat → Int32} {xx : Nat → Int32} {yy : Nat → Int32} {lying : Nat → Int32} {switched : Nat → Int32} {doors : Nat → Int32} {beyond : Nat → Nat → Int32} {offered : Nat → Int32} {opn : Nat → Int32} {seenb : Nat → Int64} {savedb : Nat → Int64} {found : Nat → Int32} {distance : Nat → Int32} {opening : Nat → Int32} {x1 : Int32} {x2 : Int32} {k2 : Int32 → Int32 → Int64 → (Nat → Int32) → (Nat → Nat → Int32) → Option (Int32 × Int64 × (Nat → Int32) × (Nat → Nat → Int32))} {k15 : Int32 → Int32 → Int32 → Int64 → (Nat → Int32) → (Nat → Nat → Int32) → Option (Int32 × Int64 × (Nat → Int32) × (Nat → Nat → Int32))} {res : Int32 × Int64 × (Nat → Int32) × (Nat → Nat → Int32)} (C : Cx p s m c args cX2_joinLoops 3 RX2 wsX2_joinLoops D kA A) (hk2 : ∀ (x1 : Int32) (adv_allDoors : Int32) (dr_state : Int64) (doors : Nat → Int32) (beyond : Nat → Nat → Int32) (H : Heap) (locs : List Loc) (ls : Array Slot), Wd D A s H locs (wC kA ad lq_situation adv_rooms adv_levels adv_goalRoom adv_allDoors dr_state dr_count se_count parent level kind snum xx yy lying switched doors beyond offered opn seenb savedb found distance opening) → lv_has ls 3 [(0, .ref (ad 2)), (1, .int x1)] → k2 x1 adv_allDoors dr_state doors beyond = some res → W p l e rm_X2_joinLoops s m args below meth c H locs 0 0 Q (F0 m 2 ls [])) (hk15 : ∀ (x1 : Int32) (x2 : Int32) (adv_allDoors : Int32) (dr_state : Int64) (doors : Nat → Int32) (beyond : Nat → Nat → Int32) (H : Heap) (locs : List Loc) (ls : Array Slot), Wd D A s H locs (wC kA ad lq_situation adv_rooms adv_levels adv_goalRoom adv_allDoors dr_state dr_count se_count parent level kind snum xx yy lying switched doors beyond offered opn seenb savedb found distance opening) → lv_has ls 3 [(0, .ref (ad 2)), (1, .int x1), (2, .int x2)] → k15 x1 x2 adv_allDoors dr_state doors beyond = some res → W p l e rm_X2_joinLoops s m args below meth c H locs 0 0 Q (F0 m 15 ls [])) (hret : ∀ (q0 : Int32) (q1 : Int64) (q2 : Nat → Int32) (q3 : Nat → Nat → Int32) (H : Heap) (locs : List Loc) (ls : Array Slot) (pc : Nat), decode cX2_joinLoops pc = .ok (.return_, 1) → Wd D A s H locs (wC kA ad lq_situation adv_rooms adv_levels adv_goalRoom q0 q1 dr_count se_count parent level kind snum xx yy lying switched q2 q3 offered opn seenb savedb found distance opening) → (q0, q1, q2, q3) = res → W p l e rm_X2_joinLoops s m args below meth c H locs 0 0 Q (F0 m pc ls [])) {H : Heap} {locs : List Loc} {ls : Array Slot} (w : Wd D A s H locs (wC kA ad lq_situation adv_rooms adv_levels adv_goalRoom adv_allDoors dr_state dr_count se_count parent level kind snum xx yy lying switched doors beyond offered opn seenb savedb found distance opening)) (hl : lv_has ls 3 [(0, .ref (ad 2)), (1, .int x1), (2, .int x2)]) (h : f_X2_joinLoops_46 adv_rooms parent level xx yy k2 k15 x1 x2 adv_allDoors dr_state doors beyond = some res) : W p l e rm_X2_joinLoops s m args below meth c H locs 0 0 Q (F0 m 46 ls []) := by
  obtain ⟨⟨hx, hb, hml, hown, hts⟩, hK, -, -⟩ := id C
  unfold f_X2_joinLoops_46 at h
  refine lv_iinc (v := (x2 + (1 : Int32))) (lv' := [(2, .int (x2 + (1 : Int32))), (0, .ref (ad 2)), (1, .int x1)]) hx hb dX2_joinLoops_46 hl (k := 2) rfl rfl (by decide) rfl (fun ls hl => ?_)
  refine lv_goto (tgt := 15) hx hb dX2_joinLoops_49 (by decide) ?_
  exact hk15 _ _ _ _ _ _ H locs ls w (lv_sub hl [1, 2, 0] rfl) h
def fb_X2_joinLoops_15 (adv_rooms : Int32) (parent : Nat → Int32) (level : Nat → Int32) (xx : Nat → Int32) (yy : Nat → Int32) (k2 : Int32 → Int32 → Int64 → (Nat → Int32) → (Nat → Nat → Int32) → Option (Int32 × Int64 × (Nat → Int32) × (Nat → Nat → Int32))) (k15 : Int32 → Int32 → Int32 → Int64 → (Nat → Int32) → (Nat → Nat → Int32) → Option (Int32 × Int64 × (Nat → Int32) × (Nat → Nat → Int32))) (x1 : Int32) (x2 : Int32) (adv_allDoors : Int32) (dr_state : Int64) (doors : Nat → Int32) (beyond : Nat → Nat → Int32) : Option (Int32 × Int64 × (Nat → Int32) × (Nat → Nat → Int32)) := if x1 ≤ x2 then (k2 (x1 + (1 : Int32)) adv_allDoors dr_state doors beyond) else ((f_X2_mayLoop x1 x2 parent level xx yy).bind (fun u2 => if u2 = 0 then (f_X2_joinLoops_46 adv_rooms parent level xx yy k2 k15 x1 x2 adv_allDoors dr_state doors beyond) else ((f_X1_number (3 : Int32) dr_state).bind (fun u4 => if u4.1 = 0 then ((f_X2_join x1 x2 adv_allDoors doors beyond).bind (fun u6 => f_X2_joinLoops_46 adv_rooms parent level xx yy k2 k15 x1 x2 u6.1 u4.2 u6.2.1 u6.2.2)) else (f_X2_joinLoops_46 adv_rooms parent level xx yy k2 k15 x1 x2 adv_allDoors u4.2 doors beyond)))))
set_option maxHeartbeats 4000000 in
set_option maxRecDepth 100000 in
theorem tb_X2_joinLoops_15 {p : Program} {l : Launch} {e : Env} {s : State} {m : MethodId} {args : Array Value} {below : List Frame} {meth : Method} {c : Code} {Q : State → Prop} {D : va_G} {kA : Nat → ClassId} {ad : Nat → Nat} {A : Nat → Prop} {lq_situation : Int32} {adv_rooms : Int32} {adv_levels : Int32} {adv_goalRoom : Int32} {adv_allDoors : Int32} {dr_state : Int64} {dr_count : Int32} {se_count : Int32} {parent : Nat → Int32} {level : Nat → Int32} {kind : Nat → Int32} {snum : Nat → Int32} {xx : Nat → Int32} {yy : Nat → Int32} {lying : Nat → Int32} {switched : Nat → Int32} {doors : Nat → Int32} {beyond : Nat → Nat → Int32} {offered : Nat → Int32} {opn : Nat → Int32} {seenb : Nat → Int64} {savedb : Nat → Int64} {found : Nat → Int32} {distance : Nat → Int32} {opening : Nat → Int32} {x1 : Int32} {x2 : Int32} {k2 : Int32 → Int32 → Int64 → (Nat → Int32) → (Nat → Nat → Int32) → Option (Int32 × Int64 × (Nat → Int32) × (Nat → Nat → Int32))} {k15 : Int32 → Int32 → Int32 → Int64 → (Nat → Int32) → (Nat → Nat → Int32) → Option (Int32 × Int64 × (Nat → Int32) × (Nat → Nat → Int32))} {res : Int32 × Int64 × (Nat → Int32) × (Nat → Nat → Int32)} (C : Cx p s m c args cX2_joinLoops 3 RX2 wsX2_joinLoops D kA A) (hk2 : ∀ (x1 : Int32) (adv_allDoors : Int32) (dr_state : Int64) (doors : Nat → Int32) (beyond : Nat → Nat → Int32) (H : Heap) (locs : List Loc) (ls : Array Slot), Wd D A s H locs (wC kA ad lq_situation adv_rooms adv_levels adv_goalRoom adv_allDoors dr_state dr_count se_count parent level kind snum xx yy lying switched doors beyond offered opn seenb savedb found distance opening) → lv_has ls 3 [(0, .ref (ad 2)), (1, .int x1)] → k2 x1 adv_allDoors dr_state doors beyond = some res → W p l e rm_X2_joinLoops s m args below meth c H locs 0 0 Q (F0 m 2 ls [])) (hk15 : ∀ (x1 : Int32) (x2 : Int32) (adv_allDoors : Int32) (dr_state : Int64) (doors : Nat → Int32) (beyond : Nat → Nat → Int32) (H : Heap) (locs : List Loc) (ls : Array Slot), Wd D A s H locs (wC kA ad lq_situation adv_rooms adv_levels adv_goalRoom adv_allDoors dr_state dr_count se_count parent level kind snum xx yy lying switched doors beyond offered opn seenb savedb found distance opening) → lv_has ls 3 [(0, .ref (ad 2)), (1, .int x1), (2, .int x2)] → k15 x1 x2 adv_allDoors dr_state doors beyond = some res → W p l e rm_X2_joinLoops s m args below meth c H locs 0 0 Q (F0 m 15 ls [])) (hret : ∀ (q0 : Int32) (q1 : Int64) (q2 : Nat → Int32) (q3 : Nat → Nat → Int32) (H : Heap) (locs : List Loc) (ls : Array Slot) (pc : Nat), decode cX2_joinLoops pc = .ok (.return_, 1) → Wd D A s H locs (wC kA ad lq_situation adv_rooms adv_levels adv_goalRoom q0 q1 dr_count se_count parent level kind snum xx yy lying switched q2 q3 offered opn seenb savedb found distance opening) → (q0, q1, q2, q3) = res → W p l e rm_X2_joinLoops s m args below meth c H locs 0 0 Q (F0 m pc ls [])) {H : Heap} {locs : List Loc} {ls : Array Slot} (w : Wd D A s H locs (wC kA ad lq_situation adv_rooms adv_levels adv_goalRoom adv_allDoors dr_state dr_count se_count parent level kind snum xx yy lying switched doors beyond offered opn seenb savedb found distance opening)) (hl : lv_has ls 3 [(0, .ref (ad 2)), (1, .int x1), (2, .int x2)]) (h : fb_X2_joinLoops_15 adv_rooms parent level xx yy k2 k15 x1 x2 adv_allDoors dr_state doors beyond = some res) : W p l e rm_X2_joinLoops s m args below meth c H locs 0 0 Q (F0 m 15 ls []) := by
  obtain ⟨⟨hx, hb, hml, hown, hts⟩, hK, -, -⟩ := id C
  unfold fb_X2_joinLoops_15 at h
  refine lv_iload_n hx hb dX2_joinLoops_15 rfl (lv_at hl 2 rfl) ?_
  refine lv_iload_n hx hb dX2_joinLoops_16 rfl (lv_at hl 1 rfl) ?_
  refine lv_icmp_ge (tgt := 52) hx hb dX2_joinLoops_17 (by decide) (fun g1 => ?_) (fun g1 => ?_)
  · replace h := it_pos g1 h
    refine lv_iinc (v := (x1 + (1 : Int32))) (lv' := [(1, .int (x1 + (1 : Int32))), (0, .ref (ad 2)), (2, .int x2)]) hx hb dX2_joinLoops_52 hl (k := 1) rfl rfl (by decide) rfl (fun ls hl => ?_)
    refine lv_goto (tgt := 2) hx hb dX2_joinLoops_55 (by decide) ?_
    exact hk2 _ _ _ _ _ H locs ls w (lv_sub hl [1, 0] rfl) h
  · replace h := it_neg g1 h
    refine lv_aload_n hx hb dX2_joinLoops_20 rfl (lv_at hl 0 rfl) ?_
    refine lv_iload_n hx hb dX2_joinLoops_21 rfl (lv_at hl 1 rfl) ?_
    refine lv_iload_n hx hb dX2_joinLoops_22 rfl (lv_at hl 2 rfl) ?_
    obtain ⟨u2, hc2, h⟩ := bd_some h
    refine gl_calli C w (va_runV (As := [.int x1, .int x2]) (rest := []) ⟨hx, hb, hml, hown, hts⟩ (c_X2_mayLoop l D kA ad H.size lq_situation adv_rooms adv_levels adv_goalRoom adv_allDoors dr_state dr_count se_count parent level kind snum xx yy lying switched doors beyond offered opn seenb savedb found distance opening x1 x2 hc2) (cwV 2 hts gX2_joinLoops_X2_mayLoop rfl rfl rfl (by decide +kernel) ⟨Nat.le_of_ble_eq_true rfl, Nat.le_of_ble_eq_true rfl⟩) (Wd.preV C w (q0 := 2) (ci := 2) rfl rfl rfl) rfl rfl hl.1 rfl (lv_room (Nat.le_of_ble_eq_true rfl)) dX2_joinLoops_23 ⟨Nat.zero_le _, Nat.zero_le _⟩) (fun H locs w => ?_)
    refine lv_if_eq (tgt := 46) hx hb dX2_joinLoops_26 (by decide) (fun g3 => ?_) (fun g3 => ?_)
    · replace h := it_pos g3 h
      exact t_X2_joinLoops_46 C hk2 hk15 hret w (lv_sub hl [0, 1, 2] rfl) h
    · replace h := it_neg g3 h
      refine lv_aload_n hx hb dX2_joinLoops_29 rfl (lv_at hl 0 rfl) ?_
      refine va_get (D := D) (ci := 2) (v := .ref (ad 3)) (C := RX2) (T := TX2) (N := 3) hx hb hts lX2_joinLoops_X2 hown hK w.1 2 rfl rfl 1 (by decide) (hts _ mX2_joinLoops_4) (fun _ h9 => h9) rfl dX2_joinLoops_30 ?_
      refine lv_iconst (v := 3) hx hb dX2_joinLoops_33 (by decide) ?_
      obtain ⟨u4, hc4, h⟩ := bd_some h
      refine gl_calli C w (va_runV (As := [.int (3 : Int32)]) (rest := []) ⟨hx, hb, hml, hown, hts⟩ (c_X1_number l D kA ad H.size lq_situation adv_rooms adv_levels adv_goalRoom adv_allDoors dr_state dr_count se_count parent level kind snum xx yy lying switched doors beyond offered opn seenb savedb found distance opening (3 : Int32) hc4) (cwV 1 hts gX2_joinLoops_X1_number rfl rfl rfl (by decide +kernel) ⟨Nat.le_of_ble_eq_true rfl, Nat.le_of_ble_eq_true rfl⟩) (Wd.preV C w (q0 := 3) (ci := 1) rfl rfl rfl) rfl rfl hl.1 rfl (lv_room (Nat.le_of_ble_eq_true rfl)) dX2_joinLoops_34 ⟨Nat.zero_le _, Nat.zero_le _⟩) (fun H locs w => ?_)
      refine lv_if_ne (tgt := 46) hx hb dX2_joinLoops_37 (by decide) (fun g5 => ?_) (fun g5 => ?_)
      · replace h := it_neg g5 h
        exact t_X2_joinLoops_46 C hk2 hk15 hret w (lv_sub hl [0, 1, 2] rfl) h
      · replace h := it_pos g5 h
        refine lv_aload_n hx hb dX2_joinLoops_40 rfl (lv_at hl 0 rfl) ?_
        refine lv_iload_n hx hb dX2_joinLoops_41 rfl (lv_at hl 1 rfl) ?_
        refine lv_iload_n hx hb dX2_joinLoops_42 rfl (lv_at hl 2 rfl) ?_
        obtain ⟨u6, hc6, h⟩ := bd_some h
        refine gl_callv C w (va_runV (As := [.int x1, .int x2]) (rest := []) ⟨hx, hb, hml, hown, hts⟩ (c_X2_join l D kA ad H.size lq_situation adv_rooms adv_levels adv_goalRoom adv_allDoors u4.2 dr_count se_count parent level kind snum xx yy lying switched doors beyond offered opn seenb savedb found distance opening x1 x2 hc6) (cwV 2 hts gX2_joinLoops_X2_join rfl rfl rfl (by decide +kernel) ⟨Nat.le_of_ble_eq_true rfl, Nat.le_of_ble_eq_true rfl⟩) (Wd.preV C w (q0 := 2) (ci := 2) rfl rfl rfl) rfl rfl hl.1 rfl (lv_room (Nat.le_of_ble_eq_true rfl)) dX2_joinLoops_43 ⟨Nat.zero_le _, Nat.zero_le _⟩) (fun H locs w => ?_)
        exact t_X2_joinLoops_46 C hk2 hk15 hret w (lv_sub hl [0, 1, 2] rfl) h
def f_X2_joinLoops_15 (adv_rooms : Int32) (parent : Nat → Int32) (level : Nat → Int32) (xx : Nat → Int32) (yy : Nat → Int32) (k2 : Int32 → Int32 → Int64 → (Nat → Int32) → (Nat → Nat → Int32) → Option (Int32 × Int64 × (Nat → Int32) × (Nat → Nat → Int32))) (x1 : Int32) (x2 : Int32) (adv_allDoors : Int32) (dr_state : Int64) (doors : Nat → Int32) (beyond : Nat → Nat → Int32) : Option (Int32 × Int64 × (Nat → Int32) × (Nat → Nat → Int32)) := lp (σ := Int32 × Int32 × Int32 × Int64 × (Nat → Int32) × (Nat → Nat → Int32)) (fun k st => fb_X2_joinLoops_15 adv_rooms parent level xx yy k2 (fun x1 x2 adv_allDoors dr_state doors beyond => k (x1, x2, adv_allDoors, dr_state, doors, beyond)) st.1 st.2.1 st.2.2.1 st.2.2.2.1 st.2.2.2.2.1 st.2.2.2.2.2) fuel (x1, x2, adv_allDoors, dr_state, doors, beyond)
set_option maxHeartbeats 4000000 in
set_option maxRecDepth 100000 in
theorem t_X2_joinLoops_15 {p : Program} {l : Launch} {e : Env} {s : State} {m : MethodId} {args : Array Value} {below : List Frame} {meth : Method} {c : Code} {Q : State → Prop} {D : va_G} {kA : Nat → ClassId} {ad : Nat → Nat} {A : Nat → Prop} {lq_situation : Int32} {adv_rooms : Int32} {adv_levels : Int32} {adv_goalRoom : Int32} {adv_allDoors : Int32} {dr_state : Int64} {dr_count : Int32} {se_count : Int32} {parent : Nat → Int32} {level : Nat → Int32} {kind : Nat → Int32} {snum : Nat → Int32} {xx : Nat → Int32} {yy : Nat → Int32} {lying : Nat → Int32} {switched : Nat → Int32} {doors : Nat → Int32} {beyond : Nat → Nat → Int32} {offered : Nat → Int32} {opn : Nat → Int32} {seenb : Nat → Int64} {savedb : Nat → Int64} {found : Nat → Int32} {distance : Nat → Int32} {opening : Nat → Int32} {x1 : Int32} {x2 : Int32} {k2 : Int32 → Int32 → Int64 → (Nat → Int32) → (Nat → Nat → Int32) → Option (Int32 × Int64 × (Nat → Int32) × (Nat → Nat → Int32))} {res : Int32 × Int64 × (Nat → Int32) × (Nat → Nat → Int32)} (C : Cx p s m c args cX2_joinLoops 3 RX2 wsX2_joinLoops D kA A) (hk2 : ∀ (x1 : Int32) (adv_allDoors : Int32) (dr_state : Int64) (doors : Nat → Int32) (beyond : Nat → Nat → Int32) (H : Heap) (locs : List Loc) (ls : Array Slot), Wd D A s H locs (wC kA ad lq_situation adv_rooms adv_levels adv_goalRoom adv_allDoors dr_state dr_count se_count parent level kind snum xx yy lying switched doors beyond offered opn seenb savedb found distance opening) → lv_has ls 3 [(0, .ref (ad 2)), (1, .int x1)] → k2 x1 adv_allDoors dr_state doors beyond = some res → W p l e rm_X2_joinLoops s m args below meth c H locs 0 0 Q (F0 m 2 ls [])) (hret : ∀ (q0 : Int32) (q1 : Int64) (q2 : Nat → Int32) (q3 : Nat → Nat → Int32) (H : Heap) (locs : List Loc) (ls : Array Slot) (pc : Nat), decode cX2_joinLoops pc = .ok (.return_, 1) → Wd D A s H locs (wC kA ad lq_situation adv_rooms adv_levels adv_goalRoom q0 q1 dr_count se_count parent level kind snum xx yy lying switched q2 q3 offered opn seenb savedb found distance opening) → (q0, q1, q2, q3) = res → W p l e rm_X2_joinLoops s m args below meth c H locs 0 0 Q (F0 m pc ls [])) {H : Heap} {locs : List Loc} {ls : Array Slot} (w : Wd D A s H locs (wC kA ad lq_situation adv_rooms adv_levels adv_goalRoom adv_allDoors dr_state dr_count se_count parent level kind snum xx yy lying switched doors beyond offered opn seenb savedb found distance opening)) (hl : lv_has ls 3 [(0, .ref (ad 2)), (1, .int x1), (2, .int x2)]) (h : f_X2_joinLoops_15 adv_rooms parent level xx yy k2 x1 x2 adv_allDoors dr_state doors beyond = some res) : W p l e rm_X2_joinLoops s m args below meth c H locs 0 0 Q (F0 m 15 ls []) := by
  unfold f_X2_joinLoops_15 at h
  exact lp_ind (P := (fun (st : Int32 × Int32 × Int32 × Int64 × (Nat → Int32) × (Nat → Nat → Int32)) => ∀ (H : Heap) (locs : List Loc) (ls : Array Slot), Wd D A s H locs (wC kA ad lq_situation adv_rooms adv_levels adv_goalRoom st.2.2.1 st.2.2.2.1 dr_count se_count parent level kind snum xx yy lying switched st.2.2.2.2.1 st.2.2.2.2.2 offered opn seenb savedb found distance opening) → lv_has ls 3 [(0, .ref (ad 2)), (1, .int st.1), (2, .int st.2.1)] → W p l e rm_X2_joinLoops s m args below meth c H locs 0 0 Q (F0 m 15 ls []))) (fun k hk st h H locs ls w hl => tb_X2_joinLoops_15 C hk2 (fun a0 a1 a2 a3 a4 a5 H locs ls w hl h => hk (a0, a1, a2, a3, a4, a5) h H locs ls w hl) hret w hl h) fuel (x1, x2, adv_allDoors, dr_state, doors, beyond) h H locs ls w hl
def fb_X2_joinLoops_2 (adv_rooms : Int32) (parent : Nat → Int32) (level : Nat → Int32) (xx : Nat → Int32) (yy : Nat → Int32) (k2 : Int32 → Int32 → Int64 → (Nat → Int32) → (Nat → Nat → Int32) → Option (Int32 × Int64 × (Nat → Int32) × (Nat → Nat → Int32))) (x1 : Int32) (adv_allDoors : Int32) (dr_state : Int64) (doors : Nat → Int32) (beyond : Nat → Nat → Int32) : Option (Int32 × Int64 × (Nat → Int32) × (Nat → Nat → Int32)) := if adv_rooms ≤ x1 then (some (adv_allDoors, dr_state, doors, beyond)) else (f_X2_joinLoops_15 adv_rooms parent level xx yy k2 x1 (0 : Int32) adv_allDoors dr_state doors beyond)
set_option maxHeartbeats 4000000 in
set_option maxRecDepth 100000 in
theorem tb_X2_joinLoops_2 {p : Program} {l : Launch} {e : Env} {s : State} {m : MethodId} {args : Array Value} {below : List Frame} {meth : Method} {c : Code} {Q : State → Prop} {D : va_G} {kA : Nat → ClassId} {ad : Nat → Nat} {A : Nat → Prop} {lq_situation : Int32} {adv_rooms : Int32} {adv_levels : Int32} {adv_goalRoom : Int32} {adv_allDoors : Int32} {dr_state : Int64} {dr_count : Int32} {se_count : Int32} {parent : Nat → Int32} {level : Nat → Int32} {kind : Nat → Int32} {snum : Nat → Int32} {xx : Nat → Int32} {yy : Nat → Int32} {lying : Nat → Int32} {switched : Nat → Int32} {doors : Nat → Int32} {beyond : Nat → Nat → Int32} {offered : Nat → Int32} {opn : Nat → Int32} {seenb : Nat → Int64} {savedb : Nat → Int64} {found : Nat → Int32} {distance : Nat → Int32} {opening : Nat → Int32} {x1 : Int32} {k2 : Int32 → Int32 → Int64 → (Nat → Int32) → (Nat → Nat → Int32) → Option (Int32 × Int64 × (Nat → Int32) × (Nat → Nat → Int32))} {res : Int32 × Int64 × (Nat → Int32) × (Nat → Nat → Int32)} (C : Cx p s m c args cX2_joinLoops 3 RX2 wsX2_joinLoops D kA A) (hk2 : ∀ (x1 : Int32) (adv_allDoors : Int32) (dr_state : Int64) (doors : Nat → Int32) (beyond : Nat → Nat → Int32) (H : Heap) (locs : List Loc) (ls : Array Slot), Wd D A s H locs (wC kA ad lq_situation adv_rooms adv_levels adv_goalRoom adv_allDoors dr_state dr_count se_count parent level kind snum xx yy lying switched doors beyond offered opn seenb savedb found distance opening) → lv_has ls 3 [(0, .ref (ad 2)), (1, .int x1)] → k2 x1 adv_allDoors dr_state doors beyond = some res → W p l e rm_X2_joinLoops s m args below meth c H locs 0 0 Q (F0 m 2 ls [])) (hret : ∀ (q0 : Int32) (q1 : Int64) (q2 : Nat → Int32) (q3 : Nat → Nat → Int32) (H : Heap) (locs : List Loc) (ls : Array Slot) (pc : Nat), decode cX2_joinLoops pc = .ok (.return_, 1) → Wd D A s H locs (wC kA ad lq_situation adv_rooms adv_levels adv_goalRoom q0 q1 dr_count se_count parent level kind snum xx yy lying switched q2 q3 offered opn seenb savedb found distance opening) → (q0, q1, q2, q3) = res → W p l e rm_X2_joinLoops s m args below meth c H locs 0 0 Q (F0 m pc ls [])) {H : Heap} {locs : List Loc} {ls : Array Slot} (w : Wd D A s H locs (wC kA ad lq_situation adv_rooms adv_levels adv_goalRoom adv_allDoors dr_state dr_count se_count parent level kind snum xx yy lying switched doors beyond offered opn seenb savedb found distance opening)) (hl : lv_has ls 3 [(0, .ref (ad 2)), (1, .int x1)]) (h : fb_X2_joinLoops_2 adv_rooms parent level xx yy k2 x1 adv_allDoors dr_state doors beyond = some res) : W p l e rm_X2_joinLoops s m args below meth c H locs 0 0 Q (F0 m 2 ls []) := by
  obtain ⟨⟨hx, hb, hml, hown, hts⟩, hK, -, -⟩ := id C
  unfold fb_X2_joinLoops_2 at h
  refine lv_iload_n hx hb dX2_joinLoops_2 rfl (lv_at hl 1 rfl) ?_
  refine lv_aload_n hx hb dX2_joinLoops_3 rfl (lv_at hl 0 rfl) ?_
  refine va_get (D := D) (ci := 2) (v := .ref (ad 1)) (C := RX2) (T := TX2) (N := 3) hx hb hts lX2_joinLoops_X2 hown hK w.1 2 rfl rfl 0 (by decide) (hts _ mX2_joinLoops_1) (fun _ h9 => h9) rfl dX2_joinLoops_4 ?_
  refine va_get (D := D) (ci := 0) (v := .int adv_rooms) (C := RX0) (T := TX0) (N := 14) hx hb hts lX2_joinLoops_X0 hown hK w.1 1 rfl rfl 0 (by decide) (hts _ mX2_joinLoops_3) (fun _ h9 => h9) rfl dX2_joinLoops_7 ?_
  refine lv_icmp_ge (tgt := 58) hx hb dX2_joinLoops_10 (by decide) (fun g7 => ?_) (fun g7 => ?_)
  · replace h := it_pos g7 h
    exact hret _ _ _ _ _ _ _ _ dX2_joinLoops_58 w (Option.some.inj h)
  · replace h := it_neg g7 h
    refine lv_iconst (v := 0) hx hb dX2_joinLoops_13 (by decide) ?_
    refine lv_istore_n (lv' := [(2, .int (0 : Int32)), (0, .ref (ad 2)), (1, .int x1)]) hx hb dX2_joinLoops_14 rfl hl (by decide) rfl (fun ls hl => ?_)
    exact t_X2_joinLoops_15 C hk2 hret w (lv_sub hl [1, 2, 0] rfl) h
def f_X2_joinLoops_2 (adv_rooms : Int32) (parent : Nat → Int32) (level : Nat → Int32) (xx : Nat → Int32) (yy : Nat → Int32) (x1 : Int32) (adv_allDoors : Int32) (dr_state : Int64) (doors : Nat → Int32) (beyond : Nat → Nat → Int32) : Option (Int32 × Int64 × (Nat → Int32) × (Nat → Nat → Int32)) := lp (σ := Int32 × Int32 × Int64 × (Nat → Int32) × (Nat → Nat → Int32)) (fun k st => fb_X2_joinLoops_2 adv_rooms parent level xx yy (fun x1 adv_allDoors dr_state doors beyond => k (x1, adv_allDoors, dr_state, doors, beyond)) st.1 st.2.1 st.2.2.1 st.2.2.2.1 st.2.2.2.2) fuel (x1, adv_allDoors, dr_state, doors, beyond)
set_option maxHeartbeats 4000000 in
set_option maxRecDepth 100000 in
theorem t_X2_joinLoops_2 {p : Program} {l : Launch} {e : Env} {s : State} {m : MethodId} {args : Array Value} {below : List Frame} {meth : Method} {c : Code} {Q : State → Prop} {D : va_G} {kA : Nat → ClassId} {ad : Nat → Nat} {A : Nat → Prop} {lq_situation : Int32} {adv_rooms : Int32} {adv_levels : Int32} {adv_goalRoom : Int32} {adv_allDoors : Int32} {dr_state : Int64} {dr_count : Int32} {se_count : Int32} {parent : Nat → Int32} {level : Nat → Int32} {kind : Nat → Int32} {snum : Nat → Int32} {xx : Nat → Int32} {yy : Nat → Int32} {lying : Nat → Int32} {switched : Nat → Int32} {doors : Nat → Int32} {beyond : Nat → Nat → Int32} {offered : Nat → Int32} {opn : Nat → Int32} {seenb : Nat → Int64} {savedb : Nat → Int64} {found : Nat → Int32} {distance : Nat → Int32} {opening : Nat → Int32} {x1 : Int32} {res : Int32 × Int64 × (Nat → Int32) × (Nat → Nat → Int32)} (C : Cx p s m c args cX2_joinLoops 3 RX2 wsX2_joinLoops D kA A) (hret : ∀ (q0 : Int32) (q1 : Int64) (q2 : Nat → Int32) (q3 : Nat → Nat → Int32) (H : Heap) (locs : List Loc) (ls : Array Slot) (pc : Nat), decode cX2_joinLoops pc = .ok (.return_, 1) → Wd D A s H locs (wC kA ad lq_situation adv_rooms adv_levels adv_goalRoom q0 q1 dr_count se_count parent level kind snum xx yy lying switched q2 q3 offered opn seenb savedb found distance opening) → (q0, q1, q2, q3) = res → W p l e rm_X2_joinLoops s m args below meth c H locs 0 0 Q (F0 m pc ls [])) {H : Heap} {locs : List Loc} {ls : Array Slot} (w : Wd D A s H locs (wC kA ad lq_situation adv_rooms adv_levels adv_goalRoom adv_allDoors dr_state dr_count se_count parent level kind snum xx yy lying switched doors beyond offered opn seenb savedb found distance opening)) (hl : lv_has ls 3 [(0, .ref (ad 2)), (1, .int x1)]) (h : f_X2_joinLoops_2 adv_rooms parent level xx yy x1 adv_allDoors dr_state doors beyond = some res) : W p l e rm_X2_joinLoops s m args below meth c H locs 0 0 Q (F0 m 2 ls []) := by
  unfold f_X2_joinLoops_2 at h
  exact lp_ind (P := (fun (st : Int32 × Int32 × Int64 × (Nat → Int32) × (Nat → Nat → Int32)) => ∀ (H : Heap) (locs : List Loc) (ls : Array Slot), Wd D A s H locs (wC kA ad lq_situation adv_rooms adv_levels adv_goalRoom st.2.1 st.2.2.1 dr_count se_count parent level kind snum xx yy lying switched st.2.2.2.1 st.2.2.2.2 offered opn seenb savedb found distance opening) → lv_has ls 3 [(0, .ref (ad 2)), (1, .int st.1)] → W p l e rm_X2_joinLoops s m args below meth c H locs 0 0 Q (F0 m 2 ls []))) (fun k hk st h H locs ls w hl => tb_X2_joinLoops_2 C  (fun a0 a1 a2 a3 a4 H locs ls w hl h => hk (a0, a1, a2, a3, a4) h H locs ls w hl) hret w hl h) fuel (x1, adv_allDoors, dr_state, doors, beyond) h H locs ls w hl
def f_X2_joinLoops  (adv_rooms : Int32) (adv_allDoors : Int32) (dr_state : Int64) (parent : Nat → Int32) (level : Nat → Int32) (xx : Nat → Int32) (yy : Nat → Int32) (doors : Nat → Int32) (beyond : Nat → Nat → Int32) : Option (Int32 × Int64 × (Nat → Int32) × (Nat → Nat → Int32)) := f_X2_joinLoops_2 adv_rooms parent level xx yy (1 : Int32) adv_allDoors dr_state doors beyond
set_option maxHeartbeats 4000000 in
set_option maxRecDepth 100000 in
theorem t_X2_joinLoops {p : Program} {l : Launch} {e : Env} {s : State} {m : MethodId} {args : Array Value} {below : List Frame} {meth : Method} {c : Code} {Q : State → Prop} {D : va_G} {kA : Nat → ClassId} {ad : Nat → Nat} {A : Nat → Prop} {lq_situation : Int32} {adv_rooms : Int32} {adv_levels : Int32} {adv_goalRoom : Int32} {adv_allDoors : Int32} {dr_state : Int64} {dr_count : Int32} {se_count : Int32} {parent : Nat → Int32} {level : Nat → Int32} {kind : Nat → Int32} {snum : Nat → Int32} {xx : Nat → Int32} {yy : Nat → Int32} {lying : Nat → Int32} {switched : Nat → Int32} {doors : Nat → Int32} {beyond : Nat → Nat → Int32} {offered : Nat → Int32} {opn : Nat → Int32} {seenb : Nat → Int64} {savedb : Nat → Int64} {found : Nat → Int32} {distance : Nat → Int32} {opening : Nat → Int32}  {res : Int32 × Int64 × (Nat → Int32) × (Nat → Nat → Int32)} (C : Cx p s m c args cX2_joinLoops 3 RX2 wsX2_joinLoops D kA A) (hret : ∀ (q0 : Int32) (q1 : Int64) (q2 : Nat → Int32) (q3 : Nat → Nat → Int32) (H : Heap) (locs : List Loc) (ls : Array Slot) (pc : Nat), decode cX2_joinLoops pc = .ok (.return_, 1) → Wd D A s H locs (wC kA ad lq_situation adv_rooms adv_levels adv_goalRoom q0 q1 dr_count se_count parent level kind snum xx yy lying switched q2 q3 offered opn seenb savedb found distance opening) → (q0, q1, q2, q3) = res → W p l e rm_X2_joinLoops s m args below meth c H locs 0 0 Q (F0 m pc ls [])) {H : Heap} {locs : List Loc} {ls : Array Slot} (w : Wd D A s H locs (wC kA ad lq_situation adv_rooms adv_levels adv_goalRoom adv_allDoors dr_state dr_count se_count parent level kind snum xx yy lying switched doors beyond offered opn seenb savedb found distance opening)) (hl : lv_has ls 3 [(0, .ref (ad 2))]) (h : f_X2_joinLoops  adv_rooms adv_allDoors dr_state parent level xx yy doors beyond = some res) : W p l e rm_X2_joinLoops s m args below meth c H locs 0 0 Q (F0 m 0 ls []) := by
  obtain ⟨⟨hx, hb, hml, hown, hts⟩, hK, -, -⟩ := id C
  unfold f_X2_joinLoops at h
  refine lv_iconst (v := 1) hx hb dX2_joinLoops_0 (by decide) ?_
  refine lv_istore_n (lv' := [(1, .int (1 : Int32)), (0, .ref (ad 2))]) hx hb dX2_joinLoops_1 rfl hl (by decide) rfl (fun ls hl => ?_)
  exact t_X2_joinLoops_2 C  hret w (lv_sub hl [1, 0] rfl) h
set_option maxHeartbeats 4000000 in
set_option maxRecDepth 100000 in
theorem c_X2_joinLoops (l : Launch) (D : va_G) (kA : Nat → ClassId) (ad : Nat → Nat) (sz : Nat) (lq_situation : Int32) (adv_rooms : Int32) (adv_levels : Int32) (adv_goalRoom : Int32) (adv_allDoors : Int32) (dr_state : Int64) (dr_count : Int32) (se_count : Int32) (parent : Nat → Int32) (level : Nat → Int32) (kind : Nat → Int32) (snum : Nat → Int32) (xx : Nat → Int32) (yy : Nat → Int32) (lying : Nat → Int32) (switched : Nat → Int32) (doors : Nat → Int32) (beyond : Nat → Nat → Int32) (offered : Nat → Int32) (opn : Nat → Int32) (seenb : Nat → Int64) (savedb : Nat → Int64) (found : Nat → Int32) (distance : Nat → Int32) (opening : Nat → Int32)  {res : Int32 × Int64 × (Nat → Int32) × (Nat → Nat → Int32)} (h : f_X2_joinLoops  adv_rooms adv_allDoors dr_state parent level xx yy doors beyond = some res) : Cv l yX2_joinLoops wsX2_joinLoops rm_X2_joinLoops D kA [.ref (ad 2)] sz (wC kA ad lq_situation adv_rooms adv_levels adv_goalRoom adv_allDoors dr_state dr_count se_count parent level kind snum xx yy lying switched doors beyond offered opn seenb savedb found distance opening) (wC kA ad lq_situation adv_rooms adv_levels adv_goalRoom res.1 res.2.1 dr_count se_count parent level kind snum xx yy lying switched res.2.2.1 res.2.2.2 offered opn seenb savedb found distance opening) := by
  refine Met.ofW (cc := cX2_joinLoops) (maxL := 3) (ret := none) (by decide) rfl ?_
  intro p e s m args below meth c s₁ B hml hv
  obtain ⟨rfl, hsz, hP, hK, hD0, hX⟩ := hv
  subst hsz
  have hts := atoms_spec (ws := wsX2_joinLoops) B.pre
  have hl := lv_entry ([.ref (ad 2)]) (n := 3) (Nat.le_of_ble_eq_true rfl)
  rw [lg_entry_eq]
  have hlocks := B.notSynchronized
  refine t_X2_joinLoops (A := va_A (wC kA ad lq_situation adv_rooms adv_levels adv_goalRoom adv_allDoors dr_state dr_count se_count parent level kind snum xx yy lying switched doors beyond offered opn seenb savedb found distance opening) s.heap.size) ⟨⟨B.exec, B.bytes, hml, findClass_of_methodNamed B.named, hts⟩, hK, fun q h => Or.inr h, hX⟩ (fun q0 q1 q2 q3 H locs ls pc hd w hres => ?_) ⟨hP, hD0.self, va_S.rf⟩ hl h
  subst hres
  exact W.vret B.exec B.bytes B.returns (fun t ht hW => ⟨⟨(), rfl, trivial, by rw [ht]; exact w.1, va_K.moved hW.alike hK, w.2.1⟩, w.2.2.F ht⟩) w.2.2.2.2 hd hlocks
-- ('wC', 'LockQuest$Maker', 'build', '(JIIII)V', ('mk', None, None, None, None, None))
abbrev rm_X2_build : Room := { frames := 4, cells := 0, slots := 0, locals := 89 }
set_option maxRecDepth 20000 in
theorem lX2_build_X2 : ∀ w ∈ wsX20, w ∈ wsX2_build := by decide +kernel
set_option maxRecDepth 20000 in
theorem mX2_build_1 : Cond.fieldLink RX2 12 "LockQuest$Maker" "drawing" "LLockQuest$Drawing;" ∈ wsX2_build := by decide +kernel
set_option maxRecDepth 20000 in
theorem mX2_build_2 : Cond.fieldLink RX2 22 "LockQuest$Maker" "made" "LLockQuest$Adventure;" ∈ wsX2_build := by decide +kernel
set_option maxRecDepth 20000 in
theorem lX2_build_X0 : ∀ w ∈ wsX00, w ∈ wsX2_build := by decide +kernel
set_option maxRecDepth 20000 in
theorem mX2_build_4 : Cond.fieldLink RX2 33 "LockQuest$Adventure" "rooms" "I" ∈ wsX2_build := by decide +kernel
set_option maxRecDepth 20000 in
theorem mX2_build_5 : Cond.fieldLink RX2 39 "LockQuest$Adventure" "levels" "I" ∈ wsX2_build := by decide +kernel
set_option maxRecDepth 20000 in
theorem mX2_build_6 : Cond.fieldLink RX2 67 "LockQuest$Adventure" "goalRoom" "I" ∈ wsX2_build := by decide +kernel
def f_X2_build (p0 : Int64) (p1 : Int32) (p2 : Int32) (p3 : Int32) (p4 : Int32) (adv_rooms : Int32) (adv_levels : Int32) (adv_goalRoom : Int32) (adv_allDoors : Int32) (dr_state : Int64) (dr_count : Int32) (parent : Nat → Int32) (level : Nat → Int32) (kind : Nat → Int32) (snum : Nat → Int32) (xx : Nat → Int32) (yy : Nat → Int32) (lying : Nat → Int32) (switched : Nat → Int32) (doors : Nat → Int32) (beyond : Nat → Nat → Int32) (offered : Nat → Int32) (opn : Nat → Int32) : Option (Int32 × Int32 × Int32 × Int32 × Int64 × Int32 × (Nat → Int32) × (Nat → Int32) × (Nat → Int32) × (Nat → Int32) × (Nat → Int32) × (Nat → Int32) × (Nat → Int32) × (Nat → Int32) × (Nat → Int32) × (Nat → Nat → Int32) × (Nat → Int32) × (Nat → Int32)) := (f_X1_begin p0 dr_state).bind (fun u1 => (f_X2_clear adv_allDoors lying switched doors).bind (fun u2 => (f_X2_addRooms p1 p2 u1 dr_count parent level kind offered).bind (fun u3 => (f_X2_layKeys p1 p2 u3.1 u3.2.1 u3.2.2.2.1 u2.2.1 u3.2.2.2.2.2).bind (fun u4 => (f_X2_makeSmallDoors p3 p1 u4.1 u4.2.1 u3.2.2.2.2.1 snum u4.2.2.2).bind (fun u5 => (f_X2_laySmallKeys u5.1 p1 u5.2.1 u5.2.2.1 u3.2.2.1 u3.2.2.2.1 u5.2.2.2.1 u4.2.2.1 u5.2.2.2.2.2 opn).bind (fun u6 => (f_X2_makeBarriers p4 p1 u6.1 u6.2.1 u3.2.2.1 u5.2.2.2.1 u2.2.2.1 u6.2.2.2.1).bind (fun u7 => (f_X2_offerLevels p2 p2 p1 u7.2.1 u3.2.2.2.1 u7.2.2.2.2).bind (fun u8 => (f_X1_offeredRoom u7.1 u8.1 u8.2).bind (fun u9 => (f_X2_placeRooms p1 u9.2 u3.2.2.1 xx yy).bind (fun u10 => (f_X2_joinFamilies p1 u2.1 u3.2.2.1 u2.2.2.2 beyond).bind (fun u11 => (f_X2_joinLoops p1 u11.1 u10.1 u3.2.2.1 u3.2.2.2.1 u10.2.1 u10.2.2 u11.2.1 u11.2.2).bind (fun u12 => some (p1, p2, u9.1, u12.1, u12.2.1, u8.1, u3.2.2.1, u3.2.2.2.1, u7.2.2.1, u5.2.2.2.2.1, u10.2.1, u10.2.2, u6.2.2.1, u7.2.2.2.1, u12.2.2.1, u12.2.2.2, u8.2, u6.2.2.2.2)))))))))))))
set_option maxHeartbeats 4000000 in
set_option maxRecDepth 100000 in
theorem t_X2_build {p : Program} {l : Launch} {e : Env} {s : State} {m : MethodId} {args : Array Value} {below : List Frame} {meth : Method} {c : Code} {Q : State → Prop} {D : va_G} {kA : Nat → ClassId} {ad : Nat → Nat} {A : Nat → Prop} {lq_situation : Int32} {adv_rooms : Int32} {adv_levels : Int32} {adv_goalRoom : Int32} {adv_allDoors : Int32} {dr_state : Int64} {dr_count : Int32} {se_count : Int32} {parent : Nat → Int32} {level : Nat → Int32} {kind : Nat → Int32} {snum : Nat → Int32} {xx : Nat → Int32} {yy : Nat → Int32} {lying : Nat → Int32} {switched : Nat → Int32} {doors : Nat → Int32} {beyond : Nat → Nat → Int32} {offered : Nat → Int32} {opn : Nat → Int32} {seenb : Nat → Int64} {savedb : Nat → Int64} {found : Nat → Int32} {distance : Nat → Int32} {opening : Nat → Int32} {p0 : Int64} {p1 : Int32} {p2 : Int32} {p3 : Int32} {p4 : Int32} {res : Int32 × Int32 × Int32 × Int32 × Int64 × Int32 × (Nat → Int32) × (Nat → Int32) × (Nat → Int32) × (Nat → Int32) × (Nat → Int32) × (Nat → Int32) × (Nat → Int32) × (Nat → Int32) × (Nat → Int32) × (Nat → Nat → Int32) × (Nat → Int32) × (Nat → Int32)} (C : Cx p s m c args cX2_build 7 RX2 wsX2_build D kA A) (hret : ∀ (q0 : Int32) (q1 : Int32) (q2 : Int32) (q3 : Int32) (q4 : Int64) (q5 : Int32) (q6 : Nat → Int32) (q7 : Nat → Int32) (q8 : Nat → Int32) (q9 : Nat → Int32) (q10 : Nat → Int32) (q11 : Nat → Int32) (q12 : Nat → Int32) (q13 : Nat → Int32) (q14 : Nat → Int32) (q15 : Nat → Nat → Int32) (q16 : Nat → Int32) (q17 : Nat → Int32) (H : Heap) (locs : List Loc) (ls : Array Slot) (pc : Nat), decode cX2_build pc = .ok (.return_, 1) → Wd D A s H locs (wC kA ad lq_situation q0 q1 q2 q3 q4 q5 se_count q6 q7 q8 q9 q10 q11 q12 q13 q14 q15 q16 q17 seenb savedb found distance opening) → (q0, q1, q2, q3, q4, q5, q6, q7, q8, q9, q10, q11, q12, q13, q14, q15, q16, q17) = res → W p l e rm_X2_build s m args below meth c H locs 0 0 Q (F0 m pc ls [])) {H : Heap} {locs : List Loc} {ls : Array Slot} (w : Wd D A s H locs (wC kA ad lq_situation adv_rooms adv_levels adv_goalRoom adv_allDoors dr_state dr_count se_count parent level kind snum xx yy lying switched doors beyond offered opn seenb savedb found distance opening)) (hl : lv_has ls 7 [(0, .ref (ad 2)), (1, .long p0), (3, .int p1), (4, .int p2), (5, .int p3), (6, .int p4)]) (h : f_X2_build p0 p1 p2 p3 p4 adv_rooms adv_levels adv_goalRoom adv_allDoors dr_state dr_count parent level kind snum xx yy lying switched doors beyond offered opn = some res) : W p l e rm_X2_build s m args below meth c H locs 0 0 Q (F0 m 0 ls []) := by
  obtain ⟨⟨hx, hb, hml, hown, hts⟩, hK, -, -⟩ := id C
  unfold f_X2_build at h
  refine lv_aload_n hx hb dX2_build_0 rfl (lv_at hl 0 rfl) ?_
  refine va_get (D := D) (ci := 2) (v := .ref (ad 3)) (C := RX2) (T := TX2) (N := 3) hx hb hts lX2_build_X2 hown hK w.1 2 rfl rfl 1 (by decide) (hts _ mX2_build_1) (fun _ h9 => h9) rfl dX2_build_1 ?_
  refine lv_lload_n hx hb dX2_build_4 rfl (lv_at hl 1 rfl) ?_
  obtain ⟨u1, hc1, h⟩ := bd_some h
  refine gl_callv C w (va_runV (As := [.long p0]) (rest := []) ⟨hx, hb, hml, hown, hts⟩ (c_X1_begin l D kA ad H.size lq_situation adv_rooms adv_levels adv_goalRoom adv_allDoors dr_state dr_count se_count parent level kind snum xx yy lying switched doors beyond offered opn seenb savedb found distance opening p0 hc1) (cwV 1 hts gX2_build_X1_begin rfl rfl rfl (by decide +kernel) ⟨Nat.le_of_ble_eq_true rfl, Nat.le_of_ble_eq_true rfl⟩) (Wd.preV C w (q0 := 3) (ci := 1) rfl rfl rfl) rfl rfl hl.1 rfl (lv_room (Nat.le_of_ble_eq_true rfl)) dX2_build_5 ⟨Nat.zero_le _, Nat.zero_le _⟩) (fun H locs w => ?_)
  refine lv_aload_n hx hb dX2_build_8 rfl (lv_at hl 0 rfl) ?_
  obtain ⟨u2, hc2, h⟩ := bd_some h
  refine gl_callv C w (va_runV (As := []) (rest := []) ⟨hx, hb, hml, hown, hts⟩ (c_X2_clear l D kA ad H.size lq_situation adv_rooms adv_levels adv_goalRoom adv_allDoors u1 dr_count se_count parent level kind snum xx yy lying switched doors beyond offered opn seenb savedb found distance opening  hc2) (cwV 0 hts gX2_build_X2_clear rfl rfl rfl (by decide +kernel) ⟨Nat.le_of_ble_eq_true rfl, Nat.le_of_ble_eq_true rfl⟩) (Wd.preV C w (q0 := 2) (ci := 2) rfl rfl rfl) rfl rfl hl.1 rfl (lv_room (Nat.le_of_ble_eq_true rfl)) dX2_build_9 ⟨Nat.zero_le _, Nat.zero_le _⟩) (fun H locs w => ?_)
  refine lv_aload_n hx hb dX2_build_12 rfl (lv_at hl 0 rfl) ?_
  refine va_get (D := D) (ci := 2) (v := .ref (ad 1)) (C := RX2) (T := TX2) (N := 3) hx hb hts lX2_build_X2 hown hK w.1 2 rfl rfl 0 (by decide) (hts _ mX2_build_2) (fun _ h9 => h9) rfl dX2_build_13 ?_
  refine lv_iload_n hx hb dX2_build_16 rfl (lv_at hl 2 rfl) ?_
  refine va_put (D := D) (ci := 0) (v := .int p1) (ty := .int) (C := RX0) (T := TX0) (N := 14) hx hb hts lX2_build_X0 tyX0 tyX0_ok nmX0 hown hK w.1 w.2.1 w.2.2 1 rfl rfl 0 (by decide) (hts _ mX2_build_4) (fun _ h9 => h9) rfl (by decide +kernel) rfl rfl (Nat.le_of_ble_eq_true rfl) dX2_build_17 (fun H locs hP hD hS => ?_)
  have w : Wd D A s H locs (wC kA ad lq_situation p1 adv_levels adv_goalRoom u2.1 u1 dr_count se_count parent level kind snum xx yy u2.2.1 u2.2.2.1 u2.2.2.2 beyond offered opn seenb savedb found distance opening) := ⟨hP, hD, hS⟩
  refine lv_aload_n hx hb dX2_build_20 rfl (lv_at hl 0 rfl) ?_
  refine va_get (D := D) (ci := 2) (v := .ref (ad 1)) (C := RX2) (T := TX2) (N := 3) hx hb hts lX2_build_X2 hown hK w.1 2 rfl rfl 0 (by decide) (hts _ mX2_build_2) (fun _ h9 => h9) rfl dX2_build_21 ?_
  refine lv_iload hx hb dX2_build_24 (lv_at hl 3 rfl) ?_
  refine va_put (D := D) (ci := 0) (v := .int p2) (ty := .int) (C := RX0) (T := TX0) (N := 14) hx hb hts lX2_build_X0 tyX0 tyX0_ok nmX0 hown hK w.1 w.2.1 w.2.2 1 rfl rfl 1 (by decide) (hts _ mX2_build_5) (fun _ h9 => h9) rfl (by decide +kernel) rfl rfl (Nat.le_of_ble_eq_true rfl) dX2_build_26 (fun H locs hP hD hS => ?_)
  have w : Wd D A s H locs (wC kA ad lq_situation p1 p2 adv_goalRoom u2.1 u1 dr_count se_count parent level kind snum xx yy u2.2.1 u2.2.2.1 u2.2.2.2 beyond offered opn seenb savedb found distance opening) := ⟨hP, hD, hS⟩
  refine lv_aload_n hx hb dX2_build_29 rfl (lv_at hl 0 rfl) ?_
  obtain ⟨u3, hc3, h⟩ := bd_some h
  refine gl_callv C w (va_runV (As := []) (rest := []) ⟨hx, hb, hml, hown, hts⟩ (c_X2_addRooms l D kA ad H.size lq_situation p1 p2 adv_goalRoom u2.1 u1 dr_count se_count parent level kind snum xx yy u2.2.1 u2.2.2.1 u2.2.2.2 beyond offered opn seenb savedb found distance opening  hc3) (cwV 0 hts gX2_build_X2_addRooms rfl rfl rfl (by decide +kernel) ⟨Nat.le_of_ble_eq_true rfl, Nat.le_of_ble_eq_true rfl⟩) (Wd.preV C w (q0 := 2) (ci := 2) rfl rfl rfl) rfl rfl hl.1 rfl (lv_room (Nat.le_of_ble_eq_true rfl)) dX2_build_30 ⟨Nat.zero_le _, Nat.zero_le _⟩) (fun H locs w => ?_)
  refine lv_aload_n hx hb dX2_build_33 rfl (lv_at hl 0 rfl) ?_
  obtain ⟨u4, hc4, h⟩ := bd_some h
  refine gl_callv C w (va_runV (As := []) (rest := []) ⟨hx, hb, hml, hown, hts⟩ (c_X2_layKeys l D kA ad H.size lq_situation p1 p2 adv_goalRoom u2.1 u3.1 u3.2.1 se_count u3.2.2.1 u3.2.2.2.1 u3.2.2.2.2.1 snum xx yy u2.2.1 u2.2.2.1 u2.2.2.2 beyond u3.2.2.2.2.2 opn seenb savedb found distance opening  hc4) (cwV 0 hts gX2_build_X2_layKeys rfl rfl rfl (by decide +kernel) ⟨Nat.le_of_ble_eq_true rfl, Nat.le_of_ble_eq_true rfl⟩) (Wd.preV C w (q0 := 2) (ci := 2) rfl rfl rfl) rfl rfl hl.1 rfl (lv_room (Nat.le_of_ble_eq_true rfl)) dX2_build_34 ⟨Nat.zero_le _, Nat.zero_le _⟩) (fun H locs w => ?_)
  refine lv_aload_n hx hb dX2_build_37 rfl (lv_at hl 0 rfl) ?_
  refine lv_aload_n hx hb dX2_build_38 rfl (lv_at hl 0 rfl) ?_
  refine lv_iload hx hb dX2_build_39 (lv_at hl 4 rfl) ?_
  obtain ⟨u5, hc5, h⟩ := bd_some h
  refine gl_calli C w (va_runV (As := [.int p3]) (rest := [.ref (ad 2)]) ⟨hx, hb, hml, hown, hts⟩ (c_X2_makeSmallDoors l D kA ad H.size lq_situation p1 p2 adv_goalRoom u2.1 u4.1 u4.2.1 se_count u3.2.2.1 u3.2.2.2.1 u3.2.2.2.2.1 snum xx yy u4.2.2.1 u2.2.2.1 u2.2.2.2 beyond u4.2.2.2 opn seenb savedb found distance opening p3 hc5) (cwV 1 hts gX2_build_X2_makeSmallDoors rfl rfl rfl (by decide +kernel) ⟨Nat.le_of_ble_eq_true rfl, Nat.le_of_ble_eq_true rfl⟩) (Wd.preV C w (q0 := 2) (ci := 2) rfl rfl rfl) rfl rfl hl.1 rfl (lv_room (Nat.le_of_ble_eq_true rfl)) dX2_build_41 ⟨Nat.zero_le _, Nat.zero_le _⟩) (fun H locs w => ?_)
  obtain ⟨u6, hc6, h⟩ := bd_some h
  refine gl_callv C w (va_runV (As := [.int u5.1]) (rest := []) ⟨hx, hb, hml, hown, hts⟩ (c_X2_laySmallKeys l D kA ad H.size lq_situation p1 p2 adv_goalRoom u2.1 u5.2.1 u5.2.2.1 se_count u3.2.2.1 u3.2.2.2.1 u5.2.2.2.1 u5.2.2.2.2.1 xx yy u4.2.2.1 u2.2.2.1 u2.2.2.2 beyond u5.2.2.2.2.2 opn seenb savedb found distance opening u5.1 hc6) (cwV 1 hts gX2_build_X2_laySmallKeys rfl rfl rfl (by decide +kernel) ⟨Nat.le_of_ble_eq_true rfl, Nat.le_of_ble_eq_true rfl⟩) (Wd.preV C w (q0 := 2) (ci := 2) rfl rfl rfl) rfl rfl hl.1 rfl (lv_room (Nat.le_of_ble_eq_true rfl)) dX2_build_44 ⟨Nat.zero_le _, Nat.zero_le _⟩) (fun H locs w => ?_)
  refine lv_aload_n hx hb dX2_build_47 rfl (lv_at hl 0 rfl) ?_
  refine lv_iload hx hb dX2_build_48 (lv_at hl 5 rfl) ?_
  obtain ⟨u7, hc7, h⟩ := bd_some h
  refine gl_callv C w (va_runV (As := [.int p4]) (rest := []) ⟨hx, hb, hml, hown, hts⟩ (c_X2_makeBarriers l D kA ad H.size lq_situation p1 p2 adv_goalRoom u2.1 u6.1 u6.2.1 se_count u3.2.2.1 u3.2.2.2.1 u5.2.2.2.1 u5.2.2.2.2.1 xx yy u6.2.2.1 u2.2.2.1 u2.2.2.2 beyond u6.2.2.2.1 u6.2.2.2.2 seenb savedb found distance opening p4 hc7) (cwV 1 hts gX2_build_X2_makeBarriers rfl rfl rfl (by decide +kernel) ⟨Nat.le_of_ble_eq_true rfl, Nat.le_of_ble_eq_true rfl⟩) (Wd.preV C w (q0 := 2) (ci := 2) rfl rfl rfl) rfl rfl hl.1 rfl (lv_room (Nat.le_of_ble_eq_true rfl)) dX2_build_50 ⟨Nat.zero_le _, Nat.zero_le _⟩) (fun H locs w => ?_)
  refine lv_aload_n hx hb dX2_build_53 rfl (lv_at hl 0 rfl) ?_
  refine lv_iload hx hb dX2_build_54 (lv_at hl 3 rfl) ?_
  refine lv_iload hx hb dX2_build_56 (lv_at hl 3 rfl) ?_
  obtain ⟨u8, hc8, h⟩ := bd_some h
  refine gl_callv C w (va_runV (As := [.int p2, .int p2]) (rest := []) ⟨hx, hb, hml, hown, hts⟩ (c_X2_offerLevels l D kA ad H.size lq_situation p1 p2 adv_goalRoom u2.1 u7.1 u7.2.1 se_count u3.2.2.1 u3.2.2.2.1 u7.2.2.1 u5.2.2.2.2.1 xx yy u6.2.2.1 u7.2.2.2.1 u2.2.2.2 beyond u7.2.2.2.2 u6.2.2.2.2 seenb savedb found distance opening p2 p2 hc8) (cwV 2 hts gX2_build_X2_offerLevels rfl rfl rfl (by decide +kernel) ⟨Nat.le_of_ble_eq_true rfl, Nat.le_of_ble_eq_true rfl⟩) (Wd.preV C w (q0 := 2) (ci := 2) rfl rfl rfl) rfl rfl hl.1 rfl (lv_room (Nat.le_of_ble_eq_true rfl)) dX2_build_58 ⟨Nat.zero_le _, Nat.zero_le _⟩) (fun H locs w => ?_)
  refine lv_aload_n hx hb dX2_build_61 rfl (lv_at hl 0 rfl) ?_
  refine va_get (D := D) (ci := 2) (v := .ref (ad 1)) (C := RX2) (T := TX2) (N := 3) hx hb hts lX2_build_X2 hown hK w.1 2 rfl rfl 0 (by decide) (hts _ mX2_build_2) (fun _ h9 => h9) rfl dX2_build_62 ?_
  refine lv_aload_n hx hb dX2_build_65 rfl (lv_at hl 0 rfl) ?_
  refine va_get (D := D) (ci := 2) (v := .ref (ad 3)) (C := RX2) (T := TX2) (N := 3) hx hb hts lX2_build_X2 hown hK w.1 2 rfl rfl 1 (by decide) (hts _ mX2_build_1) (fun _ h9 => h9) rfl dX2_build_66 ?_
  obtain ⟨u9, hc9, h⟩ := bd_some h
  refine gl_calli C w (va_runV (As := []) (rest := [.ref (ad 1)]) ⟨hx, hb, hml, hown, hts⟩ (c_X1_offeredRoom l D kA ad H.size lq_situation p1 p2 adv_goalRoom u2.1 u7.1 u8.1 se_count u3.2.2.1 u3.2.2.2.1 u7.2.2.1 u5.2.2.2.2.1 xx yy u6.2.2.1 u7.2.2.2.1 u2.2.2.2 beyond u8.2 u6.2.2.2.2 seenb savedb found distance opening  hc9) (cwV 0 hts gX2_build_X1_offeredRoom rfl rfl rfl (by decide +kernel) ⟨Nat.le_of_ble_eq_true rfl, Nat.le_of_ble_eq_true rfl⟩) (Wd.preV C w (q0 := 3) (ci := 1) rfl rfl rfl) rfl rfl hl.1 rfl (lv_room (Nat.le_of_ble_eq_true rfl)) dX2_build_69 ⟨Nat.zero_le _, Nat.zero_le _⟩) (fun H locs w => ?_)
  refine va_put (D := D) (ci := 0) (v := .int u9.1) (ty := .int) (C := RX0) (T := TX0) (N := 14) hx hb hts lX2_build_X0 tyX0 tyX0_ok nmX0 hown hK w.1 w.2.1 w.2.2 1 rfl rfl 2 (by decide) (hts _ mX2_build_6) (fun _ h9 => h9) rfl (by decide +kernel) rfl rfl (Nat.le_of_ble_eq_true rfl) dX2_build_72 (fun H locs hP hD hS => ?_)
  have w : Wd D A s H locs (wC kA ad lq_situation p1 p2 u9.1 u2.1 u9.2 u8.1 se_count u3.2.2.1 u3.2.2.2.1 u7.2.2.1 u5.2.2.2.2.1 xx yy u6.2.2.1 u7.2.2.2.1 u2.2.2.2 beyond u8.2 u6.2.2.2.2 seenb savedb found distance opening) := ⟨hP, hD, hS⟩
  refine lv_aload_n hx hb dX2_build_75 rfl (lv_at hl 0 rfl) ?_
  obtain ⟨u10, hc10, h⟩ := bd_some h
  refine gl_callv C w (va_runV (As := []) (rest := []) ⟨hx, hb, hml, hown, hts⟩ (c_X2_placeRooms l D kA ad H.size lq_situation p1 p2 u9.1 u2.1 u9.2 u8.1 se_count u3.2.2.1 u3.2.2.2.1 u7.2.2.1 u5.2.2.2.2.1 xx yy u6.2.2.1 u7.2.2.2.1 u2.2.2.2 beyond u8.2 u6.2.2.2.2 seenb savedb found distance opening  hc10) (cwV 0 hts gX2_build_X2_placeRooms rfl rfl rfl (by decide +kernel) ⟨Nat.le_of_ble_eq_true rfl, Nat.le_of_ble_eq_true rfl⟩) (Wd.preV C w (q0 := 2) (ci := 2) rfl rfl rfl) rfl rfl hl.1 rfl (lv_room (Nat.le_of_ble_eq_true rfl)) dX2_build_76 ⟨Nat.zero_le _, Nat.zero_le _⟩) (fun H locs w => ?_)
  refine lv_aload_n hx hb dX2_build_79 rfl (lv_at hl 0 rfl) ?_
  obtain ⟨u11, hc11, h⟩ := bd_some h
  refine gl_callv C w (va_runV (As := []) (rest := []) ⟨hx, hb, hml, hown, hts⟩ (c_X2_joinFamilies l D kA ad H.size lq_situation p1 p2 u9.1 u2.1 u10.1 u8.1 se_count u3.2.2.1 u3.2.2.2.1 u7.2.2.1 u5.2.2.2.2.1 u10.2.1 u10.2.2 u6.2.2.1 u7.2.2.2.1 u2.2.2.2 beyond u8.2 u6.2.2.2.2 seenb savedb found distance opening  hc11) (cwV 0 hts gX2_build_X2_joinFamilies rfl rfl rfl (by decide +kernel) ⟨Nat.le_of_ble_eq_true rfl, Nat.le_of_ble_eq_true rfl⟩) (Wd.preV C w (q0 := 2) (ci := 2) rfl rfl rfl) rfl rfl hl.1 rfl (lv_room (Nat.le_of_ble_eq_true rfl)) dX2_build_80 ⟨Nat.zero_le _, Nat.zero_le _⟩) (fun H locs w => ?_)
  refine lv_aload_n hx hb dX2_build_83 rfl (lv_at hl 0 rfl) ?_
  obtain ⟨u12, hc12, h⟩ := bd_some h
  refine gl_callv C w (va_runV (As := []) (rest := []) ⟨hx, hb, hml, hown, hts⟩ (c_X2_joinLoops l D kA ad H.size lq_situation p1 p2 u9.1 u11.1 u10.1 u8.1 se_count u3.2.2.1 u3.2.2.2.1 u7.2.2.1 u5.2.2.2.2.1 u10.2.1 u10.2.2 u6.2.2.1 u7.2.2.2.1 u11.2.1 u11.2.2 u8.2 u6.2.2.2.2 seenb savedb found distance opening  hc12) (cwV 0 hts gX2_build_X2_joinLoops rfl rfl rfl (by decide +kernel) ⟨Nat.le_of_ble_eq_true rfl, Nat.le_of_ble_eq_true rfl⟩) (Wd.preV C w (q0 := 2) (ci := 2) rfl rfl rfl) rfl rfl hl.1 rfl (lv_room (Nat.le_of_ble_eq_true rfl)) dX2_build_84 ⟨Nat.zero_le _, Nat.zero_le _⟩) (fun H locs w => ?_)
  exact hret _ _ _ _ _ _ _ _ _ _ _ _ _ _ _ _ _ _ _ _ _ _ dX2_build_87 w (Option.some.inj h)
set_option maxHeartbeats 4000000 in
set_option maxRecDepth 100000 in
theorem c_X2_build (l : Launch) (D : va_G) (kA : Nat → ClassId) (ad : Nat → Nat) (sz : Nat) (lq_situation : Int32) (adv_rooms : Int32) (adv_levels : Int32) (adv_goalRoom : Int32) (adv_allDoors : Int32) (dr_state : Int64) (dr_count : Int32) (se_count : Int32) (parent : Nat → Int32) (level : Nat → Int32) (kind : Nat → Int32) (snum : Nat → Int32) (xx : Nat → Int32) (yy : Nat → Int32) (lying : Nat → Int32) (switched : Nat → Int32) (doors : Nat → Int32) (beyond : Nat → Nat → Int32) (offered : Nat → Int32) (opn : Nat → Int32) (seenb : Nat → Int64) (savedb : Nat → Int64) (found : Nat → Int32) (distance : Nat → Int32) (opening : Nat → Int32) (p0 : Int64) (p1 : Int32) (p2 : Int32) (p3 : Int32) (p4 : Int32) {res : Int32 × Int32 × Int32 × Int32 × Int64 × Int32 × (Nat → Int32) × (Nat → Int32) × (Nat → Int32) × (Nat → Int32) × (Nat → Int32) × (Nat → Int32) × (Nat → Int32) × (Nat → Int32) × (Nat → Int32) × (Nat → Nat → Int32) × (Nat → Int32) × (Nat → Int32)} (h : f_X2_build p0 p1 p2 p3 p4 adv_rooms adv_levels adv_goalRoom adv_allDoors dr_state dr_count parent level kind snum xx yy lying switched doors beyond offered opn = some res) : Cv l yX2_build wsX2_build rm_X2_build D kA [.ref (ad 2), .long p0, .int p1, .int p2, .int p3, .int p4] sz (wC kA ad lq_situation adv_rooms adv_levels adv_goalRoom adv_allDoors dr_state dr_count se_count parent level kind snum xx yy lying switched doors beyond offered opn seenb savedb found distance opening) (wC kA ad lq_situation res.1 res.2.1 res.2.2.1 res.2.2.2.1 res.2.2.2.2.1 res.2.2.2.2.2.1 se_count res.2.2.2.2.2.2.1 res.2.2.2.2.2.2.2.1 res.2.2.2.2.2.2.2.2.1 res.2.2.2.2.2.2.2.2.2.1 res.2.2.2.2.2.2.2.2.2.2.1 res.2.2.2.2.2.2.2.2.2.2.2.1 res.2.2.2.2.2.2.2.2.2.2.2.2.1 res.2.2.2.2.2.2.2.2.2.2.2.2.2.1 res.2.2.2.2.2.2.2.2.2.2.2.2.2.2.1 res.2.2.2.2.2.2.2.2.2.2.2.2.2.2.2.1 res.2.2.2.2.2.2.2.2.2.2.2.2.2.2.2.2.1 res.2.2.2.2.2.2.2.2.2.2.2.2.2.2.2.2.2 seenb savedb found distance opening) := by
  refine Met.ofW (cc := cX2_build) (maxL := 7) (ret := none) (by decide) rfl ?_
  intro p e s m args below meth c s₁ B hml hv
  obtain ⟨rfl, hsz, hP, hK, hD0, hX⟩ := hv
  subst hsz
  have hts := atoms_spec (ws := wsX2_build) B.pre
  have hl := lv_entry ([.ref (ad 2), .long p0, .int p1, .int p2, .int p3, .int p4]) (n := 7) (Nat.le_of_ble_eq_true rfl)
  rw [lg_entry_eq]
  have hlocks := B.notSynchronized
  refine t_X2_build (A := va_A (wC kA ad lq_situation adv_rooms adv_levels adv_goalRoom adv_allDoors dr_state dr_count se_count parent level kind snum xx yy lying switched doors beyond offered opn seenb savedb found distance opening) s.heap.size) ⟨⟨B.exec, B.bytes, hml, findClass_of_methodNamed B.named, hts⟩, hK, fun q h => Or.inr h, hX⟩ (fun q0 q1 q2 q3 q4 q5 q6 q7 q8 q9 q10 q11 q12 q13 q14 q15 q16 q17 H locs ls pc hd w hres => ?_) ⟨hP, hD0.self, va_S.rf⟩ hl h
  subst hres
  exact W.vret B.exec B.bytes B.returns (fun t ht hW => ⟨⟨(), rfl, trivial, by rw [ht]; exact w.1, va_K.moved hW.alike hK, w.2.1⟩, w.2.2.F ht⟩) w.2.2.2.2 hd hlocks
-- ('wC', 'LockQuest', 'make', '(JIIII)I', ('lq', None, None, None, None, None))
abbrev rm_X6_make : Room := { frames := 5, cells := 0, slots := 0, locals := 115 }
set_option maxRecDepth 20000 in
theorem lX6_make_X6 : ∀ w ∈ wsX60, w ∈ wsX6_make := by decide +kernel
set_option maxRecDepth 20000 in
theorem mX6_make_1 : Cond.fieldLink RX6 21 "LockQuest" "maker" "LLockQuest$Maker;" ∈ wsX6_make := by decide +kernel
set_option maxRecDepth 20000 in
theorem mX6_make_2 : Cond.fieldLink RX6 38 "LockQuest" "situation" "I" ∈ wsX6_make := by decide +kernel
set_option maxRecDepth 20000 in
theorem mX6_make_3 : Cond.fieldLink RX6 10 "LockQuest" "adventure" "LLockQuest$Adventure;" ∈ wsX6_make := by decide +kernel
set_option maxRecDepth 20000 in
theorem lX6_make_X0 : ∀ w ∈ wsX00, w ∈ wsX6_make := by decide +kernel
set_option maxRecDepth 20000 in
theorem mX6_make_5 : Cond.fieldLink RX6 46 "LockQuest$Adventure" "allDoors" "I" ∈ wsX6_make := by decide +kernel
def f_X6_make (p0 : Int64) (p1 : Int32) (p2 : Int32) (p3 : Int32) (p4 : Int32) (lq_situation : Int32) (adv_rooms : Int32) (adv_levels : Int32) (adv_goalRoom : Int32) (adv_allDoors : Int32) (dr_state : Int64) (dr_count : Int32) (parent : Nat → Int32) (level : Nat → Int32) (kind : Nat → Int32) (snum : Nat → Int32) (xx : Nat → Int32) (yy : Nat → Int32) (lying : Nat → Int32) (switched : Nat → Int32) (doors : Nat → Int32) (beyond : Nat → Nat → Int32) (offered : Nat → Int32) (opn : Nat → Int32) : Option (Int32 × Int32 × Int32 × Int32 × Int32 × Int32 × Int64 × Int32 × (Nat → Int32) × (Nat → Int32) × (Nat → Int32) × (Nat → Int32) × (Nat → Int32) × (Nat → Int32) × (Nat → Int32) × (Nat → Int32) × (Nat → Int32) × (Nat → Nat → Int32) × (Nat → Int32) × (Nat → Int32)) := (f_X6_isWithin p1 (2 : Int32) (12 : Int32)).bind (fun u1 => if u1 = 0 then (some ((-1 : Int32), lq_situation, adv_rooms, adv_levels, adv_goalRoom, adv_allDoors, dr_state, dr_count, parent, level, kind, snum, xx, yy, lying, switched, doors, beyond, offered, opn)) else ((f_X6_isWithin p2 (1 : Int32) (3 : Int32)).bind (fun u3 => if u3 = 0 then (some ((-1 : Int32), lq_situation, adv_rooms, adv_levels, adv_goalRoom, adv_allDoors, dr_state, dr_count, parent, level, kind, snum, xx, yy, lying, switched, doors, beyond, offered, opn)) else (if p1 ≤ p2 then (some ((-1 : Int32), lq_situation, adv_rooms, adv_levels, adv_goalRoom, adv_allDoors, dr_state, dr_count, parent, level, kind, snum, xx, yy, lying, switched, doors, beyond, offered, opn)) else ((f_X6_isWithin p3 (0 : Int32) (3 : Int32)).bind (fun u6 => if u6 = 0 then (some ((-1 : Int32), lq_situation, adv_rooms, adv_levels, adv_goalRoom, adv_allDoors, dr_state, dr_count, parent, level, kind, snum, xx, yy, lying, switched, doors, beyond, offered, opn)) else ((f_X6_isWithin p4 (0 : Int32) (2 : Int32)).bind (fun u8 => if u8 = 0 then (some ((-1 : Int32), lq_situation, adv_rooms, adv_levels, adv_goalRoom, adv_allDoors, dr_state, dr_count, parent, level, kind, snum, xx, yy, lying, switched, doors, beyond, offered, opn)) else ((f_X2_build p0 p1 p2 p3 p4 adv_rooms adv_levels adv_goalRoom adv_allDoors dr_state dr_count parent level kind snum xx yy lying switched doors beyond offered opn).bind (fun u10 => some (u10.2.2.2.1, (0 : Int32), u10.1, u10.2.1, u10.2.2.1, u10.2.2.2.1, u10.2.2.2.2.1, u10.2.2.2.2.2.1, u10.2.2.2.2.2.2.1, u10.2.2.2.2.2.2.2.1, u10.2.2.2.2.2.2.2.2.1, u10.2.2.2.2.2.2.2.2.2.1, u10.2.2.2.2.2.2.2.2.2.2.1, u10.2.2.2.2.2.2.2.2.2.2.2.1, u10.2.2.2.2.2.2.2.2.2.2.2.2.1, u10.2.2.2.2.2.2.2.2.2.2.2.2.2.1, u10.2.2.2.2.2.2.2.2.2.2.2.2.2.2.1, u10.2.2.2.2.2.2.2.2.2.2.2.2.2.2.2.1, u10.2.2.2.2.2.2.2.2.2.2.2.2.2.2.2.2.1, u10.2.2.2.2.2.2.2.2.2.2.2.2.2.2.2.2.2)))))))))))
set_option maxHeartbeats 4000000 in
set_option maxRecDepth 100000 in
theorem t_X6_make {p : Program} {l : Launch} {e : Env} {s : State} {m : MethodId} {args : Array Value} {below : List Frame} {meth : Method} {c : Code} {Q : State → Prop} {D : va_G} {kA : Nat → ClassId} {ad : Nat → Nat} {A : Nat → Prop} {lq_situation : Int32} {adv_rooms : Int32} {adv_levels : Int32} {adv_goalRoom : Int32} {adv_allDoors : Int32} {dr_state : Int64} {dr_count : Int32} {se_count : Int32} {parent : Nat → Int32} {level : Nat → Int32} {kind : Nat → Int32} {snum : Nat → Int32} {xx : Nat → Int32} {yy : Nat → Int32} {lying : Nat → Int32} {switched : Nat → Int32} {doors : Nat → Int32} {beyond : Nat → Nat → Int32} {offered : Nat → Int32} {opn : Nat → Int32} {seenb : Nat → Int64} {savedb : Nat → Int64} {found : Nat → Int32} {distance : Nat → Int32} {opening : Nat → Int32} {p0 : Int64} {p1 : Int32} {p2 : Int32} {p3 : Int32} {p4 : Int32} {res : Int32 × Int32 × Int32 × Int32 × Int32 × Int32 × Int64 × Int32 × (Nat → Int32) × (Nat → Int32) × (Nat → Int32) × (Nat → Int32) × (Nat → Int32) × (Nat → Int32) × (Nat → Int32) × (Nat → Int32) × (Nat → Int32) × (Nat → Nat → Int32) × (Nat → Int32) × (Nat → Int32)} (C : Cx p s m c args cX6_make 7 RX6 wsX6_make D kA A) (hret : ∀ (r : Int32) (q0 : Int32) (q1 : Int32) (q2 : Int32) (q3 : Int32) (q4 : Int32) (q5 : Int64) (q6 : Int32) (q7 : Nat → Int32) (q8 : Nat → Int32) (q9 : Nat → Int32) (q10 : Nat → Int32) (q11 : Nat → Int32) (q12 : Nat → Int32) (q13 : Nat → Int32) (q14 : Nat → Int32) (q15 : Nat → Int32) (q16 : Nat → Nat → Int32) (q17 : Nat → Int32) (q18 : Nat → Int32) (H : Heap) (locs : List Loc) (ls : Array Slot) (pc : Nat), decode cX6_make pc = .ok (.ireturn, 1) → Wd D A s H locs (wC kA ad q0 q1 q2 q3 q4 q5 q6 se_count q7 q8 q9 q10 q11 q12 q13 q14 q15 q16 q17 q18 seenb savedb found distance opening) → (r, q0, q1, q2, q3, q4, q5, q6, q7, q8, q9, q10, q11, q12, q13, q14, q15, q16, q17, q18) = res → W p l e rm_X6_make s m args below meth c H locs 0 0 Q (F0 m pc ls [.int r])) {H : Heap} {locs : List Loc} {ls : Array Slot} (w : Wd D A s H locs (wC kA ad lq_situation adv_rooms adv_levels adv_goalRoom adv_allDoors dr_state dr_count se_count parent level kind snum xx yy lying switched doors beyond offered opn seenb savedb found distance opening)) (hl : lv_has ls 7 [(0, .ref (ad 0)), (1, .long p0), (3, .int p1), (4, .int p2), (5, .int p3), (6, .int p4)]) (h : f_X6_make p0 p1 p2 p3 p4 lq_situation adv_rooms adv_levels adv_goalRoom adv_allDoors dr_state dr_count parent level kind snum xx yy lying switched doors beyond offered opn = some res) : W p l e rm_X6_make s m args below meth c H locs 0 0 Q (F0 m 0 ls []) := by
  obtain ⟨⟨hx, hb, hml, hown, hts⟩, hK, -, -⟩ := id C
  unfold f_X6_make at h
  refine lv_iload_n hx hb dX6_make_0 rfl (lv_at hl 2 rfl) ?_
  refine lv_iconst (v := 2) hx hb dX6_make_1 (by decide) ?_
  refine lv_bipush (v := 12) hx hb dX6_make_2 (by decide) ?_
  obtain ⟨u1, hc1, h⟩ := bd_some h
  refine gl_calli C w (va_runS (As := [.int p1, .int (2 : Int32), .int (12 : Int32)]) (rest := []) ⟨hx, hb, hml, hown, hts⟩ (c_X6_isWithin l D kA ad H.size lq_situation adv_rooms adv_levels adv_goalRoom adv_allDoors dr_state dr_count se_count parent level kind snum xx yy lying switched doors beyond offered opn seenb savedb found distance opening p1 (2 : Int32) (12 : Int32) hc1) (va_cwS 3 hts gX6_make_X6_isWithin rfl rfl rfl (by decide +kernel) ⟨Nat.le_of_ble_eq_true rfl, Nat.le_of_ble_eq_true rfl⟩) (Wd.preS C w) rfl rfl hl.1 rfl (lv_room (Nat.le_of_ble_eq_true rfl)) dX6_make_4 ⟨Nat.zero_le _, Nat.zero_le _⟩) (fun H locs w => ?_)
  refine lv_if_eq (tgt := 46) hx hb dX6_make_7 (by decide) (fun g2 => ?_) (fun g2 => ?_)
  · replace h := it_pos g2 h
    refine lv_iconst (v := -1) hx hb dX6_make_46 (by decide) ?_
    exact hret _ _ _ _ _ _ _ _ _ _ _ _ _ _ _ _ _ _ _ _ _ _ _ _ dX6_make_47 w (Option.some.inj h)
  · replace h := it_neg g2 h
    refine lv_iload hx hb dX6_make_10 (lv_at hl 3 rfl) ?_
    refine lv_iconst (v := 1) hx hb dX6_make_12 (by decide) ?_
    refine lv_iconst (v := 3) hx hb dX6_make_13 (by decide) ?_
    obtain ⟨u3, hc3, h⟩ := bd_some h
    refine gl_calli C w (va_runS (As := [.int p2, .int (1 : Int32), .int (3 : Int32)]) (rest := []) ⟨hx, hb, hml, hown, hts⟩ (c_X6_isWithin l D kA ad H.size lq_situation adv_rooms adv_levels adv_goalRoom adv_allDoors dr_state dr_count se_count parent level kind snum xx yy lying switched doors beyond offered opn seenb savedb found distance opening p2 (1 : Int32) (3 : Int32) hc3) (va_cwS 3 hts gX6_make_X6_isWithin rfl rfl rfl (by decide +kernel) ⟨Nat.le_of_ble_eq_true rfl, Nat.le_of_ble_eq_true rfl⟩) (Wd.preS C w) rfl rfl hl.1 rfl (lv_room (Nat.le_of_ble_eq_true rfl)) dX6_make_14 ⟨Nat.zero_le _, Nat.zero_le _⟩) (fun H locs w => ?_)
    refine lv_if_eq (tgt := 46) hx hb dX6_make_17 (by decide) (fun g4 => ?_) (fun g4 => ?_)
    · replace h := it_pos g4 h
      refine lv_iconst (v := -1) hx hb dX6_make_46 (by decide) ?_
      exact hret _ _ _ _ _ _ _ _ _ _ _ _ _ _ _ _ _ _ _ _ _ _ _ _ dX6_make_47 w (Option.some.inj h)
    · replace h := it_neg g4 h
      refine lv_iload hx hb dX6_make_20 (lv_at hl 3 rfl) ?_
      refine lv_iload_n hx hb dX6_make_22 rfl (lv_at hl 2 rfl) ?_
      refine lv_icmp_ge (tgt := 46) hx hb dX6_make_23 (by decide) (fun g5 => ?_) (fun g5 => ?_)
      · replace h := it_pos g5 h
        refine lv_iconst (v := -1) hx hb dX6_make_46 (by decide) ?_
        exact hret _ _ _ _ _ _ _ _ _ _ _ _ _ _ _ _ _ _ _ _ _ _ _ _ dX6_make_47 w (Option.some.inj h)
      · replace h := it_neg g5 h
        refine lv_iload hx hb dX6_make_26 (lv_at hl 4 rfl) ?_
        refine lv_iconst (v := 0) hx hb dX6_make_28 (by decide) ?_
        refine lv_iconst (v := 3) hx hb dX6_make_29 (by decide) ?_
        obtain ⟨u6, hc6, h⟩ := bd_some h
        refine gl_calli C w (va_runS (As := [.int p3, .int (0 : Int32), .int (3 : Int32)]) (rest := []) ⟨hx, hb, hml, hown, hts⟩ (c_X6_isWithin l D kA ad H.size lq_situation adv_rooms adv_levels adv_goalRoom adv_allDoors dr_state dr_count se_count parent level kind snum xx yy lying switched doors beyond offered opn seenb savedb found distance opening p3 (0 : Int32) (3 : Int32) hc6) (va_cwS 3 hts gX6_make_X6_isWithin rfl rfl rfl (by decide +kernel) ⟨Nat.le_of_ble_eq_true rfl, Nat.le_of_ble_eq_true rfl⟩) (Wd.preS C w) rfl rfl hl.1 rfl (lv_room (Nat.le_of_ble_eq_true rfl)) dX6_make_30 ⟨Nat.zero_le _, Nat.zero_le _⟩) (fun H locs w => ?_)
        refine lv_if_eq (tgt := 46) hx hb dX6_make_33 (by decide) (fun g7 => ?_) (fun g7 => ?_)
        · replace h := it_pos g7 h
          refine lv_iconst (v := -1) hx hb dX6_make_46 (by decide) ?_
          exact hret _ _ _ _ _ _ _ _ _ _ _ _ _ _ _ _ _ _ _ _ _ _ _ _ dX6_make_47 w (Option.some.inj h)
        · replace h := it_neg g7 h
          refine lv_iload hx hb dX6_make_36 (lv_at hl 5 rfl) ?_
          refine lv_iconst (v := 0) hx hb dX6_make_38 (by decide) ?_
          refine lv_iconst (v := 2) hx hb dX6_make_39 (by decide) ?_
          obtain ⟨u8, hc8, h⟩ := bd_some h
          refine gl_calli C w (va_runS (As := [.int p4, .int (0 : Int32), .int (2 : Int32)]) (rest := []) ⟨hx, hb, hml, hown, hts⟩ (c_X6_isWithin l D kA ad H.size lq_situation adv_rooms adv_levels adv_goalRoom adv_allDoors dr_state dr_count se_count parent level kind snum xx yy lying switched doors beyond offered opn seenb savedb found distance opening p4 (0 : Int32) (2 : Int32) hc8) (va_cwS 3 hts gX6_make_X6_isWithin rfl rfl rfl (by decide +kernel) ⟨Nat.le_of_ble_eq_true rfl, Nat.le_of_ble_eq_true rfl⟩) (Wd.preS C w) rfl rfl hl.1 rfl (lv_room (Nat.le_of_ble_eq_true rfl)) dX6_make_40 ⟨Nat.zero_le _, Nat.zero_le _⟩) (fun H locs w => ?_)
          refine lv_if_ne (tgt := 48) hx hb dX6_make_43 (by decide) (fun g9 => ?_) (fun g9 => ?_)
          · replace h := it_neg g9 h
            refine lv_aload_n hx hb dX6_make_48 rfl (lv_at hl 0 rfl) ?_
            refine va_get (D := D) (ci := 5) (v := .ref (ad 2)) (C := RX6) (T := TX6) (N := 4) hx hb hts lX6_make_X6 hown hK w.1 0 rfl rfl 1 (by decide) (hts _ mX6_make_1) (fun _ h9 => h9) rfl dX6_make_49 ?_
            refine lv_lload_n hx hb dX6_make_52 rfl (lv_at hl 1 rfl) ?_
            refine lv_iload_n hx hb dX6_make_53 rfl (lv_at hl 2 rfl) ?_
            refine lv_iload hx hb dX6_make_54 (lv_at hl 3 rfl) ?_
            refine lv_iload hx hb dX6_make_56 (lv_at hl 4 rfl) ?_
            refine lv_iload hx hb dX6_make_58 (lv_at hl 5 rfl) ?_
            obtain ⟨u10, hc10, h⟩ := bd_some h
            refine gl_callv C w (va_runV (As := [.long p0, .int p1, .int p2, .int p3, .int p4]) (rest := []) ⟨hx, hb, hml, hown, hts⟩ (c_X2_build l D kA ad H.size lq_situation adv_rooms adv_levels adv_goalRoom adv_allDoors dr_state dr_count se_count parent level kind snum xx yy lying switched doors beyond offered opn seenb savedb found distance opening p0 p1 p2 p3 p4 hc10) (cwV 5 hts gX6_make_X2_build rfl rfl rfl (by decide +kernel) ⟨Nat.le_of_ble_eq_true rfl, Nat.le_of_ble_eq_true rfl⟩) (Wd.preV C w (q0 := 2) (ci := 2) rfl rfl rfl) rfl rfl hl.1 rfl (lv_room (Nat.le_of_ble_eq_true rfl)) dX6_make_60 ⟨Nat.zero_le _, Nat.zero_le _⟩) (fun H locs w => ?_)
            refine lv_aload_n hx hb dX6_make_63 rfl (lv_at hl 0 rfl) ?_
            refine lv_iconst (v := 0) hx hb dX6_make_64 (by decide) ?_
            refine va_put (D := D) (ci := 5) (v := .int (0 : Int32)) (ty := .int) (C := RX6) (T := TX6) (N := 4) hx hb hts lX6_make_X6 tyX6 tyX6_ok nmX6 hown hK w.1 w.2.1 w.2.2 0 rfl rfl 3 (by decide) (hts _ mX6_make_2) (fun _ h9 => h9) rfl (by decide +kernel) rfl rfl (Nat.le_of_ble_eq_true rfl) dX6_make_65 (fun H locs hP hD hS => ?_)
            have w : Wd D A s H locs (wC kA ad (0 : Int32) u10.1 u10.2.1 u10.2.2.1 u10.2.2.2.1 u10.2.2.2.2.1 u10.2.2.2.2.2.1 se_count u10.2.2.2.2.2.2.1 u10.2.2.2.2.2.2.2.1 u10.2.2.2.2.2.2.2.2.1 u10.2.2.2.2.2.2.2.2.2.1 u10.2.2.2.2.2.2.2.2.2.2.1 u10.2.2.2.2.2.2.2.2.2.2.2.1 u10.2.2.2.2.2.2.2.2.2.2.2.2.1 u10.2.2.2.2.2.2.2.2.2.2.2.2.2.1 u10.2.2.2.2.2.2.2.2.2.2.2.2.2.2.1 u10.2.2.2.2.2.2.2.2.2.2.2.2.2.2.2.1 u10.2.2.2.2.2.2.2.2.2.2.2.2.2.2.2.2.1 u10.2.2.2.2.2.2.2.2.2.2.2.2.2.2.2.2.2 seenb savedb found distance opening) := ⟨hP, hD, hS⟩
            refine lv_aload_n hx hb dX6_make_68 rfl (lv_at hl 0 rfl) ?_
            refine va_get (D := D) (ci := 5) (v := .ref (ad 1)) (C := RX6) (T := TX6) (N := 4) hx hb hts lX6_make_X6 hown hK w.1 0 rfl rfl 0 (by decide) (hts _ mX6_make_3) (fun _ h9 => h9) rfl dX6_make_69 ?_
            refine va_get (D := D) (ci := 0) (v := .int u10.2.2.2.1) (C := RX0) (T := TX0) (N := 14) hx hb hts lX6_make_X0 hown hK w.1 1 rfl rfl 3 (by decide) (hts _ mX6_make_5) (fun _ h9 => h9) rfl dX6_make_72 ?_
            exact hret _ _ _ _ _ _ _ _ _ _ _ _ _ _ _ _ _ _ _ _ _ _ _ _ dX6_make_75 w (Option.some.inj h)
          · replace h := it_pos g9 h
            refine lv_iconst (v := -1) hx hb dX6_make_46 (by decide) ?_
            exact hret _ _ _ _ _ _ _ _ _ _ _ _ _ _ _ _ _ _ _ _ _ _ _ _ dX6_make_47 w (Option.some.inj h)
set_option maxHeartbeats 4000000 in
set_option maxRecDepth 100000 in
theorem c_X6_make (l : Launch) (D : va_G) (kA : Nat → ClassId) (ad : Nat → Nat) (sz : Nat) (lq_situation : Int32) (adv_rooms : Int32) (adv_levels : Int32) (adv_goalRoom : Int32) (adv_allDoors : Int32) (dr_state : Int64) (dr_count : Int32) (se_count : Int32) (parent : Nat → Int32) (level : Nat → Int32) (kind : Nat → Int32) (snum : Nat → Int32) (xx : Nat → Int32) (yy : Nat → Int32) (lying : Nat → Int32) (switched : Nat → Int32) (doors : Nat → Int32) (beyond : Nat → Nat → Int32) (offered : Nat → Int32) (opn : Nat → Int32) (seenb : Nat → Int64) (savedb : Nat → Int64) (found : Nat → Int32) (distance : Nat → Int32) (opening : Nat → Int32) (p0 : Int64) (p1 : Int32) (p2 : Int32) (p3 : Int32) (p4 : Int32) {res : Int32 × Int32 × Int32 × Int32 × Int32 × Int32 × Int64 × Int32 × (Nat → Int32) × (Nat → Int32) × (Nat → Int32) × (Nat → Int32) × (Nat → Int32) × (Nat → Int32) × (Nat → Int32) × (Nat → Int32) × (Nat → Int32) × (Nat → Nat → Int32) × (Nat → Int32) × (Nat → Int32)} (h : f_X6_make p0 p1 p2 p3 p4 lq_situation adv_rooms adv_levels adv_goalRoom adv_allDoors dr_state dr_count parent level kind snum xx yy lying switched doors beyond offered opn = some res) : Ci l yX6_make wsX6_make rm_X6_make D kA [.ref (ad 0), .long p0, .int p1, .int p2, .int p3, .int p4] sz (wC kA ad lq_situation adv_rooms adv_levels adv_goalRoom adv_allDoors dr_state dr_count se_count parent level kind snum xx yy lying switched doors beyond offered opn seenb savedb found distance opening) (wC kA ad res.2.1 res.2.2.1 res.2.2.2.1 res.2.2.2.2.1 res.2.2.2.2.2.1 res.2.2.2.2.2.2.1 res.2.2.2.2.2.2.2.1 se_count res.2.2.2.2.2.2.2.2.1 res.2.2.2.2.2.2.2.2.2.1 res.2.2.2.2.2.2.2.2.2.2.1 res.2.2.2.2.2.2.2.2.2.2.2.1 res.2.2.2.2.2.2.2.2.2.2.2.2.1 res.2.2.2.2.2.2.2.2.2.2.2.2.2.1 res.2.2.2.2.2.2.2.2.2.2.2.2.2.2.1 res.2.2.2.2.2.2.2.2.2.2.2.2.2.2.2.1 res.2.2.2.2.2.2.2.2.2.2.2.2.2.2.2.2.1 res.2.2.2.2.2.2.2.2.2.2.2.2.2.2.2.2.2.1 res.2.2.2.2.2.2.2.2.2.2.2.2.2.2.2.2.2.2.1 res.2.2.2.2.2.2.2.2.2.2.2.2.2.2.2.2.2.2.2 seenb savedb found distance opening) res.1 := by
  refine Met.ofW (cc := cX6_make) (maxL := 7) (ret := (some .int)) (by decide) rfl ?_
  intro p e s m args below meth c s₁ B hml hv
  obtain ⟨rfl, hsz, hP, hK, hD0, hX⟩ := hv
  subst hsz
  have hts := atoms_spec (ws := wsX6_make) B.pre
  have hl := lv_entry ([.ref (ad 0), .long p0, .int p1, .int p2, .int p3, .int p4]) (n := 7) (Nat.le_of_ble_eq_true rfl)
  rw [lg_entry_eq]
  have hlocks := B.notSynchronized
  refine t_X6_make (A := va_A (wC kA ad lq_situation adv_rooms adv_levels adv_goalRoom adv_allDoors dr_state dr_count se_count parent level kind snum xx yy lying switched doors beyond offered opn seenb savedb found distance opening) s.heap.size) ⟨⟨B.exec, B.bytes, hml, findClass_of_methodNamed B.named, hts⟩, hK, fun q h => Or.inr h, hX⟩ (fun r q0 q1 q2 q3 q4 q5 q6 q7 q8 q9 q10 q11 q12 q13 q14 q15 q16 q17 q18 H locs ls pc hd w hres => ?_) ⟨hP, hD0.self, va_S.rf⟩ hl h
  subst hres
  exact W.iret B.exec B.bytes B.returns (fun t ht hW => ⟨⟨_, (), rfl, rfl, by rw [ht]; exact w.1, va_K.moved hW.alike hK, w.2.1⟩, w.2.2.F ht⟩) w.2.2.2.2 hd hlocks
-- ('wC', 'LockQuest$Adventure', 'hasRoom', '(I)Z', ('adv', None))
abbrev rm_X0_hasRoom : Room := { frames := 0, cells := 0, slots := 0, locals := 0 }
set_option maxRecDepth 20000 in
theorem lX0_hasRoom_X0 : ∀ w ∈ wsX00, w ∈ wsX0_hasRoom := by decide +kernel
set_option maxRecDepth 20000 in
theorem mX0_hasRoom_1 : Cond.fieldLink RX0 45 "LockQuest$Adventure" "rooms" "I" ∈ wsX0_hasRoom := by decide +kernel
def f_X0_hasRoom (p0 : Int32) (adv_rooms : Int32) : Option (Int32) := if p0 < 0 then (some (0 : Int32)) else (if adv_rooms ≤ p0 then (some (0 : Int32)) else (some (1 : Int32)))
set_option maxHeartbeats 4000000 in
set_option maxRecDepth 100000 in
theorem t_X0_hasRoom {p : Program} {l : Launch} {e : Env} {s : State} {m : MethodId} {args : Array Value} {below : List Frame} {meth : Method} {c : Code} {Q : State → Prop} {D : va_G} {kA : Nat → ClassId} {ad : Nat → Nat} {A : Nat → Prop} {lq_situation : Int32} {adv_rooms : Int32} {adv_levels : Int32} {adv_goalRoom : Int32} {adv_allDoors : Int32} {dr_state : Int64} {dr_count : Int32} {se_count : Int32} {parent : Nat → Int32} {level : Nat → Int32} {kind : Nat → Int32} {snum : Nat → Int32} {xx : Nat → Int32} {yy : Nat → Int32} {lying : Nat → Int32} {switched : Nat → Int32} {doors : Nat → Int32} {beyond : Nat → Nat → Int32} {offered : Nat → Int32} {opn : Nat → Int32} {seenb : Nat → Int64} {savedb : Nat → Int64} {found : Nat → Int32} {distance : Nat → Int32} {opening : Nat → Int32} {p0 : Int32} {res : Int32} (C : Cx p s m c args cX0_hasRoom 2 RX0 wsX0_hasRoom D kA A) (hret : ∀ (r : Int32) (H : Heap) (locs : List Loc) (ls : Array Slot) (pc : Nat), decode cX0_hasRoom pc = .ok (.ireturn, 1) → narrow .boolean (.int r) = .int r → Wd D A s H locs (wC kA ad lq_situation adv_rooms adv_levels adv_goalRoom adv_allDoors dr_state dr_count se_count parent level kind snum xx yy lying switched doors beyond offered opn seenb savedb found distance opening) → r = res → W p l e rm_X0_hasRoom s m args below meth c H locs 0 0 Q (F0 m pc ls [.int r])) {H : Heap} {locs : List Loc} {ls : Array Slot} (w : Wd D A s H locs (wC kA ad lq_situation adv_rooms adv_levels adv_goalRoom adv_allDoors dr_state dr_count se_count parent level kind snum xx yy lying switched doors beyond offered opn seenb savedb found distance opening)) (hl : lv_has ls 2 [(0, .ref (ad 1)), (1, .int p0)]) (h : f_X0_hasRoom p0 adv_rooms = some res) : W p l e rm_X0_hasRoom s m args below meth c H locs 0 0 Q (F0 m 0 ls []) := by
  obtain ⟨⟨hx, hb, hml, hown, hts⟩, hK, -, -⟩ := id C
  unfold f_X0_hasRoom at h
  refine lv_iload_n hx hb dX0_hasRoom_0 rfl (lv_at hl 1 rfl) ?_
  refine lv_if_lt (tgt := 16) hx hb dX0_hasRoom_1 (by decide) (fun g1 => ?_) (fun g1 => ?_)
  · replace h := it_pos g1 h
    refine lv_iconst (v := 0) hx hb dX0_hasRoom_16 (by decide) ?_
    exact hret _ _ _ _ _ dX0_hasRoom_17 rfl w (Option.some.inj h)
  · replace h := it_neg g1 h
    refine lv_iload_n hx hb dX0_hasRoom_4 rfl (lv_at hl 1 rfl) ?_
    refine lv_aload_n hx hb dX0_hasRoom_5 rfl (lv_at hl 0 rfl) ?_
    refine va_get (D := D) (ci := 0) (v := .int adv_rooms) (C := RX0) (T := TX0) (N := 14) hx hb hts lX0_hasRoom_X0 hown hK w.1 1 rfl rfl 0 (by decide) (hts _ mX0_hasRoom_1) (fun _ h9 => h9) rfl dX0_hasRoom_6 ?_
    refine lv_icmp_ge (tgt := 16) hx hb dX0_hasRoom_9 (by decide) (fun g2 => ?_) (fun g2 => ?_)
    · replace h := it_pos g2 h
      refine lv_iconst (v := 0) hx hb dX0_hasRoom_16 (by decide) ?_
      exact hret _ _ _ _ _ dX0_hasRoom_17 rfl w (Option.some.inj h)
    · replace h := it_neg g2 h
      refine lv_iconst (v := 1) hx hb dX0_hasRoom_12 (by decide) ?_
      refine lv_goto (tgt := 17) hx hb dX0_hasRoom_13 (by decide) ?_
      exact hret _ _ _ _ _ dX0_hasRoom_17 rfl w (Option.some.inj h)
set_option maxHeartbeats 4000000 in
set_option maxRecDepth 100000 in
theorem c_X0_hasRoom (l : Launch) (D : va_G) (kA : Nat → ClassId) (ad : Nat → Nat) (sz : Nat) (lq_situation : Int32) (adv_rooms : Int32) (adv_levels : Int32) (adv_goalRoom : Int32) (adv_allDoors : Int32) (dr_state : Int64) (dr_count : Int32) (se_count : Int32) (parent : Nat → Int32) (level : Nat → Int32) (kind : Nat → Int32) (snum : Nat → Int32) (xx : Nat → Int32) (yy : Nat → Int32) (lying : Nat → Int32) (switched : Nat → Int32) (doors : Nat → Int32) (beyond : Nat → Nat → Int32) (offered : Nat → Int32) (opn : Nat → Int32) (seenb : Nat → Int64) (savedb : Nat → Int64) (found : Nat → Int32) (distance : Nat → Int32) (opening : Nat → Int32) (p0 : Int32) {res : Int32} (h : f_X0_hasRoom p0 adv_rooms = some res) : Ci l yX0_hasRoom wsX0_hasRoom rm_X0_hasRoom D kA [.ref (ad 1), .int p0] sz (wC kA ad lq_situation adv_rooms adv_levels adv_goalRoom adv_allDoors dr_state dr_count se_count parent level kind snum xx yy lying switched doors beyond offered opn seenb savedb found distance opening) (wC kA ad lq_situation adv_rooms adv_levels adv_goalRoom adv_allDoors dr_state dr_count se_count parent level kind snum xx yy lying switched doors beyond offered opn seenb savedb found distance opening) res := by
  refine Met.ofW (cc := cX0_hasRoom) (maxL := 2) (ret := (some .boolean)) (by decide) rfl ?_
  intro p e s m args below meth c s₁ B hml hv
  obtain ⟨rfl, hsz, hP, hK, hD0, hX⟩ := hv
  subst hsz
  have hts := atoms_spec (ws := wsX0_hasRoom) B.pre
  have hl := lv_entry ([.ref (ad 1), .int p0]) (n := 2) (Nat.le_of_ble_eq_true rfl)
  rw [lg_entry_eq]
  have hlocks := B.notSynchronized
  refine t_X0_hasRoom (A := va_A (wC kA ad lq_situation adv_rooms adv_levels adv_goalRoom adv_allDoors dr_state dr_count se_count parent level kind snum xx yy lying switched doors beyond offered opn seenb savedb found distance opening) s.heap.size) ⟨⟨B.exec, B.bytes, hml, findClass_of_methodNamed B.named, hts⟩, hK, fun q h => Or.inr h, hX⟩ (fun r H locs ls pc hd hz w hres => ?_) ⟨hP, hD0.self, va_S.rf⟩ hl h
  subst hres
  exact W.zret B.exec B.bytes B.returns hz (fun t ht hW => ⟨⟨_, (), rfl, rfl, by rw [ht]; exact w.1, va_K.moved hW.alike hK, w.2.1⟩, w.2.2.F ht⟩) w.2.2.2.2 hd hlocks
-- ('wC', 'LockQuest', 'room', '(II)I', ('lq', None, None))
abbrev rm_X6_room : Room := { frames := 1, cells := 0, slots := 0, locals := 21 }
set_option maxRecDepth 20000 in
theorem lX6_room_X6 : ∀ w ∈ wsX60, w ∈ wsX6_room := by decide +kernel
set_option maxRecDepth 20000 in
theorem mX6_room_1 : Cond.fieldLink RX6 10 "LockQuest" "adventure" "LLockQuest$Adventure;" ∈ wsX6_room := by decide +kernel
set_option maxRecDepth 20000 in
theorem lX6_room_X0 : ∀ w ∈ wsX00, w ∈ wsX6_room := by decide +kernel
set_option maxRecDepth 20000 in
theorem mX6_room_3 : Cond.fieldLink RX6 53 "LockQuest$Adventure" "parent" "[I" ∈ wsX6_room := by decide +kernel
set_option maxRecDepth 20000 in
theorem mX6_room_4 : Cond.fieldLink RX6 57 "LockQuest$Adventure" "level" "[I" ∈ wsX6_room := by decide +kernel
set_option maxRecDepth 20000 in
theorem mX6_room_5 : Cond.fieldLink RX6 60 "LockQuest$Adventure" "kind" "[I" ∈ wsX6_room := by decide +kernel
set_option maxRecDepth 20000 in
theorem mX6_room_6 : Cond.fieldLink RX6 63 "LockQuest$Adventure" "x" "[I" ∈ wsX6_room := by decide +kernel
set_option maxRecDepth 20000 in
theorem mX6_room_7 : Cond.fieldLink RX6 66 "LockQuest$Adventure" "y" "[I" ∈ wsX6_room := by decide +kernel
set_option maxRecDepth 20000 in
theorem mX6_room_8 : Cond.fieldLink RX6 69 "LockQuest$Adventure" "lying" "[I" ∈ wsX6_room := by decide +kernel
set_option maxRecDepth 20000 in
theorem mX6_room_9 : Cond.fieldLink RX6 72 "LockQuest$Adventure" "switched" "[Z" ∈ wsX6_room := by decide +kernel
set_option maxRecDepth 20000 in
theorem mX6_room_10 : Cond.fieldLink RX6 76 "LockQuest$Adventure" "doors" "[I" ∈ wsX6_room := by decide +kernel
def f_X6_room (p0 : Int32) (p1 : Int32) (adv_rooms : Int32) (parent : Nat → Int32) (level : Nat → Int32) (kind : Nat → Int32) (xx : Nat → Int32) (yy : Nat → Int32) (lying : Nat → Int32) (switched : Nat → Int32) (doors : Nat → Int32) : Option (Int32) := (f_X0_hasRoom p0 adv_rooms).bind (fun u1 => if u1 = 0 then (some (-100 : Int32)) else (if p1 = (0 : Int32) then (gd (p0 < 0 ∨ 12 ≤ p0.toNatClampNeg) (some (parent p0.toNatClampNeg))) else (if p1 = (1 : Int32) then (gd (p0 < 0 ∨ 12 ≤ p0.toNatClampNeg) (some (level p0.toNatClampNeg))) else (if p1 = (2 : Int32) then (gd (p0 < 0 ∨ 12 ≤ p0.toNatClampNeg) (some (kind p0.toNatClampNeg))) else (if p1 = (3 : Int32) then (gd (p0 < 0 ∨ 12 ≤ p0.toNatClampNeg) (some (xx p0.toNatClampNeg))) else (if p1 = (4 : Int32) then (gd (p0 < 0 ∨ 12 ≤ p0.toNatClampNeg) (some (yy p0.toNatClampNeg))) else (if p1 = (5 : Int32) then (gd (p0 < 0 ∨ 12 ≤ p0.toNatClampNeg) (some (lying p0.toNatClampNeg))) else (if p1 = (6 : Int32) then (gd (p0 < 0 ∨ 12 ≤ p0.toNatClampNeg) (if (switched p0.toNatClampNeg) = 0 then (some (0 : Int32)) else (some (1 : Int32)))) else (if p1 = (7 : Int32) then (gd (p0 < 0 ∨ 12 ≤ p0.toNatClampNeg) (some (doors p0.toNatClampNeg))) else (some (-100 : Int32)))))))))))
set_option maxHeartbeats 4000000 in
set_option maxRecDepth 100000 in
theorem t_X6_room {p : Program} {l : Launch} {e : Env} {s : State} {m : MethodId} {args : Array Value} {below : List Frame} {meth : Method} {c : Code} {Q : State → Prop} {D : va_G} {kA : Nat → ClassId} {ad : Nat → Nat} {A : Nat → Prop} {lq_situation : Int32} {adv_rooms : Int32} {adv_levels : Int32} {adv_goalRoom : Int32} {adv_allDoors : Int32} {dr_state : Int64} {dr_count : Int32} {se_count : Int32} {parent : Nat → Int32} {level : Nat → Int32} {kind : Nat → Int32} {snum : Nat → Int32} {xx : Nat → Int32} {yy : Nat → Int32} {lying : Nat → Int32} {switched : Nat → Int32} {doors : Nat → Int32} {beyond : Nat → Nat → Int32} {offered : Nat → Int32} {opn : Nat → Int32} {seenb : Nat → Int64} {savedb : Nat → Int64} {found : Nat → Int32} {distance : Nat → Int32} {opening : Nat → Int32} {p0 : Int32} {p1 : Int32} {res : Int32} (C : Cx p s m c args cX6_room 3 RX6 wsX6_room D kA A) (hret : ∀ (r : Int32) (H : Heap) (locs : List Loc) (ls : Array Slot) (pc : Nat), decode cX6_room pc = .ok (.ireturn, 1) → Wd D A s H locs (wC kA ad lq_situation adv_rooms adv_levels adv_goalRoom adv_allDoors dr_state dr_count se_count parent level kind snum xx yy lying switched doors beyond offered opn seenb savedb found distance opening) → r = res → W p l e rm_X6_room s m args below meth c H locs 0 0 Q (F0 m pc ls [.int r])) {H : Heap} {locs : List Loc} {ls : Array Slot} (w : Wd D A s H locs (wC kA ad lq_situation adv_rooms adv_levels adv_goalRoom adv_allDoors dr_state dr_count se_count parent level kind snum xx yy lying switched doors beyond offered opn seenb savedb found distance opening)) (hl : lv_has ls 3 [(0, .ref (ad 0)), (1, .int p0), (2, .int p1)]) (h : f_X6_room p0 p1 adv_rooms parent level kind xx yy lying switched doors = some res) : W p l e rm_X6_room s m args below meth c H locs 0 0 Q (F0 m 0 ls []) := by
  obtain ⟨⟨hx, hb, hml, hown, hts⟩, hK, -, -⟩ := id C
  unfold f_X6_room at h
  refine lv_aload_n hx hb dX6_room_0 rfl (lv_at hl 0 rfl) ?_
  refine va_get (D := D) (ci := 5) (v := .ref (ad 1)) (C := RX6) (T := TX6) (N := 4) hx hb hts lX6_room_X6 hown hK w.1 0 rfl rfl 0 (by decide) (hts _ mX6_room_1) (fun _ h9 => h9) rfl dX6_room_1 ?_
  refine lv_iload_n hx hb dX6_room_4 rfl (lv_at hl 1 rfl) ?_
  obtain ⟨u1, hc1, h⟩ := bd_some h
  refine gl_calli C w (va_runV (As := [.int p0]) (rest := []) ⟨hx, hb, hml, hown, hts⟩ (c_X0_hasRoom l D kA ad H.size lq_situation adv_rooms adv_levels adv_goalRoom adv_allDoors dr_state dr_count se_count parent level kind snum xx yy lying switched doors beyond offered opn seenb savedb found distance opening p0 hc1) (cwV 1 hts gX6_room_X0_hasRoom rfl rfl rfl (by decide +kernel) ⟨Nat.le_of_ble_eq_true rfl, Nat.le_of_ble_eq_true rfl⟩) (Wd.preV C w (q0 := 1) (ci := 0) rfl rfl rfl) rfl rfl hl.1 rfl (lv_room (Nat.le_of_ble_eq_true rfl)) dX6_room_5 ⟨Nat.zero_le _, Nat.zero_le _⟩) (fun H locs w => ?_)
  refine lv_if_ne (tgt := 14) hx hb dX6_room_8 (by decide) (fun g2 => ?_) (fun g2 => ?_)
  · replace h := it_neg g2 h
    refine lv_iload_n hx hb dX6_room_14 rfl (lv_at hl 2 rfl) ?_
    by_cases g3 : p1 = (0 : Int32)
    · replace h := it_pos g3 h
      refine lv_tableIn (off := 45) (tgt := 60) hx hb dX6_room_15 (by rw [g3]; decide) (by rw [g3]; decide) (by rw [g3]; rfl) (by decide) ?_
      refine lv_aload_n hx hb dX6_room_60 rfl (lv_at hl 0 rfl) ?_
      refine va_get (D := D) (ci := 5) (v := .ref (ad 1)) (C := RX6) (T := TX6) (N := 4) hx hb hts lX6_room_X6 hown hK w.1 0 rfl rfl 0 (by decide) (hts _ mX6_room_1) (fun _ h9 => h9) rfl dX6_room_61 ?_
      refine va_get (D := D) (ci := 0) (v := .ref (ad 7)) (C := RX0) (T := TX0) (N := 14) hx hb hts lX6_room_X0 hown hK w.1 1 rfl rfl 4 (by decide) (hts _ mX6_room_3) (fun _ h9 => h9) rfl dX6_room_64 ?_
      refine lv_iload_n hx hb dX6_room_67 rfl (lv_at hl 1 rfl) ?_
      obtain ⟨g4, h⟩ := gd_some h
      refine va_iald hx hb hK w.1 7 0 rfl rfl g4 dX6_room_68 ?_
      exact hret _ _ _ _ _ dX6_room_69 w (Option.some.inj h)
    replace h := it_neg g3 h
    by_cases g5 : p1 = (1 : Int32)
    · replace h := it_pos g5 h
      refine lv_tableIn (off := 55) (tgt := 70) hx hb dX6_room_15 (by rw [g5]; decide) (by rw [g5]; decide) (by rw [g5]; rfl) (by decide) ?_
      refine lv_aload_n hx hb dX6_room_70 rfl (lv_at hl 0 rfl) ?_
      refine va_get (D := D) (ci := 5) (v := .ref (ad 1)) (C := RX6) (T := TX6) (N := 4) hx hb hts lX6_room_X6 hown hK w.1 0 rfl rfl 0 (by decide) (hts _ mX6_room_1) (fun _ h9 => h9) rfl dX6_room_71 ?_
      refine va_get (D := D) (ci := 0) (v := .ref (ad 8)) (C := RX0) (T := TX0) (N := 14) hx hb hts lX6_room_X0 hown hK w.1 1 rfl rfl 5 (by decide) (hts _ mX6_room_4) (fun _ h9 => h9) rfl dX6_room_74 ?_
      refine lv_iload_n hx hb dX6_room_77 rfl (lv_at hl 1 rfl) ?_
      obtain ⟨g6, h⟩ := gd_some h
      refine va_iald hx hb hK w.1 8 0 rfl rfl g6 dX6_room_78 ?_
      exact hret _ _ _ _ _ dX6_room_79 w (Option.some.inj h)
    replace h := it_neg g5 h
    by_cases g7 : p1 = (2 : Int32)
    · replace h := it_pos g7 h
      refine lv_tableIn (off := 65) (tgt := 80) hx hb dX6_room_15 (by rw [g7]; decide) (by rw [g7]; decide) (by rw [g7]; rfl) (by decide) ?_
      refine lv_aload_n hx hb dX6_room_80 rfl (lv_at hl 0 rfl) ?_
      refine va_get (D := D) (ci := 5) (v := .ref (ad 1)) (C := RX6) (T := TX6) (N := 4) hx hb hts lX6_room_X6 hown hK w.1 0 rfl rfl 0 (by decide) (hts _ mX6_room_1) (fun _ h9 => h9) rfl dX6_room_81 ?_
      refine va_get (D := D) (ci := 0) (v := .ref (ad 9)) (C := RX0) (T := TX0) (N := 14) hx hb hts lX6_room_X0 hown hK w.1 1 rfl rfl 6 (by decide) (hts _ mX6_room_5) (fun _ h9 => h9) rfl dX6_room_84 ?_
      refine lv_iload_n hx hb dX6_room_87 rfl (lv_at hl 1 rfl) ?_
      obtain ⟨g8, h⟩ := gd_some h
      refine va_iald hx hb hK w.1 9 0 rfl rfl g8 dX6_room_88 ?_
      exact hret _ _ _ _ _ dX6_room_89 w (Option.some.inj h)
    replace h := it_neg g7 h
    by_cases g9 : p1 = (3 : Int32)
    · replace h := it_pos g9 h
      refine lv_tableIn (off := 75) (tgt := 90) hx hb dX6_room_15 (by rw [g9]; decide) (by rw [g9]; decide) (by rw [g9]; rfl) (by decide) ?_
      refine lv_aload_n hx hb dX6_room_90 rfl (lv_at hl 0 rfl) ?_
      refine va_get (D := D) (ci := 5) (v := .ref (ad 1)) (C := RX6) (T := TX6) (N := 4) hx hb hts lX6_room_X6 hown hK w.1 0 rfl rfl 0 (by decide) (hts _ mX6_room_1) (fun _ h9 => h9) rfl dX6_room_91 ?_
      refine va_get (D := D) (ci := 0) (v := .ref (ad 11)) (C := RX0) (T := TX0) (N := 14) hx hb hts lX6_room_X0 hown hK w.1 1 rfl rfl 8 (by decide) (hts _ mX6_room_6) (fun _ h9 => h9) rfl dX6_room_94 ?_
      refine lv_iload_n hx hb dX6_room_97 rfl (lv_at hl 1 rfl) ?_
      obtain ⟨g10, h⟩ := gd_some h
      refine va_iald hx hb hK w.1 11 0 rfl rfl g10 dX6_room_98 ?_
      exact hret _ _ _ _ _ dX6_room_99 w (Option.some.inj h)
    replace h := it_neg g9 h
    by_cases g11 : p1 = (4 : Int32)
    · replace h := it_pos g11 h
      refine lv_tableIn (off := 85) (tgt := 100) hx hb dX6_room_15 (by rw [g11]; decide) (by rw [g11]; decide) (by rw [g11]; rfl) (by decide) ?_
      refine lv_aload_n hx hb dX6_room_100 rfl (lv_at hl 0 rfl) ?_
      refine va_get (D := D) (ci := 5) (v := .ref (ad 1)) (C := RX6) (T := TX6) (N := 4) hx hb hts lX6_room_X6 hown hK w.1 0 rfl rfl 0 (by decide) (hts _ mX6_room_1) (fun _ h9 => h9) rfl dX6_room_101 ?_
      refine va_get (D := D) (ci := 0) (v := .ref (ad 12)) (C := RX0) (T := TX0) (N := 14) hx hb hts lX6_room_X0 hown hK w.1 1 rfl rfl 9 (by decide) (hts _ mX6_room_7) (fun _ h9 => h9) rfl dX6_room_104 ?_
      refine lv_iload_n hx hb dX6_room_107 rfl (lv_at hl 1 rfl) ?_
      obtain ⟨g12, h⟩ := gd_some h
      refine va_iald hx hb hK w.1 12 0 rfl rfl g12 dX6_room_108 ?_
      exact hret _ _ _ _ _ dX6_room_109 w (Option.some.inj h)
    replace h := it_neg g11 h
    by_cases g13 : p1 = (5 : Int32)
    · replace h := it_pos g13 h
      refine lv_tableIn (off := 95) (tgt := 110) hx hb dX6_room_15 (by rw [g13]; decide) (by rw [g13]; decide) (by rw [g13]; rfl) (by decide) ?_
      refine lv_aload_n hx hb dX6_room_110 rfl (lv_at hl 0 rfl) ?_
      refine va_get (D := D) (ci := 5) (v := .ref (ad 1)) (C := RX6) (T := TX6) (N := 4) hx hb hts lX6_room_X6 hown hK w.1 0 rfl rfl 0 (by decide) (hts _ mX6_room_1) (fun _ h9 => h9) rfl dX6_room_111 ?_
      refine va_get (D := D) (ci := 0) (v := .ref (ad 13)) (C := RX0) (T := TX0) (N := 14) hx hb hts lX6_room_X0 hown hK w.1 1 rfl rfl 10 (by decide) (hts _ mX6_room_8) (fun _ h9 => h9) rfl dX6_room_114 ?_
      refine lv_iload_n hx hb dX6_room_117 rfl (lv_at hl 1 rfl) ?_
      obtain ⟨g14, h⟩ := gd_some h
      refine va_iald hx hb hK w.1 13 0 rfl rfl g14 dX6_room_118 ?_
      exact hret _ _ _ _ _ dX6_room_119 w (Option.some.inj h)
    replace h := it_neg g13 h
    by_cases g15 : p1 = (6 : Int32)
    · replace h := it_pos g15 h
      refine lv_tableIn (off := 105) (tgt := 120) hx hb dX6_room_15 (by rw [g15]; decide) (by rw [g15]; decide) (by rw [g15]; rfl) (by decide) ?_
      refine lv_aload_n hx hb dX6_room_120 rfl (lv_at hl 0 rfl) ?_
      refine va_get (D := D) (ci := 5) (v := .ref (ad 1)) (C := RX6) (T := TX6) (N := 4) hx hb hts lX6_room_X6 hown hK w.1 0 rfl rfl 0 (by decide) (hts _ mX6_room_1) (fun _ h9 => h9) rfl dX6_room_121 ?_
      refine va_get (D := D) (ci := 0) (v := .ref (ad 14)) (C := RX0) (T := TX0) (N := 14) hx hb hts lX6_room_X0 hown hK w.1 1 rfl rfl 11 (by decide) (hts _ mX6_room_9) (fun _ h9 => h9) rfl dX6_room_124 ?_
      refine lv_iload_n hx hb dX6_room_127 rfl (lv_at hl 1 rfl) ?_
      obtain ⟨g16, h⟩ := gd_some h
      refine va_zald hx hb hK w.1 14 2 rfl rfl g16 dX6_room_128 ?_
      refine lv_if_eq (tgt := 136) hx hb dX6_room_129 (by decide) (fun g17 => ?_) (fun g17 => ?_)
      · replace h := it_pos g17 h
        refine lv_iconst (v := 0) hx hb dX6_room_136 (by decide) ?_
        exact hret _ _ _ _ _ dX6_room_137 w (Option.some.inj h)
      · replace h := it_neg g17 h
        refine lv_iconst (v := 1) hx hb dX6_room_132 (by decide) ?_
        refine lv_goto (tgt := 137) hx hb dX6_room_133 (by decide) ?_
        exact hret _ _ _ _ _ dX6_room_137 w (Option.some.inj h)
    replace h := it_neg g15 h
    by_cases g18 : p1 = (7 : Int32)
    · replace h := it_pos g18 h
      refine lv_tableIn (off := 123) (tgt := 138) hx hb dX6_room_15 (by rw [g18]; decide) (by rw [g18]; decide) (by rw [g18]; rfl) (by decide) ?_
      refine lv_aload_n hx hb dX6_room_138 rfl (lv_at hl 0 rfl) ?_
      refine va_get (D := D) (ci := 5) (v := .ref (ad 1)) (C := RX6) (T := TX6) (N := 4) hx hb hts lX6_room_X6 hown hK w.1 0 rfl rfl 0 (by decide) (hts _ mX6_room_1) (fun _ h9 => h9) rfl dX6_room_139 ?_
      refine va_get (D := D) (ci := 0) (v := .ref (ad 15)) (C := RX0) (T := TX0) (N := 14) hx hb hts lX6_room_X0 hown hK w.1 1 rfl rfl 12 (by decide) (hts _ mX6_room_10) (fun _ h9 => h9) rfl dX6_room_142 ?_
      refine lv_iload_n hx hb dX6_room_145 rfl (lv_at hl 1 rfl) ?_
      obtain ⟨g19, h⟩ := gd_some h
      refine va_iald hx hb hK w.1 15 0 rfl rfl g19 dX6_room_146 ?_
      exact hret _ _ _ _ _ dX6_room_147 w (Option.some.inj h)
    replace h := it_neg g18 h
    have hout : p1.toInt < 0 ∨ 7 < p1.toInt := by
      have eg3 : p1.toInt ≠ 0 := fun q => g3 (Int32.toInt_inj.mp (q.trans (by decide)))
      have eg5 : p1.toInt ≠ 1 := fun q => g5 (Int32.toInt_inj.mp (q.trans (by decide)))
      have eg7 : p1.toInt ≠ 2 := fun q => g7 (Int32.toInt_inj.mp (q.trans (by decide)))
      have eg9 : p1.toInt ≠ 3 := fun q => g9 (Int32.toInt_inj.mp (q.trans (by decide)))
      have eg11 : p1.toInt ≠ 4 := fun q => g11 (Int32.toInt_inj.mp (q.trans (by decide)))
      have eg13 : p1.toInt ≠ 5 := fun q => g13 (Int32.toInt_inj.mp (q.trans (by decide)))
      have eg15 : p1.toInt ≠ 6 := fun q => g15 (Int32.toInt_inj.mp (q.trans (by decide)))
      have eg18 : p1.toInt ≠ 7 := fun q => g18 (Int32.toInt_inj.mp (q.trans (by decide)))
      omega
    refine lv_tableOut (tgt := 148) hx hb dX6_room_15 hout (by decide) ?_
    refine lv_bipush (v := -100) hx hb dX6_room_148 (by decide) ?_
    exact hret _ _ _ _ _ dX6_room_150 w (Option.some.inj h)
  · replace h := it_pos g2 h
    refine lv_bipush (v := -100) hx hb dX6_room_11 (by decide) ?_
    exact hret _ _ _ _ _ dX6_room_13 w (Option.some.inj h)
set_option maxHeartbeats 4000000 in
set_option maxRecDepth 100000 in
theorem c_X6_room (l : Launch) (D : va_G) (kA : Nat → ClassId) (ad : Nat → Nat) (sz : Nat) (lq_situation : Int32) (adv_rooms : Int32) (adv_levels : Int32) (adv_goalRoom : Int32) (adv_allDoors : Int32) (dr_state : Int64) (dr_count : Int32) (se_count : Int32) (parent : Nat → Int32) (level : Nat → Int32) (kind : Nat → Int32) (snum : Nat → Int32) (xx : Nat → Int32) (yy : Nat → Int32) (lying : Nat → Int32) (switched : Nat → Int32) (doors : Nat → Int32) (beyond : Nat → Nat → Int32) (offered : Nat → Int32) (opn : Nat → Int32) (seenb : Nat → Int64) (savedb : Nat → Int64) (found : Nat → Int32) (distance : Nat → Int32) (opening : Nat → Int32) (p0 : Int32) (p1 : Int32) {res : Int32} (h : f_X6_room p0 p1 adv_rooms parent level kind xx yy lying switched doors = some res) : Ci l yX6_room wsX6_room rm_X6_room D kA [.ref (ad 0), .int p0, .int p1] sz (wC kA ad lq_situation adv_rooms adv_levels adv_goalRoom adv_allDoors dr_state dr_count se_count parent level kind snum xx yy lying switched doors beyond offered opn seenb savedb found distance opening) (wC kA ad lq_situation adv_rooms adv_levels adv_goalRoom adv_allDoors dr_state dr_count se_count parent level kind snum xx yy lying switched doors beyond offered opn seenb savedb found distance opening) res := by
  refine Met.ofW (cc := cX6_room) (maxL := 3) (ret := (some .int)) (by decide) rfl ?_
  intro p e s m args below meth c s₁ B hml hv
  obtain ⟨rfl, hsz, hP, hK, hD0, hX⟩ := hv
  subst hsz
  have hts := atoms_spec (ws := wsX6_room) B.pre
  have hl := lv_entry ([.ref (ad 0), .int p0, .int p1]) (n := 3) (Nat.le_of_ble_eq_true rfl)
  rw [lg_entry_eq]
  have hlocks := B.notSynchronized
  refine t_X6_room (A := va_A (wC kA ad lq_situation adv_rooms adv_levels adv_goalRoom adv_allDoors dr_state dr_count se_count parent level kind snum xx yy lying switched doors beyond offered opn seenb savedb found distance opening) s.heap.size) ⟨⟨B.exec, B.bytes, hml, findClass_of_methodNamed B.named, hts⟩, hK, fun q h => Or.inr h, hX⟩ (fun r H locs ls pc hd w hres => ?_) ⟨hP, hD0.self, va_S.rf⟩ hl h
  subst hres
  exact W.iret B.exec B.bytes B.returns (fun t ht hW => ⟨⟨_, (), rfl, rfl, by rw [ht]; exact w.1, va_K.moved hW.alike hK, w.2.1⟩, w.2.2.F ht⟩) w.2.2.2.2 hd hlocks
-- ('wC', 'LockQuest$Adventure', 'hasDoor', '(II)Z', ('adv', None, None))
abbrev rm_X0_hasDoor : Room := { frames := 1, cells := 0, slots := 0, locals := 21 }
set_option maxRecDepth 20000 in
theorem lX0_hasDoor_X0 : ∀ w ∈ wsX00, w ∈ wsX0_hasDoor := by decide +kernel
set_option maxRecDepth 20000 in
theorem mX0_hasDoor_1 : Cond.fieldLink RX0 37 "LockQuest$Adventure" "doors" "[I" ∈ wsX0_hasDoor := by decide +kernel
def f_X0_hasDoor (p0 : Int32) (p1 : Int32) (adv_rooms : Int32) (doors : Nat → Int32) : Option (Int32) := (f_X0_hasRoom p0 adv_rooms).bind (fun u1 => if u1 = 0 then (some (0 : Int32)) else (if p1 < 0 then (some (0 : Int32)) else (gd (p0 < 0 ∨ 12 ≤ p0.toNatClampNeg) (if (doors p0.toNatClampNeg) ≤ p1 then (some (0 : Int32)) else (some (1 : Int32))))))
set_option maxHeartbeats 4000000 in
set_option maxRecDepth 100000 in
theorem t_X0_hasDoor {p : Program} {l : Launch} {e : Env} {s : State} {m : MethodId} {args : Array Value} {below : List Frame} {meth : Method} {c : Code} {Q : State → Prop} {D : va_G} {kA : Nat → ClassId} {ad : Nat → Nat} {A : Nat → Prop} {lq_situation : Int32} {adv_rooms : Int32} {adv_levels : Int32} {adv_goalRoom : Int32} {adv_allDoors : Int32} {dr_state : Int64} {dr_count : Int32} {se_count : Int32} {parent : Nat → Int32} {level : Nat → Int32} {kind : Nat → Int32} {snum : Nat → Int32} {xx : Nat → Int32} {yy : Nat → Int32} {lying : Nat → Int32} {switched : Nat → Int32} {doors : Nat → Int32} {beyond : Nat → Nat → Int32} {offered : Nat → Int32} {opn : Nat → Int32} {seenb : Nat → Int64} {savedb : Nat → Int64} {found : Nat → Int32} {distance : Nat → Int32} {opening : Nat → Int32} {p0 : Int32} {p1 : Int32} {res : Int32} (C : Cx p s m c args cX0_hasDoor 3 RX0 wsX0_hasDoor D kA A) (hret : ∀ (r : Int32) (H : Heap) (locs : List Loc) (ls : Array Slot) (pc : Nat), decode cX0_hasDoor pc = .ok (.ireturn, 1) → narrow .boolean (.int r) = .int r → Wd D A s H locs (wC kA ad lq_situation adv_rooms adv_levels adv_goalRoom adv_allDoors dr_state dr_count se_count parent level kind snum xx yy lying switched doors beyond offered opn seenb savedb found distance opening) → r = res → W p l e rm_X0_hasDoor s m args below meth c H locs 0 0 Q (F0 m pc ls [.int r])) {H : Heap} {locs : List Loc} {ls : Array Slot} (w : Wd D A s H locs (wC kA ad lq_situation adv_rooms adv_levels adv_goalRoom adv_allDoors dr_state dr_count se_count parent level kind snum xx yy lying switched doors beyond offered opn seenb savedb found distance opening)) (hl : lv_has ls 3 [(0, .ref (ad 1)), (1, .int p0), (2, .int p1)]) (h : f_X0_hasDoor p0 p1 adv_rooms doors = some res) : W p l e rm_X0_hasDoor s m args below meth c H locs 0 0 Q (F0 m 0 ls []) := by
  obtain ⟨⟨hx, hb, hml, hown, hts⟩, hK, -, -⟩ := id C
  unfold f_X0_hasDoor at h
  refine lv_aload_n hx hb dX0_hasDoor_0 rfl (lv_at hl 0 rfl) ?_
  refine lv_iload_n hx hb dX0_hasDoor_1 rfl (lv_at hl 1 rfl) ?_
  obtain ⟨u1, hc1, h⟩ := bd_some h
  refine gl_calli C w (va_runV (As := [.int p0]) (rest := []) ⟨hx, hb, hml, hown, hts⟩ (c_X0_hasRoom l D kA ad H.size lq_situation adv_rooms adv_levels adv_goalRoom adv_allDoors dr_state dr_count se_count parent level kind snum xx yy lying switched doors beyond offered opn seenb savedb found distance opening p0 hc1) (cwV 1 hts gX0_hasDoor_X0_hasRoom rfl rfl rfl (by decide +kernel) ⟨Nat.le_of_ble_eq_true rfl, Nat.le_of_ble_eq_true rfl⟩) (Wd.preV C w (q0 := 1) (ci := 0) rfl rfl rfl) rfl rfl hl.1 rfl (lv_room (Nat.le_of_ble_eq_true rfl)) dX0_hasDoor_2 ⟨Nat.zero_le _, Nat.zero_le _⟩) (fun H locs w => ?_)
  refine lv_if_eq (tgt := 26) hx hb dX0_hasDoor_5 (by decide) (fun g2 => ?_) (fun g2 => ?_)
  · replace h := it_pos g2 h
    refine lv_iconst (v := 0) hx hb dX0_hasDoor_26 (by decide) ?_
    exact hret _ _ _ _ _ dX0_hasDoor_27 rfl w (Option.some.inj h)
  · replace h := it_neg g2 h
    refine lv_iload_n hx hb dX0_hasDoor_8 rfl (lv_at hl 2 rfl) ?_
    refine lv_if_lt (tgt := 26) hx hb dX0_hasDoor_9 (by decide) (fun g3 => ?_) (fun g3 => ?_)
    · replace h := it_pos g3 h
      refine lv_iconst (v := 0) hx hb dX0_hasDoor_26 (by decide) ?_
      exact hret _ _ _ _ _ dX0_hasDoor_27 rfl w (Option.some.inj h)
    · replace h := it_neg g3 h
      refine lv_iload_n hx hb dX0_hasDoor_12 rfl (lv_at hl 2 rfl) ?_
      refine lv_aload_n hx hb dX0_hasDoor_13 rfl (lv_at hl 0 rfl) ?_
      refine va_get (D := D) (ci := 0) (v := .ref (ad 15)) (C := RX0) (T := TX0) (N := 14) hx hb hts lX0_hasDoor_X0 hown hK w.1 1 rfl rfl 12 (by decide) (hts _ mX0_hasDoor_1) (fun _ h9 => h9) rfl dX0_hasDoor_14 ?_
      refine lv_iload_n hx hb dX0_hasDoor_17 rfl (lv_at hl 1 rfl) ?_
      obtain ⟨g4, h⟩ := gd_some h
      refine va_iald hx hb hK w.1 15 0 rfl rfl g4 dX0_hasDoor_18 ?_
      refine lv_icmp_ge (tgt := 26) hx hb dX0_hasDoor_19 (by decide) (fun g5 => ?_) (fun g5 => ?_)
      · replace h := it_pos g5 h
        refine lv_iconst (v := 0) hx hb dX0_hasDoor_26 (by decide) ?_
        exact hret _ _ _ _ _ dX0_hasDoor_27 rfl w (Option.some.inj h)
      · replace h := it_neg g5 h
        refine lv_iconst (v := 1) hx hb dX0_hasDoor_22 (by decide) ?_
        refine lv_goto (tgt := 27) hx hb dX0_hasDoor_23 (by decide) ?_
        exact hret _ _ _ _ _ dX0_hasDoor_27 rfl w (Option.some.inj h)
set_option maxHeartbeats 4000000 in
set_option maxRecDepth 100000 in
theorem c_X0_hasDoor (l : Launch) (D : va_G) (kA : Nat → ClassId) (ad : Nat → Nat) (sz : Nat) (lq_situation : Int32) (adv_rooms : Int32) (adv_levels : Int32) (adv_goalRoom : Int32) (adv_allDoors : Int32) (dr_state : Int64) (dr_count : Int32) (se_count : Int32) (parent : Nat → Int32) (level : Nat → Int32) (kind : Nat → Int32) (snum : Nat → Int32) (xx : Nat → Int32) (yy : Nat → Int32) (lying : Nat → Int32) (switched : Nat → Int32) (doors : Nat → Int32) (beyond : Nat → Nat → Int32) (offered : Nat → Int32) (opn : Nat → Int32) (seenb : Nat → Int64) (savedb : Nat → Int64) (found : Nat → Int32) (distance : Nat → Int32) (opening : Nat → Int32) (p0 : Int32) (p1 : Int32) {res : Int32} (h : f_X0_hasDoor p0 p1 adv_rooms doors = some res) : Ci l yX0_hasDoor wsX0_hasDoor rm_X0_hasDoor D kA [.ref (ad 1), .int p0, .int p1] sz (wC kA ad lq_situation adv_rooms adv_levels adv_goalRoom adv_allDoors dr_state dr_count se_count parent level kind snum xx yy lying switched doors beyond offered opn seenb savedb found distance opening) (wC kA ad lq_situation adv_rooms adv_levels adv_goalRoom adv_allDoors dr_state dr_count se_count parent level kind snum xx yy lying switched doors beyond offered opn seenb savedb found distance opening) res := by
  refine Met.ofW (cc := cX0_hasDoor) (maxL := 3) (ret := (some .boolean)) (by decide) rfl ?_
  intro p e s m args below meth c s₁ B hml hv
  obtain ⟨rfl, hsz, hP, hK, hD0, hX⟩ := hv
  subst hsz
  have hts := atoms_spec (ws := wsX0_hasDoor) B.pre
  have hl := lv_entry ([.ref (ad 1), .int p0, .int p1]) (n := 3) (Nat.le_of_ble_eq_true rfl)
  rw [lg_entry_eq]
  have hlocks := B.notSynchronized
  refine t_X0_hasDoor (A := va_A (wC kA ad lq_situation adv_rooms adv_levels adv_goalRoom adv_allDoors dr_state dr_count se_count parent level kind snum xx yy lying switched doors beyond offered opn seenb savedb found distance opening) s.heap.size) ⟨⟨B.exec, B.bytes, hml, findClass_of_methodNamed B.named, hts⟩, hK, fun q h => Or.inr h, hX⟩ (fun r H locs ls pc hd hz w hres => ?_) ⟨hP, hD0.self, va_S.rf⟩ hl h
  subst hres
  exact W.zret B.exec B.bytes B.returns hz (fun t ht hW => ⟨⟨_, (), rfl, rfl, by rw [ht]; exact w.1, va_K.moved hW.alike hK, w.2.1⟩, w.2.2.F ht⟩) w.2.2.2.2 hd hlocks
