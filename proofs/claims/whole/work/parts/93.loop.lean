/-! The law's loop. -/
set_option maxHeartbeats 4000000 in
set_option maxRecDepth 100000 in
theorem law_loop {p : Program} {e : Env} {s : State} {m : MethodId} {below : List Frame} {meth : Method} {c : Code} (l : Launch) {b L : Nat} {xs : Nat → Int32} {D : va_G} {kA : Nat → ClassId} {ad am : Nat → Nat} (hL : L ≤ 3584) (C : Cx p s m c #[Value.ref b] cL_law 4 RL wsL_law D kA (fun q => s.heap.size ≤ q)) (hr : meth.sig.returnType = ret) (hlocks : meth.locks = false) (hX : va_X b L xs s s.heap) (hbl : b < s.heap.size) :
    ∀ (n i : Nat), L + 8 ≤ n + i → i ≤ L + 7 → ∀ (t : CT) (u : MT) (H : Heap) (locs : List Loc) (ls : Array Slot), AgT t u → Wd D (fun q => s.heap.size ≤ q) s H locs (wCt kA ad t ++ wMt kA am u) → lv_has ls 4 [(3, .int (nI i)), (2, .ref (am 0)), (1, .ref (ad 0)), (0, .ref b)] → W p l e room_1 s m #[Value.ref b] below meth c H locs 600000 7302250 (lw_Z below #[Value.ref b] s) (F0 m 18 ls []) := by
  intro n
  induction n with
  | zero => intro i h1 h2; omega
  | succ n ih =>
    intro i h1 h2 t u H locs ls hAg w hl
    obtain ⟨⟨hx, hb, hml, hown, hts⟩, hK, hA, -⟩ := id C
    have hbA : ¬ (fun q : Nat => s.heap.size ≤ q) b := Nat.not_le.mpr hbl
    refine lv_iload_n hx hb dL_law_18 rfl (lv_at hl 0 rfl) ?_
    refine lv_aload_n hx hb dL_law_19 rfl (lv_at hl 3 rfl) ?_
    refine va_slen hx hb hX hbl hbA w.2.2 dL_law_20 ?_
    refine lv_bipush (v := 7) hx hb dL_law_21 (by decide) ?_
    refine lv_isub hx hb dL_law_23 ?_
    refine lv_icmp_gt (tgt := 422) hx hb dL_law_24 (by decide) (fun g => ?_) (fun g => ?_)
    · refine lv_iconst (v := 1) hx hb dL_law_422 (by decide) ?_
      refine va_forget (fun q hq => w.2.2.2.2 q hq) ?_
      exact lw_ret hx hb hr hlocks dL_law_423
    · have hi : i + 7 ≤ L := by
        rcases Nat.lt_or_ge L (i + 7) with y | y
        · refine absurd (Int32.lt_iff_toInt_lt.mpr ?_) g
          show (nI L - nI 7).toInt < (nI i).toInt
          rw [pk_sub_toInt (by omega) (by omega), nI_toInt (by omega)]
          omega
        · exact y
      have go : ∀ (t' : CT) (u' : MT) (H1 : Heap) (locs1 : List Loc), AgT t' u' → Wd D (fun q => s.heap.size ≤ q) s H1 locs1 (wCt kA ad t' ++ wMt kA am u') → W p l e room_1 s m #[Value.ref b] below meth c H1 locs1 600000 7302250 (lw_Z below #[Value.ref b] s) (F0 m 416 ls []) := by
        intro t' u' H1 locs1 hA1 w1
        refine lv_iinc (v := nI i + (7 : Int32)) (lv' := [(3, .int (nI i + (7 : Int32))), (2, .ref (am 0)), (1, .ref (ad 0)), (0, .ref b)]) hx hb dL_law_416 hl (k := 0) rfl rfl (by decide) rfl (fun ls hl => ?_)
        refine lv_goto (tgt := 18) hx hb dL_law_419 (by decide) ?_
        rw [show nI i + (7 : Int32) = nI (i + 7) from nI_add i 7] at hl
        exact ih (i + 7) (by omega) (by omega) t' u' H1 locs1 ls hA1 w1 hl
      refine lv_aload_n hx hb dL_law_27 rfl (lv_at hl 3 rfl) ?_
      refine lv_iload_n hx hb dL_law_28 rfl (lv_at hl 0 rfl) ?_
      refine va_sld hx hb hX hbl hbA w.2.2 (vp_in_nI (by omega) (by omega)) dL_law_29 ?_
      refine lv_bipush (v := 15) hx hb dL_law_30 (by decide) ?_
      refine lv_iand hx hb dL_law_32 ?_
      refine lv_topi (fun v ev => ?_)
      by_cases g0 : v = (0 : Int32)
      · refine lv_tableIn (off := 71) (tgt := 104) hx hb dL_law_33 (by rw [g0]; decide) (by rw [g0]; decide) (by rw [g0]; rfl) (by decide) ?_
        exact law_make C hX hbl hbA hL hi hAg w hl go
      by_cases g1 : v = (1 : Int32)
      · refine lv_tableIn (off := 166) (tgt := 199) hx hb dL_law_33 (by rw [g1]; decide) (by rw [g1]; decide) (by rw [g1]; rfl) (by decide) ?_
        exact law_room C hX hbl hbA hL hi hAg w hl go
      by_cases g2 : v = (2 : Int32)
      · refine lv_tableIn (off := 199) (tgt := 232) hx hb dL_law_33 (by rw [g2]; decide) (by rw [g2]; decide) (by rw [g2]; rfl) (by decide) ?_
        exact law_behind C hX hbl hbA hL hi hAg w hl go
      by_cases g3 : v = (3 : Int32)
      · refine lv_tableIn (off := 232) (tgt := 265) hx hb dL_law_33 (by rw [g3]; decide) (by rw [g3]; decide) (by rw [g3]; rfl) (by decide) ?_
        exact law_goal C hX hbl hbA hL hi hAg w hl go
      by_cases g4 : v = (4 : Int32)
      · refine lv_tableIn (off := 245) (tgt := 278) hx hb dL_law_33 (by rw [g4]; decide) (by rw [g4]; decide) (by rw [g4]; rfl) (by decide) ?_
        exact law_restart C hX hbl hbA hL hi hAg w hl go
      by_cases g5 : v = (5 : Int32)
      · refine lv_tableIn (off := 256) (tgt := 289) hx hb dL_law_33 (by rw [g5]; decide) (by rw [g5]; decide) (by rw [g5]; rfl) (by decide) ?_
        exact law_walk C hX hbl hbA hL hi hAg w hl go
      by_cases g6 : v = (6 : Int32)
      · refine lv_tableIn (off := 279) (tgt := 312) hx hb dL_law_33 (by rw [g6]; decide) (by rw [g6]; decide) (by rw [g6]; rfl) (by decide) ?_
        exact law_take C hX hbl hbA hL hi hAg w hl go
      by_cases g7 : v = (7 : Int32)
      · refine lv_tableIn (off := 292) (tgt := 325) hx hb dL_law_33 (by rw [g7]; decide) (by rw [g7]; decide) (by rw [g7]; rfl) (by decide) ?_
        exact law_toggle C hX hbl hbA hL hi hAg w hl go
      by_cases g8 : v = (8 : Int32)
      · refine lv_tableIn (off := 305) (tgt := 338) hx hb dL_law_33 (by rw [g8]; decide) (by rw [g8]; decide) (by rw [g8]; rfl) (by decide) ?_
        exact law_here C hX hbl hbA hL hi hAg w hl go
      by_cases g9 : v = (9 : Int32)
      · refine lv_tableIn (off := 318) (tgt := 351) hx hb dL_law_33 (by rw [g9]; decide) (by rw [g9]; decide) (by rw [g9]; rfl) (by decide) ?_
        exact law_having C hX hbl hbA hL hi hAg w hl go
      by_cases g10 : v = (10 : Int32)
      · refine lv_tableIn (off := 331) (tgt := 364) hx hb dL_law_33 (by rw [g10]; decide) (by rw [g10]; decide) (by rw [g10]; rfl) (by decide) ?_
        exact law_steps C hX hbl hbA hL hi hAg w hl go
      by_cases g11 : v = (11 : Int32)
      · refine lv_tableIn (off := 344) (tgt := 377) hx hb dL_law_33 (by rw [g11]; decide) (by rw [g11]; decide) (by rw [g11]; rfl) (by decide) ?_
        exact law_hint C hX hbl hbA hL hi hAg w hl go
      by_cases g12 : v = (12 : Int32)
      · refine lv_tableIn (off := 357) (tgt := 390) hx hb dL_law_33 (by rw [g12]; decide) (by rw [g12]; decide) (by rw [g12]; rfl) (by decide) ?_
        exact law_situations C hX hbl hbA hL hi hAg w hl go
      by_cases g13 : v = (13 : Int32)
      · refine lv_tableIn (off := 370) (tgt := 403) hx hb dL_law_33 (by rw [g13]; decide) (by rw [g13]; decide) (by rw [g13]; rfl) (by decide) ?_
        exact law_safe C hX hbl hbA hL hi hAg w hl go
      have hout : v.toInt < 0 ∨ 13 < v.toInt := by
        have e0 : v.toInt ≠ 0 := fun q => g0 (Int32.toInt_inj.mp (q.trans (by decide)))
        have e1 : v.toInt ≠ 1 := fun q => g1 (Int32.toInt_inj.mp (q.trans (by decide)))
        have e2 : v.toInt ≠ 2 := fun q => g2 (Int32.toInt_inj.mp (q.trans (by decide)))
        have e3 : v.toInt ≠ 3 := fun q => g3 (Int32.toInt_inj.mp (q.trans (by decide)))
        have e4 : v.toInt ≠ 4 := fun q => g4 (Int32.toInt_inj.mp (q.trans (by decide)))
        have e5 : v.toInt ≠ 5 := fun q => g5 (Int32.toInt_inj.mp (q.trans (by decide)))
        have e6 : v.toInt ≠ 6 := fun q => g6 (Int32.toInt_inj.mp (q.trans (by decide)))
        have e7 : v.toInt ≠ 7 := fun q => g7 (Int32.toInt_inj.mp (q.trans (by decide)))
        have e8 : v.toInt ≠ 8 := fun q => g8 (Int32.toInt_inj.mp (q.trans (by decide)))
        have e9 : v.toInt ≠ 9 := fun q => g9 (Int32.toInt_inj.mp (q.trans (by decide)))
        have e10 : v.toInt ≠ 10 := fun q => g10 (Int32.toInt_inj.mp (q.trans (by decide)))
        have e11 : v.toInt ≠ 11 := fun q => g11 (Int32.toInt_inj.mp (q.trans (by decide)))
        have e12 : v.toInt ≠ 12 := fun q => g12 (Int32.toInt_inj.mp (q.trans (by decide)))
        have e13 : v.toInt ≠ 13 := fun q => g13 (Int32.toInt_inj.mp (q.trans (by decide)))
        omega
      refine lv_tableOut (tgt := 416) hx hb dL_law_33 hout (by decide) ?_
      exact go t u H locs hAg w
