/-! The law's cases. -/
set_option maxRecDepth 20000 in
theorem mL_c13 : Cond.constantLong RL 13 (4294967295) ∈ wsL_law := List.mem_of_getElem? (i := 6) rfl
theorem wCt_0 (kA : Nat → ClassId) (ad : Nat → Nat) (t : CT) : (wCt kA ad t)[0]? = some (ad 0, .inr (5, [.ref (ad 1), .ref (ad 2), .ref (ad 4), .int t.1])) := rfl
theorem wMt_0 (kA : Nat → ClassId) (am : Nat → Nat) (u : MT) : (wMt kA am u)[0]? = some (am 0, .inr (6, [.long u.1, .int u.2.1, .int u.2.2.1, .int u.2.2.2.1, .ref (am 1), .ref (am 2), .ref (am 3), .ref (am 4), .ref (am 5), .ref (am 6), .ref (am 7), .ref (am 8), .ref (am 9), .ref (am 10), .int u.2.2.2.2.1, .ref (am 11), .int u.2.2.2.2.2.1, .int u.2.2.2.2.2.2.1])) := rfl
theorem ndCM (kA : Nat → ClassId) (ad am : Nat → Nat) (t : CT) (u : MT) : va_nd ((List.range (wMt kA am u).length).map (fun i => (wCt kA ad t).length + i)) = true := by rw [wCt_len, wMt_len]; decide
theorem ndMC (kA : Nat → ClassId) (ad am : Nat → Nat) (t : CT) (u : MT) : va_nd ((List.range (wCt kA ad t).length).map (fun i => (wMt kA am u).length + i)) = true := by rw [wCt_len, wMt_len]; decide
theorem sin {i k L : Nat} (hL : L ≤ 3584) (h : i + k < L) : vp_in (nI i + nI k) L := by rw [nI_add]; exact vp_in_nI h (by omega)
set_option maxHeartbeats 4000000 in
set_option maxRecDepth 100000 in
theorem law_make {p : Program} {l : Launch} {e : Env} {s : State} {m : MethodId} {args : Array Value} {below : List Frame} {meth : Method} {c : Code} {Q : State → Prop} {D : va_G} {kA : Nat → ClassId} {ad am : Nat → Nat} {A : Nat → Prop} {b L i : Nat} {xs : Nat → Int32} {ls : Array Slot} {H : Heap} {locs : List Loc} {t : CT} {u : MT} (C : Cx p s m c args cL_law 4 RL wsL_law D kA A) (hX : va_X b L xs s s.heap) (hbl : b < s.heap.size) (hbA : ¬ A b) (hL : L ≤ 3584) (hi : i + 7 ≤ L) (hAg : AgT t u) (w : Wd D A s H locs (wCt kA ad t ++ wMt kA am u)) (hl : lv_has ls 4 [(3, .int (nI i)), (2, .ref (am 0)), (1, .ref (ad 0)), (0, .ref b)]) (kk : ∀ (t' : CT) (u' : MT) (H1 : Heap) (locs1 : List Loc), AgT t' u' → Wd D A s H1 locs1 (wCt kA ad t' ++ wMt kA am u') → W p l e room_1 s m args below meth c H1 locs1 600000 7302250 Q (F0 m 416 ls [])) : W p l e room_1 s m args below meth c H locs 600000 7302250 Q (F0 m 104 ls []) := by
  obtain ⟨⟨hx, hb, hml, hown, hts⟩, hK, hA, -⟩ := id C
  obtain ⟨r, t1, u1, hA1, c1, c2⟩ := lc_make l D kA ad am hAg (((xs ((nI i) + (1 : Int32)).toNatClampNeg).toInt64 <<< ((32 : Int32).toInt64 &&& 63)) ||| ((xs ((nI i) + (2 : Int32)).toNatClampNeg).toInt64 &&& (4294967295 : Int64))) (xs ((nI i) + (3 : Int32)).toNatClampNeg) (xs ((nI i) + (4 : Int32)).toNatClampNeg) (xs ((nI i) + (5 : Int32)).toNatClampNeg) (xs ((nI i) + (6 : Int32)).toNatClampNeg)
  refine lv_aload_n hx hb dL_law_104 rfl (lv_at hl 2 rfl) ?_
  refine lv_aload_n hx hb dL_law_105 rfl (lv_at hl 3 rfl) ?_
  refine lv_iload_n hx hb dL_law_106 rfl (lv_at hl 0 rfl) ?_
  refine lv_iconst (v := 1) hx hb dL_law_107 (by decide) ?_
  refine lv_iadd hx hb dL_law_108 ?_
  refine va_sld hx hb hX hbl hbA w.2.2 (sin (k := 1) hL (by omega)) dL_law_109 ?_
  refine lv_i2l hx hb dL_law_110 rfl ?_
  refine lv_bipush (v := 32) hx hb dL_law_111 (by decide) ?_
  refine lv_lshl hx hb dL_law_113 rfl ?_
  refine lv_aload_n hx hb dL_law_114 rfl (lv_at hl 3 rfl) ?_
  refine lv_iload_n hx hb dL_law_115 rfl (lv_at hl 0 rfl) ?_
  refine lv_iconst (v := 2) hx hb dL_law_116 (by decide) ?_
  refine lv_iadd hx hb dL_law_117 ?_
  refine va_sld hx hb hX hbl hbA w.2.2 (sin (k := 2) hL (by omega)) dL_law_118 ?_
  refine lv_i2l hx hb dL_law_119 rfl ?_
  refine lv_ldc2 (v := 4294967295) hx hb hown (hts _ mL_c13) dL_law_120 ?_
  refine lv_land hx hb dL_law_123 ?_
  refine lv_lor hx hb dL_law_124 ?_
  refine lv_aload_n hx hb dL_law_125 rfl (lv_at hl 3 rfl) ?_
  refine lv_iload_n hx hb dL_law_126 rfl (lv_at hl 0 rfl) ?_
  refine lv_iconst (v := 3) hx hb dL_law_127 (by decide) ?_
  refine lv_iadd hx hb dL_law_128 ?_
  refine va_sld hx hb hX hbl hbA w.2.2 (sin (k := 3) hL (by omega)) dL_law_129 ?_
  refine lv_aload_n hx hb dL_law_130 rfl (lv_at hl 3 rfl) ?_
  refine lv_iload_n hx hb dL_law_131 rfl (lv_at hl 0 rfl) ?_
  refine lv_iconst (v := 4) hx hb dL_law_132 (by decide) ?_
  refine lv_iadd hx hb dL_law_133 ?_
  refine va_sld hx hb hX hbl hbA w.2.2 (sin (k := 4) hL (by omega)) dL_law_134 ?_
  refine lv_aload_n hx hb dL_law_135 rfl (lv_at hl 3 rfl) ?_
  refine lv_iload_n hx hb dL_law_136 rfl (lv_at hl 0 rfl) ?_
  refine lv_iconst (v := 5) hx hb dL_law_137 (by decide) ?_
  refine lv_iadd hx hb dL_law_138 ?_
  refine va_sld hx hb hX hbl hbA w.2.2 (sin (k := 5) hL (by omega)) dL_law_139 ?_
  refine lv_aload_n hx hb dL_law_140 rfl (lv_at hl 3 rfl) ?_
  refine lv_iload_n hx hb dL_law_141 rfl (lv_at hl 0 rfl) ?_
  refine lv_bipush (v := 6) hx hb dL_law_142 (by decide) ?_
  refine lv_iadd hx hb dL_law_144 ?_
  refine va_sld hx hb hX hbl hbA w.2.2 (sin (k := 6) hL (by omega)) dL_law_145 ?_
  refine gl_iF C w (ndCM kA ad am t u) (va_runV (As := [.long (((xs ((nI i) + (1 : Int32)).toNatClampNeg).toInt64 <<< ((32 : Int32).toInt64 &&& 63)) ||| ((xs ((nI i) + (2 : Int32)).toNatClampNeg).toInt64 &&& (4294967295 : Int64))), .int (xs ((nI i) + (3 : Int32)).toNatClampNeg), .int (xs ((nI i) + (4 : Int32)).toNatClampNeg), .int (xs ((nI i) + (5 : Int32)).toNatClampNeg), .int (xs ((nI i) + (6 : Int32)).toNatClampNeg)]) (rest := []) ⟨hx, hb, hml, hown, hts⟩ (c1 H.size) (cwV 5 hts gL_law_X6_make rfl rfl rfl (by decide +kernel) ⟨Nat.le_of_ble_eq_true rfl, Nat.le_of_ble_eq_true rfl⟩) (fr_preV C w (q0 := 0) (ci := 5) rfl (wCt_0 kA ad t) rfl) rfl rfl hl.1 rfl (lv_room (Nat.le_of_ble_eq_true rfl)) dL_law_146 ⟨Nat.le_of_ble_eq_true rfl, Nat.le_of_ble_eq_true rfl⟩) (fun H locs w => ?_)
  refine lv_aload_n hx hb dL_law_149 rfl (lv_at hl 1 rfl) ?_
  refine lv_aload_n hx hb dL_law_150 rfl (lv_at hl 3 rfl) ?_
  refine lv_iload_n hx hb dL_law_151 rfl (lv_at hl 0 rfl) ?_
  refine lv_iconst (v := 1) hx hb dL_law_152 (by decide) ?_
  refine lv_iadd hx hb dL_law_153 ?_
  refine va_sld hx hb hX hbl hbA w.2.2 (sin (k := 1) hL (by omega)) dL_law_154 ?_
  refine lv_i2l hx hb dL_law_155 rfl ?_
  refine lv_bipush (v := 32) hx hb dL_law_156 (by decide) ?_
  refine lv_lshl hx hb dL_law_158 rfl ?_
  refine lv_aload_n hx hb dL_law_159 rfl (lv_at hl 3 rfl) ?_
  refine lv_iload_n hx hb dL_law_160 rfl (lv_at hl 0 rfl) ?_
  refine lv_iconst (v := 2) hx hb dL_law_161 (by decide) ?_
  refine lv_iadd hx hb dL_law_162 ?_
  refine va_sld hx hb hX hbl hbA w.2.2 (sin (k := 2) hL (by omega)) dL_law_163 ?_
  refine lv_i2l hx hb dL_law_164 rfl ?_
  refine lv_ldc2 (v := 4294967295) hx hb hown (hts _ mL_c13) dL_law_165 ?_
  refine lv_land hx hb dL_law_168 ?_
  refine lv_lor hx hb dL_law_169 ?_
  refine lv_aload_n hx hb dL_law_170 rfl (lv_at hl 3 rfl) ?_
  refine lv_iload_n hx hb dL_law_171 rfl (lv_at hl 0 rfl) ?_
  refine lv_iconst (v := 3) hx hb dL_law_172 (by decide) ?_
  refine lv_iadd hx hb dL_law_173 ?_
  refine va_sld hx hb hX hbl hbA w.2.2 (sin (k := 3) hL (by omega)) dL_law_174 ?_
  refine lv_aload_n hx hb dL_law_175 rfl (lv_at hl 3 rfl) ?_
  refine lv_iload_n hx hb dL_law_176 rfl (lv_at hl 0 rfl) ?_
  refine lv_iconst (v := 4) hx hb dL_law_177 (by decide) ?_
  refine lv_iadd hx hb dL_law_178 ?_
  refine va_sld hx hb hX hbl hbA w.2.2 (sin (k := 4) hL (by omega)) dL_law_179 ?_
  refine lv_aload_n hx hb dL_law_180 rfl (lv_at hl 3 rfl) ?_
  refine lv_iload_n hx hb dL_law_181 rfl (lv_at hl 0 rfl) ?_
  refine lv_iconst (v := 5) hx hb dL_law_182 (by decide) ?_
  refine lv_iadd hx hb dL_law_183 ?_
  refine va_sld hx hb hX hbl hbA w.2.2 (sin (k := 5) hL (by omega)) dL_law_184 ?_
  refine lv_aload_n hx hb dL_law_185 rfl (lv_at hl 3 rfl) ?_
  refine lv_iload_n hx hb dL_law_186 rfl (lv_at hl 0 rfl) ?_
  refine lv_bipush (v := 6) hx hb dL_law_187 (by decide) ?_
  refine lv_iadd hx hb dL_law_189 ?_
  refine va_sld hx hb hX hbl hbA w.2.2 (sin (k := 6) hL (by omega)) dL_law_190 ?_
  refine gl_iF C w (ndMC kA ad am t1 u) (va_runV (As := [.long (((xs ((nI i) + (1 : Int32)).toNatClampNeg).toInt64 <<< ((32 : Int32).toInt64 &&& 63)) ||| ((xs ((nI i) + (2 : Int32)).toNatClampNeg).toInt64 &&& (4294967295 : Int64))), .int (xs ((nI i) + (3 : Int32)).toNatClampNeg), .int (xs ((nI i) + (4 : Int32)).toNatClampNeg), .int (xs ((nI i) + (5 : Int32)).toNatClampNeg), .int (xs ((nI i) + (6 : Int32)).toNatClampNeg)]) (rest := [.int r]) ⟨hx, hb, hml, hown, hts⟩ (c2 H.size) (cwV 5 hts gL_law_X7_make rfl rfl rfl (by decide +kernel) ⟨Nat.le_of_ble_eq_true rfl, Nat.le_of_ble_eq_true rfl⟩) (fr_preV C w (q0 := 0) (ci := 6) rfl (wMt_0 kA am u) rfl) rfl rfl hl.1 rfl (lv_room (Nat.le_of_ble_eq_true rfl)) dL_law_191 ⟨Nat.le_of_ble_eq_true rfl, Nat.le_of_ble_eq_true rfl⟩) (fun H locs w => ?_)
  refine lv_icmp_eq (tgt := 416) hx hb dL_law_194 (by decide) (fun _ => ?_) (fun g => absurd rfl g)
  exact kk t1 u1 H locs hA1 w
set_option maxHeartbeats 4000000 in
set_option maxRecDepth 100000 in
theorem law_room {p : Program} {l : Launch} {e : Env} {s : State} {m : MethodId} {args : Array Value} {below : List Frame} {meth : Method} {c : Code} {Q : State → Prop} {D : va_G} {kA : Nat → ClassId} {ad am : Nat → Nat} {A : Nat → Prop} {b L i : Nat} {xs : Nat → Int32} {ls : Array Slot} {H : Heap} {locs : List Loc} {t : CT} {u : MT} (C : Cx p s m c args cL_law 4 RL wsL_law D kA A) (hX : va_X b L xs s s.heap) (hbl : b < s.heap.size) (hbA : ¬ A b) (hL : L ≤ 3584) (hi : i + 7 ≤ L) (hAg : AgT t u) (w : Wd D A s H locs (wCt kA ad t ++ wMt kA am u)) (hl : lv_has ls 4 [(3, .int (nI i)), (2, .ref (am 0)), (1, .ref (ad 0)), (0, .ref b)]) (kk : ∀ (t' : CT) (u' : MT) (H1 : Heap) (locs1 : List Loc), AgT t' u' → Wd D A s H1 locs1 (wCt kA ad t' ++ wMt kA am u') → W p l e room_1 s m args below meth c H1 locs1 600000 7302250 Q (F0 m 416 ls [])) : W p l e room_1 s m args below meth c H locs 600000 7302250 Q (F0 m 199 ls []) := by
  obtain ⟨⟨hx, hb, hml, hown, hts⟩, hK, hA, -⟩ := id C
  obtain ⟨r, t1, u1, hA1, c1, c2⟩ := lc_room l D kA ad am hAg (xs ((nI i) + (1 : Int32)).toNatClampNeg) (xs ((nI i) + (2 : Int32)).toNatClampNeg)
  refine lv_aload_n hx hb dL_law_199 rfl (lv_at hl 2 rfl) ?_
  refine lv_aload_n hx hb dL_law_200 rfl (lv_at hl 3 rfl) ?_
  refine lv_iload_n hx hb dL_law_201 rfl (lv_at hl 0 rfl) ?_
  refine lv_iconst (v := 1) hx hb dL_law_202 (by decide) ?_
  refine lv_iadd hx hb dL_law_203 ?_
  refine va_sld hx hb hX hbl hbA w.2.2 (sin (k := 1) hL (by omega)) dL_law_204 ?_
  refine lv_aload_n hx hb dL_law_205 rfl (lv_at hl 3 rfl) ?_
  refine lv_iload_n hx hb dL_law_206 rfl (lv_at hl 0 rfl) ?_
  refine lv_iconst (v := 2) hx hb dL_law_207 (by decide) ?_
  refine lv_iadd hx hb dL_law_208 ?_
  refine va_sld hx hb hX hbl hbA w.2.2 (sin (k := 2) hL (by omega)) dL_law_209 ?_
  refine gl_iF C w (ndCM kA ad am t u) (va_runV (As := [.int (xs ((nI i) + (1 : Int32)).toNatClampNeg), .int (xs ((nI i) + (2 : Int32)).toNatClampNeg)]) (rest := []) ⟨hx, hb, hml, hown, hts⟩ (c1 H.size) (cwV 2 hts gL_law_X6_room rfl rfl rfl (by decide +kernel) ⟨Nat.le_of_ble_eq_true rfl, Nat.le_of_ble_eq_true rfl⟩) (fr_preV C w (q0 := 0) (ci := 5) rfl (wCt_0 kA ad t) rfl) rfl rfl hl.1 rfl (lv_room (Nat.le_of_ble_eq_true rfl)) dL_law_210 ⟨Nat.le_of_ble_eq_true rfl, Nat.le_of_ble_eq_true rfl⟩) (fun H locs w => ?_)
  refine lv_aload_n hx hb dL_law_213 rfl (lv_at hl 1 rfl) ?_
  refine lv_aload_n hx hb dL_law_214 rfl (lv_at hl 3 rfl) ?_
  refine lv_iload_n hx hb dL_law_215 rfl (lv_at hl 0 rfl) ?_
  refine lv_iconst (v := 1) hx hb dL_law_216 (by decide) ?_
  refine lv_iadd hx hb dL_law_217 ?_
  refine va_sld hx hb hX hbl hbA w.2.2 (sin (k := 1) hL (by omega)) dL_law_218 ?_
  refine lv_aload_n hx hb dL_law_219 rfl (lv_at hl 3 rfl) ?_
  refine lv_iload_n hx hb dL_law_220 rfl (lv_at hl 0 rfl) ?_
  refine lv_iconst (v := 2) hx hb dL_law_221 (by decide) ?_
  refine lv_iadd hx hb dL_law_222 ?_
  refine va_sld hx hb hX hbl hbA w.2.2 (sin (k := 2) hL (by omega)) dL_law_223 ?_
  refine gl_iF C w (ndMC kA ad am t1 u) (va_runV (As := [.int (xs ((nI i) + (1 : Int32)).toNatClampNeg), .int (xs ((nI i) + (2 : Int32)).toNatClampNeg)]) (rest := [.int r]) ⟨hx, hb, hml, hown, hts⟩ (c2 H.size) (cwV 2 hts gL_law_X7_room rfl rfl rfl (by decide +kernel) ⟨Nat.le_of_ble_eq_true rfl, Nat.le_of_ble_eq_true rfl⟩) (fr_preV C w (q0 := 0) (ci := 6) rfl (wMt_0 kA am u) rfl) rfl rfl hl.1 rfl (lv_room (Nat.le_of_ble_eq_true rfl)) dL_law_224 ⟨Nat.le_of_ble_eq_true rfl, Nat.le_of_ble_eq_true rfl⟩) (fun H locs w => ?_)
  refine lv_icmp_eq (tgt := 416) hx hb dL_law_227 (by decide) (fun _ => ?_) (fun g => absurd rfl g)
  exact kk t1 u1 H locs hA1 w
set_option maxHeartbeats 4000000 in
set_option maxRecDepth 100000 in
theorem law_behind {p : Program} {l : Launch} {e : Env} {s : State} {m : MethodId} {args : Array Value} {below : List Frame} {meth : Method} {c : Code} {Q : State → Prop} {D : va_G} {kA : Nat → ClassId} {ad am : Nat → Nat} {A : Nat → Prop} {b L i : Nat} {xs : Nat → Int32} {ls : Array Slot} {H : Heap} {locs : List Loc} {t : CT} {u : MT} (C : Cx p s m c args cL_law 4 RL wsL_law D kA A) (hX : va_X b L xs s s.heap) (hbl : b < s.heap.size) (hbA : ¬ A b) (hL : L ≤ 3584) (hi : i + 7 ≤ L) (hAg : AgT t u) (w : Wd D A s H locs (wCt kA ad t ++ wMt kA am u)) (hl : lv_has ls 4 [(3, .int (nI i)), (2, .ref (am 0)), (1, .ref (ad 0)), (0, .ref b)]) (kk : ∀ (t' : CT) (u' : MT) (H1 : Heap) (locs1 : List Loc), AgT t' u' → Wd D A s H1 locs1 (wCt kA ad t' ++ wMt kA am u') → W p l e room_1 s m args below meth c H1 locs1 600000 7302250 Q (F0 m 416 ls [])) : W p l e room_1 s m args below meth c H locs 600000 7302250 Q (F0 m 232 ls []) := by
  obtain ⟨⟨hx, hb, hml, hown, hts⟩, hK, hA, -⟩ := id C
  obtain ⟨r, t1, u1, hA1, c1, c2⟩ := lc_behind l D kA ad am hAg (xs ((nI i) + (1 : Int32)).toNatClampNeg) (xs ((nI i) + (2 : Int32)).toNatClampNeg)
  refine lv_aload_n hx hb dL_law_232 rfl (lv_at hl 2 rfl) ?_
  refine lv_aload_n hx hb dL_law_233 rfl (lv_at hl 3 rfl) ?_
  refine lv_iload_n hx hb dL_law_234 rfl (lv_at hl 0 rfl) ?_
  refine lv_iconst (v := 1) hx hb dL_law_235 (by decide) ?_
  refine lv_iadd hx hb dL_law_236 ?_
  refine va_sld hx hb hX hbl hbA w.2.2 (sin (k := 1) hL (by omega)) dL_law_237 ?_
  refine lv_aload_n hx hb dL_law_238 rfl (lv_at hl 3 rfl) ?_
  refine lv_iload_n hx hb dL_law_239 rfl (lv_at hl 0 rfl) ?_
  refine lv_iconst (v := 2) hx hb dL_law_240 (by decide) ?_
  refine lv_iadd hx hb dL_law_241 ?_
  refine va_sld hx hb hX hbl hbA w.2.2 (sin (k := 2) hL (by omega)) dL_law_242 ?_
  refine gl_iF C w (ndCM kA ad am t u) (va_runV (As := [.int (xs ((nI i) + (1 : Int32)).toNatClampNeg), .int (xs ((nI i) + (2 : Int32)).toNatClampNeg)]) (rest := []) ⟨hx, hb, hml, hown, hts⟩ (c1 H.size) (cwV 2 hts gL_law_X6_behind rfl rfl rfl (by decide +kernel) ⟨Nat.le_of_ble_eq_true rfl, Nat.le_of_ble_eq_true rfl⟩) (fr_preV C w (q0 := 0) (ci := 5) rfl (wCt_0 kA ad t) rfl) rfl rfl hl.1 rfl (lv_room (Nat.le_of_ble_eq_true rfl)) dL_law_243 ⟨Nat.le_of_ble_eq_true rfl, Nat.le_of_ble_eq_true rfl⟩) (fun H locs w => ?_)
  refine lv_aload_n hx hb dL_law_246 rfl (lv_at hl 1 rfl) ?_
  refine lv_aload_n hx hb dL_law_247 rfl (lv_at hl 3 rfl) ?_
  refine lv_iload_n hx hb dL_law_248 rfl (lv_at hl 0 rfl) ?_
  refine lv_iconst (v := 1) hx hb dL_law_249 (by decide) ?_
  refine lv_iadd hx hb dL_law_250 ?_
  refine va_sld hx hb hX hbl hbA w.2.2 (sin (k := 1) hL (by omega)) dL_law_251 ?_
  refine lv_aload_n hx hb dL_law_252 rfl (lv_at hl 3 rfl) ?_
  refine lv_iload_n hx hb dL_law_253 rfl (lv_at hl 0 rfl) ?_
  refine lv_iconst (v := 2) hx hb dL_law_254 (by decide) ?_
  refine lv_iadd hx hb dL_law_255 ?_
  refine va_sld hx hb hX hbl hbA w.2.2 (sin (k := 2) hL (by omega)) dL_law_256 ?_
  refine gl_iF C w (ndMC kA ad am t1 u) (va_runV (As := [.int (xs ((nI i) + (1 : Int32)).toNatClampNeg), .int (xs ((nI i) + (2 : Int32)).toNatClampNeg)]) (rest := [.int r]) ⟨hx, hb, hml, hown, hts⟩ (c2 H.size) (cwV 2 hts gL_law_X7_behind rfl rfl rfl (by decide +kernel) ⟨Nat.le_of_ble_eq_true rfl, Nat.le_of_ble_eq_true rfl⟩) (fr_preV C w (q0 := 0) (ci := 6) rfl (wMt_0 kA am u) rfl) rfl rfl hl.1 rfl (lv_room (Nat.le_of_ble_eq_true rfl)) dL_law_257 ⟨Nat.le_of_ble_eq_true rfl, Nat.le_of_ble_eq_true rfl⟩) (fun H locs w => ?_)
  refine lv_icmp_eq (tgt := 416) hx hb dL_law_260 (by decide) (fun _ => ?_) (fun g => absurd rfl g)
  exact kk t1 u1 H locs hA1 w
set_option maxHeartbeats 4000000 in
set_option maxRecDepth 100000 in
theorem law_goal {p : Program} {l : Launch} {e : Env} {s : State} {m : MethodId} {args : Array Value} {below : List Frame} {meth : Method} {c : Code} {Q : State → Prop} {D : va_G} {kA : Nat → ClassId} {ad am : Nat → Nat} {A : Nat → Prop} {b L i : Nat} {xs : Nat → Int32} {ls : Array Slot} {H : Heap} {locs : List Loc} {t : CT} {u : MT} (C : Cx p s m c args cL_law 4 RL wsL_law D kA A) (hX : va_X b L xs s s.heap) (hbl : b < s.heap.size) (hbA : ¬ A b) (hL : L ≤ 3584) (hi : i + 7 ≤ L) (hAg : AgT t u) (w : Wd D A s H locs (wCt kA ad t ++ wMt kA am u)) (hl : lv_has ls 4 [(3, .int (nI i)), (2, .ref (am 0)), (1, .ref (ad 0)), (0, .ref b)]) (kk : ∀ (t' : CT) (u' : MT) (H1 : Heap) (locs1 : List Loc), AgT t' u' → Wd D A s H1 locs1 (wCt kA ad t' ++ wMt kA am u') → W p l e room_1 s m args below meth c H1 locs1 600000 7302250 Q (F0 m 416 ls [])) : W p l e room_1 s m args below meth c H locs 600000 7302250 Q (F0 m 265 ls []) := by
  obtain ⟨⟨hx, hb, hml, hown, hts⟩, hK, hA, -⟩ := id C
  obtain ⟨r, t1, u1, hA1, c1, c2⟩ := lc_goal l D kA ad am hAg 
  refine lv_aload_n hx hb dL_law_265 rfl (lv_at hl 2 rfl) ?_
  refine gl_iF C w (ndCM kA ad am t u) (va_runV (As := []) (rest := []) ⟨hx, hb, hml, hown, hts⟩ (c1 H.size) (cwV 0 hts gL_law_X6_goal rfl rfl rfl (by decide +kernel) ⟨Nat.le_of_ble_eq_true rfl, Nat.le_of_ble_eq_true rfl⟩) (fr_preV C w (q0 := 0) (ci := 5) rfl (wCt_0 kA ad t) rfl) rfl rfl hl.1 rfl (lv_room (Nat.le_of_ble_eq_true rfl)) dL_law_266 ⟨Nat.le_of_ble_eq_true rfl, Nat.le_of_ble_eq_true rfl⟩) (fun H locs w => ?_)
  refine lv_aload_n hx hb dL_law_269 rfl (lv_at hl 1 rfl) ?_
  refine gl_iF C w (ndMC kA ad am t1 u) (va_runV (As := []) (rest := [.int r]) ⟨hx, hb, hml, hown, hts⟩ (c2 H.size) (cwV 0 hts gL_law_X7_goal rfl rfl rfl (by decide +kernel) ⟨Nat.le_of_ble_eq_true rfl, Nat.le_of_ble_eq_true rfl⟩) (fr_preV C w (q0 := 0) (ci := 6) rfl (wMt_0 kA am u) rfl) rfl rfl hl.1 rfl (lv_room (Nat.le_of_ble_eq_true rfl)) dL_law_270 ⟨Nat.le_of_ble_eq_true rfl, Nat.le_of_ble_eq_true rfl⟩) (fun H locs w => ?_)
  refine lv_icmp_eq (tgt := 416) hx hb dL_law_273 (by decide) (fun _ => ?_) (fun g => absurd rfl g)
  exact kk t1 u1 H locs hA1 w
set_option maxHeartbeats 4000000 in
set_option maxRecDepth 100000 in
theorem law_restart {p : Program} {l : Launch} {e : Env} {s : State} {m : MethodId} {args : Array Value} {below : List Frame} {meth : Method} {c : Code} {Q : State → Prop} {D : va_G} {kA : Nat → ClassId} {ad am : Nat → Nat} {A : Nat → Prop} {b L i : Nat} {xs : Nat → Int32} {ls : Array Slot} {H : Heap} {locs : List Loc} {t : CT} {u : MT} (C : Cx p s m c args cL_law 4 RL wsL_law D kA A) (hX : va_X b L xs s s.heap) (hbl : b < s.heap.size) (hbA : ¬ A b) (hL : L ≤ 3584) (hi : i + 7 ≤ L) (hAg : AgT t u) (w : Wd D A s H locs (wCt kA ad t ++ wMt kA am u)) (hl : lv_has ls 4 [(3, .int (nI i)), (2, .ref (am 0)), (1, .ref (ad 0)), (0, .ref b)]) (kk : ∀ (t' : CT) (u' : MT) (H1 : Heap) (locs1 : List Loc), AgT t' u' → Wd D A s H1 locs1 (wCt kA ad t' ++ wMt kA am u') → W p l e room_1 s m args below meth c H1 locs1 600000 7302250 Q (F0 m 416 ls [])) : W p l e room_1 s m args below meth c H locs 600000 7302250 Q (F0 m 278 ls []) := by
  obtain ⟨⟨hx, hb, hml, hown, hts⟩, hK, hA, -⟩ := id C
  obtain ⟨t1, u1, hA1, c1, c2⟩ := lc_restart l D kA ad am hAg 
  refine lv_aload_n hx hb dL_law_278 rfl (lv_at hl 2 rfl) ?_
  refine gl_vF C w (ndCM kA ad am t u) (va_runV (As := []) (rest := []) ⟨hx, hb, hml, hown, hts⟩ (c1 H.size) (cwV 0 hts gL_law_X6_restart rfl rfl rfl (by decide +kernel) ⟨Nat.le_of_ble_eq_true rfl, Nat.le_of_ble_eq_true rfl⟩) (fr_preV C w (q0 := 0) (ci := 5) rfl (wCt_0 kA ad t) rfl) rfl rfl hl.1 rfl (lv_room (Nat.le_of_ble_eq_true rfl)) dL_law_279 ⟨Nat.le_of_ble_eq_true rfl, Nat.le_of_ble_eq_true rfl⟩) (fun H locs w => ?_)
  refine lv_aload_n hx hb dL_law_282 rfl (lv_at hl 1 rfl) ?_
  refine gl_vF C w (ndMC kA ad am t1 u) (va_runV (As := []) (rest := []) ⟨hx, hb, hml, hown, hts⟩ (c2 H.size) (cwV 0 hts gL_law_X7_restart rfl rfl rfl (by decide +kernel) ⟨Nat.le_of_ble_eq_true rfl, Nat.le_of_ble_eq_true rfl⟩) (fr_preV C w (q0 := 0) (ci := 6) rfl (wMt_0 kA am u) rfl) rfl rfl hl.1 rfl (lv_room (Nat.le_of_ble_eq_true rfl)) dL_law_283 ⟨Nat.le_of_ble_eq_true rfl, Nat.le_of_ble_eq_true rfl⟩) (fun H locs w => ?_)
  refine lv_goto (tgt := 416) hx hb dL_law_286 (by decide) ?_
  exact kk t1 u1 H locs hA1 w
set_option maxHeartbeats 4000000 in
set_option maxRecDepth 100000 in
theorem law_walk {p : Program} {l : Launch} {e : Env} {s : State} {m : MethodId} {args : Array Value} {below : List Frame} {meth : Method} {c : Code} {Q : State → Prop} {D : va_G} {kA : Nat → ClassId} {ad am : Nat → Nat} {A : Nat → Prop} {b L i : Nat} {xs : Nat → Int32} {ls : Array Slot} {H : Heap} {locs : List Loc} {t : CT} {u : MT} (C : Cx p s m c args cL_law 4 RL wsL_law D kA A) (hX : va_X b L xs s s.heap) (hbl : b < s.heap.size) (hbA : ¬ A b) (hL : L ≤ 3584) (hi : i + 7 ≤ L) (hAg : AgT t u) (w : Wd D A s H locs (wCt kA ad t ++ wMt kA am u)) (hl : lv_has ls 4 [(3, .int (nI i)), (2, .ref (am 0)), (1, .ref (ad 0)), (0, .ref b)]) (kk : ∀ (t' : CT) (u' : MT) (H1 : Heap) (locs1 : List Loc), AgT t' u' → Wd D A s H1 locs1 (wCt kA ad t' ++ wMt kA am u') → W p l e room_1 s m args below meth c H1 locs1 600000 7302250 Q (F0 m 416 ls [])) : W p l e room_1 s m args below meth c H locs 600000 7302250 Q (F0 m 289 ls []) := by
  obtain ⟨⟨hx, hb, hml, hown, hts⟩, hK, hA, -⟩ := id C
  obtain ⟨r, t1, u1, hA1, c1, c2⟩ := lc_walk l D kA ad am hAg (xs ((nI i) + (1 : Int32)).toNatClampNeg)
  refine lv_aload_n hx hb dL_law_289 rfl (lv_at hl 2 rfl) ?_
  refine lv_aload_n hx hb dL_law_290 rfl (lv_at hl 3 rfl) ?_
  refine lv_iload_n hx hb dL_law_291 rfl (lv_at hl 0 rfl) ?_
  refine lv_iconst (v := 1) hx hb dL_law_292 (by decide) ?_
  refine lv_iadd hx hb dL_law_293 ?_
  refine va_sld hx hb hX hbl hbA w.2.2 (sin (k := 1) hL (by omega)) dL_law_294 ?_
  refine gl_iF C w (ndCM kA ad am t u) (va_runV (As := [.int (xs ((nI i) + (1 : Int32)).toNatClampNeg)]) (rest := []) ⟨hx, hb, hml, hown, hts⟩ (c1 H.size) (cwV 1 hts gL_law_X6_walk rfl rfl rfl (by decide +kernel) ⟨Nat.le_of_ble_eq_true rfl, Nat.le_of_ble_eq_true rfl⟩) (fr_preV C w (q0 := 0) (ci := 5) rfl (wCt_0 kA ad t) rfl) rfl rfl hl.1 rfl (lv_room (Nat.le_of_ble_eq_true rfl)) dL_law_295 ⟨Nat.le_of_ble_eq_true rfl, Nat.le_of_ble_eq_true rfl⟩) (fun H locs w => ?_)
  refine lv_aload_n hx hb dL_law_298 rfl (lv_at hl 1 rfl) ?_
  refine lv_aload_n hx hb dL_law_299 rfl (lv_at hl 3 rfl) ?_
  refine lv_iload_n hx hb dL_law_300 rfl (lv_at hl 0 rfl) ?_
  refine lv_iconst (v := 1) hx hb dL_law_301 (by decide) ?_
  refine lv_iadd hx hb dL_law_302 ?_
  refine va_sld hx hb hX hbl hbA w.2.2 (sin (k := 1) hL (by omega)) dL_law_303 ?_
  refine gl_iF C w (ndMC kA ad am t1 u) (va_runV (As := [.int (xs ((nI i) + (1 : Int32)).toNatClampNeg)]) (rest := [.int r]) ⟨hx, hb, hml, hown, hts⟩ (c2 H.size) (cwV 1 hts gL_law_X7_walk rfl rfl rfl (by decide +kernel) ⟨Nat.le_of_ble_eq_true rfl, Nat.le_of_ble_eq_true rfl⟩) (fr_preV C w (q0 := 0) (ci := 6) rfl (wMt_0 kA am u) rfl) rfl rfl hl.1 rfl (lv_room (Nat.le_of_ble_eq_true rfl)) dL_law_304 ⟨Nat.le_of_ble_eq_true rfl, Nat.le_of_ble_eq_true rfl⟩) (fun H locs w => ?_)
  refine lv_icmp_eq (tgt := 416) hx hb dL_law_307 (by decide) (fun _ => ?_) (fun g => absurd rfl g)
  exact kk t1 u1 H locs hA1 w
set_option maxHeartbeats 4000000 in
set_option maxRecDepth 100000 in
theorem law_take {p : Program} {l : Launch} {e : Env} {s : State} {m : MethodId} {args : Array Value} {below : List Frame} {meth : Method} {c : Code} {Q : State → Prop} {D : va_G} {kA : Nat → ClassId} {ad am : Nat → Nat} {A : Nat → Prop} {b L i : Nat} {xs : Nat → Int32} {ls : Array Slot} {H : Heap} {locs : List Loc} {t : CT} {u : MT} (C : Cx p s m c args cL_law 4 RL wsL_law D kA A) (hX : va_X b L xs s s.heap) (hbl : b < s.heap.size) (hbA : ¬ A b) (hL : L ≤ 3584) (hi : i + 7 ≤ L) (hAg : AgT t u) (w : Wd D A s H locs (wCt kA ad t ++ wMt kA am u)) (hl : lv_has ls 4 [(3, .int (nI i)), (2, .ref (am 0)), (1, .ref (ad 0)), (0, .ref b)]) (kk : ∀ (t' : CT) (u' : MT) (H1 : Heap) (locs1 : List Loc), AgT t' u' → Wd D A s H1 locs1 (wCt kA ad t' ++ wMt kA am u') → W p l e room_1 s m args below meth c H1 locs1 600000 7302250 Q (F0 m 416 ls [])) : W p l e room_1 s m args below meth c H locs 600000 7302250 Q (F0 m 312 ls []) := by
  obtain ⟨⟨hx, hb, hml, hown, hts⟩, hK, hA, -⟩ := id C
  obtain ⟨r, t1, u1, hA1, c1, c2⟩ := lc_take l D kA ad am hAg 
  refine lv_aload_n hx hb dL_law_312 rfl (lv_at hl 2 rfl) ?_
  refine gl_iF C w (ndCM kA ad am t u) (va_runV (As := []) (rest := []) ⟨hx, hb, hml, hown, hts⟩ (c1 H.size) (cwV 0 hts gL_law_X6_take rfl rfl rfl (by decide +kernel) ⟨Nat.le_of_ble_eq_true rfl, Nat.le_of_ble_eq_true rfl⟩) (fr_preV C w (q0 := 0) (ci := 5) rfl (wCt_0 kA ad t) rfl) rfl rfl hl.1 rfl (lv_room (Nat.le_of_ble_eq_true rfl)) dL_law_313 ⟨Nat.le_of_ble_eq_true rfl, Nat.le_of_ble_eq_true rfl⟩) (fun H locs w => ?_)
  refine lv_aload_n hx hb dL_law_316 rfl (lv_at hl 1 rfl) ?_
  refine gl_iF C w (ndMC kA ad am t1 u) (va_runV (As := []) (rest := [.int r]) ⟨hx, hb, hml, hown, hts⟩ (c2 H.size) (cwV 0 hts gL_law_X7_take rfl rfl rfl (by decide +kernel) ⟨Nat.le_of_ble_eq_true rfl, Nat.le_of_ble_eq_true rfl⟩) (fr_preV C w (q0 := 0) (ci := 6) rfl (wMt_0 kA am u) rfl) rfl rfl hl.1 rfl (lv_room (Nat.le_of_ble_eq_true rfl)) dL_law_317 ⟨Nat.le_of_ble_eq_true rfl, Nat.le_of_ble_eq_true rfl⟩) (fun H locs w => ?_)
  refine lv_icmp_eq (tgt := 416) hx hb dL_law_320 (by decide) (fun _ => ?_) (fun g => absurd rfl g)
  exact kk t1 u1 H locs hA1 w
set_option maxHeartbeats 4000000 in
set_option maxRecDepth 100000 in
theorem law_toggle {p : Program} {l : Launch} {e : Env} {s : State} {m : MethodId} {args : Array Value} {below : List Frame} {meth : Method} {c : Code} {Q : State → Prop} {D : va_G} {kA : Nat → ClassId} {ad am : Nat → Nat} {A : Nat → Prop} {b L i : Nat} {xs : Nat → Int32} {ls : Array Slot} {H : Heap} {locs : List Loc} {t : CT} {u : MT} (C : Cx p s m c args cL_law 4 RL wsL_law D kA A) (hX : va_X b L xs s s.heap) (hbl : b < s.heap.size) (hbA : ¬ A b) (hL : L ≤ 3584) (hi : i + 7 ≤ L) (hAg : AgT t u) (w : Wd D A s H locs (wCt kA ad t ++ wMt kA am u)) (hl : lv_has ls 4 [(3, .int (nI i)), (2, .ref (am 0)), (1, .ref (ad 0)), (0, .ref b)]) (kk : ∀ (t' : CT) (u' : MT) (H1 : Heap) (locs1 : List Loc), AgT t' u' → Wd D A s H1 locs1 (wCt kA ad t' ++ wMt kA am u') → W p l e room_1 s m args below meth c H1 locs1 600000 7302250 Q (F0 m 416 ls [])) : W p l e room_1 s m args below meth c H locs 600000 7302250 Q (F0 m 325 ls []) := by
  obtain ⟨⟨hx, hb, hml, hown, hts⟩, hK, hA, -⟩ := id C
  obtain ⟨r, t1, u1, hA1, c1, c2⟩ := lc_toggle l D kA ad am hAg 
  refine lv_aload_n hx hb dL_law_325 rfl (lv_at hl 2 rfl) ?_
  refine gl_iF C w (ndCM kA ad am t u) (va_runV (As := []) (rest := []) ⟨hx, hb, hml, hown, hts⟩ (c1 H.size) (cwV 0 hts gL_law_X6_toggle rfl rfl rfl (by decide +kernel) ⟨Nat.le_of_ble_eq_true rfl, Nat.le_of_ble_eq_true rfl⟩) (fr_preV C w (q0 := 0) (ci := 5) rfl (wCt_0 kA ad t) rfl) rfl rfl hl.1 rfl (lv_room (Nat.le_of_ble_eq_true rfl)) dL_law_326 ⟨Nat.le_of_ble_eq_true rfl, Nat.le_of_ble_eq_true rfl⟩) (fun H locs w => ?_)
  refine lv_aload_n hx hb dL_law_329 rfl (lv_at hl 1 rfl) ?_
  refine gl_iF C w (ndMC kA ad am t1 u) (va_runV (As := []) (rest := [.int r]) ⟨hx, hb, hml, hown, hts⟩ (c2 H.size) (cwV 0 hts gL_law_X7_toggle rfl rfl rfl (by decide +kernel) ⟨Nat.le_of_ble_eq_true rfl, Nat.le_of_ble_eq_true rfl⟩) (fr_preV C w (q0 := 0) (ci := 6) rfl (wMt_0 kA am u) rfl) rfl rfl hl.1 rfl (lv_room (Nat.le_of_ble_eq_true rfl)) dL_law_330 ⟨Nat.le_of_ble_eq_true rfl, Nat.le_of_ble_eq_true rfl⟩) (fun H locs w => ?_)
  refine lv_icmp_eq (tgt := 416) hx hb dL_law_333 (by decide) (fun _ => ?_) (fun g => absurd rfl g)
  exact kk t1 u1 H locs hA1 w
set_option maxHeartbeats 4000000 in
set_option maxRecDepth 100000 in
theorem law_here {p : Program} {l : Launch} {e : Env} {s : State} {m : MethodId} {args : Array Value} {below : List Frame} {meth : Method} {c : Code} {Q : State → Prop} {D : va_G} {kA : Nat → ClassId} {ad am : Nat → Nat} {A : Nat → Prop} {b L i : Nat} {xs : Nat → Int32} {ls : Array Slot} {H : Heap} {locs : List Loc} {t : CT} {u : MT} (C : Cx p s m c args cL_law 4 RL wsL_law D kA A) (hX : va_X b L xs s s.heap) (hbl : b < s.heap.size) (hbA : ¬ A b) (hL : L ≤ 3584) (hi : i + 7 ≤ L) (hAg : AgT t u) (w : Wd D A s H locs (wCt kA ad t ++ wMt kA am u)) (hl : lv_has ls 4 [(3, .int (nI i)), (2, .ref (am 0)), (1, .ref (ad 0)), (0, .ref b)]) (kk : ∀ (t' : CT) (u' : MT) (H1 : Heap) (locs1 : List Loc), AgT t' u' → Wd D A s H1 locs1 (wCt kA ad t' ++ wMt kA am u') → W p l e room_1 s m args below meth c H1 locs1 600000 7302250 Q (F0 m 416 ls [])) : W p l e room_1 s m args below meth c H locs 600000 7302250 Q (F0 m 338 ls []) := by
  obtain ⟨⟨hx, hb, hml, hown, hts⟩, hK, hA, -⟩ := id C
  obtain ⟨r, t1, u1, hA1, c1, c2⟩ := lc_here l D kA ad am hAg 
  refine lv_aload_n hx hb dL_law_338 rfl (lv_at hl 2 rfl) ?_
  refine gl_iF C w (ndCM kA ad am t u) (va_runV (As := []) (rest := []) ⟨hx, hb, hml, hown, hts⟩ (c1 H.size) (cwV 0 hts gL_law_X6_here rfl rfl rfl (by decide +kernel) ⟨Nat.le_of_ble_eq_true rfl, Nat.le_of_ble_eq_true rfl⟩) (fr_preV C w (q0 := 0) (ci := 5) rfl (wCt_0 kA ad t) rfl) rfl rfl hl.1 rfl (lv_room (Nat.le_of_ble_eq_true rfl)) dL_law_339 ⟨Nat.le_of_ble_eq_true rfl, Nat.le_of_ble_eq_true rfl⟩) (fun H locs w => ?_)
  refine lv_aload_n hx hb dL_law_342 rfl (lv_at hl 1 rfl) ?_
  refine gl_iF C w (ndMC kA ad am t1 u) (va_runV (As := []) (rest := [.int r]) ⟨hx, hb, hml, hown, hts⟩ (c2 H.size) (cwV 0 hts gL_law_X7_here rfl rfl rfl (by decide +kernel) ⟨Nat.le_of_ble_eq_true rfl, Nat.le_of_ble_eq_true rfl⟩) (fr_preV C w (q0 := 0) (ci := 6) rfl (wMt_0 kA am u) rfl) rfl rfl hl.1 rfl (lv_room (Nat.le_of_ble_eq_true rfl)) dL_law_343 ⟨Nat.le_of_ble_eq_true rfl, Nat.le_of_ble_eq_true rfl⟩) (fun H locs w => ?_)
  refine lv_icmp_eq (tgt := 416) hx hb dL_law_346 (by decide) (fun _ => ?_) (fun g => absurd rfl g)
  exact kk t1 u1 H locs hA1 w
set_option maxHeartbeats 4000000 in
set_option maxRecDepth 100000 in
theorem law_having {p : Program} {l : Launch} {e : Env} {s : State} {m : MethodId} {args : Array Value} {below : List Frame} {meth : Method} {c : Code} {Q : State → Prop} {D : va_G} {kA : Nat → ClassId} {ad am : Nat → Nat} {A : Nat → Prop} {b L i : Nat} {xs : Nat → Int32} {ls : Array Slot} {H : Heap} {locs : List Loc} {t : CT} {u : MT} (C : Cx p s m c args cL_law 4 RL wsL_law D kA A) (hX : va_X b L xs s s.heap) (hbl : b < s.heap.size) (hbA : ¬ A b) (hL : L ≤ 3584) (hi : i + 7 ≤ L) (hAg : AgT t u) (w : Wd D A s H locs (wCt kA ad t ++ wMt kA am u)) (hl : lv_has ls 4 [(3, .int (nI i)), (2, .ref (am 0)), (1, .ref (ad 0)), (0, .ref b)]) (kk : ∀ (t' : CT) (u' : MT) (H1 : Heap) (locs1 : List Loc), AgT t' u' → Wd D A s H1 locs1 (wCt kA ad t' ++ wMt kA am u') → W p l e room_1 s m args below meth c H1 locs1 600000 7302250 Q (F0 m 416 ls [])) : W p l e room_1 s m args below meth c H locs 600000 7302250 Q (F0 m 351 ls []) := by
  obtain ⟨⟨hx, hb, hml, hown, hts⟩, hK, hA, -⟩ := id C
  obtain ⟨r, t1, u1, hA1, c1, c2⟩ := lc_having l D kA ad am hAg 
  refine lv_aload_n hx hb dL_law_351 rfl (lv_at hl 2 rfl) ?_
  refine gl_iF C w (ndCM kA ad am t u) (va_runV (As := []) (rest := []) ⟨hx, hb, hml, hown, hts⟩ (c1 H.size) (cwV 0 hts gL_law_X6_having rfl rfl rfl (by decide +kernel) ⟨Nat.le_of_ble_eq_true rfl, Nat.le_of_ble_eq_true rfl⟩) (fr_preV C w (q0 := 0) (ci := 5) rfl (wCt_0 kA ad t) rfl) rfl rfl hl.1 rfl (lv_room (Nat.le_of_ble_eq_true rfl)) dL_law_352 ⟨Nat.le_of_ble_eq_true rfl, Nat.le_of_ble_eq_true rfl⟩) (fun H locs w => ?_)
  refine lv_aload_n hx hb dL_law_355 rfl (lv_at hl 1 rfl) ?_
  refine gl_iF C w (ndMC kA ad am t1 u) (va_runV (As := []) (rest := [.int r]) ⟨hx, hb, hml, hown, hts⟩ (c2 H.size) (cwV 0 hts gL_law_X7_having rfl rfl rfl (by decide +kernel) ⟨Nat.le_of_ble_eq_true rfl, Nat.le_of_ble_eq_true rfl⟩) (fr_preV C w (q0 := 0) (ci := 6) rfl (wMt_0 kA am u) rfl) rfl rfl hl.1 rfl (lv_room (Nat.le_of_ble_eq_true rfl)) dL_law_356 ⟨Nat.le_of_ble_eq_true rfl, Nat.le_of_ble_eq_true rfl⟩) (fun H locs w => ?_)
  refine lv_icmp_eq (tgt := 416) hx hb dL_law_359 (by decide) (fun _ => ?_) (fun g => absurd rfl g)
  exact kk t1 u1 H locs hA1 w
set_option maxHeartbeats 4000000 in
set_option maxRecDepth 100000 in
theorem law_steps {p : Program} {l : Launch} {e : Env} {s : State} {m : MethodId} {args : Array Value} {below : List Frame} {meth : Method} {c : Code} {Q : State → Prop} {D : va_G} {kA : Nat → ClassId} {ad am : Nat → Nat} {A : Nat → Prop} {b L i : Nat} {xs : Nat → Int32} {ls : Array Slot} {H : Heap} {locs : List Loc} {t : CT} {u : MT} (C : Cx p s m c args cL_law 4 RL wsL_law D kA A) (hX : va_X b L xs s s.heap) (hbl : b < s.heap.size) (hbA : ¬ A b) (hL : L ≤ 3584) (hi : i + 7 ≤ L) (hAg : AgT t u) (w : Wd D A s H locs (wCt kA ad t ++ wMt kA am u)) (hl : lv_has ls 4 [(3, .int (nI i)), (2, .ref (am 0)), (1, .ref (ad 0)), (0, .ref b)]) (kk : ∀ (t' : CT) (u' : MT) (H1 : Heap) (locs1 : List Loc), AgT t' u' → Wd D A s H1 locs1 (wCt kA ad t' ++ wMt kA am u') → W p l e room_1 s m args below meth c H1 locs1 600000 7302250 Q (F0 m 416 ls [])) : W p l e room_1 s m args below meth c H locs 600000 7302250 Q (F0 m 364 ls []) := by
  obtain ⟨⟨hx, hb, hml, hown, hts⟩, hK, hA, -⟩ := id C
  obtain ⟨r, t1, u1, hA1, c1, c2⟩ := lc_steps l D kA ad am hAg 
  refine lv_aload_n hx hb dL_law_364 rfl (lv_at hl 2 rfl) ?_
  refine gl_iF C w (ndCM kA ad am t u) (va_runV (As := []) (rest := []) ⟨hx, hb, hml, hown, hts⟩ (c1 H.size) (cwV 0 hts gL_law_X6_steps rfl rfl rfl (by decide +kernel) ⟨Nat.le_of_ble_eq_true rfl, Nat.le_of_ble_eq_true rfl⟩) (fr_preV C w (q0 := 0) (ci := 5) rfl (wCt_0 kA ad t) rfl) rfl rfl hl.1 rfl (lv_room (Nat.le_of_ble_eq_true rfl)) dL_law_365 ⟨Nat.le_of_ble_eq_true rfl, Nat.le_of_ble_eq_true rfl⟩) (fun H locs w => ?_)
  refine lv_aload_n hx hb dL_law_368 rfl (lv_at hl 1 rfl) ?_
  refine gl_iF C w (ndMC kA ad am t1 u) (va_runV (As := []) (rest := [.int r]) ⟨hx, hb, hml, hown, hts⟩ (c2 H.size) (cwV 0 hts gL_law_X7_steps rfl rfl rfl (by decide +kernel) ⟨Nat.le_of_ble_eq_true rfl, Nat.le_of_ble_eq_true rfl⟩) (fr_preV C w (q0 := 0) (ci := 6) rfl (wMt_0 kA am u) rfl) rfl rfl hl.1 rfl (lv_room (Nat.le_of_ble_eq_true rfl)) dL_law_369 ⟨Nat.le_of_ble_eq_true rfl, Nat.le_of_ble_eq_true rfl⟩) (fun H locs w => ?_)
  refine lv_icmp_eq (tgt := 416) hx hb dL_law_372 (by decide) (fun _ => ?_) (fun g => absurd rfl g)
  exact kk t1 u1 H locs hA1 w
set_option maxHeartbeats 4000000 in
set_option maxRecDepth 100000 in
theorem law_hint {p : Program} {l : Launch} {e : Env} {s : State} {m : MethodId} {args : Array Value} {below : List Frame} {meth : Method} {c : Code} {Q : State → Prop} {D : va_G} {kA : Nat → ClassId} {ad am : Nat → Nat} {A : Nat → Prop} {b L i : Nat} {xs : Nat → Int32} {ls : Array Slot} {H : Heap} {locs : List Loc} {t : CT} {u : MT} (C : Cx p s m c args cL_law 4 RL wsL_law D kA A) (hX : va_X b L xs s s.heap) (hbl : b < s.heap.size) (hbA : ¬ A b) (hL : L ≤ 3584) (hi : i + 7 ≤ L) (hAg : AgT t u) (w : Wd D A s H locs (wCt kA ad t ++ wMt kA am u)) (hl : lv_has ls 4 [(3, .int (nI i)), (2, .ref (am 0)), (1, .ref (ad 0)), (0, .ref b)]) (kk : ∀ (t' : CT) (u' : MT) (H1 : Heap) (locs1 : List Loc), AgT t' u' → Wd D A s H1 locs1 (wCt kA ad t' ++ wMt kA am u') → W p l e room_1 s m args below meth c H1 locs1 600000 7302250 Q (F0 m 416 ls [])) : W p l e room_1 s m args below meth c H locs 600000 7302250 Q (F0 m 377 ls []) := by
  obtain ⟨⟨hx, hb, hml, hown, hts⟩, hK, hA, -⟩ := id C
  obtain ⟨r, t1, u1, hA1, c1, c2⟩ := lc_hint l D kA ad am hAg 
  refine lv_aload_n hx hb dL_law_377 rfl (lv_at hl 2 rfl) ?_
  refine gl_iF C w (ndCM kA ad am t u) (va_runV (As := []) (rest := []) ⟨hx, hb, hml, hown, hts⟩ (c1 H.size) (cwV 0 hts gL_law_X6_hint rfl rfl rfl (by decide +kernel) ⟨Nat.le_of_ble_eq_true rfl, Nat.le_of_ble_eq_true rfl⟩) (fr_preV C w (q0 := 0) (ci := 5) rfl (wCt_0 kA ad t) rfl) rfl rfl hl.1 rfl (lv_room (Nat.le_of_ble_eq_true rfl)) dL_law_378 ⟨Nat.le_of_ble_eq_true rfl, Nat.le_of_ble_eq_true rfl⟩) (fun H locs w => ?_)
  refine lv_aload_n hx hb dL_law_381 rfl (lv_at hl 1 rfl) ?_
  refine gl_iF C w (ndMC kA ad am t1 u) (va_runV (As := []) (rest := [.int r]) ⟨hx, hb, hml, hown, hts⟩ (c2 H.size) (cwV 0 hts gL_law_X7_hint rfl rfl rfl (by decide +kernel) ⟨Nat.le_of_ble_eq_true rfl, Nat.le_of_ble_eq_true rfl⟩) (fr_preV C w (q0 := 0) (ci := 6) rfl (wMt_0 kA am u) rfl) rfl rfl hl.1 rfl (lv_room (Nat.le_of_ble_eq_true rfl)) dL_law_382 ⟨Nat.le_of_ble_eq_true rfl, Nat.le_of_ble_eq_true rfl⟩) (fun H locs w => ?_)
  refine lv_icmp_eq (tgt := 416) hx hb dL_law_385 (by decide) (fun _ => ?_) (fun g => absurd rfl g)
  exact kk t1 u1 H locs hA1 w
set_option maxHeartbeats 4000000 in
set_option maxRecDepth 100000 in
theorem law_situations {p : Program} {l : Launch} {e : Env} {s : State} {m : MethodId} {args : Array Value} {below : List Frame} {meth : Method} {c : Code} {Q : State → Prop} {D : va_G} {kA : Nat → ClassId} {ad am : Nat → Nat} {A : Nat → Prop} {b L i : Nat} {xs : Nat → Int32} {ls : Array Slot} {H : Heap} {locs : List Loc} {t : CT} {u : MT} (C : Cx p s m c args cL_law 4 RL wsL_law D kA A) (hX : va_X b L xs s s.heap) (hbl : b < s.heap.size) (hbA : ¬ A b) (hL : L ≤ 3584) (hi : i + 7 ≤ L) (hAg : AgT t u) (w : Wd D A s H locs (wCt kA ad t ++ wMt kA am u)) (hl : lv_has ls 4 [(3, .int (nI i)), (2, .ref (am 0)), (1, .ref (ad 0)), (0, .ref b)]) (kk : ∀ (t' : CT) (u' : MT) (H1 : Heap) (locs1 : List Loc), AgT t' u' → Wd D A s H1 locs1 (wCt kA ad t' ++ wMt kA am u') → W p l e room_1 s m args below meth c H1 locs1 600000 7302250 Q (F0 m 416 ls [])) : W p l e room_1 s m args below meth c H locs 600000 7302250 Q (F0 m 390 ls []) := by
  obtain ⟨⟨hx, hb, hml, hown, hts⟩, hK, hA, -⟩ := id C
  obtain ⟨r, t1, u1, hA1, c1, c2⟩ := lc_situations l D kA ad am hAg 
  refine lv_aload_n hx hb dL_law_390 rfl (lv_at hl 2 rfl) ?_
  refine gl_iF C w (ndCM kA ad am t u) (va_runV (As := []) (rest := []) ⟨hx, hb, hml, hown, hts⟩ (c1 H.size) (cwV 0 hts gL_law_X6_situations rfl rfl rfl (by decide +kernel) ⟨Nat.le_of_ble_eq_true rfl, Nat.le_of_ble_eq_true rfl⟩) (fr_preV C w (q0 := 0) (ci := 5) rfl (wCt_0 kA ad t) rfl) rfl rfl hl.1 rfl (lv_room (Nat.le_of_ble_eq_true rfl)) dL_law_391 ⟨Nat.le_of_ble_eq_true rfl, Nat.le_of_ble_eq_true rfl⟩) (fun H locs w => ?_)
  refine lv_aload_n hx hb dL_law_394 rfl (lv_at hl 1 rfl) ?_
  refine gl_iF C w (ndMC kA ad am t1 u) (va_runV (As := []) (rest := [.int r]) ⟨hx, hb, hml, hown, hts⟩ (c2 H.size) (cwV 0 hts gL_law_X7_situations rfl rfl rfl (by decide +kernel) ⟨Nat.le_of_ble_eq_true rfl, Nat.le_of_ble_eq_true rfl⟩) (fr_preV C w (q0 := 0) (ci := 6) rfl (wMt_0 kA am u) rfl) rfl rfl hl.1 rfl (lv_room (Nat.le_of_ble_eq_true rfl)) dL_law_395 ⟨Nat.le_of_ble_eq_true rfl, Nat.le_of_ble_eq_true rfl⟩) (fun H locs w => ?_)
  refine lv_icmp_eq (tgt := 416) hx hb dL_law_398 (by decide) (fun _ => ?_) (fun g => absurd rfl g)
  exact kk t1 u1 H locs hA1 w
set_option maxHeartbeats 4000000 in
set_option maxRecDepth 100000 in
theorem law_safe {p : Program} {l : Launch} {e : Env} {s : State} {m : MethodId} {args : Array Value} {below : List Frame} {meth : Method} {c : Code} {Q : State → Prop} {D : va_G} {kA : Nat → ClassId} {ad am : Nat → Nat} {A : Nat → Prop} {b L i : Nat} {xs : Nat → Int32} {ls : Array Slot} {H : Heap} {locs : List Loc} {t : CT} {u : MT} (C : Cx p s m c args cL_law 4 RL wsL_law D kA A) (hX : va_X b L xs s s.heap) (hbl : b < s.heap.size) (hbA : ¬ A b) (hL : L ≤ 3584) (hi : i + 7 ≤ L) (hAg : AgT t u) (w : Wd D A s H locs (wCt kA ad t ++ wMt kA am u)) (hl : lv_has ls 4 [(3, .int (nI i)), (2, .ref (am 0)), (1, .ref (ad 0)), (0, .ref b)]) (kk : ∀ (t' : CT) (u' : MT) (H1 : Heap) (locs1 : List Loc), AgT t' u' → Wd D A s H1 locs1 (wCt kA ad t' ++ wMt kA am u') → W p l e room_1 s m args below meth c H1 locs1 600000 7302250 Q (F0 m 416 ls [])) : W p l e room_1 s m args below meth c H locs 600000 7302250 Q (F0 m 403 ls []) := by
  obtain ⟨⟨hx, hb, hml, hown, hts⟩, hK, hA, -⟩ := id C
  obtain ⟨r, t1, u1, hA1, c1, c2⟩ := lc_safe l D kA ad am hAg 
  refine lv_aload_n hx hb dL_law_403 rfl (lv_at hl 2 rfl) ?_
  refine gl_iF C w (ndCM kA ad am t u) (va_runV (As := []) (rest := []) ⟨hx, hb, hml, hown, hts⟩ (c1 H.size) (cwV 0 hts gL_law_X6_safe rfl rfl rfl (by decide +kernel) ⟨Nat.le_of_ble_eq_true rfl, Nat.le_of_ble_eq_true rfl⟩) (fr_preV C w (q0 := 0) (ci := 5) rfl (wCt_0 kA ad t) rfl) rfl rfl hl.1 rfl (lv_room (Nat.le_of_ble_eq_true rfl)) dL_law_404 ⟨Nat.le_of_ble_eq_true rfl, Nat.le_of_ble_eq_true rfl⟩) (fun H locs w => ?_)
  refine lv_aload_n hx hb dL_law_407 rfl (lv_at hl 1 rfl) ?_
  refine gl_iF C w (ndMC kA ad am t1 u) (va_runV (As := []) (rest := [.int r]) ⟨hx, hb, hml, hown, hts⟩ (c2 H.size) (cwV 0 hts gL_law_X7_safe rfl rfl rfl (by decide +kernel) ⟨Nat.le_of_ble_eq_true rfl, Nat.le_of_ble_eq_true rfl⟩) (fr_preV C w (q0 := 0) (ci := 6) rfl (wMt_0 kA am u) rfl) rfl rfl hl.1 rfl (lv_room (Nat.le_of_ble_eq_true rfl)) dL_law_408 ⟨Nat.le_of_ble_eq_true rfl, Nat.le_of_ble_eq_true rfl⟩) (fun H locs w => ?_)
  refine lv_icmp_eq (tgt := 416) hx hb dL_law_411 (by decide) (fun _ => ?_) (fun g => absurd rfl g)
  exact kk t1 u1 H locs hA1 w
