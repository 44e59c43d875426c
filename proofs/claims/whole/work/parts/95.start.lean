/-! The law, from its entry. -/
set_option maxRecDepth 20000 in
theorem ml_0 : Cond.classLink RL 7 RX6 ∈ wsL_law := List.mem_of_getElem? (i := 0) rfl
set_option maxRecDepth 20000 in
theorem ml_1 : Cond.instantiable RX6 4 ∈ wsL_law := List.mem_of_getElem? (i := 1) rfl
set_option maxRecDepth 20000 in
theorem ml_2 : Cond.initialized RX6 ∈ wsL_law := List.mem_of_getElem? (i := 2) rfl
set_option maxRecDepth 20000 in
theorem ml_3 : Cond.classLink RL 10 RX7 ∈ wsL_law := List.mem_of_getElem? (i := 3) rfl
set_option maxRecDepth 20000 in
theorem ml_4 : Cond.instantiable RX7 18 ∈ wsL_law := List.mem_of_getElem? (i := 4) rfl
set_option maxRecDepth 20000 in
theorem ml_5 : Cond.initialized RX7 ∈ wsL_law := List.mem_of_getElem? (i := 5) rfl
set_option maxRecDepth 20000 in
theorem ml_7 : Cond.methodLink RL 9 yX6_init ∈ wsL_law := List.mem_of_getElem? (i := 7) rfl
set_option maxRecDepth 20000 in
theorem ml_8 : Cond.instanceMethod yX6_init ∈ wsL_law := List.mem_of_getElem? (i := 8) rfl
set_option maxRecDepth 20000 in
theorem ml_212 : Cond.methodLink RL 12 yX7_init ∈ wsL_law := List.mem_of_getElem? (i := 212) rfl
set_option maxRecDepth 20000 in
theorem ml_213 : Cond.instanceMethod yX7_init ∈ wsL_law := List.mem_of_getElem? (i := 213) rfl
/-- what the two makers leave -/
theorem st_make : ∃ (t : CT) (u : MT) (res6 : Int32 × Int32 × Int32 × Int32 × Int64 × Int32 × (Nat → Int32) × (Nat → Int32) × (Nat → Int32) × (Nat → Int32) × (Nat → Int32) × (Nat → Int32) × (Nat → Int32) × (Nat → Int32) × (Nat → Int32) × (Nat → Nat → Int32) × (Nat → Int32) × (Nat → Int32)) (res7 : Int32 × Int64 × Int32 × Int32 × Int32 × Int32 × (Nat → Int32) × (Nat → Int32) × (Nat → Int32) × (Nat → Int32) × (Nat → Int32) × (Nat → Int32) × (Nat → Int32) × (Nat → Int32) × (Nat → Int32) × (Nat → Int32)), AgT t u ∧ f_X2_build 0 2 1 0 0 0 0 0 0 0 0 (fun _ => 0) (fun _ => 0) (fun _ => 0) (fun _ => 0) (fun _ => 0) (fun _ => 0) (fun _ => 0) (fun _ => 0) (fun _ => 0) (fun _ _ => 0) (fun _ => 0) (fun _ => 0) = some res6 ∧ f_X7_make 0 2 1 0 0 0 0 0 0 0 (fun _ => 0) (fun _ => 0) (fun _ => 0) (fun _ => 0) (fun _ => 0) (fun _ => 0) (fun _ => 0) (fun _ => 0) (fun _ => 0) (fun _ => 0) = some res7 ∧
    (∀ (kA : Nat → ClassId) (ad : Nat → Nat), wC kA ad 0 res6.1 res6.2.1 res6.2.2.1 res6.2.2.2.1 res6.2.2.2.2.1 res6.2.2.2.2.2.1 0 res6.2.2.2.2.2.2.1 res6.2.2.2.2.2.2.2.1 res6.2.2.2.2.2.2.2.2.1 res6.2.2.2.2.2.2.2.2.2.1 res6.2.2.2.2.2.2.2.2.2.2.1 res6.2.2.2.2.2.2.2.2.2.2.2.1 res6.2.2.2.2.2.2.2.2.2.2.2.2.1 res6.2.2.2.2.2.2.2.2.2.2.2.2.2.1 res6.2.2.2.2.2.2.2.2.2.2.2.2.2.2.1 res6.2.2.2.2.2.2.2.2.2.2.2.2.2.2.2.1 res6.2.2.2.2.2.2.2.2.2.2.2.2.2.2.2.2.1 res6.2.2.2.2.2.2.2.2.2.2.2.2.2.2.2.2.2 (fun _ => 0) (fun _ => 0) (fun _ => 0) (fun _ => 0) (fun _ => 0) = wCt kA ad t) ∧
    (∀ (kA : Nat → ClassId) (am : Nat → Nat), wM kA am res7.2.1 res7.2.2.1 res7.2.2.2.1 res7.2.2.2.2.1 res7.2.2.2.2.2.1 0 0 res7.2.2.2.2.2.2.1 res7.2.2.2.2.2.2.2.1 res7.2.2.2.2.2.2.2.2.1 res7.2.2.2.2.2.2.2.2.2.1 res7.2.2.2.2.2.2.2.2.2.2.1 res7.2.2.2.2.2.2.2.2.2.2.2.1 res7.2.2.2.2.2.2.2.2.2.2.2.2.1 res7.2.2.2.2.2.2.2.2.2.2.2.2.2.1 res7.2.2.2.2.2.2.2.2.2.2.2.2.2.2.1 res7.2.2.2.2.2.2.2.2.2.2.2.2.2.2.2 (fun _ => 0) = wMt kA am u) := by
  obtain ⟨st', cnt', parent', level', kind', snum', xx', yy', lying', sw', doors', beyond', offered', opn', e1, e2⟩ := c_build (R := 2) (K := 1) (n := 0) (b := 0) 0 (by omega) (by omega) (by omega) (by omega) (by omega) (by omega) (by omega) 0 0 0 0 0 0 (fun _ => 0) (fun _ => 0) (fun _ => 0) (fun _ => 0) (fun _ => 0) (fun _ => 0) (fun _ => 0) (fun _ => 0) (fun _ => 0) (fun _ _ => 0) (fun _ => 0) (fun _ => 0)
  obtain ⟨mst', sdc', mp', ml', mk', mn', mx', my', mly', msw', mlo', mc', e3, e4⟩ := m_make (R := 2) (K := 1) (n := 0) (b := 0) 0 (by omega) (by omega) (by omega) (by omega) (by omega) (by omega) (by omega) 0 0 0 0 0 (fun _ => 0) (fun _ => 0) (fun _ => 0) (fun _ => 0) (fun _ => 0) (fun _ => 0) (fun _ => 0) (fun _ => 0) (fun _ => 0) (fun _ => 0)
  have hw := mkA_wf (R := 2) (K := 1) (n := 0) (b := 0) 0 (by omega) (by omega) (by omega) (by omega) (by omega) (by omega) (by omega)
  refine ⟨(0, (nI 2), (nI 1), (nI (aG (mkA 0 2 1 0 0).1)), (nI (mkA 0 2 1 0 0).2), st', cnt', 0, parent', level', kind', snum', xx', yy', lying', sw', doors', beyond', offered', opn', (fun _ => 0), (fun _ => 0), (fun _ => 0), (fun _ => 0), (fun _ => 0)), (mst', (nI 2), sdc', (nI (aG (mkA 0 2 1 0 0).1)), 0, 0, 0, mp', ml', mk', mn', mx', my', mly', msw', mlo', mc', (fun _ => 0)), _, _, ?_, e1, e3, fun _ _ => rfl, fun _ _ => rfl⟩
  exact ⟨(mkA 0 2 1 0 0).1, 0, hw, e2, e4, by have := hw.1; omega, rfl, rfl⟩
set_option maxHeartbeats 4000000 in
set_option maxRecDepth 100000 in
/-- THE LAW, from its entry -/
theorem whole_start {p : Program} {e : Env} {s : State} {m : MethodId} {below : List Frame} {meth : Method} {c : Code} (l : Launch) {b L : Nat} {xs : Nat → Int32} (hL : L ≤ 3584) (C0 : lw_At p s m meth c b L xs) : W p l e room_1 s m #[Value.ref b] below meth c s.heap [] 0 0 (lw_Z below #[Value.ref b] s) (entryFrame m ([Value.ref b] : List Value).toArray 4) := by
  obtain ⟨hx, hb, hr, hml, hown, hts0, hX, hbl, hlocks, hgv⟩ := id C0
  have hts : ∀ w ∈ wsL_law, w.before #[Value.ref b] s = true := fun w h => hts0 w (wsL_law_in w h)
  obtain ⟨D, kA, hK, hk⟩ := st_K hts0
  have hXs : Xs (fun q : Nat => s.heap.size ≤ q) s s.heap := st_Xs hts0 hgv (fun a ha => Nat.not_le.mpr ha)
  obtain ⟨t, u, res6, res7, hAg, hr6, hr7, ht, hu⟩ := st_make
  have C : Cx p s m c #[Value.ref b] cL_law 4 RL wsL_law D kA (fun q => s.heap.size ≤ q) := ⟨⟨hx, hb, hml, hown, hts⟩, hK, fun q h => h, hXs⟩
  have hA : ∀ q : Nat, s.heap.size ≤ q → (fun q : Nat => s.heap.size ≤ q) q := fun _ h => h
  have w : Wd D (fun q => s.heap.size ≤ q) s s.heap [] [] := ⟨fun k q h => (by simp at h), ⟨fun i j p q h => (by simp at h), fun k q h => (by simp at h)⟩, va_S.rf⟩
  have hl := lv_entry ([.ref b]) (n := 4) (Nat.le_of_ble_eq_true rfl)
  rw [lg_entry_eq]
  generalize (lg_sl ([.ref b]) ++ List.replicate (4 - (lg_sl ([.ref b])).length) Slot.unset).toArray = ls at hl ⊢
  have hl : lv_has ls 4 [(0, .ref b)] := hl
  refine va_new (ci := 5) (fs := [.null, .null, .null, .int 0]) (C := RX6) (T := TX6) (N := 4) hx hb hts0 inX6 tyX6 tyX6_ok hown (hts _ ml_0) (hts _ ml_1) (hts _ ml_2) hK w.1 w.2.1 w.2.2 hA rfl (fun j hj => by rcases (show j = 0 ∨ j = 1 ∨ j = 2 ∨ j = 3 by omega) with rfl | rfl | rfl | rfl <;> rfl) (Nat.le_of_ble_eq_true rfl) (Nat.le_of_ble_eq_true rfl) dL_law_0 (fun q1 H hP hD hS => ?_)
  have w : Wd D (fun q => s.heap.size ≤ q) s H [] [(q1, .inr (5, [.null, .null, .null, .int 0]))] := ⟨hP, hD, hS⟩
  refine lv_dup hx hb dL_law_3 rfl ?_
  refine gl_callN (wc := [(q1, .inr (5, [.null, .null, .null, .int 0]))]) (wr := []) C w [0] [] rfl rfl (by decide) (by decide) (va_runI (As := []) (rest := [.ref q1]) ⟨hx, hb, hml, hown, hts⟩ (c_X6_init l D kA q1 H.size hr6) (cwI 0 hts gL_law_X6_init rfl rfl rfl (hts _ ml_2) (hts _ ml_7) (hts _ ml_8) rfl (by decide +kernel) ⟨Nat.le_of_ble_eq_true rfl, Nat.le_of_ble_eq_true rfl⟩) (Wd.preN (wc := [(q1, .inr (5, [.null, .null, .null, .int 0]))]) C w hk [0] rfl rfl (by decide)) rfl rfl hl.1 rfl (lv_room (Nat.le_of_ble_eq_true rfl)) dL_law_4 ⟨Nat.le_of_ble_eq_true rfl, Nat.le_of_ble_eq_true rfl⟩) (fun u1 H locs w => ?_)
  rw [List.nil_append, ht] at w
  refine lv_astore_n (lv' := [(1, .ref q1), (0, .ref b)]) hx hb dL_law_7 rfl hl (by decide) rfl (fun ls hl => ?_)
  refine va_new (ci := 6) (fs := [.long 0, .int 0, .int 0, .int 0, .null, .null, .null, .null, .null, .null, .null, .null, .null, .null, .int 0, .null, .int 0, .int 0]) (C := RX7) (T := TX7) (N := 18) hx hb hts0 inX7 tyX7 tyX7_ok hown (hts _ ml_3) (hts _ ml_4) (hts _ ml_5) hK w.1 w.2.1 w.2.2 hA rfl (fun j hj => by rcases (show j = 0 ∨ j = 1 ∨ j = 2 ∨ j = 3 ∨ j = 4 ∨ j = 5 ∨ j = 6 ∨ j = 7 ∨ j = 8 ∨ j = 9 ∨ j = 10 ∨ j = 11 ∨ j = 12 ∨ j = 13 ∨ j = 14 ∨ j = 15 ∨ j = 16 ∨ j = 17 by omega) with rfl | rfl | rfl | rfl | rfl | rfl | rfl | rfl | rfl | rfl | rfl | rfl | rfl | rfl | rfl | rfl | rfl | rfl <;> rfl) (Nat.le_of_ble_eq_true rfl) (Nat.le_of_ble_eq_true rfl) dL_law_8 (fun q2 H hP hD hS => ?_)
  have w : Wd D (fun q => s.heap.size ≤ q) s H locs (wCt kA (adH q1 u1) t ++ [(q2, .inr (6, [.long 0, .int 0, .int 0, .int 0, .null, .null, .null, .null, .null, .null, .null, .null, .null, .null, .int 0, .null, .int 0, .int 0]))]) := ⟨hP, hD, hS⟩
  refine lv_dup hx hb dL_law_11 rfl ?_
  refine gl_callN (wc := [(q2, .inr (6, [.long 0, .int 0, .int 0, .int 0, .null, .null, .null, .null, .null, .null, .null, .null, .null, .null, .int 0, .null, .int 0, .int 0]))]) (wr := wCt kA (adH q1 u1) t) C w [36] (List.range (wCt kA (adH q1 u1) t).length) rfl (fr_L _ _) (by rw [wCt_len]; decide) (by rw [wCt_len]; decide) (va_runI (As := []) (rest := [.ref q2]) ⟨hx, hb, hml, hown, hts⟩ (c_X7_init l D kA q2 H.size hr7) (cwI 0 hts gL_law_X7_init rfl rfl rfl (hts _ ml_5) (hts _ ml_212) (hts _ ml_213) rfl (by decide +kernel) ⟨Nat.le_of_ble_eq_true rfl, Nat.le_of_ble_eq_true rfl⟩) (Wd.preN (wc := [(q2, .inr (6, [.long 0, .int 0, .int 0, .int 0, .null, .null, .null, .null, .null, .null, .null, .null, .null, .null, .int 0, .null, .int 0, .int 0]))]) C w hk [36] rfl rfl (by decide)) rfl rfl hl.1 rfl (lv_room (Nat.le_of_ble_eq_true rfl)) dL_law_12 ⟨Nat.le_of_ble_eq_true rfl, Nat.le_of_ble_eq_true rfl⟩) (fun u2 H locs w => ?_)
  rw [hu] at w
  refine lv_astore_n (lv' := [(2, .ref q2), (1, .ref q1), (0, .ref b)]) hx hb dL_law_15 rfl hl (by decide) rfl (fun ls hl => ?_)
  refine lv_iconst (v := 0) hx hb dL_law_16 (by decide) ?_
  refine lv_istore_n (lv' := [(3, .int 0), (2, .ref q2), (1, .ref q1), (0, .ref b)]) hx hb dL_law_17 rfl hl (by decide) rfl (fun ls hl => ?_)
  refine W.widen (k := 600000) (n := 7302250) (Nat.le_of_ble_eq_true rfl) (Nat.le_of_ble_eq_true rfl) ?_
  exact law_loop l (ad := adH q1 u1) (am := adH q2 u2) hL C hr hlocks hX hbl (L + 8) 0 (by omega) (by omega) t u H locs ls hAg w hl
