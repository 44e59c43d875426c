/-! A new grid of 12 rows of 12 ints: the machine's step, and the row that walks it. -/
def gmI (c : ClassId) : Cell := arrV c 12 (fun _ => .int 0)
def gmO (c : ClassId) (h i : Nat) : Cell := arrV c 12 (fun j => va_rf (if j < i then some (h + 1 + j) else none))
theorem gmO_set (c : ClassId) (h i : Nat) : (gmO c h i).setSlot i (.ref (h + 1 + i)) = gmO c h (i + 1) := by
  unfold gmO
  rw [arrV_store]
  refine congrArg (arrV c 12) (funext fun j => ?_)
  show (if j = i then _ else _) = _
  by_cases e : j = i
  · rw [if_pos e, e, if_pos (Nat.lt_succ_self i)]; rfl
  · rw [if_neg e]
    dsimp only
    by_cases q : j < i
    · rw [if_pos q, if_pos (by omega)]
    · rw [if_neg q, if_neg (by omega)]
def gmS (s : State) (cO cI : ClassId) : Nat → State
  | 0 => s.pushCell (gmO cO s.heap.size 0)
  | i + 1 => ((gmS s cO cI i).pushCell (gmI cI)).setCell s.heap.size (gmO cO s.heap.size (i + 1))
theorem gmS_top (s : State) (f : JFrame) (cO cI : ClassId) : ∀ i, gmS (s.setTop f) cO cI i = (gmS s cO cI i).setTop f
  | 0 => rfl
  | i + 1 => by
    show ((gmS (s.setTop f) cO cI i).pushCell _).setCell _ _ = _
    rw [gmS_top s f cO cI i, State.pushCell_setTop, State.setCell_setTop]
    rfl
theorem gmS_at (s : State) (cO cI : ClassId) : ∀ i, (gmS s cO cI i).heap.size = s.heap.size + 1 + i ∧ (gmS s cO cI i).vm = s.vm ∧ (gmS s cO cI i).slotsUsed = s.slotsUsed + 12 + 12 * i ∧ (gmS s cO cI i).heap[s.heap.size]? = some (gmO cO s.heap.size i) ∧
    (∀ a, a < s.heap.size → (gmS s cO cI i).heap[a]? = s.heap[a]?) ∧ ∀ j, j < i → (gmS s cO cI i).heap[s.heap.size + 1 + j]? = some (gmI cI)
  | 0 => by
    refine ⟨by simp [gmS], rfl, by simp [gmS, gmO, arrV], State.heap_pushCell_size _ _, fun a ha => State.heap_pushCell_of_lt _ _ ha, fun j hj => by omega⟩
  | i + 1 => by
    obtain ⟨h1, h2, h3, h4, h5, h6⟩ := gmS_at s cO cI i
    have k0 : ((gmS s cO cI i).pushCell (gmI cI)).heap[s.heap.size]? = some (gmO cO s.heap.size i) := by
      rw [State.heap_pushCell_of_lt (h := (show s.heap.size < (gmS s cO cI i).heap.size by rw [h1]; omega))]; exact h4
    refine ⟨by simp [gmS, State.setCell, h1]; omega, by simp [gmS, h2], by simp [gmS, h3, gmI, arrV]; omega, State.heap_setCell_self k0, fun a ha => ?_, fun j hj => ?_⟩
    · show (((gmS s cO cI i).pushCell (gmI cI)).setCell s.heap.size _).heap[a]? = _
      rw [State.heap_setCell_other (Nat.ne_of_gt ha), State.heap_pushCell_of_lt (h := (show a < (gmS s cO cI i).heap.size by rw [h1]; omega))]
      exact h5 a ha
    · show (((gmS s cO cI i).pushCell (gmI cI)).setCell s.heap.size _).heap[s.heap.size + 1 + j]? = _
      rw [State.heap_setCell_other (show s.heap.size ≠ s.heap.size + 1 + j by omega)]
      by_cases e : j = i
      · rw [e, ← h1]
        exact State.heap_pushCell_size _ _
      · rw [State.heap_pushCell_of_lt (h := (show s.heap.size + 1 + j < (gmS s cO cI i).heap.size by rw [h1]; omega))]
        exact h6 j (by omega)
section GMW
variable {E : CtlPost} {e : Env} {d : Bool} {acts : List Action} {s : State}
theorem gm_row {cI cc : ClassId} {kI : Class} (hk : s.vm.classes[cI]? = some kI) (hkind : kI.kind = .array cc .int) (hl : ¬ 12 > e.platform.arrayLengthLimit) (hh : ¬ 12 * componentBytes .int > e.platform.maxHeapBytes)
    (h1 : s.heap.size < e.platform.maxCells) (h2 : s.slotsUsed + 12 ≤ e.platform.maxSlots) {Q : Addr → Pre} (hq : ∀ acts', Q s.heap.size d acts' (s.pushCell (gmI cI))) : wp (multianewarray.make cI [12]) Q E e d acts s := by
  rw [multianewarray.make]
  simp only [wp_bind', W.ite, show ¬ (12 : Int32) < 0 by decide, if_false, wp_pure', W.theClass, hk, hkind, Option.some.injEq, exists_eq_left']
  refine W.newArray_of (howMany := 12) hk hkind hl hh h1 h2 rfl (fun acts' => ?_)
  have e1 : ({ cls := cI, slots := Array.replicate 12 (defaultValue .int) } : Cell) = gmI cI := arrV_new cI 12 (.int 0)
  rw [e1]
  exact hq acts'
theorem gm_make {cO cI cc : ClassId} {kO kI : Class} (hkO : s.vm.classes[cO]? = some kO) (hO : kO.kind = .array cI (.array .int)) (hkI : s.vm.classes[cI]? = some kI) (hI : kI.kind = .array cc .int)
    (hl : ¬ 12 > e.platform.arrayLengthLimit) (hh1 : ¬ 12 * componentBytes (.array .int) > e.platform.maxHeapBytes) (hh2 : ¬ 12 * componentBytes .int > e.platform.maxHeapBytes) (hc : s.heap.size + 13 ≤ e.platform.maxCells) (hs : s.slotsUsed + 156 ≤ e.platform.maxSlots)
    {Q : Addr → Pre} (hq : ∀ d' acts', Q s.heap.size d' acts' (gmS s cO cI 12)) : wp (multianewarray.make cO [12, 12]) Q E e d acts s := by
  rw [multianewarray.make]
  simp only [wp_bind', W.ite, show ¬ (12 : Int32) < 0 by decide, if_false, wp_pure', W.theClass, hkO, hO, Option.some.injEq, exists_eq_left']
  refine W.newArray_of (howMany := 12) hkO hO hl hh1 (by omega) (by omega) rfl (fun acts' => ?_)
  have e1 : ({ cls := cO, slots := Array.replicate 12 Value.null } : Cell) = gmO cO s.heap.size 0 := by
    have h := arrV_new cO 12 Value.null
    refine h.trans (congrArg (arrV cO 12) (funext fun j => ?_))
    rw [if_neg (Nat.not_lt_zero j)]
    rfl
  rw [e1]
  have hf : ([12] : List Int32).find? (· < 0) = none := by decide
  simp only [hf]
  rw [ite_self, wp_bind', Std.Legacy.Range.forIn_eq_forIn_range']
  have hz : ([:(12 : Int32).toNatClampNeg] : Std.Legacy.Range).size = 12 := by decide
  rw [hz]
  show wp (forIn (List.range' 0 12 1) PUnit.unit _) _ E e d acts' _
  refine wp_forIn_inv (fun rest t => ∃ i, i ≤ 12 ∧ rest = List.range' i (12 - i) ∧ t = gmS s cO cI i) _ _ ⟨0, by omega, rfl, rfl⟩ ?_ ?_
  · rintro x rest t d' a' Q' ⟨i, hi, hr, rfl⟩ hnext
    have hlt : i < 12 := by
      rcases Nat.lt_or_ge i 12 with h | h
      · exact h
      · rw [show 12 - i = 0 by omega] at hr; cases hr
    rw [show 12 - i = (12 - (i + 1)) + 1 by omega, List.range'_succ] at hr
    obtain ⟨hx, hrest⟩ := List.cons.inj hr
    subst hx
    obtain ⟨g1, g2, g3, g4, -, -⟩ := gmS_at s cO cI x
    simp only [wp_bind']
    refine gm_row (by rw [g2]; exact hkI) hI hl hh2 (by rw [g1]; omega) (by rw [g3]; omega) (fun a2 => ?_)
    simp only [wp_bind', W.writeLoc, wp_pure']
    refine ⟨gmO cO s.heap.size x, by rw [State.heap_pushCell_of_lt (h := (show s.heap.size < (gmS s cO cI x).heap.size by rw [g1]; omega))]; exact g4, (fun q => by cases q), by show x < (arrV _ _ _).slots.size; rw [arrV_size]; exact hlt, ?_, hnext _ _ _ ⟨x + 1, hlt, hrest, ?_⟩⟩
    · show State.fitsSlot _ cO .none x _ = true
      simp [State.fitsSlot, State.slotType?, g2, hkO, hO]
      rfl
    · rw [g1, gmO_set]; rfl
  · rintro t d' a' ⟨i, hi, hr, rfl⟩
    have e2 : i = 12 := by
      rcases Nat.lt_or_ge i 12 with h | h
      · rw [show 12 - i = (12 - (i + 1)) + 1 by omega, List.range'_succ] at hr; cases hr
      · omega
    subst e2
    simp only [wp_pure']
    exact hq _ _
end GMW
/-- the class of the grid is that of arrays of rows -/
def gK (kA : Nat → ClassId) (U : State) : Prop := ∃ k, U.vm.classes[kA 3]? = some k ∧ k.kind = .array (kA 0) (.array .int)
theorem gK.moved {kA : Nat → ClassId} {u U : State} (hvm : u.vm.Alike U.vm) (h : gK kA u) : gK kA U := by
  obtain ⟨k, h1, h2⟩ := h
  obtain ⟨k', hk', he⟩ := hvm.2.2 _ _ h1
  exact ⟨k', hk', by rw [he]; exact h2⟩
section GMT
variable {p : Program} {l : Launch} {e : Env} {R : Room} {s : State} {m : MethodId} {args : Array Value} {below : List Frame} {meth : Method} {c : Code} {H : Heap} {locs : List Loc} {cells slots : Nat} {Q : State → Prop}
variable {cc : ByteArray} {nL : Nat} {Ts : List Cond} {own : String} {rest : List Value} {pc : Nat} {ls : Array Slot} {D : va_G} {kA : Nat → ClassId} {A : Nat → Prop} {ws : va_W}
theorem gm_stand {T : State} (X : Stand p l e R s m args below meth c T locs cells slots) (cO cI : ClassId) : ∀ i, Stand p l e R s m args below meth c (gmS T cO cI i) locs (cells + 1 + i) (slots + 12 + 12 * i)
  | 0 => by
    have h := X.pushed (gmO cO T.heap.size 0)
    have e1 : (gmO cO T.heap.size 0).slots.size = 12 := arrV_size _ _ _
    rw [e1] at h
    exact h
  | i + 1 => by
    have Xi := gm_stand X cO cI i
    obtain ⟨g1, g2, g3, g4, -, -⟩ := gmS_at T cO cI i
    have hcell : ((gmS T cO cI i).pushCell (gmI cI)).heap[T.heap.size]? = some (gmO cO T.heap.size i) := by
      rw [State.heap_pushCell_of_lt (h := (show T.heap.size < (gmS T cO cI i).heap.size by rw [g1]; omega))]
      exact g4
    have h := (Xi.pushed (gmI cI)).stored hcell i (.ref (T.heap.size + 1 + i))
    have e1 : (gmI cI).slots.size = 12 := arrV_size _ _ _
    rw [e1, gmO_set] at h
    have h2 := h.forget (fun y hy => by rw [List.mem_singleton.mp hy]; exact X.heapGrown)
    have e3 : slots + 12 + 12 * (i + 1) = slots + 12 + 12 * i + 12 := by omega
    rw [e3]
    exact h2
theorem gm_step {T : State} (X : Stand p l e R s m args below meth c T locs cells slots) (hexec : p.tables.exec = Jvm.exec) (hown : s.vm.findClass own = some m.cls) {index : Nat} (hclink : (Cond.classLink own index "[[I").before args s = true) (hf : s.vm.findClass "[[I" = some (kA 3)) (hg : gK kA s) (hI : ∃ k cc, s.vm.classes[kA 0]? = some k ∧ k.kind = .array cc .int)
    (hcells : cells + 13 ≤ R.cells) (hslots : slots + 156 ≤ R.slots) (hdg : decode c.code pc = .ok (.multianewarray index 2, 4)) :
    ∃ vm₁ : Vm, s.WarmedH vm₁ ∧ ∀ target, Steps p.tables e below ((gmS (T.setVm vm₁) (kA 3) (kA 0) 12).setTop (F0 m (pc + 4) ls (.ref T.heap.size :: rest))) target → Steps p.tables e below (T.setTop (F0 m pc ls (.int 12 :: .int 12 :: rest))) target := by
  have hpl : e.platform.magicAccessors = ({} : Platform).magicAccessors := by rw [X.admits.platform]
  obtain ⟨c0, hfc0, hcl⟩ := Cond.classLink_spec hown hclink e.platform hpl
  have ec : c0 = kA 3 := Option.some.inj (hfc0.symm.trans hf)
  subst ec
  obtain ⟨hg₁, hwarm₁, hready₁⟩ := State.classEntry (e := e) X.warmed hcl
  generalize T.vm.noted m.cls index (.cls (kA 3)) = vm₁ at hg₁ hwarm₁ hready₁
  have hal : s.vm.Alike vm₁ := hwarm₁.alike
  obtain ⟨kO, hkO, hkindO⟩ := hg.moved (U := s.setVm vm₁) hal
  obtain ⟨k0, cc0, h01, h02⟩ := hI
  obtain ⟨kI, hkI, heI⟩ := hal.2.2 _ _ h01
  have hkindI : kI.kind = .array cc0 .int := by rw [heI]; exact h02
  have X₁ := X.noted hwarm₁
  obtain ⟨hr1, hr2⟩ := X.roomAbove hcells hslots
  refine ⟨vm₁, hwarm₁, fun target hrest => ?_⟩
  have hl1 : ¬ 12 > e.platform.arrayLengthLimit := by rw [Launch.admits_arrayLengthLimit X.admits]; decide
  have hh1 : ¬ 12 * componentBytes (.array .int) > e.platform.maxHeapBytes := by rw [Launch.admits_maxHeapBytes X.admits]; decide
  have hh2 : ¬ 12 * componentBytes .int > e.platform.maxHeapBytes := by rw [Launch.admits_maxHeapBytes X.admits]; decide
  generalize hgf : F0 m pc ls (.int 12 :: .int 12 :: rest) = g at *
  have hfr : ∀ v, F0 m (pc + 4) ls v = { g with pc := g.pc + 4, stack := v } := fun v => by rw [← hgf]
  have hgm : g.method = m := by rw [← hgf]
  have hgs : g.stack = .int 12 :: .int 12 :: rest := by rw [← hgf]
  have hgp : g.pc = pc := by rw [← hgf]
  subst hgm
  jvm_step X.here [hexec, hgp, hdg]
  simp only [multianewarray.sem, wp_bind', W.resolveClassAt_links (State.method?_setTop g X.here.top) hg₁]
  rw [W.popN, if_neg (by decide)]
  refine ⟨g, State.topJava?_setTop' (s := T.setVm vm₁) g X.here.top, [.int 12, .int 12], rest, rfl, hgs, ?_⟩
  simp only [List.mapM_cons, List.mapM_nil, wp_bind', wp_pure']
  refine gm_make (s := ((T.setTop g).setVm vm₁).setTop { g with stack := rest }) (kO := kO) (kI := kI) hkO hkindO hkI hkindI hl1 hh1 hh2 (by show T.heap.size + 13 ≤ _; omega) (by show T.slotsUsed + 156 ≤ _; omega) (fun d' acts' => ?_)
  have XF := gm_stand X₁ (kA 3) (kA 0) 12
  have eS : ((T.setTop g).setVm vm₁).setTop { g with stack := rest } = (T.setVm vm₁).setTop { g with stack := rest } := by
    show ((T.setVm vm₁).setTop g).setTop _ = _
    rw [State.setTop_setTop]
  rw [eS, gmS_top]
  simp only [wp_bind', W.mark, W.pushRef, State.topJava?_setTop' _ XF.here.top, Option.some.injEq, exists_eq_left', State.setTop_setTop, State.heap_setTop]
  intro acts
  simp [jvm, XF.here.top]
  rw [hfr] at hrest
  exact hrest
theorem arrV_same {cI : ClassId} {N : Nat} {f g : Nat → Value} (h : ∀ j, j < N → f j = g j) : arrV cI N f = arrV cI N g := by
  unfold arrV
  congr 1
  refine congrArg Array.ofFn (funext fun j => h j.val j.isLt)
theorem gD_app {L : va_W} {q : Nat} (hD : va_D A ws) (hlt : ∀ (k : Nat) (x : Nat × va_E), ws[k]? = some x → x.1 < q) (hL : ∀ (k : Nat) (x : Nat × va_E), L[k]? = some x → x.1 = q + k) (hA : ∀ a, q ≤ a → A a) : va_D A (ws ++ L) := by
  refine ⟨fun i j x y hi hj hxy => ?_, fun k x hk => ?_⟩
  · rcases Nat.lt_or_ge i ws.length with a1 | a1 <;> rcases Nat.lt_or_ge j ws.length with a2 | a2
    · rw [List.getElem?_append_left a1] at hi
      rw [List.getElem?_append_left a2] at hj
      exact hD.1 i j x y hi hj hxy
    · rw [List.getElem?_append_left a1] at hi
      rw [List.getElem?_append_right a2] at hj
      have := hlt _ _ hi
      have := hL _ _ hj
      omega
    · rw [List.getElem?_append_right a1] at hi
      rw [List.getElem?_append_left a2] at hj
      have := hL _ _ hi
      have := hlt _ _ hj
      omega
    · rw [List.getElem?_append_right a1] at hi
      rw [List.getElem?_append_right a2] at hj
      have := hL _ _ hi
      have := hL _ _ hj
      omega
  · rcases Nat.lt_or_ge k ws.length with a1 | a1
    · rw [List.getElem?_append_left a1] at hk
      exact hD.2 k x hk
    · rw [List.getElem?_append_right a1] at hk
      have := hL _ _ hk
      exact hA _ (by omega)
abbrev gridW (kA : Nat → ClassId) (q : Nat) : va_W := (q, .inl (kA 3, 12, .inr (.inr (.inr (.inr (fun i => some (q + 1 + i))))))) :: (List.range 12).map (fun i => (q + 1 + i, .inl (kA 0, 12, .inl (fun _ => 0))))
theorem gl_grid (C : Cx p s m c args cc nL own Ts D kA A) (w : Wd D A s H locs ws) (hg : gK kA s) {index : Nat} (hclink : (Cond.classLink own index "[[I").before args s = true) (hcells : cells + 13 ≤ R.cells) (hslots : slots + 156 ≤ R.slots) (hdg : decode cc pc = .ok (.multianewarray index 2, 4))
    (kk : ∀ (q : Nat) (H1 : Heap), Wd D A s H1 locs (ws ++ gridW kA q) → W p l e R s m args below meth c H1 locs (cells + 13) (slots + 156) Q (F0 m (pc + 4) ls (.ref q :: rest))) : W p l e R s m args below meth c H locs cells slots Q (F0 m pc ls (.int 12 :: .int 12 :: rest)) := by
  obtain ⟨⟨hx, hb, hml, hown, hts⟩, hK, hA, hX⟩ := C
  obtain ⟨hP, hD, hS⟩ := w
  intro T hT X
  have hf : s.vm.findClass "[[I" = some (kA 3) := (hK.2 3 _ rfl).2
  have hI : ∃ k cc, s.vm.classes[kA 0]? = some k ∧ k.kind = .array cc .int := by
    obtain ⟨h1, k9, hk9, cm9, hkk9⟩ := (hK.2 0 _ rfl).1 0 (fun _ => .null)
    exact ⟨k9, cm9, hk9, hkk9⟩
  obtain ⟨vm₁, hW, step⟩ := gm_step (pc := pc) (ls := ls) (rest := rest) X hx hown hclink hf hg hI hcells hslots (by rw [hb]; exact hdg)
  obtain ⟨f1, f2, f3, f4, f5, f6⟩ := gmS_at (T.setVm vm₁) (kA 3) (kA 0) 12
  have hTh : (T.setVm vm₁).heap = H := hT
  rw [hTh] at f1 f4 f5 f6
  have XF := gm_stand (X.noted hW) (kA 3) (kA 0) 12
  have hq : H.size = T.heap.size := by rw [hT]
  have w' : Wd D A s (gmS (T.setVm vm₁) (kA 3) (kA 0) 12).heap locs (ws ++ gridW kA H.size) := by
    refine ⟨va_P.app (hP.kept (fun k x hx => f5 x.1 ((hP k x hx).lt))) (fun k x hx => ?_), gD_app hD (fun k x hx => (hP k x hx).lt) (fun k x hx => ?_) (fun a ha => hA a (Nat.le_trans hS.1 ha)), ⟨by rw [f1]; have := hS.1; omega, fun x h1 h2 => (f5 x (Nat.lt_of_lt_of_le h1 hS.1)).trans (hS.2.1 x h1 h2), hS.2.2⟩⟩
    · cases k with
      | zero =>
        cases hx
        show _ = some (vp_cell _ _)
        rw [f4, vp_cell_q]
        refine congrArg some (arrV_same (fun j hj => ?_))
        rw [if_pos hj]
      | succ k =>
        rw [List.getElem?_cons_succ, List.getElem?_map] at hx
        rcases Nat.lt_or_ge k 12 with h9 | h9
        · rw [List.getElem?_range h9] at hx
          cases hx
          exact f6 k h9
        · rw [List.getElem?_eq_none (by rw [List.length_range]; exact h9)] at hx
          cases hx
    · cases k with
      | zero => cases hx; rfl
      | succ k =>
        rw [List.getElem?_cons_succ, List.getElem?_map] at hx
        rcases Nat.lt_or_ge k 12 with h9 | h9
        · rw [List.getElem?_range h9] at hx
          cases hx
          show H.size + 1 + k = H.size + (k + 1)
          omega
        · rw [List.getElem?_eq_none (by rw [List.length_range]; exact h9)] at hx
          cases hx
  obtain ⟨t, a1, b1⟩ := kk H.size _ w' (gmS (T.setVm vm₁) (kA 3) (kA 0) 12) rfl XF
  refine ⟨t, step t ?_, b1⟩
  rw [← hq]
  exact a1
/-- a new array of numbers, of a class that is known already -/
theorem gl_newa {n : Int32} {N' : Nat} {a0 : vp_A} {cK : ClassId} {ty : FieldType} {atype : ArrayType} (C : Cx p s m c args cc nL own Ts D kA A) (w : Wd D A s H locs ws) (t0 : Nat) (ht : (tysA kA)[t0]? = some (cK, ty)) (harr : (Cond.arrayClass (newarray.typeOf atype)).before args s = true) (hty : newarray.typeOf atype = ty) (hno : ∀ (U : State) (cA : ClassId), va_RA U cA ty → U.vm.findClass ("[" ++ ty.toString) = some cA)
    (ha : ∀ cA : ClassId, vp_cell cA a0 = arrV cA N' (fun _ => defaultValue ty)) (hn : ¬ n < 0) (hN : n.toNatClampNeg = N') (hbytes : N' * componentBytes ty ≤ 536870912) (hcells : cells + 1 ≤ R.cells) (hslots : slots + N' ≤ R.slots) (hdg : decode cc pc = .ok (.newarray atype, 2))
    (kk : ∀ (q : Nat) (H1 : Heap), Wd D A s H1 locs (ws ++ [(q, .inl (cK, a0))]) → W p l e R s m args below meth c H1 locs (cells + 1) (slots + N') Q (F0 m (pc + 2) ls (.ref q :: rest))) : W p l e R s m args below meth c H locs cells slots Q (F0 m pc ls (.int n :: rest)) := by
  obtain ⟨⟨hx, hb, hml, hown, hts⟩, hK, hA, hX⟩ := C
  refine va_newa hx hb harr hty hK w.1 w.2.1 w.2.2 hA ha hn hN hbytes hcells hslots hdg (fun q cA H1 hK1 hP hD hS => ?_)
  have h1 := (hK1.2 4 (cA, ty) rfl).2
  have h2 := (hK.2 t0 _ ht).2
  have e1 : cA = cK := Option.some.inj ((hno s cA h1).symm.trans (hno s cK h2))
  subst e1
  exact kk q H1 ⟨hP, hD, hS⟩
end GMT
