/-! What holds where the law begins. -/
theorem gA_spec {args : Array Value} {s : State} (h : (Cond.arrayOver (.array .int)).before args s = true) : ∃ (cI cO : ClassId) (k : Class), s.vm.findClass "[I" = some cI ∧ s.vm.findClass "[[I" = some cO ∧ s.vm.classes[cO]? = some k ∧ k.kind = .array cI (.array .int) := by
  have h' : (Cond.arrayOver (.array .int)).holds args s none s [] = true := h
  simp only [Cond.holds, Cond.value, beq_iff_eq] at h'
  have e1 : (FieldType.array .int).toString = "[I" := by decide +kernel
  rw [e1] at h'
  cases hc : s.vm.findClass "[I" with
  | none => rw [hc] at h'; cases h'
  | some cI =>
    rw [hc] at h'
    simp only [Option.bind_some, Option.bind_eq_some_iff, Option.map_eq_some_iff] at h'
    obtain ⟨c, hi, k, hk, hb⟩ := h'
    obtain ⟨hlt, hp, -⟩ := Array.findIdx?_eq_some_iff_getElem.mp hi
    have hkk : s.vm.classes[c] = k := (Array.getElem?_eq_some_iff.mp hk).2
    rw [hkk] at hp
    cases hkind : k.kind with
    | array comp ty =>
      rw [hkind] at hb hp
      simp at hb hp
      exact ⟨cI, c, k, rfl, hb.2, hk, by rw [hkind, hp, hb.1]⟩
    | _ => rw [hkind] at hb; simp at hb
theorem t_at (i : Nat) {w : Cond} (h : lw_tbl[i]? = some w) {args : Array Value} {s : State} (hts : ∀ w ∈ lw_tbl, w.before args s = true) : w.before args s = true := hts w (List.mem_of_getElem? h)
set_option maxRecDepth 20000 in
theorem st_Xs {b : Nat} {s : State} (hts : ∀ w ∈ lw_tbl, w.before #[Value.ref b] s = true) (hgv : (Jvm.Cond.and given_1 narrow_1).before #[Value.ref b] s = true) {A : Nat → Prop} (hA : ∀ a : Nat, a < s.heap.size → ¬ A a) : Xs A s s.heap := by
  have hs := flat_of_before _ hgv
  have east : ∃ t : Nat, va_Z "LockQuest$Maker" "EAST" "[I" (.ref t) A s s.heap ∧ va_T .int t 4 (fun j => .int (eastF j)) A s s.heap := by
    have h4 := va_eqt (hs (Cond.eq (.length (Term.static "LockQuest$Maker" "EAST" "[I")) (.int 4)) (by decide +kernel))
    have k0 := va_eqt (hs (Cond.eq (.elem (Term.static "LockQuest$Maker" "EAST" "[I") (.int 0)) (.int (1))) (by decide +kernel))
    have k1 := va_eqt (hs (Cond.eq (.elem (Term.static "LockQuest$Maker" "EAST" "[I") (.int 1)) (.int (0))) (by decide +kernel))
    have k2 := va_eqt (hs (Cond.eq (.elem (Term.static "LockQuest$Maker" "EAST" "[I") (.int 2)) (.int (-1))) (by decide +kernel))
    have k3 := va_eqt (hs (Cond.eq (.elem (Term.static "LockQuest$Maker" "EAST" "[I") (.int 3)) (.int (0))) (by decide +kernel))
    obtain ⟨t, ht, hT⟩ := va_Tof (tm := (Term.static "LockQuest$Maker" "EAST" "[I")) (ty := .int) (N := 4) (f := fun j => .int (eastF j)) (A := A) (by omega) (hs (Cond.arrayOf (Term.static "LockQuest$Maker" "EAST" "[I") .int) (by decide +kernel)) h4 (fun j hj => by
      rcases (show j = 0 ∨ j = 1 ∨ j = 2 ∨ j = 3 by omega) with rfl | rfl | rfl | rfl
      · exact k0
      · exact k1
      · exact k2
      · exact k3) hA
    exact ⟨t, va_Zref (t_at 313 (by decide +kernel) hts) (t_at 49 (by decide +kernel) hts) ht hA, hT⟩
  have north : ∃ t : Nat, va_Z "LockQuest$Maker" "NORTH" "[I" (.ref t) A s s.heap ∧ va_T .int t 4 (fun j => .int (northF j)) A s s.heap := by
    have h4 := va_eqt (hs (Cond.eq (.length (Term.static "LockQuest$Maker" "NORTH" "[I")) (.int 4)) (by decide +kernel))
    have k0 := va_eqt (hs (Cond.eq (.elem (Term.static "LockQuest$Maker" "NORTH" "[I") (.int 0)) (.int (0))) (by decide +kernel))
    have k1 := va_eqt (hs (Cond.eq (.elem (Term.static "LockQuest$Maker" "NORTH" "[I") (.int 1)) (.int (1))) (by decide +kernel))
    have k2 := va_eqt (hs (Cond.eq (.elem (Term.static "LockQuest$Maker" "NORTH" "[I") (.int 2)) (.int (0))) (by decide +kernel))
    have k3 := va_eqt (hs (Cond.eq (.elem (Term.static "LockQuest$Maker" "NORTH" "[I") (.int 3)) (.int (-1))) (by decide +kernel))
    obtain ⟨t, ht, hT⟩ := va_Tof (tm := (Term.static "LockQuest$Maker" "NORTH" "[I")) (ty := .int) (N := 4) (f := fun j => .int (northF j)) (A := A) (by omega) (hs (Cond.arrayOf (Term.static "LockQuest$Maker" "NORTH" "[I") .int) (by decide +kernel)) h4 (fun j hj => by
      rcases (show j = 0 ∨ j = 1 ∨ j = 2 ∨ j = 3 by omega) with rfl | rfl | rfl | rfl
      · exact k0
      · exact k1
      · exact k2
      · exact k3) hA
    exact ⟨t, va_Zref (t_at 315 (by decide +kernel) hts) (t_at 49 (by decide +kernel) hts) ht hA, hT⟩
  exact ⟨east, north, va_Nw.of rfl (t_at 271 (w := .methodLinkNest RX2 124 yX6_isWithin RX6) (by decide +kernel) hts)⟩
theorem st_A {s : State} {cA : ClassId} {k : Class} {comp : ClassId} {ty : FieldType} (h2 : s.vm.classes[cA]? = some k) (h3 : k.kind = .array comp ty) : ArrOfT s cA ty := fun n z => ⟨fun q h => (by cases h), k, h2, comp, h3⟩
set_option maxRecDepth 20000 in
theorem st_K {b : Nat} {s : State} (hts : ∀ w ∈ lw_tbl, w.before #[Value.ref b] s = true) : ∃ (D : va_G) (kA : Nat → ClassId), va_K D vwCl (tysA kA) s ∧ Kn kA s := by
  obtain ⟨c0, i0, n0⟩ := u_known (C := RX0) (T := TX0) (N := 14) (n := 14) hts inX0 (t_at 67 (w := .instantiable RX0 14) (by decide +kernel) hts)
  obtain ⟨c1, i1, n1⟩ := u_known (C := RX1) (T := TX1) (N := 3) (n := 3) hts inX1 (t_at 150 (w := .instantiable RX1 3) (by decide +kernel) hts)
  obtain ⟨c2, i2, n2⟩ := u_known (C := RX2) (T := TX2) (N := 3) (n := 3) hts inX2 (t_at 144 (w := .instantiable RX2 3) (by decide +kernel) hts)
  obtain ⟨c3, i3, n3⟩ := u_known (C := RX3) (T := TX3) (N := 1) (n := 1) hts inX3 (t_at 182 (w := .instantiable RX3 1) (by decide +kernel) hts)
  obtain ⟨c4, i4, n4⟩ := u_known (C := RX4) (T := TX4) (N := 7) (n := 7) hts inX4 (t_at 176 (w := .instantiable RX4 7) (by decide +kernel) hts)
  obtain ⟨c5, i5, n5⟩ := u_known (C := RX6) (T := TX6) (N := 4) (n := 4) hts inX6 (t_at 59 (w := .instantiable RX6 4) (by decide +kernel) hts)
  obtain ⟨c6, i6, n6⟩ := u_known (C := RX7) (T := TX7) (N := 18) (n := 18) hts inX7 (t_at 534 (w := .instantiable RX7 18) (by decide +kernel) hts)
  obtain ⟨a0, k0, m0, f0, g0, q0⟩ := Cond.arrayClass_spec (t_at 141 (w := .arrayClass .int) (by decide +kernel) hts)
  obtain ⟨a1, k1, m1, f1, g1, q1⟩ := Cond.arrayClass_spec (t_at 191 (w := .arrayClass .long) (by decide +kernel) hts)
  obtain ⟨a2, k2, m2, f2, g2, q2⟩ := Cond.arrayClass_spec (t_at 142 (w := .arrayClass .boolean) (by decide +kernel) hts)
  obtain ⟨cI, a3, k3, f4, f3, g3, q3⟩ := gA_spec (t_at 73 (w := .arrayOver (.array .int)) (by decide +kernel) hts)
  have e0 : cI = a0 := Option.some.inj (f4.symm.trans f0)
  subst e0
  refine ⟨(fun k => if k = 0 then c0 else if k = 1 then c1 else if k = 2 then c2 else if k = 3 then c3 else if k = 4 then c4 else if k = 5 then c5 else c6, fun k => if k = 0 then i0 else if k = 1 then i1 else if k = 2 then i2 else if k = 3 then i3 else if k = 4 then i4 else if k = 5 then i5 else i6), fun k => if k = 0 then cI else if k = 1 then a1 else if k = 2 then a2 else a3, ⟨fun k q hq => ?_, fun k q hq => ?_⟩, ⟨k3, g3, q3⟩, va_Nw.of rfl (t_at 68 (w := .methodLinkNest RX6 9 yX0_init RX6) (by decide +kernel) hts), va_Nw.of rfl (t_at 151 (w := .methodLinkNest RX2 11 yX1_init RX6) (by decide +kernel) hts), va_Nw.of rfl (t_at 183 (w := .methodLinkNest RX4 11 yX3_init RX6) (by decide +kernel) hts)⟩
  · match k, hq with
    | 0, hq => cases hq; exact n0
    | 1, hq => cases hq; exact n1
    | 2, hq => cases hq; exact n2
    | 3, hq => cases hq; exact n3
    | 4, hq => cases hq; exact n4
    | 5, hq => cases hq; exact n5
    | 6, hq => cases hq; exact n6
    | k + 7, hq => simp [vwCl] at hq
  · match k, hq with
    | 0, hq => cases hq; exact ⟨st_A g0 q0, f0⟩
    | 1, hq => cases hq; exact ⟨st_A g1 q1, f1⟩
    | 2, hq => cases hq; exact ⟨st_A g2 q2, f2⟩
    | 3, hq => cases hq; exact ⟨st_A g3 q3, f3⟩
    | k + 4, hq => simp [tysA] at hq
