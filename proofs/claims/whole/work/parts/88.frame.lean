/-! Calls over a world that stands beside another. -/
section GFR
variable {p : Program} {l : Launch} {e : Env} {R : Room} {s : State} {m : MethodId} {args : Array Value} {below : List Frame} {meth : Method} {c : Code} {H : Heap} {locs : List Loc} {cells slots : Nat} {Q : State → Prop}
variable {cc : ByteArray} {nL : Nat} {Ts : List Cond} {own Cn : String} {As rest st0 : List Value} {pc b : Nat} {ls : Array Slot} {D : va_G} {kA : Nat → ClassId} {A : Nat → Prop} {wc wr w1 : va_W} {r : Int32}
theorem app_l {a b : va_W} {k : Nat} {q : Nat × va_E} (h : a[k]? = some q) : (a ++ b)[k]? = some q := by
  rw [List.getElem?_append_left (List.getElem?_eq_some_iff.mp h).1]; exact h
theorem va_P_l {cl : List vw_C} {a b : va_W} (h : va_P D cl (a ++ b) H) : va_P D cl a H := fun k q hk => h k q (app_l hk)
theorem va_D_l {a b : va_W} (h : va_D A (a ++ b)) : va_D A a := ⟨fun i j p q hi hj e => h.1 i j p q (app_l hi) (app_l hj) e, fun k q hk => h.2 k q (app_l hk)⟩
theorem fr_free (C : Cx p s m c args cc nL own Ts D kA A) (w : Wd D A s H locs (wc ++ wr)) : ∀ q, va_A wc H.size q → A q := by
  intro q h
  rcases h with ⟨k, e, h⟩ | h
  · exact (va_D_l w.2.1).2 k _ h
  · exact C.2.2.1 q (Nat.le_trans w.2.2.1 h)
theorem fr_pre (C : Cx p s m c args cc nL own Ts D kA A) (w : Wd D A s H locs (wc ++ wr)) {U : State} (hU : U.heap = H) (hW : s.WarmedH U.vm) : PreW D kA wc H.size U := by
  subst hU
  exact ⟨rfl, va_P_l w.1, va_K.moved hW.alike C.2.1, (va_D_l w.2.1).weaken (fun _ _ _ _ => trivial), ((C.2.2.2.kept w.2.2.2.1).narrow (fr_free C w)).moved hW⟩
theorem fr_preV (C : Cx p s m c args cc nL own Ts D kA A) (w : Wd D A s H locs (wc ++ wr)) {q0 ci : Nat} {q : vw_C} {fs : List Value} (hc : vwCl[ci]? = some q) (he : wc[q0]? = some (b, .inr (ci, fs))) (hq : q.1 = Cn) : PreV s H Cn b (va_Pc (.ref b :: As) (PreW D kA wc H.size)) As := by
  subst hq
  exact ⟨PreW.blind, va_recv C.2.1 (va_P_l w.1) hc he, fun U hU hW => ⟨rfl, fr_pre C w hU hW⟩⟩
theorem fr_L (a b : va_W) : (List.range a.length).map (fun i => (a ++ b)[i]?) = a.map some := by
  apply List.ext_getElem?
  intro i
  rw [List.getElem?_map, List.getElem?_map]
  rcases Nat.lt_or_ge i a.length with h | h
  · rw [List.getElem?_range h, List.getElem?_eq_getElem h]
    show some ((a ++ b)[i]?) = _
    rw [List.getElem?_append_left h, List.getElem?_eq_getElem h]
    rfl
  · rw [List.getElem?_eq_none (by rw [List.length_range]; exact h), List.getElem?_eq_none h]
    rfl
theorem fr_R (a b : va_W) : ((List.range b.length).map (fun i => a.length + i)).map (fun i => (a ++ b)[i]?) = b.map some := by
  apply List.ext_getElem?
  intro i
  rw [List.getElem?_map, List.getElem?_map, List.getElem?_map]
  rcases Nat.lt_or_ge i b.length with h | h
  · rw [List.getElem?_range h, List.getElem?_eq_getElem h]
    show some ((a ++ b)[a.length + i]?) = _
    rw [List.getElem?_append_right (Nat.le_add_right _ _), Nat.add_sub_cancel_left, List.getElem?_eq_getElem h]
    rfl
  · rw [List.getElem?_eq_none (by rw [List.length_range]; exact h), List.getElem?_eq_none h]
    rfl
theorem fr_dis (n k : Nat) : ∀ i ∈ (List.range k).map (fun i => n + i), i ∉ List.range n := fun i hi hj => by
  obtain ⟨j, -, rfl⟩ := List.mem_map.mp hi
  have := List.mem_range.mp hj
  omega
theorem gl_iF {a : Array Value} (C : Cx p s m c args cc nL own Ts D kA A) (w : Wd D A s H locs (wc ++ wr)) (hnd : va_nd ((List.range wr.length).map (fun i => wc.length + i)) = true)
    (hr : va_Run p l e R s m args below meth c H locs cells slots 0 0 (F0 m pc ls st0) rest (va_Qi (fun x (_ : Unit) => x = r) (fun _ t => PostW D kA (va_A wc H.size) w1 t) (va_A wc H.size) a) (va_A wc H.size))
    (kk : ∀ (H1 : Heap) (locs1 : List Loc), Wd D A s H1 locs1 (wr ++ w1) → W p l e R s m args below meth c H1 locs1 cells slots Q (F0 m (pc + 3) ls (.int r :: rest))) : W p l e R s m args below meth c H locs cells slots Q (F0 m pc ls st0) := by
  have hF := fr_free C w
  refine va_calli hr w.2.2 (fun q _ h => hF q h) hF (fun x u t H1 locs1 ht hvm hw hB hz hk hS => ?_)
  subst hw
  obtain ⟨hP1, hK1, hD1⟩ := hB
  rw [ht] at hP1
  obtain ⟨hP, hD⟩ := va_join w.1 w.2.1 (List.range wc.length) ((List.range wr.length).map (fun i => wc.length + i)) (fr_L wc wr) (fr_R wc wr) hnd (fr_dis _ _) hk hF hP1 hD1
  exact kk H1 locs1 ⟨hP, hD, hS⟩
theorem gl_vF {a : Array Value} (C : Cx p s m c args cc nL own Ts D kA A) (w : Wd D A s H locs (wc ++ wr)) (hnd : va_nd ((List.range wr.length).map (fun i => wc.length + i)) = true)
    (hr : va_Run p l e R s m args below meth c H locs cells slots 0 0 (F0 m pc ls st0) rest (va_Qv (fun (_ : Unit) => True) (fun _ t => PostW D kA (va_A wc H.size) w1 t) (va_A wc H.size) a) (va_A wc H.size))
    (kk : ∀ (H1 : Heap) (locs1 : List Loc), Wd D A s H1 locs1 (wr ++ w1) → W p l e R s m args below meth c H1 locs1 cells slots Q (F0 m (pc + 3) ls rest)) : W p l e R s m args below meth c H locs cells slots Q (F0 m pc ls st0) := by
  have hF := fr_free C w
  refine va_callv hr w.2.2 (fun q _ h => hF q h) hF (fun u t H1 locs1 ht hvm hw hB hz hk hS => ?_)
  obtain ⟨hP1, hK1, hD1⟩ := hB
  rw [ht] at hP1
  obtain ⟨hP, hD⟩ := va_join w.1 w.2.1 (List.range wc.length) ((List.range wr.length).map (fun i => wc.length + i)) (fr_L wc wr) (fr_R wc wr) hnd (fr_dis _ _) hk hF hP1 hD1
  exact kk H1 locs1 ⟨hP, hD, hS⟩
end GFR
