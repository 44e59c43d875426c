/-! Makers of objects: their contracts, and calls of them. -/
def Xn (U : State) : Prop := va_Nw (.methodLinkNest RX6 9 yX0_init RX6) U ∧ va_Nw (.methodLinkNest RX2 11 yX1_init RX6) U ∧ va_Nw (.methodLinkNest RX4 11 yX3_init RX6) U
theorem Xn.moved {s U : State} (hW : s.WarmedH U.vm) (h : Xn s) : Xn U := ⟨va_Nw.warmM hW h.1, va_Nw.warmM hW h.2.1, va_Nw.warmM hW h.2.2⟩
theorem Xn.same {s U : State} (hW : s.vm = U.vm) (h : Xn s) : Xn U := ⟨va_Nw.same rfl hW h.1, va_Nw.same rfl hW h.2.1, va_Nw.same rfl hW h.2.2⟩
def Kn (kA : Nat → ClassId) (U : State) : Prop := gK kA U ∧ Xn U
def PreN (D : va_G) (kA : Nat → ClassId) (ws : va_W) (sz : Nat) (U : State) : Prop := PreW D kA ws sz U ∧ Kn kA U
def Cn (l : Launch) (y : MethodName) (wd : List Cond) (rm : Room) (D : va_G) (kA : Nat → ClassId) (av : List Value) (sz : Nat) (ws : va_W) (mc ms : Nat) (ws' : (Nat → Nat) → va_W) : Prop :=
  Met l y wd rm (va_Pc av (PreN D kA ws sz)) (va_Qv (fun (_ : Nat → Nat) => True) (fun u t => PostW D kA (va_A ws sz) (ws' u) t) (va_A ws sz)) mc ms (va_A ws sz)
theorem PreN.blind {D : va_G} {kA : Nat → ClassId} {ws : va_W} {sz : Nat} {av : List Value} : FrameBlind (va_Pc av (PreN D kA ws sz)) := fun a U g mk q => by
  obtain ⟨q0, ⟨q1, qP, qK, qD, qX⟩, qg, qn⟩ := q
  exact ⟨q0, ⟨q1, qP, va_K.moved (u := U) (U := U.calling g mk a) (Vm.Alike.refl U.vm) qK, qD, Xs.same (s := U) (U := U.calling g mk a) rfl qX⟩, gK.moved (u := U) (U := U.calling g mk a) (Vm.Alike.refl U.vm) qg, Xn.same (s := U) (U := U.calling g mk a) rfl qn⟩
section GIN
variable {p : Program} {l : Launch} {e : Env} {R : Room} {s : State} {m : MethodId} {args : Array Value} {below : List Frame} {meth : Method} {c : Code} {H : Heap} {locs : List Loc} {cells slots mc ms : Nat} {Q : State → Prop}
variable {cc : ByteArray} {nL : Nat} {Ts : List Cond} {own : String} {As rest st0 : List Value} {pc : Nat} {ls : Array Slot} {D : va_G} {kA : Nat → ClassId} {A : Nat → Prop} {ws wc wr : va_W} {w1 : (Nat → Nat) → va_W}
theorem Wd.freeN (C : Cx p s m c args cc nL own Ts D kA A) (w : Wd D A s H locs ws) (isC : List Nat) (hC : isC.map (fun i => ws[i]?) = wc.map some) : ∀ q, va_A wc H.size q → A q := va_free w.2.1 w.2.2 C.2.2.1 isC hC
theorem Wd.preN (C : Cx p s m c args cc nL own Ts D kA A) (w : Wd D A s H locs ws) (hk : Kn kA s) (isC : List Nat) (hC : isC.map (fun i => ws[i]?) = wc.map some) (hF : isC.filterMap (fun i => ws[i]?) = wc) (hnd : va_nd isC = true) : PreS s H (va_Pc As (PreN D kA wc H.size)) As :=
  ⟨PreN.blind, fun U hU hW => ⟨rfl, ⟨by rw [hU], by rw [hU]; exact w.1.sub isC hF, va_K.moved hW.alike C.2.1, (w.2.1.sub isC hnd hC).weaken (fun _ _ _ _ => trivial), by rw [hU]; exact ((C.2.2.2.kept w.2.2.2.1).narrow (Wd.freeN C w isC hC)).moved hW⟩, hk.1.moved hW.alike, hk.2.moved hW⟩⟩
theorem gl_callN {a : Array Value} (C : Cx p s m c args cc nL own Ts D kA A) (w : Wd D A s H locs ws) (isC isR : List Nat) (hC : isC.map (fun i => ws[i]?) = wc.map some) (hR : isR.map (fun i => ws[i]?) = wr.map some) (hn : va_nd isR = true) (hdis : ∀ i ∈ isR, i ∉ isC)
    (hr : va_Run p l e R s m args below meth c H locs cells slots mc ms (F0 m pc ls st0) rest (va_Qv (fun (_ : Nat → Nat) => True) (fun u t => PostW D kA (va_A wc H.size) (w1 u) t) (va_A wc H.size) a) (va_A wc H.size))
    (kk : ∀ (u : Nat → Nat) (H1 : Heap) (locs1 : List Loc), Wd D A s H1 locs1 (wr ++ w1 u) → W p l e R s m args below meth c H1 locs1 (cells + mc) (slots + ms) Q (F0 m (pc + 3) ls rest)) : W p l e R s m args below meth c H locs cells slots Q (F0 m pc ls st0) := by
  have hF := Wd.freeN C w isC hC
  refine va_callv hr w.2.2 (fun q _ h => hF q h) hF (fun u t H1 locs1 ht hvm hw hB hz hk hS => ?_)
  obtain ⟨hP1, hK1, hD1⟩ := hB
  rw [ht] at hP1
  obtain ⟨hP, hD⟩ := va_join w.1 w.2.1 isC isR hC hR hn hdis hk hF hP1 hD1
  exact kk u H1 locs1 ⟨hP, hD, hS⟩
/-- the outer array of a grid may be written in another way -/
theorem Wd.outer {k q n : Nat} {cA : ClassId} {f g : Nat → Option Nat} {ws' : va_W} (w : Wd D A s H locs ws) (hk : ws[k]? = some (q, .inl (cA, n, .inr (.inr (.inr (.inr f)))))) (hs : ws.set k (q, .inl (cA, n, .inr (.inr (.inr (.inr g))))) = ws') (hfg : ∀ i, i < n → f i = g i) : Wd D A s H locs ws' := by
  subst hs
  obtain ⟨hP, hD, hS⟩ := w
  have hkl : k < ws.length := (List.getElem?_eq_some_iff.mp hk).1
  have key : ∀ (j : Nat) (x : Nat × va_E), (ws.set k (q, .inl (cA, n, .inr (.inr (.inr (.inr g))))))[j]? = some x → ∃ y, ws[j]? = some y ∧ y.1 = x.1 ∧ (j = k ∨ y = x) := fun j x hx => by
    by_cases e : j = k
    · subst e
      rw [List.getElem?_set_self hkl] at hx
      cases hx
      exact ⟨_, hk, rfl, Or.inl rfl⟩
    · rw [List.getElem?_set_ne (Ne.symm e)] at hx
      exact ⟨x, hx, rfl, Or.inr rfl⟩
  refine ⟨fun j x hx => ?_, ⟨fun i j x y hi hj hxy => ?_, fun j x hx => ?_⟩, hS⟩
  · by_cases e : j = k
    · subst e
      rw [List.getElem?_set_self hkl] at hx
      cases hx
      have h := hP j _ hk
      show H[q]? = some (vp_cell cA _)
      have h' : H[q]? = some (vp_cell cA (n, .inr (.inr (.inr (.inr f))))) := h
      rw [h', vp_cell_q, vp_cell_q]
      exact congrArg some (arrV_same (fun i hi => by rw [hfg i hi]))
    · rw [List.getElem?_set_ne (Ne.symm e)] at hx
      exact hP j x hx
  · obtain ⟨x', h1, h2, -⟩ := key i x hi
    obtain ⟨y', h3, h4, -⟩ := key j y hj
    exact hD.1 i j x' y' h1 h3 (by rw [h2, h4]; exact hxy)
  · obtain ⟨x', h1, h2, -⟩ := key j x hx
    rw [← h2]
    exact hD.2 j x' h1
end GIN
