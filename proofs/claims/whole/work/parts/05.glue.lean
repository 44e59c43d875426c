/-! Glue of our own: option-valued functions that a method's bytecode is read as, and the rows that walk a method along its function. -/
def gd {α : Type} (c : Prop) [Decidable c] (k : Option α) : Option α := if c then none else k
theorem gd_some {α : Type} {c : Prop} [Decidable c] {k : Option α} {r : α} (h : gd c k = some r) : ¬ c ∧ k = some r := by
  unfold gd at h
  split at h
  · cases h
  · exact ⟨‹_›, h⟩
theorem gd_neg {α : Type} {c : Prop} [Decidable c] {k : Option α} (h : ¬ c) : gd c k = k := if_neg h
theorem bd_some {α β : Type} {o : Option α} {k : α → Option β} {r : β} (h : o.bind k = some r) : ∃ u, o = some u ∧ k u = some r := Option.bind_eq_some_iff.mp h
theorem it_pos {α : Type} {c : Prop} [Decidable c] {a b : Option α} {r : α} (g : c) (h : (if c then a else b) = some r) : a = some r := (if_pos g).symm.trans h
theorem it_neg {α : Type} {c : Prop} [Decidable c] {a b : Option α} {r : α} (g : ¬ c) (h : (if c then a else b) = some r) : b = some r := (if_neg g).symm.trans h
/-- a loop: its body gets what comes behind one more turn -/
def lp {σ ρ : Type} (body : (σ → Option ρ) → σ → Option ρ) : Nat → σ → Option ρ
  | 0, _ => none
  | n + 1, s => body (lp body n) s
theorem lp_ind {σ ρ : Type} {body : (σ → Option ρ) → σ → Option ρ} {r : ρ} {P : σ → Prop} (hb : ∀ k : σ → Option ρ, (∀ s, k s = some r → P s) → ∀ s, body k s = some r → P s) : ∀ n s, lp body n s = some r → P s
  | 0, _, h => by cases h
  | n + 1, s, h => hb (lp body n) (fun s hs => lp_ind hb n s hs) s h
def fuel : Nat := 100000
theorem z01 {x : Int32} (h : ¬ (¬ x = 0 ∧ ¬ x = 1)) : narrow .boolean (.int x) = .int x := by
  by_cases h0 : x = 0
  · subst h0; rfl
  · by_cases h1 : x = 1
    · subst h1; rfl
    · exact absurd ⟨h0, h1⟩ h
/-- the static arrays, and the links between nest mates -/
def eastF : Nat → Int32 := fun j => if j = 0 then 1 else if j = 2 then -1 else 0
def northF : Nat → Int32 := fun j => if j = 1 then 1 else if j = 3 then -1 else 0
def Xs (A : Nat → Prop) (U : State) (H : Heap) : Prop :=
  (∃ t : Nat, va_Z "LockQuest$Maker" "EAST" "[I" (.ref t) A U H ∧ va_T .int t 4 (fun j => .int (eastF j)) A U H) ∧
  (∃ t : Nat, va_Z "LockQuest$Maker" "NORTH" "[I" (.ref t) A U H ∧ va_T .int t 4 (fun j => .int (northF j)) A U H) ∧
  va_Nw (.methodLinkNest RX2 124 yX6_isWithin RX6) U
theorem Xs.moved {A : Nat → Prop} {s U : State} {H : Heap} (hW : s.WarmedH U.vm) (h : Xs A s H) : Xs A U H := by
  obtain ⟨⟨t, z, t1⟩, ⟨t2, z2, t3⟩, n⟩ := h
  exact ⟨⟨t, z.moved hW.alike, t1.moved hW.alike⟩, ⟨t2, z2.moved hW.alike, t3.moved hW.alike⟩, va_Nw.warmM hW n⟩
theorem Xs.same {A : Nat → Prop} {s U : State} {H : Heap} (hW : s.vm = U.vm) (h : Xs A s H) : Xs A U H := by
  obtain ⟨⟨t, z, t1⟩, ⟨t2, z2, t3⟩, n⟩ := h
  have ha : s.vm.Alike U.vm := by rw [hW]; exact Vm.Alike.refl U.vm
  exact ⟨⟨t, z.moved ha, t1.moved ha⟩, ⟨t2, z2.moved ha, t3.moved ha⟩, va_Nw.same rfl hW n⟩
theorem Xs.kept {A : Nat → Prop} {U : State} {H H1 : Heap} (h : Xs A U H) (hq : ∀ a : Nat, a < H.size → ¬ A a → H1[a]? = H[a]?) : Xs A U H1 := by
  obtain ⟨⟨t, z, t1⟩, ⟨t2, z2, t3⟩, n⟩ := h
  exact ⟨⟨t, z.kept hq, t1.kept hq⟩, ⟨t2, z2.kept hq, t3.kept hq⟩, n⟩
theorem Xs.narrow {A B : Nat → Prop} {U : State} {H : Heap} (h : Xs A U H) (hq : ∀ q, B q → A q) : Xs B U H := by
  obtain ⟨⟨t, z, t1⟩, ⟨t2, z2, t3⟩, n⟩ := h
  exact ⟨⟨t, z.narrow hq, t1.narrow hq⟩, ⟨t2, z2.narrow hq, t3.narrow hq⟩, n⟩
abbrev tysA (kA : Nat → ClassId) : List (ClassId × FieldType) := [(kA 0, .int), (kA 1, .long), (kA 2, .boolean), (kA 3, .array .int)]
/-- what a walk holds fast: the machine, the code, the words, the classes, what may be written -/
def Cx (p : Program) (s : State) (m : MethodId) (c : Code) (args : Array Value) (cc : ByteArray) (nL : Nat) (own : String) (Ts : List Cond) (D : va_G) (kA : Nat → ClassId) (A : Nat → Prop) : Prop :=
  CallFix p m c cc nL s args Ts own ∧ va_K D vwCl (tysA kA) s ∧ (∀ q : Nat, s.heap.size ≤ q → A q) ∧ Xs A s s.heap
/-- the world that a walk stands in -/
def Wd (D : va_G) (A : Nat → Prop) (s : State) (H : Heap) (locs : List Loc) (ws : va_W) : Prop := va_P D vwCl ws H ∧ va_D A ws ∧ va_S A s.heap H locs
def PreW (D : va_G) (kA : Nat → ClassId) (ws : va_W) (sz : Nat) (U : State) : Prop := U.heap.size = sz ∧ va_P D vwCl ws U.heap ∧ va_K D vwCl (tysA kA) U ∧ va_D (fun _ => True) ws ∧ Xs (va_A ws sz) U U.heap
def PostW (D : va_G) (kA : Nat → ClassId) (A : Nat → Prop) (ws : va_W) (t : State) : Prop := va_P D vwCl ws t.heap ∧ va_K D vwCl (tysA kA) t ∧ va_D A ws
/-- contracts over one world: it is ws before and ws' behind; the answer is r -/
def Ci (l : Launch) (y : MethodName) (wd : List Cond) (rm : Room) (D : va_G) (kA : Nat → ClassId) (av : List Value) (sz : Nat) (ws ws' : va_W) (r : Int32) : Prop :=
  Met l y wd rm (va_Pc av (PreW D kA ws sz)) (va_Qi (fun x (_ : Unit) => x = r) (fun _ t => PostW D kA (va_A ws sz) ws' t) (va_A ws sz)) 0 0 (va_A ws sz)
def Cv (l : Launch) (y : MethodName) (wd : List Cond) (rm : Room) (D : va_G) (kA : Nat → ClassId) (av : List Value) (sz : Nat) (ws ws' : va_W) : Prop :=
  Met l y wd rm (va_Pc av (PreW D kA ws sz)) (va_Qv (fun (_ : Unit) => True) (fun _ t => PostW D kA (va_A ws sz) ws' t) (va_A ws sz)) 0 0 (va_A ws sz)
theorem PreW.blind {D : va_G} {kA : Nat → ClassId} {ws : va_W} {sz : Nat} {av : List Value} : FrameBlind (va_Pc av (PreW D kA ws sz)) := fun a U g mk q => by
  obtain ⟨q0, q1, qP, qK, qD, qX⟩ := q
  exact ⟨q0, q1, qP, va_K.moved (u := U) (U := U.calling g mk a) (Vm.Alike.refl U.vm) qK, qD, Xs.same (s := U) (U := U.calling g mk a) rfl qX⟩
section G1
variable {p : Program} {l : Launch} {e : Env} {R : Room} {s : State} {m : MethodId} {args : Array Value} {below : List Frame} {meth : Method} {c : Code} {H : Heap} {locs : List Loc} {cells slots : Nat} {Q : State → Prop}
variable {cc : ByteArray} {nL : Nat} {Ts : List Cond} {own Cn : String} {b : Nat} {As rest st0 : List Value} {pc : Nat} {ls : Array Slot}
variable {D : va_G} {kA : Nat → ClassId} {A : Nat → Prop} {ws ws' : va_W} {r : Int32}
theorem Wd.free (C : Cx p s m c args cc nL own Ts D kA A) (w : Wd D A s H locs ws) : ∀ q, va_A ws H.size q → A q := by
  intro q h
  rcases h with ⟨k, e, h⟩ | h
  · exact w.2.1.2 k _ h
  · exact C.2.2.1 q (Nat.le_trans w.2.2.1 h)
theorem Wd.pre (C : Cx p s m c args cc nL own Ts D kA A) (w : Wd D A s H locs ws) {U : State} (hU : U.heap = H) (hW : s.WarmedH U.vm) : PreW D kA ws H.size U := by
  subst hU
  exact ⟨rfl, w.1, va_K.moved hW.alike C.2.1, w.2.1.weaken (fun _ _ _ _ => trivial), ((C.2.2.2.kept w.2.2.2.1).narrow (Wd.free C w)).moved hW⟩
theorem Wd.preV (C : Cx p s m c args cc nL own Ts D kA A) (w : Wd D A s H locs ws) {q0 ci : Nat} {q : vw_C} {fs : List Value} (hc : vwCl[ci]? = some q) (he : ws[q0]? = some (b, .inr (ci, fs))) (hq : q.1 = Cn) : PreV s H Cn b (va_Pc (.ref b :: As) (PreW D kA ws H.size)) As := by
  subst hq
  exact ⟨PreW.blind, va_recv C.2.1 w.1 hc he, fun U hU hW => ⟨rfl, Wd.pre C w hU hW⟩⟩
theorem Wd.preS (C : Cx p s m c args cc nL own Ts D kA A) (w : Wd D A s H locs ws) : PreS s H (va_Pc As (PreW D kA ws H.size)) As :=
  ⟨PreW.blind, fun U hU hW => ⟨rfl, Wd.pre C w hU hW⟩⟩
theorem Wd.behind {t : State} {H1 : Heap} {locs1 : List Loc} (C : Cx p s m c args cc nL own Ts D kA A) (w : Wd D A s H locs ws) (ht : t.heap = H1) (hB : PostW D kA (va_A ws H.size) ws' t) (hS : va_S A s.heap H1 locs1) : Wd D A s H1 locs1 ws' := by
  subst ht
  exact ⟨hB.1, hB.2.2.weaken (fun _ q _ h => Wd.free C w q.1 h), hS⟩
theorem gl_calli {a : Array Value} (C : Cx p s m c args cc nL own Ts D kA A) (w : Wd D A s H locs ws)
    (hr : va_Run p l e R s m args below meth c H locs cells slots 0 0 (F0 m pc ls st0) rest (va_Qi (fun x (_ : Unit) => x = r) (fun _ t => PostW D kA (va_A ws H.size) ws' t) (va_A ws H.size) a) (va_A ws H.size))
    (kk : ∀ (H1 : Heap) (locs1 : List Loc), Wd D A s H1 locs1 ws' → W p l e R s m args below meth c H1 locs1 cells slots Q (F0 m (pc + 3) ls (.int r :: rest))) : W p l e R s m args below meth c H locs cells slots Q (F0 m pc ls st0) := by
  refine va_calli hr w.2.2 (fun q _ h => Wd.free C w q h) (Wd.free C w) (fun x u t H1 locs1 ht hvm hw hB hz hk hS => ?_)
  subst hw
  exact kk H1 locs1 (Wd.behind C w ht hB hS)
theorem gl_callv {a : Array Value} (C : Cx p s m c args cc nL own Ts D kA A) (w : Wd D A s H locs ws)
    (hr : va_Run p l e R s m args below meth c H locs cells slots 0 0 (F0 m pc ls st0) rest (va_Qv (fun (_ : Unit) => True) (fun _ t => PostW D kA (va_A ws H.size) ws' t) (va_A ws H.size) a) (va_A ws H.size))
    (kk : ∀ (H1 : Heap) (locs1 : List Loc), Wd D A s H1 locs1 ws' → W p l e R s m args below meth c H1 locs1 cells slots Q (F0 m (pc + 3) ls rest)) : W p l e R s m args below meth c H locs cells slots Q (F0 m pc ls st0) := by
  refine va_callv hr w.2.2 (fun q _ h => Wd.free C w q h) (Wd.free C w) (fun u t H1 locs1 ht hvm hw hB hz hk hS => ?_)
  exact kk H1 locs1 (Wd.behind C w ht hB hS)
/-- aaload of an array of arrays -/
theorem gl_aldg {cl : List vw_C} {tys : List (ClassId × FieldType)} {a : Nat} (hexec : p.tables.exec = Jvm.exec) (hb : c.code = cc) (hK : va_K D cl tys s) (hP : va_P D cl ws H) (q0 t0 : Nat) {cA : ClassId} {ty : FieldType} {n : Nat} {f : Nat → Option Nat} (ha : ws[q0]? = some (a, .inl (cA, n, .inr (.inr (.inr (.inr f)))))) (ht : tys[t0]? = some (cA, .array ty)) {i : Int32} (hin : vp_in i n) (hdg : decode cc pc = .ok (.aaload, 1))
    (kk : W p l e R s m args below meth c H locs cells slots Q (F0 m (pc + 1) ls (va_rf (f i.toNatClampNeg) :: rest))) : W p l e R s m args below meth c H locs cells slots Q (F0 m pc ls (.int i :: .ref a :: rest)) := by
  have hlt : i.toNatClampNeg < n := Nat.not_le.mp fun q => hin (Or.inr q)
  exact W.aald (v := va_rf (f i.toNatClampNeg)) (ty := .array ty) hexec hb (hP q0 _ ha) ((hK.2 t0 _ ht).1 n (fun j => va_rf (f j))) rfl (fun q => by cases q) (by show ¬ (i < 0 ∨ (arrV _ _ _).slots.size ≤ _); rw [arrV_size]; exact hin) (by show (arrV _ _ _).slots[_]? = _; rw [arrV_read _ _ hlt]) rfl rfl hdg kk
end G1
def upd2 (f : Nat → Nat → Int32) (i j : Nat) (x : Int32) : Nat → Nat → Int32 := fun a => if a = i then upd (f i) j x else f a
