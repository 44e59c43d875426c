/-! Loops and doors: the spec. -/
def adjB (X Y : Nat → Int) (r q : Nat) : Bool := decide ((X r - X q).natAbs + (Y r - Y q).natAbs = 1)
def fitB (par lev : Nat → Nat) (X Y : Nat → Int) (r q : Nat) : Bool := adjB X Y r q && (lev r == lev q && par r != q)
def setM (M : Nat → Nat → Bool) (r q : Nat) : Nat → Nat → Bool := fun x y => if (x = r ∧ y = q) ∨ (x = q ∧ y = r) then true else M x y
abbrev LS9 : Type := Int64 × (Nat → Nat → Bool) × Nat
def lqStep (fit : Nat → Nat → Bool) (r q : Nat) (S : LS9) : LS9 := if fit r q = true then (if dv (nx S.1) 3 = 0 then (nx S.1, setM S.2.1 r q, S.2.2 + 1) else (nx S.1, S.2.1, S.2.2)) else S
def liN (fit : Nat → Nat → Bool) (r : Nat) (S : LS9) : Nat → LS9
  | 0 => S
  | q + 1 => lqStep fit r q (liN fit r S q)
def loN (fit : Nat → Nat → Bool) (st : Int64) : Nat → LS9
  | 0 => (st, fun _ _ => false, 0)
  | n + 1 => liN fit (n + 1) (loN fit st n) (n + 1)
def fam (par : Nat → Nat) (x y : Nat) : Prop := (0 < x ∧ par x = y) ∨ (0 < y ∧ par y = x)
/-- the loops so far: rows below r, and row r below q -/
def MW (par : Nat → Nat) (r q : Nat) (M : Nat → Nat → Bool) : Prop := ∀ x y, M x y = true → M y x = true ∧ x ≠ y ∧ ((x < r ∧ y < r) ∨ (x = r ∧ y < q) ∨ (y = r ∧ x < q)) ∧ ¬ fam par x y
theorem MW.mono {par : Nat → Nat} {r q q' : Nat} {M : Nat → Nat → Bool} (h : MW par r q M) (hq : q ≤ q') : MW par r q' M := fun x y e => by
  obtain ⟨a, b, c, d⟩ := h x y e
  exact ⟨a, b, by omega, d⟩
theorem MW.set {par : Nat → Nat} {r q : Nat} {M : Nat → Nat → Bool} (h : MW par r q M) (hq : q < r) (hf : ¬ fam par r q) : MW par r (q + 1) (setM M r q) := fun x y e => by
  have hf2 : ¬ fam par q r := fun z => hf (z.elim Or.inr Or.inl)
  unfold setM at e ⊢
  by_cases c : (x = r ∧ y = q) ∨ (x = q ∧ y = r)
  · refine ⟨by rw [if_pos (by omega)], by omega, by omega, ?_⟩
    rcases c with ⟨rfl, rfl⟩ | ⟨rfl, rfl⟩
    · exact hf
    · exact hf2
  · rw [if_neg c] at e
    obtain ⟨a, b, c', d⟩ := h x y e
    have a' : (if (y = r ∧ x = q) ∨ (y = q ∧ x = r) then true else M y x) = true := by
      split
      · rfl
      · exact a
    exact ⟨a', b, by omega, d⟩
theorem MW.next {par : Nat → Nat} {r : Nat} {M : Nat → Nat → Bool} (h : MW par r r M) : MW par (r + 1) 0 M := fun x y e => by
  obtain ⟨a, b, c, d⟩ := h x y e
  exact ⟨a, b, by omega, d⟩
theorem fit_fam {par lev : Nat → Nat} {X Y : Nat → Int} {R r q : Nat} (hp : ∀ q, 1 ≤ q → q < R → par q < q) (hr : r < R) (hq : q < r) (h : fitB par lev X Y r q = true) : ¬ fam par r q := by
  unfold fitB at h
  simp at h
  intro z
  rcases z with ⟨z1, z2⟩ | ⟨z1, z2⟩
  · exact h.2.2 z2
  · have := hp q z1 (by omega)
    omega
theorem liN_wf {par lev : Nat → Nat} {X Y : Nat → Int} {R r : Nat} (hp : ∀ q, 1 ≤ q → q < R → par q < q) (hr : r < R) {S : LS9} (h : MW par r 0 S.2.1) : ∀ q, q ≤ r → MW par r q (liN (fitB par lev X Y) r S q).2.1
  | 0, _ => h
  | q + 1, hq => by
    have ih := liN_wf (lev := lev) (X := X) (Y := Y) hp hr h q (by omega)
    show MW par r (q + 1) (lqStep _ r q (liN _ r S q)).2.1
    unfold lqStep
    by_cases c1 : fitB par lev X Y r q = true
    · rw [if_pos c1]
      by_cases c2 : dv (nx (liN (fitB par lev X Y) r S q).1) 3 = 0
      · rw [if_pos c2]; exact ih.set (by omega) (fit_fam hp hr (by omega) c1)
      · rw [if_neg c2]; exact ih.mono (by omega)
    · rw [if_neg c1]; exact ih.mono (by omega)
theorem loN_wf {par lev : Nat → Nat} {X Y : Nat → Int} {R : Nat} (hp : ∀ q, 1 ≤ q → q < R → par q < q) (st : Int64) : ∀ n, n < R → MW par (n + 1) 0 (loN (fitB par lev X Y) st n).2.1
  | 0, _ => fun x y e => by cases e
  | n + 1, hn => (liN_wf hp hn (loN_wf hp st n (by omega)) (n + 1) (Nat.le_refl _)).next
/-- the doors of a room: its own, its children's, its loops -/
def nbL (par : Nat → Nat) (R x : Nat) (M : Nat → Nat → Bool) : List Nat := ((if x = 0 then [] else [par x]) ++ cand R (fun q => decide (0 < q) && par q == x)) ++ cand R (M x)
theorem cand_nodup (n : Nat) (p : Nat → Bool) : (cand n p).Nodup := List.Nodup.sublist List.filter_sublist List.nodup_range
theorem nb_nodup {par : Nat → Nat} {R x : Nat} {M : Nat → Nat → Bool} (hp : ∀ q, 1 ≤ q → q < R → par q < q) (hx : x < R) (hM : ∀ y, M x y = true → x ≠ y ∧ ¬ fam par x y) : (x :: nbL par R x M).Nodup ∧ ∀ y, y ∈ nbL par R x M → y < R := by
  have hmem : ∀ y, y ∈ nbL par R x M → (0 < x ∧ y = par x) ∨ (y < R ∧ 0 < y ∧ par y = x) ∨ (y < R ∧ M x y = true) := by
    intro y hy
    unfold nbL at hy
    rcases List.mem_append.mp hy with hy | hy
    · rcases List.mem_append.mp hy with hy | hy
      · by_cases e : x = 0
        · rw [if_pos e] at hy; cases hy
        · rw [if_neg e] at hy
          exact Or.inl ⟨by omega, List.mem_singleton.mp hy⟩
      · have := cand_mem.mp hy
        simp at this
        exact Or.inr (Or.inl ⟨this.1, this.2.1, this.2.2⟩)
    · have := cand_mem.mp hy
      exact Or.inr (Or.inr this)
  refine ⟨List.nodup_cons.mpr ⟨fun h => ?_, ?_⟩, fun y hy => ?_⟩
  · rcases hmem x h with ⟨a, b⟩ | ⟨a, b, c⟩ | ⟨a, b⟩
    · have := hp x a hx; omega
    · have := hp x b a; omega
    · exact (hM x b).1 rfl
  · unfold nbL
    refine List.nodup_append.mpr ⟨List.nodup_append.mpr ⟨?_, cand_nodup _ _, ?_⟩, cand_nodup _ _, ?_⟩
    · split
      · exact List.nodup_nil
      · simp
    · intro a ha b hb e
      subst e
      by_cases z : x = 0
      · rw [if_pos z] at ha; cases ha
      · rw [if_neg z] at ha
        have h1 := List.mem_singleton.mp ha
        have h2 := cand_mem.mp hb
        simp at h2
        have h3 := hp x (by omega) hx
        have h4 := hp a h2.2.1 h2.1
        omega
    · intro a ha b hb e
      subst e
      have h2 := (hM a (cand_mem.mp hb).2).2
      rcases List.mem_append.mp ha with ha | ha
      · by_cases z : x = 0
        · rw [if_pos z] at ha; cases ha
        · rw [if_neg z] at ha
          have h1 := List.mem_singleton.mp ha
          exact h2 (Or.inl ⟨by omega, h1.symm⟩)
      · have h1 := cand_mem.mp ha
        simp at h1
        exact h2 (Or.inr ⟨h1.2.1, h1.2.2⟩)
  · rcases hmem y hy with ⟨a, b⟩ | ⟨a, b, c⟩ | ⟨a, b⟩
    · have := hp x a hx; omega
    · exact a
    · exact a
theorem nb_len {par : Nat → Nat} {R x : Nat} {M : Nat → Nat → Bool} (hp : ∀ q, 1 ≤ q → q < R → par q < q) (hx : x < R) (hM : ∀ y, M x y = true → x ≠ y ∧ ¬ fam par x y) : (nbL par R x M).length + 1 ≤ R := by
  obtain ⟨h1, h2⟩ := nb_nodup hp hx hM
  have := nodup_len R _ h1 (fun y hy => by
    rcases List.mem_cons.mp hy with e | e
    · omega
    · exact h2 y e)
  simpa using this
/-- what doors and beyond hold -/
def Nb (doors : Nat → Int32) (beyond : Nat → Nat → Int32) (L : Nat → List Nat) : Prop := ∀ r, r < 12 → doors r = nI (L r).length ∧ ∀ i, i < (L r).length → beyond r i = nI ((L r).getD i 0)
def app2 (L : Nat → List Nat) (r q : Nat) : Nat → List Nat := fun x => if x = r then L r ++ [q] else if x = q then L q ++ [r] else L x
theorem getD_app {l : List Nat} {i q : Nat} (h : i < l.length + 1) : (l ++ [q]).getD i 0 = if i = l.length then q else l.getD i 0 := by
  by_cases e : i = l.length
  · subst e; simp
  · rw [if_neg e]
    simp [List.getD_eq_getElem?_getD, List.getElem?_append_left (show i < l.length by omega)]
theorem c_join {r q : Nat} {a : Int32} {doors : Nat → Int32} {beyond : Nat → Nat → Int32} {L : Nat → List Nat} (hr : r < 12) (hq : q < 12) (hrq : r ≠ q) (h : Nb doors beyond L) (h1 : (L r).length < 12) (h2 : (L q).length < 12) :
    ∃ d' b', f_X2_join (nI r) (nI q) a doors beyond = some (a + 1, d', b') ∧ Nb d' b' (app2 L r q) := by
  have e1 := (h r hr).1
  have e2 := (h q hq).1
  unfold f_X2_join
  rw [gd_in hr (by omega), gd_in hr (by omega), cl (by omega), cl (by omega), e1, e2, gd_in h1 (by omega), gd_in2 hq (by omega), gd_in2 hq (by omega), gd_in h2 (by omega), gd_in2 hr (by omega), gd_in2 hr (by omega), gd_in2 hq (by omega), gd_in2 hq (by omega), cl (by omega), cl (by omega), pk_un (Ne.symm hrq), e2, nI_1, nI_1]
  refine ⟨_, _, rfl, fun x hx => ?_⟩
  unfold app2
  by_cases c1 : x = r
  · subst c1
    rw [if_pos rfl, pk_un hrq, pk_us]
    refine ⟨by simp, fun i hi => ?_⟩
    rw [List.length_append] at hi
    rw [getD_app hi]
    unfold upd2
    rw [if_neg hrq, if_pos rfl]
    by_cases c2 : i = (L x).length
    · rw [if_pos c2, c2]; exact pk_us
    · rw [if_neg c2]; exact (pk_un c2).trans ((h x hx).2 i (by simp at hi; omega))
  · rw [if_neg c1]
    by_cases c3 : x = q
    · subst c3
      rw [if_pos rfl, pk_us]
      refine ⟨by simp, fun i hi => ?_⟩
      rw [List.length_append] at hi
      rw [getD_app hi]
      unfold upd2
      rw [if_pos rfl, if_neg c1]
      by_cases c2 : i = (L x).length
      · rw [if_pos c2, c2]; exact pk_us
      · rw [if_neg c2]; exact (pk_un c2).trans ((h x hx).2 i (by simp at hi; omega))
    · rw [if_neg c3, pk_un c3, pk_un c1]
      refine ⟨(h x hx).1, fun i hi => ?_⟩
      unfold upd2
      rw [if_neg c3, if_neg c1]
      exact (h x hx).2 i hi
theorem cand_app {p : Nat → Bool} {q : Nat} : ∀ {n : Nat}, q < n → (∀ y, q ≤ y → p y = false) → cand n (va_up p q true) = cand n p ++ [q]
  | 0, h, _ => by omega
  | n + 1, h, hp => by
    rw [cand_succ, cand_succ, if_neg (show ¬ p n = true by rw [hp n (by omega)]; decide)]
    by_cases e : q = n
    · subst e
      rw [va_up_self, if_pos rfl]
      congr 1
      unfold cand
      apply List.filter_congr
      intro x hx
      have := List.mem_range.mp hx
      exact va_up_ne _ _ (by omega)
    · rw [va_up_ne _ _ (by omega), if_neg (show ¬ p n = true by rw [hp n (by omega)]; decide)]
      exact cand_app (by omega) hp
theorem cand_none {p : Nat → Bool} : ∀ {n : Nat}, (∀ y, y < n → p y = false) → cand n p = []
  | 0, _ => rfl
  | n + 1, h => by
    rw [cand_succ, if_neg (by rw [h n (by omega)]; decide)]
    exact cand_none (fun y hy => h y (by omega))
def nbF (par : Nat → Nat) (n : Nat) : Nat → List Nat := fun x => if x ≤ n then nbL par (n + 1) x (fun _ _ => false) else []
theorem nbF_step {par : Nat → Nat} {R n : Nat} (hp : ∀ q, 1 ≤ q → q < R → par q < q) (hn : n + 1 < R) : nbF par (n + 1) = app2 (nbF par n) (n + 1) (par (n + 1)) := by
  have hpn := hp (n + 1) (by omega) hn
  have hnil : ∀ m, cand m (fun _ => false) = [] := fun m => cand_none (fun _ _ => rfl)
  funext x
  unfold app2 nbF nbL
  simp only [hnil, List.append_nil]
  by_cases c1 : x = n + 1
  · subst c1
    rw [if_pos (Nat.le_refl _), if_pos rfl, if_neg (show ¬ n + 1 ≤ n by omega), if_neg (show ¬ n + 1 = 0 by omega)]
    rw [cand_none (fun y hy => by
      by_cases z : 0 < y
      · have := hp y z (by omega)
        simp; omega
      · simp; omega)]
    rfl
  · rw [if_neg c1]
    by_cases c2 : x = par (n + 1)
    · subst c2
      rw [if_pos rfl, if_pos (show par (n + 1) ≤ n + 1 by omega), if_pos (show par (n + 1) ≤ n by omega), cand_succ, if_pos (show (decide (0 < n + 1) && par (n + 1) == par (n + 1)) = true by simp)]
      rw [List.append_assoc]
    · rw [if_neg c2]
      by_cases c3 : x ≤ n
      · rw [if_pos (show x ≤ n + 1 by omega), if_pos c3, cand_succ (n + 1), if_neg (show ¬ (decide (0 < n + 1) && par (n + 1) == x) = true by simp; exact fun z => c2 z.symm)]
      · rw [if_neg (show ¬ x ≤ n + 1 by omega), if_neg c3]
theorem c_joinFamilies {R : Nat} {a : Int32} {parent doors : Nat → Int32} {beyond : Nat → Nat → Int32} {par : Nat → Nat} (hR : R ≤ 12) (hR1 : 1 ≤ R) (hP : Rq R parent par) (hp : ∀ q, 1 ≤ q → q < R → par q < q) (hd : ∀ q, q < 12 → doors q = 0) :
    ∃ d' b', f_X2_joinFamilies (nI R) a parent doors beyond = some (a + nI (R - 1), d', b') ∧ Nb d' b' (nbF par (R - 1)) := by
  unfold f_X2_joinFamilies f_X2_joinFamilies_2
  obtain ⟨N, rfl⟩ : ∃ N, R = N + 1 := ⟨R - 1, by omega⟩
  refine lp_for0 (fun o => ∃ d' b', o = some (a + nI N, d', b') ∧ Nb d' b' (nbF par N)) N (by omega) (fun i s => nI (i + 1) = s.1 ∧ a + nI i = s.2.1 ∧ Nb s.2.2.1 s.2.2.2 (nbF par i)) ⟨rfl, ?_, fun x hx => ?_⟩ ?_ ?_
  · show a + 0 = a; exact Int32.add_zero a
  · have h0 : nbF par 0 x = [] := by
      unfold nbF nbL
      by_cases c : x ≤ 0
      · rw [if_pos c, if_pos (by omega), cand_none (fun y hy => by rw [show y = 0 by omega]; rfl), cand_none (fun _ _ => rfl)]; rfl
      · rw [if_neg c]
    rw [h0]
    exact ⟨hd x hx, fun i hi => absurd hi (Nat.not_lt_zero _)⟩
  · rintro i ⟨x1, c, d, b⟩ hi ⟨e1, e2, hN⟩ k
    dsimp only at e1 e2 hN ⊢
    subst e1 e2
    left
    have hpi := hp (i + 1) (by omega) (by omega)
    have hl1 : (nbF par i (i + 1)).length < 12 := by unfold nbF; rw [if_neg (by omega)]; decide
    have hl2 : (nbF par i (par (i + 1))).length < 12 := by
      unfold nbF
      rw [if_pos (by omega)]
      have := nb_len (R := i + 1) (M := fun _ _ => false) (fun q a b => hp q a (by omega)) hpi (fun y e => by cases e)
      omega
    unfold fb_X2_joinFamilies_2
    rw [if_neg (nI_ge (show i + 1 < N + 1 by omega) (by omega)), gd_in (show i + 1 < 12 by omega) (by omega), cl (by omega), hP.2 (i + 1) (by omega) (by omega)]
    obtain ⟨d', b', g1, g2⟩ := c_join (a := a + nI i) (show i + 1 < 12 by omega) (show par (i + 1) < 12 by omega) (by omega) hN hl1 hl2
    rw [g1, bs]
    refine ⟨_, ?_, rfl⟩
    refine ⟨(nI_1 (i + 1)).symm, ?_, ?_⟩
    · show a + nI (i + 1) = a + nI i + 1
      rw [Int32.add_assoc, nI_1]
    · rw [nbF_step hp (show i + 1 < N + 1 by omega)]; exact g2
  · rintro ⟨x1, c, d, b⟩ ⟨e1, e2, hN⟩ k
    dsimp only at e1 e2 hN ⊢
    subst e1 e2
    unfold fb_X2_joinFamilies_2
    rw [if_pos (nI_le (Nat.le_refl _) (by omega))]
    exact ⟨_, _, rfl, hN⟩
