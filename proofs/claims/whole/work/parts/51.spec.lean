/-! What make makes, as numbers: rooms, keys, small doors, small keys, barriers, goal. -/
def cand (n : Nat) (p : Nat → Bool) : List Nat := (List.range n).filter p
theorem cand_mem {n q : Nat} {p : Nat → Bool} : q ∈ cand n p ↔ q < n ∧ p q = true := by simp [cand]
theorem cand_succ (n : Nat) (p : Nat → Bool) : cand (n + 1) p = if p n = true then cand n p ++ [n] else cand n p := by
  unfold cand
  rw [List.range_succ, List.filter_append]
  by_cases h : p n = true
  · rw [if_pos h]; simp [h]
  · rw [if_neg h]; simp [h]
theorem cand_len (n : Nat) (p : Nat → Bool) : (cand n p).length ≤ n := by
  have := List.length_filter_le p (List.range n)
  simpa [cand] using this
def pick (st : Int64) (l : List Nat) : Nat := l.getD (dv (nx st) l.length) 0
theorem pick_mem {st : Int64} {l : List Nat} (h : l ≠ []) : pick st l ∈ l := by
  have hl : 0 < l.length := List.length_pos_iff.mpr h
  unfold pick
  rw [List.getD_eq_getElem?_getD, List.getElem?_eq_getElem (dv_lt _ hl)]
  exact List.getElem_mem _
abbrev RS : Type := Nat × Int64 × (Nat → Nat) × (Nat → Nat) × (Nat → Nat)
def rmStep (R K r : Nat) (S : RS) : RS :=
  if R - r = K - S.1 then (S.1 + 1, nx S.2.1, va_up S.2.2.1 r (pick S.2.1 (cand r (fun q => S.2.2.2.1 q == S.1))), va_up S.2.2.2.1 r (S.1 + 1), va_up S.2.2.2.2 r 1)
  else if S.2.2.2.1 (dv (nx S.2.1) r) = S.1 ∧ S.1 < K then
    (if dv (nx (nx S.2.1)) 4 = 0 then (S.1 + 1, nx (nx S.2.1), va_up S.2.2.1 r (dv (nx S.2.1) r), va_up S.2.2.2.1 r (S.1 + 1), va_up S.2.2.2.2 r 1)
     else (S.1, nx (nx S.2.1), va_up S.2.2.1 r (dv (nx S.2.1) r), va_up S.2.2.2.1 r (S.2.2.2.1 (dv (nx S.2.1) r)), va_up S.2.2.2.2 r 0))
  else (S.1, nx S.2.1, va_up S.2.2.1 r (dv (nx S.2.1) r), va_up S.2.2.2.1 r (S.2.2.2.1 (dv (nx S.2.1) r)), va_up S.2.2.2.2 r 0)
def rmN (R K : Nat) (st : Int64) : Nat → RS
  | 0 => (0, st, fun _ => 0, fun _ => 0, fun _ => 0)
  | n + 1 => rmStep R K (n + 1) (rmN R K st n)
def RmW (R K n : Nat) (S : RS) : Prop :=
  S.1 ≤ K ∧ K - S.1 ≤ R - (n + 1) ∧ (∀ q, 1 ≤ q → q ≤ n → S.2.2.1 q < q) ∧ (∀ q, q ≤ n → S.2.2.2.1 q ≤ S.1) ∧ (∃ q, q ≤ n ∧ S.2.2.2.1 q = S.1) ∧ S.2.2.2.1 0 = 0 ∧
  (∀ q, 1 ≤ q → q ≤ n → S.2.2.2.1 q = 0 → S.2.2.2.1 (S.2.2.1 q) = 0) ∧ (∀ q, q ≤ n → S.2.2.2.2 q = 0 ∨ (S.2.2.2.2 q = 1 ∧ 1 ≤ S.2.2.2.1 q)) ∧ S.2.2.2.2 0 = 0
theorem RmW.rise {R K n p : Nat} {S : RS} (h : RmW R K n S) (hp : p ≤ n) (h1 : S.1 < K) (h2 : K - (S.1 + 1) ≤ R - (n + 2)) (st : Int64) :
    RmW R K (n + 1) (S.1 + 1, st, va_up S.2.2.1 (n + 1) p, va_up S.2.2.2.1 (n + 1) (S.1 + 1), va_up S.2.2.2.2 (n + 1) 1) := by
  obtain ⟨a1, a2, a3, a4, a5, a6, a7, a8, a9⟩ := h
  refine ⟨h1, h2, ?_, ?_, ⟨n + 1, Nat.le_refl _, by simp [va_up]⟩, by simp [va_up, a6], ?_, ?_, by simp [va_up, a9]⟩
  · intro q q1 q2
    by_cases e : q = n + 1
    · subst e; simp [va_up]; omega
    · simp only [va_up, if_neg e]; exact a3 q q1 (by omega)
  · intro q q2
    by_cases e : q = n + 1
    · subst e; simp [va_up]
    · simp only [va_up, if_neg e]; have := a4 q (by omega); omega
  · intro q q1 q2 q3
    by_cases e : q = n + 1
    · subst e; simp [va_up] at q3
    · simp only [va_up, if_neg e] at q3 ⊢
      have := a3 q q1 (by omega)
      rw [if_neg (by omega)]
      exact a7 q q1 (by omega) q3
  · intro q q2
    by_cases e : q = n + 1
    · subst e; right; simp [va_up]
    · simp only [va_up, if_neg e]; exact a8 q (by omega)
theorem RmW.stay {R K n p : Nat} {S : RS} (h : RmW R K n S) (hp : p ≤ n) (h2 : K - S.1 ≤ R - (n + 2)) (st : Int64) :
    RmW R K (n + 1) (S.1, st, va_up S.2.2.1 (n + 1) p, va_up S.2.2.2.1 (n + 1) (S.2.2.2.1 p), va_up S.2.2.2.2 (n + 1) 0) := by
  obtain ⟨a1, a2, a3, a4, ⟨q0, b1, b2⟩, a6, a7, a8, a9⟩ := h
  refine ⟨a1, h2, ?_, ?_, ⟨q0, by omega, ?_⟩, by simp [va_up, a6], ?_, ?_, by simp [va_up, a9]⟩
  · intro q q1 q2
    by_cases e : q = n + 1
    · subst e; simp [va_up]; omega
    · simp only [va_up, if_neg e]; exact a3 q q1 (by omega)
  · intro q q2
    by_cases e : q = n + 1
    · subst e; simp [va_up]; exact a4 p hp
    · simp only [va_up, if_neg e]; exact a4 q (by omega)
  · show va_up S.2.2.2.1 (n + 1) (S.2.2.2.1 p) q0 = S.1
    rw [va_up, if_neg (by omega)]; exact b2
  · intro q q1 q2 q3
    by_cases e : q = n + 1
    · subst e
      simp only [va_up, if_true] at q3 ⊢
      rw [if_neg (by omega)]
      exact q3
    · simp only [va_up, if_neg e] at q3 ⊢
      have := a3 q q1 (by omega)
      rw [if_neg (by omega)]
      exact a7 q q1 (by omega) q3
  · intro q q2
    by_cases e : q = n + 1
    · subst e; left; simp [va_up]
    · simp only [va_up, if_neg e]; exact a8 q (by omega)
theorem rmStep_wf {R K n : Nat} {S : RS} (h : RmW R K n S) (hn : n + 1 < R) : RmW R K (n + 1) (rmStep R K (n + 1) S) := by
  have hd : dv (nx S.2.1) (n + 1) < n + 1 := dv_lt _ (by omega)
  have h' := h
  obtain ⟨a1, a2, a3, a4, ⟨q0, b1, b2⟩, a6, a7, a8, a9⟩ := h'
  unfold rmStep
  by_cases c1 : R - (n + 1) = K - S.1
  · rw [if_pos c1]
    have hne : cand (n + 1) (fun q => S.2.2.2.1 q == S.1) ≠ [] := by
      intro e
      have : q0 ∈ cand (n + 1) (fun q => S.2.2.2.1 q == S.1) := cand_mem.mpr ⟨by omega, by simp [b2]⟩
      rw [e] at this
      cases this
    have hp := (cand_mem.mp (pick_mem (st := S.2.1) hne)).1
    exact h.rise (by omega) (by omega) (by omega) _
  · rw [if_neg c1]
    by_cases c2 : S.2.2.2.1 (dv (nx S.2.1) (n + 1)) = S.1 ∧ S.1 < K
    · rw [if_pos c2]
      by_cases c3 : dv (nx (nx S.2.1)) 4 = 0
      · rw [if_pos c3]; exact h.rise (by omega) c2.2 (by omega) _
      · rw [if_neg c3]; exact h.stay (by omega) (by omega) _
    · rw [if_neg c2]; exact h.stay (by omega) (by omega) _
theorem rmN_wf {R K : Nat} (hK : K < R) (st : Int64) : ∀ n, n < R → RmW R K n (rmN R K st n)
  | 0, _ => ⟨Nat.zero_le _, by show K - 0 ≤ R - 1; omega, fun q a b => by omega, fun q _ => Nat.le_refl _, ⟨0, Nat.le_refl _, rfl⟩, rfl, fun q a b => by omega, fun q _ => Or.inl rfl, rfl⟩
  | n + 1, h => rmStep_wf (rmN_wf hK st n (by omega)) h
