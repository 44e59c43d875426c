/-! Keys, small doors, small keys, barriers, goal. -/
abbrev KS : Type := Int64 × (Nat → Nat)
def kyStep (R l : Nat) (lev : Nat → Nat) (S : KS) : KS := (nx S.1, va_up S.2 (pick S.1 (cand R (fun q => decide (lev q < l)))) (S.2 (pick S.1 (cand R (fun q => decide (lev q < l)))) ||| 2 ^ (l - 1)))
def kyN (R : Nat) (lev : Nat → Nat) (st : Int64) : Nat → KS
  | 0 => (st, fun _ => 0)
  | n + 1 => kyStep R (n + 1) lev (kyN R lev st n)
theorem kyN_lt {R : Nat} {lev : Nat → Nat} {st : Int64} : ∀ n, n ≤ 3 → ∀ q, (kyN R lev st n).2 q < 8
  | 0, _, q => by show 0 < 8; omega
  | n + 1, h, q => by
    have ih := kyN_lt (R := R) (lev := lev) (st := st) n (by omega)
    show va_up _ _ _ q < 8
    unfold va_up
    split
    · refine Nat.or_lt_two_pow (n := 3) (ih _) ?_
      exact Nat.pow_lt_pow_right (by omega) (by omega)
    · exact ih q
abbrev SS : Type := Int64 × Nat × (Nat → Nat) × (Nat → Nat)
def plain (R : Nat) (knd : Nat → Nat) : List Nat := cand R (fun r => decide (0 < r) && knd r == 0)
def sdStep (R : Nat) (S : SS) : SS := if plain R S.2.2.1 = [] then S else (nx S.1, S.2.1 + 1, va_up S.2.2.1 (pick S.1 (plain R S.2.2.1)) 2, va_up S.2.2.2 (pick S.1 (plain R S.2.2.1)) S.2.1)
def sdN (R : Nat) (st : Int64) (knd : Nat → Nat) : Nat → SS
  | 0 => (st, 0, knd, fun _ => 0)
  | n + 1 => sdStep R (sdN R st knd n)
theorem plain_pick {R : Nat} {knd : Nat → Nat} {st : Int64} (h : plain R knd ≠ []) : pick st (plain R knd) < R ∧ 0 < pick st (plain R knd) ∧ knd (pick st (plain R knd)) = 0 := by
  have := cand_mem.mp (pick_mem (st := st) h)
  simp at this
  exact ⟨this.1, this.2.1, this.2.2⟩
/-- what the small doors keep: kinds 0, 1, 2; the rooms whose door is a lock are as before; small ones have a number -/
def SdW (R n : Nat) (knd0 : Nat → Nat) (S : SS) : Prop := S.2.1 ≤ n ∧ (∀ q, S.2.2.1 q = knd0 q ∨ (S.2.2.1 q = 2 ∧ knd0 q = 0 ∧ 0 < q ∧ q < R ∧ S.2.2.2 q < S.2.1))
theorem sdN_wf {R : Nat} {st : Int64} {knd : Nat → Nat} (hk : ∀ q, q < R → knd q ≤ 1) : ∀ n, SdW R n knd (sdN R st knd n)
  | 0 => ⟨Nat.le_refl _, fun q => Or.inl rfl⟩
  | n + 1 => by
    obtain ⟨a1, a2⟩ := sdN_wf (st := st) hk n
    generalize hS : sdN R st knd n = S at a1 a2
    show SdW R (n + 1) knd (sdStep R (sdN R st knd n))
    rw [hS]
    unfold sdStep
    by_cases h : plain R S.2.2.1 = []
    · rw [if_pos h]
      exact ⟨by omega, a2⟩
    · rw [if_neg h]
      obtain ⟨p1, p2, p3⟩ := plain_pick (st := S.1) h
      generalize pick S.1 (plain R S.2.2.1) = r at p1 p2 p3
      refine ⟨by show S.2.1 + 1 ≤ n + 1; omega, fun q => ?_⟩
      show va_up S.2.2.1 r 2 q = knd q ∨ (va_up S.2.2.1 r 2 q = 2 ∧ knd q = 0 ∧ 0 < q ∧ q < R ∧ va_up S.2.2.2 r S.2.1 q < S.2.1 + 1)
      by_cases e : q = r
      · subst e
        rw [va_up_self, va_up_self]
        right
        refine ⟨rfl, ?_, p2, p1, by omega⟩
        rcases a2 q with z | z
        · rw [← z]; exact p3
        · exact z.2.1
      · rw [va_up_ne _ _ e, va_up_ne _ _ e]
        rcases a2 q with z | z
        · exact Or.inl z
        · exact Or.inr ⟨z.1, z.2.1, z.2.2.1, z.2.2.2.1, by omega⟩
/-- from parent to parent without a small door, by at most f steps -/
def chF (par knd : Nat → Nat) : Nat → Nat → Bool
  | 0, _ => false
  | f + 1, r => if r = 0 then true else if knd r = 2 then false else chF par knd f (par r)
theorem chF_more {par knd : Nat → Nat} {R : Nat} (hp : ∀ q, 1 ≤ q → q < R → par q < q) : ∀ (f g r : Nat), r < f → r < g → r < R → chF par knd f r = chF par knd g r
  | 0, g, r, h, _, _ => by omega
  | f + 1, 0, r, _, h, _ => by omega
  | f + 1, g + 1, r, h1, h2, h3 => by
    unfold chF
    by_cases e : r = 0
    · rw [if_pos e, if_pos e]
    · rw [if_neg e, if_neg e]
      by_cases e2 : knd r = 2
      · rw [if_pos e2, if_pos e2]
      · rw [if_neg e2, if_neg e2]
        have := hp r (by omega) h3
        exact chF_more hp f g (par r) (by omega) (by omega) (by omega)
def ch (par knd : Nat → Nat) (r : Nat) : Bool := chF par knd (r + 1) r
theorem ch_0 (par knd : Nat → Nat) : ch par knd 0 = true := rfl
theorem ch_s {par knd : Nat → Nat} {R r : Nat} (hp : ∀ q, 1 ≤ q → q < R → par q < q) (h0 : 0 < r) (hr : r < R) : ch par knd r = (decide (knd r ≠ 2) && ch par knd (par r)) := by
  have := hp r h0 hr
  unfold ch
  rw [chF, if_neg (by omega)]
  by_cases e : knd r = 2
  · rw [if_pos e]; simp [e]
  · rw [if_neg e, chF_more hp r (par r + 1) (par r) (by omega) (by omega) (by omega)]
    simp [e]
def opnL (R : Nat) (par lev knd : Nat → Nat) : List Nat := cand R (fun r => lev r == 0 && ch par knd r)
def skStep (l : List Nat) (i : Nat) (S : KS) : KS := (nx S.1, va_up S.2 (pick S.1 l) (S.2 (pick S.1 l) ||| 8 * 2 ^ i))
def skN (l : List Nat) (S : KS) : Nat → KS
  | 0 => S
  | n + 1 => skStep l n (skN l S n)
theorem skN_lt {l : List Nat} {S : KS} (h : ∀ q, S.2 q < 64) : ∀ n, n ≤ 3 → ∀ q, (skN l S n).2 q < 64
  | 0, _, q => h q
  | n + 1, hn, q => by
    have ih := skN_lt (l := l) h n (by omega)
    show va_up _ _ _ q < 64
    unfold va_up
    split
    · refine Nat.or_lt_two_pow (n := 6) (ih _) ?_
      show 2 ^ 3 * 2 ^ n < 2 ^ 6
      rw [← Nat.pow_add]
      exact Nat.pow_lt_pow_right (by omega) (by omega)
    · exact ih q
abbrev BS : Type := Int64 × (Nat → Nat) × (Nat → Nat)
def baStep (R : Nat) (par : Nat → Nat) (S : BS) : BS := if plain R S.2.1 = [] then S else
  (nx (nx S.1), va_up S.2.1 (pick S.1 (plain R S.2.1)) (if dv (nx (nx S.1)) 2 = 0 then 3 else 4), va_up (va_up S.2.2 (pick S.1 (plain R S.2.1)) 1) (par (pick S.1 (plain R S.2.1))) 1)
def baN (R : Nat) (par : Nat → Nat) (st : Int64) (knd : Nat → Nat) : Nat → BS
  | 0 => (st, knd, fun _ => 0)
  | n + 1 => baStep R par (baN R par st knd n)
def BaW (R : Nat) (knd0 : Nat → Nat) (S : BS) : Prop := (∀ q, S.2.1 q = knd0 q ∨ ((S.2.1 q = 3 ∨ S.2.1 q = 4) ∧ knd0 q = 0 ∧ 0 < q ∧ q < R)) ∧ ∀ q, S.2.2 q ≤ 1
theorem baN_wf {R : Nat} {par : Nat → Nat} {st : Int64} {knd : Nat → Nat} : ∀ n, BaW R knd (baN R par st knd n)
  | 0 => ⟨fun q => Or.inl rfl, fun q => Nat.zero_le _⟩
  | n + 1 => by
    obtain ⟨a1, a2⟩ := baN_wf (R := R) (par := par) (st := st) (knd := knd) n
    generalize hS : baN R par st knd n = S at a1 a2
    show BaW R knd (baStep R par (baN R par st knd n))
    rw [hS]
    unfold baStep
    by_cases h : plain R S.2.1 = []
    · rw [if_pos h]; exact ⟨a1, a2⟩
    · rw [if_neg h]
      obtain ⟨p1, p2, p3⟩ := plain_pick (st := S.1) h
      generalize pick S.1 (plain R S.2.1) = r at p1 p2 p3
      refine ⟨fun q => ?_, fun q => ?_⟩
      · show va_up S.2.1 r _ q = knd q ∨ ((va_up S.2.1 r _ q = 3 ∨ va_up S.2.1 r _ q = 4) ∧ knd q = 0 ∧ 0 < q ∧ q < R)
        by_cases e : q = r
        · subst e
          rw [va_up_self]
          right
          refine ⟨by split <;> simp, ?_, p2, p1⟩
          rcases a1 q with z | z
          · rw [← z]; exact p3
          · exact z.2.1
        · rw [va_up_ne _ _ e]; exact a1 q
      · show va_up (va_up S.2.2 r 1) (par r) 1 q ≤ 1
        unfold va_up
        split
        · exact Nat.le_refl _
        · split
          · exact Nat.le_refl _
          · exact a2 q
