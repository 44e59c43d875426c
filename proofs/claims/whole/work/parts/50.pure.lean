/-! Pure rows: loops, numbers, draws. -/
/-- a loop that counts: at each of N turns it goes on, or ends as P wants -/
theorem lp_for {σ ρ : Type} {body : (σ → Option ρ) → σ → Option ρ} (P : Option ρ → Prop) (N : Nat) (I : Nat → σ → Prop)
    (step : ∀ i s, i < N → I i s → ∀ k, (∃ s', I (i + 1) s' ∧ body k s = k s') ∨ P (body k s))
    (fin : ∀ s, I N s → ∀ k, P (body k s)) : ∀ (n i : Nat) (s : σ), i ≤ N → N < n + i → I i s → P (lp body n s) := by
  intro n
  induction n with
  | zero => intro i s h1 h2; omega
  | succ n ih =>
    intro i s h1 h2 hI
    show P (body (lp body n) s)
    rcases Nat.lt_or_ge i N with h | h
    · rcases step i s h hI (lp body n) with ⟨s', h3, h4⟩ | h3
      · rw [h4]
        exact ih (i + 1) s' h (by omega) h3
      · exact h3
    · have e : i = N := by omega
      subst e
      exact fin s hI _
theorem lp_for0 {σ ρ : Type} {body : (σ → Option ρ) → σ → Option ρ} (P : Option ρ → Prop) (N : Nat) (hN : N < 100000) (I : Nat → σ → Prop) {s : σ} (h0 : I 0 s)
    (step : ∀ i s, i < N → I i s → ∀ k, (∃ s', I (i + 1) s' ∧ body k s = k s') ∨ P (body k s))
    (fin : ∀ s, I N s → ∀ k, P (body k s)) : P (lp body fuel s) := by
  exact lp_for P N I step fin fuel 0 s (Nat.zero_le _) (by unfold fuel; omega) h0
/-- from i0 on -/
theorem lp_forI {σ ρ : Type} {body : (σ → Option ρ) → σ → Option ρ} (P : Option ρ → Prop) (i0 N : Nat) (hi : i0 ≤ N) (hN : N < 100000) (I : Nat → σ → Prop) {s : σ} (h0 : I i0 s)
    (step : ∀ i s, i0 ≤ i → i < N → I i s → ∀ k, (∃ s', I (i + 1) s' ∧ body k s = k s') ∨ P (body k s))
    (fin : ∀ s, I N s → ∀ k, P (body k s)) : P (lp body fuel s) := by
  refine lp_for P N (fun i s => i0 ≤ i ∧ I i s) (fun i s hl h k => ?_) (fun s h k => fin s h.2 k) fuel i0 s hi (by unfold fuel; omega) ⟨Nat.le_refl _, h0⟩
  rcases step i s h.1 hl h.2 k with ⟨s', h1, h2⟩ | h1
  · exact Or.inl ⟨s', ⟨by have := h.1; omega, h1⟩, h2⟩
  · exact Or.inr h1
/-- not by rfl: so that rewriting leaves the kernel nothing to compute -/
theorem bs {α β : Type} (a : α) (f : α → Option β) : (some a).bind f = f a := Eq.trans (Option.bind_some a f) rfl
/-- guards and numbers -/
theorem gd_in {α : Type} {n N : Nat} {k : Option α} (h : n < N) (hN : N < 2 ^ 31) : gd (nI n < 0 ∨ N ≤ (nI n).toNatClampNeg) k = k := gd_neg (nI_in h hN)
theorem gd_in2 {α : Type} {n N : Nat} {k : Option α} (h : n < N) (hN : N < 2 ^ 31) : gd (nI n < 0 ∨ N ≤ n) k = k := gd_neg (fun z => by rcases z with z | z; exact nI_pos (by omega) z; omega)
theorem cl {n : Nat} (h : n < 2 ^ 31) : (nI n).toNatClampNeg = n := nI_clamp h
theorem nI0 : (0 : Int32) = nI 0 := rfl
theorem nI1 : (1 : Int32) = nI 1 := rfl
theorem upd_s {f : Nat → Int32} {k : Nat} {x : Int32} : upd f k x k = x := pk_us
theorem upd_n {f : Nat → Int32} {k j : Nat} {x : Int32} (h : j ≠ k) : upd f k x j = f j := pk_un h
/-- draws -/
def nx (st : Int64) : Int64 := st * 6364136223846793005 + 1442695040888963407
def dv (st : Int64) (n : Nat) : Nat := st.toUInt64.toNat / 2 ^ 33 % n
theorem dv_lt (st : Int64) {n : Nat} (h : 0 < n) : dv st n < n := Nat.mod_lt _ h
theorem shr33 (x : Int64) : (x.toUInt64 >>> ((33 : Int32).toInt64.toUInt64 &&& Int64.toUInt64 63)).toInt64 = lN (x.toUInt64.toNat / 2 ^ 33) := by
  have h1 : ((33 : Int32).toInt64.toUInt64 &&& Int64.toUInt64 63) = 33 := by decide
  rw [h1]
  apply Int64.toBitVec_inj.mp
  apply BitVec.eq_of_toNat_eq
  have h2 : (x.toUInt64 >>> (33 : UInt64)).toNat = x.toUInt64.toNat / 2 ^ 33 := by
    rw [UInt64.toNat_shiftRight]
    simp [Nat.shiftRight_eq_div_pow]
  have h3 : (lN (x.toUInt64.toNat / 2 ^ 33)).toBitVec.toNat = x.toUInt64.toNat / 2 ^ 33 := by
    have h4 : x.toUInt64.toNat < 2 ^ 64 := x.toUInt64.toNat_lt
    show (BitVec.ofNat 64 _).toNat = _
    rw [BitVec.toNat_ofNat]
    exact Nat.mod_eq_of_lt (by omega)
  rw [h3]
  exact h2
theorem draw_eq (st : Int64) {n : Nat} (h : 0 < n) (hn : n < 2 ^ 31) :
    ((st.toUInt64 >>> ((33 : Int32).toInt64.toUInt64 &&& Int64.toUInt64 63)).toInt64 - (st.toUInt64 >>> ((33 : Int32).toInt64.toUInt64 &&& Int64.toUInt64 63)).toInt64 / (nI n).toInt64 * (nI n).toInt64).toInt32 = nI (dv st n) := by
  have h4 : st.toUInt64.toNat < 2 ^ 64 := st.toUInt64.toNat_lt
  rw [shr33, nI_l hn, pk_lRem (by omega) h (by omega), lN_i]
  rfl
theorem draw_ne {n : Nat} (h : 0 < n) (hn : n < 2 ^ 31) : ¬ (nI n).toInt64 = 0 := by
  rw [nI_l hn]
  intro e
  have := (lN_eq (b := 0) hn (by omega)).mp e
  omega
theorem c_number {n : Nat} (h : 0 < n) (hn : n < 2 ^ 31) (st : Int64) : f_X1_number (nI n) st = some (nI (dv (nx st) n), nx st) := by
  unfold f_X1_number
  rw [if_pos (show (1 : Int32) ≤ nI n from (nI_leI (a := 1) (by omega) hn).mpr h), gd_neg (draw_ne h hn)]
  exact congrArg (fun x => some (x, nx st)) (draw_eq (nx st) h hn)
theorem m_draw {n : Nat} (h : 0 < n) (hn : n < 2 ^ 31) (st : Int64) : f_X7_draw (nI n) st = some (nI (dv (nx st) n), nx st) := by
  unfold f_X7_draw
  rw [gd_neg (draw_ne h hn)]
  exact congrArg (fun x => some (x, nx st)) (draw_eq (nx st) h hn)
