/-! Situations: the class's bits and the reference's numbers. -/
theorem nI_and {a b : Nat} (ha : a < 2 ^ 31) (hb : b < 2 ^ 31) : nI a &&& nI b = nI (a &&& b) := by
  have hab : a &&& b < 2 ^ 31 := Nat.and_lt_two_pow _ hb
  apply Int32.toBitVec_inj.mp
  apply BitVec.eq_of_toNat_eq
  rw [Int32.toBitVec_and, BitVec.toNat_and, pk_tn (by omega), pk_tn (by omega), pk_tn (by omega)]
theorem nI_xor {a b : Nat} (ha : a < 2 ^ 31) (hb : b < 2 ^ 31) : nI a ^^^ nI b = nI (a ^^^ b) := by
  have hab : a ^^^ b < 2 ^ 31 := Nat.xor_lt_two_pow ha hb
  apply Int32.toBitVec_inj.mp
  apply BitVec.eq_of_toNat_eq
  rw [Int32.toBitVec_xor, BitVec.toNat_xor, pk_tn (by omega), pk_tn (by omega), pk_tn (by omega)]
theorem and_low {r l m : Nat} (hm : m < 1024) : (1024 * r + l) &&& m = l &&& m := by
  apply Nat.eq_of_testBit_eq
  intro i
  rw [Nat.testBit_and, Nat.testBit_and]
  by_cases h : i < 10
  · have : (1024 * r + l).testBit i = l.testBit i := by
      rw [show (1024 : Nat) = 2 ^ 10 from rfl]
      have h1 := Nat.testBit_mod_two_pow (2 ^ 10 * r + l) 10 i
      have h2 := Nat.testBit_mod_two_pow l 10 i
      rw [Nat.mul_add_mod] at h1
      rw [h1] at h2
      simpa [h] using h2
    rw [this]
  · have : m.testBit i = false := Nat.testBit_lt_two_pow (Nat.lt_of_lt_of_le hm (by
      rw [show (1024 : Nat) = 2 ^ 10 from rfl]; exact Nat.pow_le_pow_right (by omega) (by omega)))
    rw [this]; simp
theorem tb10 {r l i : Nat} (hl : l < 1024) : (1024 * r + l).testBit i = if i < 10 then l.testBit i else r.testBit (i - 10) := by
  rw [show (1024 : Nat) = 2 ^ 10 from rfl]
  exact Nat.testBit_two_pow_mul_add r (by rw [show (2 : Nat) ^ 10 = 1024 from rfl]; exact hl) i
theorem or_low {r l m : Nat} (hl : l < 1024) (hm : m < 1024) : (1024 * r + l) ||| m = 1024 * r + (l ||| m) := by
  have hlm : l ||| m < 1024 := Nat.or_lt_two_pow (n := 10) hl hm
  apply Nat.eq_of_testBit_eq
  intro i
  rw [Nat.testBit_or, tb10 hl, tb10 hlm, Nat.testBit_or]
  by_cases h : i < 10
  · rw [if_pos h, if_pos h]
  · rw [if_neg h, if_neg h]
    have : m.testBit i = false := Nat.testBit_lt_two_pow (Nat.lt_of_lt_of_le hm (by
      rw [show (1024 : Nat) = 2 ^ 10 from rfl]; exact Nat.pow_le_pow_right (by omega) (by omega)))
    rw [this]; simp
theorem xor_low {r l m : Nat} (hl : l < 1024) (hm : m < 1024) : (1024 * r + l) ^^^ m = 1024 * r + (l ^^^ m) := by
  have hlm : l ^^^ m < 1024 := Nat.xor_lt_two_pow (n := 10) hl hm
  apply Nat.eq_of_testBit_eq
  intro i
  rw [Nat.testBit_xor, tb10 hl, tb10 hlm, Nat.testBit_xor]
  by_cases h : i < 10
  · rw [if_pos h, if_pos h]
  · rw [if_neg h, if_neg h]
    have : m.testBit i = false := Nat.testBit_lt_two_pow (Nat.lt_of_lt_of_le hm (by
      rw [show (1024 : Nat) = 2 ^ 10 from rfl]; exact Nat.pow_le_pow_right (by omega) (by omega)))
    rw [this]; simp
theorem xor_same {r l m : Nat} (hl : l < 1024) (hm : m < 1024) : (1024 * r + l) ^^^ (1024 * r + m) = l ^^^ m := by
  have hlm : l ^^^ m < 1024 := Nat.xor_lt_two_pow (n := 10) hl hm
  apply Nat.eq_of_testBit_eq
  intro i
  rw [Nat.testBit_xor, tb10 hl, tb10 hm, Nat.testBit_xor]
  by_cases h : i < 10
  · rw [if_pos h, if_pos h]
  · rw [if_neg h, if_neg h]
    have hp : 1024 ≤ 2 ^ i := by rw [show (1024 : Nat) = 2 ^ 10 from rfl]; exact Nat.pow_le_pow_right (by omega) (by omega)
    rw [Nat.testBit_lt_two_pow (Nat.lt_of_lt_of_le hl hp), Nat.testBit_lt_two_pow (Nat.lt_of_lt_of_le hm hp)]
    simp
theorem join_low {r l : Nat} (hl : l < 1024) : l ||| (1024 * r) = 1024 * r + l := by
  have := or_low (r := r) (l := 0) (m := l) (by omega) hl
  rw [Nat.or_comm]
  simpa using this
/-- the class's ten low bits out of the reference's -/
def cL (m : Nat) : Nat := 512 * (m % 2) + 64 * (m / 2 % 8) + 8 * (m / 16 % 8) + m / 128 % 8
def on3 (x : Nat) : Nat := x % 2 + x / 2 % 2 + x / 4 % 2
theorem cL_lt (m : Nat) : cL m < 1024 := by unfold cL; omega
theorem cL_pos {m : Nat} (h : m < 1024) : cL m &&& 512 = 512 * (m % 2) := co_dec (N := 1024) (P := fun m => cL m &&& 512 = 512 * (m % 2)) (by decide +kernel) h
theorem cL_keys {m : Nat} (h : m < 1024) : cL m &&& 7 = m / 128 % 8 := co_dec (N := 1024) (P := fun m => cL m &&& 7 = m / 128 % 8) (by decide +kernel) h
theorem cL_taken {m : Nat} (h : m < 1024) : cL m &&& 56 = 8 * (m / 16 % 8) := co_dec (N := 1024) (P := fun m => cL m &&& 56 = 8 * (m / 16 % 8)) (by decide +kernel) h
theorem cL_open {m : Nat} (h : m < 1024) : cL m &&& 448 = 64 * (m / 2 % 8) := co_dec (N := 1024) (P := fun m => cL m &&& 448 = 64 * (m / 2 % 8)) (by decide +kernel) h
theorem cL_key {m j : Nat} (h : m < 1024) (hj : j < 3) : cL m &&& 2 ^ j = 2 ^ j * (m / 128 / 2 ^ j % 2) := by
  rcases (show j = 0 ∨ j = 1 ∨ j = 2 by omega) with rfl | rfl | rfl
  · exact co_dec (N := 1024) (P := fun m => cL m &&& 2 ^ 0 = 2 ^ 0 * (m / 128 / 2 ^ 0 % 2)) (by decide +kernel) h
  · exact co_dec (N := 1024) (P := fun m => cL m &&& 2 ^ 1 = 2 ^ 1 * (m / 128 / 2 ^ 1 % 2)) (by decide +kernel) h
  · exact co_dec (N := 1024) (P := fun m => cL m &&& 2 ^ 2 = 2 ^ 2 * (m / 128 / 2 ^ 2 % 2)) (by decide +kernel) h
theorem cL_door {m j : Nat} (h : m < 1024) (hj : j < 3) : cL m &&& 64 * 2 ^ j = 64 * 2 ^ j * (m / 2 / 2 ^ j % 2) := by
  rcases (show j = 0 ∨ j = 1 ∨ j = 2 by omega) with rfl | rfl | rfl
  · exact co_dec (N := 1024) (P := fun m => cL m &&& 64 * 2 ^ 0 = 64 * 2 ^ 0 * (m / 2 / 2 ^ 0 % 2)) (by decide +kernel) h
  · exact co_dec (N := 1024) (P := fun m => cL m &&& 64 * 2 ^ 1 = 64 * 2 ^ 1 * (m / 2 / 2 ^ 1 % 2)) (by decide +kernel) h
  · exact co_dec (N := 1024) (P := fun m => cL m &&& 64 * 2 ^ 2 = 64 * 2 ^ 2 * (m / 2 / 2 ^ 2 % 2)) (by decide +kernel) h
theorem cL_opens {m j : Nat} (h : m < 1024) (hj : j < 3) (h0 : m / 2 / 2 ^ j % 2 = 0) : m + 2 * 2 ^ j < 1024 ∧ cL (m + 2 * 2 ^ j) = cL m ||| 64 * 2 ^ j := by
  rcases (show j = 0 ∨ j = 1 ∨ j = 2 by omega) with rfl | rfl | rfl
  · exact co_dec (N := 1024) (P := fun m => m / 2 / 2 ^ 0 % 2 = 0 → m + 2 * 2 ^ 0 < 1024 ∧ cL (m + 2 * 2 ^ 0) = cL m ||| 64 * 2 ^ 0) (by decide +kernel) h h0
  · exact co_dec (N := 1024) (P := fun m => m / 2 / 2 ^ 1 % 2 = 0 → m + 2 * 2 ^ 1 < 1024 ∧ cL (m + 2 * 2 ^ 1) = cL m ||| 64 * 2 ^ 1) (by decide +kernel) h h0
  · exact co_dec (N := 1024) (P := fun m => m / 2 / 2 ^ 2 % 2 = 0 → m + 2 * 2 ^ 2 < 1024 ∧ cL (m + 2 * 2 ^ 2) = cL m ||| 64 * 2 ^ 2) (by decide +kernel) h h0
def tgl (s : Nat) : Nat := if s % 2 = 0 then s + 1 else s - 1
theorem cL_toggle {m : Nat} (h : m < 1024) : tgl m < 1024 ∧ cL (tgl m) = cL m ^^^ 512 ∧ tgl m % 2 = 1 - m % 2 := co_dec (N := 1024) (P := fun m => tgl m < 1024 ∧ cL (tgl m) = cL m ^^^ 512 ∧ tgl m % 2 = 1 - m % 2) (by decide +kernel) h
/-- what is taken of ly, had being what one has -/
def nw9 (ly had : Nat) : Nat := ly ^^^ (ly &&& had)
theorem nw9_i {ly had : Nat} (h1 : ly < 64) (h2 : had < 64) : nI ly &&& (nI had ^^^ -1) = nI (nw9 ly had) ∧ nw9 ly had < 64 := by
  have := co_dec (N := 4096) (P := fun i => nI (i / 64) &&& (nI (i % 64) ^^^ -1) = nI (nw9 (i / 64) (i % 64)) ∧ nw9 (i / 64) (i % 64) < 64) (by decide +kernel) (i := 64 * ly + had) (by omega)
  rw [show (64 * ly + had) / 64 = ly by omega, show (64 * ly + had) % 64 = had by omega] at this
  exact this
theorem nw9_or {ly had : Nat} (h1 : ly < 64) (h2 : had < 64) : had ||| ly = had + nw9 ly had ∧ (had ||| ly) ^^^ had = nw9 ly had ∧ had % 8 + nw9 ly had % 8 < 8 ∧ had / 8 + nw9 ly had / 8 < 8 := by
  have := co_dec (N := 4096) (P := fun i => (i % 64) ||| (i / 64) = (i % 64) + nw9 (i / 64) (i % 64) ∧ ((i % 64) ||| (i / 64)) ^^^ (i % 64) = nw9 (i / 64) (i % 64) ∧ (i % 64) % 8 + nw9 (i / 64) (i % 64) % 8 < 8 ∧ (i % 64) / 8 + nw9 (i / 64) (i % 64) / 8 < 8) (by decide +kernel) (i := 64 * ly + had) (by omega)
  rw [show (64 * ly + had) / 64 = ly by omega, show (64 * ly + had) % 64 = had by omega] at this
  exact this
theorem or6 {u v w : Nat} (hv : v < 64) (hw : w < 64) : (64 * u + v) ||| w = 64 * u + (v ||| w) := by
  have hvw : v ||| w < 64 := Nat.or_lt_two_pow (n := 6) hv hw
  apply Nat.eq_of_testBit_eq
  intro i
  have t6 : ∀ {x : Nat}, x < 64 → (64 * u + x).testBit i = if i < 6 then x.testBit i else u.testBit (i - 6) := fun {x} hx => by
    rw [show (64 : Nat) = 2 ^ 6 from rfl]
    exact Nat.testBit_two_pow_mul_add u (by rw [show (2 : Nat) ^ 6 = 64 from rfl]; exact hx) i
  rw [Nat.testBit_or, t6 hv, t6 hvw, Nat.testBit_or]
  by_cases h : i < 6
  · rw [if_pos h, if_pos h]
  · rw [if_neg h, if_neg h]
    have : w.testBit i = false := Nat.testBit_lt_two_pow (Nat.lt_of_lt_of_le hw (by
      rw [show (64 : Nat) = 2 ^ 6 from rfl]; exact Nat.pow_le_pow_right (by omega) (by omega)))
    rw [this]; simp
theorem xor6 {u v w : Nat} (hv : v < 64) (hw : w < 64) : (64 * u + v) ^^^ (64 * u + w) = v ^^^ w := by
  have hvw : v ^^^ w < 64 := Nat.xor_lt_two_pow (n := 6) hv hw
  apply Nat.eq_of_testBit_eq
  intro i
  have t6 : ∀ {x : Nat}, x < 64 → (64 * u + x).testBit i = if i < 6 then x.testBit i else u.testBit (i - 6) := fun {x} hx => by
    rw [show (64 : Nat) = 2 ^ 6 from rfl]
    exact Nat.testBit_two_pow_mul_add u (by rw [show (2 : Nat) ^ 6 = 64 from rfl]; exact hx) i
  rw [Nat.testBit_xor, t6 hv, t6 hw, Nat.testBit_xor]
  by_cases h : i < 6
  · rw [if_pos h, if_pos h]
  · rw [if_neg h, if_neg h]
    have hp : 64 ≤ 2 ^ i := by rw [show (64 : Nat) = 2 ^ 6 from rfl]; exact Nat.pow_le_pow_right (by omega) (by omega)
    rw [Nat.testBit_lt_two_pow (Nat.lt_of_lt_of_le hv hp), Nat.testBit_lt_two_pow (Nat.lt_of_lt_of_le hw hp)]
    simp
def hadM (m : Nat) : Nat := m / 128 % 8 + 8 * (m / 16 % 8)
def tkM (ly m : Nat) : Nat := m + 128 * (nw9 ly (hadM m) % 8) + 16 * (nw9 ly (hadM m) / 8)
theorem cL_enc {k t o p : Nat} (hk : k < 8) (ht : t < 8) (ho : o < 8) (hp : p < 2) : cL (128 * k + 16 * t + 2 * o + p) = 512 * p + 64 * o + 8 * t + k := by unfold cL; omega
theorem hadM_enc {k t o p : Nat} (hk : k < 8) (ht : t < 8) (ho : o < 8) (hp : p < 2) : hadM (128 * k + 16 * t + 2 * o + p) = k + 8 * t := by unfold hadM; omega
theorem m_enc {m : Nat} (h : m < 1024) : ∃ k t o p, k < 8 ∧ t < 8 ∧ o < 8 ∧ p < 2 ∧ m = 128 * k + 16 * t + 2 * o + p := ⟨m / 128, m / 16 % 8, m / 2 % 8, m % 2, by omega, by omega, by omega, by omega, by omega⟩
theorem cL_take {ly m : Nat} (h : m < 1024) (hl : ly < 64) : tkM ly m < 1024 ∧ cL (tkM ly m) = cL m ||| ly ∧ (cL m ||| ly) ^^^ cL m = nw9 ly (hadM m) := by
  obtain ⟨k, t, o, p, hk, ht, ho, hp, rfl⟩ := m_enc h
  unfold tkM
  rw [hadM_enc hk ht ho hp, cL_enc hk ht ho hp]
  have hh : k + 8 * t < 64 := by omega
  obtain ⟨n1, n2, n3, n4⟩ := nw9_or hl hh
  have hnl : nw9 ly (k + 8 * t) < 64 := (nw9_i hl hh).2
  have hor : (k + 8 * t) ||| ly < 64 := Nat.or_lt_two_pow (n := 6) hh hl
  have e1 : 512 * p + 64 * o + 8 * t + k = 64 * (8 * p + o) + (k + 8 * t) := by omega
  have e2 : (512 * p + 64 * o + 8 * t + k) ||| ly = 64 * (8 * p + o) + ((k + 8 * t) ||| ly) := by rw [e1, or6 hh hl]
  have hx : ((512 * p + 64 * o + 8 * t + k) ||| ly) ^^^ (512 * p + 64 * o + 8 * t + k) = nw9 ly (k + 8 * t) := by rw [e2, e1, xor6 hor hh, n2]
  refine ⟨?_, ?_, hx⟩
  · omega
  · rw [e2, n1]
    generalize nw9 ly (k + 8 * t) = x at n3 n4 hnl
    have e3 : 128 * k + 16 * t + 2 * o + p + 128 * (x % 8) + 16 * (x / 8) = 128 * (k + x % 8) + 16 * (t + x / 8) + 2 * o + p := by omega
    rw [e3, cL_enc (by omega) (by omega) ho hp]
    omega
theorem bc64 {x : Nat} (h : x < 64) : f_J6_bitCount (nI x) = some (nI (on3 (x % 8) + on3 (x / 8))) := co_dec (N := 64) (P := fun x => f_J6_bitCount (nI x) = some (nI (on3 (x % 8) + on3 (x / 8)))) (by decide +kernel) h
theorem bcT {x : Nat} (h : x < 8) : f_J6_bitCount (nI (8 * x)) = some (nI (on3 x)) := co_dec (N := 8) (P := fun x => f_J6_bitCount (nI (8 * x)) = some (nI (on3 x))) (by decide +kernel) h
theorem bcO {x : Nat} (h : x < 8) : f_J6_bitCount (nI (64 * x)) = some (nI (on3 x)) := co_dec (N := 8) (P := fun x => f_J6_bitCount (nI (64 * x)) = some (nI (on3 x))) (by decide +kernel) h
theorem ones3 {x : Nat} (h : x < 8) : f_X7_ones (nI x) = some (nI (on3 x)) := co_dec (N := 8) (P := fun x => f_X7_ones (nI x) = some (nI (on3 x))) (by decide +kernel) h
