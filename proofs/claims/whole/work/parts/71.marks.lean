/-! Marks: sets of situations as bits. -/
def SB (b : Nat → Int64) (S : Nat → Prop) : Prop := ∀ n, n < 12288 → ((b (n / 64)).toBitVec.getLsbD (n % 64) = true ↔ S n)
theorem sb_one {k : Nat} (h : k < 64) : (1 : Int64) <<< ((nI k).toInt64 &&& 63) = Int64.ofBitVec (BitVec.twoPow 64 k) := co_dec (N := 64) (P := fun k => (1 : Int64) <<< ((nI k).toInt64 &&& 63) = Int64.ofBitVec (BitVec.twoPow 64 k)) (by decide +kernel) h
theorem sb_ix {n : Nat} (h : n < 12288) : nI n >>> ((6 : Int32) &&& 31) = nI (n / 64) := pk_shrN (by omega) _ 6 (by decide)
theorem sb_lo {n : Nat} (h : n < 12288) : nI n &&& 63 = nI (n % 64) := pk_andN (by omega) 6 (by decide)
theorem sb_and (x : Int64) (k : Nat) (h : k < 64) : (x &&& Int64.ofBitVec (BitVec.twoPow 64 k) = 0) ↔ ¬ x.toBitVec.getLsbD k = true := by
  have e : (x &&& Int64.ofBitVec (BitVec.twoPow 64 k)).toBitVec = if x.toBitVec.getLsbD k then BitVec.twoPow 64 k else 0#64 := by
    rw [Int64.toBitVec_and]
    exact BitVec.and_twoPow _ _
  constructor
  · intro z y
    rw [z, if_pos y] at e
    have h2 : (BitVec.twoPow 64 k).getLsbD k = true := by rw [BitVec.getLsbD_twoPow]; simp [h]
    rw [← e] at h2
    have h3 : (0 : Int64).toBitVec.getLsbD k = false := by
      show (0#64).getLsbD k = false
      simp
    rw [h3] at h2
    cases h2
  · intro z
    rw [if_neg z] at e
    exact Int64.toBitVec_inj.mp e
theorem c_has_seen {b : Nat → Int64} {S : Nat → Prop} (hb : SB b S) {n : Nat} (h : n < 12288) : ∃ v, f_X3_has_seen (nI n) b = some v ∧ ((S n ∧ v = 1) ∨ (¬ S n ∧ v = 0)) := by
  unfold f_X3_has_seen
  rw [sb_ix h, sb_lo h, sb_one (Nat.mod_lt _ (by omega)), gd_in (show n / 64 < 192 by omega) (by omega), cl (by omega)]
  have h1 := hb n h
  by_cases c : S n
  · refine ⟨1, ?_, Or.inl ⟨c, rfl⟩⟩
    rw [if_neg (fun z => (sb_and _ _ (Nat.mod_lt _ (by omega))).mp ((lg_cmp_eq _ _).mp z) (h1.mpr c))]
  · refine ⟨0, ?_, Or.inr ⟨c, rfl⟩⟩
    rw [if_pos ((lg_cmp_eq _ _).mpr ((sb_and _ _ (Nat.mod_lt _ (by omega))).mpr (fun z => c (h1.mp z))))]
theorem c_has_saved {b : Nat → Int64} {S : Nat → Prop} (hb : SB b S) {n : Nat} (h : n < 12288) : ∃ v, f_X3_has_saved (nI n) b = some v ∧ ((S n ∧ v = 1) ∨ (¬ S n ∧ v = 0)) := c_has_seen hb h
theorem c_add_seen {b : Nat → Int64} {S : Nat → Prop} (hb : SB b S) {n : Nat} (h : n < 12288) : ∃ b', f_X3_add_seen (nI n) b = some b' ∧ SB b' (fun m => S m ∨ m = n) := by
  unfold f_X3_add_seen
  rw [sb_ix h, sb_lo h, sb_one (Nat.mod_lt _ (by omega)), gd_in (show n / 64 < 192 by omega) (by omega), gd_in (show n / 64 < 192 by omega) (by omega), cl (by omega)]
  refine ⟨_, rfl, fun m hm => ?_⟩
  have h1 := hb m hm
  have e : (vp_updL b (n / 64) (b (n / 64) ||| Int64.ofBitVec (BitVec.twoPow 64 (n % 64)))) (m / 64) = if m / 64 = n / 64 then b (n / 64) ||| Int64.ofBitVec (BitVec.twoPow 64 (n % 64)) else b (m / 64) := rfl
  rw [e]
  by_cases c : m / 64 = n / 64
  · rw [if_pos c, Int64.toBitVec_or]
    show ((b (n / 64)).toBitVec ||| BitVec.twoPow 64 (n % 64)).getLsbD (m % 64) = true ↔ _
    rw [BitVec.getLsbD_or, BitVec.getLsbD_twoPow, Bool.or_eq_true, ← c, h1, Bool.and_eq_true, decide_eq_true_iff, decide_eq_true_iff]
    constructor
    · rintro (y | ⟨_, y⟩)
      · exact Or.inl y
      · exact Or.inr (by omega)
    · rintro (y | y)
      · exact Or.inl y
      · exact Or.inr ⟨by omega, by omega⟩
  · rw [if_neg c, h1]
    constructor
    · exact Or.inl
    · rintro (y | y)
      · exact y
      · exact absurd (by rw [y]) c
theorem c_add_saved {b : Nat → Int64} {S : Nat → Prop} (hb : SB b S) {n : Nat} (h : n < 12288) : ∃ b', f_X3_add_saved (nI n) b = some b' ∧ SB b' (fun m => S m ∨ m = n) := c_add_seen hb h
theorem c_clear_seen (b : Nat → Int64) : ∃ b', f_X3_clear_seen b = some b' ∧ SB b' (fun _ => False) := by
  unfold f_X3_clear_seen f_J7_fill_seenb f_J7_fill_seenb_6
  have h := lp_for0 (σ := Int64 × Int32 × Int32 × (Nat → Int64)) (body := fun k st => fb_J7_fill_seenb_6 (fun x1 x3 x4 seenb => k (x1, x3, x4, seenb)) st.1 st.2.1 st.2.2.1 st.2.2.2) (fun o => ∃ b' : Nat → Int64, o = some b' ∧ ∀ q, q < 192 → b' q = 0) 192 (by omega) (fun i s => s.1 = 0 ∧ s.2.1 = nI i ∧ s.2.2.1 = 192 ∧ ∀ q, q < i → s.2.2.2 q = 0) (s := (0, 0, 192, b)) ⟨rfl, rfl, rfl, fun q h => by omega⟩ ?_ ?_
  · obtain ⟨b', h1, h2⟩ := h
    rw [h1, bs]
    refine ⟨b', rfl, fun n hn => ?_⟩
    rw [h2 (n / 64) (by omega)]
    show (0#64).getLsbD (n % 64) = true ↔ False
    simp
  · rintro i ⟨x1, x2, x3, c⟩ hi ⟨e1, e2, e3, h⟩ k
    dsimp only at e1 e2 e3 h ⊢
    subst e1 e2 e3
    left
    unfold fb_J7_fill_seenb_6
    rw [if_neg (show ¬ (192 : Int32) ≤ nI i from nI_ge (b := 192) hi (by omega)), gd_in hi (by omega), cl (by omega)]
    refine ⟨(0, nI i + 1, 192, vp_updL c i 0), ⟨rfl, nI_1 i, rfl, fun q hq => ?_⟩, rfl⟩
    show (if q = i then 0 else c q) = 0
    split
    · rfl
    · exact h q (by omega)
  · rintro ⟨x1, x2, x3, c⟩ ⟨e1, e2, e3, h⟩ k
    dsimp only at e1 e2 e3 h ⊢
    subst e1 e2 e3
    unfold fb_J7_fill_seenb_6
    rw [if_pos (show (192 : Int32) ≤ nI 192 from nI_le (Nat.le_refl _) (by omega))]
    exact ⟨c, rfl, h⟩
theorem c_clear_saved (b : Nat → Int64) : ∃ b', f_X3_clear_saved b = some b' ∧ SB b' (fun _ => False) := c_clear_seen b
theorem cL_back {m : Nat} (h : m < 1024) : 128 * (cL m % 8) + 16 * (cL m / 8 % 8) + 2 * (cL m / 64 % 8) + cL m / 512 = m := co_dec (N := 1024) (P := fun m => 128 * (cL m % 8) + 16 * (cL m / 8 % 8) + 2 * (cL m / 64 % 8) + cL m / 512 = m) (by decide +kernel) h
theorem fi_inj {s t : Nat} (h : fi s = fi t) : s = t := by
  have h1 : s / 1024 = t / 1024 := by rw [← fi_room s, ← fi_room t, h]
  have h2 : cL (s % 1024) = cL (t % 1024) := by unfold fi at h; omega
  have h3 := cL_back (show s % 1024 < 1024 by omega)
  have h4 := cL_back (show t % 1024 < 1024 by omega)
  rw [h2] at h3
  omega
