/-! doors and beyond of the reference. -/
theorem par_ne {R q r : Nat} {mp : Nat → Int32} {par : Nat → Nat} (hR : R ≤ 12) (hP : Rq R mp par) (hp : ∀ q, 1 ≤ q → q < R → par q < q) (hq : q < R) (hr : r < R) : mp q = nI r ↔ (decide (0 < q) && par q == r) = true := by
  by_cases z : q = 0
  · subst z
    rw [hP.1]
    constructor
    · intro e
      have := congrArg Int32.toInt e
      rw [nI_toInt (by omega)] at this
      have h9 : ((-1 : Int32)).toInt = -1 := by decide
      omega
    · intro e; simp at e
  · rw [hP.2 q (by omega) hq]
    have := hp q (by omega) hq
    rw [nI_eq (by omega) (by omega)]
    simp
    intro _
    omega
theorem ix12 {r q : Nat} : (12 : Int32) * nI r + nI q = nI (12 * r + q) := by rw [show (12 : Int32) = nI 12 from rfl, pk_mul, nI_add]
theorem m_doors {R r : Nat} {mp mlo : Nat → Int32} {par : Nat → Nat} {M : Nat → Nat → Bool} (hR : R ≤ 12) (hr : r < R) (hP : Rq R mp par) (hp : ∀ q, 1 ≤ q → q < R → par q < q) (hM : ML mlo M) : f_X7_doors (nI r) (nI R) mp mlo = some (nI (nbL par R r M).length) := by
  have hmain : ∀ u : Nat, f_X7_doors_9 (nI R) mp mlo (nI r) (nI u) = some (nI (u + (cand R (fun q => decide (0 < q) && par q == r)).length + (cand R (M r)).length)) := by
    intro u
    unfold f_X7_doors_9 f_X7_doors_12
    refine lp_for0 (fun o => o = some (nI (u + (cand R (fun q => decide (0 < q) && par q == r)).length + (cand R (M r)).length))) R (by omega) (fun i s => nI r = s.1 ∧ nI (u + (cand i (fun q => decide (0 < q) && par q == r)).length + (cand i (M r)).length) = s.2.1 ∧ nI i = s.2.2) ⟨rfl, rfl, rfl⟩ ?_ ?_
    · rintro i ⟨x1, x2, x3⟩ hi ⟨e1, e2, e3⟩ k
      dsimp only at e1 e2 e3 ⊢
      subst e1 e2 e3
      left
      unfold fb_X7_doors_12 f_X7_doors_37 f_X7_doors_59
      rw [if_neg (nI_ge hi (by omega)), gd_in (show i < 12 by omega) (by omega)]
      simp only [ix12, gd_in (show 12 * r + i < 144 by omega) (show (144 : Nat) < 2 ^ 31 by omega)]
      rw [cl (show i < 2 ^ 31 by omega), cl (show 12 * r + i < 2 ^ 31 by omega), hM r i (by omega) (by omega)]
      rw [cand_succ, cand_succ]
      by_cases c1 : (decide (0 < i) && par i == r) = true
      · rw [if_pos ((par_ne hR hP hp hi hr).mpr c1), if_pos c1]
        by_cases c2 : M r i = true
        · rw [if_pos c2, if_pos c2, if_neg (show ¬ (1 : Int32) = 0 by decide), nI_1, nI_1, nI_1]
          refine ⟨_, ?_, rfl⟩
          refine ⟨rfl, ?_, rfl⟩
          simp only [List.length_append, List.length_singleton]
          congr 1; omega
        · rw [if_neg c2, if_neg c2, if_pos (show (0 : Int32) = 0 from rfl), nI_1, nI_1]
          refine ⟨_, ?_, rfl⟩
          refine ⟨rfl, ?_, rfl⟩
          simp only [List.length_append, List.length_singleton]
          congr 1; omega
      · rw [if_neg (fun z => c1 ((par_ne hR hP hp hi hr).mp z)), if_neg c1]
        by_cases c2 : M r i = true
        · rw [if_pos c2, if_pos c2, if_neg (show ¬ (1 : Int32) = 0 by decide), nI_1, nI_1]
          refine ⟨_, ?_, rfl⟩
          refine ⟨rfl, ?_, rfl⟩
          simp only [List.length_append, List.length_singleton]
          congr 1
        · rw [if_neg c2, if_neg c2, if_pos (show (0 : Int32) = 0 from rfl), nI_1]
          refine ⟨_, ?_, rfl⟩
          exact ⟨rfl, rfl, rfl⟩
    · rintro ⟨x1, x2, x3⟩ ⟨e1, e2, e3⟩ k
      dsimp only at e1 e2 e3 ⊢
      subst e1 e2 e3
      unfold fb_X7_doors_12
      rw [if_pos (nI_le (Nat.le_refl _) (by omega))]
  unfold f_X7_doors nbL
  by_cases z : r = 0
  · rw [if_pos (show nI r ≤ 0 by rw [z]; decide), if_pos z]
    have := hmain 0
    rw [show (0 : Int32) = nI 0 from rfl, this]
    simp only [List.length_append, List.length_nil]
  · rw [if_neg (nI_nle (by omega) (by omega)), if_neg z]
    have := hmain 1
    rw [show (1 : Int32) = nI 1 from rfl, this]
    simp only [List.length_append, List.length_singleton]
theorem getD_left {a b : List Nat} {i : Nat} (h : i < a.length) : (a ++ b).getD i 0 = a.getD i 0 := by
  simp [List.getD_eq_getElem?_getD, List.getElem?_append_left h]
theorem getD_right {a b : List Nat} {i : Nat} (h : a.length ≤ i) : (a ++ b).getD i 0 = b.getD (i - a.length) 0 := by
  simp [List.getD_eq_getElem?_getD, List.getElem?_append_right h]
/-- the j-th candidate, found by counting down -/
theorem m_beyond73 {R r j : Nat} {mp mlo : Nat → Int32} {M : Nat → Nat → Bool} (hR : R ≤ 12) (hr : r < R) (hM : ML mlo M) (hj : j < (cand R (M r)).length) : f_X7_beyond_73 (nI R) mp mlo (nI r) (nI j) 0 = some (nI ((cand R (M r)).getD j 0)) := by
  have hl := cand_len R (M r)
  unfold f_X7_beyond_73
  refine lp_for0 (fun o => o = some (nI ((cand R (M r)).getD j 0))) R (by omega) (fun i s => (cand i (M r)).length ≤ j ∧ nI r = s.1 ∧ nI (j - (cand i (M r)).length) = s.2.1 ∧ nI i = s.2.2) ⟨Nat.zero_le _, rfl, rfl, rfl⟩ ?_ ?_
  · rintro i ⟨x1, x3, x4⟩ hi ⟨h1, e1, e2, e3⟩ k
    dsimp only at e1 e2 e3 ⊢
    subst e1 e2 e3
    unfold fb_X7_beyond_73 f_X7_beyond_107
    rw [if_neg (nI_ge hi (by omega)), ix12, gd_in (show 12 * r + i < 144 by omega) (by omega), cl (show 12 * r + i < 2 ^ 31 by omega), hM r i (by omega) (by omega)]
    by_cases hp : M r i = true
    · rw [if_pos hp, if_neg (show ¬ (1 : Int32) = 0 by decide)]
      by_cases e : (cand i (M r)).length = j
      · right
        rw [e, Nat.sub_self, if_pos nI_0, ← e, cand_get hi hp]
      · left
        rw [if_neg (show ¬ nI (j - (cand i (M r)).length) = 0 from fun z => by have := (nI_eq (b := 0) (by omega) (by omega)).mp z; omega)]
        refine ⟨_, ⟨?_, ?_, ?_, ?_⟩, rfl⟩
        · rw [cand_succ, if_pos hp, List.length_append]; exact Nat.lt_of_le_of_ne h1 e
        · rfl
        · rw [cand_succ, if_pos hp, sb_m1 (by omega), List.length_append]; rfl
        · exact (nI_1 i).symm
    · left
      rw [if_neg hp, if_pos (show (0 : Int32) = 0 from rfl)]
      refine ⟨_, ⟨?_, ?_, ?_, ?_⟩, rfl⟩
      · rw [cand_succ, if_neg hp]; exact h1
      · rfl
      · rw [cand_succ, if_neg hp]
      · exact (nI_1 i).symm
  · rintro ⟨x2, x3, s4⟩ ⟨h1, -, -, -⟩ k
    omega
theorem m_beyond34 {R r j : Nat} {mp mlo : Nat → Int32} {par : Nat → Nat} {M : Nat → Nat → Bool} (hR : R ≤ 12) (hr : r < R) (hP : Rq R mp par) (hp : ∀ q, 1 ≤ q → q < R → par q < q) (hM : ML mlo M) (hj : j < (cand R (fun q => decide (0 < q) && par q == r) ++ cand R (M r)).length) : f_X7_beyond_34 (nI R) mp mlo (nI r) (nI j) 0 = some (nI ((cand R (fun q => decide (0 < q) && par q == r) ++ cand R (M r)).getD j 0)) := by
  have hl := cand_len R (M r)
  have hl2 := cand_len R (fun q => decide (0 < q) && par q == r)
  rw [List.length_append] at hj
  unfold f_X7_beyond_34
  refine lp_for0 (fun o => o = some (nI ((cand R (fun q => decide (0 < q) && par q == r) ++ cand R (M r)).getD j 0))) R (by omega) (fun i s => (cand i (fun q => decide (0 < q) && par q == r)).length ≤ j ∧ nI r = s.1 ∧ nI (j - (cand i (fun q => decide (0 < q) && par q == r)).length) = s.2.1 ∧ nI i = s.2.2) ⟨Nat.zero_le _, rfl, rfl, rfl⟩ ?_ ?_
  · rintro i ⟨x1, x3, x4⟩ hi ⟨h1, e1, e2, e3⟩ k
    dsimp only at e1 e2 e3 ⊢
    subst e1 e2 e3
    unfold fb_X7_beyond_34 f_X7_beyond_64
    rw [if_neg (nI_ge hi (by omega)), gd_in (show i < 12 by omega) (by omega), cl (by omega)]
    by_cases hpi : (decide (0 < i) && par i == r) = true
    · rw [if_pos ((par_ne hR hP hp hi hr).mpr hpi)]
      by_cases e : (cand i (fun q => decide (0 < q) && par q == r)).length = j
      · right
        have hlt : j < (cand R (fun q => decide (0 < q) && par q == r)).length := by
          obtain ⟨t, ht⟩ := cand_pre (p := fun q => decide (0 < q) && par q == r) (show i + 1 ≤ R by omega)
          rw [ht, cand_succ, if_pos hpi, List.length_append, List.length_append, e]
          simp only [List.length_singleton]; omega
        rw [e, Nat.sub_self, if_pos nI_0, getD_left hlt, ← e, cand_get (p := fun q => decide (0 < q) && par q == r) hi hpi]
      · left
        rw [if_neg (show ¬ nI (j - (cand i (fun q => decide (0 < q) && par q == r)).length) = 0 from fun z => by have := (nI_eq (b := 0) (by omega) (by omega)).mp z; omega)]
        refine ⟨_, ⟨?_, ?_, ?_, ?_⟩, rfl⟩
        · rw [cand_succ, if_pos hpi, List.length_append]; exact Nat.lt_of_le_of_ne h1 e
        · rfl
        · rw [cand_succ, if_pos hpi, sb_m1 (by omega), List.length_append]; rfl
        · exact (nI_1 i).symm
    · left
      rw [if_neg (fun z => hpi ((par_ne hR hP hp hi hr).mp z))]
      refine ⟨_, ⟨?_, ?_, ?_, ?_⟩, rfl⟩
      · rw [cand_succ, if_neg hpi]; exact h1
      · rfl
      · rw [cand_succ, if_neg hpi]
      · exact (nI_1 i).symm
  · rintro ⟨x1, x3, x4⟩ ⟨h1, e1, e2, e3⟩ k
    dsimp only at e1 e2 e3 ⊢
    subst e1 e2 e3
    unfold fb_X7_beyond_34
    rw [if_pos (nI_le (Nat.le_refl _) (by omega)), m_beyond73 hR hr hM (by omega), getD_right h1]
theorem m_beyond {R r j : Nat} {mp mlo : Nat → Int32} {par : Nat → Nat} {M : Nat → Nat → Bool} (hR : R ≤ 12) (hr : r < R) (hP : Rq R mp par) (hp : ∀ q, 1 ≤ q → q < R → par q < q) (hM : ML mlo M) (hj : j < (nbL par R r M).length) : f_X7_beyond (nI r) (nI j) (nI R) mp mlo = some (nI ((nbL par R r M).getD j 0)) := by
  have hl := cand_len R (M r)
  have hl2 := cand_len R (fun q => decide (0 < q) && par q == r)
  unfold f_X7_beyond f_X7_beyond_11
  unfold nbL at hj ⊢
  rw [List.append_assoc] at hj ⊢
  rw [List.length_append, List.length_append] at hj
  by_cases z : r = 0
  · rw [if_pos z] at hj
    have hj' : j < (cand R (fun q => decide (0 < q) && par q == r)).length + (cand R (M r)).length := by simpa using hj
    rw [if_pos (show nI r ≤ 0 by rw [z]; decide), if_pos (nI_pos' (n := j) (by omega)), if_pos z]
    rw [m_beyond34 hR hr hP hp hM (by rw [List.length_append]; exact hj')]
    rfl
  · rw [if_neg (nI_nle (by omega) (by omega)), if_neg z]
    rw [if_neg z] at hj
    simp only [List.length_singleton] at hj
    by_cases e : j = 0
    · subst e
      rw [if_neg (show ¬ (0 : Int32) ≤ nI 0 - 1 by decide), if_pos (show (0 : Int32) ≤ nI 0 by decide), gd_in (show r < 12 by omega) (by omega), cl (by omega), hP.2 r (by omega) hr]
      rfl
    · rw [show nI j - 1 = nI (j - 1) from pk_sub (b := 1) (by omega), if_pos (nI_pos' (by omega)), m_beyond34 hR hr hP hp hM (by rw [List.length_append]; omega)]
      rw [getD_right (a := [par r]) (by simp; omega)]
      rfl
