/-! The answers of the simple calls agree. -/
section FACE
variable {a : AV} {rooms goal : Int32} {parent level kind snum xx yy lying sw doors : Nat → Int32} {beyond : Nat → Nat → Int32}
variable {mrooms mgoal : Int32} {mp ml mk mn mx my mly msw mlo : Nat → Int32}
theorem cls_len (hW : AdvW a) (hC : AdvC a rooms goal parent level kind snum xx yy lying sw doors beyond) {r : Nat} (hr : r < aR a) : doors r = nI (nbA a r).length := by
  obtain ⟨c1, c2, c3, c4, c5, c6, c7, c8, c9, c10, c11⟩ := hC
  have h2 := hW.2.1
  have hd := (c11 r (by omega)).1
  have hl : Lm (aPar a) (aR a) (aM a) r = nbA a r := by unfold Lm nbA; rw [if_pos hr]
  rw [hl] at hd
  exact hd
theorem ix_cases (p : Int32) {n : Nat} (hn : n < 2 ^ 31) : p < 0 ∨ (¬ p < 0 ∧ nI n ≤ p) ∨ ∃ j, j < n ∧ p = nI j := by
  by_cases h : p < 0
  · exact Or.inl h
  · rcases pk_ix p hn with h1 | h1 | ⟨j, h1, h2⟩
    · exact absurd h1 h
    · exact Or.inr (Or.inl ⟨h, h1⟩)
    · exact Or.inr (Or.inr ⟨j, h1, h2⟩)
theorem md_doors (hW : AdvW a) (hM : AdvM a mrooms mgoal mp ml mk mn mx my mly msw mlo) {r : Nat} (hr : r < aR a) : f_X7_doors (nI r) (nI (aR a)) mp mlo = some (nI (nbA a r).length) := by
  obtain ⟨c1, c2, c3, c4, c5, c6, c7, c8, c9, c10, c11⟩ := hM
  exact m_doors (M := aM a) hW.2.1 hr c3 hW.2.2.2.1 c11
theorem walk_agree (hW : AdvW a) (hC : AdvC a rooms goal parent level kind snum xx yy lying sw doors beyond) (hM : AdvM a mrooms mgoal mp ml mk mn mx my mly msw mlo) {s : Nat} (hs : s < 1024 * aR a) (p : Int32) :
    ∃ r s', s' < 1024 * aR a ∧ f_X6_walk p (nI (fi s)) rooms parent level kind snum doors beyond = some (r, nI (fi s')) ∧ f_X7_walk p mrooms (nI s) mp ml mk mn mlo = some (r, nI s') := by
  have h2 := hW.2.1
  have hr : s / 1024 < aR a := by omega
  have hdm := md_doors hW hM hr
  have hlen := nb_lt hW hr
  obtain ⟨c1, c2, c3, c4, c5, c6, c7, c8, c9, c10, c11⟩ := hC
  obtain ⟨v1, v2, v3, v4, v5, v6, v7, v8, v9, v10, v11⟩ := hM
  subst c1 v1
  unfold f_X6_walk f_X7_walk
  have hbad : (p < 0 ∨ (¬ p < 0 ∧ nI (nbA a (s / 1024)).length ≤ p)) → f_X0_afterWalking (nI (fi s)) p (nI (aR a)) parent level kind snum doors beyond = some (-1) := by
    intro hb
    unfold f_X0_afterWalking
    rw [c_roomOf (by omega), bs, c_hasDoor hW hr c11, bs]
    rcases hb with hb | ⟨hb, hb2⟩
    · rw [if_pos hb, if_pos (show (0 : Int32) = 0 from rfl)]
    · rw [if_neg hb, if_pos hb2, if_pos (show (0 : Int32) = 0 from rfl)]
  rcases ix_cases p (n := (nbA a (s / 1024)).length) (by omega) with hp | hp | ⟨i, hi, rfl⟩
  · rw [hbad (Or.inl hp), bs, if_neg (by decide), if_pos hp]
    exact ⟨_, s, hs, rfl, rfl⟩
  · rw [hbad (Or.inr hp), bs, if_neg (by decide), if_neg hp.1, gd_neg g1024, d1024 (by omega), hdm, bs, if_neg (fun z => Int32.not_le.mpr z hp.2)]
    exact ⟨_, s, hs, rfl, rfl⟩
  · rw [c_afterWalking hW hs hi c3 c4 c5 c6 c11, bs, if_neg (nI_pos (n := i) (by omega)), gd_neg g1024, d1024 (by omega), hdm, bs, if_pos (nI_lt hi (by omega)), m_walked hW hs hi v3 v4 v5 v6 v11, bs]
    cases hg : gW a s i with
    | none =>
      dsimp only
      rw [if_neg (by decide), if_neg (by decide)]
      exact ⟨_, s, hs, rfl, rfl⟩
    | some t =>
      have ht := gW_lt hW hs hi hg
      have hf := fi_lt ht
      dsimp only
      rw [if_pos (nI_pos' (by omega)), if_pos (nI_pos' (by omega)), c_roomOf (by omega), bs, gd_neg g1024, d1024 (by omega)]
      exact ⟨_, t, ht, rfl, rfl⟩
theorem take_agree (hW : AdvW a) (hC : AdvC a rooms goal parent level kind snum xx yy lying sw doors beyond) (hM : AdvM a mrooms mgoal mp ml mk mn mx my mly msw mlo) {s : Nat} (hs : s < 1024 * aR a) :
    ∃ r s', s' < 1024 * aR a ∧ f_X6_take (nI (fi s)) lying = some (r, nI (fi s')) ∧ f_X7_take mrooms (nI s) mp ml mk mn mly msw mlo = some (r, nI s') := by
  have h2 := hW.2.1
  obtain ⟨c1, c2, c3, c4, c5, c6, c7, c8, c9, c10, c11⟩ := hC
  obtain ⟨v1, v2, v3, v4, v5, v6, v7, v8, v9, v10, v11⟩ := hM
  have hly := hW.2.2.2.2.2.2.2.2.2.1 (s / 1024)
  obtain ⟨t1, t2, t3⟩ := cL_take (show s % 1024 < 1024 by omega) hly
  have hx := (nw9_i hly (show hadM (s % 1024) < 64 by unfold hadM; omega)).2
  have hgt := gT_lt hW hs
  have hf1 := fi_lt hs
  have hf2 := fi_lt hgt
  have hxor : fi (gT a s) ^^^ fi s = nw9 (aLy a (s / 1024)) (hadM (s % 1024)) := by
    have e : fi (gT a s) = 1024 * (s / 1024) + cL (tkM (aLy a (s / 1024)) (s % 1024)) := by unfold gT; exact fi_mk t1
    rw [e]
    unfold fi
    rw [xor_same (cL_lt _) (cL_lt _), t2, t3]
  refine ⟨nI (on3 (nw9 (aLy a (s / 1024)) (hadM (s % 1024)) % 8) + on3 (nw9 (aLy a (s / 1024)) (hadM (s % 1024)) / 8)), gT a s, hgt, ?_, ?_⟩
  · unfold f_X6_take
    rw [c_afterTaking hW hs c9, bs, nI_xor (by omega) (by omega), hxor, bc64 hx, bs]
  · unfold f_X7_take
    rw [m_takeable hW hs v9, bs, m_afterT hW hs v9, bs, gd_neg g8, r8 (by omega), ones3 (by omega), bs, gd_neg g8, d8 (by omega), ones3 (by omega), bs, nI_add]
theorem toggle_agree (hW : AdvW a) (hC : AdvC a rooms goal parent level kind snum xx yy lying sw doors beyond) (hM : AdvM a mrooms mgoal mp ml mk mn mx my mly msw mlo) {s : Nat} (hs : s < 1024 * aR a) :
    ∃ r s', s' < 1024 * aR a ∧ f_X6_toggle (nI (fi s)) sw = some (r, nI (fi s')) ∧ f_X7_toggle mrooms (nI s) mp ml mk mn mly msw mlo = some (r, nI s') := by
  have h2 := hW.2.1
  obtain ⟨c1, c2, c3, c4, c5, c6, c7, c8, c9, c10, c11⟩ := hC
  obtain ⟨v1, v2, v3, v4, v5, v6, v7, v8, v9, v10, v11⟩ := hM
  unfold f_X6_toggle f_X7_toggle
  rw [c_afterToggling hW hs c10, bs, m_afterG hW hs v10, bs]
  cases hg : gG a s with
  | none =>
    dsimp only
    rw [if_neg (by decide), if_neg (by decide)]
    exact ⟨_, s, hs, rfl, rfl⟩
  | some t =>
    have ht := gG_lt hs hg
    have hf := fi_lt ht
    dsimp only
    rw [if_pos (nI_pos' (by omega)), if_pos (nI_pos' (by omega)), c_positionOf (by omega), bs, gd_neg g2, r2 (by omega)]
    exact ⟨_, t, ht, rfl, rfl⟩
theorem here_agree {s : Nat} (hs : s < 12288) : f_X6_here (nI (fi s)) = some (nI (s / 1024)) ∧ f_X7_here (nI s) = some (nI (s / 1024)) := by
  unfold f_X6_here f_X7_here
  rw [c_roomOf hs, bs, gd_neg g1024, d1024 (by omega)]
  exact ⟨rfl, rfl⟩
theorem having_agree {s : Nat} (hs : s < 12288) : ∃ r, f_X6_having (nI (fi s)) = some r ∧ f_X7_having (nI s) = some r := by
  unfold f_X6_having f_X7_having f_X5_keysOf
  rw [bs, c_smallLeft hs, bs, c_positionOf hs, bs, show (7 : Int32) = nI 7 from rfl, c_and hs (by omega), cL_keys (by omega)]
  simp only [gd_neg g128, gd_neg g16, gd_neg g8, gd_neg g2]
  rw [r2 (show s < 2 ^ 31 by omega), d16 (by omega), r8 (by omega), ones3 (by omega), bs, d2 (by omega), r8 (by omega), ones3 (by omega), bs, d128 (by omega), r8 (by omega), show s / 16 % 8 = s % 1024 / 16 % 8 by omega, show s / 2 % 8 = s % 1024 / 2 % 8 by omega, show s / 128 % 8 = s % 1024 / 128 % 8 by omega]
  exact ⟨_, rfl, rfl⟩
theorem room_agree (hW : AdvW a) (hC : AdvC a rooms goal parent level kind snum xx yy lying sw doors beyond) (hM : AdvM a mrooms mgoal mp ml mk mn mx my mly msw mlo) (p q : Int32) :
    ∃ r, f_X6_room p q rooms parent level kind xx yy lying sw doors = some r ∧ f_X7_room p q mrooms mp ml mk mx my mly msw mlo = some r := by
  have h2 := hW.2.1
  have hcl := fun (r : Nat) (hr : r < aR a) => cls_len hW hC hr
  have hdm := fun (r : Nat) (hr : r < aR a) => md_doors hW hM hr
  obtain ⟨c1, c2, c3, c4, c5, c6, c7, c8, c9, c10, c11⟩ := hC
  obtain ⟨v1, v2, v3, v4, v5, v6, v7, v8, v9, v10, v11⟩ := hM
  subst c1 v1
  unfold f_X6_room f_X7_room f_X0_hasRoom
  rcases ix_cases p (n := aR a) (by omega) with hp | hp | ⟨r, hr, rfl⟩
  · rw [if_pos hp, bs, if_pos (show (0 : Int32) = 0 from rfl), if_pos hp]
    exact ⟨_, rfl, rfl⟩
  · rw [if_neg hp.1, if_pos hp.2, bs, if_pos (show (0 : Int32) = 0 from rfl), if_neg hp.1, if_pos hp.2]
    exact ⟨_, rfl, rfl⟩
  · have hpar : parent r = mp r := by
      by_cases z : r = 0
      · rw [z, c3.1, v3.1]
      · rw [c3.2 r (by omega) hr, v3.2 r (by omega) hr]
    rw [if_neg (nI_pos (n := r) (by omega)), if_neg (nI_ge hr (by omega)), bs, if_neg (show ¬ (1 : Int32) = 0 by decide), if_neg (nI_pos (n := r) (by omega)), if_neg (nI_ge hr (by omega))]
    simp only [gd_in (show r < 12 by omega) (show (12 : Nat) < 2 ^ 31 by omega)]
    rw [cl (show r < 2 ^ 31 by omega), hcl r hr, hdm r hr, hpar, c4 r hr, v4 r hr, c5 r hr, v5 r hr, c7 r hr, v7 r hr, c8 r hr, v8 r hr, c9 r hr, v9 r hr, c10 r hr, v10 r hr]
    rcases ix_cases q (n := 8) (by omega) with hq | hq | ⟨j, hj, rfl⟩
    · have hne : ∀ k : Nat, k < 100 → ¬ q = nI k := fun k hk e => by
        rw [e] at hq
        exact nI_pos (n := k) (by omega) hq
      rw [if_neg (show ¬ q = 0 from hne 0 (by omega)), if_neg (show ¬ q = 1 from hne 1 (by omega)), if_neg (show ¬ q = 2 from hne 2 (by omega)), if_neg (show ¬ q = 3 from hne 3 (by omega)), if_neg (show ¬ q = 4 from hne 4 (by omega)), if_neg (show ¬ q = 5 from hne 5 (by omega)), if_neg (show ¬ q = 6 from hne 6 (by omega)), if_neg (show ¬ q = 7 from hne 7 (by omega)), if_pos hq]
      exact ⟨_, rfl, rfl⟩
    · have hne : ∀ k : Nat, k < 8 → ¬ q = nI k := fun k hk e => by
        have h3 := hq.2
        rw [e] at h3
        exact nI_ge hk (by omega) h3
      have h7 : ¬ q ≤ 7 := fun z => by
        have h3 := Int32.le_trans hq.2 z
        exact absurd h3 (by decide)
      rw [if_neg (show ¬ q = 0 from hne 0 (by omega)), if_neg (show ¬ q = 1 from hne 1 (by omega)), if_neg (show ¬ q = 2 from hne 2 (by omega)), if_neg (show ¬ q = 3 from hne 3 (by omega)), if_neg (show ¬ q = 4 from hne 4 (by omega)), if_neg (show ¬ q = 5 from hne 5 (by omega)), if_neg (show ¬ q = 6 from hne 6 (by omega)), if_neg (show ¬ q = 7 from hne 7 (by omega)), if_neg hq.1, if_neg h7]
      exact ⟨_, rfl, rfl⟩
    · rcases (show j = 0 ∨ j = 1 ∨ j = 2 ∨ j = 3 ∨ j = 4 ∨ j = 5 ∨ j = 6 ∨ j = 7 by omega) with rfl | rfl | rfl | rfl | rfl | rfl | rfl | rfl
      · rw [if_pos (by decide), if_neg (by decide), if_pos (by decide), if_pos (by decide)]
        exact ⟨_, rfl, rfl⟩
      · rw [if_neg (by decide), if_pos (by decide), if_neg (by decide), if_pos (by decide), if_neg (by decide), if_pos (by decide)]
        exact ⟨_, rfl, rfl⟩
      · rw [if_neg (by decide), if_neg (by decide), if_pos (by decide), if_neg (by decide), if_pos (by decide), if_neg (by decide), if_neg (by decide), if_pos (by decide)]
        exact ⟨_, rfl, rfl⟩
      · rw [if_neg (by decide), if_neg (by decide), if_neg (by decide), if_pos (by decide), if_neg (by decide), if_pos (by decide), if_neg (by decide), if_neg (by decide), if_neg (by decide), if_pos (by decide)]
        exact ⟨_, rfl, rfl⟩
      · rw [if_neg (by decide), if_neg (by decide), if_neg (by decide), if_neg (by decide), if_pos (by decide), if_neg (by decide), if_pos (by decide), if_neg (by decide), if_neg (by decide), if_neg (by decide), if_neg (by decide), if_pos (by decide)]
        exact ⟨_, rfl, rfl⟩
      · rw [if_neg (by decide), if_neg (by decide), if_neg (by decide), if_neg (by decide), if_neg (by decide), if_pos (by decide), if_neg (by decide), if_pos (by decide), if_neg (by decide), if_neg (by decide), if_neg (by decide), if_neg (by decide), if_neg (by decide), if_pos (by decide)]
        exact ⟨_, rfl, rfl⟩
      · by_cases z : nI (aSw a r) = 0
        · rw [if_pos z, if_neg (by decide), if_neg (by decide), if_neg (by decide), if_neg (by decide), if_neg (by decide), if_neg (by decide), if_pos (by decide), if_neg (by decide), if_pos (by decide), if_neg (by decide), if_neg (by decide), if_neg (by decide), if_neg (by decide), if_neg (by decide), if_neg (by decide), if_pos (by decide)]
          exact ⟨_, rfl, rfl⟩
        · rw [if_neg z, if_neg (by decide), if_neg (by decide), if_neg (by decide), if_neg (by decide), if_neg (by decide), if_neg (by decide), if_pos (by decide), if_neg (by decide), if_pos (by decide), if_neg (by decide), if_neg (by decide), if_neg (by decide), if_neg (by decide), if_neg (by decide), if_neg (by decide), if_pos (by decide)]
          exact ⟨_, rfl, rfl⟩
      · rw [if_neg (by decide), if_neg (by decide), if_neg (by decide), if_neg (by decide), if_neg (by decide), if_neg (by decide), if_neg (by decide), if_pos (by decide), if_neg (by decide), if_pos (by decide), if_neg (by decide), if_neg (by decide), if_neg (by decide), if_neg (by decide), if_neg (by decide), if_neg (by decide), if_neg (by decide), bs]
        exact ⟨_, rfl, rfl⟩
theorem behind_agree (hW : AdvW a) (hC : AdvC a rooms goal parent level kind snum xx yy lying sw doors beyond) (hM : AdvM a mrooms mgoal mp ml mk mn mx my mly msw mlo) (p q : Int32) :
    ∃ r, f_X6_behind p q rooms doors beyond = some r ∧ f_X7_behind p q mrooms mp mlo = some r := by
  have h2 := hW.2.1
  have hdm := fun (r : Nat) (hr : r < aR a) => md_doors hW hM hr
  obtain ⟨c1, c2, c3, c4, c5, c6, c7, c8, c9, c10, c11⟩ := hC
  obtain ⟨v1, v2, v3, v4, v5, v6, v7, v8, v9, v10, v11⟩ := hM
  subst c1 v1
  unfold f_X6_behind f_X7_behind
  rcases ix_cases p (n := aR a) (by omega) with hp | hp | ⟨r, hr, rfl⟩
  · unfold f_X0_hasDoor f_X0_hasRoom
    rw [if_pos hp, bs, if_pos (show (0 : Int32) = 0 from rfl), bs, if_pos (show (0 : Int32) = 0 from rfl), if_pos hp]
    exact ⟨_, rfl, rfl⟩
  · unfold f_X0_hasDoor f_X0_hasRoom
    rw [if_neg hp.1, if_pos hp.2, bs, if_pos (show (0 : Int32) = 0 from rfl), bs, if_pos (show (0 : Int32) = 0 from rfl), if_neg hp.1, if_pos hp.2]
    exact ⟨_, rfl, rfl⟩
  · have hlen := nb_lt hW hr
    rw [c_hasDoor hW hr c11, bs, if_neg (nI_pos (n := r) (by omega)), if_neg (nI_ge hr (by omega)), hdm r hr, bs]
    rcases ix_cases q (n := (nbA a r).length) (by omega) with hq | hq | ⟨j, hj, rfl⟩
    · rw [if_pos hq, if_pos (show (0 : Int32) = 0 from rfl), if_pos hq]
      exact ⟨_, rfl, rfl⟩
    · rw [if_neg hq.1, if_pos hq.2, if_pos (show (0 : Int32) = 0 from rfl), if_neg hq.1, if_neg (fun z => Int32.not_le.mpr z hq.2)]
      exact ⟨_, rfl, rfl⟩
    · have hl : Lm (aPar a) (aR a) (aM a) r = nbA a r := by unfold Lm nbA; rw [if_pos hr]
      have hb := (c11 r (by omega)).2 j (by rw [hl]; exact hj)
      rw [hl] at hb
      have hby : f_X7_beyond (nI r) (nI j) (nI (aR a)) mp mlo = some (nI ((nbA a r).getD j 0)) := m_beyond (M := aM a) h2 hr v3 hW.2.2.2.1 v11 hj
      rw [if_neg (nI_pos (n := j) (by omega)), if_neg (nI_ge hj (by omega)), if_neg (show ¬ (1 : Int32) = 0 by decide), gd_in (show r < 12 by omega) (by omega), gd_in (show j < 12 by omega) (by omega), cl (show r < 2 ^ 31 by omega), cl (show j < 2 ^ 31 by omega), hb, if_neg (nI_pos (n := j) (by omega)), if_pos (nI_lt hj (by omega)), hby, bs]
      exact ⟨_, rfl, rfl⟩
end FACE
