/-! The reference: walking, taking, toggling. -/
theorem and_dec {p : Prop} [Decidable p] {x y : Nat} : (decide p && x == y) = true ↔ p ∧ x = y := by simp
theorem nz (n : Nat) (h0 : 0 < n) (h : n < 2 ^ 31) : ¬ nI n = 0 := nI_ne0 h0 h
theorem divN {n d : Nat} (hn : n < 2 ^ 31) (h0 : 0 < d) (hd : d < 2 ^ 31) : nI n / nI d = nI (n / d) := pk_div hn h0 hd
theorem bitN {n j : Nat} (hn : n < 2 ^ 31) (hj : j < 3) : (nI n >>> (nI j &&& 31)) &&& 1 = nI (n / 2 ^ j % 2) := by
  have hk : ((nI j &&& 31).toBitVec.smod 32).toNat = j := by
    rcases (show j = 0 ∨ j = 1 ∨ j = 2 by omega) with rfl | rfl | rfl <;> decide
  rw [pk_shrN hn _ j hk]
  have h1 : n / 2 ^ j < 2 ^ 31 := Nat.lt_of_le_of_lt (Nat.div_le_self _ _) hn
  exact pk_andN (n := n / 2 ^ j) (by omega) 1 (by decide)
theorem low_bit {s j d : Nat} (hj : j < 3) (hd : d = 2 ∨ d = 128) : s / d / 2 ^ j % 2 = s % 1024 / d / 2 ^ j % 2 := by
  rcases (show j = 0 ∨ j = 1 ∨ j = 2 by omega) with rfl | rfl | rfl <;> rcases hd with rfl | rfl
  · show s / 2 / 1 % 2 = s % 1024 / 2 / 1 % 2; omega
  · show s / 128 / 1 % 2 = s % 1024 / 128 / 1 % 2; omega
  · show s / 2 / 2 % 2 = s % 1024 / 2 / 2 % 2; omega
  · show s / 128 / 2 % 2 = s % 1024 / 128 / 2 % 2; omega
  · show s / 2 / 4 % 2 = s % 1024 / 2 / 4 % 2; omega
  · show s / 128 / 4 % 2 = s % 1024 / 128 / 4 % 2; omega
theorem g1024 : ¬ (1024 : Int32) = 0 := by decide
theorem g128 : ¬ (128 : Int32) = 0 := by decide
theorem g16 : ¬ (16 : Int32) = 0 := by decide
theorem g8 : ¬ (8 : Int32) = 0 := by decide
theorem g2 : ¬ (2 : Int32) = 0 := by decide
theorem d1024 {n : Nat} (h : n < 2 ^ 31) : nI n / 1024 = nI (n / 1024) := divN (d := 1024) h (by omega) (by omega)
theorem d128 {n : Nat} (h : n < 2 ^ 31) : nI n / 128 = nI (n / 128) := divN (d := 128) h (by omega) (by omega)
theorem d16 {n : Nat} (h : n < 2 ^ 31) : nI n / 16 = nI (n / 16) := divN (d := 16) h (by omega) (by omega)
theorem d8 {n : Nat} (h : n < 2 ^ 31) : nI n / 8 = nI (n / 8) := divN (d := 8) h (by omega) (by omega)
theorem d2 {n : Nat} (h : n < 2 ^ 31) : nI n / 2 = nI (n / 2) := divN (d := 2) h (by omega) (by omega)
theorem r1024 {n : Nat} (h : n < 2 ^ 31) : nI n - nI n / 1024 * 1024 = nI (n % 1024) := pk_rem (d := 1024) h (by omega) (by omega)
theorem r8 {n : Nat} (h : n < 2 ^ 31) : nI n - nI n / 8 * 8 = nI (n % 8) := pk_rem (d := 8) h (by omega) (by omega)
theorem r2 {n : Nat} (h : n < 2 ^ 31) : nI n - nI n / 2 * 2 = nI (n % 2) := pk_rem (d := 2) h (by omega) (by omega)
theorem m_thr {s t : Nat} (hs : s < 12288) (ht : t < 12) : (1024 : Int32) * nI t + (nI s - nI s / 1024 * 1024) = nI (1024 * t + s % 1024) := by
  rw [r1024 (by omega), show (1024 : Int32) = nI 1024 from rfl, pk_mul, nI_add]
theorem m_walked46 {a : AV} (hW : AdvW a) {s t : Nat} {own : Int32} {mp ml mk mn mlo : Nat → Int32} (hs : s < 12288) (ht : t < aR a) {w : Nat} (hw : w < aR a) (how : own = nI w ∨ (own = -1 ∧ aKnd a w = 0)) (hL : Rp (aR a) ml (aLev a)) (hD : Rp (aR a) mk (aKnd a)) (hN : ∀ q, q < aR a → aKnd a q = 2 → mn q = nI (aNum a q)) (R9 : Int32) :
    ∃ v, f_X7_walked_46 R9 mp ml mk mn mlo (nI s) (nI t) own = some v ∧ ((okA a (s % 1024) w ∧ v = nI (1024 * t + (s % 1024 + opA a (s % 1024) w))) ∨ (¬ okA a (s % 1024) w ∧ v = -1)) := by
  obtain ⟨w1, w2, w3, w4, w5, w6, w7, w8, w9, w10, w11, w12⟩ := hW
  have hk := w6 w hw
  have hthr := m_thr hs (show t < 12 by omega)
  have hok0 : aKnd a w = 0 → okA a (s % 1024) w ∧ opA a (s % 1024) w = 0 := fun e => by
    unfold okA opA
    exact ⟨⟨by omega, by omega, by omega, by omega⟩, by rw [if_neg (fun q => by omega)]⟩
  unfold f_X7_walked_46
  rw [hthr, gd_neg g1024]
  rcases how with rfl | ⟨rfl, e0⟩
  · simp only [gd_in (show w < 12 by omega) (show (12 : Nat) < 2 ^ 31 by omega), gd_neg g128, gd_neg g16, gd_neg g8, gd_neg g2]
    rw [if_neg (nI_pos (n := w) (by omega)), cl (show w < 2 ^ 31 by omega), hD w hw]
    rcases (show aKnd a w = 0 ∨ aKnd a w = 1 ∨ aKnd a w = 2 ∨ aKnd a w = 3 ∨ aKnd a w = 4 by omega) with e | e | e | e | e
    · rw [e, if_pos (by decide)]
      have := hok0 e
      exact ⟨_, rfl, Or.inl ⟨this.1, by rw [this.2, Nat.add_zero]⟩⟩
    · have h1 := w8 w hw e
      have h3 := w5 w hw
      have hop : opA a (s % 1024) w = 0 := by unfold opA; rw [if_neg (fun q => by omega)]
      rw [e, if_neg (by decide), if_pos (by decide), hL w hw, d128 (by omega), show nI (aLev a w) - 1 = nI (aLev a w - 1) from pk_sub (b := 1) h1, bitN (by omega) (by omega), low_bit (by omega) (Or.inr rfl)]
      have hb : s % 1024 / 128 / 2 ^ (aLev a w - 1) % 2 < 2 := Nat.mod_lt _ (by omega)
      by_cases z : s % 1024 / 128 / 2 ^ (aLev a w - 1) % 2 = 1
      · rw [if_pos (by rw [z]; rfl)]
        exact ⟨_, rfl, Or.inl ⟨⟨fun _ => z, by omega, by omega, by omega⟩, by rw [hop, Nat.add_zero]⟩⟩
      · rw [if_neg (show ¬ nI (s % 1024 / 128 / 2 ^ (aLev a w - 1) % 2) = 1 from fun q => z ((nI_eq (b := 1) (by omega) (by omega)).mp q))]
        exact ⟨_, rfl, Or.inr ⟨fun q => z (q.1 e), rfl⟩⟩
    · have h9 := w9 w hw e
      have hp2 : (2 : Nat) ^ aNum a w < 2 ^ 3 := Nat.pow_lt_pow_right (by omega) h9
      rw [e, if_neg (by decide), if_neg (by decide), if_pos (by decide), hN w hw e, d2 (by omega), bitN (by omega) h9, low_bit h9 (Or.inl rfl)]
      by_cases z : s % 1024 / 2 / 2 ^ aNum a w % 2 = 1
      · rw [if_pos (by rw [z]; rfl)]
        refine ⟨_, rfl, Or.inl ⟨⟨by omega, fun _ => Or.inl z, by omega, by omega⟩, ?_⟩⟩
        unfold opA
        rw [if_neg (fun q => by omega), Nat.add_zero]
      · have z0 : s % 1024 / 2 / 2 ^ aNum a w % 2 = 0 := by omega
        rw [if_neg (show ¬ nI (s % 1024 / 2 / 2 ^ aNum a w % 2) = 1 from fun q => z ((nI_eq (b := 1) (by omega) (by omega)).mp q)), d16 (by omega), r8 (by omega), r8 (by omega), ones3 (by omega), bs, ones3 (by omega), bs, show s / 16 % 8 = s % 1024 / 16 % 8 by omega, show s / 2 % 8 = s % 1024 / 2 % 8 by omega]
        have o1 := on3_lt (s % 1024 / 16 % 8)
        have o2 := on3_lt (s % 1024 / 2 % 8)
        by_cases y : on3 (s % 1024 / 2 % 8) < on3 (s % 1024 / 16 % 8)
        · have h2b : (2 : Int32) <<< (nI (aNum a w) &&& 31) = nI (2 * 2 ^ aNum a w) := by
            rcases (show aNum a w = 0 ∨ aNum a w = 1 ∨ aNum a w = 2 by omega) with q | q | q <;> rw [q] <;> decide
          rw [if_neg (nI_ge y (by omega)), h2b, nI_add]
          refine ⟨_, rfl, Or.inl ⟨⟨by omega, fun _ => Or.inr y, by omega, by omega⟩, ?_⟩⟩
          unfold opA
          rw [if_pos ⟨e, z0⟩, Nat.add_assoc]
        · rw [if_pos (nI_le (by omega) (by omega))]
          exact ⟨_, rfl, Or.inr ⟨fun q => by have := q.2.1 e; omega, rfl⟩⟩
    · have hop : opA a (s % 1024) w = 0 := by unfold opA; rw [if_neg (fun q => by omega)]
      rw [e, if_neg (by decide), if_neg (by decide), if_neg (by decide), if_pos (by decide)]
      unfold f_X7_walked_149
      rw [r2 (by omega)]
      rcases (show s % 2 = 0 ∨ s % 2 = 1 by omega) with z | z
      · rw [z, if_pos (by decide)]
        exact ⟨_, rfl, Or.inl ⟨⟨by omega, by omega, by omega, by omega⟩, by rw [hop, Nat.add_zero]⟩⟩
      · rw [z, if_neg (by decide)]
        exact ⟨_, rfl, Or.inr ⟨fun q => by have := q.2.2.1 e; omega, rfl⟩⟩
    · have hop : opA a (s % 1024) w = 0 := by unfold opA; rw [if_neg (fun q => by omega)]
      rw [e, if_neg (by decide), if_neg (by decide), if_neg (by decide), if_neg (by decide)]
      unfold f_X7_walked_149
      rw [r2 (by omega)]
      rcases (show s % 2 = 0 ∨ s % 2 = 1 by omega) with z | z
      · rw [z, if_neg (by decide)]
        exact ⟨_, rfl, Or.inr ⟨fun q => by have := q.2.2.2 e; omega, rfl⟩⟩
      · rw [z, if_pos (by decide)]
        exact ⟨_, rfl, Or.inl ⟨⟨by omega, by omega, by omega, by omega⟩, by rw [hop, Nat.add_zero]⟩⟩
  · rw [if_pos (show (-1 : Int32) < 0 by decide)]
    have := hok0 e0
    exact ⟨_, rfl, Or.inl ⟨this.1, by rw [this.2, Nat.add_zero]⟩⟩
theorem m_walked {a : AV} (hW : AdvW a) {s i : Nat} {mp ml mk mn mlo : Nat → Int32} (hs : s < 1024 * aR a) (hi : i < (nbA a (s / 1024)).length) (hP : Rq (aR a) mp (aPar a)) (hL : Rp (aR a) ml (aLev a)) (hD : Rp (aR a) mk (aKnd a)) (hN : ∀ q, q < aR a → aKnd a q = 2 → mn q = nI (aNum a q)) (hM : ML mlo (aM a)) :
    f_X7_walked (nI s) (nI i) (nI (aR a)) mp ml mk mn mlo = some (match gW a s i with | some t => nI t | none => -1) := by
  have h2 := hW.2.1
  have h7 := hW.2.2.2.2.2.2.1
  have hp := hW.2.2.2.1
  have hr : s / 1024 < aR a := by omega
  have hs12 : s < 12288 := by omega
  have ht := nb_mem hW hr hi
  have hby := m_beyond (M := aM a) h2 hr hP hp hM hi
  have htv : (nbL (aPar a) (aR a) (s / 1024) (aM a)).getD i 0 = (nbA a (s / 1024)).getD i 0 := rfl
  rw [htv] at hby
  unfold f_X7_walked
  rw [gd_neg g1024, d1024 (by omega), hby, bs, gd_in (show s / 1024 < 12 by omega) (by omega), cl (show s / 1024 < 2 ^ 31 by omega)]
  generalize htg : (nbA a (s / 1024)).getD i 0 = t at *
  rw [gd_in (show t < 12 by omega) (by omega), cl (show t < 2 ^ 31 by omega)]
  have p1 := par_ne (r := t) h2 hP hp hr ht
  have p2 := par_ne (r := s / 1024) h2 hP hp ht hr
  have fin : ∀ v, ((okA a (s % 1024) (ownA a (s / 1024) t) ∧ v = nI (1024 * t + (s % 1024 + opA a (s % 1024) (ownA a (s / 1024) t)))) ∨ (¬ okA a (s % 1024) (ownA a (s / 1024) t) ∧ v = -1)) → v = (match gW a s i with | some t => nI t | none => -1) := by
    intro v hv
    rcases hv with ⟨h1, rfl⟩ | ⟨h1, rfl⟩
    · rw [gW_pos (by rw [htg]; exact h1), htg]
    · rw [gW_neg (by rw [htg]; exact h1)]
  by_cases c1 : 0 < s / 1024 ∧ aPar a (s / 1024) = t
  · have ho : ownA a (s / 1024) t = s / 1024 := by unfold ownA; rw [if_pos c1]
    rw [if_pos (p1.mpr (and_dec.mpr c1))]
    obtain ⟨v, g1, g2⟩ := m_walked46 (mp := mp) (mlo := mlo) hW hs12 ht (w := ownA a (s / 1024) t) (by rw [ho]; exact hr) (own := nI (s / 1024)) (Or.inl (by rw [ho])) hL hD hN (nI (aR a))
    rw [g1, fin v g2]
  · rw [if_neg (fun z => c1 (and_dec.mp (p1.mp z)))]
    by_cases c2 : 0 < t ∧ aPar a t = s / 1024
    · have ho : ownA a (s / 1024) t = t := by unfold ownA; rw [if_neg c1, if_pos c2]
      rw [if_pos (p2.mpr (and_dec.mpr c2))]
      obtain ⟨v, g1, g2⟩ := m_walked46 (mp := mp) (mlo := mlo) hW hs12 ht (w := ownA a (s / 1024) t) (by rw [ho]; exact ht) (own := nI t) (Or.inl (by rw [ho])) hL hD hN (nI (aR a))
      rw [g1, fin v g2]
    · have ho : ownA a (s / 1024) t = 0 := by unfold ownA; rw [if_neg c1, if_neg c2]
      rw [if_neg (fun z => c2 (and_dec.mp (p2.mp z)))]
      obtain ⟨v, g1, g2⟩ := m_walked46 (mp := mp) (mlo := mlo) hW hs12 ht (w := ownA a (s / 1024) t) (by rw [ho]; omega) (own := -1) (Or.inr ⟨rfl, by rw [ho]; exact h7⟩) hL hD hN (nI (aR a))
      rw [g1, fin v g2]
theorem m_takeable {a : AV} (hW : AdvW a) {s : Nat} {mly : Nat → Int32} (hs : s < 1024 * aR a) (hY : Rp (aR a) mly (aLy a)) : f_X7_takeable (nI s) mly = some (nI (nw9 (aLy a (s / 1024)) (hadM (s % 1024)))) := by
  have h2 := hW.2.1
  have hr : s / 1024 < aR a := by omega
  have hly := hW.2.2.2.2.2.2.2.2.2.1 (s / 1024)
  unfold f_X7_takeable
  simp only [gd_neg g1024, gd_neg g128, gd_neg g16, gd_neg g8]
  rw [d1024 (by omega), gd_in (show s / 1024 < 12 by omega) (by omega), cl (by omega), hY _ hr, d128 (by omega), d16 (by omega), r8 (by omega), r8 (by omega), show (8 : Int32) = nI 8 from rfl, pk_mul, nI_add]
  have e : s / 128 % 8 + 8 * (s / 16 % 8) = hadM (s % 1024) := by unfold hadM; omega
  rw [e, (nw9_i hly (by unfold hadM; omega)).1]
theorem m_afterT {a : AV} (hW : AdvW a) {s : Nat} {R9 : Int32} {mp ml mk mn mly msw mlo : Nat → Int32} (hs : s < 1024 * aR a) (hY : Rp (aR a) mly (aLy a)) : f_X7_after (nI s) 100 R9 mp ml mk mn mly msw mlo = some (nI (gT a s)) := by
  have h2 := hW.2.1
  have hly := hW.2.2.2.2.2.2.2.2.2.1 (s / 1024)
  have hx := (nw9_i hly (show hadM (s % 1024) < 64 by unfold hadM; omega)).2
  unfold f_X7_after
  rw [gd_neg g1024, if_pos rfl, m_takeable hW hs hY, bs, gd_neg g8, gd_neg g8, r8 (by omega), d8 (by omega), show (128 : Int32) = nI 128 from rfl, show (16 : Int32) = nI 16 from rfl, pk_mul, pk_mul, nI_add, nI_add]
  congr 2
  unfold gT tkM
  omega
theorem m_afterG {a : AV} (hW : AdvW a) {s : Nat} {R9 : Int32} {mp ml mk mn mly msw mlo : Nat → Int32} (hs : s < 1024 * aR a) (hS : Rp (aR a) msw (aSw a)) : f_X7_after (nI s) 200 R9 mp ml mk mn mly msw mlo = some (match gG a s with | some t => nI t | none => -1) := by
  have h2 := hW.2.1
  have hr : s / 1024 < aR a := by omega
  have hsw := hW.2.2.2.2.2.2.2.2.2.2.1 (s / 1024)
  unfold f_X7_after gG
  rw [gd_neg g1024, if_neg (by decide), if_pos rfl, d1024 (by omega), gd_in (show s / 1024 < 12 by omega) (by omega), cl (by omega), hS _ hr]
  by_cases c : aSw a (s / 1024) = 0
  · rw [if_pos (by rw [c]; rfl), if_pos c]
  · rw [if_neg (show ¬ nI (aSw a (s / 1024)) = 0 from nI_ne0 (by omega) (by omega)), if_neg c, gd_neg g2, r2 (by omega)]
    unfold tgl
    rcases (show s % 2 = 0 ∨ s % 2 = 1 by omega) with z | z
    · rw [z, if_pos (by decide), nI_1]; rfl
    · rw [z, if_neg (by decide), show nI s - 1 = nI (s - 1) from pk_sub (b := 1) (by omega)]; rfl
theorem m_afterW {a : AV} (hW : AdvW a) {s i : Nat} {mp ml mk mn mly msw mlo : Nat → Int32} (hs : s < 1024 * aR a) (hi : i < (nbA a (s / 1024)).length) (hP : Rq (aR a) mp (aPar a)) (hL : Rp (aR a) ml (aLev a)) (hD : Rp (aR a) mk (aKnd a)) (hN : ∀ q, q < aR a → aKnd a q = 2 → mn q = nI (aNum a q)) (hM : ML mlo (aM a)) :
    f_X7_after (nI s) (nI i) (nI (aR a)) mp ml mk mn mly msw mlo = some (match gW a s i with | some t => nI t | none => -1) := by
  have h2 := hW.2.1
  have hr : s / 1024 < aR a := by omega
  have hlen := nb_lt hW hr
  have hd := m_doors (M := aM a) h2 hr hP hW.2.2.2.1 hM
  have he : (nbL (aPar a) (aR a) (s / 1024) (aM a)).length = (nbA a (s / 1024)).length := rfl
  rw [he] at hd
  unfold f_X7_after
  rw [gd_neg g1024, if_neg (show ¬ nI i = 100 from fun z => by have := (nI_eq (b := 100) (by omega) (by omega)).mp z; omega), if_neg (show ¬ nI i = 200 from fun z => by have := (nI_eq (b := 200) (by omega) (by omega)).mp z; omega), d1024 (by omega), hd, bs, if_neg (nI_ge hi (by omega)), m_walked hW hs hi hP hL hD hN hM, bs]
