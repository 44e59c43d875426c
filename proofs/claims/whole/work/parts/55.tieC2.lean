/-! The class: clear, keys, small doors, small keys, barriers. -/
theorem nI_or {a b : Nat} (ha : a < 2 ^ 31) (hb : b < 2 ^ 31) : nI a ||| nI b = nI (a ||| b) := by
  have hab : a ||| b < 2 ^ 31 := Nat.or_lt_two_pow ha hb
  apply Int32.toBitVec_inj.mp
  apply BitVec.eq_of_toNat_eq
  rw [Int32.toBitVec_or, BitVec.toNat_or, pk_tn (by omega), pk_tn (by omega), pk_tn (by omega)]
theorem keyBit_eq : ∀ l, 1 ≤ l → l ≤ 3 → (1 : Int32) <<< ((nI l - 1) &&& 31) = nI (2 ^ (l - 1)) := by
  intro l h1 h2
  rcases (show l = 1 ∨ l = 2 ∨ l = 3 by omega) with rfl | rfl | rfl <;> decide
theorem smallBit_eq : ∀ i, i < 3 → (8 : Int32) <<< (nI i &&& 31) = nI (8 * 2 ^ i) := by
  intro i h
  rcases (show i = 0 ∨ i = 1 ∨ i = 2 by omega) with rfl | rfl | rfl <;> decide
theorem isWithin_eq {a b c : Nat} (ha : a < 2 ^ 31) (hb : b < 2 ^ 31) (hc : c < 2 ^ 31) : f_X6_isWithin (nI a) (nI b) (nI c) = some (if b ≤ a ∧ a ≤ c then 1 else 0) := by
  unfold f_X6_isWithin
  by_cases h1 : a < b
  · rw [if_pos (nI_lt h1 hb), if_neg (by omega)]
  · rw [if_neg (nI_nlt (by omega) ha)]
    by_cases h2 : c < a
    · rw [if_pos (nI_lt h2 ha), if_neg (by omega)]
    · rw [if_neg (nI_nlt (by omega) hc), if_pos (by omega)]
theorem c_fill_lying (a : Nat → Int32) : ∃ a', f_J7_fill_lying 0 a = some a' ∧ ∀ q, q < 12 → a' q = 0 := by
  unfold f_J7_fill_lying f_J7_fill_lying_5
  refine lp_for0 (fun o => ∃ a' : Nat → Int32, o = some a' ∧ ∀ q, q < 12 → a' q = 0) 12 (by omega) (fun i s => 0 = s.1 ∧ nI i = s.2.1 ∧ nI 12 = s.2.2.1 ∧ ∀ q, q < i → s.2.2.2 q = 0) ⟨rfl, rfl, rfl, fun q h => by omega⟩ ?_ ?_
  · rintro i ⟨x1, x2, x3, b⟩ hi ⟨e1, e2, e3, h⟩ k
    dsimp only at e1 e2 e3 h ⊢
    subst e1 e2 e3
    left
    unfold fb_J7_fill_lying_5
    rw [if_neg (nI_ge hi (by omega)), gd_in hi (by omega), cl (by omega)]
    refine ⟨_, ⟨rfl, (nI_1 i).symm, rfl, fun q hq => ?_⟩, rfl⟩
    by_cases e : q = i
    · subst e; exact pk_us
    · exact (pk_un e).trans (h q (by omega))
  · rintro ⟨x1, x2, x3, b⟩ ⟨e1, e2, e3, h⟩ k
    dsimp only at e1 e2 e3 h ⊢
    subst e1 e2 e3
    unfold fb_J7_fill_lying_5
    rw [if_pos (nI_le (Nat.le_refl _) (by omega))]
    exact ⟨b, rfl, h⟩
theorem c_fill_doors (a : Nat → Int32) : ∃ a', f_J7_fill_doors 0 a = some a' ∧ ∀ q, q < 12 → a' q = 0 := by
  unfold f_J7_fill_doors f_J7_fill_doors_5
  refine lp_for0 (fun o => ∃ a' : Nat → Int32, o = some a' ∧ ∀ q, q < 12 → a' q = 0) 12 (by omega) (fun i s => 0 = s.1 ∧ nI i = s.2.1 ∧ nI 12 = s.2.2.1 ∧ ∀ q, q < i → s.2.2.2 q = 0) ⟨rfl, rfl, rfl, fun q h => by omega⟩ ?_ ?_
  · rintro i ⟨x1, x2, x3, b⟩ hi ⟨e1, e2, e3, h⟩ k
    dsimp only at e1 e2 e3 h ⊢
    subst e1 e2 e3
    left
    unfold fb_J7_fill_doors_5
    rw [if_neg (nI_ge hi (by omega)), gd_in hi (by omega), cl (by omega)]
    refine ⟨_, ⟨rfl, (nI_1 i).symm, rfl, fun q hq => ?_⟩, rfl⟩
    by_cases e : q = i
    · subst e; exact pk_us
    · exact (pk_un e).trans (h q (by omega))
  · rintro ⟨x1, x2, x3, b⟩ ⟨e1, e2, e3, h⟩ k
    dsimp only at e1 e2 e3 h ⊢
    subst e1 e2 e3
    unfold fb_J7_fill_doors_5
    rw [if_pos (nI_le (Nat.le_refl _) (by omega))]
    exact ⟨b, rfl, h⟩
theorem c_clear (ad : Int32) (ly sw dr : Nat → Int32) : ∃ l' s' d', f_X2_clear ad ly sw dr = some (0, l', s', d') ∧ (∀ q, q < 12 → l' q = 0) ∧ (∀ q, q < 12 → s' q = 0) ∧ (∀ q, q < 12 → d' q = 0) := by
  obtain ⟨l', e1, h1⟩ := c_fill_lying ly
  obtain ⟨d', e2, h2⟩ := c_fill_doors dr
  unfold f_X2_clear
  rw [e1, bs, e2, bs]
  unfold f_X2_clear_24
  refine lp_for0 (fun o => ∃ l' s' d' : Nat → Int32, o = some (0, l', s', d') ∧ (∀ q, q < 12 → l' q = 0) ∧ (∀ q, q < 12 → s' q = 0) ∧ (∀ q, q < 12 → d' q = 0)) 12 (by omega) (fun i s => nI i = s.1 ∧ l' = s.2.2.1 ∧ d' = s.2.2.2.2 ∧ ∀ q, q < i → s.2.2.2.1 q = 0) ⟨rfl, rfl, rfl, fun q h => by omega⟩ ?_ ?_
  · rintro i ⟨x1, x2, x3, b, x5⟩ hi ⟨ea, eb, ec, h⟩ k
    dsimp only at ea eb ec h ⊢
    subst ea eb ec
    left
    unfold fb_X2_clear_24
    rw [if_neg (show ¬ (12 : Int32) ≤ nI i from nI_ge (b := 12) hi (by omega)), gd_in hi (by omega), cl (by omega), narb0]
    refine ⟨_, ⟨(nI_1 i).symm, rfl, rfl, fun q hq => ?_⟩, rfl⟩
    by_cases e : q = i
    · subst e; exact pk_us
    · exact (pk_un e).trans (h q (by omega))
  · rintro ⟨x1, x2, x3, b, x5⟩ ⟨ea, eb, ec, h⟩ k
    dsimp only at ea eb ec h ⊢
    subst ea eb ec
    unfold fb_X2_clear_24
    rw [if_pos (show (12 : Int32) ≤ nI 12 from nI_le (Nat.le_refl _) (by omega))]
    exact ⟨_, _, _, rfl, h1, h, h2⟩
theorem c_offerLevels {R lo hi : Nat} {cnt : Int32} {level off : Nat → Int32} {lev : Nat → Nat} {p : Nat → Bool} (hR : R ≤ 12) (hL : Rp R level lev) (hb : ∀ q, q < R → lev q < 100) (h1 : lo < 100) (h2 : hi < 100)
    (hp : ∀ q, q < R → (p q = true ↔ lo ≤ lev q ∧ lev q ≤ hi)) : ∃ c' o', f_X2_offerLevels (nI lo) (nI hi) (nI R) cnt level off = some (c', o') ∧ Off c' o' (cand R p) := by
  unfold f_X2_offerLevels f_X1_clearOffer f_X2_offerLevels_9
  rw [bs]
  refine lp_for0 (fun o => ∃ c' o', o = some (c', o') ∧ Off c' o' (cand R p)) R (by omega) (fun i s => nI lo = s.1 ∧ nI hi = s.2.1 ∧ nI i = s.2.2.1 ∧ Off s.2.2.2.1 s.2.2.2.2 (cand i p)) ⟨rfl, rfl, rfl, Off.nil⟩ ?_ ?_
  · rintro i ⟨x1, x2, x3, c, o⟩ hi ⟨e1, e2, e3, hO⟩ k
    dsimp only at e1 e2 e3 hO ⊢
    subst e1 e2 e3
    left
    have hlen := cand_len i p
    have hbi := hb i hi
    unfold fb_X2_offerLevels_9 f_X2_offerLevels_45
    rw [if_neg (nI_ge hi (by omega)), gd_in (show i < 12 by omega) (by omega), cl (by omega), hL i hi, isWithin_eq (by omega) (by omega) (by omega), bs]
    by_cases hpi : p i = true
    · rw [if_pos ((hp i hi).mp hpi), if_neg (by decide)]
      obtain ⟨c', o', g1, g2⟩ := c_offer hO (by omega) i
      rw [g1, bs]
      refine ⟨_, ?_, rfl⟩
      exact ⟨rfl, rfl, (nI_1 i).symm, by rw [cand_succ, if_pos hpi]; exact g2⟩
    · rw [if_neg (fun z => hpi ((hp i hi).mpr z)), if_pos rfl]
      refine ⟨_, ?_, rfl⟩
      exact ⟨rfl, rfl, (nI_1 i).symm, by rw [cand_succ, if_neg hpi]; exact hO⟩
  · rintro ⟨x1, x2, x3, c, o⟩ ⟨e1, e2, e3, hO⟩ k
    dsimp only at e1 e2 e3 hO ⊢
    subst e1 e2 e3
    unfold fb_X2_offerLevels_9
    rw [if_pos (nI_le (Nat.le_refl _) (by omega))]
    exact ⟨_, _, rfl, hO⟩
theorem cand_ne {n q : Nat} {p : Nat → Bool} (hq : q < n) (hp : p q = true) : cand n p ≠ [] := fun e => by
  have := cand_mem.mpr ⟨hq, hp⟩
  rw [e] at this
  cases this
theorem c_layKeys {R K : Nat} {st : Int64} {cnt : Int32} {level off ly : Nat → Int32} {lev : Nat → Nat} (hR : R ≤ 12) (hR1 : 1 ≤ R) (hK : K ≤ 3) (hL : Rp R level lev) (hb : ∀ q, q < R → lev q < 100) (h0 : lev 0 = 0) (hly : ∀ q, q < 12 → ly q = 0) :
    ∃ c' o' l', f_X2_layKeys (nI R) (nI K) st cnt level ly off = some ((kyN R lev st K).1, c', l', o') ∧ Rp R l' (kyN R lev st K).2 := by
  unfold f_X2_layKeys f_X2_layKeys_2
  refine lp_for0 (fun o => ∃ c' o' l', o = some ((kyN R lev st K).1, c', l', o') ∧ Rp R l' (kyN R lev st K).2) K (by omega) (fun i s => nI (i + 1) = s.1 ∧ (kyN R lev st i).1 = s.2.1 ∧ Rp R s.2.2.2.1 (kyN R lev st i).2) ⟨rfl, rfl, fun q hq => hly q (by omega)⟩ ?_ ?_
  · rintro i ⟨x1, s2, c, l, o⟩ hi ⟨e1, e2, hY⟩ k
    dsimp only at e1 e2 hY ⊢
    subst e1 e2
    left
    unfold fb_X2_layKeys_2 f_X5_keyBit
    obtain ⟨c', o', g1, g2⟩ := c_offerLevels (cnt := c) (off := o) (lo := 0) (hi := i) (p := fun q => decide (lev q < i + 1)) hR hL hb (by omega) (by omega) (fun q _ => by simp; omega)
    have hne : cand R (fun q => decide (lev q < i + 1)) ≠ [] := cand_ne (q := 0) (by omega) (by simp [h0])
    have hlen := cand_len R (fun q => decide (lev q < i + 1))
    have hpk := (cand_mem.mp (pick_mem (st := (kyN R lev st i).1) hne)).1
    have hlt := kyN_lt (R := R) (lev := lev) (st := st) i (by omega)
    have g1 : f_X2_offerLevels 0 (nI i) (nI R) c level o = some (c', o') := g1
    rw [if_neg (nI_nlt (by omega) (by omega)), nI_pred, g1, bs, c_offered g2 (by omega) hne, bs, gd_in (show pick (kyN R lev st i).1 (cand R (fun q => decide (lev q < i + 1))) < 12 by omega) (by omega), bs, gd_in (show pick (kyN R lev st i).1 (cand R (fun q => decide (lev q < i + 1))) < 12 by omega) (by omega), cl (by omega), hY _ hpk]
    have hkb := keyBit_eq (i + 1) (by omega) (by omega)
    rw [nI_pred] at hkb
    rw [hkb, nI_or (by have := hlt (pick (kyN R lev st i).1 (cand R (fun q => decide (lev q < i + 1)))); omega) (by have : (2 : Nat) ^ (i + 1 - 1) < 2 ^ 3 := Nat.pow_lt_pow_right (by omega) (by omega); omega)]
    refine ⟨_, ?_, rfl⟩
    exact ⟨(nI_1 (i + 1)).symm, rfl, hY.set _ _⟩
  · rintro ⟨x1, s2, c, l, o⟩ ⟨e1, e2, hY⟩ k
    dsimp only at e1 e2 hY ⊢
    subst e1 e2
    unfold fb_X2_layKeys_2
    rw [if_pos (nI_lt (by omega) (by omega))]
    exact ⟨_, _, _, rfl, hY⟩
theorem c_plain {R : Nat} {cnt : Int32} {kind off : Nat → Int32} {knd : Nat → Nat} (hR : R ≤ 12) (hR1 : 1 ≤ R) (hD : Rp R kind knd) (hk : ∀ q, q < R → knd q < 100) : ∃ c' o', f_X2_offerPlainDoors (nI R) cnt kind off = some (c', o') ∧ Off c' o' (plain R knd) := by
  unfold f_X2_offerPlainDoors f_X1_clearOffer f_X2_offerPlainDoors_9
  rw [bs]
  refine lp_forI (fun o => ∃ c' o', o = some (c', o') ∧ Off c' o' (plain R knd)) 1 R hR1 (by omega) (fun i s => nI i = s.1 ∧ Off s.2.1 s.2.2 (cand i (fun r => decide (0 < r) && knd r == 0))) ⟨rfl, Off.nil⟩ ?_ ?_
  · rintro i ⟨x1, c, o⟩ h1 hi ⟨e1, hO⟩ k
    dsimp only at e1 hO ⊢
    subst e1
    left
    have hlen := cand_len i (fun r => decide (0 < r) && knd r == 0)
    have hki := hk i hi
    unfold fb_X2_offerPlainDoors_9 f_X2_offerPlainDoors_40
    rw [if_neg (nI_ge hi (by omega)), gd_in (show i < 12 by omega) (by omega), cl (by omega), hD i hi]
    by_cases h : knd i = 0
    · rw [if_pos (by rw [h]; rfl)]
      obtain ⟨c', o', g1, g2⟩ := c_offer hO (by omega) i
      rw [g1, bs]
      refine ⟨_, ?_, rfl⟩
      exact ⟨(nI_1 i).symm, by rw [cand_succ, if_pos (by simp [h]; omega)]; exact g2⟩
    · rw [if_neg (show ¬ nI (knd i) = 0 from fun z => h ((nI_eq (b := 0) (by omega) (by omega)).mp z))]
      refine ⟨_, ?_, rfl⟩
      exact ⟨(nI_1 i).symm, by rw [cand_succ, if_neg (by simp [h])]; exact hO⟩
  · rintro ⟨x1, c, o⟩ ⟨e1, hO⟩ k
    dsimp only at e1 hO ⊢
    subst e1
    unfold fb_X2_offerPlainDoors_9
    rw [if_pos (nI_le (Nat.le_refl _) (by omega))]
    exact ⟨_, _, rfl, hO⟩
theorem c_hasOffer {c : Int32} {o : Nat → Int32} {l : List Nat} (h : Off c o l) (hl : l.length ≤ 12) : f_X1_hasOffer c = some (if l = [] then 0 else 1) := by
  obtain ⟨rfl, -⟩ := h
  unfold f_X1_hasOffer
  by_cases e : l = []
  · rw [if_pos e, e, if_pos (show nI ([] : List Nat).length ≤ 0 by decide)]
  · have h0 : 0 < l.length := List.length_pos_iff.mpr e
    rw [if_neg (nI_nle h0 (by omega)), if_neg e]
def SdR (R : Nat) (S : SS) (kind snum : Nat → Int32) : Prop := Rp R kind S.2.2.1 ∧ ∀ q, q < R → S.2.2.1 q = 2 → snum q = nI (S.2.2.2 q)
theorem SdW.lt {R n : Nat} {knd : Nat → Nat} {S : SS} (h : SdW R n knd S) (hk : ∀ q, q < R → knd q ≤ 1) : ∀ q, q < R → S.2.2.1 q ≤ 2 := fun q hq => by
  rcases h.2 q with z | z
  · have := hk q hq; omega
  · omega
theorem SdR.step {R n : Nat} {knd : Nat → Nat} {S : SS} (hW : SdW R n knd S) (hk : ∀ q, q < R → knd q ≤ 1) {kind snum : Nat → Int32} (h : SdR R S kind snum) (hne : plain R S.2.2.1 ≠ []) :
    SdR R (sdStep R S) (upd kind (pick S.1 (plain R S.2.2.1)) (nI 2)) (upd snum (pick S.1 (plain R S.2.2.1)) (nI S.2.1)) := by
  unfold sdStep
  rw [if_neg hne]
  refine ⟨h.1.set _ _, fun q hq e => ?_⟩
  dsimp only at e ⊢
  by_cases z : q = pick S.1 (plain R S.2.2.1)
  · rw [z, pk_us, va_up_self]
  · rw [pk_un z, va_up_ne _ _ z]
    rw [va_up_ne _ _ z] at e
    exact h.2 q hq e
theorem c_makeSmallDoors {R n : Nat} {st : Int64} {cnt : Int32} {kind snum off : Nat → Int32} {knd : Nat → Nat} (hR : R ≤ 12) (hR1 : 1 ≤ R) (hn : n ≤ 3) (hD : Rp R kind knd) (hk : ∀ q, q < R → knd q ≤ 1) :
    ∃ c' o' k' s', f_X2_makeSmallDoors (nI n) (nI R) st cnt kind snum off = some (nI (sdN R st knd n).2.1, (sdN R st knd n).1, c', k', s', o') ∧ SdR R (sdN R st knd n) k' s' := by
  unfold f_X2_makeSmallDoors f_X2_makeSmallDoors_4
  refine lp_for0 (fun o => ∃ c' o' k' s', o = some (nI (sdN R st knd n).2.1, (sdN R st knd n).1, c', k', s', o') ∧ SdR R (sdN R st knd n) k' s') n (by omega)
    (fun i s => nI n = s.1 ∧ nI (sdN R st knd i).2.1 = s.2.1 ∧ nI i = s.2.2.1 ∧ (sdN R st knd i).1 = s.2.2.2.1 ∧ SdR R (sdN R st knd i) s.2.2.2.2.2.1 s.2.2.2.2.2.2.1) ⟨rfl, rfl, rfl, rfl, hD, fun q hq e => ?_⟩ ?_ ?_
  · have := hk q hq
    have e' : knd q = 2 := e
    omega
  · rintro i ⟨x1, x2, x3, s4, c, kd, sn, o⟩ hi ⟨e1, e2, e3, e4, hS⟩ k
    dsimp only at e1 e2 e3 e4 hS ⊢
    subst e1 e2 e3 e4
    left
    have hW := sdN_wf (st := st) hk i
    have hlt := hW.lt hk
    unfold fb_X2_makeSmallDoors_4 f_X2_makeSmallDoors_57
    obtain ⟨c', o', g1, g2⟩ := c_plain (cnt := c) (off := o) hR hR1 hS.1 (fun q hq => by have := hlt q hq; omega)
    have hlen := cand_len R (fun r => decide (0 < r) && (sdN R st knd i).2.2.1 r == 0)
    rw [if_neg (nI_ge hi (by omega)), g1, bs, c_hasOffer g2 (by unfold plain; omega), bs]
    by_cases e : plain R (sdN R st knd i).2.2.1 = []
    · rw [if_pos e, if_pos rfl]
      refine ⟨_, ⟨rfl, ?_, (nI_1 i).symm, ?_, ?_⟩, rfl⟩
      · show nI (sdStep R (sdN R st knd i)).2.1 = _; unfold sdStep; rw [if_pos e]
      · show (sdStep R (sdN R st knd i)).1 = _; unfold sdStep; rw [if_pos e]
      · show SdR R (sdStep R (sdN R st knd i)) _ _; unfold sdStep; rw [if_pos e]; exact hS
    · obtain ⟨p1, p2, p3⟩ := plain_pick (st := (sdN R st knd i).1) e
      rw [if_neg e, if_neg (by decide), c_offered g2 (by unfold plain; omega) e, bs, gd_in (show pick (sdN R st knd i).1 (plain R (sdN R st knd i).2.2.1) < 12 by omega) (by omega), gd_in (show pick (sdN R st knd i).1 (plain R (sdN R st knd i).2.2.1) < 12 by omega) (by omega), cl (by omega)]
      refine ⟨_, ⟨rfl, ?_, (nI_1 i).symm, ?_, ?_⟩, rfl⟩
      · show nI (sdStep R (sdN R st knd i)).2.1 = _; unfold sdStep; rw [if_neg e]; exact (nI_1 _).symm
      · show (sdStep R (sdN R st knd i)).1 = _; unfold sdStep; rw [if_neg e]
      · exact SdR.step hW hk hS e
  · rintro ⟨x1, x2, x3, s4, c, kd, sn, o⟩ ⟨e1, e2, e3, e4, hS⟩ k
    dsimp only at e1 e2 e3 e4 hS ⊢
    subst e1 e2 e3 e4
    unfold fb_X2_makeSmallDoors_4
    rw [if_pos (nI_le (Nat.le_refl _) (by omega))]
    exact ⟨_, _, _, _, rfl, hS⟩
