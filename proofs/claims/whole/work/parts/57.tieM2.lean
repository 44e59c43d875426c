/-! The reference: plain doors, open rooms, keys, small doors, small keys, barriers. -/
theorem m_choosePlain {R : Nat} {mkind mc : Nat → Int32} {knd : Nat → Nat} (hR : R ≤ 12) (hD : Rp R mkind knd) (hk : ∀ q, q < R → knd q < 100) :
    ∃ c', f_X7_choosePlain (nI R) mkind mc = some (if plain R knd = [] then 0 else 1, c') ∧ Chs R c' (fun r => decide (0 < r) && knd r == 0) := by
  unfold f_X7_choosePlain f_X7_choosePlain_4
  refine lp_for0 (fun o => ∃ c' : Nat → Int32, o = some (if plain R knd = [] then 0 else 1, c') ∧ Chs R c' (fun r => decide (0 < r) && knd r == 0)) R (by omega)
    (fun i s => (if cand i (fun r => decide (0 < r) && knd r == 0) = [] then (0 : Int32) else 1) = s.1 ∧ nI i = s.2.1 ∧ Chs i s.2.2 (fun r => decide (0 < r) && knd r == 0)) ⟨rfl, rfl, Chs.nil⟩ ?_ ?_
  · rintro i ⟨x1, x2, c⟩ hi ⟨e1, e2, hC⟩ k
    dsimp only at e1 e2 hC ⊢
    subst e2
    left
    have hki := hk i hi
    have h35 : ∀ (v : Int32), (v = if (decide (0 < i) && knd i == 0) = true then 1 else 0) → ∃ s', ((if cand (i + 1) (fun r => decide (0 < r) && knd r == 0) = [] then (0 : Int32) else 1) = s'.1 ∧ nI (i + 1) = s'.2.1 ∧ Chs (i + 1) s'.2.2 (fun r => decide (0 < r) && knd r == 0)) ∧
        f_X7_choosePlain_35 (nI R) mkind (fun a b c => k (a, b, c)) x1 (nI i) (nI i) v c = k s' := by
      intro v hv
      have hnv : vp_nar .boolean v = v := by
        rw [hv]; split
        · exact narb1
        · exact narb0
      unfold f_X7_choosePlain_35 f_X7_choosePlain_49 f_X7_choosePlain_54
      rw [gd_in (show i < 12 by omega) (by omega), gd_in (show i < 12 by omega) (by omega), cl (by omega), hnv, pk_us]
      by_cases hp : (decide (0 < i) && knd i == 0) = true
      · have hv1 : v = 1 := by rw [hv, if_pos hp]
        have hc : cand (i + 1) (fun r => decide (0 < r) && knd r == 0) ≠ [] := by rw [cand_succ, if_pos hp]; simp
        rw [if_neg hc, hv1, if_neg (show ¬ (1 : Int32) = 0 by decide)]
        have h9 : (if x1 = 0 then k (1, nI i + 1, upd c i 1) else k (1, nI i + 1, upd c i 1)) = k (1, nI i + 1, upd c i 1) := by split <;> rfl
        refine ⟨_, ?_, h9⟩
        exact ⟨rfl, (nI_1 i).symm, hC.up (by rw [if_pos hp])⟩
      · have hv0 : v = 0 := by rw [hv, if_neg hp]
        rw [cand_succ, if_neg hp, hv0, if_pos rfl, e1]
        by_cases hx : x1 = 0
        · rw [if_pos hx, hx]
          refine ⟨_, ?_, rfl⟩
          exact ⟨rfl, (nI_1 i).symm, hC.up (by rw [if_neg hp])⟩
        · have hx1 : x1 = 1 := by
            rw [← e1] at hx ⊢
            by_cases z : cand i (fun r => decide (0 < r) && knd r == 0) = []
            · rw [if_pos z] at hx; exact absurd rfl hx
            · rw [if_neg z]
          rw [if_neg hx, hx1]
          refine ⟨_, ?_, rfl⟩
          exact ⟨rfl, (nI_1 i).symm, hC.up (by rw [if_neg hp])⟩
    unfold fb_X7_choosePlain_4 f_X7_choosePlain_34
    rw [if_neg (nI_ge hi (by omega))]
    by_cases h0 : i = 0
    · rw [if_pos (show nI i ≤ 0 by rw [h0]; decide)]
      exact h35 0 (by rw [if_neg (by simp [h0])])
    · rw [if_neg (nI_nle (by omega) (by omega)), gd_in (show i < 12 by omega) (by omega)]
      by_cases h1 : knd i = 0
      · rw [if_pos (show mkind (nI i).toNatClampNeg = 0 by rw [cl (by omega), hD i hi, h1]; rfl)]
        exact h35 1 (by rw [if_pos (by simp [h1]; omega)])
      · rw [if_neg (show ¬ mkind (nI i).toNatClampNeg = 0 from fun z => by rw [cl (by omega), hD i hi] at z; exact h1 ((nI_eq (b := 0) (by omega) (by omega)).mp z))]
        exact h35 0 (by rw [if_neg (by simp [h1])])
  · rintro ⟨x1, x2, c⟩ ⟨e1, e2, hC⟩ k
    dsimp only at e1 e2 hC ⊢
    subst e2
    unfold fb_X7_choosePlain_4
    rw [if_pos (nI_le (Nat.le_refl _) (by omega)), gd_neg ?_]
    · exact ⟨c, by rw [← e1]; rfl, hC⟩
    · rw [← e1]
      split <;> decide
theorem m_open {R r : Nat} {mp mk : Nat → Int32} {par knd : Nat → Nat} (hR : R ≤ 12) (hr : r < R) (hP : Rq R mp par) (hD : Rp R mk knd) (hp : ∀ q, 1 ≤ q → q < R → par q < q) (hk : ∀ q, q < R → knd q < 100) :
    f_X7_open (nI r) mp mk = some (if ch par knd r = true then 1 else 0) := by
  unfold f_X7_open f_X7_open_2
  refine lp_for0 (fun o => o = some (if ch par knd r = true then 1 else 0)) r (by omega) (fun i s => ∃ a, nI a = s ∧ a + i ≤ r ∧ ch par knd a = ch par knd r) ⟨r, rfl, by omega, rfl⟩ ?_ ?_
  · rintro i s hi ⟨a, e1, h1, h2⟩ k
    subst e1
    unfold fb_X7_open_2 f_X7_open_26
    by_cases h0 : a = 0
    · right
      subst h0
      rw [if_pos (show nI 0 ≤ 0 by decide), if_pos (show nI 0 = 0 by decide), ← h2, ch_0, if_pos rfl]
    · have hka := hk a (by omega)
      rw [if_neg (nI_nle (by omega) (by omega)), gd_in (show a < 12 by omega) (by omega)]
      have hc := ch_s (knd := knd) hp (show 0 < a by omega) (show a < R by omega)
      by_cases h3 : knd a = 2
      · right
        rw [if_pos (show mk (nI a).toNatClampNeg = 2 by rw [cl (by omega), hD a (by omega), h3]; rfl), if_neg (nI_ne0 (by omega) (by omega)), ← h2, hc, if_neg (by simp [h3])]
      · left
        rw [if_neg (show ¬ mk (nI a).toNatClampNeg = 2 from fun z => by rw [cl (by omega), hD a (by omega)] at z; exact h3 ((nI_eq (b := 2) (by omega) (by omega)).mp z)), gd_in (show a < 12 by omega) (by omega), cl (by omega), hP.2 a (by omega) (by omega)]
        have := hp a (by omega) (by omega)
        refine ⟨_, ?_, rfl⟩
        exact ⟨par a, rfl, by omega, by rw [← h2, hc]; simp [h3]⟩
  · rintro s ⟨a, e1, h1, h2⟩ k
    subst e1
    have h0 : a = 0 := by omega
    subst h0
    unfold fb_X7_open_2 f_X7_open_26
    rw [if_pos (show nI 0 ≤ 0 by decide), if_pos (show nI 0 = 0 by decide), ← h2, ch_0, if_pos rfl]
/-- small keys -/
theorem m_keys137 {R n : Nat} {st : Int64} {mp ml mk mn mly mc : Nat → Int32} {par lev knd lyf : Nat → Nat} (hR : R ≤ 12) (hR1 : 1 ≤ R) (hn : n ≤ 3) (hP : Rq R mp par) (hL : Rp R ml lev) (hD : Rp R mk knd) (hp : ∀ q, 1 ≤ q → q < R → par q < q)
    (h0 : lev 0 = 0) (hlb : ∀ q, q < R → lev q < 100) (hkb : ∀ q, q < R → knd q < 100) (hY : Rp R mly lyf) (hyb : ∀ q, lyf q < 8) :
    ∃ l' c', f_X7_makeKeys_137 (nI R) mp ml 0 st (nI n) mk mn mly mc = some ((skN (opnL R par lev knd) (st, lyf) n).1, nI n, mk, mn, l', c') ∧ Rp R l' (skN (opnL R par lev knd) (st, lyf) n).2 := by
  have hne := opnL_ne (par := par) (knd := knd) hR1 h0
  unfold f_X7_makeKeys_137
  refine lp_for0 (fun o => ∃ l' c' : Nat → Int32, o = some ((skN (opnL R par lev knd) (st, lyf) n).1, nI n, mk, mn, l', c') ∧ Rp R l' (skN (opnL R par lev knd) (st, lyf) n).2) n (by omega)
    (fun i s => nI i = s.1 ∧ (skN (opnL R par lev knd) (st, lyf) i).1 = s.2.1 ∧ nI n = s.2.2.1 ∧ mk = s.2.2.2.1 ∧ mn = s.2.2.2.2.1 ∧ Rp R s.2.2.2.2.2.1 (skN (opnL R par lev knd) (st, lyf) i).2) ⟨rfl, rfl, rfl, rfl, rfl, hY⟩ ?_ ?_
  · rintro i ⟨x3, s2, s3, a, b, l, c⟩ hi ⟨e1, e2, e3, e4, e5, hY⟩ k
    dsimp only at e1 e2 e3 e4 e5 hY ⊢
    subst e1 e2 e3 e4 e5
    left
    have hpk : pick (skN (opnL R par lev knd) (st, lyf) i).1 (opnL R par lev knd) < R := (cand_mem.mp (pick_mem (st := (skN (opnL R par lev knd) (st, lyf) i).1) hne)).1
    have hlt := skN_lt (l := opnL R par lev knd) (S := (st, lyf)) (fun q => by have := hyb q; show lyf q < 64; omega) i (by omega)
    unfold fb_X7_makeKeys_137
    rw [if_neg (nI_ge hi (by omega))]
    unfold f_X7_makeKeys_148
    refine lp_for0 (fun o => ∃ s', (nI (i + 1) = s'.1 ∧ (skN (opnL R par lev knd) (st, lyf) (i + 1)).1 = s'.2.1 ∧ nI n = s'.2.2.1 ∧ mk = s'.2.2.2.1 ∧ mn = s'.2.2.2.2.1 ∧ Rp R s'.2.2.2.2.2.1 (skN (opnL R par lev knd) (st, lyf) (i + 1)).2) ∧ o = k s') R (by omega)
      (fun j (s : Int32 × Int32 × Int64 × Int32 × (Nat → Int32) × (Nat → Int32) × (Nat → Int32) × (Nat → Int32)) => nI i = s.1 ∧ nI j = s.2.1 ∧ (skN (opnL R par lev knd) (st, lyf) i).1 = s.2.2.1 ∧ nI n = s.2.2.2.1 ∧ mk = s.2.2.2.2.1 ∧ mn = s.2.2.2.2.2.1 ∧ l = s.2.2.2.2.2.2.1 ∧ Chs j s.2.2.2.2.2.2.2 (fun r => lev r == 0 && ch par knd r)) ?_ ?_ ?_
    · exact ⟨rfl, rfl, rfl, rfl, rfl, rfl, rfl, Chs.nil⟩
    · rintro j ⟨y3, y4, t3, t4, a', b', l', c'⟩ hj ⟨f1, f2, f3, f4, f5, f6, f7, hC⟩ k2
      dsimp only at f1 f2 f3 f4 f5 f6 f7 hC ⊢
      subst f1 f2 f3 f4 f5 f6 f7
      left
      have hlj := hlb j hj
      unfold fb_X7_makeKeys_148 f_X7_makeKeys_186 f_X7_makeKeys_187
      rw [if_neg (nI_ge hj (by omega)), gd_in (show j < 12 by omega) (by omega)]
      by_cases c1 : lev j = 0
      · rw [if_pos (show ml (nI j).toNatClampNeg = 0 by rw [cl (by omega), hL j hj, c1]; rfl), m_open hR hj hP hD hp hkb, bs]
        by_cases c2 : ch par knd j = true
        · rw [if_pos c2, if_neg (show ¬ (1 : Int32) = 0 by decide), gd_in (show j < 12 by omega) (by omega), cl (by omega), narb1]
          refine ⟨_, ?_, rfl⟩
          exact ⟨rfl, (nI_1 j).symm, rfl, rfl, rfl, rfl, rfl, hC.up (by rw [if_pos (by simp [c1, c2])])⟩
        · rw [if_neg c2, if_pos rfl, gd_in (show j < 12 by omega) (by omega), cl (by omega), narb0]
          refine ⟨_, ?_, rfl⟩
          exact ⟨rfl, (nI_1 j).symm, rfl, rfl, rfl, rfl, rfl, hC.up (by rw [if_neg (by simp [c2])])⟩
      · rw [if_neg (show ¬ ml (nI j).toNatClampNeg = 0 from fun z => by rw [cl (by omega), hL j hj] at z; exact c1 ((nI_eq (b := 0) (by omega) (by omega)).mp z)), gd_in (show j < 12 by omega) (by omega), cl (by omega), narb0]
        refine ⟨_, ?_, rfl⟩
        exact ⟨rfl, (nI_1 j).symm, rfl, rfl, rfl, rfl, rfl, hC.up (by rw [if_neg (by simp [c1])])⟩
    · rintro ⟨y3, y4, t3, t4, a', b', l', c'⟩ ⟨f1, f2, f3, f4, f5, f6, f7, hC⟩ k2
      dsimp only at f1 f2 f3 f4 f5 f6 f7 hC ⊢
      subst f1 f2 f3 f4 f5 f6 f7
      unfold fb_X7_makeKeys_148
      have hdr : f_X7_drawn (skN (opnL R par lev knd) (st, lyf) i).1 (nI R) c' = some (nI (pick (skN (opnL R par lev knd) (st, lyf) i).1 (opnL R par lev knd)), nx (skN (opnL R par lev knd) (st, lyf) i).1) := m_drawn hR hC hne
      rw [if_pos (nI_le (Nat.le_refl _) (by omega)), hdr, bs, gd_in (show pick (skN (opnL R par lev knd) (st, lyf) i).1 (opnL R par lev knd) < 12 by omega) (by omega), gd_in (show pick (skN (opnL R par lev knd) (st, lyf) i).1 (opnL R par lev knd) < 12 by omega) (by omega)]
      rw [cl (by omega), hY _ hpk, smallBit_eq i (by omega), nI_or (by have := hlt (pick (skN (opnL R par lev knd) (st, lyf) i).1 (opnL R par lev knd)); omega) (by have : (2 : Nat) ^ i < 2 ^ 3 := Nat.pow_lt_pow_right (by omega) (by omega); omega)]
      refine ⟨_, ?_, rfl⟩
      exact ⟨(nI_1 i).symm, rfl, rfl, rfl, rfl, hY.set _ _⟩
  · rintro ⟨x3, s2, s3, a, b, l, c⟩ ⟨e1, e2, e3, e4, e5, hY⟩ k
    dsimp only at e1 e2 e3 e4 e5 hY ⊢
    subst e1 e2 e3 e4 e5
    unfold fb_X7_makeKeys_137
    rw [if_pos (nI_le (Nat.le_refl _) (by omega))]
    exact ⟨_, _, rfl, hY⟩
/-- small doors, then small keys -/
theorem m_keys82 {R n : Nat} {st : Int64} {mp ml mk mn mly mc : Nat → Int32} {par lev knd lyf : Nat → Nat} (hR : R ≤ 12) (hR1 : 1 ≤ R) (hn : n ≤ 3) (hP : Rq R mp par) (hL : Rp R ml lev) (hD : Rp R mk knd) (hp : ∀ q, 1 ≤ q → q < R → par q < q)
    (h0 : lev 0 = 0) (hlb : ∀ q, q < R → lev q < 100) (hk : ∀ q, q < R → knd q ≤ 1) (hY : Rp R mly lyf) (hyb : ∀ q, lyf q < 8) :
    ∃ k' n' l' c', f_X7_makeKeys_82 (nI R) mp ml (nI n) 0 st 0 mk mn mly mc = some ((skN (opnL R par lev (sdN R st knd n).2.2.1) ((sdN R st knd n).1, lyf) (sdN R st knd n).2.1).1, nI (sdN R st knd n).2.1, k', n', l', c') ∧ SdR R (sdN R st knd n) k' n' ∧ Rp R l' (skN (opnL R par lev (sdN R st knd n).2.2.1) ((sdN R st knd n).1, lyf) (sdN R st knd n).2.1).2 := by
  unfold f_X7_makeKeys_82
  refine lp_for0 (fun o => ∃ k' n' l' c' : Nat → Int32, o = some ((skN (opnL R par lev (sdN R st knd n).2.2.1) ((sdN R st knd n).1, lyf) (sdN R st knd n).2.1).1, nI (sdN R st knd n).2.1, k', n', l', c') ∧ SdR R (sdN R st knd n) k' n' ∧ Rp R l' (skN (opnL R par lev (sdN R st knd n).2.2.1) ((sdN R st knd n).1, lyf) (sdN R st knd n).2.1).2) n (by omega)
    (fun i s => nI n = s.1 ∧ nI i = s.2.1 ∧ (sdN R st knd i).1 = s.2.2.1 ∧ nI (sdN R st knd i).2.1 = s.2.2.2.1 ∧ SdR R (sdN R st knd i) s.2.2.2.2.1 s.2.2.2.2.2.1 ∧ mly = s.2.2.2.2.2.2.1) ?_ ?_ ?_
  · refine ⟨rfl, rfl, rfl, rfl, ⟨hD, fun q hq e => ?_⟩, rfl⟩
    have := hk q hq
    have e' : knd q = 2 := e
    omega
  · rintro i ⟨x2, x3, s3, s4, a, b, l, c⟩ hi ⟨e1, e2, e3, e4, hS, e5⟩ k
    dsimp only at e1 e2 e3 e4 e5 hS ⊢
    subst e1 e2 e3 e4 e5
    left
    have hW := sdN_wf (st := st) hk i
    have hlt := hW.lt hk
    unfold fb_X7_makeKeys_82 f_X7_makeKeys_129
    obtain ⟨c', g1, g2⟩ := m_choosePlain (mc := c) hR hS.1 (fun q hq => by have := hlt q hq; omega)
    rw [if_neg (nI_ge hi (by omega)), g1, bs]
    by_cases e : plain R (sdN R st knd i).2.2.1 = []
    · rw [if_pos e, if_pos (show (0 : Int32) = 0 from rfl)]
      have hst : sdN R st knd (i + 1) = sdN R st knd i := by
        show sdStep R (sdN R st knd i) = _; unfold sdStep; rw [if_pos e]
      rw [hst]
      refine ⟨_, ?_, rfl⟩
      exact ⟨rfl, (nI_1 i).symm, rfl, rfl, hS, rfl⟩
    · obtain ⟨p1, p2, p3⟩ := plain_pick (st := (sdN R st knd i).1) e
      have hdr : f_X7_drawn (sdN R st knd i).1 (nI R) c' = some (nI (pick (sdN R st knd i).1 (plain R (sdN R st knd i).2.2.1)), nx (sdN R st knd i).1) := m_drawn hR g2 e
      rw [if_neg e, if_neg (show ¬ (1 : Int32) = 0 by decide), hdr, bs, gd_in (show pick (sdN R st knd i).1 (plain R (sdN R st knd i).2.2.1) < 12 by omega) (by omega), gd_in (show pick (sdN R st knd i).1 (plain R (sdN R st knd i).2.2.1) < 12 by omega) (by omega), cl (by omega)]
      refine ⟨_, ?_, rfl⟩
      refine ⟨rfl, (nI_1 i).symm, ?_, ?_, ?_, rfl⟩
      · show (sdStep R (sdN R st knd i)).1 = _; unfold sdStep; rw [if_neg e]
      · show nI (sdStep R (sdN R st knd i)).2.1 = _; unfold sdStep; rw [if_neg e]; exact (nI_1 _).symm
      · exact SdR.step hW hk hS e
  · rintro ⟨x2, x3, s3, s4, a, b, l, c⟩ ⟨e1, e2, e3, e4, hS, e5⟩ k
    dsimp only at e1 e2 e3 e4 e5 hS ⊢
    subst e1 e2 e3 e4 e5
    have hW := sdN_wf (st := st) hk n
    have hlt := hW.lt hk
    unfold fb_X7_makeKeys_82
    rw [if_pos (nI_le (Nat.le_refl _) (by omega))]
    have hc3 : (sdN R st knd n).2.1 ≤ 3 := Nat.le_trans hW.1 hn
    obtain ⟨l', c', g1, g2⟩ := m_keys137 (n := (sdN R st knd n).2.1) (st := (sdN R st knd n).1) (mn := b) (mc := c) hR hR1 hc3 hP hL hS.1 hp h0 hlb (fun q hq => by have := hlt q hq; omega) hY hyb
    exact ⟨_, _, _, _, g1, hS, g2⟩
theorem m_makeKeys {R n K : Nat} {st : Int64} {mp ml mk mly : Nat → Int32} (mn mc : Nat → Int32) {par lev knd : Nat → Nat} (hR : R ≤ 12) (hR1 : 1 ≤ R) (hn : n ≤ 3) (hK : K ≤ 3) (hP : Rq R mp par) (hL : Rp R ml lev) (hD : Rp R mk knd) (hp : ∀ q, 1 ≤ q → q < R → par q < q)
    (h0 : lev 0 = 0) (hlb : ∀ q, q < R → lev q < 100) (hk : ∀ q, q < R → knd q ≤ 1) (hly : ∀ q, q < 12 → mly q = 0) {S : SS} (hS : sdN R (kyN R lev st K).1 knd n = S) {Y : KS} (hY : skN (opnL R par lev S.2.2.1) (S.1, (kyN R lev st K).2) S.2.1 = Y) :
    ∃ k' n' l' c', f_X7_makeKeys (nI K) (nI n) st (nI R) 0 mp ml mk mn mly mc = some (Y.1, nI S.2.1, k', n', l', c') ∧ SdR R S k' n' ∧ Rp R l' Y.2 := by
  subst hY hS
  unfold f_X7_makeKeys f_X7_makeKeys_2
  refine lp_for0 (fun o => ∃ k' n' l' c' : Nat → Int32, o = some ((skN (opnL R par lev (sdN R (kyN R lev st K).1 knd n).2.2.1) ((sdN R (kyN R lev st K).1 knd n).1, (kyN R lev st K).2) (sdN R (kyN R lev st K).1 knd n).2.1).1, nI (sdN R (kyN R lev st K).1 knd n).2.1, k', n', l', c') ∧ SdR R (sdN R (kyN R lev st K).1 knd n) k' n' ∧ Rp R l' (skN (opnL R par lev (sdN R (kyN R lev st K).1 knd n).2.2.1) ((sdN R (kyN R lev st K).1 knd n).1, (kyN R lev st K).2) (sdN R (kyN R lev st K).1 knd n).2.1).2) K (by omega)
    (fun i s => nI K = s.1 ∧ nI n = s.2.1 ∧ nI (i + 1) = s.2.2.1 ∧ (kyN R lev st i).1 = s.2.2.2.1 ∧ 0 = s.2.2.2.2.1 ∧ mk = s.2.2.2.2.2.1 ∧ Rp R s.2.2.2.2.2.2.2.1 (kyN R lev st i).2) ?_ ?_ ?_
  · exact ⟨rfl, rfl, rfl, rfl, rfl, rfl, fun q hq => hly q (by omega)⟩
  · rintro i ⟨x1, x2, x3, s4, s5, a, b, l, c⟩ hi ⟨e1, e2, e3, e4, e5, e6, hY⟩ k
    dsimp only at e1 e2 e3 e4 e5 e6 hY ⊢
    subst e1 e2 e3 e4 e5 e6
    left
    have hne : cand R (fun q => decide (lev q < i + 1)) ≠ [] := cand_ne (q := 0) (by omega) (by simp [h0])
    have hpk := (cand_mem.mp (pick_mem (st := (kyN R lev st i).1) hne)).1
    have hlt := kyN_lt (R := R) (lev := lev) (st := st) i (by omega)
    unfold fb_X7_makeKeys_2
    rw [if_neg (nI_nlt (by omega) (by omega))]
    unfold f_X7_makeKeys_10
    refine lp_for0 (fun o => ∃ s', (nI K = s'.1 ∧ nI n = s'.2.1 ∧ nI (i + 1 + 1) = s'.2.2.1 ∧ (kyN R lev st (i + 1)).1 = s'.2.2.2.1 ∧ 0 = s'.2.2.2.2.1 ∧ mk = s'.2.2.2.2.2.1 ∧ Rp R s'.2.2.2.2.2.2.2.1 (kyN R lev st (i + 1)).2) ∧ o = k s') R (by omega)
      (fun j (s : Int32 × Int32 × Int32 × Int32 × Int64 × Int32 × (Nat → Int32) × (Nat → Int32) × (Nat → Int32) × (Nat → Int32)) => nI K = s.1 ∧ nI n = s.2.1 ∧ nI (i + 1) = s.2.2.1 ∧ nI j = s.2.2.2.1 ∧ (kyN R lev st i).1 = s.2.2.2.2.1 ∧ 0 = s.2.2.2.2.2.1 ∧ mk = s.2.2.2.2.2.2.1 ∧ l = s.2.2.2.2.2.2.2.2.1 ∧ Chs j s.2.2.2.2.2.2.2.2.2 (fun q => decide (lev q < i + 1))) ?_ ?_ ?_
    · exact ⟨rfl, rfl, rfl, rfl, rfl, rfl, rfl, rfl, Chs.nil⟩
    · rintro j ⟨y1, y2, y3, y4, t5, t6, a', b', l', c'⟩ hj ⟨f1, f2, f3, f4, f5, f6, f7, f8, hC⟩ k2
      dsimp only at f1 f2 f3 f4 f5 f6 f7 f8 hC ⊢
      subst f1 f2 f3 f4 f5 f6 f7 f8
      left
      have hlj := hlb j hj
      unfold fb_X7_makeKeys_10 f_X7_makeKeys_41
      rw [if_neg (nI_ge hj (by omega)), gd_in (show j < 12 by omega) (by omega)]
      by_cases c1 : lev j < i + 1
      · rw [if_neg (show ¬ nI (i + 1) ≤ ml (nI j).toNatClampNeg from fun z => by rw [cl (by omega), hL j hj] at z; exact nI_ge c1 (by omega) z), gd_in (show j < 12 by omega) (by omega), cl (by omega), narb1]
        refine ⟨_, ?_, rfl⟩
        exact ⟨rfl, rfl, rfl, (nI_1 j).symm, rfl, rfl, rfl, rfl, hC.up (by rw [if_pos (by simp [c1])])⟩
      · rw [if_pos (show nI (i + 1) ≤ ml (nI j).toNatClampNeg by rw [cl (by omega), hL j hj]; exact nI_le (by omega) (by omega)), gd_in (show j < 12 by omega) (by omega), cl (by omega), narb0]
        refine ⟨_, ?_, rfl⟩
        exact ⟨rfl, rfl, rfl, (nI_1 j).symm, rfl, rfl, rfl, rfl, hC.up (by rw [if_neg (by simp; omega)])⟩
    · rintro ⟨y1, y2, y3, y4, t5, t6, a', b', l', c'⟩ ⟨f1, f2, f3, f4, f5, f6, f7, f8, hC⟩ k2
      dsimp only at f1 f2 f3 f4 f5 f6 f7 f8 hC ⊢
      subst f1 f2 f3 f4 f5 f6 f7 f8
      unfold fb_X7_makeKeys_10
      rw [if_pos (nI_le (Nat.le_refl _) (by omega)), m_drawn hR hC hne, bs, gd_in (show pick (kyN R lev st i).1 (cand R (fun q => decide (lev q < i + 1))) < 12 by omega) (by omega), gd_in (show pick (kyN R lev st i).1 (cand R (fun q => decide (lev q < i + 1))) < 12 by omega) (by omega), cl (by omega), hY _ hpk, keyBit_eq (i + 1) (by omega) (by omega), nI_or (by have := hlt (pick (kyN R lev st i).1 (cand R (fun q => decide (lev q < i + 1)))); omega) (by have : (2 : Nat) ^ (i + 1 - 1) < 2 ^ 3 := Nat.pow_lt_pow_right (by omega) (by omega); omega)]
      refine ⟨_, ?_, rfl⟩
      exact ⟨rfl, rfl, (nI_1 (i + 1)).symm, rfl, rfl, rfl, hY.set _ _⟩
  · rintro ⟨x1, x2, x3, s4, s5, a, b, l, c⟩ ⟨e1, e2, e3, e4, e5, e6, hY⟩ k
    dsimp only at e1 e2 e3 e4 e5 e6 hY ⊢
    subst e1 e2 e3 e4 e5 e6
    unfold fb_X7_makeKeys_2
    rw [if_pos (nI_lt (by omega) (by omega))]
    exact m_keys82 hR hR1 hn hP hL hD hp h0 hlb hk hY (kyN_lt K hK)
theorem m_makeBarriers {R n : Nat} {st : Int64} {mp mk sw : Nat → Int32} (mc : Nat → Int32) {par knd : Nat → Nat} (hR : R ≤ 12) (hR1 : 1 ≤ R) (hn : n ≤ 2) (hP : Rq R mp par) (hp : ∀ q, 1 ≤ q → q < R → par q < q) (hD : Rp R mk knd) (hk : ∀ q, q < R → knd q ≤ 2) (hs : ∀ q, q < 12 → sw q = 0) :
    ∃ k' s' c', f_X7_makeBarriers (nI n) st (nI R) mp mk sw mc = some ((baN R par st knd n).1, k', s', c') ∧ Rp R k' (baN R par st knd n).2.1 ∧ Rp R s' (baN R par st knd n).2.2 := by
  unfold f_X7_makeBarriers f_X7_makeBarriers_2
  refine lp_for0 (fun o => ∃ k' s' c' : Nat → Int32, o = some ((baN R par st knd n).1, k', s', c') ∧ Rp R k' (baN R par st knd n).2.1 ∧ Rp R s' (baN R par st knd n).2.2) n (by omega)
    (fun i s => nI n = s.1 ∧ nI i = s.2.1 ∧ (baN R par st knd i).1 = s.2.2.1 ∧ Rp R s.2.2.2.1 (baN R par st knd i).2.1 ∧ Rp R s.2.2.2.2.1 (baN R par st knd i).2.2) ?_ ?_ ?_
  · exact ⟨rfl, rfl, rfl, hD, fun q hq => hs q (by omega)⟩
  · rintro i ⟨x1, x2, s3, kd, sn, c⟩ hi ⟨e1, e2, e3, hK, hS⟩ k
    dsimp only at e1 e2 e3 hK hS ⊢
    subst e1 e2 e3
    left
    have hlt := (baN_wf (R := R) (par := par) (st := st) (knd := knd) i).lt hk
    unfold fb_X7_makeBarriers_2 f_X7_makeBarriers_57
    obtain ⟨c', g1, g2⟩ := m_choosePlain (mc := c) hR hK (fun q hq => by have := hlt q hq; omega)
    rw [if_neg (nI_ge hi (by omega)), g1, bs]
    by_cases e : plain R (baN R par st knd i).2.1 = []
    · rw [if_pos e, if_pos (show (0 : Int32) = 0 from rfl)]
      have hst : baN R par st knd (i + 1) = baN R par st knd i := by
        show baStep R par (baN R par st knd i) = _; unfold baStep; rw [if_pos e]
      rw [hst]
      refine ⟨_, ?_, rfl⟩
      exact ⟨rfl, (nI_1 i).symm, rfl, hK, hS⟩
    · obtain ⟨p1, p2, p3⟩ := plain_pick (st := (baN R par st knd i).1) e
      have hdr : f_X7_drawn (baN R par st knd i).1 (nI R) c' = some (nI (pick (baN R par st knd i).1 (plain R (baN R par st knd i).2.1)), nx (baN R par st knd i).1) := m_drawn hR g2 e
      have hst : baN R par st knd (i + 1) = (nx (nx (baN R par st knd i).1), va_up (baN R par st knd i).2.1 (pick (baN R par st knd i).1 (plain R (baN R par st knd i).2.1)) (if dv (nx (nx (baN R par st knd i).1)) 2 = 0 then 3 else 4), va_up (va_up (baN R par st knd i).2.2 (pick (baN R par st knd i).1 (plain R (baN R par st knd i).2.1)) 1) (par (pick (baN R par st knd i).1 (plain R (baN R par st knd i).2.1))) 1) := by
        show baStep R par (baN R par st knd i) = _; unfold baStep; rw [if_neg e]
      rw [if_neg e, if_neg (show ¬ (1 : Int32) = 0 by decide), hdr, bs, show (2 : Int32) = nI 2 from rfl, m_draw (by omega) (by omega), bs, hst]
      generalize pick (baN R par st knd i).1 (plain R (baN R par st knd i).2.1) = r at p1 p2 p3
      have hpr := hp r p2 p1
      have h2 := dv_lt (nx (nx (baN R par st knd i).1)) (show 0 < 2 by omega)
      have hfin : ∀ (v : Nat) {st' : Int64} {o9 : Nat → Int32}, f_X7_makeBarriers_37 (nI R) mp (fun a b c d e f => k (a, b, c, d, e, f)) (nI n) (nI i) (nI r) (nI r) (nI v) st' kd sn o9 = k (nI n, nI i + 1, st', upd kd r (nI v), upd (upd sn r (nI 1)) (par r) (nI 1), o9) := by
        intro v st' o9
        unfold f_X7_makeBarriers_37 f_X7_makeBarriers_57
        rw [gd_in (show r < 12 by omega) (by omega), gd_in (show r < 12 by omega) (by omega), gd_in (show r < 12 by omega) (by omega), cl (by omega), hP.2 r p2 p1, gd_in (show par r < 12 by omega) (by omega), cl (by omega), narb1]
        rfl
      by_cases e2 : dv (nx (nx (baN R par st knd i).1)) 2 = 0
      · rw [if_pos (show nI (dv (nx (nx (baN R par st knd i).1)) 2) = 0 by rw [e2]; rfl), if_pos e2]
        refine ⟨_, ?_, hfin 3⟩
        exact ⟨rfl, (nI_1 i).symm, rfl, hK.set _ _, (hS.set _ _).set _ _⟩
      · rw [if_neg (show ¬ nI (dv (nx (nx (baN R par st knd i).1)) 2) = 0 from fun z => e2 ((nI_eq (b := 0) (by omega) (by omega)).mp z)), if_neg e2]
        refine ⟨_, ?_, hfin 4⟩
        exact ⟨rfl, (nI_1 i).symm, rfl, hK.set _ _, (hS.set _ _).set _ _⟩
  · rintro ⟨x1, x2, s3, kd, sn, c⟩ ⟨e1, e2, e3, hK, hS⟩ k
    dsimp only at e1 e2 e3 hK hS ⊢
    subst e1 e2 e3
    unfold fb_X7_makeBarriers_2
    rw [if_pos (nI_le (Nat.le_refl _) (by omega))]
    exact ⟨_, _, _, rfl, hK, hS⟩
