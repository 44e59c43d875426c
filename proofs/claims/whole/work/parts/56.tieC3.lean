/-! The class: small keys, barriers. -/
theorem c_openRooms {R : Nat} {cnt : Int32} {parent level kind off opn : Nat → Int32} {par lev knd : Nat → Nat} (hR : R ≤ 12) (hR1 : 1 ≤ R) (hP : Rq R parent par) (hL : Rp R level lev) (hD : Rp R kind knd) (hp : ∀ q, 1 ≤ q → q < R → par q < q)
    (h0 : lev 0 = 0) (hl : ∀ q, 1 ≤ q → q < R → lev q = 0 → lev (par q) = 0) (hlb : ∀ q, q < R → lev q < 100) (hkb : ∀ q, q < R → knd q < 100) : ∃ c' o' n', f_X2_offerOpenRooms (nI R) cnt parent level kind off opn = some (c', o', n') ∧ Off c' o' (opnL R par lev knd) := by
  unfold f_X2_offerOpenRooms f_X1_clearOffer
  obtain ⟨c1, o1, g1, g2⟩ := c_offer (Off.nil (off := off)) (by simp) 0
  have g1 : f_X1_offer 0 0 off = some (c1, o1) := g1
  rw [bs, gd_neg (by decide), g1, bs]
  unfold f_X2_offerOpenRooms_24
  have hz0 : (fun r => lev r == 0 && ch par knd r) 0 = true := by simp [h0, ch_0]
  refine lp_forI (fun o => ∃ (c' : Int32) (o' n' : Nat → Int32), o = some (c', o', n') ∧ Off c' o' (opnL R par lev knd)) 1 R hR1 (by omega)
    (fun i s => nI i = s.1 ∧ Off s.2.1 s.2.2.1 (cand i (fun r => lev r == 0 && ch par knd r)) ∧ Chs i s.2.2.2 (fun r => lev r == 0 && ch par knd r)) ⟨rfl, ?_, ?_⟩ ?_ ?_
  · rw [cand_succ, if_pos hz0]; exact g2
  · exact (Chs.nil (c := opn)).up (by rw [if_pos hz0]; exact narb1)
  · rintro i ⟨x1, c, o, n⟩ h1 hi ⟨e1, hO, hC⟩ k
    dsimp only at e1 hO hC ⊢
    subst e1
    left
    have hlen := cand_len i (fun r => lev r == 0 && ch par knd r)
    have hpi := hp i h1 hi
    have hli := hlb i hi
    have hki := hkb i hi
    have fin0 : (lev i == 0 && ch par knd i) = false → f_X2_offerOpenRooms_86 (nI R) parent level kind (fun x1 a b c => k (x1, a, b, c)) (nI i) (nI i) c o n = k (nI i + 1, c, o, upd n i 0) := by
      intro _
      unfold f_X2_offerOpenRooms_86 f_X2_offerOpenRooms_87 f_X2_offerOpenRooms_105
      rw [gd_in (show i < 12 by omega) (by omega), gd_in (show i < 12 by omega) (by omega), cl (by omega), narb0, pk_us, if_pos rfl]
    have hno : ∀ (hf : (lev i == 0 && ch par knd i) = false), ∃ s', (nI (i + 1) = s'.1 ∧ Off s'.2.1 s'.2.2.1 (cand (i + 1) (fun r => lev r == 0 && ch par knd r)) ∧ Chs (i + 1) s'.2.2.2 (fun r => lev r == 0 && ch par knd r)) ∧ k (nI i + 1, c, o, upd n i 0) = k s' := fun hf =>
      ⟨_, ⟨(nI_1 i).symm, by rw [cand_succ, if_neg (by simp only [hf]; decide)]; exact hO, hC.up (by rw [if_neg (by simp only [hf]; decide)])⟩, rfl⟩
    unfold fb_X2_offerOpenRooms_24
    rw [if_neg (nI_ge hi (by omega)), gd_in (show i < 12 by omega) (by omega)]
    by_cases c1 : lev i = 0
    · rw [if_pos (by rw [cl (by omega), hL i hi, c1]; rfl), gd_in (show i < 12 by omega) (by omega)]
      by_cases c2 : knd i = 2
      · have hf : (lev i == 0 && ch par knd i) = false := by rw [ch_s hp (by omega) hi]; simp [c2]
        rw [if_pos (by rw [cl (by omega), hD i hi, c2]; rfl), fin0 hf]
        exact hno hf
      · rw [if_neg (show ¬ kind (nI i).toNatClampNeg = 2 from fun z => by rw [cl (by omega), hD i hi] at z; exact c2 ((nI_eq (b := 2) (by omega) (by omega)).mp z)), gd_in (show i < 12 by omega) (by omega), cl (by omega), hP.2 i h1 hi, gd_in (show par i < 12 by omega) (by omega), cl (by omega), hC (par i) hpi]
        have hq : lev (par i) = 0 := hl i h1 hi c1
        by_cases c3 : ch par knd (par i) = true
        · have ht : (lev i == 0 && ch par knd i) = true := by rw [ch_s hp (by omega) hi]; simp [c1, c2, c3]
          rw [if_pos (show (lev (par i) == 0 && ch par knd (par i)) = true by simp [hq, c3]), if_neg (show ¬ (1 : Int32) = 0 by decide)]
          unfold f_X2_offerOpenRooms_87 f_X2_offerOpenRooms_105
          obtain ⟨c', o', g1, g2⟩ := c_offer hO (by omega) i
          rw [gd_in (show i < 12 by omega) (by omega), gd_in (show i < 12 by omega) (by omega), cl (by omega), narb1, pk_us, if_neg (by decide), g1, bs]
          refine ⟨_, ?_, rfl⟩
          exact ⟨(nI_1 i).symm, by rw [cand_succ, if_pos ht]; exact g2, hC.up (by rw [if_pos ht])⟩
        · have hf : (lev i == 0 && ch par knd i) = false := by rw [ch_s hp (by omega) hi]; simp [c3]
          rw [if_neg (show ¬ (lev (par i) == 0 && ch par knd (par i)) = true by simp [c3]), if_pos rfl, fin0 hf]
          exact hno hf
    · have hf : (lev i == 0 && ch par knd i) = false := by simp [c1]
      rw [if_neg (show ¬ level (nI i).toNatClampNeg = 0 from fun z => by rw [cl (by omega), hL i hi] at z; exact c1 ((nI_eq (b := 0) (by omega) (by omega)).mp z)), fin0 hf]
      exact hno hf
  · rintro ⟨x1, c, o, n⟩ ⟨e1, hO, hC⟩ k
    dsimp only at e1 hO hC ⊢
    subst e1
    unfold fb_X2_offerOpenRooms_24
    rw [if_pos (nI_le (Nat.le_refl _) (by omega))]
    exact ⟨_, _, _, rfl, hO⟩
theorem opnL_ne {R : Nat} {par lev knd : Nat → Nat} (hR1 : 1 ≤ R) (h0 : lev 0 = 0) : opnL R par lev knd ≠ [] := cand_ne (q := 0) hR1 (by simp [h0, ch_0])
theorem c_laySmallKeys {R n : Nat} {st : Int64} {cnt : Int32} {parent level kind ly off opn : Nat → Int32} {par lev knd lyf : Nat → Nat} (hR : R ≤ 12) (hR1 : 1 ≤ R) (hn : n ≤ 3) (hP : Rq R parent par) (hL : Rp R level lev) (hD : Rp R kind knd) (hp : ∀ q, 1 ≤ q → q < R → par q < q)
    (h0 : lev 0 = 0) (hl : ∀ q, 1 ≤ q → q < R → lev q = 0 → lev (par q) = 0) (hlb : ∀ q, q < R → lev q < 100) (hkb : ∀ q, q < R → knd q < 100) (hY : Rp R ly lyf) (hyb : ∀ q, lyf q < 8) :
    ∃ c' o' l' n', f_X2_laySmallKeys (nI n) (nI R) st cnt parent level kind ly off opn = some ((skN (opnL R par lev knd) (st, lyf) n).1, c', l', o', n') ∧ Rp R l' (skN (opnL R par lev knd) (st, lyf) n).2 := by
  unfold f_X2_laySmallKeys
  obtain ⟨c1, o1, n1, g1, g2⟩ := c_openRooms (cnt := cnt) (off := off) (opn := opn) hR hR1 hP hL hD hp h0 hl hlb hkb
  have hne := opnL_ne (par := par) (knd := knd) hR1 h0
  have hlen := cand_len R (fun r => lev r == 0 && ch par knd r)
  rw [g1, bs]
  unfold f_X2_laySmallKeys_6
  refine lp_for0 (fun o => ∃ (c' : Int32) (o' l' n' : Nat → Int32), o = some ((skN (opnL R par lev knd) (st, lyf) n).1, c', l', o', n') ∧ Rp R l' (skN (opnL R par lev knd) (st, lyf) n).2) n (by omega)
    (fun i s => nI n = s.1 ∧ nI i = s.2.1 ∧ (skN (opnL R par lev knd) (st, lyf) i).1 = s.2.2.1 ∧ c1 = s.2.2.2.1 ∧ Rp R s.2.2.2.2.1 (skN (opnL R par lev knd) (st, lyf) i).2 ∧ o1 = s.2.2.2.2.2.1) ⟨rfl, rfl, rfl, rfl, hY, rfl⟩ ?_ ?_
  · rintro i ⟨x1, x2, s3, c, l, o, n9⟩ hi ⟨e1, e2, e3, e4, hY, e5⟩ k
    dsimp only at e1 e2 e3 e4 e5 hY ⊢
    subst e1 e2 e3 e4 e5
    left
    have hpk : pick (skN (opnL R par lev knd) (st, lyf) i).1 (opnL R par lev knd) < R := (cand_mem.mp (pick_mem (st := (skN (opnL R par lev knd) (st, lyf) i).1) hne)).1
    have hlt := skN_lt (l := opnL R par lev knd) (S := (st, lyf)) (fun q => by have := hyb q; show lyf q < 64; omega) i (by omega)
    unfold fb_X2_laySmallKeys_6 f_X5_smallKeyBit
    rw [if_neg (nI_ge hi (by omega)), c_offered g2 (by unfold opnL; omega) hne, bs, gd_in (show pick (skN (opnL R par lev knd) (st, lyf) i).1 (opnL R par lev knd) < 12 by omega) (by omega), bs, gd_in (show pick (skN (opnL R par lev knd) (st, lyf) i).1 (opnL R par lev knd) < 12 by omega) (by omega), cl (by omega), hY _ hpk, smallBit_eq i (by omega),
      nI_or (by have := hlt (pick (skN (opnL R par lev knd) (st, lyf) i).1 (opnL R par lev knd)); omega) (by have : (2 : Nat) ^ i < 2 ^ 3 := Nat.pow_lt_pow_right (by omega) (by omega); omega)]
    refine ⟨_, ?_, rfl⟩
    exact ⟨rfl, (nI_1 i).symm, rfl, rfl, hY.set _ _, rfl⟩
  · rintro ⟨x1, x2, s3, c, l, o, n9⟩ ⟨e1, e2, e3, e4, hY, e5⟩ k
    dsimp only at e1 e2 e3 e4 e5 hY ⊢
    subst e1 e2 e3 e4 e5
    unfold fb_X2_laySmallKeys_6
    rw [if_pos (nI_le (Nat.le_refl _) (by omega))]
    exact ⟨_, _, _, _, rfl, hY⟩
theorem BaW.lt {R : Nat} {knd : Nat → Nat} {S : BS} (h : BaW R knd S) (hk : ∀ q, q < R → knd q ≤ 2) : ∀ q, q < R → S.2.1 q ≤ 4 := fun q hq => by
  rcases h.1 q with z | z
  · have := hk q hq; omega
  · omega
theorem c_makeBarriers {R n : Nat} {st : Int64} {cnt : Int32} {parent kind sw off : Nat → Int32} {par knd : Nat → Nat} (hR : R ≤ 12) (hR1 : 1 ≤ R) (hn : n ≤ 2) (hP : Rq R parent par) (hp : ∀ q, 1 ≤ q → q < R → par q < q) (hD : Rp R kind knd) (hk : ∀ q, q < R → knd q ≤ 2) (hs : ∀ q, q < 12 → sw q = 0) :
    ∃ c' o' k' s', f_X2_makeBarriers (nI n) (nI R) st cnt parent kind sw off = some ((baN R par st knd n).1, c', k', s', o') ∧ Rp R k' (baN R par st knd n).2.1 ∧ Rp R s' (baN R par st knd n).2.2 := by
  unfold f_X2_makeBarriers f_X2_makeBarriers_2
  refine lp_for0 (fun o => ∃ (c' : Int32) (o' k' s' : Nat → Int32), o = some ((baN R par st knd n).1, c', k', s', o') ∧ Rp R k' (baN R par st knd n).2.1 ∧ Rp R s' (baN R par st knd n).2.2) n (by omega)
    (fun i s => nI n = s.1 ∧ nI i = s.2.1 ∧ (baN R par st knd i).1 = s.2.2.1 ∧ Rp R s.2.2.2.2.1 (baN R par st knd i).2.1 ∧ Rp R s.2.2.2.2.2.1 (baN R par st knd i).2.2) ⟨rfl, rfl, rfl, hD, fun q hq => hs q (by omega)⟩ ?_ ?_
  · rintro i ⟨x1, x2, s3, c, kd, sn, o⟩ hi ⟨e1, e2, e3, hK, hS⟩ k
    dsimp only at e1 e2 e3 hK hS ⊢
    subst e1 e2 e3
    left
    have hlt := (baN_wf (R := R) (par := par) (st := st) (knd := knd) i).lt hk
    unfold fb_X2_makeBarriers_2 f_X2_makeBarriers_82
    obtain ⟨c', o', g1, g2⟩ := c_plain (cnt := c) (off := o) hR hR1 hK (fun q hq => by have := hlt q hq; omega)
    have hlen := cand_len R (fun r => decide (0 < r) && (baN R par st knd i).2.1 r == 0)
    rw [if_neg (nI_ge hi (by omega)), g1, bs, c_hasOffer g2 (by unfold plain; omega), bs]
    by_cases e : plain R (baN R par st knd i).2.1 = []
    · rw [if_pos e, if_pos rfl]
      have hst : baN R par st knd (i + 1) = baN R par st knd i := by
        show baStep R par (baN R par st knd i) = _; unfold baStep; rw [if_pos e]
      rw [hst]
      refine ⟨_, ?_, rfl⟩
      exact ⟨rfl, (nI_1 i).symm, rfl, hK, hS⟩
    · obtain ⟨p1, p2, p3⟩ := plain_pick (st := (baN R par st knd i).1) e
      have hst : baN R par st knd (i + 1) = (nx (nx (baN R par st knd i).1), va_up (baN R par st knd i).2.1 (pick (baN R par st knd i).1 (plain R (baN R par st knd i).2.1)) (if dv (nx (nx (baN R par st knd i).1)) 2 = 0 then 3 else 4), va_up (va_up (baN R par st knd i).2.2 (pick (baN R par st knd i).1 (plain R (baN R par st knd i).2.1)) 1) (par (pick (baN R par st knd i).1 (plain R (baN R par st knd i).2.1))) 1) := by
        show baStep R par (baN R par st knd i) = _; unfold baStep; rw [if_neg e]
      rw [if_neg e, if_neg (by decide), c_offered g2 (by unfold plain; omega) e, bs, show (2 : Int32) = nI 2 from rfl, c_number (by omega) (by omega), bs, hst]
      generalize pick (baN R par st knd i).1 (plain R (baN R par st knd i).2.1) = r at p1 p2 p3
      have hpr := hp r p2 p1
      have h2 := dv_lt (nx (nx (baN R par st knd i).1)) (show 0 < 2 by omega)
      have hfin : ∀ (v : Nat) {st' : Int64} {c9 : Int32} {o9 : Nat → Int32}, f_X2_makeBarriers_53 (nI R) parent (fun a b c d e f g => k (a, b, c, d, e, f, g)) (nI n) (nI i) (nI r) (nI r) (nI v) st' c9 kd sn o9 = k (nI n, nI i + 1, st', c9, upd kd r (nI v), upd (upd sn r (nI 1)) (par r) (nI 1), o9) := by
        intro v st' c9 o9
        unfold f_X2_makeBarriers_53 f_X2_makeBarriers_82
        rw [gd_in (show r < 12 by omega) (by omega), gd_in (show r < 12 by omega) (by omega), gd_in (show r < 12 by omega) (by omega), cl (by omega), hP.2 r p2 p1, gd_in (show par r < 12 by omega) (by omega), cl (by omega), narb1]
        rfl
      by_cases e2 : dv (nx (nx (baN R par st knd i).1)) 2 = 0
      · rw [if_pos (show nI (dv (nx (nx (baN R par st knd i).1)) 2) = 0 by rw [e2]; rfl), if_pos e2]
        refine ⟨_, ?_, hfin 3⟩
        exact ⟨rfl, (nI_1 i).symm, rfl, hK.set _ _, (hS.set _ _).set _ _⟩
      · rw [if_neg (show ¬ nI (dv (nx (nx (baN R par st knd i).1)) 2) = 0 from fun z => e2 ((nI_eq (b := 0) (by omega) (by omega)).mp z)), if_neg e2]
        refine ⟨_, ?_, hfin 4⟩
        exact ⟨rfl, (nI_1 i).symm, rfl, hK.set _ _, (hS.set _ _).set _ _⟩
  · rintro ⟨x1, x2, s3, c, kd, sn, o⟩ ⟨e1, e2, e3, hK, hS⟩ k
    dsimp only at e1 e2 e3 hK hS ⊢
    subst e1 e2 e3
    unfold fb_X2_makeBarriers_2
    rw [if_pos (nI_le (Nat.le_refl _) (by omega))]
    exact ⟨_, _, _, _, rfl, hK, hS⟩
