/-! make of the reference. -/
theorem m_clear (sd nw : Int32) (mp ml mk mx my mly msw mlo : Nat → Int32) : ∃ mp' ml' mk' mx' my' mly' msw' mlo', f_X7_clear sd nw mp ml mk mx my mly msw mlo = some (0, 0, mp', ml', mk', mx', my', mly', msw', mlo') ∧
    (∀ q, q < 12 → mp' q = -1 ∧ ml' q = 0 ∧ mk' q = 0 ∧ mx' q = 0 ∧ my' q = 0 ∧ mly' q = 0 ∧ msw' q = 0) ∧ ML mlo' (fun _ _ => false) := by
  unfold f_X7_clear f_X7_clear_2
  refine lp_for0 (fun o => ∃ mp' ml' mk' mx' my' mly' msw' mlo' : Nat → Int32, o = some (0, 0, mp', ml', mk', mx', my', mly', msw', mlo') ∧ (∀ q, q < 12 → mp' q = -1 ∧ ml' q = 0 ∧ mk' q = 0 ∧ mx' q = 0 ∧ my' q = 0 ∧ mly' q = 0 ∧ msw' q = 0) ∧ ML mlo' (fun _ _ => false)) 12 (by omega)
    (fun i s => nI i = s.1 ∧ (∀ q, q < i → s.2.2.2.1 q = -1 ∧ s.2.2.2.2.1 q = 0 ∧ s.2.2.2.2.2.1 q = 0 ∧ s.2.2.2.2.2.2.1 q = 0 ∧ s.2.2.2.2.2.2.2.1 q = 0 ∧ s.2.2.2.2.2.2.2.2.1 q = 0 ∧ s.2.2.2.2.2.2.2.2.2.1 q = 0) ∧ ∀ x y, x < i → y < 12 → s.2.2.2.2.2.2.2.2.2.2 (12 * x + y) = 0) ⟨rfl, fun q h => by omega, fun x y h => by omega⟩ ?_ ?_
  · rintro i ⟨x1, s2, s3, a, b, c, d, e, f, g, l⟩ hi ⟨e1, hA, hB⟩ k
    dsimp only at e1 hA hB ⊢
    subst e1
    left
    unfold fb_X7_clear_2
    rw [if_neg (show ¬ (12 : Int32) ≤ nI i from nI_ge (b := 12) hi (by omega))]
    simp only [gd_in hi (show (12 : Nat) < 2 ^ 31 by omega)]
    rw [cl (by omega), narb0]
    unfold f_X7_clear_59
    have hA' : ∀ q, q < i + 1 → (upd a i (-1)) q = -1 ∧ (upd b i 0) q = 0 ∧ (upd c i 0) q = 0 ∧ (upd d i 0) q = 0 ∧ (upd e i 0) q = 0 ∧ (upd f i 0) q = 0 ∧ (upd g i 0) q = 0 := fun q hq => by
      by_cases z : q = i
      · subst z; exact ⟨pk_us, pk_us, pk_us, pk_us, pk_us, pk_us, pk_us⟩
      · rw [pk_un z, pk_un z, pk_un z, pk_un z, pk_un z, pk_un z, pk_un z]; exact hA q (by omega)
    refine lp_for0 (fun o => ∃ s', (nI (i + 1) = s'.1 ∧ (∀ q, q < i + 1 → s'.2.2.2.1 q = -1 ∧ s'.2.2.2.2.1 q = 0 ∧ s'.2.2.2.2.2.1 q = 0 ∧ s'.2.2.2.2.2.2.1 q = 0 ∧ s'.2.2.2.2.2.2.2.1 q = 0 ∧ s'.2.2.2.2.2.2.2.2.1 q = 0 ∧ s'.2.2.2.2.2.2.2.2.2.1 q = 0) ∧ ∀ x y, x < i + 1 → y < 12 → s'.2.2.2.2.2.2.2.2.2.2 (12 * x + y) = 0) ∧ o = k s') 12 (by omega)
      (fun j (s : Int32 × Int32 × Int32 × Int32 × (Nat → Int32) × (Nat → Int32) × (Nat → Int32) × (Nat → Int32) × (Nat → Int32) × (Nat → Int32) × (Nat → Int32) × (Nat → Int32)) => nI i = s.1 ∧ nI j = s.2.1 ∧ (∀ q, q < i + 1 → s.2.2.2.2.1 q = -1 ∧ s.2.2.2.2.2.1 q = 0 ∧ s.2.2.2.2.2.2.1 q = 0 ∧ s.2.2.2.2.2.2.2.1 q = 0 ∧ s.2.2.2.2.2.2.2.2.1 q = 0 ∧ s.2.2.2.2.2.2.2.2.2.1 q = 0 ∧ s.2.2.2.2.2.2.2.2.2.2.1 q = 0) ∧ ∀ x y, y < 12 → (x < i ∨ (x = i ∧ y < j)) → s.2.2.2.2.2.2.2.2.2.2.2 (12 * x + y) = 0) ?_ ?_ ?_
    · exact ⟨rfl, rfl, hA', fun x y hy h => hB x y (by omega) hy⟩
    · rintro j ⟨y1, y2, t3, t4, a', b', c', d', e', f', g', l'⟩ hj ⟨f1, f2, hA2, hB2⟩ k9
      dsimp only at f1 f2 hA2 hB2 ⊢
      subst f1 f2
      left
      have i1 : (12 : Int32) * nI i + nI j = nI (12 * i + j) := by rw [show (12 : Int32) = nI 12 from rfl, pk_mul, nI_add]
      unfold fb_X7_clear_59
      rw [if_neg (show ¬ (12 : Int32) ≤ nI j from nI_ge (b := 12) hj (by omega)), i1, gd_in (show 12 * i + j < 144 by omega) (by omega), cl (by omega), narb0]
      refine ⟨_, ?_, rfl⟩
      refine ⟨rfl, (nI_1 j).symm, hA2, fun x y hy h => ?_⟩
      by_cases z : 12 * x + y = 12 * i + j
      · show upd l' (12 * i + j) 0 (12 * x + y) = 0
        rw [z]; exact pk_us
      · exact (pk_un z).trans (hB2 x y hy (by omega))
    · rintro ⟨y1, y2, t3, t4, a', b', c', d', e', f', g', l'⟩ ⟨f1, f2, hA2, hB2⟩ k9
      dsimp only at f1 f2 hA2 hB2 ⊢
      subst f1 f2
      unfold fb_X7_clear_59
      rw [if_pos (show (12 : Int32) ≤ nI 12 from nI_le (Nat.le_refl _) (by omega))]
      refine ⟨_, ?_, rfl⟩
      exact ⟨(nI_1 i).symm, hA2, fun x y hx hy => hB2 x y hy (by omega)⟩
  · rintro ⟨x1, s2, s3, a, b, c, d, e, f, g, l⟩ ⟨e1, hA, hB⟩ k
    dsimp only at e1 hA hB ⊢
    subst e1
    unfold fb_X7_clear_2
    rw [if_pos (show (12 : Int32) ≤ nI 12 from nI_le (Nat.le_refl _) (by omega))]
    exact ⟨_, _, _, _, _, _, _, _, rfl, hA, fun x y hx hy => by rw [if_neg (show ¬ false = true by decide)]; exact hB x y hx hy⟩
/-- goal, places, loops -/
theorem m_make90 {R K : Nat} {st : Int64} {sdc gl nw : Int32} {mp ml mk mn mx my mly msw mlo mc : Nat → Int32} {par lev : Nat → Nat} (hR : R ≤ 12) (hR1 : 1 ≤ R) (hK : K ≤ 3) (hP : Rq R mp par) (hp : ∀ q, 1 ≤ q → q < R → par q < q) (hL : Rp R ml lev) (hlb : ∀ q, q < R → lev q < 100) (hx0 : mx 0 = 0) (hy0 : my 0 = 0) (hM : ML mlo (fun _ _ => false)) (hne : cand R (fun q => lev q == K) ≠ [])
    {pl : PS} (hpl : plN par (nx st) (R - 1) = pl) {lo : LS9} (hlo : loN (fitB par lev pl.2.1 pl.2.2) pl.1 (R - 1) = lo) :
    ∃ st' mx' my' mlo' mc', f_X7_make_90 (nI R) (nI K) 0 st (nI R) sdc gl nw mp ml mk mn mx my mly msw mlo mc = some (nI (R - 1 + lo.2.2), st', nI R, sdc, nI (pick st (cand R (fun q => lev q == K))), nw, mp, ml, mk, mn, mx', my', mly, msw, mlo', mc') ∧ Xp R mx' pl.2.1 ∧ Xp R my' pl.2.2 ∧ ML mlo' lo.2.1 := by
  unfold f_X7_make_90
  refine lp_for0 (fun o => ∃ (st' : Int64) (mx' my' mlo' mc' : Nat → Int32), o = some (nI (R - 1 + lo.2.2), st', nI R, sdc, nI (pick st (cand R (fun q => lev q == K))), nw, mp, ml, mk, mn, mx', my', mly, msw, mlo', mc') ∧ Xp R mx' pl.2.1 ∧ Xp R my' pl.2.2 ∧ ML mlo' lo.2.1) R (by omega)
    (fun i s => nI R = s.1 ∧ nI K = s.2.1 ∧ nI i = s.2.2.1 ∧ st = s.2.2.2.1 ∧ nI R = s.2.2.2.2.1 ∧ sdc = s.2.2.2.2.2.1 ∧ nw = s.2.2.2.2.2.2.2.1 ∧ mp = s.2.2.2.2.2.2.2.2.1 ∧ ml = s.2.2.2.2.2.2.2.2.2.1 ∧ mk = s.2.2.2.2.2.2.2.2.2.2.1 ∧ mn = s.2.2.2.2.2.2.2.2.2.2.2.1 ∧ mx = s.2.2.2.2.2.2.2.2.2.2.2.2.1 ∧ my = s.2.2.2.2.2.2.2.2.2.2.2.2.2.1 ∧ mly = s.2.2.2.2.2.2.2.2.2.2.2.2.2.2.1 ∧ msw = s.2.2.2.2.2.2.2.2.2.2.2.2.2.2.2.1 ∧ mlo = s.2.2.2.2.2.2.2.2.2.2.2.2.2.2.2.2.1 ∧ Chs i s.2.2.2.2.2.2.2.2.2.2.2.2.2.2.2.2.2 (fun q => lev q == K))
    ⟨rfl, rfl, rfl, rfl, rfl, rfl, rfl, rfl, rfl, rfl, rfl, rfl, rfl, rfl, rfl, rfl, Chs.nil⟩ ?_ ?_
  · rintro i ⟨x3, x4, x7, a1, a2, a3, a4, a5, a6, a7, a8, a9, a10, a11, a12, a13, a14, c⟩ hi ⟨e1, e2, e3, e4, e5, e6, e7, e8, e9, e10, e11, e12, e13, e14, e15, e16, hC⟩ k
    dsimp only at e1 e2 e3 e4 e5 e6 e7 e8 e9 e10 e11 e12 e13 e14 e15 e16 hC ⊢
    subst e1 e2 e3 e4 e5 e6 e7 e8 e9 e10 e11 e12 e13 e14 e15 e16
    left
    have hli := hlb i hi
    unfold fb_X7_make_90 f_X7_make_119
    rw [if_neg (nI_ge hi (by omega)), gd_in (show i < 12 by omega) (by omega), gd_in (show i < 12 by omega) (by omega), gd_in (show i < 12 by omega) (by omega), cl (by omega), hL i hi, narb0, narb1]
    by_cases c1 : lev i = K
    · rw [if_pos (by rw [c1])]
      refine ⟨_, ?_, rfl⟩
      exact ⟨rfl, rfl, (nI_1 i).symm, rfl, rfl, rfl, rfl, rfl, rfl, rfl, rfl, rfl, rfl, rfl, rfl, rfl, hC.up (by rw [if_pos (by simp [c1])])⟩
    · rw [if_neg (fun z => c1 ((nI_eq (by omega) (by omega)).mp z))]
      refine ⟨_, ?_, rfl⟩
      exact ⟨rfl, rfl, (nI_1 i).symm, rfl, rfl, rfl, rfl, rfl, rfl, rfl, rfl, rfl, rfl, rfl, rfl, rfl, hC.up (by rw [if_neg (by simp [c1])])⟩
  · rintro ⟨x3, x4, x7, a1, a2, a3, a4, a5, a6, a7, a8, a9, a10, a11, a12, a13, a14, c⟩ ⟨e1, e2, e3, e4, e5, e6, e7, e8, e9, e10, e11, e12, e13, e14, e15, e16, hC⟩ k
    dsimp only at e1 e2 e3 e4 e5 e6 e7 e8 e9 e10 e11 e12 e13 e14 e15 e16 hC ⊢
    subst e1 e2 e3 e4 e5 e6 e7 e8 e9 e10 e11 e12 e13 e14 e15 e16
    unfold fb_X7_make_90
    obtain ⟨x', y', g1, hX, hY⟩ := m_makePlaces (st := nx st) hR hR1 hP hp hx0 hy0
    have hpw := plN_wf (st := nx st) hR hp (R - 1) (by omega)
    rw [hpl] at g1 hX hY hpw
    have bX : Bd R pl.2.1 := fun q hq => by have := hpw q (by omega); omega
    have bY : Bd R pl.2.2 := fun q hq => by have := hpw q (by omega); omega
    obtain ⟨l', g2, hM2⟩ := m_makeLoops (st := pl.1) hR hR1 hP hp hL hlb hX hY bX bY hM
    rw [hlo] at g2 hM2
    rw [if_pos (nI_le (Nat.le_refl _) (by omega)), m_drawn hR hC hne, bs, g1, bs, g2, bs]
    have hadd : nI R - 1 + nI lo.2.2 = nI (R - 1 + lo.2.2) := by
      rw [← nI_add]
      congr 1
      exact pk_sub (b := 1) hR1
    rw [hadd]
    exact ⟨_, _, _, _, _, rfl, hX, hY, hM2⟩
theorem m_make {R K n b : Nat} (seed : Int64) (hR2 : 2 ≤ R) (hR : R ≤ 12) (hK1 : 1 ≤ K) (hK : K ≤ 3) (hKR : K < R) (hn : n ≤ 3) (hb : b ≤ 2) (st : Int64) (rooms sdc goal nw : Int32) (mp ml mk mn mx my mly msw mlo mc : Nat → Int32) :
    ∃ st' sdc' mp' ml' mk' mn' mx' my' mly' msw' mlo' mc', f_X7_make seed (nI R) (nI K) (nI n) (nI b) st rooms sdc goal nw mp ml mk mn mx my mly msw mlo mc = some (nI (mkA seed R K n b).2, st', nI R, sdc', nI (aG (mkA seed R K n b).1), 0, mp', ml', mk', mn', mx', my', mly', msw', mlo', mc') ∧
      AdvM (mkA seed R K n b).1 (nI R) (nI (aG (mkA seed R K n b).1)) mp' ml' mk' mn' mx' my' mly' msw' mlo' := by
  obtain ⟨f1, f2, f3, f4, f5, f6, f7⟩ := mk_facts seed hR2 hR hK1 hK hKR hn hb rfl
  have hlb : ∀ q, q < R → (rmN R K seed (R - 1)).2.2.2.1 q < 100 := fun q hq => by have := f2 q hq; omega
  have hk1 : ∀ q, q < R → (rmN R K seed (R - 1)).2.2.2.2 q ≤ 1 := fun q hq => by have := f5 q hq; omega
  unfold f_X7_make mkA
  rw [if_neg (show ¬ nI R < 2 from nI_nlt (b := 2) hR2 (by omega)), if_neg (show ¬ (12 : Int32) < nI R from nI_nlt (a := 12) hR (by omega)), if_neg (show ¬ nI K < 1 from nI_nlt (b := 1) hK1 (by omega)), if_neg (show ¬ (3 : Int32) < nI K from nI_nlt (a := 3) hK (by omega)), if_neg (show ¬ nI R ≤ nI K from nI_ge hKR (by omega)), if_neg (nI_pos (n := n) (by omega)), if_neg (show ¬ (3 : Int32) < nI n from nI_nlt (a := 3) hn (by omega)), if_neg (nI_pos (n := b) (by omega)), if_pos (show nI b ≤ 2 from nI_le (b := 2) hb (by omega))]
  obtain ⟨mp0, ml0, mk0, mx0, my0, mly0, msw0, mlo0, g0, hz, hM0⟩ := m_clear sdc nw mp ml mk mx my mly msw mlo
  rw [g0, bs]
  obtain ⟨p1, l1, k1, c1, g1, hP, hL, hD⟩ := m_makeRooms hR (by omega) hK hKR seed mc (hz 0 (by omega)).1 (hz 0 (by omega)).2.1 (hz 0 (by omega)).2.2.1
  rw [g1, bs]
  generalize rmN R K seed (R - 1) = S at *
  obtain ⟨k2, n2, ly2, c2, g2, hSd, hY⟩ := m_makeKeys (st := S.2.1) (K := K) (n := n) mn c1 hR (by omega) hn hK hP hL hD f1 f3 hlb hk1 (fun q hq => (hz q hq).2.2.2.2.2.1) rfl rfl
  rw [g2, bs]
  dsimp only
  generalize kyN R S.2.2.2.1 S.2.1 K = ky at *
  have hsd := sdN_wf (R := R) (st := ky.1) (knd := S.2.2.2.2) hk1 n
  generalize sdN R ky.1 S.2.2.2.2 n = sd at *
  have hsl := hsd.lt hk1
  generalize skN (opnL R S.2.2.1 S.2.2.2.1 sd.2.2.1) (sd.1, ky.2) sd.2.1 = sk at *
  obtain ⟨k3, s3, c3, g3, hD3, hS3⟩ := m_makeBarriers (n := b) (st := sk.1) c2 hR (by omega) hb hP f1 hSd.1 hsl (fun q hq => (hz q hq).2.2.2.2.2.2)
  rw [g3, bs]
  have hba := baN_wf (R := R) (par := S.2.2.1) (st := sk.1) (knd := sd.2.2.1) b
  generalize baN R S.2.2.1 sk.1 sd.2.2.1 b = ba at *
  obtain ⟨st4, x4, y4, lo4, c4, g4, hX, hYy, hM4⟩ := m_make90 (K := K) (st := ba.1) (sdc := nI sd.2.1) (gl := goal) (nw := 0) (mk := k3) (mn := n2) (mly := ly2) (msw := s3) (mc := c3) hR (by omega) hK hP f1 hL hlb (hz 0 (by omega)).2.2.2.1 (hz 0 (by omega)).2.2.2.2.1 hM0 f7 rfl rfl
  rw [g4]
  refine ⟨_, _, _, _, _, _, _, _, _, _, _, _, rfl, rfl, rfl, hP, hL, hD3, fun q hq e => ?_, hX, hYy, hY, hS3, hM4⟩
  have e' : ba.2.1 q = 2 := e
  refine hSd.2 q hq ?_
  rcases hba.1 q with z | z
  · rw [← z]; exact e'
  · omega
