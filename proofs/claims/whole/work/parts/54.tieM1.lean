/-! The reference's rooms are the spec's. -/
def Chs (n : Nat) (c : Nat → Int32) (p : Nat → Bool) : Prop := ∀ q, q < n → c q = if p q = true then 1 else 0
theorem Chs.nil {c : Nat → Int32} {p : Nat → Bool} : Chs 0 c p := fun q h => absurd h (Nat.not_lt_zero _)
theorem Chs.up {n : Nat} {c : Nat → Int32} {p : Nat → Bool} (h : Chs n c p) {v : Int32} (hv : v = if p n = true then 1 else 0) : Chs (n + 1) (upd c n v) p := by
  intro q hq
  by_cases e : q = n
  · subst e; rw [pk_us]; exact hv
  · rw [pk_un e]; exact h q (by omega)
theorem narb0 : vp_nar .boolean 0 = 0 := by decide
theorem narb1 : vp_nar .boolean 1 = 1 := by decide
theorem cand_pre {p : Nat → Bool} {i : Nat} : ∀ {R : Nat}, i ≤ R → ∃ t, cand R p = cand i p ++ t
  | 0, h => ⟨[], by rw [show i = 0 by omega]; simp⟩
  | R + 1, h => by
    by_cases e : i = R + 1
    · subst e; exact ⟨[], by simp⟩
    · obtain ⟨t, ht⟩ := cand_pre (p := p) (i := i) (R := R) (by omega)
      rw [cand_succ]
      by_cases hp : p R = true
      · rw [if_pos hp, ht]; exact ⟨t ++ [R], by simp⟩
      · rw [if_neg hp]; exact ⟨t, ht⟩
theorem cand_get {p : Nat → Bool} {i R : Nat} (hi : i < R) (hp : p i = true) : (cand R p).getD (cand i p).length 0 = i := by
  obtain ⟨t, ht⟩ := cand_pre (p := p) (show i + 1 ≤ R by omega)
  rw [ht, cand_succ, if_pos hp]
  simp
theorem cand_lt {p : Nat → Bool} {r : Nat} : ∀ {R : Nat}, r ≤ R → cand R (fun q => decide (q < r) && p q) = cand r p
  | 0, h => by rw [show r = 0 by omega]; rfl
  | R + 1, h => by
    by_cases e : r = R + 1
    · subst e
      unfold cand
      apply List.filter_congr
      intro x hx
      have := List.mem_range.mp hx
      simp [this]
    · rw [cand_succ, if_neg (by simp; omega)]
      exact cand_lt (by omega)
theorem m_drawn2 {R d : Nat} {st : Int64} {chosen : Nat → Int32} {p : Nat → Bool} (hR : R ≤ 12) (hC : Chs R chosen p) (hd : d < (cand R p).length) : f_X7_drawn_43 (nI R) chosen (nI d) 0 st = some (nI ((cand R p).getD d 0), st) := by
  have hl := cand_len R p
  unfold f_X7_drawn_43
  refine lp_for0 (fun o => o = some (nI ((cand R p).getD d 0), st)) R (by omega) (fun i s => (cand i p).length ≤ d ∧ nI (d - (cand i p).length) = s.1 ∧ nI i = s.2.1 ∧ st = s.2.2) ⟨Nat.zero_le _, rfl, rfl, rfl⟩ ?_ ?_
  · rintro i ⟨x2, x3, s4⟩ hi ⟨h1, e1, e2, e3⟩ k
    dsimp only at e1 e2 e3 ⊢
    subst e1 e2 e3
    unfold fb_X7_drawn_43 f_X7_drawn_69
    rw [if_neg (nI_ge hi (by omega)), gd_in (show i < 12 by omega) (by omega), cl (by omega), hC i hi]
    by_cases hp : p i = true
    · rw [if_pos hp, if_neg (by decide)]
      by_cases e : (cand i p).length = d
      · right
        rw [e, Nat.sub_self, if_pos nI_0, ← e, cand_get hi hp]
      · left
        rw [if_neg (show ¬ nI (d - (cand i p).length) = 0 from fun z => by have := (nI_eq (b := 0) (by omega) (by omega)).mp z; omega)]
        refine ⟨_, ⟨?_, ?_, ?_, ?_⟩, rfl⟩
        · rw [cand_succ, if_pos hp, List.length_append]; exact Nat.lt_of_le_of_ne h1 e
        · rw [cand_succ, if_pos hp, sb_m1 (by omega), List.length_append]; rfl
        · exact (nI_1 i).symm
        · rfl
    · left
      rw [if_neg hp, if_pos rfl]
      refine ⟨_, ⟨?_, ?_, ?_, ?_⟩, rfl⟩
      · rw [cand_succ, if_neg hp]; exact h1
      · rw [cand_succ, if_neg hp]
      · exact (nI_1 i).symm
      · rfl
  · rintro ⟨x2, x3, s4⟩ ⟨h1, -, -, -⟩ k
    omega
theorem m_drawn {R : Nat} {st : Int64} {chosen : Nat → Int32} {p : Nat → Bool} (hR : R ≤ 12) (hC : Chs R chosen p) (hne : cand R p ≠ []) : f_X7_drawn st (nI R) chosen = some (nI (pick st (cand R p)), nx st) := by
  have h0 : 0 < (cand R p).length := List.length_pos_iff.mpr hne
  have hl := cand_len R p
  have hd := dv_lt (nx st) h0
  unfold f_X7_drawn f_X7_drawn_4
  refine lp_for0 (fun o => o = some (nI (pick st (cand R p)), nx st)) R (by omega) (fun i s => nI (cand i p).length = s.1 ∧ nI i = s.2.1 ∧ st = s.2.2) ⟨rfl, rfl, rfl⟩ ?_ ?_
  · rintro i ⟨x1, x2, s3⟩ hi ⟨e1, e2, e3⟩ k
    dsimp only at e1 e2 e3 ⊢
    subst e1 e2 e3
    left
    unfold fb_X7_drawn_4 f_X7_drawn_28
    rw [if_neg (nI_ge hi (by omega)), gd_in (show i < 12 by omega) (by omega), cl (by omega), hC i hi]
    by_cases hp : p i = true
    · rw [if_pos hp, if_neg (by decide)]
      refine ⟨_, ⟨?_, ?_, ?_⟩, rfl⟩
      · rw [cand_succ, if_pos hp, nI_1, List.length_append]; rfl
      · exact (nI_1 i).symm
      · rfl
    · rw [if_neg hp, if_pos rfl]
      refine ⟨_, ⟨?_, ?_, ?_⟩, rfl⟩
      · rw [cand_succ, if_neg hp]
      · exact (nI_1 i).symm
      · rfl
  · rintro ⟨x1, x2, s3⟩ ⟨e1, e2, e3⟩ k
    dsimp only at e1 e2 e3 ⊢
    subst e1 e2 e3
    unfold fb_X7_drawn_4
    rw [if_pos (nI_le (Nat.le_refl _) (by omega)), m_draw h0 (by omega), bs, m_drawn2 hR hC hd]
    rfl
theorem m_makeRooms_choose {R r t K : Nat} {st : Int64} {mp ml mk mc : Nat → Int32} {lev : Nat → Nat} (hR : R ≤ 12) (hr : r < R) (hL : Rp r ml lev) (hb : ∀ q, q < r → lev q < 100) (ht : t < 100)
    (hne : cand r (fun q => lev q == t) ≠ []) (k : Int32 → Int32 → Int32 → Int64 → (Nat → Int32) → (Nat → Int32) → (Nat → Int32) → (Nat → Int32) → Option (Int64 × (Nat → Int32) × (Nat → Int32) × (Nat → Int32) × (Nat → Int32))) :
    ∃ mc', f_X7_makeRooms_39 (nI R) k (nI K) (nI t) (nI r) 1 0 st mp ml mk mc = f_X7_makeRooms_142 (nI R) k (nI K) (nI t) (nI r) 1 (nx st) (upd mp r (nI (pick st (cand r (fun q => lev q == t))))) ml mk mc' := by
  unfold f_X7_makeRooms_39
  refine lp_for0 (fun o => ∃ mc', o = f_X7_makeRooms_142 (nI R) k (nI K) (nI t) (nI r) 1 (nx st) (upd mp r (nI (pick st (cand r (fun q => lev q == t))))) ml mk mc') R (by omega)
    (fun i s => nI K = s.1 ∧ nI t = s.2.1 ∧ nI r = s.2.2.1 ∧ 1 = s.2.2.2.1 ∧ nI i = s.2.2.2.2.1 ∧ st = s.2.2.2.2.2.1 ∧ mp = s.2.2.2.2.2.2.1 ∧ ml = s.2.2.2.2.2.2.2.1 ∧ mk = s.2.2.2.2.2.2.2.2.1 ∧ Chs i s.2.2.2.2.2.2.2.2.2 (fun q => decide (q < r) && lev q == t)) ⟨rfl, rfl, rfl, rfl, rfl, rfl, rfl, rfl, rfl, Chs.nil⟩ ?_ ?_
  · rintro i ⟨x1, x2, x3, x4, x5, s6, a, b, c, d⟩ hi ⟨e1, e2, e3, e4, e5, e6, e7, e8, e9, hC⟩ k'
    dsimp only at e1 e2 e3 e4 e5 e6 e7 e8 e9 hC ⊢
    subst e1 e2 e3 e4 e5 e6 e7 e8 e9
    left
    unfold fb_X7_makeRooms_39 f_X7_makeRooms_75 f_X7_makeRooms_76
    rw [if_neg (nI_ge hi (by omega))]
    by_cases h1 : r ≤ i
    · rw [if_pos (nI_le h1 (by omega)), gd_in (show i < 12 by omega) (by omega), cl (by omega), narb0, nI_1]
      exact ⟨_, ⟨rfl, rfl, rfl, rfl, rfl, rfl, rfl, rfl, rfl, hC.up (by rw [if_neg (by simp; omega)])⟩, rfl⟩
    · rw [if_neg (nI_ge (by omega) (by omega)), gd_in (show i < 12 by omega) (by omega), gd_in (show i < 12 by omega) (by omega), gd_in (show i < 12 by omega) (by omega), cl (by omega), hL i (by omega), narb0, narb1, nI_1]
      by_cases h2 : lev i = t
      · rw [if_pos (by rw [h2])]
        exact ⟨_, ⟨rfl, rfl, rfl, rfl, rfl, rfl, rfl, rfl, rfl, hC.up (by rw [if_pos (by simp [h2]; omega)])⟩, rfl⟩
      · rw [if_neg (fun z => h2 ((nI_eq (by have := hb i (by omega); omega) (by omega)).mp z))]
        exact ⟨_, ⟨rfl, rfl, rfl, rfl, rfl, rfl, rfl, rfl, rfl, hC.up (by rw [if_neg (by simp [h2])])⟩, rfl⟩
  · rintro ⟨x1, x2, x3, x4, x5, s6, a, b, c, d⟩ ⟨e1, e2, e3, e4, e5, e6, e7, e8, e9, hC⟩ k'
    dsimp only at e1 e2 e3 e4 e5 e6 e7 e8 e9 hC ⊢
    subst e1 e2 e3 e4 e5 e6 e7 e8 e9
    unfold fb_X7_makeRooms_39
    have hcl := cand_lt (p := fun q => lev q == t) (show r ≤ R by omega)
    rw [if_pos (nI_le (Nat.le_refl _) (by omega)), m_drawn hR hC (by rw [hcl]; exact hne), bs, gd_in (show r < 12 by omega) (by omega), cl (by omega), hcl]
    exact ⟨d, rfl⟩
theorem makeRooms_step {R K n : Nat} {S : RS} (hR : R ≤ 12) (hn : n + 1 < R) (hK : K ≤ 3) (h : RmW R K n S) {mp ml mk mc : Nat → Int32} (hC : CRm (n + 1) S mp ml mk)
    (k : Int32 → Int32 → Int32 → Int64 → (Nat → Int32) → (Nat → Int32) → (Nat → Int32) → (Nat → Int32) → Option (Int64 × (Nat → Int32) × (Nat → Int32) × (Nat → Int32) × (Nat → Int32))) :
    ∃ p' l' k' c', CRm (n + 2) (rmStep R K (n + 1) S) p' l' k' ∧
      fb_X7_makeRooms_4 (nI R) k (nI K) (nI S.1) (nI (n + 1)) S.2.1 mp ml mk mc = k (nI K) (nI (rmStep R K (n + 1) S).1) (nI (n + 2)) (rmStep R K (n + 1) S).2.1 p' l' k' c' := by
  obtain ⟨hP, hL, hD⟩ := hC
  obtain ⟨a1, a2, a3, a4, ⟨q0, b1, b2⟩, a6, a7, a8, a9⟩ := h
  have hlev : ∀ q, q < n + 1 → S.2.2.2.1 q < 100 := fun q hq => by have := a4 q (by omega); omega
  have h12 : n + 1 < 12 := by omega
  have hu : ∀ {x1 x4 : Nat} {st : Int64} {c : Nat → Int32}, f_X7_makeRooms_142 (nI R) k (nI K) (nI x1) (nI (n + 1)) 1 st (upd mp (n + 1) (nI x4)) ml mk c = k (nI K) (nI (x1 + 1)) (nI (n + 2)) st (upd mp (n + 1) (nI x4)) (upd ml (n + 1) (nI (x1 + 1))) (upd mk (n + 1) (nI 1)) c := by
    intro x1 x4 st c
    unfold f_X7_makeRooms_142 f_X7_makeRooms_154 f_X7_makeRooms_180 f_X7_makeRooms_196
    rw [if_neg (by decide), if_neg (by decide), gd_in h12 (by omega), if_neg (by decide), gd_in h12 (by omega), cl (by omega), nI_1, nI_1]
    rfl
  have hs : ∀ {x1 x4 : Nat} {st : Int64} {c : Nat → Int32}, x4 < n + 1 → f_X7_makeRooms_142 (nI R) k (nI K) (nI x1) (nI (n + 1)) 0 st (upd mp (n + 1) (nI x4)) ml mk c = k (nI K) (nI x1) (nI (n + 2)) st (upd mp (n + 1) (nI x4)) (upd ml (n + 1) (nI (S.2.2.2.1 x4))) (upd mk (n + 1) (nI 0)) c := by
    intro x1 x4 st c hx
    unfold f_X7_makeRooms_142 f_X7_makeRooms_154 f_X7_makeRooms_180 f_X7_makeRooms_196
    rw [if_pos rfl, if_pos rfl, gd_in h12 (by omega), cl (by omega), pk_us, gd_in (show x4 < 12 by omega) (by omega), gd_in2 h12 (by omega), if_pos rfl, gd_in2 h12 (by omega), cl (by omega), hL x4 hx, nI_1]
    rfl
  unfold fb_X7_makeRooms_4
  rw [if_neg (nI_ge hn (by omega)), pk_sub (by omega), pk_sub a1]
  by_cases c1 : R - (n + 1) = K - S.1
  · rw [if_pos (by rw [c1])]
    have hne : cand (n + 1) (fun q => S.2.2.2.1 q == S.1) ≠ [] := by
      intro e
      have : q0 ∈ cand (n + 1) (fun q => S.2.2.2.1 q == S.1) := cand_mem.mpr ⟨by omega, by simp [b2]⟩
      rw [e] at this
      cases this
    have hst : rmStep R K (n + 1) S = (S.1 + 1, nx S.2.1, va_up S.2.2.1 (n + 1) (pick S.2.1 (cand (n + 1) (fun q => S.2.2.2.1 q == S.1))), va_up S.2.2.2.1 (n + 1) (S.1 + 1), va_up S.2.2.2.2 (n + 1) 1) := by
      unfold rmStep; rw [if_pos c1]
    obtain ⟨mc', e1⟩ := m_makeRooms_choose (K := K) (st := S.2.1) (mp := mp) (mk := mk) (mc := mc) hR hn hL hlev (show S.1 < 100 by omega) hne k
    rw [hst]
    refine ⟨_, _, _, mc', ⟨hP.up (by omega) _, hL.up _, hD.up _⟩, ?_⟩
    unfold f_X7_makeRooms_29
    rw [if_neg (by decide), e1]
    exact hu
  · rw [if_neg (fun z => c1 ((nI_eq (by omega) (by omega)).mp z))]
    have hd := dv_lt (nx S.2.1) (show 0 < n + 1 by omega)
    unfold f_X7_makeRooms_29 f_X7_makeRooms_140
    rw [if_pos rfl, m_draw (by omega) (by omega), bs, gd_in h12 (by omega), gd_in h12 (by omega), cl (by omega), pk_us, gd_in (show dv (nx S.2.1) (n + 1) < 12 by omega) (by omega), cl (by omega), hL _ hd]
    by_cases c2 : S.2.2.2.1 (dv (nx S.2.1) (n + 1)) = S.1
    · rw [if_pos (by rw [c2])]
      by_cases c3 : S.1 < K
      · rw [if_neg (nI_ge c3 (by omega)), show (4 : Int32) = nI 4 from rfl, m_draw (by omega) (by omega), bs]
        have h4 := dv_lt (nx (nx S.2.1)) (show 0 < 4 by omega)
        by_cases c4 : dv (nx (nx S.2.1)) 4 = 0
        · have hst : rmStep R K (n + 1) S = (S.1 + 1, nx (nx S.2.1), va_up S.2.2.1 (n + 1) (dv (nx S.2.1) (n + 1)), va_up S.2.2.2.1 (n + 1) (S.1 + 1), va_up S.2.2.2.2 (n + 1) 1) := by
            unfold rmStep; rw [if_neg c1, if_pos ⟨c2, c3⟩, if_pos c4]
          rw [hst, if_pos (by rw [c4]; rfl)]
          exact ⟨_, _, _, _, ⟨hP.up (by omega) _, hL.up _, hD.up _⟩, hu⟩
        · have hst : rmStep R K (n + 1) S = (S.1, nx (nx S.2.1), va_up S.2.2.1 (n + 1) (dv (nx S.2.1) (n + 1)), va_up S.2.2.2.1 (n + 1) (S.2.2.2.1 (dv (nx S.2.1) (n + 1))), va_up S.2.2.2.2 (n + 1) 0) := by
            unfold rmStep; rw [if_neg c1, if_pos ⟨c2, c3⟩, if_neg c4]
          rw [hst, if_neg (show ¬ nI (dv (nx (nx S.2.1)) 4) = 0 from fun z => c4 ((nI_eq (b := 0) (by omega) (by omega)).mp z))]
          exact ⟨_, _, _, _, ⟨hP.up (by omega) _, hL.up _, hD.up _⟩, hs hd⟩
      · have hst : rmStep R K (n + 1) S = (S.1, nx S.2.1, va_up S.2.2.1 (n + 1) (dv (nx S.2.1) (n + 1)), va_up S.2.2.2.1 (n + 1) (S.2.2.2.1 (dv (nx S.2.1) (n + 1))), va_up S.2.2.2.2 (n + 1) 0) := by
          unfold rmStep; rw [if_neg c1, if_neg (fun z => c3 z.2)]
        rw [hst, if_pos (nI_le (by omega) (by omega))]
        exact ⟨_, _, _, _, ⟨hP.up (by omega) _, hL.up _, hD.up _⟩, hs hd⟩
    · have hst : rmStep R K (n + 1) S = (S.1, nx S.2.1, va_up S.2.2.1 (n + 1) (dv (nx S.2.1) (n + 1)), va_up S.2.2.2.1 (n + 1) (S.2.2.2.1 (dv (nx S.2.1) (n + 1))), va_up S.2.2.2.2 (n + 1) 0) := by
        unfold rmStep; rw [if_neg c1, if_neg (fun z => c2 z.1)]
      rw [hst, if_neg (fun z => c2 ((nI_eq (by have := hlev _ hd; omega) (by omega)).mp z))]
      exact ⟨_, _, _, _, ⟨hP.up (by omega) _, hL.up _, hD.up _⟩, hs hd⟩
theorem m_makeRooms {R K : Nat} (hR : R ≤ 12) (hR1 : 1 ≤ R) (hK : K ≤ 3) (hKR : K < R) (st : Int64) {mp ml mk : Nat → Int32} (mc : Nat → Int32) (h0 : mp 0 = -1) (h1 : ml 0 = 0) (h2 : mk 0 = 0) :
    ∃ p' l' k' c', f_X7_makeRooms (nI K) st (nI R) mp ml mk mc = some ((rmN R K st (R - 1)).2.1, p', l', k', c') ∧ CRm R (rmN R K st (R - 1)) p' l' k' := by
  unfold f_X7_makeRooms f_X7_makeRooms_4
  obtain ⟨N, rfl⟩ : ∃ N, R = N + 1 := ⟨R - 1, by omega⟩
  refine lp_for0 (fun o => ∃ p' l' k' c', o = some ((rmN (N + 1) K st N).2.1, p', l', k', c') ∧ CRm (N + 1) (rmN (N + 1) K st N) p' l' k') N (by omega)
    (fun i s => s.1 = nI K ∧ s.2.1 = nI (rmN (N + 1) K st i).1 ∧ s.2.2.1 = nI (i + 1) ∧ s.2.2.2.1 = (rmN (N + 1) K st i).2.1 ∧ CRm (i + 1) (rmN (N + 1) K st i) s.2.2.2.2.1 s.2.2.2.2.2.1 s.2.2.2.2.2.2.1) ⟨rfl, rfl, rfl, rfl, ⟨h0, ?_⟩, ?_, ?_⟩ ?_ ?_
  · intro q h1 h2; omega
  · intro q hq; rw [show q = 0 by omega]; exact h1
  · intro q hq; rw [show q = 0 by omega]; exact h2
  · rintro i ⟨x1, x2, x3, s3, p, lv, kd, o⟩ hi ⟨rfl, rfl, rfl, rfl, hC⟩ k
    left
    obtain ⟨p', l', k', c', g1, g2⟩ := makeRooms_step (mc := o) hR (show i + 1 < N + 1 by omega) hK (rmN_wf hKR st i (by omega)) hC (fun x1 x2 a b c d e f => k (x1, x2, a, b, c, d, e, f))
    exact ⟨(_, _, _, _, p', l', k', c'), ⟨rfl, rfl, rfl, rfl, g1⟩, g2⟩
  · rintro ⟨x1, x2, x3, s3, p, lv, kd, o⟩ ⟨rfl, rfl, rfl, rfl, hC⟩ k
    dsimp only at hC ⊢
    unfold fb_X7_makeRooms_4
    rw [if_pos (nI_le (Nat.le_refl _) (by omega))]
    exact ⟨_, _, _, _, rfl, hC⟩
