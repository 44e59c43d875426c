/-! Loops: the class's and the reference's are the spec's. -/
theorem iI_nat (n : Nat) : iI (n : Int) = nI n := Int32.ofInt_eq_ofNat
theorem absI {z : Int} (h1 : -10000 ≤ z) (h2 : z ≤ 10000) : (if 0 ≤ iI z then iI z else 0 - iI z) = nI z.natAbs := by
  have h0 : (0 : Int32) = iI 0 := by decide
  by_cases h : 0 ≤ z
  · rw [if_pos (by rw [h0]; exact (iI_le (by omega) (by omega) (by omega) (by omega)).mpr h), ← iI_nat]
    congr 1; omega
  · rw [if_neg (fun q => h (by rw [h0] at q; exact (iI_le (by omega) (by omega) (by omega) (by omega)).mp q)), h0, iI_sub, ← iI_nat]
    congr 1; omega
theorem difI {a b : Int} (h1 : -1000 ≤ a ∧ a ≤ 1000) (h2 : -1000 ≤ b ∧ b ≤ 1000) : (iI a ≤ iI b → iI b - iI a = nI (a - b).natAbs) ∧ (¬ iI a ≤ iI b → iI a - iI b = nI (a - b).natAbs) := by
  have hle := iI_le (a := a) (b := b) (by omega) (by omega) (by omega) (by omega)
  constructor
  · intro h
    have := hle.mp h
    rw [iI_sub, ← iI_nat]; congr 1; omega
  · intro h
    have : ¬ a ≤ b := fun z => h (hle.mpr z)
    rw [iI_sub, ← iI_nat]; congr 1; omega
theorem adj_eq {X Y : Nat → Int} {r q : Nat} (h1 : (X r - X q).natAbs < 10000) (h2 : (Y r - Y q).natAbs < 10000) : (nI (X r - X q).natAbs + nI (Y r - Y q).natAbs = 1) ↔ adjB X Y r q = true := by
  rw [nI_add]
  unfold adjB
  rw [decide_eq_true_iff]
  exact nI_eq (b := 1) (by omega) (by omega)
theorem c_mayLoop {R r q : Nat} {parent level xx yy : Nat → Int32} {par lev : Nat → Nat} {X Y : Nat → Int} (hR : R ≤ 12) (hr : r < R) (hq : q < r) (hP : Rq R parent par) (hp : ∀ q, 1 ≤ q → q < R → par q < q) (hL : Rp R level lev) (hlb : ∀ q, q < R → lev q < 100) (hX : Xp R xx X) (hY : Xp R yy Y) (bX : Bd R X) (bY : Bd R Y) :
    f_X2_mayLoop (nI r) (nI q) parent level xx yy = some (if fitB par lev X Y r q = true then 1 else 0) := by
  have b1 := bX r hr
  have b2 := bX q (by omega)
  have b3 := bY r hr
  have b4 := bY q (by omega)
  have hpr := hp r (by omega) hr
  have l1 := hlb r hr
  have l2 := hlb q (by omega)
  unfold f_X2_mayLoop
  rw [gd_in (show r < 12 by omega) (by omega), gd_in (show q < 12 by omega) (by omega), gd_in (show r < 12 by omega) (by omega), gd_in (show q < 12 by omega) (by omega), gd_in (show r < 12 by omega) (by omega), gd_in (show q < 12 by omega) (by omega), gd_in (show r < 12 by omega) (by omega), cl (by omega), cl (by omega), hX r hr, hX q (by omega), hY r hr, hY q (by omega), iI_sub, iI_sub, absI (by omega) (by omega), absI (by omega) (by omega), hL r hr, hL q (by omega), hP.2 r (by omega) hr]
  unfold fitB
  by_cases c1 : adjB X Y r q = true
  · rw [if_pos ((adj_eq (by omega) (by omega)).mpr c1), c1]
    by_cases c2 : lev r = lev q
    · rw [if_pos (by rw [c2])]
      by_cases c3 : par r = q
      · rw [if_pos (by rw [c3]), if_neg (by simp [c3])]
      · rw [if_neg (fun z => c3 ((nI_eq (by omega) (by omega)).mp z)), if_pos (by simp [c2, c3])]
    · rw [if_neg (fun z => c2 ((nI_eq (by omega) (by omega)).mp z)), if_neg (by simp [c2])]
  · rw [if_neg (fun z => c1 ((adj_eq (by omega) (by omega)).mp z)), if_neg (by simp [c1])]
def Lm (par : Nat → Nat) (R : Nat) (M : Nat → Nat → Bool) : Nat → List Nat := fun x => if x < R then nbL par R x M else []
theorem Lm_len {par : Nat → Nat} {R r q x : Nat} {M : Nat → Nat → Bool} (hR : R ≤ 12) (hp : ∀ q, 1 ≤ q → q < R → par q < q) (hM : MW par r q M) (hx : x < R) : (Lm par R M x).length < 12 := by
  unfold Lm
  rw [if_pos hx]
  have := nb_len (M := M) hp hx (fun y e => ⟨(hM x y e).2.1, (hM x y e).2.2.2⟩)
  omega
theorem Lm_set {par : Nat → Nat} {R r q : Nat} {M : Nat → Nat → Bool} (hr : r < R) (hq : q < r) (hM : MW par r q M) : Lm par R (setM M r q) = app2 (Lm par R M) r q := by
  have h1 : setM M r q r = va_up (M r) q true := by
    funext y
    unfold setM va_up
    by_cases c : y = q
    · rw [if_pos (Or.inl ⟨rfl, c⟩), if_pos c]
    · rw [if_neg (by omega), if_neg c]
  have h2 : setM M r q q = va_up (M q) r true := by
    funext y
    unfold setM va_up
    by_cases c : y = r
    · rw [if_pos (Or.inr ⟨rfl, c⟩), if_pos c]
    · rw [if_neg (by omega), if_neg c]
  have h3 : ∀ x, x ≠ r → x ≠ q → setM M r q x = M x := by
    intro x a b
    funext y
    unfold setM
    rw [if_neg (by omega)]
  have f1 : ∀ y, q ≤ y → M r y = false := fun y hy => by
    cases e : M r y
    · rfl
    · have := (hM r y e).2.2.1; omega
  have f2 : ∀ y, r ≤ y → M q y = false := fun y hy => by
    cases e : M q y
    · rfl
    · have := (hM q y e).2.2.1; omega
  funext x
  unfold app2 Lm
  by_cases c1 : x = r
  · subst c1
    rw [if_pos hr, if_pos rfl, if_pos hr]
    unfold nbL
    rw [h1, cand_app (by omega) f1]
    simp only [List.append_assoc]
  · rw [if_neg c1]
    by_cases c2 : x = q
    · subst c2
      rw [if_pos (show x < R by omega), if_pos rfl, if_pos (show x < R by omega)]
      unfold nbL
      rw [h2, cand_app (by omega) f2]
      simp only [List.append_assoc]
    · rw [if_neg c2]
      by_cases c3 : x < R
      · rw [if_pos c3, if_pos c3]
        unfold nbL
        rw [h3 x c1 c2]
      · rw [if_neg c3, if_neg c3]
theorem c_joinLoops {R : Nat} {a : Int32} {st : Int64} {parent level xx yy doors : Nat → Int32} {beyond : Nat → Nat → Int32} {par lev : Nat → Nat} {X Y : Nat → Int} (hR : R ≤ 12) (hR1 : 1 ≤ R) (hP : Rq R parent par) (hp : ∀ q, 1 ≤ q → q < R → par q < q) (hL : Rp R level lev) (hlb : ∀ q, q < R → lev q < 100) (hX : Xp R xx X) (hY : Xp R yy Y) (bX : Bd R X) (bY : Bd R Y) (hN : Nb doors beyond (nbF par (R - 1))) :
    ∃ d' b', f_X2_joinLoops (nI R) a st parent level xx yy doors beyond = some (a + nI (loN (fitB par lev X Y) st (R - 1)).2.2, (loN (fitB par lev X Y) st (R - 1)).1, d', b') ∧ Nb d' b' (Lm par R (loN (fitB par lev X Y) st (R - 1)).2.1) := by
  have hN0 : Nb doors beyond (Lm par R (fun _ _ => false)) := by
    have e : Lm par R (fun _ _ => false) = nbF par (R - 1) := by
      funext x
      unfold Lm nbF
      rw [show R - 1 + 1 = R by omega]
      by_cases c : x < R
      · rw [if_pos c, if_pos (by omega)]
      · rw [if_neg c, if_neg (by omega)]
    rw [e]; exact hN
  unfold f_X2_joinLoops f_X2_joinLoops_2
  obtain ⟨N, rfl⟩ : ∃ N, R = N + 1 := ⟨R - 1, by omega⟩
  refine lp_for0 (fun o => ∃ (d' : Nat → Int32) (b' : Nat → Nat → Int32), o = some (a + nI (loN (fitB par lev X Y) st N).2.2, (loN (fitB par lev X Y) st N).1, d', b') ∧ Nb d' b' (Lm par (N + 1) (loN (fitB par lev X Y) st N).2.1)) N (by omega)
    (fun i s => nI (i + 1) = s.1 ∧ a + nI (loN (fitB par lev X Y) st i).2.2 = s.2.1 ∧ (loN (fitB par lev X Y) st i).1 = s.2.2.1 ∧ Nb s.2.2.2.1 s.2.2.2.2 (Lm par (N + 1) (loN (fitB par lev X Y) st i).2.1)) ⟨rfl, ?_, rfl, hN0⟩ ?_ ?_
  · show a + 0 = a; exact Int32.add_zero a
  · rintro i ⟨x1, c, s3, d, b⟩ hi ⟨e1, e2, e3, hB⟩ k
    dsimp only at e1 e2 e3 hB ⊢
    subst e1 e2 e3
    left
    have hW := loN_wf (lev := lev) (X := X) (Y := Y) hp st i (by omega)
    have hst : loN (fitB par lev X Y) st (i + 1) = liN (fitB par lev X Y) (i + 1) (loN (fitB par lev X Y) st i) (i + 1) := rfl
    rw [hst]
    generalize loN (fitB par lev X Y) st i = S at hW hB
    unfold fb_X2_joinLoops_2
    rw [if_neg (nI_ge (show i + 1 < N + 1 by omega) (by omega))]
    unfold f_X2_joinLoops_15
    refine lp_for0 (fun o => ∃ s', (nI (i + 1 + 1) = s'.1 ∧ a + nI (liN (fitB par lev X Y) (i + 1) S (i + 1)).2.2 = s'.2.1 ∧ (liN (fitB par lev X Y) (i + 1) S (i + 1)).1 = s'.2.2.1 ∧ Nb s'.2.2.2.1 s'.2.2.2.2 (Lm par (N + 1) (liN (fitB par lev X Y) (i + 1) S (i + 1)).2.1)) ∧ o = k s') (i + 1) (by omega)
      (fun j (s : Int32 × Int32 × Int32 × Int64 × (Nat → Int32) × (Nat → Nat → Int32)) => nI (i + 1) = s.1 ∧ nI j = s.2.1 ∧ a + nI (liN (fitB par lev X Y) (i + 1) S j).2.2 = s.2.2.1 ∧ (liN (fitB par lev X Y) (i + 1) S j).1 = s.2.2.2.1 ∧ Nb s.2.2.2.2.1 s.2.2.2.2.2 (Lm par (N + 1) (liN (fitB par lev X Y) (i + 1) S j).2.1)) ?_ ?_ ?_
    · exact ⟨rfl, rfl, rfl, rfl, hB⟩
    · rintro j ⟨y1, y2, y3, t4, d', b'⟩ hj ⟨f1, f2, f3, f4, hB'⟩ k9
      dsimp only at f1 f2 f3 f4 hB' ⊢
      subst f1 f2 f3 f4
      left
      have hWj := liN_wf (lev := lev) (X := X) (Y := Y) hp (show i + 1 < N + 1 by omega) hW j (by omega)
      have hstj : liN (fitB par lev X Y) (i + 1) S (j + 1) = lqStep (fitB par lev X Y) (i + 1) j (liN (fitB par lev X Y) (i + 1) S j) := rfl
      rw [hstj]
      generalize liN (fitB par lev X Y) (i + 1) S j = T at hWj hB'
      unfold fb_X2_joinLoops_15 f_X2_joinLoops_46
      rw [if_neg (nI_ge hj (by omega)), c_mayLoop hR (by omega) hj hP hp hL hlb hX hY bX bY, bs]
      by_cases c1 : fitB par lev X Y (i + 1) j = true
      · rw [if_pos c1, if_neg (show ¬ (1 : Int32) = 0 by decide)]
        unfold lqStep
        rw [if_pos c1, show (3 : Int32) = nI 3 from rfl, c_number (by omega) (by omega), bs]
        have h3 := dv_lt (nx T.1) (show 0 < 3 by omega)
        by_cases c2 : dv (nx T.1) 3 = 0
        · rw [if_pos (show nI (dv (nx T.1) 3) = 0 by rw [c2]; rfl), if_pos c2]
          obtain ⟨d9, b9, g1, g2⟩ := c_join (a := a + nI T.2.2) (show i + 1 < 12 by omega) (show j < 12 by omega) (by omega) hB' (Lm_len hR hp hWj (by omega)) (Lm_len hR hp hWj (by omega))
          rw [g1, bs]
          refine ⟨_, ?_, rfl⟩
          refine ⟨rfl, (nI_1 j).symm, ?_, rfl, ?_⟩
          · show a + nI (T.2.2 + 1) = a + nI T.2.2 + 1
            rw [Int32.add_assoc, nI_1]
          · show Nb d9 b9 (Lm par (N + 1) (setM T.2.1 (i + 1) j))
            rw [Lm_set (by omega) hj hWj]; exact g2
        · rw [if_neg (show ¬ nI (dv (nx T.1) 3) = 0 from fun z => c2 ((nI_eq (b := 0) (by omega) (by omega)).mp z)), if_neg c2]
          refine ⟨_, ?_, rfl⟩
          exact ⟨rfl, (nI_1 j).symm, rfl, rfl, hB'⟩
      · rw [if_neg c1, if_pos (show (0 : Int32) = 0 from rfl)]
        unfold lqStep
        rw [if_neg c1]
        refine ⟨_, ?_, rfl⟩
        exact ⟨rfl, (nI_1 j).symm, rfl, rfl, hB'⟩
    · rintro ⟨y1, y2, y3, t4, d', b'⟩ ⟨f1, f2, f3, f4, hB'⟩ k9
      dsimp only at f1 f2 f3 f4 hB' ⊢
      subst f1 f2 f3 f4
      unfold fb_X2_joinLoops_15
      rw [if_pos (nI_le (Nat.le_refl _) (by omega))]
      refine ⟨_, ?_, rfl⟩
      exact ⟨(nI_1 (i + 1)).symm, rfl, rfl, hB'⟩
  · rintro ⟨x1, c, s3, d, b⟩ ⟨e1, e2, e3, hB⟩ k
    dsimp only at e1 e2 e3 hB ⊢
    subst e1 e2 e3
    unfold fb_X2_joinLoops_2
    rw [if_pos (nI_le (Nat.le_refl _) (by omega))]
    exact ⟨_, _, rfl, hB⟩
/-- what the reference's loop array holds -/
def ML (a : Nat → Int32) (M : Nat → Nat → Bool) : Prop := ∀ x y, x < 12 → y < 12 → a (12 * x + y) = if M x y = true then 1 else 0
theorem ML.set {a : Nat → Int32} {M : Nat → Nat → Bool} (h : ML a M) {r q : Nat} (hr : r < 12) (hq : q < 12) : ML (upd (upd a (12 * r + q) 1) (12 * q + r) 1) (setM M r q) := fun x y hx hy => by
  unfold setM
  by_cases c : (x = r ∧ y = q) ∨ (x = q ∧ y = r)
  · rw [if_pos c, if_pos rfl]
    rcases c with ⟨rfl, rfl⟩ | ⟨rfl, rfl⟩
    · by_cases e : 12 * x + y = 12 * y + x
      · rw [e]; exact pk_us
      · rw [pk_un e]; exact pk_us
    · exact pk_us
  · rw [if_neg c, pk_un (by omega), pk_un (by omega)]
    exact h x y hx hy
theorem m_makeLoops {R : Nat} {st : Int64} {parent level xx yy loop : Nat → Int32} {par lev : Nat → Nat} {X Y : Nat → Int} (hR : R ≤ 12) (hR1 : 1 ≤ R) (hP : Rq R parent par) (hp : ∀ q, 1 ≤ q → q < R → par q < q) (hL : Rp R level lev) (hlb : ∀ q, q < R → lev q < 100) (hX : Xp R xx X) (hY : Xp R yy Y) (bX : Bd R X) (bY : Bd R Y) (hM : ML loop (fun _ _ => false)) :
    ∃ l', f_X7_makeLoops st (nI R) parent level xx yy loop = some (nI (loN (fitB par lev X Y) st (R - 1)).2.2, (loN (fitB par lev X Y) st (R - 1)).1, l') ∧ ML l' (loN (fitB par lev X Y) st (R - 1)).2.1 := by
  unfold f_X7_makeLoops f_X7_makeLoops_4
  obtain ⟨N, rfl⟩ : ∃ N, R = N + 1 := ⟨R - 1, by omega⟩
  refine lp_for0 (fun o => ∃ l' : Nat → Int32, o = some (nI (loN (fitB par lev X Y) st N).2.2, (loN (fitB par lev X Y) st N).1, l') ∧ ML l' (loN (fitB par lev X Y) st N).2.1) N (by omega)
    (fun i s => nI (loN (fitB par lev X Y) st i).2.2 = s.1 ∧ nI (i + 1) = s.2.1 ∧ (loN (fitB par lev X Y) st i).1 = s.2.2.1 ∧ ML s.2.2.2 (loN (fitB par lev X Y) st i).2.1) ⟨rfl, rfl, rfl, hM⟩ ?_ ?_
  · rintro i ⟨c, x1, s3, d⟩ hi ⟨e1, e2, e3, hB⟩ k
    dsimp only at e1 e2 e3 hB ⊢
    subst e1 e2 e3
    left
    have hst : loN (fitB par lev X Y) st (i + 1) = liN (fitB par lev X Y) (i + 1) (loN (fitB par lev X Y) st i) (i + 1) := rfl
    rw [hst]
    generalize loN (fitB par lev X Y) st i = S at hB
    unfold fb_X7_makeLoops_4
    rw [if_neg (nI_ge (show i + 1 < N + 1 by omega) (by omega))]
    unfold f_X7_makeLoops_14
    refine lp_for0 (fun o => ∃ s', (nI (liN (fitB par lev X Y) (i + 1) S (i + 1)).2.2 = s'.1 ∧ nI (i + 1 + 1) = s'.2.1 ∧ (liN (fitB par lev X Y) (i + 1) S (i + 1)).1 = s'.2.2.1 ∧ ML s'.2.2.2 (liN (fitB par lev X Y) (i + 1) S (i + 1)).2.1) ∧ o = k s') (i + 1) (by omega)
      (fun j (s : Int32 × Int32 × Int32 × Int64 × (Nat → Int32)) => nI (liN (fitB par lev X Y) (i + 1) S j).2.2 = s.1 ∧ nI (i + 1) = s.2.1 ∧ nI j = s.2.2.1 ∧ (liN (fitB par lev X Y) (i + 1) S j).1 = s.2.2.2.1 ∧ ML s.2.2.2.2 (liN (fitB par lev X Y) (i + 1) S j).2.1) ?_ ?_ ?_
    · exact ⟨rfl, rfl, rfl, rfl, hB⟩
    · rintro j ⟨y1, y2, y3, t4, d'⟩ hj ⟨f1, f2, f3, f4, hB'⟩ k9
      dsimp only at f1 f2 f3 f4 hB' ⊢
      subst f1 f2 f3 f4
      left
      have hstj : liN (fitB par lev X Y) (i + 1) S (j + 1) = lqStep (fitB par lev X Y) (i + 1) j (liN (fitB par lev X Y) (i + 1) S j) := rfl
      rw [hstj]
      generalize liN (fitB par lev X Y) (i + 1) S j = T at hB'
      have h12 : i + 1 < 12 := by omega
      have j12 : j < 12 := by omega
      have b1 := bX (i + 1) (by omega)
      have b2 := bX j (by omega)
      have b3 := bY (i + 1) (by omega)
      have b4 := bY j (by omega)
      have l1 := hlb (i + 1) (by omega)
      have l2 := hlb j (by omega)
      have hpr := hp (i + 1) (by omega) (by omega)
      have hno : lqStep (fitB par lev X Y) (i + 1) j T = T → f_X7_makeLoops_159 (nI (N + 1)) parent level xx yy (fun a b c d => k (a, b, c, d)) (fun a b c d e => k9 (a, b, c, d, e)) (nI T.2.2) (nI (i + 1)) (nI j) T.1 d' = k9 (nI T.2.2, nI (i + 1), nI j + 1, T.1, d') := by
        intro _
        unfold f_X7_makeLoops_159 f_X7_makeLoops_160 f_X7_makeLoops_202
        rw [if_pos rfl]
      have h109 : ∃ s', (nI (lqStep (fitB par lev X Y) (i + 1) j T).2.2 = s'.1 ∧ nI (i + 1) = s'.2.1 ∧ nI (j + 1) = s'.2.2.1 ∧ (lqStep (fitB par lev X Y) (i + 1) j T).1 = s'.2.2.2.1 ∧ ML s'.2.2.2.2 (lqStep (fitB par lev X Y) (i + 1) j T).2.1) ∧
          f_X7_makeLoops_109 (nI (N + 1)) parent level xx yy (fun a b c d => k (a, b, c, d)) (fun a b c d e => k9 (a, b, c, d, e)) (nI T.2.2) (nI (i + 1)) (nI j) (nI (X (i + 1) - X j).natAbs) (nI (Y (i + 1) - Y j).natAbs) T.1 d' = k9 s' := by
        have hnf : fitB par lev X Y (i + 1) j ≠ true → ∃ s', (nI (lqStep (fitB par lev X Y) (i + 1) j T).2.2 = s'.1 ∧ nI (i + 1) = s'.2.1 ∧ nI (j + 1) = s'.2.2.1 ∧ (lqStep (fitB par lev X Y) (i + 1) j T).1 = s'.2.2.2.1 ∧ ML s'.2.2.2.2 (lqStep (fitB par lev X Y) (i + 1) j T).2.1) ∧
            f_X7_makeLoops_159 (nI (N + 1)) parent level xx yy (fun a b c d => k (a, b, c, d)) (fun a b c d e => k9 (a, b, c, d, e)) (nI T.2.2) (nI (i + 1)) (nI j) T.1 d' = k9 s' := by
          intro hc
          have e : lqStep (fitB par lev X Y) (i + 1) j T = T := by unfold lqStep; rw [if_neg hc]
          rw [hno e, e]
          refine ⟨_, ?_, rfl⟩
          exact ⟨rfl, rfl, (nI_1 j).symm, rfl, hB'⟩
        unfold f_X7_makeLoops_109
        rw [gd_in h12 (by omega), gd_in j12 (by omega), gd_in h12 (by omega), gd_in j12 (by omega), cl (by omega), cl (by omega), hL (i + 1) (by omega), hL j (by omega), hP.2 (i + 1) (by omega) (by omega)]
        by_cases c1 : adjB X Y (i + 1) j = true
        · rw [if_pos ((adj_eq (by omega) (by omega)).mpr c1)]
          by_cases c2 : lev (i + 1) = lev j
          · rw [if_pos (by rw [c2])]
            by_cases c3 : par (i + 1) = j
            · rw [if_pos (by rw [c3])]
              exact hnf (by unfold fitB; simp [c3])
            · have hpj : ¬ parent j = nI (i + 1) := by
                by_cases z : j = 0
                · rw [z, hP.1]
                  intro e
                  have := congrArg Int32.toInt e
                  rw [nI_toInt (by omega)] at this
                  have h9 : ((-1 : Int32)).toInt = -1 := by decide
                  omega
                · rw [hP.2 j (by omega) (by omega)]
                  have := hp j (by omega) (by omega)
                  exact fun e => by have := (nI_eq (by omega) (by omega)).mp e; omega
              rw [if_neg (fun z => c3 ((nI_eq (by omega) (by omega)).mp z)), if_neg hpj]
              have hft : fitB par lev X Y (i + 1) j = true := by unfold fitB; simp [c1, c2, c3]
              unfold f_X7_makeLoops_160 f_X7_makeLoops_202 lqStep
              rw [if_neg (show ¬ (1 : Int32) = 0 by decide), if_pos hft, show (3 : Int32) = nI 3 from rfl, m_draw (by omega) (by omega), bs]
              have h3 := dv_lt (nx T.1) (show 0 < 3 by omega)
              have i1 : (12 : Int32) * nI (i + 1) + nI j = nI (12 * (i + 1) + j) := by rw [show (12 : Int32) = nI 12 from rfl, pk_mul, nI_add]
              have i2 : (12 : Int32) * nI j + nI (i + 1) = nI (12 * j + (i + 1)) := by rw [show (12 : Int32) = nI 12 from rfl, pk_mul, nI_add]
              by_cases c4 : dv (nx T.1) 3 = 0
              · rw [if_pos (show nI (dv (nx T.1) 3) = 0 by rw [c4]; rfl), if_pos c4, i1, i2, gd_in (show 12 * (i + 1) + j < 144 by omega) (by omega), gd_in (show 12 * j + (i + 1) < 144 by omega) (by omega), cl (by omega), cl (by omega), narb1]
                refine ⟨_, ?_, rfl⟩
                exact ⟨(nI_1 _).symm, rfl, (nI_1 j).symm, rfl, hB'.set h12 j12⟩
              · rw [if_neg (show ¬ nI (dv (nx T.1) 3) = 0 from fun z => c4 ((nI_eq (b := 0) (by omega) (by omega)).mp z)), if_neg c4]
                refine ⟨_, ?_, rfl⟩
                exact ⟨rfl, rfl, (nI_1 j).symm, rfl, hB'⟩
          · rw [if_neg (fun z => c2 ((nI_eq (by omega) (by omega)).mp z))]
            exact hnf (by unfold fitB; simp [c2])
        · rw [if_neg (fun z => c1 ((adj_eq (by omega) (by omega)).mp z))]
          exact hnf (by unfold fitB; simp [c1])
      unfold fb_X7_makeLoops_14 f_X7_makeLoops_63
      have dX := difI (a := X (i + 1)) (b := X j) (by omega) (by omega)
      have dY := difI (a := Y (i + 1)) (b := Y j) (by omega) (by omega)
      simp only [gd_in h12 (show (12 : Nat) < 2 ^ 31 by omega), gd_in j12 (show (12 : Nat) < 2 ^ 31 by omega)]
      rw [if_neg (nI_ge hj (by omega)), cl (by omega), cl (by omega), hX (i + 1) (by omega), hX j (by omega), hY (i + 1) (by omega), hY j (by omega)]
      by_cases cx : iI (X (i + 1)) ≤ iI (X j)
      · rw [if_pos cx, dX.1 cx]
        by_cases cy : iI (Y (i + 1)) ≤ iI (Y j)
        · rw [if_pos cy, dY.1 cy]; exact h109
        · rw [if_neg cy, dY.2 cy]; exact h109
      · rw [if_neg cx, dX.2 cx]
        by_cases cy : iI (Y (i + 1)) ≤ iI (Y j)
        · rw [if_pos cy, dY.1 cy]; exact h109
        · rw [if_neg cy, dY.2 cy]; exact h109
    · rintro ⟨y1, y2, y3, t4, d'⟩ ⟨f1, f2, f3, f4, hB'⟩ k9
      dsimp only at f1 f2 f3 f4 hB' ⊢
      subst f1 f2 f3 f4
      unfold fb_X7_makeLoops_14
      rw [if_pos (nI_le (Nat.le_refl _) (by omega))]
      refine ⟨_, ?_, rfl⟩
      exact ⟨rfl, (nI_1 (i + 1)).symm, rfl, hB'⟩
  · rintro ⟨c, x1, s3, d⟩ ⟨e1, e2, e3, hB⟩ k
    dsimp only at e1 e2 e3 hB ⊢
    subst e1 e2 e3
    unfold fb_X7_makeLoops_4
    rw [if_pos (nI_le (Nat.le_refl _) (by omega))]
    exact ⟨_, rfl, hB⟩
