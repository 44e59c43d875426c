/-! Places: the class's and the reference's are the spec's. -/
def Xp (n : Nat) (a : Nat → Int32) (X : Nat → Int) : Prop := ∀ q, q < n → a q = iI (X q)
theorem Xp.up {n : Nat} {a : Nat → Int32} {f : Nat → Int} (h : Xp n a f) (v : Int) : Xp (n + 1) (upd a n (iI v)) (va_up f n v) := by
  intro q hq
  by_cases e : q = n
  · subst e; rw [pk_us, va_up_self]
  · rw [pk_un e, va_up_ne _ _ e]; exact h q (by omega)
def Bd (n : Nat) (X : Nat → Int) : Prop := ∀ q, q < n → -1000 ≤ X q ∧ X q ≤ 1000
theorem c_isFree {r : Nat} {xx yy : Nat → Int32} {X Y : Nat → Int} {x y : Int} (hr : r ≤ 12) (hX : Xp r xx X) (hY : Xp r yy Y) (bX : Bd r X) (bY : Bd r Y) (bx : -1000 ≤ x ∧ x ≤ 1000) (by_ : -1000 ≤ y ∧ y ≤ 1000) :
    f_X2_isFree (iI x) (iI y) (nI r) xx yy = some (if occB X Y r x y = true then 0 else 1) := by
  unfold f_X2_isFree f_X2_isFree_3
  refine lp_for0 (fun o => o = some (if occB X Y r x y = true then 0 else 1)) r (by omega) (fun i s => iI x = s.1 ∧ iI y = s.2.1 ∧ nI r = s.2.2.1 ∧ nI i = s.2.2.2 ∧ ∀ q, q < i → ¬ (X q = x ∧ Y q = y)) ⟨rfl, rfl, rfl, rfl, fun q h => by omega⟩ ?_ ?_
  · rintro i ⟨x1, x2, x3, x4⟩ hi ⟨e1, e2, e3, e4, h⟩ k
    dsimp only at e1 e2 e3 e4 h ⊢
    subst e1 e2 e3 e4
    have b1 := bX i hi
    have b2 := bY i hi
    unfold fb_X2_isFree_3 f_X2_isFree_39
    rw [if_neg (nI_ge hi (by omega)), gd_in (show i < 12 by omega) (by omega), gd_in (show i < 12 by omega) (by omega), cl (by omega), hX i hi, hY i hi]
    by_cases c1 : X i = x
    · rw [if_pos (by rw [c1])]
      by_cases c2 : Y i = y
      · right
        rw [if_pos (by rw [c2]), if_pos (occB_iff.mpr ⟨i, hi, c1, c2⟩)]
      · left
        rw [if_neg (fun z => c2 ((iI_eq (by omega) (by omega) (by omega) (by omega)).mp z))]
        refine ⟨_, ?_, rfl⟩
        refine ⟨rfl, rfl, rfl, (nI_1 i).symm, fun q hq => ?_⟩
        by_cases e : q = i
        · subst e; exact fun z => c2 z.2
        · exact h q (by omega)
    · left
      rw [if_neg (fun z => c1 ((iI_eq (by omega) (by omega) (by omega) (by omega)).mp z))]
      refine ⟨_, ?_, rfl⟩
      refine ⟨rfl, rfl, rfl, (nI_1 i).symm, fun q hq => ?_⟩
      by_cases e : q = i
      · subst e; exact fun z => c1 z.1
      · exact h q (by omega)
  · rintro ⟨x1, x2, x3, x4⟩ ⟨e1, e2, e3, e4, h⟩ k
    dsimp only at e1 e2 e3 e4 h ⊢
    subst e1 e2 e3 e4
    unfold fb_X2_isFree_3
    rw [if_pos (nI_le (Nat.le_refl _) (by omega)), if_neg (fun z => by obtain ⟨q, h1, h2⟩ := occB_iff.mp z; exact h q h1 h2)]
theorem m_occupied {r : Nat} {xx yy : Nat → Int32} {X Y : Nat → Int} {x y : Int} (hr : r ≤ 12) (hX : Xp r xx X) (hY : Xp r yy Y) (bX : Bd r X) (bY : Bd r Y) (bx : -1000 ≤ x ∧ x ≤ 1000) (by_ : -1000 ≤ y ∧ y ≤ 1000) :
    f_X7_occupied (nI r) (iI x) (iI y) xx yy = some (if occB X Y r x y = true then 1 else 0) := by
  unfold f_X7_occupied f_X7_occupied_3
  refine lp_for0 (fun o => o = some (if occB X Y r x y = true then 1 else 0)) r (by omega) (fun i s => nI r = s.1 ∧ iI x = s.2.1 ∧ iI y = s.2.2.1 ∧ nI i = s.2.2.2 ∧ ∀ q, q < i → ¬ (X q = x ∧ Y q = y)) ⟨rfl, rfl, rfl, rfl, fun q h => by omega⟩ ?_ ?_
  · rintro i ⟨x1, x2, x3, x4⟩ hi ⟨e1, e2, e3, e4, h⟩ k
    dsimp only at e1 e2 e3 e4 h ⊢
    subst e1 e2 e3 e4
    have b1 := bX i hi
    have b2 := bY i hi
    unfold fb_X7_occupied_3 f_X7_occupied_33
    rw [if_neg (nI_ge hi (by omega)), gd_in (show i < 12 by omega) (by omega), gd_in (show i < 12 by omega) (by omega), cl (by omega), hX i hi, hY i hi]
    by_cases c1 : X i = x
    · rw [if_pos (by rw [c1])]
      by_cases c2 : Y i = y
      · right
        rw [if_pos (by rw [c2]), if_pos (occB_iff.mpr ⟨i, hi, c1, c2⟩)]
      · left
        rw [if_neg (fun z => c2 ((iI_eq (by omega) (by omega) (by omega) (by omega)).mp z))]
        refine ⟨_, ?_, rfl⟩
        refine ⟨rfl, rfl, rfl, (nI_1 i).symm, fun q hq => ?_⟩
        by_cases e : q = i
        · subst e; exact fun z => c2 z.2
        · exact h q (by omega)
    · left
      rw [if_neg (fun z => c1 ((iI_eq (by omega) (by omega) (by omega) (by omega)).mp z))]
      refine ⟨_, ?_, rfl⟩
      refine ⟨rfl, rfl, rfl, (nI_1 i).symm, fun q hq => ?_⟩
      by_cases e : q = i
      · subst e; exact fun z => c1 z.1
      · exact h q (by omega)
  · rintro ⟨x1, x2, x3, x4⟩ ⟨e1, e2, e3, e4, h⟩ k
    dsimp only at e1 e2 e3 e4 h ⊢
    subst e1 e2 e3 e4
    unfold fb_X7_occupied_3
    rw [if_pos (nI_le (Nat.le_refl _) (by omega)), if_neg (fun z => by obtain ⟨q, h1, h2⟩ := occB_iff.mp z; exact h q h1 h2)]
theorem posB {x : Int} {k : Nat} {e : Int} (h1 : -200 ≤ x ∧ x ≤ 200) (hk : k ≤ 12) (he : e = 1 ∨ e = -1 ∨ e = 0) : -1000 ≤ x + (k : Int) * e ∧ x + (k : Int) * e ≤ 1000 := by
  have := stepB (k := k) h1.1 h1.2 he
  omega
theorem posS (x : Int) (k : Nat) (e : Int) : iI (x + (k : Int) * e) + iI e = iI (x + ((k + 1 : Nat) : Int) * e) := by
  rw [iI_add]
  congr 1
  rw [Int.natCast_add, Int.add_mul, Int.add_assoc]
  simp
theorem c_place {r d : Nat} {parent xx yy : Nat → Int32} {par : Nat → Nat} {X Y : Nat → Int} (h1 : 1 ≤ r) (hr : r < 12) (hd : d < 4) (hpar : parent r = nI (par r)) (hp : par r < r) (hX : Xp r xx X) (hY : Xp r yy Y) (bX : ∀ q, q < r → -200 ≤ X q ∧ X q ≤ 200) (bY : ∀ q, q < r → -200 ≤ Y q ∧ Y q ≤ 200) :
    f_X2_place (nI r) (nI d) parent xx yy = some (upd xx r (iI (X (par r) + (kst X Y r (par r) d : Int) * dE d)), upd yy r (iI (Y (par r) + (kst X Y r (par r) d : Int) * dN d))) := by
  obtain ⟨k1, k2, k3, k4⟩ := kst_spec (X := X) (Y := Y) hd (show r ≤ 12 by omega) hp
  have bX' : Bd r X := fun q hq => by have := bX q hq; omega
  have bY' : Bd r Y := fun q hq => by have := bY q hq; omega
  unfold f_X2_place f_X2_place_40
  rw [gd_in hr (by omega), gd_in hr (by omega), cl (by omega), hpar, gd_in (show par r < 12 by omega) (by omega), gd_in (show par r < 12 by omega) (by omega), cl (by omega), hX _ hp, hY _ hp]
  generalize hks : kst X Y r (par r) d = K at k1 k2 k3 k4
  refine lp_for0 (fun o => o = some (upd xx r (iI (X (par r) + (K : Int) * dE d)), upd yy r (iI (Y (par r) + (K : Int) * dN d)))) r (by omega)
    (fun i s => i < K ∧ nI r = s.1 ∧ nI d = s.2.1 ∧ iI (X (par r) + (i : Int) * dE d) = s.2.2.1 ∧ iI (Y (par r) + (i : Int) * dN d) = s.2.2.2.1 ∧ nI i = s.2.2.2.2.1 ∧ xx = s.2.2.2.2.2.1 ∧ yy = s.2.2.2.2.2.2) ⟨k1, rfl, rfl, by simp, by simp, rfl, rfl, rfl⟩ ?_ ?_
  · rintro i ⟨x1, x2, x3, x4, x5, a, b⟩ hi ⟨hK, e1, e2, e3, e4, e5, e6, e7⟩ k
    dsimp only at e1 e2 e3 e4 e5 e6 e7 ⊢
    subst e1 e2 e3 e4 e5 e6 e7
    unfold fb_X2_place_40
    rw [if_neg (nI_ge hi (by omega)), gd_in hd (by omega), gd_in hd (by omega), cl (by omega), east_eq d hd, north_eq d hd, posS, posS,
      c_isFree (by omega) hX hY bX' bY' (posB (bX _ hp) (by omega) (dEN d).1) (posB (bY _ hp) (by omega) (dEN d).2), bs]
    by_cases c : i + 1 < K
    · left
      have hf : occB X Y r (X (par r) + ((i + 1 : Nat) : Int) * dE d) (Y (par r) + ((i + 1 : Nat) : Int) * dN d) = true := k4 (i + 1) c
      rw [if_pos hf, if_pos (show (0 : Int32) = 0 from rfl)]
      refine ⟨_, ?_, rfl⟩
      exact ⟨c, rfl, rfl, rfl, rfl, (nI_1 i).symm, rfl, rfl⟩
    · right
      have e : i + 1 = K := by omega
      have hf : occB X Y r (X (par r) + ((i + 1 : Nat) : Int) * dE d) (Y (par r) + ((i + 1 : Nat) : Int) * dN d) = false := by rw [e]; exact k3
      rw [if_neg (show ¬ occB X Y r (X (par r) + ((i + 1 : Nat) : Int) * dE d) (Y (par r) + ((i + 1 : Nat) : Int) * dN d) = true by rw [hf]; decide), if_neg (show ¬ (1 : Int32) = 0 by decide)]
      unfold f_X2_place_84
      rw [gd_in hr (by omega), gd_in hr (by omega), cl (by omega), e]
  · rintro ⟨x1, x2, x3, x4, x5, a, b⟩ ⟨hK, -⟩ k
    omega
theorem c_placeRooms {R : Nat} {st : Int64} {parent : Nat → Int32} (xx yy : Nat → Int32) {par : Nat → Nat} (hR : R ≤ 12) (hR1 : 1 ≤ R) (hP : Rq R parent par) (hp : ∀ q, 1 ≤ q → q < R → par q < q) :
    ∃ x' y', f_X2_placeRooms (nI R) st parent xx yy = some ((plN par st (R - 1)).1, x', y') ∧ Xp R x' (plN par st (R - 1)).2.1 ∧ Xp R y' (plN par st (R - 1)).2.2 := by
  unfold f_X2_placeRooms f_X2_placeRooms_22
  rw [gd_neg (by decide), gd_neg (by decide)]
  obtain ⟨N, rfl⟩ : ∃ N, R = N + 1 := ⟨R - 1, by omega⟩
  refine lp_for0 (fun o => ∃ x' y' : Nat → Int32, o = some ((plN par st N).1, x', y') ∧ Xp (N + 1) x' (plN par st N).2.1 ∧ Xp (N + 1) y' (plN par st N).2.2) N (by omega)
    (fun i s => nI (i + 1) = s.1 ∧ (plN par st i).1 = s.2.1 ∧ Xp (i + 1) s.2.2.1 (plN par st i).2.1 ∧ Xp (i + 1) s.2.2.2 (plN par st i).2.2) ⟨rfl, rfl, fun q hq => ?_, fun q hq => ?_⟩ ?_ ?_
  · rw [show q = 0 by omega]; rfl
  · rw [show q = 0 by omega]; rfl
  · rintro i ⟨x1, s2, a, b⟩ hi ⟨e1, e2, hX, hY⟩ k
    dsimp only at e1 e2 hX hY ⊢
    subst e1 e2
    left
    have hw := plN_wf (st := st) hR hp i (by omega)
    have hd := dv_lt (nx (plN par st i).1) (show 0 < 4 by omega)
    unfold fb_X2_placeRooms_22
    rw [if_neg (nI_ge (show i + 1 < N + 1 by omega) (by omega)), show (4 : Int32) = nI 4 from rfl, c_number (by omega) (by omega), bs,
      c_place (by omega) (show i + 1 < 12 by omega) hd (hP.2 (i + 1) (by omega) (by omega)) (hp (i + 1) (by omega) (by omega)) hX hY (fun q hq => by have := hw q (by omega); omega) (fun q hq => by have := hw q (by omega); omega), bs]
    refine ⟨_, ?_, rfl⟩
    exact ⟨(nI_1 (i + 1)).symm, rfl, hX.up _, hY.up _⟩
  · rintro ⟨x1, s2, a, b⟩ ⟨e1, e2, hX, hY⟩ k
    dsimp only at e1 e2 hX hY ⊢
    subst e1 e2
    unfold fb_X2_placeRooms_22
    rw [if_pos (nI_le (Nat.le_refl _) (by omega))]
    exact ⟨_, _, rfl, hX, hY⟩
/-- the reference's own step in a direction -/
theorem m_dir {d : Nat} (hd : d < 4) {R : Int32} {mp mx my : Nat → Int32} {k2 : Int32 → Int64 → (Nat → Int32) → (Nat → Int32) → Option (Int64 × (Nat → Int32) × (Nat → Int32))} {k : Int32 → Int32 → Int32 → Int32 → Int64 → (Nat → Int32) → (Nat → Int32) → Option (Int64 × (Nat → Int32) × (Nat → Int32))} {x1 : Int32} {x y : Int32} {st : Int64} :
    (if nI d = 0 then f_X7_makePlaces_74 R mp k2 k x1 (nI d) y (x + 1) st mx my else if nI d = 2 then f_X7_makePlaces_74 R mp k2 k x1 (nI d) y (x - 1) st mx my else f_X7_makePlaces_74 R mp k2 k x1 (nI d) y x st mx my) = k x1 (nI d) (x + iI (dE d)) (y + iI (dN d)) st mx my := by
  have h0 : ∀ z : Int32, z + iI 0 = z := fun z => by show z + 0 = z; exact Int32.add_zero z
  have hm : ∀ z : Int32, z + iI (-1) = z - 1 := fun z => by
    rw [show iI (-1) = -1 from by decide]; exact (Int32.sub_eq_add_neg z 1).symm
  have h1 : iI 1 = 1 := by decide
  rcases (show d = 0 ∨ d = 1 ∨ d = 2 ∨ d = 3 by omega) with rfl | rfl | rfl | rfl
  · rw [if_pos (by decide)]
    unfold f_X7_makePlaces_74 f_X7_makePlaces_101
    rw [if_neg (by decide), if_neg (by decide), show dE 0 = 1 from rfl, show dN 0 = 0 from rfl, h0, h1]
  · rw [if_neg (by decide), if_neg (by decide)]
    unfold f_X7_makePlaces_74 f_X7_makePlaces_101
    rw [if_pos (by decide), show dE 1 = 0 from rfl, show dN 1 = 1 from rfl, h0, h1]
  · rw [if_neg (by decide), if_pos (by decide)]
    unfold f_X7_makePlaces_74 f_X7_makePlaces_101
    rw [if_neg (by decide), if_neg (by decide), show dE 2 = -1 from rfl, show dN 2 = 0 from rfl, h0, hm]
  · rw [if_neg (by decide), if_neg (by decide)]
    unfold f_X7_makePlaces_74 f_X7_makePlaces_101
    rw [if_neg (by decide), if_pos (by decide), show dE 3 = 0 from rfl, show dN 3 = -1 from rfl, h0, hm]
theorem m_makePlaces {R : Nat} {st : Int64} {parent mx my : Nat → Int32} {par : Nat → Nat} (hR : R ≤ 12) (hR1 : 1 ≤ R) (hP : Rq R parent par) (hp : ∀ q, 1 ≤ q → q < R → par q < q) (hx0 : mx 0 = 0) (hy0 : my 0 = 0) :
    ∃ x' y', f_X7_makePlaces st (nI R) parent mx my = some ((plN par st (R - 1)).1, x', y') ∧ Xp R x' (plN par st (R - 1)).2.1 ∧ Xp R y' (plN par st (R - 1)).2.2 := by
  unfold f_X7_makePlaces f_X7_makePlaces_2
  obtain ⟨N, rfl⟩ : ∃ N, R = N + 1 := ⟨R - 1, by omega⟩
  refine lp_for0 (fun o => ∃ x' y' : Nat → Int32, o = some ((plN par st N).1, x', y') ∧ Xp (N + 1) x' (plN par st N).2.1 ∧ Xp (N + 1) y' (plN par st N).2.2) N (by omega)
    (fun i s => nI (i + 1) = s.1 ∧ (plN par st i).1 = s.2.1 ∧ Xp (i + 1) s.2.2.1 (plN par st i).2.1 ∧ Xp (i + 1) s.2.2.2 (plN par st i).2.2) ⟨rfl, rfl, fun q hq => ?_, fun q hq => ?_⟩ ?_ ?_
  · rw [show q = 0 by omega]; exact hx0
  · rw [show q = 0 by omega]; exact hy0
  · rintro i ⟨x1, s2, a, b⟩ hi ⟨e1, e2, hX, hY⟩ k
    dsimp only at e1 e2 hX hY ⊢
    subst e1 e2
    left
    have hw := plN_wf (st := st) hR hp i (by omega)
    have hd := dv_lt (nx (plN par st i).1) (show 0 < 4 by omega)
    have hpi := hp (i + 1) (by omega) (by omega)
    have h12 : i + 1 < 12 := by omega
    have hst : plN par st (i + 1) = plStep par (i + 1) (plN par st i) := rfl
    rw [hst]
    generalize plN par st i = S at hX hY hw hd
    unfold fb_X7_makePlaces_2
    rw [if_neg (nI_ge (show i + 1 < N + 1 by omega) (by omega)), show (4 : Int32) = nI 4 from rfl, m_draw (by omega) (by omega), bs, gd_in h12 (by omega), gd_in h12 (by omega), cl (by omega), hP.2 (i + 1) (by omega) (by omega), gd_in (show par (i + 1) < 12 by omega) (by omega), gd_in (show par (i + 1) < 12 by omega) (by omega), cl (by omega), hX _ hpi, hY _ hpi]
    unfold plStep
    generalize dv (nx S.1) 4 = d at hd
    obtain ⟨k1, k2, k3, k4⟩ := kst_spec (X := S.2.1) (Y := S.2.2) hd (show i + 1 ≤ 12 by omega) hpi
    generalize kst S.2.1 S.2.2 (i + 1) (par (i + 1)) d = K at k1 k2 k3 k4
    unfold f_X7_makePlaces_41
    refine lp_for0 (fun o => ∃ s', (nI (i + 1 + 1) = s'.1 ∧ nx S.1 = s'.2.1 ∧ Xp (i + 1 + 1) s'.2.2.1 (va_up S.2.1 (i + 1) (S.2.1 (par (i + 1)) + (K : Int) * dE d)) ∧ Xp (i + 1 + 1) s'.2.2.2 (va_up S.2.2 (i + 1) (S.2.2 (par (i + 1)) + (K : Int) * dN d))) ∧ o = k s') K (by omega)
      (fun j (s : Int32 × Int32 × Int32 × Int32 × Int64 × (Nat → Int32) × (Nat → Int32)) => nI (i + 1) = s.1 ∧ nI d = s.2.1 ∧ iI (S.2.1 (par (i + 1)) + (j : Int) * dE d) = s.2.2.1 ∧ iI (S.2.2 (par (i + 1)) + (j : Int) * dN d) = s.2.2.2.1 ∧ nx S.1 = s.2.2.2.2.1 ∧ a = s.2.2.2.2.2.1 ∧ b = s.2.2.2.2.2.2) ?_ ?_ ?_
    · exact ⟨rfl, rfl, by simp, by simp, rfl, rfl, rfl⟩
    · rintro j ⟨y1, y2, y3, y4, t5, a', b'⟩ hj ⟨f1, f2, f3, f4, f5, f6, f7⟩ k9
      dsimp only at f1 f2 f3 f4 f5 f6 f7 ⊢
      subst f1 f2 f3 f4 f5 f6 f7
      left
      unfold fb_X7_makePlaces_41
      have hf : occB S.2.1 S.2.2 (i + 1) (S.2.1 (par (i + 1)) + (j : Int) * dE d) (S.2.2 (par (i + 1)) + (j : Int) * dN d) = true := k4 j hj
      rw [m_occupied (by omega) hX hY (fun q hq => by have := hw q (by omega); omega) (fun q hq => by have := hw q (by omega); omega) (posB (by have := hw (par (i + 1)) (by omega); omega) (by omega) (dEN d).1) (posB (by have := hw (par (i + 1)) (by omega); omega) (by omega) (dEN d).2), bs, if_pos hf, if_neg (show ¬ (1 : Int32) = 0 by decide), m_dir hd, posS, posS]
      refine ⟨_, ?_, rfl⟩
      exact ⟨rfl, rfl, rfl, rfl, rfl, rfl, rfl⟩
    · rintro ⟨y1, y2, y3, y4, t5, a', b'⟩ ⟨f1, f2, f3, f4, f5, f6, f7⟩ k9
      dsimp only at f1 f2 f3 f4 f5 f6 f7 ⊢
      subst f1 f2 f3 f4 f5 f6 f7
      unfold fb_X7_makePlaces_41
      have hf : occB S.2.1 S.2.2 (i + 1) (S.2.1 (par (i + 1)) + (K : Int) * dE d) (S.2.2 (par (i + 1)) + (K : Int) * dN d) = false := k3
      rw [m_occupied (by omega) hX hY (fun q hq => by have := hw q (by omega); omega) (fun q hq => by have := hw q (by omega); omega) (posB (by have := hw (par (i + 1)) (by omega); omega) (by omega) (dEN d).1) (posB (by have := hw (par (i + 1)) (by omega); omega) (by omega) (dEN d).2), bs, if_neg (show ¬ occB S.2.1 S.2.2 (i + 1) (S.2.1 (par (i + 1)) + (K : Int) * dE d) (S.2.2 (par (i + 1)) + (K : Int) * dN d) = true by rw [hf]; decide), if_pos (show (0 : Int32) = 0 from rfl), gd_in h12 (by omega), gd_in h12 (by omega), cl (by omega)]
      refine ⟨_, ?_, rfl⟩
      exact ⟨(nI_1 (i + 1)).symm, rfl, hX.up _, hY.up _⟩
  · rintro ⟨x1, s2, a, b⟩ ⟨e1, e2, hX, hY⟩ k
    dsimp only at e1 e2 hX hY ⊢
    subst e1 e2
    unfold fb_X7_makePlaces_2
    rw [if_pos (nI_le (Nat.le_refl _) (by omega))]
    exact ⟨_, _, rfl, hX, hY⟩
