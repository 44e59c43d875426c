/-! The class's rooms are the spec's. -/
def Rp (n : Nat) (a : Nat → Int32) (f : Nat → Nat) : Prop := ∀ q, q < n → a q = nI (f q)
theorem Rp.up {n : Nat} {a : Nat → Int32} {f : Nat → Nat} (h : Rp n a f) (v : Nat) : Rp (n + 1) (upd a n (nI v)) (va_up f n v) := by
  intro q hq
  by_cases e : q = n
  · subst e; rw [pk_us, va_up_self]
  · rw [pk_un e, va_up_ne _ _ e]; exact h q (by omega)
theorem Rp.set {n : Nat} {a : Nat → Int32} {f : Nat → Nat} (h : Rp n a f) (k v : Nat) : Rp n (upd a k (nI v)) (va_up f k v) := by
  intro q hq
  by_cases e : q = k
  · subst e; rw [pk_us, va_up_self]
  · rw [pk_un e, va_up_ne _ _ e]; exact h q hq
theorem Rp.mono {n m : Nat} {a : Nat → Int32} {f : Nat → Nat} (h : Rp n a f) (hm : m ≤ n) : Rp m a f := fun q hq => h q (by omega)
/-- the rooms from 1 on (a parent) -/
def Rq (n : Nat) (a : Nat → Int32) (f : Nat → Nat) : Prop := a 0 = -1 ∧ ∀ q, 1 ≤ q → q < n → a q = nI (f q)
theorem Rq.up {n : Nat} {a : Nat → Int32} {f : Nat → Nat} (h : Rq n a f) (hn : 1 ≤ n) (v : Nat) : Rq (n + 1) (upd a n (nI v)) (va_up f n v) := by
  refine ⟨by rw [pk_un (by omega)]; exact h.1, fun q h1 h2 => ?_⟩
  by_cases e : q = n
  · subst e; rw [pk_us, va_up_self]
  · rw [pk_un e, va_up_ne _ _ e]; exact h.2 q h1 (by omega)
def Off (cnt : Int32) (off : Nat → Int32) (l : List Nat) : Prop := cnt = nI l.length ∧ ∀ i, i < l.length → off i = nI (l.getD i 0)
theorem Off.nil {off : Nat → Int32} : Off 0 off [] := ⟨rfl, fun i h => absurd h (Nat.not_lt_zero _)⟩
theorem c_offer {cnt : Int32} {off : Nat → Int32} {l : List Nat} (h : Off cnt off l) (hl : l.length < 12) (q : Nat) : ∃ c' o', f_X1_offer (nI q) cnt off = some (c', o') ∧ Off c' o' (l ++ [q]) := by
  obtain ⟨rfl, h2⟩ := h
  refine ⟨nI (l.length + 1), upd off l.length (nI q), ?_, ?_, ?_⟩
  · unfold f_X1_offer
    rw [if_neg (show ¬ (12 : Int32) ≤ nI l.length from fun z => by have := (nI_leI (a := 12) (by omega) (by omega)).mp z; omega), gd_in hl (by omega), cl (by omega), nI_1]
  · simp
  · intro i hi
    simp at hi
    by_cases e : i = l.length
    · subst e; rw [pk_us]; simp
    · rw [pk_un e, h2 i (by omega)]
      congr 1
      simp [List.getD_eq_getElem?_getD, List.getElem?_append_left (show i < l.length by omega)]
theorem c_offered {cnt : Int32} {off : Nat → Int32} {l : List Nat} (h : Off cnt off l) (hl : l.length ≤ 12) (hne : l ≠ []) (st : Int64) : f_X1_offeredRoom st cnt off = some (nI (pick st l), nx st) := by
  obtain ⟨rfl, h2⟩ := h
  have h0 : 0 < l.length := List.length_pos_iff.mpr hne
  have hd := dv_lt (nx st) h0
  unfold f_X1_offeredRoom
  rw [c_number h0 (by omega), bs, gd_in (by omega) (by omega), cl (by omega), h2 _ hd]
  rfl
/-- a list of candidates, built by a loop over the rooms -/
theorem c_drawnBefore {r t : Nat} {st : Int64} {cnt : Int32} {level off : Nat → Int32} {lev : Nat → Nat} (hr : r ≤ 12) (hL : Rp r level lev) (hb : ∀ q, q < r → lev q < 100) (ht : t < 100)
    (hne : cand r (fun q => lev q == t) ≠ []) : ∃ c' o', f_X2_drawnBefore (nI r) (nI t) st cnt level off = some (nI (pick st (cand r (fun q => lev q == t))), nx st, c', o') := by
  unfold f_X2_drawnBefore f_X1_clearOffer f_X2_drawnBefore_9
  rw [bs]
  refine lp_for0 (fun o => ∃ c' o', o = some (nI (pick st (cand r (fun q => lev q == t))), nx st, c', o')) r (by omega) (fun i s => s.1 = nI r ∧ s.2.1 = nI t ∧ s.2.2.1 = nI i ∧ s.2.2.2.1 = st ∧ Off s.2.2.2.2.1 s.2.2.2.2.2 (cand i (fun q => lev q == t))) ⟨rfl, rfl, rfl, rfl, Off.nil⟩ ?_ ?_
  · rintro i ⟨x1, x2, x3, s4, c, o⟩ hi ⟨rfl, rfl, rfl, rfl, hO⟩ k
    left
    dsimp only at hO ⊢
    have hlen := cand_len i (fun q => lev q == t)
    unfold fb_X2_drawnBefore_9 f_X2_drawnBefore_35
    rw [if_neg (show ¬ nI r ≤ nI i from nI_ge hi (by omega)), gd_in (show i < 12 by omega) (by omega), cl (by omega), hL i hi]
    by_cases hp : lev i = t
    · obtain ⟨c', o', e1, e2⟩ := c_offer hO (by omega) i
      rw [if_pos (by rw [hp]), e1, bs]
      refine ⟨(nI r, nI t, nI (i + 1), s4, c', o'), ⟨rfl, rfl, rfl, rfl, ?_⟩, ?_⟩
      · rw [cand_succ, if_pos (by simp [hp])]; exact e2
      · rw [nI_1]
    · rw [if_neg (fun z => hp ((nI_eq (by have := hb i hi; omega) (by omega)).mp z))]
      refine ⟨(nI r, nI t, nI (i + 1), s4, c, o), ⟨rfl, rfl, rfl, rfl, ?_⟩, ?_⟩
      · rw [cand_succ, if_neg (by simp [hp])]; exact hO
      · rw [nI_1]
  · rintro ⟨x1, x2, x3, s4, c, o⟩ ⟨rfl, rfl, rfl, rfl, hO⟩ k
    dsimp only at hO ⊢
    have hlen := cand_len r (fun q => lev q == t)
    unfold fb_X2_drawnBefore_9
    rw [if_pos (nI_le (Nat.le_refl r) (by omega)), c_offered hO (by omega) hne, bs]
    exact ⟨_, _, rfl⟩
theorem mayRise_eq {p t K : Nat} {level : Nat → Int32} {lev : Nat → Nat} {n : Nat} (hL : Rp n level lev) (hp : p < n) (hn : n ≤ 12) (hb : lev p < 100) (ht : t < 100) (hK : K < 100) : f_X2_mayRise (nI p) (nI t) (nI K) level = some (if lev p = t ∧ t < K then 1 else 0) := by
  unfold f_X2_mayRise
  rw [gd_in (show p < 12 by omega) (by omega), cl (by omega), hL p hp]
  by_cases h1 : lev p = t
  · rw [if_pos (by rw [h1])]
    by_cases h2 : t < K
    · rw [if_neg (nI_ge h2 (by omega)), if_pos ⟨h1, h2⟩]
    · rw [if_pos (nI_le (by omega) (by omega)), if_neg (fun z => h2 z.2)]
  · rw [if_neg (fun z => h1 ((nI_eq (by omega) (by omega)).mp z)), if_neg (fun z => h1 z.1)]
/-- what the class holds of a RS -/
def CRm (n : Nat) (S : RS) (parent level kind : Nat → Int32) : Prop := Rq n parent S.2.2.1 ∧ Rp n level S.2.2.2.1 ∧ Rp n kind S.2.2.2.2
theorem addRooms_step {R K n : Nat} {S : RS} (hR : R ≤ 12) (hn : n + 1 < R) (hK : K ≤ 3) (h : RmW R K n S) {parent level kind offered : Nat → Int32} {cnt : Int32} (hC : CRm (n + 1) S parent level kind)
    (k : Int32 → Int32 → Int64 → Int32 → (Nat → Int32) → (Nat → Int32) → (Nat → Int32) → (Nat → Int32) → Option (Int64 × Int32 × (Nat → Int32) × (Nat → Int32) × (Nat → Int32) × (Nat → Int32))) :
    ∃ c' o' p' l' k', CRm (n + 2) (rmStep R K (n + 1) S) p' l' k' ∧
      fb_X2_addRooms_34 (nI R) (nI K) k (nI S.1) (nI (n + 1)) S.2.1 cnt parent level kind offered = k (nI (rmStep R K (n + 1) S).1) (nI (n + 2)) (rmStep R K (n + 1) S).2.1 c' p' l' k' o' := by
  obtain ⟨hP, hL, hD⟩ := hC
  obtain ⟨a1, a2, a3, a4, ⟨q0, b1, b2⟩, a6, a7, a8, a9⟩ := h
  have hlev : ∀ q, q < n + 1 → S.2.2.2.1 q < 100 := fun q hq => by have := a4 q (by omega); omega
  have h12 : n + 1 < 12 := by omega
  unfold fb_X2_addRooms_34
  rw [if_neg (nI_ge hn (by omega)), pk_sub (by omega), pk_sub a1]
  have hu : ∀ {x1 x4 : Nat} {st : Int64} {c : Int32} {o : Nat → Int32}, f_X2_addRooms_120 (nI R) (nI K) k (nI x1) (nI (n + 1)) (nI x4) st c parent level kind o = k (nI (x1 + 1)) (nI (n + 2)) st c (upd parent (n + 1) (nI x4)) (upd level (n + 1) (nI (x1 + 1))) (upd kind (n + 1) (nI 1)) o := by
    intro x1 x4 st c o
    unfold f_X2_addRooms_120 f_X2_addRooms_125 f_X2_addRooms_135 f_X2_addRooms_173 f_X2_addRooms_192
    rw [if_neg (by decide), gd_in h12 (by omega), if_neg (by decide), gd_in h12 (by omega), if_neg (by decide), gd_in h12 (by omega), cl (by omega), nI_1, nI_1]
    rfl
  have hs : ∀ {x1 x4 : Nat} {st : Int64} {c : Int32} {o : Nat → Int32}, x4 < n + 1 → f_X2_addRooms_124 (nI R) (nI K) k (nI x1) (nI (n + 1)) (nI x4) st c parent level kind o = k (nI x1) (nI (n + 2)) st c (upd parent (n + 1) (nI x4)) (upd level (n + 1) (nI (S.2.2.2.1 x4))) (upd kind (n + 1) (nI 0)) o := by
    intro x1 x4 st c o hx
    unfold f_X2_addRooms_124 f_X2_addRooms_125 f_X2_addRooms_135 f_X2_addRooms_173 f_X2_addRooms_192
    rw [if_pos rfl, gd_in h12 (by omega), if_pos rfl, gd_in (show x4 < 12 by omega) (by omega), gd_in h12 (by omega), if_pos rfl, gd_in h12 (by omega), cl (by omega), cl (by omega), hL x4 hx, nI_1]
    rfl
  by_cases c1 : R - (n + 1) = K - S.1
  · rw [if_pos (by rw [c1])]
    have hne : cand (n + 1) (fun q => S.2.2.2.1 q == S.1) ≠ [] := by
      intro e
      have : q0 ∈ cand (n + 1) (fun q => S.2.2.2.1 q == S.1) := cand_mem.mpr ⟨by omega, by simp [b2]⟩
      rw [e] at this
      cases this
    obtain ⟨c', o', e1⟩ := c_drawnBefore (st := S.2.1) (cnt := cnt) (off := offered) (show n + 1 ≤ 12 by omega) hL hlev (show S.1 < 100 by omega) hne
    have hst : rmStep R K (n + 1) S = (S.1 + 1, nx S.2.1, va_up S.2.2.1 (n + 1) (pick S.2.1 (cand (n + 1) (fun q => S.2.2.2.1 q == S.1))), va_up S.2.2.2.1 (n + 1) (S.1 + 1), va_up S.2.2.2.2 (n + 1) 1) := by
      unfold rmStep; rw [if_pos c1]
    rw [hst]
    refine ⟨c', o', _, _, _, ⟨hP.up (by omega) _, hL.up _, hD.up _⟩, ?_⟩
    unfold f_X2_addRooms_71 f_X2_addRooms_93
    rw [if_neg (by decide), e1, bs, if_neg (by decide)]
    exact hu
  · rw [if_neg (fun z => c1 ((nI_eq (by omega) (by omega)).mp z))]
    have hd := dv_lt (nx S.2.1) (show 0 < n + 1 by omega)
    unfold f_X2_addRooms_71 f_X2_addRooms_93
    rw [if_pos rfl, c_number (by omega) (by omega), bs, if_pos rfl, mayRise_eq hL hd (by omega) (hlev _ hd) (by omega) (by omega), bs]
    by_cases c2 : S.2.2.2.1 (dv (nx S.2.1) (n + 1)) = S.1 ∧ S.1 < K
    · rw [if_pos c2, if_neg (by decide), show (4 : Int32) = nI 4 from rfl, c_number (by omega) (by omega), bs]
      have h4 := dv_lt (nx (nx S.2.1)) (show 0 < 4 by omega)
      by_cases c3 : dv (nx (nx S.2.1)) 4 = 0
      · have hst : rmStep R K (n + 1) S = (S.1 + 1, nx (nx S.2.1), va_up S.2.2.1 (n + 1) (dv (nx S.2.1) (n + 1)), va_up S.2.2.2.1 (n + 1) (S.1 + 1), va_up S.2.2.2.2 (n + 1) 1) := by
          unfold rmStep; rw [if_neg c1, if_pos c2, if_pos c3]
        rw [hst, if_pos (by rw [c3]; rfl)]
        exact ⟨_, _, _, _, _, ⟨hP.up (by omega) _, hL.up _, hD.up _⟩, hu⟩
      · have hst : rmStep R K (n + 1) S = (S.1, nx (nx S.2.1), va_up S.2.2.1 (n + 1) (dv (nx S.2.1) (n + 1)), va_up S.2.2.2.1 (n + 1) (S.2.2.2.1 (dv (nx S.2.1) (n + 1))), va_up S.2.2.2.2 (n + 1) 0) := by
          unfold rmStep; rw [if_neg c1, if_pos c2, if_neg c3]
        rw [hst, if_neg (show ¬ nI (dv (nx (nx S.2.1)) 4) = 0 from fun z => c3 ((nI_eq (b := 0) (by omega) (by omega)).mp z))]
        exact ⟨_, _, _, _, _, ⟨hP.up (by omega) _, hL.up _, hD.up _⟩, hs hd⟩
    · have hst : rmStep R K (n + 1) S = (S.1, nx S.2.1, va_up S.2.2.1 (n + 1) (dv (nx S.2.1) (n + 1)), va_up S.2.2.2.1 (n + 1) (S.2.2.2.1 (dv (nx S.2.1) (n + 1))), va_up S.2.2.2.2 (n + 1) 0) := by
        unfold rmStep; rw [if_neg c1, if_neg c2]
      rw [hst, if_neg c2, if_pos rfl]
      exact ⟨_, _, _, _, _, ⟨hP.up (by omega) _, hL.up _, hD.up _⟩, hs hd⟩
theorem c_addRooms {R K : Nat} (hR : R ≤ 12) (hR1 : 1 ≤ R) (hK : K ≤ 3) (hKR : K < R) (st : Int64) (cnt : Int32) (parent level kind offered : Nat → Int32) :
    ∃ c' o' p' l' k', f_X2_addRooms (nI R) (nI K) st cnt parent level kind offered = some ((rmN R K st (R - 1)).2.1, c', p', l', k', o') ∧ CRm R (rmN R K st (R - 1)) p' l' k' := by
  unfold f_X2_addRooms f_X2_addRooms_34
  rw [gd_neg (by decide), gd_neg (by decide), gd_neg (by decide)]
  obtain ⟨N, rfl⟩ : ∃ N, R = N + 1 := ⟨R - 1, by omega⟩
  show _
  refine lp_for0 (fun o => ∃ c' o' p' l' k', o = some ((rmN (N + 1) K st N).2.1, c', p', l', k', o') ∧ CRm (N + 1) (rmN (N + 1) K st N) p' l' k') N (by omega)
    (fun i s => s.1 = nI (rmN (N + 1) K st i).1 ∧ s.2.1 = nI (i + 1) ∧ s.2.2.1 = (rmN (N + 1) K st i).2.1 ∧ CRm (i + 1) (rmN (N + 1) K st i) s.2.2.2.2.1 s.2.2.2.2.2.1 s.2.2.2.2.2.2.1) ⟨rfl, rfl, rfl, ⟨?_, ?_⟩, ?_, ?_⟩ ?_ ?_
  · rfl
  · intro q h1 h2; omega
  · intro q hq; rw [show q = 0 by omega]; rfl
  · intro q hq; rw [show q = 0 by omega]; rfl
  · rintro i ⟨x1, x2, s3, c, p, lv, kd, o⟩ hi ⟨rfl, rfl, rfl, hC⟩ k
    left
    obtain ⟨c', o', p', l', k', h1, h2⟩ := addRooms_step (cnt := c) (offered := o) hR (show i + 1 < N + 1 by omega) hK (rmN_wf hKR st i (by omega)) hC (fun x1 x2 a b c d e f => k (x1, x2, a, b, c, d, e, f))
    exact ⟨(_, _, _, c', p', l', k', o'), ⟨rfl, rfl, rfl, h1⟩, h2⟩
  · rintro ⟨x1, x2, s3, c, p, lv, kd, o⟩ ⟨rfl, rfl, rfl, hC⟩ k
    dsimp only at hC ⊢
    unfold fb_X2_addRooms_34
    rw [if_pos (nI_le (Nat.le_refl _) (by omega))]
    exact ⟨_, _, _, _, _, rfl, hC⟩
