/-! Places: the spec; pigeonholes. -/
theorem nodup_len : ∀ (n : Nat) (l : List Nat), l.Nodup → (∀ x, x ∈ l → x < n) → l.length ≤ n
  | 0, l, _, h => by
    cases l with
    | nil => exact Nat.le_refl _
    | cons a l => exact absurd (h a List.mem_cons_self) (Nat.not_lt_zero _)
  | n + 1, l, hn, h => by
    by_cases hm : n ∈ l
    · have h1 := nodup_len n (l.erase n) (hn.erase n) (fun x hx => by
        have h2 := (hn.mem_erase_iff).mp hx
        have h3 := h x h2.2
        have h4 := h2.1
        omega)
      rw [List.length_erase_of_mem hm] at h1
      omega
    · have h1 := nodup_len n l hn (fun x hx => by
        have h2 := h x hx
        have h3 : x ≠ n := fun e => hm (e ▸ hx)
        omega)
      omega
def iI (z : Int) : Int32 := Int32.ofInt z
theorem iI_add (a b : Int) : iI a + iI b = iI (a + b) := (Int32.ofInt_add a b).symm
theorem iI_sub (a b : Int) : iI a - iI b = iI (a - b) := (Int32.ofInt_sub a b).symm
theorem iI_toInt {a : Int} (h1 : -100000 ≤ a) (h2 : a ≤ 100000) : (iI a).toInt = a := Int32.toInt_ofInt_of_le (by omega) (by omega)
theorem iI_eq {a b : Int} (h1 : -100000 ≤ a) (h2 : a ≤ 100000) (h3 : -100000 ≤ b) (h4 : b ≤ 100000) : iI a = iI b ↔ a = b := by
  constructor
  · intro h
    have := congrArg Int32.toInt h
    rwa [iI_toInt h1 h2, iI_toInt h3 h4] at this
  · intro h; rw [h]
theorem iI_le {a b : Int} (h1 : -100000 ≤ a) (h2 : a ≤ 100000) (h3 : -100000 ≤ b) (h4 : b ≤ 100000) : iI a ≤ iI b ↔ a ≤ b := by
  rw [Int32.le_iff_toInt_le, iI_toInt h1 h2, iI_toInt h3 h4]
def dE (d : Nat) : Int := if d = 0 then 1 else if d = 2 then -1 else 0
def dN (d : Nat) : Int := if d = 1 then 1 else if d = 3 then -1 else 0
theorem east_eq : ∀ d, d < 4 → eastF d = iI (dE d) := by
  intro d h
  rcases (show d = 0 ∨ d = 1 ∨ d = 2 ∨ d = 3 by omega) with rfl | rfl | rfl | rfl <;> decide
theorem north_eq : ∀ d, d < 4 → northF d = iI (dN d) := by
  intro d h
  rcases (show d = 0 ∨ d = 1 ∨ d = 2 ∨ d = 3 by omega) with rfl | rfl | rfl | rfl <;> decide
def occB (X Y : Nat → Int) (r : Nat) (x y : Int) : Bool := (List.range r).any (fun q => decide (X q = x) && decide (Y q = y))
theorem occB_iff {X Y : Nat → Int} {r : Nat} {x y : Int} : occB X Y r x y = true ↔ ∃ q, q < r ∧ X q = x ∧ Y q = y := by
  unfold occB
  rw [List.any_eq_true]
  constructor
  · rintro ⟨q, h1, h2⟩
    simp at h2
    exact ⟨q, List.mem_range.mp h1, h2.1, h2.2⟩
  · rintro ⟨q, h1, h2, h3⟩
    exact ⟨q, List.mem_range.mpr h1, by simp [h2, h3]⟩
/-- whether the place k steps on is filled -/
def fil (X Y : Nat → Int) (r p d k : Nat) : Bool := occB X Y r (X p + (k : Int) * dE d) (Y p + (k : Int) * dN d)
def frF (f : Nat → Bool) : Nat → Nat → Nat
  | 0, k => k
  | n + 1, k => if f k = true then frF f n (k + 1) else k
theorem frF_eq {f : Nat → Bool} : ∀ (n k j : Nat), k ≤ j → j ≤ k + n → (∀ i, k ≤ i → i < j → f i = true) → f j = false → frF f n k = j
  | 0, k, j, h1, h2, _, _ => by show k = j; omega
  | n + 1, k, j, h1, h2, h3, h4 => by
    unfold frF
    by_cases e : k = j
    · subst e; rw [if_neg (by rw [h4]; decide)]
    · rw [if_pos (h3 k (Nat.le_refl _) (by omega))]
      exact frF_eq n (k + 1) j (by omega) (by omega) (fun i a b => h3 i (by omega) b) h4
theorem stepInj {d : Nat} (hd : d < 4) {x y : Int} {i j : Nat} (h1 : x + (i : Int) * dE d = x + (j : Int) * dE d) (h2 : y + (i : Int) * dN d = y + (j : Int) * dN d) : i = j := by
  rcases (show d = 0 ∨ d = 1 ∨ d = 2 ∨ d = 3 by omega) with rfl | rfl | rfl | rfl
  · simp only [dE, if_true] at h1; omega
  · simp [dN] at h2; omega
  · simp [dE] at h1; omega
  · simp [dN] at h2; omega
theorem free_ex {X Y : Nat → Int} {r p d : Nat} (hd : d < 4) : ∃ k, k ≤ r ∧ fil X Y r p d k = false := by
  refine Classical.byContradiction fun hno => ?_
  have hall : ∀ k, k ≤ r → ∃ q, q < r ∧ X q = X p + (k : Int) * dE d ∧ Y q = Y p + (k : Int) * dN d := fun k hk => by
    refine occB_iff.mp ?_
    show fil X Y r p d k = true
    cases h : fil X Y r p d k
    · exact absurd ⟨k, hk, h⟩ hno
    · rfl
  have hch : ∃ g : Nat → Nat, ∀ k, k ≤ r → g k < r ∧ X (g k) = X p + (k : Int) * dE d ∧ Y (g k) = Y p + (k : Int) * dN d := by
    refine ⟨fun k => if h : k ≤ r then Classical.choose (hall k h) else 0, fun k hk => ?_⟩
    dsimp only
    rw [dif_pos hk]
    exact Classical.choose_spec (hall k hk)
  obtain ⟨g, hg⟩ := hch
  have hnd : ((List.range (r + 1)).map g).Nodup := by
    unfold List.Nodup
    rw [List.pairwise_map]
    refine List.Pairwise.imp_of_mem ?_ (List.nodup_range (n := r + 1))
    intro a b ha hb hab e
    have ha' := hg a (by have := List.mem_range.mp ha; omega)
    have hb' := hg b (by have := List.mem_range.mp hb; omega)
    refine hab (stepInj hd (x := X p) (y := Y p) ?_ ?_)
    · rw [← ha'.2.1, ← hb'.2.1, e]
    · rw [← ha'.2.2, ← hb'.2.2, e]
  have hlen := nodup_len r _ hnd (fun x hx => by
    obtain ⟨k, h1, rfl⟩ := List.mem_map.mp hx
    exact (hg k (by have := List.mem_range.mp h1; omega)).1)
  rw [List.length_map, List.length_range] at hlen
  omega
theorem fil_0 {X Y : Nat → Int} {r p d : Nat} (hp : p < r) : fil X Y r p d 0 = true := occB_iff.mpr ⟨p, hp, by simp, by simp⟩
abbrev PS : Type := Int64 × (Nat → Int) × (Nat → Int)
def kst (X Y : Nat → Int) (r p d : Nat) : Nat := frF (fil X Y r p d) 12 1
theorem kst_spec {X Y : Nat → Int} {r p d : Nat} (hd : d < 4) (hr : r ≤ 12) (hp : p < r) : 1 ≤ kst X Y r p d ∧ kst X Y r p d ≤ r ∧ fil X Y r p d (kst X Y r p d) = false ∧ ∀ j, j < kst X Y r p d → fil X Y r p d j = true := by
  obtain ⟨k, h1, h2⟩ := pk_least (fun k => k ≤ r ∧ fil X Y r p d k = false) (free_ex hd)
  have hk1 : 1 ≤ k := by
    rcases Nat.eq_zero_or_pos k with e | e
    · subst e; rw [fil_0 hp] at h1; cases h1.2
    · exact e
  have hb : ∀ j, j < k → fil X Y r p d j = true := fun j hj => by
    cases h : fil X Y r p d j
    · exact absurd ⟨by omega, h⟩ (h2 j hj)
    · rfl
  have e : kst X Y r p d = k := frF_eq 12 1 k hk1 (by omega) (fun i _ b => hb i b) h1.2
  rw [e]
  exact ⟨hk1, h1.1, h1.2, hb⟩
def plStep (par : Nat → Nat) (r : Nat) (S : PS) : PS :=
  (nx S.1, va_up S.2.1 r (S.2.1 (par r) + (kst S.2.1 S.2.2 r (par r) (dv (nx S.1) 4) : Int) * dE (dv (nx S.1) 4)), va_up S.2.2 r (S.2.2 (par r) + (kst S.2.1 S.2.2 r (par r) (dv (nx S.1) 4) : Int) * dN (dv (nx S.1) 4)))
def plN (par : Nat → Nat) (st : Int64) : Nat → PS
  | 0 => (st, fun _ => 0, fun _ => 0)
  | n + 1 => plStep par (n + 1) (plN par st n)
def PlW (n : Nat) (S : PS) : Prop := ∀ q, q ≤ n → -(12 * (q : Int)) ≤ S.2.1 q ∧ S.2.1 q ≤ 12 * (q : Int) ∧ -(12 * (q : Int)) ≤ S.2.2 q ∧ S.2.2 q ≤ 12 * (q : Int)
theorem dEN (d : Nat) : (dE d = 1 ∨ dE d = -1 ∨ dE d = 0) ∧ (dN d = 1 ∨ dN d = -1 ∨ dN d = 0) := by
  constructor
  · unfold dE; split
    · exact Or.inl rfl
    · split
      · exact Or.inr (Or.inl rfl)
      · exact Or.inr (Or.inr rfl)
  · unfold dN; split
    · exact Or.inl rfl
    · split
      · exact Or.inr (Or.inl rfl)
      · exact Or.inr (Or.inr rfl)
theorem stepB {x b : Int} {k : Nat} {e : Int} (h1 : -b ≤ x) (h2 : x ≤ b) (he : e = 1 ∨ e = -1 ∨ e = 0) : -(b + k) ≤ x + (k : Int) * e ∧ x + (k : Int) * e ≤ b + k := by
  rcases he with rfl | rfl | rfl <;> constructor <;> omega
theorem plN_wf {par : Nat → Nat} {st : Int64} {R : Nat} (hR : R ≤ 12) (hp : ∀ q, 1 ≤ q → q < R → par q < q) : ∀ n, n < R → PlW n (plN par st n)
  | 0, _ => fun q hq => by
    rw [show q = 0 by omega]
    show -(12 * ((0 : Nat) : Int)) ≤ 0 ∧ (0 : Int) ≤ 12 * ((0 : Nat) : Int) ∧ -(12 * ((0 : Nat) : Int)) ≤ 0 ∧ (0 : Int) ≤ 12 * ((0 : Nat) : Int)
    omega
  | n + 1, hn => fun q hq => by
    have ih := plN_wf (st := st) hR hp n (by omega)
    have hpn := hp (n + 1) (by omega) hn
    generalize hS : plN par st n = S at ih
    have hu : plN par st (n + 1) = plStep par (n + 1) S := by show plStep par (n + 1) (plN par st n) = _; rw [hS]
    rw [hu]
    unfold plStep
    dsimp only
    have hd := dv_lt (nx S.1) (show 0 < 4 by omega)
    generalize dv (nx S.1) 4 = d at hd
    have hk := kst_spec (X := S.2.1) (Y := S.2.2) hd (show n + 1 ≤ 12 by omega) hpn
    generalize kst S.2.1 S.2.2 (n + 1) (par (n + 1)) d = k at hk
    by_cases e : q = n + 1
    · subst e
      rw [va_up_self, va_up_self]
      obtain ⟨a1, a2, a3, a4⟩ := ih (par (n + 1)) (by omega)
      have b1 := stepB (k := k) a1 a2 (dEN d).1
      have b2 := stepB (k := k) a3 a4 (dEN d).2
      generalize S.2.1 (par (n + 1)) + (k : Int) * dE d = x at b1
      generalize S.2.2 (par (n + 1)) + (k : Int) * dN d = y at b2
      have h9 := hk.2.1
      omega
    · rw [va_up_ne _ _ e, va_up_ne _ _ e]
      exact ih q (by omega)
