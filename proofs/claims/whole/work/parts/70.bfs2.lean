/-! Spreading: its end. -/
theorem bf_suc (G : Gr) (s n : Nat) : bf G s (n + 1) = match (bf G s n)[n]? with | none => bf G s n | some f => exq (G f.1) f (bf G s n) := rfl
theorem bf_none {G : Gr} {s n : Nat} (h : (bf G s n).length ≤ n) : bf G s (n + 1) = bf G s n := by
  rw [bf_suc, List.getElem?_eq_none_iff.mpr h]
theorem bf_some {G : Gr} {s n : Nat} {f : En} (h : (bf G s n)[n]? = some f) : bf G s (n + 1) = exq (G f.1) f (bf G s n) := by
  rw [bf_suc, h]
theorem rch_pre (Q : List En) (d o : Nat) (t : Option Nat) : Q <+: rch Q d o t := by
  unfold rch
  cases t with
  | none => exact List.prefix_refl _
  | some t =>
    dsimp only
    split
    · exact List.prefix_refl _
    · exact List.prefix_append _ _
theorem exq_pre {f : En} : ∀ (l : List (Nat × Option Nat)) (Q : List En), Q <+: exq l f Q := by
  intro l
  induction l with
  | nil => intro Q; exact List.prefix_refl _
  | cons x l ih => intro Q; exact (rch_pre Q _ _ _).trans (ih _)
theorem bf_pre1 (G : Gr) (s n : Nat) : bf G s n <+: bf G s (n + 1) := by
  cases h : (bf G s n)[n]? with
  | none => rw [bf_none (List.getElem?_eq_none_iff.mp h)]; exact List.prefix_refl _
  | some f => rw [bf_some h]; exact exq_pre _ _
theorem bf_pre (G : Gr) (s n k : Nat) : bf G s n <+: bf G s (n + k) := by
  induction k with
  | zero => exact List.prefix_refl _
  | succ k ih => exact ih.trans (bf_pre1 G s (n + k))
theorem bf_stay {G : Gr} {s n : Nat} (h : (bf G s n).length ≤ n) (k : Nat) : bf G s (n + k) = bf G s n := by
  induction k with
  | zero => rfl
  | succ k ih =>
    have e : bf G s (n + k + 1) = bf G s (n + k) := bf_none (by rw [ih]; omega)
    rw [show n + (k + 1) = n + k + 1 by omega, e, ih]
theorem rch_in {Q : List En} {d o : Nat} {t : Option Nat} {P : Nat → Prop} (h : ∀ e ∈ Q, P e.1) (ht : ∀ u, t = some u → P u) : ∀ e ∈ rch Q d o t, P e.1 := by
  unfold rch
  cases t with
  | none => exact h
  | some t =>
    dsimp only
    split
    · exact h
    · intro e he
      rcases List.mem_append.mp he with h1 | h1
      · exact h e h1
      · rw [List.mem_singleton.mp h1]; exact ht t rfl
theorem exq_in {f : En} {P : Nat → Prop} : ∀ (l : List (Nat × Option Nat)) (Q : List En), (∀ e ∈ Q, P e.1) → (∀ x ∈ l, ∀ u, x.2 = some u → P u) → ∀ e ∈ exq l f Q, P e.1 := by
  intro l
  induction l with
  | nil => intro Q h _; exact h
  | cons x l ih =>
    intro Q h h2
    exact ih _ (rch_in h (h2 x List.mem_cons_self)) (fun y hy => h2 y (List.mem_cons_of_mem _ hy))
/-- the graph stays below B -/
def Gb (G : Gr) (B : Nat) : Prop := ∀ s, s < B → ∀ x ∈ G s, ∀ u, x.2 = some u → u < B
theorem bf_in {G : Gr} {B s : Nat} (hB : Gb G B) (hs : s < B) (n : Nat) : ∀ e ∈ bf G s n, e.1 < B := by
  induction n with
  | zero => intro e he; rw [List.mem_singleton.mp he]; exact hs
  | succ n ih =>
    cases h : (bf G s n)[n]? with
    | none => rw [bf_none (List.getElem?_eq_none_iff.mp h)]; exact ih
    | some f =>
      rw [bf_some h]
      obtain ⟨hn, hf⟩ := List.getElem?_eq_some_iff.mp h
      exact exq_in _ _ ih (hB f.1 (ih f (by rw [← hf]; exact List.getElem_mem hn)))
theorem rch_nd {Q : List En} {d o : Nat} {t : Option Nat} (hn : (Q.map Prod.fst).Nodup) : ((rch Q d o t).map Prod.fst).Nodup := by
  unfold rch
  cases t with
  | none => exact hn
  | some t =>
    dsimp only
    split
    · exact hn
    · rename_i hm
      rw [List.map_append]
      refine List.nodup_append.mpr ⟨hn, by simp, fun x hx y hy => ?_⟩
      simp at hy
      intro e
      rw [e, hy] at hx
      exact hm hx
theorem exq_nd {f : En} : ∀ (l : List (Nat × Option Nat)) (Q : List En), (Q.map Prod.fst).Nodup → ((exq l f Q).map Prod.fst).Nodup := by
  intro l
  induction l with
  | nil => intro Q h; exact h
  | cons x l ih => intro Q h; exact ih _ (rch_nd h)
theorem bf_nd (G : Gr) (s n : Nat) : ((bf G s n).map Prod.fst).Nodup := by
  induction n with
  | zero => simp [bf]
  | succ n ih =>
    cases h : (bf G s n)[n]? with
    | none => rw [bf_none (List.getElem?_eq_none_iff.mp h)]; exact ih
    | some f => rw [bf_some h]; exact exq_nd _ _ ih
theorem ql_len {Q : List En} {B : Nat} (h1 : (Q.map Prod.fst).Nodup) (h2 : ∀ e ∈ Q, e.1 < B) : Q.length ≤ B := by
  have h := nodup_len (l := Q.map Prod.fst) (n := B) h1 (fun x hx => by obtain ⟨e, he, h3⟩ := List.mem_map.mp hx; rw [← h3]; exact h2 e he)
  rw [List.length_map] at h
  exact h
theorem bf_len {G : Gr} {B s : Nat} (hB : Gb G B) (hs : s < B) (n : Nat) : (bf G s n).length ≤ B := ql_len (bf_nd G s n) (bf_in hB hs n)
/-- distances are small -/
def Dj (Q : List En) : Prop := ∀ (j : Nat) (e : En), Q[j]? = some e → e.2.1 ≤ j
theorem rch_dj {Q : List En} {d o : Nat} {t : Option Nat} (h : Dj Q) (hd : d ≤ Q.length) : Dj (rch Q d o t) := by
  unfold rch
  cases t with
  | none => exact h
  | some t =>
    dsimp only
    split
    · exact h
    · intro j e he
      rcases Nat.lt_or_ge j Q.length with hj | hj
      · rw [List.getElem?_append_left hj] at he
        exact h j e he
      · rw [List.getElem?_append_right hj] at he
        have h0 : j - Q.length = 0 := by
          obtain ⟨h1, _⟩ := List.getElem?_eq_some_iff.mp he
          simp at h1
          omega
        rw [h0] at he
        cases he
        show d ≤ j
        omega
theorem exq_dj {f : En} : ∀ (l : List (Nat × Option Nat)) (Q : List En), Dj Q → f.2.1 + 1 ≤ Q.length → Dj (exq l f Q) := by
  intro l
  induction l with
  | nil => intro Q h _; exact h
  | cons x l ih =>
    intro Q h hd
    exact ih _ (rch_dj h hd) (Nat.le_trans hd (rch_pre Q _ _ _).length_le)
theorem bf_dj (G : Gr) (s n : Nat) : Dj (bf G s n) := by
  induction n with
  | zero =>
    intro j e he
    cases j with
    | zero => cases he; exact Nat.le_refl _
    | succ j => cases he
  | succ n ih =>
    cases h : (bf G s n)[n]? with
    | none => rw [bf_none (List.getElem?_eq_none_iff.mp h)]; exact ih
    | some f =>
      rw [bf_some h]
      obtain ⟨hn, _⟩ := List.getElem?_eq_some_iff.mp h
      exact exq_dj _ _ ih (by have := ih n f h; omega)
/-- the whole queue -/
def Fq (G : Gr) (s : Nat) : List En := bf G s 12288
theorem Fq_of {G : Gr} {s n : Nat} (hn : n ≤ 12288) (h : (bf G s n).length ≤ n) : Fq G s = bf G s n := by
  have := bf_stay h (12288 - n)
  rw [show n + (12288 - n) = 12288 by omega] at this
  exact this
theorem Fq_pre {G : Gr} {s n : Nat} (hn : n ≤ 12288) : bf G s n <+: Fq G s := by
  have := bf_pre G s n (12288 - n)
  rw [show n + (12288 - n) = 12288 by omega] at this
  exact this
theorem bi_end {G : Gr} (hG : Gw G) (s : Nat) : ∀ n, n ≤ (bf G s n).length ∨ BI G s (bf G s n) (bf G s n).length := by
  intro n
  induction n with
  | zero => exact Or.inl (Nat.zero_le _)
  | succ n ih =>
    rcases Nat.lt_or_ge n (bf G s n).length with h | h
    · exact Or.inl (Nat.le_trans h (bf_pre1 G s n).length_le)
    · right
      rw [bf_none h]
      rcases ih with h1 | h1
      · have h2 := bi_all hG s n h1
        rw [show (bf G s n).length = n by omega]
        exact h2
      · exact h1
theorem Fq_bi {G : Gr} (hG : Gw G) {B s : Nat} (hB : Gb G B) (hs : s < B) (hB2 : B ≤ 12288) : BI G s (Fq G s) (Fq G s).length := by
  have h1 := bf_len hB hs 12288
  rcases bi_end hG s 12288 with h | h
  · have h2 := bi_all hG s 12288 h
    unfold Fq
    rw [show (bf G s 12288).length = 12288 by omega]
    exact h2
  · exact h
theorem Fq_small {G : Gr} (hG : Gw G) {B : Nat} (hB : Gb G B) (hB2 : B ≤ 12288) {s : Nat} (hs : s < B) : ∀ e ∈ Fq G s, e.2.2 < 1000 := by
  intro e he
  rcases (Fq_bi hG hB hs hB2).2.2.2.1 e he with h | ⟨_, t, h, _⟩
  · rw [h]; show 0 < 1000; omega
  · exact (hG s).2 _ h
theorem Fq_next {G : Gr} (hG : Gw G) {B : Nat} (hB : Gb G B) (hB2 : B ≤ 12288) {s : Nat} (hs : s < B) {e : En} (he : e ∈ Fq G s) {o t : Nat} (h : (o, some t) ∈ G e.1) : ∃ f ∈ Fq G s, f.1 = t ∧ wt f ≤ 1000 * (e.2.1 + 1) + ow e o := by
  have h5 := (Fq_bi hG hB hs hB2).2.2.2.2.1 e (by rw [List.take_length]; exact he) (o, some t) h t rfl
  exact h5
theorem Fq_closed {G : Gr} (hG : Gw G) {B : Nat} (hB : Gb G B) (hB2 : B ≤ 12288) {s : Nat} (hs : s < B) {e : En} (he : e ∈ Fq G s) {o t : Nat} (h : (o, some t) ∈ G e.1) : ∃ f ∈ Fq G s, f.1 = t ∧ f.2.1 ≤ e.2.1 + 1 := by
  obtain ⟨f, hf, h1, h2⟩ := Fq_next hG hB hB2 hs he h
  have h3 := Fq_small hG hB hB2 hs e he
  have h4 := (hG e.1).2 _ h
  have h5 : ow e o < 1000 := by
    unfold ow; split
    · exact h4
    · exact h3
  have h6 : wt f = 1000 * f.2.1 + f.2.2 := rfl
  exact ⟨f, hf, h1, by omega⟩
theorem Fq_head {G : Gr} (hG : Gw G) {B : Nat} (hB : Gb G B) (hB2 : B ≤ 12288) {s : Nat} (hs : s < B) : (s, 0, 0) ∈ Fq G s := (Fq_bi hG hB hs hB2).2.2.1.subset List.mem_cons_self
theorem Fq_path {G : Gr} (hG : Gw G) {B : Nat} (hB : Gb G B) (hB2 : B ≤ 12288) {s : Nat} (hs : s < B) : ∀ k u, Pth G s k u → ∃ f ∈ Fq G s, f.1 = u ∧ f.2.1 ≤ k := by
  intro k
  induction k with
  | zero => intro u hu; exact ⟨(s, 0, 0), Fq_head hG hB hB2 hs, (show u = s from hu).symm, Nat.le_refl _⟩
  | succ k ih =>
    intro u hu
    obtain ⟨v, o, h1, h2⟩ := hu
    obtain ⟨e, he, h3, h4⟩ := ih v h1
    rw [← h3] at h2
    obtain ⟨f, hf, h5, h6⟩ := Fq_closed hG hB hB2 hs he h2
    exact ⟨f, hf, h5, by omega⟩
theorem Fq_path2 {G : Gr} (hG : Gw G) {B : Nat} (hB : Gb G B) (hB2 : B ≤ 12288) {s : Nat} (hs : s < B) {o t : Nat} (h : (o, some t) ∈ G s) : ∀ k u, Pth G t k u → ∃ f ∈ Fq G s, f.1 = u ∧ wt f ≤ 1000 * (k + 1) + o := by
  intro k
  induction k with
  | zero =>
    intro u hu
    obtain ⟨f, hf, h1, h2⟩ := Fq_next hG hB hB2 hs (Fq_head hG hB hB2 hs) h
    exact ⟨f, hf, by rw [h1]; exact (show u = t from hu).symm, h2⟩
  | succ k ih =>
    intro u hu
    obtain ⟨v, o', h1, h2⟩ := hu
    obtain ⟨e, he, h3, h4⟩ := ih v h1
    rw [← h3] at h2
    obtain ⟨f, hf, h5, h6⟩ := Fq_next hG hB hB2 hs he h2
    refine ⟨f, hf, h5, ?_⟩
    have h7 : wt e = 1000 * e.2.1 + e.2.2 := rfl
    have h8 := (hG e.1).2 _ h2
    have h9 : o' < 1000 := h8
    unfold ow at h6
    split at h6 <;> omega
theorem Fq_way {G : Gr} (hG : Gw G) {B : Nat} (hB : Gb G B) (hB2 : B ≤ 12288) {s : Nat} (hs : s < B) {e : En} (he : e ∈ Fq G s) : Pth G s e.2.1 e.1 := by
  rcases (Fq_bi hG hB hs hB2).2.2.2.1 e he with h | ⟨h1, t, h2, h3⟩
  · rw [h]; exact rfl
  · have := Pth_head h2 _ _ h3
    rw [show e.2.1 - 1 + 1 = e.2.1 by omega] at this
    exact this
theorem find_least {p : En → Bool} : ∀ {Q : List En}, Srt Q → ∀ {e : En}, Q.find? p = some e → ∀ f ∈ Q, p f = true → wt e ≤ wt f := by
  intro Q
  induction Q with
  | nil => intro _ e h; cases h
  | cons x Q ih =>
    intro hs e h f hf hp
    have hs1 := List.pairwise_cons.mp hs
    rw [List.find?_cons] at h
    cases hx : p x with
    | true =>
      rw [hx] at h
      cases h
      rcases List.mem_cons.mp hf with rfl | hf
      · exact Nat.le_refl _
      · exact hs1.1 f hf
    | false =>
      rw [hx] at h
      rcases List.mem_cons.mp hf with rfl | hf
      · rw [hx] at hp; cases hp
      · exact ih hs1.2 h f hf hp
theorem far_none {G : Gr} (hG : Gw G) {B : Nat} (hB : Gb G B) (hB2 : B ≤ 12288) {s : Nat} (hs : s < B) {p : Nat → Bool} (h : (Fq G s).find? (fun e => p e.1) = none) : ∀ k u, Pth G s k u → p u = false := by
  intro k u hu
  obtain ⟨f, hf, h1, _⟩ := Fq_path hG hB hB2 hs k u hu
  have := List.find?_eq_none.mp h f hf
  rw [h1] at this
  cases hp : p u with
  | true => exact absurd hp this
  | false => rfl
theorem far_some {G : Gr} (hG : Gw G) {B : Nat} (hB : Gb G B) (hB2 : B ≤ 12288) {s : Nat} (hs : s < B) {p : Nat → Bool} {e : En} (h : (Fq G s).find? (fun e => p e.1) = some e) : Pth G s e.2.1 e.1 ∧ p e.1 = true ∧ ∀ k u, Pth G s k u → p u = true → e.2.1 ≤ k := by
  have he := List.mem_of_find?_eq_some h
  refine ⟨Fq_way hG hB hB2 hs he, List.find?_some (p := fun e : En => p e.1) h, fun k u hu hp => ?_⟩
  obtain ⟨f, hf, h1, h2⟩ := Fq_path hG hB hB2 hs k u hu
  have h3 := find_least (Fq_bi hG hB hs hB2).1 h f hf (by rw [h1]; exact hp)
  have h4 := Fq_small hG hB hB2 hs f hf
  have h5 : wt e = 1000 * e.2.1 + e.2.2 := rfl
  have h6 : wt f = 1000 * f.2.1 + f.2.2 := rfl
  omega
/-- the first step of a shortest way, the least of them -/
theorem hint_all {G : Gr} (hG : Gw G) {B : Nat} (hB : Gb G B) (hB2 : B ≤ 12288) {s : Nat} (hs : s < B) {p : Nat → Bool} {e : En} (h : (Fq G s).find? (fun e => p e.1) = some e) (h0 : 1 ≤ e.2.1) :
    (∃ t e', (e.2.2, some t) ∈ G s ∧ (Fq G t).find? (fun e => p e.1) = some e' ∧ e'.2.1 + 1 = e.2.1) ∧
    (∀ o t e', o < e.2.2 → (o, some t) ∈ G s → (Fq G t).find? (fun e => p e.1) = some e' → e'.2.1 + 1 ≠ e.2.1) := by
  have he := List.mem_of_find?_eq_some h
  have hp : p e.1 = true := List.find?_some (p := fun e : En => p e.1) h
  have hl := find_least (Fq_bi hG hB hs hB2).1 h
  have h5 : wt e = 1000 * e.2.1 + e.2.2 := rfl
  constructor
  · rcases (Fq_bi hG hB hs hB2).2.2.2.1 e he with h1 | ⟨h1, t, h2, h3⟩
    · rw [h1] at h0
      exact absurd h0 (by show ¬ 1 ≤ 0; omega)
    · have ht : t < B := hB s hs _ h2 t rfl
      cases hc : (Fq G t).find? (fun e => p e.1) with
      | none =>
        have := far_none hG hB hB2 ht hc _ _ h3
        rw [hp] at this
        cases this
      | some e' =>
        obtain ⟨q1, q2, q3⟩ := far_some hG hB hB2 ht hc
        have q4 := q3 _ _ h3 hp
        obtain ⟨_, _, r3⟩ := far_some hG hB hB2 hs h
        have q5 := r3 _ _ (Pth_head h2 _ _ q1) q2
        exact ⟨t, e', h2, hc, by omega⟩
  · intro o t e' ho hm hf he2
    have ht : t < B := hB s hs _ hm t rfl
    obtain ⟨q1, q2, q3⟩ := far_some hG hB hB2 ht hf
    obtain ⟨f, hf1, hf2, hf3⟩ := Fq_path2 hG hB hB2 hs hm _ _ q1
    have := hl f hf1 (by show p f.1 = true; rw [hf2]; exact q2)
    omega
