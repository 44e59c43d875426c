/-! Spreading over a graph: the queue as a list of situation, distance, opening. -/
abbrev En := Nat × Nat × Nat
abbrev Gr := Nat → List (Nat × Option Nat)
def wt (e : En) : Nat := 1000 * e.2.1 + e.2.2
def ow (f : En) (o : Nat) : Nat := if f.2.1 = 0 then o else f.2.2
def rch (Q : List En) (d o : Nat) (t : Option Nat) : List En :=
  match t with
  | none => Q
  | some t => if t ∈ Q.map Prod.fst then Q else Q ++ [(t, d, o)]
def exq (l : List (Nat × Option Nat)) (f : En) (Q : List En) : List En := l.foldl (fun q x => rch q (f.2.1 + 1) (ow f x.1) x.2) Q
def bf (G : Gr) (s : Nat) : Nat → List En
  | 0 => [(s, 0, 0)]
  | n + 1 => match (bf G s n)[n]? with
    | none => bf G s n
    | some f => exq (G f.1) f (bf G s n)
/-- a way of k steps from s -/
def Pth (G : Gr) (s : Nat) : Nat → Nat → Prop
  | 0, u => u = s
  | k + 1, u => ∃ v o, Pth G s k v ∧ (o, some u) ∈ G v
abbrev Srt (Q : List En) : Prop := Q.Pairwise (fun e f => wt e ≤ wt f)
theorem ow_mono (f : En) {x y : Nat} (h : x ≤ y) : ow f x ≤ ow f y := by
  unfold ow; split <;> omega
theorem rch_spec {Q : List En} {d o : Nat} {t : Option Nat} (hb : ∀ e ∈ Q, wt e ≤ 1000 * d + o) (hs : Srt Q) (hn : (Q.map Prod.fst).Nodup) :
    Srt (rch Q d o t) ∧ ((rch Q d o t).map Prod.fst).Nodup ∧ Q <+: rch Q d o t ∧ (∀ e ∈ rch Q d o t, e ∈ Q ∨ ∃ u, t = some u ∧ e = (u, d, o)) ∧ (∀ u, t = some u → ∃ e ∈ rch Q d o t, e.1 = u ∧ wt e ≤ 1000 * d + o) := by
  unfold rch
  cases t with
  | none => exact ⟨hs, hn, List.prefix_refl _, fun e he => Or.inl he, fun u hu => by cases hu⟩
  | some t =>
    dsimp only
    split
    · rename_i hm
      refine ⟨hs, hn, List.prefix_refl _, fun e he => Or.inl he, fun u hu => ?_⟩
      cases hu
      obtain ⟨e, he, h⟩ := List.mem_map.mp hm
      exact ⟨e, he, h, hb e he⟩
    · rename_i hm
      refine ⟨?_, ?_, List.prefix_append _ _, fun e he => ?_, fun u hu => ?_⟩
      · refine List.pairwise_append.mpr ⟨hs, List.pairwise_singleton _ _, fun e he f hf => ?_⟩
        rw [List.mem_singleton.mp hf]
        exact hb e he
      · rw [List.map_append]
        refine List.nodup_append.mpr ⟨hn, by simp, fun x hx y hy => ?_⟩
        simp at hy
        intro e
        rw [e, hy] at hx
        exact hm hx
      · rcases List.mem_append.mp he with h | h
        · exact Or.inl h
        · exact Or.inr ⟨t, rfl, List.mem_singleton.mp h⟩
      · cases hu
        exact ⟨(t, d, o), List.mem_append.mpr (Or.inr (List.mem_singleton.mpr rfl)), rfl, Nat.le_refl _⟩
theorem exq_spec {f : En} : ∀ (l : List (Nat × Option Nat)) (Q : List En), l.Pairwise (fun x y => x.1 ≤ y.1) → (∀ e ∈ Q, ∀ x ∈ l, wt e ≤ 1000 * (f.2.1 + 1) + ow f x.1) → Srt Q → (Q.map Prod.fst).Nodup →
    Srt (exq l f Q) ∧ ((exq l f Q).map Prod.fst).Nodup ∧ Q <+: exq l f Q ∧ (∀ e ∈ exq l f Q, e ∈ Q ∨ ∃ x ∈ l, ∃ t, x.2 = some t ∧ e = (t, f.2.1 + 1, ow f x.1)) ∧ (∀ x ∈ l, ∀ t, x.2 = some t → ∃ e ∈ exq l f Q, e.1 = t ∧ wt e ≤ 1000 * (f.2.1 + 1) + ow f x.1) := by
  intro l
  induction l with
  | nil => intro Q _ _ hs hn; exact ⟨hs, hn, List.prefix_refl _, fun e he => Or.inl he, fun x hx => by cases hx⟩
  | cons x l ih =>
    intro Q hp hb hs hn
    have hp1 := List.pairwise_cons.mp hp
    obtain ⟨r1, r2, r3, r4, r5⟩ := rch_spec (t := x.2) (fun e he => hb e he x (List.mem_cons_self)) hs hn
    have hb1 : ∀ e ∈ rch Q (f.2.1 + 1) (ow f x.1) x.2, ∀ y ∈ l, wt e ≤ 1000 * (f.2.1 + 1) + ow f y.1 := by
      intro e he y hy
      rcases r4 e he with h | ⟨u, hu, h⟩
      · exact hb e h y (List.mem_cons_of_mem _ hy)
      · rw [h]
        have := ow_mono f (hp1.1 y hy)
        show 1000 * (f.2.1 + 1) + ow f x.1 ≤ _
        omega
    obtain ⟨i1, i2, i3, i4, i5⟩ := ih _ hp1.2 hb1 r1 r2
    refine ⟨i1, i2, r3.trans i3, fun e he => ?_, fun y hy t ht => ?_⟩
    · rcases i4 e he with h | ⟨y, hy, t, h1, h2⟩
      · rcases r4 e h with h1 | ⟨u, hu, h1⟩
        · exact Or.inl h1
        · exact Or.inr ⟨x, List.mem_cons_self, u, hu, h1⟩
      · exact Or.inr ⟨y, List.mem_cons_of_mem _ hy, t, h1, h2⟩
    · rcases List.mem_cons.mp hy with rfl | hy
      · obtain ⟨e, he, h1, h2⟩ := r5 t ht
        exact ⟨e, i3.subset he, h1, h2⟩
      · exact i5 y hy t ht
/-- what holds when n entries of the queue have been gone on from -/
def BI (G : Gr) (s : Nat) (Q : List En) (n : Nat) : Prop :=
  Srt Q ∧ (Q.map Prod.fst).Nodup ∧ [(s, 0, 0)] <+: Q ∧ (∀ e ∈ Q, e = (s, 0, 0) ∨ (1 ≤ e.2.1 ∧ ∃ t, (e.2.2, some t) ∈ G s ∧ Pth G t (e.2.1 - 1) e.1)) ∧
  (∀ e ∈ Q.take n, ∀ x ∈ G e.1, ∀ t, x.2 = some t → ∃ f ∈ Q, f.1 = t ∧ wt f ≤ 1000 * (e.2.1 + 1) + ow e x.1) ∧
  (n = 0 → Q = [(s, 0, 0)]) ∧ (0 < n → ∀ e ∈ Q, ∀ f ∈ Q.drop n, wt e ≤ wt f + 1000)
def Gw (G : Gr) : Prop := ∀ s, (G s).Pairwise (fun x y => x.1 ≤ y.1) ∧ ∀ x ∈ G s, x.1 < 1000
theorem Pth_head {G : Gr} {s t o : Nat} (h : (o, some t) ∈ G s) : ∀ (k u : Nat), Pth G t k u → Pth G s (k + 1) u := by
  intro k
  induction k with
  | zero => intro u hu; exact ⟨s, o, rfl, by rw [show u = t from hu]; exact h⟩
  | succ k ih => intro u hu; obtain ⟨v, o', h1, h2⟩ := hu; exact ⟨v, o', ih v h1, h2⟩
theorem mem_take_pre {α : Type} {Q Q' : List α} {n : Nat} (h : Q <+: Q') (hn : n ≤ Q.length) : Q'.take n = Q.take n := by
  obtain ⟨R, rfl⟩ := h
  rw [List.take_append_of_le_length hn]
theorem bi_step {G : Gr} {s : Nat} (hG : Gw G) {Q : List En} {n : Nat} {f : En} (h : BI G s Q n) (hf : Q[n]? = some f) : BI G s (exq (G f.1) f Q) (n + 1) := by
  obtain ⟨h1, h2, h3, h4, h5, h6, h7⟩ := h
  obtain ⟨hn, hfe⟩ := List.getElem?_eq_some_iff.mp hf
  have hfm : f ∈ Q := by rw [← hfe]; exact List.getElem_mem hn
  have hdr : Q.drop n = f :: Q.drop (n + 1) := by rw [← hfe]; exact List.drop_eq_getElem_cons hn
  have hb : ∀ e ∈ Q, ∀ x ∈ G f.1, wt e ≤ 1000 * (f.2.1 + 1) + ow f x.1 := by
    intro e he x hx
    by_cases z : n = 0
    · rw [h6 z] at he
      rw [List.mem_singleton.mp he]
      show 1000 * 0 + 0 ≤ _
      omega
    · have h8 := h7 (by omega) e he f (by rw [hdr]; exact List.mem_cons_self)
      rcases h4 f hfm with h9 | ⟨h9, _⟩
      · rw [h9] at h8
        rw [h9]
        have : wt (s, 0, 0) = 0 := rfl
        show wt e ≤ 1000 * (0 + 1) + _
        omega
      · unfold ow
        rw [if_neg (by omega)]
        have : wt f = 1000 * f.2.1 + f.2.2 := rfl
        omega
  obtain ⟨r1, r2, r3, r4, r5⟩ := exq_spec (f := f) (G f.1) Q (hG f.1).1 hb h1 h2
  have htk : (exq (G f.1) f Q).take (n + 1) = Q.take n ++ [f] := by
    rw [mem_take_pre r3 (by omega), List.take_succ_eq_append_getElem hn, hfe]
  have hlast : ∀ x ∈ G f.1, wt (0, f.2.1 + 1, ow f x.1) = 1000 * (f.2.1 + 1) + ow f x.1 := fun x _ => rfl
  refine ⟨r1, r2, h3.trans r3, fun e he => ?_, fun e he x hx t ht => ?_, fun z => by omega, fun _ e he g hg => ?_⟩
  · rcases r4 e he with h | ⟨x, hx, t, hxt, he2⟩
    · exact h4 e h
    · right
      rw [he2]
      refine ⟨by show 1 ≤ f.2.1 + 1; omega, ?_⟩
      have hxe : (x.1, some t) ∈ G f.1 := by rw [← hxt]; exact hx
      rcases h4 f hfm with h9 | ⟨h9, t0, h10, h11⟩
      · refine ⟨t, ?_, ?_⟩
        · show (ow f x.1, some t) ∈ G s
          rw [h9] at hxe ⊢
          exact hxe
        · show Pth G t (f.2.1 + 1 - 1) t
          rw [h9]
          exact rfl
      · refine ⟨t0, ?_, ?_⟩
        · show (ow f x.1, some t0) ∈ G s
          unfold ow
          rw [if_neg (by omega)]
          exact h10
        · show Pth G t0 (f.2.1 + 1 - 1) t
          rw [show f.2.1 + 1 - 1 = (f.2.1 - 1) + 1 by omega]
          exact ⟨f.1, x.1, h11, hxe⟩
  · rw [htk] at he
    rcases List.mem_append.mp he with he | he
    · obtain ⟨g, hg, h8, h9⟩ := h5 e he x hx t ht
      exact ⟨g, r3.subset hg, h8, h9⟩
    · rw [List.mem_singleton.mp he] at hx ⊢
      exact r5 x hx t ht
  · have hw : wt f ≤ wt g := by
      have e1 : exq (G f.1) f Q = (Q.take n ++ [f]) ++ (exq (G f.1) f Q).drop (n + 1) := by
        rw [← htk]; exact (List.take_append_drop _ _).symm
      rw [e1] at r1
      exact (List.pairwise_append.mp r1).2.2 f (List.mem_append.mpr (Or.inr (List.mem_singleton.mpr rfl))) g hg
    have hwf : wt f = 1000 * f.2.1 + f.2.2 := rfl
    have hgq : g ∈ exq (G f.1) f Q := List.mem_of_mem_drop hg
    by_cases z : n = 0
    · have hQ := h6 z
      subst z
      have hf0 : f = (s, 0, 0) := by rw [hQ] at hfm; exact List.mem_singleton.mp hfm
      have hge : g ∉ Q := by
        intro hgm
        rw [hQ] at hgm
        have hg0 := List.mem_singleton.mp hgm
        have e1 : exq (G f.1) f Q = (Q.take 0 ++ [f]) ++ (exq (G f.1) f Q).drop (0 + 1) := by
          rw [← htk]; exact (List.take_append_drop _ _).symm
        rw [e1, List.map_append] at r2
        refine (List.nodup_append.mp r2).2.2 s (by rw [hf0]; simp) s ?_ rfl
        exact List.mem_map.mpr ⟨g, hg, by rw [hg0]⟩
      rcases r4 g hgq with h | ⟨x, hx, t, hxt, he2⟩
      · exact absurd h hge
      · have hwg : wt g = 1000 * (f.2.1 + 1) + ow f x.1 := by rw [he2]; rfl
        rcases r4 e he with h | ⟨x2, hx2, t2, hxt2, he3⟩
        · rw [hQ] at h
          rw [List.mem_singleton.mp h]
          show 1000 * 0 + 0 ≤ _
          omega
        · have hwe : wt e = 1000 * (f.2.1 + 1) + ow f x2.1 := by rw [he3]; rfl
          have h8 := (hG f.1).2 x2 hx2
          have h9 : ow f x2.1 = x2.1 := by rw [hf0]; rfl
          omega
    · rcases r4 e he with h | ⟨x, hx, t, hxt, he2⟩
      · have h8 := h7 (by omega) e h f (by rw [hdr]; exact List.mem_cons_self)
        omega
      · rcases h4 f hfm with h9 | ⟨h9, _⟩
        · exfalso
          have e0 : Q = Q.take n ++ Q.drop n := (List.take_append_drop _ _).symm
          have hpre : (s, 0, 0) ∈ Q.take n := by
            obtain ⟨R, hR⟩ := h3
            rw [← hR]
            cases n with
            | zero => exact absurd rfl z
            | succ n => exact List.mem_cons_self
          rw [e0, List.map_append] at h2
          refine (List.nodup_append.mp h2).2.2 s (List.mem_map.mpr ⟨_, hpre, rfl⟩) s ?_ rfl
          rw [hdr, h9]
          exact List.mem_map.mpr ⟨_, List.mem_cons_self, rfl⟩
        · have hwe : wt e = 1000 * (f.2.1 + 1) + ow f x.1 := by rw [he2]; rfl
          have : ow f x.1 = f.2.2 := by unfold ow; rw [if_neg (by omega)]
          omega
theorem bi_all {G : Gr} (hG : Gw G) (s : Nat) : ∀ n, n ≤ (bf G s n).length → BI G s (bf G s n) n := by
  intro n
  induction n with
  | zero =>
    intro _
    refine ⟨List.pairwise_singleton _ _, by simp [bf], List.prefix_refl _, fun e he => Or.inl (List.mem_singleton.mp he), fun e he => (by cases he), fun _ => rfl, fun z => by omega⟩
  | succ n ih =>
    intro h
    show BI G s (match (bf G s n)[n]? with | none => bf G s n | some f => exq (G f.1) f (bf G s n)) (n + 1)
    have h1 : bf G s (n + 1) = match (bf G s n)[n]? with | none => bf G s n | some f => exq (G f.1) f (bf G s n) := rfl
    rw [h1] at h
    cases hc : (bf G s n)[n]? with
    | none =>
      rw [hc] at h
      have := List.getElem?_eq_none_iff.mp hc
      dsimp only at h
      omega
    | some f =>
      obtain ⟨hn, _⟩ := List.getElem?_eq_some_iff.mp hc
      exact bi_step hG (ih (by omega)) hc
