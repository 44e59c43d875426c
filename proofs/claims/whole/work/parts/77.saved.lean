/-! safe: what is saved. -/
theorem sub_len : ∀ {l m : List Nat}, l.Nodup → (∀ x ∈ l, x ∈ m) → l.length ≤ m.length := by
  intro l
  induction l with
  | nil => intro m _ _; exact Nat.zero_le _
  | cons x l ih =>
    intro m hn hs
    have hn1 := List.nodup_cons.mp hn
    have hx := hs x List.mem_cons_self
    have h1 := ih (m := m.erase x) hn1.2 (fun y hy => by
      refine (List.mem_erase_of_ne ?_).mpr (hs y (List.mem_cons_of_mem _ hy))
      intro e
      rw [e] at hy
      exact hn1.1 hy)
    have h2 := List.length_erase_of_mem hx
    have h3 : 0 < m.length := List.length_pos_of_mem hx
    show l.length + 1 ≤ m.length
    omega
theorem Pth_un {G : Gr} {s : Nat} : ∀ (k u : Nat), Pth G s (k + 1) u → ∃ o t, (o, some t) ∈ G s ∧ Pth G t k u := by
  intro k
  induction k with
  | zero =>
    intro u hu
    obtain ⟨v, o, h1, h2⟩ := hu
    have h3 : v = s := h1
    subst h3
    exact ⟨o, u, h2, rfl⟩
  | succ k ih =>
    intro u hu
    obtain ⟨v, o, h1, h2⟩ := hu
    obtain ⟨o', t, h3, h4⟩ := ih v h1
    exact ⟨o', t, h3, v, o, h4, h2⟩
def Rg (a : AV) (x : Nat) : Prop := ∃ k u, Pth (gA a) x k u ∧ gl a u = true
def adb (a : AV) (S : List Nat) (x : Nat) : Prop := gl a x = true ∨ ∃ o t, (o, some t) ∈ gA a x ∧ t ∈ S
def Sok (a : AV) (s : Nat) (S : List Nat) : Prop := S.Nodup ∧ (∀ x ∈ S, x ∈ (Fq (gA a) s).map Prod.fst) ∧ ∀ x ∈ S, Rg a x
section SAV
variable {a : AV} {s : Nat} {S : List Nat}
theorem Sok.nil : Sok a s [] := ⟨List.nodup_nil, fun x hx => (by cases hx), fun x hx => (by cases hx)⟩
theorem Sok.add (h : Sok a s S) {x : Nat} (hx : x ∈ (Fq (gA a) s).map Prod.fst) (hn : x ∉ S) (ha : adb a S x) : Sok a s (x :: S) := by
  refine ⟨List.nodup_cons.mpr ⟨hn, h.1⟩, fun y hy => ?_, fun y hy => ?_⟩
  · rcases List.mem_cons.mp hy with e | e
    · rw [e]; exact hx
    · exact h.2.1 y e
  · rcases List.mem_cons.mp hy with e | e
    · rw [e]
      rcases ha with h1 | ⟨o, t, h1, h2⟩
      · exact ⟨0, x, rfl, h1⟩
      · obtain ⟨k, u, h3, h4⟩ := h.2.2 t h2
        exact ⟨k + 1, u, Pth_head h1 k u h3, h4⟩
    · exact h.2.2 y e
theorem Sok.len (h : Sok a s S) : S.length ≤ (Fq (gA a) s).length := by
  have := sub_len h.1 h.2.1
  rw [List.length_map] at this
  exact this
theorem Sok.all (h : Sok a s S) (hl : S.length = (Fq (gA a) s).length) : ∀ x ∈ (Fq (gA a) s).map Prod.fst, Rg a x := by
  intro x hx
  by_cases c : x ∈ S
  · exact h.2.2 x c
  · have := sub_len (l := x :: S) (m := (Fq (gA a) s).map Prod.fst) (List.nodup_cons.mpr ⟨c, h.1⟩) (fun y hy => by
      rcases List.mem_cons.mp hy with e | e
      · rw [e]; exact hx
      · exact h.2.1 y e)
    rw [List.length_map] at this
    have h2 : (x :: S).length = S.length + 1 := rfl
    omega
def Sat (a : AV) (s : Nat) (S : List Nat) : Prop := ∀ x ∈ (Fq (gA a) s).map Prod.fst, x ∉ S → ¬ adb a S x
theorem key_closed (hW : AdvW a) (hs : s < 1024 * aR a) {x o t : Nat} (hx : x ∈ (Fq (gA a) s).map Prod.fst) (h : (o, some t) ∈ gA a x) : t ∈ (Fq (gA a) s).map Prod.fst := by
  have h2 := hW.2.1
  obtain ⟨e, he, h1⟩ := List.mem_map.mp hx
  rw [← h1] at h
  obtain ⟨f, hf, h3, _⟩ := Fq_closed (gA_w hW) (gA_b hW) (by omega) hs he h
  exact List.mem_map.mpr ⟨f, hf, h3⟩
theorem Sat.got (hW : AdvW a) (hs : s < 1024 * aR a) (h : Sat a s S) : ∀ (k x u : Nat), x ∈ (Fq (gA a) s).map Prod.fst → Pth (gA a) x k u → gl a u = true → x ∈ S := by
  intro k
  induction k with
  | zero =>
    intro x u hx hp hg
    by_cases c : x ∈ S
    · exact c
    · have e : u = x := hp
      rw [e] at hg
      exact absurd (Or.inl hg) (h x hx c)
  | succ k ih =>
    intro x u hx hp hg
    by_cases c : x ∈ S
    · exact c
    · obtain ⟨o, t, h1, h2⟩ := Pth_un k u hp
      exact absurd (Or.inr ⟨o, t, h1, ih t u (key_closed hW hs hx h1) h2 hg⟩) (h x hx c)
theorem Sat.not (hW : AdvW a) (hs : s < 1024 * aR a) (h : Sat a s S) (hS : Sok a s S) (hl : S.length ≠ (Fq (gA a) s).length) : ¬ ∀ x ∈ (Fq (gA a) s).map Prod.fst, Rg a x := by
  intro hall
  have h1 := sub_len (l := (Fq (gA a) s).map Prod.fst) (m := S) (bf_nd (gA a) s 12288) (fun x hx => by
    obtain ⟨k, u, h3, h4⟩ := hall x hx
    exact h.got hW hs k x u hx h3 h4)
  rw [List.length_map] at h1
  have := hS.len
  omega
end SAV
section SAVC
variable {a : AV} {rooms goal : Int32} {parent level kind snum xx yy lying sw doors : Nat → Int32} {beyond : Nat → Nat → Int32}
def SBs (b : Nat → Int64) (S : List Nat) : Prop := SB b (fun n => ∃ x ∈ S, fi x = n)
theorem c_isSaved {b : Nat → Int64} {S : List Nat} (hb : SBs b S) {t : Option Nat} {v : Int32} (ht : ∀ u, t = some u → u < 12288) (hv1 : t = none → v < 0) (hv2 : ∀ u, t = some u → v = nI (fi u)) :
    ∃ w, f_X4_isSaved v b = some w ∧ (((∃ u, t = some u ∧ u ∈ S) ∧ w = 1) ∨ ((¬ ∃ u, t = some u ∧ u ∈ S) ∧ w = 0)) := by
  unfold f_X4_isSaved
  cases t with
  | none =>
    rw [if_pos (hv1 rfl)]
    exact ⟨0, rfl, Or.inr ⟨fun ⟨u, hu, _⟩ => (by cases hu), rfl⟩⟩
  | some u =>
    have hu := ht u rfl
    have hf := fi_lt (R := 12) (show u < 1024 * 12 by omega)
    rw [hv2 u rfl, if_neg (nI_pos (n := fi u) (by omega))]
    obtain ⟨w, e1, e2⟩ := c_has_saved hb (n := fi u) (by omega)
    rw [e1, bs]
    rcases e2 with ⟨⟨x, hx, h1⟩, rfl⟩ | ⟨hn, rfl⟩
    · rw [if_neg (show ¬ (1 : Int32) = 0 by decide)]
      exact ⟨1, rfl, Or.inl ⟨⟨u, rfl, by rw [← fi_inj h1]; exact hx⟩, rfl⟩⟩
    · rw [if_pos (show (0 : Int32) = 0 from rfl)]
      exact ⟨0, rfl, Or.inr ⟨fun ⟨y, hy, h2⟩ => by cases hy; exact hn ⟨u, h2, rfl⟩, rfl⟩⟩
theorem c_leads (hW : AdvW a) (hC : AdvC a rooms goal parent level kind snum xx yy lying sw doors beyond) {S : List Nat} {b : Nat → Int64} (hb : SBs b S) {x : Nat} (hx : x < 1024 * aR a) :
    ∃ w, f_X4_leadsToSaved (nI (fi x)) rooms parent level kind snum lying sw doors beyond b = some w ∧ (((∃ o t, (o, some t) ∈ gA a x ∧ t ∈ S) ∧ w = 1) ∨ ((¬ ∃ o t, (o, some t) ∈ gA a x ∧ t ∈ S) ∧ w = 0)) := by
  have h2 := hW.2.1
  have hcl := fun (r : Nat) (hr : r < aR a) => cls_len hW hC hr
  obtain ⟨c1, c2, c3, c4, c5, c6, c7, c8, c9, c10, c11⟩ := hC
  subst c1
  have hr : x / 1024 < aR a := by omega
  have hlen := nb_lt hW hr
  have m1 : ∀ i, i < (nbA a (x / 1024)).length → (i, gW a x i) ∈ gA a x := fun i hi => by
    rw [gA_of hx]
    exact List.mem_append.mpr (Or.inl (List.mem_map.mpr ⟨i, List.mem_range.mpr hi, rfl⟩))
  have m2 : (100, some (gT a x)) ∈ gA a x := by rw [gA_of hx]; exact List.mem_append.mpr (Or.inr List.mem_cons_self)
  have m3 : (200, gG a x) ∈ gA a x := by rw [gA_of hx]; exact List.mem_append.mpr (Or.inr (List.mem_cons_of_mem _ List.mem_cons_self))
  unfold f_X4_leadsToSaved
  rw [c_roomOf (by omega), bs, gd_in (show x / 1024 < 12 by omega) (by omega), cl (by omega), hcl _ hr]
  unfold f_X4_leadsToSaved_15
  refine lp_for0 (σ := Int32 × Int32 × Int32) (fun r => ∃ w, r = some w ∧ (((∃ o t, (o, some t) ∈ gA a x ∧ t ∈ S) ∧ w = 1) ∨ ((¬ ∃ o t, (o, some t) ∈ gA a x ∧ t ∈ S) ∧ w = 0))) (nbA a (x / 1024)).length (by omega)
    (fun i st => nI (fi x) = st.1 ∧ nI (nbA a (x / 1024)).length = st.2.1 ∧ nI i = st.2.2 ∧ ∀ j, j < i → ∀ u, gW a x j = some u → u ∉ S) ⟨rfl, rfl, rfl, fun j hj => by omega⟩ ?_ ?_
  · rintro i ⟨y1, y2, y3⟩ hi ⟨e1, e2, e3, e4⟩ k
    dsimp only at e1 e2 e3 ⊢
    subst e1 e2 e3
    unfold fb_X4_leadsToSaved_15
    obtain ⟨v, v1, v2, v3⟩ := c_aW hW hx hi c3 c4 c5 c6 c11
    obtain ⟨w, w1, w2⟩ := c_isSaved hb (t := gW a x i) (fun u hu => by have := gW_lt hW hx hi hu; omega) v2 v3
    rw [if_neg (nI_ge hi (by omega)), v1, bs, w1, bs]
    rcases w2 with ⟨⟨u, hu, h3⟩, rfl⟩ | ⟨hn, rfl⟩
    · right
      rw [if_neg (show ¬ (1 : Int32) = 0 by decide)]
      exact ⟨1, rfl, Or.inl ⟨⟨i, u, by rw [← hu]; exact m1 i hi, h3⟩, rfl⟩⟩
    · left
      rw [if_pos (show (0 : Int32) = 0 from rfl)]
      refine ⟨(_, _, _), ⟨rfl, rfl, (nI_1 i).symm, fun j hj u hu h3 => ?_⟩, rfl⟩
      by_cases c : j = i
      · subst c; exact hn ⟨u, hu, h3⟩
      · exact e4 j (by omega) u hu h3
  · rintro ⟨y1, y2, y3⟩ ⟨e1, e2, e3, e4⟩ k
    dsimp only at e1 e2 e3 ⊢
    subst e1 e2 e3
    unfold fb_X4_leadsToSaved_15
    obtain ⟨w, w1, w2⟩ := c_isSaved hb (t := some (gT a x)) (v := nI (fi (gT a x))) (fun u hu => by cases hu; have := gT_lt hW hx; omega) (fun y => by cases y) (fun u y => by cases y; rfl)
    rw [if_pos (nI_le (Nat.le_refl _) (by omega)), c_afterTaking hW hx c9, bs, w1, bs]
    rcases w2 with ⟨⟨u, hu, h3⟩, rfl⟩ | ⟨hn, rfl⟩
    · rw [if_neg (show ¬ (1 : Int32) = 0 by decide)]
      exact ⟨1, rfl, Or.inl ⟨⟨100, u, by rw [← hu]; exact m2, h3⟩, rfl⟩⟩
    · rw [if_pos (show (0 : Int32) = 0 from rfl)]
      obtain ⟨v, v1, v2, v3⟩ := c_aG hW hx c10
      obtain ⟨w, w1, w2⟩ := c_isSaved hb (t := gG a x) (fun u hu => by have := gG_lt hx hu; omega) v2 v3
      rw [v1, bs, w1, bs]
      rcases w2 with ⟨⟨u, hu, h3⟩, rfl⟩ | ⟨hn2, rfl⟩
      · rw [if_neg (show ¬ (1 : Int32) = 0 by decide)]
        exact ⟨1, rfl, Or.inl ⟨⟨200, u, by rw [← hu]; exact m3, h3⟩, rfl⟩⟩
      · rw [if_pos (show (0 : Int32) = 0 from rfl)]
        refine ⟨0, rfl, Or.inr ⟨?_, rfl⟩⟩
        rintro ⟨o, t, h3, h4⟩
        rcases gA_mem hx h3 with ⟨i, hi, h5⟩ | h5 | h5
        · exact e4 i hi t (congrArg Prod.snd h5).symm h4
        · exact hn ⟨t, (congrArg Prod.snd h5).symm, h4⟩
        · exact hn2 ⟨t, (congrArg Prod.snd h5).symm, h4⟩
end SAVC
