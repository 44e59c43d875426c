/-! The class's queue. -/
def Dz (Q : List En) : Prop := ∀ (j : Nat) (e : En), Q[j]? = some e → (j = 0 ↔ e.2.1 = 0)
theorem rch_dz {Q : List En} {d o : Nat} {t : Option Nat} (h : Dz Q) (h0 : 0 < Q.length) (hd : 0 < d) : Dz (rch Q d o t) := by
  unfold rch
  cases t with
  | none => exact h
  | some t =>
    dsimp only
    split
    · exact h
    · intro j e he
      rcases Nat.lt_or_ge j Q.length with hj | hj
      · rw [List.getElem?_append_left hj] at he
        exact h j e he
      · rw [List.getElem?_append_right hj] at he
        have h0 : j - Q.length = 0 := by
          obtain ⟨h1, _⟩ := List.getElem?_eq_some_iff.mp he
          simp at h1
          omega
        rw [h0] at he
        cases he
        show j = 0 ↔ d = 0
        omega
theorem exq_dz {f : En} : ∀ (l : List (Nat × Option Nat)) (Q : List En), Dz Q → 0 < Q.length → Dz (exq l f Q) := by
  intro l
  induction l with
  | nil => intro Q h _; exact h
  | cons x l ih =>
    intro Q h hd
    exact ih _ (rch_dz h hd (by omega)) (Nat.lt_of_lt_of_le hd (rch_pre Q _ _ _).length_le)
theorem bf_pos (G : Gr) (s n : Nat) : 0 < (bf G s n).length := by
  have h := (bf_pre G s 0 n).length_le
  rw [Nat.zero_add] at h
  exact Nat.lt_of_lt_of_le (show 0 < 1 by omega) h
theorem bf_dz (G : Gr) (s n : Nat) : Dz (bf G s n) := by
  induction n with
  | zero =>
    intro j e he
    cases j with
    | zero => cases he; exact ⟨fun _ => rfl, fun _ => rfl⟩
    | succ j => cases he
  | succ n ih =>
    cases h : (bf G s n)[n]? with
    | none => rw [bf_none (List.getElem?_eq_none_iff.mp h)]; exact ih
    | some f => rw [bf_some h]; exact exq_dz _ _ ih (bf_pos G s n)
/-- the graph of the game -/
noncomputable def gA (a : AV) (s : Nat) : List (Nat × Option Nat) := if s < 1024 * aR a then (List.range (nbA a (s / 1024)).length).map (fun i => (i, gW a s i)) ++ [(100, some (gT a s)), (200, gG a s)] else []
theorem gA_of {a : AV} {s : Nat} (h : s < 1024 * aR a) : gA a s = (List.range (nbA a (s / 1024)).length).map (fun i => (i, gW a s i)) ++ [(100, some (gT a s)), (200, gG a s)] := if_pos h
theorem gA_mem {a : AV} {s : Nat} (h : s < 1024 * aR a) {x : Nat × Option Nat} (hx : x ∈ gA a s) : (∃ i, i < (nbA a (s / 1024)).length ∧ x = (i, gW a s i)) ∨ x = (100, some (gT a s)) ∨ x = (200, gG a s) := by
  rw [gA_of h] at hx
  rcases List.mem_append.mp hx with h1 | h1
  · obtain ⟨i, hi, h2⟩ := List.mem_map.mp h1
    exact Or.inl ⟨i, List.mem_range.mp hi, h2.symm⟩
  · rcases List.mem_cons.mp h1 with h2 | h2
    · exact Or.inr (Or.inl h2)
    · exact Or.inr (Or.inr (List.mem_singleton.mp h2))
theorem gA_w {a : AV} (hW : AdvW a) : Gw (gA a) := by
  intro s
  by_cases h : s < 1024 * aR a
  · have hl := nb_lt hW (show s / 1024 < aR a by omega)
    constructor
    · rw [gA_of h]
      refine List.pairwise_append.mpr ⟨?_, ?_, ?_⟩
      · refine List.pairwise_map.mpr ?_
        exact List.pairwise_lt_range.imp (fun h => Nat.le_of_lt h)
      · refine List.pairwise_cons.mpr ⟨fun y hy => ?_, List.pairwise_singleton _ _⟩
        rw [List.mem_singleton.mp hy]
        show 100 ≤ 200
        omega
      · intro x hx y hy
        obtain ⟨i, hi, h2⟩ := List.mem_map.mp hx
        have h3 := List.mem_range.mp hi
        rw [← h2]
        rcases List.mem_cons.mp hy with h4 | h4
        · rw [h4]; show i ≤ 100; omega
        · rw [List.mem_singleton.mp h4]; show i ≤ 200; omega
    · intro x hx
      rcases gA_mem h hx with ⟨i, hi, rfl⟩ | rfl | rfl
      · show i < 1000; omega
      · show 100 < 1000; omega
      · show 200 < 1000; omega
  · have e : gA a s = [] := if_neg h
    rw [e]
    exact ⟨List.Pairwise.nil, fun x hx => by cases hx⟩
theorem gA_b {a : AV} (hW : AdvW a) : Gb (gA a) (1024 * aR a) := by
  intro s h x hx u hu
  rcases gA_mem h hx with ⟨i, hi, rfl⟩ | rfl | rfl
  · exact gW_lt hW h hi hu
  · cases hu; exact gT_lt hW h
  · exact gG_lt h hu
def QK (B : Nat) (Q : List En) : Prop := (Q.map Prod.fst).Nodup ∧ ∀ e ∈ Q, e.1 < B
theorem QK.rch {B : Nat} {Q : List En} {d o : Nat} {t : Option Nat} (h : QK B Q) (ht : ∀ u, t = some u → u < B) : QK B (rch Q d o t) := ⟨rch_nd h.1, rch_in (P := fun x => x < B) h.2 ht⟩
def CQ (Q : List En) (cnt : Int32) (sb : Nat → Int64) (fo di op : Nat → Int32) : Prop :=
  cnt = nI Q.length ∧ SB sb (fun n => ∃ e ∈ Q, fi e.1 = n) ∧ ∀ (j : Nat) (e : En), Q[j]? = some e → fo j = nI (fi e.1) ∧ di j = nI e.2.1 ∧ (0 < j → op j = nI e.2.2)
theorem pre_get {Q Q' : List En} {p : Nat} {f : En} (h : Q <+: Q') (hp : Q[p]? = some f) : Q'[p]? = some f := by
  obtain ⟨R, rfl⟩ := h
  obtain ⟨h1, _⟩ := List.getElem?_eq_some_iff.mp hp
  rw [List.getElem?_append_left h1]
  exact hp
theorem c_reach {Q : List En} {f : En} {p o : Nat} {t : Option Nat} {cnt : Int32} {sb : Nat → Int64} {fo di op : Nat → Int32} (h : CQ Q cnt sb fo di op) (hk : QK 12288 Q) (hp : Q[p]? = some f) (hz : p = 0 ↔ f.2.1 = 0) (ht : ∀ u, t = some u → u < 12288) (v : Int32) (hv1 : t = none → v < 0) (hv2 : ∀ u, t = some u → v = nI (fi u)) :
    ∃ c' s' f' d' o', f_X4_reach v (nI p) (nI o) cnt sb fo di op = some (c', s', f', d', o') ∧ CQ (rch Q (f.2.1 + 1) (ow f o) t) c' s' f' d' o' := by
  obtain ⟨h1, h2, h3⟩ := h
  obtain ⟨hpl, _⟩ := List.getElem?_eq_some_iff.mp hp
  have hl := ql_len hk.1 hk.2
  unfold f_X4_reach
  cases t with
  | none =>
    rw [if_pos (hv1 rfl)]
    exact ⟨_, _, _, _, _, rfl, h1, h2, h3⟩
  | some u =>
    have hu := ht u rfl
    have hfu := fi_lt (R := 12) (show u < 1024 * 12 by omega)
    rw [hv2 u rfl, if_neg (nI_pos (n := fi u) (by omega))]
    obtain ⟨w, e1, e2⟩ := c_has_seen h2 (n := fi u) (by omega)
    rw [e1, bs]
    rcases e2 with ⟨⟨e, he, hfe⟩, rfl⟩ | ⟨hne, rfl⟩
    · rw [if_neg (show ¬ (1 : Int32) = 0 by decide)]
      have hm : u ∈ Q.map Prod.fst := List.mem_map.mpr ⟨e, he, fi_inj hfe⟩
      refine ⟨_, _, _, _, _, rfl, ?_⟩
      show CQ (if u ∈ Q.map Prod.fst then Q else Q ++ [(u, f.2.1 + 1, ow f o)]) _ _ _ _ _
      rw [if_pos hm]
      exact ⟨h1, h2, h3⟩
    · rw [if_pos (show (0 : Int32) = 0 from rfl)]
      have hm : ¬ u ∈ Q.map Prod.fst := fun y => by
        obtain ⟨e, he, h5⟩ := List.mem_map.mp y
        exact hne ⟨e, he, by rw [h5]⟩
      have er : rch Q (f.2.1 + 1) (ow f o) (some u) = Q ++ [(u, f.2.1 + 1, ow f o)] := if_neg hm
      have hk2 : QK 12288 (rch Q (f.2.1 + 1) (ow f o) (some u)) := hk.rch (fun x hx => ht x hx)
      have hl2 := ql_len hk2.1 hk2.2
      rw [er, List.length_append] at hl2
      have hl3 : Q.length < 12288 := by
        have : [(u, f.2.1 + 1, ow f o)].length = 1 := rfl
        omega
      obtain ⟨sb', e3, e4⟩ := c_add_seen h2 (n := fi u) (by omega)
      rw [h1, if_pos (show nI Q.length < 12288 from nI_lt (b := 12288) hl3 (by omega)), e3, bs]
      simp only [gd_in (show Q.length < 12288 from hl3) (show (12288 : Nat) < 2 ^ 31 by omega), gd_in (show p < 12288 by omega) (show (12288 : Nat) < 2 ^ 31 by omega)]
      rw [cl (show p < 2 ^ 31 by omega), cl (show Q.length < 2 ^ 31 by omega), (h3 p f hp).2.1]
      rw [er]
      have key : ∀ w : Int32, w = nI (ow f o) → ∃ c' s' f' d' o', f_X4_reach_83 (nI Q.length) w (nI Q.length) sb' (upd fo Q.length (nI (fi u))) (upd di Q.length (nI f.2.1 + 1)) op = some (c', s', f', d', o') ∧ CQ (Q ++ [(u, f.2.1 + 1, ow f o)]) c' s' f' d' o' := by
        intro w hw
        unfold f_X4_reach_83
        rw [gd_in hl3 (by omega), cl (show Q.length < 2 ^ 31 by omega), hw]
        refine ⟨_, _, _, _, _, rfl, ?_, ?_, ?_⟩
        · rw [nI_1, List.length_append]; rfl
        · intro n hn
          rw [e4 n hn]
          constructor
          · rintro (⟨e, he, h5⟩ | h5)
            · exact ⟨e, List.mem_append.mpr (Or.inl he), h5⟩
            · exact ⟨(u, f.2.1 + 1, ow f o), List.mem_append.mpr (Or.inr (List.mem_singleton.mpr rfl)), h5.symm⟩
          · rintro ⟨e, he, h5⟩
            rcases List.mem_append.mp he with h6 | h6
            · exact Or.inl ⟨e, h6, h5⟩
            · rw [List.mem_singleton.mp h6] at h5
              exact Or.inr h5.symm
        · intro j e he
          rcases Nat.lt_or_ge j Q.length with hj | hj
          · rw [List.getElem?_append_left hj] at he
            obtain ⟨q1, q2, q3⟩ := h3 j e he
            rw [upd_n (by omega), upd_n (by omega), upd_n (by omega)]
            exact ⟨q1, q2, q3⟩
          · rw [List.getElem?_append_right hj] at he
            have h0 : j = Q.length := by
              obtain ⟨h1, _⟩ := List.getElem?_eq_some_iff.mp he
              simp at h1
              omega
            rw [h0, Nat.sub_self] at he
            cases he
            rw [h0, upd_s, upd_s, upd_s]
            exact ⟨rfl, nI_1 _, fun _ => rfl⟩
      by_cases z : p = 0
      · rw [if_pos (show nI p = 0 by rw [z]; rfl)]
        exact key _ (by unfold ow; rw [if_pos (hz.mp z)])
      · rw [if_neg (show ¬ nI p = 0 from nI_ne0 (by omega) (by omega))]
        refine key _ ?_
        rw [(h3 p f hp).2.2 (by omega)]
        unfold ow
        rw [if_neg (fun y => z (hz.mpr y))]
