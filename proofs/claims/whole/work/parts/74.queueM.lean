/-! The reference's queue: a linked list. -/
def nxq (Q : List En) (j : Nat) : Nat := match Q[j + 1]? with | some g => g.1 + 1 | none => 0
def MQu (Q : List En) (last cnt : Int32) (met : Nat → Int32) : Prop :=
  cnt = nI Q.length ∧ (∃ e, Q[Q.length - 1]? = some e ∧ last = nI e.1) ∧ (∀ (j : Nat) (e : En), Q[j]? = some e → met e.1 = nI (e.2.1 + 1 + 16384 * nxq Q j)) ∧ ∀ n, n < 12288 → n ∉ Q.map Prod.fst → met n = 0
theorem nd_ix {Q : List En} (h : (Q.map Prod.fst).Nodup) {i j : Nat} {e f : En} (hi : Q[i]? = some e) (hj : Q[j]? = some f) (hk : e.1 = f.1) : i = j := by
  obtain ⟨h1, h2⟩ := List.getElem?_eq_some_iff.mp hi
  obtain ⟨h3, h4⟩ := List.getElem?_eq_some_iff.mp hj
  have hp := List.pairwise_iff_getElem.mp h
  have g : ∀ (i j : Nat) (h1 : i < Q.length) (h3 : j < Q.length), i < j → Q[i].1 ≠ Q[j].1 := fun i j h1 h3 hij => by
    have := hp i j (by rw [List.length_map]; exact h1) (by rw [List.length_map]; exact h3) hij
    rw [List.getElem_map, List.getElem_map] at this
    exact this
  rcases Nat.lt_trichotomy i j with c | c | c
  · exact absurd (by rw [h2, h4]; exact hk) (g i j h1 h3 c)
  · exact c
  · exact absurd (by rw [h2, h4]; exact hk.symm) (g j i h3 h1 c)
theorem nxq_le {Q : List En} {B : Nat} (hk : QK B Q) (j : Nat) : nxq Q j ≤ B := by
  unfold nxq
  cases h : Q[j + 1]? with
  | none => exact Nat.zero_le _
  | some g =>
    obtain ⟨h1, h2⟩ := List.getElem?_eq_some_iff.mp h
    exact hk.2 g (by rw [← h2]; exact List.getElem_mem h1)
theorem m_meet {Q : List En} {d o : Nat} {t : Option Nat} {last cnt : Int32} {met : Nat → Int32} (h : MQu Q last cnt met) (hk : QK 12288 Q) (hj : Dj Q) (ht : ∀ u, t = some u → u < 12288) (v : Int32) (hv1 : t = none → v < 0) (hv2 : ∀ u, t = some u → v = nI u) :
    ∃ l' c' m', f_X7_meet v (nI d) last cnt met = some (l', c', m') ∧ MQu (rch Q d o t) l' c' m' := by
  obtain ⟨h1, ⟨le, hle, h2⟩, h3, h4⟩ := h
  have hl := ql_len hk.1 hk.2
  unfold f_X7_meet
  cases t with
  | none =>
    rw [if_pos (hv1 rfl)]
    exact ⟨_, _, _, rfl, h1, ⟨le, hle, h2⟩, h3, h4⟩
  | some u =>
    have hu := ht u rfl
    rw [hv2 u rfl, if_neg (nI_pos (n := u) (by omega)), gd_in (show u < 12288 by omega) (by omega), cl (show u < 2 ^ 31 by omega)]
    by_cases hm : u ∈ Q.map Prod.fst
    · have er : rch Q d o (some u) = Q := if_pos hm
      rw [er]
      obtain ⟨e, he, h5⟩ := List.mem_map.mp hm
      obtain ⟨j, hj1, hj2⟩ := List.mem_iff_getElem.mp he
      have hje : Q[j]? = some e := by rw [List.getElem?_eq_getElem hj1, hj2]
      have h6 := h3 j e hje
      have h7 := hj j e hje
      have h8 := nxq_le hk j
      rw [h5] at h6
      rw [h6, if_neg (nI_ne0 (by omega) (by omega))]
      exact ⟨_, _, _, rfl, h1, ⟨le, hle, h2⟩, h3, h4⟩
    · have er : rch Q d o (some u) = Q ++ [(u, d, o)] := if_neg hm
      rw [er, h4 u hu hm, if_pos (show (0 : Int32) = 0 from rfl), gd_in2 (show u < 12288 by omega) (by omega)]
      have hlm : le ∈ Q := by obtain ⟨q1, q2⟩ := List.getElem?_eq_some_iff.mp hle; rw [← q2]; exact List.getElem_mem q1
      have hll : le.1 < 12288 := hk.2 le hlm
      have hne : le.1 ≠ u := fun y => hm (List.mem_map.mpr ⟨le, hlm, y⟩)
      rw [h2, if_neg (nI_pos (n := le.1) (by omega)), gd_in hll (by omega), gd_in hll (by omega), cl (show le.1 < 2 ^ 31 by omega)]
      unfold f_X7_meet_55
      have h0 : 0 < Q.length := by cases Q with
        | nil => cases hlm
        | cons x Q => exact Nat.succ_pos _
      have hnl : nxq Q (Q.length - 1) = 0 := by
        unfold nxq
        rw [List.getElem?_eq_none_iff.mpr (by omega)]
      have hlv := h3 _ _ hle
      rw [hnl] at hlv
      refine ⟨_, _, _, rfl, ?_, ⟨(u, d, o), ?_, rfl⟩, fun j e he => ?_, fun n hn hnn => ?_⟩
      · rw [h1, nI_1, List.length_append]; rfl
      · rw [List.length_append, show Q.length + [(u, d, o)].length - 1 = Q.length from by show Q.length + 1 - 1 = _; omega, List.getElem?_append_right (Nat.le_refl _), Nat.sub_self]; rfl
      · rcases Nat.lt_or_ge j Q.length with hj3 | hj3
        · rw [List.getElem?_append_left hj3] at he
          have hem : e ∈ Q := by obtain ⟨q1, q2⟩ := List.getElem?_eq_some_iff.mp he; rw [← q2]; exact List.getElem_mem q1
          have heu : e.1 ≠ u := fun y => hm (List.mem_map.mpr ⟨e, hem, y⟩)
          by_cases c : j = Q.length - 1
          · subst c
            rw [hle] at he
            cases he
            rw [upd_s, upd_n hne, hlv]
            have e1 : nxq (Q ++ [(u, d, o)]) (Q.length - 1) = u + 1 := by
              unfold nxq
              rw [show Q.length - 1 + 1 = Q.length by omega, List.getElem?_append_right (Nat.le_refl _), Nat.sub_self]; rfl
            rw [e1, nI_1, show (16384 : Int32) = nI 16384 from rfl, pk_mul, nI_add]
          · rw [upd_n (fun y => c (nd_ix hk.1 he hle y)), upd_n heu, h3 j e he]
            have e1 : nxq (Q ++ [(u, d, o)]) j = nxq Q j := by
              unfold nxq
              rw [List.getElem?_append_left (by omega)]
            rw [e1]
        · rw [List.getElem?_append_right hj3] at he
          have hj0 : j = Q.length := by
            obtain ⟨q1, _⟩ := List.getElem?_eq_some_iff.mp he
            simp at q1
            omega
          rw [hj0, Nat.sub_self] at he
          cases he
          have e1 : nxq (Q ++ [(u, d, o)]) j = 0 := by
            unfold nxq
            rw [List.getElem?_eq_none_iff.mpr (by rw [List.length_append]; show Q.length + 1 ≤ j + 1; omega)]
          show upd (upd met u (nI d + 1)) le.1 _ u = _
          rw [upd_n hne.symm, upd_s, e1, nI_1]
      · have q1 : n ∉ Q.map Prod.fst := fun y => hnn (by rw [List.map_append]; exact List.mem_append.mpr (Or.inl y))
        have q2 : n ≠ u := fun y => hnn (by rw [List.map_append]; exact List.mem_append.mpr (Or.inr (by rw [y]; exact List.mem_cons_self)))
        have q3 : n ≠ le.1 := fun y => q1 (by rw [y]; exact List.mem_map.mpr ⟨le, hlm, rfl⟩)
        rw [upd_n q3, upd_n q2]
        exact h4 n hn q1
theorem m_meet0 {s : Nat} (hs : s < 12288) {met : Nat → Int32} (h : ∀ n, n < 12288 → met n = 0) : ∃ l' c' m', f_X7_meet (nI s) 0 (-1) 0 met = some (l', c', m') ∧ MQu [(s, 0, 0)] l' c' m' := by
  unfold f_X7_meet
  rw [if_neg (nI_pos (n := s) (by omega)), gd_in (show s < 12288 by omega) (by omega), cl (show s < 2 ^ 31 by omega), h s hs, if_pos (show (0 : Int32) = 0 from rfl), gd_in2 (show s < 12288 by omega) (by omega), if_pos (show (-1 : Int32) < 0 by decide)]
  unfold f_X7_meet_55
  refine ⟨_, _, _, rfl, rfl, ⟨(s, 0, 0), rfl, rfl⟩, fun j e he => ?_, fun n hn hnn => ?_⟩
  · cases j with
    | zero => cases he; rw [upd_s]; rfl
    | succ j => cases he
  · rw [upd_n (fun y => hnn (by rw [y]; exact List.mem_cons_self))]
    exact h n hn
/-! actions in their order -/
def acd (l : List (Nat × Option Nat)) (i : Nat) : Int32 := match l[i]? with | some x => nI x.1 | none => -1
section ACT
variable {a : AV} {mrooms mgoal : Int32} {mp ml mk mn mx my mly msw mlo : Nat → Int32}
theorem gA_get {s i : Nat} {x : Nat × Option Nat} (hs : s < 1024 * aR a) (h : (gA a s)[i]? = some x) : (i < (nbA a (s / 1024)).length ∧ x = (i, gW a s i)) ∨ (i = (nbA a (s / 1024)).length ∧ x = (100, some (gT a s))) ∨ (i = (nbA a (s / 1024)).length + 1 ∧ x = (200, gG a s)) := by
  rw [gA_of hs] at h
  have hl : ((List.range (nbA a (s / 1024)).length).map (fun i => (i, gW a s i))).length = (nbA a (s / 1024)).length := by rw [List.length_map, List.length_range]
  rcases Nat.lt_or_ge i (nbA a (s / 1024)).length with c | c
  · rw [List.getElem?_append_left (by rw [hl]; exact c), List.getElem?_map, List.getElem?_range c] at h
    cases h
    exact Or.inl ⟨c, rfl⟩
  · rw [List.getElem?_append_right (by rw [hl]; exact c), hl] at h
    rcases (show i - (nbA a (s / 1024)).length = 0 ∨ i - (nbA a (s / 1024)).length = 1 ∨ ∃ k, i - (nbA a (s / 1024)).length = k + 2 from by
      rcases (show i - (nbA a (s / 1024)).length = 0 ∨ i - (nbA a (s / 1024)).length = 1 ∨ 2 ≤ i - (nbA a (s / 1024)).length by omega) with y | y | y
      · exact Or.inl y
      · exact Or.inr (Or.inl y)
      · exact Or.inr (Or.inr ⟨i - (nbA a (s / 1024)).length - 2, by omega⟩)) with y | y | ⟨k, y⟩
    · rw [y] at h; cases h; exact Or.inr (Or.inl ⟨by omega, rfl⟩)
    · rw [y] at h; cases h; exact Or.inr (Or.inr ⟨by omega, rfl⟩)
    · rw [y] at h; cases h
theorem acd_of {s : Nat} (hs : s < 1024 * aR a) (i : Nat) : acd (gA a s) i = if i < (nbA a (s / 1024)).length then nI i else if i = (nbA a (s / 1024)).length then 100 else if i = (nbA a (s / 1024)).length + 1 then 200 else -1 := by
  have hlen : (gA a s).length = (nbA a (s / 1024)).length + 2 := by rw [gA_of hs, List.length_append, List.length_map, List.length_range]; rfl
  unfold acd
  cases h : (gA a s)[i]? with
  | none =>
    have := List.getElem?_eq_none_iff.mp h
    rw [if_neg (by omega), if_neg (by omega), if_neg (by omega)]
  | some x =>
    rcases gA_get hs h with ⟨c, rfl⟩ | ⟨c, rfl⟩ | ⟨c, rfl⟩
    · rw [if_pos c]
    · rw [if_neg (by omega), if_pos c]; rfl
    · rw [if_neg (by omega), if_neg (by omega), if_pos c]; rfl
theorem m_after_l (hW : AdvW a) (hM : AdvM a mrooms mgoal mp ml mk mn mx my mly msw mlo) {s i : Nat} {x : Nat × Option Nat} (hs : s < 1024 * aR a) (h : (gA a s)[i]? = some x) :
    ∃ v, f_X7_after (nI s) (nI x.1) mrooms mp ml mk mn mly msw mlo = some v ∧ (x.2 = none → v < 0) ∧ (∀ u, x.2 = some u → v = nI u) := by
  obtain ⟨v1, v2, v3, v4, v5, v6, v7, v8, v9, v10, v11⟩ := hM
  subst v1
  rcases gA_get hs h with ⟨c, rfl⟩ | ⟨c, rfl⟩ | ⟨c, rfl⟩
  · exact ⟨_, m_afterW hW hs c v3 v4 v5 v6 v11, fun y => by dsimp only at y; rw [y]; decide, fun u y => by dsimp only at y; rw [y]⟩
  · exact ⟨_, m_afterT hW hs v9, fun y => (by cases y), fun u y => by cases y; rfl⟩
  · exact ⟨_, m_afterG hW hs v10, fun y => by dsimp only at y; rw [y]; decide, fun u y => by dsimp only at y; rw [y]⟩
theorem m_next_l (hW : AdvW a) (hM : AdvM a mrooms mgoal mp ml mk mn mx my mly msw mlo) {s i : Nat} {x : Nat × Option Nat} (hs : s < 1024 * aR a) (h : (gA a s)[i]? = some x) :
    f_X7_nextAction (nI s) (nI x.1) mrooms mp mlo = some (acd (gA a s) (i + 1)) := by
  have h2 := hW.2.1
  have hr : s / 1024 < aR a := by omega
  have hlen := nb_lt hW hr
  have hd := md_doors hW hM hr
  obtain ⟨v1, v2, v3, v4, v5, v6, v7, v8, v9, v10, v11⟩ := hM
  subst v1
  rw [acd_of hs]
  unfold f_X7_nextAction
  rcases gA_get hs h with ⟨c, rfl⟩ | ⟨c, rfl⟩ | ⟨c, rfl⟩
  · rw [if_neg (show ¬ nI i = 200 from fun y => by have := (nI_eq (b := 200) (by omega) (by omega)).mp y; omega), if_neg (show ¬ nI i = 100 from fun y => by have := (nI_eq (b := 100) (by omega) (by omega)).mp y; omega), gd_neg g1024, d1024 (by omega), hd, bs, nI_1]
    rcases Nat.lt_or_ge (i + 1) (nbA a (s / 1024)).length with y | y
    · rw [if_neg (nI_ge y (by omega)), if_pos y]
    · rw [if_pos (nI_le y (by omega)), if_neg (by omega), if_pos (by omega)]
  · dsimp only
    rw [if_neg (show ¬ nI 100 = 200 by decide), if_pos (show nI 100 = 100 by decide), if_neg (show ¬ i + 1 < _ by omega), if_neg (show ¬ i + 1 = _ by omega), if_pos (by omega)]
  · dsimp only
    rw [if_pos (show nI 200 = 200 by decide), if_neg (show ¬ i + 1 < _ by omega), if_neg (show ¬ i + 1 = _ by omega), if_neg (by omega)]
theorem m_first (hW : AdvW a) {s : Nat} (hs : s < 1024 * aR a) : acd (gA a s) 0 = if nI (nbA a (s / 1024)).length ≤ 0 then 100 else 0 := by
  have h2 := hW.2.1
  have hlen := nb_lt hW (show s / 1024 < aR a by omega)
  rw [acd_of hs]
  by_cases c : (nbA a (s / 1024)).length = 0
  · rw [if_neg (by omega), if_pos (by omega), c, if_pos (by decide)]
  · rw [if_pos (by omega), if_neg (show ¬ nI (nbA a (s / 1024)).length ≤ 0 from fun y => absurd ((nI_leI (b := 0) (by omega) (by omega)).mp y) (by omega))]; rfl
end ACT
