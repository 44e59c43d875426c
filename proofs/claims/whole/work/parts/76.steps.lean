/-! steps, situations, hint. -/
theorem lp_one {σ ρ : Type} (body : (σ → Option ρ) → σ → Option ρ) (s : σ) : lp body fuel s = body (lp body 99999) s := rfl
section STP
variable {a : AV} {rooms goal : Int32} {parent level kind snum xx yy lying sw doors : Nat → Int32} {beyond : Nat → Nat → Int32}
variable {mrooms mgoal : Int32} {mp ml mk mn mx my mly msw mlo : Nat → Int32}
theorem m_spread (hW : AdvW a) (hM : AdvM a mrooms mgoal mp ml mk mn mx my mly msw mlo) {s : Nat} (hs : s < 1024 * aR a) (last cnt : Int32) (met : Nat → Int32) :
    ∃ l' c' m', f_X7_spread (nI s) mrooms mgoal last cnt mp ml mk mn mly msw mlo met = some (gv ((Fq (gA a) s).find? (fun e => gl a e.1)), l', c', m') ∧ MQu (Fq (gA a) s) l' c' m' := by
  have h2 := hW.2.1
  obtain ⟨N, hN⟩ : ∃ N : Nat, N = 12288 := ⟨_, rfl⟩
  have hN2 : (12288 : Int32) = nI N := by rw [hN]; rfl
  unfold f_X7_spread f_X7_spread_2
  refine lp_for0 (σ := Int32 × Int32 × Int32 × Int32 × (Nat → Int32)) (fun r => ∃ l' c' m', r = some (gv ((Fq (gA a) s).find? (fun e => gl a e.1)), l', c', m') ∧ MQu (Fq (gA a) s) l' c' m') N (by omega)
    (fun i st => nI s = st.1 ∧ nI i = st.2.1 ∧ ∀ q, q < i → st.2.2.2.2 q = 0) ⟨rfl, rfl, fun q hq => by omega⟩ ?_ ?_
  · rintro i ⟨y1, y2, la, cn, me⟩ hi ⟨e1, e2, e3⟩ k
    dsimp only at e1 e2 e3 ⊢
    subst e1 e2
    left
    unfold fb_X7_spread_2
    rw [if_neg (show ¬ (12288 : Int32) ≤ nI i by rw [hN2]; exact nI_ge hi (by omega)), gd_in (show i < 12288 by omega) (by omega), cl (by omega)]
    refine ⟨(_, _, _, _, _), ⟨rfl, (nI_1 i).symm, fun q hq => ?_⟩, rfl⟩
    by_cases c : q = i
    · subst c; exact upd_s
    · exact (upd_n c).trans (e3 q (by omega))
  · rintro ⟨y1, y2, la, cn, me⟩ ⟨e1, e2, e3⟩ k
    dsimp only at e1 e2 e3 ⊢
    subst e1 e2
    unfold fb_X7_spread_2
    rw [if_pos (show (12288 : Int32) ≤ nI N by rw [hN2]; exact nI_le (Nat.le_refl _) (by omega))]
    obtain ⟨l', c', m', r1, r2⟩ := m_meet0 (show s < 12288 by omega) (met := me) (fun n hn => e3 n (by omega))
    rw [r1, bs]
    exact m_spread43 hW hM hs r2
theorem Fq_d {s : Nat} {e : En} (hW : AdvW a) (hs : s < 1024 * aR a) (h : (Fq (gA a) s).find? (fun e => gl a e.1) = some e) : e.2.1 < 12288 := by
  have h2 := hW.2.1
  obtain ⟨j, hj1, hj2⟩ := List.mem_iff_getElem.mp (List.mem_of_find?_eq_some h)
  have h3 := bf_dj (gA a) s 12288 j e (by rw [← Fq_is, List.getElem?_eq_getElem hj1, hj2])
  have h4 := bf_len (gA_b hW) hs 12288
  rw [← Fq_is] at h4
  omega
theorem steps_agree (hW : AdvW a) (hC : AdvC a rooms goal parent level kind snum xx yy lying sw doors beyond) (hM : AdvM a mrooms mgoal mp ml mk mn mx my mly msw mlo) {s : Nat} (hs : s < 1024 * aR a) (cnt : Int32) (sb : Nat → Int64) (fo di op : Nat → Int32) (last mcnt : Int32) (met : Nat → Int32) :
    ∃ r c' s' f' d' o' l' k' m', f_X6_steps (nI (fi s)) rooms goal cnt parent level kind snum lying sw doors beyond sb fo di op = some (r, c', s', f', d', o') ∧ f_X7_steps mrooms mgoal (nI s) last mcnt mp ml mk mn mly msw mlo met = some (r, l', k', m') := by
  obtain ⟨r, c', s', f', d', o', e1, e2⟩ := c_findGoal hW hC hs cnt sb fo di op
  obtain ⟨l', k', m', e3, e4⟩ := m_spread hW hM hs last mcnt met
  unfold f_X6_steps f_X7_steps
  rw [e1, bs, e3, bs]
  rcases e2 with ⟨q1, rfl⟩ | ⟨n, e, q1, q2, rfl, q4, q5, q6⟩
  · rw [q1, if_neg (show ¬ (0 : Int32) ≤ -3 by decide)]
    exact ⟨_, _, _, _, _, _, _, _, _, rfl, rfl⟩
  · rw [q1, if_pos (show (0 : Int32) ≤ nI n from nI_le (a := 0) (Nat.zero_le _) (by omega)), gd_in q2 (by omega), cl (by omega)]
    dsimp only
    rw [q5]
    exact ⟨_, _, _, _, _, _, _, _, _, rfl, rfl⟩
theorem situations_agree (hW : AdvW a) (hC : AdvC a rooms goal parent level kind snum xx yy lying sw doors beyond) (hM : AdvM a mrooms mgoal mp ml mk mn mx my mly msw mlo) {s : Nat} (hs : s < 1024 * aR a) (cnt : Int32) (sb : Nat → Int64) (fo di op : Nat → Int32) (last mcnt : Int32) (met : Nat → Int32) :
    ∃ r c' s' f' d' o' l' k' m', f_X6_situations (nI (fi s)) rooms cnt parent level kind snum lying sw doors beyond sb fo di op = some (r, c', s', f', d', o') ∧ f_X7_situations mrooms mgoal (nI s) last mcnt mp ml mk mn mly msw mlo met = some (r, l', k', m') := by
  obtain ⟨c', s', f', d', o', e1, e2⟩ := c_findAll hW hC hs cnt sb fo di op
  obtain ⟨l', k', m', e3, e4⟩ := m_spread hW hM hs last mcnt met
  unfold f_X6_situations f_X7_situations
  rw [e1, bs, e3, bs]
  dsimp only
  rw [e2.1, e4.1]
  exact ⟨_, _, _, _, _, _, _, _, _, rfl, rfl⟩
theorem m_hint26 (hW : AdvW a) (hM : AdvM a mrooms mgoal mp ml mk mn mx my mly msw mlo) {s : Nat} (hs : s < 1024 * aR a) {e : En} (h : (Fq (gA a) s).find? (fun e => gl a e.1) = some e) (h0 : 1 ≤ e.2.1) (last cnt : Int32) (met : Nat → Int32) :
    ∃ l' c' m', f_X7_hint_26 mrooms mgoal (nI s) mp ml mk mn mly msw mlo (nI e.2.1) 0 last cnt met = some (nI e.2.2, l', c', m') := by
  have h2 := hW.2.1
  have hed := Fq_d hW hs h
  obtain ⟨⟨t, e', k1, k2, k3⟩, k4⟩ := hint_all (gA_w hW) (gA_b hW) (by omega) hs h h0
  obtain ⟨j0, hj0, hj1⟩ := List.mem_iff_getElem.mp k1
  have hj : (gA a s)[j0]? = some (e.2.2, some t) := by rw [List.getElem?_eq_getElem hj0, hj1]
  have hlen := nb_lt hW (show s / 1024 < aR a by omega)
  have hln : (gA a s).length = (nbA a (s / 1024)).length + 2 := by rw [gA_of hs, List.length_append, List.length_map, List.length_range]; rfl
  have hdo := md_doors hW hM (show s / 1024 < aR a by omega)
  have run : ∀ (n : Nat) (la cn : Int32) (me : Nat → Int32), 99999 ≤ n → ∃ l' c' m', lp (σ := Int32 × Int32 × Int32 × Int32 × (Nat → Int32)) (fun k st => fb_X7_hint_26 mrooms mgoal (nI s) mp ml mk mn mly msw mlo (fun x1 x2 mo_last mo_count met => k (x1, x2, mo_last, mo_count, met)) st.1 st.2.1 st.2.2.1 st.2.2.2.1 st.2.2.2.2) n (nI e.2.1, acd (gA a s) 0, la, cn, me) = some (nI e.2.2, l', c', m') := by
    intro n la cn me hn
    refine lp_for (σ := Int32 × Int32 × Int32 × Int32 × (Nat → Int32)) (fun r => ∃ l' c' m', r = some (nI e.2.2, l', c', m')) j0 (fun i st => nI e.2.1 = st.1 ∧ acd (gA a s) i = st.2.1) ?_ ?_ n 0 _ (Nat.zero_le _) (by omega) ⟨rfl, rfl⟩
    · rintro i ⟨y1, y2, la, cn, me⟩ hi ⟨e1, e2⟩ k
      dsimp only at e1 e2 ⊢
      subst e1 e2
      left
      have hil : i < (gA a s).length := by omega
      have hx : (gA a s)[i]? = some ((gA a s)[i]) := List.getElem?_eq_getElem hil
      have hac : acd (gA a s) i = nI ((gA a s)[i]).1 := by unfold acd; rw [hx]
      have hx3 := ((gA_w hW) s).2 _ (List.getElem_mem hil)
      have hlt : ((gA a s)[i]).1 < e.2.2 := by
        rcases gA_get hs hx with ⟨c, q⟩ | ⟨c, q⟩ | ⟨c, q⟩ <;> rcases gA_get hs hj with ⟨c2, q2⟩ | ⟨c2, q2⟩ | ⟨c2, q2⟩ <;> (have q3 : e.2.2 = _ := congrArg Prod.fst q2; rw [q, q3]; first | omega | (show _ < _; dsimp only; omega))
      obtain ⟨v, v1, v2, v3⟩ := m_after_l hW hM hs hx
      unfold fb_X7_hint_26
      rw [hac, if_neg (nI_pos (n := ((gA a s)[i]).1) (by omega)), v1, bs]
      unfold f_X7_hint_57
      cases hc : ((gA a s)[i]).2 with
      | none =>
        rw [if_pos (v2 hc), m_next_l hW hM hs hx, bs]
        exact ⟨_, ⟨rfl, rfl⟩, rfl⟩
      | some u =>
        have hu : u < 1024 * aR a := (gA_b hW) s hs _ (List.getElem_mem hil) u hc
        obtain ⟨l', c', m', r1, r2⟩ := m_spread hW hM hu la cn me
        rw [v3 u hc, if_neg (nI_pos (n := u) (by omega)), r1, bs, m_next_l hW hM hs hx, bs]
        have hne : ¬ gv ((Fq (gA a) u).find? (fun e => gl a e.1)) = nI e.2.1 - 1 := by
          have e8 : nI e.2.1 - 1 = nI (e.2.1 - 1) := pk_sub (b := 1) h0
          rw [e8]
          cases hf : (Fq (gA a) u).find? (fun e => gl a e.1) with
          | none =>
            intro y
            have y2 : (-3 : Int32) = nI (e.2.1 - 1) := y
            exact nI_pos (n := e.2.1 - 1) (by omega) (by rw [← y2]; decide)
          | some e2 =>
            intro y
            have h5 := Fq_d hW hu hf
            have y2 := (nI_eq (show e2.2.1 < 2 ^ 31 by omega) (show e.2.1 - 1 < 2 ^ 31 by omega)).mp y
            refine k4 ((gA a s)[i]).1 u e2 hlt ?_ hf (by omega)
            rw [← hc]
            exact List.getElem_mem hil
        rw [if_neg hne]
        exact ⟨_, ⟨rfl, rfl⟩, rfl⟩
    · rintro ⟨y1, y2, la, cn, me⟩ ⟨e1, e2⟩ k
      dsimp only at e1 e2 ⊢
      subst e1 e2
      have hac : acd (gA a s) j0 = nI e.2.2 := by unfold acd; rw [hj]
      have hx3 : e.2.2 < 1000 := ((gA_w hW) s).2 _ k1
      have ht : t < 1024 * aR a := (gA_b hW) s hs _ k1 t rfl
      obtain ⟨v, v1, v2, v3⟩ := m_after_l hW hM hs hj
      obtain ⟨l', c', m', r1, r2⟩ := m_spread hW hM ht la cn me
      dsimp only at v1
      unfold fb_X7_hint_26
      rw [hac, if_neg (nI_pos (n := e.2.2) (by omega)), v1, bs, v3 t rfl, if_neg (nI_pos (n := t) (by omega)), r1, bs, k2]
      have e8 : gv (some e') = nI e.2.1 - 1 := by
        have e9 : nI e.2.1 - 1 = nI (e.2.1 - 1) := pk_sub (b := 1) h0
        rw [e9, ← k3, Nat.add_sub_cancel]
        rfl
      rw [if_pos e8]
      exact ⟨_, _, _, rfl⟩
  unfold f_X7_hint_26
  by_cases c : (nbA a (s / 1024)).length = 0
  · rw [lp_one]
    have ha : f_X7_after (nI s) 0 mrooms mp ml mk mn mly msw mlo = some (-1) := by
      have hmr := hM.1
      subst hmr
      unfold f_X7_after
      rw [gd_neg g1024, if_neg (show ¬ (0 : Int32) = 100 by decide), if_neg (show ¬ (0 : Int32) = 200 by decide), d1024 (by omega), hdo, bs, c, if_pos (show nI 0 ≤ 0 by decide)]
    have hb : f_X7_nextAction (nI s) 0 mrooms mp mlo = some (acd (gA a s) 0) := by
      have hmr := hM.1
      subst hmr
      rw [m_first hW hs, c]
      unfold f_X7_nextAction
      rw [if_neg (show ¬ (0 : Int32) = 200 by decide), if_neg (show ¬ (0 : Int32) = 100 by decide), gd_neg g1024, d1024 (by omega), hdo, bs, c, if_pos (show nI 0 ≤ 0 + 1 by decide), if_pos (show nI 0 ≤ 0 by decide)]
    have hbody : ∀ k : (Int32 × Int32 × Int32 × Int32 × (Nat → Int32)) → Option (Int32 × Int32 × Int32 × (Nat → Int32)), fb_X7_hint_26 mrooms mgoal (nI s) mp ml mk mn mly msw mlo (fun x1 x2 mo_last mo_count met => k (x1, x2, mo_last, mo_count, met)) (nI e.2.1) 0 last cnt met = k (nI e.2.1, acd (gA a s) 0, last, cnt, met) := by
      intro k
      unfold fb_X7_hint_26 f_X7_hint_57
      rw [if_neg (show ¬ (0 : Int32) < 0 by decide), ha, bs, if_pos (show (-1 : Int32) < 0 by decide), hb, bs]
    dsimp only
    rw [hbody]
    exact run 99999 last cnt met (Nat.le_refl _)
  · have h1 : acd (gA a s) 0 = 0 := by rw [acd_of hs, if_pos (by omega)]; rfl
    have := run fuel last cnt met (by unfold fuel; omega)
    rw [h1] at this
    exact this
theorem hint_agree (hW : AdvW a) (hC : AdvC a rooms goal parent level kind snum xx yy lying sw doors beyond) (hM : AdvM a mrooms mgoal mp ml mk mn mx my mly msw mlo) {s : Nat} (hs : s < 1024 * aR a) (cnt : Int32) (sb : Nat → Int64) (fo di op : Nat → Int32) (last mcnt : Int32) (met : Nat → Int32) :
    ∃ r c' s' f' d' o' l' k' m', f_X6_hint (nI (fi s)) rooms goal cnt parent level kind snum lying sw doors beyond sb fo di op = some (r, c', s', f', d', o') ∧ f_X7_hint mrooms mgoal (nI s) last mcnt mp ml mk mn mly msw mlo met = some (r, l', k', m') := by
  obtain ⟨r, c', s', f', d', o', e1, e2⟩ := c_findGoal hW hC hs cnt sb fo di op
  obtain ⟨l', k', m', e3, e4⟩ := m_spread hW hM hs last mcnt met
  obtain ⟨w, hw⟩ : ∃ w, w = gv ((Fq (gA a) s).find? (fun e => gl a e.1)) := ⟨_, rfl⟩
  rw [← hw] at e3
  unfold f_X6_hint f_X7_hint
  rw [e1, bs, e3, bs]
  rcases e2 with ⟨q1, q3⟩ | ⟨n, e, q1, q2, q3, q4, q5, q6⟩
  · dsimp only
    rw [q1] at hw
    rw [q3, hw, if_neg (show ¬ (-3 : Int32) = 0 by decide), if_neg (show ¬ (0 : Int32) ≤ -3 by decide), if_neg (show ¬ (0 : Int32) < gv none by decide), if_neg (show ¬ gv none = 0 by decide)]
    exact ⟨_, _, _, _, _, _, _, _, _, rfl, rfl⟩
  · have hed := Fq_d hW hs q1
    have hgv : gv (some e) = nI e.2.1 := rfl
    dsimp only
    rw [q1, hgv] at hw
    rw [q3, hw]
    by_cases c : n = 0
    · have hd0 := q4.mp c
      rw [c, hd0, if_pos (show nI 0 = 0 from rfl), if_neg (show ¬ (0 : Int32) < nI 0 by decide), if_pos (show nI 0 = 0 from rfl)]
      exact ⟨_, _, _, _, _, _, _, _, _, rfl, rfl⟩
    · have hd1 : 1 ≤ e.2.1 := by
        have : ¬ e.2.1 = 0 := fun y => c (q4.mpr y)
        omega
      obtain ⟨l2, k2, m2, r1⟩ := m_hint26 hW hM hs q1 hd1 l' k' m'
      rw [if_neg (nI_ne0 (by omega) (by omega)), if_pos (show (0 : Int32) ≤ nI n from nI_le (a := 0) (Nat.zero_le _) (by omega)), gd_in q2 (by omega), cl (by omega), q6 (by omega), if_pos (show (0 : Int32) < nI e.2.1 from nI_lt (a := 0) (by omega) (by omega)), r1]
      exact ⟨_, _, _, _, _, _, _, _, _, rfl, rfl⟩
end STP
