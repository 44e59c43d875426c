/-! safe: the reference. -/
theorem g28 : ¬ (268435456 : Int32) = 0 := by decide
def fl28 (S : List Nat) (x : Nat) : Nat := if x ∈ S then 268435456 else 0
theorem fl_in {S : List Nat} {x : Nat} (h : x ∈ S) : fl28 S x = 268435456 := if_pos h
theorem fl_out {S : List Nat} {x : Nat} (h : x ∉ S) : fl28 S x = 0 := if_neg h
def MSv (Q : List En) (S : List Nat) (met : Nat → Int32) : Prop := ∀ (j : Nat) (e : En), Q[j]? = some e → met e.1 = nI (e.2.1 + 1 + 16384 * nxq Q j + fl28 S e.1)
section SFM
variable {a : AV} {mrooms mgoal : Int32} {mp ml mk mn mx my mly msw mlo : Nat → Int32}
theorem m_leads (hW : AdvW a) (hM : AdvM a mrooms mgoal mp ml mk mn mx my mly msw mlo) {s : Nat} (hs : s < 1024 * aR a) {Q : List En} (hQ : Q = Fq (gA a) s) (hd : Dj Q) (hk : QK (1024 * aR a) Q) {S : List Nat} {met : Nat → Int32} (hm : MSv Q S met) {x : Nat} (hx : x < 1024 * aR a) (hxk : x ∈ Q.map Prod.fst) :
    ∃ w, f_X7_leads (nI x) mrooms mp ml mk mn mly msw mlo met = some w ∧ (((∃ o t, (o, some t) ∈ gA a x ∧ t ∈ S) ∧ w = 1) ∨ ((¬ ∃ o t, (o, some t) ∈ gA a x ∧ t ∈ S) ∧ w = 0)) := by
  have h2 := hW.2.1
  have hl := ql_len hk.1 hk.2
  have hr : x / 1024 < aR a := by omega
  have hlen := nb_lt hW hr
  have hdo := md_doors hW hM hr
  have hmr := hM.1
  subst hmr
  have hln : (gA a x).length = (nbA a (x / 1024)).length + 2 := by rw [gA_of hx, List.length_append, List.length_map, List.length_range]; rfl
  have run : ∃ w, f_X7_leads_19 (nI (aR a)) mp ml mk mn mly msw mlo met (nI x) (acd (gA a x) 0) = some w ∧ (((∃ o t, (o, some t) ∈ gA a x ∧ t ∈ S) ∧ w = 1) ∨ ((¬ ∃ o t, (o, some t) ∈ gA a x ∧ t ∈ S) ∧ w = 0)) := by
    unfold f_X7_leads_19
    refine lp_for0 (σ := Int32 × Int32) (fun r => ∃ w, r = some w ∧ (((∃ o t, (o, some t) ∈ gA a x ∧ t ∈ S) ∧ w = 1) ∨ ((¬ ∃ o t, (o, some t) ∈ gA a x ∧ t ∈ S) ∧ w = 0))) (gA a x).length (by omega)
      (fun i st => nI x = st.1 ∧ acd (gA a x) i = st.2 ∧ ∀ (j : Nat) (y : Nat × Option Nat), j < i → (gA a x)[j]? = some y → ∀ u, y.2 = some u → u ∉ S) ⟨rfl, rfl, fun j y hj => by omega⟩ ?_ ?_
    · rintro i ⟨y1, y2⟩ hi ⟨e1, e2, e3⟩ k
      dsimp only at e1 e2 ⊢
      subst e1 e2
      have hy : (gA a x)[i]? = some ((gA a x)[i]) := List.getElem?_eq_getElem hi
      have hac : acd (gA a x) i = nI ((gA a x)[i]).1 := by unfold acd; rw [hy]
      have hy3 := ((gA_w hW) x).2 _ (List.getElem_mem hi)
      obtain ⟨v, v1, v2, v3⟩ := m_after_l hW hM hx hy
      have hnext : (∀ u, ((gA a x)[i]).2 = some u → u ∉ S) → ∀ (j : Nat) (y : Nat × Option Nat), j < i + 1 → (gA a x)[j]? = some y → ∀ u, y.2 = some u → u ∉ S := fun hz j y hj hjy u hu => by
        by_cases c : j = i
        · subst c
          rw [hy] at hjy
          cases hjy
          exact hz u hu
        · exact e3 j y (by omega) hjy u hu
      unfold fb_X7_leads_19
      rw [hac, if_neg (nI_pos (n := ((gA a x)[i]).1) (by omega)), v1, bs]
      unfold f_X7_leads_47
      rw [m_next_l hW hM hx hy, bs]
      cases hc : ((gA a x)[i]).2 with
      | none =>
        left
        rw [if_pos (v2 hc)]
        exact ⟨(_, _), ⟨rfl, rfl, hnext (fun u hu => by rw [hc] at hu; cases hu)⟩, rfl⟩
      | some u =>
        have hmem : (((gA a x)[i]).1, some u) ∈ gA a x := by rw [← hc]; exact List.getElem_mem hi
        have hu : u < 1024 * aR a := (gA_b hW) x hx _ (List.getElem_mem hi) u hc
        have huk : u ∈ Q.map Prod.fst := by rw [hQ] at hxk ⊢; exact key_closed hW hs hxk hmem
        obtain ⟨e, he, h5⟩ := List.mem_map.mp huk
        obtain ⟨j, hj1, hj2⟩ := List.mem_iff_getElem.mp he
        have hje : Q[j]? = some e := by rw [List.getElem?_eq_getElem hj1, hj2]
        have h6 := hm j e hje
        have h7 := hd j e hje
        have h8 := nxq_le hk j
        rw [h5] at h6
        rw [v3 u hc, if_neg (nI_pos (n := u) (by omega)), gd_in (show u < 12288 by omega) (by omega), cl (by omega), h6]
        by_cases c : u ∈ S
        · right
          rw [fl_in c, if_neg (show ¬ nI (e.2.1 + 1 + 16384 * nxq Q j + 268435456) < (268435456 : Int32) from fun z => absurd ((nI_ltI (b := 268435456) (by omega) (by omega)).mp z) (by omega))]
          exact ⟨1, rfl, Or.inl ⟨⟨_, u, hmem, c⟩, rfl⟩⟩
        · left
          rw [fl_out c, if_pos (show nI (e.2.1 + 1 + 16384 * nxq Q j + 0) < (268435456 : Int32) from nI_lt (b := 268435456) (by omega) (by omega))]
          exact ⟨(_, _), ⟨rfl, rfl, hnext (fun w hw => by rw [hc] at hw; cases hw; exact c)⟩, rfl⟩
    · rintro ⟨y1, y2⟩ ⟨e1, e2, e3⟩ k
      dsimp only at e1 e2 ⊢
      subst e1 e2
      have hac : acd (gA a x) (gA a x).length = -1 := by unfold acd; rw [List.getElem?_eq_none_iff.mpr (Nat.le_refl _)]
      unfold fb_X7_leads_19
      rw [hac, if_pos (show (-1 : Int32) < 0 by decide)]
      refine ⟨0, rfl, Or.inr ⟨?_, rfl⟩⟩
      rintro ⟨o, t, h3, h4⟩
      obtain ⟨j, hj1, hj2⟩ := List.mem_iff_getElem.mp h3
      exact e3 j (o, some t) hj1 (by rw [List.getElem?_eq_getElem hj1, hj2]) t rfl h4
  unfold f_X7_leads f_X7_leads_18
  rw [gd_neg g1024, d1024 (by omega), hdo, bs]
  rw [m_first hW hx] at run
  split
  · rename_i y; rw [if_pos y] at run; exact run
  · rename_i y; rw [if_neg y] at run; exact run
theorem m_sweep (hW : AdvW a) (hM : AdvM a mrooms mgoal mp ml mk mn mx my mly msw mlo) {s : Nat} (hs : s < 1024 * aR a) {Q : List En} (hQ : Q = Fq (gA a) s) (hd : Dj Q) (hk : QK (1024 * aR a) Q) (h0 : ecd Q 0 = nI s) {S0 : List Nat} {met : Nat → Int32} (hS : Sok a s S0) (hm : MSv Q S0 met) (last cnt : Int32)
    (k13 : Int32 → Int32 → Int32 → Int32 → (Nat → Int32) → Option (Int32 × Int32 × Int32 × (Nat → Int32))) :
    ∃ (S1 : List Nat) (m1 : Nat → Int32) (f1 : Int32), f_X7_safe_25 mrooms mgoal (nI s) mp ml mk mn mly msw mlo k13 0 (nI S0.length) (nI s) last cnt met = k13 f1 (nI S1.length) last cnt m1 ∧ Sok a s S1 ∧ MSv Q S1 m1 ∧ ((f1 = 0 ∧ S1 = S0 ∧ Sat a s S0) ∨ (f1 = 1 ∧ S0.length < S1.length)) := by
  have h2 := hW.2.1
  have h3 := hW.2.2.1
  have hl := ql_len hk.1 hk.2
  unfold f_X7_safe_25
  refine lp_for0 (σ := Int32 × Int32 × Int32 × Int32 × Int32 × (Nat → Int32)) (fun r => ∃ (S1 : List Nat) (m1 : Nat → Int32) (f1 : Int32), r = k13 f1 (nI S1.length) last cnt m1 ∧ Sok a s S1 ∧ MSv Q S1 m1 ∧ ((f1 = 0 ∧ S1 = S0 ∧ Sat a s S0) ∨ (f1 = 1 ∧ S0.length < S1.length))) Q.length (by omega)
    (fun j st => ecd Q j = st.2.2.1 ∧ last = st.2.2.2.1 ∧ cnt = st.2.2.2.2.1 ∧ ∃ S : List Nat, nI S.length = st.2.1 ∧ Sok a s S ∧ MSv Q S st.2.2.2.2.2 ∧ ((st.1 = 0 ∧ S = S0 ∧ ∀ (i : Nat) (e : En), i < j → Q[i]? = some e → e.1 ∉ S0 → ¬ adb a S0 e.1) ∨ (st.1 = 1 ∧ S0.length < S.length)))
    ⟨h0, rfl, rfl, S0, rfl, hS, hm, Or.inl ⟨rfl, rfl, fun i e hi => by omega⟩⟩ ?_ ?_
  · rintro j ⟨y1, y2, y3, y4, y5, c⟩ hj ⟨e1, e2, e3, S, e4, e5, e6, e7⟩ k
    dsimp only at e1 e2 e3 e4 e6 e7 ⊢
    subst e1 e2 e3 e4
    left
    have hx : Q[j]? = some (Q[j]) := List.getElem?_eq_getElem hj
    have hxm := hk.2 _ (List.getElem_mem hj)
    have hkeyQ : Q[j].1 ∈ Q.map Prod.fst := List.mem_map.mpr ⟨_, List.getElem_mem hj, rfl⟩
    have hkey : Q[j].1 ∈ (Fq (gA a) s).map Prod.fst := by rw [← hQ]; exact hkeyQ
    have hec : ecd Q j = nI Q[j].1 := by unfold ecd; rw [hx]
    have hv := e6 j _ hx
    have hdj := hd j _ hx
    have hnx := nxq_le hk j
    have h98 : ∀ (z x : Int32) (m1 : Nat → Int32) (S' : List Nat), m1 Q[j].1 = nI (Q[j].2.1 + 1 + 16384 * nxq Q j + fl28 S' Q[j].1) → f_X7_safe_98 mrooms mgoal (nI s) mp ml mk mn mly msw mlo k13 (fun x2 x3 x4 mo_last mo_count met => k (x2, x3, x4, mo_last, mo_count, met)) z x (nI Q[j].1) last cnt m1 = k (z, x, ecd Q (j + 1), last, cnt, m1) := by
      intro z x m1 S' hz
      have hfl : fl28 S' Q[j].1 = 0 ∨ fl28 S' Q[j].1 = 268435456 := by
        unfold fl28; split
        · exact Or.inr rfl
        · exact Or.inl rfl
      have e9 : nI (Q[j].2.1 + 1 + 16384 * nxq Q j + fl28 S' Q[j].1) - nI (Q[j].2.1 + 1 + 16384 * nxq Q j + fl28 S' Q[j].1) / nI 268435456 * nI 268435456 = nI ((Q[j].2.1 + 1 + 16384 * nxq Q j + fl28 S' Q[j].1) % 268435456) := pk_rem (by omega) (by omega) (by omega)
      rw [show (Q[j].2.1 + 1 + 16384 * nxq Q j + fl28 S' Q[j].1) % 268435456 = Q[j].2.1 + 1 + 16384 * nxq Q j by omega, show nI 268435456 = (268435456 : Int32) from rfl] at e9
      unfold f_X7_safe_98
      rw [gd_in (show Q[j].1 < 12288 by omega) (by omega), gd_neg g28, gd_neg g16384, cl (by omega), hz, e9, q16384 (by omega) (by omega), nxq_ecd]
    have hskip : (Q[j].1 ∈ S ∨ ¬ adb a S Q[j].1) → ∃ s' : Int32 × Int32 × Int32 × Int32 × Int32 × (Nat → Int32), (ecd Q (j + 1) = s'.2.2.1 ∧ last = s'.2.2.2.1 ∧ cnt = s'.2.2.2.2.1 ∧ ∃ S : List Nat, nI S.length = s'.2.1 ∧ Sok a s S ∧ MSv Q S s'.2.2.2.2.2 ∧ ((s'.1 = 0 ∧ S = S0 ∧ ∀ (i : Nat) (e : En), i < j + 1 → Q[i]? = some e → e.1 ∉ S0 → ¬ adb a S0 e.1) ∨ (s'.1 = 1 ∧ S0.length < S.length))) ∧ f_X7_safe_68 mrooms mgoal (nI s) mp ml mk mn mly msw mlo k13 (fun x2 x3 x4 mo_last mo_count met => k (x2, x3, x4, mo_last, mo_count, met)) y1 (nI S.length) (nI Q[j].1) last cnt c = k s' := by
      intro hz
      refine ⟨(y1, nI S.length, ecd Q (j + 1), last, cnt, c), ⟨rfl, rfl, rfl, S, rfl, e5, e6, ?_⟩, ?_⟩
      · rcases e7 with ⟨q1, q2, q3⟩ | q1
        · refine Or.inl ⟨q1, q2, fun i e h3 h4 h5 => ?_⟩
          by_cases z : i = j
          · rw [z, hx] at h4
            cases h4
            rw [q2] at hz
            rcases hz with h7 | h7
            · exact absurd h7 h5
            · exact h7
          · exact q3 i e (by omega) h4 h5
        · exact Or.inr q1
      · unfold f_X7_safe_68 f_X7_safe_69
        rw [if_pos (show (0 : Int32) = 0 from rfl)]
        exact h98 _ _ _ S hv
    unfold fb_X7_safe_25
    rw [hec, if_neg (nI_pos (n := Q[j].1) (by omega)), gd_in (show Q[j].1 < 12288 by omega) (by omega), cl (by omega), hv]
    by_cases hxS : Q[j].1 ∈ S
    · rw [fl_in hxS, if_pos (show (268435456 : Int32) ≤ nI (Q[j].2.1 + 1 + 16384 * nxq Q j + 268435456) from nI_le (a := 268435456) (by omega) (by omega))]
      exact hskip (Or.inl hxS)
    · have hadd : adb a S Q[j].1 → ∃ s' : Int32 × Int32 × Int32 × Int32 × Int32 × (Nat → Int32), (ecd Q (j + 1) = s'.2.2.1 ∧ last = s'.2.2.2.1 ∧ cnt = s'.2.2.2.2.1 ∧ ∃ S : List Nat, nI S.length = s'.2.1 ∧ Sok a s S ∧ MSv Q S s'.2.2.2.2.2 ∧ ((s'.1 = 0 ∧ S = S0 ∧ ∀ (i : Nat) (e : En), i < j + 1 → Q[i]? = some e → e.1 ∉ S0 → ¬ adb a S0 e.1) ∨ (s'.1 = 1 ∧ S0.length < S.length))) ∧ f_X7_safe_64 mrooms mgoal (nI s) mp ml mk mn mly msw mlo k13 (fun x2 x3 x4 mo_last mo_count met => k (x2, x3, x4, mo_last, mo_count, met)) y1 (nI S.length) (nI Q[j].1) last cnt c = k s' := by
        intro hz
        have hS2 := e5.add hkey hxS hz
        have hnew : MSv Q (Q[j].1 :: S) (upd c Q[j].1 (c Q[j].1 + 268435456)) := by
          intro i e he
          by_cases z : i = j
          · rw [z, hx] at he
            cases he
            rw [z, upd_s, hv, fl_out hxS, fl_in (List.mem_cons_self), show (268435456 : Int32) = nI 268435456 from rfl, nI_add]
          · have hne : e.1 ≠ Q[j].1 := fun y => z (nd_ix hk.1 he hx y)
            rw [upd_n hne, e6 i e he]
            congr 2
            unfold fl28
            by_cases y : e.1 ∈ S
            · rw [if_pos y, if_pos (List.mem_cons_of_mem _ y)]
            · rw [if_neg y, if_neg (fun q => by
                rcases List.mem_cons.mp q with q | q
                · exact hne q
                · exact y q)]
        refine ⟨(1, nI (S.length + 1), ecd Q (j + 1), last, cnt, upd c Q[j].1 (c Q[j].1 + 268435456)), ⟨rfl, rfl, rfl, Q[j].1 :: S, rfl, hS2, hnew, Or.inr ⟨rfl, ?_⟩⟩, ?_⟩
        · show S0.length < S.length + 1
          rcases e7 with ⟨_, q2, _⟩ | ⟨_, q2⟩
          · rw [q2]; omega
          · omega
        · unfold f_X7_safe_64 f_X7_safe_69
          rw [if_neg (show ¬ (1 : Int32) = 0 by decide), gd_in (show Q[j].1 < 12288 by omega) (by omega), gd_in (show Q[j].1 < 12288 by omega) (by omega), cl (by omega), nI_1]
          exact h98 _ _ _ (Q[j].1 :: S) (hnew j _ hx)
      rw [fl_out hxS, if_neg (show ¬ (268435456 : Int32) ≤ nI (Q[j].2.1 + 1 + 16384 * nxq Q j + 0) from nI_ge (b := 268435456) (by omega) (by omega)), gd_neg g1024, d1024 (by omega), hM.2.1]
      cases hgl : gl a Q[j].1 with
      | true =>
        have hgg : Q[j].1 / 1024 = aG a := of_decide_eq_true hgl
        rw [if_pos (by rw [hgg])]
        have := hadd (Or.inl hgl)
        rw [hM.2.1] at this
        exact this
      | false =>
        have hgg : ¬ Q[j].1 / 1024 = aG a := of_decide_eq_false hgl
        rw [if_neg (fun y => hgg ((nI_eq (by omega) (by omega)).mp y))]
        obtain ⟨v, v1, v2⟩ := m_leads hW hM hs hQ hd hk e6 hxm hkeyQ
        rw [v1, bs]
        rcases v2 with ⟨h7, rfl⟩ | ⟨h7, rfl⟩
        · rw [if_neg (show ¬ (1 : Int32) = 0 by decide)]
          have := hadd (Or.inr h7)
          rw [hM.2.1] at this
          exact this
        · rw [if_pos (show (0 : Int32) = 0 from rfl)]
          have := hskip (Or.inr (by
            rintro (h8 | h8)
            · rw [hgl] at h8; cases h8
            · exact h7 h8))
          rw [hM.2.1] at this
          exact this
  · rintro ⟨y1, y2, y3, y4, y5, c⟩ ⟨e1, e2, e3, S, e4, e5, e6, e7⟩ k
    dsimp only at e1 e2 e3 e4 e6 e7 ⊢
    subst e1 e2 e3 e4
    have hec : ecd Q Q.length = -1 := by unfold ecd; rw [List.getElem?_eq_none_iff.mpr (Nat.le_refl _)]
    unfold fb_X7_safe_25
    rw [hec, if_pos (show (-1 : Int32) < 0 by decide)]
    refine ⟨S, c, y1, rfl, e5, e6, ?_⟩
    rcases e7 with ⟨q1, q2, q3⟩ | q1
    · refine Or.inl ⟨q1, q2, fun x hx hn => ?_⟩
      rw [← hQ] at hx
      obtain ⟨e, he, h3⟩ := List.mem_map.mp hx
      obtain ⟨i, hi, h4⟩ := List.mem_iff_getElem.mp he
      rw [← h3] at hn ⊢
      exact q3 i e hi (by rw [List.getElem?_eq_getElem hi, h4]) hn
    · exact Or.inr q1
theorem m_safe (hW : AdvW a) (hM : AdvM a mrooms mgoal mp ml mk mn mx my mly msw mlo) {s : Nat} (hs : s < 1024 * aR a) (last cnt : Int32) (met : Nat → Int32) :
    ∃ (r l' c' : Int32) (m' : Nat → Int32), f_X7_safe mrooms mgoal (nI s) last cnt mp ml mk mn mly msw mlo met = some (r, l', c', m') ∧ (((∀ x ∈ (Fq (gA a) s).map Prod.fst, Rg a x) ∧ r = 1) ∨ ((¬ ∀ x ∈ (Fq (gA a) s).map Prod.fst, Rg a x) ∧ r = 0)) := by
  have h2 := hW.2.1
  obtain ⟨l', k', m', e3, e4⟩ := m_spread hW hM hs last cnt met
  obtain ⟨Q, hQ⟩ : ∃ Q, Q = Fq (gA a) s := ⟨_, rfl⟩
  have hd : Dj Q := by rw [hQ]; exact bf_dj (gA a) s 12288
  have hk : QK (1024 * aR a) Q := by rw [hQ]; exact ⟨bf_nd _ _ _, bf_in (gA_b hW) hs 12288⟩
  have hl := ql_len hk.1 hk.2
  have h0 : ecd Q 0 = nI s := by
    have h1 : Q[0]? = some (s, 0, 0) := by
      rw [hQ]
      exact pre_get (Fq_pre (n := 0) (by omega)) rfl
    unfold ecd
    rw [h1]
  rw [← hQ] at e4
  unfold f_X7_safe
  rw [e3, bs]
  dsimp only
  rw [e4.1, ← hQ]
  unfold f_X7_safe_13
  have hlen : ∀ S : List Nat, Sok a s S → S.length ≤ Q.length := fun S hS => by rw [hQ]; exact hS.len
  have hend : ∀ (S : List Nat) (m1 : Nat → Int32), Sok a s S → Sat a s S → ∃ (r l2 c2 : Int32) (m2 : Nat → Int32), (if nI S.length = nI Q.length then some ((1 : Int32), l', nI Q.length, m1) else some ((0 : Int32), l', nI Q.length, m1)) = some (r, l2, c2, m2) ∧ (((∀ x ∈ Q.map Prod.fst, Rg a x) ∧ r = 1) ∨ ((¬ ∀ x ∈ Q.map Prod.fst, Rg a x) ∧ r = 0)) := by
    intro S m1 hS hz
    have hl2 := hlen S hS
    by_cases y : S.length = Q.length
    · rw [if_pos (by rw [y])]
      exact ⟨_, _, _, _, rfl, Or.inl ⟨by rw [hQ] at y ⊢; exact hS.all y, rfl⟩⟩
    · rw [if_neg (fun z => y ((nI_eq (by omega) (by omega)).mp z))]
      exact ⟨_, _, _, _, rfl, Or.inr ⟨by rw [hQ] at y ⊢; exact hz.not hW hs hS y, rfl⟩⟩
  refine lp_for0 (σ := Int32 × Int32 × Int32 × Int32 × (Nat → Int32)) (fun q => ∃ (r l2 c2 : Int32) (m2 : Nat → Int32), q = some (r, l2, c2, m2) ∧ (((∀ x ∈ Q.map Prod.fst, Rg a x) ∧ r = 1) ∨ ((¬ ∀ x ∈ Q.map Prod.fst, Rg a x) ∧ r = 0))) (Q.length + 1) (by omega)
    (fun i st => l' = st.2.2.1 ∧ nI Q.length = st.2.2.2.1 ∧ ∃ S : List Nat, nI S.length = st.2.1 ∧ Sok a s S ∧ MSv Q S st.2.2.2.2 ∧ ((st.1 = 0 ∧ Sat a s S) ∨ (st.1 = 1 ∧ i ≤ S.length)))
    ⟨rfl, rfl, [], rfl, Sok.nil, fun j e he => (e4.2.2.1 j e he).trans (by rw [fl_out (by simp)]; rfl), Or.inr ⟨rfl, Nat.zero_le _⟩⟩ ?_ ?_
  · rintro i ⟨y1, y2, y3, y4, c⟩ hi ⟨e1, e2, S, e5, e6, e7, e8⟩ k
    dsimp only at e1 e2 e5 e7 e8 ⊢
    subst e1 e2 e5
    have hl2 := hlen S e6
    unfold fb_X7_safe_13
    rcases e8 with ⟨rfl, q1⟩ | ⟨rfl, q1⟩
    · right
      rw [if_pos (show (0 : Int32) = 0 from rfl)]
      exact hend S c e6 q1
    · left
      rw [if_neg (show ¬ (1 : Int32) = 0 by decide)]
      obtain ⟨S1, b1, f1, r1, r2, r3, r4⟩ := m_sweep hW hM hs hQ hd hk h0 e6 e7 l' (nI Q.length) (fun x2 x3 mo_last mo_count met => k (x2, x3, mo_last, mo_count, met))
      rw [r1]
      refine ⟨(_, _, _, _, _), ⟨rfl, rfl, S1, rfl, r2, r3, ?_⟩, rfl⟩
      rcases r4 with ⟨u1, u2, u3⟩ | ⟨u1, u2⟩
      · exact Or.inl ⟨u1, by rw [u2]; exact u3⟩
      · exact Or.inr ⟨u1, by omega⟩
  · rintro ⟨y1, y2, y3, y4, c⟩ ⟨e1, e2, S, e5, e6, e7, e8⟩ k
    dsimp only at e1 e2 e5 e7 e8 ⊢
    subst e1 e2 e5
    have hl2 := hlen S e6
    unfold fb_X7_safe_13
    rcases e8 with ⟨rfl, q1⟩ | ⟨rfl, q1⟩
    · rw [if_pos (show (0 : Int32) = 0 from rfl)]
      exact hend S c e6 q1
    · omega
end SFM
section SFA
variable {a : AV} {rooms goal : Int32} {parent level kind snum xx yy lying sw doors : Nat → Int32} {beyond : Nat → Nat → Int32}
variable {mrooms mgoal : Int32} {mp ml mk mn mx my mly msw mlo : Nat → Int32}
theorem safe_agree (hW : AdvW a) (hC : AdvC a rooms goal parent level kind snum xx yy lying sw doors beyond) (hM : AdvM a mrooms mgoal mp ml mk mn mx my mly msw mlo) {s : Nat} (hs : s < 1024 * aR a) (cnt : Int32) (sb vb : Nat → Int64) (fo di op : Nat → Int32) (last mcnt : Int32) (met : Nat → Int32) :
    ∃ r c' s' v' f' d' o' l' k' m', f_X6_safe (nI (fi s)) rooms goal cnt parent level kind snum lying sw doors beyond sb vb fo di op = some (r, c', s', v', f', d', o') ∧ f_X7_safe mrooms mgoal (nI s) last mcnt mp ml mk mn mly msw mlo met = some (r, l', k', m') ∧ (r = 0 ∨ r = 1) := by
  obtain ⟨c', s', f', d', o', e1, e2⟩ := c_findAll hW hC hs cnt sb fo di op
  obtain ⟨r, b', e3, e4⟩ := c_all hW hC hs e2 vb
  obtain ⟨r2, l', k', m', e5, e6⟩ := m_safe hW hM hs last mcnt met
  have hr : r2 = r := by
    rcases e4 with ⟨q1, q2⟩ | ⟨q1, q2⟩ <;> rcases e6 with ⟨q3, q4⟩ | ⟨q3, q4⟩
    · rw [q2, q4]
    · exact absurd q1 q3
    · exact absurd q3 q1
    · rw [q2, q4]
  have hr2 : r = 0 ∨ r = 1 := by
    rcases e4 with ⟨q1, q2⟩ | ⟨q1, q2⟩
    · exact Or.inr q2
    · exact Or.inl q2
  unfold f_X6_safe
  rw [e1, bs]
  dsimp only
  rw [e3, bs, gd_neg (fun z => by rcases hr2 with y | y; exact z.1 y; exact z.2 y), e5, hr]
  exact ⟨_, _, _, _, _, _, _, _, _, _, rfl, rfl, hr2⟩
end SFA
