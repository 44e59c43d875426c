/-! The reference's spreading. -/
theorem g16384 : ¬ (16384 : Int32) = 0 := by decide
theorem q16384 {n m : Nat} (h1 : n < 16384) (h2 : m ≤ 12288) : nI (n + 16384 * m) / 16384 = nI m := by
  have e : nI (n + 16384 * m) / nI 16384 = nI ((n + 16384 * m) / 16384) := divN (by omega) (by omega) (by omega)
  rw [show (n + 16384 * m) / 16384 = m by omega] at e
  exact e
theorem sub1 (n : Nat) : nI (n + 1) - 1 = nI n := pk_sub (a := n + 1) (b := 1) (by omega)
theorem Fq_is (G : Gr) (s : Nat) : Fq G s = bf G s 12288 := rfl
theorem r16384 {n m : Nat} (h1 : n < 16384) (h2 : m ≤ 12288) : nI (n + 16384 * m) - nI (n + 16384 * m) / 16384 * 16384 = nI n := by
  have e : nI (n + 16384 * m) - nI (n + 16384 * m) / nI 16384 * nI 16384 = nI ((n + 16384 * m) % 16384) := pk_rem (by omega) (by omega) (by omega)
  rw [show (n + 16384 * m) % 16384 = n by omega] at e
  exact e
/-- the entry n of the queue, or none -/
def ecd (Q : List En) (n : Nat) : Int32 := match Q[n]? with | some e => nI e.1 | none => -1
theorem nxq_ecd (Q : List En) (n : Nat) : nI (nxq Q n) - 1 = ecd Q (n + 1) := by
  unfold nxq ecd
  cases Q[n + 1]? with
  | none => decide
  | some g => exact pk_sub (a := g.1 + 1) (b := 1) (by omega)
section SPM
variable {a : AV} {mrooms mgoal : Int32} {mp ml mk mn mx my mly msw mlo : Nat → Int32}
theorem exq_take {l : List (Nat × Option Nat)} {i : Nat} {x : Nat × Option Nat} (h : l[i]? = some x) (f : En) (Q : List En) : exq (l.take (i + 1)) f Q = rch (exq (l.take i) f Q) (f.2.1 + 1) (ow f x.1) x.2 := by
  obtain ⟨h1, h2⟩ := List.getElem?_eq_some_iff.mp h
  rw [List.take_succ_eq_append_getElem h1, h2, exq_app, exq_one]
theorem m_inner (hW : AdvW a) (hM : AdvM a mrooms mgoal mp ml mk mn mx my mly msw mlo) {Q : List En} {f : En} {p : Nat} {last cnt : Int32} {met : Nat → Int32} (h : MQu Q last cnt met) (hk : QK (1024 * aR a) Q) (hj : Dj Q) (hp : Q[p]? = some f) (x2 : Int32) (k43 : Int32 → Int32 → Int32 → Int32 → (Nat → Int32) → Option (Int32 × Int32 × Int32 × (Nat → Int32))) :
    ∃ l' c' m', f_X7_spread_104 mrooms mgoal mp ml mk mn mly msw mlo k43 x2 (nI f.1) (nI f.2.1) (acd (gA a f.1) 0) last cnt met = k43 x2 (ecd (exq (gA a f.1) f Q) (p + 1)) l' c' m' ∧ MQu (exq (gA a f.1) f Q) l' c' m' := by
  have h2 := hW.2.1
  obtain ⟨hpl, hpe⟩ := List.getElem?_eq_some_iff.mp hp
  have hl := ql_len hk.1 hk.2
  have hfB : f.1 < 1024 * aR a := hk.2 f (by rw [← hpe]; exact List.getElem_mem hpl)
  have hlen := nb_lt hW (show f.1 / 1024 < aR a by omega)
  have hln : (gA a f.1).length = (nbA a (f.1 / 1024)).length + 2 := by rw [gA_of hfB, List.length_append, List.length_map, List.length_range]; rfl
  have hfd : f.2.1 + 1 ≤ Q.length := by have := hj p f hp; omega
  unfold f_X7_spread_104
  refine lp_for0 (σ := Int32 × Int32 × Int32 × Int32 × Int32 × Int32 × (Nat → Int32)) (fun r => ∃ l' c' m', r = k43 x2 (ecd (exq (gA a f.1) f Q) (p + 1)) l' c' m' ∧ MQu (exq (gA a f.1) f Q) l' c' m') (gA a f.1).length (by omega)
    (fun i st => x2 = st.1 ∧ nI f.1 = st.2.1 ∧ nI f.2.1 = st.2.2.1 ∧ acd (gA a f.1) i = st.2.2.2.1 ∧ MQu (exq ((gA a f.1).take i) f Q) st.2.2.2.2.1 st.2.2.2.2.2.1 st.2.2.2.2.2.2 ∧ QK (1024 * aR a) (exq ((gA a f.1).take i) f Q) ∧ Dj (exq ((gA a f.1).take i) f Q)) ⟨rfl, rfl, rfl, rfl, h, hk, hj⟩ ?_ ?_
  · rintro i ⟨y2, y3, y4, y5, la, cn, me⟩ hi ⟨e1, e2, e3, e4, e5, e6, e7⟩ k
    dsimp only at e1 e2 e3 e4 e5 ⊢
    subst e1 e2 e3 e4
    left
    have hx : (gA a f.1)[i]? = some ((gA a f.1)[i]) := List.getElem?_eq_getElem hi
    have hx3 := ((gA_w hW) f.1).2 _ (List.getElem_mem hi)
    have hac : acd (gA a f.1) i = nI ((gA a f.1)[i]).1 := by unfold acd; rw [hx]
    obtain ⟨v, v1, v2, v3⟩ := m_after_l hW hM hfB hx
    have hb : ∀ u, ((gA a f.1)[i]).2 = some u → u < 1024 * aR a := fun u hu => (gA_b hW) f.1 hfB _ (List.getElem_mem hi) u hu
    obtain ⟨l', c', m', r1, r2⟩ := m_meet (d := f.2.1 + 1) (o := ow f ((gA a f.1)[i]).1) (t := ((gA a f.1)[i]).2) e5 ⟨e6.1, fun e he => by have := e6.2 e he; omega⟩ e7 (fun u hu => by have := hb u hu; omega) v v2 v3
    unfold fb_X7_spread_104
    rw [hac, if_neg (nI_pos (n := ((gA a f.1)[i]).1) (by omega)), v1, bs, nI_1, r1, bs, m_next_l hW hM hfB hx, bs]
    refine ⟨(_, _, _, _, _, _, _), ⟨rfl, rfl, rfl, rfl, ?_, ?_, ?_⟩, rfl⟩
    · rw [exq_take hx]; exact r2
    · rw [exq_take hx]; exact e6.rch hb
    · rw [exq_take hx]; exact rch_dj e7 (Nat.le_trans hfd (exq_pre _ _).length_le)
  · rintro ⟨y2, y3, y4, y5, la, cn, me⟩ ⟨e1, e2, e3, e4, e5, e6, e7⟩ k
    dsimp only at e1 e2 e3 e4 e5 ⊢
    subst e1 e2 e3 e4
    rw [List.take_length] at e5 e6 e7
    have hac : acd (gA a f.1) (gA a f.1).length = -1 := by unfold acd; rw [List.getElem?_eq_none_iff.mpr (Nat.le_refl _)]
    have hp2 := pre_get (exq_pre (f := f) (gA a f.1) Q) hp
    have hv := e5.2.2.1 p f hp2
    have hd := e7 p f hp2
    have hn := nxq_le e6 p
    unfold fb_X7_spread_104
    rw [hac, if_pos (show (-1 : Int32) < 0 by decide), gd_in (show f.1 < 12288 by omega) (by omega), gd_neg g16384, cl (by omega), hv, q16384 (by omega) (by omega), nxq_ecd]
    exact ⟨_, _, _, rfl, e5⟩
def gv (o : Option En) : Int32 := match o with | some e => nI e.2.1 | none => -3
theorem take_find {Q : List En} {n : Nat} {f : En} (h : Q[n]? = some f) (p : En → Bool) : (Q.take (n + 1)).find? p = ((Q.take n).find? p).or (if p f then some f else none) := by
  obtain ⟨h1, h2⟩ := List.getElem?_eq_some_iff.mp h
  rw [List.take_succ_eq_append_getElem h1, h2, List.find?_append]
  congr 1
  rw [List.find?_cons]
  cases p f <;> rfl
theorem m_spread43 (hW : AdvW a) (hM : AdvM a mrooms mgoal mp ml mk mn mx my mly msw mlo) {s : Nat} (hs : s < 1024 * aR a) {last cnt : Int32} {met : Nat → Int32} (h : MQu [(s, 0, 0)] last cnt met) :
    ∃ l' c' m', f_X7_spread_43 mrooms mgoal mp ml mk mn mly msw mlo (-3) (nI s) last cnt met = some (gv ((Fq (gA a) s).find? (fun e => gl a e.1)), l', c', m') ∧ MQu (Fq (gA a) s) l' c' m' := by
  have h2 := hW.2.1
  have h3 := hW.2.2.1
  have hg := hM.2.1
  have hmr := hM.1
  subst hg hmr
  obtain ⟨N, hN⟩ : ∃ N : Nat, N = 12288 := ⟨_, rfl⟩
  have hF : Fq (gA a) s = bf (gA a) s N := by rw [hN, Fq_is]
  unfold f_X7_spread_43
  refine lp_for0 (σ := Int32 × Int32 × Int32 × Int32 × (Nat → Int32)) (fun r => ∃ l' c' m', r = some (gv ((Fq (gA a) s).find? (fun e => gl a e.1)), l', c', m') ∧ MQu (Fq (gA a) s) l' c' m') N (by omega)
    (fun i st => gv (((bf (gA a) s i).take i).find? (fun e => gl a e.1)) = st.1 ∧ ecd (bf (gA a) s i) i = st.2.1 ∧ MQu (bf (gA a) s i) st.2.2.1 st.2.2.2.1 st.2.2.2.2) ⟨rfl, rfl, h⟩ ?_ ?_
  · rintro i ⟨y1, y2, la, cn, me⟩ hi ⟨e1, e2, e3⟩ k
    dsimp only at e1 e2 e3 ⊢
    subst e1 e2
    have hl := bf_len (gA_b hW) hs i
    unfold fb_X7_spread_43
    rcases Nat.lt_or_ge i (bf (gA a) s i).length with c | c
    · left
      have hf : (bf (gA a) s i)[i]? = some ((bf (gA a) s i)[i]) := List.getElem?_eq_getElem c
      have hfm := bf_in (gA_b hW) hs i _ (List.getElem_mem c)
      have hec : ecd (bf (gA a) s i) i = nI ((bf (gA a) s i)[i]).1 := by unfold ecd; rw [hf]
      have hv := e3.2.2.1 i _ hf
      have hd := bf_dj (gA a) s i i _ hf
      have hn := nxq_le (Q := bf (gA a) s i) (B := 1024 * aR a) ⟨bf_nd _ _ _, bf_in (gA_b hW) hs i⟩ i
      have hr : ((bf (gA a) s i)[i]).1 / 1024 < aR a := by omega
      have hdo := md_doors hW hM hr
      rw [hec, if_neg (nI_pos (n := ((bf (gA a) s i)[i]).1) (by omega)), gd_in (show ((bf (gA a) s i)[i]).1 < 12288 by omega) (by omega), gd_neg g16384, cl (by omega), hv, r16384 (by omega) (by omega), sub1, gd_neg g1024]
      have hfin : ∀ x : Int32, x = gv (((bf (gA a) s (i + 1)).take (i + 1)).find? (fun e => gl a e.1)) →
          ∃ s', (gv (((bf (gA a) s (i + 1)).take (i + 1)).find? (fun e => gl a e.1)) = s'.1 ∧ ecd (bf (gA a) s (i + 1)) (i + 1) = s'.2.1 ∧ MQu (bf (gA a) s (i + 1)) s'.2.2.1 s'.2.2.2.1 s'.2.2.2.2) ∧ f_X7_spread_83 (nI (aR a)) (nI (aG a)) mp ml mk mn mly msw mlo (fun x2 x3 mo_last mo_count met => k (x2, x3, mo_last, mo_count, met)) (nI ((bf (gA a) s i)[i]).1) (nI ((bf (gA a) s i)[i]).2.1) x la cn me = k s' := by
        intro x hx
        obtain ⟨l', c', m', r1, r2⟩ := m_inner hW hM e3 ⟨bf_nd _ _ _, bf_in (gA_b hW) hs i⟩ (bf_dj _ _ _) hf x (fun x2 x3 mo_last mo_count met => k (x2, x3, mo_last, mo_count, met))
        unfold f_X7_spread_83 f_X7_spread_102
        rw [m_first hW hfm] at r1
        refine ⟨(x, ecd (bf (gA a) s (i + 1)) (i + 1), l', c', m'), ⟨hx.symm, rfl, ?_⟩, ?_⟩
        · rw [bf_some hf]; exact r2
        · rw [gd_neg g1024, d1024 (by omega), hdo, bs, bf_some hf]
          split
          · rename_i y; rw [if_pos y] at r1; exact r1
          · rename_i y; rw [if_neg y] at r1; exact r1
      have htk : ((bf (gA a) s (i + 1)).take (i + 1)).find? (fun e => gl a e.1) = (((bf (gA a) s i).take i).find? (fun e => gl a e.1)).or (if gl a ((bf (gA a) s i)[i]).1 then some ((bf (gA a) s i)[i]) else none) := by
        have e0 : (bf (gA a) s (i + 1)).take (i + 1) = (bf (gA a) s i).take (i + 1) := mem_take_pre (bf_pre1 _ _ _) (by omega)
        rw [e0]
        exact take_find hf _
      cases hc : ((bf (gA a) s i).take i).find? (fun e => gl a e.1) with
      | some e =>
        have hem := bf_in (gA_b hW) hs i e (List.mem_of_mem_take (List.mem_of_find?_eq_some hc))
        have hed : e.2.1 < 12288 := by
          obtain ⟨j, hj1, hj2⟩ := List.mem_iff_getElem.mp (List.mem_of_mem_take (List.mem_of_find?_eq_some hc))
          have := bf_dj (gA a) s i j e (by rw [List.getElem?_eq_getElem hj1, hj2])
          omega
        rw [if_pos (show (0 : Int32) ≤ gv (some e) from nI_le (a := 0) (Nat.zero_le _) (show e.2.1 < 2 ^ 31 by omega))]
        exact hfin _ (by rw [htk, hc, Option.some_or])
      | none =>
        rw [if_neg (show ¬ (0 : Int32) ≤ gv none by decide), d1024 (by omega)]
        cases hgl : gl a ((bf (gA a) s i)[i]).1 with
        | true =>
          have hgg : ((bf (gA a) s i)[i]).1 / 1024 = aG a := of_decide_eq_true hgl
          rw [if_pos (by rw [hgg])]
          exact hfin _ (by rw [htk, hc, hgl]; exact rfl)
        | false =>
          have hgg : ¬ ((bf (gA a) s i)[i]).1 / 1024 = aG a := of_decide_eq_false hgl
          rw [if_neg (fun y => hgg ((nI_eq (by omega) (by omega)).mp y))]
          exact hfin _ (by rw [htk, hc, hgl]; exact rfl)
    · right
      have hec : ecd (bf (gA a) s i) i = -1 := by unfold ecd; rw [List.getElem?_eq_none_iff.mpr c]
      rw [hec, if_pos (show (-1 : Int32) < 0 by decide)]
      rw [Fq_of (by omega) c]
      rw [List.take_of_length_le c]
      exact ⟨_, _, _, rfl, e3⟩
  · rintro ⟨y1, y2, la, cn, me⟩ ⟨e1, e2, e3⟩ k
    dsimp only at e1 e2 e3 ⊢
    subst e1 e2
    have hl := bf_len (gA_b hW) hs N
    have hec : ecd (bf (gA a) s N) N = -1 := by unfold ecd; rw [List.getElem?_eq_none_iff.mpr (by omega)]
    unfold fb_X7_spread_43
    rw [hec, if_pos (show (-1 : Int32) < 0 by decide), List.take_of_length_le (by omega), hF]
    exact ⟨_, _, _, rfl, e3⟩
end SPM
