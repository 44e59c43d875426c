/-! safe: the class. -/
theorem dec1 (x : Int32) : x + (-1) = x - 1 := (Int32.sub_eq_add_neg x 1).symm
section SFC
variable {a : AV} {rooms goal : Int32} {parent level kind snum xx yy lying sw doors : Nat → Int32} {beyond : Nat → Nat → Int32}
theorem c_sweep (hW : AdvW a) (hC : AdvC a rooms goal parent level kind snum xx yy lying sw doors beyond) {s : Nat} (hs : s < 1024 * aR a) {cnt : Int32} {fo : Nat → Int32} (hfo : ∀ (j : Nat) (e : En), (Fq (gA a) s)[j]? = some e → fo j = nI (fi e.1)) {S0 : List Nat} {b : Nat → Int64} (hS : Sok a s S0) (hb : SBs b S0) (x3 : Int32)
    (k16 : Int32 → Int32 → Int32 → (Nat → Int64) → Option (Int32 × (Nat → Int64))) :
    ∃ (S1 : List Nat) (b1 : Nat → Int64) (f1 : Int32), f_X4_allLeadToGoal_42 rooms goal cnt parent level kind snum lying sw doors beyond fo k16 (nI ((Fq (gA a) s).length - S0.length)) 0 x3 (nI (Fq (gA a) s).length - 1) b = k16 (nI ((Fq (gA a) s).length - S1.length)) f1 (x3 + 1) b1 ∧ Sok a s S1 ∧ SBs b1 S1 ∧ ((f1 = 0 ∧ S1 = S0 ∧ Sat a s S0) ∨ (f1 = 1 ∧ S0.length < S1.length)) := by
  have h2 := hW.2.1
  have hg := hC.2.1
  obtain ⟨Q, hQ⟩ : ∃ Q, Q = Fq (gA a) s := ⟨_, rfl⟩
  have hLl : Q.length ≤ 1024 * aR a := by rw [hQ]; exact bf_len (gA_b hW) hs 12288
  have hin : ∀ e ∈ Q, e.1 < 1024 * aR a := by rw [hQ]; exact bf_in (gA_b hW) hs 12288
  rw [← hQ]
  rw [← hQ] at hfo
  unfold f_X4_allLeadToGoal_42
  refine lp_for0 (σ := Int32 × Int32 × Int32 × Int32 × (Nat → Int64)) (fun r => ∃ (S1 : List Nat) (b1 : Nat → Int64) (f1 : Int32), r = k16 (nI (Q.length - S1.length)) f1 (x3 + 1) b1 ∧ Sok a s S1 ∧ SBs b1 S1 ∧ ((f1 = 0 ∧ S1 = S0 ∧ Sat a s S0) ∨ (f1 = 1 ∧ S0.length < S1.length))) Q.length (by omega)
    (fun j st => x3 = st.2.2.1 ∧ nI (Q.length - j) - 1 = st.2.2.2.1 ∧ ∃ S : List Nat, nI (Q.length - S.length) = st.1 ∧ Sok a s S ∧ SBs st.2.2.2.2 S ∧ ((st.2.1 = 0 ∧ S = S0 ∧ ∀ (i : Nat) (e : En), Q.length - j ≤ i → Q[i]? = some e → e.1 ∉ S0 → ¬ adb a S0 e.1) ∨ (st.2.1 = 1 ∧ S0.length < S.length)))
    ⟨rfl, rfl, S0, rfl, hS, hb, Or.inl ⟨rfl, rfl, fun i e hi he => by
      obtain ⟨q, _⟩ := List.getElem?_eq_some_iff.mp he
      omega⟩⟩ ?_ ?_
  · rintro j ⟨y1, y2, y3, y4, c⟩ hj ⟨e1, e2, S, e3, e4, e5, e6⟩ k
    dsimp only at e1 e2 e3 e5 e6 ⊢
    subst e1 e2 e3
    left
    have hi : Q.length - j - 1 < Q.length := by omega
    have hx : Q[Q.length - j - 1]? = some (Q[Q.length - j - 1]) := List.getElem?_eq_getElem hi
    have hxm := hin _ (List.getElem_mem hi)
    have hkey : Q[Q.length - j - 1].1 ∈ (Fq (gA a) s).map Prod.fst := by rw [← hQ]; exact List.mem_map.mpr ⟨_, List.getElem_mem hi, rfl⟩
    have hfi := fi_lt (R := 12) (show Q[Q.length - j - 1].1 < 1024 * 12 by omega)
    have hx4 : nI (Q.length - j) - 1 = nI (Q.length - j - 1) := pk_sub (b := 1) (by omega)
    have hx5 : nI (Q.length - j - 1) + (-1) = nI (Q.length - (j + 1)) - 1 := by rw [dec1, show Q.length - (j + 1) = Q.length - j - 1 by omega]
    have hnx : ∀ (i : Nat) (e : En), Q.length - (j + 1) ≤ i → Q[i]? = some e → i = Q.length - j - 1 ∧ e = Q[Q.length - j - 1] ∨ Q.length - j ≤ i := fun i e h3 h4 => by
      by_cases z : i = Q.length - j - 1
      · left
        refine ⟨z, ?_⟩
        rw [z, hx] at h4
        cases h4
        rfl
      · right
        omega
    unfold fb_X4_allLeadToGoal_42
    rw [hx4, if_neg (nI_pos (n := Q.length - j - 1) (by omega)), gd_in (show Q.length - j - 1 < 12288 by omega) (by omega), cl (by omega), hfo _ _ hx]
    obtain ⟨w, w1, w2⟩ := c_has_saved e5 (n := fi Q[Q.length - j - 1].1) (by omega)
    rw [w1, bs]
    have hskip : (Q[Q.length - j - 1].1 ∈ S ∨ ¬ adb a S Q[Q.length - j - 1].1) → ∃ s' : Int32 × Int32 × Int32 × Int32 × (Nat → Int64), (x3 = s'.2.2.1 ∧ nI (Q.length - (j + 1)) - 1 = s'.2.2.2.1 ∧ ∃ S : List Nat, nI (Q.length - S.length) = s'.1 ∧ Sok a s S ∧ SBs s'.2.2.2.2 S ∧ ((s'.2.1 = 0 ∧ S = S0 ∧ ∀ (i : Nat) (e : En), Q.length - (j + 1) ≤ i → Q[i]? = some e → e.1 ∉ S0 → ¬ adb a S0 e.1) ∨ (s'.2.1 = 1 ∧ S0.length < S.length))) ∧ f_X4_allLeadToGoal_100 rooms goal cnt parent level kind snum lying sw doors beyond fo k16 (fun x1 x2 x3 x4 savedb => k (x1, x2, x3, x4, savedb)) (nI (Q.length - S.length)) y2 x3 (nI (Q.length - j - 1)) c = k s' := by
      intro hz
      refine ⟨(nI (Q.length - S.length), y2, x3, nI (Q.length - (j + 1)) - 1, c), ⟨rfl, rfl, S, rfl, e4, e5, ?_⟩, by show k (nI (Q.length - S.length), y2, x3, nI (Q.length - j - 1) + (-1), c) = _; rw [hx5]⟩
      rcases e6 with ⟨q1, q2, q3⟩ | q1
      · refine Or.inl ⟨q1, q2, fun i e h3 h4 h5 => ?_⟩
        rcases hnx i e h3 h4 with ⟨_, h6⟩ | h6
        · rw [h6] at h5 ⊢
          rw [q2] at hz
          rcases hz with h7 | h7
          · exact absurd h7 h5
          · exact h7
        · exact q3 i e h6 h4 h5
      · exact Or.inr q1
    rcases w2 with ⟨⟨x, hxS, hxe⟩, rfl⟩ | ⟨hnS, rfl⟩
    · rw [if_neg (show ¬ (1 : Int32) = 0 by decide)]
      exact hskip (Or.inl (by rw [← fi_inj hxe]; exact hxS))
    · have hnS2 : Q[Q.length - j - 1].1 ∉ S := fun y => hnS ⟨_, y, rfl⟩
      have hadd : adb a S Q[Q.length - j - 1].1 → ∃ s' : Int32 × Int32 × Int32 × Int32 × (Nat → Int64), (x3 = s'.2.2.1 ∧ nI (Q.length - (j + 1)) - 1 = s'.2.2.2.1 ∧ ∃ S : List Nat, nI (Q.length - S.length) = s'.1 ∧ Sok a s S ∧ SBs s'.2.2.2.2 S ∧ ((s'.2.1 = 0 ∧ S = S0 ∧ ∀ (i : Nat) (e : En), Q.length - (j + 1) ≤ i → Q[i]? = some e → e.1 ∉ S0 → ¬ adb a S0 e.1) ∨ (s'.2.1 = 1 ∧ S0.length < S.length))) ∧ f_X4_allLeadToGoal_86 rooms goal cnt parent level kind snum lying sw doors beyond fo k16 (fun x1 x2 x3 x4 savedb => k (x1, x2, x3, x4, savedb)) (nI (Q.length - S.length)) x3 (nI (Q.length - j - 1)) (nI (fi Q[Q.length - j - 1].1)) c = k s' := by
        intro hz
        have hS2 := e4.add hkey hnS2 hz
        have hl2 : S.length + 1 ≤ Q.length := by rw [hQ]; exact hS2.len
        obtain ⟨b2, u1, u2⟩ := c_add_saved e5 (n := fi Q[Q.length - j - 1].1) (by omega)
        have hl3 : nI (Q.length - S.length) + (-1) = nI (Q.length - (S.length + 1)) := by
          rw [dec1, show Q.length - (S.length + 1) = Q.length - S.length - 1 by omega]
          exact pk_sub (b := 1) (by omega)
        refine ⟨(nI (Q.length - (S.length + 1)), 1, x3, nI (Q.length - (j + 1)) - 1, b2), ⟨rfl, rfl, Q[Q.length - j - 1].1 :: S, rfl, hS2, ?_, Or.inr ⟨rfl, ?_⟩⟩, ?_⟩
        · intro n hn
          dsimp only
          rw [u2 n hn]
          constructor
          · rintro (⟨x, hx1, hx2⟩ | hx1)
            · exact ⟨x, List.mem_cons_of_mem _ hx1, hx2⟩
            · exact ⟨_, List.mem_cons_self, hx1.symm⟩
          · rintro ⟨x, hx1, hx2⟩
            rcases List.mem_cons.mp hx1 with h7 | h7
            · rw [h7] at hx2; exact Or.inr hx2.symm
            · exact Or.inl ⟨x, h7, hx2⟩
        · show S0.length < S.length + 1
          rcases e6 with ⟨_, q2, _⟩ | ⟨_, q2⟩
          · rw [q2]; omega
          · omega
        · unfold f_X4_allLeadToGoal_86 f_X4_allLeadToGoal_100
          rw [u1, bs, hx5, hl3]
      rw [if_pos (show (0 : Int32) = 0 from rfl), c_isAtGoal hW hg (by omega), bs]
      cases hgl : gl a Q[Q.length - j - 1].1 with
      | true =>
        rw [if_pos (show true = true from rfl), if_neg (show ¬ (1 : Int32) = 0 by decide)]
        exact hadd (Or.inl hgl)
      | false =>
        obtain ⟨v, v1, v2⟩ := c_leads hW hC e5 hxm
        rw [if_neg (show ¬ false = true by decide), if_pos (show (0 : Int32) = 0 from rfl), v1, bs]
        rcases v2 with ⟨h7, rfl⟩ | ⟨h7, rfl⟩
        · rw [if_neg (show ¬ (1 : Int32) = 0 by decide)]
          exact hadd (Or.inr h7)
        · rw [if_pos (show (0 : Int32) = 0 from rfl)]
          refine hskip (Or.inr ?_)
          rintro (h8 | h8)
          · rw [hgl] at h8; cases h8
          · exact h7 h8
  · rintro ⟨y1, y2, y3, y4, c⟩ ⟨e1, e2, S, e3, e4, e5, e6⟩ k
    dsimp only at e1 e2 e3 e5 e6 ⊢
    subst e1 e2 e3
    unfold fb_X4_allLeadToGoal_42
    rw [Nat.sub_self, if_pos (show nI 0 - 1 < 0 by decide)]
    refine ⟨S, c, y2, rfl, e4, e5, ?_⟩
    rcases e6 with ⟨q1, q2, q3⟩ | q1
    · refine Or.inl ⟨q1, q2, fun x hx hn => ?_⟩
      rw [← hQ] at hx
      obtain ⟨e, he, h3⟩ := List.mem_map.mp hx
      obtain ⟨i, hi, h4⟩ := List.mem_iff_getElem.mp he
      rw [← h3] at hn ⊢
      exact q3 i e (by omega) (by rw [List.getElem?_eq_getElem hi, h4]) hn
    · exact Or.inr q1
theorem c_all (hW : AdvW a) (hC : AdvC a rooms goal parent level kind snum xx yy lying sw doors beyond) {s : Nat} (hs : s < 1024 * aR a) {cnt : Int32} {sb : Nat → Int64} {fo di op : Nat → Int32} (h : CQ (Fq (gA a) s) cnt sb fo di op) (b : Nat → Int64) :
    ∃ (r : Int32) (b' : Nat → Int64), f_X4_allLeadToGoal rooms goal cnt parent level kind snum lying sw doors beyond b fo = some (r, b') ∧ (((∀ x ∈ (Fq (gA a) s).map Prod.fst, Rg a x) ∧ r = 1) ∨ ((¬ ∀ x ∈ (Fq (gA a) s).map Prod.fst, Rg a x) ∧ r = 0)) := by
  have h2 := hW.2.1
  obtain ⟨b0, e1, e2⟩ := c_clear_saved b
  have hLl : (Fq (gA a) s).length ≤ 1024 * aR a := bf_len (gA_b hW) hs 12288
  have hcn := h.1
  subst hcn
  unfold f_X4_allLeadToGoal
  rw [e1, bs]
  unfold f_X4_allLeadToGoal_16
  have hend : ∀ (S : List Nat) (c : Nat → Int64), Sok a s S → (Sat a s S ∨ S.length = (Fq (gA a) s).length) → ∃ (r : Int32) (b' : Nat → Int64), f_X4_allLeadToGoal_112 rooms goal (nI (Fq (gA a) s).length) parent level kind snum lying sw doors beyond fo (nI ((Fq (gA a) s).length - S.length)) c = some (r, b') ∧ (((∀ x ∈ (Fq (gA a) s).map Prod.fst, Rg a x) ∧ r = 1) ∨ ((¬ ∀ x ∈ (Fq (gA a) s).map Prod.fst, Rg a x) ∧ r = 0)) := by
    intro S c hS hz
    have hl := hS.len
    unfold f_X4_allLeadToGoal_112
    by_cases y : S.length = (Fq (gA a) s).length
    · rw [y, Nat.sub_self, if_pos (show nI 0 = 0 from rfl)]
      exact ⟨_, _, rfl, Or.inl ⟨hS.all y, rfl⟩⟩
    · rw [if_neg (nI_ne0 (by omega) (by omega))]
      rcases hz with hz | hz
      · exact ⟨_, _, rfl, Or.inr ⟨hz.not hW hs hS y, rfl⟩⟩
      · exact absurd hz y
  refine lp_for0 (σ := Int32 × Int32 × Int32 × (Nat → Int64)) (fun q => ∃ (r : Int32) (b' : Nat → Int64), q = some (r, b') ∧ (((∀ x ∈ (Fq (gA a) s).map Prod.fst, Rg a x) ∧ r = 1) ∨ ((¬ ∀ x ∈ (Fq (gA a) s).map Prod.fst, Rg a x) ∧ r = 0))) ((Fq (gA a) s).length + 1) (by omega)
    (fun i st => nI i = st.2.2.1 ∧ ∃ S : List Nat, nI ((Fq (gA a) s).length - S.length) = st.1 ∧ Sok a s S ∧ SBs st.2.2.2 S ∧ ((st.2.1 = 0 ∧ Sat a s S) ∨ (st.2.1 = 1 ∧ i ≤ S.length)))
    ⟨rfl, [], (by rw [List.length_nil, Nat.sub_zero]), Sok.nil, fun n hn => by rw [e2 n hn]; exact ⟨fun y => y.elim, fun ⟨x, hx, _⟩ => by cases hx⟩, Or.inr ⟨rfl, Nat.zero_le _⟩⟩ ?_ ?_
  · rintro i ⟨y1, y2, y3, c⟩ hi ⟨e1, S, e3, e4, e5, e6⟩ k
    dsimp only at e1 e3 e5 e6 ⊢
    subst e1 e3
    have hl := e4.len
    unfold fb_X4_allLeadToGoal_16
    rcases e6 with ⟨rfl, q1⟩ | ⟨rfl, q1⟩
    · right
      rw [if_pos (show (0 : Int32) = 0 from rfl)]
      exact hend S c e4 (Or.inl q1)
    · rw [if_neg (show ¬ (1 : Int32) = 0 by decide)]
      by_cases y : S.length = (Fq (gA a) s).length
      · right
        rw [y, Nat.sub_self, if_pos (show nI 0 ≤ 0 by decide)]
        have := hend S c e4 (Or.inr y)
        rw [y, Nat.sub_self] at this
        exact this
      · left
        rw [if_neg (show ¬ nI ((Fq (gA a) s).length - S.length) ≤ 0 from fun z => absurd ((nI_leI (b := 0) (by omega) (by omega)).mp z) (by omega)), if_neg (show ¬ nI (Fq (gA a) s).length < nI i from fun z => absurd ((nI_ltI (by omega) (by omega)).mp z) (by omega))]
        obtain ⟨S1, b1, f1, r1, r2, r3, r4⟩ := c_sweep hW hC hs (cnt := nI (Fq (gA a) s).length) (fun j e he => (h.2.2 j e he).1) e4 e5 (nI i) (fun x1 x2 x3 savedb => k (x1, x2, x3, savedb))
        rw [r1]
        refine ⟨(_, _, _, _), ⟨(nI_1 i).symm, S1, rfl, r2, r3, ?_⟩, rfl⟩
        rcases r4 with ⟨u1, u2, u3⟩ | ⟨u1, u2⟩
        · exact Or.inl ⟨u1, by rw [u2]; exact u3⟩
        · exact Or.inr ⟨u1, by omega⟩
  · rintro ⟨y1, y2, y3, c⟩ ⟨e1, S, e3, e4, e5, e6⟩ k
    dsimp only at e1 e3 e5 e6 ⊢
    subst e1 e3
    have hl := e4.len
    unfold fb_X4_allLeadToGoal_16
    rcases e6 with ⟨rfl, q1⟩ | ⟨rfl, q1⟩
    · rw [if_pos (show (0 : Int32) = 0 from rfl)]
      exact hend S c e4 (Or.inl q1)
    · omega
end SFC
