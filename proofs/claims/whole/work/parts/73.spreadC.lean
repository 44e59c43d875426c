/-! The class's spreading. -/
section SPC
variable {a : AV} {rooms goal : Int32} {parent level kind snum xx yy lying sw doors : Nat → Int32} {beyond : Nat → Nat → Int32}
theorem exq_app (l l' : List (Nat × Option Nat)) (f : En) (Q : List En) : exq (l ++ l') f Q = exq l' f (exq l f Q) := List.foldl_append
theorem exq_one (x : Nat × Option Nat) (f : En) (Q : List En) : exq [x] f Q = rch Q (f.2.1 + 1) (ow f x.1) x.2 := rfl
theorem dl_suc (a : AV) (s i : Nat) : (List.range (i + 1)).map (fun i => (i, gW a s i)) = (List.range i).map (fun i => (i, gW a s i)) ++ [(i, gW a s i)] := by
  rw [List.range_succ, List.map_append]; rfl
theorem c_aG (hW : AdvW a) {s : Nat} (hs : s < 1024 * aR a) (hS : Rp (aR a) sw (aSw a)) : ∃ v, f_X0_afterToggling (nI (fi s)) sw = some v ∧ (gG a s = none → v < 0) ∧ (∀ u, gG a s = some u → v = nI (fi u)) := by
  refine ⟨_, c_afterToggling hW hs hS, fun y => by rw [y]; decide, fun u y => by rw [y]⟩
theorem c_aW (hW : AdvW a) {s i : Nat} (hs : s < 1024 * aR a) (hi : i < (nbA a (s / 1024)).length) (hP : Rq (aR a) parent (aPar a)) (hL : Rp (aR a) level (aLev a)) (hD : Rp (aR a) kind (aKnd a)) (hN : ∀ q, q < aR a → aKnd a q = 2 → snum q = nI (aNum a q)) (hB : Nb doors beyond (Lm (aPar a) (aR a) (aM a))) :
    ∃ v, f_X0_afterWalking (nI (fi s)) (nI i) (nI (aR a)) parent level kind snum doors beyond = some v ∧ (gW a s i = none → v < 0) ∧ (∀ u, gW a s i = some u → v = nI (fi u)) := by
  refine ⟨_, c_afterWalking hW hs hi hP hL hD hN hB, fun y => by rw [y]; decide, fun u y => by rw [y]⟩
theorem c_goOn (hW : AdvW a) (hC : AdvC a rooms goal parent level kind snum xx yy lying sw doors beyond) {Q : List En} {f : En} {p : Nat} {cnt : Int32} {sb : Nat → Int64} {fo di op : Nat → Int32} (h : CQ Q cnt sb fo di op) (hk : QK (1024 * aR a) Q) (hp : Q[p]? = some f) (hz : p = 0 ↔ f.2.1 = 0) :
    ∃ c' s' f' d' o', f_X4_goOn (nI p) rooms cnt parent level kind snum lying sw doors beyond sb fo di op = some (c', s', f', d', o') ∧ CQ (exq (gA a f.1) f Q) c' s' f' d' o' := by
  have h2 := hW.2.1
  have hcl := fun (r : Nat) (hr : r < aR a) => cls_len hW hC hr
  obtain ⟨c1, c2, c3, c4, c5, c6, c7, c8, c9, c10, c11⟩ := hC
  subst c1
  obtain ⟨hpl, hpe⟩ := List.getElem?_eq_some_iff.mp hp
  have hl := ql_len hk.1 hk.2
  have hfB : f.1 < 1024 * aR a := hk.2 f (by rw [← hpe]; exact List.getElem_mem hpl)
  have hr : f.1 / 1024 < aR a := by omega
  have hlen := nb_lt hW hr
  unfold f_X4_goOn
  rw [gd_in (show p < 12288 by omega) (by omega), cl (show p < 2 ^ 31 by omega), (h.2.2 p f hp).1, c_roomOf (by omega), bs, gd_in (show f.1 / 1024 < 12 by omega) (by omega), cl (by omega), hcl _ hr]
  unfold f_X4_goOn_23
  refine lp_for0 (σ := Int32 × Int32 × Int32 × Int32 × Int32 × (Nat → Int64) × (Nat → Int32) × (Nat → Int32) × (Nat → Int32)) (fun r => ∃ c' s' f' d' o', r = some (c', s', f', d', o') ∧ CQ (exq (gA a f.1) f Q) c' s' f' d' o') (nbA a (f.1 / 1024)).length (by omega)
    (fun i s => nI p = s.1 ∧ nI (fi f.1) = s.2.1 ∧ nI (nbA a (f.1 / 1024)).length = s.2.2.1 ∧ nI i = s.2.2.2.1 ∧ CQ (exq ((List.range i).map (fun i => (i, gW a f.1 i))) f Q) s.2.2.2.2.1 s.2.2.2.2.2.1 s.2.2.2.2.2.2.1 s.2.2.2.2.2.2.2.1 s.2.2.2.2.2.2.2.2 ∧ QK (1024 * aR a) (exq ((List.range i).map (fun i => (i, gW a f.1 i))) f Q)) ⟨rfl, rfl, rfl, rfl, h, hk⟩ ?_ ?_
  · rintro i ⟨x1, x2, x3, x4, cn, sb1, fo1, di1, op1⟩ hi ⟨e1, e2, e3, e4, e5, e6⟩ k
    dsimp only at e1 e2 e3 e4 e5 ⊢
    subst e1 e2 e3 e4
    left
    unfold fb_X4_goOn_23
    obtain ⟨v, v1, v2, v3⟩ := c_aW hW hfB hi c3 c4 c5 c6 c11
    rw [if_neg (nI_ge hi (by omega)), v1, bs]
    have hb : ∀ u, gW a f.1 i = some u → u < 1024 * aR a := fun u hu => gW_lt hW hfB hi hu
    obtain ⟨c', s', f', d', o', r1, r2⟩ := c_reach (f := f) (p := p) (o := i) (t := gW a f.1 i) e5 ⟨e6.1, fun e he => by have := e6.2 e he; omega⟩ (pre_get (exq_pre _ _) hp) hz (fun u hu => by have := hb u hu; omega) v v2 v3
    rw [r1, bs]
    refine ⟨(_, _, _, _, _, _, _, _, _), ⟨rfl, rfl, rfl, (nI_1 i).symm, ?_, ?_⟩, rfl⟩
    · rw [dl_suc, exq_app, exq_one]; exact r2
    · rw [dl_suc, exq_app, exq_one]; exact e6.rch hb
  · rintro ⟨x1, x2, x3, x4, cn, sb1, fo1, di1, op1⟩ ⟨e1, e2, e3, e4, e5, e6⟩ k
    dsimp only at e1 e2 e3 e4 e5 ⊢
    subst e1 e2 e3 e4
    unfold fb_X4_goOn_23
    rw [if_pos (nI_le (Nat.le_refl _) (by omega)), c_afterTaking hW hfB c9, bs]
    have hb1 : ∀ u, (some (gT a f.1) : Option Nat) = some u → u < 1024 * aR a := fun u hu => by cases hu; exact gT_lt hW hfB
    have hb2 : ∀ u, gG a f.1 = some u → u < 1024 * aR a := fun u hu => gG_lt hfB hu
    obtain ⟨c', s', f', d', o', r1, r2⟩ := c_reach (f := f) (p := p) (o := 100) (t := some (gT a f.1)) e5 ⟨e6.1, fun e he => by have := e6.2 e he; omega⟩ (pre_get (exq_pre _ _) hp) hz (fun u hu => by have := hb1 u hu; omega) (nI (fi (gT a f.1))) (fun y => by cases y) (fun u y => by cases y; rfl)
    obtain ⟨v, v1, v2, v3⟩ := c_aG hW hfB c10
    rw [show (100 : Int32) = nI 100 from rfl, r1, bs, v1, bs]
    have e7 := e6.rch (d := f.2.1 + 1) (o := ow f 100) hb1
    obtain ⟨c2', s2', f2', d2', o2', r3, r4⟩ := c_reach (f := f) (p := p) (o := 200) (t := gG a f.1) r2 ⟨e7.1, fun e he => by have := e7.2 e he; omega⟩ (pre_get (rch_pre _ _ _ _) (pre_get (exq_pre _ _) hp)) hz (fun u hu => by have := hb2 u hu; omega) v v2 v3
    dsimp only
    rw [show (200 : Int32) = nI 200 from rfl, r3, bs]
    refine ⟨_, _, _, _, _, rfl, ?_⟩
    rw [gA_of hfB, exq_app]
    exact r4
theorem c_begin {s : Nat} (hs : s < 12288) (cnt : Int32) (sb : Nat → Int64) (fo di op : Nat → Int32) : ∃ s' f' d', f_X4_begin (nI (fi s)) cnt sb fo di = some (1, s', f', d') ∧ CQ [(s, 0, 0)] 1 s' f' d' op := by
  have hf := fi_lt (R := 12) (show s < 1024 * 12 by omega)
  obtain ⟨b1, e1, e2⟩ := c_clear_seen sb
  obtain ⟨b2, e3, e4⟩ := c_add_seen e2 (n := fi s) (by omega)
  unfold f_X4_begin
  rw [e1, bs, e3, bs, gd_neg (show ¬ ((0 : Int32) < 0 ∨ 12288 ≤ (0 : Int32).toNatClampNeg) by decide), gd_neg (show ¬ ((0 : Int32) < 0 ∨ 12288 ≤ (0 : Int32).toNatClampNeg) by decide)]
  refine ⟨_, _, _, rfl, rfl, fun n hn => ?_, fun j e he => ?_⟩
  · rw [e4 n hn]
    constructor
    · rintro (y | y)
      · exact y.elim
      · exact ⟨(s, 0, 0), List.mem_singleton.mpr rfl, y.symm⟩
    · rintro ⟨e, he, y⟩
      rw [List.mem_singleton.mp he] at y
      exact Or.inr y.symm
  · cases j with
    | zero => cases he; exact ⟨upd_s, upd_s, fun z => by omega⟩
    | succ j => cases he
theorem c_findAll (hW : AdvW a) (hC : AdvC a rooms goal parent level kind snum xx yy lying sw doors beyond) {s : Nat} (hs : s < 1024 * aR a) (cnt : Int32) (sb : Nat → Int64) (fo di op : Nat → Int32) :
    ∃ c' s' f' d' o', f_X4_findAll (nI (fi s)) rooms cnt parent level kind snum lying sw doors beyond sb fo di op = some (c', s', f', d', o') ∧ CQ (Fq (gA a) s) c' s' f' d' o' := by
  have h2 := hW.2.1
  obtain ⟨b', f', d', e1, e2⟩ := c_begin (show s < 12288 by omega) cnt sb fo di op
  unfold f_X4_findAll
  rw [e1, bs]
  unfold f_X4_findAll_7
  refine lp_for0 (σ := Int32 × Int32 × (Nat → Int64) × (Nat → Int32) × (Nat → Int32) × (Nat → Int32)) (fun r => ∃ c' s' f' d' o', r = some (c', s', f', d', o') ∧ CQ (Fq (gA a) s) c' s' f' d' o') 12288 (by omega)
    (fun i st => nI i = st.1 ∧ CQ (bf (gA a) s i) st.2.1 st.2.2.1 st.2.2.2.1 st.2.2.2.2.1 st.2.2.2.2.2) ⟨rfl, e2⟩ ?_ ?_
  · rintro i ⟨x1, cn, sb1, fo1, di1, op1⟩ hi ⟨e1, e5⟩ k
    dsimp only at e1 e5 ⊢
    subst e1
    have hl := bf_len (gA_b hW) hs i
    unfold fb_X4_findAll_7
    rw [e5.1]
    rcases Nat.lt_or_ge i (bf (gA a) s i).length with c | c
    · left
      rw [if_neg (nI_ge c (by omega)), if_neg (show ¬ (12288 : Int32) ≤ nI i from nI_ge (b := 12288) hi (by omega))]
      have hf : (bf (gA a) s i)[i]? = some ((bf (gA a) s i)[i]) := List.getElem?_eq_getElem c
      obtain ⟨c', s', f', d', o', r1, r2⟩ := c_goOn hW hC (by rw [e5.1] at e5; exact e5) ⟨bf_nd _ _ _, bf_in (gA_b hW) hs i⟩ hf (bf_dz _ _ _ i _ hf)
      rw [r1, bs]
      refine ⟨(_, _, _, _, _, _), ⟨(nI_1 i).symm, ?_⟩, rfl⟩
      dsimp only
      rw [bf_some hf]
      exact r2
    · right
      rw [if_pos (nI_le c (by omega))]
      refine ⟨_, _, _, _, _, rfl, ?_⟩
      rw [Fq_of (by omega) c, ← e5.1]
      exact e5
  · rintro ⟨x1, cn, sb1, fo1, di1, op1⟩ ⟨e1, e5⟩ k
    dsimp only at e1 e5 ⊢
    subst e1
    have hl := bf_len (gA_b hW) hs 12288
    unfold fb_X4_findAll_7
    rw [if_pos (show cn ≤ nI 12288 by rw [e5.1]; exact nI_le (by omega) (by omega))]
    exact ⟨_, _, _, _, _, rfl, e5⟩
def gl (a : AV) (t : Nat) : Bool := decide (t / 1024 = aG a)
theorem c_isAtGoal (hW : AdvW a) (hg : goal = nI (aG a)) {t : Nat} (ht : t < 12288) : f_X4_isAtGoal (nI (fi t)) goal = some (if gl a t = true then 1 else 0) := by
  unfold f_X4_isAtGoal gl
  have h3 := hW.2.2.1
  have h2 := hW.2.1
  rw [c_roomOf ht, bs, hg]
  by_cases c : t / 1024 = aG a
  · rw [if_pos (by rw [c]), if_pos (decide_eq_true c)]
  · rw [if_neg (fun y => c ((nI_eq (by omega) (by omega)).mp y)), if_neg (by rw [decide_eq_true_iff]; exact c)]
theorem find_at {Q : List En} {p : En → Bool} {i : Nat} {f : En} (h1 : ∀ (j : Nat) (e : En), j < i → Q[j]? = some e → p e = false) (h2 : Q[i]? = some f) (h3 : p f = true) : Q.find? p = some f := by
  induction Q generalizing i with
  | nil => cases h2
  | cons x Q ih =>
    cases i with
    | zero =>
      cases h2
      rw [List.find?_cons, h3]
    | succ i =>
      rw [List.find?_cons, h1 0 x (by omega) rfl]
      exact ih (i := i) (fun j e hj he => h1 (j + 1) e (by omega) (by simpa using he)) (by simpa using h2)
theorem find_no {Q : List En} {p : En → Bool} (h1 : ∀ (j : Nat) (e : En), j < Q.length → Q[j]? = some e → p e = false) : Q.find? p = none := by
  refine List.find?_eq_none.mpr (fun e he y => ?_)
  obtain ⟨j, hj, h2⟩ := List.mem_iff_getElem.mp he
  rw [h1 j e hj (by rw [List.getElem?_eq_getElem hj, h2])] at y
  cases y
theorem c_findGoal (hW : AdvW a) (hC : AdvC a rooms goal parent level kind snum xx yy lying sw doors beyond) {s : Nat} (hs : s < 1024 * aR a) (cnt : Int32) (sb : Nat → Int64) (fo di op : Nat → Int32) :
    ∃ r c' s' f' d' o', f_X4_findGoal (nI (fi s)) rooms goal cnt parent level kind snum lying sw doors beyond sb fo di op = some (r, c', s', f', d', o') ∧
      (((Fq (gA a) s).find? (fun e => gl a e.1) = none ∧ r = -3) ∨ ∃ (n : Nat) (e : En), (Fq (gA a) s).find? (fun e => gl a e.1) = some e ∧ n < 12288 ∧ r = nI n ∧ (n = 0 ↔ e.2.1 = 0) ∧ d' n = nI e.2.1 ∧ (0 < n → o' n = nI e.2.2)) := by
  have h2 := hW.2.1
  obtain ⟨b', f', d', e1, e2⟩ := c_begin (show s < 12288 by omega) cnt sb fo di op
  unfold f_X4_findGoal
  rw [e1, bs]
  unfold f_X4_findGoal_7
  refine lp_for0 (σ := Int32 × Int32 × (Nat → Int64) × (Nat → Int32) × (Nat → Int32) × (Nat → Int32)) (fun q => ∃ (r c' : Int32) (s' : Nat → Int64) (f' d' o' : Nat → Int32), q = some (r, c', s', f', d', o') ∧
      (((Fq (gA a) s).find? (fun e => gl a e.1) = none ∧ r = -3) ∨ ∃ (n : Nat) (e : En), (Fq (gA a) s).find? (fun e => gl a e.1) = some e ∧ n < 12288 ∧ r = nI n ∧ (n = 0 ↔ e.2.1 = 0) ∧ d' n = nI e.2.1 ∧ (0 < n → o' n = nI e.2.2))) 12288 (by omega)
    (fun i st => nI i = st.1 ∧ CQ (bf (gA a) s i) st.2.1 st.2.2.1 st.2.2.2.1 st.2.2.2.2.1 st.2.2.2.2.2 ∧ ∀ (j : Nat) (e : En), j < i → (bf (gA a) s i)[j]? = some e → gl a e.1 = false) ⟨rfl, e2, fun j e hj => by omega⟩ ?_ ?_
  · rintro i ⟨x1, cn, sb1, fo1, di1, op1⟩ hi ⟨e1, e5, e6⟩ k
    dsimp only at e1 e5 ⊢
    subst e1
    have hl := bf_len (gA_b hW) hs i
    unfold fb_X4_findGoal_7
    rw [e5.1]
    rcases Nat.lt_or_ge i (bf (gA a) s i).length with c | c
    · rw [if_neg (nI_ge c (by omega)), if_neg (show ¬ (12288 : Int32) ≤ nI i from nI_ge (b := 12288) hi (by omega))]
      have hf : (bf (gA a) s i)[i]? = some ((bf (gA a) s i)[i]) := List.getElem?_eq_getElem c
      have hfm := bf_in (gA_b hW) hs i _ (List.getElem_mem c)
      rw [gd_in (show i < 12288 by omega) (by omega), cl (by omega), (e5.2.2 i _ hf).1, c_isAtGoal hW hC.2.1 (by omega), bs]
      cases hg : gl a (bf (gA a) s i)[i].1 with
      | true =>
        right
        rw [if_pos (show true = true from rfl), if_neg (show ¬ (1 : Int32) = 0 by decide)]
        refine ⟨_, _, _, _, _, _, rfl, Or.inr ⟨i, (bf (gA a) s i)[i], ?_, hi, rfl, bf_dz _ _ _ i _ hf, (e5.2.2 i _ hf).2.1, (e5.2.2 i _ hf).2.2⟩⟩
        refine find_at (i := i) (fun j e hj he => ?_) (pre_get (Fq_pre (by omega)) hf) hg
        have h7 : (bf (gA a) s i)[j]? = some (bf (gA a) s i)[j] := List.getElem?_eq_getElem (by omega)
        have h8 := pre_get (Fq_pre (by omega)) h7
        rw [h8] at he
        cases he
        exact e6 j _ hj h7
      | false =>
        left
        rw [if_neg (show ¬ false = true by decide), if_pos (show (0 : Int32) = 0 from rfl)]
        obtain ⟨c', s', f', d', o', r1, r2⟩ := c_goOn hW hC (by rw [e5.1] at e5; exact e5) ⟨bf_nd _ _ _, bf_in (gA_b hW) hs i⟩ hf (bf_dz _ _ _ i _ hf)
        rw [r1, bs]
        refine ⟨(_, _, _, _, _, _), ⟨(nI_1 i).symm, ?_, fun j e hj he => ?_⟩, rfl⟩
        · dsimp only
          rw [bf_some hf]
          exact r2
        · have h7 : (bf (gA a) s i)[j]? = some (bf (gA a) s i)[j] := List.getElem?_eq_getElem (by omega)
          have h8 := pre_get (bf_pre1 _ _ _) h7
          rw [h8] at he
          cases he
          by_cases z : j = i
          · subst z; exact hg
          · exact e6 j _ (by omega) h7
    · right
      rw [if_pos (nI_le c (by omega))]
      refine ⟨_, _, _, _, _, _, rfl, Or.inl ⟨?_, rfl⟩⟩
      rw [Fq_of (by omega) c]
      exact find_no (fun j e hj he => e6 j e (by omega) he)
  · rintro ⟨x1, cn, sb1, fo1, di1, op1⟩ ⟨e1, e5, e6⟩ k
    dsimp only at e1 e5 ⊢
    subst e1
    have hl := bf_len (gA_b hW) hs 12288
    unfold fb_X4_findGoal_7
    rw [if_pos (show cn ≤ nI 12288 by rw [e5.1]; exact nI_le (by omega) (by omega))]
    refine ⟨_, _, _, _, _, _, rfl, Or.inl ⟨?_, rfl⟩⟩
    exact find_no (fun j e hj he => e6 j e (by have : (Fq (gA a) s).length ≤ 1024 * aR a := hl; omega) he)
end SPC
