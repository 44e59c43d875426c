/-! make, goal, restart: class and reference side by side. -/
theorem nI_rng {p : Int32} {lo hi : Nat} (h1 : ¬ p < nI lo) (h2 : ¬ nI hi < p) (hl : lo < 2 ^ 31) (hh : hi < 2 ^ 31) : ∃ j, lo ≤ j ∧ j ≤ hi ∧ p = nI j := by
  have e1 : ¬ p.toInt < lo := fun z => h1 (Int32.lt_iff_toInt_lt.mpr (by rw [nI_toInt hl]; exact z))
  have e2 : ¬ (hi : Int) < p.toInt := fun z => h2 (Int32.lt_iff_toInt_lt.mpr (by rw [nI_toInt hh]; exact z))
  refine ⟨p.toInt.toNat, by omega, by omega, ?_⟩
  apply Int32.toInt_inj.mp
  rw [nI_toInt (by omega)]
  omega
/-- class and reference stand at the same adventure, in the same situation -/
def Ag (sit rooms goal : Int32) (parent level kind snum xx yy lying sw doors : Nat → Int32) (beyond : Nat → Nat → Int32) (mrooms mgoal now : Int32) (mp ml mk mn mx my mly msw mlo : Nat → Int32) : Prop :=
  ∃ (a : AV) (s : Nat), AdvW a ∧ AdvC a rooms goal parent level kind snum xx yy lying sw doors beyond ∧ AdvM a mrooms mgoal mp ml mk mn mx my mly msw mlo ∧ s < 1024 * aR a ∧ sit = nI (fi s) ∧ now = nI s
section MKA
variable {sit rooms goal : Int32} {parent level kind snum xx yy lying sw doors : Nat → Int32} {beyond : Nat → Nat → Int32}
variable {mrooms mgoal now : Int32} {mp ml mk mn mx my mly msw mlo : Nat → Int32}
theorem fi0 : fi 0 = 0 := rfl
theorem make_agree (h : Ag sit rooms goal parent level kind snum xx yy lying sw doors beyond mrooms mgoal now mp ml mk mn mx my mly msw mlo) (p0 : Int64) (p1 p2 p3 p4 : Int32) (levels all : Int32) (dst : Int64) (dcnt : Int32) (offered opn : Nat → Int32) (mst : Int64) (msd : Int32) (mch : Nat → Int32) :
    ∃ (r sit' rooms' levels' goal' all' : Int32) (dst' : Int64) (dcnt' : Int32) (parent' level' kind' snum' xx' yy' lying' sw' doors' : Nat → Int32) (beyond' : Nat → Nat → Int32) (offered' opn' : Nat → Int32) (mst' : Int64) (mrooms' msd' mgoal' now' : Int32) (mp' ml' mk' mn' mx' my' mly' msw' mlo' mch' : Nat → Int32),
      f_X6_make p0 p1 p2 p3 p4 sit rooms levels goal all dst dcnt parent level kind snum xx yy lying sw doors beyond offered opn = some (r, sit', rooms', levels', goal', all', dst', dcnt', parent', level', kind', snum', xx', yy', lying', sw', doors', beyond', offered', opn') ∧
      f_X7_make p0 p1 p2 p3 p4 mst mrooms msd mgoal now mp ml mk mn mx my mly msw mlo mch = some (r, mst', mrooms', msd', mgoal', now', mp', ml', mk', mn', mx', my', mly', msw', mlo', mch') ∧
      Ag sit' rooms' goal' parent' level' kind' snum' xx' yy' lying' sw' doors' beyond' mrooms' mgoal' now' mp' ml' mk' mn' mx' my' mly' msw' mlo' := by
  by_cases c1 : p1 < 2
  · unfold f_X6_make f_X7_make f_X6_isWithin
    rw [if_pos c1, bs, if_pos (show (0 : Int32) = 0 from rfl), if_pos c1]
    exact ⟨_, _, _, _, _, _, _, _, _, _, _, _, _, _, _, _, _, _, _, _, _, _, _, _, _, _, _, _, _, _, _, _, _, _, _, rfl, rfl, h⟩
  by_cases c2 : 12 < p1
  · unfold f_X6_make f_X7_make f_X6_isWithin
    rw [if_neg c1, if_pos c2, bs, if_pos (show (0 : Int32) = 0 from rfl), if_neg c1, if_pos c2]
    exact ⟨_, _, _, _, _, _, _, _, _, _, _, _, _, _, _, _, _, _, _, _, _, _, _, _, _, _, _, _, _, _, _, _, _, _, _, rfl, rfl, h⟩
  have w1 : f_X6_isWithin p1 2 12 = some 1 := by unfold f_X6_isWithin; rw [if_neg c1, if_neg c2]
  by_cases c3 : p2 < 1
  · unfold f_X6_make f_X7_make
    have w2 : f_X6_isWithin p2 1 3 = some 0 := by unfold f_X6_isWithin; rw [if_pos c3]
    rw [w1, bs, if_neg (show ¬ (1 : Int32) = 0 by decide), w2, bs, if_pos (show (0 : Int32) = 0 from rfl), if_neg c1, if_neg c2, if_pos c3]
    exact ⟨_, _, _, _, _, _, _, _, _, _, _, _, _, _, _, _, _, _, _, _, _, _, _, _, _, _, _, _, _, _, _, _, _, _, _, rfl, rfl, h⟩
  by_cases c4 : 3 < p2
  · unfold f_X6_make f_X7_make
    have w2 : f_X6_isWithin p2 1 3 = some 0 := by unfold f_X6_isWithin; rw [if_neg c3, if_pos c4]
    rw [w1, bs, if_neg (show ¬ (1 : Int32) = 0 by decide), w2, bs, if_pos (show (0 : Int32) = 0 from rfl), if_neg c1, if_neg c2, if_neg c3, if_pos c4]
    exact ⟨_, _, _, _, _, _, _, _, _, _, _, _, _, _, _, _, _, _, _, _, _, _, _, _, _, _, _, _, _, _, _, _, _, _, _, rfl, rfl, h⟩
  have w2 : f_X6_isWithin p2 1 3 = some 1 := by unfold f_X6_isWithin; rw [if_neg c3, if_neg c4]
  by_cases c5 : p1 ≤ p2
  · unfold f_X6_make f_X7_make
    rw [w1, bs, if_neg (show ¬ (1 : Int32) = 0 by decide), w2, bs, if_neg (show ¬ (1 : Int32) = 0 by decide), if_pos c5, if_neg c1, if_neg c2, if_neg c3, if_neg c4, if_pos c5]
    exact ⟨_, _, _, _, _, _, _, _, _, _, _, _, _, _, _, _, _, _, _, _, _, _, _, _, _, _, _, _, _, _, _, _, _, _, _, rfl, rfl, h⟩
  by_cases c6 : p3 < 0
  · unfold f_X6_make f_X7_make
    have w3 : f_X6_isWithin p3 0 3 = some 0 := by unfold f_X6_isWithin; rw [if_pos c6]
    rw [w1, bs, if_neg (show ¬ (1 : Int32) = 0 by decide), w2, bs, if_neg (show ¬ (1 : Int32) = 0 by decide), if_neg c5, w3, bs, if_pos (show (0 : Int32) = 0 from rfl), if_neg c1, if_neg c2, if_neg c3, if_neg c4, if_neg c5, if_pos c6]
    exact ⟨_, _, _, _, _, _, _, _, _, _, _, _, _, _, _, _, _, _, _, _, _, _, _, _, _, _, _, _, _, _, _, _, _, _, _, rfl, rfl, h⟩
  by_cases c7 : 3 < p3
  · unfold f_X6_make f_X7_make
    have w3 : f_X6_isWithin p3 0 3 = some 0 := by unfold f_X6_isWithin; rw [if_neg c6, if_pos c7]
    rw [w1, bs, if_neg (show ¬ (1 : Int32) = 0 by decide), w2, bs, if_neg (show ¬ (1 : Int32) = 0 by decide), if_neg c5, w3, bs, if_pos (show (0 : Int32) = 0 from rfl), if_neg c1, if_neg c2, if_neg c3, if_neg c4, if_neg c5, if_neg c6, if_pos c7]
    exact ⟨_, _, _, _, _, _, _, _, _, _, _, _, _, _, _, _, _, _, _, _, _, _, _, _, _, _, _, _, _, _, _, _, _, _, _, rfl, rfl, h⟩
  have w3 : f_X6_isWithin p3 0 3 = some 1 := by unfold f_X6_isWithin; rw [if_neg c6, if_neg c7]
  by_cases c8 : p4 < 0
  · unfold f_X6_make f_X7_make
    have w4 : f_X6_isWithin p4 0 2 = some 0 := by unfold f_X6_isWithin; rw [if_pos c8]
    rw [w1, bs, if_neg (show ¬ (1 : Int32) = 0 by decide), w2, bs, if_neg (show ¬ (1 : Int32) = 0 by decide), if_neg c5, w3, bs, if_neg (show ¬ (1 : Int32) = 0 by decide), w4, bs, if_pos (show (0 : Int32) = 0 from rfl), if_neg c1, if_neg c2, if_neg c3, if_neg c4, if_neg c5, if_neg c6, if_neg c7, if_pos c8]
    exact ⟨_, _, _, _, _, _, _, _, _, _, _, _, _, _, _, _, _, _, _, _, _, _, _, _, _, _, _, _, _, _, _, _, _, _, _, rfl, rfl, h⟩
  by_cases c9 : 2 < p4
  · unfold f_X6_make f_X7_make
    have w4 : f_X6_isWithin p4 0 2 = some 0 := by unfold f_X6_isWithin; rw [if_neg c8, if_pos c9]
    rw [w1, bs, if_neg (show ¬ (1 : Int32) = 0 by decide), w2, bs, if_neg (show ¬ (1 : Int32) = 0 by decide), if_neg c5, w3, bs, if_neg (show ¬ (1 : Int32) = 0 by decide), w4, bs, if_pos (show (0 : Int32) = 0 from rfl), if_neg c1, if_neg c2, if_neg c3, if_neg c4, if_neg c5, if_neg c6, if_neg c7, if_neg c8, if_neg (show ¬ p4 ≤ 2 from fun z => Int32.not_le.mpr c9 z)]
    exact ⟨_, _, _, _, _, _, _, _, _, _, _, _, _, _, _, _, _, _, _, _, _, _, _, _, _, _, _, _, _, _, _, _, _, _, _, rfl, rfl, h⟩
  have w4 : f_X6_isWithin p4 0 2 = some 1 := by unfold f_X6_isWithin; rw [if_neg c8, if_neg c9]
  obtain ⟨R, hR2, hR, rfl⟩ := nI_rng (lo := 2) (hi := 12) c1 c2 (by omega) (by omega)
  obtain ⟨K, hK1, hK, rfl⟩ := nI_rng (lo := 1) (hi := 3) c3 c4 (by omega) (by omega)
  obtain ⟨n, _, hn, rfl⟩ := nI_rng (lo := 0) (hi := 3) c6 c7 (by omega) (by omega)
  obtain ⟨b, _, hb, rfl⟩ := nI_rng (lo := 0) (hi := 2) c8 c9 (by omega) (by omega)
  have hKR : K < R := Nat.lt_of_not_le (fun z => c5 (nI_le z (by omega)))
  obtain ⟨d', n', q1, q2, q3, q4, q5, q6, q7, q8, q9, q10, q11, q12, e1, e2⟩ := c_build p0 hR2 hR hK1 hK hKR hn hb rooms levels goal all dst dcnt parent level kind snum xx yy lying sw doors beyond offered opn
  obtain ⟨st', sdc', u1, u2, u3, u4, u5, u6, u7, u8, u9, u10, e3, e4⟩ := m_make p0 hR2 hR hK1 hK hKR hn hb mst mrooms msd mgoal now mp ml mk mn mx my mly msw mlo mch
  have hw := mkA_wf p0 hR2 hR hK1 hK hKR hn hb
  have ha : aR (mkA p0 R K n b).1 = R := by
    refine ((nI_eq (by omega) (by have := hw.2.1; omega)).mp e2.1).symm
  unfold f_X6_make
  rw [w1, bs, if_neg (show ¬ (1 : Int32) = 0 by decide), w2, bs, if_neg (show ¬ (1 : Int32) = 0 by decide), if_neg c5, w3, bs, if_neg (show ¬ (1 : Int32) = 0 by decide), w4, bs, if_neg (show ¬ (1 : Int32) = 0 by decide), e1, bs, e3]
  exact ⟨_, _, _, _, _, _, _, _, _, _, _, _, _, _, _, _, _, _, _, _, _, _, _, _, _, _, _, _, _, _, _, _, _, _, _, rfl, rfl, (mkA p0 R K n b).1, 0, hw, e2, e4, by omega, rfl, rfl⟩
end MKA
