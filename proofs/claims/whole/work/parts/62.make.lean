/-! make: class and reference make the same adventure. -/
/-- an adventure: rooms and goal; parent, level, kind, number of a small door, what lies there, switch; places; loops -/
abbrev AV : Type := (Nat × Nat) × (Nat → Nat → Nat) × (Nat → Int) × (Nat → Int) × (Nat → Nat → Bool)
abbrev aR (a : AV) : Nat := a.1.1
abbrev aG (a : AV) : Nat := a.1.2
abbrev aPar (a : AV) : Nat → Nat := a.2.1 0
abbrev aLev (a : AV) : Nat → Nat := a.2.1 1
abbrev aKnd (a : AV) : Nat → Nat := a.2.1 2
abbrev aNum (a : AV) : Nat → Nat := a.2.1 3
abbrev aLy (a : AV) : Nat → Nat := a.2.1 4
abbrev aSw (a : AV) : Nat → Nat := a.2.1 5
abbrev aX (a : AV) : Nat → Int := a.2.2.1
abbrev aY (a : AV) : Nat → Int := a.2.2.2.1
abbrev aM (a : AV) : Nat → Nat → Bool := a.2.2.2.2
def AdvW (a : AV) : Prop := 1 ≤ aR a ∧ aR a ≤ 12 ∧ aG a < aR a ∧ (∀ q, 1 ≤ q → q < aR a → aPar a q < q) ∧ (∀ q, q < aR a → aLev a q ≤ 3) ∧ (∀ q, q < aR a → aKnd a q ≤ 4) ∧ aKnd a 0 = 0 ∧ (∀ q, q < aR a → aKnd a q = 1 → 1 ≤ aLev a q) ∧
  (∀ q, q < aR a → aKnd a q = 2 → aNum a q < 3) ∧ (∀ q, aLy a q < 64) ∧ (∀ q, aSw a q ≤ 1) ∧ (∀ x y, aM a x y = true → aM a y x = true ∧ x ≠ y ∧ (x < aR a ∧ y < aR a) ∧ ¬ fam (aPar a) x y)
def AdvC (a : AV) (rooms goal : Int32) (parent level kind snum xx yy lying sw doors : Nat → Int32) (beyond : Nat → Nat → Int32) : Prop :=
  rooms = nI (aR a) ∧ goal = nI (aG a) ∧ Rq (aR a) parent (aPar a) ∧ Rp (aR a) level (aLev a) ∧ Rp (aR a) kind (aKnd a) ∧ (∀ q, q < aR a → aKnd a q = 2 → snum q = nI (aNum a q)) ∧ Xp (aR a) xx (aX a) ∧ Xp (aR a) yy (aY a) ∧ Rp (aR a) lying (aLy a) ∧ Rp (aR a) sw (aSw a) ∧ Nb doors beyond (Lm (aPar a) (aR a) (aM a))
def AdvM (a : AV) (rooms goal : Int32) (parent level kind num mx my lying sw loop : Nat → Int32) : Prop :=
  rooms = nI (aR a) ∧ goal = nI (aG a) ∧ Rq (aR a) parent (aPar a) ∧ Rp (aR a) level (aLev a) ∧ Rp (aR a) kind (aKnd a) ∧ (∀ q, q < aR a → aKnd a q = 2 → num q = nI (aNum a q)) ∧ Xp (aR a) mx (aX a) ∧ Xp (aR a) my (aY a) ∧ Rp (aR a) lying (aLy a) ∧ Rp (aR a) sw (aSw a) ∧ ML loop (aM a)
def mkA (seed : Int64) (R K n b : Nat) : AV × Nat :=
  let S := rmN R K seed (R - 1)
  let ky := kyN R S.2.2.2.1 S.2.1 K
  let sd := sdN R ky.1 S.2.2.2.2 n
  let sk := skN (opnL R S.2.2.1 S.2.2.2.1 sd.2.2.1) (sd.1, ky.2) sd.2.1
  let ba := baN R S.2.2.1 sk.1 sd.2.2.1 b
  let pl := plN S.2.2.1 (nx ba.1) (R - 1)
  let lo := loN (fitB S.2.2.1 S.2.2.2.1 pl.2.1 pl.2.2) pl.1 (R - 1)
  (((R, pick ba.1 (cand R (fun q => S.2.2.2.1 q == K))), fun i => if i = 0 then S.2.2.1 else if i = 1 then S.2.2.2.1 else if i = 2 then ba.2.1 else if i = 3 then sd.2.2.2 else if i = 4 then sk.2 else ba.2.2, pl.2.1, pl.2.2, lo.2.1), R - 1 + lo.2.2)
/-- all that the parts of make need of each other -/
theorem mk_facts {R K n b : Nat} (seed : Int64) (hR2 : 2 ≤ R) (hR : R ≤ 12) (hK1 : 1 ≤ K) (hK : K ≤ 3) (hKR : K < R) (hn : n ≤ 3) (hb : b ≤ 2) {S : RS} (hS : rmN R K seed (R - 1) = S) :
    (∀ q, 1 ≤ q → q < R → S.2.2.1 q < q) ∧ (∀ q, q < R → S.2.2.2.1 q ≤ 3) ∧ S.2.2.2.1 0 = 0 ∧ (∀ q, 1 ≤ q → q < R → S.2.2.2.1 q = 0 → S.2.2.2.1 (S.2.2.1 q) = 0) ∧ (∀ q, q < R → S.2.2.2.2 q = 0 ∨ (S.2.2.2.2 q = 1 ∧ 1 ≤ S.2.2.2.1 q)) ∧ S.2.2.2.2 0 = 0 ∧ cand R (fun q => S.2.2.2.1 q == K) ≠ [] := by
  have h := rmN_wf hKR seed (R - 1) (by omega)
  rw [hS] at h
  obtain ⟨a1, a2, a3, a4, ⟨q0, b1, b2⟩, a6, a7, a8, a9⟩ := h
  have hK' : S.1 = K := by omega
  refine ⟨fun q x y => a3 q x (by omega), fun q x => by have := a4 q (by omega); omega, a6, fun q x y => a7 q x (by omega), fun q x => a8 q (by omega), a9, ?_⟩
  exact cand_ne (q := q0) (by omega) (by simp [b2, hK'])
theorem mkA_wf {R K n b : Nat} (seed : Int64) (hR2 : 2 ≤ R) (hR : R ≤ 12) (hK1 : 1 ≤ K) (hK : K ≤ 3) (hKR : K < R) (hn : n ≤ 3) (hb : b ≤ 2) : AdvW (mkA seed R K n b).1 := by
  obtain ⟨f1, f2, f3, f4, f5, f6, f7⟩ := mk_facts seed hR2 hR hK1 hK hKR hn hb rfl
  unfold mkA
  generalize rmN R K seed (R - 1) = S at *
  dsimp only
  generalize hky : kyN R S.2.2.2.1 S.2.1 K = ky
  have hsd := sdN_wf (R := R) (st := ky.1) (knd := S.2.2.2.2) (fun q hq => by have := f5 q hq; omega) n
  generalize sdN R ky.1 S.2.2.2.2 n = sd at hsd
  have hylt : ∀ q, ky.2 q < 64 := fun q => by
    have := kyN_lt (R := R) (lev := S.2.2.2.1) (st := S.2.1) K hK q
    rw [hky] at this
    omega
  have hsk := skN_lt (l := opnL R S.2.2.1 S.2.2.2.1 sd.2.2.1) (S := (sd.1, ky.2)) hylt sd.2.1 (Nat.le_trans hsd.1 hn)
  generalize skN (opnL R S.2.2.1 S.2.2.2.1 sd.2.2.1) (sd.1, ky.2) sd.2.1 = sk at hsk
  have hba := baN_wf (R := R) (par := S.2.2.1) (st := sk.1) (knd := sd.2.2.1) b
  generalize baN R S.2.2.1 sk.1 sd.2.2.1 b = ba at hba
  generalize plN S.2.2.1 (nx ba.1) (R - 1) = pl
  have hlo := loN_wf (lev := S.2.2.2.1) (X := pl.2.1) (Y := pl.2.2) f1 pl.1 (R - 1) (by omega)
  have hsl := hsd.lt (fun q hq => by have := f5 q hq; omega)
  have hbl := hba.lt hsl
  refine ⟨by show 1 ≤ R; omega, hR, (cand_mem.mp (pick_mem f7)).1, f1, f2, hbl, ?_, ?_, ?_, hsk, hba.2, ?_⟩
  · show ba.2.1 0 = 0
    rcases hba.1 0 with z | z
    · rcases hsd.2 0 with y | y
      · rw [z, y]; exact f6
      · omega
    · omega
  · intro q hq e
    have e' : ba.2.1 q = 1 := e
    show 1 ≤ S.2.2.2.1 q
    rcases hba.1 q with z | z
    · rcases hsd.2 q with y | y
      · have := f5 q hq; omega
      · omega
    · omega
  · intro q hq e
    have e' : ba.2.1 q = 2 := e
    show sd.2.2.2 q < 3
    rcases hba.1 q with z | z
    · rcases hsd.2 q with y | y
      · have := f5 q hq; omega
      · have := hsd.1; omega
    · omega
  · intro x y e
    obtain ⟨g1, g2, g3, g4⟩ := hlo x y e
    exact ⟨g1, g2, by show x < R ∧ y < R; omega, g4⟩
theorem c_build {R K n b : Nat} (seed : Int64) (hR2 : 2 ≤ R) (hR : R ≤ 12) (hK1 : 1 ≤ K) (hK : K ≤ 3) (hKR : K < R) (hn : n ≤ 3) (hb : b ≤ 2) (rooms levels goal all : Int32) (st : Int64) (cnt : Int32) (parent level kind snum xx yy lying sw doors : Nat → Int32) (beyond : Nat → Nat → Int32) (offered opn : Nat → Int32) :
    ∃ st' cnt' parent' level' kind' snum' xx' yy' lying' sw' doors' beyond' offered' opn',
      f_X2_build seed (nI R) (nI K) (nI n) (nI b) rooms levels goal all st cnt parent level kind snum xx yy lying sw doors beyond offered opn = some (nI R, nI K, nI (aG (mkA seed R K n b).1), nI (mkA seed R K n b).2, st', cnt', parent', level', kind', snum', xx', yy', lying', sw', doors', beyond', offered', opn') ∧
      AdvC (mkA seed R K n b).1 (nI R) (nI (aG (mkA seed R K n b).1)) parent' level' kind' snum' xx' yy' lying' sw' doors' beyond' := by
  obtain ⟨f1, f2, f3, f4, f5, f6, f7⟩ := mk_facts seed hR2 hR hK1 hK hKR hn hb rfl
  have hlb : ∀ q, q < R → (rmN R K seed (R - 1)).2.2.2.1 q < 100 := fun q hq => by have := f2 q hq; omega
  have hk1 : ∀ q, q < R → (rmN R K seed (R - 1)).2.2.2.2 q ≤ 1 := fun q hq => by have := f5 q hq; omega
  unfold f_X2_build f_X1_begin mkA
  rw [bs]
  obtain ⟨l0, s0, d0, g0, z1, z2, z3⟩ := c_clear all lying sw doors
  rw [g0, bs]
  obtain ⟨c1, o1, p1, l1, k1, g1, hC⟩ := c_addRooms hR (by omega) hK hKR seed cnt parent level kind offered
  rw [g1, bs]
  generalize rmN R K seed (R - 1) = S at *
  obtain ⟨hP, hL, hD⟩ := hC
  obtain ⟨c2, o2, ly2, g2, hY⟩ := c_layKeys (st := S.2.1) (cnt := c1) (off := o1) hR (by omega) hK hL hlb f3 z1
  rw [g2, bs]
  have hylt := kyN_lt (R := R) (lev := S.2.2.2.1) (st := S.2.1) K hK
  dsimp only
  generalize kyN R S.2.2.2.1 S.2.1 K = ky at *
  obtain ⟨c3, o3, k3, n3, g3, hSd⟩ := c_makeSmallDoors (n := n) (st := ky.1) (cnt := c2) (snum := snum) (off := o2) hR (by omega) hn hD hk1
  rw [g3, bs]
  have hsd := sdN_wf (R := R) (st := ky.1) (knd := S.2.2.2.2) hk1 n
  generalize sdN R ky.1 S.2.2.2.2 n = sd at *
  have hsl := hsd.lt hk1
  obtain ⟨c4, o4, ly4, n4, g4, hY4⟩ := c_laySmallKeys (n := sd.2.1) (st := sd.1) (cnt := c3) (off := o3) (opn := opn) hR (by omega) (Nat.le_trans hsd.1 hn) hP hL hSd.1 f1 f3 f4 hlb (fun q hq => by have := hsl q hq; omega) hY hylt
  rw [g4, bs]
  generalize skN (opnL R S.2.2.1 S.2.2.2.1 sd.2.2.1) (sd.1, ky.2) sd.2.1 = sk at *
  obtain ⟨c5, o5, k5, s5, g5, hD5, hS5⟩ := c_makeBarriers (n := b) (st := sk.1) (cnt := c4) (off := o4) hR (by omega) hb hP f1 hSd.1 hsl z2
  rw [g5, bs]
  have hba := baN_wf (R := R) (par := S.2.2.1) (st := sk.1) (knd := sd.2.2.1) b
  generalize baN R S.2.2.1 sk.1 sd.2.2.1 b = ba at *
  obtain ⟨c6, o6, g6, hO⟩ := c_offerLevels (cnt := c5) (off := o5) (lo := K) (hi := K) (p := fun q => S.2.2.2.1 q == K) hR hL hlb (by omega) (by omega) (fun q _ => by simp; omega)
  rw [g6, bs]
  have hlen := cand_len R (fun q => S.2.2.2.1 q == K)
  rw [c_offered hO (by omega) f7, bs]
  obtain ⟨x7, y7, g7, hX, hYy⟩ := c_placeRooms (st := nx ba.1) xx yy hR (by omega) hP f1
  rw [g7, bs]
  have hpw := plN_wf (st := nx ba.1) hR f1 (R - 1) (by omega)
  generalize plN S.2.2.1 (nx ba.1) (R - 1) = pl at *
  have bX : Bd R pl.2.1 := fun q hq => by have := hpw q (by omega); omega
  have bY : Bd R pl.2.2 := fun q hq => by have := hpw q (by omega); omega
  obtain ⟨d8, b8, g8, hN8⟩ := c_joinFamilies (a := 0) (beyond := beyond) hR (by omega) hP f1 z3
  rw [g8, bs]
  obtain ⟨d9, b9, g9, hN9⟩ := c_joinLoops (a := 0 + nI (R - 1)) (st := pl.1) hR (by omega) hP f1 hL hlb hX hYy bX bY hN8
  rw [g9, bs]
  have hadd : (0 : Int32) + nI (R - 1) + nI (loN (fitB S.2.2.1 S.2.2.2.1 pl.2.1 pl.2.2) pl.1 (R - 1)).2.2 = nI (R - 1 + (loN (fitB S.2.2.1 S.2.2.2.1 pl.2.1 pl.2.2) pl.1 (R - 1)).2.2) := by
    rw [Int32.zero_add, nI_add]
  rw [hadd]
  refine ⟨_, _, _, _, _, _, _, _, _, _, _, _, _, _, rfl, rfl, rfl, hP, hL, hD5, fun q hq e => ?_, hX, hYy, hY4, hS5, hN9⟩
  have e' : ba.2.1 q = 2 := e
  refine hSd.2 q hq ?_
  rcases hba.1 q with z | z
  · rw [← z]; exact e'
  · omega
