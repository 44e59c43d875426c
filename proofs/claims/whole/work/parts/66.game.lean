/-! The game: walking, taking, toggling. -/
def nbA (a : AV) (r : Nat) : List Nat := nbL (aPar a) (aR a) r (aM a)
def ownA (a : AV) (r t : Nat) : Nat := if 0 < r ∧ aPar a r = t then r else if 0 < t ∧ aPar a t = r then t else 0
/-- whether a door whose own room is w opens, m being the low part of the situation -/
def okA (a : AV) (m w : Nat) : Prop := (aKnd a w = 1 → m / 128 / 2 ^ (aLev a w - 1) % 2 = 1) ∧ (aKnd a w = 2 → m / 2 / 2 ^ aNum a w % 2 = 1 ∨ on3 (m / 2 % 8) < on3 (m / 16 % 8)) ∧ (aKnd a w = 3 → m % 2 = 0) ∧ (aKnd a w = 4 → m % 2 = 1)
def opA (a : AV) (m w : Nat) : Nat := if aKnd a w = 2 ∧ m / 2 / 2 ^ aNum a w % 2 = 0 then 2 * 2 ^ aNum a w else 0
noncomputable def gW (a : AV) (s i : Nat) : Option Nat := by
  classical
  exact if okA a (s % 1024) (ownA a (s / 1024) ((nbA a (s / 1024)).getD i 0)) then some (1024 * (nbA a (s / 1024)).getD i 0 + (s % 1024 + opA a (s % 1024) (ownA a (s / 1024) ((nbA a (s / 1024)).getD i 0)))) else none
theorem gW_pos {a : AV} {s i : Nat} (h : okA a (s % 1024) (ownA a (s / 1024) ((nbA a (s / 1024)).getD i 0))) : gW a s i = some (1024 * (nbA a (s / 1024)).getD i 0 + (s % 1024 + opA a (s % 1024) (ownA a (s / 1024) ((nbA a (s / 1024)).getD i 0)))) := by
  unfold gW; exact if_pos h
theorem gW_neg {a : AV} {s i : Nat} (h : ¬ okA a (s % 1024) (ownA a (s / 1024) ((nbA a (s / 1024)).getD i 0))) : gW a s i = none := by
  unfold gW; exact if_neg h
def gT (a : AV) (s : Nat) : Nat := 1024 * (s / 1024) + tkM (aLy a (s / 1024)) (s % 1024)
def gG (a : AV) (s : Nat) : Option Nat := if aSw a (s / 1024) = 0 then none else some (tgl s)
/-- the class's number of the situation s -/
def fi (s : Nat) : Nat := 1024 * (s / 1024) + cL (s % 1024)
theorem fi_lt {s R : Nat} (h : s < 1024 * R) : fi s < 1024 * R := by
  have := cL_lt (s % 1024)
  unfold fi
  omega
theorem fi_room (s : Nat) : fi s / 1024 = s / 1024 := by
  have := cL_lt (s % 1024)
  unfold fi
  omega
theorem fi_mk {r m : Nat} (hm : m < 1024) : fi (1024 * r + m) = 1024 * r + cL m := by
  unfold fi
  rw [show (1024 * r + m) / 1024 = r by omega, show (1024 * r + m) % 1024 = m by omega]
theorem ownA_lt {a : AV} {r t : Nat} (hr : r < aR a) (ht : t < aR a) : ownA a r t < aR a := by
  unfold ownA
  split
  · exact hr
  · split
    · exact ht
    · omega
theorem nb_mem {a : AV} (hW : AdvW a) {r i : Nat} (hr : r < aR a) (hi : i < (nbA a r).length) : (nbA a r).getD i 0 < aR a := by
  obtain ⟨w1, w2, w3, w4, w5, w6, w7, w8, w9, w10, w11, w12⟩ := hW
  have h := (nb_nodup (M := aM a) w4 hr (fun y e => ⟨(w12 r y e).2.1, (w12 r y e).2.2.2⟩)).2
  refine h _ ?_
  rw [List.getD_eq_getElem?_getD, List.getElem?_eq_getElem hi]
  exact List.getElem_mem hi
theorem nb_lt {a : AV} (hW : AdvW a) {r : Nat} (hr : r < aR a) : (nbA a r).length < 12 := by
  obtain ⟨w1, w2, w3, w4, w5, w6, w7, w8, w9, w10, w11, w12⟩ := hW
  have h := nb_len (M := aM a) w4 hr (fun y e => ⟨(w12 r y e).2.1, (w12 r y e).2.2.2⟩)
  unfold nbA
  omega
theorem pos_lt {a : AV} (hW : AdvW a) {m w : Nat} (hm : m < 1024) (hw : w < aR a) : m + opA a m w < 1024 := by
  obtain ⟨w1, w2, w3, w4, w5, w6, w7, w8, w9, w10, w11, w12⟩ := hW
  unfold opA
  split
  · rename_i h
    exact (cL_opens hm (w9 w hw h.1) h.2).1
  · omega
theorem gW_lt {a : AV} (hW : AdvW a) {s i t : Nat} (hs : s < 1024 * aR a) (hi : i < (nbA a (s / 1024)).length) (h : gW a s i = some t) : t < 1024 * aR a := by
  by_cases c : okA a (s % 1024) (ownA a (s / 1024) ((nbA a (s / 1024)).getD i 0))
  · rw [gW_pos c] at h
    cases h
    have h1 := nb_mem hW (show s / 1024 < aR a by omega) hi
    have h2 := pos_lt hW (show s % 1024 < 1024 by omega) (ownA_lt (show s / 1024 < aR a by omega) h1)
    omega
  · rw [gW_neg c] at h; cases h
theorem gT_lt {a : AV} (hW : AdvW a) {s : Nat} (hs : s < 1024 * aR a) : gT a s < 1024 * aR a := by
  have := (cL_take (show s % 1024 < 1024 by omega) (hW.2.2.2.2.2.2.2.2.2.1 (s / 1024))).1
  unfold gT
  omega
theorem tgl_eq (s : Nat) : tgl s = 1024 * (s / 1024) + tgl (s % 1024) := by unfold tgl; split <;> split <;> omega
theorem gG_lt {a : AV} {s t : Nat} (hs : s < 1024 * aR a) (h : gG a s = some t) : t < 1024 * aR a := by
  unfold gG at h
  split at h
  · cases h
  · cases h
    have := (cL_toggle (show s % 1024 < 1024 by omega)).1
    rw [tgl_eq]
    omega
theorem or_sub {x y : Nat} (h : x &&& y = y) : x ||| y = x := by
  apply Nat.eq_of_testBit_eq
  intro i
  have h1 : (x &&& y).testBit i = y.testBit i := by rw [h]
  rw [Nat.testBit_and] at h1
  rw [Nat.testBit_or]
  cases hx : x.testBit i <;> cases hy : y.testBit i <;> simp_all
/-! the class -/
theorem c_roomOf {s : Nat} (h : s < 12288) : f_X5_roomOf (nI (fi s)) = some (nI (s / 1024)) := by
  have := fi_lt (R := 12) (show s < 1024 * 12 by omega)
  unfold f_X5_roomOf
  rw [pk_shrN (by omega) _ 10 (by decide), show (2 : Nat) ^ 10 = 1024 from rfl, fi_room]
theorem c_and {s m : Nat} (h : s < 12288) (hm : m < 1024) : nI (fi s) &&& nI m = nI (cL (s % 1024) &&& m) := by
  have := fi_lt (R := 12) (show s < 1024 * 12 by omega)
  rw [nI_and (by omega) (by omega)]
  unfold fi
  rw [and_low hm]
theorem c_positionOf {s : Nat} (h : s < 12288) : f_X5_positionOf (nI (fi s)) = some (nI (s % 2)) := by
  unfold f_X5_positionOf
  rw [show (512 : Int32) = nI 512 from rfl, c_and h (by omega), cL_pos (by omega), show s % 1024 % 2 = s % 2 by omega]
  rcases (show s % 2 = 0 ∨ s % 2 = 1 by omega) with e | e <;> rw [e] <;> decide
theorem c_smallLeft {s : Nat} (h : s < 12288) : f_X5_smallKeysLeft (nI (fi s)) = some (nI (on3 (s % 1024 / 16 % 8)) - nI (on3 (s % 1024 / 2 % 8))) := by
  unfold f_X5_smallKeysLeft
  rw [show (56 : Int32) = nI 56 from rfl, show (448 : Int32) = nI 448 from rfl, c_and h (by omega), c_and h (by omega), cL_taken (by omega), cL_open (by omega), bcT (by omega), bs, bcO (by omega), bs]
theorem on3_lt (x : Nat) : on3 x ≤ 3 := by unfold on3; omega
theorem dif_pos9 {x y : Nat} (hx : x ≤ 3) (hy : y ≤ 3) : (nI x - nI y ≤ 0) ↔ ¬ y < x := by
  have h := co_dec (N := 16) (P := fun i => (nI (i / 4) - nI (i % 4) ≤ 0) ↔ ¬ i % 4 < i / 4) (by decide +kernel) (i := 4 * x + y) (by omega)
  rw [show (4 * x + y) / 4 = x by omega, show (4 * x + y) % 4 = y by omega] at h
  exact h
theorem c_opens {a : AV} (hW : AdvW a) {s w : Nat} {level kind snum : Nat → Int32} (hs : s < 12288) (hw : w < aR a) (hL : Rp (aR a) level (aLev a)) (hD : Rp (aR a) kind (aKnd a)) (hN : ∀ q, q < aR a → aKnd a q = 2 → snum q = nI (aNum a q)) :
    ∃ v, f_X0_opens (nI (fi s)) (nI w) level kind snum = some v ∧ ((okA a (s % 1024) w ∧ v = 1) ∨ (¬ okA a (s % 1024) w ∧ v = 0)) := by
  obtain ⟨w1, w2, w3, w4, w5, w6, w7, w8, w9, w10, w11, w12⟩ := hW
  have hk := w6 w hw
  have hm : s % 1024 < 1024 := by omega
  unfold f_X0_opens okA
  simp only [gd_in (show w < 12 by omega) (show (12 : Nat) < 2 ^ 31 by omega)]
  rw [cl (show w < 2 ^ 31 by omega), hD w hw]
  rcases (show aKnd a w = 0 ∨ aKnd a w = 1 ∨ aKnd a w = 2 ∨ aKnd a w = 3 ∨ aKnd a w = 4 by omega) with e | e | e | e | e
  · rw [e, if_neg (by decide), if_neg (by decide), if_neg (by decide), if_neg (by decide)]
    exact ⟨1, rfl, Or.inl ⟨⟨by omega, by omega, by omega, by omega⟩, rfl⟩⟩
  · have h1 := w8 w hw e
    have h3 := w5 w hw
    rw [e, if_pos (by decide), hL w hw]
    unfold f_X5_hasKey f_X5_keyBit
    rw [bs, keyBit_eq (aLev a w) h1 h3, c_and hs (by have : (2 : Nat) ^ (aLev a w - 1) < 2 ^ 3 := Nat.pow_lt_pow_right (by omega) (by omega)
                                                     omega), cL_key hm (by omega)]
    have hb : s % 1024 / 128 / 2 ^ (aLev a w - 1) % 2 < 2 := Nat.mod_lt _ (by omega)
    rcases (show s % 1024 / 128 / 2 ^ (aLev a w - 1) % 2 = 0 ∨ s % 1024 / 128 / 2 ^ (aLev a w - 1) % 2 = 1 by omega) with z | z
    · rw [z, Nat.mul_zero, if_pos (by decide), bs, gd_neg (by decide)]
      exact ⟨0, rfl, Or.inr ⟨fun y => by have := y.1 rfl; omega, rfl⟩⟩
    · have hp : 0 < (2 : Nat) ^ (aLev a w - 1) := Nat.pow_pos (by omega)
      have hp2 : (2 : Nat) ^ (aLev a w - 1) < 2 ^ 3 := Nat.pow_lt_pow_right (by omega) (by omega)
      rw [z, Nat.mul_one, if_neg (show ¬ nI (2 ^ (aLev a w - 1)) = 0 from nI_ne0 hp (by omega)), bs, gd_neg (by decide)]
      exact ⟨1, rfl, Or.inl ⟨⟨fun _ => rfl, by omega, by omega, by omega⟩, rfl⟩⟩
  · have h9 := w9 w hw e
    rw [e, if_neg (by decide), if_pos (by decide), hN w hw e]
    unfold f_X5_hasOpened f_X5_openedBit
    have h64 : (64 : Int32) <<< (nI (aNum a w) &&& 31) = nI (64 * 2 ^ aNum a w) := by
      rcases (show aNum a w = 0 ∨ aNum a w = 1 ∨ aNum a w = 2 by omega) with z | z | z <;> rw [z] <;> decide
    have hp : 0 < (2 : Nat) ^ aNum a w := Nat.pow_pos (by omega)
    have hp2 : (2 : Nat) ^ aNum a w < 2 ^ 3 := Nat.pow_lt_pow_right (by omega) h9
    rw [bs, h64, c_and hs (by omega), cL_door hm h9]
    rcases (show s % 1024 / 2 / 2 ^ aNum a w % 2 = 0 ∨ s % 1024 / 2 / 2 ^ aNum a w % 2 = 1 by omega) with z | z
    · rw [z, Nat.mul_zero, if_pos (by decide), bs, if_pos (by decide), c_smallLeft hs, bs]
      by_cases y : on3 (s % 1024 / 2 % 8) < on3 (s % 1024 / 16 % 8)
      · rw [if_neg (fun q => (dif_pos9 (on3_lt _) (on3_lt _)).mp q y)]
        exact ⟨1, rfl, Or.inl ⟨⟨by omega, fun _ => Or.inr y, by omega, by omega⟩, rfl⟩⟩
      · rw [if_pos ((dif_pos9 (on3_lt _) (on3_lt _)).mpr y)]
        exact ⟨0, rfl, Or.inr ⟨fun q => by have := q.2.1 rfl; omega, rfl⟩⟩
    · rw [z, Nat.mul_one, if_neg (show ¬ nI (64 * 2 ^ aNum a w) = 0 from nI_ne0 (by omega) (by omega)), bs, if_neg (by decide)]
      exact ⟨1, rfl, Or.inl ⟨⟨by omega, fun _ => Or.inl rfl, by omega, by omega⟩, rfl⟩⟩
  · rw [e, if_neg (by decide), if_neg (by decide), if_pos (by decide), c_positionOf hs, bs]
    rcases (show s % 2 = 0 ∨ s % 2 = 1 by omega) with z | z
    · rw [z, if_pos (by decide)]
      exact ⟨1, rfl, Or.inl ⟨⟨by omega, by omega, by omega, by omega⟩, rfl⟩⟩
    · rw [z, if_neg (by decide)]
      exact ⟨0, rfl, Or.inr ⟨fun q => by have := q.2.2.1 rfl; omega, rfl⟩⟩
  · rw [e, if_neg (by decide), if_neg (by decide), if_neg (by decide), if_pos (by decide), c_positionOf hs, bs]
    rcases (show s % 2 = 0 ∨ s % 2 = 1 by omega) with z | z
    · rw [z, if_neg (by decide)]
      exact ⟨0, rfl, Or.inr ⟨fun q => by have := q.2.2.2 rfl; omega, rfl⟩⟩
    · rw [z, if_pos (by decide)]
      exact ⟨1, rfl, Or.inl ⟨⟨by omega, by omega, by omega, by omega⟩, rfl⟩⟩
theorem c_owner {a : AV} (hW : AdvW a) {r t : Nat} {parent : Nat → Int32} (hr : r < aR a) (ht : t < aR a) (hP : Rq (aR a) parent (aPar a)) : f_X0_doorOwner (nI r) (nI t) parent = some (nI (ownA a r t)) := by
  obtain ⟨w1, w2, w3, w4, w5, w6, w7, w8, w9, w10, w11, w12⟩ := hW
  have p1 := par_ne (r := t) w2 hP w4 hr ht
  have p2 := par_ne (r := r) w2 hP w4 ht hr
  unfold f_X0_doorOwner ownA
  rw [gd_in (show r < 12 by omega) (by omega), gd_in (show t < 12 by omega) (by omega), cl (show r < 2 ^ 31 by omega), cl (show t < 2 ^ 31 by omega)]
  by_cases c1 : 0 < r ∧ aPar a r = t
  · rw [if_pos c1, if_pos (p1.mpr (by simp; exact c1))]
  · rw [if_neg c1, if_neg (fun z => c1 (by have := p1.mp z; simpa using this))]
    by_cases c2 : 0 < t ∧ aPar a t = r
    · rw [if_pos c2, if_pos (p2.mpr (by simp; exact c2))]
    · rw [if_neg c2, if_neg (fun z => c2 (by have := p2.mp z; simpa using this))]
      rfl
theorem c_hasDoor {a : AV} (hW : AdvW a) {r : Nat} {p1 : Int32} {doors : Nat → Int32} {beyond : Nat → Nat → Int32} (hr : r < aR a) (hN : Nb doors beyond (Lm (aPar a) (aR a) (aM a))) :
    f_X0_hasDoor (nI r) p1 (nI (aR a)) doors = some (if p1 < 0 then 0 else if nI (nbA a r).length ≤ p1 then 0 else 1) := by
  have h2 := hW.2.1
  have hd := (hN r (by omega)).1
  have hl : Lm (aPar a) (aR a) (aM a) r = nbA a r := by unfold Lm nbA; rw [if_pos hr]
  rw [hl] at hd
  unfold f_X0_hasDoor f_X0_hasRoom
  rw [if_neg (nI_pos (n := r) (by omega)), if_neg (nI_ge hr (by omega)), bs, if_neg (show ¬ (1 : Int32) = 0 by decide), gd_in (show r < 12 by omega) (by omega), cl (by omega), hd]
  by_cases c1 : p1 < 0
  · rw [if_pos c1, if_pos c1]
  · rw [if_neg c1, if_neg c1]
    by_cases c2 : nI (nbA a r).length ≤ p1
    · rw [if_pos c2, if_pos c2]
    · rw [if_neg c2, if_neg c2]
/-- walking, in the class: -1 beyond the doors, -2 locked -/
theorem c_afterWalking {a : AV} (hW : AdvW a) {s i : Nat} {parent level kind snum doors : Nat → Int32} {beyond : Nat → Nat → Int32} (hs : s < 1024 * aR a) (hi : i < (nbA a (s / 1024)).length) (hP : Rq (aR a) parent (aPar a)) (hL : Rp (aR a) level (aLev a)) (hD : Rp (aR a) kind (aKnd a)) (hN : ∀ q, q < aR a → aKnd a q = 2 → snum q = nI (aNum a q)) (hB : Nb doors beyond (Lm (aPar a) (aR a) (aM a))) :
    f_X0_afterWalking (nI (fi s)) (nI i) (nI (aR a)) parent level kind snum doors beyond = some (match gW a s i with | some t => nI (fi t) | none => -2) := by
  have h2 := hW.2.1
  have hr : s / 1024 < aR a := by omega
  have hs12 : s < 12288 := by omega
  have hlen := nb_lt hW hr
  have hl : Lm (aPar a) (aR a) (aM a) (s / 1024) = nbA a (s / 1024) := by unfold Lm nbA; rw [if_pos hr]
  have hb := (hB (s / 1024) (by omega)).2 i (by rw [hl]; exact hi)
  rw [hl] at hb
  have ht := nb_mem hW hr hi
  unfold f_X0_afterWalking
  rw [c_roomOf hs12, bs, c_hasDoor hW hr hB, bs, if_neg (nI_pos (n := i) (by omega)), if_neg (nI_ge hi (by omega)), if_neg (show ¬ (1 : Int32) = 0 by decide), gd_in (show s / 1024 < 12 by omega) (by omega), gd_in (show i < 12 by omega) (by omega), cl (show s / 1024 < 2 ^ 31 by omega), cl (show i < 2 ^ 31 by omega), hb]
  generalize htv : (nbA a (s / 1024)).getD i 0 = t at *
  have hw := ownA_lt hr ht
  rw [c_owner hW hr ht hP, bs]
  obtain ⟨v, g1, g2⟩ := c_opens hW hs12 hw hL hD hN
  rw [g1, bs]
  have hm : s % 1024 < 1024 := by omega
  rcases g2 with ⟨g2, rfl⟩ | ⟨g2, rfl⟩
  · rw [if_neg (show ¬ (1 : Int32) = 0 by decide), gW_pos (by rw [htv]; exact g2)]
    rw [htv]
    unfold f_X5_inRoom f_X5_openedBit
    have e1 : nI (fi s) &&& 1023 = nI (cL (s % 1024)) := by
      rw [show (1023 : Int32) = nI 1023 from rfl, c_and hs12 (by omega)]
      congr 1
      have := cL_lt (s % 1024)
      exact (Nat.and_two_pow_sub_one_eq_mod (cL (s % 1024)) 10).trans (Nat.mod_eq_of_lt this)
    have e2 : nI t <<< ((10 : Int32) &&& 31) = nI (1024 * t) := by
      rw [pk_shlN _ 10 (by decide) (by omega)]
      congr 1
      omega
    have hcl := cL_lt (s % 1024)
    have e3 : nI (fi s) &&& 1023 ||| nI t <<< ((10 : Int32) &&& 31) = nI (1024 * t + cL (s % 1024)) := by
      rw [e1, e2, nI_or (by omega) (by omega), join_low hcl]
    rw [bs, gd_in (show ownA a (s / 1024) t < 12 by omega) (by omega), gd_in (show ownA a (s / 1024) t < 12 by omega) (by omega), cl (show ownA a (s / 1024) t < 2 ^ 31 by omega), hD _ hw, e3]
    dsimp only
    rw [fi_mk (pos_lt hW hm hw)]
    by_cases e : aKnd a (ownA a (s / 1024) t) = 2
    · have h9 := hW.2.2.2.2.2.2.2.2.1 _ hw e
      have h64 : (64 : Int32) <<< (nI (aNum a (ownA a (s / 1024) t)) &&& 31) = nI (64 * 2 ^ aNum a (ownA a (s / 1024) t)) := by
        rcases (show aNum a (ownA a (s / 1024) t) = 0 ∨ aNum a (ownA a (s / 1024) t) = 1 ∨ aNum a (ownA a (s / 1024) t) = 2 by omega) with z | z | z <;> rw [z] <;> decide
      have hp2 : (2 : Nat) ^ aNum a (ownA a (s / 1024) t) < 2 ^ 3 := Nat.pow_lt_pow_right (by omega) h9
      rw [if_pos (by rw [e]; rfl), hN _ hw e, bs, h64, nI_or (by omega) (by omega), or_low hcl (by omega)]
      congr 3
      unfold opA
      by_cases z : s % 1024 / 2 / 2 ^ aNum a (ownA a (s / 1024) t) % 2 = 0
      · rw [if_pos ⟨e, z⟩]
        exact (cL_opens hm h9 z).2.symm
      · rw [if_neg (fun q => z q.2), Nat.add_zero]
        have h1 : s % 1024 / 2 / 2 ^ aNum a (ownA a (s / 1024) t) % 2 = 1 := by omega
        have h5 := cL_door hm h9
        rw [h1, Nat.mul_one] at h5
        have h6 : cL (s % 1024) ||| 64 * 2 ^ aNum a (ownA a (s / 1024) t) = cL (s % 1024) := by
          exact or_sub h5
        exact h6
    · rw [if_neg (show ¬ nI (aKnd a (ownA a (s / 1024) t)) = 2 from fun z => e ((nI_eq (b := 2) (by have := hW.2.2.2.2.2.1 _ hw; omega) (by omega)).mp z))]
      unfold opA
      rw [if_neg (fun q => e q.1), Nat.add_zero]
  · rw [if_pos (show (0 : Int32) = 0 from rfl), gW_neg (by rw [htv]; exact g2)]
theorem c_afterTaking {a : AV} (hW : AdvW a) {s : Nat} {lying : Nat → Int32} (hs : s < 1024 * aR a) (hY : Rp (aR a) lying (aLy a)) : f_X0_afterTaking (nI (fi s)) lying = some (nI (fi (gT a s))) := by
  have h2 := hW.2.1
  have hr : s / 1024 < aR a := by omega
  have hly := hW.2.2.2.2.2.2.2.2.2.1 (s / 1024)
  obtain ⟨t1, t2, t3⟩ := cL_take (show s % 1024 < 1024 by omega) hly
  have hcl := cL_lt (s % 1024)
  have hf := fi_lt hs
  unfold f_X0_afterTaking
  rw [c_roomOf (by omega), bs, gd_in (show s / 1024 < 12 by omega) (by omega), cl (by omega), hY _ hr, nI_or (by omega) (by omega)]
  unfold gT
  rw [fi_mk t1, t2]
  unfold fi
  rw [or_low hcl (by omega)]
theorem c_afterToggling {a : AV} (hW : AdvW a) {s : Nat} {sw : Nat → Int32} (hs : s < 1024 * aR a) (hS : Rp (aR a) sw (aSw a)) : f_X0_afterToggling (nI (fi s)) sw = some (match gG a s with | some t => nI (fi t) | none => -1) := by
  have h2 := hW.2.1
  have hr : s / 1024 < aR a := by omega
  have hsw := hW.2.2.2.2.2.2.2.2.2.2.1 (s / 1024)
  obtain ⟨t1, t2, t3⟩ := cL_toggle (show s % 1024 < 1024 by omega)
  have hcl := cL_lt (s % 1024)
  have hf := fi_lt hs
  unfold f_X0_afterToggling gG
  rw [c_roomOf (by omega), bs, gd_in (show s / 1024 < 12 by omega) (by omega), cl (by omega), hS _ hr]
  by_cases c : aSw a (s / 1024) = 0
  · rw [if_pos (by rw [c]; rfl), if_pos c]
  · rw [if_neg (show ¬ nI (aSw a (s / 1024)) = 0 from nI_ne0 (by omega) (by omega)), if_neg c]
    unfold f_X5_toggled
    rw [bs, show (512 : Int32) = nI 512 from rfl, nI_xor (by omega) (by omega)]
    dsimp only
    rw [tgl_eq, fi_mk t1, t2]
    unfold fi
    rw [xor_low hcl (by omega)]
