/-! The operations: both contracts side by side. -/
abbrev CT : Type := Int32 × Int32 × Int32 × Int32 × Int32 × Int64 × Int32 × Int32 × (Nat → Int32) × (Nat → Int32) × (Nat → Int32) × (Nat → Int32) × (Nat → Int32) × (Nat → Int32) × (Nat → Int32) × (Nat → Int32) × (Nat → Int32) × (Nat → Nat → Int32) × (Nat → Int32) × (Nat → Int32) × (Nat → Int64) × (Nat → Int64) × (Nat → Int32) × (Nat → Int32) × (Nat → Int32)
abbrev MT : Type := Int64 × Int32 × Int32 × Int32 × Int32 × Int32 × Int32 × (Nat → Int32) × (Nat → Int32) × (Nat → Int32) × (Nat → Int32) × (Nat → Int32) × (Nat → Int32) × (Nat → Int32) × (Nat → Int32) × (Nat → Int32) × (Nat → Int32) × (Nat → Int32)
def wCt (kA : Nat → ClassId) (ad : Nat → Nat) (t : CT) : va_W := wC kA ad t.1 t.2.1 t.2.2.1 t.2.2.2.1 t.2.2.2.2.1 t.2.2.2.2.2.1 t.2.2.2.2.2.2.1 t.2.2.2.2.2.2.2.1 t.2.2.2.2.2.2.2.2.1 t.2.2.2.2.2.2.2.2.2.1 t.2.2.2.2.2.2.2.2.2.2.1 t.2.2.2.2.2.2.2.2.2.2.2.1 t.2.2.2.2.2.2.2.2.2.2.2.2.1 t.2.2.2.2.2.2.2.2.2.2.2.2.2.1 t.2.2.2.2.2.2.2.2.2.2.2.2.2.2.1 t.2.2.2.2.2.2.2.2.2.2.2.2.2.2.2.1 t.2.2.2.2.2.2.2.2.2.2.2.2.2.2.2.2.1 t.2.2.2.2.2.2.2.2.2.2.2.2.2.2.2.2.2.1 t.2.2.2.2.2.2.2.2.2.2.2.2.2.2.2.2.2.2.1 t.2.2.2.2.2.2.2.2.2.2.2.2.2.2.2.2.2.2.2.1 t.2.2.2.2.2.2.2.2.2.2.2.2.2.2.2.2.2.2.2.2.1 t.2.2.2.2.2.2.2.2.2.2.2.2.2.2.2.2.2.2.2.2.2.1 t.2.2.2.2.2.2.2.2.2.2.2.2.2.2.2.2.2.2.2.2.2.2.1 t.2.2.2.2.2.2.2.2.2.2.2.2.2.2.2.2.2.2.2.2.2.2.2.1 t.2.2.2.2.2.2.2.2.2.2.2.2.2.2.2.2.2.2.2.2.2.2.2.2
def wMt (kA : Nat → ClassId) (am : Nat → Nat) (u : MT) : va_W := wM kA am u.1 u.2.1 u.2.2.1 u.2.2.2.1 u.2.2.2.2.1 u.2.2.2.2.2.1 u.2.2.2.2.2.2.1 u.2.2.2.2.2.2.2.1 u.2.2.2.2.2.2.2.2.1 u.2.2.2.2.2.2.2.2.2.1 u.2.2.2.2.2.2.2.2.2.2.1 u.2.2.2.2.2.2.2.2.2.2.2.1 u.2.2.2.2.2.2.2.2.2.2.2.2.1 u.2.2.2.2.2.2.2.2.2.2.2.2.2.1 u.2.2.2.2.2.2.2.2.2.2.2.2.2.2.1 u.2.2.2.2.2.2.2.2.2.2.2.2.2.2.2.1 u.2.2.2.2.2.2.2.2.2.2.2.2.2.2.2.2.1 u.2.2.2.2.2.2.2.2.2.2.2.2.2.2.2.2.2
def AgT (t : CT) (u : MT) : Prop := Ag t.1 t.2.1 t.2.2.2.1 t.2.2.2.2.2.2.2.2.1 t.2.2.2.2.2.2.2.2.2.1 t.2.2.2.2.2.2.2.2.2.2.1 t.2.2.2.2.2.2.2.2.2.2.2.1 t.2.2.2.2.2.2.2.2.2.2.2.2.1 t.2.2.2.2.2.2.2.2.2.2.2.2.2.1 t.2.2.2.2.2.2.2.2.2.2.2.2.2.2.1 t.2.2.2.2.2.2.2.2.2.2.2.2.2.2.2.1 t.2.2.2.2.2.2.2.2.2.2.2.2.2.2.2.2.1 t.2.2.2.2.2.2.2.2.2.2.2.2.2.2.2.2.2.1 u.2.1 u.2.2.2.1 u.2.2.2.2.1 u.2.2.2.2.2.2.2.1 u.2.2.2.2.2.2.2.2.1 u.2.2.2.2.2.2.2.2.2.1 u.2.2.2.2.2.2.2.2.2.2.1 u.2.2.2.2.2.2.2.2.2.2.2.1 u.2.2.2.2.2.2.2.2.2.2.2.2.1 u.2.2.2.2.2.2.2.2.2.2.2.2.2.1 u.2.2.2.2.2.2.2.2.2.2.2.2.2.2.1 u.2.2.2.2.2.2.2.2.2.2.2.2.2.2.2.1
theorem wCt_len (kA : Nat → ClassId) (ad : Nat → Nat) (t : CT) : (wCt kA ad t).length = 36 := rfl
theorem wMt_len (kA : Nat → ClassId) (am : Nat → Nat) (u : MT) : (wMt kA am u).length = 12 := rfl
set_option maxHeartbeats 4000000 in
theorem lc_make (l : Launch) (D : va_G) (kA : Nat → ClassId) (ad am : Nat → Nat) {t : CT} {u : MT} (h : AgT t u) (p0 : Int64) (p1 : Int32) (p2 : Int32) (p3 : Int32) (p4 : Int32) : ∃ (r : Int32) (t' : CT) (u' : MT), AgT t' u' ∧ (∀ sz, Ci l yX6_make wsX6_make rm_X6_make D kA [.ref (ad 0), .long p0, .int p1, .int p2, .int p3, .int p4] sz (wCt kA ad t) (wCt kA ad t') r) ∧ (∀ sz, Ci l yX7_make wsX7_make rm_X7_make D kA [.ref (am 0), .long p0, .int p1, .int p2, .int p3, .int p4] sz (wMt kA am u) (wMt kA am u') r) := by
  obtain ⟨sit, rooms, levels, goal, all, dst, dcnt, scnt, parent, level, kind, snum, xx, yy, lying, sw, doors, beyond, offered, opn, seenb, savedb, found, dista, openi⟩ := t
  obtain ⟨mst, mrooms, msd, mgoal, now, last, mcnt, mp, ml, mk, mn, mx, my, mly, msw, mlo, mch, met⟩ := u
  have h : Ag sit rooms goal parent level kind snum xx yy lying sw doors beyond mrooms mgoal now mp ml mk mn mx my mly msw mlo := h
  obtain ⟨r, sit', rooms', levels', goal', all', dst', dcnt', parent', level', kind', snum', xx', yy', lying', sw', doors', beyond', offered', opn', mst', mrooms', msd', mgoal', now', mp', ml', mk', mn', mx', my', mly', msw', mlo', mch', e1, e2, hA'⟩ := make_agree h p0 p1 p2 p3 p4 levels all dst dcnt offered opn mst msd mch
  exact ⟨_, (sit', rooms', levels', goal', all', dst', dcnt', scnt, parent', level', kind', snum', xx', yy', lying', sw', doors', beyond', offered', opn', seenb, savedb, found, dista, openi), (mst', mrooms', msd', mgoal', now', last, mcnt, mp', ml', mk', mn', mx', my', mly', msw', mlo', mch', met), hA', fun sz => c_X6_make l D kA ad sz sit rooms levels goal all dst dcnt scnt parent level kind snum xx yy lying sw doors beyond offered opn seenb savedb found dista openi p0 p1 p2 p3 p4 e1, fun sz => c_X7_make l D kA am sz mst mrooms msd mgoal now last mcnt mp ml mk mn mx my mly msw mlo mch met p0 p1 p2 p3 p4 e2⟩
set_option maxHeartbeats 4000000 in
theorem lc_room (l : Launch) (D : va_G) (kA : Nat → ClassId) (ad am : Nat → Nat) {t : CT} {u : MT} (h : AgT t u) (p0 : Int32) (p1 : Int32) : ∃ (r : Int32) (t' : CT) (u' : MT), AgT t' u' ∧ (∀ sz, Ci l yX6_room wsX6_room rm_X6_room D kA [.ref (ad 0), .int p0, .int p1] sz (wCt kA ad t) (wCt kA ad t') r) ∧ (∀ sz, Ci l yX7_room wsX7_room rm_X7_room D kA [.ref (am 0), .int p0, .int p1] sz (wMt kA am u) (wMt kA am u') r) := by
  obtain ⟨sit, rooms, levels, goal, all, dst, dcnt, scnt, parent, level, kind, snum, xx, yy, lying, sw, doors, beyond, offered, opn, seenb, savedb, found, dista, openi⟩ := t
  obtain ⟨mst, mrooms, msd, mgoal, now, last, mcnt, mp, ml, mk, mn, mx, my, mly, msw, mlo, mch, met⟩ := u
  have h : Ag sit rooms goal parent level kind snum xx yy lying sw doors beyond mrooms mgoal now mp ml mk mn mx my mly msw mlo := h
  obtain ⟨a, s, hW, hC, hM, hs, h1, h2⟩ := id h
  obtain ⟨r, e1, e2⟩ := room_agree hW hC hM p0 p1
  have hA' := h
  exact ⟨_, (sit, rooms, levels, goal, all, dst, dcnt, scnt, parent, level, kind, snum, xx, yy, lying, sw, doors, beyond, offered, opn, seenb, savedb, found, dista, openi), (mst, mrooms, msd, mgoal, now, last, mcnt, mp, ml, mk, mn, mx, my, mly, msw, mlo, mch, met), hA', fun sz => c_X6_room l D kA ad sz sit rooms levels goal all dst dcnt scnt parent level kind snum xx yy lying sw doors beyond offered opn seenb savedb found dista openi p0 p1 e1, fun sz => c_X7_room l D kA am sz mst mrooms msd mgoal now last mcnt mp ml mk mn mx my mly msw mlo mch met p0 p1 e2⟩
set_option maxHeartbeats 4000000 in
theorem lc_behind (l : Launch) (D : va_G) (kA : Nat → ClassId) (ad am : Nat → Nat) {t : CT} {u : MT} (h : AgT t u) (p0 : Int32) (p1 : Int32) : ∃ (r : Int32) (t' : CT) (u' : MT), AgT t' u' ∧ (∀ sz, Ci l yX6_behind wsX6_behind rm_X6_behind D kA [.ref (ad 0), .int p0, .int p1] sz (wCt kA ad t) (wCt kA ad t') r) ∧ (∀ sz, Ci l yX7_behind wsX7_behind rm_X7_behind D kA [.ref (am 0), .int p0, .int p1] sz (wMt kA am u) (wMt kA am u') r) := by
  obtain ⟨sit, rooms, levels, goal, all, dst, dcnt, scnt, parent, level, kind, snum, xx, yy, lying, sw, doors, beyond, offered, opn, seenb, savedb, found, dista, openi⟩ := t
  obtain ⟨mst, mrooms, msd, mgoal, now, last, mcnt, mp, ml, mk, mn, mx, my, mly, msw, mlo, mch, met⟩ := u
  have h : Ag sit rooms goal parent level kind snum xx yy lying sw doors beyond mrooms mgoal now mp ml mk mn mx my mly msw mlo := h
  obtain ⟨a, s, hW, hC, hM, hs, h1, h2⟩ := id h
  obtain ⟨r, e1, e2⟩ := behind_agree hW hC hM p0 p1
  have hA' := h
  exact ⟨_, (sit, rooms, levels, goal, all, dst, dcnt, scnt, parent, level, kind, snum, xx, yy, lying, sw, doors, beyond, offered, opn, seenb, savedb, found, dista, openi), (mst, mrooms, msd, mgoal, now, last, mcnt, mp, ml, mk, mn, mx, my, mly, msw, mlo, mch, met), hA', fun sz => c_X6_behind l D kA ad sz sit rooms levels goal all dst dcnt scnt parent level kind snum xx yy lying sw doors beyond offered opn seenb savedb found dista openi p0 p1 e1, fun sz => c_X7_behind l D kA am sz mst mrooms msd mgoal now last mcnt mp ml mk mn mx my mly msw mlo mch met p0 p1 e2⟩
set_option maxHeartbeats 4000000 in
theorem lc_goal (l : Launch) (D : va_G) (kA : Nat → ClassId) (ad am : Nat → Nat) {t : CT} {u : MT} (h : AgT t u) : ∃ (r : Int32) (t' : CT) (u' : MT), AgT t' u' ∧ (∀ sz, Ci l yX6_goal wsX6_goal rm_X6_goal D kA [.ref (ad 0)] sz (wCt kA ad t) (wCt kA ad t') r) ∧ (∀ sz, Ci l yX7_goal wsX7_goal rm_X7_goal D kA [.ref (am 0)] sz (wMt kA am u) (wMt kA am u') r) := by
  obtain ⟨sit, rooms, levels, goal, all, dst, dcnt, scnt, parent, level, kind, snum, xx, yy, lying, sw, doors, beyond, offered, opn, seenb, savedb, found, dista, openi⟩ := t
  obtain ⟨mst, mrooms, msd, mgoal, now, last, mcnt, mp, ml, mk, mn, mx, my, mly, msw, mlo, mch, met⟩ := u
  have h : Ag sit rooms goal parent level kind snum xx yy lying sw doors beyond mrooms mgoal now mp ml mk mn mx my mly msw mlo := h
  obtain ⟨a, s, hW, hC, hM, hs, h1, h2⟩ := id h
  have e0 : mgoal = goal := hM.2.1.trans hC.2.1.symm
  subst e0
  have e1 : f_X6_goal mgoal = some mgoal := rfl
  have e2 : f_X7_goal mgoal = some mgoal := rfl
  have hA' := h
  exact ⟨_, (sit, rooms, levels, mgoal, all, dst, dcnt, scnt, parent, level, kind, snum, xx, yy, lying, sw, doors, beyond, offered, opn, seenb, savedb, found, dista, openi), (mst, mrooms, msd, mgoal, now, last, mcnt, mp, ml, mk, mn, mx, my, mly, msw, mlo, mch, met), hA', fun sz => c_X6_goal l D kA ad sz sit rooms levels mgoal all dst dcnt scnt parent level kind snum xx yy lying sw doors beyond offered opn seenb savedb found dista openi  e1, fun sz => c_X7_goal l D kA am sz mst mrooms msd mgoal now last mcnt mp ml mk mn mx my mly msw mlo mch met  e2⟩
set_option maxHeartbeats 4000000 in
theorem lc_walk (l : Launch) (D : va_G) (kA : Nat → ClassId) (ad am : Nat → Nat) {t : CT} {u : MT} (h : AgT t u) (p0 : Int32) : ∃ (r : Int32) (t' : CT) (u' : MT), AgT t' u' ∧ (∀ sz, Ci l yX6_walk wsX6_walk rm_X6_walk D kA [.ref (ad 0), .int p0] sz (wCt kA ad t) (wCt kA ad t') r) ∧ (∀ sz, Ci l yX7_walk wsX7_walk rm_X7_walk D kA [.ref (am 0), .int p0] sz (wMt kA am u) (wMt kA am u') r) := by
  obtain ⟨sit, rooms, levels, goal, all, dst, dcnt, scnt, parent, level, kind, snum, xx, yy, lying, sw, doors, beyond, offered, opn, seenb, savedb, found, dista, openi⟩ := t
  obtain ⟨mst, mrooms, msd, mgoal, now, last, mcnt, mp, ml, mk, mn, mx, my, mly, msw, mlo, mch, met⟩ := u
  have h : Ag sit rooms goal parent level kind snum xx yy lying sw doors beyond mrooms mgoal now mp ml mk mn mx my mly msw mlo := h
  obtain ⟨a, s, hW, hC, hM, hs, h1, h2⟩ := id h
  have h3 := hW.2.1
  subst h1 h2
  obtain ⟨r, s', hs', e1, e2⟩ := walk_agree hW hC hM hs p0
  have hA' : Ag (nI (fi s')) rooms goal parent level kind snum xx yy lying sw doors beyond mrooms mgoal (nI s') mp ml mk mn mx my mly msw mlo := ⟨a, s', hW, hC, hM, hs', rfl, rfl⟩
  exact ⟨_, (nI (fi s'), rooms, levels, goal, all, dst, dcnt, scnt, parent, level, kind, snum, xx, yy, lying, sw, doors, beyond, offered, opn, seenb, savedb, found, dista, openi), (mst, mrooms, msd, mgoal, nI s', last, mcnt, mp, ml, mk, mn, mx, my, mly, msw, mlo, mch, met), hA', fun sz => c_X6_walk l D kA ad sz (nI (fi s)) rooms levels goal all dst dcnt scnt parent level kind snum xx yy lying sw doors beyond offered opn seenb savedb found dista openi p0 e1, fun sz => c_X7_walk l D kA am sz mst mrooms msd mgoal (nI s) last mcnt mp ml mk mn mx my mly msw mlo mch met p0 e2⟩
set_option maxHeartbeats 4000000 in
theorem lc_take (l : Launch) (D : va_G) (kA : Nat → ClassId) (ad am : Nat → Nat) {t : CT} {u : MT} (h : AgT t u) : ∃ (r : Int32) (t' : CT) (u' : MT), AgT t' u' ∧ (∀ sz, Ci l yX6_take wsX6_take rm_X6_take D kA [.ref (ad 0)] sz (wCt kA ad t) (wCt kA ad t') r) ∧ (∀ sz, Ci l yX7_take wsX7_take rm_X7_take D kA [.ref (am 0)] sz (wMt kA am u) (wMt kA am u') r) := by
  obtain ⟨sit, rooms, levels, goal, all, dst, dcnt, scnt, parent, level, kind, snum, xx, yy, lying, sw, doors, beyond, offered, opn, seenb, savedb, found, dista, openi⟩ := t
  obtain ⟨mst, mrooms, msd, mgoal, now, last, mcnt, mp, ml, mk, mn, mx, my, mly, msw, mlo, mch, met⟩ := u
  have h : Ag sit rooms goal parent level kind snum xx yy lying sw doors beyond mrooms mgoal now mp ml mk mn mx my mly msw mlo := h
  obtain ⟨a, s, hW, hC, hM, hs, h1, h2⟩ := id h
  have h3 := hW.2.1
  subst h1 h2
  obtain ⟨r, s', hs', e1, e2⟩ := take_agree hW hC hM hs
  have hA' : Ag (nI (fi s')) rooms goal parent level kind snum xx yy lying sw doors beyond mrooms mgoal (nI s') mp ml mk mn mx my mly msw mlo := ⟨a, s', hW, hC, hM, hs', rfl, rfl⟩
  exact ⟨_, (nI (fi s'), rooms, levels, goal, all, dst, dcnt, scnt, parent, level, kind, snum, xx, yy, lying, sw, doors, beyond, offered, opn, seenb, savedb, found, dista, openi), (mst, mrooms, msd, mgoal, nI s', last, mcnt, mp, ml, mk, mn, mx, my, mly, msw, mlo, mch, met), hA', fun sz => c_X6_take l D kA ad sz (nI (fi s)) rooms levels goal all dst dcnt scnt parent level kind snum xx yy lying sw doors beyond offered opn seenb savedb found dista openi  e1, fun sz => c_X7_take l D kA am sz mst mrooms msd mgoal (nI s) last mcnt mp ml mk mn mx my mly msw mlo mch met  e2⟩
set_option maxHeartbeats 4000000 in
theorem lc_toggle (l : Launch) (D : va_G) (kA : Nat → ClassId) (ad am : Nat → Nat) {t : CT} {u : MT} (h : AgT t u) : ∃ (r : Int32) (t' : CT) (u' : MT), AgT t' u' ∧ (∀ sz, Ci l yX6_toggle wsX6_toggle rm_X6_toggle D kA [.ref (ad 0)] sz (wCt kA ad t) (wCt kA ad t') r) ∧ (∀ sz, Ci l yX7_toggle wsX7_toggle rm_X7_toggle D kA [.ref (am 0)] sz (wMt kA am u) (wMt kA am u') r) := by
  obtain ⟨sit, rooms, levels, goal, all, dst, dcnt, scnt, parent, level, kind, snum, xx, yy, lying, sw, doors, beyond, offered, opn, seenb, savedb, found, dista, openi⟩ := t
  obtain ⟨mst, mrooms, msd, mgoal, now, last, mcnt, mp, ml, mk, mn, mx, my, mly, msw, mlo, mch, met⟩ := u
  have h : Ag sit rooms goal parent level kind snum xx yy lying sw doors beyond mrooms mgoal now mp ml mk mn mx my mly msw mlo := h
  obtain ⟨a, s, hW, hC, hM, hs, h1, h2⟩ := id h
  have h3 := hW.2.1
  subst h1 h2
  obtain ⟨r, s', hs', e1, e2⟩ := toggle_agree hW hC hM hs
  have hA' : Ag (nI (fi s')) rooms goal parent level kind snum xx yy lying sw doors beyond mrooms mgoal (nI s') mp ml mk mn mx my mly msw mlo := ⟨a, s', hW, hC, hM, hs', rfl, rfl⟩
  exact ⟨_, (nI (fi s'), rooms, levels, goal, all, dst, dcnt, scnt, parent, level, kind, snum, xx, yy, lying, sw, doors, beyond, offered, opn, seenb, savedb, found, dista, openi), (mst, mrooms, msd, mgoal, nI s', last, mcnt, mp, ml, mk, mn, mx, my, mly, msw, mlo, mch, met), hA', fun sz => c_X6_toggle l D kA ad sz (nI (fi s)) rooms levels goal all dst dcnt scnt parent level kind snum xx yy lying sw doors beyond offered opn seenb savedb found dista openi  e1, fun sz => c_X7_toggle l D kA am sz mst mrooms msd mgoal (nI s) last mcnt mp ml mk mn mx my mly msw mlo mch met  e2⟩
set_option maxHeartbeats 4000000 in
theorem lc_here (l : Launch) (D : va_G) (kA : Nat → ClassId) (ad am : Nat → Nat) {t : CT} {u : MT} (h : AgT t u) : ∃ (r : Int32) (t' : CT) (u' : MT), AgT t' u' ∧ (∀ sz, Ci l yX6_here wsX6_here rm_X6_here D kA [.ref (ad 0)] sz (wCt kA ad t) (wCt kA ad t') r) ∧ (∀ sz, Ci l yX7_here wsX7_here rm_X7_here D kA [.ref (am 0)] sz (wMt kA am u) (wMt kA am u') r) := by
  obtain ⟨sit, rooms, levels, goal, all, dst, dcnt, scnt, parent, level, kind, snum, xx, yy, lying, sw, doors, beyond, offered, opn, seenb, savedb, found, dista, openi⟩ := t
  obtain ⟨mst, mrooms, msd, mgoal, now, last, mcnt, mp, ml, mk, mn, mx, my, mly, msw, mlo, mch, met⟩ := u
  have h : Ag sit rooms goal parent level kind snum xx yy lying sw doors beyond mrooms mgoal now mp ml mk mn mx my mly msw mlo := h
  obtain ⟨a, s, hW, hC, hM, hs, h1, h2⟩ := id h
  have h3 := hW.2.1
  subst h1 h2
  obtain ⟨e1, e2⟩ := here_agree (s := s) (by omega)
  have hA' := h
  exact ⟨_, (nI (fi s), rooms, levels, goal, all, dst, dcnt, scnt, parent, level, kind, snum, xx, yy, lying, sw, doors, beyond, offered, opn, seenb, savedb, found, dista, openi), (mst, mrooms, msd, mgoal, nI s, last, mcnt, mp, ml, mk, mn, mx, my, mly, msw, mlo, mch, met), hA', fun sz => c_X6_here l D kA ad sz (nI (fi s)) rooms levels goal all dst dcnt scnt parent level kind snum xx yy lying sw doors beyond offered opn seenb savedb found dista openi  e1, fun sz => c_X7_here l D kA am sz mst mrooms msd mgoal (nI s) last mcnt mp ml mk mn mx my mly msw mlo mch met  e2⟩
set_option maxHeartbeats 4000000 in
theorem lc_having (l : Launch) (D : va_G) (kA : Nat → ClassId) (ad am : Nat → Nat) {t : CT} {u : MT} (h : AgT t u) : ∃ (r : Int32) (t' : CT) (u' : MT), AgT t' u' ∧ (∀ sz, Ci l yX6_having wsX6_having rm_X6_having D kA [.ref (ad 0)] sz (wCt kA ad t) (wCt kA ad t') r) ∧ (∀ sz, Ci l yX7_having wsX7_having rm_X7_having D kA [.ref (am 0)] sz (wMt kA am u) (wMt kA am u') r) := by
  obtain ⟨sit, rooms, levels, goal, all, dst, dcnt, scnt, parent, level, kind, snum, xx, yy, lying, sw, doors, beyond, offered, opn, seenb, savedb, found, dista, openi⟩ := t
  obtain ⟨mst, mrooms, msd, mgoal, now, last, mcnt, mp, ml, mk, mn, mx, my, mly, msw, mlo, mch, met⟩ := u
  have h : Ag sit rooms goal parent level kind snum xx yy lying sw doors beyond mrooms mgoal now mp ml mk mn mx my mly msw mlo := h
  obtain ⟨a, s, hW, hC, hM, hs, h1, h2⟩ := id h
  have h3 := hW.2.1
  subst h1 h2
  obtain ⟨r, e1, e2⟩ := having_agree (s := s) (by omega)
  have hA' := h
  exact ⟨_, (nI (fi s), rooms, levels, goal, all, dst, dcnt, scnt, parent, level, kind, snum, xx, yy, lying, sw, doors, beyond, offered, opn, seenb, savedb, found, dista, openi), (mst, mrooms, msd, mgoal, nI s, last, mcnt, mp, ml, mk, mn, mx, my, mly, msw, mlo, mch, met), hA', fun sz => c_X6_having l D kA ad sz (nI (fi s)) rooms levels goal all dst dcnt scnt parent level kind snum xx yy lying sw doors beyond offered opn seenb savedb found dista openi  e1, fun sz => c_X7_having l D kA am sz mst mrooms msd mgoal (nI s) last mcnt mp ml mk mn mx my mly msw mlo mch met  e2⟩
set_option maxHeartbeats 4000000 in
theorem lc_steps (l : Launch) (D : va_G) (kA : Nat → ClassId) (ad am : Nat → Nat) {t : CT} {u : MT} (h : AgT t u) : ∃ (r : Int32) (t' : CT) (u' : MT), AgT t' u' ∧ (∀ sz, Ci l yX6_steps wsX6_steps rm_X6_steps D kA [.ref (ad 0)] sz (wCt kA ad t) (wCt kA ad t') r) ∧ (∀ sz, Ci l yX7_steps wsX7_steps rm_X7_steps D kA [.ref (am 0)] sz (wMt kA am u) (wMt kA am u') r) := by
  obtain ⟨sit, rooms, levels, goal, all, dst, dcnt, scnt, parent, level, kind, snum, xx, yy, lying, sw, doors, beyond, offered, opn, seenb, savedb, found, dista, openi⟩ := t
  obtain ⟨mst, mrooms, msd, mgoal, now, last, mcnt, mp, ml, mk, mn, mx, my, mly, msw, mlo, mch, met⟩ := u
  have h : Ag sit rooms goal parent level kind snum xx yy lying sw doors beyond mrooms mgoal now mp ml mk mn mx my mly msw mlo := h
  obtain ⟨a, s, hW, hC, hM, hs, h1, h2⟩ := id h
  have h3 := hW.2.1
  subst h1 h2
  obtain ⟨r, scnt', seenb', found', dista', openi', last', mcnt', met', e1, e2⟩ := steps_agree hW hC hM hs scnt seenb found dista openi last mcnt met
  have hA' := h
  exact ⟨_, (nI (fi s), rooms, levels, goal, all, dst, dcnt, scnt', parent, level, kind, snum, xx, yy, lying, sw, doors, beyond, offered, opn, seenb', savedb, found', dista', openi'), (mst, mrooms, msd, mgoal, nI s, last', mcnt', mp, ml, mk, mn, mx, my, mly, msw, mlo, mch, met'), hA', fun sz => c_X6_steps l D kA ad sz (nI (fi s)) rooms levels goal all dst dcnt scnt parent level kind snum xx yy lying sw doors beyond offered opn seenb savedb found dista openi  e1, fun sz => c_X7_steps l D kA am sz mst mrooms msd mgoal (nI s) last mcnt mp ml mk mn mx my mly msw mlo mch met  e2⟩
set_option maxHeartbeats 4000000 in
theorem lc_hint (l : Launch) (D : va_G) (kA : Nat → ClassId) (ad am : Nat → Nat) {t : CT} {u : MT} (h : AgT t u) : ∃ (r : Int32) (t' : CT) (u' : MT), AgT t' u' ∧ (∀ sz, Ci l yX6_hint wsX6_hint rm_X6_hint D kA [.ref (ad 0)] sz (wCt kA ad t) (wCt kA ad t') r) ∧ (∀ sz, Ci l yX7_hint wsX7_hint rm_X7_hint D kA [.ref (am 0)] sz (wMt kA am u) (wMt kA am u') r) := by
  obtain ⟨sit, rooms, levels, goal, all, dst, dcnt, scnt, parent, level, kind, snum, xx, yy, lying, sw, doors, beyond, offered, opn, seenb, savedb, found, dista, openi⟩ := t
  obtain ⟨mst, mrooms, msd, mgoal, now, last, mcnt, mp, ml, mk, mn, mx, my, mly, msw, mlo, mch, met⟩ := u
  have h : Ag sit rooms goal parent level kind snum xx yy lying sw doors beyond mrooms mgoal now mp ml mk mn mx my mly msw mlo := h
  obtain ⟨a, s, hW, hC, hM, hs, h1, h2⟩ := id h
  have h3 := hW.2.1
  subst h1 h2
  obtain ⟨r, scnt', seenb', found', dista', openi', last', mcnt', met', e1, e2⟩ := hint_agree hW hC hM hs scnt seenb found dista openi last mcnt met
  have hA' := h
  exact ⟨_, (nI (fi s), rooms, levels, goal, all, dst, dcnt, scnt', parent, level, kind, snum, xx, yy, lying, sw, doors, beyond, offered, opn, seenb', savedb, found', dista', openi'), (mst, mrooms, msd, mgoal, nI s, last', mcnt', mp, ml, mk, mn, mx, my, mly, msw, mlo, mch, met'), hA', fun sz => c_X6_hint l D kA ad sz (nI (fi s)) rooms levels goal all dst dcnt scnt parent level kind snum xx yy lying sw doors beyond offered opn seenb savedb found dista openi  e1, fun sz => c_X7_hint l D kA am sz mst mrooms msd mgoal (nI s) last mcnt mp ml mk mn mx my mly msw mlo mch met  e2⟩
set_option maxHeartbeats 4000000 in
theorem lc_situations (l : Launch) (D : va_G) (kA : Nat → ClassId) (ad am : Nat → Nat) {t : CT} {u : MT} (h : AgT t u) : ∃ (r : Int32) (t' : CT) (u' : MT), AgT t' u' ∧ (∀ sz, Ci l yX6_situations wsX6_situations rm_X6_situations D kA [.ref (ad 0)] sz (wCt kA ad t) (wCt kA ad t') r) ∧ (∀ sz, Ci l yX7_situations wsX7_situations rm_X7_situations D kA [.ref (am 0)] sz (wMt kA am u) (wMt kA am u') r) := by
  obtain ⟨sit, rooms, levels, goal, all, dst, dcnt, scnt, parent, level, kind, snum, xx, yy, lying, sw, doors, beyond, offered, opn, seenb, savedb, found, dista, openi⟩ := t
  obtain ⟨mst, mrooms, msd, mgoal, now, last, mcnt, mp, ml, mk, mn, mx, my, mly, msw, mlo, mch, met⟩ := u
  have h : Ag sit rooms goal parent level kind snum xx yy lying sw doors beyond mrooms mgoal now mp ml mk mn mx my mly msw mlo := h
  obtain ⟨a, s, hW, hC, hM, hs, h1, h2⟩ := id h
  have h3 := hW.2.1
  subst h1 h2
  obtain ⟨r, scnt', seenb', found', dista', openi', last', mcnt', met', e1, e2⟩ := situations_agree hW hC hM hs scnt seenb found dista openi last mcnt met
  have hA' := h
  exact ⟨_, (nI (fi s), rooms, levels, goal, all, dst, dcnt, scnt', parent, level, kind, snum, xx, yy, lying, sw, doors, beyond, offered, opn, seenb', savedb, found', dista', openi'), (mst, mrooms, msd, mgoal, nI s, last', mcnt', mp, ml, mk, mn, mx, my, mly, msw, mlo, mch, met'), hA', fun sz => c_X6_situations l D kA ad sz (nI (fi s)) rooms levels goal all dst dcnt scnt parent level kind snum xx yy lying sw doors beyond offered opn seenb savedb found dista openi  e1, fun sz => c_X7_situations l D kA am sz mst mrooms msd mgoal (nI s) last mcnt mp ml mk mn mx my mly msw mlo mch met  e2⟩
set_option maxHeartbeats 4000000 in
theorem lc_safe (l : Launch) (D : va_G) (kA : Nat → ClassId) (ad am : Nat → Nat) {t : CT} {u : MT} (h : AgT t u) : ∃ (r : Int32) (t' : CT) (u' : MT), AgT t' u' ∧ (∀ sz, Ci l yX6_safe wsX6_safe rm_X6_safe D kA [.ref (ad 0)] sz (wCt kA ad t) (wCt kA ad t') r) ∧ (∀ sz, Ci l yX7_safe wsX7_safe rm_X7_safe D kA [.ref (am 0)] sz (wMt kA am u) (wMt kA am u') r) := by
  obtain ⟨sit, rooms, levels, goal, all, dst, dcnt, scnt, parent, level, kind, snum, xx, yy, lying, sw, doors, beyond, offered, opn, seenb, savedb, found, dista, openi⟩ := t
  obtain ⟨mst, mrooms, msd, mgoal, now, last, mcnt, mp, ml, mk, mn, mx, my, mly, msw, mlo, mch, met⟩ := u
  have h : Ag sit rooms goal parent level kind snum xx yy lying sw doors beyond mrooms mgoal now mp ml mk mn mx my mly msw mlo := h
  obtain ⟨a, s, hW, hC, hM, hs, h1, h2⟩ := id h
  have h3 := hW.2.1
  subst h1 h2
  obtain ⟨r, scnt', seenb', savedb', found', dista', openi', last', mcnt', met', e1, e2, -⟩ := safe_agree hW hC hM hs scnt seenb savedb found dista openi last mcnt met
  have hA' := h
  exact ⟨_, (nI (fi s), rooms, levels, goal, all, dst, dcnt, scnt', parent, level, kind, snum, xx, yy, lying, sw, doors, beyond, offered, opn, seenb', savedb', found', dista', openi'), (mst, mrooms, msd, mgoal, nI s, last', mcnt', mp, ml, mk, mn, mx, my, mly, msw, mlo, mch, met'), hA', fun sz => c_X6_safe l D kA ad sz (nI (fi s)) rooms levels goal all dst dcnt scnt parent level kind snum xx yy lying sw doors beyond offered opn seenb savedb found dista openi  e1, fun sz => c_X7_safe l D kA am sz mst mrooms msd mgoal (nI s) last mcnt mp ml mk mn mx my mly msw mlo mch met  e2⟩
set_option maxHeartbeats 4000000 in
theorem lc_restart (l : Launch) (D : va_G) (kA : Nat → ClassId) (ad am : Nat → Nat) {t : CT} {u : MT} (h : AgT t u) : ∃ (t' : CT) (u' : MT), AgT t' u' ∧ (∀ sz, Cv l yX6_restart wsX6_restart rm_X6_restart D kA [.ref (ad 0)] sz (wCt kA ad t) (wCt kA ad t')) ∧ (∀ sz, Cv l yX7_restart wsX7_restart rm_X7_restart D kA [.ref (am 0)] sz (wMt kA am u) (wMt kA am u')) := by
  obtain ⟨sit, rooms, levels, goal, all, dst, dcnt, scnt, parent, level, kind, snum, xx, yy, lying, sw, doors, beyond, offered, opn, seenb, savedb, found, dista, openi⟩ := t
  obtain ⟨mst, mrooms, msd, mgoal, now, last, mcnt, mp, ml, mk, mn, mx, my, mly, msw, mlo, mch, met⟩ := u
  have h : Ag sit rooms goal parent level kind snum xx yy lying sw doors beyond mrooms mgoal now mp ml mk mn mx my mly msw mlo := h
  obtain ⟨a, s, hW, hC, hM, hs, h1, h2⟩ := id h
  have hA' : Ag (nI (fi 0)) rooms goal parent level kind snum xx yy lying sw doors beyond mrooms mgoal (nI 0) mp ml mk mn mx my mly msw mlo := ⟨a, 0, hW, hC, hM, by have := hW.1; omega, rfl, rfl⟩
  have e1 : f_X6_restart sit = some 0 := rfl
  have e2 : f_X7_restart now = some 0 := rfl
  exact ⟨(0, rooms, levels, goal, all, dst, dcnt, scnt, parent, level, kind, snum, xx, yy, lying, sw, doors, beyond, offered, opn, seenb, savedb, found, dista, openi), (mst, mrooms, msd, mgoal, 0, last, mcnt, mp, ml, mk, mn, mx, my, mly, msw, mlo, mch, met), hA', fun sz => c_X6_restart l D kA ad sz sit rooms levels goal all dst dcnt scnt parent level kind snum xx yy lying sw doors beyond offered opn seenb savedb found dista openi  e1, fun sz => c_X7_restart l D kA am sz mst mrooms msd mgoal now last mcnt mp ml mk mn mx my mly msw mlo mch met  e2⟩
