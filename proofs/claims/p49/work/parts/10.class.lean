-- 10.face2.lean.txt
section
noncomputable abbrev wsX1_apart : List Cond := kWs yX1_apart cX1_apart 4 (some .int)
noncomputable def f_X1_apart (ce : Nat → Int64) (p0 : Int32) (p1 : Int32) (p2 : Int32) : Option (Int32) :=
  (f_X1_needCell p0).bind fun r1 =>
  (f_X1_needCell p1).bind fun r2 =>
  (f_X1_isWithin p2 0 1).bind fun r3 =>
  (f_X1_needThat r3).bind fun r4 =>
  if ix p1 4 then
    if ix p0 4 then
      (f_X1_partOf ((ce p1.toNatClampNeg) - (ce p0.toNatClampNeg)) p2).bind fun r7 =>
      some r7
    else none
  else none
theorem f_X1_apart_e {ce : Nat → Int64} {p0 : Int32} {p1 : Int32} {p2 : Int32} : f_X1_apart ce p0 p1 p2 = 
  (f_X1_needCell p0).bind fun r1 =>
  (f_X1_needCell p1).bind fun r2 =>
  (f_X1_isWithin p2 0 1).bind fun r3 =>
  (f_X1_needThat r3).bind fun r4 =>
  if ix p1 4 then
    if ix p0 4 then
      (f_X1_partOf ((ce p1.toNatClampNeg) - (ce p0.toNatClampNeg)) p2).bind fun r7 =>
      some r7
    else none
  else none := rfl
set_option maxHeartbeats 4000000 in
set_option maxRecDepth 100000 in
theorem c_X1_apart (l : Launch) (dC : Nat → ClassId) (dI : Nat → Nat → Nat) (cB cI cJ cZ : ClassId) (a : Nat → Nat) (sz : Nat) (ce : Nat → Int64) (fr : Int64) (un : Int64) (sb : Nat → Int64) (se : Nat → Int64) (so : Nat → Int32) (sc : Int32) (wb : Nat → Int64) (we : Nat → Int64) (wo : Nat → Int32) (wc : Int32) (fb : Nat → Int64) (fe : Nat → Int64) (fo : Nat → Int32) (fc : Int32) (rm : Nat → Int32) (ac : Int32) (rf : Int32) (kn : Int32) (p0 : Int32) (p1 : Int32) (p2 : Int32) (res : Int32) (hf : f_X1_apart ce p0 p1 p2 = some res) : kMi l yX1_apart wsX1_apart (kRm 3 0 0 68) dC dI cB cI cJ cZ [.ref (a 0), .int p0, .int p1, .int p2] sz (wSB cI cJ cZ a ce fr un sb se so sc wb we wo wc fb fe fo fc rm ac rf kn) .int (res) (wSB cI cJ cZ a ce fr un sb se so sc wb we wo wc fb fe fo fc rm ac rf kn) 0 0 := by
  refine kmet_i (y := yX1_apart) (cc := cX1_apart) (maxL := 4) (ret := (some .int)) RX1 (kvA 0 (a 0) (kvI 1 p0 (kvI 2 p1 (kvI 3 p2 kvE)))) kpl_X1 rfl rfl (Nat.le_of_ble_eq_true rfl) rfl (fun p e s m below meth c A ls hx hb hr hml hts hown hlocks hP hK hG hD hA hS hl => ?_)
  have hw0 := hts (.fieldLink RX1 9 "Spanbooker" "cells" "[J") (List.mem_cons_of_mem _ kw_107)
  have hiX1 : ∀ w ∈ u_ws RX1 TX1 10, w ∈ wsX1_apart := fun w h => List.mem_cons_of_mem _ (ku_X1 w h)
  have h := f_X1_apart_e.symm.trans hf
  refine lv_iload_n hx hb (kdr dgX1_apart_0 0 0 rfl rfl) rfl (lv_at hl 1 rfl) ?_
  obtain ⟨r1, g1, h⟩ := g_b h
  refine kq_v (wSB cI cJ cZ a ce fr un sb se so sc wb we wo wc fb fe fo fc rm ac rf kn) (fun qP qD qF => va_runS (As := [.int p0]) (rest := []) ⟨hx, hb, hml, hown, hts⟩ (c_X1_needCell l dC dI cB cI cJ cZ  _  p0 r1 g1) (kcwS hts kw_473 kv_X1_needCell rfl rfl ⟨(Nat.le_of_ble_eq_true rfl), (Nat.le_of_ble_eq_true rfl)⟩) (kpS (A := A) (kPnil) hK ((kDnil (A := A))) hG) rfl rfl hl.1 rfl (lv_room (Nat.le_of_ble_eq_true rfl)) (kdr dgX1_apart_0 0 1 rfl rfl) ⟨(Nat.le_of_ble_eq_true rfl), (Nat.le_of_ble_eq_true rfl)⟩) hP hD hS hA kFr_n (fun H locs hP hD hS => ?_)
  refine lv_iload_n hx hb (kdr dgX1_apart_0 0 2 rfl rfl) rfl (lv_at hl 2 rfl) ?_
  obtain ⟨r2, g2, h⟩ := g_b h
  refine kq_v (wSB cI cJ cZ a ce fr un sb se so sc wb we wo wc fb fe fo fc rm ac rf kn) (fun qP qD qF => va_runS (As := [.int p1]) (rest := []) ⟨hx, hb, hml, hown, hts⟩ (c_X1_needCell l dC dI cB cI cJ cZ  _  p1 r2 g2) (kcwS hts kw_473 kv_X1_needCell rfl rfl ⟨(Nat.le_of_ble_eq_true rfl), (Nat.le_of_ble_eq_true rfl)⟩) (kpS (A := A) (kPnil) hK ((kDnil (A := A))) hG) rfl rfl hl.1 rfl (lv_room (Nat.le_of_ble_eq_true rfl)) (kdr dgX1_apart_0 0 3 rfl rfl) ⟨(Nat.le_of_ble_eq_true rfl), (Nat.le_of_ble_eq_true rfl)⟩) hP hD hS hA kFr_n (fun H locs hP hD hS => ?_)
  refine lv_iload_n hx hb (kdr dgX1_apart_0 0 4 rfl rfl) rfl (lv_at hl 3 rfl) ?_
  refine lv_iconst (v := 0) hx hb (kdr dgX1_apart_0 0 5 rfl rfl) (by decide) ?_
  refine lv_iconst (v := 1) hx hb (kdr dgX1_apart_0 0 6 rfl rfl) (by decide) ?_
  obtain ⟨r3, g3, h⟩ := g_b h
  refine kq_i (wSB cI cJ cZ a ce fr un sb se so sc wb we wo wc fb fe fo fc rm ac rf kn) (fun qP qD qF => va_runS (As := [.int p2, .int 0, .int 1]) (rest := []) ⟨hx, hb, hml, hown, hts⟩ (c_X1_isWithin l dC dI cB cI cJ cZ  _  p2 0 1 r3 g3) (kcwS hts kw_354 kv_X1_isWithin rfl rfl ⟨(Nat.le_of_ble_eq_true rfl), (Nat.le_of_ble_eq_true rfl)⟩) (kpS (A := A) (kPnil) hK ((kDnil (A := A))) hG) rfl rfl hl.1 rfl (lv_room (Nat.le_of_ble_eq_true rfl)) (kdr dgX1_apart_0 0 7 rfl rfl) ⟨(Nat.le_of_ble_eq_true rfl), (Nat.le_of_ble_eq_true rfl)⟩) hP hD hS hA kFr_n (fun H locs hP hD hS br3 => ?_)
  obtain ⟨r4, g4, h⟩ := g_b h
  refine kq_v (wSB cI cJ cZ a ce fr un sb se so sc wb we wo wc fb fe fo fc rm ac rf kn) (fun qP qD qF => va_runS (As := [.int r3]) (rest := []) ⟨hx, hb, hml, hown, hts⟩ (c_X1_needThat l dC dI cB cI cJ cZ  _  r3 r4 g4) (kcwS hts kw_357 kv_X1_needThat rfl rfl ⟨(Nat.le_of_ble_eq_true rfl), (Nat.le_of_ble_eq_true rfl)⟩) (kpS (A := A) (kPnil) hK ((kDnil (A := A))) hG) rfl rfl hl.1 rfl (lv_room (Nat.le_of_ble_eq_true rfl)) (kdr dgX1_apart_0 0 8 rfl rfl) ⟨(Nat.le_of_ble_eq_true rfl), (Nat.le_of_ble_eq_true rfl)⟩) hP hD hS hA kFr_n (fun H locs hP hD hS => ?_)
  refine lv_aload_n hx hb (kdr dgX1_apart_0 0 9 rfl rfl) rfl (lv_at hl 0 rfl) ?_
  refine va_get (D := (dC, dI)) (ci := 3) (v := .ref (a 1)) (C := RX1) (T := TX1) (N := 10) hx hb hts hiX1 hown hK hP 0 rfl rfl 0 (by decide) hw0 (fun _ h9 => h9) rfl (kdr dgX1_apart_0 1 0 rfl rfl) ?_
  refine lv_iload_n hx hb (kdr dgX1_apart_0 1 1 rfl rfl) rfl (lv_at hl 2 rfl) ?_
  obtain ⟨z4, h⟩ := g_if h
  refine va_lald hx hb hK hP 1 2 rfl rfl (ix_in z4) (kdr dgX1_apart_0 1 2 rfl rfl) ?_
  refine lv_aload_n hx hb (kdr dgX1_apart_0 1 3 rfl rfl) rfl (lv_at hl 0 rfl) ?_
  refine va_get (D := (dC, dI)) (ci := 3) (v := .ref (a 1)) (C := RX1) (T := TX1) (N := 10) hx hb hts hiX1 hown hK hP 0 rfl rfl 0 (by decide) hw0 (fun _ h9 => h9) rfl (kdr dgX1_apart_0 1 4 rfl rfl) ?_
  refine lv_iload_n hx hb (kdr dgX1_apart_0 1 5 rfl rfl) rfl (lv_at hl 1 rfl) ?_
  obtain ⟨z5, h⟩ := g_if h
  refine va_lald hx hb hK hP 1 2 rfl rfl (ix_in z5) (kdr dgX1_apart_0 1 6 rfl rfl) ?_
  refine lv_lsub hx hb (kdr dgX1_apart_0 1 7 rfl rfl) ?_
  refine lv_iload_n hx hb (kdr dgX1_apart_0 1 8 rfl rfl) rfl (lv_at hl 3 rfl) ?_
  obtain ⟨r7, g7, h⟩ := g_b h
  refine kq_i (wSB cI cJ cZ a ce fr un sb se so sc wb we wo wc fb fe fo fc rm ac rf kn) (fun qP qD qF => va_runS (As := [.long ((ce p1.toNatClampNeg) - (ce p0.toNatClampNeg)), .int p2]) (rest := []) ⟨hx, hb, hml, hown, hts⟩ (c_X1_partOf l dC dI cB cI cJ cZ  _  ((ce p1.toNatClampNeg) - (ce p0.toNatClampNeg)) p2 r7 g7) (kcwS hts kw_427 kv_X1_partOf rfl rfl ⟨(Nat.le_of_ble_eq_true rfl), (Nat.le_of_ble_eq_true rfl)⟩) (kpS (A := A) (kPnil) hK ((kDnil (A := A))) hG) rfl rfl hl.1 rfl (lv_room (Nat.le_of_ble_eq_true rfl)) (kdr dgX1_apart_0 1 9 rfl rfl) ⟨(Nat.le_of_ble_eq_true rfl), (Nat.le_of_ble_eq_true rfl)⟩) hP hD hS hA kFr_n (fun H locs hP hD hS br7 => ?_)
  have h := Option.some.inj h
  subst h
  exact kret_i (v := r7) hx hb hr rfl hlocks hS hP (kdr dgX1_apart_0 2 0 rfl rfl)
noncomputable def fx_X1_apart (p0 : Int32) (p1 : Int32) (p2 : Int32) : Option (Nat) :=
  xb (fx_X1_needCell p0) (fun k1 => some k1) (
  (f_X1_needCell p0).bind fun r1 =>
  xb (fx_X1_needCell p1) (fun k2 => some k2) (
  (f_X1_needCell p1).bind fun r2 =>
  (f_X1_isWithin p2 0 1).bind fun r3 =>
  xb (fx_X1_needThat r3) (fun k4 => some k4) (
  none)))
theorem fx_X1_apart_e {p0 : Int32} {p1 : Int32} {p2 : Int32} : fx_X1_apart p0 p1 p2 = 
  xb (fx_X1_needCell p0) (fun k1 => some k1) (
  (f_X1_needCell p0).bind fun r1 =>
  xb (fx_X1_needCell p1) (fun k2 => some k2) (
  (f_X1_needCell p1).bind fun r2 =>
  (f_X1_isWithin p2 0 1).bind fun r3 =>
  xb (fx_X1_needThat r3) (fun k4 => some k4) (
  none))) := rfl
set_option maxHeartbeats 4000000 in
set_option maxRecDepth 100000 in
theorem x_X1_apart (l : Launch) (hl9 : l.stackTraces = false) (dC : Nat → ClassId) (dI : Nat → Nat → Nat) (cB cI cJ cZ : ClassId) (a : Nat → Nat) (sz : Nat) (ce : Nat → Int64) (fr : Int64) (un : Int64) (sb : Nat → Int64) (se : Nat → Int64) (so : Nat → Int32) (sc : Int32) (wb : Nat → Int64) (we : Nat → Int64) (wo : Nat → Int32) (wc : Int32) (fb : Nat → Int64) (fe : Nat → Int64) (fo : Nat → Int32) (fc : Int32) (rm : Nat → Int32) (ac : Int32) (rf : Int32) (kn : Int32) (p0 : Int32) (p1 : Int32) (p2 : Int32) (res : Nat) (hf : fx_X1_apart p0 p1 p2 = some res) : kMX l yX1_apart wsX1_apart (kRm 7 1 6 110) dC dI cB cI cJ cZ [.ref (a 0), .int p0, .int p1, .int p2] sz (wSB cI cJ cZ a ce fr un sb se so sc wb we wo wc fb fe fo fc rm ac rf kn) (res) (wSB cI cJ cZ a ce fr un sb se so sc wb we wo wc fb fe fo fc rm ac rf kn) 1 6 := by
  refine kmet_x (y := yX1_apart) (cc := cX1_apart) (maxL := 4) (ret := (some .int)) RX1 (kvA 0 (a 0) (kvI 1 p0 (kvI 2 p1 (kvI 3 p2 kvE)))) kpl_X1 rfl rfl (Nat.le_of_ble_eq_true rfl) rfl (fun p e s m below meth c A ls hx hb hr hml ht hts hown hlocks hP hK hG hZ hD hA hS hl => ?_)
  have h := fx_X1_apart_e.symm.trans hf
  refine lv_iload_n hx hb (kdr dgX1_apart_0 0 0 rfl rfl) rfl (lv_at hl 1 rfl) ?_
  rcases g_x h with ⟨k1, j1, h⟩ | ⟨-, h⟩
  · have h := Option.some.inj h
    subst h
    exact kq_x (wSB cI cJ cZ a ce fr un sb se so sc wb we wo wc fb fe fo fc rm ac rf kn) (fun qP qD qF => vx_runS (As := [.int p0]) (rest := []) ⟨hx, hb, hml, hown, hts⟩ (x_X1_needCell l hl9 dC dI cB cI cJ cZ  _  p0 k1 j1) (kcwS hts kw_473 kv_X1_needCell rfl rfl ⟨(Nat.le_of_ble_eq_true rfl), (Nat.le_of_ble_eq_true rfl)⟩) (kpSXq (A := A) (kPnil) hK ((kDnil (A := A))) hG hZ hS qF) rfl rfl hl.1 rfl (lv_room (Nat.le_of_ble_eq_true rfl)) (kdr dgX1_apart_0 0 1 rfl rfl) ⟨(Nat.le_of_ble_eq_true rfl), (Nat.le_of_ble_eq_true rfl)⟩) hP hD hS hA kFr_n ht hlocks (Nat.le_of_ble_eq_true rfl) (Nat.le_of_ble_eq_true rfl)
  · obtain ⟨r1, g1, h⟩ := g_b h
    refine kq_v (wSB cI cJ cZ a ce fr un sb se so sc wb we wo wc fb fe fo fc rm ac rf kn) (fun qP qD qF => va_runS (As := [.int p0]) (rest := []) ⟨hx, hb, hml, hown, hts⟩ (c_X1_needCell l dC dI cB cI cJ cZ  _  p0 r1 g1) (kcwS hts kw_473 kv_X1_needCell rfl rfl ⟨(Nat.le_of_ble_eq_true rfl), (Nat.le_of_ble_eq_true rfl)⟩) (kpS (A := A) (kPnil) hK ((kDnil (A := A))) hG) rfl rfl hl.1 rfl (lv_room (Nat.le_of_ble_eq_true rfl)) (kdr dgX1_apart_0 0 1 rfl rfl) ⟨(Nat.le_of_ble_eq_true rfl), (Nat.le_of_ble_eq_true rfl)⟩) hP hD hS hA kFr_n (fun H locs hP hD hS => ?_)
    refine lv_iload_n hx hb (kdr dgX1_apart_0 0 2 rfl rfl) rfl (lv_at hl 2 rfl) ?_
    rcases g_x h with ⟨k2, j2, h⟩ | ⟨-, h⟩
    · have h := Option.some.inj h
      subst h
      exact kq_x (wSB cI cJ cZ a ce fr un sb se so sc wb we wo wc fb fe fo fc rm ac rf kn) (fun qP qD qF => vx_runS (As := [.int p1]) (rest := []) ⟨hx, hb, hml, hown, hts⟩ (x_X1_needCell l hl9 dC dI cB cI cJ cZ  _  p1 k2 j2) (kcwS hts kw_473 kv_X1_needCell rfl rfl ⟨(Nat.le_of_ble_eq_true rfl), (Nat.le_of_ble_eq_true rfl)⟩) (kpSXq (A := A) (kPnil) hK ((kDnil (A := A))) hG hZ hS qF) rfl rfl hl.1 rfl (lv_room (Nat.le_of_ble_eq_true rfl)) (kdr dgX1_apart_0 0 3 rfl rfl) ⟨(Nat.le_of_ble_eq_true rfl), (Nat.le_of_ble_eq_true rfl)⟩) hP hD hS hA kFr_n ht hlocks (Nat.le_of_ble_eq_true rfl) (Nat.le_of_ble_eq_true rfl)
    · obtain ⟨r2, g2, h⟩ := g_b h
      refine kq_v (wSB cI cJ cZ a ce fr un sb se so sc wb we wo wc fb fe fo fc rm ac rf kn) (fun qP qD qF => va_runS (As := [.int p1]) (rest := []) ⟨hx, hb, hml, hown, hts⟩ (c_X1_needCell l dC dI cB cI cJ cZ  _  p1 r2 g2) (kcwS hts kw_473 kv_X1_needCell rfl rfl ⟨(Nat.le_of_ble_eq_true rfl), (Nat.le_of_ble_eq_true rfl)⟩) (kpS (A := A) (kPnil) hK ((kDnil (A := A))) hG) rfl rfl hl.1 rfl (lv_room (Nat.le_of_ble_eq_true rfl)) (kdr dgX1_apart_0 0 3 rfl rfl) ⟨(Nat.le_of_ble_eq_true rfl), (Nat.le_of_ble_eq_true rfl)⟩) hP hD hS hA kFr_n (fun H locs hP hD hS => ?_)
      refine lv_iload_n hx hb (kdr dgX1_apart_0 0 4 rfl rfl) rfl (lv_at hl 3 rfl) ?_
      refine lv_iconst (v := 0) hx hb (kdr dgX1_apart_0 0 5 rfl rfl) (by decide) ?_
      refine lv_iconst (v := 1) hx hb (kdr dgX1_apart_0 0 6 rfl rfl) (by decide) ?_
      obtain ⟨r3, g3, h⟩ := g_b h
      refine kq_i (wSB cI cJ cZ a ce fr un sb se so sc wb we wo wc fb fe fo fc rm ac rf kn) (fun qP qD qF => va_runS (As := [.int p2, .int 0, .int 1]) (rest := []) ⟨hx, hb, hml, hown, hts⟩ (c_X1_isWithin l dC dI cB cI cJ cZ  _  p2 0 1 r3 g3) (kcwS hts kw_354 kv_X1_isWithin rfl rfl ⟨(Nat.le_of_ble_eq_true rfl), (Nat.le_of_ble_eq_true rfl)⟩) (kpS (A := A) (kPnil) hK ((kDnil (A := A))) hG) rfl rfl hl.1 rfl (lv_room (Nat.le_of_ble_eq_true rfl)) (kdr dgX1_apart_0 0 7 rfl rfl) ⟨(Nat.le_of_ble_eq_true rfl), (Nat.le_of_ble_eq_true rfl)⟩) hP hD hS hA kFr_n (fun H locs hP hD hS br3 => ?_)
      rcases g_x h with ⟨k4, j4, h⟩ | ⟨-, h⟩
      · have h := Option.some.inj h
        subst h
        exact kq_x (wSB cI cJ cZ a ce fr un sb se so sc wb we wo wc fb fe fo fc rm ac rf kn) (fun qP qD qF => vx_runS (As := [.int r3]) (rest := []) ⟨hx, hb, hml, hown, hts⟩ (x_X1_needThat l hl9 dC dI cB cI cJ cZ  _  r3 k4 j4) (kcwS hts kw_357 kv_X1_needThat rfl rfl ⟨(Nat.le_of_ble_eq_true rfl), (Nat.le_of_ble_eq_true rfl)⟩) (kpSXq (A := A) (kPnil) hK ((kDnil (A := A))) hG hZ hS qF) rfl rfl hl.1 rfl (lv_room (Nat.le_of_ble_eq_true rfl)) (kdr dgX1_apart_0 0 8 rfl rfl) ⟨(Nat.le_of_ble_eq_true rfl), (Nat.le_of_ble_eq_true rfl)⟩) hP hD hS hA kFr_n ht hlocks (Nat.le_of_ble_eq_true rfl) (Nat.le_of_ble_eq_true rfl)
      · cases h
noncomputable abbrev wsX1_calendar : List Cond := kWs yX1_calendar cX1_calendar 2 (some .int)
noncomputable def f_X1_calendar_25 (x1 : Int32) (y0 : Int64) : Option (Int32) :=
  (f_X1_partOf y0 x1).bind fun r1 =>
  some r1
theorem f_X1_calendar_25_e {x1 : Int32} {y0 : Int64} : f_X1_calendar_25 x1 y0 =
  (f_X1_partOf y0 x1).bind fun r1 =>
  some r1 := rfl
noncomputable def f_X1_calendar (fr : Int64) (un : Int64) (p0 : Int32) : Option (Int32) :=
  (f_X1_isWithin p0 0 3).bind fun r1 =>
  (f_X1_needThat r1).bind fun r2 =>
  if 2 ≤ p0 then
    f_X1_calendar_25 p0 un
  else
    f_X1_calendar_25 p0 fr
theorem f_X1_calendar_e {fr : Int64} {un : Int64} {p0 : Int32} : f_X1_calendar fr un p0 = 
  (f_X1_isWithin p0 0 3).bind fun r1 =>
  (f_X1_needThat r1).bind fun r2 =>
  if 2 ≤ p0 then
    f_X1_calendar_25 p0 un
  else
    f_X1_calendar_25 p0 fr := rfl
set_option maxHeartbeats 4000000 in
set_option maxRecDepth 100000 in
theorem c_X1_calendar (l : Launch) (dC : Nat → ClassId) (dI : Nat → Nat → Nat) (cB cI cJ cZ : ClassId) (a : Nat → Nat) (sz : Nat) (ce : Nat → Int64) (fr : Int64) (un : Int64) (sb : Nat → Int64) (se : Nat → Int64) (so : Nat → Int32) (sc : Int32) (wb : Nat → Int64) (we : Nat → Int64) (wo : Nat → Int32) (wc : Int32) (fb : Nat → Int64) (fe : Nat → Int64) (fo : Nat → Int32) (fc : Int32) (rm : Nat → Int32) (ac : Int32) (rf : Int32) (kn : Int32) (p0 : Int32) (res : Int32) (hf : f_X1_calendar fr un p0 = some res) : kMi l yX1_calendar wsX1_calendar (kRm 3 0 0 68) dC dI cB cI cJ cZ [.ref (a 0), .int p0] sz (wSB cI cJ cZ a ce fr un sb se so sc wb we wo wc fb fe fo fc rm ac rf kn) .int (res) (wSB cI cJ cZ a ce fr un sb se so sc wb we wo wc fb fe fo fc rm ac rf kn) 0 0 := by
  refine kmet_i (y := yX1_calendar) (cc := cX1_calendar) (maxL := 2) (ret := (some .int)) RX1 (kvA 0 (a 0) (kvI 1 p0 kvE)) kpl_X1 rfl rfl (Nat.le_of_ble_eq_true rfl) rfl (fun p e s m below meth c A ls hx hb hr hml hts hown hlocks hP hK hG hD hA hS hl => ?_)
  have hw0 := hts (.fieldLink RX1 19 "Spanbooker" "until" "J") (List.mem_cons_of_mem _ kw_109)
  have hw1 := hts (.fieldLink RX1 13 "Spanbooker" "from" "J") (List.mem_cons_of_mem _ kw_108)
  have hiX1 : ∀ w ∈ u_ws RX1 TX1 10, w ∈ wsX1_calendar := fun w h => List.mem_cons_of_mem _ (ku_X1 w h)
  have J25 : ∀ (ce : Nat → Int64) (fr : Int64) (un : Int64) (sb : Nat → Int64) (se : Nat → Int64) (so : Nat → Int32) (sc : Int32) (wb : Nat → Int64) (we : Nat → Int64) (wo : Nat → Int32) (wc : Int32) (fb : Nat → Int64) (fe : Nat → Int64) (fo : Nat → Int32) (fc : Int32) (rm : Nat → Int32) (ac : Int32) (rf : Int32) (kn : Int32) (x1 : Int32) (y0 : Int64) (H : Heap) (locs : List Loc), va_P (dC, dI) vwCl (wSB cI cJ cZ a ce fr un sb se so sc wb we wo wc fb fe fo fc rm ac rf kn) H → va_D A (wSB cI cJ cZ a ce fr un sb se so sc wb we wo wc fb fe fo fc rm ac rf kn) → va_S A s.heap H locs → ∀ (ls : Array Slot), lv_has ls 2 (kvI 1 x1 kvE) → f_X1_calendar_25 x1 y0 = some res → W p l e (headSpec wsX1_calendar (kRm 3 0 0 68)).room s m ([.ref (a 0), .int p0] : List Value).toArray below meth c H locs 0 0 (MQ below (kI (dC, dI) .int (res) (wSB cI cJ cZ a ce fr un sb se so sc wb we wo wc fb fe fo fc rm ac rf kn) A) ([.ref (a 0), .int p0] : List Value).toArray s 0 0 A) (F0 m 25 ls [.long y0]) := by
    intro ce fr un sb se so sc wb we wo wc fb fe fo fc rm ac rf kn x1 y0 H locs hP hD hS ls hl h
    have h := f_X1_calendar_25_e.symm.trans h
    refine lv_iload_n hx hb (kdr dgX1_calendar_0 1 3 rfl rfl) rfl (lv_at hl 0 rfl) ?_
    obtain ⟨r1, g1, h⟩ := g_b h
    refine kq_i (wSB cI cJ cZ a ce fr un sb se so sc wb we wo wc fb fe fo fc rm ac rf kn) (fun qP qD qF => va_runS (As := [.long y0, .int x1]) (rest := []) ⟨hx, hb, hml, hown, hts⟩ (c_X1_partOf l dC dI cB cI cJ cZ  _  y0 x1 r1 g1) (kcwS hts kw_427 kv_X1_partOf rfl rfl ⟨(Nat.le_of_ble_eq_true rfl), (Nat.le_of_ble_eq_true rfl)⟩) (kpS (A := A) (kPnil) hK ((kDnil (A := A))) hG) rfl rfl hl.1 rfl (lv_room (Nat.le_of_ble_eq_true rfl)) (kdr dgX1_calendar_0 1 4 rfl rfl) ⟨(Nat.le_of_ble_eq_true rfl), (Nat.le_of_ble_eq_true rfl)⟩) hP hD hS hA kFr_n (fun H locs hP hD hS br1 => ?_)
    have h := Option.some.inj h
    subst h
    exact kret_i (v := r1) hx hb hr rfl hlocks hS hP (kdr dgX1_calendar_0 1 5 rfl rfl)
  have h := f_X1_calendar_e.symm.trans hf
  refine lv_iload_n hx hb (kdr dgX1_calendar_0 0 0 rfl rfl) rfl (lv_at hl 1 rfl) ?_
  refine lv_iconst (v := 0) hx hb (kdr dgX1_calendar_0 0 1 rfl rfl) (by decide) ?_
  refine lv_iconst (v := 3) hx hb (kdr dgX1_calendar_0 0 2 rfl rfl) (by decide) ?_
  obtain ⟨r1, g1, h⟩ := g_b h
  refine kq_i (wSB cI cJ cZ a ce fr un sb se so sc wb we wo wc fb fe fo fc rm ac rf kn) (fun qP qD qF => va_runS (As := [.int p0, .int 0, .int 3]) (rest := []) ⟨hx, hb, hml, hown, hts⟩ (c_X1_isWithin l dC dI cB cI cJ cZ  _  p0 0 3 r1 g1) (kcwS hts kw_354 kv_X1_isWithin rfl rfl ⟨(Nat.le_of_ble_eq_true rfl), (Nat.le_of_ble_eq_true rfl)⟩) (kpS (A := A) (kPnil) hK ((kDnil (A := A))) hG) rfl rfl hl.1 rfl (lv_room (Nat.le_of_ble_eq_true rfl)) (kdr dgX1_calendar_0 0 3 rfl rfl) ⟨(Nat.le_of_ble_eq_true rfl), (Nat.le_of_ble_eq_true rfl)⟩) hP hD hS hA kFr_n (fun H locs hP hD hS br1 => ?_)
  obtain ⟨r2, g2, h⟩ := g_b h
  refine kq_v (wSB cI cJ cZ a ce fr un sb se so sc wb we wo wc fb fe fo fc rm ac rf kn) (fun qP qD qF => va_runS (As := [.int r1]) (rest := []) ⟨hx, hb, hml, hown, hts⟩ (c_X1_needThat l dC dI cB cI cJ cZ  _  r1 r2 g2) (kcwS hts kw_357 kv_X1_needThat rfl rfl ⟨(Nat.le_of_ble_eq_true rfl), (Nat.le_of_ble_eq_true rfl)⟩) (kpS (A := A) (kPnil) hK ((kDnil (A := A))) hG) rfl rfl hl.1 rfl (lv_room (Nat.le_of_ble_eq_true rfl)) (kdr dgX1_calendar_0 0 4 rfl rfl) ⟨(Nat.le_of_ble_eq_true rfl), (Nat.le_of_ble_eq_true rfl)⟩) hP hD hS hA kFr_n (fun H locs hP hD hS => ?_)
  refine lv_iload_n hx hb (kdr dgX1_calendar_0 0 5 rfl rfl) rfl (lv_at hl 1 rfl) ?_
  refine lv_iconst (v := 2) hx hb (kdr dgX1_calendar_0 0 6 rfl rfl) (by decide) ?_
  refine lv_icmp_ge (tgt := 21) hx hb (kdr dgX1_calendar_0 0 7 rfl rfl) (by decide) (fun c3 => ?_) (fun c3 => ?_)
  · have h := g_t c3 h
    refine lv_aload_n hx hb (kdr dgX1_calendar_0 1 1 rfl rfl) rfl (lv_at hl 0 rfl) ?_
    refine va_get (D := (dC, dI)) (ci := 3) (v := .long un) (C := RX1) (T := TX1) (N := 10) hx hb hts hiX1 hown hK hP 0 rfl rfl 2 (by decide) hw0 (fun _ h9 => h9) rfl (kdr dgX1_calendar_0 1 2 rfl rfl) ?_
    exact J25 ce fr un sb se so sc wb we wo wc fb fe fo fc rm ac rf kn p0 un _ _ hP hD hS ls (lv_sub hl [1] rfl) h
  · have h := g_f c3 h
    refine lv_aload_n hx hb (kdr dgX1_calendar_0 0 8 rfl rfl) rfl (lv_at hl 0 rfl) ?_
    refine va_get (D := (dC, dI)) (ci := 3) (v := .long fr) (C := RX1) (T := TX1) (N := 10) hx hb hts hiX1 hown hK hP 0 rfl rfl 1 (by decide) hw1 (fun _ h9 => h9) rfl (kdr dgX1_calendar_0 0 9 rfl rfl) ?_
    refine lv_goto (tgt := 25) hx hb (kdr dgX1_calendar_0 1 0 rfl rfl) (by decide) ?_
    exact J25 ce fr un sb se so sc wb we wo wc fb fe fo fc rm ac rf kn p0 fr _ _ hP hD hS ls (lv_sub hl [1] rfl) h
noncomputable def fx_X1_calendar (p0 : Int32) : Option (Nat) :=
  (f_X1_isWithin p0 0 3).bind fun r1 =>
  xb (fx_X1_needThat r1) (fun k2 => some k2) (
  none)
theorem fx_X1_calendar_e {p0 : Int32} : fx_X1_calendar p0 = 
  (f_X1_isWithin p0 0 3).bind fun r1 =>
  xb (fx_X1_needThat r1) (fun k2 => some k2) (
  none) := rfl
set_option maxHeartbeats 4000000 in
set_option maxRecDepth 100000 in
theorem x_X1_calendar (l : Launch) (hl9 : l.stackTraces = false) (dC : Nat → ClassId) (dI : Nat → Nat → Nat) (cB cI cJ cZ : ClassId) (a : Nat → Nat) (sz : Nat) (ce : Nat → Int64) (fr : Int64) (un : Int64) (sb : Nat → Int64) (se : Nat → Int64) (so : Nat → Int32) (sc : Int32) (wb : Nat → Int64) (we : Nat → Int64) (wo : Nat → Int32) (wc : Int32) (fb : Nat → Int64) (fe : Nat → Int64) (fo : Nat → Int32) (fc : Int32) (rm : Nat → Int32) (ac : Int32) (rf : Int32) (kn : Int32) (p0 : Int32) (res : Nat) (hf : fx_X1_calendar p0 = some res) : kMX l yX1_calendar wsX1_calendar (kRm 7 1 6 110) dC dI cB cI cJ cZ [.ref (a 0), .int p0] sz (wSB cI cJ cZ a ce fr un sb se so sc wb we wo wc fb fe fo fc rm ac rf kn) (res) (wSB cI cJ cZ a ce fr un sb se so sc wb we wo wc fb fe fo fc rm ac rf kn) 1 6 := by
  refine kmet_x (y := yX1_calendar) (cc := cX1_calendar) (maxL := 2) (ret := (some .int)) RX1 (kvA 0 (a 0) (kvI 1 p0 kvE)) kpl_X1 rfl rfl (Nat.le_of_ble_eq_true rfl) rfl (fun p e s m below meth c A ls hx hb hr hml ht hts hown hlocks hP hK hG hZ hD hA hS hl => ?_)
  have h := fx_X1_calendar_e.symm.trans hf
  refine lv_iload_n hx hb (kdr dgX1_calendar_0 0 0 rfl rfl) rfl (lv_at hl 1 rfl) ?_
  refine lv_iconst (v := 0) hx hb (kdr dgX1_calendar_0 0 1 rfl rfl) (by decide) ?_
  refine lv_iconst (v := 3) hx hb (kdr dgX1_calendar_0 0 2 rfl rfl) (by decide) ?_
  obtain ⟨r1, g1, h⟩ := g_b h
  refine kq_i (wSB cI cJ cZ a ce fr un sb se so sc wb we wo wc fb fe fo fc rm ac rf kn) (fun qP qD qF => va_runS (As := [.int p0, .int 0, .int 3]) (rest := []) ⟨hx, hb, hml, hown, hts⟩ (c_X1_isWithin l dC dI cB cI cJ cZ  _  p0 0 3 r1 g1) (kcwS hts kw_354 kv_X1_isWithin rfl rfl ⟨(Nat.le_of_ble_eq_true rfl), (Nat.le_of_ble_eq_true rfl)⟩) (kpS (A := A) (kPnil) hK ((kDnil (A := A))) hG) rfl rfl hl.1 rfl (lv_room (Nat.le_of_ble_eq_true rfl)) (kdr dgX1_calendar_0 0 3 rfl rfl) ⟨(Nat.le_of_ble_eq_true rfl), (Nat.le_of_ble_eq_true rfl)⟩) hP hD hS hA kFr_n (fun H locs hP hD hS br1 => ?_)
  rcases g_x h with ⟨k2, j2, h⟩ | ⟨-, h⟩
  · have h := Option.some.inj h
    subst h
    exact kq_x (wSB cI cJ cZ a ce fr un sb se so sc wb we wo wc fb fe fo fc rm ac rf kn) (fun qP qD qF => vx_runS (As := [.int r1]) (rest := []) ⟨hx, hb, hml, hown, hts⟩ (x_X1_needThat l hl9 dC dI cB cI cJ cZ  _  r1 k2 j2) (kcwS hts kw_357 kv_X1_needThat rfl rfl ⟨(Nat.le_of_ble_eq_true rfl), (Nat.le_of_ble_eq_true rfl)⟩) (kpSXq (A := A) (kPnil) hK ((kDnil (A := A))) hG hZ hS qF) rfl rfl hl.1 rfl (lv_room (Nat.le_of_ble_eq_true rfl)) (kdr dgX1_calendar_0 0 4 rfl rfl) ⟨(Nat.le_of_ble_eq_true rfl), (Nat.le_of_ble_eq_true rfl)⟩) hP hD hS hA kFr_n ht hlocks (Nat.le_of_ble_eq_true rfl) (Nat.le_of_ble_eq_true rfl)
  · cases h
noncomputable abbrev wsX1_spans : List Cond := kWs yX1_spans cX1_spans 1 (some .int)
noncomputable def f_X1_spans (sc : Int32) : Option (Int32) :=
  (f_X0_count sc).bind fun r1 =>
  some r1
theorem f_X1_spans_e {sc : Int32} : f_X1_spans sc = 
  (f_X0_count sc).bind fun r1 =>
  some r1 := rfl
set_option maxHeartbeats 4000000 in
set_option maxRecDepth 100000 in
theorem c_X1_spans (l : Launch) (dC : Nat → ClassId) (dI : Nat → Nat → Nat) (cB cI cJ cZ : ClassId) (a : Nat → Nat) (sz : Nat) (ce : Nat → Int64) (fr : Int64) (un : Int64) (sb : Nat → Int64) (se : Nat → Int64) (so : Nat → Int32) (sc : Int32) (wb : Nat → Int64) (we : Nat → Int64) (wo : Nat → Int32) (wc : Int32) (fb : Nat → Int64) (fe : Nat → Int64) (fo : Nat → Int32) (fc : Int32) (rm : Nat → Int32) (ac : Int32) (rf : Int32) (kn : Int32) (res : Int32) (hf : f_X1_spans sc = some res) : kMi l yX1_spans wsX1_spans (kRm 1 0 0 20) dC dI cB cI cJ cZ [.ref (a 0)] sz (wSB cI cJ cZ a ce fr un sb se so sc wb we wo wc fb fe fo fc rm ac rf kn) .int (res) (wSB cI cJ cZ a ce fr un sb se so sc wb we wo wc fb fe fo fc rm ac rf kn) 0 0 := by
  refine kmet_i (y := yX1_spans) (cc := cX1_spans) (maxL := 1) (ret := (some .int)) RX1 (kvA 0 (a 0) kvE) kpl_X1 rfl rfl (Nat.le_of_ble_eq_true rfl) rfl (fun p e s m below meth c A ls hx hb hr hml hts hown hlocks hP hK hG hD hA hS hl => ?_)
  have hw0 := hts (.fieldLink RX1 25 "Spanbooker" "spanRow" "LSpanbooker$Row;") (List.mem_cons_of_mem _ kw_110)
  have hiX1 : ∀ w ∈ u_ws RX1 TX1 10, w ∈ wsX1_spans := fun w h => List.mem_cons_of_mem _ (ku_X1 w h)
  have h := f_X1_spans_e.symm.trans hf
  refine lv_aload_n hx hb (kdr dgX1_spans_0 0 0 rfl rfl) rfl (lv_at hl 0 rfl) ?_
  refine va_get (D := (dC, dI)) (ci := 3) (v := .ref (a 2)) (C := RX1) (T := TX1) (N := 10) hx hb hts hiX1 hown hK hP 0 rfl rfl 3 (by decide) hw0 (fun _ h9 => h9) rfl (kdr dgX1_spans_0 0 1 rfl rfl) ?_
  obtain ⟨r1, g1, h⟩ := g_b h
  refine kq_i (wSB cI cJ cZ a ce fr un sb se so sc wb we wo wc fb fe fo fc rm ac rf kn) (fun qP qD qF => va_runV (As := []) (rest := []) ⟨hx, hb, hml, hown, hts⟩ (c_X0_count l dC dI cB cI cJ cZ (a 2) (a 3) (a 4) (a 5) _ sb se so sc  r1 g1) (kcwV hts kw_155 kv_X0_count rfl rfl ⟨(Nat.le_of_ble_eq_true rfl), (Nat.le_of_ble_eq_true rfl)⟩) (kpV (A := A) qP hK qD hG (krecv_2 (q0 := 2) hK hP rfl)) rfl rfl hl.1 rfl (lv_room (Nat.le_of_ble_eq_true rfl)) (kdr dgX1_spans_0 0 2 rfl rfl) ⟨(Nat.le_of_ble_eq_true rfl), (Nat.le_of_ble_eq_true rfl)⟩) hP hD hS hA kFr_SBs (fun H locs hP hD hS br1 => ?_)
  have h := Option.some.inj h
  subst h
  exact kret_i (v := r1) hx hb hr rfl hlocks hS hP (kdr dgX1_spans_0 0 3 rfl rfl)
noncomputable abbrev wsX1_ofSpan : List Cond := kWs yX1_ofSpan cX1_ofSpan 3 (some .int)
noncomputable def f_X1_ofSpan (sb : Nat → Int64) (se : Nat → Int64) (so : Nat → Int32) (sc : Int32) (p0 : Int32) (p1 : Int32) : Option (Int32) :=
  (f_X1_needNumberIn sc p0).bind fun r1 =>
  (f_X1_isWithin p1 0 4).bind fun r2 =>
  (f_X1_needThat r2).bind fun r3 =>
  if p1 = 4 then
    (f_X0_isOver so sc p0).bind fun r5 =>
    if r5 = 0 then
      some 0
    else
      some 1
  else
    (f_X1_partIn sb se sc p0 p1).bind fun r5 =>
    some r5
theorem f_X1_ofSpan_e {sb : Nat → Int64} {se : Nat → Int64} {so : Nat → Int32} {sc : Int32} {p0 : Int32} {p1 : Int32} : f_X1_ofSpan sb se so sc p0 p1 = 
  (f_X1_needNumberIn sc p0).bind fun r1 =>
  (f_X1_isWithin p1 0 4).bind fun r2 =>
  (f_X1_needThat r2).bind fun r3 =>
  if p1 = 4 then
    (f_X0_isOver so sc p0).bind fun r5 =>
    if r5 = 0 then
      some 0
    else
      some 1
  else
    (f_X1_partIn sb se sc p0 p1).bind fun r5 =>
    some r5 := rfl
set_option maxHeartbeats 4000000 in
set_option maxRecDepth 100000 in
theorem c_X1_ofSpan (l : Launch) (dC : Nat → ClassId) (dI : Nat → Nat → Nat) (cB cI cJ cZ : ClassId) (a : Nat → Nat) (sz : Nat) (ce : Nat → Int64) (fr : Int64) (un : Int64) (sb : Nat → Int64) (se : Nat → Int64) (so : Nat → Int32) (sc : Int32) (wb : Nat → Int64) (we : Nat → Int64) (wo : Nat → Int32) (wc : Int32) (fb : Nat → Int64) (fe : Nat → Int64) (fo : Nat → Int32) (fc : Int32) (rm : Nat → Int32) (ac : Int32) (rf : Int32) (kn : Int32) (p0 : Int32) (p1 : Int32) (res : Int32) (hf : f_X1_ofSpan sb se so sc p0 p1 = some res) : kMi l yX1_ofSpan wsX1_ofSpan (kRm 4 0 0 90) dC dI cB cI cJ cZ [.ref (a 0), .int p0, .int p1] sz (wSB cI cJ cZ a ce fr un sb se so sc wb we wo wc fb fe fo fc rm ac rf kn) .int (res) (wSB cI cJ cZ a ce fr un sb se so sc wb we wo wc fb fe fo fc rm ac rf kn) 0 0 := by
  refine kmet_i (y := yX1_ofSpan) (cc := cX1_ofSpan) (maxL := 3) (ret := (some .int)) RX1 (kvA 0 (a 0) (kvI 1 p0 (kvI 2 p1 kvE))) kpl_X1 rfl rfl (Nat.le_of_ble_eq_true rfl) rfl (fun p e s m below meth c A ls hx hb hr hml hts hown hlocks hP hK hG hD hA hS hl => ?_)
  have hw0 := hts (.fieldLink RX1 25 "Spanbooker" "spanRow" "LSpanbooker$Row;") (List.mem_cons_of_mem _ kw_110)
  have hiX1 : ∀ w ∈ u_ws RX1 TX1 10, w ∈ wsX1_ofSpan := fun w h => List.mem_cons_of_mem _ (ku_X1 w h)
  have h := f_X1_ofSpan_e.symm.trans hf
  refine lv_aload_n hx hb (kdr dgX1_ofSpan_0 0 0 rfl rfl) rfl (lv_at hl 0 rfl) ?_
  refine va_get (D := (dC, dI)) (ci := 3) (v := .ref (a 2)) (C := RX1) (T := TX1) (N := 10) hx hb hts hiX1 hown hK hP 0 rfl rfl 3 (by decide) hw0 (fun _ h9 => h9) rfl (kdr dgX1_ofSpan_0 0 1 rfl rfl) ?_
  refine lv_iload_n hx hb (kdr dgX1_ofSpan_0 0 2 rfl rfl) rfl (lv_at hl 1 rfl) ?_
  obtain ⟨r1, g1, h⟩ := g_b h
  refine kq_v (wSB cI cJ cZ a ce fr un sb se so sc wb we wo wc fb fe fo fc rm ac rf kn) (fun qP qD qF => va_runS (As := [.ref (a 2), .int p0]) (rest := []) ⟨hx, hb, hml, hown, hts⟩ (c_X1_needNumberIn l dC dI cB cI cJ cZ (a 2) (a 3) (a 4) (a 5) _ sb se so sc p0 r1 g1) (kcwS hts kw_592 kv_X1_needNumberIn rfl rfl ⟨(Nat.le_of_ble_eq_true rfl), (Nat.le_of_ble_eq_true rfl)⟩) (kpS (A := A) qP hK qD hG) rfl rfl hl.1 rfl (lv_room (Nat.le_of_ble_eq_true rfl)) (kdr dgX1_ofSpan_0 0 3 rfl rfl) ⟨(Nat.le_of_ble_eq_true rfl), (Nat.le_of_ble_eq_true rfl)⟩) hP hD hS hA kFr_SBs (fun H locs hP hD hS => ?_)
  refine lv_iload_n hx hb (kdr dgX1_ofSpan_0 0 4 rfl rfl) rfl (lv_at hl 2 rfl) ?_
  refine lv_iconst (v := 0) hx hb (kdr dgX1_ofSpan_0 0 5 rfl rfl) (by decide) ?_
  refine lv_iconst (v := 4) hx hb (kdr dgX1_ofSpan_0 0 6 rfl rfl) (by decide) ?_
  obtain ⟨r2, g2, h⟩ := g_b h
  refine kq_i (wSB cI cJ cZ a ce fr un sb se so sc wb we wo wc fb fe fo fc rm ac rf kn) (fun qP qD qF => va_runS (As := [.int p1, .int 0, .int 4]) (rest := []) ⟨hx, hb, hml, hown, hts⟩ (c_X1_isWithin l dC dI cB cI cJ cZ  _  p1 0 4 r2 g2) (kcwS hts kw_354 kv_X1_isWithin rfl rfl ⟨(Nat.le_of_ble_eq_true rfl), (Nat.le_of_ble_eq_true rfl)⟩) (kpS (A := A) (kPnil) hK ((kDnil (A := A))) hG) rfl rfl hl.1 rfl (lv_room (Nat.le_of_ble_eq_true rfl)) (kdr dgX1_ofSpan_0 0 7 rfl rfl) ⟨(Nat.le_of_ble_eq_true rfl), (Nat.le_of_ble_eq_true rfl)⟩) hP hD hS hA kFr_n (fun H locs hP hD hS br2 => ?_)
  obtain ⟨r3, g3, h⟩ := g_b h
  refine kq_v (wSB cI cJ cZ a ce fr un sb se so sc wb we wo wc fb fe fo fc rm ac rf kn) (fun qP qD qF => va_runS (As := [.int r2]) (rest := []) ⟨hx, hb, hml, hown, hts⟩ (c_X1_needThat l dC dI cB cI cJ cZ  _  r2 r3 g3) (kcwS hts kw_357 kv_X1_needThat rfl rfl ⟨(Nat.le_of_ble_eq_true rfl), (Nat.le_of_ble_eq_true rfl)⟩) (kpS (A := A) (kPnil) hK ((kDnil (A := A))) hG) rfl rfl hl.1 rfl (lv_room (Nat.le_of_ble_eq_true rfl)) (kdr dgX1_ofSpan_0 0 8 rfl rfl) ⟨(Nat.le_of_ble_eq_true rfl), (Nat.le_of_ble_eq_true rfl)⟩) hP hD hS hA kFr_n (fun H locs hP hD hS => ?_)
  refine lv_iload_n hx hb (kdr dgX1_ofSpan_0 0 9 rfl rfl) rfl (lv_at hl 2 rfl) ?_
  refine lv_iconst (v := 4) hx hb (kdr dgX1_ofSpan_0 1 0 rfl rfl) (by decide) ?_
  refine lv_icmp_ne (tgt := 39) hx hb (kdr dgX1_ofSpan_0 1 1 rfl rfl) (by decide) (fun c4 => ?_) (fun c4 => ?_)
  · have h := g_f c4 h
    refine lv_aload_n hx hb (kdr dgX1_ofSpan_0 2 1 rfl rfl) rfl (lv_at hl 0 rfl) ?_
    refine va_get (D := (dC, dI)) (ci := 3) (v := .ref (a 2)) (C := RX1) (T := TX1) (N := 10) hx hb hts hiX1 hown hK hP 0 rfl rfl 3 (by decide) hw0 (fun _ h9 => h9) rfl (kdr dgX1_ofSpan_0 2 2 rfl rfl) ?_
    refine lv_iload_n hx hb (kdr dgX1_ofSpan_0 2 3 rfl rfl) rfl (lv_at hl 1 rfl) ?_
    refine lv_iload_n hx hb (kdr dgX1_ofSpan_0 2 4 rfl rfl) rfl (lv_at hl 2 rfl) ?_
    obtain ⟨r5, g5, h⟩ := g_b h
    refine kq_i (wSB cI cJ cZ a ce fr un sb se so sc wb we wo wc fb fe fo fc rm ac rf kn) (fun qP qD qF => va_runS (As := [.ref (a 2), .int p0, .int p1]) (rest := []) ⟨hx, hb, hml, hown, hts⟩ (c_X1_partIn l dC dI cB cI cJ cZ (a 2) (a 3) (a 4) (a 5) _ sb se so sc p0 p1 r5 g5) (kcwS hts kw_433 kv_X1_partIn rfl rfl ⟨(Nat.le_of_ble_eq_true rfl), (Nat.le_of_ble_eq_true rfl)⟩) (kpS (A := A) qP hK qD hG) rfl rfl hl.1 rfl (lv_room (Nat.le_of_ble_eq_true rfl)) (kdr dgX1_ofSpan_0 2 5 rfl rfl) ⟨(Nat.le_of_ble_eq_true rfl), (Nat.le_of_ble_eq_true rfl)⟩) hP hD hS hA kFr_SBs (fun H locs hP hD hS br5 => ?_)
    have h := Option.some.inj h
    subst h
    exact kret_i (v := r5) hx hb hr rfl hlocks hS hP (kdr dgX1_ofSpan_0 2 6 rfl rfl)
  · have h := g_t c4 h
    refine lv_aload_n hx hb (kdr dgX1_ofSpan_0 1 2 rfl rfl) rfl (lv_at hl 0 rfl) ?_
    refine va_get (D := (dC, dI)) (ci := 3) (v := .ref (a 2)) (C := RX1) (T := TX1) (N := 10) hx hb hts hiX1 hown hK hP 0 rfl rfl 3 (by decide) hw0 (fun _ h9 => h9) rfl (kdr dgX1_ofSpan_0 1 3 rfl rfl) ?_
    refine lv_iload_n hx hb (kdr dgX1_ofSpan_0 1 4 rfl rfl) rfl (lv_at hl 1 rfl) ?_
    obtain ⟨r5, g5, h⟩ := g_b h
    refine kq_i (wSB cI cJ cZ a ce fr un sb se so sc wb we wo wc fb fe fo fc rm ac rf kn) (fun qP qD qF => va_runV (As := [.int p0]) (rest := []) ⟨hx, hb, hml, hown, hts⟩ (c_X0_isOver l dC dI cB cI cJ cZ (a 2) (a 3) (a 4) (a 5) _ sb se so sc p0 r5 g5) (kcwV hts kw_280 kv_X0_isOver rfl rfl ⟨(Nat.le_of_ble_eq_true rfl), (Nat.le_of_ble_eq_true rfl)⟩) (kpV (A := A) qP hK qD hG (krecv_2 (q0 := 2) hK hP rfl)) rfl rfl hl.1 rfl (lv_room (Nat.le_of_ble_eq_true rfl)) (kdr dgX1_ofSpan_0 1 5 rfl rfl) ⟨(Nat.le_of_ble_eq_true rfl), (Nat.le_of_ble_eq_true rfl)⟩) hP hD hS hA kFr_SBs (fun H locs hP hD hS br5 => ?_)
    refine lv_if_eq (tgt := 37) hx hb (kdr dgX1_ofSpan_0 1 6 rfl rfl) (by decide) (fun c6 => ?_) (fun c6 => ?_)
    · have h := g_t c6 h
      refine lv_iconst (v := 0) hx hb (kdr dgX1_ofSpan_0 1 9 rfl rfl) (by decide) ?_
      have h := Option.some.inj h
      subst h
      exact kret_i (v := 0) hx hb hr rfl hlocks hS hP (kdr dgX1_ofSpan_0 2 0 rfl rfl)
    · have h := g_f c6 h
      refine lv_iconst (v := 1) hx hb (kdr dgX1_ofSpan_0 1 7 rfl rfl) (by decide) ?_
      refine lv_goto (tgt := 38) hx hb (kdr dgX1_ofSpan_0 1 8 rfl rfl) (by decide) ?_
      have h := Option.some.inj h
      subst h
      exact kret_i (v := 1) hx hb hr rfl hlocks hS hP (kdr dgX1_ofSpan_0 2 0 rfl rfl)
noncomputable def fx_X1_ofSpan (sc : Int32) (p0 : Int32) (p1 : Int32) : Option (Nat) :=
  xb (fx_X1_needNumberIn sc p0) (fun k1 => some k1) (
  (f_X1_needNumberIn sc p0).bind fun r1 =>
  (f_X1_isWithin p1 0 4).bind fun r2 =>
  xb (fx_X1_needThat r2) (fun k3 => some k3) (
  none))
theorem fx_X1_ofSpan_e {sc : Int32} {p0 : Int32} {p1 : Int32} : fx_X1_ofSpan sc p0 p1 = 
  xb (fx_X1_needNumberIn sc p0) (fun k1 => some k1) (
  (f_X1_needNumberIn sc p0).bind fun r1 =>
  (f_X1_isWithin p1 0 4).bind fun r2 =>
  xb (fx_X1_needThat r2) (fun k3 => some k3) (
  none)) := rfl
set_option maxHeartbeats 4000000 in
set_option maxRecDepth 100000 in
theorem x_X1_ofSpan (l : Launch) (hl9 : l.stackTraces = false) (dC : Nat → ClassId) (dI : Nat → Nat → Nat) (cB cI cJ cZ : ClassId) (a : Nat → Nat) (sz : Nat) (ce : Nat → Int64) (fr : Int64) (un : Int64) (sb : Nat → Int64) (se : Nat → Int64) (so : Nat → Int32) (sc : Int32) (wb : Nat → Int64) (we : Nat → Int64) (wo : Nat → Int32) (wc : Int32) (fb : Nat → Int64) (fe : Nat → Int64) (fo : Nat → Int32) (fc : Int32) (rm : Nat → Int32) (ac : Int32) (rf : Int32) (kn : Int32) (p0 : Int32) (p1 : Int32) (res : Nat) (hf : fx_X1_ofSpan sc p0 p1 = some res) : kMX l yX1_ofSpan wsX1_ofSpan (kRm 7 1 6 111) dC dI cB cI cJ cZ [.ref (a 0), .int p0, .int p1] sz (wSB cI cJ cZ a ce fr un sb se so sc wb we wo wc fb fe fo fc rm ac rf kn) (res) (wSB cI cJ cZ a ce fr un sb se so sc wb we wo wc fb fe fo fc rm ac rf kn) 1 6 := by
  refine kmet_x (y := yX1_ofSpan) (cc := cX1_ofSpan) (maxL := 3) (ret := (some .int)) RX1 (kvA 0 (a 0) (kvI 1 p0 (kvI 2 p1 kvE))) kpl_X1 rfl rfl (Nat.le_of_ble_eq_true rfl) rfl (fun p e s m below meth c A ls hx hb hr hml ht hts hown hlocks hP hK hG hZ hD hA hS hl => ?_)
  have hw0 := hts (.fieldLink RX1 25 "Spanbooker" "spanRow" "LSpanbooker$Row;") (List.mem_cons_of_mem _ kw_110)
  have hiX1 : ∀ w ∈ u_ws RX1 TX1 10, w ∈ wsX1_ofSpan := fun w h => List.mem_cons_of_mem _ (ku_X1 w h)
  have h := fx_X1_ofSpan_e.symm.trans hf
  refine lv_aload_n hx hb (kdr dgX1_ofSpan_0 0 0 rfl rfl) rfl (lv_at hl 0 rfl) ?_
  refine va_get (D := (dC, dI)) (ci := 3) (v := .ref (a 2)) (C := RX1) (T := TX1) (N := 10) hx hb hts hiX1 hown hK hP 0 rfl rfl 3 (by decide) hw0 (fun _ h9 => h9) rfl (kdr dgX1_ofSpan_0 0 1 rfl rfl) ?_
  refine lv_iload_n hx hb (kdr dgX1_ofSpan_0 0 2 rfl rfl) rfl (lv_at hl 1 rfl) ?_
  rcases g_x h with ⟨k1, j1, h⟩ | ⟨-, h⟩
  · have h := Option.some.inj h
    subst h
    exact kq_x (wSB cI cJ cZ a ce fr un sb se so sc wb we wo wc fb fe fo fc rm ac rf kn) (fun qP qD qF => vx_runS (As := [.ref (a 2), .int p0]) (rest := []) ⟨hx, hb, hml, hown, hts⟩ (x_X1_needNumberIn l hl9 dC dI cB cI cJ cZ (a 2) (a 3) (a 4) (a 5) _ sb se so sc p0 k1 j1) (kcwS hts kw_592 kv_X1_needNumberIn rfl rfl ⟨(Nat.le_of_ble_eq_true rfl), (Nat.le_of_ble_eq_true rfl)⟩) (kpSXq (A := A) qP hK qD hG hZ hS qF) rfl rfl hl.1 rfl (lv_room (Nat.le_of_ble_eq_true rfl)) (kdr dgX1_ofSpan_0 0 3 rfl rfl) ⟨(Nat.le_of_ble_eq_true rfl), (Nat.le_of_ble_eq_true rfl)⟩) hP hD hS hA kFr_SBs ht hlocks (Nat.le_of_ble_eq_true rfl) (Nat.le_of_ble_eq_true rfl)
  · obtain ⟨r1, g1, h⟩ := g_b h
    refine kq_v (wSB cI cJ cZ a ce fr un sb se so sc wb we wo wc fb fe fo fc rm ac rf kn) (fun qP qD qF => va_runS (As := [.ref (a 2), .int p0]) (rest := []) ⟨hx, hb, hml, hown, hts⟩ (c_X1_needNumberIn l dC dI cB cI cJ cZ (a 2) (a 3) (a 4) (a 5) _ sb se so sc p0 r1 g1) (kcwS hts kw_592 kv_X1_needNumberIn rfl rfl ⟨(Nat.le_of_ble_eq_true rfl), (Nat.le_of_ble_eq_true rfl)⟩) (kpS (A := A) qP hK qD hG) rfl rfl hl.1 rfl (lv_room (Nat.le_of_ble_eq_true rfl)) (kdr dgX1_ofSpan_0 0 3 rfl rfl) ⟨(Nat.le_of_ble_eq_true rfl), (Nat.le_of_ble_eq_true rfl)⟩) hP hD hS hA kFr_SBs (fun H locs hP hD hS => ?_)
    refine lv_iload_n hx hb (kdr dgX1_ofSpan_0 0 4 rfl rfl) rfl (lv_at hl 2 rfl) ?_
    refine lv_iconst (v := 0) hx hb (kdr dgX1_ofSpan_0 0 5 rfl rfl) (by decide) ?_
    refine lv_iconst (v := 4) hx hb (kdr dgX1_ofSpan_0 0 6 rfl rfl) (by decide) ?_
    obtain ⟨r2, g2, h⟩ := g_b h
    refine kq_i (wSB cI cJ cZ a ce fr un sb se so sc wb we wo wc fb fe fo fc rm ac rf kn) (fun qP qD qF => va_runS (As := [.int p1, .int 0, .int 4]) (rest := []) ⟨hx, hb, hml, hown, hts⟩ (c_X1_isWithin l dC dI cB cI cJ cZ  _  p1 0 4 r2 g2) (kcwS hts kw_354 kv_X1_isWithin rfl rfl ⟨(Nat.le_of_ble_eq_true rfl), (Nat.le_of_ble_eq_true rfl)⟩) (kpS (A := A) (kPnil) hK ((kDnil (A := A))) hG) rfl rfl hl.1 rfl (lv_room (Nat.le_of_ble_eq_true rfl)) (kdr dgX1_ofSpan_0 0 7 rfl rfl) ⟨(Nat.le_of_ble_eq_true rfl), (Nat.le_of_ble_eq_true rfl)⟩) hP hD hS hA kFr_n (fun H locs hP hD hS br2 => ?_)
    rcases g_x h with ⟨k3, j3, h⟩ | ⟨-, h⟩
    · have h := Option.some.inj h
      subst h
      exact kq_x (wSB cI cJ cZ a ce fr un sb se so sc wb we wo wc fb fe fo fc rm ac rf kn) (fun qP qD qF => vx_runS (As := [.int r2]) (rest := []) ⟨hx, hb, hml, hown, hts⟩ (x_X1_needThat l hl9 dC dI cB cI cJ cZ  _  r2 k3 j3) (kcwS hts kw_357 kv_X1_needThat rfl rfl ⟨(Nat.le_of_ble_eq_true rfl), (Nat.le_of_ble_eq_true rfl)⟩) (kpSXq (A := A) (kPnil) hK ((kDnil (A := A))) hG hZ hS qF) rfl rfl hl.1 rfl (lv_room (Nat.le_of_ble_eq_true rfl)) (kdr dgX1_ofSpan_0 0 8 rfl rfl) ⟨(Nat.le_of_ble_eq_true rfl), (Nat.le_of_ble_eq_true rfl)⟩) hP hD hS hA kFr_n ht hlocks (Nat.le_of_ble_eq_true rfl) (Nat.le_of_ble_eq_true rfl)
    · cases h
noncomputable abbrev wsX1_meets : List Cond := kWs yX1_meets cX1_meets 3 (some .boolean)
noncomputable def f_X1_meets (sb : Nat → Int64) (se : Nat → Int64) (sc : Int32) (p0 : Int32) (p1 : Int32) : Option (Int32) :=
  (f_X1_needNumberIn sc p0).bind fun r1 =>
  (f_X1_needNumberIn sc p1).bind fun r2 =>
  (f_X0_doMeet sb se sc p0 p1).bind fun r3 =>
  some r3
theorem f_X1_meets_e {sb : Nat → Int64} {se : Nat → Int64} {sc : Int32} {p0 : Int32} {p1 : Int32} : f_X1_meets sb se sc p0 p1 = 
  (f_X1_needNumberIn sc p0).bind fun r1 =>
  (f_X1_needNumberIn sc p1).bind fun r2 =>
  (f_X0_doMeet sb se sc p0 p1).bind fun r3 =>
  some r3 := rfl
set_option maxHeartbeats 4000000 in
set_option maxRecDepth 100000 in
theorem c_X1_meets (l : Launch) (dC : Nat → ClassId) (dI : Nat → Nat → Nat) (cB cI cJ cZ : ClassId) (a : Nat → Nat) (sz : Nat) (ce : Nat → Int64) (fr : Int64) (un : Int64) (sb : Nat → Int64) (se : Nat → Int64) (so : Nat → Int32) (sc : Int32) (wb : Nat → Int64) (we : Nat → Int64) (wo : Nat → Int32) (wc : Int32) (fb : Nat → Int64) (fe : Nat → Int64) (fo : Nat → Int32) (fc : Int32) (rm : Nat → Int32) (ac : Int32) (rf : Int32) (kn : Int32) (p0 : Int32) (p1 : Int32) (res : Int32) (hf : f_X1_meets sb se sc p0 p1 = some res) : kMi l yX1_meets wsX1_meets (kRm 2 0 0 43) dC dI cB cI cJ cZ [.ref (a 0), .int p0, .int p1] sz (wSB cI cJ cZ a ce fr un sb se so sc wb we wo wc fb fe fo fc rm ac rf kn) .boolean (res) (wSB cI cJ cZ a ce fr un sb se so sc wb we wo wc fb fe fo fc rm ac rf kn) 0 0 := by
  refine kmet_i (y := yX1_meets) (cc := cX1_meets) (maxL := 3) (ret := (some .boolean)) RX1 (kvA 0 (a 0) (kvI 1 p0 (kvI 2 p1 kvE))) kpl_X1 rfl rfl (Nat.le_of_ble_eq_true rfl) rfl (fun p e s m below meth c A ls hx hb hr hml hts hown hlocks hP hK hG hD hA hS hl => ?_)
  have hw0 := hts (.fieldLink RX1 25 "Spanbooker" "spanRow" "LSpanbooker$Row;") (List.mem_cons_of_mem _ kw_110)
  have hiX1 : ∀ w ∈ u_ws RX1 TX1 10, w ∈ wsX1_meets := fun w h => List.mem_cons_of_mem _ (ku_X1 w h)
  have h := f_X1_meets_e.symm.trans hf
  refine lv_aload_n hx hb (kdr dgX1_meets_0 0 0 rfl rfl) rfl (lv_at hl 0 rfl) ?_
  refine va_get (D := (dC, dI)) (ci := 3) (v := .ref (a 2)) (C := RX1) (T := TX1) (N := 10) hx hb hts hiX1 hown hK hP 0 rfl rfl 3 (by decide) hw0 (fun _ h9 => h9) rfl (kdr dgX1_meets_0 0 1 rfl rfl) ?_
  refine lv_iload_n hx hb (kdr dgX1_meets_0 0 2 rfl rfl) rfl (lv_at hl 1 rfl) ?_
  obtain ⟨r1, g1, h⟩ := g_b h
  refine kq_v (wSB cI cJ cZ a ce fr un sb se so sc wb we wo wc fb fe fo fc rm ac rf kn) (fun qP qD qF => va_runS (As := [.ref (a 2), .int p0]) (rest := []) ⟨hx, hb, hml, hown, hts⟩ (c_X1_needNumberIn l dC dI cB cI cJ cZ (a 2) (a 3) (a 4) (a 5) _ sb se so sc p0 r1 g1) (kcwS hts kw_592 kv_X1_needNumberIn rfl rfl ⟨(Nat.le_of_ble_eq_true rfl), (Nat.le_of_ble_eq_true rfl)⟩) (kpS (A := A) qP hK qD hG) rfl rfl hl.1 rfl (lv_room (Nat.le_of_ble_eq_true rfl)) (kdr dgX1_meets_0 0 3 rfl rfl) ⟨(Nat.le_of_ble_eq_true rfl), (Nat.le_of_ble_eq_true rfl)⟩) hP hD hS hA kFr_SBs (fun H locs hP hD hS => ?_)
  refine lv_aload_n hx hb (kdr dgX1_meets_0 0 4 rfl rfl) rfl (lv_at hl 0 rfl) ?_
  refine va_get (D := (dC, dI)) (ci := 3) (v := .ref (a 2)) (C := RX1) (T := TX1) (N := 10) hx hb hts hiX1 hown hK hP 0 rfl rfl 3 (by decide) hw0 (fun _ h9 => h9) rfl (kdr dgX1_meets_0 0 5 rfl rfl) ?_
  refine lv_iload_n hx hb (kdr dgX1_meets_0 0 6 rfl rfl) rfl (lv_at hl 2 rfl) ?_
  obtain ⟨r2, g2, h⟩ := g_b h
  refine kq_v (wSB cI cJ cZ a ce fr un sb se so sc wb we wo wc fb fe fo fc rm ac rf kn) (fun qP qD qF => va_runS (As := [.ref (a 2), .int p1]) (rest := []) ⟨hx, hb, hml, hown, hts⟩ (c_X1_needNumberIn l dC dI cB cI cJ cZ (a 2) (a 3) (a 4) (a 5) _ sb se so sc p1 r2 g2) (kcwS hts kw_592 kv_X1_needNumberIn rfl rfl ⟨(Nat.le_of_ble_eq_true rfl), (Nat.le_of_ble_eq_true rfl)⟩) (kpS (A := A) qP hK qD hG) rfl rfl hl.1 rfl (lv_room (Nat.le_of_ble_eq_true rfl)) (kdr dgX1_meets_0 0 7 rfl rfl) ⟨(Nat.le_of_ble_eq_true rfl), (Nat.le_of_ble_eq_true rfl)⟩) hP hD hS hA kFr_SBs (fun H locs hP hD hS => ?_)
  refine lv_aload_n hx hb (kdr dgX1_meets_0 0 8 rfl rfl) rfl (lv_at hl 0 rfl) ?_
  refine va_get (D := (dC, dI)) (ci := 3) (v := .ref (a 2)) (C := RX1) (T := TX1) (N := 10) hx hb hts hiX1 hown hK hP 0 rfl rfl 3 (by decide) hw0 (fun _ h9 => h9) rfl (kdr dgX1_meets_0 0 9 rfl rfl) ?_
  refine lv_iload_n hx hb (kdr dgX1_meets_0 1 0 rfl rfl) rfl (lv_at hl 1 rfl) ?_
  refine lv_iload_n hx hb (kdr dgX1_meets_0 1 1 rfl rfl) rfl (lv_at hl 2 rfl) ?_
  obtain ⟨r3, g3, h⟩ := g_b h
  refine kq_i (wSB cI cJ cZ a ce fr un sb se so sc wb we wo wc fb fe fo fc rm ac rf kn) (fun qP qD qF => va_runV (As := [.int p0, .int p1]) (rest := []) ⟨hx, hb, hml, hown, hts⟩ (c_X0_doMeet l dC dI cB cI cJ cZ (a 2) (a 3) (a 4) (a 5) _ sb se so sc p0 p1 r3 g3) (kcwV hts kw_163 kv_X0_doMeet rfl rfl ⟨(Nat.le_of_ble_eq_true rfl), (Nat.le_of_ble_eq_true rfl)⟩) (kpV (A := A) qP hK qD hG (krecv_2 (q0 := 2) hK hP rfl)) rfl rfl hl.1 rfl (lv_room (Nat.le_of_ble_eq_true rfl)) (kdr dgX1_meets_0 1 2 rfl rfl) ⟨(Nat.le_of_ble_eq_true rfl), (Nat.le_of_ble_eq_true rfl)⟩) hP hD hS hA kFr_SBs (fun H locs hP hD hS br3 => ?_)
  have h := Option.some.inj h
  subst h
  exact kret_i (v := r3) hx hb hr br3 hlocks hS hP (kdr dgX1_meets_0 1 3 rfl rfl)
noncomputable def fx_X1_meets (sc : Int32) (p0 : Int32) (p1 : Int32) : Option (Nat) :=
  xb (fx_X1_needNumberIn sc p0) (fun k1 => some k1) (
  (f_X1_needNumberIn sc p0).bind fun r1 =>
  xb (fx_X1_needNumberIn sc p1) (fun k2 => some k2) (
  none))
theorem fx_X1_meets_e {sc : Int32} {p0 : Int32} {p1 : Int32} : fx_X1_meets sc p0 p1 = 
  xb (fx_X1_needNumberIn sc p0) (fun k1 => some k1) (
  (f_X1_needNumberIn sc p0).bind fun r1 =>
  xb (fx_X1_needNumberIn sc p1) (fun k2 => some k2) (
  none)) := rfl
set_option maxHeartbeats 4000000 in
set_option maxRecDepth 100000 in
theorem x_X1_meets (l : Launch) (hl9 : l.stackTraces = false) (dC : Nat → ClassId) (dI : Nat → Nat → Nat) (cB cI cJ cZ : ClassId) (a : Nat → Nat) (sz : Nat) (ce : Nat → Int64) (fr : Int64) (un : Int64) (sb : Nat → Int64) (se : Nat → Int64) (so : Nat → Int32) (sc : Int32) (wb : Nat → Int64) (we : Nat → Int64) (wo : Nat → Int32) (wc : Int32) (fb : Nat → Int64) (fe : Nat → Int64) (fo : Nat → Int32) (fc : Int32) (rm : Nat → Int32) (ac : Int32) (rf : Int32) (kn : Int32) (p0 : Int32) (p1 : Int32) (res : Nat) (hf : fx_X1_meets sc p0 p1 = some res) : kMX l yX1_meets wsX1_meets (kRm 7 1 6 111) dC dI cB cI cJ cZ [.ref (a 0), .int p0, .int p1] sz (wSB cI cJ cZ a ce fr un sb se so sc wb we wo wc fb fe fo fc rm ac rf kn) (res) (wSB cI cJ cZ a ce fr un sb se so sc wb we wo wc fb fe fo fc rm ac rf kn) 1 6 := by
  refine kmet_x (y := yX1_meets) (cc := cX1_meets) (maxL := 3) (ret := (some .boolean)) RX1 (kvA 0 (a 0) (kvI 1 p0 (kvI 2 p1 kvE))) kpl_X1 rfl rfl (Nat.le_of_ble_eq_true rfl) rfl (fun p e s m below meth c A ls hx hb hr hml ht hts hown hlocks hP hK hG hZ hD hA hS hl => ?_)
  have hw0 := hts (.fieldLink RX1 25 "Spanbooker" "spanRow" "LSpanbooker$Row;") (List.mem_cons_of_mem _ kw_110)
  have hiX1 : ∀ w ∈ u_ws RX1 TX1 10, w ∈ wsX1_meets := fun w h => List.mem_cons_of_mem _ (ku_X1 w h)
  have h := fx_X1_meets_e.symm.trans hf
  refine lv_aload_n hx hb (kdr dgX1_meets_0 0 0 rfl rfl) rfl (lv_at hl 0 rfl) ?_
  refine va_get (D := (dC, dI)) (ci := 3) (v := .ref (a 2)) (C := RX1) (T := TX1) (N := 10) hx hb hts hiX1 hown hK hP 0 rfl rfl 3 (by decide) hw0 (fun _ h9 => h9) rfl (kdr dgX1_meets_0 0 1 rfl rfl) ?_
  refine lv_iload_n hx hb (kdr dgX1_meets_0 0 2 rfl rfl) rfl (lv_at hl 1 rfl) ?_
  rcases g_x h with ⟨k1, j1, h⟩ | ⟨-, h⟩
  · have h := Option.some.inj h
    subst h
    exact kq_x (wSB cI cJ cZ a ce fr un sb se so sc wb we wo wc fb fe fo fc rm ac rf kn) (fun qP qD qF => vx_runS (As := [.ref (a 2), .int p0]) (rest := []) ⟨hx, hb, hml, hown, hts⟩ (x_X1_needNumberIn l hl9 dC dI cB cI cJ cZ (a 2) (a 3) (a 4) (a 5) _ sb se so sc p0 k1 j1) (kcwS hts kw_592 kv_X1_needNumberIn rfl rfl ⟨(Nat.le_of_ble_eq_true rfl), (Nat.le_of_ble_eq_true rfl)⟩) (kpSXq (A := A) qP hK qD hG hZ hS qF) rfl rfl hl.1 rfl (lv_room (Nat.le_of_ble_eq_true rfl)) (kdr dgX1_meets_0 0 3 rfl rfl) ⟨(Nat.le_of_ble_eq_true rfl), (Nat.le_of_ble_eq_true rfl)⟩) hP hD hS hA kFr_SBs ht hlocks (Nat.le_of_ble_eq_true rfl) (Nat.le_of_ble_eq_true rfl)
  · obtain ⟨r1, g1, h⟩ := g_b h
    refine kq_v (wSB cI cJ cZ a ce fr un sb se so sc wb we wo wc fb fe fo fc rm ac rf kn) (fun qP qD qF => va_runS (As := [.ref (a 2), .int p0]) (rest := []) ⟨hx, hb, hml, hown, hts⟩ (c_X1_needNumberIn l dC dI cB cI cJ cZ (a 2) (a 3) (a 4) (a 5) _ sb se so sc p0 r1 g1) (kcwS hts kw_592 kv_X1_needNumberIn rfl rfl ⟨(Nat.le_of_ble_eq_true rfl), (Nat.le_of_ble_eq_true rfl)⟩) (kpS (A := A) qP hK qD hG) rfl rfl hl.1 rfl (lv_room (Nat.le_of_ble_eq_true rfl)) (kdr dgX1_meets_0 0 3 rfl rfl) ⟨(Nat.le_of_ble_eq_true rfl), (Nat.le_of_ble_eq_true rfl)⟩) hP hD hS hA kFr_SBs (fun H locs hP hD hS => ?_)
    refine lv_aload_n hx hb (kdr dgX1_meets_0 0 4 rfl rfl) rfl (lv_at hl 0 rfl) ?_
    refine va_get (D := (dC, dI)) (ci := 3) (v := .ref (a 2)) (C := RX1) (T := TX1) (N := 10) hx hb hts hiX1 hown hK hP 0 rfl rfl 3 (by decide) hw0 (fun _ h9 => h9) rfl (kdr dgX1_meets_0 0 5 rfl rfl) ?_
    refine lv_iload_n hx hb (kdr dgX1_meets_0 0 6 rfl rfl) rfl (lv_at hl 2 rfl) ?_
    rcases g_x h with ⟨k2, j2, h⟩ | ⟨-, h⟩
    · have h := Option.some.inj h
      subst h
      exact kq_x (wSB cI cJ cZ a ce fr un sb se so sc wb we wo wc fb fe fo fc rm ac rf kn) (fun qP qD qF => vx_runS (As := [.ref (a 2), .int p1]) (rest := []) ⟨hx, hb, hml, hown, hts⟩ (x_X1_needNumberIn l hl9 dC dI cB cI cJ cZ (a 2) (a 3) (a 4) (a 5) _ sb se so sc p1 k2 j2) (kcwS hts kw_592 kv_X1_needNumberIn rfl rfl ⟨(Nat.le_of_ble_eq_true rfl), (Nat.le_of_ble_eq_true rfl)⟩) (kpSXq (A := A) qP hK qD hG hZ hS qF) rfl rfl hl.1 rfl (lv_room (Nat.le_of_ble_eq_true rfl)) (kdr dgX1_meets_0 0 7 rfl rfl) ⟨(Nat.le_of_ble_eq_true rfl), (Nat.le_of_ble_eq_true rfl)⟩) hP hD hS hA kFr_SBs ht hlocks (Nat.le_of_ble_eq_true rfl) (Nat.le_of_ble_eq_true rfl)
    · cases h
noncomputable abbrev wsX1_clashes : List Cond := kWs yX1_clashes cX1_clashes 4 (some .int)
noncomputable def f_X1_clashes_17 (K4 : (Nat → Int64) → (Nat → Int64) → (Int32) → (Int32) → (Int32) → Option (Int32)) : Nat → (Nat → Int64) → (Nat → Int64) → (Int32) → (Int32) → (Int32) → (Int32) → Option (Int32)
  | 0, _, _, _, _, _, _ => none
  | n + 1, sb, se, sc, x1, x2, x3 =>
    if x2 ≤ x3 then
      K4 sb se sc x1 (x2 + 1)
    else
      (f_X0_doMeet sb se sc x2 x3).bind fun r2 =>
      if r2 = 0 then
        f_X1_clashes_17 K4 n sb se sc x1 x2 (x3 + 1)
      else
        f_X1_clashes_17 K4 n sb se sc (x1 + 1) x2 (x3 + 1)
theorem f_X1_clashes_17_0 {K4 : (Nat → Int64) → (Nat → Int64) → (Int32) → (Int32) → (Int32) → Option (Int32)} {sb : Nat → Int64} {se : Nat → Int64} {sc : Int32} {x1 : Int32} {x2 : Int32} {x3 : Int32} : f_X1_clashes_17 K4 0 sb se sc x1 x2 x3 = none := rfl
theorem f_X1_clashes_17_s {K4 : (Nat → Int64) → (Nat → Int64) → (Int32) → (Int32) → (Int32) → Option (Int32)} {n : Nat} {sb : Nat → Int64} {se : Nat → Int64} {sc : Int32} {x1 : Int32} {x2 : Int32} {x3 : Int32} : f_X1_clashes_17 K4 (n + 1) sb se sc x1 x2 x3 =
  if x2 ≤ x3 then
    K4 sb se sc x1 (x2 + 1)
  else
    (f_X0_doMeet sb se sc x2 x3).bind fun r2 =>
    if r2 = 0 then
      f_X1_clashes_17 K4 n sb se sc x1 x2 (x3 + 1)
    else
      f_X1_clashes_17 K4 n sb se sc (x1 + 1) x2 (x3 + 1) := rfl
noncomputable def f_X1_clashes_4 : Nat → (Nat → Int64) → (Nat → Int64) → (Int32) → (Int32) → (Int32) → Option (Int32)
  | 0, _, _, _, _, _ => none
  | n + 1, sb, se, sc, x1, x2 =>
    (f_X0_count sc).bind fun r1 =>
    if r1 ≤ x2 then
      some x1
    else
      f_X1_clashes_17 (f_X1_clashes_4 n) 24 sb se sc x1 x2 0
theorem f_X1_clashes_4_0 {sb : Nat → Int64} {se : Nat → Int64} {sc : Int32} {x1 : Int32} {x2 : Int32} : f_X1_clashes_4 0 sb se sc x1 x2 = none := rfl
theorem f_X1_clashes_4_s {n : Nat} {sb : Nat → Int64} {se : Nat → Int64} {sc : Int32} {x1 : Int32} {x2 : Int32} : f_X1_clashes_4 (n + 1) sb se sc x1 x2 =
  (f_X0_count sc).bind fun r1 =>
  if r1 ≤ x2 then
    some x1
  else
    f_X1_clashes_17 (f_X1_clashes_4 n) 24 sb se sc x1 x2 0 := rfl
noncomputable def f_X1_clashes (sb : Nat → Int64) (se : Nat → Int64) (sc : Int32) : Option (Int32) :=
  f_X1_clashes_4 24 sb se sc 0 0
theorem f_X1_clashes_e {sb : Nat → Int64} {se : Nat → Int64} {sc : Int32} : f_X1_clashes sb se sc = 
  f_X1_clashes_4 24 sb se sc 0 0 := rfl
set_option maxHeartbeats 4000000 in
set_option maxRecDepth 100000 in
theorem c_X1_clashes (l : Launch) (dC : Nat → ClassId) (dI : Nat → Nat → Nat) (cB cI cJ cZ : ClassId) (a : Nat → Nat) (sz : Nat) (ce : Nat → Int64) (fr : Int64) (un : Int64) (sb : Nat → Int64) (se : Nat → Int64) (so : Nat → Int32) (sc : Int32) (wb : Nat → Int64) (we : Nat → Int64) (wo : Nat → Int32) (wc : Int32) (fb : Nat → Int64) (fe : Nat → Int64) (fo : Nat → Int32) (fc : Int32) (rm : Nat → Int32) (ac : Int32) (rf : Int32) (kn : Int32) (res : Int32) (hf : f_X1_clashes sb se sc = some res) : kMi l yX1_clashes wsX1_clashes (kRm 1 0 0 22) dC dI cB cI cJ cZ [.ref (a 0)] sz (wSB cI cJ cZ a ce fr un sb se so sc wb we wo wc fb fe fo fc rm ac rf kn) .int (res) (wSB cI cJ cZ a ce fr un sb se so sc wb we wo wc fb fe fo fc rm ac rf kn) 0 0 := by
  refine kmet_i (y := yX1_clashes) (cc := cX1_clashes) (maxL := 4) (ret := (some .int)) RX1 (kvA 0 (a 0) kvE) kpl_X1 rfl rfl (Nat.le_of_ble_eq_true rfl) rfl (fun p e s m below meth c A ls hx hb hr hml hts hown hlocks hP hK hG hD hA hS hl => ?_)
  have hw0 := hts (.fieldLink RX1 25 "Spanbooker" "spanRow" "LSpanbooker$Row;") (List.mem_cons_of_mem _ kw_110)
  have hiX1 : ∀ w ∈ u_ws RX1 TX1 10, w ∈ wsX1_clashes := fun w h => List.mem_cons_of_mem _ (ku_X1 w h)
  have J17 : ∀ (K4 : (Nat → Int64) → (Nat → Int64) → (Int32) → (Int32) → (Int32) → Option (Int32)), (∀ (ce : Nat → Int64) (fr : Int64) (un : Int64) (sb : Nat → Int64) (se : Nat → Int64) (so : Nat → Int32) (sc : Int32) (wb : Nat → Int64) (we : Nat → Int64) (wo : Nat → Int32) (wc : Int32) (fb : Nat → Int64) (fe : Nat → Int64) (fo : Nat → Int32) (fc : Int32) (rm : Nat → Int32) (ac : Int32) (rf : Int32) (kn : Int32) (x1 : Int32) (x2 : Int32) (H : Heap) (locs : List Loc), va_P (dC, dI) vwCl (wSB cI cJ cZ a ce fr un sb se so sc wb we wo wc fb fe fo fc rm ac rf kn) H → va_D A (wSB cI cJ cZ a ce fr un sb se so sc wb we wo wc fb fe fo fc rm ac rf kn) → va_S A s.heap H locs → ∀ (ls : Array Slot), lv_has ls 4 (kvA 0 (a 0) (kvI 1 x1 (kvI 2 x2 kvE))) → K4 sb se sc x1 x2 = some res → W p l e (headSpec wsX1_clashes (kRm 1 0 0 22)).room s m ([.ref (a 0)] : List Value).toArray below meth c H locs 0 0 (MQ below (kI (dC, dI) .int (res) (wSB cI cJ cZ a ce fr un sb se so sc wb we wo wc fb fe fo fc rm ac rf kn) A) ([.ref (a 0)] : List Value).toArray s 0 0 A) (F0 m 4 ls [])) → ∀ (n : Nat), ∀ (ce : Nat → Int64) (fr : Int64) (un : Int64) (sb : Nat → Int64) (se : Nat → Int64) (so : Nat → Int32) (sc : Int32) (wb : Nat → Int64) (we : Nat → Int64) (wo : Nat → Int32) (wc : Int32) (fb : Nat → Int64) (fe : Nat → Int64) (fo : Nat → Int32) (fc : Int32) (rm : Nat → Int32) (ac : Int32) (rf : Int32) (kn : Int32) (x1 : Int32) (x2 : Int32) (x3 : Int32) (H : Heap) (locs : List Loc), va_P (dC, dI) vwCl (wSB cI cJ cZ a ce fr un sb se so sc wb we wo wc fb fe fo fc rm ac rf kn) H → va_D A (wSB cI cJ cZ a ce fr un sb se so sc wb we wo wc fb fe fo fc rm ac rf kn) → va_S A s.heap H locs → ∀ (ls : Array Slot), lv_has ls 4 (kvA 0 (a 0) (kvI 1 x1 (kvI 2 x2 (kvI 3 x3 kvE)))) → f_X1_clashes_17 K4 n sb se sc x1 x2 x3 = some res → W p l e (headSpec wsX1_clashes (kRm 1 0 0 22)).room s m ([.ref (a 0)] : List Value).toArray below meth c H locs 0 0 (MQ below (kI (dC, dI) .int (res) (wSB cI cJ cZ a ce fr un sb se so sc wb we wo wc fb fe fo fc rm ac rf kn) A) ([.ref (a 0)] : List Value).toArray s 0 0 A) (F0 m 17 ls []) := by
    intro K4 hK4 n
    induction n with
    | zero =>
      intro ce fr un sb se so sc wb we wo wc fb fe fo fc rm ac rf kn x1 x2 x3 H locs hP hD hS ls hl h
      have h := f_X1_clashes_17_0.symm.trans h
      cases h
    | succ n ih =>
      intro ce fr un sb se so sc wb we wo wc fb fe fo fc rm ac rf kn x1 x2 x3 H locs hP hD hS ls hl h
      have h := f_X1_clashes_17_s.symm.trans h
      refine lv_iload_n hx hb (kdr dgX1_clashes_0 1 1 rfl rfl) rfl (lv_at hl 3 rfl) ?_
      refine lv_iload_n hx hb (kdr dgX1_clashes_0 1 2 rfl rfl) rfl (lv_at hl 2 rfl) ?_
      refine lv_icmp_ge (tgt := 43) hx hb (kdr dgX1_clashes_0 1 3 rfl rfl) (by decide) (fun c1 => ?_) (fun c1 => ?_)
      · have h := g_t c1 h
        refine lv_iinc (v := x2 + 1) (lv' := (kvI 2 (x2 + 1) (kvA 0 (a 0) (kvI 1 x1 (kvI 3 x3 kvE))))) hx hb (kdr dgX1_clashes_0 2 3 rfl rfl) hl (k := 2) rfl rfl (by decide) rfl (fun ls hl => ?_)
        refine lv_goto (tgt := 4) hx hb (kdr dgX1_clashes_0 2 4 rfl rfl) (by decide) ?_
        exact hK4 ce fr un sb se so sc wb we wo wc fb fe fo fc rm ac rf kn x1 (x2 + 1) _ _ hP hD hS ls (lv_sub hl [1, 2, 0] rfl) h
      · have h := g_f c1 h
        refine lv_aload_n hx hb (kdr dgX1_clashes_0 1 4 rfl rfl) rfl (lv_at hl 0 rfl) ?_
        refine va_get (D := (dC, dI)) (ci := 3) (v := .ref (a 2)) (C := RX1) (T := TX1) (N := 10) hx hb hts hiX1 hown hK hP 0 rfl rfl 3 (by decide) hw0 (fun _ h9 => h9) rfl (kdr dgX1_clashes_0 1 5 rfl rfl) ?_
        refine lv_iload_n hx hb (kdr dgX1_clashes_0 1 6 rfl rfl) rfl (lv_at hl 2 rfl) ?_
        refine lv_iload_n hx hb (kdr dgX1_clashes_0 1 7 rfl rfl) rfl (lv_at hl 3 rfl) ?_
        obtain ⟨r2, g2, h⟩ := g_b h
        refine kq_i (wSB cI cJ cZ a ce fr un sb se so sc wb we wo wc fb fe fo fc rm ac rf kn) (fun qP qD qF => va_runV (As := [.int x2, .int x3]) (rest := []) ⟨hx, hb, hml, hown, hts⟩ (c_X0_doMeet l dC dI cB cI cJ cZ (a 2) (a 3) (a 4) (a 5) _ sb se so sc x2 x3 r2 g2) (kcwV hts kw_163 kv_X0_doMeet rfl rfl ⟨(Nat.le_of_ble_eq_true rfl), (Nat.le_of_ble_eq_true rfl)⟩) (kpV (A := A) qP hK qD hG (krecv_2 (q0 := 2) hK hP rfl)) rfl rfl hl.1 rfl (lv_room (Nat.le_of_ble_eq_true rfl)) (kdr dgX1_clashes_0 1 8 rfl rfl) ⟨(Nat.le_of_ble_eq_true rfl), (Nat.le_of_ble_eq_true rfl)⟩) hP hD hS hA kFr_SBs (fun H locs hP hD hS br2 => ?_)
        refine lv_if_eq (tgt := 37) hx hb (kdr dgX1_clashes_0 1 9 rfl rfl) (by decide) (fun c3 => ?_) (fun c3 => ?_)
        · have h := g_t c3 h
          refine lv_iinc (v := x3 + 1) (lv' := (kvI 3 (x3 + 1) (kvA 0 (a 0) (kvI 1 x1 (kvI 2 x2 kvE))))) hx hb (kdr dgX1_clashes_0 2 1 rfl rfl) hl (k := 3) rfl rfl (by decide) rfl (fun ls hl => ?_)
          refine lv_goto (tgt := 17) hx hb (kdr dgX1_clashes_0 2 2 rfl rfl) (by decide) ?_
          exact ih ce fr un sb se so sc wb we wo wc fb fe fo fc rm ac rf kn x1 x2 (x3 + 1) _ _ hP hD hS ls (lv_sub hl [1, 2, 3, 0] rfl) h
        · have h := g_f c3 h
          refine lv_iinc (v := x1 + 1) (lv' := (kvI 1 (x1 + 1) (kvA 0 (a 0) (kvI 2 x2 (kvI 3 x3 kvE))))) hx hb (kdr dgX1_clashes_0 2 0 rfl rfl) hl (k := 1) rfl rfl (by decide) rfl (fun ls hl => ?_)
          refine lv_iinc (v := x3 + 1) (lv' := (kvI 3 (x3 + 1) (kvI 1 (x1 + 1) (kvA 0 (a 0) (kvI 2 x2 kvE))))) hx hb (kdr dgX1_clashes_0 2 1 rfl rfl) hl (k := 3) rfl rfl (by decide) rfl (fun ls hl => ?_)
          refine lv_goto (tgt := 17) hx hb (kdr dgX1_clashes_0 2 2 rfl rfl) (by decide) ?_
          exact ih ce fr un sb se so sc wb we wo wc fb fe fo fc rm ac rf kn (x1 + 1) x2 (x3 + 1) _ _ hP hD hS ls (lv_sub hl [2, 1, 3, 0] rfl) h
  have J4 : ∀ (n : Nat), ∀ (ce : Nat → Int64) (fr : Int64) (un : Int64) (sb : Nat → Int64) (se : Nat → Int64) (so : Nat → Int32) (sc : Int32) (wb : Nat → Int64) (we : Nat → Int64) (wo : Nat → Int32) (wc : Int32) (fb : Nat → Int64) (fe : Nat → Int64) (fo : Nat → Int32) (fc : Int32) (rm : Nat → Int32) (ac : Int32) (rf : Int32) (kn : Int32) (x1 : Int32) (x2 : Int32) (H : Heap) (locs : List Loc), va_P (dC, dI) vwCl (wSB cI cJ cZ a ce fr un sb se so sc wb we wo wc fb fe fo fc rm ac rf kn) H → va_D A (wSB cI cJ cZ a ce fr un sb se so sc wb we wo wc fb fe fo fc rm ac rf kn) → va_S A s.heap H locs → ∀ (ls : Array Slot), lv_has ls 4 (kvA 0 (a 0) (kvI 1 x1 (kvI 2 x2 kvE))) → f_X1_clashes_4 n sb se sc x1 x2 = some res → W p l e (headSpec wsX1_clashes (kRm 1 0 0 22)).room s m ([.ref (a 0)] : List Value).toArray below meth c H locs 0 0 (MQ below (kI (dC, dI) .int (res) (wSB cI cJ cZ a ce fr un sb se so sc wb we wo wc fb fe fo fc rm ac rf kn) A) ([.ref (a 0)] : List Value).toArray s 0 0 A) (F0 m 4 ls []) := by
    intro n
    induction n with
    | zero =>
      intro ce fr un sb se so sc wb we wo wc fb fe fo fc rm ac rf kn x1 x2 H locs hP hD hS ls hl h
      have h := f_X1_clashes_4_0.symm.trans h
      cases h
    | succ n ih =>
      intro ce fr un sb se so sc wb we wo wc fb fe fo fc rm ac rf kn x1 x2 H locs hP hD hS ls hl h
      have h := f_X1_clashes_4_s.symm.trans h
      refine lv_iload_n hx hb (kdr dgX1_clashes_0 0 4 rfl rfl) rfl (lv_at hl 2 rfl) ?_
      refine lv_aload_n hx hb (kdr dgX1_clashes_0 0 5 rfl rfl) rfl (lv_at hl 0 rfl) ?_
      refine va_get (D := (dC, dI)) (ci := 3) (v := .ref (a 2)) (C := RX1) (T := TX1) (N := 10) hx hb hts hiX1 hown hK hP 0 rfl rfl 3 (by decide) hw0 (fun _ h9 => h9) rfl (kdr dgX1_clashes_0 0 6 rfl rfl) ?_
      obtain ⟨r1, g1, h⟩ := g_b h
      refine kq_i (wSB cI cJ cZ a ce fr un sb se so sc wb we wo wc fb fe fo fc rm ac rf kn) (fun qP qD qF => va_runV (As := []) (rest := [.int x2]) ⟨hx, hb, hml, hown, hts⟩ (c_X0_count l dC dI cB cI cJ cZ (a 2) (a 3) (a 4) (a 5) _ sb se so sc  r1 g1) (kcwV hts kw_155 kv_X0_count rfl rfl ⟨(Nat.le_of_ble_eq_true rfl), (Nat.le_of_ble_eq_true rfl)⟩) (kpV (A := A) qP hK qD hG (krecv_2 (q0 := 2) hK hP rfl)) rfl rfl hl.1 rfl (lv_room (Nat.le_of_ble_eq_true rfl)) (kdr dgX1_clashes_0 0 7 rfl rfl) ⟨(Nat.le_of_ble_eq_true rfl), (Nat.le_of_ble_eq_true rfl)⟩) hP hD hS hA kFr_SBs (fun H locs hP hD hS br1 => ?_)
      refine lv_icmp_ge (tgt := 49) hx hb (kdr dgX1_clashes_0 0 8 rfl rfl) (by decide) (fun c2 => ?_) (fun c2 => ?_)
      · have h := g_t c2 h
        refine lv_iload_n hx hb (kdr dgX1_clashes_0 2 5 rfl rfl) rfl (lv_at hl 1 rfl) ?_
        have h := Option.some.inj h
        subst h
        exact kret_i (v := x1) hx hb hr rfl hlocks hS hP (kdr dgX1_clashes_0 2 6 rfl rfl)
      · have h := g_f c2 h
        refine lv_iconst (v := 0) hx hb (kdr dgX1_clashes_0 0 9 rfl rfl) (by decide) ?_
        refine lv_istore_n (lv' := (kvI 3 0 (kvA 0 (a 0) (kvI 1 x1 (kvI 2 x2 kvE))))) hx hb (kdr dgX1_clashes_0 1 0 rfl rfl) rfl hl (by decide) rfl (fun ls hl => ?_)
        exact J17 (f_X1_clashes_4 n) ih 24 ce fr un sb se so sc wb we wo wc fb fe fo fc rm ac rf kn x1 x2 0 _ _ hP hD hS ls (lv_sub hl [1, 2, 3, 0] rfl) h
  have h := f_X1_clashes_e.symm.trans hf
  refine lv_iconst (v := 0) hx hb (kdr dgX1_clashes_0 0 0 rfl rfl) (by decide) ?_
  refine lv_istore_n (lv' := (kvI 1 0 (kvA 0 (a 0) kvE))) hx hb (kdr dgX1_clashes_0 0 1 rfl rfl) rfl hl (by decide) rfl (fun ls hl => ?_)
  refine lv_iconst (v := 0) hx hb (kdr dgX1_clashes_0 0 2 rfl rfl) (by decide) ?_
  refine lv_istore_n (lv' := (kvI 2 0 (kvI 1 0 (kvA 0 (a 0) kvE)))) hx hb (kdr dgX1_clashes_0 0 3 rfl rfl) rfl hl (by decide) rfl (fun ls hl => ?_)
  exact J4 24 ce fr un sb se so sc wb we wo wc fb fe fo fc rm ac rf kn 0 0 _ _ hP hD hS ls (lv_sub hl [2, 1, 0] rfl) h
noncomputable abbrev wsX1_at : List Cond := kWs yX1_at cX1_at 2 (some .int)
noncomputable def f_X1_at (ce : Nat → Int64) (sb : Nat → Int64) (se : Nat → Int64) (sc : Int32) (p0 : Int32) : Option (Int32) :=
  (f_X1_needCell p0).bind fun r1 =>
  if ix p0 4 then
    (f_X0_firstWith sb se sc (ce p0.toNatClampNeg)).bind fun r3 =>
    some r3
  else none
theorem f_X1_at_e {ce : Nat → Int64} {sb : Nat → Int64} {se : Nat → Int64} {sc : Int32} {p0 : Int32} : f_X1_at ce sb se sc p0 = 
  (f_X1_needCell p0).bind fun r1 =>
  if ix p0 4 then
    (f_X0_firstWith sb se sc (ce p0.toNatClampNeg)).bind fun r3 =>
    some r3
  else none := rfl
set_option maxHeartbeats 4000000 in
set_option maxRecDepth 100000 in
theorem c_X1_at (l : Launch) (dC : Nat → ClassId) (dI : Nat → Nat → Nat) (cB cI cJ cZ : ClassId) (a : Nat → Nat) (sz : Nat) (ce : Nat → Int64) (fr : Int64) (un : Int64) (sb : Nat → Int64) (se : Nat → Int64) (so : Nat → Int32) (sc : Int32) (wb : Nat → Int64) (we : Nat → Int64) (wo : Nat → Int32) (wc : Int32) (fb : Nat → Int64) (fe : Nat → Int64) (fo : Nat → Int32) (fc : Int32) (rm : Nat → Int32) (ac : Int32) (rf : Int32) (kn : Int32) (p0 : Int32) (res : Int32) (hf : f_X1_at ce sb se sc p0 = some res) : kMi l yX1_at wsX1_at (kRm 2 0 0 48) dC dI cB cI cJ cZ [.ref (a 0), .int p0] sz (wSB cI cJ cZ a ce fr un sb se so sc wb we wo wc fb fe fo fc rm ac rf kn) .int (res) (wSB cI cJ cZ a ce fr un sb se so sc wb we wo wc fb fe fo fc rm ac rf kn) 0 0 := by
  refine kmet_i (y := yX1_at) (cc := cX1_at) (maxL := 2) (ret := (some .int)) RX1 (kvA 0 (a 0) (kvI 1 p0 kvE)) kpl_X1 rfl rfl (Nat.le_of_ble_eq_true rfl) rfl (fun p e s m below meth c A ls hx hb hr hml hts hown hlocks hP hK hG hD hA hS hl => ?_)
  have hw0 := hts (.fieldLink RX1 25 "Spanbooker" "spanRow" "LSpanbooker$Row;") (List.mem_cons_of_mem _ kw_110)
  have hw1 := hts (.fieldLink RX1 9 "Spanbooker" "cells" "[J") (List.mem_cons_of_mem _ kw_107)
  have hiX1 : ∀ w ∈ u_ws RX1 TX1 10, w ∈ wsX1_at := fun w h => List.mem_cons_of_mem _ (ku_X1 w h)
  have h := f_X1_at_e.symm.trans hf
  refine lv_iload_n hx hb (kdr dgX1_at_0 0 0 rfl rfl) rfl (lv_at hl 1 rfl) ?_
  obtain ⟨r1, g1, h⟩ := g_b h
  refine kq_v (wSB cI cJ cZ a ce fr un sb se so sc wb we wo wc fb fe fo fc rm ac rf kn) (fun qP qD qF => va_runS (As := [.int p0]) (rest := []) ⟨hx, hb, hml, hown, hts⟩ (c_X1_needCell l dC dI cB cI cJ cZ  _  p0 r1 g1) (kcwS hts kw_473 kv_X1_needCell rfl rfl ⟨(Nat.le_of_ble_eq_true rfl), (Nat.le_of_ble_eq_true rfl)⟩) (kpS (A := A) (kPnil) hK ((kDnil (A := A))) hG) rfl rfl hl.1 rfl (lv_room (Nat.le_of_ble_eq_true rfl)) (kdr dgX1_at_0 0 1 rfl rfl) ⟨(Nat.le_of_ble_eq_true rfl), (Nat.le_of_ble_eq_true rfl)⟩) hP hD hS hA kFr_n (fun H locs hP hD hS => ?_)
  refine lv_aload_n hx hb (kdr dgX1_at_0 0 2 rfl rfl) rfl (lv_at hl 0 rfl) ?_
  refine va_get (D := (dC, dI)) (ci := 3) (v := .ref (a 2)) (C := RX1) (T := TX1) (N := 10) hx hb hts hiX1 hown hK hP 0 rfl rfl 3 (by decide) hw0 (fun _ h9 => h9) rfl (kdr dgX1_at_0 0 3 rfl rfl) ?_
  refine lv_aload_n hx hb (kdr dgX1_at_0 0 4 rfl rfl) rfl (lv_at hl 0 rfl) ?_
  refine va_get (D := (dC, dI)) (ci := 3) (v := .ref (a 1)) (C := RX1) (T := TX1) (N := 10) hx hb hts hiX1 hown hK hP 0 rfl rfl 0 (by decide) hw1 (fun _ h9 => h9) rfl (kdr dgX1_at_0 0 5 rfl rfl) ?_
  refine lv_iload_n hx hb (kdr dgX1_at_0 0 6 rfl rfl) rfl (lv_at hl 1 rfl) ?_
  obtain ⟨z1, h⟩ := g_if h
  refine va_lald hx hb hK hP 1 2 rfl rfl (ix_in z1) (kdr dgX1_at_0 0 7 rfl rfl) ?_
  obtain ⟨r3, g3, h⟩ := g_b h
  refine kq_i (wSB cI cJ cZ a ce fr un sb se so sc wb we wo wc fb fe fo fc rm ac rf kn) (fun qP qD qF => va_runV (As := [.long (ce p0.toNatClampNeg)]) (rest := []) ⟨hx, hb, hml, hown, hts⟩ (c_X0_firstWith l dC dI cB cI cJ cZ (a 2) (a 3) (a 4) (a 5) _ sb se so sc (ce p0.toNatClampNeg) r3 g3) (kcwV hts kw_206 kv_X0_firstWith rfl rfl ⟨(Nat.le_of_ble_eq_true rfl), (Nat.le_of_ble_eq_true rfl)⟩) (kpV (A := A) qP hK qD hG (krecv_2 (q0 := 2) hK hP rfl)) rfl rfl hl.1 rfl (lv_room (Nat.le_of_ble_eq_true rfl)) (kdr dgX1_at_0 0 8 rfl rfl) ⟨(Nat.le_of_ble_eq_true rfl), (Nat.le_of_ble_eq_true rfl)⟩) hP hD hS hA kFr_SBs (fun H locs hP hD hS br3 => ?_)
  have h := Option.some.inj h
  subst h
  exact kret_i (v := r3) hx hb hr rfl hlocks hS hP (kdr dgX1_at_0 0 9 rfl rfl)
noncomputable def fx_X1_at (p0 : Int32) : Option (Nat) :=
  xb (fx_X1_needCell p0) (fun k1 => some k1) (
  none)
theorem fx_X1_at_e {p0 : Int32} : fx_X1_at p0 = 
  xb (fx_X1_needCell p0) (fun k1 => some k1) (
  none) := rfl
set_option maxHeartbeats 4000000 in
set_option maxRecDepth 100000 in
theorem x_X1_at (l : Launch) (hl9 : l.stackTraces = false) (dC : Nat → ClassId) (dI : Nat → Nat → Nat) (cB cI cJ cZ : ClassId) (a : Nat → Nat) (sz : Nat) (ce : Nat → Int64) (fr : Int64) (un : Int64) (sb : Nat → Int64) (se : Nat → Int64) (so : Nat → Int32) (sc : Int32) (wb : Nat → Int64) (we : Nat → Int64) (wo : Nat → Int32) (wc : Int32) (fb : Nat → Int64) (fe : Nat → Int64) (fo : Nat → Int32) (fc : Int32) (rm : Nat → Int32) (ac : Int32) (rf : Int32) (kn : Int32) (p0 : Int32) (res : Nat) (hf : fx_X1_at p0 = some res) : kMX l yX1_at wsX1_at (kRm 7 1 6 110) dC dI cB cI cJ cZ [.ref (a 0), .int p0] sz (wSB cI cJ cZ a ce fr un sb se so sc wb we wo wc fb fe fo fc rm ac rf kn) (res) (wSB cI cJ cZ a ce fr un sb se so sc wb we wo wc fb fe fo fc rm ac rf kn) 1 6 := by
  refine kmet_x (y := yX1_at) (cc := cX1_at) (maxL := 2) (ret := (some .int)) RX1 (kvA 0 (a 0) (kvI 1 p0 kvE)) kpl_X1 rfl rfl (Nat.le_of_ble_eq_true rfl) rfl (fun p e s m below meth c A ls hx hb hr hml ht hts hown hlocks hP hK hG hZ hD hA hS hl => ?_)
  have h := fx_X1_at_e.symm.trans hf
  refine lv_iload_n hx hb (kdr dgX1_at_0 0 0 rfl rfl) rfl (lv_at hl 1 rfl) ?_
  rcases g_x h with ⟨k1, j1, h⟩ | ⟨-, h⟩
  · have h := Option.some.inj h
    subst h
    exact kq_x (wSB cI cJ cZ a ce fr un sb se so sc wb we wo wc fb fe fo fc rm ac rf kn) (fun qP qD qF => vx_runS (As := [.int p0]) (rest := []) ⟨hx, hb, hml, hown, hts⟩ (x_X1_needCell l hl9 dC dI cB cI cJ cZ  _  p0 k1 j1) (kcwS hts kw_473 kv_X1_needCell rfl rfl ⟨(Nat.le_of_ble_eq_true rfl), (Nat.le_of_ble_eq_true rfl)⟩) (kpSXq (A := A) (kPnil) hK ((kDnil (A := A))) hG hZ hS qF) rfl rfl hl.1 rfl (lv_room (Nat.le_of_ble_eq_true rfl)) (kdr dgX1_at_0 0 1 rfl rfl) ⟨(Nat.le_of_ble_eq_true rfl), (Nat.le_of_ble_eq_true rfl)⟩) hP hD hS hA kFr_n ht hlocks (Nat.le_of_ble_eq_true rfl) (Nat.le_of_ble_eq_true rfl)
  · cases h
noncomputable abbrev wsX1_deepest : List Cond := kWs yX1_deepest cX1_deepest 1 (some .int)
noncomputable def f_X1_deepest (sb : Nat → Int64) (se : Nat → Int64) (sc : Int32) : Option (Int32) :=
  (f_X0_depth sb se sc).bind fun r1 =>
  some r1
theorem f_X1_deepest_e {sb : Nat → Int64} {se : Nat → Int64} {sc : Int32} : f_X1_deepest sb se sc = 
  (f_X0_depth sb se sc).bind fun r1 =>
  some r1 := rfl
set_option maxHeartbeats 4000000 in
set_option maxRecDepth 100000 in
theorem c_X1_deepest (l : Launch) (dC : Nat → ClassId) (dI : Nat → Nat → Nat) (cB cI cJ cZ : ClassId) (a : Nat → Nat) (sz : Nat) (ce : Nat → Int64) (fr : Int64) (un : Int64) (sb : Nat → Int64) (se : Nat → Int64) (so : Nat → Int32) (sc : Int32) (wb : Nat → Int64) (we : Nat → Int64) (wo : Nat → Int32) (wc : Int32) (fb : Nat → Int64) (fe : Nat → Int64) (fo : Nat → Int32) (fc : Int32) (rm : Nat → Int32) (ac : Int32) (rf : Int32) (kn : Int32) (res : Int32) (hf : f_X1_deepest sb se sc = some res) : kMi l yX1_deepest wsX1_deepest (kRm 2 0 0 64) dC dI cB cI cJ cZ [.ref (a 0)] sz (wSB cI cJ cZ a ce fr un sb se so sc wb we wo wc fb fe fo fc rm ac rf kn) .int (res) (wSB cI cJ cZ a ce fr un sb se so sc wb we wo wc fb fe fo fc rm ac rf kn) 0 0 := by
  refine kmet_i (y := yX1_deepest) (cc := cX1_deepest) (maxL := 1) (ret := (some .int)) RX1 (kvA 0 (a 0) kvE) kpl_X1 rfl rfl (Nat.le_of_ble_eq_true rfl) rfl (fun p e s m below meth c A ls hx hb hr hml hts hown hlocks hP hK hG hD hA hS hl => ?_)
  have hw0 := hts (.fieldLink RX1 25 "Spanbooker" "spanRow" "LSpanbooker$Row;") (List.mem_cons_of_mem _ kw_110)
  have hiX1 : ∀ w ∈ u_ws RX1 TX1 10, w ∈ wsX1_deepest := fun w h => List.mem_cons_of_mem _ (ku_X1 w h)
  have h := f_X1_deepest_e.symm.trans hf
  refine lv_aload_n hx hb (kdr dgX1_deepest_0 0 0 rfl rfl) rfl (lv_at hl 0 rfl) ?_
  refine va_get (D := (dC, dI)) (ci := 3) (v := .ref (a 2)) (C := RX1) (T := TX1) (N := 10) hx hb hts hiX1 hown hK hP 0 rfl rfl 3 (by decide) hw0 (fun _ h9 => h9) rfl (kdr dgX1_deepest_0 0 1 rfl rfl) ?_
  obtain ⟨r1, g1, h⟩ := g_b h
  refine kq_i (wSB cI cJ cZ a ce fr un sb se so sc wb we wo wc fb fe fo fc rm ac rf kn) (fun qP qD qF => va_runV (As := []) (rest := []) ⟨hx, hb, hml, hown, hts⟩ (c_X0_depth l dC dI cB cI cJ cZ (a 2) (a 3) (a 4) (a 5) _ sb se so sc  r1 g1) (kcwV hts kw_171 kv_X0_depth rfl rfl ⟨(Nat.le_of_ble_eq_true rfl), (Nat.le_of_ble_eq_true rfl)⟩) (kpV (A := A) qP hK qD hG (krecv_2 (q0 := 2) hK hP rfl)) rfl rfl hl.1 rfl (lv_room (Nat.le_of_ble_eq_true rfl)) (kdr dgX1_deepest_0 0 2 rfl rfl) ⟨(Nat.le_of_ble_eq_true rfl), (Nat.le_of_ble_eq_true rfl)⟩) hP hD hS hA kFr_SBs (fun H locs hP hD hS br1 => ?_)
  have h := Option.some.inj h
  subst h
  exact kret_i (v := r1) hx hb hr rfl hlocks hS hP (kdr dgX1_deepest_0 0 3 rfl rfl)
noncomputable abbrev wsX1_isFree : List Cond := kWs yX1_isFree cX1_isFree 7 (some .boolean)
noncomputable def f_X1_isFree (ce : Nat → Int64) (fr : Int64) (un : Int64) (sb : Nat → Int64) (se : Nat → Int64) (sc : Int32) (p0 : Int32) (p1 : Int32) : Option (Int32) :=
  (f_X1_needCell p0).bind fun r1 =>
  (f_X1_needCell p1).bind fun r2 =>
  if ix p0 4 then
    if ix p1 4 then
      if (ce p1.toNatClampNeg) ≤ (ce p0.toNatClampNeg) then
        some 0
      else
        (f_X1_isInCalendar fr un (ce p0.toNatClampNeg) (ce p1.toNatClampNeg)).bind fun r6 =>
        if r6 = 0 then
          some 0
        else
          (f_X0_firstMeeting sb se sc (ce p0.toNatClampNeg) (ce p1.toNatClampNeg) (-1)).bind fun r8 =>
          if r8 = (-1) then
            some 1
          else
            some 0
    else none
  else none
theorem f_X1_isFree_e {ce : Nat → Int64} {fr : Int64} {un : Int64} {sb : Nat → Int64} {se : Nat → Int64} {sc : Int32} {p0 : Int32} {p1 : Int32} : f_X1_isFree ce fr un sb se sc p0 p1 = 
  (f_X1_needCell p0).bind fun r1 =>
  (f_X1_needCell p1).bind fun r2 =>
  if ix p0 4 then
    if ix p1 4 then
      if (ce p1.toNatClampNeg) ≤ (ce p0.toNatClampNeg) then
        some 0
      else
        (f_X1_isInCalendar fr un (ce p0.toNatClampNeg) (ce p1.toNatClampNeg)).bind fun r6 =>
        if r6 = 0 then
          some 0
        else
          (f_X0_firstMeeting sb se sc (ce p0.toNatClampNeg) (ce p1.toNatClampNeg) (-1)).bind fun r8 =>
          if r8 = (-1) then
            some 1
          else
            some 0
    else none
  else none := rfl
set_option maxHeartbeats 4000000 in
set_option maxRecDepth 100000 in
theorem c_X1_isFree (l : Launch) (dC : Nat → ClassId) (dI : Nat → Nat → Nat) (cB cI cJ cZ : ClassId) (a : Nat → Nat) (sz : Nat) (ce : Nat → Int64) (fr : Int64) (un : Int64) (sb : Nat → Int64) (se : Nat → Int64) (so : Nat → Int32) (sc : Int32) (wb : Nat → Int64) (we : Nat → Int64) (wo : Nat → Int32) (wc : Int32) (fb : Nat → Int64) (fe : Nat → Int64) (fo : Nat → Int32) (fc : Int32) (rm : Nat → Int32) (ac : Int32) (rf : Int32) (kn : Int32) (p0 : Int32) (p1 : Int32) (res : Int32) (hf : f_X1_isFree ce fr un sb se sc p0 p1 = some res) : kMi l yX1_isFree wsX1_isFree (kRm 2 0 0 42) dC dI cB cI cJ cZ [.ref (a 0), .int p0, .int p1] sz (wSB cI cJ cZ a ce fr un sb se so sc wb we wo wc fb fe fo fc rm ac rf kn) .boolean (res) (wSB cI cJ cZ a ce fr un sb se so sc wb we wo wc fb fe fo fc rm ac rf kn) 0 0 := by
  refine kmet_i (y := yX1_isFree) (cc := cX1_isFree) (maxL := 7) (ret := (some .boolean)) RX1 (kvA 0 (a 0) (kvI 1 p0 (kvI 2 p1 kvE))) kpl_X1 rfl rfl (Nat.le_of_ble_eq_true rfl) rfl (fun p e s m below meth c A ls hx hb hr hml hts hown hlocks hP hK hG hD hA hS hl => ?_)
  have hw0 := hts (.fieldLink RX1 9 "Spanbooker" "cells" "[J") (List.mem_cons_of_mem _ kw_107)
  have hw1 := hts (.fieldLink RX1 25 "Spanbooker" "spanRow" "LSpanbooker$Row;") (List.mem_cons_of_mem _ kw_110)
  have hiX1 : ∀ w ∈ u_ws RX1 TX1 10, w ∈ wsX1_isFree := fun w h => List.mem_cons_of_mem _ (ku_X1 w h)
  have h := f_X1_isFree_e.symm.trans hf
  refine lv_iload_n hx hb (kdr dgX1_isFree_0 0 0 rfl rfl) rfl (lv_at hl 1 rfl) ?_
  obtain ⟨r1, g1, h⟩ := g_b h
  refine kq_v (wSB cI cJ cZ a ce fr un sb se so sc wb we wo wc fb fe fo fc rm ac rf kn) (fun qP qD qF => va_runS (As := [.int p0]) (rest := []) ⟨hx, hb, hml, hown, hts⟩ (c_X1_needCell l dC dI cB cI cJ cZ  _  p0 r1 g1) (kcwS hts kw_473 kv_X1_needCell rfl rfl ⟨(Nat.le_of_ble_eq_true rfl), (Nat.le_of_ble_eq_true rfl)⟩) (kpS (A := A) (kPnil) hK ((kDnil (A := A))) hG) rfl rfl hl.1 rfl (lv_room (Nat.le_of_ble_eq_true rfl)) (kdr dgX1_isFree_0 0 1 rfl rfl) ⟨(Nat.le_of_ble_eq_true rfl), (Nat.le_of_ble_eq_true rfl)⟩) hP hD hS hA kFr_n (fun H locs hP hD hS => ?_)
  refine lv_iload_n hx hb (kdr dgX1_isFree_0 0 2 rfl rfl) rfl (lv_at hl 2 rfl) ?_
  obtain ⟨r2, g2, h⟩ := g_b h
  refine kq_v (wSB cI cJ cZ a ce fr un sb se so sc wb we wo wc fb fe fo fc rm ac rf kn) (fun qP qD qF => va_runS (As := [.int p1]) (rest := []) ⟨hx, hb, hml, hown, hts⟩ (c_X1_needCell l dC dI cB cI cJ cZ  _  p1 r2 g2) (kcwS hts kw_473 kv_X1_needCell rfl rfl ⟨(Nat.le_of_ble_eq_true rfl), (Nat.le_of_ble_eq_true rfl)⟩) (kpS (A := A) (kPnil) hK ((kDnil (A := A))) hG) rfl rfl hl.1 rfl (lv_room (Nat.le_of_ble_eq_true rfl)) (kdr dgX1_isFree_0 0 3 rfl rfl) ⟨(Nat.le_of_ble_eq_true rfl), (Nat.le_of_ble_eq_true rfl)⟩) hP hD hS hA kFr_n (fun H locs hP hD hS => ?_)
  refine lv_aload_n hx hb (kdr dgX1_isFree_0 0 4 rfl rfl) rfl (lv_at hl 0 rfl) ?_
  refine va_get (D := (dC, dI)) (ci := 3) (v := .ref (a 1)) (C := RX1) (T := TX1) (N := 10) hx hb hts hiX1 hown hK hP 0 rfl rfl 0 (by decide) hw0 (fun _ h9 => h9) rfl (kdr dgX1_isFree_0 0 5 rfl rfl) ?_
  refine lv_iload_n hx hb (kdr dgX1_isFree_0 0 6 rfl rfl) rfl (lv_at hl 1 rfl) ?_
  obtain ⟨z2, h⟩ := g_if h
  refine va_lald hx hb hK hP 1 2 rfl rfl (ix_in z2) (kdr dgX1_isFree_0 0 7 rfl rfl) ?_
  refine lv_lstore_n (lv' := (kvJ 3 (ce p0.toNatClampNeg) (kvA 0 (a 0) (kvI 1 p0 (kvI 2 p1 kvE))))) hx hb (kdr dgX1_isFree_0 0 8 rfl rfl) rfl hl (by decide) rfl (fun ls hl => ?_)
  refine lv_aload_n hx hb (kdr dgX1_isFree_0 0 9 rfl rfl) rfl (lv_at hl 1 rfl) ?_
  refine va_get (D := (dC, dI)) (ci := 3) (v := .ref (a 1)) (C := RX1) (T := TX1) (N := 10) hx hb hts hiX1 hown hK hP 0 rfl rfl 0 (by decide) hw0 (fun _ h9 => h9) rfl (kdr dgX1_isFree_0 1 0 rfl rfl) ?_
  refine lv_iload_n hx hb (kdr dgX1_isFree_0 1 1 rfl rfl) rfl (lv_at hl 3 rfl) ?_
  obtain ⟨z3, h⟩ := g_if h
  refine va_lald hx hb hK hP 1 2 rfl rfl (ix_in z3) (kdr dgX1_isFree_0 1 2 rfl rfl) ?_
  refine lv_lstore (lv' := (kvJ 5 (ce p1.toNatClampNeg) (kvJ 3 (ce p0.toNatClampNeg) (kvA 0 (a 0) (kvI 1 p0 (kvI 2 p1 kvE)))))) hx hb (kdr dgX1_isFree_0 1 3 rfl rfl) hl (by decide) rfl (fun ls hl => ?_)
  refine lv_lload_n hx hb (kdr dgX1_isFree_0 1 4 rfl rfl) rfl (lv_at hl 1 rfl) ?_
  refine lv_lload hx hb (kdr dgX1_isFree_0 1 5 rfl rfl) (lv_at hl 0 rfl) ?_
  refine kl_ge (pc := 26) (tgt := 59) hx hb (kdr dgX1_isFree_0 1 6 rfl rfl) (kdr dgX1_isFree_0 1 7 rfl rfl) (by decide) (fun c5 => ?_) (fun c5 => ?_)
  · have h := g_t c5 h
    refine lv_iconst (v := 0) hx hb (kdr dgX1_isFree_0 3 3 rfl rfl) (by decide) ?_
    have h := Option.some.inj h
    subst h
    exact kret_i (v := 0) hx hb hr rfl hlocks hS hP (kdr dgX1_isFree_0 3 4 rfl rfl)
  · have h := g_f c5 h
    refine lv_aload_n hx hb (kdr dgX1_isFree_0 1 8 rfl rfl) rfl (lv_at hl 2 rfl) ?_
    refine lv_lload_n hx hb (kdr dgX1_isFree_0 1 9 rfl rfl) rfl (lv_at hl 1 rfl) ?_
    refine lv_lload hx hb (kdr dgX1_isFree_0 2 0 rfl rfl) (lv_at hl 0 rfl) ?_
    obtain ⟨r6, g6, h⟩ := g_b h
    refine kq_i (wSB cI cJ cZ a ce fr un sb se so sc wb we wo wc fb fe fo fc rm ac rf kn) (fun qP qD qF => va_runV (As := [.long (ce p0.toNatClampNeg), .long (ce p1.toNatClampNeg)]) (rest := []) ⟨hx, hb, hml, hown, hts⟩ (c_X1_isInCalendar l dC dI cB cI cJ cZ a _ ce fr un sb se so sc wb we wo wc fb fe fo fc rm ac rf kn (ce p0.toNatClampNeg) (ce p1.toNatClampNeg) r6 g6) (kcwV hts kw_276 kv_X1_isInCalendar rfl rfl ⟨(Nat.le_of_ble_eq_true rfl), (Nat.le_of_ble_eq_true rfl)⟩) (kpV (A := A) qP hK qD hG (krecv_3 (q0 := 0) hK hP rfl)) rfl rfl hl.1 rfl (lv_room (Nat.le_of_ble_eq_true rfl)) (kdr dgX1_isFree_0 2 1 rfl rfl) ⟨(Nat.le_of_ble_eq_true rfl), (Nat.le_of_ble_eq_true rfl)⟩) hP hD hS hA kFr_SB (fun H locs hP hD hS br6 => ?_)
    refine lv_if_eq (tgt := 59) hx hb (kdr dgX1_isFree_0 2 2 rfl rfl) (by decide) (fun c7 => ?_) (fun c7 => ?_)
    · have h := g_t c7 h
      refine lv_iconst (v := 0) hx hb (kdr dgX1_isFree_0 3 3 rfl rfl) (by decide) ?_
      have h := Option.some.inj h
      subst h
      exact kret_i (v := 0) hx hb hr rfl hlocks hS hP (kdr dgX1_isFree_0 3 4 rfl rfl)
    · have h := g_f c7 h
      refine lv_aload_n hx hb (kdr dgX1_isFree_0 2 3 rfl rfl) rfl (lv_at hl 2 rfl) ?_
      refine va_get (D := (dC, dI)) (ci := 3) (v := .ref (a 2)) (C := RX1) (T := TX1) (N := 10) hx hb hts hiX1 hown hK hP 0 rfl rfl 3 (by decide) hw1 (fun _ h9 => h9) rfl (kdr dgX1_isFree_0 2 4 rfl rfl) ?_
      refine lv_lload_n hx hb (kdr dgX1_isFree_0 2 5 rfl rfl) rfl (lv_at hl 1 rfl) ?_
      refine lv_lload hx hb (kdr dgX1_isFree_0 2 6 rfl rfl) (lv_at hl 0 rfl) ?_
      refine lv_iconst (v := (-1)) hx hb (kdr dgX1_isFree_0 2 7 rfl rfl) (by decide) ?_
      obtain ⟨r8, g8, h⟩ := g_b h
      refine kq_i (wSB cI cJ cZ a ce fr un sb se so sc wb we wo wc fb fe fo fc rm ac rf kn) (fun qP qD qF => va_runV (As := [.long (ce p0.toNatClampNeg), .long (ce p1.toNatClampNeg), .int (-1)]) (rest := []) ⟨hx, hb, hml, hown, hts⟩ (c_X0_firstMeeting l dC dI cB cI cJ cZ (a 2) (a 3) (a 4) (a 5) _ sb se so sc (ce p0.toNatClampNeg) (ce p1.toNatClampNeg) (-1) r8 g8) (kcwV hts kw_190 kv_X0_firstMeeting rfl rfl ⟨(Nat.le_of_ble_eq_true rfl), (Nat.le_of_ble_eq_true rfl)⟩) (kpV (A := A) qP hK qD hG (krecv_2 (q0 := 2) hK hP rfl)) rfl rfl hl.1 rfl (lv_room (Nat.le_of_ble_eq_true rfl)) (kdr dgX1_isFree_0 2 8 rfl rfl) ⟨(Nat.le_of_ble_eq_true rfl), (Nat.le_of_ble_eq_true rfl)⟩) hP hD hS hA kFr_SBs (fun H locs hP hD hS br8 => ?_)
      refine lv_iconst (v := (-1)) hx hb (kdr dgX1_isFree_0 2 9 rfl rfl) (by decide) ?_
      refine lv_icmp_ne (tgt := 59) hx hb (kdr dgX1_isFree_0 3 0 rfl rfl) (by decide) (fun c9 => ?_) (fun c9 => ?_)
      · have h := g_f c9 h
        refine lv_iconst (v := 0) hx hb (kdr dgX1_isFree_0 3 3 rfl rfl) (by decide) ?_
        have h := Option.some.inj h
        subst h
        exact kret_i (v := 0) hx hb hr rfl hlocks hS hP (kdr dgX1_isFree_0 3 4 rfl rfl)
      · have h := g_t c9 h
        refine lv_iconst (v := 1) hx hb (kdr dgX1_isFree_0 3 1 rfl rfl) (by decide) ?_
        refine lv_goto (tgt := 60) hx hb (kdr dgX1_isFree_0 3 2 rfl rfl) (by decide) ?_
        have h := Option.some.inj h
        subst h
        exact kret_i (v := 1) hx hb hr rfl hlocks hS hP (kdr dgX1_isFree_0 3 4 rfl rfl)
noncomputable def fx_X1_isFree (p0 : Int32) (p1 : Int32) : Option (Nat) :=
  xb (fx_X1_needCell p0) (fun k1 => some k1) (
  (f_X1_needCell p0).bind fun r1 =>
  xb (fx_X1_needCell p1) (fun k2 => some k2) (
  none))
theorem fx_X1_isFree_e {p0 : Int32} {p1 : Int32} : fx_X1_isFree p0 p1 = 
  xb (fx_X1_needCell p0) (fun k1 => some k1) (
  (f_X1_needCell p0).bind fun r1 =>
  xb (fx_X1_needCell p1) (fun k2 => some k2) (
  none)) := rfl
set_option maxHeartbeats 4000000 in
set_option maxRecDepth 100000 in
theorem x_X1_isFree (l : Launch) (hl9 : l.stackTraces = false) (dC : Nat → ClassId) (dI : Nat → Nat → Nat) (cB cI cJ cZ : ClassId) (a : Nat → Nat) (sz : Nat) (ce : Nat → Int64) (fr : Int64) (un : Int64) (sb : Nat → Int64) (se : Nat → Int64) (so : Nat → Int32) (sc : Int32) (wb : Nat → Int64) (we : Nat → Int64) (wo : Nat → Int32) (wc : Int32) (fb : Nat → Int64) (fe : Nat → Int64) (fo : Nat → Int32) (fc : Int32) (rm : Nat → Int32) (ac : Int32) (rf : Int32) (kn : Int32) (p0 : Int32) (p1 : Int32) (res : Nat) (hf : fx_X1_isFree p0 p1 = some res) : kMX l yX1_isFree wsX1_isFree (kRm 7 1 6 110) dC dI cB cI cJ cZ [.ref (a 0), .int p0, .int p1] sz (wSB cI cJ cZ a ce fr un sb se so sc wb we wo wc fb fe fo fc rm ac rf kn) (res) (wSB cI cJ cZ a ce fr un sb se so sc wb we wo wc fb fe fo fc rm ac rf kn) 1 6 := by
  refine kmet_x (y := yX1_isFree) (cc := cX1_isFree) (maxL := 7) (ret := (some .boolean)) RX1 (kvA 0 (a 0) (kvI 1 p0 (kvI 2 p1 kvE))) kpl_X1 rfl rfl (Nat.le_of_ble_eq_true rfl) rfl (fun p e s m below meth c A ls hx hb hr hml ht hts hown hlocks hP hK hG hZ hD hA hS hl => ?_)
  have h := fx_X1_isFree_e.symm.trans hf
  refine lv_iload_n hx hb (kdr dgX1_isFree_0 0 0 rfl rfl) rfl (lv_at hl 1 rfl) ?_
  rcases g_x h with ⟨k1, j1, h⟩ | ⟨-, h⟩
  · have h := Option.some.inj h
    subst h
    exact kq_x (wSB cI cJ cZ a ce fr un sb se so sc wb we wo wc fb fe fo fc rm ac rf kn) (fun qP qD qF => vx_runS (As := [.int p0]) (rest := []) ⟨hx, hb, hml, hown, hts⟩ (x_X1_needCell l hl9 dC dI cB cI cJ cZ  _  p0 k1 j1) (kcwS hts kw_473 kv_X1_needCell rfl rfl ⟨(Nat.le_of_ble_eq_true rfl), (Nat.le_of_ble_eq_true rfl)⟩) (kpSXq (A := A) (kPnil) hK ((kDnil (A := A))) hG hZ hS qF) rfl rfl hl.1 rfl (lv_room (Nat.le_of_ble_eq_true rfl)) (kdr dgX1_isFree_0 0 1 rfl rfl) ⟨(Nat.le_of_ble_eq_true rfl), (Nat.le_of_ble_eq_true rfl)⟩) hP hD hS hA kFr_n ht hlocks (Nat.le_of_ble_eq_true rfl) (Nat.le_of_ble_eq_true rfl)
  · obtain ⟨r1, g1, h⟩ := g_b h
    refine kq_v (wSB cI cJ cZ a ce fr un sb se so sc wb we wo wc fb fe fo fc rm ac rf kn) (fun qP qD qF => va_runS (As := [.int p0]) (rest := []) ⟨hx, hb, hml, hown, hts⟩ (c_X1_needCell l dC dI cB cI cJ cZ  _  p0 r1 g1) (kcwS hts kw_473 kv_X1_needCell rfl rfl ⟨(Nat.le_of_ble_eq_true rfl), (Nat.le_of_ble_eq_true rfl)⟩) (kpS (A := A) (kPnil) hK ((kDnil (A := A))) hG) rfl rfl hl.1 rfl (lv_room (Nat.le_of_ble_eq_true rfl)) (kdr dgX1_isFree_0 0 1 rfl rfl) ⟨(Nat.le_of_ble_eq_true rfl), (Nat.le_of_ble_eq_true rfl)⟩) hP hD hS hA kFr_n (fun H locs hP hD hS => ?_)
    refine lv_iload_n hx hb (kdr dgX1_isFree_0 0 2 rfl rfl) rfl (lv_at hl 2 rfl) ?_
    rcases g_x h with ⟨k2, j2, h⟩ | ⟨-, h⟩
    · have h := Option.some.inj h
      subst h
      exact kq_x (wSB cI cJ cZ a ce fr un sb se so sc wb we wo wc fb fe fo fc rm ac rf kn) (fun qP qD qF => vx_runS (As := [.int p1]) (rest := []) ⟨hx, hb, hml, hown, hts⟩ (x_X1_needCell l hl9 dC dI cB cI cJ cZ  _  p1 k2 j2) (kcwS hts kw_473 kv_X1_needCell rfl rfl ⟨(Nat.le_of_ble_eq_true rfl), (Nat.le_of_ble_eq_true rfl)⟩) (kpSXq (A := A) (kPnil) hK ((kDnil (A := A))) hG hZ hS qF) rfl rfl hl.1 rfl (lv_room (Nat.le_of_ble_eq_true rfl)) (kdr dgX1_isFree_0 0 3 rfl rfl) ⟨(Nat.le_of_ble_eq_true rfl), (Nat.le_of_ble_eq_true rfl)⟩) hP hD hS hA kFr_n ht hlocks (Nat.le_of_ble_eq_true rfl) (Nat.le_of_ble_eq_true rfl)
    · cases h
noncomputable abbrev wsX1_frees : List Cond := kWs yX1_frees cX1_frees 1 (some .int)
noncomputable def f_X1_frees (fr : Int64) (un : Int64) (sb : Nat → Int64) (se : Nat → Int64) (sc : Int32) (fb : Nat → Int64) (fe : Nat → Int64) (fo : Nat → Int32) (fc : Int32) : Option ((Int32) × (Nat → Int64) × (Nat → Int64) × (Nat → Int32) × (Int32)) :=
  (f_X1_findFrees fr un sb se sc fb fe fo fc).bind fun r1 =>
  (f_X0_count r1.2.2.2).bind fun r2 =>
  some (r2, r1.1, r1.2.1, r1.2.2.1, r1.2.2.2)
theorem f_X1_frees_e {fr : Int64} {un : Int64} {sb : Nat → Int64} {se : Nat → Int64} {sc : Int32} {fb : Nat → Int64} {fe : Nat → Int64} {fo : Nat → Int32} {fc : Int32} : f_X1_frees fr un sb se sc fb fe fo fc = 
  (f_X1_findFrees fr un sb se sc fb fe fo fc).bind fun r1 =>
  (f_X0_count r1.2.2.2).bind fun r2 =>
  some (r2, r1.1, r1.2.1, r1.2.2.1, r1.2.2.2) := rfl
set_option maxHeartbeats 4000000 in
set_option maxRecDepth 100000 in
theorem c_X1_frees (l : Launch) (dC : Nat → ClassId) (dI : Nat → Nat → Nat) (cB cI cJ cZ : ClassId) (a : Nat → Nat) (sz : Nat) (ce : Nat → Int64) (fr : Int64) (un : Int64) (sb : Nat → Int64) (se : Nat → Int64) (so : Nat → Int32) (sc : Int32) (wb : Nat → Int64) (we : Nat → Int64) (wo : Nat → Int32) (wc : Int32) (fb : Nat → Int64) (fe : Nat → Int64) (fo : Nat → Int32) (fc : Int32) (rm : Nat → Int32) (ac : Int32) (rf : Int32) (kn : Int32) (res : (Int32) × (Nat → Int64) × (Nat → Int64) × (Nat → Int32) × (Int32)) (hf : f_X1_frees fr un sb se sc fb fe fo fc = some res) : kMi l yX1_frees wsX1_frees (kRm 4 0 0 95) dC dI cB cI cJ cZ [.ref (a 0)] sz (wSB cI cJ cZ a ce fr un sb se so sc wb we wo wc fb fe fo fc rm ac rf kn) .int (res.1) (wSB cI cJ cZ a ce fr un sb se so sc wb we wo wc (res.2.1) (res.2.2.1) (res.2.2.2.1) (res.2.2.2.2) rm ac rf kn) 0 0 := by
  refine kmet_i (y := yX1_frees) (cc := cX1_frees) (maxL := 1) (ret := (some .int)) RX1 (kvA 0 (a 0) kvE) kpl_X1 rfl rfl (Nat.le_of_ble_eq_true rfl) rfl (fun p e s m below meth c A ls hx hb hr hml hts hown hlocks hP hK hG hD hA hS hl => ?_)
  have hw0 := hts (.fieldLink RX1 32 "Spanbooker" "freeRow" "LSpanbooker$Row;") (List.mem_cons_of_mem _ kw_112)
  have hiX1 : ∀ w ∈ u_ws RX1 TX1 10, w ∈ wsX1_frees := fun w h => List.mem_cons_of_mem _ (ku_X1 w h)
  have h := f_X1_frees_e.symm.trans hf
  refine lv_aload_n hx hb (kdr dgX1_frees_0 0 0 rfl rfl) rfl (lv_at hl 0 rfl) ?_
  obtain ⟨r1, g1, h⟩ := g_b h
  refine kq_v (wSB cI cJ cZ a ce fr un sb se so sc wb we wo wc r1.1 r1.2.1 r1.2.2.1 r1.2.2.2 rm ac rf kn) (fun qP qD qF => va_runV (As := []) (rest := []) ⟨hx, hb, hml, hown, hts⟩ (c_X1_findFrees l dC dI cB cI cJ cZ a _ ce fr un sb se so sc wb we wo wc fb fe fo fc rm ac rf kn  r1 g1) (kcwV hts kw_182 kv_X1_findFrees rfl rfl ⟨(Nat.le_of_ble_eq_true rfl), (Nat.le_of_ble_eq_true rfl)⟩) (kpV (A := A) qP hK qD hG (krecv_3 (q0 := 0) hK hP rfl)) rfl rfl hl.1 rfl (lv_room (Nat.le_of_ble_eq_true rfl)) (kdr dgX1_frees_0 0 1 rfl rfl) ⟨(Nat.le_of_ble_eq_true rfl), (Nat.le_of_ble_eq_true rfl)⟩) hP hD hS hA kFr_SB (fun H locs hP hD hS => ?_)
  refine lv_aload_n hx hb (kdr dgX1_frees_0 0 2 rfl rfl) rfl (lv_at hl 0 rfl) ?_
  refine va_get (D := (dC, dI)) (ci := 3) (v := .ref (a 10)) (C := RX1) (T := TX1) (N := 10) hx hb hts hiX1 hown hK hP 0 rfl rfl 5 (by decide) hw0 (fun _ h9 => h9) rfl (kdr dgX1_frees_0 0 3 rfl rfl) ?_
  obtain ⟨r2, g2, h⟩ := g_b h
  refine kq_i (wSB cI cJ cZ a ce fr un sb se so sc wb we wo wc r1.1 r1.2.1 r1.2.2.1 r1.2.2.2 rm ac rf kn) (fun qP qD qF => va_runV (As := []) (rest := []) ⟨hx, hb, hml, hown, hts⟩ (c_X0_count l dC dI cB cI cJ cZ (a 10) (a 11) (a 12) (a 13) _ r1.1 r1.2.1 r1.2.2.1 r1.2.2.2  r2 g2) (kcwV hts kw_155 kv_X0_count rfl rfl ⟨(Nat.le_of_ble_eq_true rfl), (Nat.le_of_ble_eq_true rfl)⟩) (kpV (A := A) qP hK qD hG (krecv_2 (q0 := 10) hK hP rfl)) rfl rfl hl.1 rfl (lv_room (Nat.le_of_ble_eq_true rfl)) (kdr dgX1_frees_0 0 4 rfl rfl) ⟨(Nat.le_of_ble_eq_true rfl), (Nat.le_of_ble_eq_true rfl)⟩) hP hD hS hA kFr_SBf (fun H locs hP hD hS br2 => ?_)
  have h := Option.some.inj h
  subst h
  exact kret_i (v := r2) hx hb hr rfl hlocks hS hP (kdr dgX1_frees_0 0 5 rfl rfl)
noncomputable abbrev wsX1_ofFree : List Cond := kWs yX1_ofFree cX1_ofFree 3 (some .int)
noncomputable def f_X1_ofFree (fr : Int64) (un : Int64) (sb : Nat → Int64) (se : Nat → Int64) (sc : Int32) (fb : Nat → Int64) (fe : Nat → Int64) (fo : Nat → Int32) (fc : Int32) (p0 : Int32) (p1 : Int32) : Option ((Int32) × (Nat → Int64) × (Nat → Int64) × (Nat → Int32) × (Int32)) :=
  (f_X1_findFrees fr un sb se sc fb fe fo fc).bind fun r1 =>
  (f_X1_needNumberIn r1.2.2.2 p0).bind fun r2 =>
  (f_X1_isWithin p1 0 3).bind fun r3 =>
  (f_X1_needThat r3).bind fun r4 =>
  (f_X1_partIn r1.1 r1.2.1 r1.2.2.2 p0 p1).bind fun r5 =>
  some (r5, r1.1, r1.2.1, r1.2.2.1, r1.2.2.2)
theorem f_X1_ofFree_e {fr : Int64} {un : Int64} {sb : Nat → Int64} {se : Nat → Int64} {sc : Int32} {fb : Nat → Int64} {fe : Nat → Int64} {fo : Nat → Int32} {fc : Int32} {p0 : Int32} {p1 : Int32} : f_X1_ofFree fr un sb se sc fb fe fo fc p0 p1 = 
  (f_X1_findFrees fr un sb se sc fb fe fo fc).bind fun r1 =>
  (f_X1_needNumberIn r1.2.2.2 p0).bind fun r2 =>
  (f_X1_isWithin p1 0 3).bind fun r3 =>
  (f_X1_needThat r3).bind fun r4 =>
  (f_X1_partIn r1.1 r1.2.1 r1.2.2.2 p0 p1).bind fun r5 =>
  some (r5, r1.1, r1.2.1, r1.2.2.1, r1.2.2.2) := rfl
set_option maxHeartbeats 4000000 in
set_option maxRecDepth 100000 in
theorem c_X1_ofFree (l : Launch) (dC : Nat → ClassId) (dI : Nat → Nat → Nat) (cB cI cJ cZ : ClassId) (a : Nat → Nat) (sz : Nat) (ce : Nat → Int64) (fr : Int64) (un : Int64) (sb : Nat → Int64) (se : Nat → Int64) (so : Nat → Int32) (sc : Int32) (wb : Nat → Int64) (we : Nat → Int64) (wo : Nat → Int32) (wc : Int32) (fb : Nat → Int64) (fe : Nat → Int64) (fo : Nat → Int32) (fc : Int32) (rm : Nat → Int32) (ac : Int32) (rf : Int32) (kn : Int32) (p0 : Int32) (p1 : Int32) (res : (Int32) × (Nat → Int64) × (Nat → Int64) × (Nat → Int32) × (Int32)) (hf : f_X1_ofFree fr un sb se sc fb fe fo fc p0 p1 = some res) : kMi l yX1_ofFree wsX1_ofFree (kRm 4 0 0 95) dC dI cB cI cJ cZ [.ref (a 0), .int p0, .int p1] sz (wSB cI cJ cZ a ce fr un sb se so sc wb we wo wc fb fe fo fc rm ac rf kn) .int (res.1) (wSB cI cJ cZ a ce fr un sb se so sc wb we wo wc (res.2.1) (res.2.2.1) (res.2.2.2.1) (res.2.2.2.2) rm ac rf kn) 0 0 := by
  refine kmet_i (y := yX1_ofFree) (cc := cX1_ofFree) (maxL := 3) (ret := (some .int)) RX1 (kvA 0 (a 0) (kvI 1 p0 (kvI 2 p1 kvE))) kpl_X1 rfl rfl (Nat.le_of_ble_eq_true rfl) rfl (fun p e s m below meth c A ls hx hb hr hml hts hown hlocks hP hK hG hD hA hS hl => ?_)
  have hw0 := hts (.fieldLink RX1 32 "Spanbooker" "freeRow" "LSpanbooker$Row;") (List.mem_cons_of_mem _ kw_112)
  have hiX1 : ∀ w ∈ u_ws RX1 TX1 10, w ∈ wsX1_ofFree := fun w h => List.mem_cons_of_mem _ (ku_X1 w h)
  have h := f_X1_ofFree_e.symm.trans hf
  refine lv_aload_n hx hb (kdr dgX1_ofFree_0 0 0 rfl rfl) rfl (lv_at hl 0 rfl) ?_
  obtain ⟨r1, g1, h⟩ := g_b h
  refine kq_v (wSB cI cJ cZ a ce fr un sb se so sc wb we wo wc r1.1 r1.2.1 r1.2.2.1 r1.2.2.2 rm ac rf kn) (fun qP qD qF => va_runV (As := []) (rest := []) ⟨hx, hb, hml, hown, hts⟩ (c_X1_findFrees l dC dI cB cI cJ cZ a _ ce fr un sb se so sc wb we wo wc fb fe fo fc rm ac rf kn  r1 g1) (kcwV hts kw_182 kv_X1_findFrees rfl rfl ⟨(Nat.le_of_ble_eq_true rfl), (Nat.le_of_ble_eq_true rfl)⟩) (kpV (A := A) qP hK qD hG (krecv_3 (q0 := 0) hK hP rfl)) rfl rfl hl.1 rfl (lv_room (Nat.le_of_ble_eq_true rfl)) (kdr dgX1_ofFree_0 0 1 rfl rfl) ⟨(Nat.le_of_ble_eq_true rfl), (Nat.le_of_ble_eq_true rfl)⟩) hP hD hS hA kFr_SB (fun H locs hP hD hS => ?_)
  refine lv_aload_n hx hb (kdr dgX1_ofFree_0 0 2 rfl rfl) rfl (lv_at hl 0 rfl) ?_
  refine va_get (D := (dC, dI)) (ci := 3) (v := .ref (a 10)) (C := RX1) (T := TX1) (N := 10) hx hb hts hiX1 hown hK hP 0 rfl rfl 5 (by decide) hw0 (fun _ h9 => h9) rfl (kdr dgX1_ofFree_0 0 3 rfl rfl) ?_
  refine lv_iload_n hx hb (kdr dgX1_ofFree_0 0 4 rfl rfl) rfl (lv_at hl 1 rfl) ?_
  obtain ⟨r2, g2, h⟩ := g_b h
  refine kq_v (wSB cI cJ cZ a ce fr un sb se so sc wb we wo wc r1.1 r1.2.1 r1.2.2.1 r1.2.2.2 rm ac rf kn) (fun qP qD qF => va_runS (As := [.ref (a 10), .int p0]) (rest := []) ⟨hx, hb, hml, hown, hts⟩ (c_X1_needNumberIn l dC dI cB cI cJ cZ (a 10) (a 11) (a 12) (a 13) _ r1.1 r1.2.1 r1.2.2.1 r1.2.2.2 p0 r2 g2) (kcwS hts kw_592 kv_X1_needNumberIn rfl rfl ⟨(Nat.le_of_ble_eq_true rfl), (Nat.le_of_ble_eq_true rfl)⟩) (kpS (A := A) qP hK qD hG) rfl rfl hl.1 rfl (lv_room (Nat.le_of_ble_eq_true rfl)) (kdr dgX1_ofFree_0 0 5 rfl rfl) ⟨(Nat.le_of_ble_eq_true rfl), (Nat.le_of_ble_eq_true rfl)⟩) hP hD hS hA kFr_SBf (fun H locs hP hD hS => ?_)
  refine lv_iload_n hx hb (kdr dgX1_ofFree_0 0 6 rfl rfl) rfl (lv_at hl 2 rfl) ?_
  refine lv_iconst (v := 0) hx hb (kdr dgX1_ofFree_0 0 7 rfl rfl) (by decide) ?_
  refine lv_iconst (v := 3) hx hb (kdr dgX1_ofFree_0 0 8 rfl rfl) (by decide) ?_
  obtain ⟨r3, g3, h⟩ := g_b h
  refine kq_i (wSB cI cJ cZ a ce fr un sb se so sc wb we wo wc r1.1 r1.2.1 r1.2.2.1 r1.2.2.2 rm ac rf kn) (fun qP qD qF => va_runS (As := [.int p1, .int 0, .int 3]) (rest := []) ⟨hx, hb, hml, hown, hts⟩ (c_X1_isWithin l dC dI cB cI cJ cZ  _  p1 0 3 r3 g3) (kcwS hts kw_354 kv_X1_isWithin rfl rfl ⟨(Nat.le_of_ble_eq_true rfl), (Nat.le_of_ble_eq_true rfl)⟩) (kpS (A := A) (kPnil) hK ((kDnil (A := A))) hG) rfl rfl hl.1 rfl (lv_room (Nat.le_of_ble_eq_true rfl)) (kdr dgX1_ofFree_0 0 9 rfl rfl) ⟨(Nat.le_of_ble_eq_true rfl), (Nat.le_of_ble_eq_true rfl)⟩) hP hD hS hA kFr_n (fun H locs hP hD hS br3 => ?_)
  obtain ⟨r4, g4, h⟩ := g_b h
  refine kq_v (wSB cI cJ cZ a ce fr un sb se so sc wb we wo wc r1.1 r1.2.1 r1.2.2.1 r1.2.2.2 rm ac rf kn) (fun qP qD qF => va_runS (As := [.int r3]) (rest := []) ⟨hx, hb, hml, hown, hts⟩ (c_X1_needThat l dC dI cB cI cJ cZ  _  r3 r4 g4) (kcwS hts kw_357 kv_X1_needThat rfl rfl ⟨(Nat.le_of_ble_eq_true rfl), (Nat.le_of_ble_eq_true rfl)⟩) (kpS (A := A) (kPnil) hK ((kDnil (A := A))) hG) rfl rfl hl.1 rfl (lv_room (Nat.le_of_ble_eq_true rfl)) (kdr dgX1_ofFree_0 1 0 rfl rfl) ⟨(Nat.le_of_ble_eq_true rfl), (Nat.le_of_ble_eq_true rfl)⟩) hP hD hS hA kFr_n (fun H locs hP hD hS => ?_)
  refine lv_aload_n hx hb (kdr dgX1_ofFree_0 1 1 rfl rfl) rfl (lv_at hl 0 rfl) ?_
  refine va_get (D := (dC, dI)) (ci := 3) (v := .ref (a 10)) (C := RX1) (T := TX1) (N := 10) hx hb hts hiX1 hown hK hP 0 rfl rfl 5 (by decide) hw0 (fun _ h9 => h9) rfl (kdr dgX1_ofFree_0 1 2 rfl rfl) ?_
  refine lv_iload_n hx hb (kdr dgX1_ofFree_0 1 3 rfl rfl) rfl (lv_at hl 1 rfl) ?_
  refine lv_iload_n hx hb (kdr dgX1_ofFree_0 1 4 rfl rfl) rfl (lv_at hl 2 rfl) ?_
  obtain ⟨r5, g5, h⟩ := g_b h
  refine kq_i (wSB cI cJ cZ a ce fr un sb se so sc wb we wo wc r1.1 r1.2.1 r1.2.2.1 r1.2.2.2 rm ac rf kn) (fun qP qD qF => va_runS (As := [.ref (a 10), .int p0, .int p1]) (rest := []) ⟨hx, hb, hml, hown, hts⟩ (c_X1_partIn l dC dI cB cI cJ cZ (a 10) (a 11) (a 12) (a 13) _ r1.1 r1.2.1 r1.2.2.1 r1.2.2.2 p0 p1 r5 g5) (kcwS hts kw_433 kv_X1_partIn rfl rfl ⟨(Nat.le_of_ble_eq_true rfl), (Nat.le_of_ble_eq_true rfl)⟩) (kpS (A := A) qP hK qD hG) rfl rfl hl.1 rfl (lv_room (Nat.le_of_ble_eq_true rfl)) (kdr dgX1_ofFree_0 1 5 rfl rfl) ⟨(Nat.le_of_ble_eq_true rfl), (Nat.le_of_ble_eq_true rfl)⟩) hP hD hS hA kFr_SBf (fun H locs hP hD hS br5 => ?_)
  have h := Option.some.inj h
  subst h
  exact kret_i (v := r5) hx hb hr rfl hlocks hS hP (kdr dgX1_ofFree_0 1 6 rfl rfl)
noncomputable def fx_X1_ofFree (fr : Int64) (un : Int64) (sb : Nat → Int64) (se : Nat → Int64) (sc : Int32) (fb : Nat → Int64) (fe : Nat → Int64) (fo : Nat → Int32) (fc : Int32) (p0 : Int32) (p1 : Int32) : Option ((Nat) × (Nat → Int64) × (Nat → Int64) × (Nat → Int32) × (Int32)) :=
  (f_X1_findFrees fr un sb se sc fb fe fo fc).bind fun r1 =>
  xb (fx_X1_needNumberIn r1.2.2.2 p0) (fun k2 => some (k2, r1.1, r1.2.1, r1.2.2.1, r1.2.2.2)) (
  (f_X1_needNumberIn r1.2.2.2 p0).bind fun r2 =>
  (f_X1_isWithin p1 0 3).bind fun r3 =>
  xb (fx_X1_needThat r3) (fun k4 => some (k4, r1.1, r1.2.1, r1.2.2.1, r1.2.2.2)) (
  none))
theorem fx_X1_ofFree_e {fr : Int64} {un : Int64} {sb : Nat → Int64} {se : Nat → Int64} {sc : Int32} {fb : Nat → Int64} {fe : Nat → Int64} {fo : Nat → Int32} {fc : Int32} {p0 : Int32} {p1 : Int32} : fx_X1_ofFree fr un sb se sc fb fe fo fc p0 p1 = 
  (f_X1_findFrees fr un sb se sc fb fe fo fc).bind fun r1 =>
  xb (fx_X1_needNumberIn r1.2.2.2 p0) (fun k2 => some (k2, r1.1, r1.2.1, r1.2.2.1, r1.2.2.2)) (
  (f_X1_needNumberIn r1.2.2.2 p0).bind fun r2 =>
  (f_X1_isWithin p1 0 3).bind fun r3 =>
  xb (fx_X1_needThat r3) (fun k4 => some (k4, r1.1, r1.2.1, r1.2.2.1, r1.2.2.2)) (
  none)) := rfl
set_option maxHeartbeats 4000000 in
set_option maxRecDepth 100000 in
theorem x_X1_ofFree (l : Launch) (hl9 : l.stackTraces = false) (dC : Nat → ClassId) (dI : Nat → Nat → Nat) (cB cI cJ cZ : ClassId) (a : Nat → Nat) (sz : Nat) (ce : Nat → Int64) (fr : Int64) (un : Int64) (sb : Nat → Int64) (se : Nat → Int64) (so : Nat → Int32) (sc : Int32) (wb : Nat → Int64) (we : Nat → Int64) (wo : Nat → Int32) (wc : Int32) (fb : Nat → Int64) (fe : Nat → Int64) (fo : Nat → Int32) (fc : Int32) (rm : Nat → Int32) (ac : Int32) (rf : Int32) (kn : Int32) (p0 : Int32) (p1 : Int32) (res : (Nat) × (Nat → Int64) × (Nat → Int64) × (Nat → Int32) × (Int32)) (hf : fx_X1_ofFree fr un sb se sc fb fe fo fc p0 p1 = some res) : kMX l yX1_ofFree wsX1_ofFree (kRm 7 1 6 111) dC dI cB cI cJ cZ [.ref (a 0), .int p0, .int p1] sz (wSB cI cJ cZ a ce fr un sb se so sc wb we wo wc fb fe fo fc rm ac rf kn) (res.1) (wSB cI cJ cZ a ce fr un sb se so sc wb we wo wc (res.2.1) (res.2.2.1) (res.2.2.2.1) (res.2.2.2.2) rm ac rf kn) 1 6 := by
  refine kmet_x (y := yX1_ofFree) (cc := cX1_ofFree) (maxL := 3) (ret := (some .int)) RX1 (kvA 0 (a 0) (kvI 1 p0 (kvI 2 p1 kvE))) kpl_X1 rfl rfl (Nat.le_of_ble_eq_true rfl) rfl (fun p e s m below meth c A ls hx hb hr hml ht hts hown hlocks hP hK hG hZ hD hA hS hl => ?_)
  have hw0 := hts (.fieldLink RX1 32 "Spanbooker" "freeRow" "LSpanbooker$Row;") (List.mem_cons_of_mem _ kw_112)
  have hiX1 : ∀ w ∈ u_ws RX1 TX1 10, w ∈ wsX1_ofFree := fun w h => List.mem_cons_of_mem _ (ku_X1 w h)
  have h := fx_X1_ofFree_e.symm.trans hf
  refine lv_aload_n hx hb (kdr dgX1_ofFree_0 0 0 rfl rfl) rfl (lv_at hl 0 rfl) ?_
  obtain ⟨r1, g1, h⟩ := g_b h
  refine kq_v (wSB cI cJ cZ a ce fr un sb se so sc wb we wo wc r1.1 r1.2.1 r1.2.2.1 r1.2.2.2 rm ac rf kn) (fun qP qD qF => va_runV (As := []) (rest := []) ⟨hx, hb, hml, hown, hts⟩ (c_X1_findFrees l dC dI cB cI cJ cZ a _ ce fr un sb se so sc wb we wo wc fb fe fo fc rm ac rf kn  r1 g1) (kcwV hts kw_182 kv_X1_findFrees rfl rfl ⟨(Nat.le_of_ble_eq_true rfl), (Nat.le_of_ble_eq_true rfl)⟩) (kpV (A := A) qP hK qD hG (krecv_3 (q0 := 0) hK hP rfl)) rfl rfl hl.1 rfl (lv_room (Nat.le_of_ble_eq_true rfl)) (kdr dgX1_ofFree_0 0 1 rfl rfl) ⟨(Nat.le_of_ble_eq_true rfl), (Nat.le_of_ble_eq_true rfl)⟩) hP hD hS hA kFr_SB (fun H locs hP hD hS => ?_)
  refine lv_aload_n hx hb (kdr dgX1_ofFree_0 0 2 rfl rfl) rfl (lv_at hl 0 rfl) ?_
  refine va_get (D := (dC, dI)) (ci := 3) (v := .ref (a 10)) (C := RX1) (T := TX1) (N := 10) hx hb hts hiX1 hown hK hP 0 rfl rfl 5 (by decide) hw0 (fun _ h9 => h9) rfl (kdr dgX1_ofFree_0 0 3 rfl rfl) ?_
  refine lv_iload_n hx hb (kdr dgX1_ofFree_0 0 4 rfl rfl) rfl (lv_at hl 1 rfl) ?_
  rcases g_x h with ⟨k2, j2, h⟩ | ⟨-, h⟩
  · have h := Option.some.inj h
    subst h
    exact kq_x (wSB cI cJ cZ a ce fr un sb se so sc wb we wo wc r1.1 r1.2.1 r1.2.2.1 r1.2.2.2 rm ac rf kn) (fun qP qD qF => vx_runS (As := [.ref (a 10), .int p0]) (rest := []) ⟨hx, hb, hml, hown, hts⟩ (x_X1_needNumberIn l hl9 dC dI cB cI cJ cZ (a 10) (a 11) (a 12) (a 13) _ r1.1 r1.2.1 r1.2.2.1 r1.2.2.2 p0 k2 j2) (kcwS hts kw_592 kv_X1_needNumberIn rfl rfl ⟨(Nat.le_of_ble_eq_true rfl), (Nat.le_of_ble_eq_true rfl)⟩) (kpSXq (A := A) qP hK qD hG hZ hS qF) rfl rfl hl.1 rfl (lv_room (Nat.le_of_ble_eq_true rfl)) (kdr dgX1_ofFree_0 0 5 rfl rfl) ⟨(Nat.le_of_ble_eq_true rfl), (Nat.le_of_ble_eq_true rfl)⟩) hP hD hS hA kFr_SBf ht hlocks (Nat.le_of_ble_eq_true rfl) (Nat.le_of_ble_eq_true rfl)
  · obtain ⟨r2, g2, h⟩ := g_b h
    refine kq_v (wSB cI cJ cZ a ce fr un sb se so sc wb we wo wc r1.1 r1.2.1 r1.2.2.1 r1.2.2.2 rm ac rf kn) (fun qP qD qF => va_runS (As := [.ref (a 10), .int p0]) (rest := []) ⟨hx, hb, hml, hown, hts⟩ (c_X1_needNumberIn l dC dI cB cI cJ cZ (a 10) (a 11) (a 12) (a 13) _ r1.1 r1.2.1 r1.2.2.1 r1.2.2.2 p0 r2 g2) (kcwS hts kw_592 kv_X1_needNumberIn rfl rfl ⟨(Nat.le_of_ble_eq_true rfl), (Nat.le_of_ble_eq_true rfl)⟩) (kpS (A := A) qP hK qD hG) rfl rfl hl.1 rfl (lv_room (Nat.le_of_ble_eq_true rfl)) (kdr dgX1_ofFree_0 0 5 rfl rfl) ⟨(Nat.le_of_ble_eq_true rfl), (Nat.le_of_ble_eq_true rfl)⟩) hP hD hS hA kFr_SBf (fun H locs hP hD hS => ?_)
    refine lv_iload_n hx hb (kdr dgX1_ofFree_0 0 6 rfl rfl) rfl (lv_at hl 2 rfl) ?_
    refine lv_iconst (v := 0) hx hb (kdr dgX1_ofFree_0 0 7 rfl rfl) (by decide) ?_
    refine lv_iconst (v := 3) hx hb (kdr dgX1_ofFree_0 0 8 rfl rfl) (by decide) ?_
    obtain ⟨r3, g3, h⟩ := g_b h
    refine kq_i (wSB cI cJ cZ a ce fr un sb se so sc wb we wo wc r1.1 r1.2.1 r1.2.2.1 r1.2.2.2 rm ac rf kn) (fun qP qD qF => va_runS (As := [.int p1, .int 0, .int 3]) (rest := []) ⟨hx, hb, hml, hown, hts⟩ (c_X1_isWithin l dC dI cB cI cJ cZ  _  p1 0 3 r3 g3) (kcwS hts kw_354 kv_X1_isWithin rfl rfl ⟨(Nat.le_of_ble_eq_true rfl), (Nat.le_of_ble_eq_true rfl)⟩) (kpS (A := A) (kPnil) hK ((kDnil (A := A))) hG) rfl rfl hl.1 rfl (lv_room (Nat.le_of_ble_eq_true rfl)) (kdr dgX1_ofFree_0 0 9 rfl rfl) ⟨(Nat.le_of_ble_eq_true rfl), (Nat.le_of_ble_eq_true rfl)⟩) hP hD hS hA kFr_n (fun H locs hP hD hS br3 => ?_)
    rcases g_x h with ⟨k4, j4, h⟩ | ⟨-, h⟩
    · have h := Option.some.inj h
      subst h
      exact kq_x (wSB cI cJ cZ a ce fr un sb se so sc wb we wo wc r1.1 r1.2.1 r1.2.2.1 r1.2.2.2 rm ac rf kn) (fun qP qD qF => vx_runS (As := [.int r3]) (rest := []) ⟨hx, hb, hml, hown, hts⟩ (x_X1_needThat l hl9 dC dI cB cI cJ cZ  _  r3 k4 j4) (kcwS hts kw_357 kv_X1_needThat rfl rfl ⟨(Nat.le_of_ble_eq_true rfl), (Nat.le_of_ble_eq_true rfl)⟩) (kpSXq (A := A) (kPnil) hK ((kDnil (A := A))) hG hZ hS qF) rfl rfl hl.1 rfl (lv_room (Nat.le_of_ble_eq_true rfl)) (kdr dgX1_ofFree_0 1 0 rfl rfl) ⟨(Nat.le_of_ble_eq_true rfl), (Nat.le_of_ble_eq_true rfl)⟩) hP hD hS hA kFr_n ht hlocks (Nat.le_of_ble_eq_true rfl) (Nat.le_of_ble_eq_true rfl)
    · cases h
noncomputable abbrev wsX1_freeAt : List Cond := kWs yX1_freeAt cX1_freeAt 2 (some .int)
noncomputable def f_X1_freeAt (ce : Nat → Int64) (fr : Int64) (un : Int64) (sb : Nat → Int64) (se : Nat → Int64) (sc : Int32) (fb : Nat → Int64) (fe : Nat → Int64) (fo : Nat → Int32) (fc : Int32) (p0 : Int32) : Option ((Int32) × (Nat → Int64) × (Nat → Int64) × (Nat → Int32) × (Int32)) :=
  (f_X1_needCell p0).bind fun r1 =>
  (f_X1_findFrees fr un sb se sc fb fe fo fc).bind fun r2 =>
  if ix p0 4 then
    (f_X0_firstWith r2.1 r2.2.1 r2.2.2.2 (ce p0.toNatClampNeg)).bind fun r4 =>
    some (r4, r2.1, r2.2.1, r2.2.2.1, r2.2.2.2)
  else none
theorem f_X1_freeAt_e {ce : Nat → Int64} {fr : Int64} {un : Int64} {sb : Nat → Int64} {se : Nat → Int64} {sc : Int32} {fb : Nat → Int64} {fe : Nat → Int64} {fo : Nat → Int32} {fc : Int32} {p0 : Int32} : f_X1_freeAt ce fr un sb se sc fb fe fo fc p0 = 
  (f_X1_needCell p0).bind fun r1 =>
  (f_X1_findFrees fr un sb se sc fb fe fo fc).bind fun r2 =>
  if ix p0 4 then
    (f_X0_firstWith r2.1 r2.2.1 r2.2.2.2 (ce p0.toNatClampNeg)).bind fun r4 =>
    some (r4, r2.1, r2.2.1, r2.2.2.1, r2.2.2.2)
  else none := rfl
set_option maxHeartbeats 4000000 in
set_option maxRecDepth 100000 in
theorem c_X1_freeAt (l : Launch) (dC : Nat → ClassId) (dI : Nat → Nat → Nat) (cB cI cJ cZ : ClassId) (a : Nat → Nat) (sz : Nat) (ce : Nat → Int64) (fr : Int64) (un : Int64) (sb : Nat → Int64) (se : Nat → Int64) (so : Nat → Int32) (sc : Int32) (wb : Nat → Int64) (we : Nat → Int64) (wo : Nat → Int32) (wc : Int32) (fb : Nat → Int64) (fe : Nat → Int64) (fo : Nat → Int32) (fc : Int32) (rm : Nat → Int32) (ac : Int32) (rf : Int32) (kn : Int32) (p0 : Int32) (res : (Int32) × (Nat → Int64) × (Nat → Int64) × (Nat → Int32) × (Int32)) (hf : f_X1_freeAt ce fr un sb se sc fb fe fo fc p0 = some res) : kMi l yX1_freeAt wsX1_freeAt (kRm 4 0 0 95) dC dI cB cI cJ cZ [.ref (a 0), .int p0] sz (wSB cI cJ cZ a ce fr un sb se so sc wb we wo wc fb fe fo fc rm ac rf kn) .int (res.1) (wSB cI cJ cZ a ce fr un sb se so sc wb we wo wc (res.2.1) (res.2.2.1) (res.2.2.2.1) (res.2.2.2.2) rm ac rf kn) 0 0 := by
  refine kmet_i (y := yX1_freeAt) (cc := cX1_freeAt) (maxL := 2) (ret := (some .int)) RX1 (kvA 0 (a 0) (kvI 1 p0 kvE)) kpl_X1 rfl rfl (Nat.le_of_ble_eq_true rfl) rfl (fun p e s m below meth c A ls hx hb hr hml hts hown hlocks hP hK hG hD hA hS hl => ?_)
  have hw0 := hts (.fieldLink RX1 32 "Spanbooker" "freeRow" "LSpanbooker$Row;") (List.mem_cons_of_mem _ kw_112)
  have hw1 := hts (.fieldLink RX1 9 "Spanbooker" "cells" "[J") (List.mem_cons_of_mem _ kw_107)
  have hiX1 : ∀ w ∈ u_ws RX1 TX1 10, w ∈ wsX1_freeAt := fun w h => List.mem_cons_of_mem _ (ku_X1 w h)
  have h := f_X1_freeAt_e.symm.trans hf
  refine lv_iload_n hx hb (kdr dgX1_freeAt_0 0 0 rfl rfl) rfl (lv_at hl 1 rfl) ?_
  obtain ⟨r1, g1, h⟩ := g_b h
  refine kq_v (wSB cI cJ cZ a ce fr un sb se so sc wb we wo wc fb fe fo fc rm ac rf kn) (fun qP qD qF => va_runS (As := [.int p0]) (rest := []) ⟨hx, hb, hml, hown, hts⟩ (c_X1_needCell l dC dI cB cI cJ cZ  _  p0 r1 g1) (kcwS hts kw_473 kv_X1_needCell rfl rfl ⟨(Nat.le_of_ble_eq_true rfl), (Nat.le_of_ble_eq_true rfl)⟩) (kpS (A := A) (kPnil) hK ((kDnil (A := A))) hG) rfl rfl hl.1 rfl (lv_room (Nat.le_of_ble_eq_true rfl)) (kdr dgX1_freeAt_0 0 1 rfl rfl) ⟨(Nat.le_of_ble_eq_true rfl), (Nat.le_of_ble_eq_true rfl)⟩) hP hD hS hA kFr_n (fun H locs hP hD hS => ?_)
  refine lv_aload_n hx hb (kdr dgX1_freeAt_0 0 2 rfl rfl) rfl (lv_at hl 0 rfl) ?_
  obtain ⟨r2, g2, h⟩ := g_b h
  refine kq_v (wSB cI cJ cZ a ce fr un sb se so sc wb we wo wc r2.1 r2.2.1 r2.2.2.1 r2.2.2.2 rm ac rf kn) (fun qP qD qF => va_runV (As := []) (rest := []) ⟨hx, hb, hml, hown, hts⟩ (c_X1_findFrees l dC dI cB cI cJ cZ a _ ce fr un sb se so sc wb we wo wc fb fe fo fc rm ac rf kn  r2 g2) (kcwV hts kw_182 kv_X1_findFrees rfl rfl ⟨(Nat.le_of_ble_eq_true rfl), (Nat.le_of_ble_eq_true rfl)⟩) (kpV (A := A) qP hK qD hG (krecv_3 (q0 := 0) hK hP rfl)) rfl rfl hl.1 rfl (lv_room (Nat.le_of_ble_eq_true rfl)) (kdr dgX1_freeAt_0 0 3 rfl rfl) ⟨(Nat.le_of_ble_eq_true rfl), (Nat.le_of_ble_eq_true rfl)⟩) hP hD hS hA kFr_SB (fun H locs hP hD hS => ?_)
  refine lv_aload_n hx hb (kdr dgX1_freeAt_0 0 4 rfl rfl) rfl (lv_at hl 0 rfl) ?_
  refine va_get (D := (dC, dI)) (ci := 3) (v := .ref (a 10)) (C := RX1) (T := TX1) (N := 10) hx hb hts hiX1 hown hK hP 0 rfl rfl 5 (by decide) hw0 (fun _ h9 => h9) rfl (kdr dgX1_freeAt_0 0 5 rfl rfl) ?_
  refine lv_aload_n hx hb (kdr dgX1_freeAt_0 0 6 rfl rfl) rfl (lv_at hl 0 rfl) ?_
  refine va_get (D := (dC, dI)) (ci := 3) (v := .ref (a 1)) (C := RX1) (T := TX1) (N := 10) hx hb hts hiX1 hown hK hP 0 rfl rfl 0 (by decide) hw1 (fun _ h9 => h9) rfl (kdr dgX1_freeAt_0 0 7 rfl rfl) ?_
  refine lv_iload_n hx hb (kdr dgX1_freeAt_0 0 8 rfl rfl) rfl (lv_at hl 1 rfl) ?_
  obtain ⟨z2, h⟩ := g_if h
  refine va_lald hx hb hK hP 1 2 rfl rfl (ix_in z2) (kdr dgX1_freeAt_0 0 9 rfl rfl) ?_
  obtain ⟨r4, g4, h⟩ := g_b h
  refine kq_i (wSB cI cJ cZ a ce fr un sb se so sc wb we wo wc r2.1 r2.2.1 r2.2.2.1 r2.2.2.2 rm ac rf kn) (fun qP qD qF => va_runV (As := [.long (ce p0.toNatClampNeg)]) (rest := []) ⟨hx, hb, hml, hown, hts⟩ (c_X0_firstWith l dC dI cB cI cJ cZ (a 10) (a 11) (a 12) (a 13) _ r2.1 r2.2.1 r2.2.2.1 r2.2.2.2 (ce p0.toNatClampNeg) r4 g4) (kcwV hts kw_206 kv_X0_firstWith rfl rfl ⟨(Nat.le_of_ble_eq_true rfl), (Nat.le_of_ble_eq_true rfl)⟩) (kpV (A := A) qP hK qD hG (krecv_2 (q0 := 10) hK hP rfl)) rfl rfl hl.1 rfl (lv_room (Nat.le_of_ble_eq_true rfl)) (kdr dgX1_freeAt_0 1 0 rfl rfl) ⟨(Nat.le_of_ble_eq_true rfl), (Nat.le_of_ble_eq_true rfl)⟩) hP hD hS hA kFr_SBf (fun H locs hP hD hS br4 => ?_)
  have h := Option.some.inj h
  subst h
  exact kret_i (v := r4) hx hb hr rfl hlocks hS hP (kdr dgX1_freeAt_0 1 1 rfl rfl)
noncomputable def fx_X1_freeAt (p0 : Int32) : Option (Nat) :=
  xb (fx_X1_needCell p0) (fun k1 => some k1) (
  none)
theorem fx_X1_freeAt_e {p0 : Int32} : fx_X1_freeAt p0 = 
  xb (fx_X1_needCell p0) (fun k1 => some k1) (
  none) := rfl
set_option maxHeartbeats 4000000 in
set_option maxRecDepth 100000 in
theorem x_X1_freeAt (l : Launch) (hl9 : l.stackTraces = false) (dC : Nat → ClassId) (dI : Nat → Nat → Nat) (cB cI cJ cZ : ClassId) (a : Nat → Nat) (sz : Nat) (ce : Nat → Int64) (fr : Int64) (un : Int64) (sb : Nat → Int64) (se : Nat → Int64) (so : Nat → Int32) (sc : Int32) (wb : Nat → Int64) (we : Nat → Int64) (wo : Nat → Int32) (wc : Int32) (fb : Nat → Int64) (fe : Nat → Int64) (fo : Nat → Int32) (fc : Int32) (rm : Nat → Int32) (ac : Int32) (rf : Int32) (kn : Int32) (p0 : Int32) (res : Nat) (hf : fx_X1_freeAt p0 = some res) : kMX l yX1_freeAt wsX1_freeAt (kRm 7 1 6 110) dC dI cB cI cJ cZ [.ref (a 0), .int p0] sz (wSB cI cJ cZ a ce fr un sb se so sc wb we wo wc fb fe fo fc rm ac rf kn) (res) (wSB cI cJ cZ a ce fr un sb se so sc wb we wo wc fb fe fo fc rm ac rf kn) 1 6 := by
  refine kmet_x (y := yX1_freeAt) (cc := cX1_freeAt) (maxL := 2) (ret := (some .int)) RX1 (kvA 0 (a 0) (kvI 1 p0 kvE)) kpl_X1 rfl rfl (Nat.le_of_ble_eq_true rfl) rfl (fun p e s m below meth c A ls hx hb hr hml ht hts hown hlocks hP hK hG hZ hD hA hS hl => ?_)
  have h := fx_X1_freeAt_e.symm.trans hf
  refine lv_iload_n hx hb (kdr dgX1_freeAt_0 0 0 rfl rfl) rfl (lv_at hl 1 rfl) ?_
  rcases g_x h with ⟨k1, j1, h⟩ | ⟨-, h⟩
  · have h := Option.some.inj h
    subst h
    exact kq_x (wSB cI cJ cZ a ce fr un sb se so sc wb we wo wc fb fe fo fc rm ac rf kn) (fun qP qD qF => vx_runS (As := [.int p0]) (rest := []) ⟨hx, hb, hml, hown, hts⟩ (x_X1_needCell l hl9 dC dI cB cI cJ cZ  _  p0 k1 j1) (kcwS hts kw_473 kv_X1_needCell rfl rfl ⟨(Nat.le_of_ble_eq_true rfl), (Nat.le_of_ble_eq_true rfl)⟩) (kpSXq (A := A) (kPnil) hK ((kDnil (A := A))) hG hZ hS qF) rfl rfl hl.1 rfl (lv_room (Nat.le_of_ble_eq_true rfl)) (kdr dgX1_freeAt_0 0 1 rfl rfl) ⟨(Nat.le_of_ble_eq_true rfl), (Nat.le_of_ble_eq_true rfl)⟩) hP hD hS hA kFr_n ht hlocks (Nat.le_of_ble_eq_true rfl) (Nat.le_of_ble_eq_true rfl)
  · cases h
noncomputable abbrev wsX1_length : List Cond := kWs yX1_length cX1_length 2 (some .int)
noncomputable def f_X1_length_48 (fb : Nat → Int64) (fe : Nat → Int64) (fo : Nat → Int32) (fc : Int32) (x1 : Int32) (y0 : Int64) : Option ((Int32) × (Nat → Int64) × (Nat → Int64) × (Nat → Int32) × (Int32)) :=
  (f_X1_partOf y0 x1).bind fun r1 =>
  some (r1, fb, fe, fo, fc)
theorem f_X1_length_48_e {fb : Nat → Int64} {fe : Nat → Int64} {fo : Nat → Int32} {fc : Int32} {x1 : Int32} {y0 : Int64} : f_X1_length_48 fb fe fo fc x1 y0 =
  (f_X1_partOf y0 x1).bind fun r1 =>
  some (r1, fb, fe, fo, fc) := rfl
noncomputable def f_X1_length (fr : Int64) (un : Int64) (sb : Nat → Int64) (se : Nat → Int64) (sc : Int32) (fb : Nat → Int64) (fe : Nat → Int64) (fo : Nat → Int32) (fc : Int32) (p0 : Int32) : Option ((Int32) × (Nat → Int64) × (Nat → Int64) × (Nat → Int32) × (Int32)) :=
  (f_X1_isWithin p0 0 5).bind fun r1 =>
  (f_X1_needThat r1).bind fun r2 =>
  if 2 ≤ p0 then
    (f_X1_findFrees fr un sb se sc fb fe fo fc).bind fun r4 =>
    if 4 ≤ p0 then
      f_X1_length_48 r4.1 r4.2.1 r4.2.2.1 r4.2.2.2 p0 (un - fr)
    else
      (f_X1_freeLength r4.1 r4.2.1 r4.2.2.2).bind fun r6 =>
      f_X1_length_48 r4.1 r4.2.1 r4.2.2.1 r4.2.2.2 p0 r6
  else
    (f_X1_takenLength fr un sb se sc).bind fun r4 =>
    (f_X1_partOf r4 p0).bind fun r5 =>
    some (r5, fb, fe, fo, fc)
theorem f_X1_length_e {fr : Int64} {un : Int64} {sb : Nat → Int64} {se : Nat → Int64} {sc : Int32} {fb : Nat → Int64} {fe : Nat → Int64} {fo : Nat → Int32} {fc : Int32} {p0 : Int32} : f_X1_length fr un sb se sc fb fe fo fc p0 = 
  (f_X1_isWithin p0 0 5).bind fun r1 =>
  (f_X1_needThat r1).bind fun r2 =>
  if 2 ≤ p0 then
    (f_X1_findFrees fr un sb se sc fb fe fo fc).bind fun r4 =>
    if 4 ≤ p0 then
      f_X1_length_48 r4.1 r4.2.1 r4.2.2.1 r4.2.2.2 p0 (un - fr)
    else
      (f_X1_freeLength r4.1 r4.2.1 r4.2.2.2).bind fun r6 =>
      f_X1_length_48 r4.1 r4.2.1 r4.2.2.1 r4.2.2.2 p0 r6
  else
    (f_X1_takenLength fr un sb se sc).bind fun r4 =>
    (f_X1_partOf r4 p0).bind fun r5 =>
    some (r5, fb, fe, fo, fc) := rfl
set_option maxHeartbeats 4000000 in
set_option maxRecDepth 100000 in
theorem c_X1_length (l : Launch) (dC : Nat → ClassId) (dI : Nat → Nat → Nat) (cB cI cJ cZ : ClassId) (a : Nat → Nat) (sz : Nat) (ce : Nat → Int64) (fr : Int64) (un : Int64) (sb : Nat → Int64) (se : Nat → Int64) (so : Nat → Int32) (sc : Int32) (wb : Nat → Int64) (we : Nat → Int64) (wo : Nat → Int32) (wc : Int32) (fb : Nat → Int64) (fe : Nat → Int64) (fo : Nat → Int32) (fc : Int32) (rm : Nat → Int32) (ac : Int32) (rf : Int32) (kn : Int32) (p0 : Int32) (res : (Int32) × (Nat → Int64) × (Nat → Int64) × (Nat → Int32) × (Int32)) (hf : f_X1_length fr un sb se sc fb fe fo fc p0 = some res) : kMi l yX1_length wsX1_length (kRm 4 0 0 97) dC dI cB cI cJ cZ [.ref (a 0), .int p0] sz (wSB cI cJ cZ a ce fr un sb se so sc wb we wo wc fb fe fo fc rm ac rf kn) .int (res.1) (wSB cI cJ cZ a ce fr un sb se so sc wb we wo wc (res.2.1) (res.2.2.1) (res.2.2.2.1) (res.2.2.2.2) rm ac rf kn) 0 0 := by
  refine kmet_i (y := yX1_length) (cc := cX1_length) (maxL := 2) (ret := (some .int)) RX1 (kvA 0 (a 0) (kvI 1 p0 kvE)) kpl_X1 rfl rfl (Nat.le_of_ble_eq_true rfl) rfl (fun p e s m below meth c A ls hx hb hr hml hts hown hlocks hP hK hG hD hA hS hl => ?_)
  have hw0 := hts (.fieldLink RX1 19 "Spanbooker" "until" "J") (List.mem_cons_of_mem _ kw_109)
  have hw1 := hts (.fieldLink RX1 13 "Spanbooker" "from" "J") (List.mem_cons_of_mem _ kw_108)
  have hiX1 : ∀ w ∈ u_ws RX1 TX1 10, w ∈ wsX1_length := fun w h => List.mem_cons_of_mem _ (ku_X1 w h)
  have J48 : ∀ (ce : Nat → Int64) (fr : Int64) (un : Int64) (sb : Nat → Int64) (se : Nat → Int64) (so : Nat → Int32) (sc : Int32) (wb : Nat → Int64) (we : Nat → Int64) (wo : Nat → Int32) (wc : Int32) (fb : Nat → Int64) (fe : Nat → Int64) (fo : Nat → Int32) (fc : Int32) (rm : Nat → Int32) (ac : Int32) (rf : Int32) (kn : Int32) (x1 : Int32) (y0 : Int64) (H : Heap) (locs : List Loc), va_P (dC, dI) vwCl (wSB cI cJ cZ a ce fr un sb se so sc wb we wo wc fb fe fo fc rm ac rf kn) H → va_D A (wSB cI cJ cZ a ce fr un sb se so sc wb we wo wc fb fe fo fc rm ac rf kn) → va_S A s.heap H locs → ∀ (ls : Array Slot), lv_has ls 2 (kvI 1 x1 kvE) → f_X1_length_48 fb fe fo fc x1 y0 = some res → W p l e (headSpec wsX1_length (kRm 4 0 0 97)).room s m ([.ref (a 0), .int p0] : List Value).toArray below meth c H locs 0 0 (MQ below (kI (dC, dI) .int (res.1) (wSB cI cJ cZ a ce fr un sb se so sc wb we wo wc (res.2.1) (res.2.2.1) (res.2.2.2.1) (res.2.2.2.2) rm ac rf kn) A) ([.ref (a 0), .int p0] : List Value).toArray s 0 0 A) (F0 m 48 ls [.long y0]) := by
    intro ce fr un sb se so sc wb we wo wc fb fe fo fc rm ac rf kn x1 y0 H locs hP hD hS ls hl h
    have h := f_X1_length_48_e.symm.trans h
    refine lv_iload_n hx hb (kdr dgX1_length_0 2 6 rfl rfl) rfl (lv_at hl 0 rfl) ?_
    obtain ⟨r1, g1, h⟩ := g_b h
    refine kq_i (wSB cI cJ cZ a ce fr un sb se so sc wb we wo wc fb fe fo fc rm ac rf kn) (fun qP qD qF => va_runS (As := [.long y0, .int x1]) (rest := []) ⟨hx, hb, hml, hown, hts⟩ (c_X1_partOf l dC dI cB cI cJ cZ  _  y0 x1 r1 g1) (kcwS hts kw_427 kv_X1_partOf rfl rfl ⟨(Nat.le_of_ble_eq_true rfl), (Nat.le_of_ble_eq_true rfl)⟩) (kpS (A := A) (kPnil) hK ((kDnil (A := A))) hG) rfl rfl hl.1 rfl (lv_room (Nat.le_of_ble_eq_true rfl)) (kdr dgX1_length_0 2 7 rfl rfl) ⟨(Nat.le_of_ble_eq_true rfl), (Nat.le_of_ble_eq_true rfl)⟩) hP hD hS hA kFr_n (fun H locs hP hD hS br1 => ?_)
    have h := Option.some.inj h
    subst h
    exact kret_i (v := r1) hx hb hr rfl hlocks hS hP (kdr dgX1_length_0 2 8 rfl rfl)
  have h := f_X1_length_e.symm.trans hf
  refine lv_iload_n hx hb (kdr dgX1_length_0 0 0 rfl rfl) rfl (lv_at hl 1 rfl) ?_
  refine lv_iconst (v := 0) hx hb (kdr dgX1_length_0 0 1 rfl rfl) (by decide) ?_
  refine lv_iconst (v := 5) hx hb (kdr dgX1_length_0 0 2 rfl rfl) (by decide) ?_
  obtain ⟨r1, g1, h⟩ := g_b h
  refine kq_i (wSB cI cJ cZ a ce fr un sb se so sc wb we wo wc fb fe fo fc rm ac rf kn) (fun qP qD qF => va_runS (As := [.int p0, .int 0, .int 5]) (rest := []) ⟨hx, hb, hml, hown, hts⟩ (c_X1_isWithin l dC dI cB cI cJ cZ  _  p0 0 5 r1 g1) (kcwS hts kw_354 kv_X1_isWithin rfl rfl ⟨(Nat.le_of_ble_eq_true rfl), (Nat.le_of_ble_eq_true rfl)⟩) (kpS (A := A) (kPnil) hK ((kDnil (A := A))) hG) rfl rfl hl.1 rfl (lv_room (Nat.le_of_ble_eq_true rfl)) (kdr dgX1_length_0 0 3 rfl rfl) ⟨(Nat.le_of_ble_eq_true rfl), (Nat.le_of_ble_eq_true rfl)⟩) hP hD hS hA kFr_n (fun H locs hP hD hS br1 => ?_)
  obtain ⟨r2, g2, h⟩ := g_b h
  refine kq_v (wSB cI cJ cZ a ce fr un sb se so sc wb we wo wc fb fe fo fc rm ac rf kn) (fun qP qD qF => va_runS (As := [.int r1]) (rest := []) ⟨hx, hb, hml, hown, hts⟩ (c_X1_needThat l dC dI cB cI cJ cZ  _  r1 r2 g2) (kcwS hts kw_357 kv_X1_needThat rfl rfl ⟨(Nat.le_of_ble_eq_true rfl), (Nat.le_of_ble_eq_true rfl)⟩) (kpS (A := A) (kPnil) hK ((kDnil (A := A))) hG) rfl rfl hl.1 rfl (lv_room (Nat.le_of_ble_eq_true rfl)) (kdr dgX1_length_0 0 4 rfl rfl) ⟨(Nat.le_of_ble_eq_true rfl), (Nat.le_of_ble_eq_true rfl)⟩) hP hD hS hA kFr_n (fun H locs hP hD hS => ?_)
  refine lv_iload_n hx hb (kdr dgX1_length_0 0 5 rfl rfl) rfl (lv_at hl 1 rfl) ?_
  refine lv_iconst (v := 2) hx hb (kdr dgX1_length_0 0 6 rfl rfl) (by decide) ?_
  refine lv_icmp_ge (tgt := 23) hx hb (kdr dgX1_length_0 0 7 rfl rfl) (by decide) (fun c3 => ?_) (fun c3 => ?_)
  · have h := g_t c3 h
    refine lv_aload_n hx hb (kdr dgX1_length_0 1 3 rfl rfl) rfl (lv_at hl 0 rfl) ?_
    obtain ⟨r4, g4, h⟩ := g_b h
    refine kq_v (wSB cI cJ cZ a ce fr un sb se so sc wb we wo wc r4.1 r4.2.1 r4.2.2.1 r4.2.2.2 rm ac rf kn) (fun qP qD qF => va_runV (As := []) (rest := []) ⟨hx, hb, hml, hown, hts⟩ (c_X1_findFrees l dC dI cB cI cJ cZ a _ ce fr un sb se so sc wb we wo wc fb fe fo fc rm ac rf kn  r4 g4) (kcwV hts kw_182 kv_X1_findFrees rfl rfl ⟨(Nat.le_of_ble_eq_true rfl), (Nat.le_of_ble_eq_true rfl)⟩) (kpV (A := A) qP hK qD hG (krecv_3 (q0 := 0) hK hP rfl)) rfl rfl hl.1 rfl (lv_room (Nat.le_of_ble_eq_true rfl)) (kdr dgX1_length_0 1 4 rfl rfl) ⟨(Nat.le_of_ble_eq_true rfl), (Nat.le_of_ble_eq_true rfl)⟩) hP hD hS hA kFr_SB (fun H locs hP hD hS => ?_)
    refine lv_iload_n hx hb (kdr dgX1_length_0 1 5 rfl rfl) rfl (lv_at hl 1 rfl) ?_
    refine lv_iconst (v := 4) hx hb (kdr dgX1_length_0 1 6 rfl rfl) (by decide) ?_
    refine lv_icmp_ge (tgt := 39) hx hb (kdr dgX1_length_0 1 7 rfl rfl) (by decide) (fun c5 => ?_) (fun c5 => ?_)
    · have h := g_t c5 h
      refine lv_aload_n hx hb (kdr dgX1_length_0 2 1 rfl rfl) rfl (lv_at hl 0 rfl) ?_
      refine va_get (D := (dC, dI)) (ci := 3) (v := .long un) (C := RX1) (T := TX1) (N := 10) hx hb hts hiX1 hown hK hP 0 rfl rfl 2 (by decide) hw0 (fun _ h9 => h9) rfl (kdr dgX1_length_0 2 2 rfl rfl) ?_
      refine lv_aload_n hx hb (kdr dgX1_length_0 2 3 rfl rfl) rfl (lv_at hl 0 rfl) ?_
      refine va_get (D := (dC, dI)) (ci := 3) (v := .long fr) (C := RX1) (T := TX1) (N := 10) hx hb hts hiX1 hown hK hP 0 rfl rfl 1 (by decide) hw1 (fun _ h9 => h9) rfl (kdr dgX1_length_0 2 4 rfl rfl) ?_
      refine lv_lsub hx hb (kdr dgX1_length_0 2 5 rfl rfl) ?_
      exact J48 ce fr un sb se so sc wb we wo wc r4.1 r4.2.1 r4.2.2.1 r4.2.2.2 rm ac rf kn p0 (un - fr) _ _ hP hD hS ls (lv_sub hl [1] rfl) h
    · have h := g_f c5 h
      refine lv_aload_n hx hb (kdr dgX1_length_0 1 8 rfl rfl) rfl (lv_at hl 0 rfl) ?_
      obtain ⟨r6, g6, h⟩ := g_b h
      refine kq_l (wSB cI cJ cZ a ce fr un sb se so sc wb we wo wc r4.1 r4.2.1 r4.2.2.1 r4.2.2.2 rm ac rf kn) (fun qP qD qF => va_runV (As := []) (rest := []) ⟨hx, hb, hml, hown, hts⟩ (c_X1_freeLength l dC dI cB cI cJ cZ a _ ce fr un sb se so sc wb we wo wc r4.1 r4.2.1 r4.2.2.1 r4.2.2.2 rm ac rf kn  r6 g6) (kcwV hts kw_292 kv_X1_freeLength rfl rfl ⟨(Nat.le_of_ble_eq_true rfl), (Nat.le_of_ble_eq_true rfl)⟩) (kpV (A := A) qP hK qD hG (krecv_3 (q0 := 0) hK hP rfl)) rfl rfl hl.1 rfl (lv_room (Nat.le_of_ble_eq_true rfl)) (kdr dgX1_length_0 1 9 rfl rfl) ⟨(Nat.le_of_ble_eq_true rfl), (Nat.le_of_ble_eq_true rfl)⟩) hP hD hS hA kFr_SB (fun H locs hP hD hS => ?_)
      refine lv_goto (tgt := 48) hx hb (kdr dgX1_length_0 2 0 rfl rfl) (by decide) ?_
      exact J48 ce fr un sb se so sc wb we wo wc r4.1 r4.2.1 r4.2.2.1 r4.2.2.2 rm ac rf kn p0 r6 _ _ hP hD hS ls (lv_sub hl [1] rfl) h
  · have h := g_f c3 h
    refine lv_aload_n hx hb (kdr dgX1_length_0 0 8 rfl rfl) rfl (lv_at hl 0 rfl) ?_
    obtain ⟨r4, g4, h⟩ := g_b h
    refine kq_l (wSB cI cJ cZ a ce fr un sb se so sc wb we wo wc fb fe fo fc rm ac rf kn) (fun qP qD qF => va_runV (As := []) (rest := []) ⟨hx, hb, hml, hown, hts⟩ (c_X1_takenLength l dC dI cB cI cJ cZ a _ ce fr un sb se so sc wb we wo wc fb fe fo fc rm ac rf kn  r4 g4) (kcwV hts kw_288 kv_X1_takenLength rfl rfl ⟨(Nat.le_of_ble_eq_true rfl), (Nat.le_of_ble_eq_true rfl)⟩) (kpV (A := A) qP hK qD hG (krecv_3 (q0 := 0) hK hP rfl)) rfl rfl hl.1 rfl (lv_room (Nat.le_of_ble_eq_true rfl)) (kdr dgX1_length_0 0 9 rfl rfl) ⟨(Nat.le_of_ble_eq_true rfl), (Nat.le_of_ble_eq_true rfl)⟩) hP hD hS hA kFr_SB (fun H locs hP hD hS => ?_)
    refine lv_iload_n hx hb (kdr dgX1_length_0 1 0 rfl rfl) rfl (lv_at hl 1 rfl) ?_
    obtain ⟨r5, g5, h⟩ := g_b h
    refine kq_i (wSB cI cJ cZ a ce fr un sb se so sc wb we wo wc fb fe fo fc rm ac rf kn) (fun qP qD qF => va_runS (As := [.long r4, .int p0]) (rest := []) ⟨hx, hb, hml, hown, hts⟩ (c_X1_partOf l dC dI cB cI cJ cZ  _  r4 p0 r5 g5) (kcwS hts kw_427 kv_X1_partOf rfl rfl ⟨(Nat.le_of_ble_eq_true rfl), (Nat.le_of_ble_eq_true rfl)⟩) (kpS (A := A) (kPnil) hK ((kDnil (A := A))) hG) rfl rfl hl.1 rfl (lv_room (Nat.le_of_ble_eq_true rfl)) (kdr dgX1_length_0 1 1 rfl rfl) ⟨(Nat.le_of_ble_eq_true rfl), (Nat.le_of_ble_eq_true rfl)⟩) hP hD hS hA kFr_n (fun H locs hP hD hS br5 => ?_)
    have h := Option.some.inj h
    subst h
    exact kret_i (v := r5) hx hb hr rfl hlocks hS hP (kdr dgX1_length_0 1 2 rfl rfl)
noncomputable def fx_X1_length (p0 : Int32) : Option (Nat) :=
  (f_X1_isWithin p0 0 5).bind fun r1 =>
  xb (fx_X1_needThat r1) (fun k2 => some k2) (
  none)
theorem fx_X1_length_e {p0 : Int32} : fx_X1_length p0 = 
  (f_X1_isWithin p0 0 5).bind fun r1 =>
  xb (fx_X1_needThat r1) (fun k2 => some k2) (
  none) := rfl
set_option maxHeartbeats 4000000 in
set_option maxRecDepth 100000 in
theorem x_X1_length (l : Launch) (hl9 : l.stackTraces = false) (dC : Nat → ClassId) (dI : Nat → Nat → Nat) (cB cI cJ cZ : ClassId) (a : Nat → Nat) (sz : Nat) (ce : Nat → Int64) (fr : Int64) (un : Int64) (sb : Nat → Int64) (se : Nat → Int64) (so : Nat → Int32) (sc : Int32) (wb : Nat → Int64) (we : Nat → Int64) (wo : Nat → Int32) (wc : Int32) (fb : Nat → Int64) (fe : Nat → Int64) (fo : Nat → Int32) (fc : Int32) (rm : Nat → Int32) (ac : Int32) (rf : Int32) (kn : Int32) (p0 : Int32) (res : Nat) (hf : fx_X1_length p0 = some res) : kMX l yX1_length wsX1_length (kRm 7 1 6 110) dC dI cB cI cJ cZ [.ref (a 0), .int p0] sz (wSB cI cJ cZ a ce fr un sb se so sc wb we wo wc fb fe fo fc rm ac rf kn) (res) (wSB cI cJ cZ a ce fr un sb se so sc wb we wo wc fb fe fo fc rm ac rf kn) 1 6 := by
  refine kmet_x (y := yX1_length) (cc := cX1_length) (maxL := 2) (ret := (some .int)) RX1 (kvA 0 (a 0) (kvI 1 p0 kvE)) kpl_X1 rfl rfl (Nat.le_of_ble_eq_true rfl) rfl (fun p e s m below meth c A ls hx hb hr hml ht hts hown hlocks hP hK hG hZ hD hA hS hl => ?_)
  have h := fx_X1_length_e.symm.trans hf
  refine lv_iload_n hx hb (kdr dgX1_length_0 0 0 rfl rfl) rfl (lv_at hl 1 rfl) ?_
  refine lv_iconst (v := 0) hx hb (kdr dgX1_length_0 0 1 rfl rfl) (by decide) ?_
  refine lv_iconst (v := 5) hx hb (kdr dgX1_length_0 0 2 rfl rfl) (by decide) ?_
  obtain ⟨r1, g1, h⟩ := g_b h
  refine kq_i (wSB cI cJ cZ a ce fr un sb se so sc wb we wo wc fb fe fo fc rm ac rf kn) (fun qP qD qF => va_runS (As := [.int p0, .int 0, .int 5]) (rest := []) ⟨hx, hb, hml, hown, hts⟩ (c_X1_isWithin l dC dI cB cI cJ cZ  _  p0 0 5 r1 g1) (kcwS hts kw_354 kv_X1_isWithin rfl rfl ⟨(Nat.le_of_ble_eq_true rfl), (Nat.le_of_ble_eq_true rfl)⟩) (kpS (A := A) (kPnil) hK ((kDnil (A := A))) hG) rfl rfl hl.1 rfl (lv_room (Nat.le_of_ble_eq_true rfl)) (kdr dgX1_length_0 0 3 rfl rfl) ⟨(Nat.le_of_ble_eq_true rfl), (Nat.le_of_ble_eq_true rfl)⟩) hP hD hS hA kFr_n (fun H locs hP hD hS br1 => ?_)
  rcases g_x h with ⟨k2, j2, h⟩ | ⟨-, h⟩
  · have h := Option.some.inj h
    subst h
    exact kq_x (wSB cI cJ cZ a ce fr un sb se so sc wb we wo wc fb fe fo fc rm ac rf kn) (fun qP qD qF => vx_runS (As := [.int r1]) (rest := []) ⟨hx, hb, hml, hown, hts⟩ (x_X1_needThat l hl9 dC dI cB cI cJ cZ  _  r1 k2 j2) (kcwS hts kw_357 kv_X1_needThat rfl rfl ⟨(Nat.le_of_ble_eq_true rfl), (Nat.le_of_ble_eq_true rfl)⟩) (kpSXq (A := A) (kPnil) hK ((kDnil (A := A))) hG hZ hS qF) rfl rfl hl.1 rfl (lv_room (Nat.le_of_ble_eq_true rfl)) (kdr dgX1_length_0 0 4 rfl rfl) ⟨(Nat.le_of_ble_eq_true rfl), (Nat.le_of_ble_eq_true rfl)⟩) hP hD hS hA kFr_n ht hlocks (Nat.le_of_ble_eq_true rfl) (Nat.le_of_ble_eq_true rfl)
  · cases h
noncomputable abbrev wsX1_wishes : List Cond := kWs yX1_wishes cX1_wishes 1 (some .int)
noncomputable def f_X1_wishes (wc : Int32) : Option (Int32) :=
  (f_X0_count wc).bind fun r1 =>
  some r1
theorem f_X1_wishes_e {wc : Int32} : f_X1_wishes wc = 
  (f_X0_count wc).bind fun r1 =>
  some r1 := rfl
set_option maxHeartbeats 4000000 in
set_option maxRecDepth 100000 in
theorem c_X1_wishes (l : Launch) (dC : Nat → ClassId) (dI : Nat → Nat → Nat) (cB cI cJ cZ : ClassId) (a : Nat → Nat) (sz : Nat) (ce : Nat → Int64) (fr : Int64) (un : Int64) (sb : Nat → Int64) (se : Nat → Int64) (so : Nat → Int32) (sc : Int32) (wb : Nat → Int64) (we : Nat → Int64) (wo : Nat → Int32) (wc : Int32) (fb : Nat → Int64) (fe : Nat → Int64) (fo : Nat → Int32) (fc : Int32) (rm : Nat → Int32) (ac : Int32) (rf : Int32) (kn : Int32) (res : Int32) (hf : f_X1_wishes wc = some res) : kMi l yX1_wishes wsX1_wishes (kRm 1 0 0 20) dC dI cB cI cJ cZ [.ref (a 0)] sz (wSB cI cJ cZ a ce fr un sb se so sc wb we wo wc fb fe fo fc rm ac rf kn) .int (res) (wSB cI cJ cZ a ce fr un sb se so sc wb we wo wc fb fe fo fc rm ac rf kn) 0 0 := by
  refine kmet_i (y := yX1_wishes) (cc := cX1_wishes) (maxL := 1) (ret := (some .int)) RX1 (kvA 0 (a 0) kvE) kpl_X1 rfl rfl (Nat.le_of_ble_eq_true rfl) rfl (fun p e s m below meth c A ls hx hb hr hml hts hown hlocks hP hK hG hD hA hS hl => ?_)
  have hw0 := hts (.fieldLink RX1 29 "Spanbooker" "wishRow" "LSpanbooker$Row;") (List.mem_cons_of_mem _ kw_111)
  have hiX1 : ∀ w ∈ u_ws RX1 TX1 10, w ∈ wsX1_wishes := fun w h => List.mem_cons_of_mem _ (ku_X1 w h)
  have h := f_X1_wishes_e.symm.trans hf
  refine lv_aload_n hx hb (kdr dgX1_wishes_0 0 0 rfl rfl) rfl (lv_at hl 0 rfl) ?_
  refine va_get (D := (dC, dI)) (ci := 3) (v := .ref (a 6)) (C := RX1) (T := TX1) (N := 10) hx hb hts hiX1 hown hK hP 0 rfl rfl 4 (by decide) hw0 (fun _ h9 => h9) rfl (kdr dgX1_wishes_0 0 1 rfl rfl) ?_
  obtain ⟨r1, g1, h⟩ := g_b h
  refine kq_i (wSB cI cJ cZ a ce fr un sb se so sc wb we wo wc fb fe fo fc rm ac rf kn) (fun qP qD qF => va_runV (As := []) (rest := []) ⟨hx, hb, hml, hown, hts⟩ (c_X0_count l dC dI cB cI cJ cZ (a 6) (a 7) (a 8) (a 9) _ wb we wo wc  r1 g1) (kcwV hts kw_155 kv_X0_count rfl rfl ⟨(Nat.le_of_ble_eq_true rfl), (Nat.le_of_ble_eq_true rfl)⟩) (kpV (A := A) qP hK qD hG (krecv_2 (q0 := 6) hK hP rfl)) rfl rfl hl.1 rfl (lv_room (Nat.le_of_ble_eq_true rfl)) (kdr dgX1_wishes_0 0 2 rfl rfl) ⟨(Nat.le_of_ble_eq_true rfl), (Nat.le_of_ble_eq_true rfl)⟩) hP hD hS hA kFr_SBw (fun H locs hP hD hS br1 => ?_)
  have h := Option.some.inj h
  subst h
  exact kret_i (v := r1) hx hb hr rfl hlocks hS hP (kdr dgX1_wishes_0 0 3 rfl rfl)
noncomputable abbrev wsX1_ofWish : List Cond := kWs yX1_ofWish cX1_ofWish 3 (some .int)
noncomputable def f_X1_ofWish (wb : Nat → Int64) (we : Nat → Int64) (wc : Int32) (p0 : Int32) (p1 : Int32) : Option (Int32) :=
  (f_X1_needNumberIn wc p0).bind fun r1 =>
  (f_X1_isWithin p1 0 3).bind fun r2 =>
  (f_X1_needThat r2).bind fun r3 =>
  (f_X1_partIn wb we wc p0 p1).bind fun r4 =>
  some r4
theorem f_X1_ofWish_e {wb : Nat → Int64} {we : Nat → Int64} {wc : Int32} {p0 : Int32} {p1 : Int32} : f_X1_ofWish wb we wc p0 p1 = 
  (f_X1_needNumberIn wc p0).bind fun r1 =>
  (f_X1_isWithin p1 0 3).bind fun r2 =>
  (f_X1_needThat r2).bind fun r3 =>
  (f_X1_partIn wb we wc p0 p1).bind fun r4 =>
  some r4 := rfl
set_option maxHeartbeats 4000000 in
set_option maxRecDepth 100000 in
theorem c_X1_ofWish (l : Launch) (dC : Nat → ClassId) (dI : Nat → Nat → Nat) (cB cI cJ cZ : ClassId) (a : Nat → Nat) (sz : Nat) (ce : Nat → Int64) (fr : Int64) (un : Int64) (sb : Nat → Int64) (se : Nat → Int64) (so : Nat → Int32) (sc : Int32) (wb : Nat → Int64) (we : Nat → Int64) (wo : Nat → Int32) (wc : Int32) (fb : Nat → Int64) (fe : Nat → Int64) (fo : Nat → Int32) (fc : Int32) (rm : Nat → Int32) (ac : Int32) (rf : Int32) (kn : Int32) (p0 : Int32) (p1 : Int32) (res : Int32) (hf : f_X1_ofWish wb we wc p0 p1 = some res) : kMi l yX1_ofWish wsX1_ofWish (kRm 4 0 0 90) dC dI cB cI cJ cZ [.ref (a 0), .int p0, .int p1] sz (wSB cI cJ cZ a ce fr un sb se so sc wb we wo wc fb fe fo fc rm ac rf kn) .int (res) (wSB cI cJ cZ a ce fr un sb se so sc wb we wo wc fb fe fo fc rm ac rf kn) 0 0 := by
  refine kmet_i (y := yX1_ofWish) (cc := cX1_ofWish) (maxL := 3) (ret := (some .int)) RX1 (kvA 0 (a 0) (kvI 1 p0 (kvI 2 p1 kvE))) kpl_X1 rfl rfl (Nat.le_of_ble_eq_true rfl) rfl (fun p e s m below meth c A ls hx hb hr hml hts hown hlocks hP hK hG hD hA hS hl => ?_)
  have hw0 := hts (.fieldLink RX1 29 "Spanbooker" "wishRow" "LSpanbooker$Row;") (List.mem_cons_of_mem _ kw_111)
  have hiX1 : ∀ w ∈ u_ws RX1 TX1 10, w ∈ wsX1_ofWish := fun w h => List.mem_cons_of_mem _ (ku_X1 w h)
  have h := f_X1_ofWish_e.symm.trans hf
  refine lv_aload_n hx hb (kdr dgX1_ofWish_0 0 0 rfl rfl) rfl (lv_at hl 0 rfl) ?_
  refine va_get (D := (dC, dI)) (ci := 3) (v := .ref (a 6)) (C := RX1) (T := TX1) (N := 10) hx hb hts hiX1 hown hK hP 0 rfl rfl 4 (by decide) hw0 (fun _ h9 => h9) rfl (kdr dgX1_ofWish_0 0 1 rfl rfl) ?_
  refine lv_iload_n hx hb (kdr dgX1_ofWish_0 0 2 rfl rfl) rfl (lv_at hl 1 rfl) ?_
  obtain ⟨r1, g1, h⟩ := g_b h
  refine kq_v (wSB cI cJ cZ a ce fr un sb se so sc wb we wo wc fb fe fo fc rm ac rf kn) (fun qP qD qF => va_runS (As := [.ref (a 6), .int p0]) (rest := []) ⟨hx, hb, hml, hown, hts⟩ (c_X1_needNumberIn l dC dI cB cI cJ cZ (a 6) (a 7) (a 8) (a 9) _ wb we wo wc p0 r1 g1) (kcwS hts kw_592 kv_X1_needNumberIn rfl rfl ⟨(Nat.le_of_ble_eq_true rfl), (Nat.le_of_ble_eq_true rfl)⟩) (kpS (A := A) qP hK qD hG) rfl rfl hl.1 rfl (lv_room (Nat.le_of_ble_eq_true rfl)) (kdr dgX1_ofWish_0 0 3 rfl rfl) ⟨(Nat.le_of_ble_eq_true rfl), (Nat.le_of_ble_eq_true rfl)⟩) hP hD hS hA kFr_SBw (fun H locs hP hD hS => ?_)
  refine lv_iload_n hx hb (kdr dgX1_ofWish_0 0 4 rfl rfl) rfl (lv_at hl 2 rfl) ?_
  refine lv_iconst (v := 0) hx hb (kdr dgX1_ofWish_0 0 5 rfl rfl) (by decide) ?_
  refine lv_iconst (v := 3) hx hb (kdr dgX1_ofWish_0 0 6 rfl rfl) (by decide) ?_
  obtain ⟨r2, g2, h⟩ := g_b h
  refine kq_i (wSB cI cJ cZ a ce fr un sb se so sc wb we wo wc fb fe fo fc rm ac rf kn) (fun qP qD qF => va_runS (As := [.int p1, .int 0, .int 3]) (rest := []) ⟨hx, hb, hml, hown, hts⟩ (c_X1_isWithin l dC dI cB cI cJ cZ  _  p1 0 3 r2 g2) (kcwS hts kw_354 kv_X1_isWithin rfl rfl ⟨(Nat.le_of_ble_eq_true rfl), (Nat.le_of_ble_eq_true rfl)⟩) (kpS (A := A) (kPnil) hK ((kDnil (A := A))) hG) rfl rfl hl.1 rfl (lv_room (Nat.le_of_ble_eq_true rfl)) (kdr dgX1_ofWish_0 0 7 rfl rfl) ⟨(Nat.le_of_ble_eq_true rfl), (Nat.le_of_ble_eq_true rfl)⟩) hP hD hS hA kFr_n (fun H locs hP hD hS br2 => ?_)
  obtain ⟨r3, g3, h⟩ := g_b h
  refine kq_v (wSB cI cJ cZ a ce fr un sb se so sc wb we wo wc fb fe fo fc rm ac rf kn) (fun qP qD qF => va_runS (As := [.int r2]) (rest := []) ⟨hx, hb, hml, hown, hts⟩ (c_X1_needThat l dC dI cB cI cJ cZ  _  r2 r3 g3) (kcwS hts kw_357 kv_X1_needThat rfl rfl ⟨(Nat.le_of_ble_eq_true rfl), (Nat.le_of_ble_eq_true rfl)⟩) (kpS (A := A) (kPnil) hK ((kDnil (A := A))) hG) rfl rfl hl.1 rfl (lv_room (Nat.le_of_ble_eq_true rfl)) (kdr dgX1_ofWish_0 0 8 rfl rfl) ⟨(Nat.le_of_ble_eq_true rfl), (Nat.le_of_ble_eq_true rfl)⟩) hP hD hS hA kFr_n (fun H locs hP hD hS => ?_)
  refine lv_aload_n hx hb (kdr dgX1_ofWish_0 0 9 rfl rfl) rfl (lv_at hl 0 rfl) ?_
  refine va_get (D := (dC, dI)) (ci := 3) (v := .ref (a 6)) (C := RX1) (T := TX1) (N := 10) hx hb hts hiX1 hown hK hP 0 rfl rfl 4 (by decide) hw0 (fun _ h9 => h9) rfl (kdr dgX1_ofWish_0 1 0 rfl rfl) ?_
  refine lv_iload_n hx hb (kdr dgX1_ofWish_0 1 1 rfl rfl) rfl (lv_at hl 1 rfl) ?_
  refine lv_iload_n hx hb (kdr dgX1_ofWish_0 1 2 rfl rfl) rfl (lv_at hl 2 rfl) ?_
  obtain ⟨r4, g4, h⟩ := g_b h
  refine kq_i (wSB cI cJ cZ a ce fr un sb se so sc wb we wo wc fb fe fo fc rm ac rf kn) (fun qP qD qF => va_runS (As := [.ref (a 6), .int p0, .int p1]) (rest := []) ⟨hx, hb, hml, hown, hts⟩ (c_X1_partIn l dC dI cB cI cJ cZ (a 6) (a 7) (a 8) (a 9) _ wb we wo wc p0 p1 r4 g4) (kcwS hts kw_433 kv_X1_partIn rfl rfl ⟨(Nat.le_of_ble_eq_true rfl), (Nat.le_of_ble_eq_true rfl)⟩) (kpS (A := A) qP hK qD hG) rfl rfl hl.1 rfl (lv_room (Nat.le_of_ble_eq_true rfl)) (kdr dgX1_ofWish_0 1 3 rfl rfl) ⟨(Nat.le_of_ble_eq_true rfl), (Nat.le_of_ble_eq_true rfl)⟩) hP hD hS hA kFr_SBw (fun H locs hP hD hS br4 => ?_)
  have h := Option.some.inj h
  subst h
  exact kret_i (v := r4) hx hb hr rfl hlocks hS hP (kdr dgX1_ofWish_0 1 4 rfl rfl)
noncomputable def fx_X1_ofWish (wc : Int32) (p0 : Int32) (p1 : Int32) : Option (Nat) :=
  xb (fx_X1_needNumberIn wc p0) (fun k1 => some k1) (
  (f_X1_needNumberIn wc p0).bind fun r1 =>
  (f_X1_isWithin p1 0 3).bind fun r2 =>
  xb (fx_X1_needThat r2) (fun k3 => some k3) (
  none))
theorem fx_X1_ofWish_e {wc : Int32} {p0 : Int32} {p1 : Int32} : fx_X1_ofWish wc p0 p1 = 
  xb (fx_X1_needNumberIn wc p0) (fun k1 => some k1) (
  (f_X1_needNumberIn wc p0).bind fun r1 =>
  (f_X1_isWithin p1 0 3).bind fun r2 =>
  xb (fx_X1_needThat r2) (fun k3 => some k3) (
  none)) := rfl
set_option maxHeartbeats 4000000 in
set_option maxRecDepth 100000 in
theorem x_X1_ofWish (l : Launch) (hl9 : l.stackTraces = false) (dC : Nat → ClassId) (dI : Nat → Nat → Nat) (cB cI cJ cZ : ClassId) (a : Nat → Nat) (sz : Nat) (ce : Nat → Int64) (fr : Int64) (un : Int64) (sb : Nat → Int64) (se : Nat → Int64) (so : Nat → Int32) (sc : Int32) (wb : Nat → Int64) (we : Nat → Int64) (wo : Nat → Int32) (wc : Int32) (fb : Nat → Int64) (fe : Nat → Int64) (fo : Nat → Int32) (fc : Int32) (rm : Nat → Int32) (ac : Int32) (rf : Int32) (kn : Int32) (p0 : Int32) (p1 : Int32) (res : Nat) (hf : fx_X1_ofWish wc p0 p1 = some res) : kMX l yX1_ofWish wsX1_ofWish (kRm 7 1 6 111) dC dI cB cI cJ cZ [.ref (a 0), .int p0, .int p1] sz (wSB cI cJ cZ a ce fr un sb se so sc wb we wo wc fb fe fo fc rm ac rf kn) (res) (wSB cI cJ cZ a ce fr un sb se so sc wb we wo wc fb fe fo fc rm ac rf kn) 1 6 := by
  refine kmet_x (y := yX1_ofWish) (cc := cX1_ofWish) (maxL := 3) (ret := (some .int)) RX1 (kvA 0 (a 0) (kvI 1 p0 (kvI 2 p1 kvE))) kpl_X1 rfl rfl (Nat.le_of_ble_eq_true rfl) rfl (fun p e s m below meth c A ls hx hb hr hml ht hts hown hlocks hP hK hG hZ hD hA hS hl => ?_)
  have hw0 := hts (.fieldLink RX1 29 "Spanbooker" "wishRow" "LSpanbooker$Row;") (List.mem_cons_of_mem _ kw_111)
  have hiX1 : ∀ w ∈ u_ws RX1 TX1 10, w ∈ wsX1_ofWish := fun w h => List.mem_cons_of_mem _ (ku_X1 w h)
  have h := fx_X1_ofWish_e.symm.trans hf
  refine lv_aload_n hx hb (kdr dgX1_ofWish_0 0 0 rfl rfl) rfl (lv_at hl 0 rfl) ?_
  refine va_get (D := (dC, dI)) (ci := 3) (v := .ref (a 6)) (C := RX1) (T := TX1) (N := 10) hx hb hts hiX1 hown hK hP 0 rfl rfl 4 (by decide) hw0 (fun _ h9 => h9) rfl (kdr dgX1_ofWish_0 0 1 rfl rfl) ?_
  refine lv_iload_n hx hb (kdr dgX1_ofWish_0 0 2 rfl rfl) rfl (lv_at hl 1 rfl) ?_
  rcases g_x h with ⟨k1, j1, h⟩ | ⟨-, h⟩
  · have h := Option.some.inj h
    subst h
    exact kq_x (wSB cI cJ cZ a ce fr un sb se so sc wb we wo wc fb fe fo fc rm ac rf kn) (fun qP qD qF => vx_runS (As := [.ref (a 6), .int p0]) (rest := []) ⟨hx, hb, hml, hown, hts⟩ (x_X1_needNumberIn l hl9 dC dI cB cI cJ cZ (a 6) (a 7) (a 8) (a 9) _ wb we wo wc p0 k1 j1) (kcwS hts kw_592 kv_X1_needNumberIn rfl rfl ⟨(Nat.le_of_ble_eq_true rfl), (Nat.le_of_ble_eq_true rfl)⟩) (kpSXq (A := A) qP hK qD hG hZ hS qF) rfl rfl hl.1 rfl (lv_room (Nat.le_of_ble_eq_true rfl)) (kdr dgX1_ofWish_0 0 3 rfl rfl) ⟨(Nat.le_of_ble_eq_true rfl), (Nat.le_of_ble_eq_true rfl)⟩) hP hD hS hA kFr_SBw ht hlocks (Nat.le_of_ble_eq_true rfl) (Nat.le_of_ble_eq_true rfl)
  · obtain ⟨r1, g1, h⟩ := g_b h
    refine kq_v (wSB cI cJ cZ a ce fr un sb se so sc wb we wo wc fb fe fo fc rm ac rf kn) (fun qP qD qF => va_runS (As := [.ref (a 6), .int p0]) (rest := []) ⟨hx, hb, hml, hown, hts⟩ (c_X1_needNumberIn l dC dI cB cI cJ cZ (a 6) (a 7) (a 8) (a 9) _ wb we wo wc p0 r1 g1) (kcwS hts kw_592 kv_X1_needNumberIn rfl rfl ⟨(Nat.le_of_ble_eq_true rfl), (Nat.le_of_ble_eq_true rfl)⟩) (kpS (A := A) qP hK qD hG) rfl rfl hl.1 rfl (lv_room (Nat.le_of_ble_eq_true rfl)) (kdr dgX1_ofWish_0 0 3 rfl rfl) ⟨(Nat.le_of_ble_eq_true rfl), (Nat.le_of_ble_eq_true rfl)⟩) hP hD hS hA kFr_SBw (fun H locs hP hD hS => ?_)
    refine lv_iload_n hx hb (kdr dgX1_ofWish_0 0 4 rfl rfl) rfl (lv_at hl 2 rfl) ?_
    refine lv_iconst (v := 0) hx hb (kdr dgX1_ofWish_0 0 5 rfl rfl) (by decide) ?_
    refine lv_iconst (v := 3) hx hb (kdr dgX1_ofWish_0 0 6 rfl rfl) (by decide) ?_
    obtain ⟨r2, g2, h⟩ := g_b h
    refine kq_i (wSB cI cJ cZ a ce fr un sb se so sc wb we wo wc fb fe fo fc rm ac rf kn) (fun qP qD qF => va_runS (As := [.int p1, .int 0, .int 3]) (rest := []) ⟨hx, hb, hml, hown, hts⟩ (c_X1_isWithin l dC dI cB cI cJ cZ  _  p1 0 3 r2 g2) (kcwS hts kw_354 kv_X1_isWithin rfl rfl ⟨(Nat.le_of_ble_eq_true rfl), (Nat.le_of_ble_eq_true rfl)⟩) (kpS (A := A) (kPnil) hK ((kDnil (A := A))) hG) rfl rfl hl.1 rfl (lv_room (Nat.le_of_ble_eq_true rfl)) (kdr dgX1_ofWish_0 0 7 rfl rfl) ⟨(Nat.le_of_ble_eq_true rfl), (Nat.le_of_ble_eq_true rfl)⟩) hP hD hS hA kFr_n (fun H locs hP hD hS br2 => ?_)
    rcases g_x h with ⟨k3, j3, h⟩ | ⟨-, h⟩
    · have h := Option.some.inj h
      subst h
      exact kq_x (wSB cI cJ cZ a ce fr un sb se so sc wb we wo wc fb fe fo fc rm ac rf kn) (fun qP qD qF => vx_runS (As := [.int r2]) (rest := []) ⟨hx, hb, hml, hown, hts⟩ (x_X1_needThat l hl9 dC dI cB cI cJ cZ  _  r2 k3 j3) (kcwS hts kw_357 kv_X1_needThat rfl rfl ⟨(Nat.le_of_ble_eq_true rfl), (Nat.le_of_ble_eq_true rfl)⟩) (kpSXq (A := A) (kPnil) hK ((kDnil (A := A))) hG hZ hS qF) rfl rfl hl.1 rfl (lv_room (Nat.le_of_ble_eq_true rfl)) (kdr dgX1_ofWish_0 0 8 rfl rfl) ⟨(Nat.le_of_ble_eq_true rfl), (Nat.le_of_ble_eq_true rfl)⟩) hP hD hS hA kFr_n ht hlocks (Nat.le_of_ble_eq_true rfl) (Nat.le_of_ble_eq_true rfl)
    · cases h
noncomputable abbrev wsX1_isApart : List Cond := kWs yX1_isApart cX1_isApart 2 (some .boolean)
noncomputable def f_X1_isApart (wb : Nat → Int64) (we : Nat → Int64) (wc : Int32) (p0 : Int32) : Option (Int32) :=
  (f_X1_setOfAllWishes wc).bind fun r1 =>
  (f_X1_isWithin p0 0 r1).bind fun r2 =>
  (f_X1_needThat r2).bind fun r3 =>
  (f_X1_isWithoutMeeting wb we wc p0).bind fun r4 =>
  some r4
theorem f_X1_isApart_e {wb : Nat → Int64} {we : Nat → Int64} {wc : Int32} {p0 : Int32} : f_X1_isApart wb we wc p0 = 
  (f_X1_setOfAllWishes wc).bind fun r1 =>
  (f_X1_isWithin p0 0 r1).bind fun r2 =>
  (f_X1_needThat r2).bind fun r3 =>
  (f_X1_isWithoutMeeting wb we wc p0).bind fun r4 =>
  some r4 := rfl
set_option maxHeartbeats 4000000 in
set_option maxRecDepth 100000 in
theorem c_X1_isApart (l : Launch) (dC : Nat → ClassId) (dI : Nat → Nat → Nat) (cB cI cJ cZ : ClassId) (a : Nat → Nat) (sz : Nat) (ce : Nat → Int64) (fr : Int64) (un : Int64) (sb : Nat → Int64) (se : Nat → Int64) (so : Nat → Int32) (sc : Int32) (wb : Nat → Int64) (we : Nat → Int64) (wo : Nat → Int32) (wc : Int32) (fb : Nat → Int64) (fe : Nat → Int64) (fo : Nat → Int32) (fc : Int32) (rm : Nat → Int32) (ac : Int32) (rf : Int32) (kn : Int32) (p0 : Int32) (res : Int32) (hf : f_X1_isApart wb we wc p0 = some res) : kMi l yX1_isApart wsX1_isApart (kRm 3 0 0 68) dC dI cB cI cJ cZ [.ref (a 0), .int p0] sz (wSB cI cJ cZ a ce fr un sb se so sc wb we wo wc fb fe fo fc rm ac rf kn) .boolean (res) (wSB cI cJ cZ a ce fr un sb se so sc wb we wo wc fb fe fo fc rm ac rf kn) 0 0 := by
  refine kmet_i (y := yX1_isApart) (cc := cX1_isApart) (maxL := 2) (ret := (some .boolean)) RX1 (kvA 0 (a 0) (kvI 1 p0 kvE)) kpl_X1 rfl rfl (Nat.le_of_ble_eq_true rfl) rfl (fun p e s m below meth c A ls hx hb hr hml hts hown hlocks hP hK hG hD hA hS hl => ?_)
  have h := f_X1_isApart_e.symm.trans hf
  refine lv_iload_n hx hb (kdr dgX1_isApart_0 0 0 rfl rfl) rfl (lv_at hl 1 rfl) ?_
  refine lv_iconst (v := 0) hx hb (kdr dgX1_isApart_0 0 1 rfl rfl) (by decide) ?_
  refine lv_aload_n hx hb (kdr dgX1_isApart_0 0 2 rfl rfl) rfl (lv_at hl 0 rfl) ?_
  obtain ⟨r1, g1, h⟩ := g_b h
  refine kq_i (wSB cI cJ cZ a ce fr un sb se so sc wb we wo wc fb fe fo fc rm ac rf kn) (fun qP qD qF => va_runV (As := []) (rest := [.int 0, .int p0]) ⟨hx, hb, hml, hown, hts⟩ (c_X1_setOfAllWishes l dC dI cB cI cJ cZ a _ ce fr un sb se so sc wb we wo wc fb fe fo fc rm ac rf kn  r1 g1) (kcwV hts kw_315 kv_X1_setOfAllWishes rfl rfl ⟨(Nat.le_of_ble_eq_true rfl), (Nat.le_of_ble_eq_true rfl)⟩) (kpV (A := A) qP hK qD hG (krecv_3 (q0 := 0) hK hP rfl)) rfl rfl hl.1 rfl (lv_room (Nat.le_of_ble_eq_true rfl)) (kdr dgX1_isApart_0 0 3 rfl rfl) ⟨(Nat.le_of_ble_eq_true rfl), (Nat.le_of_ble_eq_true rfl)⟩) hP hD hS hA kFr_SB (fun H locs hP hD hS br1 => ?_)
  obtain ⟨r2, g2, h⟩ := g_b h
  refine kq_i (wSB cI cJ cZ a ce fr un sb se so sc wb we wo wc fb fe fo fc rm ac rf kn) (fun qP qD qF => va_runS (As := [.int p0, .int 0, .int r1]) (rest := []) ⟨hx, hb, hml, hown, hts⟩ (c_X1_isWithin l dC dI cB cI cJ cZ  _  p0 0 r1 r2 g2) (kcwS hts kw_354 kv_X1_isWithin rfl rfl ⟨(Nat.le_of_ble_eq_true rfl), (Nat.le_of_ble_eq_true rfl)⟩) (kpS (A := A) (kPnil) hK ((kDnil (A := A))) hG) rfl rfl hl.1 rfl (lv_room (Nat.le_of_ble_eq_true rfl)) (kdr dgX1_isApart_0 0 4 rfl rfl) ⟨(Nat.le_of_ble_eq_true rfl), (Nat.le_of_ble_eq_true rfl)⟩) hP hD hS hA kFr_n (fun H locs hP hD hS br2 => ?_)
  obtain ⟨r3, g3, h⟩ := g_b h
  refine kq_v (wSB cI cJ cZ a ce fr un sb se so sc wb we wo wc fb fe fo fc rm ac rf kn) (fun qP qD qF => va_runS (As := [.int r2]) (rest := []) ⟨hx, hb, hml, hown, hts⟩ (c_X1_needThat l dC dI cB cI cJ cZ  _  r2 r3 g3) (kcwS hts kw_357 kv_X1_needThat rfl rfl ⟨(Nat.le_of_ble_eq_true rfl), (Nat.le_of_ble_eq_true rfl)⟩) (kpS (A := A) (kPnil) hK ((kDnil (A := A))) hG) rfl rfl hl.1 rfl (lv_room (Nat.le_of_ble_eq_true rfl)) (kdr dgX1_isApart_0 0 5 rfl rfl) ⟨(Nat.le_of_ble_eq_true rfl), (Nat.le_of_ble_eq_true rfl)⟩) hP hD hS hA kFr_n (fun H locs hP hD hS => ?_)
  refine lv_aload_n hx hb (kdr dgX1_isApart_0 0 6 rfl rfl) rfl (lv_at hl 0 rfl) ?_
  refine lv_iload_n hx hb (kdr dgX1_isApart_0 0 7 rfl rfl) rfl (lv_at hl 1 rfl) ?_
  obtain ⟨r4, g4, h⟩ := g_b h
  refine kq_i (wSB cI cJ cZ a ce fr un sb se so sc wb we wo wc fb fe fo fc rm ac rf kn) (fun qP qD qF => va_runV (As := [.int p0]) (rest := []) ⟨hx, hb, hml, hown, hts⟩ (c_X1_isWithoutMeeting l dC dI cB cI cJ cZ a _ ce fr un sb se so sc wb we wo wc fb fe fo fc rm ac rf kn p0 r4 g4) (kcwV hts kw_301 kv_X1_isWithoutMeeting rfl rfl ⟨(Nat.le_of_ble_eq_true rfl), (Nat.le_of_ble_eq_true rfl)⟩) (kpV (A := A) qP hK qD hG (krecv_3 (q0 := 0) hK hP rfl)) rfl rfl hl.1 rfl (lv_room (Nat.le_of_ble_eq_true rfl)) (kdr dgX1_isApart_0 0 8 rfl rfl) ⟨(Nat.le_of_ble_eq_true rfl), (Nat.le_of_ble_eq_true rfl)⟩) hP hD hS hA kFr_SB (fun H locs hP hD hS br4 => ?_)
  have h := Option.some.inj h
  subst h
  exact kret_i (v := r4) hx hb hr br4 hlocks hS hP (kdr dgX1_isApart_0 0 9 rfl rfl)
noncomputable def fx_X1_isApart (wc : Int32) (p0 : Int32) : Option (Nat) :=
  (f_X1_setOfAllWishes wc).bind fun r1 =>
  (f_X1_isWithin p0 0 r1).bind fun r2 =>
  xb (fx_X1_needThat r2) (fun k3 => some k3) (
  none)
theorem fx_X1_isApart_e {wc : Int32} {p0 : Int32} : fx_X1_isApart wc p0 = 
  (f_X1_setOfAllWishes wc).bind fun r1 =>
  (f_X1_isWithin p0 0 r1).bind fun r2 =>
  xb (fx_X1_needThat r2) (fun k3 => some k3) (
  none) := rfl
set_option maxHeartbeats 4000000 in
set_option maxRecDepth 100000 in
theorem x_X1_isApart (l : Launch) (hl9 : l.stackTraces = false) (dC : Nat → ClassId) (dI : Nat → Nat → Nat) (cB cI cJ cZ : ClassId) (a : Nat → Nat) (sz : Nat) (ce : Nat → Int64) (fr : Int64) (un : Int64) (sb : Nat → Int64) (se : Nat → Int64) (so : Nat → Int32) (sc : Int32) (wb : Nat → Int64) (we : Nat → Int64) (wo : Nat → Int32) (wc : Int32) (fb : Nat → Int64) (fe : Nat → Int64) (fo : Nat → Int32) (fc : Int32) (rm : Nat → Int32) (ac : Int32) (rf : Int32) (kn : Int32) (p0 : Int32) (res : Nat) (hf : fx_X1_isApart wc p0 = some res) : kMX l yX1_isApart wsX1_isApart (kRm 7 1 6 110) dC dI cB cI cJ cZ [.ref (a 0), .int p0] sz (wSB cI cJ cZ a ce fr un sb se so sc wb we wo wc fb fe fo fc rm ac rf kn) (res) (wSB cI cJ cZ a ce fr un sb se so sc wb we wo wc fb fe fo fc rm ac rf kn) 1 6 := by
  refine kmet_x (y := yX1_isApart) (cc := cX1_isApart) (maxL := 2) (ret := (some .boolean)) RX1 (kvA 0 (a 0) (kvI 1 p0 kvE)) kpl_X1 rfl rfl (Nat.le_of_ble_eq_true rfl) rfl (fun p e s m below meth c A ls hx hb hr hml ht hts hown hlocks hP hK hG hZ hD hA hS hl => ?_)
  have h := fx_X1_isApart_e.symm.trans hf
  refine lv_iload_n hx hb (kdr dgX1_isApart_0 0 0 rfl rfl) rfl (lv_at hl 1 rfl) ?_
  refine lv_iconst (v := 0) hx hb (kdr dgX1_isApart_0 0 1 rfl rfl) (by decide) ?_
  refine lv_aload_n hx hb (kdr dgX1_isApart_0 0 2 rfl rfl) rfl (lv_at hl 0 rfl) ?_
  obtain ⟨r1, g1, h⟩ := g_b h
  refine kq_i (wSB cI cJ cZ a ce fr un sb se so sc wb we wo wc fb fe fo fc rm ac rf kn) (fun qP qD qF => va_runV (As := []) (rest := [.int 0, .int p0]) ⟨hx, hb, hml, hown, hts⟩ (c_X1_setOfAllWishes l dC dI cB cI cJ cZ a _ ce fr un sb se so sc wb we wo wc fb fe fo fc rm ac rf kn  r1 g1) (kcwV hts kw_315 kv_X1_setOfAllWishes rfl rfl ⟨(Nat.le_of_ble_eq_true rfl), (Nat.le_of_ble_eq_true rfl)⟩) (kpV (A := A) qP hK qD hG (krecv_3 (q0 := 0) hK hP rfl)) rfl rfl hl.1 rfl (lv_room (Nat.le_of_ble_eq_true rfl)) (kdr dgX1_isApart_0 0 3 rfl rfl) ⟨(Nat.le_of_ble_eq_true rfl), (Nat.le_of_ble_eq_true rfl)⟩) hP hD hS hA kFr_SB (fun H locs hP hD hS br1 => ?_)
  obtain ⟨r2, g2, h⟩ := g_b h
  refine kq_i (wSB cI cJ cZ a ce fr un sb se so sc wb we wo wc fb fe fo fc rm ac rf kn) (fun qP qD qF => va_runS (As := [.int p0, .int 0, .int r1]) (rest := []) ⟨hx, hb, hml, hown, hts⟩ (c_X1_isWithin l dC dI cB cI cJ cZ  _  p0 0 r1 r2 g2) (kcwS hts kw_354 kv_X1_isWithin rfl rfl ⟨(Nat.le_of_ble_eq_true rfl), (Nat.le_of_ble_eq_true rfl)⟩) (kpS (A := A) (kPnil) hK ((kDnil (A := A))) hG) rfl rfl hl.1 rfl (lv_room (Nat.le_of_ble_eq_true rfl)) (kdr dgX1_isApart_0 0 4 rfl rfl) ⟨(Nat.le_of_ble_eq_true rfl), (Nat.le_of_ble_eq_true rfl)⟩) hP hD hS hA kFr_n (fun H locs hP hD hS br2 => ?_)
  rcases g_x h with ⟨k3, j3, h⟩ | ⟨-, h⟩
  · have h := Option.some.inj h
    subst h
    exact kq_x (wSB cI cJ cZ a ce fr un sb se so sc wb we wo wc fb fe fo fc rm ac rf kn) (fun qP qD qF => vx_runS (As := [.int r2]) (rest := []) ⟨hx, hb, hml, hown, hts⟩ (x_X1_needThat l hl9 dC dI cB cI cJ cZ  _  r2 k3 j3) (kcwS hts kw_357 kv_X1_needThat rfl rfl ⟨(Nat.le_of_ble_eq_true rfl), (Nat.le_of_ble_eq_true rfl)⟩) (kpSXq (A := A) (kPnil) hK ((kDnil (A := A))) hG hZ hS qF) rfl rfl hl.1 rfl (lv_room (Nat.le_of_ble_eq_true rfl)) (kdr dgX1_isApart_0 0 5 rfl rfl) ⟨(Nat.le_of_ble_eq_true rfl), (Nat.le_of_ble_eq_true rfl)⟩) hP hD hS hA kFr_n ht hlocks (Nat.le_of_ble_eq_true rfl) (Nat.le_of_ble_eq_true rfl)
  · cases h
noncomputable abbrev wsX1_chosen : List Cond := kWs yX1_chosen cX1_chosen 4 (some .int)
noncomputable def f_X1_chosen_4 : Nat → (Nat → Int64) → (Nat → Int64) → (Int32) → (Int32) → (Int32) → Option (Int32)
  | 0, _, _, _, _, _ => none
  | n + 1, wb, we, wc, x1, x2 =>
    (f_X0_count wc).bind fun r1 =>
    if r1 ≤ x2 then
      some x1
    else
      (f_X1_nextChosen wb we wc x1).bind fun r3 =>
      if r3 = (-1) then
        f_X1_chosen_4 n wb we wc x1 (x2 + 1)
      else
        f_X1_chosen_4 n wb we wc (x1 ||| (1 <<< (r3 &&& 31))) (x2 + 1)
theorem f_X1_chosen_4_0 {wb : Nat → Int64} {we : Nat → Int64} {wc : Int32} {x1 : Int32} {x2 : Int32} : f_X1_chosen_4 0 wb we wc x1 x2 = none := rfl
theorem f_X1_chosen_4_s {n : Nat} {wb : Nat → Int64} {we : Nat → Int64} {wc : Int32} {x1 : Int32} {x2 : Int32} : f_X1_chosen_4 (n + 1) wb we wc x1 x2 =
  (f_X0_count wc).bind fun r1 =>
  if r1 ≤ x2 then
    some x1
  else
    (f_X1_nextChosen wb we wc x1).bind fun r3 =>
    if r3 = (-1) then
      f_X1_chosen_4 n wb we wc x1 (x2 + 1)
    else
      f_X1_chosen_4 n wb we wc (x1 ||| (1 <<< (r3 &&& 31))) (x2 + 1) := rfl
noncomputable def f_X1_chosen (wb : Nat → Int64) (we : Nat → Int64) (wc : Int32) : Option (Int32) :=
  f_X1_chosen_4 24 wb we wc 0 0
theorem f_X1_chosen_e {wb : Nat → Int64} {we : Nat → Int64} {wc : Int32} : f_X1_chosen wb we wc = 
  f_X1_chosen_4 24 wb we wc 0 0 := rfl
set_option maxHeartbeats 4000000 in
set_option maxRecDepth 100000 in
theorem c_X1_chosen (l : Launch) (dC : Nat → ClassId) (dI : Nat → Nat → Nat) (cB cI cJ cZ : ClassId) (a : Nat → Nat) (sz : Nat) (ce : Nat → Int64) (fr : Int64) (un : Int64) (sb : Nat → Int64) (se : Nat → Int64) (so : Nat → Int32) (sc : Int32) (wb : Nat → Int64) (we : Nat → Int64) (wo : Nat → Int32) (wc : Int32) (fb : Nat → Int64) (fe : Nat → Int64) (fo : Nat → Int32) (fc : Int32) (rm : Nat → Int32) (ac : Int32) (rf : Int32) (kn : Int32) (res : Int32) (hf : f_X1_chosen wb we wc = some res) : kMi l yX1_chosen wsX1_chosen (kRm 3 0 0 68) dC dI cB cI cJ cZ [.ref (a 0)] sz (wSB cI cJ cZ a ce fr un sb se so sc wb we wo wc fb fe fo fc rm ac rf kn) .int (res) (wSB cI cJ cZ a ce fr un sb se so sc wb we wo wc fb fe fo fc rm ac rf kn) 0 0 := by
  refine kmet_i (y := yX1_chosen) (cc := cX1_chosen) (maxL := 4) (ret := (some .int)) RX1 (kvA 0 (a 0) kvE) kpl_X1 rfl rfl (Nat.le_of_ble_eq_true rfl) rfl (fun p e s m below meth c A ls hx hb hr hml hts hown hlocks hP hK hG hD hA hS hl => ?_)
  have hw0 := hts (.fieldLink RX1 29 "Spanbooker" "wishRow" "LSpanbooker$Row;") (List.mem_cons_of_mem _ kw_111)
  have hiX1 : ∀ w ∈ u_ws RX1 TX1 10, w ∈ wsX1_chosen := fun w h => List.mem_cons_of_mem _ (ku_X1 w h)
  have J4 : ∀ (n : Nat), ∀ (ce : Nat → Int64) (fr : Int64) (un : Int64) (sb : Nat → Int64) (se : Nat → Int64) (so : Nat → Int32) (sc : Int32) (wb : Nat → Int64) (we : Nat → Int64) (wo : Nat → Int32) (wc : Int32) (fb : Nat → Int64) (fe : Nat → Int64) (fo : Nat → Int32) (fc : Int32) (rm : Nat → Int32) (ac : Int32) (rf : Int32) (kn : Int32) (x1 : Int32) (x2 : Int32) (H : Heap) (locs : List Loc), va_P (dC, dI) vwCl (wSB cI cJ cZ a ce fr un sb se so sc wb we wo wc fb fe fo fc rm ac rf kn) H → va_D A (wSB cI cJ cZ a ce fr un sb se so sc wb we wo wc fb fe fo fc rm ac rf kn) → va_S A s.heap H locs → ∀ (ls : Array Slot), lv_has ls 4 (kvA 0 (a 0) (kvI 1 x1 (kvI 2 x2 kvE))) → f_X1_chosen_4 n wb we wc x1 x2 = some res → W p l e (headSpec wsX1_chosen (kRm 3 0 0 68)).room s m ([.ref (a 0)] : List Value).toArray below meth c H locs 0 0 (MQ below (kI (dC, dI) .int (res) (wSB cI cJ cZ a ce fr un sb se so sc wb we wo wc fb fe fo fc rm ac rf kn) A) ([.ref (a 0)] : List Value).toArray s 0 0 A) (F0 m 4 ls []) := by
    intro n
    induction n with
    | zero =>
      intro ce fr un sb se so sc wb we wo wc fb fe fo fc rm ac rf kn x1 x2 H locs hP hD hS ls hl h
      have h := f_X1_chosen_4_0.symm.trans h
      cases h
    | succ n ih =>
      intro ce fr un sb se so sc wb we wo wc fb fe fo fc rm ac rf kn x1 x2 H locs hP hD hS ls hl h
      have h := f_X1_chosen_4_s.symm.trans h
      refine lv_iload_n hx hb (kdr dgX1_chosen_0 0 4 rfl rfl) rfl (lv_at hl 2 rfl) ?_
      refine lv_aload_n hx hb (kdr dgX1_chosen_0 0 5 rfl rfl) rfl (lv_at hl 0 rfl) ?_
      refine va_get (D := (dC, dI)) (ci := 3) (v := .ref (a 6)) (C := RX1) (T := TX1) (N := 10) hx hb hts hiX1 hown hK hP 0 rfl rfl 4 (by decide) hw0 (fun _ h9 => h9) rfl (kdr dgX1_chosen_0 0 6 rfl rfl) ?_
      obtain ⟨r1, g1, h⟩ := g_b h
      refine kq_i (wSB cI cJ cZ a ce fr un sb se so sc wb we wo wc fb fe fo fc rm ac rf kn) (fun qP qD qF => va_runV (As := []) (rest := [.int x2]) ⟨hx, hb, hml, hown, hts⟩ (c_X0_count l dC dI cB cI cJ cZ (a 6) (a 7) (a 8) (a 9) _ wb we wo wc  r1 g1) (kcwV hts kw_155 kv_X0_count rfl rfl ⟨(Nat.le_of_ble_eq_true rfl), (Nat.le_of_ble_eq_true rfl)⟩) (kpV (A := A) qP hK qD hG (krecv_2 (q0 := 6) hK hP rfl)) rfl rfl hl.1 rfl (lv_room (Nat.le_of_ble_eq_true rfl)) (kdr dgX1_chosen_0 0 7 rfl rfl) ⟨(Nat.le_of_ble_eq_true rfl), (Nat.le_of_ble_eq_true rfl)⟩) hP hD hS hA kFr_SBw (fun H locs hP hD hS br1 => ?_)
      refine lv_icmp_ge (tgt := 38) hx hb (kdr dgX1_chosen_0 0 8 rfl rfl) (by decide) (fun c2 => ?_) (fun c2 => ?_)
      · have h := g_t c2 h
        refine lv_iload_n hx hb (kdr dgX1_chosen_0 2 4 rfl rfl) rfl (lv_at hl 1 rfl) ?_
        have h := Option.some.inj h
        subst h
        exact kret_i (v := x1) hx hb hr rfl hlocks hS hP (kdr dgX1_chosen_0 2 5 rfl rfl)
      · have h := g_f c2 h
        refine lv_aload_n hx hb (kdr dgX1_chosen_0 0 9 rfl rfl) rfl (lv_at hl 0 rfl) ?_
        refine lv_iload_n hx hb (kdr dgX1_chosen_0 1 0 rfl rfl) rfl (lv_at hl 1 rfl) ?_
        obtain ⟨r3, g3, h⟩ := g_b h
        refine kq_i (wSB cI cJ cZ a ce fr un sb se so sc wb we wo wc fb fe fo fc rm ac rf kn) (fun qP qD qF => va_runV (As := [.int x1]) (rest := []) ⟨hx, hb, hml, hown, hts⟩ (c_X1_nextChosen l dC dI cB cI cJ cZ a _ ce fr un sb se so sc wb we wo wc fb fe fo fc rm ac rf kn x1 r3 g3) (kcwV hts kw_227 kv_X1_nextChosen rfl rfl ⟨(Nat.le_of_ble_eq_true rfl), (Nat.le_of_ble_eq_true rfl)⟩) (kpV (A := A) qP hK qD hG (krecv_3 (q0 := 0) hK hP rfl)) rfl rfl hl.1 rfl (lv_room (Nat.le_of_ble_eq_true rfl)) (kdr dgX1_chosen_0 1 1 rfl rfl) ⟨(Nat.le_of_ble_eq_true rfl), (Nat.le_of_ble_eq_true rfl)⟩) hP hD hS hA kFr_SB (fun H locs hP hD hS br3 => ?_)
        refine lv_istore_n (lv' := (kvI 3 r3 (kvA 0 (a 0) (kvI 1 x1 (kvI 2 x2 kvE))))) hx hb (kdr dgX1_chosen_0 1 2 rfl rfl) rfl hl (by decide) rfl (fun ls hl => ?_)
        refine lv_iload_n hx hb (kdr dgX1_chosen_0 1 3 rfl rfl) rfl (lv_at hl 0 rfl) ?_
        refine lv_iconst (v := (-1)) hx hb (kdr dgX1_chosen_0 1 4 rfl rfl) (by decide) ?_
        refine lv_icmp_eq (tgt := 32) hx hb (kdr dgX1_chosen_0 1 5 rfl rfl) (by decide) (fun c4 => ?_) (fun c4 => ?_)
        · have h := g_t c4 h
          refine lv_iinc (v := x2 + 1) (lv' := (kvI 2 (x2 + 1) (kvI 3 r3 (kvA 0 (a 0) (kvI 1 x1 kvE))))) hx hb (kdr dgX1_chosen_0 2 2 rfl rfl) hl (k := 3) rfl rfl (by decide) rfl (fun ls hl => ?_)
          refine lv_goto (tgt := 4) hx hb (kdr dgX1_chosen_0 2 3 rfl rfl) (by decide) ?_
          exact ih ce fr un sb se so sc wb we wo wc fb fe fo fc rm ac rf kn x1 (x2 + 1) _ _ hP hD hS ls (lv_sub hl [2, 3, 0] rfl) h
        · have h := g_f c4 h
          refine lv_iload_n hx hb (kdr dgX1_chosen_0 1 6 rfl rfl) rfl (lv_at hl 2 rfl) ?_
          refine lv_iconst (v := 1) hx hb (kdr dgX1_chosen_0 1 7 rfl rfl) (by decide) ?_
          refine lv_iload_n hx hb (kdr dgX1_chosen_0 1 8 rfl rfl) rfl (lv_at hl 0 rfl) ?_
          refine lv_ishl hx hb (kdr dgX1_chosen_0 1 9 rfl rfl) ?_
          refine lv_ior hx hb (kdr dgX1_chosen_0 2 0 rfl rfl) ?_
          refine lv_istore_n (lv' := (kvI 1 (x1 ||| (1 <<< (r3 &&& 31))) (kvI 3 r3 (kvA 0 (a 0) (kvI 2 x2 kvE))))) hx hb (kdr dgX1_chosen_0 2 1 rfl rfl) rfl hl (by decide) rfl (fun ls hl => ?_)
          refine lv_iinc (v := x2 + 1) (lv' := (kvI 2 (x2 + 1) (kvI 1 (x1 ||| (1 <<< (r3 &&& 31))) (kvI 3 r3 (kvA 0 (a 0) kvE))))) hx hb (kdr dgX1_chosen_0 2 2 rfl rfl) hl (k := 3) rfl rfl (by decide) rfl (fun ls hl => ?_)
          refine lv_goto (tgt := 4) hx hb (kdr dgX1_chosen_0 2 3 rfl rfl) (by decide) ?_
          exact ih ce fr un sb se so sc wb we wo wc fb fe fo fc rm ac rf kn (x1 ||| (1 <<< (r3 &&& 31))) (x2 + 1) _ _ hP hD hS ls (lv_sub hl [3, 1, 0] rfl) h
  have h := f_X1_chosen_e.symm.trans hf
  refine lv_iconst (v := 0) hx hb (kdr dgX1_chosen_0 0 0 rfl rfl) (by decide) ?_
  refine lv_istore_n (lv' := (kvI 1 0 (kvA 0 (a 0) kvE))) hx hb (kdr dgX1_chosen_0 0 1 rfl rfl) rfl hl (by decide) rfl (fun ls hl => ?_)
  refine lv_iconst (v := 0) hx hb (kdr dgX1_chosen_0 0 2 rfl rfl) (by decide) ?_
  refine lv_istore_n (lv' := (kvI 2 0 (kvI 1 0 (kvA 0 (a 0) kvE)))) hx hb (kdr dgX1_chosen_0 0 3 rfl rfl) rfl hl (by decide) rfl (fun ls hl => ?_)
  exact J4 24 ce fr un sb se so sc wb we wo wc fb fe fo fc rm ac rf kn 0 0 _ _ hP hD hS ls (lv_sub hl [2, 1, 0] rfl) h
noncomputable abbrev wsX1_most : List Cond := kWs yX1_most cX1_most 2 (some .int)
noncomputable def f_X1_most (wb : Nat → Int64) (we : Nat → Int64) (wc : Int32) (p0 : Int32) : Option (Int32) :=
  (f_X1_isWithin p0 0 1).bind fun r1 =>
  (f_X1_needThat r1).bind fun r2 =>
  if p0 = 0 then
    (f_X1_chosen wb we wc).bind fun r4 =>
    (f_J6_bitCount_0f7a4 r4).bind fun r5 =>
    some r5
  else
    (f_X1_mostOfAllSets wb we wc).bind fun r4 =>
    some r4
theorem f_X1_most_e {wb : Nat → Int64} {we : Nat → Int64} {wc : Int32} {p0 : Int32} : f_X1_most wb we wc p0 = 
  (f_X1_isWithin p0 0 1).bind fun r1 =>
  (f_X1_needThat r1).bind fun r2 =>
  if p0 = 0 then
    (f_X1_chosen wb we wc).bind fun r4 =>
    (f_J6_bitCount_0f7a4 r4).bind fun r5 =>
    some r5
  else
    (f_X1_mostOfAllSets wb we wc).bind fun r4 =>
    some r4 := rfl
set_option maxHeartbeats 4000000 in
set_option maxRecDepth 100000 in
theorem c_X1_most (l : Launch) (dC : Nat → ClassId) (dI : Nat → Nat → Nat) (cB cI cJ cZ : ClassId) (a : Nat → Nat) (sz : Nat) (ce : Nat → Int64) (fr : Int64) (un : Int64) (sb : Nat → Int64) (se : Nat → Int64) (so : Nat → Int32) (sc : Int32) (wb : Nat → Int64) (we : Nat → Int64) (wo : Nat → Int32) (wc : Int32) (fb : Nat → Int64) (fe : Nat → Int64) (fo : Nat → Int32) (fc : Int32) (rm : Nat → Int32) (ac : Int32) (rf : Int32) (kn : Int32) (p0 : Int32) (res : Int32) (hf : f_X1_most wb we wc p0 = some res) : kMi l yX1_most wsX1_most (kRm 4 0 0 92) dC dI cB cI cJ cZ [.ref (a 0), .int p0] sz (wSB cI cJ cZ a ce fr un sb se so sc wb we wo wc fb fe fo fc rm ac rf kn) .int (res) (wSB cI cJ cZ a ce fr un sb se so sc wb we wo wc fb fe fo fc rm ac rf kn) 0 0 := by
  refine kmet_i (y := yX1_most) (cc := cX1_most) (maxL := 2) (ret := (some .int)) RX1 (kvA 0 (a 0) (kvI 1 p0 kvE)) kpl_X1 rfl rfl (Nat.le_of_ble_eq_true rfl) rfl (fun p e s m below meth c A ls hx hb hr hml hts hown hlocks hP hK hG hD hA hS hl => ?_)
  have h := f_X1_most_e.symm.trans hf
  refine lv_iload_n hx hb (kdr dgX1_most_0 0 0 rfl rfl) rfl (lv_at hl 1 rfl) ?_
  refine lv_iconst (v := 0) hx hb (kdr dgX1_most_0 0 1 rfl rfl) (by decide) ?_
  refine lv_iconst (v := 1) hx hb (kdr dgX1_most_0 0 2 rfl rfl) (by decide) ?_
  obtain ⟨r1, g1, h⟩ := g_b h
  refine kq_i (wSB cI cJ cZ a ce fr un sb se so sc wb we wo wc fb fe fo fc rm ac rf kn) (fun qP qD qF => va_runS (As := [.int p0, .int 0, .int 1]) (rest := []) ⟨hx, hb, hml, hown, hts⟩ (c_X1_isWithin l dC dI cB cI cJ cZ  _  p0 0 1 r1 g1) (kcwS hts kw_354 kv_X1_isWithin rfl rfl ⟨(Nat.le_of_ble_eq_true rfl), (Nat.le_of_ble_eq_true rfl)⟩) (kpS (A := A) (kPnil) hK ((kDnil (A := A))) hG) rfl rfl hl.1 rfl (lv_room (Nat.le_of_ble_eq_true rfl)) (kdr dgX1_most_0 0 3 rfl rfl) ⟨(Nat.le_of_ble_eq_true rfl), (Nat.le_of_ble_eq_true rfl)⟩) hP hD hS hA kFr_n (fun H locs hP hD hS br1 => ?_)
  obtain ⟨r2, g2, h⟩ := g_b h
  refine kq_v (wSB cI cJ cZ a ce fr un sb se so sc wb we wo wc fb fe fo fc rm ac rf kn) (fun qP qD qF => va_runS (As := [.int r1]) (rest := []) ⟨hx, hb, hml, hown, hts⟩ (c_X1_needThat l dC dI cB cI cJ cZ  _  r1 r2 g2) (kcwS hts kw_357 kv_X1_needThat rfl rfl ⟨(Nat.le_of_ble_eq_true rfl), (Nat.le_of_ble_eq_true rfl)⟩) (kpS (A := A) (kPnil) hK ((kDnil (A := A))) hG) rfl rfl hl.1 rfl (lv_room (Nat.le_of_ble_eq_true rfl)) (kdr dgX1_most_0 0 4 rfl rfl) ⟨(Nat.le_of_ble_eq_true rfl), (Nat.le_of_ble_eq_true rfl)⟩) hP hD hS hA kFr_n (fun H locs hP hD hS => ?_)
  refine lv_iload_n hx hb (kdr dgX1_most_0 0 5 rfl rfl) rfl (lv_at hl 1 rfl) ?_
  refine lv_if_ne (tgt := 23) hx hb (kdr dgX1_most_0 0 6 rfl rfl) (by decide) (fun c3 => ?_) (fun c3 => ?_)
  · have h := g_f c3 h
    refine lv_aload_n hx hb (kdr dgX1_most_0 1 1 rfl rfl) rfl (lv_at hl 0 rfl) ?_
    obtain ⟨r4, g4, h⟩ := g_b h
    refine kq_i (wSB cI cJ cZ a ce fr un sb se so sc wb we wo wc fb fe fo fc rm ac rf kn) (fun qP qD qF => va_runV (As := []) (rest := []) ⟨hx, hb, hml, hown, hts⟩ (c_X1_mostOfAllSets l dC dI cB cI cJ cZ a _ ce fr un sb se so sc wb we wo wc fb fe fo fc rm ac rf kn  r4 g4) (kcwV hts kw_311 kv_X1_mostOfAllSets rfl rfl ⟨(Nat.le_of_ble_eq_true rfl), (Nat.le_of_ble_eq_true rfl)⟩) (kpV (A := A) qP hK qD hG (krecv_3 (q0 := 0) hK hP rfl)) rfl rfl hl.1 rfl (lv_room (Nat.le_of_ble_eq_true rfl)) (kdr dgX1_most_0 1 2 rfl rfl) ⟨(Nat.le_of_ble_eq_true rfl), (Nat.le_of_ble_eq_true rfl)⟩) hP hD hS hA kFr_SB (fun H locs hP hD hS br4 => ?_)
    have h := Option.some.inj h
    subst h
    exact kret_i (v := r4) hx hb hr rfl hlocks hS hP (kdr dgX1_most_0 1 3 rfl rfl)
  · have h := g_t c3 h
    refine lv_aload_n hx hb (kdr dgX1_most_0 0 7 rfl rfl) rfl (lv_at hl 0 rfl) ?_
    obtain ⟨r4, g4, h⟩ := g_b h
    refine kq_i (wSB cI cJ cZ a ce fr un sb se so sc wb we wo wc fb fe fo fc rm ac rf kn) (fun qP qD qF => va_runV (As := []) (rest := []) ⟨hx, hb, hml, hown, hts⟩ (c_X1_chosen l dC dI cB cI cJ cZ a _ ce fr un sb se so sc wb we wo wc fb fe fo fc rm ac rf kn  r4 g4) (kcwV hts kw_300 kv_X1_chosen rfl rfl ⟨(Nat.le_of_ble_eq_true rfl), (Nat.le_of_ble_eq_true rfl)⟩) (kpV (A := A) qP hK qD hG (krecv_3 (q0 := 0) hK hP rfl)) rfl rfl hl.1 rfl (lv_room (Nat.le_of_ble_eq_true rfl)) (kdr dgX1_most_0 0 8 rfl rfl) ⟨(Nat.le_of_ble_eq_true rfl), (Nat.le_of_ble_eq_true rfl)⟩) hP hD hS hA kFr_SB (fun H locs hP hD hS br4 => ?_)
    obtain ⟨r5, g5, h⟩ := g_b h
    refine kq_i (wSB cI cJ cZ a ce fr un sb se so sc wb we wo wc fb fe fo fc rm ac rf kn) (fun qP qD qF => va_runS (As := [.int r4]) (rest := []) ⟨hx, hb, hml, hown, hts⟩ (c_J6_bitCount_0f7a4 l dC dI cB cI cJ cZ  _  r4 r5 g5) (kcwS hts kw_305 kv_J6_bitCount_0f7a4 rfl rfl ⟨(Nat.le_of_ble_eq_true rfl), (Nat.le_of_ble_eq_true rfl)⟩) (kpS (A := A) (kPnil) hK ((kDnil (A := A))) hG) rfl rfl hl.1 rfl (lv_room (Nat.le_of_ble_eq_true rfl)) (kdr dgX1_most_0 0 9 rfl rfl) ⟨(Nat.le_of_ble_eq_true rfl), (Nat.le_of_ble_eq_true rfl)⟩) hP hD hS hA kFr_n (fun H locs hP hD hS br5 => ?_)
    refine lv_goto (tgt := 27) hx hb (kdr dgX1_most_0 1 0 rfl rfl) (by decide) ?_
    have h := Option.some.inj h
    subst h
    exact kret_i (v := r5) hx hb hr rfl hlocks hS hP (kdr dgX1_most_0 1 3 rfl rfl)
noncomputable def fx_X1_most (p0 : Int32) : Option (Nat) :=
  (f_X1_isWithin p0 0 1).bind fun r1 =>
  xb (fx_X1_needThat r1) (fun k2 => some k2) (
  none)
theorem fx_X1_most_e {p0 : Int32} : fx_X1_most p0 = 
  (f_X1_isWithin p0 0 1).bind fun r1 =>
  xb (fx_X1_needThat r1) (fun k2 => some k2) (
  none) := rfl
set_option maxHeartbeats 4000000 in
set_option maxRecDepth 100000 in
theorem x_X1_most (l : Launch) (hl9 : l.stackTraces = false) (dC : Nat → ClassId) (dI : Nat → Nat → Nat) (cB cI cJ cZ : ClassId) (a : Nat → Nat) (sz : Nat) (ce : Nat → Int64) (fr : Int64) (un : Int64) (sb : Nat → Int64) (se : Nat → Int64) (so : Nat → Int32) (sc : Int32) (wb : Nat → Int64) (we : Nat → Int64) (wo : Nat → Int32) (wc : Int32) (fb : Nat → Int64) (fe : Nat → Int64) (fo : Nat → Int32) (fc : Int32) (rm : Nat → Int32) (ac : Int32) (rf : Int32) (kn : Int32) (p0 : Int32) (res : Nat) (hf : fx_X1_most p0 = some res) : kMX l yX1_most wsX1_most (kRm 7 1 6 110) dC dI cB cI cJ cZ [.ref (a 0), .int p0] sz (wSB cI cJ cZ a ce fr un sb se so sc wb we wo wc fb fe fo fc rm ac rf kn) (res) (wSB cI cJ cZ a ce fr un sb se so sc wb we wo wc fb fe fo fc rm ac rf kn) 1 6 := by
  refine kmet_x (y := yX1_most) (cc := cX1_most) (maxL := 2) (ret := (some .int)) RX1 (kvA 0 (a 0) (kvI 1 p0 kvE)) kpl_X1 rfl rfl (Nat.le_of_ble_eq_true rfl) rfl (fun p e s m below meth c A ls hx hb hr hml ht hts hown hlocks hP hK hG hZ hD hA hS hl => ?_)
  have h := fx_X1_most_e.symm.trans hf
  refine lv_iload_n hx hb (kdr dgX1_most_0 0 0 rfl rfl) rfl (lv_at hl 1 rfl) ?_
  refine lv_iconst (v := 0) hx hb (kdr dgX1_most_0 0 1 rfl rfl) (by decide) ?_
  refine lv_iconst (v := 1) hx hb (kdr dgX1_most_0 0 2 rfl rfl) (by decide) ?_
  obtain ⟨r1, g1, h⟩ := g_b h
  refine kq_i (wSB cI cJ cZ a ce fr un sb se so sc wb we wo wc fb fe fo fc rm ac rf kn) (fun qP qD qF => va_runS (As := [.int p0, .int 0, .int 1]) (rest := []) ⟨hx, hb, hml, hown, hts⟩ (c_X1_isWithin l dC dI cB cI cJ cZ  _  p0 0 1 r1 g1) (kcwS hts kw_354 kv_X1_isWithin rfl rfl ⟨(Nat.le_of_ble_eq_true rfl), (Nat.le_of_ble_eq_true rfl)⟩) (kpS (A := A) (kPnil) hK ((kDnil (A := A))) hG) rfl rfl hl.1 rfl (lv_room (Nat.le_of_ble_eq_true rfl)) (kdr dgX1_most_0 0 3 rfl rfl) ⟨(Nat.le_of_ble_eq_true rfl), (Nat.le_of_ble_eq_true rfl)⟩) hP hD hS hA kFr_n (fun H locs hP hD hS br1 => ?_)
  rcases g_x h with ⟨k2, j2, h⟩ | ⟨-, h⟩
  · have h := Option.some.inj h
    subst h
    exact kq_x (wSB cI cJ cZ a ce fr un sb se so sc wb we wo wc fb fe fo fc rm ac rf kn) (fun qP qD qF => vx_runS (As := [.int r1]) (rest := []) ⟨hx, hb, hml, hown, hts⟩ (x_X1_needThat l hl9 dC dI cB cI cJ cZ  _  r1 k2 j2) (kcwS hts kw_357 kv_X1_needThat rfl rfl ⟨(Nat.le_of_ble_eq_true rfl), (Nat.le_of_ble_eq_true rfl)⟩) (kpSXq (A := A) (kPnil) hK ((kDnil (A := A))) hG hZ hS qF) rfl rfl hl.1 rfl (lv_room (Nat.le_of_ble_eq_true rfl)) (kdr dgX1_most_0 0 4 rfl rfl) ⟨(Nat.le_of_ble_eq_true rfl), (Nat.le_of_ble_eq_true rfl)⟩) hP hD hS hA kFr_n ht hlocks (Nat.le_of_ble_eq_true rfl) (Nat.le_of_ble_eq_true rfl)
  · cases h
noncomputable abbrev wsX1_crowd : List Cond := kWs yX1_crowd cX1_crowd 1 (some .int)
noncomputable def f_X1_crowd (wb : Nat → Int64) (we : Nat → Int64) (wc : Int32) : Option (Int32) :=
  (f_X0_depth wb we wc).bind fun r1 =>
  some r1
theorem f_X1_crowd_e {wb : Nat → Int64} {we : Nat → Int64} {wc : Int32} : f_X1_crowd wb we wc = 
  (f_X0_depth wb we wc).bind fun r1 =>
  some r1 := rfl
set_option maxHeartbeats 4000000 in
set_option maxRecDepth 100000 in
theorem c_X1_crowd (l : Launch) (dC : Nat → ClassId) (dI : Nat → Nat → Nat) (cB cI cJ cZ : ClassId) (a : Nat → Nat) (sz : Nat) (ce : Nat → Int64) (fr : Int64) (un : Int64) (sb : Nat → Int64) (se : Nat → Int64) (so : Nat → Int32) (sc : Int32) (wb : Nat → Int64) (we : Nat → Int64) (wo : Nat → Int32) (wc : Int32) (fb : Nat → Int64) (fe : Nat → Int64) (fo : Nat → Int32) (fc : Int32) (rm : Nat → Int32) (ac : Int32) (rf : Int32) (kn : Int32) (res : Int32) (hf : f_X1_crowd wb we wc = some res) : kMi l yX1_crowd wsX1_crowd (kRm 2 0 0 64) dC dI cB cI cJ cZ [.ref (a 0)] sz (wSB cI cJ cZ a ce fr un sb se so sc wb we wo wc fb fe fo fc rm ac rf kn) .int (res) (wSB cI cJ cZ a ce fr un sb se so sc wb we wo wc fb fe fo fc rm ac rf kn) 0 0 := by
  refine kmet_i (y := yX1_crowd) (cc := cX1_crowd) (maxL := 1) (ret := (some .int)) RX1 (kvA 0 (a 0) kvE) kpl_X1 rfl rfl (Nat.le_of_ble_eq_true rfl) rfl (fun p e s m below meth c A ls hx hb hr hml hts hown hlocks hP hK hG hD hA hS hl => ?_)
  have hw0 := hts (.fieldLink RX1 29 "Spanbooker" "wishRow" "LSpanbooker$Row;") (List.mem_cons_of_mem _ kw_111)
  have hiX1 : ∀ w ∈ u_ws RX1 TX1 10, w ∈ wsX1_crowd := fun w h => List.mem_cons_of_mem _ (ku_X1 w h)
  have h := f_X1_crowd_e.symm.trans hf
  refine lv_aload_n hx hb (kdr dgX1_crowd_0 0 0 rfl rfl) rfl (lv_at hl 0 rfl) ?_
  refine va_get (D := (dC, dI)) (ci := 3) (v := .ref (a 6)) (C := RX1) (T := TX1) (N := 10) hx hb hts hiX1 hown hK hP 0 rfl rfl 4 (by decide) hw0 (fun _ h9 => h9) rfl (kdr dgX1_crowd_0 0 1 rfl rfl) ?_
  obtain ⟨r1, g1, h⟩ := g_b h
  refine kq_i (wSB cI cJ cZ a ce fr un sb se so sc wb we wo wc fb fe fo fc rm ac rf kn) (fun qP qD qF => va_runV (As := []) (rest := []) ⟨hx, hb, hml, hown, hts⟩ (c_X0_depth l dC dI cB cI cJ cZ (a 6) (a 7) (a 8) (a 9) _ wb we wo wc  r1 g1) (kcwV hts kw_171 kv_X0_depth rfl rfl ⟨(Nat.le_of_ble_eq_true rfl), (Nat.le_of_ble_eq_true rfl)⟩) (kpV (A := A) qP hK qD hG (krecv_2 (q0 := 6) hK hP rfl)) rfl rfl hl.1 rfl (lv_room (Nat.le_of_ble_eq_true rfl)) (kdr dgX1_crowd_0 0 2 rfl rfl) ⟨(Nat.le_of_ble_eq_true rfl), (Nat.le_of_ble_eq_true rfl)⟩) hP hD hS hA kFr_SBw (fun H locs hP hD hS br1 => ?_)
  have h := Option.some.inj h
  subst h
  exact kret_i (v := r1) hx hb hr rfl hlocks hS hP (kdr dgX1_crowd_0 0 3 rfl rfl)
noncomputable abbrev wsX1_room : List Cond := kWs yX1_room cX1_room 2 (some .int)
noncomputable def f_X1_room (wb : Nat → Int64) (we : Nat → Int64) (wc : Int32) (rm : Nat → Int32) (p0 : Int32) : Option ((Int32) × (Nat → Int32)) :=
  (f_X1_needNumberIn wc p0).bind fun r1 =>
  (f_X1_findRooms wb we wc rm).bind fun r2 =>
  if ix p0 11 then
    some (r2 p0.toNatClampNeg, r2)
  else none
theorem f_X1_room_e {wb : Nat → Int64} {we : Nat → Int64} {wc : Int32} {rm : Nat → Int32} {p0 : Int32} : f_X1_room wb we wc rm p0 = 
  (f_X1_needNumberIn wc p0).bind fun r1 =>
  (f_X1_findRooms wb we wc rm).bind fun r2 =>
  if ix p0 11 then
    some (r2 p0.toNatClampNeg, r2)
  else none := rfl
set_option maxHeartbeats 4000000 in
set_option maxRecDepth 100000 in
theorem c_X1_room (l : Launch) (dC : Nat → ClassId) (dI : Nat → Nat → Nat) (cB cI cJ cZ : ClassId) (a : Nat → Nat) (sz : Nat) (ce : Nat → Int64) (fr : Int64) (un : Int64) (sb : Nat → Int64) (se : Nat → Int64) (so : Nat → Int32) (sc : Int32) (wb : Nat → Int64) (we : Nat → Int64) (wo : Nat → Int32) (wc : Int32) (fb : Nat → Int64) (fe : Nat → Int64) (fo : Nat → Int32) (fc : Int32) (rm : Nat → Int32) (ac : Int32) (rf : Int32) (kn : Int32) (p0 : Int32) (res : (Int32) × (Nat → Int32)) (hf : f_X1_room wb we wc rm p0 = some res) : kMi l yX1_room wsX1_room (kRm 4 0 0 86) dC dI cB cI cJ cZ [.ref (a 0), .int p0] sz (wSB cI cJ cZ a ce fr un sb se so sc wb we wo wc fb fe fo fc rm ac rf kn) .int (res.1) (wSB cI cJ cZ a ce fr un sb se so sc wb we wo wc fb fe fo fc (res.2) ac rf kn) 0 0 := by
  refine kmet_i (y := yX1_room) (cc := cX1_room) (maxL := 2) (ret := (some .int)) RX1 (kvA 0 (a 0) (kvI 1 p0 kvE)) kpl_X1 rfl rfl (Nat.le_of_ble_eq_true rfl) rfl (fun p e s m below meth c A ls hx hb hr hml hts hown hlocks hP hK hG hD hA hS hl => ?_)
  have hw0 := hts (.fieldLink RX1 29 "Spanbooker" "wishRow" "LSpanbooker$Row;") (List.mem_cons_of_mem _ kw_111)
  have hw1 := hts (.fieldLink RX1 35 "Spanbooker" "roomOf" "[I") (List.mem_cons_of_mem _ kw_113)
  have hiX1 : ∀ w ∈ u_ws RX1 TX1 10, w ∈ wsX1_room := fun w h => List.mem_cons_of_mem _ (ku_X1 w h)
  have h := f_X1_room_e.symm.trans hf
  refine lv_aload_n hx hb (kdr dgX1_room_0 0 0 rfl rfl) rfl (lv_at hl 0 rfl) ?_
  refine va_get (D := (dC, dI)) (ci := 3) (v := .ref (a 6)) (C := RX1) (T := TX1) (N := 10) hx hb hts hiX1 hown hK hP 0 rfl rfl 4 (by decide) hw0 (fun _ h9 => h9) rfl (kdr dgX1_room_0 0 1 rfl rfl) ?_
  refine lv_iload_n hx hb (kdr dgX1_room_0 0 2 rfl rfl) rfl (lv_at hl 1 rfl) ?_
  obtain ⟨r1, g1, h⟩ := g_b h
  refine kq_v (wSB cI cJ cZ a ce fr un sb se so sc wb we wo wc fb fe fo fc rm ac rf kn) (fun qP qD qF => va_runS (As := [.ref (a 6), .int p0]) (rest := []) ⟨hx, hb, hml, hown, hts⟩ (c_X1_needNumberIn l dC dI cB cI cJ cZ (a 6) (a 7) (a 8) (a 9) _ wb we wo wc p0 r1 g1) (kcwS hts kw_592 kv_X1_needNumberIn rfl rfl ⟨(Nat.le_of_ble_eq_true rfl), (Nat.le_of_ble_eq_true rfl)⟩) (kpS (A := A) qP hK qD hG) rfl rfl hl.1 rfl (lv_room (Nat.le_of_ble_eq_true rfl)) (kdr dgX1_room_0 0 3 rfl rfl) ⟨(Nat.le_of_ble_eq_true rfl), (Nat.le_of_ble_eq_true rfl)⟩) hP hD hS hA kFr_SBw (fun H locs hP hD hS => ?_)
  refine lv_aload_n hx hb (kdr dgX1_room_0 0 4 rfl rfl) rfl (lv_at hl 0 rfl) ?_
  obtain ⟨r2, g2, h⟩ := g_b h
  refine kq_v (wSB cI cJ cZ a ce fr un sb se so sc wb we wo wc fb fe fo fc r2 ac rf kn) (fun qP qD qF => va_runV (As := []) (rest := []) ⟨hx, hb, hml, hown, hts⟩ (c_X1_findRooms l dC dI cB cI cJ cZ a _ ce fr un sb se so sc wb we wo wc fb fe fo fc rm ac rf kn  r2 g2) (kcwV hts kw_243 kv_X1_findRooms rfl rfl ⟨(Nat.le_of_ble_eq_true rfl), (Nat.le_of_ble_eq_true rfl)⟩) (kpV (A := A) qP hK qD hG (krecv_3 (q0 := 0) hK hP rfl)) rfl rfl hl.1 rfl (lv_room (Nat.le_of_ble_eq_true rfl)) (kdr dgX1_room_0 0 5 rfl rfl) ⟨(Nat.le_of_ble_eq_true rfl), (Nat.le_of_ble_eq_true rfl)⟩) hP hD hS hA kFr_SB (fun H locs hP hD hS => ?_)
  refine lv_aload_n hx hb (kdr dgX1_room_0 0 6 rfl rfl) rfl (lv_at hl 0 rfl) ?_
  refine va_get (D := (dC, dI)) (ci := 3) (v := .ref (a 14)) (C := RX1) (T := TX1) (N := 10) hx hb hts hiX1 hown hK hP 0 rfl rfl 6 (by decide) hw1 (fun _ h9 => h9) rfl (kdr dgX1_room_0 0 7 rfl rfl) ?_
  refine lv_iload_n hx hb (kdr dgX1_room_0 0 8 rfl rfl) rfl (lv_at hl 1 rfl) ?_
  obtain ⟨z2, h⟩ := g_if h
  refine va_iald hx hb hK hP 14 1 rfl rfl (ix_in z2) (kdr dgX1_room_0 0 9 rfl rfl) ?_
  have h := Option.some.inj h
  subst h
  exact kret_i (v := r2 p0.toNatClampNeg) hx hb hr rfl hlocks hS hP (kdr dgX1_room_0 1 0 rfl rfl)
noncomputable def fx_X1_room (wc : Int32) (p0 : Int32) : Option (Nat) :=
  xb (fx_X1_needNumberIn wc p0) (fun k1 => some k1) (
  none)
theorem fx_X1_room_e {wc : Int32} {p0 : Int32} : fx_X1_room wc p0 = 
  xb (fx_X1_needNumberIn wc p0) (fun k1 => some k1) (
  none) := rfl
set_option maxHeartbeats 4000000 in
set_option maxRecDepth 100000 in
theorem x_X1_room (l : Launch) (hl9 : l.stackTraces = false) (dC : Nat → ClassId) (dI : Nat → Nat → Nat) (cB cI cJ cZ : ClassId) (a : Nat → Nat) (sz : Nat) (ce : Nat → Int64) (fr : Int64) (un : Int64) (sb : Nat → Int64) (se : Nat → Int64) (so : Nat → Int32) (sc : Int32) (wb : Nat → Int64) (we : Nat → Int64) (wo : Nat → Int32) (wc : Int32) (fb : Nat → Int64) (fe : Nat → Int64) (fo : Nat → Int32) (fc : Int32) (rm : Nat → Int32) (ac : Int32) (rf : Int32) (kn : Int32) (p0 : Int32) (res : Nat) (hf : fx_X1_room wc p0 = some res) : kMX l yX1_room wsX1_room (kRm 7 1 6 111) dC dI cB cI cJ cZ [.ref (a 0), .int p0] sz (wSB cI cJ cZ a ce fr un sb se so sc wb we wo wc fb fe fo fc rm ac rf kn) (res) (wSB cI cJ cZ a ce fr un sb se so sc wb we wo wc fb fe fo fc rm ac rf kn) 1 6 := by
  refine kmet_x (y := yX1_room) (cc := cX1_room) (maxL := 2) (ret := (some .int)) RX1 (kvA 0 (a 0) (kvI 1 p0 kvE)) kpl_X1 rfl rfl (Nat.le_of_ble_eq_true rfl) rfl (fun p e s m below meth c A ls hx hb hr hml ht hts hown hlocks hP hK hG hZ hD hA hS hl => ?_)
  have hw0 := hts (.fieldLink RX1 29 "Spanbooker" "wishRow" "LSpanbooker$Row;") (List.mem_cons_of_mem _ kw_111)
  have hiX1 : ∀ w ∈ u_ws RX1 TX1 10, w ∈ wsX1_room := fun w h => List.mem_cons_of_mem _ (ku_X1 w h)
  have h := fx_X1_room_e.symm.trans hf
  refine lv_aload_n hx hb (kdr dgX1_room_0 0 0 rfl rfl) rfl (lv_at hl 0 rfl) ?_
  refine va_get (D := (dC, dI)) (ci := 3) (v := .ref (a 6)) (C := RX1) (T := TX1) (N := 10) hx hb hts hiX1 hown hK hP 0 rfl rfl 4 (by decide) hw0 (fun _ h9 => h9) rfl (kdr dgX1_room_0 0 1 rfl rfl) ?_
  refine lv_iload_n hx hb (kdr dgX1_room_0 0 2 rfl rfl) rfl (lv_at hl 1 rfl) ?_
  rcases g_x h with ⟨k1, j1, h⟩ | ⟨-, h⟩
  · have h := Option.some.inj h
    subst h
    exact kq_x (wSB cI cJ cZ a ce fr un sb se so sc wb we wo wc fb fe fo fc rm ac rf kn) (fun qP qD qF => vx_runS (As := [.ref (a 6), .int p0]) (rest := []) ⟨hx, hb, hml, hown, hts⟩ (x_X1_needNumberIn l hl9 dC dI cB cI cJ cZ (a 6) (a 7) (a 8) (a 9) _ wb we wo wc p0 k1 j1) (kcwS hts kw_592 kv_X1_needNumberIn rfl rfl ⟨(Nat.le_of_ble_eq_true rfl), (Nat.le_of_ble_eq_true rfl)⟩) (kpSXq (A := A) qP hK qD hG hZ hS qF) rfl rfl hl.1 rfl (lv_room (Nat.le_of_ble_eq_true rfl)) (kdr dgX1_room_0 0 3 rfl rfl) ⟨(Nat.le_of_ble_eq_true rfl), (Nat.le_of_ble_eq_true rfl)⟩) hP hD hS hA kFr_SBw ht hlocks (Nat.le_of_ble_eq_true rfl) (Nat.le_of_ble_eq_true rfl)
  · cases h
noncomputable abbrev wsX1_rooms : List Cond := kWs yX1_rooms cX1_rooms 1 (some .int)
noncomputable def f_X1_rooms (wb : Nat → Int64) (we : Nat → Int64) (wc : Int32) (rm : Nat → Int32) : Option ((Int32) × (Nat → Int32)) :=
  (f_X1_findRooms wb we wc rm).bind fun r1 =>
  (f_X1_roomCount wc r1).bind fun r2 =>
  some (r2, r1)
theorem f_X1_rooms_e {wb : Nat → Int64} {we : Nat → Int64} {wc : Int32} {rm : Nat → Int32} : f_X1_rooms wb we wc rm = 
  (f_X1_findRooms wb we wc rm).bind fun r1 =>
  (f_X1_roomCount wc r1).bind fun r2 =>
  some (r2, r1) := rfl
set_option maxHeartbeats 4000000 in
set_option maxRecDepth 100000 in
theorem c_X1_rooms (l : Launch) (dC : Nat → ClassId) (dI : Nat → Nat → Nat) (cB cI cJ cZ : ClassId) (a : Nat → Nat) (sz : Nat) (ce : Nat → Int64) (fr : Int64) (un : Int64) (sb : Nat → Int64) (se : Nat → Int64) (so : Nat → Int32) (sc : Int32) (wb : Nat → Int64) (we : Nat → Int64) (wo : Nat → Int32) (wc : Int32) (fb : Nat → Int64) (fe : Nat → Int64) (fo : Nat → Int32) (fc : Int32) (rm : Nat → Int32) (ac : Int32) (rf : Int32) (kn : Int32) (res : (Int32) × (Nat → Int32)) (hf : f_X1_rooms wb we wc rm = some res) : kMi l yX1_rooms wsX1_rooms (kRm 4 0 0 86) dC dI cB cI cJ cZ [.ref (a 0)] sz (wSB cI cJ cZ a ce fr un sb se so sc wb we wo wc fb fe fo fc rm ac rf kn) .int (res.1) (wSB cI cJ cZ a ce fr un sb se so sc wb we wo wc fb fe fo fc (res.2) ac rf kn) 0 0 := by
  refine kmet_i (y := yX1_rooms) (cc := cX1_rooms) (maxL := 1) (ret := (some .int)) RX1 (kvA 0 (a 0) kvE) kpl_X1 rfl rfl (Nat.le_of_ble_eq_true rfl) rfl (fun p e s m below meth c A ls hx hb hr hml hts hown hlocks hP hK hG hD hA hS hl => ?_)
  have h := f_X1_rooms_e.symm.trans hf
  refine lv_aload_n hx hb (kdr dgX1_rooms_0 0 0 rfl rfl) rfl (lv_at hl 0 rfl) ?_
  obtain ⟨r1, g1, h⟩ := g_b h
  refine kq_v (wSB cI cJ cZ a ce fr un sb se so sc wb we wo wc fb fe fo fc r1 ac rf kn) (fun qP qD qF => va_runV (As := []) (rest := []) ⟨hx, hb, hml, hown, hts⟩ (c_X1_findRooms l dC dI cB cI cJ cZ a _ ce fr un sb se so sc wb we wo wc fb fe fo fc rm ac rf kn  r1 g1) (kcwV hts kw_243 kv_X1_findRooms rfl rfl ⟨(Nat.le_of_ble_eq_true rfl), (Nat.le_of_ble_eq_true rfl)⟩) (kpV (A := A) qP hK qD hG (krecv_3 (q0 := 0) hK hP rfl)) rfl rfl hl.1 rfl (lv_room (Nat.le_of_ble_eq_true rfl)) (kdr dgX1_rooms_0 0 1 rfl rfl) ⟨(Nat.le_of_ble_eq_true rfl), (Nat.le_of_ble_eq_true rfl)⟩) hP hD hS hA kFr_SB (fun H locs hP hD hS => ?_)
  refine lv_aload_n hx hb (kdr dgX1_rooms_0 0 2 rfl rfl) rfl (lv_at hl 0 rfl) ?_
  obtain ⟨r2, g2, h⟩ := g_b h
  refine kq_i (wSB cI cJ cZ a ce fr un sb se so sc wb we wo wc fb fe fo fc r1 ac rf kn) (fun qP qD qF => va_runV (As := []) (rest := []) ⟨hx, hb, hml, hown, hts⟩ (c_X1_roomCount l dC dI cB cI cJ cZ a _ ce fr un sb se so sc wb we wo wc fb fe fo fc r1 ac rf kn  r2 g2) (kcwV hts kw_259 kv_X1_roomCount rfl rfl ⟨(Nat.le_of_ble_eq_true rfl), (Nat.le_of_ble_eq_true rfl)⟩) (kpV (A := A) qP hK qD hG (krecv_3 (q0 := 0) hK hP rfl)) rfl rfl hl.1 rfl (lv_room (Nat.le_of_ble_eq_true rfl)) (kdr dgX1_rooms_0 0 3 rfl rfl) ⟨(Nat.le_of_ble_eq_true rfl), (Nat.le_of_ble_eq_true rfl)⟩) hP hD hS hA kFr_SB (fun H locs hP hD hS br2 => ?_)
  have h := Option.some.inj h
  subst h
  exact kret_i (v := r2) hx hb hr rfl hlocks hS hP (kdr dgX1_rooms_0 0 4 rfl rfl)
noncomputable abbrev wsX1_house : List Cond := kWs yX1_house cX1_house 2 (some .int)
noncomputable def f_X1_house (ac : Int32) (rf : Int32) (kn : Int32) (p0 : Int32) : Option (Int32) :=
  (f_X1_isWithin p0 0 2).bind fun r1 =>
  (f_X1_needThat r1).bind fun r2 =>
  if p0 = 0 then
    some ac
  else
    if p0 = 1 then
      some rf
    else
      some kn
theorem f_X1_house_e {ac : Int32} {rf : Int32} {kn : Int32} {p0 : Int32} : f_X1_house ac rf kn p0 = 
  (f_X1_isWithin p0 0 2).bind fun r1 =>
  (f_X1_needThat r1).bind fun r2 =>
  if p0 = 0 then
    some ac
  else
    if p0 = 1 then
      some rf
    else
      some kn := rfl
set_option maxHeartbeats 4000000 in
set_option maxRecDepth 100000 in
theorem c_X1_house (l : Launch) (dC : Nat → ClassId) (dI : Nat → Nat → Nat) (cB cI cJ cZ : ClassId) (a : Nat → Nat) (sz : Nat) (ce : Nat → Int64) (fr : Int64) (un : Int64) (sb : Nat → Int64) (se : Nat → Int64) (so : Nat → Int32) (sc : Int32) (wb : Nat → Int64) (we : Nat → Int64) (wo : Nat → Int32) (wc : Int32) (fb : Nat → Int64) (fe : Nat → Int64) (fo : Nat → Int32) (fc : Int32) (rm : Nat → Int32) (ac : Int32) (rf : Int32) (kn : Int32) (p0 : Int32) (res : Int32) (hf : f_X1_house ac rf kn p0 = some res) : kMi l yX1_house wsX1_house (kRm 1 0 0 22) dC dI cB cI cJ cZ [.ref (a 0), .int p0] sz (wSB cI cJ cZ a ce fr un sb se so sc wb we wo wc fb fe fo fc rm ac rf kn) .int (res) (wSB cI cJ cZ a ce fr un sb se so sc wb we wo wc fb fe fo fc rm ac rf kn) 0 0 := by
  refine kmet_i (y := yX1_house) (cc := cX1_house) (maxL := 2) (ret := (some .int)) RX1 (kvA 0 (a 0) (kvI 1 p0 kvE)) kpl_X1 rfl rfl (Nat.le_of_ble_eq_true rfl) rfl (fun p e s m below meth c A ls hx hb hr hml hts hown hlocks hP hK hG hD hA hS hl => ?_)
  have hw0 := hts (.fieldLink RX1 231 "Spanbooker" "knocks" "I") (List.mem_cons_of_mem _ kw_116)
  have hw1 := hts (.fieldLink RX1 228 "Spanbooker" "refusals" "I") (List.mem_cons_of_mem _ kw_115)
  have hw2 := hts (.fieldLink RX1 224 "Spanbooker" "acts" "I") (List.mem_cons_of_mem _ kw_114)
  have hiX1 : ∀ w ∈ u_ws RX1 TX1 10, w ∈ wsX1_house := fun w h => List.mem_cons_of_mem _ (ku_X1 w h)
  have h := f_X1_house_e.symm.trans hf
  refine lv_iload_n hx hb (kdr dgX1_house_0 0 0 rfl rfl) rfl (lv_at hl 1 rfl) ?_
  refine lv_iconst (v := 0) hx hb (kdr dgX1_house_0 0 1 rfl rfl) (by decide) ?_
  refine lv_iconst (v := 2) hx hb (kdr dgX1_house_0 0 2 rfl rfl) (by decide) ?_
  obtain ⟨r1, g1, h⟩ := g_b h
  refine kq_i (wSB cI cJ cZ a ce fr un sb se so sc wb we wo wc fb fe fo fc rm ac rf kn) (fun qP qD qF => va_runS (As := [.int p0, .int 0, .int 2]) (rest := []) ⟨hx, hb, hml, hown, hts⟩ (c_X1_isWithin l dC dI cB cI cJ cZ  _  p0 0 2 r1 g1) (kcwS hts kw_354 kv_X1_isWithin rfl rfl ⟨(Nat.le_of_ble_eq_true rfl), (Nat.le_of_ble_eq_true rfl)⟩) (kpS (A := A) (kPnil) hK ((kDnil (A := A))) hG) rfl rfl hl.1 rfl (lv_room (Nat.le_of_ble_eq_true rfl)) (kdr dgX1_house_0 0 3 rfl rfl) ⟨(Nat.le_of_ble_eq_true rfl), (Nat.le_of_ble_eq_true rfl)⟩) hP hD hS hA kFr_n (fun H locs hP hD hS br1 => ?_)
  obtain ⟨r2, g2, h⟩ := g_b h
  refine kq_v (wSB cI cJ cZ a ce fr un sb se so sc wb we wo wc fb fe fo fc rm ac rf kn) (fun qP qD qF => va_runS (As := [.int r1]) (rest := []) ⟨hx, hb, hml, hown, hts⟩ (c_X1_needThat l dC dI cB cI cJ cZ  _  r1 r2 g2) (kcwS hts kw_357 kv_X1_needThat rfl rfl ⟨(Nat.le_of_ble_eq_true rfl), (Nat.le_of_ble_eq_true rfl)⟩) (kpS (A := A) (kPnil) hK ((kDnil (A := A))) hG) rfl rfl hl.1 rfl (lv_room (Nat.le_of_ble_eq_true rfl)) (kdr dgX1_house_0 0 4 rfl rfl) ⟨(Nat.le_of_ble_eq_true rfl), (Nat.le_of_ble_eq_true rfl)⟩) hP hD hS hA kFr_n (fun H locs hP hD hS => ?_)
  refine lv_iload_n hx hb (kdr dgX1_house_0 0 5 rfl rfl) rfl (lv_at hl 1 rfl) ?_
  refine lv_if_ne (tgt := 18) hx hb (kdr dgX1_house_0 0 6 rfl rfl) (by decide) (fun c3 => ?_) (fun c3 => ?_)
  · have h := g_f c3 h
    refine lv_iload_n hx hb (kdr dgX1_house_0 1 0 rfl rfl) rfl (lv_at hl 1 rfl) ?_
    refine lv_iconst (v := 1) hx hb (kdr dgX1_house_0 1 1 rfl rfl) (by decide) ?_
    refine lv_icmp_ne (tgt := 30) hx hb (kdr dgX1_house_0 1 2 rfl rfl) (by decide) (fun c4 => ?_) (fun c4 => ?_)
    · have h := g_f c4 h
      refine lv_aload_n hx hb (kdr dgX1_house_0 1 6 rfl rfl) rfl (lv_at hl 0 rfl) ?_
      refine va_get (D := (dC, dI)) (ci := 3) (v := .int kn) (C := RX1) (T := TX1) (N := 10) hx hb hts hiX1 hown hK hP 0 rfl rfl 9 (by decide) hw0 (fun _ h9 => h9) rfl (kdr dgX1_house_0 1 7 rfl rfl) ?_
      have h := Option.some.inj h
      subst h
      exact kret_i (v := kn) hx hb hr rfl hlocks hS hP (kdr dgX1_house_0 1 8 rfl rfl)
    · have h := g_t c4 h
      refine lv_aload_n hx hb (kdr dgX1_house_0 1 3 rfl rfl) rfl (lv_at hl 0 rfl) ?_
      refine va_get (D := (dC, dI)) (ci := 3) (v := .int rf) (C := RX1) (T := TX1) (N := 10) hx hb hts hiX1 hown hK hP 0 rfl rfl 8 (by decide) hw1 (fun _ h9 => h9) rfl (kdr dgX1_house_0 1 4 rfl rfl) ?_
      refine lv_goto (tgt := 34) hx hb (kdr dgX1_house_0 1 5 rfl rfl) (by decide) ?_
      have h := Option.some.inj h
      subst h
      exact kret_i (v := rf) hx hb hr rfl hlocks hS hP (kdr dgX1_house_0 1 8 rfl rfl)
  · have h := g_t c3 h
    refine lv_aload_n hx hb (kdr dgX1_house_0 0 7 rfl rfl) rfl (lv_at hl 0 rfl) ?_
    refine va_get (D := (dC, dI)) (ci := 3) (v := .int ac) (C := RX1) (T := TX1) (N := 10) hx hb hts hiX1 hown hK hP 0 rfl rfl 7 (by decide) hw2 (fun _ h9 => h9) rfl (kdr dgX1_house_0 0 8 rfl rfl) ?_
    have h := Option.some.inj h
    subst h
    exact kret_i (v := ac) hx hb hr rfl hlocks hS hP (kdr dgX1_house_0 0 9 rfl rfl)
noncomputable def fx_X1_house (p0 : Int32) : Option (Nat) :=
  (f_X1_isWithin p0 0 2).bind fun r1 =>
  xb (fx_X1_needThat r1) (fun k2 => some k2) (
  none)
theorem fx_X1_house_e {p0 : Int32} : fx_X1_house p0 = 
  (f_X1_isWithin p0 0 2).bind fun r1 =>
  xb (fx_X1_needThat r1) (fun k2 => some k2) (
  none) := rfl
set_option maxHeartbeats 4000000 in
set_option maxRecDepth 100000 in
theorem x_X1_house (l : Launch) (hl9 : l.stackTraces = false) (dC : Nat → ClassId) (dI : Nat → Nat → Nat) (cB cI cJ cZ : ClassId) (a : Nat → Nat) (sz : Nat) (ce : Nat → Int64) (fr : Int64) (un : Int64) (sb : Nat → Int64) (se : Nat → Int64) (so : Nat → Int32) (sc : Int32) (wb : Nat → Int64) (we : Nat → Int64) (wo : Nat → Int32) (wc : Int32) (fb : Nat → Int64) (fe : Nat → Int64) (fo : Nat → Int32) (fc : Int32) (rm : Nat → Int32) (ac : Int32) (rf : Int32) (kn : Int32) (p0 : Int32) (res : Nat) (hf : fx_X1_house p0 = some res) : kMX l yX1_house wsX1_house (kRm 7 1 6 110) dC dI cB cI cJ cZ [.ref (a 0), .int p0] sz (wSB cI cJ cZ a ce fr un sb se so sc wb we wo wc fb fe fo fc rm ac rf kn) (res) (wSB cI cJ cZ a ce fr un sb se so sc wb we wo wc fb fe fo fc rm ac rf kn) 1 6 := by
  refine kmet_x (y := yX1_house) (cc := cX1_house) (maxL := 2) (ret := (some .int)) RX1 (kvA 0 (a 0) (kvI 1 p0 kvE)) kpl_X1 rfl rfl (Nat.le_of_ble_eq_true rfl) rfl (fun p e s m below meth c A ls hx hb hr hml ht hts hown hlocks hP hK hG hZ hD hA hS hl => ?_)
  have h := fx_X1_house_e.symm.trans hf
  refine lv_iload_n hx hb (kdr dgX1_house_0 0 0 rfl rfl) rfl (lv_at hl 1 rfl) ?_
  refine lv_iconst (v := 0) hx hb (kdr dgX1_house_0 0 1 rfl rfl) (by decide) ?_
  refine lv_iconst (v := 2) hx hb (kdr dgX1_house_0 0 2 rfl rfl) (by decide) ?_
  obtain ⟨r1, g1, h⟩ := g_b h
  refine kq_i (wSB cI cJ cZ a ce fr un sb se so sc wb we wo wc fb fe fo fc rm ac rf kn) (fun qP qD qF => va_runS (As := [.int p0, .int 0, .int 2]) (rest := []) ⟨hx, hb, hml, hown, hts⟩ (c_X1_isWithin l dC dI cB cI cJ cZ  _  p0 0 2 r1 g1) (kcwS hts kw_354 kv_X1_isWithin rfl rfl ⟨(Nat.le_of_ble_eq_true rfl), (Nat.le_of_ble_eq_true rfl)⟩) (kpS (A := A) (kPnil) hK ((kDnil (A := A))) hG) rfl rfl hl.1 rfl (lv_room (Nat.le_of_ble_eq_true rfl)) (kdr dgX1_house_0 0 3 rfl rfl) ⟨(Nat.le_of_ble_eq_true rfl), (Nat.le_of_ble_eq_true rfl)⟩) hP hD hS hA kFr_n (fun H locs hP hD hS br1 => ?_)
  rcases g_x h with ⟨k2, j2, h⟩ | ⟨-, h⟩
  · have h := Option.some.inj h
    subst h
    exact kq_x (wSB cI cJ cZ a ce fr un sb se so sc wb we wo wc fb fe fo fc rm ac rf kn) (fun qP qD qF => vx_runS (As := [.int r1]) (rest := []) ⟨hx, hb, hml, hown, hts⟩ (x_X1_needThat l hl9 dC dI cB cI cJ cZ  _  r1 k2 j2) (kcwS hts kw_357 kv_X1_needThat rfl rfl ⟨(Nat.le_of_ble_eq_true rfl), (Nat.le_of_ble_eq_true rfl)⟩) (kpSXq (A := A) (kPnil) hK ((kDnil (A := A))) hG hZ hS qF) rfl rfl hl.1 rfl (lv_room (Nat.le_of_ble_eq_true rfl)) (kdr dgX1_house_0 0 4 rfl rfl) ⟨(Nat.le_of_ble_eq_true rfl), (Nat.le_of_ble_eq_true rfl)⟩) hP hD hS hA kFr_n ht hlocks (Nat.le_of_ble_eq_true rfl) (Nat.le_of_ble_eq_true rfl)
  · cases h
noncomputable abbrev wsX1_knock : List Cond := kWs yX1_knock cX1_knock 1 (some .int)
noncomputable def f_X1_knock (kn : Int32) : Option ((Int32) × (Int32)) :=
  some (kn + 1, kn + 1)
theorem f_X1_knock_e {kn : Int32} : f_X1_knock kn = 
  some (kn + 1, kn + 1) := rfl
set_option maxHeartbeats 4000000 in
set_option maxRecDepth 100000 in
theorem c_X1_knock (l : Launch) (dC : Nat → ClassId) (dI : Nat → Nat → Nat) (cB cI cJ cZ : ClassId) (a : Nat → Nat) (sz : Nat) (ce : Nat → Int64) (fr : Int64) (un : Int64) (sb : Nat → Int64) (se : Nat → Int64) (so : Nat → Int32) (sc : Int32) (wb : Nat → Int64) (we : Nat → Int64) (wo : Nat → Int32) (wc : Int32) (fb : Nat → Int64) (fe : Nat → Int64) (fo : Nat → Int32) (fc : Int32) (rm : Nat → Int32) (ac : Int32) (rf : Int32) (kn : Int32) (res : (Int32) × (Int32)) (hf : f_X1_knock kn = some res) : kMi l yX1_knock wsX1_knock (kRm 0 0 0 0) dC dI cB cI cJ cZ [.ref (a 0)] sz (wSB cI cJ cZ a ce fr un sb se so sc wb we wo wc fb fe fo fc rm ac rf kn) .int (res.1) (wSB cI cJ cZ a ce fr un sb se so sc wb we wo wc fb fe fo fc rm ac rf (res.2)) 0 0 := by
  refine kmet_i (y := yX1_knock) (cc := cX1_knock) (maxL := 1) (ret := (some .int)) RX1 (kvA 0 (a 0) kvE) kpl_X1 rfl rfl (Nat.le_of_ble_eq_true rfl) rfl (fun p e s m below meth c A ls hx hb hr hml hts hown hlocks hP hK hG hD hA hS hl => ?_)
  have hw0 := hts (.fieldLink RX1 231 "Spanbooker" "knocks" "I") (List.mem_cons_of_mem _ kw_116)
  have hiX1 : ∀ w ∈ u_ws RX1 TX1 10, w ∈ wsX1_knock := fun w h => List.mem_cons_of_mem _ (ku_X1 w h)
  have h := f_X1_knock_e.symm.trans hf
  refine lv_aload_n hx hb (kdr dgX1_knock_0 0 0 rfl rfl) rfl (lv_at hl 0 rfl) ?_
  refine lv_dup hx hb (kdr dgX1_knock_0 0 1 rfl rfl) rfl ?_
  refine va_get (D := (dC, dI)) (ci := 3) (v := .int kn) (C := RX1) (T := TX1) (N := 10) hx hb hts hiX1 hown hK hP 0 rfl rfl 9 (by decide) hw0 (fun _ h9 => h9) rfl (kdr dgX1_knock_0 0 2 rfl rfl) ?_
  refine lv_iconst (v := 1) hx hb (kdr dgX1_knock_0 0 3 rfl rfl) (by decide) ?_
  refine lv_iadd hx hb (kdr dgX1_knock_0 0 4 rfl rfl) ?_
  refine va_put (D := (dC, dI)) (ci := 3) (v := .int (kn + 1)) (ty := .int) (C := RX1) (T := TX1) (N := 10) hx hb hts hiX1 tyX1 tyX1_ok nmX1 hown hK hP hD hS 0 rfl rfl 9 (by decide) hw0 (fun _ h9 => h9) rfl (by decide +kernel) rfl rfl (Nat.le_of_ble_eq_true rfl) (kdr dgX1_knock_0 0 5 rfl rfl) (fun H locs hP hD hS => ?_)
  have hP : va_P (dC, dI) vwCl (wSB cI cJ cZ a ce fr un sb se so sc wb we wo wc fb fe fo fc rm ac rf (kn + 1)) H := hP
  have hD : va_D A (wSB cI cJ cZ a ce fr un sb se so sc wb we wo wc fb fe fo fc rm ac rf (kn + 1)) := hD
  refine lv_aload_n hx hb (kdr dgX1_knock_0 0 6 rfl rfl) rfl (lv_at hl 0 rfl) ?_
  refine va_get (D := (dC, dI)) (ci := 3) (v := .int (kn + 1)) (C := RX1) (T := TX1) (N := 10) hx hb hts hiX1 hown hK hP 0 rfl rfl 9 (by decide) hw0 (fun _ h9 => h9) rfl (kdr dgX1_knock_0 0 7 rfl rfl) ?_
  have h := Option.some.inj h
  subst h
  exact kret_i (v := kn + 1) hx hb hr rfl hlocks hS hP (kdr dgX1_knock_0 0 8 rfl rfl)
end
-- 11.late.lean.txt
section
noncomputable abbrev wsX1_isSoundInSpans : List Cond := kWs yX1_isSoundInSpans cX1_isSoundInSpans 3 (some .boolean)
noncomputable def f_X1_isSoundInSpans_40 (K2 : (Int64) → (Int64) → (Nat → Int64) → (Nat → Int64) → (Nat → Int32) → (Int32) → (Int32) → Option (Int32)) : Nat → (Int64) → (Int64) → (Nat → Int64) → (Nat → Int64) → (Nat → Int32) → (Int32) → (Int32) → (Int32) → Option (Int32)
  | 0, _, _, _, _, _, _, _, _ => none
  | n + 1, fr, un, sb, se, so, sc, x1, x2 =>
    if x1 ≤ x2 then
      K2 fr un sb se so sc (x1 + 1)
    else
      (f_X0_doMeet sb se sc x1 x2).bind fun r2 =>
      if r2 = 0 then
        f_X1_isSoundInSpans_40 K2 n fr un sb se so sc x1 (x2 + 1)
      else
        (f_X0_isOver so sc x1).bind fun r4 =>
        if r4 = 0 then
          (f_X0_isOver so sc x2).bind fun r6 =>
          if r6 = 0 then
            some 0
          else
            f_X1_isSoundInSpans_40 K2 n fr un sb se so sc x1 (x2 + 1)
        else
          f_X1_isSoundInSpans_40 K2 n fr un sb se so sc x1 (x2 + 1)
theorem f_X1_isSoundInSpans_40_0 {K2 : (Int64) → (Int64) → (Nat → Int64) → (Nat → Int64) → (Nat → Int32) → (Int32) → (Int32) → Option (Int32)} {fr : Int64} {un : Int64} {sb : Nat → Int64} {se : Nat → Int64} {so : Nat → Int32} {sc : Int32} {x1 : Int32} {x2 : Int32} : f_X1_isSoundInSpans_40 K2 0 fr un sb se so sc x1 x2 = none := rfl
theorem f_X1_isSoundInSpans_40_s {K2 : (Int64) → (Int64) → (Nat → Int64) → (Nat → Int64) → (Nat → Int32) → (Int32) → (Int32) → Option (Int32)} {n : Nat} {fr : Int64} {un : Int64} {sb : Nat → Int64} {se : Nat → Int64} {so : Nat → Int32} {sc : Int32} {x1 : Int32} {x2 : Int32} : f_X1_isSoundInSpans_40 K2 (n + 1) fr un sb se so sc x1 x2 =
  if x1 ≤ x2 then
    K2 fr un sb se so sc (x1 + 1)
  else
    (f_X0_doMeet sb se sc x1 x2).bind fun r2 =>
    if r2 = 0 then
      f_X1_isSoundInSpans_40 K2 n fr un sb se so sc x1 (x2 + 1)
    else
      (f_X0_isOver so sc x1).bind fun r4 =>
      if r4 = 0 then
        (f_X0_isOver so sc x2).bind fun r6 =>
        if r6 = 0 then
          some 0
        else
          f_X1_isSoundInSpans_40 K2 n fr un sb se so sc x1 (x2 + 1)
      else
        f_X1_isSoundInSpans_40 K2 n fr un sb se so sc x1 (x2 + 1) := rfl
noncomputable def f_X1_isSoundInSpans_2 : Nat → (Int64) → (Int64) → (Nat → Int64) → (Nat → Int64) → (Nat → Int32) → (Int32) → (Int32) → Option (Int32)
  | 0, _, _, _, _, _, _, _ => none
  | n + 1, fr, un, sb, se, so, sc, x1 =>
    (f_X0_count sc).bind fun r1 =>
    if r1 ≤ x1 then
      some 1
    else
      (f_X0_begin sb sc x1).bind fun r3 =>
      (f_X0_end se sc x1).bind fun r4 =>
      (f_X1_isInCalendar fr un r3 r4).bind fun r5 =>
      if r5 = 0 then
        some 0
      else
        f_X1_isSoundInSpans_40 (f_X1_isSoundInSpans_2 n) 24 fr un sb se so sc x1 0
theorem f_X1_isSoundInSpans_2_0 {fr : Int64} {un : Int64} {sb : Nat → Int64} {se : Nat → Int64} {so : Nat → Int32} {sc : Int32} {x1 : Int32} : f_X1_isSoundInSpans_2 0 fr un sb se so sc x1 = none := rfl
theorem f_X1_isSoundInSpans_2_s {n : Nat} {fr : Int64} {un : Int64} {sb : Nat → Int64} {se : Nat → Int64} {so : Nat → Int32} {sc : Int32} {x1 : Int32} : f_X1_isSoundInSpans_2 (n + 1) fr un sb se so sc x1 =
  (f_X0_count sc).bind fun r1 =>
  if r1 ≤ x1 then
    some 1
  else
    (f_X0_begin sb sc x1).bind fun r3 =>
    (f_X0_end se sc x1).bind fun r4 =>
    (f_X1_isInCalendar fr un r3 r4).bind fun r5 =>
    if r5 = 0 then
      some 0
    else
      f_X1_isSoundInSpans_40 (f_X1_isSoundInSpans_2 n) 24 fr un sb se so sc x1 0 := rfl
noncomputable def f_X1_isSoundInSpans (fr : Int64) (un : Int64) (sb : Nat → Int64) (se : Nat → Int64) (so : Nat → Int32) (sc : Int32) : Option (Int32) :=
  f_X1_isSoundInSpans_2 24 fr un sb se so sc 0
theorem f_X1_isSoundInSpans_e {fr : Int64} {un : Int64} {sb : Nat → Int64} {se : Nat → Int64} {so : Nat → Int32} {sc : Int32} : f_X1_isSoundInSpans fr un sb se so sc = 
  f_X1_isSoundInSpans_2 24 fr un sb se so sc 0 := rfl
set_option maxHeartbeats 4000000 in
set_option maxRecDepth 100000 in
theorem c_X1_isSoundInSpans (l : Launch) (dC : Nat → ClassId) (dI : Nat → Nat → Nat) (cB cI cJ cZ : ClassId) (a : Nat → Nat) (sz : Nat) (ce : Nat → Int64) (fr : Int64) (un : Int64) (sb : Nat → Int64) (se : Nat → Int64) (so : Nat → Int32) (sc : Int32) (wb : Nat → Int64) (we : Nat → Int64) (wo : Nat → Int32) (wc : Int32) (fb : Nat → Int64) (fe : Nat → Int64) (fo : Nat → Int32) (fc : Int32) (rm : Nat → Int32) (ac : Int32) (rf : Int32) (kn : Int32) (res : Int32) (hf : f_X1_isSoundInSpans fr un sb se so sc = some res) : kMi l yX1_isSoundInSpans wsX1_isSoundInSpans (kRm 2 0 0 42) dC dI cB cI cJ cZ [.ref (a 0)] sz (wSB cI cJ cZ a ce fr un sb se so sc wb we wo wc fb fe fo fc rm ac rf kn) .boolean (res) (wSB cI cJ cZ a ce fr un sb se so sc wb we wo wc fb fe fo fc rm ac rf kn) 0 0 := by
  refine kmet_i (y := yX1_isSoundInSpans) (cc := cX1_isSoundInSpans) (maxL := 3) (ret := (some .boolean)) RX1 (kvA 0 (a 0) kvE) kpl_X1 rfl rfl (Nat.le_of_ble_eq_true rfl) rfl (fun p e s m below meth c A ls hx hb hr hml hts hown hlocks hP hK hG hD hA hS hl => ?_)
  have hw0 := hts (.fieldLink RX1 25 "Spanbooker" "spanRow" "LSpanbooker$Row;") (List.mem_cons_of_mem _ kw_110)
  have hiX1 : ∀ w ∈ u_ws RX1 TX1 10, w ∈ wsX1_isSoundInSpans := fun w h => List.mem_cons_of_mem _ (ku_X1 w h)
  have J40 : ∀ (K2 : (Int64) → (Int64) → (Nat → Int64) → (Nat → Int64) → (Nat → Int32) → (Int32) → (Int32) → Option (Int32)), (∀ (ce : Nat → Int64) (fr : Int64) (un : Int64) (sb : Nat → Int64) (se : Nat → Int64) (so : Nat → Int32) (sc : Int32) (wb : Nat → Int64) (we : Nat → Int64) (wo : Nat → Int32) (wc : Int32) (fb : Nat → Int64) (fe : Nat → Int64) (fo : Nat → Int32) (fc : Int32) (rm : Nat → Int32) (ac : Int32) (rf : Int32) (kn : Int32) (x1 : Int32) (H : Heap) (locs : List Loc), va_P (dC, dI) vwCl (wSB cI cJ cZ a ce fr un sb se so sc wb we wo wc fb fe fo fc rm ac rf kn) H → va_D A (wSB cI cJ cZ a ce fr un sb se so sc wb we wo wc fb fe fo fc rm ac rf kn) → va_S A s.heap H locs → ∀ (ls : Array Slot), lv_has ls 3 (kvA 0 (a 0) (kvI 1 x1 kvE)) → K2 fr un sb se so sc x1 = some res → W p l e (headSpec wsX1_isSoundInSpans (kRm 2 0 0 42)).room s m ([.ref (a 0)] : List Value).toArray below meth c H locs 0 0 (MQ below (kI (dC, dI) .boolean (res) (wSB cI cJ cZ a ce fr un sb se so sc wb we wo wc fb fe fo fc rm ac rf kn) A) ([.ref (a 0)] : List Value).toArray s 0 0 A) (F0 m 2 ls [])) → ∀ (n : Nat), ∀ (ce : Nat → Int64) (fr : Int64) (un : Int64) (sb : Nat → Int64) (se : Nat → Int64) (so : Nat → Int32) (sc : Int32) (wb : Nat → Int64) (we : Nat → Int64) (wo : Nat → Int32) (wc : Int32) (fb : Nat → Int64) (fe : Nat → Int64) (fo : Nat → Int32) (fc : Int32) (rm : Nat → Int32) (ac : Int32) (rf : Int32) (kn : Int32) (x1 : Int32) (x2 : Int32) (H : Heap) (locs : List Loc), va_P (dC, dI) vwCl (wSB cI cJ cZ a ce fr un sb se so sc wb we wo wc fb fe fo fc rm ac rf kn) H → va_D A (wSB cI cJ cZ a ce fr un sb se so sc wb we wo wc fb fe fo fc rm ac rf kn) → va_S A s.heap H locs → ∀ (ls : Array Slot), lv_has ls 3 (kvA 0 (a 0) (kvI 1 x1 (kvI 2 x2 kvE))) → f_X1_isSoundInSpans_40 K2 n fr un sb se so sc x1 x2 = some res → W p l e (headSpec wsX1_isSoundInSpans (kRm 2 0 0 42)).room s m ([.ref (a 0)] : List Value).toArray below meth c H locs 0 0 (MQ below (kI (dC, dI) .boolean (res) (wSB cI cJ cZ a ce fr un sb se so sc wb we wo wc fb fe fo fc rm ac rf kn) A) ([.ref (a 0)] : List Value).toArray s 0 0 A) (F0 m 40 ls []) := by
    intro K2 hK2 n
    induction n with
    | zero =>
      intro ce fr un sb se so sc wb we wo wc fb fe fo fc rm ac rf kn x1 x2 H locs hP hD hS ls hl h
      have h := f_X1_isSoundInSpans_40_0.symm.trans h
      cases h
    | succ n ih =>
      intro ce fr un sb se so sc wb we wo wc fb fe fo fc rm ac rf kn x1 x2 H locs hP hD hS ls hl h
      have h := f_X1_isSoundInSpans_40_s.symm.trans h
      refine lv_iload_n hx hb (kdr dgX1_isSoundInSpans_0 2 2 rfl rfl) rfl (lv_at hl 2 rfl) ?_
      refine lv_iload_n hx hb (kdr dgX1_isSoundInSpans_0 2 3 rfl rfl) rfl (lv_at hl 1 rfl) ?_
      refine lv_icmp_ge (tgt := 87) hx hb (kdr dgX1_isSoundInSpans_0 2 4 rfl rfl) (by decide) (fun c1 => ?_) (fun c1 => ?_)
      · have h := g_t c1 h
        refine lv_iinc (v := x1 + 1) (lv' := (kvI 1 (x1 + 1) (kvA 0 (a 0) (kvI 2 x2 kvE)))) hx hb (kdr dgX1_isSoundInSpans_0 4 5 rfl rfl) hl (k := 1) rfl rfl (by decide) rfl (fun ls hl => ?_)
        refine lv_goto (tgt := 2) hx hb (kdr dgX1_isSoundInSpans_0 4 6 rfl rfl) (by decide) ?_
        exact hK2 ce fr un sb se so sc wb we wo wc fb fe fo fc rm ac rf kn (x1 + 1) _ _ hP hD hS ls (lv_sub hl [1, 0] rfl) h
      · have h := g_f c1 h
        refine lv_aload_n hx hb (kdr dgX1_isSoundInSpans_0 2 5 rfl rfl) rfl (lv_at hl 0 rfl) ?_
        refine va_get (D := (dC, dI)) (ci := 3) (v := .ref (a 2)) (C := RX1) (T := TX1) (N := 10) hx hb hts hiX1 hown hK hP 0 rfl rfl 3 (by decide) hw0 (fun _ h9 => h9) rfl (kdr dgX1_isSoundInSpans_0 2 6 rfl rfl) ?_
        refine lv_iload_n hx hb (kdr dgX1_isSoundInSpans_0 2 7 rfl rfl) rfl (lv_at hl 1 rfl) ?_
        refine lv_iload_n hx hb (kdr dgX1_isSoundInSpans_0 2 8 rfl rfl) rfl (lv_at hl 2 rfl) ?_
        obtain ⟨r2, g2, h⟩ := g_b h
        refine kq_i (wSB cI cJ cZ a ce fr un sb se so sc wb we wo wc fb fe fo fc rm ac rf kn) (fun qP qD qF => va_runV (As := [.int x1, .int x2]) (rest := []) ⟨hx, hb, hml, hown, hts⟩ (c_X0_doMeet l dC dI cB cI cJ cZ (a 2) (a 3) (a 4) (a 5) _ sb se so sc x1 x2 r2 g2) (kcwV hts kw_163 kv_X0_doMeet rfl rfl ⟨(Nat.le_of_ble_eq_true rfl), (Nat.le_of_ble_eq_true rfl)⟩) (kpV (A := A) qP hK qD hG (krecv_2 (q0 := 2) hK hP rfl)) rfl rfl hl.1 rfl (lv_room (Nat.le_of_ble_eq_true rfl)) (kdr dgX1_isSoundInSpans_0 2 9 rfl rfl) ⟨(Nat.le_of_ble_eq_true rfl), (Nat.le_of_ble_eq_true rfl)⟩) hP hD hS hA kFr_SBs (fun H locs hP hD hS br2 => ?_)
        refine lv_if_eq (tgt := 81) hx hb (kdr dgX1_isSoundInSpans_0 3 0 rfl rfl) (by decide) (fun c3 => ?_) (fun c3 => ?_)
        · have h := g_t c3 h
          refine lv_iinc (v := x2 + 1) (lv' := (kvI 2 (x2 + 1) (kvA 0 (a 0) (kvI 1 x1 kvE)))) hx hb (kdr dgX1_isSoundInSpans_0 4 3 rfl rfl) hl (k := 2) rfl rfl (by decide) rfl (fun ls hl => ?_)
          refine lv_goto (tgt := 40) hx hb (kdr dgX1_isSoundInSpans_0 4 4 rfl rfl) (by decide) ?_
          exact ih ce fr un sb se so sc wb we wo wc fb fe fo fc rm ac rf kn x1 (x2 + 1) _ _ hP hD hS ls (lv_sub hl [1, 2, 0] rfl) h
        · have h := g_f c3 h
          refine lv_aload_n hx hb (kdr dgX1_isSoundInSpans_0 3 1 rfl rfl) rfl (lv_at hl 0 rfl) ?_
          refine va_get (D := (dC, dI)) (ci := 3) (v := .ref (a 2)) (C := RX1) (T := TX1) (N := 10) hx hb hts hiX1 hown hK hP 0 rfl rfl 3 (by decide) hw0 (fun _ h9 => h9) rfl (kdr dgX1_isSoundInSpans_0 3 2 rfl rfl) ?_
          refine lv_iload_n hx hb (kdr dgX1_isSoundInSpans_0 3 3 rfl rfl) rfl (lv_at hl 1 rfl) ?_
          obtain ⟨r4, g4, h⟩ := g_b h
          refine kq_i (wSB cI cJ cZ a ce fr un sb se so sc wb we wo wc fb fe fo fc rm ac rf kn) (fun qP qD qF => va_runV (As := [.int x1]) (rest := []) ⟨hx, hb, hml, hown, hts⟩ (c_X0_isOver l dC dI cB cI cJ cZ (a 2) (a 3) (a 4) (a 5) _ sb se so sc x1 r4 g4) (kcwV hts kw_280 kv_X0_isOver rfl rfl ⟨(Nat.le_of_ble_eq_true rfl), (Nat.le_of_ble_eq_true rfl)⟩) (kpV (A := A) qP hK qD hG (krecv_2 (q0 := 2) hK hP rfl)) rfl rfl hl.1 rfl (lv_room (Nat.le_of_ble_eq_true rfl)) (kdr dgX1_isSoundInSpans_0 3 4 rfl rfl) ⟨(Nat.le_of_ble_eq_true rfl), (Nat.le_of_ble_eq_true rfl)⟩) hP hD hS hA kFr_SBs (fun H locs hP hD hS br4 => ?_)
          refine lv_if_ne (tgt := 81) hx hb (kdr dgX1_isSoundInSpans_0 3 5 rfl rfl) (by decide) (fun c5 => ?_) (fun c5 => ?_)
          · have h := g_f c5 h
            refine lv_iinc (v := x2 + 1) (lv' := (kvI 2 (x2 + 1) (kvA 0 (a 0) (kvI 1 x1 kvE)))) hx hb (kdr dgX1_isSoundInSpans_0 4 3 rfl rfl) hl (k := 2) rfl rfl (by decide) rfl (fun ls hl => ?_)
            refine lv_goto (tgt := 40) hx hb (kdr dgX1_isSoundInSpans_0 4 4 rfl rfl) (by decide) ?_
            exact ih ce fr un sb se so sc wb we wo wc fb fe fo fc rm ac rf kn x1 (x2 + 1) _ _ hP hD hS ls (lv_sub hl [1, 2, 0] rfl) h
          · have h := g_t c5 h
            refine lv_aload_n hx hb (kdr dgX1_isSoundInSpans_0 3 6 rfl rfl) rfl (lv_at hl 0 rfl) ?_
            refine va_get (D := (dC, dI)) (ci := 3) (v := .ref (a 2)) (C := RX1) (T := TX1) (N := 10) hx hb hts hiX1 hown hK hP 0 rfl rfl 3 (by decide) hw0 (fun _ h9 => h9) rfl (kdr dgX1_isSoundInSpans_0 3 7 rfl rfl) ?_
            refine lv_iload_n hx hb (kdr dgX1_isSoundInSpans_0 3 8 rfl rfl) rfl (lv_at hl 2 rfl) ?_
            obtain ⟨r6, g6, h⟩ := g_b h
            refine kq_i (wSB cI cJ cZ a ce fr un sb se so sc wb we wo wc fb fe fo fc rm ac rf kn) (fun qP qD qF => va_runV (As := [.int x2]) (rest := []) ⟨hx, hb, hml, hown, hts⟩ (c_X0_isOver l dC dI cB cI cJ cZ (a 2) (a 3) (a 4) (a 5) _ sb se so sc x2 r6 g6) (kcwV hts kw_280 kv_X0_isOver rfl rfl ⟨(Nat.le_of_ble_eq_true rfl), (Nat.le_of_ble_eq_true rfl)⟩) (kpV (A := A) qP hK qD hG (krecv_2 (q0 := 2) hK hP rfl)) rfl rfl hl.1 rfl (lv_room (Nat.le_of_ble_eq_true rfl)) (kdr dgX1_isSoundInSpans_0 3 9 rfl rfl) ⟨(Nat.le_of_ble_eq_true rfl), (Nat.le_of_ble_eq_true rfl)⟩) hP hD hS hA kFr_SBs (fun H locs hP hD hS br6 => ?_)
            refine lv_if_ne (tgt := 81) hx hb (kdr dgX1_isSoundInSpans_0 4 0 rfl rfl) (by decide) (fun c7 => ?_) (fun c7 => ?_)
            · have h := g_f c7 h
              refine lv_iinc (v := x2 + 1) (lv' := (kvI 2 (x2 + 1) (kvA 0 (a 0) (kvI 1 x1 kvE)))) hx hb (kdr dgX1_isSoundInSpans_0 4 3 rfl rfl) hl (k := 2) rfl rfl (by decide) rfl (fun ls hl => ?_)
              refine lv_goto (tgt := 40) hx hb (kdr dgX1_isSoundInSpans_0 4 4 rfl rfl) (by decide) ?_
              exact ih ce fr un sb se so sc wb we wo wc fb fe fo fc rm ac rf kn x1 (x2 + 1) _ _ hP hD hS ls (lv_sub hl [1, 2, 0] rfl) h
            · have h := g_t c7 h
              refine lv_iconst (v := 0) hx hb (kdr dgX1_isSoundInSpans_0 4 1 rfl rfl) (by decide) ?_
              have h := Option.some.inj h
              subst h
              exact kret_i (v := 0) hx hb hr rfl hlocks hS hP (kdr dgX1_isSoundInSpans_0 4 2 rfl rfl)
  have J2 : ∀ (n : Nat), ∀ (ce : Nat → Int64) (fr : Int64) (un : Int64) (sb : Nat → Int64) (se : Nat → Int64) (so : Nat → Int32) (sc : Int32) (wb : Nat → Int64) (we : Nat → Int64) (wo : Nat → Int32) (wc : Int32) (fb : Nat → Int64) (fe : Nat → Int64) (fo : Nat → Int32) (fc : Int32) (rm : Nat → Int32) (ac : Int32) (rf : Int32) (kn : Int32) (x1 : Int32) (H : Heap) (locs : List Loc), va_P (dC, dI) vwCl (wSB cI cJ cZ a ce fr un sb se so sc wb we wo wc fb fe fo fc rm ac rf kn) H → va_D A (wSB cI cJ cZ a ce fr un sb se so sc wb we wo wc fb fe fo fc rm ac rf kn) → va_S A s.heap H locs → ∀ (ls : Array Slot), lv_has ls 3 (kvA 0 (a 0) (kvI 1 x1 kvE)) → f_X1_isSoundInSpans_2 n fr un sb se so sc x1 = some res → W p l e (headSpec wsX1_isSoundInSpans (kRm 2 0 0 42)).room s m ([.ref (a 0)] : List Value).toArray below meth c H locs 0 0 (MQ below (kI (dC, dI) .boolean (res) (wSB cI cJ cZ a ce fr un sb se so sc wb we wo wc fb fe fo fc rm ac rf kn) A) ([.ref (a 0)] : List Value).toArray s 0 0 A) (F0 m 2 ls []) := by
    intro n
    induction n with
    | zero =>
      intro ce fr un sb se so sc wb we wo wc fb fe fo fc rm ac rf kn x1 H locs hP hD hS ls hl h
      have h := f_X1_isSoundInSpans_2_0.symm.trans h
      cases h
    | succ n ih =>
      intro ce fr un sb se so sc wb we wo wc fb fe fo fc rm ac rf kn x1 H locs hP hD hS ls hl h
      have h := f_X1_isSoundInSpans_2_s.symm.trans h
      refine lv_iload_n hx hb (kdr dgX1_isSoundInSpans_0 0 2 rfl rfl) rfl (lv_at hl 1 rfl) ?_
      refine lv_aload_n hx hb (kdr dgX1_isSoundInSpans_0 0 3 rfl rfl) rfl (lv_at hl 0 rfl) ?_
      refine va_get (D := (dC, dI)) (ci := 3) (v := .ref (a 2)) (C := RX1) (T := TX1) (N := 10) hx hb hts hiX1 hown hK hP 0 rfl rfl 3 (by decide) hw0 (fun _ h9 => h9) rfl (kdr dgX1_isSoundInSpans_0 0 4 rfl rfl) ?_
      obtain ⟨r1, g1, h⟩ := g_b h
      refine kq_i (wSB cI cJ cZ a ce fr un sb se so sc wb we wo wc fb fe fo fc rm ac rf kn) (fun qP qD qF => va_runV (As := []) (rest := [.int x1]) ⟨hx, hb, hml, hown, hts⟩ (c_X0_count l dC dI cB cI cJ cZ (a 2) (a 3) (a 4) (a 5) _ sb se so sc  r1 g1) (kcwV hts kw_155 kv_X0_count rfl rfl ⟨(Nat.le_of_ble_eq_true rfl), (Nat.le_of_ble_eq_true rfl)⟩) (kpV (A := A) qP hK qD hG (krecv_2 (q0 := 2) hK hP rfl)) rfl rfl hl.1 rfl (lv_room (Nat.le_of_ble_eq_true rfl)) (kdr dgX1_isSoundInSpans_0 0 5 rfl rfl) ⟨(Nat.le_of_ble_eq_true rfl), (Nat.le_of_ble_eq_true rfl)⟩) hP hD hS hA kFr_SBs (fun H locs hP hD hS br1 => ?_)
      refine lv_icmp_ge (tgt := 93) hx hb (kdr dgX1_isSoundInSpans_0 0 6 rfl rfl) (by decide) (fun c2 => ?_) (fun c2 => ?_)
      · have h := g_t c2 h
        refine lv_iconst (v := 1) hx hb (kdr dgX1_isSoundInSpans_0 4 7 rfl rfl) (by decide) ?_
        have h := Option.some.inj h
        subst h
        exact kret_i (v := 1) hx hb hr rfl hlocks hS hP (kdr dgX1_isSoundInSpans_0 4 8 rfl rfl)
      · have h := g_f c2 h
        refine lv_aload_n hx hb (kdr dgX1_isSoundInSpans_0 0 7 rfl rfl) rfl (lv_at hl 0 rfl) ?_
        refine lv_aload_n hx hb (kdr dgX1_isSoundInSpans_0 0 8 rfl rfl) rfl (lv_at hl 0 rfl) ?_
        refine va_get (D := (dC, dI)) (ci := 3) (v := .ref (a 2)) (C := RX1) (T := TX1) (N := 10) hx hb hts hiX1 hown hK hP 0 rfl rfl 3 (by decide) hw0 (fun _ h9 => h9) rfl (kdr dgX1_isSoundInSpans_0 0 9 rfl rfl) ?_
        refine lv_iload_n hx hb (kdr dgX1_isSoundInSpans_0 1 0 rfl rfl) rfl (lv_at hl 1 rfl) ?_
        obtain ⟨r3, g3, h⟩ := g_b h
        refine kq_l (wSB cI cJ cZ a ce fr un sb se so sc wb we wo wc fb fe fo fc rm ac rf kn) (fun qP qD qF => va_runV (As := [.int x1]) (rest := [.ref (a 0)]) ⟨hx, hb, hml, hown, hts⟩ (c_X0_begin l dC dI cB cI cJ cZ (a 2) (a 3) (a 4) (a 5) _ sb se so sc x1 r3 g3) (kcwV hts kw_251 kv_X0_begin rfl rfl ⟨(Nat.le_of_ble_eq_true rfl), (Nat.le_of_ble_eq_true rfl)⟩) (kpV (A := A) qP hK qD hG (krecv_2 (q0 := 2) hK hP rfl)) rfl rfl hl.1 rfl (lv_room (Nat.le_of_ble_eq_true rfl)) (kdr dgX1_isSoundInSpans_0 1 1 rfl rfl) ⟨(Nat.le_of_ble_eq_true rfl), (Nat.le_of_ble_eq_true rfl)⟩) hP hD hS hA kFr_SBs (fun H locs hP hD hS => ?_)
        refine lv_aload_n hx hb (kdr dgX1_isSoundInSpans_0 1 2 rfl rfl) rfl (lv_at hl 0 rfl) ?_
        refine va_get (D := (dC, dI)) (ci := 3) (v := .ref (a 2)) (C := RX1) (T := TX1) (N := 10) hx hb hts hiX1 hown hK hP 0 rfl rfl 3 (by decide) hw0 (fun _ h9 => h9) rfl (kdr dgX1_isSoundInSpans_0 1 3 rfl rfl) ?_
        refine lv_iload_n hx hb (kdr dgX1_isSoundInSpans_0 1 4 rfl rfl) rfl (lv_at hl 1 rfl) ?_
        obtain ⟨r4, g4, h⟩ := g_b h
        refine kq_l (wSB cI cJ cZ a ce fr un sb se so sc wb we wo wc fb fe fo fc rm ac rf kn) (fun qP qD qF => va_runV (As := [.int x1]) (rest := [.long r3, .ref (a 0)]) ⟨hx, hb, hml, hown, hts⟩ (c_X0_end l dC dI cB cI cJ cZ (a 2) (a 3) (a 4) (a 5) _ sb se so sc x1 r4 g4) (kcwV hts kw_194 kv_X0_end rfl rfl ⟨(Nat.le_of_ble_eq_true rfl), (Nat.le_of_ble_eq_true rfl)⟩) (kpV (A := A) qP hK qD hG (krecv_2 (q0 := 2) hK hP rfl)) rfl rfl hl.1 rfl (lv_room (Nat.le_of_ble_eq_true rfl)) (kdr dgX1_isSoundInSpans_0 1 5 rfl rfl) ⟨(Nat.le_of_ble_eq_true rfl), (Nat.le_of_ble_eq_true rfl)⟩) hP hD hS hA kFr_SBs (fun H locs hP hD hS => ?_)
        obtain ⟨r5, g5, h⟩ := g_b h
        refine kq_i (wSB cI cJ cZ a ce fr un sb se so sc wb we wo wc fb fe fo fc rm ac rf kn) (fun qP qD qF => va_runV (As := [.long r3, .long r4]) (rest := []) ⟨hx, hb, hml, hown, hts⟩ (c_X1_isInCalendar l dC dI cB cI cJ cZ a _ ce fr un sb se so sc wb we wo wc fb fe fo fc rm ac rf kn r3 r4 r5 g5) (kcwV hts kw_276 kv_X1_isInCalendar rfl rfl ⟨(Nat.le_of_ble_eq_true rfl), (Nat.le_of_ble_eq_true rfl)⟩) (kpV (A := A) qP hK qD hG (krecv_3 (q0 := 0) hK hP rfl)) rfl rfl hl.1 rfl (lv_room (Nat.le_of_ble_eq_true rfl)) (kdr dgX1_isSoundInSpans_0 1 6 rfl rfl) ⟨(Nat.le_of_ble_eq_true rfl), (Nat.le_of_ble_eq_true rfl)⟩) hP hD hS hA kFr_SB (fun H locs hP hD hS br5 => ?_)
        refine lv_if_ne (tgt := 38) hx hb (kdr dgX1_isSoundInSpans_0 1 7 rfl rfl) (by decide) (fun c6 => ?_) (fun c6 => ?_)
        · have h := g_f c6 h
          refine lv_iconst (v := 0) hx hb (kdr dgX1_isSoundInSpans_0 2 0 rfl rfl) (by decide) ?_
          refine lv_istore_n (lv' := (kvI 2 0 (kvA 0 (a 0) (kvI 1 x1 kvE)))) hx hb (kdr dgX1_isSoundInSpans_0 2 1 rfl rfl) rfl hl (by decide) rfl (fun ls hl => ?_)
          exact J40 (f_X1_isSoundInSpans_2 n) ih 24 ce fr un sb se so sc wb we wo wc fb fe fo fc rm ac rf kn x1 0 _ _ hP hD hS ls (lv_sub hl [1, 2, 0] rfl) h
        · have h := g_t c6 h
          refine lv_iconst (v := 0) hx hb (kdr dgX1_isSoundInSpans_0 1 8 rfl rfl) (by decide) ?_
          have h := Option.some.inj h
          subst h
          exact kret_i (v := 0) hx hb hr rfl hlocks hS hP (kdr dgX1_isSoundInSpans_0 1 9 rfl rfl)
  have h := f_X1_isSoundInSpans_e.symm.trans hf
  refine lv_iconst (v := 0) hx hb (kdr dgX1_isSoundInSpans_0 0 0 rfl rfl) (by decide) ?_
  refine lv_istore_n (lv' := (kvI 1 0 (kvA 0 (a 0) kvE))) hx hb (kdr dgX1_isSoundInSpans_0 0 1 rfl rfl) rfl hl (by decide) rfl (fun ls hl => ?_)
  exact J2 24 ce fr un sb se so sc wb we wo wc fb fe fo fc rm ac rf kn 0 _ _ hP hD hS ls (lv_sub hl [1, 0] rfl) h
noncomputable abbrev wsX1_isSoundInFrees : List Cond := kWs yX1_isSoundInFrees cX1_isSoundInFrees 2 (some .boolean)
noncomputable def f_X1_isSoundInFrees_6 : Nat → (Int64) → (Int64) → (Nat → Int64) → (Nat → Int64) → (Int32) → (Nat → Int64) → (Nat → Int64) → (Nat → Int32) → (Int32) → (Int32) → Option ((Int32) × (Nat → Int64) × (Nat → Int64) × (Nat → Int32) × (Int32))
  | 0, _, _, _, _, _, _, _, _, _, _ => none
  | n + 1, fr, un, sb, se, sc, fb, fe, fo, fc, x1 =>
    (f_X0_count fc).bind fun r1 =>
    if r1 ≤ x1 then
      (f_X1_takenLength fr un sb se sc).bind fun r3 =>
      (f_X1_freeLength fb fe fc).bind fun r4 =>
      if (r3 + r4) = (un - fr) then
        some (1, fb, fe, fo, fc)
      else
        some (0, fb, fe, fo, fc)
    else
      (f_X0_begin fb fc x1).bind fun r3 =>
      (f_X0_end fe fc x1).bind fun r4 =>
      (f_X0_firstMeeting sb se sc r3 r4 (-1)).bind fun r5 =>
      if r5 = (-1) then
        f_X1_isSoundInFrees_6 n fr un sb se sc fb fe fo fc (x1 + 1)
      else
        some (0, fb, fe, fo, fc)
theorem f_X1_isSoundInFrees_6_0 {fr : Int64} {un : Int64} {sb : Nat → Int64} {se : Nat → Int64} {sc : Int32} {fb : Nat → Int64} {fe : Nat → Int64} {fo : Nat → Int32} {fc : Int32} {x1 : Int32} : f_X1_isSoundInFrees_6 0 fr un sb se sc fb fe fo fc x1 = none := rfl
theorem f_X1_isSoundInFrees_6_s {n : Nat} {fr : Int64} {un : Int64} {sb : Nat → Int64} {se : Nat → Int64} {sc : Int32} {fb : Nat → Int64} {fe : Nat → Int64} {fo : Nat → Int32} {fc : Int32} {x1 : Int32} : f_X1_isSoundInFrees_6 (n + 1) fr un sb se sc fb fe fo fc x1 =
  (f_X0_count fc).bind fun r1 =>
  if r1 ≤ x1 then
    (f_X1_takenLength fr un sb se sc).bind fun r3 =>
    (f_X1_freeLength fb fe fc).bind fun r4 =>
    if (r3 + r4) = (un - fr) then
      some (1, fb, fe, fo, fc)
    else
      some (0, fb, fe, fo, fc)
  else
    (f_X0_begin fb fc x1).bind fun r3 =>
    (f_X0_end fe fc x1).bind fun r4 =>
    (f_X0_firstMeeting sb se sc r3 r4 (-1)).bind fun r5 =>
    if r5 = (-1) then
      f_X1_isSoundInFrees_6 n fr un sb se sc fb fe fo fc (x1 + 1)
    else
      some (0, fb, fe, fo, fc) := rfl
noncomputable def f_X1_isSoundInFrees (fr : Int64) (un : Int64) (sb : Nat → Int64) (se : Nat → Int64) (sc : Int32) (fb : Nat → Int64) (fe : Nat → Int64) (fo : Nat → Int32) (fc : Int32) : Option ((Int32) × (Nat → Int64) × (Nat → Int64) × (Nat → Int32) × (Int32)) :=
  (f_X1_findFrees fr un sb se sc fb fe fo fc).bind fun r1 =>
  f_X1_isSoundInFrees_6 24 fr un sb se sc r1.1 r1.2.1 r1.2.2.1 r1.2.2.2 0
theorem f_X1_isSoundInFrees_e {fr : Int64} {un : Int64} {sb : Nat → Int64} {se : Nat → Int64} {sc : Int32} {fb : Nat → Int64} {fe : Nat → Int64} {fo : Nat → Int32} {fc : Int32} : f_X1_isSoundInFrees fr un sb se sc fb fe fo fc = 
  (f_X1_findFrees fr un sb se sc fb fe fo fc).bind fun r1 =>
  f_X1_isSoundInFrees_6 24 fr un sb se sc r1.1 r1.2.1 r1.2.2.1 r1.2.2.2 0 := rfl
set_option maxHeartbeats 4000000 in
set_option maxRecDepth 100000 in
theorem c_X1_isSoundInFrees (l : Launch) (dC : Nat → ClassId) (dI : Nat → Nat → Nat) (cB cI cJ cZ : ClassId) (a : Nat → Nat) (sz : Nat) (ce : Nat → Int64) (fr : Int64) (un : Int64) (sb : Nat → Int64) (se : Nat → Int64) (so : Nat → Int32) (sc : Int32) (wb : Nat → Int64) (we : Nat → Int64) (wo : Nat → Int32) (wc : Int32) (fb : Nat → Int64) (fe : Nat → Int64) (fo : Nat → Int32) (fc : Int32) (rm : Nat → Int32) (ac : Int32) (rf : Int32) (kn : Int32) (res : (Int32) × (Nat → Int64) × (Nat → Int64) × (Nat → Int32) × (Int32)) (hf : f_X1_isSoundInFrees fr un sb se sc fb fe fo fc = some res) : kMi l yX1_isSoundInFrees wsX1_isSoundInFrees (kRm 4 0 0 97) dC dI cB cI cJ cZ [.ref (a 0)] sz (wSB cI cJ cZ a ce fr un sb se so sc wb we wo wc fb fe fo fc rm ac rf kn) .boolean (res.1) (wSB cI cJ cZ a ce fr un sb se so sc wb we wo wc (res.2.1) (res.2.2.1) (res.2.2.2.1) (res.2.2.2.2) rm ac rf kn) 0 0 := by
  refine kmet_i (y := yX1_isSoundInFrees) (cc := cX1_isSoundInFrees) (maxL := 2) (ret := (some .boolean)) RX1 (kvA 0 (a 0) kvE) kpl_X1 rfl rfl (Nat.le_of_ble_eq_true rfl) rfl (fun p e s m below meth c A ls hx hb hr hml hts hown hlocks hP hK hG hD hA hS hl => ?_)
  have hw0 := hts (.fieldLink RX1 32 "Spanbooker" "freeRow" "LSpanbooker$Row;") (List.mem_cons_of_mem _ kw_112)
  have hw1 := hts (.fieldLink RX1 19 "Spanbooker" "until" "J") (List.mem_cons_of_mem _ kw_109)
  have hw2 := hts (.fieldLink RX1 13 "Spanbooker" "from" "J") (List.mem_cons_of_mem _ kw_108)
  have hw3 := hts (.fieldLink RX1 25 "Spanbooker" "spanRow" "LSpanbooker$Row;") (List.mem_cons_of_mem _ kw_110)
  have hiX1 : ∀ w ∈ u_ws RX1 TX1 10, w ∈ wsX1_isSoundInFrees := fun w h => List.mem_cons_of_mem _ (ku_X1 w h)
  have J6 : ∀ (n : Nat), ∀ (ce : Nat → Int64) (fr : Int64) (un : Int64) (sb : Nat → Int64) (se : Nat → Int64) (so : Nat → Int32) (sc : Int32) (wb : Nat → Int64) (we : Nat → Int64) (wo : Nat → Int32) (wc : Int32) (fb : Nat → Int64) (fe : Nat → Int64) (fo : Nat → Int32) (fc : Int32) (rm : Nat → Int32) (ac : Int32) (rf : Int32) (kn : Int32) (x1 : Int32) (H : Heap) (locs : List Loc), va_P (dC, dI) vwCl (wSB cI cJ cZ a ce fr un sb se so sc wb we wo wc fb fe fo fc rm ac rf kn) H → va_D A (wSB cI cJ cZ a ce fr un sb se so sc wb we wo wc fb fe fo fc rm ac rf kn) → va_S A s.heap H locs → ∀ (ls : Array Slot), lv_has ls 2 (kvA 0 (a 0) (kvI 1 x1 kvE)) → f_X1_isSoundInFrees_6 n fr un sb se sc fb fe fo fc x1 = some res → W p l e (headSpec wsX1_isSoundInFrees (kRm 4 0 0 97)).room s m ([.ref (a 0)] : List Value).toArray below meth c H locs 0 0 (MQ below (kI (dC, dI) .boolean (res.1) (wSB cI cJ cZ a ce fr un sb se so sc wb we wo wc (res.2.1) (res.2.2.1) (res.2.2.2.1) (res.2.2.2.2) rm ac rf kn) A) ([.ref (a 0)] : List Value).toArray s 0 0 A) (F0 m 6 ls []) := by
    intro n
    induction n with
    | zero =>
      intro ce fr un sb se so sc wb we wo wc fb fe fo fc rm ac rf kn x1 H locs hP hD hS ls hl h
      have h := f_X1_isSoundInFrees_6_0.symm.trans h
      cases h
    | succ n ih =>
      intro ce fr un sb se so sc wb we wo wc fb fe fo fc rm ac rf kn x1 H locs hP hD hS ls hl h
      have h := f_X1_isSoundInFrees_6_s.symm.trans h
      refine lv_iload_n hx hb (kdr dgX1_isSoundInFrees_0 0 4 rfl rfl) rfl (lv_at hl 1 rfl) ?_
      refine lv_aload_n hx hb (kdr dgX1_isSoundInFrees_0 0 5 rfl rfl) rfl (lv_at hl 0 rfl) ?_
      refine va_get (D := (dC, dI)) (ci := 3) (v := .ref (a 10)) (C := RX1) (T := TX1) (N := 10) hx hb hts hiX1 hown hK hP 0 rfl rfl 5 (by decide) hw0 (fun _ h9 => h9) rfl (kdr dgX1_isSoundInFrees_0 0 6 rfl rfl) ?_
      obtain ⟨r1, g1, h⟩ := g_b h
      refine kq_i (wSB cI cJ cZ a ce fr un sb se so sc wb we wo wc fb fe fo fc rm ac rf kn) (fun qP qD qF => va_runV (As := []) (rest := [.int x1]) ⟨hx, hb, hml, hown, hts⟩ (c_X0_count l dC dI cB cI cJ cZ (a 10) (a 11) (a 12) (a 13) _ fb fe fo fc  r1 g1) (kcwV hts kw_155 kv_X0_count rfl rfl ⟨(Nat.le_of_ble_eq_true rfl), (Nat.le_of_ble_eq_true rfl)⟩) (kpV (A := A) qP hK qD hG (krecv_2 (q0 := 10) hK hP rfl)) rfl rfl hl.1 rfl (lv_room (Nat.le_of_ble_eq_true rfl)) (kdr dgX1_isSoundInFrees_0 0 7 rfl rfl) ⟨(Nat.le_of_ble_eq_true rfl), (Nat.le_of_ble_eq_true rfl)⟩) hP hD hS hA kFr_SBf (fun H locs hP hD hS br1 => ?_)
      refine lv_icmp_ge (tgt := 53) hx hb (kdr dgX1_isSoundInFrees_0 0 8 rfl rfl) (by decide) (fun c2 => ?_) (fun c2 => ?_)
      · have h := g_t c2 h
        refine lv_aload_n hx hb (kdr dgX1_isSoundInFrees_0 2 7 rfl rfl) rfl (lv_at hl 0 rfl) ?_
        obtain ⟨r3, g3, h⟩ := g_b h
        refine kq_l (wSB cI cJ cZ a ce fr un sb se so sc wb we wo wc fb fe fo fc rm ac rf kn) (fun qP qD qF => va_runV (As := []) (rest := []) ⟨hx, hb, hml, hown, hts⟩ (c_X1_takenLength l dC dI cB cI cJ cZ a _ ce fr un sb se so sc wb we wo wc fb fe fo fc rm ac rf kn  r3 g3) (kcwV hts kw_288 kv_X1_takenLength rfl rfl ⟨(Nat.le_of_ble_eq_true rfl), (Nat.le_of_ble_eq_true rfl)⟩) (kpV (A := A) qP hK qD hG (krecv_3 (q0 := 0) hK hP rfl)) rfl rfl hl.1 rfl (lv_room (Nat.le_of_ble_eq_true rfl)) (kdr dgX1_isSoundInFrees_0 2 8 rfl rfl) ⟨(Nat.le_of_ble_eq_true rfl), (Nat.le_of_ble_eq_true rfl)⟩) hP hD hS hA kFr_SB (fun H locs hP hD hS => ?_)
        refine lv_aload_n hx hb (kdr dgX1_isSoundInFrees_0 2 9 rfl rfl) rfl (lv_at hl 0 rfl) ?_
        obtain ⟨r4, g4, h⟩ := g_b h
        refine kq_l (wSB cI cJ cZ a ce fr un sb se so sc wb we wo wc fb fe fo fc rm ac rf kn) (fun qP qD qF => va_runV (As := []) (rest := [.long r3]) ⟨hx, hb, hml, hown, hts⟩ (c_X1_freeLength l dC dI cB cI cJ cZ a _ ce fr un sb se so sc wb we wo wc fb fe fo fc rm ac rf kn  r4 g4) (kcwV hts kw_292 kv_X1_freeLength rfl rfl ⟨(Nat.le_of_ble_eq_true rfl), (Nat.le_of_ble_eq_true rfl)⟩) (kpV (A := A) qP hK qD hG (krecv_3 (q0 := 0) hK hP rfl)) rfl rfl hl.1 rfl (lv_room (Nat.le_of_ble_eq_true rfl)) (kdr dgX1_isSoundInFrees_0 3 0 rfl rfl) ⟨(Nat.le_of_ble_eq_true rfl), (Nat.le_of_ble_eq_true rfl)⟩) hP hD hS hA kFr_SB (fun H locs hP hD hS => ?_)
        refine lv_ladd hx hb (kdr dgX1_isSoundInFrees_0 3 1 rfl rfl) ?_
        refine lv_aload_n hx hb (kdr dgX1_isSoundInFrees_0 3 2 rfl rfl) rfl (lv_at hl 0 rfl) ?_
        refine va_get (D := (dC, dI)) (ci := 3) (v := .long un) (C := RX1) (T := TX1) (N := 10) hx hb hts hiX1 hown hK hP 0 rfl rfl 2 (by decide) hw1 (fun _ h9 => h9) rfl (kdr dgX1_isSoundInFrees_0 3 3 rfl rfl) ?_
        refine lv_aload_n hx hb (kdr dgX1_isSoundInFrees_0 3 4 rfl rfl) rfl (lv_at hl 0 rfl) ?_
        refine va_get (D := (dC, dI)) (ci := 3) (v := .long fr) (C := RX1) (T := TX1) (N := 10) hx hb hts hiX1 hown hK hP 0 rfl rfl 1 (by decide) hw2 (fun _ h9 => h9) rfl (kdr dgX1_isSoundInFrees_0 3 5 rfl rfl) ?_
        refine lv_lsub hx hb (kdr dgX1_isSoundInFrees_0 3 6 rfl rfl) ?_
        refine kl_ne (pc := 71) (tgt := 79) hx hb (kdr dgX1_isSoundInFrees_0 3 7 rfl rfl) (kdr dgX1_isSoundInFrees_0 3 8 rfl rfl) (by decide) (fun c5 => ?_) (fun c5 => ?_)
        · have h := g_f c5 h
          refine lv_iconst (v := 0) hx hb (kdr dgX1_isSoundInFrees_0 4 1 rfl rfl) (by decide) ?_
          have h := Option.some.inj h
          subst h
          exact kret_i (v := 0) hx hb hr rfl hlocks hS hP (kdr dgX1_isSoundInFrees_0 4 2 rfl rfl)
        · have h := g_t c5 h
          refine lv_iconst (v := 1) hx hb (kdr dgX1_isSoundInFrees_0 3 9 rfl rfl) (by decide) ?_
          refine lv_goto (tgt := 80) hx hb (kdr dgX1_isSoundInFrees_0 4 0 rfl rfl) (by decide) ?_
          have h := Option.some.inj h
          subst h
          exact kret_i (v := 1) hx hb hr rfl hlocks hS hP (kdr dgX1_isSoundInFrees_0 4 2 rfl rfl)
      · have h := g_f c2 h
        refine lv_aload_n hx hb (kdr dgX1_isSoundInFrees_0 0 9 rfl rfl) rfl (lv_at hl 0 rfl) ?_
        refine va_get (D := (dC, dI)) (ci := 3) (v := .ref (a 2)) (C := RX1) (T := TX1) (N := 10) hx hb hts hiX1 hown hK hP 0 rfl rfl 3 (by decide) hw3 (fun _ h9 => h9) rfl (kdr dgX1_isSoundInFrees_0 1 0 rfl rfl) ?_
        refine lv_aload_n hx hb (kdr dgX1_isSoundInFrees_0 1 1 rfl rfl) rfl (lv_at hl 0 rfl) ?_
        refine va_get (D := (dC, dI)) (ci := 3) (v := .ref (a 10)) (C := RX1) (T := TX1) (N := 10) hx hb hts hiX1 hown hK hP 0 rfl rfl 5 (by decide) hw0 (fun _ h9 => h9) rfl (kdr dgX1_isSoundInFrees_0 1 2 rfl rfl) ?_
        refine lv_iload_n hx hb (kdr dgX1_isSoundInFrees_0 1 3 rfl rfl) rfl (lv_at hl 1 rfl) ?_
        obtain ⟨r3, g3, h⟩ := g_b h
        refine kq_l (wSB cI cJ cZ a ce fr un sb se so sc wb we wo wc fb fe fo fc rm ac rf kn) (fun qP qD qF => va_runV (As := [.int x1]) (rest := [.ref (a 2)]) ⟨hx, hb, hml, hown, hts⟩ (c_X0_begin l dC dI cB cI cJ cZ (a 10) (a 11) (a 12) (a 13) _ fb fe fo fc x1 r3 g3) (kcwV hts kw_251 kv_X0_begin rfl rfl ⟨(Nat.le_of_ble_eq_true rfl), (Nat.le_of_ble_eq_true rfl)⟩) (kpV (A := A) qP hK qD hG (krecv_2 (q0 := 10) hK hP rfl)) rfl rfl hl.1 rfl (lv_room (Nat.le_of_ble_eq_true rfl)) (kdr dgX1_isSoundInFrees_0 1 4 rfl rfl) ⟨(Nat.le_of_ble_eq_true rfl), (Nat.le_of_ble_eq_true rfl)⟩) hP hD hS hA kFr_SBf (fun H locs hP hD hS => ?_)
        refine lv_aload_n hx hb (kdr dgX1_isSoundInFrees_0 1 5 rfl rfl) rfl (lv_at hl 0 rfl) ?_
        refine va_get (D := (dC, dI)) (ci := 3) (v := .ref (a 10)) (C := RX1) (T := TX1) (N := 10) hx hb hts hiX1 hown hK hP 0 rfl rfl 5 (by decide) hw0 (fun _ h9 => h9) rfl (kdr dgX1_isSoundInFrees_0 1 6 rfl rfl) ?_
        refine lv_iload_n hx hb (kdr dgX1_isSoundInFrees_0 1 7 rfl rfl) rfl (lv_at hl 1 rfl) ?_
        obtain ⟨r4, g4, h⟩ := g_b h
        refine kq_l (wSB cI cJ cZ a ce fr un sb se so sc wb we wo wc fb fe fo fc rm ac rf kn) (fun qP qD qF => va_runV (As := [.int x1]) (rest := [.long r3, .ref (a 2)]) ⟨hx, hb, hml, hown, hts⟩ (c_X0_end l dC dI cB cI cJ cZ (a 10) (a 11) (a 12) (a 13) _ fb fe fo fc x1 r4 g4) (kcwV hts kw_194 kv_X0_end rfl rfl ⟨(Nat.le_of_ble_eq_true rfl), (Nat.le_of_ble_eq_true rfl)⟩) (kpV (A := A) qP hK qD hG (krecv_2 (q0 := 10) hK hP rfl)) rfl rfl hl.1 rfl (lv_room (Nat.le_of_ble_eq_true rfl)) (kdr dgX1_isSoundInFrees_0 1 8 rfl rfl) ⟨(Nat.le_of_ble_eq_true rfl), (Nat.le_of_ble_eq_true rfl)⟩) hP hD hS hA kFr_SBf (fun H locs hP hD hS => ?_)
        refine lv_iconst (v := (-1)) hx hb (kdr dgX1_isSoundInFrees_0 1 9 rfl rfl) (by decide) ?_
        obtain ⟨r5, g5, h⟩ := g_b h
        refine kq_i (wSB cI cJ cZ a ce fr un sb se so sc wb we wo wc fb fe fo fc rm ac rf kn) (fun qP qD qF => va_runV (As := [.long r3, .long r4, .int (-1)]) (rest := []) ⟨hx, hb, hml, hown, hts⟩ (c_X0_firstMeeting l dC dI cB cI cJ cZ (a 2) (a 3) (a 4) (a 5) _ sb se so sc r3 r4 (-1) r5 g5) (kcwV hts kw_190 kv_X0_firstMeeting rfl rfl ⟨(Nat.le_of_ble_eq_true rfl), (Nat.le_of_ble_eq_true rfl)⟩) (kpV (A := A) qP hK qD hG (krecv_2 (q0 := 2) hK hP rfl)) rfl rfl hl.1 rfl (lv_room (Nat.le_of_ble_eq_true rfl)) (kdr dgX1_isSoundInFrees_0 2 0 rfl rfl) ⟨(Nat.le_of_ble_eq_true rfl), (Nat.le_of_ble_eq_true rfl)⟩) hP hD hS hA kFr_SBs (fun H locs hP hD hS br5 => ?_)
        refine lv_iconst (v := (-1)) hx hb (kdr dgX1_isSoundInFrees_0 2 1 rfl rfl) (by decide) ?_
        refine lv_icmp_eq (tgt := 47) hx hb (kdr dgX1_isSoundInFrees_0 2 2 rfl rfl) (by decide) (fun c6 => ?_) (fun c6 => ?_)
        · have h := g_t c6 h
          refine lv_iinc (v := x1 + 1) (lv' := (kvI 1 (x1 + 1) (kvA 0 (a 0) kvE))) hx hb (kdr dgX1_isSoundInFrees_0 2 5 rfl rfl) hl (k := 1) rfl rfl (by decide) rfl (fun ls hl => ?_)
          refine lv_goto (tgt := 6) hx hb (kdr dgX1_isSoundInFrees_0 2 6 rfl rfl) (by decide) ?_
          exact ih ce fr un sb se so sc wb we wo wc fb fe fo fc rm ac rf kn (x1 + 1) _ _ hP hD hS ls (lv_sub hl [1, 0] rfl) h
        · have h := g_f c6 h
          refine lv_iconst (v := 0) hx hb (kdr dgX1_isSoundInFrees_0 2 3 rfl rfl) (by decide) ?_
          have h := Option.some.inj h
          subst h
          exact kret_i (v := 0) hx hb hr rfl hlocks hS hP (kdr dgX1_isSoundInFrees_0 2 4 rfl rfl)
  have h := f_X1_isSoundInFrees_e.symm.trans hf
  refine lv_aload_n hx hb (kdr dgX1_isSoundInFrees_0 0 0 rfl rfl) rfl (lv_at hl 0 rfl) ?_
  obtain ⟨r1, g1, h⟩ := g_b h
  refine kq_v (wSB cI cJ cZ a ce fr un sb se so sc wb we wo wc r1.1 r1.2.1 r1.2.2.1 r1.2.2.2 rm ac rf kn) (fun qP qD qF => va_runV (As := []) (rest := []) ⟨hx, hb, hml, hown, hts⟩ (c_X1_findFrees l dC dI cB cI cJ cZ a _ ce fr un sb se so sc wb we wo wc fb fe fo fc rm ac rf kn  r1 g1) (kcwV hts kw_182 kv_X1_findFrees rfl rfl ⟨(Nat.le_of_ble_eq_true rfl), (Nat.le_of_ble_eq_true rfl)⟩) (kpV (A := A) qP hK qD hG (krecv_3 (q0 := 0) hK hP rfl)) rfl rfl hl.1 rfl (lv_room (Nat.le_of_ble_eq_true rfl)) (kdr dgX1_isSoundInFrees_0 0 1 rfl rfl) ⟨(Nat.le_of_ble_eq_true rfl), (Nat.le_of_ble_eq_true rfl)⟩) hP hD hS hA kFr_SB (fun H locs hP hD hS => ?_)
  refine lv_iconst (v := 0) hx hb (kdr dgX1_isSoundInFrees_0 0 2 rfl rfl) (by decide) ?_
  refine lv_istore_n (lv' := (kvI 1 0 (kvA 0 (a 0) kvE))) hx hb (kdr dgX1_isSoundInFrees_0 0 3 rfl rfl) rfl hl (by decide) rfl (fun ls hl => ?_)
  exact J6 24 ce fr un sb se so sc wb we wo wc r1.1 r1.2.1 r1.2.2.1 r1.2.2.2 rm ac rf kn 0 _ _ hP hD hS ls (lv_sub hl [1, 0] rfl) h
noncomputable abbrev wsX1_isSoundInWishes : List Cond := kWs yX1_isSoundInWishes cX1_isSoundInWishes 2 (some .boolean)
noncomputable def f_X1_isSoundInWishes (wb : Nat → Int64) (we : Nat → Int64) (wc : Int32) (rm : Nat → Int32) : Option ((Int32) × (Nat → Int32)) :=
  (f_X1_findRooms wb we wc rm).bind fun r1 =>
  (f_X1_chosen wb we wc).bind fun r2 =>
  (f_X1_isWithoutMeeting wb we wc r2).bind fun r3 =>
  if r3 = 0 then
    some (0, r1)
  else
    (f_J6_bitCount_0f7a4 r2).bind fun r5 =>
    (f_X1_mostOfAllSets wb we wc).bind fun r6 =>
    if r5 = r6 then
      (f_X1_roomCount wc r1).bind fun r8 =>
      (f_X1_crowd wb we wc).bind fun r9 =>
      if r8 = r9 then
        some (1, r1)
      else
        some (0, r1)
    else
      some (0, r1)
theorem f_X1_isSoundInWishes_e {wb : Nat → Int64} {we : Nat → Int64} {wc : Int32} {rm : Nat → Int32} : f_X1_isSoundInWishes wb we wc rm = 
  (f_X1_findRooms wb we wc rm).bind fun r1 =>
  (f_X1_chosen wb we wc).bind fun r2 =>
  (f_X1_isWithoutMeeting wb we wc r2).bind fun r3 =>
  if r3 = 0 then
    some (0, r1)
  else
    (f_J6_bitCount_0f7a4 r2).bind fun r5 =>
    (f_X1_mostOfAllSets wb we wc).bind fun r6 =>
    if r5 = r6 then
      (f_X1_roomCount wc r1).bind fun r8 =>
      (f_X1_crowd wb we wc).bind fun r9 =>
      if r8 = r9 then
        some (1, r1)
      else
        some (0, r1)
    else
      some (0, r1) := rfl
set_option maxHeartbeats 4000000 in
set_option maxRecDepth 100000 in
theorem c_X1_isSoundInWishes (l : Launch) (dC : Nat → ClassId) (dI : Nat → Nat → Nat) (cB cI cJ cZ : ClassId) (a : Nat → Nat) (sz : Nat) (ce : Nat → Int64) (fr : Int64) (un : Int64) (sb : Nat → Int64) (se : Nat → Int64) (so : Nat → Int32) (sc : Int32) (wb : Nat → Int64) (we : Nat → Int64) (wo : Nat → Int32) (wc : Int32) (fb : Nat → Int64) (fe : Nat → Int64) (fo : Nat → Int32) (fc : Int32) (rm : Nat → Int32) (ac : Int32) (rf : Int32) (kn : Int32) (res : (Int32) × (Nat → Int32)) (hf : f_X1_isSoundInWishes wb we wc rm = some res) : kMi l yX1_isSoundInWishes wsX1_isSoundInWishes (kRm 4 0 0 92) dC dI cB cI cJ cZ [.ref (a 0)] sz (wSB cI cJ cZ a ce fr un sb se so sc wb we wo wc fb fe fo fc rm ac rf kn) .boolean (res.1) (wSB cI cJ cZ a ce fr un sb se so sc wb we wo wc fb fe fo fc (res.2) ac rf kn) 0 0 := by
  refine kmet_i (y := yX1_isSoundInWishes) (cc := cX1_isSoundInWishes) (maxL := 2) (ret := (some .boolean)) RX1 (kvA 0 (a 0) kvE) kpl_X1 rfl rfl (Nat.le_of_ble_eq_true rfl) rfl (fun p e s m below meth c A ls hx hb hr hml hts hown hlocks hP hK hG hD hA hS hl => ?_)
  have h := f_X1_isSoundInWishes_e.symm.trans hf
  refine lv_aload_n hx hb (kdr dgX1_isSoundInWishes_0 0 0 rfl rfl) rfl (lv_at hl 0 rfl) ?_
  obtain ⟨r1, g1, h⟩ := g_b h
  refine kq_v (wSB cI cJ cZ a ce fr un sb se so sc wb we wo wc fb fe fo fc r1 ac rf kn) (fun qP qD qF => va_runV (As := []) (rest := []) ⟨hx, hb, hml, hown, hts⟩ (c_X1_findRooms l dC dI cB cI cJ cZ a _ ce fr un sb se so sc wb we wo wc fb fe fo fc rm ac rf kn  r1 g1) (kcwV hts kw_243 kv_X1_findRooms rfl rfl ⟨(Nat.le_of_ble_eq_true rfl), (Nat.le_of_ble_eq_true rfl)⟩) (kpV (A := A) qP hK qD hG (krecv_3 (q0 := 0) hK hP rfl)) rfl rfl hl.1 rfl (lv_room (Nat.le_of_ble_eq_true rfl)) (kdr dgX1_isSoundInWishes_0 0 1 rfl rfl) ⟨(Nat.le_of_ble_eq_true rfl), (Nat.le_of_ble_eq_true rfl)⟩) hP hD hS hA kFr_SB (fun H locs hP hD hS => ?_)
  refine lv_aload_n hx hb (kdr dgX1_isSoundInWishes_0 0 2 rfl rfl) rfl (lv_at hl 0 rfl) ?_
  obtain ⟨r2, g2, h⟩ := g_b h
  refine kq_i (wSB cI cJ cZ a ce fr un sb se so sc wb we wo wc fb fe fo fc r1 ac rf kn) (fun qP qD qF => va_runV (As := []) (rest := []) ⟨hx, hb, hml, hown, hts⟩ (c_X1_chosen l dC dI cB cI cJ cZ a _ ce fr un sb se so sc wb we wo wc fb fe fo fc r1 ac rf kn  r2 g2) (kcwV hts kw_300 kv_X1_chosen rfl rfl ⟨(Nat.le_of_ble_eq_true rfl), (Nat.le_of_ble_eq_true rfl)⟩) (kpV (A := A) qP hK qD hG (krecv_3 (q0 := 0) hK hP rfl)) rfl rfl hl.1 rfl (lv_room (Nat.le_of_ble_eq_true rfl)) (kdr dgX1_isSoundInWishes_0 0 3 rfl rfl) ⟨(Nat.le_of_ble_eq_true rfl), (Nat.le_of_ble_eq_true rfl)⟩) hP hD hS hA kFr_SB (fun H locs hP hD hS br2 => ?_)
  refine lv_istore_n (lv' := (kvI 1 r2 (kvA 0 (a 0) kvE))) hx hb (kdr dgX1_isSoundInWishes_0 0 4 rfl rfl) rfl hl (by decide) rfl (fun ls hl => ?_)
  refine lv_aload_n hx hb (kdr dgX1_isSoundInWishes_0 0 5 rfl rfl) rfl (lv_at hl 1 rfl) ?_
  refine lv_iload_n hx hb (kdr dgX1_isSoundInWishes_0 0 6 rfl rfl) rfl (lv_at hl 0 rfl) ?_
  obtain ⟨r3, g3, h⟩ := g_b h
  refine kq_i (wSB cI cJ cZ a ce fr un sb se so sc wb we wo wc fb fe fo fc r1 ac rf kn) (fun qP qD qF => va_runV (As := [.int r2]) (rest := []) ⟨hx, hb, hml, hown, hts⟩ (c_X1_isWithoutMeeting l dC dI cB cI cJ cZ a _ ce fr un sb se so sc wb we wo wc fb fe fo fc r1 ac rf kn r2 r3 g3) (kcwV hts kw_301 kv_X1_isWithoutMeeting rfl rfl ⟨(Nat.le_of_ble_eq_true rfl), (Nat.le_of_ble_eq_true rfl)⟩) (kpV (A := A) qP hK qD hG (krecv_3 (q0 := 0) hK hP rfl)) rfl rfl hl.1 rfl (lv_room (Nat.le_of_ble_eq_true rfl)) (kdr dgX1_isSoundInWishes_0 0 7 rfl rfl) ⟨(Nat.le_of_ble_eq_true rfl), (Nat.le_of_ble_eq_true rfl)⟩) hP hD hS hA kFr_SB (fun H locs hP hD hS br3 => ?_)
  refine lv_if_eq (tgt := 43) hx hb (kdr dgX1_isSoundInWishes_0 0 8 rfl rfl) (by decide) (fun c4 => ?_) (fun c4 => ?_)
  · have h := g_t c4 h
    refine lv_iconst (v := 0) hx hb (kdr dgX1_isSoundInWishes_0 2 1 rfl rfl) (by decide) ?_
    have h := Option.some.inj h
    subst h
    exact kret_i (v := 0) hx hb hr rfl hlocks hS hP (kdr dgX1_isSoundInWishes_0 2 2 rfl rfl)
  · have h := g_f c4 h
    refine lv_iload_n hx hb (kdr dgX1_isSoundInWishes_0 0 9 rfl rfl) rfl (lv_at hl 0 rfl) ?_
    obtain ⟨r5, g5, h⟩ := g_b h
    refine kq_i (wSB cI cJ cZ a ce fr un sb se so sc wb we wo wc fb fe fo fc r1 ac rf kn) (fun qP qD qF => va_runS (As := [.int r2]) (rest := []) ⟨hx, hb, hml, hown, hts⟩ (c_J6_bitCount_0f7a4 l dC dI cB cI cJ cZ  _  r2 r5 g5) (kcwS hts kw_305 kv_J6_bitCount_0f7a4 rfl rfl ⟨(Nat.le_of_ble_eq_true rfl), (Nat.le_of_ble_eq_true rfl)⟩) (kpS (A := A) (kPnil) hK ((kDnil (A := A))) hG) rfl rfl hl.1 rfl (lv_room (Nat.le_of_ble_eq_true rfl)) (kdr dgX1_isSoundInWishes_0 1 0 rfl rfl) ⟨(Nat.le_of_ble_eq_true rfl), (Nat.le_of_ble_eq_true rfl)⟩) hP hD hS hA kFr_n (fun H locs hP hD hS br5 => ?_)
    refine lv_aload_n hx hb (kdr dgX1_isSoundInWishes_0 1 1 rfl rfl) rfl (lv_at hl 1 rfl) ?_
    obtain ⟨r6, g6, h⟩ := g_b h
    refine kq_i (wSB cI cJ cZ a ce fr un sb se so sc wb we wo wc fb fe fo fc r1 ac rf kn) (fun qP qD qF => va_runV (As := []) (rest := [.int r5]) ⟨hx, hb, hml, hown, hts⟩ (c_X1_mostOfAllSets l dC dI cB cI cJ cZ a _ ce fr un sb se so sc wb we wo wc fb fe fo fc r1 ac rf kn  r6 g6) (kcwV hts kw_311 kv_X1_mostOfAllSets rfl rfl ⟨(Nat.le_of_ble_eq_true rfl), (Nat.le_of_ble_eq_true rfl)⟩) (kpV (A := A) qP hK qD hG (krecv_3 (q0 := 0) hK hP rfl)) rfl rfl hl.1 rfl (lv_room (Nat.le_of_ble_eq_true rfl)) (kdr dgX1_isSoundInWishes_0 1 2 rfl rfl) ⟨(Nat.le_of_ble_eq_true rfl), (Nat.le_of_ble_eq_true rfl)⟩) hP hD hS hA kFr_SB (fun H locs hP hD hS br6 => ?_)
    refine lv_icmp_ne (tgt := 43) hx hb (kdr dgX1_isSoundInWishes_0 1 3 rfl rfl) (by decide) (fun c7 => ?_) (fun c7 => ?_)
    · have h := g_f c7 h
      refine lv_iconst (v := 0) hx hb (kdr dgX1_isSoundInWishes_0 2 1 rfl rfl) (by decide) ?_
      have h := Option.some.inj h
      subst h
      exact kret_i (v := 0) hx hb hr rfl hlocks hS hP (kdr dgX1_isSoundInWishes_0 2 2 rfl rfl)
    · have h := g_t c7 h
      refine lv_aload_n hx hb (kdr dgX1_isSoundInWishes_0 1 4 rfl rfl) rfl (lv_at hl 1 rfl) ?_
      obtain ⟨r8, g8, h⟩ := g_b h
      refine kq_i (wSB cI cJ cZ a ce fr un sb se so sc wb we wo wc fb fe fo fc r1 ac rf kn) (fun qP qD qF => va_runV (As := []) (rest := []) ⟨hx, hb, hml, hown, hts⟩ (c_X1_roomCount l dC dI cB cI cJ cZ a _ ce fr un sb se so sc wb we wo wc fb fe fo fc r1 ac rf kn  r8 g8) (kcwV hts kw_259 kv_X1_roomCount rfl rfl ⟨(Nat.le_of_ble_eq_true rfl), (Nat.le_of_ble_eq_true rfl)⟩) (kpV (A := A) qP hK qD hG (krecv_3 (q0 := 0) hK hP rfl)) rfl rfl hl.1 rfl (lv_room (Nat.le_of_ble_eq_true rfl)) (kdr dgX1_isSoundInWishes_0 1 5 rfl rfl) ⟨(Nat.le_of_ble_eq_true rfl), (Nat.le_of_ble_eq_true rfl)⟩) hP hD hS hA kFr_SB (fun H locs hP hD hS br8 => ?_)
      refine lv_aload_n hx hb (kdr dgX1_isSoundInWishes_0 1 6 rfl rfl) rfl (lv_at hl 1 rfl) ?_
      obtain ⟨r9, g9, h⟩ := g_b h
      refine kq_i (wSB cI cJ cZ a ce fr un sb se so sc wb we wo wc fb fe fo fc r1 ac rf kn) (fun qP qD qF => va_runV (As := []) (rest := [.int r8]) ⟨hx, hb, hml, hown, hts⟩ (c_X1_crowd l dC dI cB cI cJ cZ a _ ce fr un sb se so sc wb we wo wc fb fe fo fc r1 ac rf kn  r9 g9) (kcwV hts kw_319 kv_X1_crowd rfl rfl ⟨(Nat.le_of_ble_eq_true rfl), (Nat.le_of_ble_eq_true rfl)⟩) (kpV (A := A) qP hK qD hG (krecv_3 (q0 := 0) hK hP rfl)) rfl rfl hl.1 rfl (lv_room (Nat.le_of_ble_eq_true rfl)) (kdr dgX1_isSoundInWishes_0 1 7 rfl rfl) ⟨(Nat.le_of_ble_eq_true rfl), (Nat.le_of_ble_eq_true rfl)⟩) hP hD hS hA kFr_SB (fun H locs hP hD hS br9 => ?_)
      refine lv_icmp_ne (tgt := 43) hx hb (kdr dgX1_isSoundInWishes_0 1 8 rfl rfl) (by decide) (fun c10 => ?_) (fun c10 => ?_)
      · have h := g_f c10 h
        refine lv_iconst (v := 0) hx hb (kdr dgX1_isSoundInWishes_0 2 1 rfl rfl) (by decide) ?_
        have h := Option.some.inj h
        subst h
        exact kret_i (v := 0) hx hb hr rfl hlocks hS hP (kdr dgX1_isSoundInWishes_0 2 2 rfl rfl)
      · have h := g_t c10 h
        refine lv_iconst (v := 1) hx hb (kdr dgX1_isSoundInWishes_0 1 9 rfl rfl) (by decide) ?_
        refine lv_goto (tgt := 44) hx hb (kdr dgX1_isSoundInWishes_0 2 0 rfl rfl) (by decide) ?_
        have h := Option.some.inj h
        subst h
        exact kret_i (v := 1) hx hb hr rfl hlocks hS hP (kdr dgX1_isSoundInWishes_0 2 2 rfl rfl)
noncomputable abbrev wsX1_isSound : List Cond := kWs yX1_isSound cX1_isSound 1 (some .boolean)
noncomputable def f_X1_isSound (fr : Int64) (un : Int64) (sb : Nat → Int64) (se : Nat → Int64) (so : Nat → Int32) (sc : Int32) (wb : Nat → Int64) (we : Nat → Int64) (wc : Int32) (fb : Nat → Int64) (fe : Nat → Int64) (fo : Nat → Int32) (fc : Int32) (rm : Nat → Int32) : Option ((Int32) × (Nat → Int64) × (Nat → Int64) × (Nat → Int32) × (Int32) × (Nat → Int32)) :=
  if un ≤ fr then
    some (0, fb, fe, fo, fc, rm)
  else
    (f_X1_isSoundInSpans fr un sb se so sc).bind fun r2 =>
    if r2 = 0 then
      some (0, fb, fe, fo, fc, rm)
    else
      (f_X1_isSoundInFrees fr un sb se sc fb fe fo fc).bind fun r4 =>
      if r4.1 = 0 then
        some (0, r4.2.1, r4.2.2.1, r4.2.2.2.1, r4.2.2.2.2, rm)
      else
        (f_X1_isSoundInWishes wb we wc rm).bind fun r6 =>
        if r6.1 = 0 then
          some (0, r4.2.1, r4.2.2.1, r4.2.2.2.1, r4.2.2.2.2, r6.2)
        else
          some (1, r4.2.1, r4.2.2.1, r4.2.2.2.1, r4.2.2.2.2, r6.2)
theorem f_X1_isSound_e {fr : Int64} {un : Int64} {sb : Nat → Int64} {se : Nat → Int64} {so : Nat → Int32} {sc : Int32} {wb : Nat → Int64} {we : Nat → Int64} {wc : Int32} {fb : Nat → Int64} {fe : Nat → Int64} {fo : Nat → Int32} {fc : Int32} {rm : Nat → Int32} : f_X1_isSound fr un sb se so sc wb we wc fb fe fo fc rm = 
  if un ≤ fr then
    some (0, fb, fe, fo, fc, rm)
  else
    (f_X1_isSoundInSpans fr un sb se so sc).bind fun r2 =>
    if r2 = 0 then
      some (0, fb, fe, fo, fc, rm)
    else
      (f_X1_isSoundInFrees fr un sb se sc fb fe fo fc).bind fun r4 =>
      if r4.1 = 0 then
        some (0, r4.2.1, r4.2.2.1, r4.2.2.2.1, r4.2.2.2.2, rm)
      else
        (f_X1_isSoundInWishes wb we wc rm).bind fun r6 =>
        if r6.1 = 0 then
          some (0, r4.2.1, r4.2.2.1, r4.2.2.2.1, r4.2.2.2.2, r6.2)
        else
          some (1, r4.2.1, r4.2.2.1, r4.2.2.2.1, r4.2.2.2.2, r6.2) := rfl
set_option maxHeartbeats 4000000 in
set_option maxRecDepth 100000 in
theorem c_X1_isSound (l : Launch) (dC : Nat → ClassId) (dI : Nat → Nat → Nat) (cB cI cJ cZ : ClassId) (a : Nat → Nat) (sz : Nat) (ce : Nat → Int64) (fr : Int64) (un : Int64) (sb : Nat → Int64) (se : Nat → Int64) (so : Nat → Int32) (sc : Int32) (wb : Nat → Int64) (we : Nat → Int64) (wo : Nat → Int32) (wc : Int32) (fb : Nat → Int64) (fe : Nat → Int64) (fo : Nat → Int32) (fc : Int32) (rm : Nat → Int32) (ac : Int32) (rf : Int32) (kn : Int32) (res : (Int32) × (Nat → Int64) × (Nat → Int64) × (Nat → Int32) × (Int32) × (Nat → Int32)) (hf : f_X1_isSound fr un sb se so sc wb we wc fb fe fo fc rm = some res) : kMi l yX1_isSound wsX1_isSound (kRm 5 0 0 118) dC dI cB cI cJ cZ [.ref (a 0)] sz (wSB cI cJ cZ a ce fr un sb se so sc wb we wo wc fb fe fo fc rm ac rf kn) .boolean (res.1) (wSB cI cJ cZ a ce fr un sb se so sc wb we wo wc (res.2.1) (res.2.2.1) (res.2.2.2.1) (res.2.2.2.2.1) (res.2.2.2.2.2) ac rf kn) 0 0 := by
  refine kmet_i (y := yX1_isSound) (cc := cX1_isSound) (maxL := 1) (ret := (some .boolean)) RX1 (kvA 0 (a 0) kvE) kpl_X1 rfl rfl (Nat.le_of_ble_eq_true rfl) rfl (fun p e s m below meth c A ls hx hb hr hml hts hown hlocks hP hK hG hD hA hS hl => ?_)
  have hw0 := hts (.fieldLink RX1 13 "Spanbooker" "from" "J") (List.mem_cons_of_mem _ kw_108)
  have hw1 := hts (.fieldLink RX1 19 "Spanbooker" "until" "J") (List.mem_cons_of_mem _ kw_109)
  have hiX1 : ∀ w ∈ u_ws RX1 TX1 10, w ∈ wsX1_isSound := fun w h => List.mem_cons_of_mem _ (ku_X1 w h)
  have h := f_X1_isSound_e.symm.trans hf
  refine lv_aload_n hx hb (kdr dgX1_isSound_0 0 0 rfl rfl) rfl (lv_at hl 0 rfl) ?_
  refine va_get (D := (dC, dI)) (ci := 3) (v := .long fr) (C := RX1) (T := TX1) (N := 10) hx hb hts hiX1 hown hK hP 0 rfl rfl 1 (by decide) hw0 (fun _ h9 => h9) rfl (kdr dgX1_isSound_0 0 1 rfl rfl) ?_
  refine lv_aload_n hx hb (kdr dgX1_isSound_0 0 2 rfl rfl) rfl (lv_at hl 0 rfl) ?_
  refine va_get (D := (dC, dI)) (ci := 3) (v := .long un) (C := RX1) (T := TX1) (N := 10) hx hb hts hiX1 hown hK hP 0 rfl rfl 2 (by decide) hw1 (fun _ h9 => h9) rfl (kdr dgX1_isSound_0 0 3 rfl rfl) ?_
  refine kl_ge (pc := 8) (tgt := 37) hx hb (kdr dgX1_isSound_0 0 4 rfl rfl) (kdr dgX1_isSound_0 0 5 rfl rfl) (by decide) (fun c1 => ?_) (fun c1 => ?_)
  · have h := g_t c1 h
    refine lv_iconst (v := 0) hx hb (kdr dgX1_isSound_0 1 7 rfl rfl) (by decide) ?_
    have h := Option.some.inj h
    subst h
    exact kret_i (v := 0) hx hb hr rfl hlocks hS hP (kdr dgX1_isSound_0 1 8 rfl rfl)
  · have h := g_f c1 h
    refine lv_aload_n hx hb (kdr dgX1_isSound_0 0 6 rfl rfl) rfl (lv_at hl 0 rfl) ?_
    obtain ⟨r2, g2, h⟩ := g_b h
    refine kq_i (wSB cI cJ cZ a ce fr un sb se so sc wb we wo wc fb fe fo fc rm ac rf kn) (fun qP qD qF => va_runV (As := []) (rest := []) ⟨hx, hb, hml, hown, hts⟩ (c_X1_isSoundInSpans l dC dI cB cI cJ cZ a _ ce fr un sb se so sc wb we wo wc fb fe fo fc rm ac rf kn  r2 g2) (kcwV hts kw_272 kv_X1_isSoundInSpans rfl rfl ⟨(Nat.le_of_ble_eq_true rfl), (Nat.le_of_ble_eq_true rfl)⟩) (kpV (A := A) qP hK qD hG (krecv_3 (q0 := 0) hK hP rfl)) rfl rfl hl.1 rfl (lv_room (Nat.le_of_ble_eq_true rfl)) (kdr dgX1_isSound_0 0 7 rfl rfl) ⟨(Nat.le_of_ble_eq_true rfl), (Nat.le_of_ble_eq_true rfl)⟩) hP hD hS hA kFr_SB (fun H locs hP hD hS br2 => ?_)
    refine lv_if_eq (tgt := 37) hx hb (kdr dgX1_isSound_0 0 8 rfl rfl) (by decide) (fun c3 => ?_) (fun c3 => ?_)
    · have h := g_t c3 h
      refine lv_iconst (v := 0) hx hb (kdr dgX1_isSound_0 1 7 rfl rfl) (by decide) ?_
      have h := Option.some.inj h
      subst h
      exact kret_i (v := 0) hx hb hr rfl hlocks hS hP (kdr dgX1_isSound_0 1 8 rfl rfl)
    · have h := g_f c3 h
      refine lv_aload_n hx hb (kdr dgX1_isSound_0 0 9 rfl rfl) rfl (lv_at hl 0 rfl) ?_
      obtain ⟨r4, g4, h⟩ := g_b h
      refine kq_i (wSB cI cJ cZ a ce fr un sb se so sc wb we wo wc r4.2.1 r4.2.2.1 r4.2.2.2.1 r4.2.2.2.2 rm ac rf kn) (fun qP qD qF => va_runV (As := []) (rest := []) ⟨hx, hb, hml, hown, hts⟩ (c_X1_isSoundInFrees l dC dI cB cI cJ cZ a _ ce fr un sb se so sc wb we wo wc fb fe fo fc rm ac rf kn  r4 g4) (kcwV hts kw_284 kv_X1_isSoundInFrees rfl rfl ⟨(Nat.le_of_ble_eq_true rfl), (Nat.le_of_ble_eq_true rfl)⟩) (kpV (A := A) qP hK qD hG (krecv_3 (q0 := 0) hK hP rfl)) rfl rfl hl.1 rfl (lv_room (Nat.le_of_ble_eq_true rfl)) (kdr dgX1_isSound_0 1 0 rfl rfl) ⟨(Nat.le_of_ble_eq_true rfl), (Nat.le_of_ble_eq_true rfl)⟩) hP hD hS hA kFr_SB (fun H locs hP hD hS br4 => ?_)
      refine lv_if_eq (tgt := 37) hx hb (kdr dgX1_isSound_0 1 1 rfl rfl) (by decide) (fun c5 => ?_) (fun c5 => ?_)
      · have h := g_t c5 h
        refine lv_iconst (v := 0) hx hb (kdr dgX1_isSound_0 1 7 rfl rfl) (by decide) ?_
        have h := Option.some.inj h
        subst h
        exact kret_i (v := 0) hx hb hr rfl hlocks hS hP (kdr dgX1_isSound_0 1 8 rfl rfl)
      · have h := g_f c5 h
        refine lv_aload_n hx hb (kdr dgX1_isSound_0 1 2 rfl rfl) rfl (lv_at hl 0 rfl) ?_
        obtain ⟨r6, g6, h⟩ := g_b h
        refine kq_i (wSB cI cJ cZ a ce fr un sb se so sc wb we wo wc r4.2.1 r4.2.2.1 r4.2.2.2.1 r4.2.2.2.2 r6.2 ac rf kn) (fun qP qD qF => va_runV (As := []) (rest := []) ⟨hx, hb, hml, hown, hts⟩ (c_X1_isSoundInWishes l dC dI cB cI cJ cZ a _ ce fr un sb se so sc wb we wo wc r4.2.1 r4.2.2.1 r4.2.2.2.1 r4.2.2.2.2 rm ac rf kn  r6 g6) (kcwV hts kw_296 kv_X1_isSoundInWishes rfl rfl ⟨(Nat.le_of_ble_eq_true rfl), (Nat.le_of_ble_eq_true rfl)⟩) (kpV (A := A) qP hK qD hG (krecv_3 (q0 := 0) hK hP rfl)) rfl rfl hl.1 rfl (lv_room (Nat.le_of_ble_eq_true rfl)) (kdr dgX1_isSound_0 1 3 rfl rfl) ⟨(Nat.le_of_ble_eq_true rfl), (Nat.le_of_ble_eq_true rfl)⟩) hP hD hS hA kFr_SB (fun H locs hP hD hS br6 => ?_)
        refine lv_if_eq (tgt := 37) hx hb (kdr dgX1_isSound_0 1 4 rfl rfl) (by decide) (fun c7 => ?_) (fun c7 => ?_)
        · have h := g_t c7 h
          refine lv_iconst (v := 0) hx hb (kdr dgX1_isSound_0 1 7 rfl rfl) (by decide) ?_
          have h := Option.some.inj h
          subst h
          exact kret_i (v := 0) hx hb hr rfl hlocks hS hP (kdr dgX1_isSound_0 1 8 rfl rfl)
        · have h := g_f c7 h
          refine lv_iconst (v := 1) hx hb (kdr dgX1_isSound_0 1 5 rfl rfl) (by decide) ?_
          refine lv_goto (tgt := 38) hx hb (kdr dgX1_isSound_0 1 6 rfl rfl) (by decide) ?_
          have h := Option.some.inj h
          subst h
          exact kret_i (v := 1) hx hb hr rfl hlocks hS hP (kdr dgX1_isSound_0 1 8 rfl rfl)
noncomputable abbrev wsX1_mix : List Cond := kWs yX1_mix cX1_mix 3 (some .long)
noncomputable def f_X1_mix (p0 : Int64) (p1 : Int32) : Option (Int64) :=
  some ((p0 * 31) + p1.toInt64)
theorem f_X1_mix_e {p0 : Int64} {p1 : Int32} : f_X1_mix p0 p1 = 
  some ((p0 * 31) + p1.toInt64) := rfl
set_option maxHeartbeats 4000000 in
set_option maxRecDepth 100000 in
theorem c_X1_mix (l : Launch) (dC : Nat → ClassId) (dI : Nat → Nat → Nat) (cB cI cJ cZ : ClassId) (sz : Nat) (p0 : Int64) (p1 : Int32) (res : Int64) (hf : f_X1_mix p0 p1 = some res) : kMl l yX1_mix wsX1_mix (kRm 0 0 0 0) dC dI cB cI cJ cZ [.long p0, .int p1] sz [] (res) [] 0 0 := by
  refine kmet_l (y := yX1_mix) (cc := cX1_mix) (maxL := 3) (ret := (some .long)) RX1 (kvJ 0 p0 (kvI 2 p1 kvE)) kpl_X1 rfl rfl (Nat.le_of_ble_eq_true rfl) rfl (fun p e s m below meth c A ls hx hb hr hml hts hown hlocks hP hK hG hD hA hS hl => ?_)
  have hw0 := hts (.constantLong RX1 320 (31)) (List.mem_cons_of_mem _ kw_339)
  have h := f_X1_mix_e.symm.trans hf
  refine lv_lload_n hx hb (kdr dgX1_mix_0 0 0 rfl rfl) rfl (lv_at hl 0 rfl) ?_
  refine lv_ldc2 (v := (31)) hx hb hown hw0 (kdr dgX1_mix_0 0 1 rfl rfl) ?_
  refine lv_lmul hx hb (kdr dgX1_mix_0 0 2 rfl rfl) ?_
  refine lv_iload_n hx hb (kdr dgX1_mix_0 0 3 rfl rfl) rfl (lv_at hl 1 rfl) ?_
  refine lv_i2l (v := p1.toInt64) hx hb (kdr dgX1_mix_0 0 4 rfl rfl) rfl ?_
  refine lv_ladd hx hb (kdr dgX1_mix_0 0 5 rfl rfl) ?_
  have h := Option.some.inj h
  subst h
  exact kret_l (v := (p0 * 31) + p1.toInt64) hx hb hr hlocks hS hP (kdr dgX1_mix_0 0 6 rfl rfl)
noncomputable abbrev wsX1_mixParts : List Cond := kWs yX1_mixParts cX1_mixParts 7 (some .long)
noncomputable def f_X1_mixParts_6 : Nat → (Nat → Int64) → (Nat → Int64) → (Int32) → (Int32) → (Int64) → (Int32) → Option (Int64)
  | 0, _, _, _, _, _, _ => none
  | n + 1, rb, re, rc, x3, x4, x6 =>
    if 4 ≤ x6 then
      some x4
    else
      (f_X1_partIn rb re rc x3 x6).bind fun r2 =>
      (f_X1_mix x4 r2).bind fun r3 =>
      f_X1_mixParts_6 n rb re rc x3 r3 (x6 + 1)
theorem f_X1_mixParts_6_0 {rb : Nat → Int64} {re : Nat → Int64} {rc : Int32} {x3 : Int32} {x4 : Int64} {x6 : Int32} : f_X1_mixParts_6 0 rb re rc x3 x4 x6 = none := rfl
theorem f_X1_mixParts_6_s {n : Nat} {rb : Nat → Int64} {re : Nat → Int64} {rc : Int32} {x3 : Int32} {x4 : Int64} {x6 : Int32} : f_X1_mixParts_6 (n + 1) rb re rc x3 x4 x6 =
  if 4 ≤ x6 then
    some x4
  else
    (f_X1_partIn rb re rc x3 x6).bind fun r2 =>
    (f_X1_mix x4 r2).bind fun r3 =>
    f_X1_mixParts_6 n rb re rc x3 r3 (x6 + 1) := rfl
noncomputable def f_X1_mixParts (rb : Nat → Int64) (re : Nat → Int64) (rc : Int32) (p0 : Int64) (p2 : Int32) : Option (Int64) :=
  f_X1_mixParts_6 24 rb re rc p2 p0 0
theorem f_X1_mixParts_e {rb : Nat → Int64} {re : Nat → Int64} {rc : Int32} {p0 : Int64} {p2 : Int32} : f_X1_mixParts rb re rc p0 p2 = 
  f_X1_mixParts_6 24 rb re rc p2 p0 0 := rfl
set_option maxHeartbeats 4000000 in
set_option maxRecDepth 100000 in
theorem c_X1_mixParts (l : Launch) (dC : Nat → ClassId) (dI : Nat → Nat → Nat) (cB cI cJ cZ : ClassId) (h0 : Nat) (h1 : Nat) (h2 : Nat) (h3 : Nat) (sz : Nat) (rb : Nat → Int64) (re : Nat → Int64) (ro : Nat → Int32) (rc : Int32) (p0 : Int64) (p2 : Int32) (res : Int64) (hf : f_X1_mixParts rb re rc p0 p2 = some res) : kMl l yX1_mixParts wsX1_mixParts (kRm 4 0 0 90) dC dI cB cI cJ cZ [.long p0, .ref h0, .int p2] sz (wRow cJ cZ h0 h1 h2 h3 rb re ro rc) (res) (wRow cJ cZ h0 h1 h2 h3 rb re ro rc) 0 0 := by
  refine kmet_l (y := yX1_mixParts) (cc := cX1_mixParts) (maxL := 7) (ret := (some .long)) RX1 (kvJ 0 p0 (kvA 2 h0 (kvI 3 p2 kvE))) kpl_X1 rfl rfl (Nat.le_of_ble_eq_true rfl) rfl (fun p e s m below meth c A ls hx hb hr hml hts hown hlocks hP hK hG hD hA hS hl => ?_)
  have J6 : ∀ (n : Nat), ∀ (rb : Nat → Int64) (re : Nat → Int64) (ro : Nat → Int32) (rc : Int32) (x3 : Int32) (x4 : Int64) (x6 : Int32) (H : Heap) (locs : List Loc), va_P (dC, dI) vwCl (wRow cJ cZ h0 h1 h2 h3 rb re ro rc) H → va_D A (wRow cJ cZ h0 h1 h2 h3 rb re ro rc) → va_S A s.heap H locs → ∀ (ls : Array Slot), lv_has ls 7 (kvA 2 h0 (kvI 3 x3 (kvJ 4 x4 (kvI 6 x6 kvE)))) → f_X1_mixParts_6 n rb re rc x3 x4 x6 = some res → W p l e (headSpec wsX1_mixParts (kRm 4 0 0 90)).room s m ([.long p0, .ref h0, .int p2] : List Value).toArray below meth c H locs 0 0 (MQ below (kL (dC, dI) (res) (wRow cJ cZ h0 h1 h2 h3 rb re ro rc) A) ([.long p0, .ref h0, .int p2] : List Value).toArray s 0 0 A) (F0 m 6 ls []) := by
    intro n
    induction n with
    | zero =>
      intro rb re ro rc x3 x4 x6 H locs hP hD hS ls hl h
      have h := f_X1_mixParts_6_0.symm.trans h
      cases h
    | succ n ih =>
      intro rb re ro rc x3 x4 x6 H locs hP hD hS ls hl h
      have h := f_X1_mixParts_6_s.symm.trans h
      refine lv_iload hx hb (kdr dgX1_mixParts_0 0 4 rfl rfl) (lv_at hl 3 rfl) ?_
      refine lv_iconst (v := 4) hx hb (kdr dgX1_mixParts_0 0 5 rfl rfl) (by decide) ?_
      refine lv_icmp_ge (tgt := 32) hx hb (kdr dgX1_mixParts_0 0 6 rfl rfl) (by decide) (fun c1 => ?_) (fun c1 => ?_)
      · have h := g_t c1 h
        refine lv_lload hx hb (kdr dgX1_mixParts_0 1 6 rfl rfl) (lv_at hl 2 rfl) ?_
        have h := Option.some.inj h
        subst h
        exact kret_l (v := x4) hx hb hr hlocks hS hP (kdr dgX1_mixParts_0 1 7 rfl rfl)
      · have h := g_f c1 h
        refine lv_lload hx hb (kdr dgX1_mixParts_0 0 7 rfl rfl) (lv_at hl 2 rfl) ?_
        refine lv_aload_n hx hb (kdr dgX1_mixParts_0 0 8 rfl rfl) rfl (lv_at hl 0 rfl) ?_
        refine lv_iload_n hx hb (kdr dgX1_mixParts_0 0 9 rfl rfl) rfl (lv_at hl 1 rfl) ?_
        refine lv_iload hx hb (kdr dgX1_mixParts_0 1 0 rfl rfl) (lv_at hl 3 rfl) ?_
        obtain ⟨r2, g2, h⟩ := g_b h
        refine kq_i (wRow cJ cZ h0 h1 h2 h3 rb re ro rc) (fun qP qD qF => va_runS (As := [.ref h0, .int x3, .int x6]) (rest := [.long x4]) ⟨hx, hb, hml, hown, hts⟩ (c_X1_partIn l dC dI cB cI cJ cZ h0 h1 h2 h3 _ rb re ro rc x3 x6 r2 g2) (kcwS hts kw_433 kv_X1_partIn rfl rfl ⟨(Nat.le_of_ble_eq_true rfl), (Nat.le_of_ble_eq_true rfl)⟩) (kpS (A := A) qP hK qD hG) rfl rfl hl.1 rfl (lv_room (Nat.le_of_ble_eq_true rfl)) (kdr dgX1_mixParts_0 1 1 rfl rfl) ⟨(Nat.le_of_ble_eq_true rfl), (Nat.le_of_ble_eq_true rfl)⟩) hP hD hS hA kFr_Row (fun H locs hP hD hS br2 => ?_)
        obtain ⟨r3, g3, h⟩ := g_b h
        refine kq_l (wRow cJ cZ h0 h1 h2 h3 rb re ro rc) (fun qP qD qF => va_runS (As := [.long x4, .int r2]) (rest := []) ⟨hx, hb, hml, hown, hts⟩ (c_X1_mix l dC dI cB cI cJ cZ  _  x4 r2 r3 g3) (kcwS hts kw_336 kv_X1_mix rfl rfl ⟨(Nat.le_of_ble_eq_true rfl), (Nat.le_of_ble_eq_true rfl)⟩) (kpS (A := A) (kPnil) hK ((kDnil (A := A))) hG) rfl rfl hl.1 rfl (lv_room (Nat.le_of_ble_eq_true rfl)) (kdr dgX1_mixParts_0 1 2 rfl rfl) ⟨(Nat.le_of_ble_eq_true rfl), (Nat.le_of_ble_eq_true rfl)⟩) hP hD hS hA kFr_n (fun H locs hP hD hS => ?_)
        refine lv_lstore (lv' := (kvJ 4 r3 (kvA 2 h0 (kvI 3 x3 (kvI 6 x6 kvE))))) hx hb (kdr dgX1_mixParts_0 1 3 rfl rfl) hl (by decide) rfl (fun ls hl => ?_)
        refine lv_iinc (v := x6 + 1) (lv' := (kvI 6 (x6 + 1) (kvJ 4 r3 (kvA 2 h0 (kvI 3 x3 kvE))))) hx hb (kdr dgX1_mixParts_0 1 4 rfl rfl) hl (k := 3) rfl rfl (by decide) rfl (fun ls hl => ?_)
        refine lv_goto (tgt := 6) hx hb (kdr dgX1_mixParts_0 1 5 rfl rfl) (by decide) ?_
        exact ih rb re ro rc x3 r3 (x6 + 1) _ _ hP hD hS ls (lv_sub hl [2, 3, 1, 0] rfl) h
  have h := f_X1_mixParts_e.symm.trans hf
  refine lv_lload_n hx hb (kdr dgX1_mixParts_0 0 0 rfl rfl) rfl (lv_at hl 0 rfl) ?_
  refine lv_lstore (lv' := (kvJ 4 p0 (kvJ 0 p0 (kvA 2 h0 (kvI 3 p2 kvE))))) hx hb (kdr dgX1_mixParts_0 0 1 rfl rfl) hl (by decide) rfl (fun ls hl => ?_)
  refine lv_iconst (v := 0) hx hb (kdr dgX1_mixParts_0 0 2 rfl rfl) (by decide) ?_
  refine lv_istore (lv' := (kvI 6 0 (kvJ 4 p0 (kvJ 0 p0 (kvA 2 h0 (kvI 3 p2 kvE)))))) hx hb (kdr dgX1_mixParts_0 0 3 rfl rfl) hl (by decide) rfl (fun ls hl => ?_)
  exact J6 24 rb re ro rc p2 p0 0 _ _ hP hD hS ls (lv_sub hl [3, 4, 1, 0] rfl) h
noncomputable abbrev wsX1_mixCells : List Cond := kWs yX1_mixCells cX1_mixCells 6 (some .long)
noncomputable def f_X1_mixCells_5 : Nat → (Nat → Int64) → (Nat → Int64) → (Nat → Int64) → (Int32) → (Nat → Int64) → (Nat → Int64) → (Int32) → (Int64) → (Int32) → Option (Int64)
  | 0, _, _, _, _, _, _, _, _, _ => none
  | n + 1, ce, sb, se, sc, fb, fe, fc, x3, x5 =>
    if 4 ≤ x5 then
      some x3
    else
      if ix x5 4 then
        (f_X1_secondOf (ce x5.toNatClampNeg)).bind fun r3 =>
        (f_X1_mix x3 r3).bind fun r4 =>
        (f_X1_nanoOf (ce x5.toNatClampNeg)).bind fun r5 =>
        (f_X1_mix r4 r5).bind fun r6 =>
        (f_X0_firstWith sb se sc (ce x5.toNatClampNeg)).bind fun r7 =>
        (f_X1_mix r6 r7).bind fun r8 =>
        (f_X0_firstWith fb fe fc (ce x5.toNatClampNeg)).bind fun r9 =>
        (f_X1_mix r8 r9).bind fun r10 =>
        f_X1_mixCells_5 n ce sb se sc fb fe fc r10 (x5 + 1)
      else none
theorem f_X1_mixCells_5_0 {ce : Nat → Int64} {sb : Nat → Int64} {se : Nat → Int64} {sc : Int32} {fb : Nat → Int64} {fe : Nat → Int64} {fc : Int32} {x3 : Int64} {x5 : Int32} : f_X1_mixCells_5 0 ce sb se sc fb fe fc x3 x5 = none := rfl
theorem f_X1_mixCells_5_s {n : Nat} {ce : Nat → Int64} {sb : Nat → Int64} {se : Nat → Int64} {sc : Int32} {fb : Nat → Int64} {fe : Nat → Int64} {fc : Int32} {x3 : Int64} {x5 : Int32} : f_X1_mixCells_5 (n + 1) ce sb se sc fb fe fc x3 x5 =
  if 4 ≤ x5 then
    some x3
  else
    if ix x5 4 then
      (f_X1_secondOf (ce x5.toNatClampNeg)).bind fun r3 =>
      (f_X1_mix x3 r3).bind fun r4 =>
      (f_X1_nanoOf (ce x5.toNatClampNeg)).bind fun r5 =>
      (f_X1_mix r4 r5).bind fun r6 =>
      (f_X0_firstWith sb se sc (ce x5.toNatClampNeg)).bind fun r7 =>
      (f_X1_mix r6 r7).bind fun r8 =>
      (f_X0_firstWith fb fe fc (ce x5.toNatClampNeg)).bind fun r9 =>
      (f_X1_mix r8 r9).bind fun r10 =>
      f_X1_mixCells_5 n ce sb se sc fb fe fc r10 (x5 + 1)
    else none := rfl
noncomputable def f_X1_mixCells (ce : Nat → Int64) (sb : Nat → Int64) (se : Nat → Int64) (sc : Int32) (fb : Nat → Int64) (fe : Nat → Int64) (fc : Int32) (p0 : Int64) : Option (Int64) :=
  f_X1_mixCells_5 24 ce sb se sc fb fe fc p0 0
theorem f_X1_mixCells_e {ce : Nat → Int64} {sb : Nat → Int64} {se : Nat → Int64} {sc : Int32} {fb : Nat → Int64} {fe : Nat → Int64} {fc : Int32} {p0 : Int64} : f_X1_mixCells ce sb se sc fb fe fc p0 = 
  f_X1_mixCells_5 24 ce sb se sc fb fe fc p0 0 := rfl
set_option maxHeartbeats 4000000 in
set_option maxRecDepth 100000 in
theorem c_X1_mixCells (l : Launch) (dC : Nat → ClassId) (dI : Nat → Nat → Nat) (cB cI cJ cZ : ClassId) (a : Nat → Nat) (sz : Nat) (ce : Nat → Int64) (fr : Int64) (un : Int64) (sb : Nat → Int64) (se : Nat → Int64) (so : Nat → Int32) (sc : Int32) (wb : Nat → Int64) (we : Nat → Int64) (wo : Nat → Int32) (wc : Int32) (fb : Nat → Int64) (fe : Nat → Int64) (fo : Nat → Int32) (fc : Int32) (rm : Nat → Int32) (ac : Int32) (rf : Int32) (kn : Int32) (p0 : Int64) (res : Int64) (hf : f_X1_mixCells ce sb se sc fb fe fc p0 = some res) : kMl l yX1_mixCells wsX1_mixCells (kRm 2 0 0 48) dC dI cB cI cJ cZ [.ref (a 0), .long p0] sz (wSB cI cJ cZ a ce fr un sb se so sc wb we wo wc fb fe fo fc rm ac rf kn) (res) (wSB cI cJ cZ a ce fr un sb se so sc wb we wo wc fb fe fo fc rm ac rf kn) 0 0 := by
  refine kmet_l (y := yX1_mixCells) (cc := cX1_mixCells) (maxL := 6) (ret := (some .long)) RX1 (kvA 0 (a 0) (kvJ 1 p0 kvE)) kpl_X1 rfl rfl (Nat.le_of_ble_eq_true rfl) rfl (fun p e s m below meth c A ls hx hb hr hml hts hown hlocks hP hK hG hD hA hS hl => ?_)
  have hw0 := hts (.fieldLink RX1 9 "Spanbooker" "cells" "[J") (List.mem_cons_of_mem _ kw_107)
  have hw1 := hts (.fieldLink RX1 25 "Spanbooker" "spanRow" "LSpanbooker$Row;") (List.mem_cons_of_mem _ kw_110)
  have hw2 := hts (.fieldLink RX1 32 "Spanbooker" "freeRow" "LSpanbooker$Row;") (List.mem_cons_of_mem _ kw_112)
  have hiX1 : ∀ w ∈ u_ws RX1 TX1 10, w ∈ wsX1_mixCells := fun w h => List.mem_cons_of_mem _ (ku_X1 w h)
  have J5 : ∀ (n : Nat), ∀ (ce : Nat → Int64) (fr : Int64) (un : Int64) (sb : Nat → Int64) (se : Nat → Int64) (so : Nat → Int32) (sc : Int32) (wb : Nat → Int64) (we : Nat → Int64) (wo : Nat → Int32) (wc : Int32) (fb : Nat → Int64) (fe : Nat → Int64) (fo : Nat → Int32) (fc : Int32) (rm : Nat → Int32) (ac : Int32) (rf : Int32) (kn : Int32) (x3 : Int64) (x5 : Int32) (H : Heap) (locs : List Loc), va_P (dC, dI) vwCl (wSB cI cJ cZ a ce fr un sb se so sc wb we wo wc fb fe fo fc rm ac rf kn) H → va_D A (wSB cI cJ cZ a ce fr un sb se so sc wb we wo wc fb fe fo fc rm ac rf kn) → va_S A s.heap H locs → ∀ (ls : Array Slot), lv_has ls 6 (kvA 0 (a 0) (kvJ 3 x3 (kvI 5 x5 kvE))) → f_X1_mixCells_5 n ce sb se sc fb fe fc x3 x5 = some res → W p l e (headSpec wsX1_mixCells (kRm 2 0 0 48)).room s m ([.ref (a 0), .long p0] : List Value).toArray below meth c H locs 0 0 (MQ below (kL (dC, dI) (res) (wSB cI cJ cZ a ce fr un sb se so sc wb we wo wc fb fe fo fc rm ac rf kn) A) ([.ref (a 0), .long p0] : List Value).toArray s 0 0 A) (F0 m 5 ls []) := by
    intro n
    induction n with
    | zero =>
      intro ce fr un sb se so sc wb we wo wc fb fe fo fc rm ac rf kn x3 x5 H locs hP hD hS ls hl h
      have h := f_X1_mixCells_5_0.symm.trans h
      cases h
    | succ n ih =>
      intro ce fr un sb se so sc wb we wo wc fb fe fo fc rm ac rf kn x3 x5 H locs hP hD hS ls hl h
      have h := f_X1_mixCells_5_s.symm.trans h
      refine lv_iload hx hb (kdr dgX1_mixCells_0 0 4 rfl rfl) (lv_at hl 2 rfl) ?_
      refine lv_iconst (v := 4) hx hb (kdr dgX1_mixCells_0 0 5 rfl rfl) (by decide) ?_
      refine lv_icmp_ge (tgt := 85) hx hb (kdr dgX1_mixCells_0 0 6 rfl rfl) (by decide) (fun c1 => ?_) (fun c1 => ?_)
      · have h := g_t c1 h
        refine lv_lload_n hx hb (kdr dgX1_mixCells_0 4 5 rfl rfl) rfl (lv_at hl 1 rfl) ?_
        have h := Option.some.inj h
        subst h
        exact kret_l (v := x3) hx hb hr hlocks hS hP (kdr dgX1_mixCells_0 4 6 rfl rfl)
      · have h := g_f c1 h
        refine lv_lload_n hx hb (kdr dgX1_mixCells_0 0 7 rfl rfl) rfl (lv_at hl 1 rfl) ?_
        refine lv_aload_n hx hb (kdr dgX1_mixCells_0 0 8 rfl rfl) rfl (lv_at hl 0 rfl) ?_
        refine va_get (D := (dC, dI)) (ci := 3) (v := .ref (a 1)) (C := RX1) (T := TX1) (N := 10) hx hb hts hiX1 hown hK hP 0 rfl rfl 0 (by decide) hw0 (fun _ h9 => h9) rfl (kdr dgX1_mixCells_0 0 9 rfl rfl) ?_
        refine lv_iload hx hb (kdr dgX1_mixCells_0 1 0 rfl rfl) (lv_at hl 2 rfl) ?_
        obtain ⟨z1, h⟩ := g_if h
        refine va_lald hx hb hK hP 1 2 rfl rfl (ix_in z1) (kdr dgX1_mixCells_0 1 1 rfl rfl) ?_
        obtain ⟨r3, g3, h⟩ := g_b h
        refine kq_i (wSB cI cJ cZ a ce fr un sb se so sc wb we wo wc fb fe fo fc rm ac rf kn) (fun qP qD qF => va_runS (As := [.long (ce x5.toNatClampNeg)]) (rest := [.long x3]) ⟨hx, hb, hml, hown, hts⟩ (c_X1_secondOf l dC dI cB cI cJ cZ  _  (ce x5.toNatClampNeg) r3 g3) (kcwS hts kw_329 kv_X1_secondOf rfl rfl ⟨(Nat.le_of_ble_eq_true rfl), (Nat.le_of_ble_eq_true rfl)⟩) (kpS (A := A) (kPnil) hK ((kDnil (A := A))) hG) rfl rfl hl.1 rfl (lv_room (Nat.le_of_ble_eq_true rfl)) (kdr dgX1_mixCells_0 1 2 rfl rfl) ⟨(Nat.le_of_ble_eq_true rfl), (Nat.le_of_ble_eq_true rfl)⟩) hP hD hS hA kFr_n (fun H locs hP hD hS br3 => ?_)
        obtain ⟨r4, g4, h⟩ := g_b h
        refine kq_l (wSB cI cJ cZ a ce fr un sb se so sc wb we wo wc fb fe fo fc rm ac rf kn) (fun qP qD qF => va_runS (As := [.long x3, .int r3]) (rest := []) ⟨hx, hb, hml, hown, hts⟩ (c_X1_mix l dC dI cB cI cJ cZ  _  x3 r3 r4 g4) (kcwS hts kw_336 kv_X1_mix rfl rfl ⟨(Nat.le_of_ble_eq_true rfl), (Nat.le_of_ble_eq_true rfl)⟩) (kpS (A := A) (kPnil) hK ((kDnil (A := A))) hG) rfl rfl hl.1 rfl (lv_room (Nat.le_of_ble_eq_true rfl)) (kdr dgX1_mixCells_0 1 3 rfl rfl) ⟨(Nat.le_of_ble_eq_true rfl), (Nat.le_of_ble_eq_true rfl)⟩) hP hD hS hA kFr_n (fun H locs hP hD hS => ?_)
        refine lv_lstore_n (lv' := (kvJ 3 r4 (kvA 0 (a 0) (kvI 5 x5 kvE)))) hx hb (kdr dgX1_mixCells_0 1 4 rfl rfl) rfl hl (by decide) rfl (fun ls hl => ?_)
        refine lv_lload_n hx hb (kdr dgX1_mixCells_0 1 5 rfl rfl) rfl (lv_at hl 0 rfl) ?_
        refine lv_aload_n hx hb (kdr dgX1_mixCells_0 1 6 rfl rfl) rfl (lv_at hl 1 rfl) ?_
        refine va_get (D := (dC, dI)) (ci := 3) (v := .ref (a 1)) (C := RX1) (T := TX1) (N := 10) hx hb hts hiX1 hown hK hP 0 rfl rfl 0 (by decide) hw0 (fun _ h9 => h9) rfl (kdr dgX1_mixCells_0 1 7 rfl rfl) ?_
        refine lv_iload hx hb (kdr dgX1_mixCells_0 1 8 rfl rfl) (lv_at hl 2 rfl) ?_
        refine va_lald hx hb hK hP 1 2 rfl rfl (ix_in z1) (kdr dgX1_mixCells_0 1 9 rfl rfl) ?_
        obtain ⟨r5, g5, h⟩ := g_b h
        refine kq_i (wSB cI cJ cZ a ce fr un sb se so sc wb we wo wc fb fe fo fc rm ac rf kn) (fun qP qD qF => va_runS (As := [.long (ce x5.toNatClampNeg)]) (rest := [.long r4]) ⟨hx, hb, hml, hown, hts⟩ (c_X1_nanoOf l dC dI cB cI cJ cZ  _  (ce x5.toNatClampNeg) r5 g5) (kcwS hts kw_340 kv_X1_nanoOf rfl rfl ⟨(Nat.le_of_ble_eq_true rfl), (Nat.le_of_ble_eq_true rfl)⟩) (kpS (A := A) (kPnil) hK ((kDnil (A := A))) hG) rfl rfl hl.1 rfl (lv_room (Nat.le_of_ble_eq_true rfl)) (kdr dgX1_mixCells_0 2 0 rfl rfl) ⟨(Nat.le_of_ble_eq_true rfl), (Nat.le_of_ble_eq_true rfl)⟩) hP hD hS hA kFr_n (fun H locs hP hD hS br5 => ?_)
        obtain ⟨r6, g6, h⟩ := g_b h
        refine kq_l (wSB cI cJ cZ a ce fr un sb se so sc wb we wo wc fb fe fo fc rm ac rf kn) (fun qP qD qF => va_runS (As := [.long r4, .int r5]) (rest := []) ⟨hx, hb, hml, hown, hts⟩ (c_X1_mix l dC dI cB cI cJ cZ  _  r4 r5 r6 g6) (kcwS hts kw_336 kv_X1_mix rfl rfl ⟨(Nat.le_of_ble_eq_true rfl), (Nat.le_of_ble_eq_true rfl)⟩) (kpS (A := A) (kPnil) hK ((kDnil (A := A))) hG) rfl rfl hl.1 rfl (lv_room (Nat.le_of_ble_eq_true rfl)) (kdr dgX1_mixCells_0 2 1 rfl rfl) ⟨(Nat.le_of_ble_eq_true rfl), (Nat.le_of_ble_eq_true rfl)⟩) hP hD hS hA kFr_n (fun H locs hP hD hS => ?_)
        refine lv_lstore_n (lv' := (kvJ 3 r6 (kvA 0 (a 0) (kvI 5 x5 kvE)))) hx hb (kdr dgX1_mixCells_0 2 2 rfl rfl) rfl hl (by decide) rfl (fun ls hl => ?_)
        refine lv_lload_n hx hb (kdr dgX1_mixCells_0 2 3 rfl rfl) rfl (lv_at hl 0 rfl) ?_
        refine lv_aload_n hx hb (kdr dgX1_mixCells_0 2 4 rfl rfl) rfl (lv_at hl 1 rfl) ?_
        refine va_get (D := (dC, dI)) (ci := 3) (v := .ref (a 2)) (C := RX1) (T := TX1) (N := 10) hx hb hts hiX1 hown hK hP 0 rfl rfl 3 (by decide) hw1 (fun _ h9 => h9) rfl (kdr dgX1_mixCells_0 2 5 rfl rfl) ?_
        refine lv_aload_n hx hb (kdr dgX1_mixCells_0 2 6 rfl rfl) rfl (lv_at hl 1 rfl) ?_
        refine va_get (D := (dC, dI)) (ci := 3) (v := .ref (a 1)) (C := RX1) (T := TX1) (N := 10) hx hb hts hiX1 hown hK hP 0 rfl rfl 0 (by decide) hw0 (fun _ h9 => h9) rfl (kdr dgX1_mixCells_0 2 7 rfl rfl) ?_
        refine lv_iload hx hb (kdr dgX1_mixCells_0 2 8 rfl rfl) (lv_at hl 2 rfl) ?_
        refine va_lald hx hb hK hP 1 2 rfl rfl (ix_in z1) (kdr dgX1_mixCells_0 2 9 rfl rfl) ?_
        obtain ⟨r7, g7, h⟩ := g_b h
        refine kq_i (wSB cI cJ cZ a ce fr un sb se so sc wb we wo wc fb fe fo fc rm ac rf kn) (fun qP qD qF => va_runV (As := [.long (ce x5.toNatClampNeg)]) (rest := [.long r6]) ⟨hx, hb, hml, hown, hts⟩ (c_X0_firstWith l dC dI cB cI cJ cZ (a 2) (a 3) (a 4) (a 5) _ sb se so sc (ce x5.toNatClampNeg) r7 g7) (kcwV hts kw_206 kv_X0_firstWith rfl rfl ⟨(Nat.le_of_ble_eq_true rfl), (Nat.le_of_ble_eq_true rfl)⟩) (kpV (A := A) qP hK qD hG (krecv_2 (q0 := 2) hK hP rfl)) rfl rfl hl.1 rfl (lv_room (Nat.le_of_ble_eq_true rfl)) (kdr dgX1_mixCells_0 3 0 rfl rfl) ⟨(Nat.le_of_ble_eq_true rfl), (Nat.le_of_ble_eq_true rfl)⟩) hP hD hS hA kFr_SBs (fun H locs hP hD hS br7 => ?_)
        obtain ⟨r8, g8, h⟩ := g_b h
        refine kq_l (wSB cI cJ cZ a ce fr un sb se so sc wb we wo wc fb fe fo fc rm ac rf kn) (fun qP qD qF => va_runS (As := [.long r6, .int r7]) (rest := []) ⟨hx, hb, hml, hown, hts⟩ (c_X1_mix l dC dI cB cI cJ cZ  _  r6 r7 r8 g8) (kcwS hts kw_336 kv_X1_mix rfl rfl ⟨(Nat.le_of_ble_eq_true rfl), (Nat.le_of_ble_eq_true rfl)⟩) (kpS (A := A) (kPnil) hK ((kDnil (A := A))) hG) rfl rfl hl.1 rfl (lv_room (Nat.le_of_ble_eq_true rfl)) (kdr dgX1_mixCells_0 3 1 rfl rfl) ⟨(Nat.le_of_ble_eq_true rfl), (Nat.le_of_ble_eq_true rfl)⟩) hP hD hS hA kFr_n (fun H locs hP hD hS => ?_)
        refine lv_lstore_n (lv' := (kvJ 3 r8 (kvA 0 (a 0) (kvI 5 x5 kvE)))) hx hb (kdr dgX1_mixCells_0 3 2 rfl rfl) rfl hl (by decide) rfl (fun ls hl => ?_)
        refine lv_lload_n hx hb (kdr dgX1_mixCells_0 3 3 rfl rfl) rfl (lv_at hl 0 rfl) ?_
        refine lv_aload_n hx hb (kdr dgX1_mixCells_0 3 4 rfl rfl) rfl (lv_at hl 1 rfl) ?_
        refine va_get (D := (dC, dI)) (ci := 3) (v := .ref (a 10)) (C := RX1) (T := TX1) (N := 10) hx hb hts hiX1 hown hK hP 0 rfl rfl 5 (by decide) hw2 (fun _ h9 => h9) rfl (kdr dgX1_mixCells_0 3 5 rfl rfl) ?_
        refine lv_aload_n hx hb (kdr dgX1_mixCells_0 3 6 rfl rfl) rfl (lv_at hl 1 rfl) ?_
        refine va_get (D := (dC, dI)) (ci := 3) (v := .ref (a 1)) (C := RX1) (T := TX1) (N := 10) hx hb hts hiX1 hown hK hP 0 rfl rfl 0 (by decide) hw0 (fun _ h9 => h9) rfl (kdr dgX1_mixCells_0 3 7 rfl rfl) ?_
        refine lv_iload hx hb (kdr dgX1_mixCells_0 3 8 rfl rfl) (lv_at hl 2 rfl) ?_
        refine va_lald hx hb hK hP 1 2 rfl rfl (ix_in z1) (kdr dgX1_mixCells_0 3 9 rfl rfl) ?_
        obtain ⟨r9, g9, h⟩ := g_b h
        refine kq_i (wSB cI cJ cZ a ce fr un sb se so sc wb we wo wc fb fe fo fc rm ac rf kn) (fun qP qD qF => va_runV (As := [.long (ce x5.toNatClampNeg)]) (rest := [.long r8]) ⟨hx, hb, hml, hown, hts⟩ (c_X0_firstWith l dC dI cB cI cJ cZ (a 10) (a 11) (a 12) (a 13) _ fb fe fo fc (ce x5.toNatClampNeg) r9 g9) (kcwV hts kw_206 kv_X0_firstWith rfl rfl ⟨(Nat.le_of_ble_eq_true rfl), (Nat.le_of_ble_eq_true rfl)⟩) (kpV (A := A) qP hK qD hG (krecv_2 (q0 := 10) hK hP rfl)) rfl rfl hl.1 rfl (lv_room (Nat.le_of_ble_eq_true rfl)) (kdr dgX1_mixCells_0 4 0 rfl rfl) ⟨(Nat.le_of_ble_eq_true rfl), (Nat.le_of_ble_eq_true rfl)⟩) hP hD hS hA kFr_SBf (fun H locs hP hD hS br9 => ?_)
        obtain ⟨r10, g10, h⟩ := g_b h
        refine kq_l (wSB cI cJ cZ a ce fr un sb se so sc wb we wo wc fb fe fo fc rm ac rf kn) (fun qP qD qF => va_runS (As := [.long r8, .int r9]) (rest := []) ⟨hx, hb, hml, hown, hts⟩ (c_X1_mix l dC dI cB cI cJ cZ  _  r8 r9 r10 g10) (kcwS hts kw_336 kv_X1_mix rfl rfl ⟨(Nat.le_of_ble_eq_true rfl), (Nat.le_of_ble_eq_true rfl)⟩) (kpS (A := A) (kPnil) hK ((kDnil (A := A))) hG) rfl rfl hl.1 rfl (lv_room (Nat.le_of_ble_eq_true rfl)) (kdr dgX1_mixCells_0 4 1 rfl rfl) ⟨(Nat.le_of_ble_eq_true rfl), (Nat.le_of_ble_eq_true rfl)⟩) hP hD hS hA kFr_n (fun H locs hP hD hS => ?_)
        refine lv_lstore_n (lv' := (kvJ 3 r10 (kvA 0 (a 0) (kvI 5 x5 kvE)))) hx hb (kdr dgX1_mixCells_0 4 2 rfl rfl) rfl hl (by decide) rfl (fun ls hl => ?_)
        refine lv_iinc (v := x5 + 1) (lv' := (kvI 5 (x5 + 1) (kvJ 3 r10 (kvA 0 (a 0) kvE)))) hx hb (kdr dgX1_mixCells_0 4 3 rfl rfl) hl (k := 2) rfl rfl (by decide) rfl (fun ls hl => ?_)
        refine lv_goto (tgt := 5) hx hb (kdr dgX1_mixCells_0 4 4 rfl rfl) (by decide) ?_
        exact ih ce fr un sb se so sc wb we wo wc fb fe fo fc rm ac rf kn r10 (x5 + 1) _ _ hP hD hS ls (lv_sub hl [2, 1, 0] rfl) h
  have h := f_X1_mixCells_e.symm.trans hf
  refine lv_lload_n hx hb (kdr dgX1_mixCells_0 0 0 rfl rfl) rfl (lv_at hl 1 rfl) ?_
  refine lv_lstore_n (lv' := (kvJ 3 p0 (kvA 0 (a 0) (kvJ 1 p0 kvE)))) hx hb (kdr dgX1_mixCells_0 0 1 rfl rfl) rfl hl (by decide) rfl (fun ls hl => ?_)
  refine lv_iconst (v := 0) hx hb (kdr dgX1_mixCells_0 0 2 rfl rfl) (by decide) ?_
  refine lv_istore (lv' := (kvI 5 0 (kvJ 3 p0 (kvA 0 (a 0) (kvJ 1 p0 kvE))))) hx hb (kdr dgX1_mixCells_0 0 3 rfl rfl) hl (by decide) rfl (fun ls hl => ?_)
  exact J5 24 ce fr un sb se so sc wb we wo wc fb fe fo fc rm ac rf kn p0 0 _ _ hP hD hS ls (lv_sub hl [2, 1, 0] rfl) h
noncomputable abbrev wsX1_mixSpans : List Cond := kWs yX1_mixSpans cX1_mixSpans 6 (some .long)
noncomputable def f_X1_mixSpans_84 (K43 : (Nat → Int64) → (Nat → Int64) → (Nat → Int32) → (Int32) → (Int64) → (Int32) → Option (Int64)) (sb : Nat → Int64) (se : Nat → Int64) (so : Nat → Int32) (sc : Int32) (x5 : Int32) (y0 : Int32) (y1 : Int64) : Option (Int64) :=
  (f_X1_mix y1 y0).bind fun r1 =>
  K43 sb se so sc r1 (x5 + 1)
theorem f_X1_mixSpans_84_e {K43 : (Nat → Int64) → (Nat → Int64) → (Nat → Int32) → (Int32) → (Int64) → (Int32) → Option (Int64)} {sb : Nat → Int64} {se : Nat → Int64} {so : Nat → Int32} {sc : Int32} {x5 : Int32} {y0 : Int32} {y1 : Int64} : f_X1_mixSpans_84 K43 sb se so sc x5 y0 y1 =
  (f_X1_mix y1 y0).bind fun r1 =>
  K43 sb se so sc r1 (x5 + 1) := rfl
noncomputable def f_X1_mixSpans_43 : Nat → (Nat → Int64) → (Nat → Int64) → (Nat → Int32) → (Int32) → (Int64) → (Int32) → Option (Int64)
  | 0, _, _, _, _, _, _ => none
  | n + 1, sb, se, so, sc, x3, x5 =>
    (f_X0_count sc).bind fun r1 =>
    if r1 ≤ x5 then
      (f_X1_clashes sb se sc).bind fun r3 =>
      (f_X1_mix x3 r3).bind fun r4 =>
      (f_X1_deepest sb se sc).bind fun r5 =>
      (f_X1_mix r4 r5).bind fun r6 =>
      some r6
    else
      (f_X1_mixParts sb se sc x3 x5).bind fun r3 =>
      (f_X0_isOver so sc x5).bind fun r4 =>
      if r4 = 0 then
        f_X1_mixSpans_84 (f_X1_mixSpans_43 n) sb se so sc x5 0 r3
      else
        f_X1_mixSpans_84 (f_X1_mixSpans_43 n) sb se so sc x5 1 r3
theorem f_X1_mixSpans_43_0 {sb : Nat → Int64} {se : Nat → Int64} {so : Nat → Int32} {sc : Int32} {x3 : Int64} {x5 : Int32} : f_X1_mixSpans_43 0 sb se so sc x3 x5 = none := rfl
theorem f_X1_mixSpans_43_s {n : Nat} {sb : Nat → Int64} {se : Nat → Int64} {so : Nat → Int32} {sc : Int32} {x3 : Int64} {x5 : Int32} : f_X1_mixSpans_43 (n + 1) sb se so sc x3 x5 =
  (f_X0_count sc).bind fun r1 =>
  if r1 ≤ x5 then
    (f_X1_clashes sb se sc).bind fun r3 =>
    (f_X1_mix x3 r3).bind fun r4 =>
    (f_X1_deepest sb se sc).bind fun r5 =>
    (f_X1_mix r4 r5).bind fun r6 =>
    some r6
  else
    (f_X1_mixParts sb se sc x3 x5).bind fun r3 =>
    (f_X0_isOver so sc x5).bind fun r4 =>
    if r4 = 0 then
      f_X1_mixSpans_84 (f_X1_mixSpans_43 n) sb se so sc x5 0 r3
    else
      f_X1_mixSpans_84 (f_X1_mixSpans_43 n) sb se so sc x5 1 r3 := rfl
noncomputable def f_X1_mixSpans_5 : Nat → (Int64) → (Int64) → (Nat → Int64) → (Nat → Int64) → (Nat → Int32) → (Int32) → (Int64) → (Int32) → Option (Int64)
  | 0, _, _, _, _, _, _, _, _ => none
  | n + 1, fr, un, sb, se, so, sc, x3, x5 =>
    if 4 ≤ x5 then
      (f_X0_count sc).bind fun r2 =>
      (f_X1_mix x3 r2).bind fun r3 =>
      f_X1_mixSpans_43 24 sb se so sc r3 0
    else
      (f_X1_calendar fr un x5).bind fun r2 =>
      (f_X1_mix x3 r2).bind fun r3 =>
      f_X1_mixSpans_5 n fr un sb se so sc r3 (x5 + 1)
theorem f_X1_mixSpans_5_0 {fr : Int64} {un : Int64} {sb : Nat → Int64} {se : Nat → Int64} {so : Nat → Int32} {sc : Int32} {x3 : Int64} {x5 : Int32} : f_X1_mixSpans_5 0 fr un sb se so sc x3 x5 = none := rfl
theorem f_X1_mixSpans_5_s {n : Nat} {fr : Int64} {un : Int64} {sb : Nat → Int64} {se : Nat → Int64} {so : Nat → Int32} {sc : Int32} {x3 : Int64} {x5 : Int32} : f_X1_mixSpans_5 (n + 1) fr un sb se so sc x3 x5 =
  if 4 ≤ x5 then
    (f_X0_count sc).bind fun r2 =>
    (f_X1_mix x3 r2).bind fun r3 =>
    f_X1_mixSpans_43 24 sb se so sc r3 0
  else
    (f_X1_calendar fr un x5).bind fun r2 =>
    (f_X1_mix x3 r2).bind fun r3 =>
    f_X1_mixSpans_5 n fr un sb se so sc r3 (x5 + 1) := rfl
noncomputable def f_X1_mixSpans (fr : Int64) (un : Int64) (sb : Nat → Int64) (se : Nat → Int64) (so : Nat → Int32) (sc : Int32) (p0 : Int64) : Option (Int64) :=
  f_X1_mixSpans_5 24 fr un sb se so sc p0 0
theorem f_X1_mixSpans_e {fr : Int64} {un : Int64} {sb : Nat → Int64} {se : Nat → Int64} {so : Nat → Int32} {sc : Int32} {p0 : Int64} : f_X1_mixSpans fr un sb se so sc p0 = 
  f_X1_mixSpans_5 24 fr un sb se so sc p0 0 := rfl
set_option maxHeartbeats 4000000 in
set_option maxRecDepth 100000 in
theorem c_X1_mixSpans (l : Launch) (dC : Nat → ClassId) (dI : Nat → Nat → Nat) (cB cI cJ cZ : ClassId) (a : Nat → Nat) (sz : Nat) (ce : Nat → Int64) (fr : Int64) (un : Int64) (sb : Nat → Int64) (se : Nat → Int64) (so : Nat → Int32) (sc : Int32) (wb : Nat → Int64) (we : Nat → Int64) (wo : Nat → Int32) (wc : Int32) (fb : Nat → Int64) (fe : Nat → Int64) (fo : Nat → Int32) (fc : Int32) (rm : Nat → Int32) (ac : Int32) (rf : Int32) (kn : Int32) (p0 : Int64) (res : Int64) (hf : f_X1_mixSpans fr un sb se so sc p0 = some res) : kMl l yX1_mixSpans wsX1_mixSpans (kRm 5 0 0 116) dC dI cB cI cJ cZ [.ref (a 0), .long p0] sz (wSB cI cJ cZ a ce fr un sb se so sc wb we wo wc fb fe fo fc rm ac rf kn) (res) (wSB cI cJ cZ a ce fr un sb se so sc wb we wo wc fb fe fo fc rm ac rf kn) 0 0 := by
  refine kmet_l (y := yX1_mixSpans) (cc := cX1_mixSpans) (maxL := 6) (ret := (some .long)) RX1 (kvA 0 (a 0) (kvJ 1 p0 kvE)) kpl_X1 rfl rfl (Nat.le_of_ble_eq_true rfl) rfl (fun p e s m below meth c A ls hx hb hr hml hts hown hlocks hP hK hG hD hA hS hl => ?_)
  have hw0 := hts (.fieldLink RX1 25 "Spanbooker" "spanRow" "LSpanbooker$Row;") (List.mem_cons_of_mem _ kw_110)
  have hiX1 : ∀ w ∈ u_ws RX1 TX1 10, w ∈ wsX1_mixSpans := fun w h => List.mem_cons_of_mem _ (ku_X1 w h)
  have J84 : ∀ (K43 : (Nat → Int64) → (Nat → Int64) → (Nat → Int32) → (Int32) → (Int64) → (Int32) → Option (Int64)), (∀ (ce : Nat → Int64) (fr : Int64) (un : Int64) (sb : Nat → Int64) (se : Nat → Int64) (so : Nat → Int32) (sc : Int32) (wb : Nat → Int64) (we : Nat → Int64) (wo : Nat → Int32) (wc : Int32) (fb : Nat → Int64) (fe : Nat → Int64) (fo : Nat → Int32) (fc : Int32) (rm : Nat → Int32) (ac : Int32) (rf : Int32) (kn : Int32) (x3 : Int64) (x5 : Int32) (H : Heap) (locs : List Loc), va_P (dC, dI) vwCl (wSB cI cJ cZ a ce fr un sb se so sc wb we wo wc fb fe fo fc rm ac rf kn) H → va_D A (wSB cI cJ cZ a ce fr un sb se so sc wb we wo wc fb fe fo fc rm ac rf kn) → va_S A s.heap H locs → ∀ (ls : Array Slot), lv_has ls 6 (kvA 0 (a 0) (kvJ 3 x3 (kvI 5 x5 kvE))) → K43 sb se so sc x3 x5 = some res → W p l e (headSpec wsX1_mixSpans (kRm 5 0 0 116)).room s m ([.ref (a 0), .long p0] : List Value).toArray below meth c H locs 0 0 (MQ below (kL (dC, dI) (res) (wSB cI cJ cZ a ce fr un sb se so sc wb we wo wc fb fe fo fc rm ac rf kn) A) ([.ref (a 0), .long p0] : List Value).toArray s 0 0 A) (F0 m 43 ls [])) → ∀ (ce : Nat → Int64) (fr : Int64) (un : Int64) (sb : Nat → Int64) (se : Nat → Int64) (so : Nat → Int32) (sc : Int32) (wb : Nat → Int64) (we : Nat → Int64) (wo : Nat → Int32) (wc : Int32) (fb : Nat → Int64) (fe : Nat → Int64) (fo : Nat → Int32) (fc : Int32) (rm : Nat → Int32) (ac : Int32) (rf : Int32) (kn : Int32) (x5 : Int32) (y0 : Int32) (y1 : Int64) (H : Heap) (locs : List Loc), va_P (dC, dI) vwCl (wSB cI cJ cZ a ce fr un sb se so sc wb we wo wc fb fe fo fc rm ac rf kn) H → va_D A (wSB cI cJ cZ a ce fr un sb se so sc wb we wo wc fb fe fo fc rm ac rf kn) → va_S A s.heap H locs → ∀ (ls : Array Slot), lv_has ls 6 (kvA 0 (a 0) (kvI 5 x5 kvE)) → f_X1_mixSpans_84 K43 sb se so sc x5 y0 y1 = some res → W p l e (headSpec wsX1_mixSpans (kRm 5 0 0 116)).room s m ([.ref (a 0), .long p0] : List Value).toArray below meth c H locs 0 0 (MQ below (kL (dC, dI) (res) (wSB cI cJ cZ a ce fr un sb se so sc wb we wo wc fb fe fo fc rm ac rf kn) A) ([.ref (a 0), .long p0] : List Value).toArray s 0 0 A) (F0 m 84 ls [.int y0, .long y1]) := by
    intro K43 hK43 ce fr un sb se so sc wb we wo wc fb fe fo fc rm ac rf kn x5 y0 y1 H locs hP hD hS ls hl h
    have h := f_X1_mixSpans_84_e.symm.trans h
    obtain ⟨r1, g1, h⟩ := g_b h
    refine kq_l (wSB cI cJ cZ a ce fr un sb se so sc wb we wo wc fb fe fo fc rm ac rf kn) (fun qP qD qF => va_runS (As := [.long y1, .int y0]) (rest := []) ⟨hx, hb, hml, hown, hts⟩ (c_X1_mix l dC dI cB cI cJ cZ  _  y1 y0 r1 g1) (kcwS hts kw_336 kv_X1_mix rfl rfl ⟨(Nat.le_of_ble_eq_true rfl), (Nat.le_of_ble_eq_true rfl)⟩) (kpS (A := A) (kPnil) hK ((kDnil (A := A))) hG) rfl rfl hl.1 rfl (lv_room (Nat.le_of_ble_eq_true rfl)) (kdr dgX1_mixSpans_0 4 3 rfl rfl) ⟨(Nat.le_of_ble_eq_true rfl), (Nat.le_of_ble_eq_true rfl)⟩) hP hD hS hA kFr_n (fun H locs hP hD hS => ?_)
    refine lv_lstore_n (lv' := (kvJ 3 r1 (kvA 0 (a 0) (kvI 5 x5 kvE)))) hx hb (kdr dgX1_mixSpans_0 4 4 rfl rfl) rfl hl (by decide) rfl (fun ls hl => ?_)
    refine lv_iinc (v := x5 + 1) (lv' := (kvI 5 (x5 + 1) (kvJ 3 r1 (kvA 0 (a 0) kvE)))) hx hb (kdr dgX1_mixSpans_0 4 5 rfl rfl) hl (k := 2) rfl rfl (by decide) rfl (fun ls hl => ?_)
    refine lv_goto (tgt := 43) hx hb (kdr dgX1_mixSpans_0 4 6 rfl rfl) (by decide) ?_
    exact hK43 ce fr un sb se so sc wb we wo wc fb fe fo fc rm ac rf kn r1 (x5 + 1) _ _ hP hD hS ls (lv_sub hl [2, 1, 0] rfl) h
  have J43 : ∀ (n : Nat), ∀ (ce : Nat → Int64) (fr : Int64) (un : Int64) (sb : Nat → Int64) (se : Nat → Int64) (so : Nat → Int32) (sc : Int32) (wb : Nat → Int64) (we : Nat → Int64) (wo : Nat → Int32) (wc : Int32) (fb : Nat → Int64) (fe : Nat → Int64) (fo : Nat → Int32) (fc : Int32) (rm : Nat → Int32) (ac : Int32) (rf : Int32) (kn : Int32) (x3 : Int64) (x5 : Int32) (H : Heap) (locs : List Loc), va_P (dC, dI) vwCl (wSB cI cJ cZ a ce fr un sb se so sc wb we wo wc fb fe fo fc rm ac rf kn) H → va_D A (wSB cI cJ cZ a ce fr un sb se so sc wb we wo wc fb fe fo fc rm ac rf kn) → va_S A s.heap H locs → ∀ (ls : Array Slot), lv_has ls 6 (kvA 0 (a 0) (kvJ 3 x3 (kvI 5 x5 kvE))) → f_X1_mixSpans_43 n sb se so sc x3 x5 = some res → W p l e (headSpec wsX1_mixSpans (kRm 5 0 0 116)).room s m ([.ref (a 0), .long p0] : List Value).toArray below meth c H locs 0 0 (MQ below (kL (dC, dI) (res) (wSB cI cJ cZ a ce fr un sb se so sc wb we wo wc fb fe fo fc rm ac rf kn) A) ([.ref (a 0), .long p0] : List Value).toArray s 0 0 A) (F0 m 43 ls []) := by
    intro n
    induction n with
    | zero =>
      intro ce fr un sb se so sc wb we wo wc fb fe fo fc rm ac rf kn x3 x5 H locs hP hD hS ls hl h
      have h := f_X1_mixSpans_43_0.symm.trans h
      cases h
    | succ n ih =>
      intro ce fr un sb se so sc wb we wo wc fb fe fo fc rm ac rf kn x3 x5 H locs hP hD hS ls hl h
      have h := f_X1_mixSpans_43_s.symm.trans h
      refine lv_iload hx hb (kdr dgX1_mixSpans_0 2 3 rfl rfl) (lv_at hl 2 rfl) ?_
      refine lv_aload_n hx hb (kdr dgX1_mixSpans_0 2 4 rfl rfl) rfl (lv_at hl 0 rfl) ?_
      refine va_get (D := (dC, dI)) (ci := 3) (v := .ref (a 2)) (C := RX1) (T := TX1) (N := 10) hx hb hts hiX1 hown hK hP 0 rfl rfl 3 (by decide) hw0 (fun _ h9 => h9) rfl (kdr dgX1_mixSpans_0 2 5 rfl rfl) ?_
      obtain ⟨r1, g1, h⟩ := g_b h
      refine kq_i (wSB cI cJ cZ a ce fr un sb se so sc wb we wo wc fb fe fo fc rm ac rf kn) (fun qP qD qF => va_runV (As := []) (rest := [.int x5]) ⟨hx, hb, hml, hown, hts⟩ (c_X0_count l dC dI cB cI cJ cZ (a 2) (a 3) (a 4) (a 5) _ sb se so sc  r1 g1) (kcwV hts kw_155 kv_X0_count rfl rfl ⟨(Nat.le_of_ble_eq_true rfl), (Nat.le_of_ble_eq_true rfl)⟩) (kpV (A := A) qP hK qD hG (krecv_2 (q0 := 2) hK hP rfl)) rfl rfl hl.1 rfl (lv_room (Nat.le_of_ble_eq_true rfl)) (kdr dgX1_mixSpans_0 2 6 rfl rfl) ⟨(Nat.le_of_ble_eq_true rfl), (Nat.le_of_ble_eq_true rfl)⟩) hP hD hS hA kFr_SBs (fun H locs hP hD hS br1 => ?_)
      refine lv_icmp_ge (tgt := 94) hx hb (kdr dgX1_mixSpans_0 2 7 rfl rfl) (by decide) (fun c2 => ?_) (fun c2 => ?_)
      · have h := g_t c2 h
        refine lv_lload_n hx hb (kdr dgX1_mixSpans_0 4 7 rfl rfl) rfl (lv_at hl 1 rfl) ?_
        refine lv_aload_n hx hb (kdr dgX1_mixSpans_0 4 8 rfl rfl) rfl (lv_at hl 0 rfl) ?_
        obtain ⟨r3, g3, h⟩ := g_b h
        refine kq_i (wSB cI cJ cZ a ce fr un sb se so sc wb we wo wc fb fe fo fc rm ac rf kn) (fun qP qD qF => va_runV (As := []) (rest := [.long x3]) ⟨hx, hb, hml, hown, hts⟩ (c_X1_clashes l dC dI cB cI cJ cZ a _ ce fr un sb se so sc wb we wo wc fb fe fo fc rm ac rf kn  r3 g3) (kcwV hts kw_436 kv_X1_clashes rfl rfl ⟨(Nat.le_of_ble_eq_true rfl), (Nat.le_of_ble_eq_true rfl)⟩) (kpV (A := A) qP hK qD hG (krecv_3 (q0 := 0) hK hP rfl)) rfl rfl hl.1 rfl (lv_room (Nat.le_of_ble_eq_true rfl)) (kdr dgX1_mixSpans_0 4 9 rfl rfl) ⟨(Nat.le_of_ble_eq_true rfl), (Nat.le_of_ble_eq_true rfl)⟩) hP hD hS hA kFr_SB (fun H locs hP hD hS br3 => ?_)
        obtain ⟨r4, g4, h⟩ := g_b h
        refine kq_l (wSB cI cJ cZ a ce fr un sb se so sc wb we wo wc fb fe fo fc rm ac rf kn) (fun qP qD qF => va_runS (As := [.long x3, .int r3]) (rest := []) ⟨hx, hb, hml, hown, hts⟩ (c_X1_mix l dC dI cB cI cJ cZ  _  x3 r3 r4 g4) (kcwS hts kw_336 kv_X1_mix rfl rfl ⟨(Nat.le_of_ble_eq_true rfl), (Nat.le_of_ble_eq_true rfl)⟩) (kpS (A := A) (kPnil) hK ((kDnil (A := A))) hG) rfl rfl hl.1 rfl (lv_room (Nat.le_of_ble_eq_true rfl)) (kdr dgX1_mixSpans_0 5 0 rfl rfl) ⟨(Nat.le_of_ble_eq_true rfl), (Nat.le_of_ble_eq_true rfl)⟩) hP hD hS hA kFr_n (fun H locs hP hD hS => ?_)
        refine lv_lstore_n (lv' := (kvJ 3 r4 (kvA 0 (a 0) (kvI 5 x5 kvE)))) hx hb (kdr dgX1_mixSpans_0 5 1 rfl rfl) rfl hl (by decide) rfl (fun ls hl => ?_)
        refine lv_lload_n hx hb (kdr dgX1_mixSpans_0 5 2 rfl rfl) rfl (lv_at hl 0 rfl) ?_
        refine lv_aload_n hx hb (kdr dgX1_mixSpans_0 5 3 rfl rfl) rfl (lv_at hl 1 rfl) ?_
        obtain ⟨r5, g5, h⟩ := g_b h
        refine kq_i (wSB cI cJ cZ a ce fr un sb se so sc wb we wo wc fb fe fo fc rm ac rf kn) (fun qP qD qF => va_runV (As := []) (rest := [.long r4]) ⟨hx, hb, hml, hown, hts⟩ (c_X1_deepest l dC dI cB cI cJ cZ a _ ce fr un sb se so sc wb we wo wc fb fe fo fc rm ac rf kn  r5 g5) (kcwV hts kw_437 kv_X1_deepest rfl rfl ⟨(Nat.le_of_ble_eq_true rfl), (Nat.le_of_ble_eq_true rfl)⟩) (kpV (A := A) qP hK qD hG (krecv_3 (q0 := 0) hK hP rfl)) rfl rfl hl.1 rfl (lv_room (Nat.le_of_ble_eq_true rfl)) (kdr dgX1_mixSpans_0 5 4 rfl rfl) ⟨(Nat.le_of_ble_eq_true rfl), (Nat.le_of_ble_eq_true rfl)⟩) hP hD hS hA kFr_SB (fun H locs hP hD hS br5 => ?_)
        obtain ⟨r6, g6, h⟩ := g_b h
        refine kq_l (wSB cI cJ cZ a ce fr un sb se so sc wb we wo wc fb fe fo fc rm ac rf kn) (fun qP qD qF => va_runS (As := [.long r4, .int r5]) (rest := []) ⟨hx, hb, hml, hown, hts⟩ (c_X1_mix l dC dI cB cI cJ cZ  _  r4 r5 r6 g6) (kcwS hts kw_336 kv_X1_mix rfl rfl ⟨(Nat.le_of_ble_eq_true rfl), (Nat.le_of_ble_eq_true rfl)⟩) (kpS (A := A) (kPnil) hK ((kDnil (A := A))) hG) rfl rfl hl.1 rfl (lv_room (Nat.le_of_ble_eq_true rfl)) (kdr dgX1_mixSpans_0 5 5 rfl rfl) ⟨(Nat.le_of_ble_eq_true rfl), (Nat.le_of_ble_eq_true rfl)⟩) hP hD hS hA kFr_n (fun H locs hP hD hS => ?_)
        have h := Option.some.inj h
        subst h
        exact kret_l (v := r6) hx hb hr hlocks hS hP (kdr dgX1_mixSpans_0 5 6 rfl rfl)
      · have h := g_f c2 h
        refine lv_lload_n hx hb (kdr dgX1_mixSpans_0 2 8 rfl rfl) rfl (lv_at hl 1 rfl) ?_
        refine lv_aload_n hx hb (kdr dgX1_mixSpans_0 2 9 rfl rfl) rfl (lv_at hl 0 rfl) ?_
        refine va_get (D := (dC, dI)) (ci := 3) (v := .ref (a 2)) (C := RX1) (T := TX1) (N := 10) hx hb hts hiX1 hown hK hP 0 rfl rfl 3 (by decide) hw0 (fun _ h9 => h9) rfl (kdr dgX1_mixSpans_0 3 0 rfl rfl) ?_
        refine lv_iload hx hb (kdr dgX1_mixSpans_0 3 1 rfl rfl) (lv_at hl 2 rfl) ?_
        obtain ⟨r3, g3, h⟩ := g_b h
        refine kq_l (wSB cI cJ cZ a ce fr un sb se so sc wb we wo wc fb fe fo fc rm ac rf kn) (fun qP qD qF => va_runS (As := [.long x3, .ref (a 2), .int x5]) (rest := []) ⟨hx, hb, hml, hown, hts⟩ (c_X1_mixParts l dC dI cB cI cJ cZ (a 2) (a 3) (a 4) (a 5) _ sb se so sc x3 x5 r3 g3) (kcwS hts kw_430 kv_X1_mixParts rfl rfl ⟨(Nat.le_of_ble_eq_true rfl), (Nat.le_of_ble_eq_true rfl)⟩) (kpS (A := A) qP hK qD hG) rfl rfl hl.1 rfl (lv_room (Nat.le_of_ble_eq_true rfl)) (kdr dgX1_mixSpans_0 3 2 rfl rfl) ⟨(Nat.le_of_ble_eq_true rfl), (Nat.le_of_ble_eq_true rfl)⟩) hP hD hS hA kFr_SBs (fun H locs hP hD hS => ?_)
        refine lv_lstore_n (lv' := (kvJ 3 r3 (kvA 0 (a 0) (kvI 5 x5 kvE)))) hx hb (kdr dgX1_mixSpans_0 3 3 rfl rfl) rfl hl (by decide) rfl (fun ls hl => ?_)
        refine lv_lload_n hx hb (kdr dgX1_mixSpans_0 3 4 rfl rfl) rfl (lv_at hl 0 rfl) ?_
        refine lv_aload_n hx hb (kdr dgX1_mixSpans_0 3 5 rfl rfl) rfl (lv_at hl 1 rfl) ?_
        refine va_get (D := (dC, dI)) (ci := 3) (v := .ref (a 2)) (C := RX1) (T := TX1) (N := 10) hx hb hts hiX1 hown hK hP 0 rfl rfl 3 (by decide) hw0 (fun _ h9 => h9) rfl (kdr dgX1_mixSpans_0 3 6 rfl rfl) ?_
        refine lv_iload hx hb (kdr dgX1_mixSpans_0 3 7 rfl rfl) (lv_at hl 2 rfl) ?_
        obtain ⟨r4, g4, h⟩ := g_b h
        refine kq_i (wSB cI cJ cZ a ce fr un sb se so sc wb we wo wc fb fe fo fc rm ac rf kn) (fun qP qD qF => va_runV (As := [.int x5]) (rest := [.long r3]) ⟨hx, hb, hml, hown, hts⟩ (c_X0_isOver l dC dI cB cI cJ cZ (a 2) (a 3) (a 4) (a 5) _ sb se so sc x5 r4 g4) (kcwV hts kw_280 kv_X0_isOver rfl rfl ⟨(Nat.le_of_ble_eq_true rfl), (Nat.le_of_ble_eq_true rfl)⟩) (kpV (A := A) qP hK qD hG (krecv_2 (q0 := 2) hK hP rfl)) rfl rfl hl.1 rfl (lv_room (Nat.le_of_ble_eq_true rfl)) (kdr dgX1_mixSpans_0 3 8 rfl rfl) ⟨(Nat.le_of_ble_eq_true rfl), (Nat.le_of_ble_eq_true rfl)⟩) hP hD hS hA kFr_SBs (fun H locs hP hD hS br4 => ?_)
        refine lv_if_eq (tgt := 83) hx hb (kdr dgX1_mixSpans_0 3 9 rfl rfl) (by decide) (fun c5 => ?_) (fun c5 => ?_)
        · have h := g_t c5 h
          refine lv_iconst (v := 0) hx hb (kdr dgX1_mixSpans_0 4 2 rfl rfl) (by decide) ?_
          exact J84 (f_X1_mixSpans_43 n) ih ce fr un sb se so sc wb we wo wc fb fe fo fc rm ac rf kn x5 0 r3 _ _ hP hD hS ls (lv_sub hl [1, 2] rfl) h
        · have h := g_f c5 h
          refine lv_iconst (v := 1) hx hb (kdr dgX1_mixSpans_0 4 0 rfl rfl) (by decide) ?_
          refine lv_goto (tgt := 84) hx hb (kdr dgX1_mixSpans_0 4 1 rfl rfl) (by decide) ?_
          exact J84 (f_X1_mixSpans_43 n) ih ce fr un sb se so sc wb we wo wc fb fe fo fc rm ac rf kn x5 1 r3 _ _ hP hD hS ls (lv_sub hl [1, 2] rfl) h
  have J5 : ∀ (n : Nat), ∀ (ce : Nat → Int64) (fr : Int64) (un : Int64) (sb : Nat → Int64) (se : Nat → Int64) (so : Nat → Int32) (sc : Int32) (wb : Nat → Int64) (we : Nat → Int64) (wo : Nat → Int32) (wc : Int32) (fb : Nat → Int64) (fe : Nat → Int64) (fo : Nat → Int32) (fc : Int32) (rm : Nat → Int32) (ac : Int32) (rf : Int32) (kn : Int32) (x3 : Int64) (x5 : Int32) (H : Heap) (locs : List Loc), va_P (dC, dI) vwCl (wSB cI cJ cZ a ce fr un sb se so sc wb we wo wc fb fe fo fc rm ac rf kn) H → va_D A (wSB cI cJ cZ a ce fr un sb se so sc wb we wo wc fb fe fo fc rm ac rf kn) → va_S A s.heap H locs → ∀ (ls : Array Slot), lv_has ls 6 (kvA 0 (a 0) (kvJ 3 x3 (kvI 5 x5 kvE))) → f_X1_mixSpans_5 n fr un sb se so sc x3 x5 = some res → W p l e (headSpec wsX1_mixSpans (kRm 5 0 0 116)).room s m ([.ref (a 0), .long p0] : List Value).toArray below meth c H locs 0 0 (MQ below (kL (dC, dI) (res) (wSB cI cJ cZ a ce fr un sb se so sc wb we wo wc fb fe fo fc rm ac rf kn) A) ([.ref (a 0), .long p0] : List Value).toArray s 0 0 A) (F0 m 5 ls []) := by
    intro n
    induction n with
    | zero =>
      intro ce fr un sb se so sc wb we wo wc fb fe fo fc rm ac rf kn x3 x5 H locs hP hD hS ls hl h
      have h := f_X1_mixSpans_5_0.symm.trans h
      cases h
    | succ n ih =>
      intro ce fr un sb se so sc wb we wo wc fb fe fo fc rm ac rf kn x3 x5 H locs hP hD hS ls hl h
      have h := f_X1_mixSpans_5_s.symm.trans h
      refine lv_iload hx hb (kdr dgX1_mixSpans_0 0 4 rfl rfl) (lv_at hl 2 rfl) ?_
      refine lv_iconst (v := 4) hx hb (kdr dgX1_mixSpans_0 0 5 rfl rfl) (by decide) ?_
      refine lv_icmp_ge (tgt := 28) hx hb (kdr dgX1_mixSpans_0 0 6 rfl rfl) (by decide) (fun c1 => ?_) (fun c1 => ?_)
      · have h := g_t c1 h
        refine lv_lload_n hx hb (kdr dgX1_mixSpans_0 1 5 rfl rfl) rfl (lv_at hl 1 rfl) ?_
        refine lv_aload_n hx hb (kdr dgX1_mixSpans_0 1 6 rfl rfl) rfl (lv_at hl 0 rfl) ?_
        refine va_get (D := (dC, dI)) (ci := 3) (v := .ref (a 2)) (C := RX1) (T := TX1) (N := 10) hx hb hts hiX1 hown hK hP 0 rfl rfl 3 (by decide) hw0 (fun _ h9 => h9) rfl (kdr dgX1_mixSpans_0 1 7 rfl rfl) ?_
        obtain ⟨r2, g2, h⟩ := g_b h
        refine kq_i (wSB cI cJ cZ a ce fr un sb se so sc wb we wo wc fb fe fo fc rm ac rf kn) (fun qP qD qF => va_runV (As := []) (rest := [.long x3]) ⟨hx, hb, hml, hown, hts⟩ (c_X0_count l dC dI cB cI cJ cZ (a 2) (a 3) (a 4) (a 5) _ sb se so sc  r2 g2) (kcwV hts kw_155 kv_X0_count rfl rfl ⟨(Nat.le_of_ble_eq_true rfl), (Nat.le_of_ble_eq_true rfl)⟩) (kpV (A := A) qP hK qD hG (krecv_2 (q0 := 2) hK hP rfl)) rfl rfl hl.1 rfl (lv_room (Nat.le_of_ble_eq_true rfl)) (kdr dgX1_mixSpans_0 1 8 rfl rfl) ⟨(Nat.le_of_ble_eq_true rfl), (Nat.le_of_ble_eq_true rfl)⟩) hP hD hS hA kFr_SBs (fun H locs hP hD hS br2 => ?_)
        obtain ⟨r3, g3, h⟩ := g_b h
        refine kq_l (wSB cI cJ cZ a ce fr un sb se so sc wb we wo wc fb fe fo fc rm ac rf kn) (fun qP qD qF => va_runS (As := [.long x3, .int r2]) (rest := []) ⟨hx, hb, hml, hown, hts⟩ (c_X1_mix l dC dI cB cI cJ cZ  _  x3 r2 r3 g3) (kcwS hts kw_336 kv_X1_mix rfl rfl ⟨(Nat.le_of_ble_eq_true rfl), (Nat.le_of_ble_eq_true rfl)⟩) (kpS (A := A) (kPnil) hK ((kDnil (A := A))) hG) rfl rfl hl.1 rfl (lv_room (Nat.le_of_ble_eq_true rfl)) (kdr dgX1_mixSpans_0 1 9 rfl rfl) ⟨(Nat.le_of_ble_eq_true rfl), (Nat.le_of_ble_eq_true rfl)⟩) hP hD hS hA kFr_n (fun H locs hP hD hS => ?_)
        refine lv_lstore_n (lv' := (kvJ 3 r3 (kvA 0 (a 0) (kvI 5 x5 kvE)))) hx hb (kdr dgX1_mixSpans_0 2 0 rfl rfl) rfl hl (by decide) rfl (fun ls hl => ?_)
        refine lv_iconst (v := 0) hx hb (kdr dgX1_mixSpans_0 2 1 rfl rfl) (by decide) ?_
        refine lv_istore (lv' := (kvI 5 0 (kvJ 3 r3 (kvA 0 (a 0) kvE)))) hx hb (kdr dgX1_mixSpans_0 2 2 rfl rfl) hl (by decide) rfl (fun ls hl => ?_)
        exact J43 24 ce fr un sb se so sc wb we wo wc fb fe fo fc rm ac rf kn r3 0 _ _ hP hD hS ls (lv_sub hl [2, 1, 0] rfl) h
      · have h := g_f c1 h
        refine lv_lload_n hx hb (kdr dgX1_mixSpans_0 0 7 rfl rfl) rfl (lv_at hl 1 rfl) ?_
        refine lv_aload_n hx hb (kdr dgX1_mixSpans_0 0 8 rfl rfl) rfl (lv_at hl 0 rfl) ?_
        refine lv_iload hx hb (kdr dgX1_mixSpans_0 0 9 rfl rfl) (lv_at hl 2 rfl) ?_
        obtain ⟨r2, g2, h⟩ := g_b h
        refine kq_i (wSB cI cJ cZ a ce fr un sb se so sc wb we wo wc fb fe fo fc rm ac rf kn) (fun qP qD qF => va_runV (As := [.int x5]) (rest := [.long x3]) ⟨hx, hb, hml, hown, hts⟩ (c_X1_calendar l dC dI cB cI cJ cZ a _ ce fr un sb se so sc wb we wo wc fb fe fo fc rm ac rf kn x5 r2 g2) (kcwV hts kw_350 kv_X1_calendar rfl rfl ⟨(Nat.le_of_ble_eq_true rfl), (Nat.le_of_ble_eq_true rfl)⟩) (kpV (A := A) qP hK qD hG (krecv_3 (q0 := 0) hK hP rfl)) rfl rfl hl.1 rfl (lv_room (Nat.le_of_ble_eq_true rfl)) (kdr dgX1_mixSpans_0 1 0 rfl rfl) ⟨(Nat.le_of_ble_eq_true rfl), (Nat.le_of_ble_eq_true rfl)⟩) hP hD hS hA kFr_SB (fun H locs hP hD hS br2 => ?_)
        obtain ⟨r3, g3, h⟩ := g_b h
        refine kq_l (wSB cI cJ cZ a ce fr un sb se so sc wb we wo wc fb fe fo fc rm ac rf kn) (fun qP qD qF => va_runS (As := [.long x3, .int r2]) (rest := []) ⟨hx, hb, hml, hown, hts⟩ (c_X1_mix l dC dI cB cI cJ cZ  _  x3 r2 r3 g3) (kcwS hts kw_336 kv_X1_mix rfl rfl ⟨(Nat.le_of_ble_eq_true rfl), (Nat.le_of_ble_eq_true rfl)⟩) (kpS (A := A) (kPnil) hK ((kDnil (A := A))) hG) rfl rfl hl.1 rfl (lv_room (Nat.le_of_ble_eq_true rfl)) (kdr dgX1_mixSpans_0 1 1 rfl rfl) ⟨(Nat.le_of_ble_eq_true rfl), (Nat.le_of_ble_eq_true rfl)⟩) hP hD hS hA kFr_n (fun H locs hP hD hS => ?_)
        refine lv_lstore_n (lv' := (kvJ 3 r3 (kvA 0 (a 0) (kvI 5 x5 kvE)))) hx hb (kdr dgX1_mixSpans_0 1 2 rfl rfl) rfl hl (by decide) rfl (fun ls hl => ?_)
        refine lv_iinc (v := x5 + 1) (lv' := (kvI 5 (x5 + 1) (kvJ 3 r3 (kvA 0 (a 0) kvE)))) hx hb (kdr dgX1_mixSpans_0 1 3 rfl rfl) hl (k := 2) rfl rfl (by decide) rfl (fun ls hl => ?_)
        refine lv_goto (tgt := 5) hx hb (kdr dgX1_mixSpans_0 1 4 rfl rfl) (by decide) ?_
        exact ih ce fr un sb se so sc wb we wo wc fb fe fo fc rm ac rf kn r3 (x5 + 1) _ _ hP hD hS ls (lv_sub hl [2, 1, 0] rfl) h
  have h := f_X1_mixSpans_e.symm.trans hf
  refine lv_lload_n hx hb (kdr dgX1_mixSpans_0 0 0 rfl rfl) rfl (lv_at hl 1 rfl) ?_
  refine lv_lstore_n (lv' := (kvJ 3 p0 (kvA 0 (a 0) (kvJ 1 p0 kvE)))) hx hb (kdr dgX1_mixSpans_0 0 1 rfl rfl) rfl hl (by decide) rfl (fun ls hl => ?_)
  refine lv_iconst (v := 0) hx hb (kdr dgX1_mixSpans_0 0 2 rfl rfl) (by decide) ?_
  refine lv_istore (lv' := (kvI 5 0 (kvJ 3 p0 (kvA 0 (a 0) (kvJ 1 p0 kvE))))) hx hb (kdr dgX1_mixSpans_0 0 3 rfl rfl) hl (by decide) rfl (fun ls hl => ?_)
  exact J5 24 ce fr un sb se so sc wb we wo wc fb fe fo fc rm ac rf kn p0 0 _ _ hP hD hS ls (lv_sub hl [2, 1, 0] rfl) h
noncomputable abbrev wsX1_mixFrees : List Cond := kWs yX1_mixFrees cX1_mixFrees 6 (some .long)
noncomputable def f_X1_mixFrees_47 : Nat → (Int64) → (Int64) → (Nat → Int64) → (Nat → Int64) → (Int32) → (Nat → Int64) → (Nat → Int64) → (Nat → Int32) → (Int32) → (Int64) → (Int32) → Option ((Int64) × (Nat → Int64) × (Nat → Int64) × (Nat → Int32) × (Int32))
  | 0, _, _, _, _, _, _, _, _, _, _, _ => none
  | n + 1, fr, un, sb, se, sc, fb, fe, fo, fc, x3, x5 =>
    if 6 ≤ x5 then
      some (x3, fb, fe, fo, fc)
    else
      (f_X1_length fr un sb se sc fb fe fo fc x5).bind fun r2 =>
      (f_X1_mix x3 r2.1).bind fun r3 =>
      f_X1_mixFrees_47 n fr un sb se sc r2.2.1 r2.2.2.1 r2.2.2.2.1 r2.2.2.2.2 r3 (x5 + 1)
theorem f_X1_mixFrees_47_0 {fr : Int64} {un : Int64} {sb : Nat → Int64} {se : Nat → Int64} {sc : Int32} {fb : Nat → Int64} {fe : Nat → Int64} {fo : Nat → Int32} {fc : Int32} {x3 : Int64} {x5 : Int32} : f_X1_mixFrees_47 0 fr un sb se sc fb fe fo fc x3 x5 = none := rfl
theorem f_X1_mixFrees_47_s {n : Nat} {fr : Int64} {un : Int64} {sb : Nat → Int64} {se : Nat → Int64} {sc : Int32} {fb : Nat → Int64} {fe : Nat → Int64} {fo : Nat → Int32} {fc : Int32} {x3 : Int64} {x5 : Int32} : f_X1_mixFrees_47 (n + 1) fr un sb se sc fb fe fo fc x3 x5 =
  if 6 ≤ x5 then
    some (x3, fb, fe, fo, fc)
  else
    (f_X1_length fr un sb se sc fb fe fo fc x5).bind fun r2 =>
    (f_X1_mix x3 r2.1).bind fun r3 =>
    f_X1_mixFrees_47 n fr un sb se sc r2.2.1 r2.2.2.1 r2.2.2.2.1 r2.2.2.2.2 r3 (x5 + 1) := rfl
noncomputable def f_X1_mixFrees_15 : Nat → (Int64) → (Int64) → (Nat → Int64) → (Nat → Int64) → (Int32) → (Nat → Int64) → (Nat → Int64) → (Nat → Int32) → (Int32) → (Int64) → (Int32) → Option ((Int64) × (Nat → Int64) × (Nat → Int64) × (Nat → Int32) × (Int32))
  | 0, _, _, _, _, _, _, _, _, _, _, _ => none
  | n + 1, fr, un, sb, se, sc, fb, fe, fo, fc, x3, x5 =>
    (f_X0_count fc).bind fun r1 =>
    if r1 ≤ x5 then
      f_X1_mixFrees_47 24 fr un sb se sc fb fe fo fc x3 0
    else
      (f_X1_mixParts fb fe fc x3 x5).bind fun r3 =>
      f_X1_mixFrees_15 n fr un sb se sc fb fe fo fc r3 (x5 + 1)
theorem f_X1_mixFrees_15_0 {fr : Int64} {un : Int64} {sb : Nat → Int64} {se : Nat → Int64} {sc : Int32} {fb : Nat → Int64} {fe : Nat → Int64} {fo : Nat → Int32} {fc : Int32} {x3 : Int64} {x5 : Int32} : f_X1_mixFrees_15 0 fr un sb se sc fb fe fo fc x3 x5 = none := rfl
theorem f_X1_mixFrees_15_s {n : Nat} {fr : Int64} {un : Int64} {sb : Nat → Int64} {se : Nat → Int64} {sc : Int32} {fb : Nat → Int64} {fe : Nat → Int64} {fo : Nat → Int32} {fc : Int32} {x3 : Int64} {x5 : Int32} : f_X1_mixFrees_15 (n + 1) fr un sb se sc fb fe fo fc x3 x5 =
  (f_X0_count fc).bind fun r1 =>
  if r1 ≤ x5 then
    f_X1_mixFrees_47 24 fr un sb se sc fb fe fo fc x3 0
  else
    (f_X1_mixParts fb fe fc x3 x5).bind fun r3 =>
    f_X1_mixFrees_15 n fr un sb se sc fb fe fo fc r3 (x5 + 1) := rfl
noncomputable def f_X1_mixFrees (fr : Int64) (un : Int64) (sb : Nat → Int64) (se : Nat → Int64) (sc : Int32) (fb : Nat → Int64) (fe : Nat → Int64) (fo : Nat → Int32) (fc : Int32) (p0 : Int64) : Option ((Int64) × (Nat → Int64) × (Nat → Int64) × (Nat → Int32) × (Int32)) :=
  (f_X0_count fc).bind fun r1 =>
  (f_X1_mix p0 r1).bind fun r2 =>
  f_X1_mixFrees_15 24 fr un sb se sc fb fe fo fc r2 0
theorem f_X1_mixFrees_e {fr : Int64} {un : Int64} {sb : Nat → Int64} {se : Nat → Int64} {sc : Int32} {fb : Nat → Int64} {fe : Nat → Int64} {fo : Nat → Int32} {fc : Int32} {p0 : Int64} : f_X1_mixFrees fr un sb se sc fb fe fo fc p0 = 
  (f_X0_count fc).bind fun r1 =>
  (f_X1_mix p0 r1).bind fun r2 =>
  f_X1_mixFrees_15 24 fr un sb se sc fb fe fo fc r2 0 := rfl
set_option maxHeartbeats 4000000 in
set_option maxRecDepth 100000 in
theorem c_X1_mixFrees (l : Launch) (dC : Nat → ClassId) (dI : Nat → Nat → Nat) (cB cI cJ cZ : ClassId) (a : Nat → Nat) (sz : Nat) (ce : Nat → Int64) (fr : Int64) (un : Int64) (sb : Nat → Int64) (se : Nat → Int64) (so : Nat → Int32) (sc : Int32) (wb : Nat → Int64) (we : Nat → Int64) (wo : Nat → Int32) (wc : Int32) (fb : Nat → Int64) (fe : Nat → Int64) (fo : Nat → Int32) (fc : Int32) (rm : Nat → Int32) (ac : Int32) (rf : Int32) (kn : Int32) (p0 : Int64) (res : (Int64) × (Nat → Int64) × (Nat → Int64) × (Nat → Int32) × (Int32)) (hf : f_X1_mixFrees fr un sb se sc fb fe fo fc p0 = some res) : kMl l yX1_mixFrees wsX1_mixFrees (kRm 5 0 0 118) dC dI cB cI cJ cZ [.ref (a 0), .long p0] sz (wSB cI cJ cZ a ce fr un sb se so sc wb we wo wc fb fe fo fc rm ac rf kn) (res.1) (wSB cI cJ cZ a ce fr un sb se so sc wb we wo wc (res.2.1) (res.2.2.1) (res.2.2.2.1) (res.2.2.2.2) rm ac rf kn) 0 0 := by
  refine kmet_l (y := yX1_mixFrees) (cc := cX1_mixFrees) (maxL := 6) (ret := (some .long)) RX1 (kvA 0 (a 0) (kvJ 1 p0 kvE)) kpl_X1 rfl rfl (Nat.le_of_ble_eq_true rfl) rfl (fun p e s m below meth c A ls hx hb hr hml hts hown hlocks hP hK hG hD hA hS hl => ?_)
  have hw0 := hts (.fieldLink RX1 32 "Spanbooker" "freeRow" "LSpanbooker$Row;") (List.mem_cons_of_mem _ kw_112)
  have hiX1 : ∀ w ∈ u_ws RX1 TX1 10, w ∈ wsX1_mixFrees := fun w h => List.mem_cons_of_mem _ (ku_X1 w h)
  have J47 : ∀ (n : Nat), ∀ (ce : Nat → Int64) (fr : Int64) (un : Int64) (sb : Nat → Int64) (se : Nat → Int64) (so : Nat → Int32) (sc : Int32) (wb : Nat → Int64) (we : Nat → Int64) (wo : Nat → Int32) (wc : Int32) (fb : Nat → Int64) (fe : Nat → Int64) (fo : Nat → Int32) (fc : Int32) (rm : Nat → Int32) (ac : Int32) (rf : Int32) (kn : Int32) (x3 : Int64) (x5 : Int32) (H : Heap) (locs : List Loc), va_P (dC, dI) vwCl (wSB cI cJ cZ a ce fr un sb se so sc wb we wo wc fb fe fo fc rm ac rf kn) H → va_D A (wSB cI cJ cZ a ce fr un sb se so sc wb we wo wc fb fe fo fc rm ac rf kn) → va_S A s.heap H locs → ∀ (ls : Array Slot), lv_has ls 6 (kvA 0 (a 0) (kvJ 3 x3 (kvI 5 x5 kvE))) → f_X1_mixFrees_47 n fr un sb se sc fb fe fo fc x3 x5 = some res → W p l e (headSpec wsX1_mixFrees (kRm 5 0 0 118)).room s m ([.ref (a 0), .long p0] : List Value).toArray below meth c H locs 0 0 (MQ below (kL (dC, dI) (res.1) (wSB cI cJ cZ a ce fr un sb se so sc wb we wo wc (res.2.1) (res.2.2.1) (res.2.2.2.1) (res.2.2.2.2) rm ac rf kn) A) ([.ref (a 0), .long p0] : List Value).toArray s 0 0 A) (F0 m 47 ls []) := by
    intro n
    induction n with
    | zero =>
      intro ce fr un sb se so sc wb we wo wc fb fe fo fc rm ac rf kn x3 x5 H locs hP hD hS ls hl h
      have h := f_X1_mixFrees_47_0.symm.trans h
      cases h
    | succ n ih =>
      intro ce fr un sb se so sc wb we wo wc fb fe fo fc rm ac rf kn x3 x5 H locs hP hD hS ls hl h
      have h := f_X1_mixFrees_47_s.symm.trans h
      refine lv_iload hx hb (kdr dgX1_mixFrees_0 2 3 rfl rfl) (lv_at hl 2 rfl) ?_
      refine lv_bipush (v := 6) hx hb (kdr dgX1_mixFrees_0 2 4 rfl rfl) (by decide) ?_
      refine lv_icmp_ge (tgt := 71) hx hb (kdr dgX1_mixFrees_0 2 5 rfl rfl) (by decide) (fun c1 => ?_) (fun c1 => ?_)
      · have h := g_t c1 h
        refine lv_lload_n hx hb (kdr dgX1_mixFrees_0 3 4 rfl rfl) rfl (lv_at hl 1 rfl) ?_
        have h := Option.some.inj h
        subst h
        exact kret_l (v := x3) hx hb hr hlocks hS hP (kdr dgX1_mixFrees_0 3 5 rfl rfl)
      · have h := g_f c1 h
        refine lv_lload_n hx hb (kdr dgX1_mixFrees_0 2 6 rfl rfl) rfl (lv_at hl 1 rfl) ?_
        refine lv_aload_n hx hb (kdr dgX1_mixFrees_0 2 7 rfl rfl) rfl (lv_at hl 0 rfl) ?_
        refine lv_iload hx hb (kdr dgX1_mixFrees_0 2 8 rfl rfl) (lv_at hl 2 rfl) ?_
        obtain ⟨r2, g2, h⟩ := g_b h
        refine kq_i (wSB cI cJ cZ a ce fr un sb se so sc wb we wo wc r2.2.1 r2.2.2.1 r2.2.2.2.1 r2.2.2.2.2 rm ac rf kn) (fun qP qD qF => va_runV (As := [.int x5]) (rest := [.long x3]) ⟨hx, hb, hml, hown, hts⟩ (c_X1_length l dC dI cB cI cJ cZ a _ ce fr un sb se so sc wb we wo wc fb fe fo fc rm ac rf kn x5 r2 g2) (kcwV hts kw_442 kv_X1_length rfl rfl ⟨(Nat.le_of_ble_eq_true rfl), (Nat.le_of_ble_eq_true rfl)⟩) (kpV (A := A) qP hK qD hG (krecv_3 (q0 := 0) hK hP rfl)) rfl rfl hl.1 rfl (lv_room (Nat.le_of_ble_eq_true rfl)) (kdr dgX1_mixFrees_0 2 9 rfl rfl) ⟨(Nat.le_of_ble_eq_true rfl), (Nat.le_of_ble_eq_true rfl)⟩) hP hD hS hA kFr_SB (fun H locs hP hD hS br2 => ?_)
        obtain ⟨r3, g3, h⟩ := g_b h
        refine kq_l (wSB cI cJ cZ a ce fr un sb se so sc wb we wo wc r2.2.1 r2.2.2.1 r2.2.2.2.1 r2.2.2.2.2 rm ac rf kn) (fun qP qD qF => va_runS (As := [.long x3, .int r2.1]) (rest := []) ⟨hx, hb, hml, hown, hts⟩ (c_X1_mix l dC dI cB cI cJ cZ  _  x3 r2.1 r3 g3) (kcwS hts kw_336 kv_X1_mix rfl rfl ⟨(Nat.le_of_ble_eq_true rfl), (Nat.le_of_ble_eq_true rfl)⟩) (kpS (A := A) (kPnil) hK ((kDnil (A := A))) hG) rfl rfl hl.1 rfl (lv_room (Nat.le_of_ble_eq_true rfl)) (kdr dgX1_mixFrees_0 3 0 rfl rfl) ⟨(Nat.le_of_ble_eq_true rfl), (Nat.le_of_ble_eq_true rfl)⟩) hP hD hS hA kFr_n (fun H locs hP hD hS => ?_)
        refine lv_lstore_n (lv' := (kvJ 3 r3 (kvA 0 (a 0) (kvI 5 x5 kvE)))) hx hb (kdr dgX1_mixFrees_0 3 1 rfl rfl) rfl hl (by decide) rfl (fun ls hl => ?_)
        refine lv_iinc (v := x5 + 1) (lv' := (kvI 5 (x5 + 1) (kvJ 3 r3 (kvA 0 (a 0) kvE)))) hx hb (kdr dgX1_mixFrees_0 3 2 rfl rfl) hl (k := 2) rfl rfl (by decide) rfl (fun ls hl => ?_)
        refine lv_goto (tgt := 47) hx hb (kdr dgX1_mixFrees_0 3 3 rfl rfl) (by decide) ?_
        exact ih ce fr un sb se so sc wb we wo wc r2.2.1 r2.2.2.1 r2.2.2.2.1 r2.2.2.2.2 rm ac rf kn r3 (x5 + 1) _ _ hP hD hS ls (lv_sub hl [2, 1, 0] rfl) h
  have J15 : ∀ (n : Nat), ∀ (ce : Nat → Int64) (fr : Int64) (un : Int64) (sb : Nat → Int64) (se : Nat → Int64) (so : Nat → Int32) (sc : Int32) (wb : Nat → Int64) (we : Nat → Int64) (wo : Nat → Int32) (wc : Int32) (fb : Nat → Int64) (fe : Nat → Int64) (fo : Nat → Int32) (fc : Int32) (rm : Nat → Int32) (ac : Int32) (rf : Int32) (kn : Int32) (x3 : Int64) (x5 : Int32) (H : Heap) (locs : List Loc), va_P (dC, dI) vwCl (wSB cI cJ cZ a ce fr un sb se so sc wb we wo wc fb fe fo fc rm ac rf kn) H → va_D A (wSB cI cJ cZ a ce fr un sb se so sc wb we wo wc fb fe fo fc rm ac rf kn) → va_S A s.heap H locs → ∀ (ls : Array Slot), lv_has ls 6 (kvA 0 (a 0) (kvJ 3 x3 (kvI 5 x5 kvE))) → f_X1_mixFrees_15 n fr un sb se sc fb fe fo fc x3 x5 = some res → W p l e (headSpec wsX1_mixFrees (kRm 5 0 0 118)).room s m ([.ref (a 0), .long p0] : List Value).toArray below meth c H locs 0 0 (MQ below (kL (dC, dI) (res.1) (wSB cI cJ cZ a ce fr un sb se so sc wb we wo wc (res.2.1) (res.2.2.1) (res.2.2.2.1) (res.2.2.2.2) rm ac rf kn) A) ([.ref (a 0), .long p0] : List Value).toArray s 0 0 A) (F0 m 15 ls []) := by
    intro n
    induction n with
    | zero =>
      intro ce fr un sb se so sc wb we wo wc fb fe fo fc rm ac rf kn x3 x5 H locs hP hD hS ls hl h
      have h := f_X1_mixFrees_15_0.symm.trans h
      cases h
    | succ n ih =>
      intro ce fr un sb se so sc wb we wo wc fb fe fo fc rm ac rf kn x3 x5 H locs hP hD hS ls hl h
      have h := f_X1_mixFrees_15_s.symm.trans h
      refine lv_iload hx hb (kdr dgX1_mixFrees_0 0 8 rfl rfl) (lv_at hl 2 rfl) ?_
      refine lv_aload_n hx hb (kdr dgX1_mixFrees_0 0 9 rfl rfl) rfl (lv_at hl 0 rfl) ?_
      refine va_get (D := (dC, dI)) (ci := 3) (v := .ref (a 10)) (C := RX1) (T := TX1) (N := 10) hx hb hts hiX1 hown hK hP 0 rfl rfl 5 (by decide) hw0 (fun _ h9 => h9) rfl (kdr dgX1_mixFrees_0 1 0 rfl rfl) ?_
      obtain ⟨r1, g1, h⟩ := g_b h
      refine kq_i (wSB cI cJ cZ a ce fr un sb se so sc wb we wo wc fb fe fo fc rm ac rf kn) (fun qP qD qF => va_runV (As := []) (rest := [.int x5]) ⟨hx, hb, hml, hown, hts⟩ (c_X0_count l dC dI cB cI cJ cZ (a 10) (a 11) (a 12) (a 13) _ fb fe fo fc  r1 g1) (kcwV hts kw_155 kv_X0_count rfl rfl ⟨(Nat.le_of_ble_eq_true rfl), (Nat.le_of_ble_eq_true rfl)⟩) (kpV (A := A) qP hK qD hG (krecv_2 (q0 := 10) hK hP rfl)) rfl rfl hl.1 rfl (lv_room (Nat.le_of_ble_eq_true rfl)) (kdr dgX1_mixFrees_0 1 1 rfl rfl) ⟨(Nat.le_of_ble_eq_true rfl), (Nat.le_of_ble_eq_true rfl)⟩) hP hD hS hA kFr_SBf (fun H locs hP hD hS br1 => ?_)
      refine lv_icmp_ge (tgt := 44) hx hb (kdr dgX1_mixFrees_0 1 2 rfl rfl) (by decide) (fun c2 => ?_) (fun c2 => ?_)
      · have h := g_t c2 h
        refine lv_iconst (v := 0) hx hb (kdr dgX1_mixFrees_0 2 1 rfl rfl) (by decide) ?_
        refine lv_istore (lv' := (kvI 5 0 (kvA 0 (a 0) (kvJ 3 x3 kvE)))) hx hb (kdr dgX1_mixFrees_0 2 2 rfl rfl) hl (by decide) rfl (fun ls hl => ?_)
        exact J47 24 ce fr un sb se so sc wb we wo wc fb fe fo fc rm ac rf kn x3 0 _ _ hP hD hS ls (lv_sub hl [1, 2, 0] rfl) h
      · have h := g_f c2 h
        refine lv_lload_n hx hb (kdr dgX1_mixFrees_0 1 3 rfl rfl) rfl (lv_at hl 1 rfl) ?_
        refine lv_aload_n hx hb (kdr dgX1_mixFrees_0 1 4 rfl rfl) rfl (lv_at hl 0 rfl) ?_
        refine va_get (D := (dC, dI)) (ci := 3) (v := .ref (a 10)) (C := RX1) (T := TX1) (N := 10) hx hb hts hiX1 hown hK hP 0 rfl rfl 5 (by decide) hw0 (fun _ h9 => h9) rfl (kdr dgX1_mixFrees_0 1 5 rfl rfl) ?_
        refine lv_iload hx hb (kdr dgX1_mixFrees_0 1 6 rfl rfl) (lv_at hl 2 rfl) ?_
        obtain ⟨r3, g3, h⟩ := g_b h
        refine kq_l (wSB cI cJ cZ a ce fr un sb se so sc wb we wo wc fb fe fo fc rm ac rf kn) (fun qP qD qF => va_runS (As := [.long x3, .ref (a 10), .int x5]) (rest := []) ⟨hx, hb, hml, hown, hts⟩ (c_X1_mixParts l dC dI cB cI cJ cZ (a 10) (a 11) (a 12) (a 13) _ fb fe fo fc x3 x5 r3 g3) (kcwS hts kw_430 kv_X1_mixParts rfl rfl ⟨(Nat.le_of_ble_eq_true rfl), (Nat.le_of_ble_eq_true rfl)⟩) (kpS (A := A) qP hK qD hG) rfl rfl hl.1 rfl (lv_room (Nat.le_of_ble_eq_true rfl)) (kdr dgX1_mixFrees_0 1 7 rfl rfl) ⟨(Nat.le_of_ble_eq_true rfl), (Nat.le_of_ble_eq_true rfl)⟩) hP hD hS hA kFr_SBf (fun H locs hP hD hS => ?_)
        refine lv_lstore_n (lv' := (kvJ 3 r3 (kvA 0 (a 0) (kvI 5 x5 kvE)))) hx hb (kdr dgX1_mixFrees_0 1 8 rfl rfl) rfl hl (by decide) rfl (fun ls hl => ?_)
        refine lv_iinc (v := x5 + 1) (lv' := (kvI 5 (x5 + 1) (kvJ 3 r3 (kvA 0 (a 0) kvE)))) hx hb (kdr dgX1_mixFrees_0 1 9 rfl rfl) hl (k := 2) rfl rfl (by decide) rfl (fun ls hl => ?_)
        refine lv_goto (tgt := 15) hx hb (kdr dgX1_mixFrees_0 2 0 rfl rfl) (by decide) ?_
        exact ih ce fr un sb se so sc wb we wo wc fb fe fo fc rm ac rf kn r3 (x5 + 1) _ _ hP hD hS ls (lv_sub hl [2, 1, 0] rfl) h
  have h := f_X1_mixFrees_e.symm.trans hf
  refine lv_lload_n hx hb (kdr dgX1_mixFrees_0 0 0 rfl rfl) rfl (lv_at hl 1 rfl) ?_
  refine lv_aload_n hx hb (kdr dgX1_mixFrees_0 0 1 rfl rfl) rfl (lv_at hl 0 rfl) ?_
  refine va_get (D := (dC, dI)) (ci := 3) (v := .ref (a 10)) (C := RX1) (T := TX1) (N := 10) hx hb hts hiX1 hown hK hP 0 rfl rfl 5 (by decide) hw0 (fun _ h9 => h9) rfl (kdr dgX1_mixFrees_0 0 2 rfl rfl) ?_
  obtain ⟨r1, g1, h⟩ := g_b h
  refine kq_i (wSB cI cJ cZ a ce fr un sb se so sc wb we wo wc fb fe fo fc rm ac rf kn) (fun qP qD qF => va_runV (As := []) (rest := [.long p0]) ⟨hx, hb, hml, hown, hts⟩ (c_X0_count l dC dI cB cI cJ cZ (a 10) (a 11) (a 12) (a 13) _ fb fe fo fc  r1 g1) (kcwV hts kw_155 kv_X0_count rfl rfl ⟨(Nat.le_of_ble_eq_true rfl), (Nat.le_of_ble_eq_true rfl)⟩) (kpV (A := A) qP hK qD hG (krecv_2 (q0 := 10) hK hP rfl)) rfl rfl hl.1 rfl (lv_room (Nat.le_of_ble_eq_true rfl)) (kdr dgX1_mixFrees_0 0 3 rfl rfl) ⟨(Nat.le_of_ble_eq_true rfl), (Nat.le_of_ble_eq_true rfl)⟩) hP hD hS hA kFr_SBf (fun H locs hP hD hS br1 => ?_)
  obtain ⟨r2, g2, h⟩ := g_b h
  refine kq_l (wSB cI cJ cZ a ce fr un sb se so sc wb we wo wc fb fe fo fc rm ac rf kn) (fun qP qD qF => va_runS (As := [.long p0, .int r1]) (rest := []) ⟨hx, hb, hml, hown, hts⟩ (c_X1_mix l dC dI cB cI cJ cZ  _  p0 r1 r2 g2) (kcwS hts kw_336 kv_X1_mix rfl rfl ⟨(Nat.le_of_ble_eq_true rfl), (Nat.le_of_ble_eq_true rfl)⟩) (kpS (A := A) (kPnil) hK ((kDnil (A := A))) hG) rfl rfl hl.1 rfl (lv_room (Nat.le_of_ble_eq_true rfl)) (kdr dgX1_mixFrees_0 0 4 rfl rfl) ⟨(Nat.le_of_ble_eq_true rfl), (Nat.le_of_ble_eq_true rfl)⟩) hP hD hS hA kFr_n (fun H locs hP hD hS => ?_)
  refine lv_lstore_n (lv' := (kvJ 3 r2 (kvA 0 (a 0) (kvJ 1 p0 kvE)))) hx hb (kdr dgX1_mixFrees_0 0 5 rfl rfl) rfl hl (by decide) rfl (fun ls hl => ?_)
  refine lv_iconst (v := 0) hx hb (kdr dgX1_mixFrees_0 0 6 rfl rfl) (by decide) ?_
  refine lv_istore (lv' := (kvI 5 0 (kvJ 3 r2 (kvA 0 (a 0) (kvJ 1 p0 kvE))))) hx hb (kdr dgX1_mixFrees_0 0 7 rfl rfl) hl (by decide) rfl (fun ls hl => ?_)
  exact J15 24 ce fr un sb se so sc wb we wo wc fb fe fo fc rm ac rf kn r2 0 _ _ hP hD hS ls (lv_sub hl [2, 1, 0] rfl) h
noncomputable abbrev wsX1_mixWishes : List Cond := kWs yX1_mixWishes cX1_mixWishes 6 (some .long)
noncomputable def f_X1_mixWishes_15 : Nat → (Nat → Int64) → (Nat → Int64) → (Int32) → (Nat → Int32) → (Int64) → (Int32) → Option (Int64)
  | 0, _, _, _, _, _, _ => none
  | n + 1, wb, we, wc, rm, x3, x5 =>
    (f_X0_count wc).bind fun r1 =>
    if r1 ≤ x5 then
      (f_X1_chosen wb we wc).bind fun r3 =>
      (f_X1_mix x3 r3).bind fun r4 =>
      (f_X1_mostOfAllSets wb we wc).bind fun r5 =>
      (f_X1_mix r4 r5).bind fun r6 =>
      (f_X1_crowd wb we wc).bind fun r7 =>
      (f_X1_mix r6 r7).bind fun r8 =>
      some r8
    else
      (f_X1_mixParts wb we wc x3 x5).bind fun r3 =>
      if ix x5 11 then
        (f_X1_mix r3 (rm x5.toNatClampNeg)).bind fun r5 =>
        f_X1_mixWishes_15 n wb we wc rm r5 (x5 + 1)
      else none
theorem f_X1_mixWishes_15_0 {wb : Nat → Int64} {we : Nat → Int64} {wc : Int32} {rm : Nat → Int32} {x3 : Int64} {x5 : Int32} : f_X1_mixWishes_15 0 wb we wc rm x3 x5 = none := rfl
theorem f_X1_mixWishes_15_s {n : Nat} {wb : Nat → Int64} {we : Nat → Int64} {wc : Int32} {rm : Nat → Int32} {x3 : Int64} {x5 : Int32} : f_X1_mixWishes_15 (n + 1) wb we wc rm x3 x5 =
  (f_X0_count wc).bind fun r1 =>
  if r1 ≤ x5 then
    (f_X1_chosen wb we wc).bind fun r3 =>
    (f_X1_mix x3 r3).bind fun r4 =>
    (f_X1_mostOfAllSets wb we wc).bind fun r5 =>
    (f_X1_mix r4 r5).bind fun r6 =>
    (f_X1_crowd wb we wc).bind fun r7 =>
    (f_X1_mix r6 r7).bind fun r8 =>
    some r8
  else
    (f_X1_mixParts wb we wc x3 x5).bind fun r3 =>
    if ix x5 11 then
      (f_X1_mix r3 (rm x5.toNatClampNeg)).bind fun r5 =>
      f_X1_mixWishes_15 n wb we wc rm r5 (x5 + 1)
    else none := rfl
noncomputable def f_X1_mixWishes (wb : Nat → Int64) (we : Nat → Int64) (wc : Int32) (rm : Nat → Int32) (p0 : Int64) : Option (Int64) :=
  (f_X0_count wc).bind fun r1 =>
  (f_X1_mix p0 r1).bind fun r2 =>
  f_X1_mixWishes_15 24 wb we wc rm r2 0
theorem f_X1_mixWishes_e {wb : Nat → Int64} {we : Nat → Int64} {wc : Int32} {rm : Nat → Int32} {p0 : Int64} : f_X1_mixWishes wb we wc rm p0 = 
  (f_X0_count wc).bind fun r1 =>
  (f_X1_mix p0 r1).bind fun r2 =>
  f_X1_mixWishes_15 24 wb we wc rm r2 0 := rfl
set_option maxHeartbeats 4000000 in
set_option maxRecDepth 100000 in
theorem c_X1_mixWishes (l : Launch) (dC : Nat → ClassId) (dI : Nat → Nat → Nat) (cB cI cJ cZ : ClassId) (a : Nat → Nat) (sz : Nat) (ce : Nat → Int64) (fr : Int64) (un : Int64) (sb : Nat → Int64) (se : Nat → Int64) (so : Nat → Int32) (sc : Int32) (wb : Nat → Int64) (we : Nat → Int64) (wo : Nat → Int32) (wc : Int32) (fb : Nat → Int64) (fe : Nat → Int64) (fo : Nat → Int32) (fc : Int32) (rm : Nat → Int32) (ac : Int32) (rf : Int32) (kn : Int32) (p0 : Int64) (res : Int64) (hf : f_X1_mixWishes wb we wc rm p0 = some res) : kMl l yX1_mixWishes wsX1_mixWishes (kRm 5 0 0 116) dC dI cB cI cJ cZ [.ref (a 0), .long p0] sz (wSB cI cJ cZ a ce fr un sb se so sc wb we wo wc fb fe fo fc rm ac rf kn) (res) (wSB cI cJ cZ a ce fr un sb se so sc wb we wo wc fb fe fo fc rm ac rf kn) 0 0 := by
  refine kmet_l (y := yX1_mixWishes) (cc := cX1_mixWishes) (maxL := 6) (ret := (some .long)) RX1 (kvA 0 (a 0) (kvJ 1 p0 kvE)) kpl_X1 rfl rfl (Nat.le_of_ble_eq_true rfl) rfl (fun p e s m below meth c A ls hx hb hr hml hts hown hlocks hP hK hG hD hA hS hl => ?_)
  have hw0 := hts (.fieldLink RX1 29 "Spanbooker" "wishRow" "LSpanbooker$Row;") (List.mem_cons_of_mem _ kw_111)
  have hw1 := hts (.fieldLink RX1 35 "Spanbooker" "roomOf" "[I") (List.mem_cons_of_mem _ kw_113)
  have hiX1 : ∀ w ∈ u_ws RX1 TX1 10, w ∈ wsX1_mixWishes := fun w h => List.mem_cons_of_mem _ (ku_X1 w h)
  have J15 : ∀ (n : Nat), ∀ (ce : Nat → Int64) (fr : Int64) (un : Int64) (sb : Nat → Int64) (se : Nat → Int64) (so : Nat → Int32) (sc : Int32) (wb : Nat → Int64) (we : Nat → Int64) (wo : Nat → Int32) (wc : Int32) (fb : Nat → Int64) (fe : Nat → Int64) (fo : Nat → Int32) (fc : Int32) (rm : Nat → Int32) (ac : Int32) (rf : Int32) (kn : Int32) (x3 : Int64) (x5 : Int32) (H : Heap) (locs : List Loc), va_P (dC, dI) vwCl (wSB cI cJ cZ a ce fr un sb se so sc wb we wo wc fb fe fo fc rm ac rf kn) H → va_D A (wSB cI cJ cZ a ce fr un sb se so sc wb we wo wc fb fe fo fc rm ac rf kn) → va_S A s.heap H locs → ∀ (ls : Array Slot), lv_has ls 6 (kvA 0 (a 0) (kvJ 3 x3 (kvI 5 x5 kvE))) → f_X1_mixWishes_15 n wb we wc rm x3 x5 = some res → W p l e (headSpec wsX1_mixWishes (kRm 5 0 0 116)).room s m ([.ref (a 0), .long p0] : List Value).toArray below meth c H locs 0 0 (MQ below (kL (dC, dI) (res) (wSB cI cJ cZ a ce fr un sb se so sc wb we wo wc fb fe fo fc rm ac rf kn) A) ([.ref (a 0), .long p0] : List Value).toArray s 0 0 A) (F0 m 15 ls []) := by
    intro n
    induction n with
    | zero =>
      intro ce fr un sb se so sc wb we wo wc fb fe fo fc rm ac rf kn x3 x5 H locs hP hD hS ls hl h
      have h := f_X1_mixWishes_15_0.symm.trans h
      cases h
    | succ n ih =>
      intro ce fr un sb se so sc wb we wo wc fb fe fo fc rm ac rf kn x3 x5 H locs hP hD hS ls hl h
      have h := f_X1_mixWishes_15_s.symm.trans h
      refine lv_iload hx hb (kdr dgX1_mixWishes_0 0 8 rfl rfl) (lv_at hl 2 rfl) ?_
      refine lv_aload_n hx hb (kdr dgX1_mixWishes_0 0 9 rfl rfl) rfl (lv_at hl 0 rfl) ?_
      refine va_get (D := (dC, dI)) (ci := 3) (v := .ref (a 6)) (C := RX1) (T := TX1) (N := 10) hx hb hts hiX1 hown hK hP 0 rfl rfl 4 (by decide) hw0 (fun _ h9 => h9) rfl (kdr dgX1_mixWishes_0 1 0 rfl rfl) ?_
      obtain ⟨r1, g1, h⟩ := g_b h
      refine kq_i (wSB cI cJ cZ a ce fr un sb se so sc wb we wo wc fb fe fo fc rm ac rf kn) (fun qP qD qF => va_runV (As := []) (rest := [.int x5]) ⟨hx, hb, hml, hown, hts⟩ (c_X0_count l dC dI cB cI cJ cZ (a 6) (a 7) (a 8) (a 9) _ wb we wo wc  r1 g1) (kcwV hts kw_155 kv_X0_count rfl rfl ⟨(Nat.le_of_ble_eq_true rfl), (Nat.le_of_ble_eq_true rfl)⟩) (kpV (A := A) qP hK qD hG (krecv_2 (q0 := 6) hK hP rfl)) rfl rfl hl.1 rfl (lv_room (Nat.le_of_ble_eq_true rfl)) (kdr dgX1_mixWishes_0 1 1 rfl rfl) ⟨(Nat.le_of_ble_eq_true rfl), (Nat.le_of_ble_eq_true rfl)⟩) hP hD hS hA kFr_SBw (fun H locs hP hD hS br1 => ?_)
      refine lv_icmp_ge (tgt := 56) hx hb (kdr dgX1_mixWishes_0 1 2 rfl rfl) (by decide) (fun c2 => ?_) (fun c2 => ?_)
      · have h := g_t c2 h
        refine lv_lload_n hx hb (kdr dgX1_mixWishes_0 2 8 rfl rfl) rfl (lv_at hl 1 rfl) ?_
        refine lv_aload_n hx hb (kdr dgX1_mixWishes_0 2 9 rfl rfl) rfl (lv_at hl 0 rfl) ?_
        obtain ⟨r3, g3, h⟩ := g_b h
        refine kq_i (wSB cI cJ cZ a ce fr un sb se so sc wb we wo wc fb fe fo fc rm ac rf kn) (fun qP qD qF => va_runV (As := []) (rest := [.long x3]) ⟨hx, hb, hml, hown, hts⟩ (c_X1_chosen l dC dI cB cI cJ cZ a _ ce fr un sb se so sc wb we wo wc fb fe fo fc rm ac rf kn  r3 g3) (kcwV hts kw_300 kv_X1_chosen rfl rfl ⟨(Nat.le_of_ble_eq_true rfl), (Nat.le_of_ble_eq_true rfl)⟩) (kpV (A := A) qP hK qD hG (krecv_3 (q0 := 0) hK hP rfl)) rfl rfl hl.1 rfl (lv_room (Nat.le_of_ble_eq_true rfl)) (kdr dgX1_mixWishes_0 3 0 rfl rfl) ⟨(Nat.le_of_ble_eq_true rfl), (Nat.le_of_ble_eq_true rfl)⟩) hP hD hS hA kFr_SB (fun H locs hP hD hS br3 => ?_)
        obtain ⟨r4, g4, h⟩ := g_b h
        refine kq_l (wSB cI cJ cZ a ce fr un sb se so sc wb we wo wc fb fe fo fc rm ac rf kn) (fun qP qD qF => va_runS (As := [.long x3, .int r3]) (rest := []) ⟨hx, hb, hml, hown, hts⟩ (c_X1_mix l dC dI cB cI cJ cZ  _  x3 r3 r4 g4) (kcwS hts kw_336 kv_X1_mix rfl rfl ⟨(Nat.le_of_ble_eq_true rfl), (Nat.le_of_ble_eq_true rfl)⟩) (kpS (A := A) (kPnil) hK ((kDnil (A := A))) hG) rfl rfl hl.1 rfl (lv_room (Nat.le_of_ble_eq_true rfl)) (kdr dgX1_mixWishes_0 3 1 rfl rfl) ⟨(Nat.le_of_ble_eq_true rfl), (Nat.le_of_ble_eq_true rfl)⟩) hP hD hS hA kFr_n (fun H locs hP hD hS => ?_)
        refine lv_lstore_n (lv' := (kvJ 3 r4 (kvA 0 (a 0) (kvI 5 x5 kvE)))) hx hb (kdr dgX1_mixWishes_0 3 2 rfl rfl) rfl hl (by decide) rfl (fun ls hl => ?_)
        refine lv_lload_n hx hb (kdr dgX1_mixWishes_0 3 3 rfl rfl) rfl (lv_at hl 0 rfl) ?_
        refine lv_aload_n hx hb (kdr dgX1_mixWishes_0 3 4 rfl rfl) rfl (lv_at hl 1 rfl) ?_
        obtain ⟨r5, g5, h⟩ := g_b h
        refine kq_i (wSB cI cJ cZ a ce fr un sb se so sc wb we wo wc fb fe fo fc rm ac rf kn) (fun qP qD qF => va_runV (As := []) (rest := [.long r4]) ⟨hx, hb, hml, hown, hts⟩ (c_X1_mostOfAllSets l dC dI cB cI cJ cZ a _ ce fr un sb se so sc wb we wo wc fb fe fo fc rm ac rf kn  r5 g5) (kcwV hts kw_311 kv_X1_mostOfAllSets rfl rfl ⟨(Nat.le_of_ble_eq_true rfl), (Nat.le_of_ble_eq_true rfl)⟩) (kpV (A := A) qP hK qD hG (krecv_3 (q0 := 0) hK hP rfl)) rfl rfl hl.1 rfl (lv_room (Nat.le_of_ble_eq_true rfl)) (kdr dgX1_mixWishes_0 3 5 rfl rfl) ⟨(Nat.le_of_ble_eq_true rfl), (Nat.le_of_ble_eq_true rfl)⟩) hP hD hS hA kFr_SB (fun H locs hP hD hS br5 => ?_)
        obtain ⟨r6, g6, h⟩ := g_b h
        refine kq_l (wSB cI cJ cZ a ce fr un sb se so sc wb we wo wc fb fe fo fc rm ac rf kn) (fun qP qD qF => va_runS (As := [.long r4, .int r5]) (rest := []) ⟨hx, hb, hml, hown, hts⟩ (c_X1_mix l dC dI cB cI cJ cZ  _  r4 r5 r6 g6) (kcwS hts kw_336 kv_X1_mix rfl rfl ⟨(Nat.le_of_ble_eq_true rfl), (Nat.le_of_ble_eq_true rfl)⟩) (kpS (A := A) (kPnil) hK ((kDnil (A := A))) hG) rfl rfl hl.1 rfl (lv_room (Nat.le_of_ble_eq_true rfl)) (kdr dgX1_mixWishes_0 3 6 rfl rfl) ⟨(Nat.le_of_ble_eq_true rfl), (Nat.le_of_ble_eq_true rfl)⟩) hP hD hS hA kFr_n (fun H locs hP hD hS => ?_)
        refine lv_lstore_n (lv' := (kvJ 3 r6 (kvA 0 (a 0) (kvI 5 x5 kvE)))) hx hb (kdr dgX1_mixWishes_0 3 7 rfl rfl) rfl hl (by decide) rfl (fun ls hl => ?_)
        refine lv_lload_n hx hb (kdr dgX1_mixWishes_0 3 8 rfl rfl) rfl (lv_at hl 0 rfl) ?_
        refine lv_aload_n hx hb (kdr dgX1_mixWishes_0 3 9 rfl rfl) rfl (lv_at hl 1 rfl) ?_
        obtain ⟨r7, g7, h⟩ := g_b h
        refine kq_i (wSB cI cJ cZ a ce fr un sb se so sc wb we wo wc fb fe fo fc rm ac rf kn) (fun qP qD qF => va_runV (As := []) (rest := [.long r6]) ⟨hx, hb, hml, hown, hts⟩ (c_X1_crowd l dC dI cB cI cJ cZ a _ ce fr un sb se so sc wb we wo wc fb fe fo fc rm ac rf kn  r7 g7) (kcwV hts kw_319 kv_X1_crowd rfl rfl ⟨(Nat.le_of_ble_eq_true rfl), (Nat.le_of_ble_eq_true rfl)⟩) (kpV (A := A) qP hK qD hG (krecv_3 (q0 := 0) hK hP rfl)) rfl rfl hl.1 rfl (lv_room (Nat.le_of_ble_eq_true rfl)) (kdr dgX1_mixWishes_0 4 0 rfl rfl) ⟨(Nat.le_of_ble_eq_true rfl), (Nat.le_of_ble_eq_true rfl)⟩) hP hD hS hA kFr_SB (fun H locs hP hD hS br7 => ?_)
        obtain ⟨r8, g8, h⟩ := g_b h
        refine kq_l (wSB cI cJ cZ a ce fr un sb se so sc wb we wo wc fb fe fo fc rm ac rf kn) (fun qP qD qF => va_runS (As := [.long r6, .int r7]) (rest := []) ⟨hx, hb, hml, hown, hts⟩ (c_X1_mix l dC dI cB cI cJ cZ  _  r6 r7 r8 g8) (kcwS hts kw_336 kv_X1_mix rfl rfl ⟨(Nat.le_of_ble_eq_true rfl), (Nat.le_of_ble_eq_true rfl)⟩) (kpS (A := A) (kPnil) hK ((kDnil (A := A))) hG) rfl rfl hl.1 rfl (lv_room (Nat.le_of_ble_eq_true rfl)) (kdr dgX1_mixWishes_0 4 1 rfl rfl) ⟨(Nat.le_of_ble_eq_true rfl), (Nat.le_of_ble_eq_true rfl)⟩) hP hD hS hA kFr_n (fun H locs hP hD hS => ?_)
        have h := Option.some.inj h
        subst h
        exact kret_l (v := r8) hx hb hr hlocks hS hP (kdr dgX1_mixWishes_0 4 2 rfl rfl)
      · have h := g_f c2 h
        refine lv_lload_n hx hb (kdr dgX1_mixWishes_0 1 3 rfl rfl) rfl (lv_at hl 1 rfl) ?_
        refine lv_aload_n hx hb (kdr dgX1_mixWishes_0 1 4 rfl rfl) rfl (lv_at hl 0 rfl) ?_
        refine va_get (D := (dC, dI)) (ci := 3) (v := .ref (a 6)) (C := RX1) (T := TX1) (N := 10) hx hb hts hiX1 hown hK hP 0 rfl rfl 4 (by decide) hw0 (fun _ h9 => h9) rfl (kdr dgX1_mixWishes_0 1 5 rfl rfl) ?_
        refine lv_iload hx hb (kdr dgX1_mixWishes_0 1 6 rfl rfl) (lv_at hl 2 rfl) ?_
        obtain ⟨r3, g3, h⟩ := g_b h
        refine kq_l (wSB cI cJ cZ a ce fr un sb se so sc wb we wo wc fb fe fo fc rm ac rf kn) (fun qP qD qF => va_runS (As := [.long x3, .ref (a 6), .int x5]) (rest := []) ⟨hx, hb, hml, hown, hts⟩ (c_X1_mixParts l dC dI cB cI cJ cZ (a 6) (a 7) (a 8) (a 9) _ wb we wo wc x3 x5 r3 g3) (kcwS hts kw_430 kv_X1_mixParts rfl rfl ⟨(Nat.le_of_ble_eq_true rfl), (Nat.le_of_ble_eq_true rfl)⟩) (kpS (A := A) qP hK qD hG) rfl rfl hl.1 rfl (lv_room (Nat.le_of_ble_eq_true rfl)) (kdr dgX1_mixWishes_0 1 7 rfl rfl) ⟨(Nat.le_of_ble_eq_true rfl), (Nat.le_of_ble_eq_true rfl)⟩) hP hD hS hA kFr_SBw (fun H locs hP hD hS => ?_)
        refine lv_lstore_n (lv' := (kvJ 3 r3 (kvA 0 (a 0) (kvI 5 x5 kvE)))) hx hb (kdr dgX1_mixWishes_0 1 8 rfl rfl) rfl hl (by decide) rfl (fun ls hl => ?_)
        refine lv_lload_n hx hb (kdr dgX1_mixWishes_0 1 9 rfl rfl) rfl (lv_at hl 0 rfl) ?_
        refine lv_aload_n hx hb (kdr dgX1_mixWishes_0 2 0 rfl rfl) rfl (lv_at hl 1 rfl) ?_
        refine va_get (D := (dC, dI)) (ci := 3) (v := .ref (a 14)) (C := RX1) (T := TX1) (N := 10) hx hb hts hiX1 hown hK hP 0 rfl rfl 6 (by decide) hw1 (fun _ h9 => h9) rfl (kdr dgX1_mixWishes_0 2 1 rfl rfl) ?_
        refine lv_iload hx hb (kdr dgX1_mixWishes_0 2 2 rfl rfl) (lv_at hl 2 rfl) ?_
        obtain ⟨z3, h⟩ := g_if h
        refine va_iald hx hb hK hP 14 1 rfl rfl (ix_in z3) (kdr dgX1_mixWishes_0 2 3 rfl rfl) ?_
        obtain ⟨r5, g5, h⟩ := g_b h
        refine kq_l (wSB cI cJ cZ a ce fr un sb se so sc wb we wo wc fb fe fo fc rm ac rf kn) (fun qP qD qF => va_runS (As := [.long r3, .int (rm x5.toNatClampNeg)]) (rest := []) ⟨hx, hb, hml, hown, hts⟩ (c_X1_mix l dC dI cB cI cJ cZ  _  r3 (rm x5.toNatClampNeg) r5 g5) (kcwS hts kw_336 kv_X1_mix rfl rfl ⟨(Nat.le_of_ble_eq_true rfl), (Nat.le_of_ble_eq_true rfl)⟩) (kpS (A := A) (kPnil) hK ((kDnil (A := A))) hG) rfl rfl hl.1 rfl (lv_room (Nat.le_of_ble_eq_true rfl)) (kdr dgX1_mixWishes_0 2 4 rfl rfl) ⟨(Nat.le_of_ble_eq_true rfl), (Nat.le_of_ble_eq_true rfl)⟩) hP hD hS hA kFr_n (fun H locs hP hD hS => ?_)
        refine lv_lstore_n (lv' := (kvJ 3 r5 (kvA 0 (a 0) (kvI 5 x5 kvE)))) hx hb (kdr dgX1_mixWishes_0 2 5 rfl rfl) rfl hl (by decide) rfl (fun ls hl => ?_)
        refine lv_iinc (v := x5 + 1) (lv' := (kvI 5 (x5 + 1) (kvJ 3 r5 (kvA 0 (a 0) kvE)))) hx hb (kdr dgX1_mixWishes_0 2 6 rfl rfl) hl (k := 2) rfl rfl (by decide) rfl (fun ls hl => ?_)
        refine lv_goto (tgt := 15) hx hb (kdr dgX1_mixWishes_0 2 7 rfl rfl) (by decide) ?_
        exact ih ce fr un sb se so sc wb we wo wc fb fe fo fc rm ac rf kn r5 (x5 + 1) _ _ hP hD hS ls (lv_sub hl [2, 1, 0] rfl) h
  have h := f_X1_mixWishes_e.symm.trans hf
  refine lv_lload_n hx hb (kdr dgX1_mixWishes_0 0 0 rfl rfl) rfl (lv_at hl 1 rfl) ?_
  refine lv_aload_n hx hb (kdr dgX1_mixWishes_0 0 1 rfl rfl) rfl (lv_at hl 0 rfl) ?_
  refine va_get (D := (dC, dI)) (ci := 3) (v := .ref (a 6)) (C := RX1) (T := TX1) (N := 10) hx hb hts hiX1 hown hK hP 0 rfl rfl 4 (by decide) hw0 (fun _ h9 => h9) rfl (kdr dgX1_mixWishes_0 0 2 rfl rfl) ?_
  obtain ⟨r1, g1, h⟩ := g_b h
  refine kq_i (wSB cI cJ cZ a ce fr un sb se so sc wb we wo wc fb fe fo fc rm ac rf kn) (fun qP qD qF => va_runV (As := []) (rest := [.long p0]) ⟨hx, hb, hml, hown, hts⟩ (c_X0_count l dC dI cB cI cJ cZ (a 6) (a 7) (a 8) (a 9) _ wb we wo wc  r1 g1) (kcwV hts kw_155 kv_X0_count rfl rfl ⟨(Nat.le_of_ble_eq_true rfl), (Nat.le_of_ble_eq_true rfl)⟩) (kpV (A := A) qP hK qD hG (krecv_2 (q0 := 6) hK hP rfl)) rfl rfl hl.1 rfl (lv_room (Nat.le_of_ble_eq_true rfl)) (kdr dgX1_mixWishes_0 0 3 rfl rfl) ⟨(Nat.le_of_ble_eq_true rfl), (Nat.le_of_ble_eq_true rfl)⟩) hP hD hS hA kFr_SBw (fun H locs hP hD hS br1 => ?_)
  obtain ⟨r2, g2, h⟩ := g_b h
  refine kq_l (wSB cI cJ cZ a ce fr un sb se so sc wb we wo wc fb fe fo fc rm ac rf kn) (fun qP qD qF => va_runS (As := [.long p0, .int r1]) (rest := []) ⟨hx, hb, hml, hown, hts⟩ (c_X1_mix l dC dI cB cI cJ cZ  _  p0 r1 r2 g2) (kcwS hts kw_336 kv_X1_mix rfl rfl ⟨(Nat.le_of_ble_eq_true rfl), (Nat.le_of_ble_eq_true rfl)⟩) (kpS (A := A) (kPnil) hK ((kDnil (A := A))) hG) rfl rfl hl.1 rfl (lv_room (Nat.le_of_ble_eq_true rfl)) (kdr dgX1_mixWishes_0 0 4 rfl rfl) ⟨(Nat.le_of_ble_eq_true rfl), (Nat.le_of_ble_eq_true rfl)⟩) hP hD hS hA kFr_n (fun H locs hP hD hS => ?_)
  refine lv_lstore_n (lv' := (kvJ 3 r2 (kvA 0 (a 0) (kvJ 1 p0 kvE)))) hx hb (kdr dgX1_mixWishes_0 0 5 rfl rfl) rfl hl (by decide) rfl (fun ls hl => ?_)
  refine lv_iconst (v := 0) hx hb (kdr dgX1_mixWishes_0 0 6 rfl rfl) (by decide) ?_
  refine lv_istore (lv' := (kvI 5 0 (kvJ 3 r2 (kvA 0 (a 0) (kvJ 1 p0 kvE))))) hx hb (kdr dgX1_mixWishes_0 0 7 rfl rfl) hl (by decide) rfl (fun ls hl => ?_)
  exact J15 24 ce fr un sb se so sc wb we wo wc fb fe fo fc rm ac rf kn r2 0 _ _ hP hD hS ls (lv_sub hl [2, 1, 0] rfl) h
noncomputable abbrev wsX1_digest : List Cond := kWs yX1_digest cX1_digest 3 (some .long)
noncomputable def f_X1_digest_76 (fb : Nat → Int64) (fe : Nat → Int64) (fo : Nat → Int32) (fc : Int32) (rm : Nat → Int32) (y0 : Int32) (y1 : Int64) : Option ((Int64) × (Nat → Int64) × (Nat → Int64) × (Nat → Int32) × (Int32) × (Nat → Int32)) :=
  (f_X1_mix y1 y0).bind fun r1 =>
  some (r1, fb, fe, fo, fc, rm)
theorem f_X1_digest_76_e {fb : Nat → Int64} {fe : Nat → Int64} {fo : Nat → Int32} {fc : Int32} {rm : Nat → Int32} {y0 : Int32} {y1 : Int64} : f_X1_digest_76 fb fe fo fc rm y0 y1 =
  (f_X1_mix y1 y0).bind fun r1 =>
  some (r1, fb, fe, fo, fc, rm) := rfl
noncomputable def f_X1_digest (ce : Nat → Int64) (fr : Int64) (un : Int64) (sb : Nat → Int64) (se : Nat → Int64) (so : Nat → Int32) (sc : Int32) (wb : Nat → Int64) (we : Nat → Int64) (wc : Int32) (fb : Nat → Int64) (fe : Nat → Int64) (fo : Nat → Int32) (fc : Int32) (rm : Nat → Int32) (ac : Int32) (rf : Int32) (kn : Int32) : Option ((Int64) × (Nat → Int64) × (Nat → Int64) × (Nat → Int32) × (Int32) × (Nat → Int32)) :=
  (f_X1_findFrees fr un sb se sc fb fe fo fc).bind fun r1 =>
  (f_X1_findRooms wb we wc rm).bind fun r2 =>
  (f_X1_mixCells ce sb se sc r1.1 r1.2.1 r1.2.2.2 8009).bind fun r3 =>
  (f_X1_mixSpans fr un sb se so sc r3).bind fun r4 =>
  (f_X1_mixFrees fr un sb se sc r1.1 r1.2.1 r1.2.2.1 r1.2.2.2 r4).bind fun r5 =>
  (f_X1_mixWishes wb we wc r2 r5.1).bind fun r6 =>
  (f_X1_mix r6 ac).bind fun r7 =>
  (f_X1_mix r7 rf).bind fun r8 =>
  (f_X1_mix r8 kn).bind fun r9 =>
  (f_X1_isSound fr un sb se so sc wb we wc r5.2.1 r5.2.2.1 r5.2.2.2.1 r5.2.2.2.2 r2).bind fun r10 =>
  if r10.1 = 0 then
    f_X1_digest_76 r10.2.1 r10.2.2.1 r10.2.2.2.1 r10.2.2.2.2.1 r10.2.2.2.2.2 0 r9
  else
    f_X1_digest_76 r10.2.1 r10.2.2.1 r10.2.2.2.1 r10.2.2.2.2.1 r10.2.2.2.2.2 1 r9
theorem f_X1_digest_e {ce : Nat → Int64} {fr : Int64} {un : Int64} {sb : Nat → Int64} {se : Nat → Int64} {so : Nat → Int32} {sc : Int32} {wb : Nat → Int64} {we : Nat → Int64} {wc : Int32} {fb : Nat → Int64} {fe : Nat → Int64} {fo : Nat → Int32} {fc : Int32} {rm : Nat → Int32} {ac : Int32} {rf : Int32} {kn : Int32} : f_X1_digest ce fr un sb se so sc wb we wc fb fe fo fc rm ac rf kn = 
  (f_X1_findFrees fr un sb se sc fb fe fo fc).bind fun r1 =>
  (f_X1_findRooms wb we wc rm).bind fun r2 =>
  (f_X1_mixCells ce sb se sc r1.1 r1.2.1 r1.2.2.2 8009).bind fun r3 =>
  (f_X1_mixSpans fr un sb se so sc r3).bind fun r4 =>
  (f_X1_mixFrees fr un sb se sc r1.1 r1.2.1 r1.2.2.1 r1.2.2.2 r4).bind fun r5 =>
  (f_X1_mixWishes wb we wc r2 r5.1).bind fun r6 =>
  (f_X1_mix r6 ac).bind fun r7 =>
  (f_X1_mix r7 rf).bind fun r8 =>
  (f_X1_mix r8 kn).bind fun r9 =>
  (f_X1_isSound fr un sb se so sc wb we wc r5.2.1 r5.2.2.1 r5.2.2.2.1 r5.2.2.2.2 r2).bind fun r10 =>
  if r10.1 = 0 then
    f_X1_digest_76 r10.2.1 r10.2.2.1 r10.2.2.2.1 r10.2.2.2.2.1 r10.2.2.2.2.2 0 r9
  else
    f_X1_digest_76 r10.2.1 r10.2.2.1 r10.2.2.2.1 r10.2.2.2.2.1 r10.2.2.2.2.2 1 r9 := rfl
set_option maxHeartbeats 4000000 in
set_option maxRecDepth 100000 in
theorem c_X1_digest (l : Launch) (dC : Nat → ClassId) (dI : Nat → Nat → Nat) (cB cI cJ cZ : ClassId) (a : Nat → Nat) (sz : Nat) (ce : Nat → Int64) (fr : Int64) (un : Int64) (sb : Nat → Int64) (se : Nat → Int64) (so : Nat → Int32) (sc : Int32) (wb : Nat → Int64) (we : Nat → Int64) (wo : Nat → Int32) (wc : Int32) (fb : Nat → Int64) (fe : Nat → Int64) (fo : Nat → Int32) (fc : Int32) (rm : Nat → Int32) (ac : Int32) (rf : Int32) (kn : Int32) (res : (Int64) × (Nat → Int64) × (Nat → Int64) × (Nat → Int32) × (Int32) × (Nat → Int32)) (hf : f_X1_digest ce fr un sb se so sc wb we wc fb fe fo fc rm ac rf kn = some res) : kMl l yX1_digest wsX1_digest (kRm 6 0 0 143) dC dI cB cI cJ cZ [.ref (a 0)] sz (wSB cI cJ cZ a ce fr un sb se so sc wb we wo wc fb fe fo fc rm ac rf kn) (res.1) (wSB cI cJ cZ a ce fr un sb se so sc wb we wo wc (res.2.1) (res.2.2.1) (res.2.2.2.1) (res.2.2.2.2.1) (res.2.2.2.2.2) ac rf kn) 0 0 := by
  refine kmet_l (y := yX1_digest) (cc := cX1_digest) (maxL := 3) (ret := (some .long)) RX1 (kvA 0 (a 0) kvE) kpl_X1 rfl rfl (Nat.le_of_ble_eq_true rfl) rfl (fun p e s m below meth c A ls hx hb hr hml hts hown hlocks hP hK hG hD hA hS hl => ?_)
  have hw0 := hts (.constantLong RX1 244 (8009)) (List.mem_cons_of_mem _ kw_324)
  have hw1 := hts (.fieldLink RX1 224 "Spanbooker" "acts" "I") (List.mem_cons_of_mem _ kw_114)
  have hw2 := hts (.fieldLink RX1 228 "Spanbooker" "refusals" "I") (List.mem_cons_of_mem _ kw_115)
  have hw3 := hts (.fieldLink RX1 231 "Spanbooker" "knocks" "I") (List.mem_cons_of_mem _ kw_116)
  have hiX1 : ∀ w ∈ u_ws RX1 TX1 10, w ∈ wsX1_digest := fun w h => List.mem_cons_of_mem _ (ku_X1 w h)
  have J76 : ∀ (ce : Nat → Int64) (fr : Int64) (un : Int64) (sb : Nat → Int64) (se : Nat → Int64) (so : Nat → Int32) (sc : Int32) (wb : Nat → Int64) (we : Nat → Int64) (wo : Nat → Int32) (wc : Int32) (fb : Nat → Int64) (fe : Nat → Int64) (fo : Nat → Int32) (fc : Int32) (rm : Nat → Int32) (ac : Int32) (rf : Int32) (kn : Int32) (y0 : Int32) (y1 : Int64) (H : Heap) (locs : List Loc), va_P (dC, dI) vwCl (wSB cI cJ cZ a ce fr un sb se so sc wb we wo wc fb fe fo fc rm ac rf kn) H → va_D A (wSB cI cJ cZ a ce fr un sb se so sc wb we wo wc fb fe fo fc rm ac rf kn) → va_S A s.heap H locs → ∀ (ls : Array Slot), lv_has ls 3 kvE → f_X1_digest_76 fb fe fo fc rm y0 y1 = some res → W p l e (headSpec wsX1_digest (kRm 6 0 0 143)).room s m ([.ref (a 0)] : List Value).toArray below meth c H locs 0 0 (MQ below (kL (dC, dI) (res.1) (wSB cI cJ cZ a ce fr un sb se so sc wb we wo wc (res.2.1) (res.2.2.1) (res.2.2.2.1) (res.2.2.2.2.1) (res.2.2.2.2.2) ac rf kn) A) ([.ref (a 0)] : List Value).toArray s 0 0 A) (F0 m 76 ls [.int y0, .long y1]) := by
    intro ce fr un sb se so sc wb we wo wc fb fe fo fc rm ac rf kn y0 y1 H locs hP hD hS ls hl h
    have h := f_X1_digest_76_e.symm.trans h
    obtain ⟨r1, g1, h⟩ := g_b h
    refine kq_l (wSB cI cJ cZ a ce fr un sb se so sc wb we wo wc fb fe fo fc rm ac rf kn) (fun qP qD qF => va_runS (As := [.long y1, .int y0]) (rest := []) ⟨hx, hb, hml, hown, hts⟩ (c_X1_mix l dC dI cB cI cJ cZ  _  y1 y0 r1 g1) (kcwS hts kw_336 kv_X1_mix rfl rfl ⟨(Nat.le_of_ble_eq_true rfl), (Nat.le_of_ble_eq_true rfl)⟩) (kpS (A := A) (kPnil) hK ((kDnil (A := A))) hG) rfl rfl hl.1 rfl (lv_room (Nat.le_of_ble_eq_true rfl)) (kdr dgX1_digest_0 4 4 rfl rfl) ⟨(Nat.le_of_ble_eq_true rfl), (Nat.le_of_ble_eq_true rfl)⟩) hP hD hS hA kFr_n (fun H locs hP hD hS => ?_)
    have h := Option.some.inj h
    subst h
    exact kret_l (v := r1) hx hb hr hlocks hS hP (kdr dgX1_digest_0 4 5 rfl rfl)
  have h := f_X1_digest_e.symm.trans hf
  refine lv_aload_n hx hb (kdr dgX1_digest_0 0 0 rfl rfl) rfl (lv_at hl 0 rfl) ?_
  obtain ⟨r1, g1, h⟩ := g_b h
  refine kq_v (wSB cI cJ cZ a ce fr un sb se so sc wb we wo wc r1.1 r1.2.1 r1.2.2.1 r1.2.2.2 rm ac rf kn) (fun qP qD qF => va_runV (As := []) (rest := []) ⟨hx, hb, hml, hown, hts⟩ (c_X1_findFrees l dC dI cB cI cJ cZ a _ ce fr un sb se so sc wb we wo wc fb fe fo fc rm ac rf kn  r1 g1) (kcwV hts kw_182 kv_X1_findFrees rfl rfl ⟨(Nat.le_of_ble_eq_true rfl), (Nat.le_of_ble_eq_true rfl)⟩) (kpV (A := A) qP hK qD hG (krecv_3 (q0 := 0) hK hP rfl)) rfl rfl hl.1 rfl (lv_room (Nat.le_of_ble_eq_true rfl)) (kdr dgX1_digest_0 0 1 rfl rfl) ⟨(Nat.le_of_ble_eq_true rfl), (Nat.le_of_ble_eq_true rfl)⟩) hP hD hS hA kFr_SB (fun H locs hP hD hS => ?_)
  refine lv_aload_n hx hb (kdr dgX1_digest_0 0 2 rfl rfl) rfl (lv_at hl 0 rfl) ?_
  obtain ⟨r2, g2, h⟩ := g_b h
  refine kq_v (wSB cI cJ cZ a ce fr un sb se so sc wb we wo wc r1.1 r1.2.1 r1.2.2.1 r1.2.2.2 r2 ac rf kn) (fun qP qD qF => va_runV (As := []) (rest := []) ⟨hx, hb, hml, hown, hts⟩ (c_X1_findRooms l dC dI cB cI cJ cZ a _ ce fr un sb se so sc wb we wo wc r1.1 r1.2.1 r1.2.2.1 r1.2.2.2 rm ac rf kn  r2 g2) (kcwV hts kw_243 kv_X1_findRooms rfl rfl ⟨(Nat.le_of_ble_eq_true rfl), (Nat.le_of_ble_eq_true rfl)⟩) (kpV (A := A) qP hK qD hG (krecv_3 (q0 := 0) hK hP rfl)) rfl rfl hl.1 rfl (lv_room (Nat.le_of_ble_eq_true rfl)) (kdr dgX1_digest_0 0 3 rfl rfl) ⟨(Nat.le_of_ble_eq_true rfl), (Nat.le_of_ble_eq_true rfl)⟩) hP hD hS hA kFr_SB (fun H locs hP hD hS => ?_)
  refine lv_ldc2 (v := (8009)) hx hb hown hw0 (kdr dgX1_digest_0 0 4 rfl rfl) ?_
  refine lv_lstore_n (lv' := (kvJ 1 8009 (kvA 0 (a 0) kvE))) hx hb (kdr dgX1_digest_0 0 5 rfl rfl) rfl hl (by decide) rfl (fun ls hl => ?_)
  refine lv_aload_n hx hb (kdr dgX1_digest_0 0 6 rfl rfl) rfl (lv_at hl 1 rfl) ?_
  refine lv_lload_n hx hb (kdr dgX1_digest_0 0 7 rfl rfl) rfl (lv_at hl 0 rfl) ?_
  obtain ⟨r3, g3, h⟩ := g_b h
  refine kq_l (wSB cI cJ cZ a ce fr un sb se so sc wb we wo wc r1.1 r1.2.1 r1.2.2.1 r1.2.2.2 r2 ac rf kn) (fun qP qD qF => va_runV (As := [.long 8009]) (rest := []) ⟨hx, hb, hml, hown, hts⟩ (c_X1_mixCells l dC dI cB cI cJ cZ a _ ce fr un sb se so sc wb we wo wc r1.1 r1.2.1 r1.2.2.1 r1.2.2.2 r2 ac rf kn 8009 r3 g3) (kcwV hts kw_325 kv_X1_mixCells rfl rfl ⟨(Nat.le_of_ble_eq_true rfl), (Nat.le_of_ble_eq_true rfl)⟩) (kpV (A := A) qP hK qD hG (krecv_3 (q0 := 0) hK hP rfl)) rfl rfl hl.1 rfl (lv_room (Nat.le_of_ble_eq_true rfl)) (kdr dgX1_digest_0 0 8 rfl rfl) ⟨(Nat.le_of_ble_eq_true rfl), (Nat.le_of_ble_eq_true rfl)⟩) hP hD hS hA kFr_SB (fun H locs hP hD hS => ?_)
  refine lv_lstore_n (lv' := (kvJ 1 r3 (kvA 0 (a 0) kvE))) hx hb (kdr dgX1_digest_0 0 9 rfl rfl) rfl hl (by decide) rfl (fun ls hl => ?_)
  refine lv_aload_n hx hb (kdr dgX1_digest_0 1 0 rfl rfl) rfl (lv_at hl 1 rfl) ?_
  refine lv_lload_n hx hb (kdr dgX1_digest_0 1 1 rfl rfl) rfl (lv_at hl 0 rfl) ?_
  obtain ⟨r4, g4, h⟩ := g_b h
  refine kq_l (wSB cI cJ cZ a ce fr un sb se so sc wb we wo wc r1.1 r1.2.1 r1.2.2.1 r1.2.2.2 r2 ac rf kn) (fun qP qD qF => va_runV (As := [.long r3]) (rest := []) ⟨hx, hb, hml, hown, hts⟩ (c_X1_mixSpans l dC dI cB cI cJ cZ a _ ce fr un sb se so sc wb we wo wc r1.1 r1.2.1 r1.2.2.1 r1.2.2.2 r2 ac rf kn r3 r4 g4) (kcwV hts kw_346 kv_X1_mixSpans rfl rfl ⟨(Nat.le_of_ble_eq_true rfl), (Nat.le_of_ble_eq_true rfl)⟩) (kpV (A := A) qP hK qD hG (krecv_3 (q0 := 0) hK hP rfl)) rfl rfl hl.1 rfl (lv_room (Nat.le_of_ble_eq_true rfl)) (kdr dgX1_digest_0 1 2 rfl rfl) ⟨(Nat.le_of_ble_eq_true rfl), (Nat.le_of_ble_eq_true rfl)⟩) hP hD hS hA kFr_SB (fun H locs hP hD hS => ?_)
  refine lv_lstore_n (lv' := (kvJ 1 r4 (kvA 0 (a 0) kvE))) hx hb (kdr dgX1_digest_0 1 3 rfl rfl) rfl hl (by decide) rfl (fun ls hl => ?_)
  refine lv_aload_n hx hb (kdr dgX1_digest_0 1 4 rfl rfl) rfl (lv_at hl 1 rfl) ?_
  refine lv_lload_n hx hb (kdr dgX1_digest_0 1 5 rfl rfl) rfl (lv_at hl 0 rfl) ?_
  obtain ⟨r5, g5, h⟩ := g_b h
  refine kq_l (wSB cI cJ cZ a ce fr un sb se so sc wb we wo wc r5.2.1 r5.2.2.1 r5.2.2.2.1 r5.2.2.2.2 r2 ac rf kn) (fun qP qD qF => va_runV (As := [.long r4]) (rest := []) ⟨hx, hb, hml, hown, hts⟩ (c_X1_mixFrees l dC dI cB cI cJ cZ a _ ce fr un sb se so sc wb we wo wc r1.1 r1.2.1 r1.2.2.1 r1.2.2.2 r2 ac rf kn r4 r5 g5) (kcwV hts kw_438 kv_X1_mixFrees rfl rfl ⟨(Nat.le_of_ble_eq_true rfl), (Nat.le_of_ble_eq_true rfl)⟩) (kpV (A := A) qP hK qD hG (krecv_3 (q0 := 0) hK hP rfl)) rfl rfl hl.1 rfl (lv_room (Nat.le_of_ble_eq_true rfl)) (kdr dgX1_digest_0 1 6 rfl rfl) ⟨(Nat.le_of_ble_eq_true rfl), (Nat.le_of_ble_eq_true rfl)⟩) hP hD hS hA kFr_SB (fun H locs hP hD hS => ?_)
  refine lv_lstore_n (lv' := (kvJ 1 r5.1 (kvA 0 (a 0) kvE))) hx hb (kdr dgX1_digest_0 1 7 rfl rfl) rfl hl (by decide) rfl (fun ls hl => ?_)
  refine lv_aload_n hx hb (kdr dgX1_digest_0 1 8 rfl rfl) rfl (lv_at hl 1 rfl) ?_
  refine lv_lload_n hx hb (kdr dgX1_digest_0 1 9 rfl rfl) rfl (lv_at hl 0 rfl) ?_
  obtain ⟨r6, g6, h⟩ := g_b h
  refine kq_l (wSB cI cJ cZ a ce fr un sb se so sc wb we wo wc r5.2.1 r5.2.2.1 r5.2.2.2.1 r5.2.2.2.2 r2 ac rf kn) (fun qP qD qF => va_runV (As := [.long r5.1]) (rest := []) ⟨hx, hb, hml, hown, hts⟩ (c_X1_mixWishes l dC dI cB cI cJ cZ a _ ce fr un sb se so sc wb we wo wc r5.2.1 r5.2.2.1 r5.2.2.2.1 r5.2.2.2.2 r2 ac rf kn r5.1 r6 g6) (kcwV hts kw_446 kv_X1_mixWishes rfl rfl ⟨(Nat.le_of_ble_eq_true rfl), (Nat.le_of_ble_eq_true rfl)⟩) (kpV (A := A) qP hK qD hG (krecv_3 (q0 := 0) hK hP rfl)) rfl rfl hl.1 rfl (lv_room (Nat.le_of_ble_eq_true rfl)) (kdr dgX1_digest_0 2 0 rfl rfl) ⟨(Nat.le_of_ble_eq_true rfl), (Nat.le_of_ble_eq_true rfl)⟩) hP hD hS hA kFr_SB (fun H locs hP hD hS => ?_)
  refine lv_lstore_n (lv' := (kvJ 1 r6 (kvA 0 (a 0) kvE))) hx hb (kdr dgX1_digest_0 2 1 rfl rfl) rfl hl (by decide) rfl (fun ls hl => ?_)
  refine lv_lload_n hx hb (kdr dgX1_digest_0 2 2 rfl rfl) rfl (lv_at hl 0 rfl) ?_
  refine lv_aload_n hx hb (kdr dgX1_digest_0 2 3 rfl rfl) rfl (lv_at hl 1 rfl) ?_
  refine va_get (D := (dC, dI)) (ci := 3) (v := .int ac) (C := RX1) (T := TX1) (N := 10) hx hb hts hiX1 hown hK hP 0 rfl rfl 7 (by decide) hw1 (fun _ h9 => h9) rfl (kdr dgX1_digest_0 2 4 rfl rfl) ?_
  obtain ⟨r7, g7, h⟩ := g_b h
  refine kq_l (wSB cI cJ cZ a ce fr un sb se so sc wb we wo wc r5.2.1 r5.2.2.1 r5.2.2.2.1 r5.2.2.2.2 r2 ac rf kn) (fun qP qD qF => va_runS (As := [.long r6, .int ac]) (rest := []) ⟨hx, hb, hml, hown, hts⟩ (c_X1_mix l dC dI cB cI cJ cZ  _  r6 ac r7 g7) (kcwS hts kw_336 kv_X1_mix rfl rfl ⟨(Nat.le_of_ble_eq_true rfl), (Nat.le_of_ble_eq_true rfl)⟩) (kpS (A := A) (kPnil) hK ((kDnil (A := A))) hG) rfl rfl hl.1 rfl (lv_room (Nat.le_of_ble_eq_true rfl)) (kdr dgX1_digest_0 2 5 rfl rfl) ⟨(Nat.le_of_ble_eq_true rfl), (Nat.le_of_ble_eq_true rfl)⟩) hP hD hS hA kFr_n (fun H locs hP hD hS => ?_)
  refine lv_lstore_n (lv' := (kvJ 1 r7 (kvA 0 (a 0) kvE))) hx hb (kdr dgX1_digest_0 2 6 rfl rfl) rfl hl (by decide) rfl (fun ls hl => ?_)
  refine lv_lload_n hx hb (kdr dgX1_digest_0 2 7 rfl rfl) rfl (lv_at hl 0 rfl) ?_
  refine lv_aload_n hx hb (kdr dgX1_digest_0 2 8 rfl rfl) rfl (lv_at hl 1 rfl) ?_
  refine va_get (D := (dC, dI)) (ci := 3) (v := .int rf) (C := RX1) (T := TX1) (N := 10) hx hb hts hiX1 hown hK hP 0 rfl rfl 8 (by decide) hw2 (fun _ h9 => h9) rfl (kdr dgX1_digest_0 2 9 rfl rfl) ?_
  obtain ⟨r8, g8, h⟩ := g_b h
  refine kq_l (wSB cI cJ cZ a ce fr un sb se so sc wb we wo wc r5.2.1 r5.2.2.1 r5.2.2.2.1 r5.2.2.2.2 r2 ac rf kn) (fun qP qD qF => va_runS (As := [.long r7, .int rf]) (rest := []) ⟨hx, hb, hml, hown, hts⟩ (c_X1_mix l dC dI cB cI cJ cZ  _  r7 rf r8 g8) (kcwS hts kw_336 kv_X1_mix rfl rfl ⟨(Nat.le_of_ble_eq_true rfl), (Nat.le_of_ble_eq_true rfl)⟩) (kpS (A := A) (kPnil) hK ((kDnil (A := A))) hG) rfl rfl hl.1 rfl (lv_room (Nat.le_of_ble_eq_true rfl)) (kdr dgX1_digest_0 3 0 rfl rfl) ⟨(Nat.le_of_ble_eq_true rfl), (Nat.le_of_ble_eq_true rfl)⟩) hP hD hS hA kFr_n (fun H locs hP hD hS => ?_)
  refine lv_lstore_n (lv' := (kvJ 1 r8 (kvA 0 (a 0) kvE))) hx hb (kdr dgX1_digest_0 3 1 rfl rfl) rfl hl (by decide) rfl (fun ls hl => ?_)
  refine lv_lload_n hx hb (kdr dgX1_digest_0 3 2 rfl rfl) rfl (lv_at hl 0 rfl) ?_
  refine lv_aload_n hx hb (kdr dgX1_digest_0 3 3 rfl rfl) rfl (lv_at hl 1 rfl) ?_
  refine va_get (D := (dC, dI)) (ci := 3) (v := .int kn) (C := RX1) (T := TX1) (N := 10) hx hb hts hiX1 hown hK hP 0 rfl rfl 9 (by decide) hw3 (fun _ h9 => h9) rfl (kdr dgX1_digest_0 3 4 rfl rfl) ?_
  obtain ⟨r9, g9, h⟩ := g_b h
  refine kq_l (wSB cI cJ cZ a ce fr un sb se so sc wb we wo wc r5.2.1 r5.2.2.1 r5.2.2.2.1 r5.2.2.2.2 r2 ac rf kn) (fun qP qD qF => va_runS (As := [.long r8, .int kn]) (rest := []) ⟨hx, hb, hml, hown, hts⟩ (c_X1_mix l dC dI cB cI cJ cZ  _  r8 kn r9 g9) (kcwS hts kw_336 kv_X1_mix rfl rfl ⟨(Nat.le_of_ble_eq_true rfl), (Nat.le_of_ble_eq_true rfl)⟩) (kpS (A := A) (kPnil) hK ((kDnil (A := A))) hG) rfl rfl hl.1 rfl (lv_room (Nat.le_of_ble_eq_true rfl)) (kdr dgX1_digest_0 3 5 rfl rfl) ⟨(Nat.le_of_ble_eq_true rfl), (Nat.le_of_ble_eq_true rfl)⟩) hP hD hS hA kFr_n (fun H locs hP hD hS => ?_)
  refine lv_lstore_n (lv' := (kvJ 1 r9 (kvA 0 (a 0) kvE))) hx hb (kdr dgX1_digest_0 3 6 rfl rfl) rfl hl (by decide) rfl (fun ls hl => ?_)
  refine lv_lload_n hx hb (kdr dgX1_digest_0 3 7 rfl rfl) rfl (lv_at hl 0 rfl) ?_
  refine lv_aload_n hx hb (kdr dgX1_digest_0 3 8 rfl rfl) rfl (lv_at hl 1 rfl) ?_
  obtain ⟨r10, g10, h⟩ := g_b h
  refine kq_i (wSB cI cJ cZ a ce fr un sb se so sc wb we wo wc r10.2.1 r10.2.2.1 r10.2.2.2.1 r10.2.2.2.2.1 r10.2.2.2.2.2 ac rf kn) (fun qP qD qF => va_runV (As := []) (rest := [.long r9]) ⟨hx, hb, hml, hown, hts⟩ (c_X1_isSound l dC dI cB cI cJ cZ a _ ce fr un sb se so sc wb we wo wc r5.2.1 r5.2.2.1 r5.2.2.2.1 r5.2.2.2.2 r2 ac rf kn  r10 g10) (kcwV hts kw_450 kv_X1_isSound rfl rfl ⟨(Nat.le_of_ble_eq_true rfl), (Nat.le_of_ble_eq_true rfl)⟩) (kpV (A := A) qP hK qD hG (krecv_3 (q0 := 0) hK hP rfl)) rfl rfl hl.1 rfl (lv_room (Nat.le_of_ble_eq_true rfl)) (kdr dgX1_digest_0 3 9 rfl rfl) ⟨(Nat.le_of_ble_eq_true rfl), (Nat.le_of_ble_eq_true rfl)⟩) hP hD hS hA kFr_SB (fun H locs hP hD hS br10 => ?_)
  refine lv_if_eq (tgt := 75) hx hb (kdr dgX1_digest_0 4 0 rfl rfl) (by decide) (fun c11 => ?_) (fun c11 => ?_)
  · have h := g_t c11 h
    refine lv_iconst (v := 0) hx hb (kdr dgX1_digest_0 4 3 rfl rfl) (by decide) ?_
    exact J76 ce fr un sb se so sc wb we wo wc r10.2.1 r10.2.2.1 r10.2.2.2.1 r10.2.2.2.2.1 r10.2.2.2.2.2 ac rf kn 0 r9 _ _ hP hD hS ls (lv_sub hl [] rfl) h
  · have h := g_f c11 h
    refine lv_iconst (v := 1) hx hb (kdr dgX1_digest_0 4 1 rfl rfl) (by decide) ?_
    refine lv_goto (tgt := 76) hx hb (kdr dgX1_digest_0 4 2 rfl rfl) (by decide) ?_
    exact J76 ce fr un sb se so sc wb we wo wc r10.2.1 r10.2.2.1 r10.2.2.2.1 r10.2.2.2.2.1 r10.2.2.2.2.2 ac rf kn 1 r9 _ _ hP hD hS ls (lv_sub hl [] rfl) h
end
-- 11b.txt.lean.txt
section
noncomputable abbrev wsX1_init : List Cond := kWs yX1_init cX1_init 1 none
noncomputable def f_X1_init : Option (Unit) :=
  (f_X0_init).bind fun r1 =>
  (f_X0_init).bind fun r2 =>
  (f_X0_init).bind fun r3 =>
  some ()
theorem f_X1_init_e : f_X1_init = 
  (f_X0_init).bind fun r1 =>
  (f_X0_init).bind fun r2 =>
  (f_X0_init).bind fun r3 =>
  some () := rfl
set_option maxHeartbeats 4000000 in
set_option maxRecDepth 100000 in
theorem c_X1_init (l : Launch) (dC : Nat → ClassId) (dI : Nat → Nat → Nat) (cB cI cJ cZ : ClassId) (h0 : Nat) (sz : Nat) (res : Unit) (hf : f_X1_init = some res) : Met l yX1_init wsX1_init (kRm 2 14 126 40) (kPre (dC, dI) (kTy cB cI cJ cZ) [.ref h0] sz [(h0, .inr (3, [.null, .long 0, .long 0, .null, .null, .null, .null, .int 0, .int 0, .int 0]))]) (kVu (dC, dI) (fun u => (wSB cI cJ cZ (kcons h0 u) (fun _ => 0) 0 86400000000000 (fun _ => 0) (fun _ => 0) (fun _ => 0) 0 (fun _ => 0) (fun _ => 0) (fun _ => 0) 0 (fun _ => 0) (fun _ => 0) (fun _ => 0) 0 (fun _ => 0) 0 0 0)) (va_A [(h0, .inr (3, [.null, .long 0, .long 0, .null, .null, .null, .null, .int 0, .int 0, .int 0]))] sz)) 14 126 (va_A [(h0, .inr (3, [.null, .long 0, .long 0, .null, .null, .null, .null, .int 0, .int 0, .int 0]))] sz) := by
  refine Met.ofW (cc := cX1_init) (maxL := 1) (ret := none) (by decide) rfl ?_
  intro p e s m args below meth c s₁ B hml hv
  obtain ⟨rfl, hsz, hP, hK, hD0, hG⟩ := hv
  have hx := B.exec
  have hb := B.bytes
  have hr := B.returns
  have hts := atoms_spec (ws := wsX1_init) B.pre
  have hown : s.vm.findClass RX1 = some m.cls := findClass_of_methodNamed B.named
  have hlocks := B.notSynchronized
  subst hsz
  have hD := hD0.self (sz := s.heap.size)
  generalize hAe : va_A [(h0, .inr (3, [.null, .long 0, .long 0, .null, .null, .null, .null, .int 0, .int 0, .int 0]))] s.heap.size = A at hD ⊢
  have hA : ∀ q : Nat, s.heap.size ≤ q → A q := fun q h => by rw [← hAe]; exact Or.inr h
  have hS : va_S A s.heap s.heap [] := va_S.rf
  clear hAe
  have hin : meth.name = "<init>" := (name_of_methodNamed B.named B.method).1
  have hw0 := hts (.methodLink RX1 3 objectInit) (List.mem_cons_of_mem _ kw_82)
  have hw1 := hts (.instanceMethod objectInit) (List.mem_cons_of_mem _ kw_83)
  have hw2 := hts (.code objectInit ⟨#[0xb1]⟩ 1 none) (List.mem_cons_of_mem _ kw_84)
  have hw3 := hts (.arrayClass .long) (List.mem_cons_of_mem _ kw_105)
  have hw4 := hts (.fieldLink RX1 9 "Spanbooker" "cells" "[J") (List.mem_cons_of_mem _ kw_107)
  have hw5 := hts (.fieldLink RX1 13 "Spanbooker" "from" "J") (List.mem_cons_of_mem _ kw_108)
  have hw6 := hts (.constantLong RX1 17 (86400000000000)) (List.mem_cons_of_mem _ kw_85)
  have hw7 := hts (.fieldLink RX1 19 "Spanbooker" "until" "J") (List.mem_cons_of_mem _ kw_109)
  have hw8 := hts (.classLink RX1 22 RX0) (List.mem_cons_of_mem _ kw_86)
  have hw9 := hts (.instantiable RX0 4) (List.mem_cons_of_mem _ kw_87)
  have hw10 := hts (.initialized RX0) (List.mem_cons_of_mem _ kw_58)
  have hw11 := hts (.fieldLink RX1 25 "Spanbooker" "spanRow" "LSpanbooker$Row;") (List.mem_cons_of_mem _ kw_110)
  have hw12 := hts (.fieldLink RX1 29 "Spanbooker" "wishRow" "LSpanbooker$Row;") (List.mem_cons_of_mem _ kw_111)
  have hw13 := hts (.fieldLink RX1 32 "Spanbooker" "freeRow" "LSpanbooker$Row;") (List.mem_cons_of_mem _ kw_112)
  have hw14 := hts (.arrayClass .int) (List.mem_cons_of_mem _ kw_138)
  have hw15 := hts (.fieldLink RX1 35 "Spanbooker" "roomOf" "[I") (List.mem_cons_of_mem _ kw_113)
  have hiX0 : ∀ w ∈ u_ws RX0 TX0 4, w ∈ wsX1_init := fun w h => List.mem_cons_of_mem _ (ku_X0 w h)
  have hiX1 : ∀ w ∈ u_ws RX1 TX1 10, w ∈ wsX1_init := fun w h => List.mem_cons_of_mem _ (ku_X1 w h)
  have hl := lv_entry ([.ref h0]) (n := 1) (Nat.le_of_ble_eq_true rfl)
  rw [lg_entry_eq]
  generalize (lg_sl ([.ref h0]) ++ List.replicate (1 - (lg_sl ([.ref h0])).length) Slot.unset).toArray = ls at hl ⊢
  have hl : lv_has ls 1 (kvA 0 h0 kvE) := hl
  have h := f_X1_init_e.symm.trans hf
  refine lv_aload_n hx hb (kdr dgX1_init_0 0 0 rfl rfl) rfl (lv_at hl 0 rfl) ?_
  refine W.objInit hx hb hown hw0 hw1 hw2 rfl (by rw [hml]; exact hl.1) rfl (kdr dgX1_init_0 0 1 rfl rfl) (Nat.le_of_ble_eq_true rfl) (Nat.le_of_ble_eq_true rfl) ?_
  refine W.eq (g2 := F0 m 4 ls []) rfl ?_
  refine lv_aload_n hx hb (kdr dgX1_init_0 0 2 rfl rfl) rfl (lv_at hl 0 rfl) ?_
  refine lv_iconst (v := 4) hx hb (kdr dgX1_init_0 0 3 rfl rfl) (by decide) ?_
  refine va_newa (atype := .long) (ty := .long) (a0 := (4, .inr (.inl (fun _ => 0)))) hx hb hw3 rfl hK hP hD hS hA (fun _ => rfl) (by decide) (by decide) (Nat.le_of_ble_eq_true rfl) (Nat.le_of_ble_eq_true rfl) (Nat.le_of_ble_eq_true rfl) dX1_init_6 (fun qn0 cA H hK9 hP hD hS => ?_)
  have e9 : cA = cJ := k_cA hK9 2 rfl
  rw [e9] at hP hD
  have hP : va_P (dC, dI) vwCl [(h0, .inr (3, [.null, .long 0, .long 0, .null, .null, .null, .null, .int 0, .int 0, .int 0])), (qn0, .inl (cJ, 4, .inr (.inl (fun _ => 0))))] H := hP
  have hD : va_D A [(h0, .inr (3, [.null, .long 0, .long 0, .null, .null, .null, .null, .int 0, .int 0, .int 0])), (qn0, .inl (cJ, 4, .inr (.inl (fun _ => 0))))] := hD
  refine va_putF (D := (dC, dI)) (ci := 3) (v := .ref qn0) (ty := (.array .long)) (C := RX1) (T := TX1) (N := 10) hx hb hts hiX1 tyX1 tyX1_ok nmX1 hown hK hP hD hS 0 rfl rfl 0 (by decide) hw4 (fun _ h9 => h9) rfl hin rfl (by decide +kernel) rfl rfl (Nat.le_of_ble_eq_true rfl) (kdr dgX1_init_8 0 0 rfl rfl) (fun H locs hP hD hS => ?_)
  have hP : va_P (dC, dI) vwCl [(h0, .inr (3, [.ref qn0, .long 0, .long 0, .null, .null, .null, .null, .int 0, .int 0, .int 0])), (qn0, .inl (cJ, 4, .inr (.inl (fun _ => 0))))] H := hP
  have hD : va_D A [(h0, .inr (3, [.ref qn0, .long 0, .long 0, .null, .null, .null, .null, .int 0, .int 0, .int 0])), (qn0, .inl (cJ, 4, .inr (.inl (fun _ => 0))))] := hD
  refine lv_aload_n hx hb (kdr dgX1_init_8 0 1 rfl rfl) rfl (lv_at hl 0 rfl) ?_
  refine lv_lconst (v := 0) hx hb (kdr dgX1_init_8 0 2 rfl rfl) (by decide) ?_
  refine va_put (D := (dC, dI)) (ci := 3) (v := .long 0) (ty := .long) (C := RX1) (T := TX1) (N := 10) hx hb hts hiX1 tyX1 tyX1_ok nmX1 hown hK hP hD hS 0 rfl rfl 1 (by decide) hw5 (fun _ h9 => h9) rfl (by decide +kernel) rfl rfl (Nat.le_of_ble_eq_true rfl) (kdr dgX1_init_8 0 3 rfl rfl) (fun H locs hP hD hS => ?_)
  have hP : va_P (dC, dI) vwCl [(h0, .inr (3, [.ref qn0, .long 0, .long 0, .null, .null, .null, .null, .int 0, .int 0, .int 0])), (qn0, .inl (cJ, 4, .inr (.inl (fun _ => 0))))] H := hP
  have hD : va_D A [(h0, .inr (3, [.ref qn0, .long 0, .long 0, .null, .null, .null, .null, .int 0, .int 0, .int 0])), (qn0, .inl (cJ, 4, .inr (.inl (fun _ => 0))))] := hD
  refine lv_aload_n hx hb (kdr dgX1_init_8 0 4 rfl rfl) rfl (lv_at hl 0 rfl) ?_
  refine lv_ldc2 (v := (86400000000000)) hx hb hown hw6 (kdr dgX1_init_8 0 5 rfl rfl) ?_
  refine va_put (D := (dC, dI)) (ci := 3) (v := .long 86400000000000) (ty := .long) (C := RX1) (T := TX1) (N := 10) hx hb hts hiX1 tyX1 tyX1_ok nmX1 hown hK hP hD hS 0 rfl rfl 2 (by decide) hw7 (fun _ h9 => h9) rfl (by decide +kernel) rfl rfl (Nat.le_of_ble_eq_true rfl) (kdr dgX1_init_8 0 6 rfl rfl) (fun H locs hP hD hS => ?_)
  have hP : va_P (dC, dI) vwCl [(h0, .inr (3, [.ref qn0, .long 0, .long 86400000000000, .null, .null, .null, .null, .int 0, .int 0, .int 0])), (qn0, .inl (cJ, 4, .inr (.inl (fun _ => 0))))] H := hP
  have hD : va_D A [(h0, .inr (3, [.ref qn0, .long 0, .long 86400000000000, .null, .null, .null, .null, .int 0, .int 0, .int 0])), (qn0, .inl (cJ, 4, .inr (.inl (fun _ => 0))))] := hD
  refine lv_aload_n hx hb (kdr dgX1_init_8 0 7 rfl rfl) rfl (lv_at hl 0 rfl) ?_
  refine va_new (ci := 2) (fs := [.null, .null, .null, .int 0]) (C := RX0) (T := TX0) (N := 4) hx hb hts hiX0 tyX0 tyX0_ok hown hw8 hw9 hw10 hK hP hD hS hA rfl (fun j hj => by rcases (show j = 0 ∨ j = 1 ∨ j = 2 ∨ j = 3 by omega) with rfl | rfl | rfl | rfl <;> rfl) (Nat.le_of_ble_eq_true rfl) (Nat.le_of_ble_eq_true rfl) (kdr dgX1_init_8 0 8 rfl rfl) (fun qn1 H hP hD hS => ?_)
  have hP : va_P (dC, dI) vwCl [(h0, .inr (3, [.ref qn0, .long 0, .long 86400000000000, .null, .null, .null, .null, .int 0, .int 0, .int 0])), (qn0, .inl (cJ, 4, .inr (.inl (fun _ => 0)))), (qn1, .inr (2, [.null, .null, .null, .int 0]))] H := hP
  have hD : va_D A [(h0, .inr (3, [.ref qn0, .long 0, .long 86400000000000, .null, .null, .null, .null, .int 0, .int 0, .int 0])), (qn0, .inl (cJ, 4, .inr (.inl (fun _ => 0)))), (qn1, .inr (2, [.null, .null, .null, .int 0]))] := hD
  refine lv_dup hx hb (kdr dgX1_init_8 0 9 rfl rfl) rfl ?_
  obtain ⟨r1, g1, h⟩ := g_b h
  refine kcall_vu (fun u1 => (wRow cJ cZ qn1 (u1 0) (u1 1) (u1 2) (fun _ => 0) (fun _ => 0) (fun _ => 0) 0)) (va_runI (As := []) (rest := [.ref qn1, .ref h0]) ⟨hx, hb, hml, hown, hts⟩ (c_X0_init l dC dI cB cI cJ cZ qn1 _   r1 g1) (kcwI hts kw_88 kv_X0_init rfl rfl ⟨(Nat.le_of_ble_eq_true rfl), (Nat.le_of_ble_eq_true rfl)⟩) (kpS (A := A) (hP.sub [2] rfl) hK (hD.sub [2] (by decide) rfl) hG) rfl rfl hl.1 rfl (lv_room (Nat.le_of_ble_eq_true rfl)) (kdr dgX1_init_8 1 0 rfl rfl) ⟨(Nat.le_of_ble_eq_true rfl), (Nat.le_of_ble_eq_true rfl)⟩) hP hD hS hA [2] [0, 1] rfl [(h0, .inr (3, [.ref qn0, .long 0, .long 86400000000000, .null, .null, .null, .null, .int 0, .int 0, .int 0])), (qn0, .inl (cJ, 4, .inr (.inl (fun _ => 0))))] rfl (by decide) (by decide) (fun u1 H locs hP hD hS => ?_)
  have hP := hP.sub (ws' := [(h0, .inr (3, [.ref qn0, .long 0, .long 86400000000000, .null, .null, .null, .null, .int 0, .int 0, .int 0])), (qn0, .inl (cJ, 4, .inr (.inl (fun _ => 0)))), (qn1, .inr (2, [.ref (u1 0), .ref (u1 1), .ref (u1 2), .int 0])), ((u1 0), .inl (cJ, 11, .inr (.inl (fun _ => 0)))), ((u1 1), .inl (cJ, 11, .inr (.inl (fun _ => 0)))), ((u1 2), .inl (cZ, 11, .inl (fun _ => 0)))]) [0, 1, 2, 3, 4, 5] rfl
  have hD := hD.sub (ws' := [(h0, .inr (3, [.ref qn0, .long 0, .long 86400000000000, .null, .null, .null, .null, .int 0, .int 0, .int 0])), (qn0, .inl (cJ, 4, .inr (.inl (fun _ => 0)))), (qn1, .inr (2, [.ref (u1 0), .ref (u1 1), .ref (u1 2), .int 0])), ((u1 0), .inl (cJ, 11, .inr (.inl (fun _ => 0)))), ((u1 1), .inl (cJ, 11, .inr (.inl (fun _ => 0)))), ((u1 2), .inl (cZ, 11, .inl (fun _ => 0)))]) [0, 1, 2, 3, 4, 5] (by decide) rfl
  refine va_putF (D := (dC, dI)) (ci := 3) (v := .ref qn1) (ty := (.object "Spanbooker$Row")) (C := RX1) (T := TX1) (N := 10) hx hb hts hiX1 tyX1 tyX1_ok nmX1 hown hK hP hD hS 0 rfl rfl 3 (by decide) hw11 (fun _ h9 => h9) rfl hin rfl (by decide +kernel) rfl rfl (Nat.le_of_ble_eq_true rfl) (kdr dgX1_init_8 1 1 rfl rfl) (fun H locs hP hD hS => ?_)
  have hP : va_P (dC, dI) vwCl [(h0, .inr (3, [.ref qn0, .long 0, .long 86400000000000, .ref qn1, .null, .null, .null, .int 0, .int 0, .int 0])), (qn0, .inl (cJ, 4, .inr (.inl (fun _ => 0)))), (qn1, .inr (2, [.ref (u1 0), .ref (u1 1), .ref (u1 2), .int 0])), ((u1 0), .inl (cJ, 11, .inr (.inl (fun _ => 0)))), ((u1 1), .inl (cJ, 11, .inr (.inl (fun _ => 0)))), ((u1 2), .inl (cZ, 11, .inl (fun _ => 0)))] H := hP
  have hD : va_D A [(h0, .inr (3, [.ref qn0, .long 0, .long 86400000000000, .ref qn1, .null, .null, .null, .int 0, .int 0, .int 0])), (qn0, .inl (cJ, 4, .inr (.inl (fun _ => 0)))), (qn1, .inr (2, [.ref (u1 0), .ref (u1 1), .ref (u1 2), .int 0])), ((u1 0), .inl (cJ, 11, .inr (.inl (fun _ => 0)))), ((u1 1), .inl (cJ, 11, .inr (.inl (fun _ => 0)))), ((u1 2), .inl (cZ, 11, .inl (fun _ => 0)))] := hD
  refine lv_aload_n hx hb (kdr dgX1_init_8 1 2 rfl rfl) rfl (lv_at hl 0 rfl) ?_
  refine va_new (ci := 2) (fs := [.null, .null, .null, .int 0]) (C := RX0) (T := TX0) (N := 4) hx hb hts hiX0 tyX0 tyX0_ok hown hw8 hw9 hw10 hK hP hD hS hA rfl (fun j hj => by rcases (show j = 0 ∨ j = 1 ∨ j = 2 ∨ j = 3 by omega) with rfl | rfl | rfl | rfl <;> rfl) (Nat.le_of_ble_eq_true rfl) (Nat.le_of_ble_eq_true rfl) (kdr dgX1_init_8 1 3 rfl rfl) (fun qn2 H hP hD hS => ?_)
  have hP : va_P (dC, dI) vwCl [(h0, .inr (3, [.ref qn0, .long 0, .long 86400000000000, .ref qn1, .null, .null, .null, .int 0, .int 0, .int 0])), (qn0, .inl (cJ, 4, .inr (.inl (fun _ => 0)))), (qn1, .inr (2, [.ref (u1 0), .ref (u1 1), .ref (u1 2), .int 0])), ((u1 0), .inl (cJ, 11, .inr (.inl (fun _ => 0)))), ((u1 1), .inl (cJ, 11, .inr (.inl (fun _ => 0)))), ((u1 2), .inl (cZ, 11, .inl (fun _ => 0))), (qn2, .inr (2, [.null, .null, .null, .int 0]))] H := hP
  have hD : va_D A [(h0, .inr (3, [.ref qn0, .long 0, .long 86400000000000, .ref qn1, .null, .null, .null, .int 0, .int 0, .int 0])), (qn0, .inl (cJ, 4, .inr (.inl (fun _ => 0)))), (qn1, .inr (2, [.ref (u1 0), .ref (u1 1), .ref (u1 2), .int 0])), ((u1 0), .inl (cJ, 11, .inr (.inl (fun _ => 0)))), ((u1 1), .inl (cJ, 11, .inr (.inl (fun _ => 0)))), ((u1 2), .inl (cZ, 11, .inl (fun _ => 0))), (qn2, .inr (2, [.null, .null, .null, .int 0]))] := hD
  refine lv_dup hx hb (kdr dgX1_init_8 1 4 rfl rfl) rfl ?_
  obtain ⟨r2, g2, h⟩ := g_b h
  refine kcall_vu (fun u2 => (wRow cJ cZ qn2 (u2 0) (u2 1) (u2 2) (fun _ => 0) (fun _ => 0) (fun _ => 0) 0)) (va_runI (As := []) (rest := [.ref qn2, .ref h0]) ⟨hx, hb, hml, hown, hts⟩ (c_X0_init l dC dI cB cI cJ cZ qn2 _   r2 g2) (kcwI hts kw_88 kv_X0_init rfl rfl ⟨(Nat.le_of_ble_eq_true rfl), (Nat.le_of_ble_eq_true rfl)⟩) (kpS (A := A) (hP.sub [6] rfl) hK (hD.sub [6] (by decide) rfl) hG) rfl rfl hl.1 rfl (lv_room (Nat.le_of_ble_eq_true rfl)) (kdr dgX1_init_8 1 5 rfl rfl) ⟨(Nat.le_of_ble_eq_true rfl), (Nat.le_of_ble_eq_true rfl)⟩) hP hD hS hA [6] [0, 1, 2, 3, 4, 5] rfl [(h0, .inr (3, [.ref qn0, .long 0, .long 86400000000000, .ref qn1, .null, .null, .null, .int 0, .int 0, .int 0])), (qn0, .inl (cJ, 4, .inr (.inl (fun _ => 0)))), (qn1, .inr (2, [.ref (u1 0), .ref (u1 1), .ref (u1 2), .int 0])), ((u1 0), .inl (cJ, 11, .inr (.inl (fun _ => 0)))), ((u1 1), .inl (cJ, 11, .inr (.inl (fun _ => 0)))), ((u1 2), .inl (cZ, 11, .inl (fun _ => 0)))] rfl (by decide) (by decide) (fun u2 H locs hP hD hS => ?_)
  have hP := hP.sub (ws' := [(h0, .inr (3, [.ref qn0, .long 0, .long 86400000000000, .ref qn1, .null, .null, .null, .int 0, .int 0, .int 0])), (qn0, .inl (cJ, 4, .inr (.inl (fun _ => 0)))), (qn1, .inr (2, [.ref (u1 0), .ref (u1 1), .ref (u1 2), .int 0])), ((u1 0), .inl (cJ, 11, .inr (.inl (fun _ => 0)))), ((u1 1), .inl (cJ, 11, .inr (.inl (fun _ => 0)))), ((u1 2), .inl (cZ, 11, .inl (fun _ => 0))), (qn2, .inr (2, [.ref (u2 0), .ref (u2 1), .ref (u2 2), .int 0])), ((u2 0), .inl (cJ, 11, .inr (.inl (fun _ => 0)))), ((u2 1), .inl (cJ, 11, .inr (.inl (fun _ => 0)))), ((u2 2), .inl (cZ, 11, .inl (fun _ => 0)))]) [0, 1, 2, 3, 4, 5, 6, 7, 8, 9] rfl
  have hD := hD.sub (ws' := [(h0, .inr (3, [.ref qn0, .long 0, .long 86400000000000, .ref qn1, .null, .null, .null, .int 0, .int 0, .int 0])), (qn0, .inl (cJ, 4, .inr (.inl (fun _ => 0)))), (qn1, .inr (2, [.ref (u1 0), .ref (u1 1), .ref (u1 2), .int 0])), ((u1 0), .inl (cJ, 11, .inr (.inl (fun _ => 0)))), ((u1 1), .inl (cJ, 11, .inr (.inl (fun _ => 0)))), ((u1 2), .inl (cZ, 11, .inl (fun _ => 0))), (qn2, .inr (2, [.ref (u2 0), .ref (u2 1), .ref (u2 2), .int 0])), ((u2 0), .inl (cJ, 11, .inr (.inl (fun _ => 0)))), ((u2 1), .inl (cJ, 11, .inr (.inl (fun _ => 0)))), ((u2 2), .inl (cZ, 11, .inl (fun _ => 0)))]) [0, 1, 2, 3, 4, 5, 6, 7, 8, 9] (by decide) rfl
  refine va_putF (D := (dC, dI)) (ci := 3) (v := .ref qn2) (ty := (.object "Spanbooker$Row")) (C := RX1) (T := TX1) (N := 10) hx hb hts hiX1 tyX1 tyX1_ok nmX1 hown hK hP hD hS 0 rfl rfl 4 (by decide) hw12 (fun _ h9 => h9) rfl hin rfl (by decide +kernel) rfl rfl (Nat.le_of_ble_eq_true rfl) (kdr dgX1_init_8 1 6 rfl rfl) (fun H locs hP hD hS => ?_)
  have hP : va_P (dC, dI) vwCl [(h0, .inr (3, [.ref qn0, .long 0, .long 86400000000000, .ref qn1, .ref qn2, .null, .null, .int 0, .int 0, .int 0])), (qn0, .inl (cJ, 4, .inr (.inl (fun _ => 0)))), (qn1, .inr (2, [.ref (u1 0), .ref (u1 1), .ref (u1 2), .int 0])), ((u1 0), .inl (cJ, 11, .inr (.inl (fun _ => 0)))), ((u1 1), .inl (cJ, 11, .inr (.inl (fun _ => 0)))), ((u1 2), .inl (cZ, 11, .inl (fun _ => 0))), (qn2, .inr (2, [.ref (u2 0), .ref (u2 1), .ref (u2 2), .int 0])), ((u2 0), .inl (cJ, 11, .inr (.inl (fun _ => 0)))), ((u2 1), .inl (cJ, 11, .inr (.inl (fun _ => 0)))), ((u2 2), .inl (cZ, 11, .inl (fun _ => 0)))] H := hP
  have hD : va_D A [(h0, .inr (3, [.ref qn0, .long 0, .long 86400000000000, .ref qn1, .ref qn2, .null, .null, .int 0, .int 0, .int 0])), (qn0, .inl (cJ, 4, .inr (.inl (fun _ => 0)))), (qn1, .inr (2, [.ref (u1 0), .ref (u1 1), .ref (u1 2), .int 0])), ((u1 0), .inl (cJ, 11, .inr (.inl (fun _ => 0)))), ((u1 1), .inl (cJ, 11, .inr (.inl (fun _ => 0)))), ((u1 2), .inl (cZ, 11, .inl (fun _ => 0))), (qn2, .inr (2, [.ref (u2 0), .ref (u2 1), .ref (u2 2), .int 0])), ((u2 0), .inl (cJ, 11, .inr (.inl (fun _ => 0)))), ((u2 1), .inl (cJ, 11, .inr (.inl (fun _ => 0)))), ((u2 2), .inl (cZ, 11, .inl (fun _ => 0)))] := hD
  refine lv_aload_n hx hb (kdr dgX1_init_8 1 7 rfl rfl) rfl (lv_at hl 0 rfl) ?_
  refine va_new (ci := 2) (fs := [.null, .null, .null, .int 0]) (C := RX0) (T := TX0) (N := 4) hx hb hts hiX0 tyX0 tyX0_ok hown hw8 hw9 hw10 hK hP hD hS hA rfl (fun j hj => by rcases (show j = 0 ∨ j = 1 ∨ j = 2 ∨ j = 3 by omega) with rfl | rfl | rfl | rfl <;> rfl) (Nat.le_of_ble_eq_true rfl) (Nat.le_of_ble_eq_true rfl) (kdr dgX1_init_8 1 8 rfl rfl) (fun qn3 H hP hD hS => ?_)
  have hP : va_P (dC, dI) vwCl [(h0, .inr (3, [.ref qn0, .long 0, .long 86400000000000, .ref qn1, .ref qn2, .null, .null, .int 0, .int 0, .int 0])), (qn0, .inl (cJ, 4, .inr (.inl (fun _ => 0)))), (qn1, .inr (2, [.ref (u1 0), .ref (u1 1), .ref (u1 2), .int 0])), ((u1 0), .inl (cJ, 11, .inr (.inl (fun _ => 0)))), ((u1 1), .inl (cJ, 11, .inr (.inl (fun _ => 0)))), ((u1 2), .inl (cZ, 11, .inl (fun _ => 0))), (qn2, .inr (2, [.ref (u2 0), .ref (u2 1), .ref (u2 2), .int 0])), ((u2 0), .inl (cJ, 11, .inr (.inl (fun _ => 0)))), ((u2 1), .inl (cJ, 11, .inr (.inl (fun _ => 0)))), ((u2 2), .inl (cZ, 11, .inl (fun _ => 0))), (qn3, .inr (2, [.null, .null, .null, .int 0]))] H := hP
  have hD : va_D A [(h0, .inr (3, [.ref qn0, .long 0, .long 86400000000000, .ref qn1, .ref qn2, .null, .null, .int 0, .int 0, .int 0])), (qn0, .inl (cJ, 4, .inr (.inl (fun _ => 0)))), (qn1, .inr (2, [.ref (u1 0), .ref (u1 1), .ref (u1 2), .int 0])), ((u1 0), .inl (cJ, 11, .inr (.inl (fun _ => 0)))), ((u1 1), .inl (cJ, 11, .inr (.inl (fun _ => 0)))), ((u1 2), .inl (cZ, 11, .inl (fun _ => 0))), (qn2, .inr (2, [.ref (u2 0), .ref (u2 1), .ref (u2 2), .int 0])), ((u2 0), .inl (cJ, 11, .inr (.inl (fun _ => 0)))), ((u2 1), .inl (cJ, 11, .inr (.inl (fun _ => 0)))), ((u2 2), .inl (cZ, 11, .inl (fun _ => 0))), (qn3, .inr (2, [.null, .null, .null, .int 0]))] := hD
  refine lv_dup hx hb (kdr dgX1_init_8 1 9 rfl rfl) rfl ?_
  obtain ⟨r3, g3, h⟩ := g_b h
  refine kcall_vu (fun u3 => (wRow cJ cZ qn3 (u3 0) (u3 1) (u3 2) (fun _ => 0) (fun _ => 0) (fun _ => 0) 0)) (va_runI (As := []) (rest := [.ref qn3, .ref h0]) ⟨hx, hb, hml, hown, hts⟩ (c_X0_init l dC dI cB cI cJ cZ qn3 _   r3 g3) (kcwI hts kw_88 kv_X0_init rfl rfl ⟨(Nat.le_of_ble_eq_true rfl), (Nat.le_of_ble_eq_true rfl)⟩) (kpS (A := A) (hP.sub [10] rfl) hK (hD.sub [10] (by decide) rfl) hG) rfl rfl hl.1 rfl (lv_room (Nat.le_of_ble_eq_true rfl)) (kdr dgX1_init_8 2 0 rfl rfl) ⟨(Nat.le_of_ble_eq_true rfl), (Nat.le_of_ble_eq_true rfl)⟩) hP hD hS hA [10] [0, 1, 2, 3, 4, 5, 6, 7, 8, 9] rfl [(h0, .inr (3, [.ref qn0, .long 0, .long 86400000000000, .ref qn1, .ref qn2, .null, .null, .int 0, .int 0, .int 0])), (qn0, .inl (cJ, 4, .inr (.inl (fun _ => 0)))), (qn1, .inr (2, [.ref (u1 0), .ref (u1 1), .ref (u1 2), .int 0])), ((u1 0), .inl (cJ, 11, .inr (.inl (fun _ => 0)))), ((u1 1), .inl (cJ, 11, .inr (.inl (fun _ => 0)))), ((u1 2), .inl (cZ, 11, .inl (fun _ => 0))), (qn2, .inr (2, [.ref (u2 0), .ref (u2 1), .ref (u2 2), .int 0])), ((u2 0), .inl (cJ, 11, .inr (.inl (fun _ => 0)))), ((u2 1), .inl (cJ, 11, .inr (.inl (fun _ => 0)))), ((u2 2), .inl (cZ, 11, .inl (fun _ => 0)))] rfl (by decide) (by decide) (fun u3 H locs hP hD hS => ?_)
  have hP := hP.sub (ws' := [(h0, .inr (3, [.ref qn0, .long 0, .long 86400000000000, .ref qn1, .ref qn2, .null, .null, .int 0, .int 0, .int 0])), (qn0, .inl (cJ, 4, .inr (.inl (fun _ => 0)))), (qn1, .inr (2, [.ref (u1 0), .ref (u1 1), .ref (u1 2), .int 0])), ((u1 0), .inl (cJ, 11, .inr (.inl (fun _ => 0)))), ((u1 1), .inl (cJ, 11, .inr (.inl (fun _ => 0)))), ((u1 2), .inl (cZ, 11, .inl (fun _ => 0))), (qn2, .inr (2, [.ref (u2 0), .ref (u2 1), .ref (u2 2), .int 0])), ((u2 0), .inl (cJ, 11, .inr (.inl (fun _ => 0)))), ((u2 1), .inl (cJ, 11, .inr (.inl (fun _ => 0)))), ((u2 2), .inl (cZ, 11, .inl (fun _ => 0))), (qn3, .inr (2, [.ref (u3 0), .ref (u3 1), .ref (u3 2), .int 0])), ((u3 0), .inl (cJ, 11, .inr (.inl (fun _ => 0)))), ((u3 1), .inl (cJ, 11, .inr (.inl (fun _ => 0)))), ((u3 2), .inl (cZ, 11, .inl (fun _ => 0)))]) [0, 1, 2, 3, 4, 5, 6, 7, 8, 9, 10, 11, 12, 13] rfl
  have hD := hD.sub (ws' := [(h0, .inr (3, [.ref qn0, .long 0, .long 86400000000000, .ref qn1, .ref qn2, .null, .null, .int 0, .int 0, .int 0])), (qn0, .inl (cJ, 4, .inr (.inl (fun _ => 0)))), (qn1, .inr (2, [.ref (u1 0), .ref (u1 1), .ref (u1 2), .int 0])), ((u1 0), .inl (cJ, 11, .inr (.inl (fun _ => 0)))), ((u1 1), .inl (cJ, 11, .inr (.inl (fun _ => 0)))), ((u1 2), .inl (cZ, 11, .inl (fun _ => 0))), (qn2, .inr (2, [.ref (u2 0), .ref (u2 1), .ref (u2 2), .int 0])), ((u2 0), .inl (cJ, 11, .inr (.inl (fun _ => 0)))), ((u2 1), .inl (cJ, 11, .inr (.inl (fun _ => 0)))), ((u2 2), .inl (cZ, 11, .inl (fun _ => 0))), (qn3, .inr (2, [.ref (u3 0), .ref (u3 1), .ref (u3 2), .int 0])), ((u3 0), .inl (cJ, 11, .inr (.inl (fun _ => 0)))), ((u3 1), .inl (cJ, 11, .inr (.inl (fun _ => 0)))), ((u3 2), .inl (cZ, 11, .inl (fun _ => 0)))]) [0, 1, 2, 3, 4, 5, 6, 7, 8, 9, 10, 11, 12, 13] (by decide) rfl
  refine va_putF (D := (dC, dI)) (ci := 3) (v := .ref qn3) (ty := (.object "Spanbooker$Row")) (C := RX1) (T := TX1) (N := 10) hx hb hts hiX1 tyX1 tyX1_ok nmX1 hown hK hP hD hS 0 rfl rfl 5 (by decide) hw13 (fun _ h9 => h9) rfl hin rfl (by decide +kernel) rfl rfl (Nat.le_of_ble_eq_true rfl) (kdr dgX1_init_8 2 1 rfl rfl) (fun H locs hP hD hS => ?_)
  have hP : va_P (dC, dI) vwCl [(h0, .inr (3, [.ref qn0, .long 0, .long 86400000000000, .ref qn1, .ref qn2, .ref qn3, .null, .int 0, .int 0, .int 0])), (qn0, .inl (cJ, 4, .inr (.inl (fun _ => 0)))), (qn1, .inr (2, [.ref (u1 0), .ref (u1 1), .ref (u1 2), .int 0])), ((u1 0), .inl (cJ, 11, .inr (.inl (fun _ => 0)))), ((u1 1), .inl (cJ, 11, .inr (.inl (fun _ => 0)))), ((u1 2), .inl (cZ, 11, .inl (fun _ => 0))), (qn2, .inr (2, [.ref (u2 0), .ref (u2 1), .ref (u2 2), .int 0])), ((u2 0), .inl (cJ, 11, .inr (.inl (fun _ => 0)))), ((u2 1), .inl (cJ, 11, .inr (.inl (fun _ => 0)))), ((u2 2), .inl (cZ, 11, .inl (fun _ => 0))), (qn3, .inr (2, [.ref (u3 0), .ref (u3 1), .ref (u3 2), .int 0])), ((u3 0), .inl (cJ, 11, .inr (.inl (fun _ => 0)))), ((u3 1), .inl (cJ, 11, .inr (.inl (fun _ => 0)))), ((u3 2), .inl (cZ, 11, .inl (fun _ => 0)))] H := hP
  have hD : va_D A [(h0, .inr (3, [.ref qn0, .long 0, .long 86400000000000, .ref qn1, .ref qn2, .ref qn3, .null, .int 0, .int 0, .int 0])), (qn0, .inl (cJ, 4, .inr (.inl (fun _ => 0)))), (qn1, .inr (2, [.ref (u1 0), .ref (u1 1), .ref (u1 2), .int 0])), ((u1 0), .inl (cJ, 11, .inr (.inl (fun _ => 0)))), ((u1 1), .inl (cJ, 11, .inr (.inl (fun _ => 0)))), ((u1 2), .inl (cZ, 11, .inl (fun _ => 0))), (qn2, .inr (2, [.ref (u2 0), .ref (u2 1), .ref (u2 2), .int 0])), ((u2 0), .inl (cJ, 11, .inr (.inl (fun _ => 0)))), ((u2 1), .inl (cJ, 11, .inr (.inl (fun _ => 0)))), ((u2 2), .inl (cZ, 11, .inl (fun _ => 0))), (qn3, .inr (2, [.ref (u3 0), .ref (u3 1), .ref (u3 2), .int 0])), ((u3 0), .inl (cJ, 11, .inr (.inl (fun _ => 0)))), ((u3 1), .inl (cJ, 11, .inr (.inl (fun _ => 0)))), ((u3 2), .inl (cZ, 11, .inl (fun _ => 0)))] := hD
  refine lv_aload_n hx hb (kdr dgX1_init_8 2 2 rfl rfl) rfl (lv_at hl 0 rfl) ?_
  refine lv_bipush (v := 11) hx hb (kdr dgX1_init_8 2 3 rfl rfl) (by decide) ?_
  refine va_newa (atype := .int) (ty := .int) (a0 := (11, .inl (fun _ => 0))) hx hb hw14 rfl hK hP hD hS hA (fun _ => rfl) (by decide) (by decide) (Nat.le_of_ble_eq_true rfl) (Nat.le_of_ble_eq_true rfl) (Nat.le_of_ble_eq_true rfl) dX1_init_59 (fun qn4 cA H hK9 hP hD hS => ?_)
  have e9 : cA = cI := k_cA hK9 1 rfl
  rw [e9] at hP hD
  have hP : va_P (dC, dI) vwCl [(h0, .inr (3, [.ref qn0, .long 0, .long 86400000000000, .ref qn1, .ref qn2, .ref qn3, .null, .int 0, .int 0, .int 0])), (qn0, .inl (cJ, 4, .inr (.inl (fun _ => 0)))), (qn1, .inr (2, [.ref (u1 0), .ref (u1 1), .ref (u1 2), .int 0])), ((u1 0), .inl (cJ, 11, .inr (.inl (fun _ => 0)))), ((u1 1), .inl (cJ, 11, .inr (.inl (fun _ => 0)))), ((u1 2), .inl (cZ, 11, .inl (fun _ => 0))), (qn2, .inr (2, [.ref (u2 0), .ref (u2 1), .ref (u2 2), .int 0])), ((u2 0), .inl (cJ, 11, .inr (.inl (fun _ => 0)))), ((u2 1), .inl (cJ, 11, .inr (.inl (fun _ => 0)))), ((u2 2), .inl (cZ, 11, .inl (fun _ => 0))), (qn3, .inr (2, [.ref (u3 0), .ref (u3 1), .ref (u3 2), .int 0])), ((u3 0), .inl (cJ, 11, .inr (.inl (fun _ => 0)))), ((u3 1), .inl (cJ, 11, .inr (.inl (fun _ => 0)))), ((u3 2), .inl (cZ, 11, .inl (fun _ => 0))), (qn4, .inl (cI, 11, .inl (fun _ => 0)))] H := hP
  have hD : va_D A [(h0, .inr (3, [.ref qn0, .long 0, .long 86400000000000, .ref qn1, .ref qn2, .ref qn3, .null, .int 0, .int 0, .int 0])), (qn0, .inl (cJ, 4, .inr (.inl (fun _ => 0)))), (qn1, .inr (2, [.ref (u1 0), .ref (u1 1), .ref (u1 2), .int 0])), ((u1 0), .inl (cJ, 11, .inr (.inl (fun _ => 0)))), ((u1 1), .inl (cJ, 11, .inr (.inl (fun _ => 0)))), ((u1 2), .inl (cZ, 11, .inl (fun _ => 0))), (qn2, .inr (2, [.ref (u2 0), .ref (u2 1), .ref (u2 2), .int 0])), ((u2 0), .inl (cJ, 11, .inr (.inl (fun _ => 0)))), ((u2 1), .inl (cJ, 11, .inr (.inl (fun _ => 0)))), ((u2 2), .inl (cZ, 11, .inl (fun _ => 0))), (qn3, .inr (2, [.ref (u3 0), .ref (u3 1), .ref (u3 2), .int 0])), ((u3 0), .inl (cJ, 11, .inr (.inl (fun _ => 0)))), ((u3 1), .inl (cJ, 11, .inr (.inl (fun _ => 0)))), ((u3 2), .inl (cZ, 11, .inl (fun _ => 0))), (qn4, .inl (cI, 11, .inl (fun _ => 0)))] := hD
  refine va_putF (D := (dC, dI)) (ci := 3) (v := .ref qn4) (ty := (.array .int)) (C := RX1) (T := TX1) (N := 10) hx hb hts hiX1 tyX1 tyX1_ok nmX1 hown hK hP hD hS 0 rfl rfl 6 (by decide) hw15 (fun _ h9 => h9) rfl hin rfl (by decide +kernel) rfl rfl (Nat.le_of_ble_eq_true rfl) (kdr dgX1_init_61 0 0 rfl rfl) (fun H locs hP hD hS => ?_)
  have hP : va_P (dC, dI) vwCl [(h0, .inr (3, [.ref qn0, .long 0, .long 86400000000000, .ref qn1, .ref qn2, .ref qn3, .ref qn4, .int 0, .int 0, .int 0])), (qn0, .inl (cJ, 4, .inr (.inl (fun _ => 0)))), (qn1, .inr (2, [.ref (u1 0), .ref (u1 1), .ref (u1 2), .int 0])), ((u1 0), .inl (cJ, 11, .inr (.inl (fun _ => 0)))), ((u1 1), .inl (cJ, 11, .inr (.inl (fun _ => 0)))), ((u1 2), .inl (cZ, 11, .inl (fun _ => 0))), (qn2, .inr (2, [.ref (u2 0), .ref (u2 1), .ref (u2 2), .int 0])), ((u2 0), .inl (cJ, 11, .inr (.inl (fun _ => 0)))), ((u2 1), .inl (cJ, 11, .inr (.inl (fun _ => 0)))), ((u2 2), .inl (cZ, 11, .inl (fun _ => 0))), (qn3, .inr (2, [.ref (u3 0), .ref (u3 1), .ref (u3 2), .int 0])), ((u3 0), .inl (cJ, 11, .inr (.inl (fun _ => 0)))), ((u3 1), .inl (cJ, 11, .inr (.inl (fun _ => 0)))), ((u3 2), .inl (cZ, 11, .inl (fun _ => 0))), (qn4, .inl (cI, 11, .inl (fun _ => 0)))] H := hP
  have hD : va_D A [(h0, .inr (3, [.ref qn0, .long 0, .long 86400000000000, .ref qn1, .ref qn2, .ref qn3, .ref qn4, .int 0, .int 0, .int 0])), (qn0, .inl (cJ, 4, .inr (.inl (fun _ => 0)))), (qn1, .inr (2, [.ref (u1 0), .ref (u1 1), .ref (u1 2), .int 0])), ((u1 0), .inl (cJ, 11, .inr (.inl (fun _ => 0)))), ((u1 1), .inl (cJ, 11, .inr (.inl (fun _ => 0)))), ((u1 2), .inl (cZ, 11, .inl (fun _ => 0))), (qn2, .inr (2, [.ref (u2 0), .ref (u2 1), .ref (u2 2), .int 0])), ((u2 0), .inl (cJ, 11, .inr (.inl (fun _ => 0)))), ((u2 1), .inl (cJ, 11, .inr (.inl (fun _ => 0)))), ((u2 2), .inl (cZ, 11, .inl (fun _ => 0))), (qn3, .inr (2, [.ref (u3 0), .ref (u3 1), .ref (u3 2), .int 0])), ((u3 0), .inl (cJ, 11, .inr (.inl (fun _ => 0)))), ((u3 1), .inl (cJ, 11, .inr (.inl (fun _ => 0)))), ((u3 2), .inl (cZ, 11, .inl (fun _ => 0))), (qn4, .inl (cI, 11, .inl (fun _ => 0)))] := hD
  have hP := hP.sub (ws' := (wSB cI cJ cZ (kcons h0 (kcons qn0 (kcons qn1 (kcons (u1 0) (kcons (u1 1) (kcons (u1 2) (kcons qn2 (kcons (u2 0) (kcons (u2 1) (kcons (u2 2) (kcons qn3 (kcons (u3 0) (kcons (u3 1) (kcons (u3 2) (kcons qn4 (fun _ => 0)))))))))))))))) (fun _ => 0) 0 86400000000000 (fun _ => 0) (fun _ => 0) (fun _ => 0) 0 (fun _ => 0) (fun _ => 0) (fun _ => 0) 0 (fun _ => 0) (fun _ => 0) (fun _ => 0) 0 (fun _ => 0) 0 0 0)) [0, 1, 2, 3, 4, 5, 6, 7, 8, 9, 10, 11, 12, 13, 14] rfl
  have hD := hD.sub (ws' := (wSB cI cJ cZ (kcons h0 (kcons qn0 (kcons qn1 (kcons (u1 0) (kcons (u1 1) (kcons (u1 2) (kcons qn2 (kcons (u2 0) (kcons (u2 1) (kcons (u2 2) (kcons qn3 (kcons (u3 0) (kcons (u3 1) (kcons (u3 2) (kcons qn4 (fun _ => 0)))))))))))))))) (fun _ => 0) 0 86400000000000 (fun _ => 0) (fun _ => 0) (fun _ => 0) 0 (fun _ => 0) (fun _ => 0) (fun _ => 0) 0 (fun _ => 0) (fun _ => 0) (fun _ => 0) 0 (fun _ => 0) 0 0 0)) [0, 1, 2, 3, 4, 5, 6, 7, 8, 9, 10, 11, 12, 13, 14] (by decide) rfl
  have h := Option.some.inj h
  subst h
  refine W.widen (k := 14) (n := 126) (Nat.le_of_ble_eq_true rfl) (Nat.le_of_ble_eq_true rfl) ?_
  exact kret_vu (u := (kcons qn0 (kcons qn1 (kcons (u1 0) (kcons (u1 1) (kcons (u1 2) (kcons qn2 (kcons (u2 0) (kcons (u2 1) (kcons (u2 2) (kcons qn3 (kcons (u3 0) (kcons (u3 1) (kcons (u3 2) (kcons qn4 (fun _ => 0)))))))))))))))) hx hb hr hlocks hS hP hD (kdr dgX1_init_61 0 1 rfl rfl)
noncomputable abbrev wsX2_init : List Cond := kWs yX2_init cX2_init 1 none
noncomputable def f_X2_init : Option (Unit) :=
  some ()
theorem f_X2_init_e : f_X2_init = 
  some () := rfl
set_option maxHeartbeats 4000000 in
set_option maxRecDepth 100000 in
theorem c_X2_init (l : Launch) (dC : Nat → ClassId) (dI : Nat → Nat → Nat) (cB cI cJ cZ : ClassId) (h0 : Nat) (sz : Nat) (res : Unit) (hf : f_X2_init = some res) : Met l yX2_init wsX2_init (kRm 1 0 0 20) (kPre (dC, dI) (kTy cB cI cJ cZ) [.ref h0] sz [(h0, .inr (4, [.long 0, .null]))]) (kVu (dC, dI) (fun u => [(h0, .inr (4, [.long 0, .null]))]) (va_A [(h0, .inr (4, [.long 0, .null]))] sz)) 0 0 (va_A [(h0, .inr (4, [.long 0, .null]))] sz) := by
  refine Met.ofW (cc := cX2_init) (maxL := 1) (ret := none) (by decide) rfl ?_
  intro p e s m args below meth c s₁ B hml hv
  obtain ⟨rfl, hsz, hP, hK, hD0, hG⟩ := hv
  have hx := B.exec
  have hb := B.bytes
  have hr := B.returns
  have hts := atoms_spec (ws := wsX2_init) B.pre
  have hown : s.vm.findClass RX2 = some m.cls := findClass_of_methodNamed B.named
  have hlocks := B.notSynchronized
  subst hsz
  have hD := hD0.self (sz := s.heap.size)
  generalize hAe : va_A [(h0, .inr (4, [.long 0, .null]))] s.heap.size = A at hD ⊢
  have hA : ∀ q : Nat, s.heap.size ≤ q → A q := fun q h => by rw [← hAe]; exact Or.inr h
  have hS : va_S A s.heap s.heap [] := va_S.rf
  clear hAe
  have hin : meth.name = "<init>" := (name_of_methodNamed B.named B.method).1
  have hw0 := hts (.methodLink RX2 1 objectInit) (List.mem_cons_of_mem _ kw_456)
  have hw1 := hts (.instanceMethod objectInit) (List.mem_cons_of_mem _ kw_83)
  have hw2 := hts (.code objectInit ⟨#[0xb1]⟩ 1 none) (List.mem_cons_of_mem _ kw_84)
  have hl := lv_entry ([.ref h0]) (n := 1) (Nat.le_of_ble_eq_true rfl)
  rw [lg_entry_eq]
  generalize (lg_sl ([.ref h0]) ++ List.replicate (1 - (lg_sl ([.ref h0])).length) Slot.unset).toArray = ls at hl ⊢
  have hl : lv_has ls 1 (kvA 0 h0 kvE) := hl
  have h := f_X2_init_e.symm.trans hf
  refine lv_aload_n hx hb (kdr dgX2_init_0 0 0 rfl rfl) rfl (lv_at hl 0 rfl) ?_
  refine W.objInit hx hb hown hw0 hw1 hw2 rfl (by rw [hml]; exact hl.1) rfl (kdr dgX2_init_0 0 1 rfl rfl) (Nat.le_of_ble_eq_true rfl) (Nat.le_of_ble_eq_true rfl) ?_
  refine W.eq (g2 := F0 m 4 ls []) rfl ?_
  have hP := hP.sub (ws' := [(h0, .inr (4, [.long 0, .null]))]) [0] rfl
  have hD := hD.sub (ws' := [(h0, .inr (4, [.long 0, .null]))]) [0] (by decide) rfl
  have h := Option.some.inj h
  subst h
  exact kret_vu (u := (fun _ => 0)) hx hb hr hlocks hS hP hD (kdr dgX2_init_0 0 2 rfl rfl)
noncomputable abbrev wsX1_text : List Cond := kWs yX1_text cX1_text 3 (some (.object "java/lang/String"))
noncomputable def f_X1_text (ce : Nat → Int64) (p0 : Int32) : Option (Unit) :=
  (f_X1_needCell p0).bind fun r1 =>
  (f_J4_init_da8c8).bind fun r2 =>
  if ix p0 4 then
    (f_X1_secondOf (ce p0.toNatClampNeg)).bind fun r4 =>
    (f_J4_append_bf812 r2.1 r2.2.1 r2.2.2 r4).bind fun r5 =>
    (f_J4_append_cf468 r5.1 r5.2.1 r5.2.2 32).bind fun r6 =>
    (f_X1_nanoOf (ce p0.toNatClampNeg)).bind fun r7 =>
    (f_J4_append_bf812 r6.1 r6.2.1 r6.2.2 r7).bind fun r8 =>
    (f_J4_toString_0e30d r8.1 r8.2.1 r8.2.2).bind fun r9 =>
    some ()
  else none
theorem f_X1_text_e {ce : Nat → Int64} {p0 : Int32} : f_X1_text ce p0 = 
  (f_X1_needCell p0).bind fun r1 =>
  (f_J4_init_da8c8).bind fun r2 =>
  if ix p0 4 then
    (f_X1_secondOf (ce p0.toNatClampNeg)).bind fun r4 =>
    (f_J4_append_bf812 r2.1 r2.2.1 r2.2.2 r4).bind fun r5 =>
    (f_J4_append_cf468 r5.1 r5.2.1 r5.2.2 32).bind fun r6 =>
    (f_X1_nanoOf (ce p0.toNatClampNeg)).bind fun r7 =>
    (f_J4_append_bf812 r6.1 r6.2.1 r6.2.2 r7).bind fun r8 =>
    (f_J4_toString_0e30d r8.1 r8.2.1 r8.2.2).bind fun r9 =>
    some ()
  else none := rfl
set_option maxHeartbeats 4000000 in
set_option maxRecDepth 100000 in
theorem c_X1_text (l : Launch) (dC : Nat → ClassId) (dI : Nat → Nat → Nat) (cB cI cJ cZ : ClassId) (a : Nat → Nat) (sz : Nat) (ce : Nat → Int64) (fr : Int64) (un : Int64) (sb : Nat → Int64) (se : Nat → Int64) (so : Nat → Int32) (sc : Int32) (wb : Nat → Int64) (we : Nat → Int64) (wo : Nat → Int32) (wc : Int32) (fb : Nat → Int64) (fe : Nat → Int64) (fo : Nat → Int32) (fc : Int32) (rm : Nat → Int32) (ac : Int32) (rf : Int32) (kn : Int32) (p0 : Int32) (res : Unit) (hf : f_X1_text ce p0 = some res) : Met l yX1_text wsX1_text (kRm 6 7 280 171) (kPreX (dC, dI) (kTy cB cI cJ cZ) [.ref (a 0), .int p0] sz (wSB cI cJ cZ a ce fr un sb se so sc wb we wo wc fb fe fo fc rm ac rf kn)) (kNq (dC, dI) (wSB cI cJ cZ a ce fr un sb se so sc wb we wo wc fb fe fo fc rm ac rf kn) (va_A (wSB cI cJ cZ a ce fr un sb se so sc wb we wo wc fb fe fo fc rm ac rf kn) sz)) 7 280 (va_A (wSB cI cJ cZ a ce fr un sb se so sc wb we wo wc fb fe fo fc rm ac rf kn) sz) := by
  refine Met.ofW (cc := cX1_text) (maxL := 3) (ret := (some (.object "java/lang/String"))) (by decide) rfl ?_
  intro p e s m args below meth c s₁ B hml hv
  obtain ⟨rfl, hsz, hP, hK, hD0, hG, hZ⟩ := hv
  have hx := B.exec
  have hb := B.bytes
  have hr := B.returns
  have hts := atoms_spec (ws := wsX1_text) B.pre
  have hown : s.vm.findClass RX1 = some m.cls := findClass_of_methodNamed B.named
  have hlocks := B.notSynchronized
  subst hsz
  have hD := hD0.self (sz := s.heap.size)
  generalize hAe : va_A (wSB cI cJ cZ a ce fr un sb se so sc wb we wo wc fb fe fo fc rm ac rf kn) s.heap.size = A at hD hZ ⊢
  have hA : ∀ q : Nat, s.heap.size ≤ q → A q := fun q h => by rw [← hAe]; exact Or.inr h
  have hS : va_S A s.heap s.heap [] := va_S.rf
  clear hAe
  have hw0 := hts (.classLink RX1 145 RJ4) (List.mem_cons_of_mem _ kw_682)
  have hw1 := hts (.instantiable RJ4 4) (List.mem_cons_of_mem _ kw_683)
  have hw2 := hts (.initialized RJ4) (List.mem_cons_of_mem _ kw_68)
  have hw3 := hts (.fieldLink RX1 9 "Spanbooker" "cells" "[J") (List.mem_cons_of_mem _ kw_107)
  have hiJ4 : ∀ w ∈ u_ws RJ4 TJ4 4, w ∈ wsX1_text := fun w h => List.mem_cons_of_mem _ (ku_J4 w h)
  have hiX1 : ∀ w ∈ u_ws RX1 TX1 10, w ∈ wsX1_text := fun w h => List.mem_cons_of_mem _ (ku_X1 w h)
  have hl := lv_entry ([.ref (a 0), .int p0]) (n := 3) (Nat.le_of_ble_eq_true rfl)
  rw [lg_entry_eq]
  generalize (lg_sl ([.ref (a 0), .int p0]) ++ List.replicate (3 - (lg_sl ([.ref (a 0), .int p0])).length) Slot.unset).toArray = ls at hl ⊢
  have hl : lv_has ls 3 (kvA 0 (a 0) (kvI 1 p0 kvE)) := hl
  have h := f_X1_text_e.symm.trans hf
  refine lv_iload_n hx hb (kdr dgX1_text_0 0 0 rfl rfl) rfl (lv_at hl 1 rfl) ?_
  obtain ⟨r1, g1, h⟩ := g_b h
  refine kq_v (wSB cI cJ cZ a ce fr un sb se so sc wb we wo wc fb fe fo fc rm ac rf kn) (fun qP qD qF => va_runS (As := [.int p0]) (rest := []) ⟨hx, hb, hml, hown, hts⟩ (c_X1_needCell l dC dI cB cI cJ cZ  _  p0 r1 g1) (kcwS hts kw_473 kv_X1_needCell rfl rfl ⟨(Nat.le_of_ble_eq_true rfl), (Nat.le_of_ble_eq_true rfl)⟩) (kpS (A := A) (kPnil) hK ((kDnil (A := A))) hG) rfl rfl hl.1 rfl (lv_room (Nat.le_of_ble_eq_true rfl)) (kdr dgX1_text_0 0 1 rfl rfl) ⟨(Nat.le_of_ble_eq_true rfl), (Nat.le_of_ble_eq_true rfl)⟩) hP hD hS hA kFr_n (fun H locs hP hD hS => ?_)
  refine va_new (ci := 1) (fs := [.null, .int 0, .int 0, .int 0]) (C := RJ4) (T := TJ4) (N := 4) hx hb hts hiJ4 tyJ4 tyJ4_ok hown hw0 hw1 hw2 hK hP hD hS hA rfl (fun j hj => by rcases (show j = 0 ∨ j = 1 ∨ j = 2 ∨ j = 3 by omega) with rfl | rfl | rfl | rfl <;> rfl) (Nat.le_of_ble_eq_true rfl) (Nat.le_of_ble_eq_true rfl) (kdr dgX1_text_0 0 2 rfl rfl) (fun qn0 H hP hD hS => ?_)
  have hP : va_P (dC, dI) vwCl ((wSB cI cJ cZ a ce fr un sb se so sc wb we wo wc fb fe fo fc rm ac rf kn) ++ [(qn0, .inr (1, [.null, .int 0, .int 0, .int 0]))]) H := hP
  have hD : va_D A ((wSB cI cJ cZ a ce fr un sb se so sc wb we wo wc fb fe fo fc rm ac rf kn) ++ [(qn0, .inr (1, [.null, .int 0, .int 0, .int 0]))]) := hD
  refine lv_dup hx hb (kdr dgX1_text_0 0 3 rfl rfl) rfl ?_
  obtain ⟨r2, g2, h⟩ := g_b h
  refine kcall_vu (fun u2 => (wTB cB qn0 (u2 0) r2.1 r2.2.1 r2.2.2)) (va_runI (As := []) (rest := [.ref qn0]) ⟨hx, hb, hml, hown, hts⟩ (c_J4_init_da8c8 l dC dI cB cI cJ cZ qn0 _   r2 g2) (kcwI hts kw_684 kv_J4_init_da8c8 rfl rfl ⟨(Nat.le_of_ble_eq_true rfl), (Nat.le_of_ble_eq_true rfl)⟩) (kpSX (A := A) (hP.sub [15] rfl) hK (hD.sub [15] (by decide) rfl) hG hZ hS hD hA [15] rfl) rfl rfl hl.1 rfl (lv_room (Nat.le_of_ble_eq_true rfl)) (kdr dgX1_text_0 0 4 rfl rfl) ⟨(Nat.le_of_ble_eq_true rfl), (Nat.le_of_ble_eq_true rfl)⟩) hP hD hS hA [15] [0, 1, 2, 3, 4, 5, 6, 7, 8, 9, 10, 11, 12, 13, 14] rfl [((a 0), .inr (3, [.ref (a 1), .long fr, .long un, .ref (a 2), .ref (a 6), .ref (a 10), .ref (a 14), .int ac, .int rf, .int kn])), ((a 1), .inl (cJ, 4, .inr (.inl ce))), ((a 2), .inr (2, [.ref (a 3), .ref (a 4), .ref (a 5), .int sc])), ((a 3), .inl (cJ, 11, .inr (.inl sb))), ((a 4), .inl (cJ, 11, .inr (.inl se))), ((a 5), .inl (cZ, 11, .inl so)), ((a 6), .inr (2, [.ref (a 7), .ref (a 8), .ref (a 9), .int wc])), ((a 7), .inl (cJ, 11, .inr (.inl wb))), ((a 8), .inl (cJ, 11, .inr (.inl we))), ((a 9), .inl (cZ, 11, .inl wo)), ((a 10), .inr (2, [.ref (a 11), .ref (a 12), .ref (a 13), .int fc])), ((a 11), .inl (cJ, 11, .inr (.inl fb))), ((a 12), .inl (cJ, 11, .inr (.inl fe))), ((a 13), .inl (cZ, 11, .inl fo)), ((a 14), .inl (cI, 11, .inl rm))] rfl (by decide) (by decide) (fun u2 H locs hP hD hS => ?_)
  have hP := hP.sub (ws' := ((wSB cI cJ cZ a ce fr un sb se so sc wb we wo wc fb fe fo fc rm ac rf kn) ++ [(qn0, .inr (1, [.ref (u2 0), .int 0, .int 0, .int r2.2.2]))] ++ [((u2 0), .inl (cB, r2.1, .inl r2.2.1))])) [0, 1, 2, 3, 4, 5, 6, 7, 8, 9, 10, 11, 12, 13, 14, 15, 16] rfl
  have hD := hD.sub (ws' := ((wSB cI cJ cZ a ce fr un sb se so sc wb we wo wc fb fe fo fc rm ac rf kn) ++ [(qn0, .inr (1, [.ref (u2 0), .int 0, .int 0, .int r2.2.2]))] ++ [((u2 0), .inl (cB, r2.1, .inl r2.2.1))])) [0, 1, 2, 3, 4, 5, 6, 7, 8, 9, 10, 11, 12, 13, 14, 15, 16] (by decide) rfl
  refine lv_astore_n (lv' := (kvA 2 qn0 (kvA 0 (a 0) (kvI 1 p0 kvE)))) hx hb (kdr dgX1_text_0 0 5 rfl rfl) rfl hl (by decide) rfl (fun ls hl => ?_)
  refine lv_aload_n hx hb (kdr dgX1_text_0 0 6 rfl rfl) rfl (lv_at hl 0 rfl) ?_
  refine lv_aload_n hx hb (kdr dgX1_text_0 0 7 rfl rfl) rfl (lv_at hl 1 rfl) ?_
  refine va_get (D := (dC, dI)) (ci := 3) (v := .ref (a 1)) (C := RX1) (T := TX1) (N := 10) hx hb hts hiX1 hown hK hP 0 rfl rfl 0 (by decide) hw3 (fun _ h9 => h9) rfl (kdr dgX1_text_0 0 8 rfl rfl) ?_
  refine lv_iload_n hx hb (kdr dgX1_text_0 0 9 rfl rfl) rfl (lv_at hl 2 rfl) ?_
  obtain ⟨z2, h⟩ := g_if h
  refine va_lald hx hb hK hP 1 2 rfl rfl (ix_in z2) (kdr dgX1_text_0 1 0 rfl rfl) ?_
  obtain ⟨r4, g4, h⟩ := g_b h
  refine kq_i ((wSB cI cJ cZ a ce fr un sb se so sc wb we wo wc fb fe fo fc rm ac rf kn) ++ [(qn0, .inr (1, [.ref (u2 0), .int 0, .int 0, .int r2.2.2]))] ++ [((u2 0), .inl (cB, r2.1, .inl r2.2.1))]) (fun qP qD qF => va_runS (As := [.long (ce p0.toNatClampNeg)]) (rest := [.ref qn0]) ⟨hx, hb, hml, hown, hts⟩ (c_X1_secondOf l dC dI cB cI cJ cZ  _  (ce p0.toNatClampNeg) r4 g4) (kcwS hts kw_329 kv_X1_secondOf rfl rfl ⟨(Nat.le_of_ble_eq_true rfl), (Nat.le_of_ble_eq_true rfl)⟩) (kpS (A := A) (kPnil) hK ((kDnil (A := A))) hG) rfl rfl hl.1 rfl (lv_room (Nat.le_of_ble_eq_true rfl)) (kdr dgX1_text_0 1 1 rfl rfl) ⟨(Nat.le_of_ble_eq_true rfl), (Nat.le_of_ble_eq_true rfl)⟩) hP hD hS hA kFr_n (fun H locs hP hD hS br4 => ?_)
  obtain ⟨r5, g5, h⟩ := g_b h
  refine kcall_au (fun u5 => (wTB cB qn0 (u5 0) r5.1 r5.2.1 r5.2.2)) (va_runV (As := [.int r4]) (rest := []) ⟨hx, hb, hml, hown, hts⟩ (c_J4_append_bf812 l dC dI cB cI cJ cZ qn0 (u2 0) _ r2.1 r2.2.1 r2.2.2 r4 r5 g5) (kcwV hts kw_713 kv_J4_append_bf812 rfl rfl ⟨(Nat.le_of_ble_eq_true rfl), (Nat.le_of_ble_eq_true rfl)⟩) (kpVX (A := A) (hP.sub [15, 16] rfl) hK (hD.sub [15, 16] (by decide) rfl) hG hZ hS hD hA [15, 16] rfl (krecv_1 (q0 := 15) hK hP rfl)) rfl rfl hl.1 rfl (lv_room (Nat.le_of_ble_eq_true rfl)) (kdr dgX1_text_0 1 2 rfl rfl) ⟨(Nat.le_of_ble_eq_true rfl), (Nat.le_of_ble_eq_true rfl)⟩) hP hD hS hA [15, 16] [0, 1, 2, 3, 4, 5, 6, 7, 8, 9, 10, 11, 12, 13, 14] rfl [((a 0), .inr (3, [.ref (a 1), .long fr, .long un, .ref (a 2), .ref (a 6), .ref (a 10), .ref (a 14), .int ac, .int rf, .int kn])), ((a 1), .inl (cJ, 4, .inr (.inl ce))), ((a 2), .inr (2, [.ref (a 3), .ref (a 4), .ref (a 5), .int sc])), ((a 3), .inl (cJ, 11, .inr (.inl sb))), ((a 4), .inl (cJ, 11, .inr (.inl se))), ((a 5), .inl (cZ, 11, .inl so)), ((a 6), .inr (2, [.ref (a 7), .ref (a 8), .ref (a 9), .int wc])), ((a 7), .inl (cJ, 11, .inr (.inl wb))), ((a 8), .inl (cJ, 11, .inr (.inl we))), ((a 9), .inl (cZ, 11, .inl wo)), ((a 10), .inr (2, [.ref (a 11), .ref (a 12), .ref (a 13), .int fc])), ((a 11), .inl (cJ, 11, .inr (.inl fb))), ((a 12), .inl (cJ, 11, .inr (.inl fe))), ((a 13), .inl (cZ, 11, .inl fo)), ((a 14), .inl (cI, 11, .inl rm))] rfl (by decide) (by decide) (fun u5 H locs hP hD hS => ?_)
  have hP := hP.sub (ws' := ((wSB cI cJ cZ a ce fr un sb se so sc wb we wo wc fb fe fo fc rm ac rf kn) ++ [(qn0, .inr (1, [.ref (u5 0), .int 0, .int 0, .int r5.2.2]))] ++ [((u5 0), .inl (cB, r5.1, .inl r5.2.1))])) [0, 1, 2, 3, 4, 5, 6, 7, 8, 9, 10, 11, 12, 13, 14, 15, 16] rfl
  have hD := hD.sub (ws' := ((wSB cI cJ cZ a ce fr un sb se so sc wb we wo wc fb fe fo fc rm ac rf kn) ++ [(qn0, .inr (1, [.ref (u5 0), .int 0, .int 0, .int r5.2.2]))] ++ [((u5 0), .inl (cB, r5.1, .inl r5.2.1))])) [0, 1, 2, 3, 4, 5, 6, 7, 8, 9, 10, 11, 12, 13, 14, 15, 16] (by decide) rfl
  refine lv_pop hx hb (kdr dgX1_text_0 1 3 rfl rfl) rfl ?_
  refine lv_aload_n hx hb (kdr dgX1_text_0 1 4 rfl rfl) rfl (lv_at hl 0 rfl) ?_
  refine lv_bipush (v := 32) hx hb (kdr dgX1_text_0 1 5 rfl rfl) (by decide) ?_
  obtain ⟨r6, g6, h⟩ := g_b h
  refine kcall_au (fun u6 => (wTB cB qn0 (u6 0) r6.1 r6.2.1 r6.2.2)) (va_runV (As := [.int 32]) (rest := []) ⟨hx, hb, hml, hown, hts⟩ (c_J4_append_cf468 l dC dI cB cI cJ cZ qn0 (u5 0) _ r5.1 r5.2.1 r5.2.2 32 r6 g6) (kcwV hts kw_799 kv_J4_append_cf468 rfl rfl ⟨(Nat.le_of_ble_eq_true rfl), (Nat.le_of_ble_eq_true rfl)⟩) (kpVX (A := A) (hP.sub [15, 16] rfl) hK (hD.sub [15, 16] (by decide) rfl) hG hZ hS hD hA [15, 16] rfl (krecv_1 (q0 := 15) hK hP rfl)) rfl rfl hl.1 rfl (lv_room (Nat.le_of_ble_eq_true rfl)) (kdr dgX1_text_0 1 6 rfl rfl) ⟨(Nat.le_of_ble_eq_true rfl), (Nat.le_of_ble_eq_true rfl)⟩) hP hD hS hA [15, 16] [0, 1, 2, 3, 4, 5, 6, 7, 8, 9, 10, 11, 12, 13, 14] rfl [((a 0), .inr (3, [.ref (a 1), .long fr, .long un, .ref (a 2), .ref (a 6), .ref (a 10), .ref (a 14), .int ac, .int rf, .int kn])), ((a 1), .inl (cJ, 4, .inr (.inl ce))), ((a 2), .inr (2, [.ref (a 3), .ref (a 4), .ref (a 5), .int sc])), ((a 3), .inl (cJ, 11, .inr (.inl sb))), ((a 4), .inl (cJ, 11, .inr (.inl se))), ((a 5), .inl (cZ, 11, .inl so)), ((a 6), .inr (2, [.ref (a 7), .ref (a 8), .ref (a 9), .int wc])), ((a 7), .inl (cJ, 11, .inr (.inl wb))), ((a 8), .inl (cJ, 11, .inr (.inl we))), ((a 9), .inl (cZ, 11, .inl wo)), ((a 10), .inr (2, [.ref (a 11), .ref (a 12), .ref (a 13), .int fc])), ((a 11), .inl (cJ, 11, .inr (.inl fb))), ((a 12), .inl (cJ, 11, .inr (.inl fe))), ((a 13), .inl (cZ, 11, .inl fo)), ((a 14), .inl (cI, 11, .inl rm))] rfl (by decide) (by decide) (fun u6 H locs hP hD hS => ?_)
  have hP := hP.sub (ws' := ((wSB cI cJ cZ a ce fr un sb se so sc wb we wo wc fb fe fo fc rm ac rf kn) ++ [(qn0, .inr (1, [.ref (u6 0), .int 0, .int 0, .int r6.2.2]))] ++ [((u6 0), .inl (cB, r6.1, .inl r6.2.1))])) [0, 1, 2, 3, 4, 5, 6, 7, 8, 9, 10, 11, 12, 13, 14, 15, 16] rfl
  have hD := hD.sub (ws' := ((wSB cI cJ cZ a ce fr un sb se so sc wb we wo wc fb fe fo fc rm ac rf kn) ++ [(qn0, .inr (1, [.ref (u6 0), .int 0, .int 0, .int r6.2.2]))] ++ [((u6 0), .inl (cB, r6.1, .inl r6.2.1))])) [0, 1, 2, 3, 4, 5, 6, 7, 8, 9, 10, 11, 12, 13, 14, 15, 16] (by decide) rfl
  refine lv_pop hx hb (kdr dgX1_text_0 1 7 rfl rfl) rfl ?_
  refine lv_aload_n hx hb (kdr dgX1_text_0 1 8 rfl rfl) rfl (lv_at hl 0 rfl) ?_
  refine lv_aload_n hx hb (kdr dgX1_text_0 1 9 rfl rfl) rfl (lv_at hl 1 rfl) ?_
  refine va_get (D := (dC, dI)) (ci := 3) (v := .ref (a 1)) (C := RX1) (T := TX1) (N := 10) hx hb hts hiX1 hown hK hP 0 rfl rfl 0 (by decide) hw3 (fun _ h9 => h9) rfl (kdr dgX1_text_0 2 0 rfl rfl) ?_
  refine lv_iload_n hx hb (kdr dgX1_text_0 2 1 rfl rfl) rfl (lv_at hl 2 rfl) ?_
  refine va_lald hx hb hK hP 1 2 rfl rfl (ix_in z2) (kdr dgX1_text_0 2 2 rfl rfl) ?_
  obtain ⟨r7, g7, h⟩ := g_b h
  refine kq_i ((wSB cI cJ cZ a ce fr un sb se so sc wb we wo wc fb fe fo fc rm ac rf kn) ++ [(qn0, .inr (1, [.ref (u6 0), .int 0, .int 0, .int r6.2.2]))] ++ [((u6 0), .inl (cB, r6.1, .inl r6.2.1))]) (fun qP qD qF => va_runS (As := [.long (ce p0.toNatClampNeg)]) (rest := [.ref qn0]) ⟨hx, hb, hml, hown, hts⟩ (c_X1_nanoOf l dC dI cB cI cJ cZ  _  (ce p0.toNatClampNeg) r7 g7) (kcwS hts kw_340 kv_X1_nanoOf rfl rfl ⟨(Nat.le_of_ble_eq_true rfl), (Nat.le_of_ble_eq_true rfl)⟩) (kpS (A := A) (kPnil) hK ((kDnil (A := A))) hG) rfl rfl hl.1 rfl (lv_room (Nat.le_of_ble_eq_true rfl)) (kdr dgX1_text_0 2 3 rfl rfl) ⟨(Nat.le_of_ble_eq_true rfl), (Nat.le_of_ble_eq_true rfl)⟩) hP hD hS hA kFr_n (fun H locs hP hD hS br7 => ?_)
  obtain ⟨r8, g8, h⟩ := g_b h
  refine kcall_au (fun u8 => (wTB cB qn0 (u8 0) r8.1 r8.2.1 r8.2.2)) (va_runV (As := [.int r7]) (rest := []) ⟨hx, hb, hml, hown, hts⟩ (c_J4_append_bf812 l dC dI cB cI cJ cZ qn0 (u6 0) _ r6.1 r6.2.1 r6.2.2 r7 r8 g8) (kcwV hts kw_713 kv_J4_append_bf812 rfl rfl ⟨(Nat.le_of_ble_eq_true rfl), (Nat.le_of_ble_eq_true rfl)⟩) (kpVX (A := A) (hP.sub [15, 16] rfl) hK (hD.sub [15, 16] (by decide) rfl) hG hZ hS hD hA [15, 16] rfl (krecv_1 (q0 := 15) hK hP rfl)) rfl rfl hl.1 rfl (lv_room (Nat.le_of_ble_eq_true rfl)) (kdr dgX1_text_0 2 4 rfl rfl) ⟨(Nat.le_of_ble_eq_true rfl), (Nat.le_of_ble_eq_true rfl)⟩) hP hD hS hA [15, 16] [0, 1, 2, 3, 4, 5, 6, 7, 8, 9, 10, 11, 12, 13, 14] rfl [((a 0), .inr (3, [.ref (a 1), .long fr, .long un, .ref (a 2), .ref (a 6), .ref (a 10), .ref (a 14), .int ac, .int rf, .int kn])), ((a 1), .inl (cJ, 4, .inr (.inl ce))), ((a 2), .inr (2, [.ref (a 3), .ref (a 4), .ref (a 5), .int sc])), ((a 3), .inl (cJ, 11, .inr (.inl sb))), ((a 4), .inl (cJ, 11, .inr (.inl se))), ((a 5), .inl (cZ, 11, .inl so)), ((a 6), .inr (2, [.ref (a 7), .ref (a 8), .ref (a 9), .int wc])), ((a 7), .inl (cJ, 11, .inr (.inl wb))), ((a 8), .inl (cJ, 11, .inr (.inl we))), ((a 9), .inl (cZ, 11, .inl wo)), ((a 10), .inr (2, [.ref (a 11), .ref (a 12), .ref (a 13), .int fc])), ((a 11), .inl (cJ, 11, .inr (.inl fb))), ((a 12), .inl (cJ, 11, .inr (.inl fe))), ((a 13), .inl (cZ, 11, .inl fo)), ((a 14), .inl (cI, 11, .inl rm))] rfl (by decide) (by decide) (fun u8 H locs hP hD hS => ?_)
  have hP := hP.sub (ws' := ((wSB cI cJ cZ a ce fr un sb se so sc wb we wo wc fb fe fo fc rm ac rf kn) ++ [(qn0, .inr (1, [.ref (u8 0), .int 0, .int 0, .int r8.2.2]))] ++ [((u8 0), .inl (cB, r8.1, .inl r8.2.1))])) [0, 1, 2, 3, 4, 5, 6, 7, 8, 9, 10, 11, 12, 13, 14, 15, 16] rfl
  have hD := hD.sub (ws' := ((wSB cI cJ cZ a ce fr un sb se so sc wb we wo wc fb fe fo fc rm ac rf kn) ++ [(qn0, .inr (1, [.ref (u8 0), .int 0, .int 0, .int r8.2.2]))] ++ [((u8 0), .inl (cB, r8.1, .inl r8.2.1))])) [0, 1, 2, 3, 4, 5, 6, 7, 8, 9, 10, 11, 12, 13, 14, 15, 16] (by decide) rfl
  refine lv_pop hx hb (kdr dgX1_text_0 2 5 rfl rfl) rfl ?_
  refine lv_aload_n hx hb (kdr dgX1_text_0 2 6 rfl rfl) rfl (lv_at hl 0 rfl) ?_
  obtain ⟨r9, g9, h⟩ := g_b h
  refine kcall_n ((wSB cI cJ cZ a ce fr un sb se so sc wb we wo wc fb fe fo fc rm ac rf kn) ++ [(qn0, .inr (1, [.ref (u8 0), .int 0, .int 0, .int r8.2.2]))] ++ [((u8 0), .inl (cB, r8.1, .inl r8.2.1))]) (va_runV (As := []) (rest := []) ⟨hx, hb, hml, hown, hts⟩ (c_J4_toString_0e30d l dC dI cB cI cJ cZ qn0 (u8 0) _ r8.1 r8.2.1 r8.2.2  r9 g9) (kcwV hts kw_840 kv_J4_toString_0e30d rfl rfl ⟨(Nat.le_of_ble_eq_true rfl), (Nat.le_of_ble_eq_true rfl)⟩) (kpVX (A := A) (hP.sub (kIT mk_9 0) (km_f (m := mk_9) rfl rfl)) hK (hD.sub (kIT mk_9 0) (km_nd mk_9) (km_T (m := mk_9) rfl rfl)) hG hZ hS hD hA (kIT mk_9 0) (km_T (m := mk_9) rfl rfl) (krecv_1 (q0 := 15) hK hP rfl)) rfl rfl hl.1 rfl (lv_room (Nat.le_of_ble_eq_true rfl)) (kdr dgX1_text_0 2 7 rfl rfl) ⟨(Nat.le_of_ble_eq_true rfl), (Nat.le_of_ble_eq_true rfl)⟩) hP hD hS hA (kIT mk_9 0) (kIT mk_10 0) (km_T (m := mk_9) rfl rfl) (km_T (m := mk_9) rfl rfl) [((a 0), .inr (3, [.ref (a 1), .long fr, .long un, .ref (a 2), .ref (a 6), .ref (a 10), .ref (a 14), .int ac, .int rf, .int kn])), ((a 1), .inl (cJ, 4, .inr (.inl ce))), ((a 2), .inr (2, [.ref (a 3), .ref (a 4), .ref (a 5), .int sc])), ((a 3), .inl (cJ, 11, .inr (.inl sb))), ((a 4), .inl (cJ, 11, .inr (.inl se))), ((a 5), .inl (cZ, 11, .inl so)), ((a 6), .inr (2, [.ref (a 7), .ref (a 8), .ref (a 9), .int wc])), ((a 7), .inl (cJ, 11, .inr (.inl wb))), ((a 8), .inl (cJ, 11, .inr (.inl we))), ((a 9), .inl (cZ, 11, .inl wo)), ((a 10), .inr (2, [.ref (a 11), .ref (a 12), .ref (a 13), .int fc])), ((a 11), .inl (cJ, 11, .inr (.inl fb))), ((a 12), .inl (cJ, 11, .inr (.inl fe))), ((a 13), .inl (cZ, 11, .inl fo)), ((a 14), .inl (cI, 11, .inl rm))] (km_T (m := mk_10) rfl rfl) (km_T (m := mk_10) rfl rfl) (km_cov (m := mk_9) (n := mk_10) rfl rfl) (km_dis (m := mk_9) (n := mk_10) rfl) rfl (fun qa9 H locs hP hD hS => ?_)
  have hP := hP.sub (ws' := (wSB cI cJ cZ a ce fr un sb se so sc wb we wo wc fb fe fo fc rm ac rf kn)) [0, 1, 2, 3, 4, 5, 6, 7, 8, 9, 10, 11, 12, 13, 14] rfl
  have h := Option.some.inj h
  subst h
  refine W.widen (k := 7) (n := 280) (Nat.le_of_ble_eq_true rfl) (Nat.le_of_ble_eq_true rfl) ?_
  exact kret_n hx hb hr (Or.inl ⟨_, rfl⟩) hlocks hS hP (kdr dgX1_text_0 2 8 rfl rfl)
noncomputable def fx_X1_text (p0 : Int32) : Option (Nat) :=
  xb (fx_X1_needCell p0) (fun k1 => some k1) (
  none)
theorem fx_X1_text_e {p0 : Int32} : fx_X1_text p0 = 
  xb (fx_X1_needCell p0) (fun k1 => some k1) (
  none) := rfl
set_option maxHeartbeats 4000000 in
set_option maxRecDepth 100000 in
theorem x_X1_text (l : Launch) (hl9 : l.stackTraces = false) (dC : Nat → ClassId) (dI : Nat → Nat → Nat) (cB cI cJ cZ : ClassId) (a : Nat → Nat) (sz : Nat) (ce : Nat → Int64) (fr : Int64) (un : Int64) (sb : Nat → Int64) (se : Nat → Int64) (so : Nat → Int32) (sc : Int32) (wb : Nat → Int64) (we : Nat → Int64) (wo : Nat → Int32) (wc : Int32) (fb : Nat → Int64) (fe : Nat → Int64) (fo : Nat → Int32) (fc : Int32) (rm : Nat → Int32) (ac : Int32) (rf : Int32) (kn : Int32) (p0 : Int32) (res : Nat) (hf : fx_X1_text p0 = some res) : kMX l yX1_text wsX1_text (kRm 7 1 6 110) dC dI cB cI cJ cZ [.ref (a 0), .int p0] sz (wSB cI cJ cZ a ce fr un sb se so sc wb we wo wc fb fe fo fc rm ac rf kn) (res) (wSB cI cJ cZ a ce fr un sb se so sc wb we wo wc fb fe fo fc rm ac rf kn) 1 6 := by
  refine kmet_x (y := yX1_text) (cc := cX1_text) (maxL := 3) (ret := (some (.object "java/lang/String"))) RX1 (kvA 0 (a 0) (kvI 1 p0 kvE)) kpl_X1 rfl rfl (Nat.le_of_ble_eq_true rfl) rfl (fun p e s m below meth c A ls hx hb hr hml ht hts hown hlocks hP hK hG hZ hD hA hS hl => ?_)
  have h := fx_X1_text_e.symm.trans hf
  refine lv_iload_n hx hb (kdr dgX1_text_0 0 0 rfl rfl) rfl (lv_at hl 1 rfl) ?_
  rcases g_x h with ⟨k1, j1, h⟩ | ⟨-, h⟩
  · have h := Option.some.inj h
    subst h
    exact kq_x (wSB cI cJ cZ a ce fr un sb se so sc wb we wo wc fb fe fo fc rm ac rf kn) (fun qP qD qF => vx_runS (As := [.int p0]) (rest := []) ⟨hx, hb, hml, hown, hts⟩ (x_X1_needCell l hl9 dC dI cB cI cJ cZ  _  p0 k1 j1) (kcwS hts kw_473 kv_X1_needCell rfl rfl ⟨(Nat.le_of_ble_eq_true rfl), (Nat.le_of_ble_eq_true rfl)⟩) (kpSXq (A := A) (kPnil) hK ((kDnil (A := A))) hG hZ hS qF) rfl rfl hl.1 rfl (lv_room (Nat.le_of_ble_eq_true rfl)) (kdr dgX1_text_0 0 1 rfl rfl) ⟨(Nat.le_of_ble_eq_true rfl), (Nat.le_of_ble_eq_true rfl)⟩) hP hD hS hA kFr_n ht hlocks (Nat.le_of_ble_eq_true rfl) (Nat.le_of_ble_eq_true rfl)
  · cases h
end
