-- 15.mob.lean.txt
section
noncomputable abbrev wsX3_done : List Cond := kWs yX3_done cX3_done 2 (some .int)
noncomputable def f_X3_done (mac : Int32) (p0 : Int32) : Option ((Int32) × (Int32)) :=
  some (p0, mac + 1)
theorem f_X3_done_e {mac : Int32} {p0 : Int32} : f_X3_done mac p0 = 
  some (p0, mac + 1) := rfl
set_option maxHeartbeats 4000000 in
set_option maxRecDepth 100000 in
theorem c_X3_done (l : Launch) (dC : Nat → ClassId) (dI : Nat → Nat → Nat) (cB cI cJ cZ : ClassId) (b : Nat → Nat) (sz : Nat) (mce : Nat → Int64) (mfr : Int64) (mun : Int64) (mbe : Nat → Int64) (men : Nat → Int64) (mov : Nat → Int32) (msp : Int32) (mwb : Nat → Int64) (mwe : Nat → Int64) (mwi : Int32) (mac : Int32) (mre : Int32) (mkn : Int32) (mth : Int32) (p0 : Int32) (res : (Int32) × (Int32)) (hf : f_X3_done mac p0 = some res) : kMi l yX3_done wsX3_done (kRm 0 0 0 0) dC dI cB cI cJ cZ [.ref (b 0), .int p0] sz (wMo cJ cZ b mce mfr mun mbe men mov msp mwb mwe mwi mac mre mkn mth) .int (res.1) (wMo cJ cZ b mce mfr mun mbe men mov msp mwb mwe mwi (res.2) mre mkn mth) 0 0 := by
  refine kmet_i (y := yX3_done) (cc := cX3_done) (maxL := 2) (ret := (some .int)) RX3 (kvA 0 (b 0) (kvI 1 p0 kvE)) kpl_X3 rfl rfl (Nat.le_of_ble_eq_true rfl) rfl (fun p e s m below meth c A ls hx hb hr hml hts hown hlocks hP hK hG hD hA hS hl => ?_)
  have hw0 := hts (.fieldLink RX3 117 "SpanbookerModel" "acts" "I") (List.mem_cons_of_mem _ kw_1082)
  have hiX3 : ∀ w ∈ u_ws RX3 TX3 14, w ∈ wsX3_done := fun w h => List.mem_cons_of_mem _ (ku_X3 w h)
  have h := f_X3_done_e.symm.trans hf
  refine lv_aload_n hx hb (kdr dgX3_done_0 0 0 rfl rfl) rfl (lv_at hl 0 rfl) ?_
  refine lv_dup hx hb (kdr dgX3_done_0 0 1 rfl rfl) rfl ?_
  refine va_get (D := (dC, dI)) (ci := 5) (v := .int mac) (C := RX3) (T := TX3) (N := 14) hx hb hts hiX3 hown hK hP 0 rfl rfl 10 (by decide) hw0 (fun _ h9 => h9) rfl (kdr dgX3_done_0 0 2 rfl rfl) ?_
  refine lv_iconst (v := 1) hx hb (kdr dgX3_done_0 0 3 rfl rfl) (by decide) ?_
  refine lv_iadd hx hb (kdr dgX3_done_0 0 4 rfl rfl) ?_
  refine va_put (D := (dC, dI)) (ci := 5) (v := .int (mac + 1)) (ty := .int) (C := RX3) (T := TX3) (N := 14) hx hb hts hiX3 tyX3 tyX3_ok nmX3 hown hK hP hD hS 0 rfl rfl 10 (by decide) hw0 (fun _ h9 => h9) rfl (by decide +kernel) rfl rfl (Nat.le_of_ble_eq_true rfl) (kdr dgX3_done_0 0 5 rfl rfl) (fun H locs hP hD hS => ?_)
  have hP : va_P (dC, dI) vwCl (wMo cJ cZ b mce mfr mun mbe men mov msp mwb mwe mwi (mac + 1) mre mkn mth) H := hP
  have hD : va_D A (wMo cJ cZ b mce mfr mun mbe men mov msp mwb mwe mwi (mac + 1) mre mkn mth) := hD
  refine lv_iload_n hx hb (kdr dgX3_done_0 0 6 rfl rfl) rfl (lv_at hl 1 rfl) ?_
  have h := Option.some.inj h
  subst h
  exact kret_i (v := p0) hx hb hr rfl hlocks hS hP (kdr dgX3_done_0 0 7 rfl rfl)
noncomputable abbrev wsX3_no : List Cond := kWs yX3_no cX3_no 1 (some .int)
noncomputable def f_X3_no (mre : Int32) : Option ((Int32) × (Int32)) :=
  some ((-9), mre + 1)
theorem f_X3_no_e {mre : Int32} : f_X3_no mre = 
  some ((-9), mre + 1) := rfl
set_option maxHeartbeats 4000000 in
set_option maxRecDepth 100000 in
theorem c_X3_no (l : Launch) (dC : Nat → ClassId) (dI : Nat → Nat → Nat) (cB cI cJ cZ : ClassId) (b : Nat → Nat) (sz : Nat) (mce : Nat → Int64) (mfr : Int64) (mun : Int64) (mbe : Nat → Int64) (men : Nat → Int64) (mov : Nat → Int32) (msp : Int32) (mwb : Nat → Int64) (mwe : Nat → Int64) (mwi : Int32) (mac : Int32) (mre : Int32) (mkn : Int32) (mth : Int32) (res : (Int32) × (Int32)) (hf : f_X3_no mre = some res) : kMi l yX3_no wsX3_no (kRm 0 0 0 0) dC dI cB cI cJ cZ [.ref (b 0)] sz (wMo cJ cZ b mce mfr mun mbe men mov msp mwb mwe mwi mac mre mkn mth) .int (res.1) (wMo cJ cZ b mce mfr mun mbe men mov msp mwb mwe mwi mac (res.2) mkn mth) 0 0 := by
  refine kmet_i (y := yX3_no) (cc := cX3_no) (maxL := 1) (ret := (some .int)) RX3 (kvA 0 (b 0) kvE) kpl_X3 rfl rfl (Nat.le_of_ble_eq_true rfl) rfl (fun p e s m below meth c A ls hx hb hr hml hts hown hlocks hP hK hG hD hA hS hl => ?_)
  have hw0 := hts (.fieldLink RX3 120 "SpanbookerModel" "refused" "I") (List.mem_cons_of_mem _ kw_1083)
  have hiX3 : ∀ w ∈ u_ws RX3 TX3 14, w ∈ wsX3_no := fun w h => List.mem_cons_of_mem _ (ku_X3 w h)
  have h := f_X3_no_e.symm.trans hf
  refine lv_aload_n hx hb (kdr dgX3_no_0 0 0 rfl rfl) rfl (lv_at hl 0 rfl) ?_
  refine lv_dup hx hb (kdr dgX3_no_0 0 1 rfl rfl) rfl ?_
  refine va_get (D := (dC, dI)) (ci := 5) (v := .int mre) (C := RX3) (T := TX3) (N := 14) hx hb hts hiX3 hown hK hP 0 rfl rfl 11 (by decide) hw0 (fun _ h9 => h9) rfl (kdr dgX3_no_0 0 2 rfl rfl) ?_
  refine lv_iconst (v := 1) hx hb (kdr dgX3_no_0 0 3 rfl rfl) (by decide) ?_
  refine lv_iadd hx hb (kdr dgX3_no_0 0 4 rfl rfl) ?_
  refine va_put (D := (dC, dI)) (ci := 5) (v := .int (mre + 1)) (ty := .int) (C := RX3) (T := TX3) (N := 14) hx hb hts hiX3 tyX3 tyX3_ok nmX3 hown hK hP hD hS 0 rfl rfl 11 (by decide) hw0 (fun _ h9 => h9) rfl (by decide +kernel) rfl rfl (Nat.le_of_ble_eq_true rfl) (kdr dgX3_no_0 0 5 rfl rfl) (fun H locs hP hD hS => ?_)
  have hP : va_P (dC, dI) vwCl (wMo cJ cZ b mce mfr mun mbe men mov msp mwb mwe mwi mac (mre + 1) mkn mth) H := hP
  have hD : va_D A (wMo cJ cZ b mce mfr mun mbe men mov msp mwb mwe mwi mac (mre + 1) mkn mth) := hD
  refine lv_bipush (v := (-9)) hx hb (kdr dgX3_no_0 0 6 rfl rfl) (by decide) ?_
  have h := Option.some.inj h
  subst h
  exact kret_i (v := (-9)) hx hb hr rfl hlocks hS hP (kdr dgX3_no_0 0 7 rfl rfl)
noncomputable abbrev wsX3_set : List Cond := kWs yX3_set cX3_set 6 (some .int)
noncomputable def f_X3_set_42 (mce : Nat → Int64) (mac : Int32) (mre : Int32) (x1 : Int32) (x2 : Int32) (x3 : Int32) (y0 : Int32) (y1 : Int32) : Option ((Int32) × (Nat → Int64) × (Int32) × (Int32) × (Int32)) :=
  (f_X3_isThrown y1 y0).bind fun r1 =>
  if r1.1 = 0 then
    (f_X3_isLet ((x2.toInt64 * 1000000000) + x3.toInt64)).bind fun r3 =>
    if r3 = 0 then
      (f_X3_no mre).bind fun r5 =>
      some (r5.1, mce, mac, r5.2, r1.2)
    else
      if ix x1 4 then
        (f_X3_secondOf ((x2.toInt64 * 1000000000) + x3.toInt64)).bind fun r6 =>
        (f_X3_done mac (r6 - x2)).bind fun r7 =>
        some (r7.1, vp_updL mce x1.toNatClampNeg ((x2.toInt64 * 1000000000) + x3.toInt64), r7.2, mre, r1.2)
      else none
  else
    some (0, mce, mac, mre, r1.2)
theorem f_X3_set_42_e {mce : Nat → Int64} {mac : Int32} {mre : Int32} {x1 : Int32} {x2 : Int32} {x3 : Int32} {y0 : Int32} {y1 : Int32} : f_X3_set_42 mce mac mre x1 x2 x3 y0 y1 =
  (f_X3_isThrown y1 y0).bind fun r1 =>
  if r1.1 = 0 then
    (f_X3_isLet ((x2.toInt64 * 1000000000) + x3.toInt64)).bind fun r3 =>
    if r3 = 0 then
      (f_X3_no mre).bind fun r5 =>
      some (r5.1, mce, mac, r5.2, r1.2)
    else
      if ix x1 4 then
        (f_X3_secondOf ((x2.toInt64 * 1000000000) + x3.toInt64)).bind fun r6 =>
        (f_X3_done mac (r6 - x2)).bind fun r7 =>
        some (r7.1, vp_updL mce x1.toNatClampNeg ((x2.toInt64 * 1000000000) + x3.toInt64), r7.2, mre, r1.2)
      else none
  else
    some (0, mce, mac, mre, r1.2) := rfl
noncomputable def f_X3_set_37 (mce : Nat → Int64) (mac : Int32) (mre : Int32) (x1 : Int32) (x2 : Int32) (x3 : Int32) (y0 : Int32) : Option ((Int32) × (Nat → Int64) × (Int32) × (Int32) × (Int32)) :=
  f_X3_set_42 mce mac mre x1 x2 x3 1 y0
theorem f_X3_set_37_e {mce : Nat → Int64} {mac : Int32} {mre : Int32} {x1 : Int32} {x2 : Int32} {x3 : Int32} {y0 : Int32} : f_X3_set_37 mce mac mre x1 x2 x3 y0 =
  f_X3_set_42 mce mac mre x1 x2 x3 1 y0 := rfl
noncomputable def f_X3_set_13 (mce : Nat → Int64) (mac : Int32) (mre : Int32) (x1 : Int32) (x2 : Int32) (x3 : Int32) (y0 : Int32) : Option ((Int32) × (Nat → Int64) × (Int32) × (Int32) × (Int32)) :=
  if x2 < (-1000000000) then
    f_X3_set_37 mce mac mre x1 x2 x3 y0
  else
    if 1000000000 < x2 then
      f_X3_set_37 mce mac mre x1 x2 x3 y0
    else
      if x3 < (-2000000000) then
        f_X3_set_37 mce mac mre x1 x2 x3 y0
      else
        if x3 ≤ 2000000000 then
          f_X3_set_42 mce mac mre x1 x2 x3 0 y0
        else
          f_X3_set_37 mce mac mre x1 x2 x3 y0
theorem f_X3_set_13_e {mce : Nat → Int64} {mac : Int32} {mre : Int32} {x1 : Int32} {x2 : Int32} {x3 : Int32} {y0 : Int32} : f_X3_set_13 mce mac mre x1 x2 x3 y0 =
  if x2 < (-1000000000) then
    f_X3_set_37 mce mac mre x1 x2 x3 y0
  else
    if 1000000000 < x2 then
      f_X3_set_37 mce mac mre x1 x2 x3 y0
    else
      if x3 < (-2000000000) then
        f_X3_set_37 mce mac mre x1 x2 x3 y0
      else
        if x3 ≤ 2000000000 then
          f_X3_set_42 mce mac mre x1 x2 x3 0 y0
        else
          f_X3_set_37 mce mac mre x1 x2 x3 y0 := rfl
noncomputable def f_X3_set (mce : Nat → Int64) (mac : Int32) (mre : Int32) (p0 : Int32) (p1 : Int32) (p2 : Int32) : Option ((Int32) × (Nat → Int64) × (Int32) × (Int32) × (Int32)) :=
  (f_X3_is p0).bind fun r1 =>
  if r1 = 0 then
    f_X3_set_13 mce mac mre p0 p1 p2 1
  else
    f_X3_set_13 mce mac mre p0 p1 p2 0
theorem f_X3_set_e {mce : Nat → Int64} {mac : Int32} {mre : Int32} {p0 : Int32} {p1 : Int32} {p2 : Int32} : f_X3_set mce mac mre p0 p1 p2 = 
  (f_X3_is p0).bind fun r1 =>
  if r1 = 0 then
    f_X3_set_13 mce mac mre p0 p1 p2 1
  else
    f_X3_set_13 mce mac mre p0 p1 p2 0 := rfl
set_option maxHeartbeats 4000000 in
set_option maxRecDepth 100000 in
theorem c_X3_set (l : Launch) (dC : Nat → ClassId) (dI : Nat → Nat → Nat) (cB cI cJ cZ : ClassId) (b : Nat → Nat) (sz : Nat) (mce : Nat → Int64) (mfr : Int64) (mun : Int64) (mbe : Nat → Int64) (men : Nat → Int64) (mov : Nat → Int32) (msp : Int32) (mwb : Nat → Int64) (mwe : Nat → Int64) (mwi : Int32) (mac : Int32) (mre : Int32) (mkn : Int32) (mth : Int32) (p0 : Int32) (p1 : Int32) (p2 : Int32) (res : (Int32) × (Nat → Int64) × (Int32) × (Int32) × (Int32)) (hf : f_X3_set mce mac mre p0 p1 p2 = some res) : kMi l yX3_set wsX3_set (kRm 1 0 0 22) dC dI cB cI cJ cZ [.ref (b 0), .int p0, .int p1, .int p2] sz (wMo cJ cZ b mce mfr mun mbe men mov msp mwb mwe mwi mac mre mkn mth) .int (res.1) (wMo cJ cZ b (res.2.1) mfr mun mbe men mov msp mwb mwe mwi (res.2.2.1) (res.2.2.2.1) mkn (res.2.2.2.2)) 0 0 := by
  refine kmet_i (y := yX3_set) (cc := cX3_set) (maxL := 6) (ret := (some .int)) RX3 (kvA 0 (b 0) (kvI 1 p0 (kvI 2 p1 (kvI 3 p2 kvE)))) kpl_X3 rfl rfl (Nat.le_of_ble_eq_true rfl) rfl (fun p e s m below meth c A ls hx hb hr hml hts hown hlocks hP hK hG hD hA hS hl => ?_)
  have hw0 := hts (.constant RX3 126 (-1000000000)) (List.mem_cons_of_mem _ kw_1122)
  have hw1 := hts (.constantLong RX3 39 (1000000000)) (List.mem_cons_of_mem _ kw_1130)
  have hw2 := hts (.fieldLink RX3 7 "SpanbookerModel" "cells" "[J") (List.mem_cons_of_mem _ kw_1072)
  have hw3 := hts (.constant RX3 127 (1000000000)) (List.mem_cons_of_mem _ kw_1123)
  have hw4 := hts (.constant RX3 111 (-2000000000)) (List.mem_cons_of_mem _ kw_1124)
  have hw5 := hts (.constant RX3 112 (2000000000)) (List.mem_cons_of_mem _ kw_1125)
  have hiX3 : ∀ w ∈ u_ws RX3 TX3 14, w ∈ wsX3_set := fun w h => List.mem_cons_of_mem _ (ku_X3 w h)
  have J42 : ∀ (mce : Nat → Int64) (mfr : Int64) (mun : Int64) (mbe : Nat → Int64) (men : Nat → Int64) (mov : Nat → Int32) (msp : Int32) (mwb : Nat → Int64) (mwe : Nat → Int64) (mwi : Int32) (mac : Int32) (mre : Int32) (mkn : Int32) (mth : Int32) (x1 : Int32) (x2 : Int32) (x3 : Int32) (y0 : Int32) (y1 : Int32) (H : Heap) (locs : List Loc), va_P (dC, dI) vwCl (wMo cJ cZ b mce mfr mun mbe men mov msp mwb mwe mwi mac mre mkn mth) H → va_D A (wMo cJ cZ b mce mfr mun mbe men mov msp mwb mwe mwi mac mre mkn mth) → va_S A s.heap H locs → ∀ (ls : Array Slot), lv_has ls 6 (kvA 0 (b 0) (kvI 1 x1 (kvI 2 x2 (kvI 3 x3 kvE)))) → f_X3_set_42 mce mac mre x1 x2 x3 y0 y1 = some res → W p l e (headSpec wsX3_set (kRm 1 0 0 22)).room s m ([.ref (b 0), .int p0, .int p1, .int p2] : List Value).toArray below meth c H locs 0 0 (MQ below (kI (dC, dI) .int (res.1) (wMo cJ cZ b (res.2.1) mfr mun mbe men mov msp mwb mwe mwi (res.2.2.1) (res.2.2.2.1) mkn (res.2.2.2.2)) A) ([.ref (b 0), .int p0, .int p1, .int p2] : List Value).toArray s 0 0 A) (F0 m 42 ls [.int y0, .int y1, .ref (b 0)]) := by
    intro mce mfr mun mbe men mov msp mwb mwe mwi mac mre mkn mth x1 x2 x3 y0 y1 H locs hP hD hS ls hl h
    have h := f_X3_set_42_e.symm.trans h
    obtain ⟨r1, g1, h⟩ := g_b h
    refine kq_i (wMo cJ cZ b mce mfr mun mbe men mov msp mwb mwe mwi mac mre mkn r1.2) (fun qP qD qF => va_runV (As := [.int y1, .int y0]) (rest := []) ⟨hx, hb, hml, hown, hts⟩ (c_X3_isThrown l dC dI cB cI cJ cZ b _ mce mfr mun mbe men mov msp mwb mwe mwi mac mre mkn mth y1 y0 r1 g1) (kcwV hts kw_1126 kv_X3_isThrown rfl rfl ⟨(Nat.le_of_ble_eq_true rfl), (Nat.le_of_ble_eq_true rfl)⟩) (kpV (A := A) qP hK qD hG (krecv_5 (q0 := 0) hK hP rfl)) rfl rfl hl.1 rfl (lv_room (Nat.le_of_ble_eq_true rfl)) (kdr dgX3_set_0 2 2 rfl rfl) ⟨(Nat.le_of_ble_eq_true rfl), (Nat.le_of_ble_eq_true rfl)⟩) hP hD hS hA kFr_Mo (fun H locs hP hD hS br1 => ?_)
    refine lv_if_eq (tgt := 50) hx hb (kdr dgX3_set_0 2 3 rfl rfl) (by decide) (fun c2 => ?_) (fun c2 => ?_)
    · have h := g_t c2 h
      refine lv_iload_n hx hb (kdr dgX3_set_0 2 6 rfl rfl) rfl (lv_at hl 2 rfl) ?_
      refine lv_i2l (v := x2.toInt64) hx hb (kdr dgX3_set_0 2 7 rfl rfl) rfl ?_
      refine lv_ldc2 (v := (1000000000)) hx hb hown hw1 (kdr dgX3_set_0 2 8 rfl rfl) ?_
      refine lv_lmul hx hb (kdr dgX3_set_0 2 9 rfl rfl) ?_
      refine lv_iload_n hx hb (kdr dgX3_set_0 3 0 rfl rfl) rfl (lv_at hl 3 rfl) ?_
      refine lv_i2l (v := x3.toInt64) hx hb (kdr dgX3_set_0 3 1 rfl rfl) rfl ?_
      refine lv_ladd hx hb (kdr dgX3_set_0 3 2 rfl rfl) ?_
      refine lv_lstore (lv' := (kvJ 4 ((x2.toInt64 * 1000000000) + x3.toInt64) (kvA 0 (b 0) (kvI 1 x1 (kvI 2 x2 (kvI 3 x3 kvE)))))) hx hb (kdr dgX3_set_0 3 3 rfl rfl) hl (by decide) rfl (fun ls hl => ?_)
      refine lv_lload hx hb (kdr dgX3_set_0 3 4 rfl rfl) (lv_at hl 0 rfl) ?_
      obtain ⟨r3, g3, h⟩ := g_b h
      refine kq_i (wMo cJ cZ b mce mfr mun mbe men mov msp mwb mwe mwi mac mre mkn r1.2) (fun qP qD qF => va_runS (As := [.long ((x2.toInt64 * 1000000000) + x3.toInt64)]) (rest := []) ⟨hx, hb, hml, hown, hts⟩ (c_X3_isLet l dC dI cB cI cJ cZ  _  ((x2.toInt64 * 1000000000) + x3.toInt64) r3 g3) (kcwS hts kw_1131 kv_X3_isLet rfl rfl ⟨(Nat.le_of_ble_eq_true rfl), (Nat.le_of_ble_eq_true rfl)⟩) (kpS (A := A) (kPnil) hK ((kDnil (A := A))) hG) rfl rfl hl.1 rfl (lv_room (Nat.le_of_ble_eq_true rfl)) (kdr dgX3_set_0 3 5 rfl rfl) ⟨(Nat.le_of_ble_eq_true rfl), (Nat.le_of_ble_eq_true rfl)⟩) hP hD hS hA kFr_n (fun H locs hP hD hS br3 => ?_)
      refine lv_if_ne (tgt := 74) hx hb (kdr dgX3_set_0 3 6 rfl rfl) (by decide) (fun c4 => ?_) (fun c4 => ?_)
      · have h := g_f c4 h
        refine lv_aload_n hx hb (kdr dgX3_set_0 4 0 rfl rfl) rfl (lv_at hl 1 rfl) ?_
        refine va_get (D := (dC, dI)) (ci := 5) (v := .ref (b 1)) (C := RX3) (T := TX3) (N := 14) hx hb hts hiX3 hown hK hP 0 rfl rfl 0 (by decide) hw2 (fun _ h9 => h9) rfl (kdr dgX3_set_0 4 1 rfl rfl) ?_
        refine lv_iload_n hx hb (kdr dgX3_set_0 4 2 rfl rfl) rfl (lv_at hl 2 rfl) ?_
        refine lv_lload hx hb (kdr dgX3_set_0 4 3 rfl rfl) (lv_at hl 0 rfl) ?_
        obtain ⟨z4, h⟩ := g_if h
        refine va_last hx hb hK hP hD hS 1 2 rfl rfl (ix_in z4) (kdr dgX3_set_0 4 4 rfl rfl) (fun H locs hP hD hS => ?_)
        have hP : va_P (dC, dI) vwCl (wMo cJ cZ b (vp_updL mce x1.toNatClampNeg ((x2.toInt64 * 1000000000) + x3.toInt64)) mfr mun mbe men mov msp mwb mwe mwi mac mre mkn r1.2) H := hP
        have hD : va_D A (wMo cJ cZ b (vp_updL mce x1.toNatClampNeg ((x2.toInt64 * 1000000000) + x3.toInt64)) mfr mun mbe men mov msp mwb mwe mwi mac mre mkn r1.2) := hD
        refine lv_aload_n hx hb (kdr dgX3_set_0 4 5 rfl rfl) rfl (lv_at hl 1 rfl) ?_
        refine lv_lload hx hb (kdr dgX3_set_0 4 6 rfl rfl) (lv_at hl 0 rfl) ?_
        obtain ⟨r6, g6, h⟩ := g_b h
        refine kq_i (wMo cJ cZ b (vp_updL mce x1.toNatClampNeg ((x2.toInt64 * 1000000000) + x3.toInt64)) mfr mun mbe men mov msp mwb mwe mwi mac mre mkn r1.2) (fun qP qD qF => va_runS (As := [.long ((x2.toInt64 * 1000000000) + x3.toInt64)]) (rest := [.ref (b 0)]) ⟨hx, hb, hml, hown, hts⟩ (c_X3_secondOf l dC dI cB cI cJ cZ  _  ((x2.toInt64 * 1000000000) + x3.toInt64) r6 g6) (kcwS hts kw_1140 kv_X3_secondOf rfl rfl ⟨(Nat.le_of_ble_eq_true rfl), (Nat.le_of_ble_eq_true rfl)⟩) (kpS (A := A) (kPnil) hK ((kDnil (A := A))) hG) rfl rfl hl.1 rfl (lv_room (Nat.le_of_ble_eq_true rfl)) (kdr dgX3_set_0 4 7 rfl rfl) ⟨(Nat.le_of_ble_eq_true rfl), (Nat.le_of_ble_eq_true rfl)⟩) hP hD hS hA kFr_n (fun H locs hP hD hS br6 => ?_)
        refine lv_iload_n hx hb (kdr dgX3_set_0 4 8 rfl rfl) rfl (lv_at hl 3 rfl) ?_
        refine lv_isub hx hb (kdr dgX3_set_0 4 9 rfl rfl) ?_
        obtain ⟨r7, g7, h⟩ := g_b h
        refine kq_i (wMo cJ cZ b (vp_updL mce x1.toNatClampNeg ((x2.toInt64 * 1000000000) + x3.toInt64)) mfr mun mbe men mov msp mwb mwe mwi r7.2 mre mkn r1.2) (fun qP qD qF => va_runV (As := [.int (r6 - x2)]) (rest := []) ⟨hx, hb, hml, hown, hts⟩ (c_X3_done l dC dI cB cI cJ cZ b _ (vp_updL mce x1.toNatClampNeg ((x2.toInt64 * 1000000000) + x3.toInt64)) mfr mun mbe men mov msp mwb mwe mwi mac mre mkn r1.2 (r6 - x2) r7 g7) (kcwV hts kw_1144 kv_X3_done rfl rfl ⟨(Nat.le_of_ble_eq_true rfl), (Nat.le_of_ble_eq_true rfl)⟩) (kpV (A := A) qP hK qD hG (krecv_5 (q0 := 0) hK hP rfl)) rfl rfl hl.1 rfl (lv_room (Nat.le_of_ble_eq_true rfl)) (kdr dgX3_set_0 5 0 rfl rfl) ⟨(Nat.le_of_ble_eq_true rfl), (Nat.le_of_ble_eq_true rfl)⟩) hP hD hS hA kFr_Mo (fun H locs hP hD hS br7 => ?_)
        have h := Option.some.inj h
        subst h
        exact kret_i (v := r7.1) hx hb hr rfl hlocks hS hP (kdr dgX3_set_0 5 1 rfl rfl)
      · have h := g_t c4 h
        refine lv_aload_n hx hb (kdr dgX3_set_0 3 7 rfl rfl) rfl (lv_at hl 1 rfl) ?_
        obtain ⟨r5, g5, h⟩ := g_b h
        refine kq_i (wMo cJ cZ b mce mfr mun mbe men mov msp mwb mwe mwi mac r5.2 mkn r1.2) (fun qP qD qF => va_runV (As := []) (rest := []) ⟨hx, hb, hml, hown, hts⟩ (c_X3_no l dC dI cB cI cJ cZ b _ mce mfr mun mbe men mov msp mwb mwe mwi mac mre mkn r1.2  r5 g5) (kcwV hts kw_1136 kv_X3_no rfl rfl ⟨(Nat.le_of_ble_eq_true rfl), (Nat.le_of_ble_eq_true rfl)⟩) (kpV (A := A) qP hK qD hG (krecv_5 (q0 := 0) hK hP rfl)) rfl rfl hl.1 rfl (lv_room (Nat.le_of_ble_eq_true rfl)) (kdr dgX3_set_0 3 8 rfl rfl) ⟨(Nat.le_of_ble_eq_true rfl), (Nat.le_of_ble_eq_true rfl)⟩) hP hD hS hA kFr_Mo (fun H locs hP hD hS br5 => ?_)
        have h := Option.some.inj h
        subst h
        exact kret_i (v := r5.1) hx hb hr rfl hlocks hS hP (kdr dgX3_set_0 3 9 rfl rfl)
    · have h := g_f c2 h
      refine lv_iconst (v := 0) hx hb (kdr dgX3_set_0 2 4 rfl rfl) (by decide) ?_
      have h := Option.some.inj h
      subst h
      exact kret_i (v := 0) hx hb hr rfl hlocks hS hP (kdr dgX3_set_0 2 5 rfl rfl)
  have J37 : ∀ (mce : Nat → Int64) (mfr : Int64) (mun : Int64) (mbe : Nat → Int64) (men : Nat → Int64) (mov : Nat → Int32) (msp : Int32) (mwb : Nat → Int64) (mwe : Nat → Int64) (mwi : Int32) (mac : Int32) (mre : Int32) (mkn : Int32) (mth : Int32) (x1 : Int32) (x2 : Int32) (x3 : Int32) (y0 : Int32) (H : Heap) (locs : List Loc), va_P (dC, dI) vwCl (wMo cJ cZ b mce mfr mun mbe men mov msp mwb mwe mwi mac mre mkn mth) H → va_D A (wMo cJ cZ b mce mfr mun mbe men mov msp mwb mwe mwi mac mre mkn mth) → va_S A s.heap H locs → ∀ (ls : Array Slot), lv_has ls 6 (kvA 0 (b 0) (kvI 1 x1 (kvI 2 x2 (kvI 3 x3 kvE)))) → f_X3_set_37 mce mac mre x1 x2 x3 y0 = some res → W p l e (headSpec wsX3_set (kRm 1 0 0 22)).room s m ([.ref (b 0), .int p0, .int p1, .int p2] : List Value).toArray below meth c H locs 0 0 (MQ below (kI (dC, dI) .int (res.1) (wMo cJ cZ b (res.2.1) mfr mun mbe men mov msp mwb mwe mwi (res.2.2.1) (res.2.2.2.1) mkn (res.2.2.2.2)) A) ([.ref (b 0), .int p0, .int p1, .int p2] : List Value).toArray s 0 0 A) (F0 m 37 ls [.int y0, .ref (b 0)]) := by
    intro mce mfr mun mbe men mov msp mwb mwe mwi mac mre mkn mth x1 x2 x3 y0 H locs hP hD hS ls hl h
    have h := f_X3_set_37_e.symm.trans h
    refine lv_iconst (v := 1) hx hb (kdr dgX3_set_0 1 9 rfl rfl) (by decide) ?_
    refine lv_goto (tgt := 42) hx hb (kdr dgX3_set_0 2 0 rfl rfl) (by decide) ?_
    exact J42 mce mfr mun mbe men mov msp mwb mwe mwi mac mre mkn mth x1 x2 x3 1 y0 _ _ hP hD hS ls (lv_sub hl [0, 1, 2, 3] rfl) h
  have J13 : ∀ (mce : Nat → Int64) (mfr : Int64) (mun : Int64) (mbe : Nat → Int64) (men : Nat → Int64) (mov : Nat → Int32) (msp : Int32) (mwb : Nat → Int64) (mwe : Nat → Int64) (mwi : Int32) (mac : Int32) (mre : Int32) (mkn : Int32) (mth : Int32) (x1 : Int32) (x2 : Int32) (x3 : Int32) (y0 : Int32) (H : Heap) (locs : List Loc), va_P (dC, dI) vwCl (wMo cJ cZ b mce mfr mun mbe men mov msp mwb mwe mwi mac mre mkn mth) H → va_D A (wMo cJ cZ b mce mfr mun mbe men mov msp mwb mwe mwi mac mre mkn mth) → va_S A s.heap H locs → ∀ (ls : Array Slot), lv_has ls 6 (kvA 0 (b 0) (kvI 1 x1 (kvI 2 x2 (kvI 3 x3 kvE)))) → f_X3_set_13 mce mac mre x1 x2 x3 y0 = some res → W p l e (headSpec wsX3_set (kRm 1 0 0 22)).room s m ([.ref (b 0), .int p0, .int p1, .int p2] : List Value).toArray below meth c H locs 0 0 (MQ below (kI (dC, dI) .int (res.1) (wMo cJ cZ b (res.2.1) mfr mun mbe men mov msp mwb mwe mwi (res.2.2.1) (res.2.2.2.1) mkn (res.2.2.2.2)) A) ([.ref (b 0), .int p0, .int p1, .int p2] : List Value).toArray s 0 0 A) (F0 m 13 ls [.int y0, .ref (b 0)]) := by
    intro mce mfr mun mbe men mov msp mwb mwe mwi mac mre mkn mth x1 x2 x3 y0 H locs hP hD hS ls hl h
    have h := f_X3_set_13_e.symm.trans h
    refine lv_iload_n hx hb (kdr dgX3_set_0 0 7 rfl rfl) rfl (lv_at hl 2 rfl) ?_
    refine lv_ldc (v := (-1000000000)) hx hb hown hw0 (kdr dgX3_set_0 0 8 rfl rfl) ?_
    refine lv_icmp_lt (tgt := 37) hx hb (kdr dgX3_set_0 0 9 rfl rfl) (by decide) (fun c1 => ?_) (fun c1 => ?_)
    · have h := g_t c1 h
      exact J37 mce mfr mun mbe men mov msp mwb mwe mwi mac mre mkn mth x1 x2 x3 y0 _ _ hP hD hS ls (lv_sub hl [0, 1, 2, 3] rfl) h
    · have h := g_f c1 h
      refine lv_iload_n hx hb (kdr dgX3_set_0 1 0 rfl rfl) rfl (lv_at hl 2 rfl) ?_
      refine lv_ldc (v := (1000000000)) hx hb hown hw3 (kdr dgX3_set_0 1 1 rfl rfl) ?_
      refine lv_icmp_gt (tgt := 37) hx hb (kdr dgX3_set_0 1 2 rfl rfl) (by decide) (fun c2 => ?_) (fun c2 => ?_)
      · have h := g_t c2 h
        exact J37 mce mfr mun mbe men mov msp mwb mwe mwi mac mre mkn mth x1 x2 x3 y0 _ _ hP hD hS ls (lv_sub hl [0, 1, 2, 3] rfl) h
      · have h := g_f c2 h
        refine lv_iload_n hx hb (kdr dgX3_set_0 1 3 rfl rfl) rfl (lv_at hl 3 rfl) ?_
        refine lv_ldc (v := (-2000000000)) hx hb hown hw4 (kdr dgX3_set_0 1 4 rfl rfl) ?_
        refine lv_icmp_lt (tgt := 37) hx hb (kdr dgX3_set_0 1 5 rfl rfl) (by decide) (fun c3 => ?_) (fun c3 => ?_)
        · have h := g_t c3 h
          exact J37 mce mfr mun mbe men mov msp mwb mwe mwi mac mre mkn mth x1 x2 x3 y0 _ _ hP hD hS ls (lv_sub hl [0, 1, 2, 3] rfl) h
        · have h := g_f c3 h
          refine lv_iload_n hx hb (kdr dgX3_set_0 1 6 rfl rfl) rfl (lv_at hl 3 rfl) ?_
          refine lv_ldc (v := (2000000000)) hx hb hown hw5 (kdr dgX3_set_0 1 7 rfl rfl) ?_
          refine lv_icmp_le (tgt := 41) hx hb (kdr dgX3_set_0 1 8 rfl rfl) (by decide) (fun c4 => ?_) (fun c4 => ?_)
          · have h := g_t c4 h
            refine lv_iconst (v := 0) hx hb (kdr dgX3_set_0 2 1 rfl rfl) (by decide) ?_
            exact J42 mce mfr mun mbe men mov msp mwb mwe mwi mac mre mkn mth x1 x2 x3 0 y0 _ _ hP hD hS ls (lv_sub hl [0, 1, 2, 3] rfl) h
          · have h := g_f c4 h
            exact J37 mce mfr mun mbe men mov msp mwb mwe mwi mac mre mkn mth x1 x2 x3 y0 _ _ hP hD hS ls (lv_sub hl [0, 1, 2, 3] rfl) h
  have h := f_X3_set_e.symm.trans hf
  refine lv_aload_n hx hb (kdr dgX3_set_0 0 0 rfl rfl) rfl (lv_at hl 0 rfl) ?_
  refine lv_iload_n hx hb (kdr dgX3_set_0 0 1 rfl rfl) rfl (lv_at hl 1 rfl) ?_
  obtain ⟨r1, g1, h⟩ := g_b h
  refine kq_i (wMo cJ cZ b mce mfr mun mbe men mov msp mwb mwe mwi mac mre mkn mth) (fun qP qD qF => va_runS (As := [.int p0]) (rest := [.ref (b 0)]) ⟨hx, hb, hml, hown, hts⟩ (c_X3_is l dC dI cB cI cJ cZ  _  p0 r1 g1) (kcwS hts kw_1119 kv_X3_is rfl rfl ⟨(Nat.le_of_ble_eq_true rfl), (Nat.le_of_ble_eq_true rfl)⟩) (kpS (A := A) (kPnil) hK ((kDnil (A := A))) hG) rfl rfl hl.1 rfl (lv_room (Nat.le_of_ble_eq_true rfl)) (kdr dgX3_set_0 0 2 rfl rfl) ⟨(Nat.le_of_ble_eq_true rfl), (Nat.le_of_ble_eq_true rfl)⟩) hP hD hS hA kFr_n (fun H locs hP hD hS br1 => ?_)
  refine lv_if_ne (tgt := 12) hx hb (kdr dgX3_set_0 0 3 rfl rfl) (by decide) (fun c2 => ?_) (fun c2 => ?_)
  · have h := g_f c2 h
    refine lv_iconst (v := 0) hx hb (kdr dgX3_set_0 0 6 rfl rfl) (by decide) ?_
    exact J13 mce mfr mun mbe men mov msp mwb mwe mwi mac mre mkn mth p0 p1 p2 0 _ _ hP hD hS ls (lv_sub hl [0, 1, 2, 3] rfl) h
  · have h := g_t c2 h
    refine lv_iconst (v := 1) hx hb (kdr dgX3_set_0 0 4 rfl rfl) (by decide) ?_
    refine lv_goto (tgt := 13) hx hb (kdr dgX3_set_0 0 5 rfl rfl) (by decide) ?_
    exact J13 mce mfr mun mbe men mov msp mwb mwe mwi mac mre mkn mth p0 p1 p2 1 _ _ hP hD hS ls (lv_sub hl [0, 1, 2, 3] rfl) h
noncomputable abbrev wsX3_go : List Cond := kWs yX3_go cX3_go 7 (some .int)
noncomputable def f_X3_go_45 (mce : Nat → Int64) (mac : Int32) (mre : Int32) (mth : Int32) (x1 : Int32) (y0 : Int64) : Option ((Int32) × (Nat → Int64) × (Int32) × (Int32) × (Int32)) :=
  if ix x1 4 then
    (f_X3_isLet ((mce x1.toNatClampNeg) + y0)).bind fun r2 =>
    if r2 = 0 then
      (f_X3_no mre).bind fun r4 =>
      some (r4.1, mce, mac, r4.2, mth)
    else
      (f_X3_sign y0).bind fun r4 =>
      (f_X3_done mac r4).bind fun r5 =>
      some (r5.1, vp_updL mce x1.toNatClampNeg ((mce x1.toNatClampNeg) + y0), r5.2, mre, mth)
  else none
theorem f_X3_go_45_e {mce : Nat → Int64} {mac : Int32} {mre : Int32} {mth : Int32} {x1 : Int32} {y0 : Int64} : f_X3_go_45 mce mac mre mth x1 y0 =
  if ix x1 4 then
    (f_X3_isLet ((mce x1.toNatClampNeg) + y0)).bind fun r2 =>
    if r2 = 0 then
      (f_X3_no mre).bind fun r4 =>
      some (r4.1, mce, mac, r4.2, mth)
    else
      (f_X3_sign y0).bind fun r4 =>
      (f_X3_done mac r4).bind fun r5 =>
      some (r5.1, vp_updL mce x1.toNatClampNeg ((mce x1.toNatClampNeg) + y0), r5.2, mre, mth)
  else none := rfl
noncomputable def f_X3_go_13 (mce : Nat → Int64) (mac : Int32) (mre : Int32) (x1 : Int32) (x2 : Int32) (x3 : Int32) (x4 : Int32) (y0 : Int32) : Option ((Int32) × (Nat → Int64) × (Int32) × (Int32) × (Int32)) :=
  (f_X3_isNoUnit x2 x3).bind fun r1 =>
  (f_X3_isThrown y0 r1).bind fun r2 =>
  if r2.1 = 0 then
    if x4 = 0 then
      (f_X3_units x2 x3).bind fun r5 =>
      f_X3_go_45 mce mac mre r2.2 x1 r5
    else
      (f_X3_units x2 x3).bind fun r5 =>
      f_X3_go_45 mce mac mre r2.2 x1 (-r5)
  else
    some (0, mce, mac, mre, r2.2)
theorem f_X3_go_13_e {mce : Nat → Int64} {mac : Int32} {mre : Int32} {x1 : Int32} {x2 : Int32} {x3 : Int32} {x4 : Int32} {y0 : Int32} : f_X3_go_13 mce mac mre x1 x2 x3 x4 y0 =
  (f_X3_isNoUnit x2 x3).bind fun r1 =>
  (f_X3_isThrown y0 r1).bind fun r2 =>
  if r2.1 = 0 then
    if x4 = 0 then
      (f_X3_units x2 x3).bind fun r5 =>
      f_X3_go_45 mce mac mre r2.2 x1 r5
    else
      (f_X3_units x2 x3).bind fun r5 =>
      f_X3_go_45 mce mac mre r2.2 x1 (-r5)
  else
    some (0, mce, mac, mre, r2.2) := rfl
noncomputable def f_X3_go (mce : Nat → Int64) (mac : Int32) (mre : Int32) (p0 : Int32) (p1 : Int32) (p2 : Int32) (p3 : Int32) : Option ((Int32) × (Nat → Int64) × (Int32) × (Int32) × (Int32)) :=
  (f_X3_is p0).bind fun r1 =>
  if r1 = 0 then
    f_X3_go_13 mce mac mre p0 p1 p2 p3 1
  else
    f_X3_go_13 mce mac mre p0 p1 p2 p3 0
theorem f_X3_go_e {mce : Nat → Int64} {mac : Int32} {mre : Int32} {p0 : Int32} {p1 : Int32} {p2 : Int32} {p3 : Int32} : f_X3_go mce mac mre p0 p1 p2 p3 = 
  (f_X3_is p0).bind fun r1 =>
  if r1 = 0 then
    f_X3_go_13 mce mac mre p0 p1 p2 p3 1
  else
    f_X3_go_13 mce mac mre p0 p1 p2 p3 0 := rfl
set_option maxHeartbeats 4000000 in
set_option maxRecDepth 100000 in
theorem c_X3_go (l : Launch) (dC : Nat → ClassId) (dI : Nat → Nat → Nat) (cB cI cJ cZ : ClassId) (b : Nat → Nat) (sz : Nat) (mce : Nat → Int64) (mfr : Int64) (mun : Int64) (mbe : Nat → Int64) (men : Nat → Int64) (mov : Nat → Int32) (msp : Int32) (mwb : Nat → Int64) (mwe : Nat → Int64) (mwi : Int32) (mac : Int32) (mre : Int32) (mkn : Int32) (mth : Int32) (p0 : Int32) (p1 : Int32) (p2 : Int32) (p3 : Int32) (res : (Int32) × (Nat → Int64) × (Int32) × (Int32) × (Int32)) (hf : f_X3_go mce mac mre p0 p1 p2 p3 = some res) : kMi l yX3_go wsX3_go (kRm 1 0 0 22) dC dI cB cI cJ cZ [.ref (b 0), .int p0, .int p1, .int p2, .int p3] sz (wMo cJ cZ b mce mfr mun mbe men mov msp mwb mwe mwi mac mre mkn mth) .int (res.1) (wMo cJ cZ b (res.2.1) mfr mun mbe men mov msp mwb mwe mwi (res.2.2.1) (res.2.2.2.1) mkn (res.2.2.2.2)) 0 0 := by
  refine kmet_i (y := yX3_go) (cc := cX3_go) (maxL := 7) (ret := (some .int)) RX3 (kvA 0 (b 0) (kvI 1 p0 (kvI 2 p1 (kvI 3 p2 (kvI 4 p3 kvE))))) kpl_X3 rfl rfl (Nat.le_of_ble_eq_true rfl) rfl (fun p e s m below meth c A ls hx hb hr hml hts hown hlocks hP hK hG hD hA hS hl => ?_)
  have hw0 := hts (.fieldLink RX3 7 "SpanbookerModel" "cells" "[J") (List.mem_cons_of_mem _ kw_1072)
  have hiX3 : ∀ w ∈ u_ws RX3 TX3 14, w ∈ wsX3_go := fun w h => List.mem_cons_of_mem _ (ku_X3 w h)
  have J45 : ∀ (mce : Nat → Int64) (mfr : Int64) (mun : Int64) (mbe : Nat → Int64) (men : Nat → Int64) (mov : Nat → Int32) (msp : Int32) (mwb : Nat → Int64) (mwe : Nat → Int64) (mwi : Int32) (mac : Int32) (mre : Int32) (mkn : Int32) (mth : Int32) (x1 : Int32) (y0 : Int64) (H : Heap) (locs : List Loc), va_P (dC, dI) vwCl (wMo cJ cZ b mce mfr mun mbe men mov msp mwb mwe mwi mac mre mkn mth) H → va_D A (wMo cJ cZ b mce mfr mun mbe men mov msp mwb mwe mwi mac mre mkn mth) → va_S A s.heap H locs → ∀ (ls : Array Slot), lv_has ls 7 (kvA 0 (b 0) (kvI 1 x1 kvE)) → f_X3_go_45 mce mac mre mth x1 y0 = some res → W p l e (headSpec wsX3_go (kRm 1 0 0 22)).room s m ([.ref (b 0), .int p0, .int p1, .int p2, .int p3] : List Value).toArray below meth c H locs 0 0 (MQ below (kI (dC, dI) .int (res.1) (wMo cJ cZ b (res.2.1) mfr mun mbe men mov msp mwb mwe mwi (res.2.2.1) (res.2.2.2.1) mkn (res.2.2.2.2)) A) ([.ref (b 0), .int p0, .int p1, .int p2, .int p3] : List Value).toArray s 0 0 A) (F0 m 45 ls [.long y0]) := by
    intro mce mfr mun mbe men mov msp mwb mwe mwi mac mre mkn mth x1 y0 H locs hP hD hS ls hl h
    have h := f_X3_go_45_e.symm.trans h
    refine lv_lstore (lv' := (kvJ 5 y0 (kvA 0 (b 0) (kvI 1 x1 kvE)))) hx hb (kdr dgX3_go_0 2 4 rfl rfl) hl (by decide) rfl (fun ls hl => ?_)
    refine lv_aload_n hx hb (kdr dgX3_go_0 2 5 rfl rfl) rfl (lv_at hl 1 rfl) ?_
    refine va_get (D := (dC, dI)) (ci := 5) (v := .ref (b 1)) (C := RX3) (T := TX3) (N := 14) hx hb hts hiX3 hown hK hP 0 rfl rfl 0 (by decide) hw0 (fun _ h9 => h9) rfl (kdr dgX3_go_0 2 6 rfl rfl) ?_
    refine lv_iload_n hx hb (kdr dgX3_go_0 2 7 rfl rfl) rfl (lv_at hl 2 rfl) ?_
    obtain ⟨z0, h⟩ := g_if h
    refine va_lald hx hb hK hP 1 2 rfl rfl (ix_in z0) (kdr dgX3_go_0 2 8 rfl rfl) ?_
    refine lv_lload hx hb (kdr dgX3_go_0 2 9 rfl rfl) (lv_at hl 0 rfl) ?_
    refine lv_ladd hx hb (kdr dgX3_go_0 3 0 rfl rfl) ?_
    obtain ⟨r2, g2, h⟩ := g_b h
    refine kq_i (wMo cJ cZ b mce mfr mun mbe men mov msp mwb mwe mwi mac mre mkn mth) (fun qP qD qF => va_runS (As := [.long ((mce x1.toNatClampNeg) + y0)]) (rest := []) ⟨hx, hb, hml, hown, hts⟩ (c_X3_isLet l dC dI cB cI cJ cZ  _  ((mce x1.toNatClampNeg) + y0) r2 g2) (kcwS hts kw_1131 kv_X3_isLet rfl rfl ⟨(Nat.le_of_ble_eq_true rfl), (Nat.le_of_ble_eq_true rfl)⟩) (kpS (A := A) (kPnil) hK ((kDnil (A := A))) hG) rfl rfl hl.1 rfl (lv_room (Nat.le_of_ble_eq_true rfl)) (kdr dgX3_go_0 3 1 rfl rfl) ⟨(Nat.le_of_ble_eq_true rfl), (Nat.le_of_ble_eq_true rfl)⟩) hP hD hS hA kFr_n (fun H locs hP hD hS br2 => ?_)
    refine lv_if_ne (tgt := 67) hx hb (kdr dgX3_go_0 3 2 rfl rfl) (by decide) (fun c3 => ?_) (fun c3 => ?_)
    · have h := g_f c3 h
      refine lv_aload_n hx hb (kdr dgX3_go_0 3 6 rfl rfl) rfl (lv_at hl 1 rfl) ?_
      refine va_get (D := (dC, dI)) (ci := 5) (v := .ref (b 1)) (C := RX3) (T := TX3) (N := 14) hx hb hts hiX3 hown hK hP 0 rfl rfl 0 (by decide) hw0 (fun _ h9 => h9) rfl (kdr dgX3_go_0 3 7 rfl rfl) ?_
      refine lv_iload_n hx hb (kdr dgX3_go_0 3 8 rfl rfl) rfl (lv_at hl 2 rfl) ?_
      refine lv_dup2_11 hx hb (kdr dgX3_go_0 3 9 rfl rfl) rfl rfl ?_
      refine va_lald hx hb hK hP 1 2 rfl rfl (ix_in z0) (kdr dgX3_go_0 4 0 rfl rfl) ?_
      refine lv_lload hx hb (kdr dgX3_go_0 4 1 rfl rfl) (lv_at hl 0 rfl) ?_
      refine lv_ladd hx hb (kdr dgX3_go_0 4 2 rfl rfl) ?_
      refine va_last hx hb hK hP hD hS 1 2 rfl rfl (ix_in z0) (kdr dgX3_go_0 4 3 rfl rfl) (fun H locs hP hD hS => ?_)
      have hP : va_P (dC, dI) vwCl (wMo cJ cZ b (vp_updL mce x1.toNatClampNeg ((mce x1.toNatClampNeg) + y0)) mfr mun mbe men mov msp mwb mwe mwi mac mre mkn mth) H := hP
      have hD : va_D A (wMo cJ cZ b (vp_updL mce x1.toNatClampNeg ((mce x1.toNatClampNeg) + y0)) mfr mun mbe men mov msp mwb mwe mwi mac mre mkn mth) := hD
      refine lv_aload_n hx hb (kdr dgX3_go_0 4 4 rfl rfl) rfl (lv_at hl 1 rfl) ?_
      refine lv_lload hx hb (kdr dgX3_go_0 4 5 rfl rfl) (lv_at hl 0 rfl) ?_
      obtain ⟨r4, g4, h⟩ := g_b h
      refine kq_i (wMo cJ cZ b (vp_updL mce x1.toNatClampNeg ((mce x1.toNatClampNeg) + y0)) mfr mun mbe men mov msp mwb mwe mwi mac mre mkn mth) (fun qP qD qF => va_runS (As := [.long y0]) (rest := [.ref (b 0)]) ⟨hx, hb, hml, hown, hts⟩ (c_X3_sign l dC dI cB cI cJ cZ  _  y0 r4 g4) (kcwS hts kw_1159 kv_X3_sign rfl rfl ⟨(Nat.le_of_ble_eq_true rfl), (Nat.le_of_ble_eq_true rfl)⟩) (kpS (A := A) (kPnil) hK ((kDnil (A := A))) hG) rfl rfl hl.1 rfl (lv_room (Nat.le_of_ble_eq_true rfl)) (kdr dgX3_go_0 4 6 rfl rfl) ⟨(Nat.le_of_ble_eq_true rfl), (Nat.le_of_ble_eq_true rfl)⟩) hP hD hS hA kFr_n (fun H locs hP hD hS br4 => ?_)
      obtain ⟨r5, g5, h⟩ := g_b h
      refine kq_i (wMo cJ cZ b (vp_updL mce x1.toNatClampNeg ((mce x1.toNatClampNeg) + y0)) mfr mun mbe men mov msp mwb mwe mwi r5.2 mre mkn mth) (fun qP qD qF => va_runV (As := [.int r4]) (rest := []) ⟨hx, hb, hml, hown, hts⟩ (c_X3_done l dC dI cB cI cJ cZ b _ (vp_updL mce x1.toNatClampNeg ((mce x1.toNatClampNeg) + y0)) mfr mun mbe men mov msp mwb mwe mwi mac mre mkn mth r4 r5 g5) (kcwV hts kw_1144 kv_X3_done rfl rfl ⟨(Nat.le_of_ble_eq_true rfl), (Nat.le_of_ble_eq_true rfl)⟩) (kpV (A := A) qP hK qD hG (krecv_5 (q0 := 0) hK hP rfl)) rfl rfl hl.1 rfl (lv_room (Nat.le_of_ble_eq_true rfl)) (kdr dgX3_go_0 4 7 rfl rfl) ⟨(Nat.le_of_ble_eq_true rfl), (Nat.le_of_ble_eq_true rfl)⟩) hP hD hS hA kFr_Mo (fun H locs hP hD hS br5 => ?_)
      have h := Option.some.inj h
      subst h
      exact kret_i (v := r5.1) hx hb hr rfl hlocks hS hP (kdr dgX3_go_0 4 8 rfl rfl)
    · have h := g_t c3 h
      refine lv_aload_n hx hb (kdr dgX3_go_0 3 3 rfl rfl) rfl (lv_at hl 1 rfl) ?_
      obtain ⟨r4, g4, h⟩ := g_b h
      refine kq_i (wMo cJ cZ b mce mfr mun mbe men mov msp mwb mwe mwi mac r4.2 mkn mth) (fun qP qD qF => va_runV (As := []) (rest := []) ⟨hx, hb, hml, hown, hts⟩ (c_X3_no l dC dI cB cI cJ cZ b _ mce mfr mun mbe men mov msp mwb mwe mwi mac mre mkn mth  r4 g4) (kcwV hts kw_1136 kv_X3_no rfl rfl ⟨(Nat.le_of_ble_eq_true rfl), (Nat.le_of_ble_eq_true rfl)⟩) (kpV (A := A) qP hK qD hG (krecv_5 (q0 := 0) hK hP rfl)) rfl rfl hl.1 rfl (lv_room (Nat.le_of_ble_eq_true rfl)) (kdr dgX3_go_0 3 4 rfl rfl) ⟨(Nat.le_of_ble_eq_true rfl), (Nat.le_of_ble_eq_true rfl)⟩) hP hD hS hA kFr_Mo (fun H locs hP hD hS br4 => ?_)
      have h := Option.some.inj h
      subst h
      exact kret_i (v := r4.1) hx hb hr rfl hlocks hS hP (kdr dgX3_go_0 3 5 rfl rfl)
  have J13 : ∀ (mce : Nat → Int64) (mfr : Int64) (mun : Int64) (mbe : Nat → Int64) (men : Nat → Int64) (mov : Nat → Int32) (msp : Int32) (mwb : Nat → Int64) (mwe : Nat → Int64) (mwi : Int32) (mac : Int32) (mre : Int32) (mkn : Int32) (mth : Int32) (x1 : Int32) (x2 : Int32) (x3 : Int32) (x4 : Int32) (y0 : Int32) (H : Heap) (locs : List Loc), va_P (dC, dI) vwCl (wMo cJ cZ b mce mfr mun mbe men mov msp mwb mwe mwi mac mre mkn mth) H → va_D A (wMo cJ cZ b mce mfr mun mbe men mov msp mwb mwe mwi mac mre mkn mth) → va_S A s.heap H locs → ∀ (ls : Array Slot), lv_has ls 7 (kvA 0 (b 0) (kvI 1 x1 (kvI 2 x2 (kvI 3 x3 (kvI 4 x4 kvE))))) → f_X3_go_13 mce mac mre x1 x2 x3 x4 y0 = some res → W p l e (headSpec wsX3_go (kRm 1 0 0 22)).room s m ([.ref (b 0), .int p0, .int p1, .int p2, .int p3] : List Value).toArray below meth c H locs 0 0 (MQ below (kI (dC, dI) .int (res.1) (wMo cJ cZ b (res.2.1) mfr mun mbe men mov msp mwb mwe mwi (res.2.2.1) (res.2.2.2.1) mkn (res.2.2.2.2)) A) ([.ref (b 0), .int p0, .int p1, .int p2, .int p3] : List Value).toArray s 0 0 A) (F0 m 13 ls [.int y0, .ref (b 0)]) := by
    intro mce mfr mun mbe men mov msp mwb mwe mwi mac mre mkn mth x1 x2 x3 x4 y0 H locs hP hD hS ls hl h
    have h := f_X3_go_13_e.symm.trans h
    refine lv_iload_n hx hb (kdr dgX3_go_0 0 7 rfl rfl) rfl (lv_at hl 2 rfl) ?_
    refine lv_iload_n hx hb (kdr dgX3_go_0 0 8 rfl rfl) rfl (lv_at hl 3 rfl) ?_
    obtain ⟨r1, g1, h⟩ := g_b h
    refine kq_i (wMo cJ cZ b mce mfr mun mbe men mov msp mwb mwe mwi mac mre mkn mth) (fun qP qD qF => va_runS (As := [.int x2, .int x3]) (rest := [.int y0, .ref (b 0)]) ⟨hx, hb, hml, hown, hts⟩ (c_X3_isNoUnit l dC dI cB cI cJ cZ  _  x2 x3 r1 g1) (kcwS hts kw_1152 kv_X3_isNoUnit rfl rfl ⟨(Nat.le_of_ble_eq_true rfl), (Nat.le_of_ble_eq_true rfl)⟩) (kpS (A := A) (kPnil) hK ((kDnil (A := A))) hG) rfl rfl hl.1 rfl (lv_room (Nat.le_of_ble_eq_true rfl)) (kdr dgX3_go_0 0 9 rfl rfl) ⟨(Nat.le_of_ble_eq_true rfl), (Nat.le_of_ble_eq_true rfl)⟩) hP hD hS hA kFr_n (fun H locs hP hD hS br1 => ?_)
    obtain ⟨r2, g2, h⟩ := g_b h
    refine kq_i (wMo cJ cZ b mce mfr mun mbe men mov msp mwb mwe mwi mac mre mkn r2.2) (fun qP qD qF => va_runV (As := [.int y0, .int r1]) (rest := []) ⟨hx, hb, hml, hown, hts⟩ (c_X3_isThrown l dC dI cB cI cJ cZ b _ mce mfr mun mbe men mov msp mwb mwe mwi mac mre mkn mth y0 r1 r2 g2) (kcwV hts kw_1126 kv_X3_isThrown rfl rfl ⟨(Nat.le_of_ble_eq_true rfl), (Nat.le_of_ble_eq_true rfl)⟩) (kpV (A := A) qP hK qD hG (krecv_5 (q0 := 0) hK hP rfl)) rfl rfl hl.1 rfl (lv_room (Nat.le_of_ble_eq_true rfl)) (kdr dgX3_go_0 1 0 rfl rfl) ⟨(Nat.le_of_ble_eq_true rfl), (Nat.le_of_ble_eq_true rfl)⟩) hP hD hS hA kFr_Mo (fun H locs hP hD hS br2 => ?_)
    refine lv_if_eq (tgt := 26) hx hb (kdr dgX3_go_0 1 1 rfl rfl) (by decide) (fun c3 => ?_) (fun c3 => ?_)
    · have h := g_t c3 h
      refine lv_iload hx hb (kdr dgX3_go_0 1 4 rfl rfl) (lv_at hl 4 rfl) ?_
      refine lv_if_eq (tgt := 40) hx hb (kdr dgX3_go_0 1 5 rfl rfl) (by decide) (fun c4 => ?_) (fun c4 => ?_)
      · have h := g_t c4 h
        refine lv_iload_n hx hb (kdr dgX3_go_0 2 1 rfl rfl) rfl (lv_at hl 2 rfl) ?_
        refine lv_iload_n hx hb (kdr dgX3_go_0 2 2 rfl rfl) rfl (lv_at hl 3 rfl) ?_
        obtain ⟨r5, g5, h⟩ := g_b h
        refine kq_l (wMo cJ cZ b mce mfr mun mbe men mov msp mwb mwe mwi mac mre mkn r2.2) (fun qP qD qF => va_runS (As := [.int x2, .int x3]) (rest := []) ⟨hx, hb, hml, hown, hts⟩ (c_X3_units l dC dI cB cI cJ cZ  _  x2 x3 r5 g5) (kcwS hts kw_1155 kv_X3_units rfl rfl ⟨(Nat.le_of_ble_eq_true rfl), (Nat.le_of_ble_eq_true rfl)⟩) (kpS (A := A) (kPnil) hK ((kDnil (A := A))) hG) rfl rfl hl.1 rfl (lv_room (Nat.le_of_ble_eq_true rfl)) (kdr dgX3_go_0 2 3 rfl rfl) ⟨(Nat.le_of_ble_eq_true rfl), (Nat.le_of_ble_eq_true rfl)⟩) hP hD hS hA kFr_n (fun H locs hP hD hS => ?_)
        exact J45 mce mfr mun mbe men mov msp mwb mwe mwi mac mre mkn r2.2 x1 r5 _ _ hP hD hS ls (lv_sub hl [0, 1] rfl) h
      · have h := g_f c4 h
        refine lv_iload_n hx hb (kdr dgX3_go_0 1 6 rfl rfl) rfl (lv_at hl 2 rfl) ?_
        refine lv_iload_n hx hb (kdr dgX3_go_0 1 7 rfl rfl) rfl (lv_at hl 3 rfl) ?_
        obtain ⟨r5, g5, h⟩ := g_b h
        refine kq_l (wMo cJ cZ b mce mfr mun mbe men mov msp mwb mwe mwi mac mre mkn r2.2) (fun qP qD qF => va_runS (As := [.int x2, .int x3]) (rest := []) ⟨hx, hb, hml, hown, hts⟩ (c_X3_units l dC dI cB cI cJ cZ  _  x2 x3 r5 g5) (kcwS hts kw_1155 kv_X3_units rfl rfl ⟨(Nat.le_of_ble_eq_true rfl), (Nat.le_of_ble_eq_true rfl)⟩) (kpS (A := A) (kPnil) hK ((kDnil (A := A))) hG) rfl rfl hl.1 rfl (lv_room (Nat.le_of_ble_eq_true rfl)) (kdr dgX3_go_0 1 8 rfl rfl) ⟨(Nat.le_of_ble_eq_true rfl), (Nat.le_of_ble_eq_true rfl)⟩) hP hD hS hA kFr_n (fun H locs hP hD hS => ?_)
        refine lv_lneg hx hb (kdr dgX3_go_0 1 9 rfl rfl) ?_
        refine lv_goto (tgt := 45) hx hb (kdr dgX3_go_0 2 0 rfl rfl) (by decide) ?_
        exact J45 mce mfr mun mbe men mov msp mwb mwe mwi mac mre mkn r2.2 x1 (-r5) _ _ hP hD hS ls (lv_sub hl [0, 1] rfl) h
    · have h := g_f c3 h
      refine lv_iconst (v := 0) hx hb (kdr dgX3_go_0 1 2 rfl rfl) (by decide) ?_
      have h := Option.some.inj h
      subst h
      exact kret_i (v := 0) hx hb hr rfl hlocks hS hP (kdr dgX3_go_0 1 3 rfl rfl)
  have h := f_X3_go_e.symm.trans hf
  refine lv_aload_n hx hb (kdr dgX3_go_0 0 0 rfl rfl) rfl (lv_at hl 0 rfl) ?_
  refine lv_iload_n hx hb (kdr dgX3_go_0 0 1 rfl rfl) rfl (lv_at hl 1 rfl) ?_
  obtain ⟨r1, g1, h⟩ := g_b h
  refine kq_i (wMo cJ cZ b mce mfr mun mbe men mov msp mwb mwe mwi mac mre mkn mth) (fun qP qD qF => va_runS (As := [.int p0]) (rest := [.ref (b 0)]) ⟨hx, hb, hml, hown, hts⟩ (c_X3_is l dC dI cB cI cJ cZ  _  p0 r1 g1) (kcwS hts kw_1119 kv_X3_is rfl rfl ⟨(Nat.le_of_ble_eq_true rfl), (Nat.le_of_ble_eq_true rfl)⟩) (kpS (A := A) (kPnil) hK ((kDnil (A := A))) hG) rfl rfl hl.1 rfl (lv_room (Nat.le_of_ble_eq_true rfl)) (kdr dgX3_go_0 0 2 rfl rfl) ⟨(Nat.le_of_ble_eq_true rfl), (Nat.le_of_ble_eq_true rfl)⟩) hP hD hS hA kFr_n (fun H locs hP hD hS br1 => ?_)
  refine lv_if_ne (tgt := 12) hx hb (kdr dgX3_go_0 0 3 rfl rfl) (by decide) (fun c2 => ?_) (fun c2 => ?_)
  · have h := g_f c2 h
    refine lv_iconst (v := 0) hx hb (kdr dgX3_go_0 0 6 rfl rfl) (by decide) ?_
    exact J13 mce mfr mun mbe men mov msp mwb mwe mwi mac mre mkn mth p0 p1 p2 p3 0 _ _ hP hD hS ls (lv_sub hl [0, 1, 2, 3, 4] rfl) h
  · have h := g_t c2 h
    refine lv_iconst (v := 1) hx hb (kdr dgX3_go_0 0 4 rfl rfl) (by decide) ?_
    refine lv_goto (tgt := 13) hx hb (kdr dgX3_go_0 0 5 rfl rfl) (by decide) ?_
    exact J13 mce mfr mun mbe men mov msp mwb mwe mwi mac mre mkn mth p0 p1 p2 p3 1 _ _ hP hD hS ls (lv_sub hl [0, 1, 2, 3, 4] rfl) h
noncomputable abbrev wsX3_copy : List Cond := kWs yX3_copy cX3_copy 4 (some .int)
noncomputable def f_X3_copy_72 (mce : Nat → Int64) (mac : Int32) (mth : Int32) (y0 : Int32) : Option ((Int32) × (Nat → Int64) × (Int32) × (Int32)) :=
  (f_X3_done mac y0).bind fun r1 =>
  some (r1.1, mce, r1.2, mth)
theorem f_X3_copy_72_e {mce : Nat → Int64} {mac : Int32} {mth : Int32} {y0 : Int32} : f_X3_copy_72 mce mac mth y0 =
  (f_X3_done mac y0).bind fun r1 =>
  some (r1.1, mce, r1.2, mth) := rfl
noncomputable def f_X3_copy_49 (mce : Nat → Int64) (mac : Int32) (mth : Int32) (x1 : Int32) (x2 : Int32) (y0 : Int32) : Option ((Int32) × (Nat → Int64) × (Int32) × (Int32)) :=
  if ix x1 4 then
    if ix x2 4 then
      if y0 = 0 then
        f_X3_copy_72 (vp_updL mce x2.toNatClampNeg (mce x1.toNatClampNeg)) mac mth 0
      else
        f_X3_copy_72 (vp_updL mce x2.toNatClampNeg (mce x1.toNatClampNeg)) mac mth 1
    else none
  else none
theorem f_X3_copy_49_e {mce : Nat → Int64} {mac : Int32} {mth : Int32} {x1 : Int32} {x2 : Int32} {y0 : Int32} : f_X3_copy_49 mce mac mth x1 x2 y0 =
  if ix x1 4 then
    if ix x2 4 then
      if y0 = 0 then
        f_X3_copy_72 (vp_updL mce x2.toNatClampNeg (mce x1.toNatClampNeg)) mac mth 0
      else
        f_X3_copy_72 (vp_updL mce x2.toNatClampNeg (mce x1.toNatClampNeg)) mac mth 1
    else none
  else none := rfl
noncomputable def f_X3_copy_20 (mce : Nat → Int64) (mac : Int32) (x1 : Int32) (x2 : Int32) (y0 : Int32) : Option ((Int32) × (Nat → Int64) × (Int32) × (Int32)) :=
  (f_X3_isThrown_ y0).bind fun r1 =>
  if r1.1 = 0 then
    if ix x1 4 then
      if ix x2 4 then
        if (mce x1.toNatClampNeg) = (mce x2.toNatClampNeg) then
          f_X3_copy_49 mce mac r1.2 x1 x2 0
        else
          f_X3_copy_49 mce mac r1.2 x1 x2 1
      else none
    else none
  else
    some (0, mce, mac, r1.2)
theorem f_X3_copy_20_e {mce : Nat → Int64} {mac : Int32} {x1 : Int32} {x2 : Int32} {y0 : Int32} : f_X3_copy_20 mce mac x1 x2 y0 =
  (f_X3_isThrown_ y0).bind fun r1 =>
  if r1.1 = 0 then
    if ix x1 4 then
      if ix x2 4 then
        if (mce x1.toNatClampNeg) = (mce x2.toNatClampNeg) then
          f_X3_copy_49 mce mac r1.2 x1 x2 0
        else
          f_X3_copy_49 mce mac r1.2 x1 x2 1
      else none
    else none
  else
    some (0, mce, mac, r1.2) := rfl
noncomputable def f_X3_copy_15 (mce : Nat → Int64) (mac : Int32) (x1 : Int32) (x2 : Int32) : Option ((Int32) × (Nat → Int64) × (Int32) × (Int32)) :=
  f_X3_copy_20 mce mac x1 x2 1
theorem f_X3_copy_15_e {mce : Nat → Int64} {mac : Int32} {x1 : Int32} {x2 : Int32} : f_X3_copy_15 mce mac x1 x2 =
  f_X3_copy_20 mce mac x1 x2 1 := rfl
noncomputable def f_X3_copy (mce : Nat → Int64) (mac : Int32) (p0 : Int32) (p1 : Int32) : Option ((Int32) × (Nat → Int64) × (Int32) × (Int32)) :=
  (f_X3_is p0).bind fun r1 =>
  if r1 = 0 then
    f_X3_copy_15 mce mac p0 p1
  else
    (f_X3_is p1).bind fun r3 =>
    if r3 = 0 then
      f_X3_copy_15 mce mac p0 p1
    else
      f_X3_copy_20 mce mac p0 p1 0
theorem f_X3_copy_e {mce : Nat → Int64} {mac : Int32} {p0 : Int32} {p1 : Int32} : f_X3_copy mce mac p0 p1 = 
  (f_X3_is p0).bind fun r1 =>
  if r1 = 0 then
    f_X3_copy_15 mce mac p0 p1
  else
    (f_X3_is p1).bind fun r3 =>
    if r3 = 0 then
      f_X3_copy_15 mce mac p0 p1
    else
      f_X3_copy_20 mce mac p0 p1 0 := rfl
set_option maxHeartbeats 4000000 in
set_option maxRecDepth 100000 in
theorem c_X3_copy (l : Launch) (dC : Nat → ClassId) (dI : Nat → Nat → Nat) (cB cI cJ cZ : ClassId) (b : Nat → Nat) (sz : Nat) (mce : Nat → Int64) (mfr : Int64) (mun : Int64) (mbe : Nat → Int64) (men : Nat → Int64) (mov : Nat → Int32) (msp : Int32) (mwb : Nat → Int64) (mwe : Nat → Int64) (mwi : Int32) (mac : Int32) (mre : Int32) (mkn : Int32) (mth : Int32) (p0 : Int32) (p1 : Int32) (res : (Int32) × (Nat → Int64) × (Int32) × (Int32)) (hf : f_X3_copy mce mac p0 p1 = some res) : kMi l yX3_copy wsX3_copy (kRm 2 0 0 43) dC dI cB cI cJ cZ [.ref (b 0), .int p0, .int p1] sz (wMo cJ cZ b mce mfr mun mbe men mov msp mwb mwe mwi mac mre mkn mth) .int (res.1) (wMo cJ cZ b (res.2.1) mfr mun mbe men mov msp mwb mwe mwi (res.2.2.1) mre mkn (res.2.2.2)) 0 0 := by
  refine kmet_i (y := yX3_copy) (cc := cX3_copy) (maxL := 4) (ret := (some .int)) RX3 (kvA 0 (b 0) (kvI 1 p0 (kvI 2 p1 kvE))) kpl_X3 rfl rfl (Nat.le_of_ble_eq_true rfl) rfl (fun p e s m below meth c A ls hx hb hr hml hts hown hlocks hP hK hG hD hA hS hl => ?_)
  have hw0 := hts (.fieldLink RX3 7 "SpanbookerModel" "cells" "[J") (List.mem_cons_of_mem _ kw_1072)
  have hiX3 : ∀ w ∈ u_ws RX3 TX3 14, w ∈ wsX3_copy := fun w h => List.mem_cons_of_mem _ (ku_X3 w h)
  have J72 : ∀ (mce : Nat → Int64) (mfr : Int64) (mun : Int64) (mbe : Nat → Int64) (men : Nat → Int64) (mov : Nat → Int32) (msp : Int32) (mwb : Nat → Int64) (mwe : Nat → Int64) (mwi : Int32) (mac : Int32) (mre : Int32) (mkn : Int32) (mth : Int32) (y0 : Int32) (H : Heap) (locs : List Loc), va_P (dC, dI) vwCl (wMo cJ cZ b mce mfr mun mbe men mov msp mwb mwe mwi mac mre mkn mth) H → va_D A (wMo cJ cZ b mce mfr mun mbe men mov msp mwb mwe mwi mac mre mkn mth) → va_S A s.heap H locs → ∀ (ls : Array Slot), lv_has ls 4 kvE → f_X3_copy_72 mce mac mth y0 = some res → W p l e (headSpec wsX3_copy (kRm 2 0 0 43)).room s m ([.ref (b 0), .int p0, .int p1] : List Value).toArray below meth c H locs 0 0 (MQ below (kI (dC, dI) .int (res.1) (wMo cJ cZ b (res.2.1) mfr mun mbe men mov msp mwb mwe mwi (res.2.2.1) mre mkn (res.2.2.2)) A) ([.ref (b 0), .int p0, .int p1] : List Value).toArray s 0 0 A) (F0 m 72 ls [.int y0, .ref (b 0)]) := by
    intro mce mfr mun mbe men mov msp mwb mwe mwi mac mre mkn mth y0 H locs hP hD hS ls hl h
    have h := f_X3_copy_72_e.symm.trans h
    obtain ⟨r1, g1, h⟩ := g_b h
    refine kq_i (wMo cJ cZ b mce mfr mun mbe men mov msp mwb mwe mwi r1.2 mre mkn mth) (fun qP qD qF => va_runV (As := [.int y0]) (rest := []) ⟨hx, hb, hml, hown, hts⟩ (c_X3_done l dC dI cB cI cJ cZ b _ mce mfr mun mbe men mov msp mwb mwe mwi mac mre mkn mth y0 r1 g1) (kcwV hts kw_1144 kv_X3_done rfl rfl ⟨(Nat.le_of_ble_eq_true rfl), (Nat.le_of_ble_eq_true rfl)⟩) (kpV (A := A) qP hK qD hG (krecv_5 (q0 := 0) hK hP rfl)) rfl rfl hl.1 rfl (lv_room (Nat.le_of_ble_eq_true rfl)) (kdr dgX3_copy_0 4 2 rfl rfl) ⟨(Nat.le_of_ble_eq_true rfl), (Nat.le_of_ble_eq_true rfl)⟩) hP hD hS hA kFr_Mo (fun H locs hP hD hS br1 => ?_)
    have h := Option.some.inj h
    subst h
    exact kret_i (v := r1.1) hx hb hr rfl hlocks hS hP (kdr dgX3_copy_0 4 3 rfl rfl)
  have J49 : ∀ (mce : Nat → Int64) (mfr : Int64) (mun : Int64) (mbe : Nat → Int64) (men : Nat → Int64) (mov : Nat → Int32) (msp : Int32) (mwb : Nat → Int64) (mwe : Nat → Int64) (mwi : Int32) (mac : Int32) (mre : Int32) (mkn : Int32) (mth : Int32) (x1 : Int32) (x2 : Int32) (y0 : Int32) (H : Heap) (locs : List Loc), va_P (dC, dI) vwCl (wMo cJ cZ b mce mfr mun mbe men mov msp mwb mwe mwi mac mre mkn mth) H → va_D A (wMo cJ cZ b mce mfr mun mbe men mov msp mwb mwe mwi mac mre mkn mth) → va_S A s.heap H locs → ∀ (ls : Array Slot), lv_has ls 4 (kvA 0 (b 0) (kvI 1 x1 (kvI 2 x2 kvE))) → f_X3_copy_49 mce mac mth x1 x2 y0 = some res → W p l e (headSpec wsX3_copy (kRm 2 0 0 43)).room s m ([.ref (b 0), .int p0, .int p1] : List Value).toArray below meth c H locs 0 0 (MQ below (kI (dC, dI) .int (res.1) (wMo cJ cZ b (res.2.1) mfr mun mbe men mov msp mwb mwe mwi (res.2.2.1) mre mkn (res.2.2.2)) A) ([.ref (b 0), .int p0, .int p1] : List Value).toArray s 0 0 A) (F0 m 49 ls [.int y0]) := by
    intro mce mfr mun mbe men mov msp mwb mwe mwi mac mre mkn mth x1 x2 y0 H locs hP hD hS ls hl h
    have h := f_X3_copy_49_e.symm.trans h
    refine lv_istore_n (lv' := (kvI 3 y0 (kvA 0 (b 0) (kvI 1 x1 (kvI 2 x2 kvE))))) hx hb (kdr dgX3_copy_0 2 7 rfl rfl) rfl hl (by decide) rfl (fun ls hl => ?_)
    refine lv_aload_n hx hb (kdr dgX3_copy_0 2 8 rfl rfl) rfl (lv_at hl 1 rfl) ?_
    refine va_get (D := (dC, dI)) (ci := 5) (v := .ref (b 1)) (C := RX3) (T := TX3) (N := 14) hx hb hts hiX3 hown hK hP 0 rfl rfl 0 (by decide) hw0 (fun _ h9 => h9) rfl (kdr dgX3_copy_0 2 9 rfl rfl) ?_
    refine lv_iload_n hx hb (kdr dgX3_copy_0 3 0 rfl rfl) rfl (lv_at hl 3 rfl) ?_
    refine lv_aload_n hx hb (kdr dgX3_copy_0 3 1 rfl rfl) rfl (lv_at hl 1 rfl) ?_
    refine va_get (D := (dC, dI)) (ci := 5) (v := .ref (b 1)) (C := RX3) (T := TX3) (N := 14) hx hb hts hiX3 hown hK hP 0 rfl rfl 0 (by decide) hw0 (fun _ h9 => h9) rfl (kdr dgX3_copy_0 3 2 rfl rfl) ?_
    refine lv_iload_n hx hb (kdr dgX3_copy_0 3 3 rfl rfl) rfl (lv_at hl 2 rfl) ?_
    obtain ⟨z0, h⟩ := g_if h
    refine va_lald hx hb hK hP 1 2 rfl rfl (ix_in z0) (kdr dgX3_copy_0 3 4 rfl rfl) ?_
    obtain ⟨z1, h⟩ := g_if h
    refine va_last hx hb hK hP hD hS 1 2 rfl rfl (ix_in z1) (kdr dgX3_copy_0 3 5 rfl rfl) (fun H locs hP hD hS => ?_)
    have hP : va_P (dC, dI) vwCl (wMo cJ cZ b (vp_updL mce x2.toNatClampNeg (mce x1.toNatClampNeg)) mfr mun mbe men mov msp mwb mwe mwi mac mre mkn mth) H := hP
    have hD : va_D A (wMo cJ cZ b (vp_updL mce x2.toNatClampNeg (mce x1.toNatClampNeg)) mfr mun mbe men mov msp mwb mwe mwi mac mre mkn mth) := hD
    refine lv_aload_n hx hb (kdr dgX3_copy_0 3 6 rfl rfl) rfl (lv_at hl 1 rfl) ?_
    refine lv_iload_n hx hb (kdr dgX3_copy_0 3 7 rfl rfl) rfl (lv_at hl 0 rfl) ?_
    refine lv_if_eq (tgt := 71) hx hb (kdr dgX3_copy_0 3 8 rfl rfl) (by decide) (fun c3 => ?_) (fun c3 => ?_)
    · have h := g_t c3 h
      refine lv_iconst (v := 0) hx hb (kdr dgX3_copy_0 4 1 rfl rfl) (by decide) ?_
      exact J72 (vp_updL mce x2.toNatClampNeg (mce x1.toNatClampNeg)) mfr mun mbe men mov msp mwb mwe mwi mac mre mkn mth 0 _ _ hP hD hS ls (lv_sub hl [] rfl) h
    · have h := g_f c3 h
      refine lv_iconst (v := 1) hx hb (kdr dgX3_copy_0 3 9 rfl rfl) (by decide) ?_
      refine lv_goto (tgt := 72) hx hb (kdr dgX3_copy_0 4 0 rfl rfl) (by decide) ?_
      exact J72 (vp_updL mce x2.toNatClampNeg (mce x1.toNatClampNeg)) mfr mun mbe men mov msp mwb mwe mwi mac mre mkn mth 1 _ _ hP hD hS ls (lv_sub hl [] rfl) h
  have J20 : ∀ (mce : Nat → Int64) (mfr : Int64) (mun : Int64) (mbe : Nat → Int64) (men : Nat → Int64) (mov : Nat → Int32) (msp : Int32) (mwb : Nat → Int64) (mwe : Nat → Int64) (mwi : Int32) (mac : Int32) (mre : Int32) (mkn : Int32) (mth : Int32) (x1 : Int32) (x2 : Int32) (y0 : Int32) (H : Heap) (locs : List Loc), va_P (dC, dI) vwCl (wMo cJ cZ b mce mfr mun mbe men mov msp mwb mwe mwi mac mre mkn mth) H → va_D A (wMo cJ cZ b mce mfr mun mbe men mov msp mwb mwe mwi mac mre mkn mth) → va_S A s.heap H locs → ∀ (ls : Array Slot), lv_has ls 4 (kvA 0 (b 0) (kvI 1 x1 (kvI 2 x2 kvE))) → f_X3_copy_20 mce mac x1 x2 y0 = some res → W p l e (headSpec wsX3_copy (kRm 2 0 0 43)).room s m ([.ref (b 0), .int p0, .int p1] : List Value).toArray below meth c H locs 0 0 (MQ below (kI (dC, dI) .int (res.1) (wMo cJ cZ b (res.2.1) mfr mun mbe men mov msp mwb mwe mwi (res.2.2.1) mre mkn (res.2.2.2)) A) ([.ref (b 0), .int p0, .int p1] : List Value).toArray s 0 0 A) (F0 m 20 ls [.int y0, .ref (b 0)]) := by
    intro mce mfr mun mbe men mov msp mwb mwe mwi mac mre mkn mth x1 x2 y0 H locs hP hD hS ls hl h
    have h := f_X3_copy_20_e.symm.trans h
    obtain ⟨r1, g1, h⟩ := g_b h
    refine kq_i (wMo cJ cZ b mce mfr mun mbe men mov msp mwb mwe mwi mac mre mkn r1.2) (fun qP qD qF => va_runV (As := [.int y0]) (rest := []) ⟨hx, hb, hml, hown, hts⟩ (c_X3_isThrown_ l dC dI cB cI cJ cZ b _ mce mfr mun mbe men mov msp mwb mwe mwi mac mre mkn mth y0 r1 g1) (kcwV hts kw_1166 kv_X3_isThrown_ rfl rfl ⟨(Nat.le_of_ble_eq_true rfl), (Nat.le_of_ble_eq_true rfl)⟩) (kpV (A := A) qP hK qD hG (krecv_5 (q0 := 0) hK hP rfl)) rfl rfl hl.1 rfl (lv_room (Nat.le_of_ble_eq_true rfl)) (kdr dgX3_copy_0 1 0 rfl rfl) ⟨(Nat.le_of_ble_eq_true rfl), (Nat.le_of_ble_eq_true rfl)⟩) hP hD hS hA kFr_Mo (fun H locs hP hD hS br1 => ?_)
    refine lv_if_eq (tgt := 28) hx hb (kdr dgX3_copy_0 1 1 rfl rfl) (by decide) (fun c2 => ?_) (fun c2 => ?_)
    · have h := g_t c2 h
      refine lv_aload_n hx hb (kdr dgX3_copy_0 1 4 rfl rfl) rfl (lv_at hl 0 rfl) ?_
      refine va_get (D := (dC, dI)) (ci := 5) (v := .ref (b 1)) (C := RX3) (T := TX3) (N := 14) hx hb hts hiX3 hown hK hP 0 rfl rfl 0 (by decide) hw0 (fun _ h9 => h9) rfl (kdr dgX3_copy_0 1 5 rfl rfl) ?_
      refine lv_iload_n hx hb (kdr dgX3_copy_0 1 6 rfl rfl) rfl (lv_at hl 1 rfl) ?_
      obtain ⟨z2, h⟩ := g_if h
      refine va_lald hx hb hK hP 1 2 rfl rfl (ix_in z2) (kdr dgX3_copy_0 1 7 rfl rfl) ?_
      refine lv_aload_n hx hb (kdr dgX3_copy_0 1 8 rfl rfl) rfl (lv_at hl 0 rfl) ?_
      refine va_get (D := (dC, dI)) (ci := 5) (v := .ref (b 1)) (C := RX3) (T := TX3) (N := 14) hx hb hts hiX3 hown hK hP 0 rfl rfl 0 (by decide) hw0 (fun _ h9 => h9) rfl (kdr dgX3_copy_0 1 9 rfl rfl) ?_
      refine lv_iload_n hx hb (kdr dgX3_copy_0 2 0 rfl rfl) rfl (lv_at hl 2 rfl) ?_
      obtain ⟨z3, h⟩ := g_if h
      refine va_lald hx hb hK hP 1 2 rfl rfl (ix_in z3) (kdr dgX3_copy_0 2 1 rfl rfl) ?_
      refine kl_eq (pc := 40) (tgt := 48) hx hb (kdr dgX3_copy_0 2 2 rfl rfl) (kdr dgX3_copy_0 2 3 rfl rfl) (by decide) (fun c5 => ?_) (fun c5 => ?_)
      · have h := g_t c5 h
        refine lv_iconst (v := 0) hx hb (kdr dgX3_copy_0 2 6 rfl rfl) (by decide) ?_
        exact J49 mce mfr mun mbe men mov msp mwb mwe mwi mac mre mkn r1.2 x1 x2 0 _ _ hP hD hS ls (lv_sub hl [0, 1, 2] rfl) h
      · have h := g_f c5 h
        refine lv_iconst (v := 1) hx hb (kdr dgX3_copy_0 2 4 rfl rfl) (by decide) ?_
        refine lv_goto (tgt := 49) hx hb (kdr dgX3_copy_0 2 5 rfl rfl) (by decide) ?_
        exact J49 mce mfr mun mbe men mov msp mwb mwe mwi mac mre mkn r1.2 x1 x2 1 _ _ hP hD hS ls (lv_sub hl [0, 1, 2] rfl) h
    · have h := g_f c2 h
      refine lv_iconst (v := 0) hx hb (kdr dgX3_copy_0 1 2 rfl rfl) (by decide) ?_
      have h := Option.some.inj h
      subst h
      exact kret_i (v := 0) hx hb hr rfl hlocks hS hP (kdr dgX3_copy_0 1 3 rfl rfl)
  have J15 : ∀ (mce : Nat → Int64) (mfr : Int64) (mun : Int64) (mbe : Nat → Int64) (men : Nat → Int64) (mov : Nat → Int32) (msp : Int32) (mwb : Nat → Int64) (mwe : Nat → Int64) (mwi : Int32) (mac : Int32) (mre : Int32) (mkn : Int32) (mth : Int32) (x1 : Int32) (x2 : Int32) (H : Heap) (locs : List Loc), va_P (dC, dI) vwCl (wMo cJ cZ b mce mfr mun mbe men mov msp mwb mwe mwi mac mre mkn mth) H → va_D A (wMo cJ cZ b mce mfr mun mbe men mov msp mwb mwe mwi mac mre mkn mth) → va_S A s.heap H locs → ∀ (ls : Array Slot), lv_has ls 4 (kvA 0 (b 0) (kvI 1 x1 (kvI 2 x2 kvE))) → f_X3_copy_15 mce mac x1 x2 = some res → W p l e (headSpec wsX3_copy (kRm 2 0 0 43)).room s m ([.ref (b 0), .int p0, .int p1] : List Value).toArray below meth c H locs 0 0 (MQ below (kI (dC, dI) .int (res.1) (wMo cJ cZ b (res.2.1) mfr mun mbe men mov msp mwb mwe mwi (res.2.2.1) mre mkn (res.2.2.2)) A) ([.ref (b 0), .int p0, .int p1] : List Value).toArray s 0 0 A) (F0 m 15 ls [.ref (b 0)]) := by
    intro mce mfr mun mbe men mov msp mwb mwe mwi mac mre mkn mth x1 x2 H locs hP hD hS ls hl h
    have h := f_X3_copy_15_e.symm.trans h
    refine lv_iconst (v := 1) hx hb (kdr dgX3_copy_0 0 7 rfl rfl) (by decide) ?_
    refine lv_goto (tgt := 20) hx hb (kdr dgX3_copy_0 0 8 rfl rfl) (by decide) ?_
    exact J20 mce mfr mun mbe men mov msp mwb mwe mwi mac mre mkn mth x1 x2 1 _ _ hP hD hS ls (lv_sub hl [0, 1, 2] rfl) h
  have h := f_X3_copy_e.symm.trans hf
  refine lv_aload_n hx hb (kdr dgX3_copy_0 0 0 rfl rfl) rfl (lv_at hl 0 rfl) ?_
  refine lv_iload_n hx hb (kdr dgX3_copy_0 0 1 rfl rfl) rfl (lv_at hl 1 rfl) ?_
  obtain ⟨r1, g1, h⟩ := g_b h
  refine kq_i (wMo cJ cZ b mce mfr mun mbe men mov msp mwb mwe mwi mac mre mkn mth) (fun qP qD qF => va_runS (As := [.int p0]) (rest := [.ref (b 0)]) ⟨hx, hb, hml, hown, hts⟩ (c_X3_is l dC dI cB cI cJ cZ  _  p0 r1 g1) (kcwS hts kw_1119 kv_X3_is rfl rfl ⟨(Nat.le_of_ble_eq_true rfl), (Nat.le_of_ble_eq_true rfl)⟩) (kpS (A := A) (kPnil) hK ((kDnil (A := A))) hG) rfl rfl hl.1 rfl (lv_room (Nat.le_of_ble_eq_true rfl)) (kdr dgX3_copy_0 0 2 rfl rfl) ⟨(Nat.le_of_ble_eq_true rfl), (Nat.le_of_ble_eq_true rfl)⟩) hP hD hS hA kFr_n (fun H locs hP hD hS br1 => ?_)
  refine lv_if_eq (tgt := 15) hx hb (kdr dgX3_copy_0 0 3 rfl rfl) (by decide) (fun c2 => ?_) (fun c2 => ?_)
  · have h := g_t c2 h
    exact J15 mce mfr mun mbe men mov msp mwb mwe mwi mac mre mkn mth p0 p1 _ _ hP hD hS ls (lv_sub hl [0, 1, 2] rfl) h
  · have h := g_f c2 h
    refine lv_iload_n hx hb (kdr dgX3_copy_0 0 4 rfl rfl) rfl (lv_at hl 2 rfl) ?_
    obtain ⟨r3, g3, h⟩ := g_b h
    refine kq_i (wMo cJ cZ b mce mfr mun mbe men mov msp mwb mwe mwi mac mre mkn mth) (fun qP qD qF => va_runS (As := [.int p1]) (rest := [.ref (b 0)]) ⟨hx, hb, hml, hown, hts⟩ (c_X3_is l dC dI cB cI cJ cZ  _  p1 r3 g3) (kcwS hts kw_1119 kv_X3_is rfl rfl ⟨(Nat.le_of_ble_eq_true rfl), (Nat.le_of_ble_eq_true rfl)⟩) (kpS (A := A) (kPnil) hK ((kDnil (A := A))) hG) rfl rfl hl.1 rfl (lv_room (Nat.le_of_ble_eq_true rfl)) (kdr dgX3_copy_0 0 5 rfl rfl) ⟨(Nat.le_of_ble_eq_true rfl), (Nat.le_of_ble_eq_true rfl)⟩) hP hD hS hA kFr_n (fun H locs hP hD hS br3 => ?_)
    refine lv_if_ne (tgt := 19) hx hb (kdr dgX3_copy_0 0 6 rfl rfl) (by decide) (fun c4 => ?_) (fun c4 => ?_)
    · have h := g_f c4 h
      refine lv_iconst (v := 0) hx hb (kdr dgX3_copy_0 0 9 rfl rfl) (by decide) ?_
      exact J20 mce mfr mun mbe men mov msp mwb mwe mwi mac mre mkn mth p0 p1 0 _ _ hP hD hS ls (lv_sub hl [0, 1, 2] rfl) h
    · have h := g_t c4 h
      exact J15 mce mfr mun mbe men mov msp mwb mwe mwi mac mre mkn mth p0 p1 _ _ hP hD hS ls (lv_sub hl [0, 1, 2] rfl) h
noncomputable abbrev wsX3_swap : List Cond := kWs yX3_swap cX3_swap 5 (some .int)
noncomputable def f_X3_swap_71 (mce : Nat → Int64) (mac : Int32) (mth : Int32) (y0 : Int32) : Option ((Int32) × (Nat → Int64) × (Int32) × (Int32)) :=
  (f_X3_done mac y0).bind fun r1 =>
  some (r1.1, mce, r1.2, mth)
theorem f_X3_swap_71_e {mce : Nat → Int64} {mac : Int32} {mth : Int32} {y0 : Int32} : f_X3_swap_71 mce mac mth y0 =
  (f_X3_done mac y0).bind fun r1 =>
  some (r1.1, mce, r1.2, mth) := rfl
noncomputable def f_X3_swap_20 (mce : Nat → Int64) (mac : Int32) (x1 : Int32) (x2 : Int32) (y0 : Int32) : Option ((Int32) × (Nat → Int64) × (Int32) × (Int32)) :=
  (f_X3_isThrown_ y0).bind fun r1 =>
  if r1.1 = 0 then
    if ix x1 4 then
      if ix x2 4 then
        if ((vp_updL (vp_updL mce x1.toNatClampNeg (mce x2.toNatClampNeg)) x2.toNatClampNeg (mce x1.toNatClampNeg)) x1.toNatClampNeg) = (mce x1.toNatClampNeg) then
          f_X3_swap_71 (vp_updL (vp_updL mce x1.toNatClampNeg (mce x2.toNatClampNeg)) x2.toNatClampNeg (mce x1.toNatClampNeg)) mac r1.2 0
        else
          f_X3_swap_71 (vp_updL (vp_updL mce x1.toNatClampNeg (mce x2.toNatClampNeg)) x2.toNatClampNeg (mce x1.toNatClampNeg)) mac r1.2 1
      else none
    else none
  else
    some (0, mce, mac, r1.2)
theorem f_X3_swap_20_e {mce : Nat → Int64} {mac : Int32} {x1 : Int32} {x2 : Int32} {y0 : Int32} : f_X3_swap_20 mce mac x1 x2 y0 =
  (f_X3_isThrown_ y0).bind fun r1 =>
  if r1.1 = 0 then
    if ix x1 4 then
      if ix x2 4 then
        if ((vp_updL (vp_updL mce x1.toNatClampNeg (mce x2.toNatClampNeg)) x2.toNatClampNeg (mce x1.toNatClampNeg)) x1.toNatClampNeg) = (mce x1.toNatClampNeg) then
          f_X3_swap_71 (vp_updL (vp_updL mce x1.toNatClampNeg (mce x2.toNatClampNeg)) x2.toNatClampNeg (mce x1.toNatClampNeg)) mac r1.2 0
        else
          f_X3_swap_71 (vp_updL (vp_updL mce x1.toNatClampNeg (mce x2.toNatClampNeg)) x2.toNatClampNeg (mce x1.toNatClampNeg)) mac r1.2 1
      else none
    else none
  else
    some (0, mce, mac, r1.2) := rfl
noncomputable def f_X3_swap_15 (mce : Nat → Int64) (mac : Int32) (x1 : Int32) (x2 : Int32) : Option ((Int32) × (Nat → Int64) × (Int32) × (Int32)) :=
  f_X3_swap_20 mce mac x1 x2 1
theorem f_X3_swap_15_e {mce : Nat → Int64} {mac : Int32} {x1 : Int32} {x2 : Int32} : f_X3_swap_15 mce mac x1 x2 =
  f_X3_swap_20 mce mac x1 x2 1 := rfl
noncomputable def f_X3_swap (mce : Nat → Int64) (mac : Int32) (p0 : Int32) (p1 : Int32) : Option ((Int32) × (Nat → Int64) × (Int32) × (Int32)) :=
  (f_X3_is p0).bind fun r1 =>
  if r1 = 0 then
    f_X3_swap_15 mce mac p0 p1
  else
    (f_X3_is p1).bind fun r3 =>
    if r3 = 0 then
      f_X3_swap_15 mce mac p0 p1
    else
      f_X3_swap_20 mce mac p0 p1 0
theorem f_X3_swap_e {mce : Nat → Int64} {mac : Int32} {p0 : Int32} {p1 : Int32} : f_X3_swap mce mac p0 p1 = 
  (f_X3_is p0).bind fun r1 =>
  if r1 = 0 then
    f_X3_swap_15 mce mac p0 p1
  else
    (f_X3_is p1).bind fun r3 =>
    if r3 = 0 then
      f_X3_swap_15 mce mac p0 p1
    else
      f_X3_swap_20 mce mac p0 p1 0 := rfl
set_option maxHeartbeats 4000000 in
set_option maxRecDepth 100000 in
theorem c_X3_swap (l : Launch) (dC : Nat → ClassId) (dI : Nat → Nat → Nat) (cB cI cJ cZ : ClassId) (b : Nat → Nat) (sz : Nat) (mce : Nat → Int64) (mfr : Int64) (mun : Int64) (mbe : Nat → Int64) (men : Nat → Int64) (mov : Nat → Int32) (msp : Int32) (mwb : Nat → Int64) (mwe : Nat → Int64) (mwi : Int32) (mac : Int32) (mre : Int32) (mkn : Int32) (mth : Int32) (p0 : Int32) (p1 : Int32) (res : (Int32) × (Nat → Int64) × (Int32) × (Int32)) (hf : f_X3_swap mce mac p0 p1 = some res) : kMi l yX3_swap wsX3_swap (kRm 2 0 0 43) dC dI cB cI cJ cZ [.ref (b 0), .int p0, .int p1] sz (wMo cJ cZ b mce mfr mun mbe men mov msp mwb mwe mwi mac mre mkn mth) .int (res.1) (wMo cJ cZ b (res.2.1) mfr mun mbe men mov msp mwb mwe mwi (res.2.2.1) mre mkn (res.2.2.2)) 0 0 := by
  refine kmet_i (y := yX3_swap) (cc := cX3_swap) (maxL := 5) (ret := (some .int)) RX3 (kvA 0 (b 0) (kvI 1 p0 (kvI 2 p1 kvE))) kpl_X3 rfl rfl (Nat.le_of_ble_eq_true rfl) rfl (fun p e s m below meth c A ls hx hb hr hml hts hown hlocks hP hK hG hD hA hS hl => ?_)
  have hw0 := hts (.fieldLink RX3 7 "SpanbookerModel" "cells" "[J") (List.mem_cons_of_mem _ kw_1072)
  have hiX3 : ∀ w ∈ u_ws RX3 TX3 14, w ∈ wsX3_swap := fun w h => List.mem_cons_of_mem _ (ku_X3 w h)
  have J71 : ∀ (mce : Nat → Int64) (mfr : Int64) (mun : Int64) (mbe : Nat → Int64) (men : Nat → Int64) (mov : Nat → Int32) (msp : Int32) (mwb : Nat → Int64) (mwe : Nat → Int64) (mwi : Int32) (mac : Int32) (mre : Int32) (mkn : Int32) (mth : Int32) (y0 : Int32) (H : Heap) (locs : List Loc), va_P (dC, dI) vwCl (wMo cJ cZ b mce mfr mun mbe men mov msp mwb mwe mwi mac mre mkn mth) H → va_D A (wMo cJ cZ b mce mfr mun mbe men mov msp mwb mwe mwi mac mre mkn mth) → va_S A s.heap H locs → ∀ (ls : Array Slot), lv_has ls 5 kvE → f_X3_swap_71 mce mac mth y0 = some res → W p l e (headSpec wsX3_swap (kRm 2 0 0 43)).room s m ([.ref (b 0), .int p0, .int p1] : List Value).toArray below meth c H locs 0 0 (MQ below (kI (dC, dI) .int (res.1) (wMo cJ cZ b (res.2.1) mfr mun mbe men mov msp mwb mwe mwi (res.2.2.1) mre mkn (res.2.2.2)) A) ([.ref (b 0), .int p0, .int p1] : List Value).toArray s 0 0 A) (F0 m 71 ls [.int y0, .ref (b 0)]) := by
    intro mce mfr mun mbe men mov msp mwb mwe mwi mac mre mkn mth y0 H locs hP hD hS ls hl h
    have h := f_X3_swap_71_e.symm.trans h
    obtain ⟨r1, g1, h⟩ := g_b h
    refine kq_i (wMo cJ cZ b mce mfr mun mbe men mov msp mwb mwe mwi r1.2 mre mkn mth) (fun qP qD qF => va_runV (As := [.int y0]) (rest := []) ⟨hx, hb, hml, hown, hts⟩ (c_X3_done l dC dI cB cI cJ cZ b _ mce mfr mun mbe men mov msp mwb mwe mwi mac mre mkn mth y0 r1 g1) (kcwV hts kw_1144 kv_X3_done rfl rfl ⟨(Nat.le_of_ble_eq_true rfl), (Nat.le_of_ble_eq_true rfl)⟩) (kpV (A := A) qP hK qD hG (krecv_5 (q0 := 0) hK hP rfl)) rfl rfl hl.1 rfl (lv_room (Nat.le_of_ble_eq_true rfl)) (kdr dgX3_swap_0 4 3 rfl rfl) ⟨(Nat.le_of_ble_eq_true rfl), (Nat.le_of_ble_eq_true rfl)⟩) hP hD hS hA kFr_Mo (fun H locs hP hD hS br1 => ?_)
    have h := Option.some.inj h
    subst h
    exact kret_i (v := r1.1) hx hb hr rfl hlocks hS hP (kdr dgX3_swap_0 4 4 rfl rfl)
  have J20 : ∀ (mce : Nat → Int64) (mfr : Int64) (mun : Int64) (mbe : Nat → Int64) (men : Nat → Int64) (mov : Nat → Int32) (msp : Int32) (mwb : Nat → Int64) (mwe : Nat → Int64) (mwi : Int32) (mac : Int32) (mre : Int32) (mkn : Int32) (mth : Int32) (x1 : Int32) (x2 : Int32) (y0 : Int32) (H : Heap) (locs : List Loc), va_P (dC, dI) vwCl (wMo cJ cZ b mce mfr mun mbe men mov msp mwb mwe mwi mac mre mkn mth) H → va_D A (wMo cJ cZ b mce mfr mun mbe men mov msp mwb mwe mwi mac mre mkn mth) → va_S A s.heap H locs → ∀ (ls : Array Slot), lv_has ls 5 (kvA 0 (b 0) (kvI 1 x1 (kvI 2 x2 kvE))) → f_X3_swap_20 mce mac x1 x2 y0 = some res → W p l e (headSpec wsX3_swap (kRm 2 0 0 43)).room s m ([.ref (b 0), .int p0, .int p1] : List Value).toArray below meth c H locs 0 0 (MQ below (kI (dC, dI) .int (res.1) (wMo cJ cZ b (res.2.1) mfr mun mbe men mov msp mwb mwe mwi (res.2.2.1) mre mkn (res.2.2.2)) A) ([.ref (b 0), .int p0, .int p1] : List Value).toArray s 0 0 A) (F0 m 20 ls [.int y0, .ref (b 0)]) := by
    intro mce mfr mun mbe men mov msp mwb mwe mwi mac mre mkn mth x1 x2 y0 H locs hP hD hS ls hl h
    have h := f_X3_swap_20_e.symm.trans h
    obtain ⟨r1, g1, h⟩ := g_b h
    refine kq_i (wMo cJ cZ b mce mfr mun mbe men mov msp mwb mwe mwi mac mre mkn r1.2) (fun qP qD qF => va_runV (As := [.int y0]) (rest := []) ⟨hx, hb, hml, hown, hts⟩ (c_X3_isThrown_ l dC dI cB cI cJ cZ b _ mce mfr mun mbe men mov msp mwb mwe mwi mac mre mkn mth y0 r1 g1) (kcwV hts kw_1166 kv_X3_isThrown_ rfl rfl ⟨(Nat.le_of_ble_eq_true rfl), (Nat.le_of_ble_eq_true rfl)⟩) (kpV (A := A) qP hK qD hG (krecv_5 (q0 := 0) hK hP rfl)) rfl rfl hl.1 rfl (lv_room (Nat.le_of_ble_eq_true rfl)) (kdr dgX3_swap_0 1 0 rfl rfl) ⟨(Nat.le_of_ble_eq_true rfl), (Nat.le_of_ble_eq_true rfl)⟩) hP hD hS hA kFr_Mo (fun H locs hP hD hS br1 => ?_)
    refine lv_if_eq (tgt := 28) hx hb (kdr dgX3_swap_0 1 1 rfl rfl) (by decide) (fun c2 => ?_) (fun c2 => ?_)
    · have h := g_t c2 h
      refine lv_aload_n hx hb (kdr dgX3_swap_0 1 4 rfl rfl) rfl (lv_at hl 0 rfl) ?_
      refine va_get (D := (dC, dI)) (ci := 5) (v := .ref (b 1)) (C := RX3) (T := TX3) (N := 14) hx hb hts hiX3 hown hK hP 0 rfl rfl 0 (by decide) hw0 (fun _ h9 => h9) rfl (kdr dgX3_swap_0 1 5 rfl rfl) ?_
      refine lv_iload_n hx hb (kdr dgX3_swap_0 1 6 rfl rfl) rfl (lv_at hl 1 rfl) ?_
      obtain ⟨z2, h⟩ := g_if h
      refine va_lald hx hb hK hP 1 2 rfl rfl (ix_in z2) (kdr dgX3_swap_0 1 7 rfl rfl) ?_
      refine lv_lstore_n (lv' := (kvJ 3 (mce x1.toNatClampNeg) (kvA 0 (b 0) (kvI 1 x1 (kvI 2 x2 kvE))))) hx hb (kdr dgX3_swap_0 1 8 rfl rfl) rfl hl (by decide) rfl (fun ls hl => ?_)
      refine lv_aload_n hx hb (kdr dgX3_swap_0 1 9 rfl rfl) rfl (lv_at hl 1 rfl) ?_
      refine va_get (D := (dC, dI)) (ci := 5) (v := .ref (b 1)) (C := RX3) (T := TX3) (N := 14) hx hb hts hiX3 hown hK hP 0 rfl rfl 0 (by decide) hw0 (fun _ h9 => h9) rfl (kdr dgX3_swap_0 2 0 rfl rfl) ?_
      refine lv_iload_n hx hb (kdr dgX3_swap_0 2 1 rfl rfl) rfl (lv_at hl 2 rfl) ?_
      refine lv_aload_n hx hb (kdr dgX3_swap_0 2 2 rfl rfl) rfl (lv_at hl 1 rfl) ?_
      refine va_get (D := (dC, dI)) (ci := 5) (v := .ref (b 1)) (C := RX3) (T := TX3) (N := 14) hx hb hts hiX3 hown hK hP 0 rfl rfl 0 (by decide) hw0 (fun _ h9 => h9) rfl (kdr dgX3_swap_0 2 3 rfl rfl) ?_
      refine lv_iload_n hx hb (kdr dgX3_swap_0 2 4 rfl rfl) rfl (lv_at hl 3 rfl) ?_
      obtain ⟨z3, h⟩ := g_if h
      refine va_lald hx hb hK hP 1 2 rfl rfl (ix_in z3) (kdr dgX3_swap_0 2 5 rfl rfl) ?_
      refine va_last hx hb hK hP hD hS 1 2 rfl rfl (ix_in z2) (kdr dgX3_swap_0 2 6 rfl rfl) (fun H locs hP hD hS => ?_)
      have hP : va_P (dC, dI) vwCl (wMo cJ cZ b (vp_updL mce x1.toNatClampNeg (mce x2.toNatClampNeg)) mfr mun mbe men mov msp mwb mwe mwi mac mre mkn r1.2) H := hP
      have hD : va_D A (wMo cJ cZ b (vp_updL mce x1.toNatClampNeg (mce x2.toNatClampNeg)) mfr mun mbe men mov msp mwb mwe mwi mac mre mkn r1.2) := hD
      refine lv_aload_n hx hb (kdr dgX3_swap_0 2 7 rfl rfl) rfl (lv_at hl 1 rfl) ?_
      refine va_get (D := (dC, dI)) (ci := 5) (v := .ref (b 1)) (C := RX3) (T := TX3) (N := 14) hx hb hts hiX3 hown hK hP 0 rfl rfl 0 (by decide) hw0 (fun _ h9 => h9) rfl (kdr dgX3_swap_0 2 8 rfl rfl) ?_
      refine lv_iload_n hx hb (kdr dgX3_swap_0 2 9 rfl rfl) rfl (lv_at hl 3 rfl) ?_
      refine lv_lload_n hx hb (kdr dgX3_swap_0 3 0 rfl rfl) rfl (lv_at hl 0 rfl) ?_
      refine va_last hx hb hK hP hD hS 1 2 rfl rfl (ix_in z3) (kdr dgX3_swap_0 3 1 rfl rfl) (fun H locs hP hD hS => ?_)
      have hP : va_P (dC, dI) vwCl (wMo cJ cZ b (vp_updL (vp_updL mce x1.toNatClampNeg (mce x2.toNatClampNeg)) x2.toNatClampNeg (mce x1.toNatClampNeg)) mfr mun mbe men mov msp mwb mwe mwi mac mre mkn r1.2) H := hP
      have hD : va_D A (wMo cJ cZ b (vp_updL (vp_updL mce x1.toNatClampNeg (mce x2.toNatClampNeg)) x2.toNatClampNeg (mce x1.toNatClampNeg)) mfr mun mbe men mov msp mwb mwe mwi mac mre mkn r1.2) := hD
      refine lv_aload_n hx hb (kdr dgX3_swap_0 3 2 rfl rfl) rfl (lv_at hl 1 rfl) ?_
      refine lv_aload_n hx hb (kdr dgX3_swap_0 3 3 rfl rfl) rfl (lv_at hl 1 rfl) ?_
      refine va_get (D := (dC, dI)) (ci := 5) (v := .ref (b 1)) (C := RX3) (T := TX3) (N := 14) hx hb hts hiX3 hown hK hP 0 rfl rfl 0 (by decide) hw0 (fun _ h9 => h9) rfl (kdr dgX3_swap_0 3 4 rfl rfl) ?_
      refine lv_iload_n hx hb (kdr dgX3_swap_0 3 5 rfl rfl) rfl (lv_at hl 2 rfl) ?_
      refine va_lald hx hb hK hP 1 2 rfl rfl (ix_in z2) (kdr dgX3_swap_0 3 6 rfl rfl) ?_
      refine lv_lload_n hx hb (kdr dgX3_swap_0 3 7 rfl rfl) rfl (lv_at hl 0 rfl) ?_
      refine kl_ne (pc := 62) (tgt := 70) hx hb (kdr dgX3_swap_0 3 8 rfl rfl) (kdr dgX3_swap_0 3 9 rfl rfl) (by decide) (fun c5 => ?_) (fun c5 => ?_)
      · have h := g_f c5 h
        refine lv_iconst (v := 1) hx hb (kdr dgX3_swap_0 4 2 rfl rfl) (by decide) ?_
        exact J71 (vp_updL (vp_updL mce x1.toNatClampNeg (mce x2.toNatClampNeg)) x2.toNatClampNeg (mce x1.toNatClampNeg)) mfr mun mbe men mov msp mwb mwe mwi mac mre mkn r1.2 1 _ _ hP hD hS ls (lv_sub hl [] rfl) h
      · have h := g_t c5 h
        refine lv_iconst (v := 0) hx hb (kdr dgX3_swap_0 4 0 rfl rfl) (by decide) ?_
        refine lv_goto (tgt := 71) hx hb (kdr dgX3_swap_0 4 1 rfl rfl) (by decide) ?_
        exact J71 (vp_updL (vp_updL mce x1.toNatClampNeg (mce x2.toNatClampNeg)) x2.toNatClampNeg (mce x1.toNatClampNeg)) mfr mun mbe men mov msp mwb mwe mwi mac mre mkn r1.2 0 _ _ hP hD hS ls (lv_sub hl [] rfl) h
    · have h := g_f c2 h
      refine lv_iconst (v := 0) hx hb (kdr dgX3_swap_0 1 2 rfl rfl) (by decide) ?_
      have h := Option.some.inj h
      subst h
      exact kret_i (v := 0) hx hb hr rfl hlocks hS hP (kdr dgX3_swap_0 1 3 rfl rfl)
  have J15 : ∀ (mce : Nat → Int64) (mfr : Int64) (mun : Int64) (mbe : Nat → Int64) (men : Nat → Int64) (mov : Nat → Int32) (msp : Int32) (mwb : Nat → Int64) (mwe : Nat → Int64) (mwi : Int32) (mac : Int32) (mre : Int32) (mkn : Int32) (mth : Int32) (x1 : Int32) (x2 : Int32) (H : Heap) (locs : List Loc), va_P (dC, dI) vwCl (wMo cJ cZ b mce mfr mun mbe men mov msp mwb mwe mwi mac mre mkn mth) H → va_D A (wMo cJ cZ b mce mfr mun mbe men mov msp mwb mwe mwi mac mre mkn mth) → va_S A s.heap H locs → ∀ (ls : Array Slot), lv_has ls 5 (kvA 0 (b 0) (kvI 1 x1 (kvI 2 x2 kvE))) → f_X3_swap_15 mce mac x1 x2 = some res → W p l e (headSpec wsX3_swap (kRm 2 0 0 43)).room s m ([.ref (b 0), .int p0, .int p1] : List Value).toArray below meth c H locs 0 0 (MQ below (kI (dC, dI) .int (res.1) (wMo cJ cZ b (res.2.1) mfr mun mbe men mov msp mwb mwe mwi (res.2.2.1) mre mkn (res.2.2.2)) A) ([.ref (b 0), .int p0, .int p1] : List Value).toArray s 0 0 A) (F0 m 15 ls [.ref (b 0)]) := by
    intro mce mfr mun mbe men mov msp mwb mwe mwi mac mre mkn mth x1 x2 H locs hP hD hS ls hl h
    have h := f_X3_swap_15_e.symm.trans h
    refine lv_iconst (v := 1) hx hb (kdr dgX3_swap_0 0 7 rfl rfl) (by decide) ?_
    refine lv_goto (tgt := 20) hx hb (kdr dgX3_swap_0 0 8 rfl rfl) (by decide) ?_
    exact J20 mce mfr mun mbe men mov msp mwb mwe mwi mac mre mkn mth x1 x2 1 _ _ hP hD hS ls (lv_sub hl [0, 1, 2] rfl) h
  have h := f_X3_swap_e.symm.trans hf
  refine lv_aload_n hx hb (kdr dgX3_swap_0 0 0 rfl rfl) rfl (lv_at hl 0 rfl) ?_
  refine lv_iload_n hx hb (kdr dgX3_swap_0 0 1 rfl rfl) rfl (lv_at hl 1 rfl) ?_
  obtain ⟨r1, g1, h⟩ := g_b h
  refine kq_i (wMo cJ cZ b mce mfr mun mbe men mov msp mwb mwe mwi mac mre mkn mth) (fun qP qD qF => va_runS (As := [.int p0]) (rest := [.ref (b 0)]) ⟨hx, hb, hml, hown, hts⟩ (c_X3_is l dC dI cB cI cJ cZ  _  p0 r1 g1) (kcwS hts kw_1119 kv_X3_is rfl rfl ⟨(Nat.le_of_ble_eq_true rfl), (Nat.le_of_ble_eq_true rfl)⟩) (kpS (A := A) (kPnil) hK ((kDnil (A := A))) hG) rfl rfl hl.1 rfl (lv_room (Nat.le_of_ble_eq_true rfl)) (kdr dgX3_swap_0 0 2 rfl rfl) ⟨(Nat.le_of_ble_eq_true rfl), (Nat.le_of_ble_eq_true rfl)⟩) hP hD hS hA kFr_n (fun H locs hP hD hS br1 => ?_)
  refine lv_if_eq (tgt := 15) hx hb (kdr dgX3_swap_0 0 3 rfl rfl) (by decide) (fun c2 => ?_) (fun c2 => ?_)
  · have h := g_t c2 h
    exact J15 mce mfr mun mbe men mov msp mwb mwe mwi mac mre mkn mth p0 p1 _ _ hP hD hS ls (lv_sub hl [0, 1, 2] rfl) h
  · have h := g_f c2 h
    refine lv_iload_n hx hb (kdr dgX3_swap_0 0 4 rfl rfl) rfl (lv_at hl 2 rfl) ?_
    obtain ⟨r3, g3, h⟩ := g_b h
    refine kq_i (wMo cJ cZ b mce mfr mun mbe men mov msp mwb mwe mwi mac mre mkn mth) (fun qP qD qF => va_runS (As := [.int p1]) (rest := [.ref (b 0)]) ⟨hx, hb, hml, hown, hts⟩ (c_X3_is l dC dI cB cI cJ cZ  _  p1 r3 g3) (kcwS hts kw_1119 kv_X3_is rfl rfl ⟨(Nat.le_of_ble_eq_true rfl), (Nat.le_of_ble_eq_true rfl)⟩) (kpS (A := A) (kPnil) hK ((kDnil (A := A))) hG) rfl rfl hl.1 rfl (lv_room (Nat.le_of_ble_eq_true rfl)) (kdr dgX3_swap_0 0 5 rfl rfl) ⟨(Nat.le_of_ble_eq_true rfl), (Nat.le_of_ble_eq_true rfl)⟩) hP hD hS hA kFr_n (fun H locs hP hD hS br3 => ?_)
    refine lv_if_ne (tgt := 19) hx hb (kdr dgX3_swap_0 0 6 rfl rfl) (by decide) (fun c4 => ?_) (fun c4 => ?_)
    · have h := g_f c4 h
      refine lv_iconst (v := 0) hx hb (kdr dgX3_swap_0 0 9 rfl rfl) (by decide) ?_
      exact J20 mce mfr mun mbe men mov msp mwb mwe mwi mac mre mkn mth p0 p1 0 _ _ hP hD hS ls (lv_sub hl [0, 1, 2] rfl) h
    · have h := g_t c4 h
      exact J15 mce mfr mun mbe men mov msp mwb mwe mwi mac mre mkn mth p0 p1 _ _ hP hD hS ls (lv_sub hl [0, 1, 2] rfl) h
noncomputable abbrev wsX3_pick : List Cond := kWs yX3_pick cX3_pick 5 (some .int)
noncomputable def f_X3_pick_26 : Nat → (Nat → Int64) → (Int32) → (Int32) → (Int32) → (Int32) → (Int32) → (Int32) → Option ((Int32) × (Nat → Int64) × (Int32) × (Int32))
  | 0, _, _, _, _, _, _, _ => none
  | n + 1, mce, mac, mth, x1, x2, x3, x4 =>
    if 4 ≤ x4 then
      if ix x3 4 then
        if ix x2 4 then
          (f_X3_done mac x3).bind fun r4 =>
          some (r4.1, vp_updL mce x2.toNatClampNeg (mce x3.toNatClampNeg), r4.2, mth)
        else none
      else none
    else
      if x1 = 0 then
        if ix x4 4 then
          if ix x3 4 then
            if (mce x3.toNatClampNeg) ≤ (mce x4.toNatClampNeg) then
              f_X3_pick_26 n mce mac mth x1 x2 x3 (x4 + 1)
            else
              f_X3_pick_26 n mce mac mth x1 x2 x4 (x4 + 1)
          else none
        else none
      else
        if ix x4 4 then
          if ix x3 4 then
            if (mce x4.toNatClampNeg) ≤ (mce x3.toNatClampNeg) then
              f_X3_pick_26 n mce mac mth x1 x2 x3 (x4 + 1)
            else
              f_X3_pick_26 n mce mac mth x1 x2 x4 (x4 + 1)
          else none
        else none
theorem f_X3_pick_26_0 {mce : Nat → Int64} {mac : Int32} {mth : Int32} {x1 : Int32} {x2 : Int32} {x3 : Int32} {x4 : Int32} : f_X3_pick_26 0 mce mac mth x1 x2 x3 x4 = none := rfl
theorem f_X3_pick_26_s {n : Nat} {mce : Nat → Int64} {mac : Int32} {mth : Int32} {x1 : Int32} {x2 : Int32} {x3 : Int32} {x4 : Int32} : f_X3_pick_26 (n + 1) mce mac mth x1 x2 x3 x4 =
  if 4 ≤ x4 then
    if ix x3 4 then
      if ix x2 4 then
        (f_X3_done mac x3).bind fun r4 =>
        some (r4.1, vp_updL mce x2.toNatClampNeg (mce x3.toNatClampNeg), r4.2, mth)
      else none
    else none
  else
    if x1 = 0 then
      if ix x4 4 then
        if ix x3 4 then
          if (mce x3.toNatClampNeg) ≤ (mce x4.toNatClampNeg) then
            f_X3_pick_26 n mce mac mth x1 x2 x3 (x4 + 1)
          else
            f_X3_pick_26 n mce mac mth x1 x2 x4 (x4 + 1)
        else none
      else none
    else
      if ix x4 4 then
        if ix x3 4 then
          if (mce x4.toNatClampNeg) ≤ (mce x3.toNatClampNeg) then
            f_X3_pick_26 n mce mac mth x1 x2 x3 (x4 + 1)
          else
            f_X3_pick_26 n mce mac mth x1 x2 x4 (x4 + 1)
        else none
      else none := rfl
noncomputable def f_X3_pick_13 (mce : Nat → Int64) (mac : Int32) (x1 : Int32) (x2 : Int32) (y0 : Int32) : Option ((Int32) × (Nat → Int64) × (Int32) × (Int32)) :=
  (f_X3_isThrown_ y0).bind fun r1 =>
  if r1.1 = 0 then
    f_X3_pick_26 24 mce mac r1.2 x1 x2 0 1
  else
    some (0, mce, mac, r1.2)
theorem f_X3_pick_13_e {mce : Nat → Int64} {mac : Int32} {x1 : Int32} {x2 : Int32} {y0 : Int32} : f_X3_pick_13 mce mac x1 x2 y0 =
  (f_X3_isThrown_ y0).bind fun r1 =>
  if r1.1 = 0 then
    f_X3_pick_26 24 mce mac r1.2 x1 x2 0 1
  else
    some (0, mce, mac, r1.2) := rfl
noncomputable def f_X3_pick (mce : Nat → Int64) (mac : Int32) (p0 : Int32) (p1 : Int32) : Option ((Int32) × (Nat → Int64) × (Int32) × (Int32)) :=
  (f_X3_is p1).bind fun r1 =>
  if r1 = 0 then
    f_X3_pick_13 mce mac p0 p1 1
  else
    f_X3_pick_13 mce mac p0 p1 0
theorem f_X3_pick_e {mce : Nat → Int64} {mac : Int32} {p0 : Int32} {p1 : Int32} : f_X3_pick mce mac p0 p1 = 
  (f_X3_is p1).bind fun r1 =>
  if r1 = 0 then
    f_X3_pick_13 mce mac p0 p1 1
  else
    f_X3_pick_13 mce mac p0 p1 0 := rfl
set_option maxHeartbeats 4000000 in
set_option maxRecDepth 100000 in
theorem c_X3_pick (l : Launch) (dC : Nat → ClassId) (dI : Nat → Nat → Nat) (cB cI cJ cZ : ClassId) (b : Nat → Nat) (sz : Nat) (mce : Nat → Int64) (mfr : Int64) (mun : Int64) (mbe : Nat → Int64) (men : Nat → Int64) (mov : Nat → Int32) (msp : Int32) (mwb : Nat → Int64) (mwe : Nat → Int64) (mwi : Int32) (mac : Int32) (mre : Int32) (mkn : Int32) (mth : Int32) (p0 : Int32) (p1 : Int32) (res : (Int32) × (Nat → Int64) × (Int32) × (Int32)) (hf : f_X3_pick mce mac p0 p1 = some res) : kMi l yX3_pick wsX3_pick (kRm 2 0 0 43) dC dI cB cI cJ cZ [.ref (b 0), .int p0, .int p1] sz (wMo cJ cZ b mce mfr mun mbe men mov msp mwb mwe mwi mac mre mkn mth) .int (res.1) (wMo cJ cZ b (res.2.1) mfr mun mbe men mov msp mwb mwe mwi (res.2.2.1) mre mkn (res.2.2.2)) 0 0 := by
  refine kmet_i (y := yX3_pick) (cc := cX3_pick) (maxL := 5) (ret := (some .int)) RX3 (kvA 0 (b 0) (kvI 1 p0 (kvI 2 p1 kvE))) kpl_X3 rfl rfl (Nat.le_of_ble_eq_true rfl) rfl (fun p e s m below meth c A ls hx hb hr hml hts hown hlocks hP hK hG hD hA hS hl => ?_)
  have hw0 := hts (.fieldLink RX3 7 "SpanbookerModel" "cells" "[J") (List.mem_cons_of_mem _ kw_1072)
  have hiX3 : ∀ w ∈ u_ws RX3 TX3 14, w ∈ wsX3_pick := fun w h => List.mem_cons_of_mem _ (ku_X3 w h)
  have J26 : ∀ (n : Nat), ∀ (mce : Nat → Int64) (mfr : Int64) (mun : Int64) (mbe : Nat → Int64) (men : Nat → Int64) (mov : Nat → Int32) (msp : Int32) (mwb : Nat → Int64) (mwe : Nat → Int64) (mwi : Int32) (mac : Int32) (mre : Int32) (mkn : Int32) (mth : Int32) (x1 : Int32) (x2 : Int32) (x3 : Int32) (x4 : Int32) (H : Heap) (locs : List Loc), va_P (dC, dI) vwCl (wMo cJ cZ b mce mfr mun mbe men mov msp mwb mwe mwi mac mre mkn mth) H → va_D A (wMo cJ cZ b mce mfr mun mbe men mov msp mwb mwe mwi mac mre mkn mth) → va_S A s.heap H locs → ∀ (ls : Array Slot), lv_has ls 5 (kvA 0 (b 0) (kvI 1 x1 (kvI 2 x2 (kvI 3 x3 (kvI 4 x4 kvE))))) → f_X3_pick_26 n mce mac mth x1 x2 x3 x4 = some res → W p l e (headSpec wsX3_pick (kRm 2 0 0 43)).room s m ([.ref (b 0), .int p0, .int p1] : List Value).toArray below meth c H locs 0 0 (MQ below (kI (dC, dI) .int (res.1) (wMo cJ cZ b (res.2.1) mfr mun mbe men mov msp mwb mwe mwi (res.2.2.1) mre mkn (res.2.2.2)) A) ([.ref (b 0), .int p0, .int p1] : List Value).toArray s 0 0 A) (F0 m 26 ls []) := by
    intro n
    induction n with
    | zero =>
      intro mce mfr mun mbe men mov msp mwb mwe mwi mac mre mkn mth x1 x2 x3 x4 H locs hP hD hS ls hl h
      have h := f_X3_pick_26_0.symm.trans h
      cases h
    | succ n ih =>
      intro mce mfr mun mbe men mov msp mwb mwe mwi mac mre mkn mth x1 x2 x3 x4 H locs hP hD hS ls hl h
      have h := f_X3_pick_26_s.symm.trans h
      refine lv_iload hx hb (kdr dgX3_pick_0 1 5 rfl rfl) (lv_at hl 4 rfl) ?_
      refine lv_iconst (v := 4) hx hb (kdr dgX3_pick_0 1 6 rfl rfl) (by decide) ?_
      refine lv_icmp_ge (tgt := 82) hx hb (kdr dgX3_pick_0 1 7 rfl rfl) (by decide) (fun c1 => ?_) (fun c1 => ?_)
      · have h := g_t c1 h
        refine lv_aload_n hx hb (kdr dgX3_pick_0 4 5 rfl rfl) rfl (lv_at hl 0 rfl) ?_
        refine va_get (D := (dC, dI)) (ci := 5) (v := .ref (b 1)) (C := RX3) (T := TX3) (N := 14) hx hb hts hiX3 hown hK hP 0 rfl rfl 0 (by decide) hw0 (fun _ h9 => h9) rfl (kdr dgX3_pick_0 4 6 rfl rfl) ?_
        refine lv_iload_n hx hb (kdr dgX3_pick_0 4 7 rfl rfl) rfl (lv_at hl 2 rfl) ?_
        refine lv_aload_n hx hb (kdr dgX3_pick_0 4 8 rfl rfl) rfl (lv_at hl 0 rfl) ?_
        refine va_get (D := (dC, dI)) (ci := 5) (v := .ref (b 1)) (C := RX3) (T := TX3) (N := 14) hx hb hts hiX3 hown hK hP 0 rfl rfl 0 (by decide) hw0 (fun _ h9 => h9) rfl (kdr dgX3_pick_0 4 9 rfl rfl) ?_
        refine lv_iload_n hx hb (kdr dgX3_pick_0 5 0 rfl rfl) rfl (lv_at hl 3 rfl) ?_
        obtain ⟨z1, h⟩ := g_if h
        refine va_lald hx hb hK hP 1 2 rfl rfl (ix_in z1) (kdr dgX3_pick_0 5 1 rfl rfl) ?_
        obtain ⟨z2, h⟩ := g_if h
        refine va_last hx hb hK hP hD hS 1 2 rfl rfl (ix_in z2) (kdr dgX3_pick_0 5 2 rfl rfl) (fun H locs hP hD hS => ?_)
        have hP : va_P (dC, dI) vwCl (wMo cJ cZ b (vp_updL mce x2.toNatClampNeg (mce x3.toNatClampNeg)) mfr mun mbe men mov msp mwb mwe mwi mac mre mkn mth) H := hP
        have hD : va_D A (wMo cJ cZ b (vp_updL mce x2.toNatClampNeg (mce x3.toNatClampNeg)) mfr mun mbe men mov msp mwb mwe mwi mac mre mkn mth) := hD
        refine lv_aload_n hx hb (kdr dgX3_pick_0 5 3 rfl rfl) rfl (lv_at hl 0 rfl) ?_
        refine lv_iload_n hx hb (kdr dgX3_pick_0 5 4 rfl rfl) rfl (lv_at hl 3 rfl) ?_
        obtain ⟨r4, g4, h⟩ := g_b h
        refine kq_i (wMo cJ cZ b (vp_updL mce x2.toNatClampNeg (mce x3.toNatClampNeg)) mfr mun mbe men mov msp mwb mwe mwi r4.2 mre mkn mth) (fun qP qD qF => va_runV (As := [.int x3]) (rest := []) ⟨hx, hb, hml, hown, hts⟩ (c_X3_done l dC dI cB cI cJ cZ b _ (vp_updL mce x2.toNatClampNeg (mce x3.toNatClampNeg)) mfr mun mbe men mov msp mwb mwe mwi mac mre mkn mth x3 r4 g4) (kcwV hts kw_1144 kv_X3_done rfl rfl ⟨(Nat.le_of_ble_eq_true rfl), (Nat.le_of_ble_eq_true rfl)⟩) (kpV (A := A) qP hK qD hG (krecv_5 (q0 := 0) hK hP rfl)) rfl rfl hl.1 rfl (lv_room (Nat.le_of_ble_eq_true rfl)) (kdr dgX3_pick_0 5 5 rfl rfl) ⟨(Nat.le_of_ble_eq_true rfl), (Nat.le_of_ble_eq_true rfl)⟩) hP hD hS hA kFr_Mo (fun H locs hP hD hS br4 => ?_)
        have h := Option.some.inj h
        subst h
        exact kret_i (v := r4.1) hx hb hr rfl hlocks hS hP (kdr dgX3_pick_0 5 6 rfl rfl)
      · have h := g_f c1 h
        refine lv_iload_n hx hb (kdr dgX3_pick_0 1 8 rfl rfl) rfl (lv_at hl 1 rfl) ?_
        refine lv_if_eq (tgt := 56) hx hb (kdr dgX3_pick_0 1 9 rfl rfl) (by decide) (fun c2 => ?_) (fun c2 => ?_)
        · have h := g_t c2 h
          refine lv_aload_n hx hb (kdr dgX3_pick_0 3 1 rfl rfl) rfl (lv_at hl 0 rfl) ?_
          refine va_get (D := (dC, dI)) (ci := 5) (v := .ref (b 1)) (C := RX3) (T := TX3) (N := 14) hx hb hts hiX3 hown hK hP 0 rfl rfl 0 (by decide) hw0 (fun _ h9 => h9) rfl (kdr dgX3_pick_0 3 2 rfl rfl) ?_
          refine lv_iload hx hb (kdr dgX3_pick_0 3 3 rfl rfl) (lv_at hl 4 rfl) ?_
          obtain ⟨z2, h⟩ := g_if h
          refine va_lald hx hb hK hP 1 2 rfl rfl (ix_in z2) (kdr dgX3_pick_0 3 4 rfl rfl) ?_
          refine lv_aload_n hx hb (kdr dgX3_pick_0 3 5 rfl rfl) rfl (lv_at hl 0 rfl) ?_
          refine va_get (D := (dC, dI)) (ci := 5) (v := .ref (b 1)) (C := RX3) (T := TX3) (N := 14) hx hb hts hiX3 hown hK hP 0 rfl rfl 0 (by decide) hw0 (fun _ h9 => h9) rfl (kdr dgX3_pick_0 3 6 rfl rfl) ?_
          refine lv_iload_n hx hb (kdr dgX3_pick_0 3 7 rfl rfl) rfl (lv_at hl 3 rfl) ?_
          obtain ⟨z3, h⟩ := g_if h
          refine va_lald hx hb hK hP 1 2 rfl rfl (ix_in z3) (kdr dgX3_pick_0 3 8 rfl rfl) ?_
          refine kl_ge (pc := 69) (tgt := 76) hx hb (kdr dgX3_pick_0 3 9 rfl rfl) (kdr dgX3_pick_0 4 0 rfl rfl) (by decide) (fun c5 => ?_) (fun c5 => ?_)
          · have h := g_t c5 h
            refine lv_iinc (v := x4 + 1) (lv' := (kvI 4 (x4 + 1) (kvA 0 (b 0) (kvI 1 x1 (kvI 2 x2 (kvI 3 x3 kvE)))))) hx hb (kdr dgX3_pick_0 4 3 rfl rfl) hl (k := 4) rfl rfl (by decide) rfl (fun ls hl => ?_)
            refine lv_goto (tgt := 26) hx hb (kdr dgX3_pick_0 4 4 rfl rfl) (by decide) ?_
            exact ih mce mfr mun mbe men mov msp mwb mwe mwi mac mre mkn mth x1 x2 x3 (x4 + 1) _ _ hP hD hS ls (lv_sub hl [1, 2, 3, 4, 0] rfl) h
          · have h := g_f c5 h
            refine lv_iload hx hb (kdr dgX3_pick_0 4 1 rfl rfl) (lv_at hl 4 rfl) ?_
            refine lv_istore_n (lv' := (kvI 3 x4 (kvA 0 (b 0) (kvI 1 x1 (kvI 2 x2 (kvI 4 x4 kvE)))))) hx hb (kdr dgX3_pick_0 4 2 rfl rfl) rfl hl (by decide) rfl (fun ls hl => ?_)
            refine lv_iinc (v := x4 + 1) (lv' := (kvI 4 (x4 + 1) (kvI 3 x4 (kvA 0 (b 0) (kvI 1 x1 (kvI 2 x2 kvE)))))) hx hb (kdr dgX3_pick_0 4 3 rfl rfl) hl (k := 4) rfl rfl (by decide) rfl (fun ls hl => ?_)
            refine lv_goto (tgt := 26) hx hb (kdr dgX3_pick_0 4 4 rfl rfl) (by decide) ?_
            exact ih mce mfr mun mbe men mov msp mwb mwe mwi mac mre mkn mth x1 x2 x4 (x4 + 1) _ _ hP hD hS ls (lv_sub hl [2, 3, 4, 1, 0] rfl) h
        · have h := g_f c2 h
          refine lv_aload_n hx hb (kdr dgX3_pick_0 2 0 rfl rfl) rfl (lv_at hl 0 rfl) ?_
          refine va_get (D := (dC, dI)) (ci := 5) (v := .ref (b 1)) (C := RX3) (T := TX3) (N := 14) hx hb hts hiX3 hown hK hP 0 rfl rfl 0 (by decide) hw0 (fun _ h9 => h9) rfl (kdr dgX3_pick_0 2 1 rfl rfl) ?_
          refine lv_iload hx hb (kdr dgX3_pick_0 2 2 rfl rfl) (lv_at hl 4 rfl) ?_
          obtain ⟨z2, h⟩ := g_if h
          refine va_lald hx hb hK hP 1 2 rfl rfl (ix_in z2) (kdr dgX3_pick_0 2 3 rfl rfl) ?_
          refine lv_aload_n hx hb (kdr dgX3_pick_0 2 4 rfl rfl) rfl (lv_at hl 0 rfl) ?_
          refine va_get (D := (dC, dI)) (ci := 5) (v := .ref (b 1)) (C := RX3) (T := TX3) (N := 14) hx hb hts hiX3 hown hK hP 0 rfl rfl 0 (by decide) hw0 (fun _ h9 => h9) rfl (kdr dgX3_pick_0 2 5 rfl rfl) ?_
          refine lv_iload_n hx hb (kdr dgX3_pick_0 2 6 rfl rfl) rfl (lv_at hl 3 rfl) ?_
          obtain ⟨z3, h⟩ := g_if h
          refine va_lald hx hb hK hP 1 2 rfl rfl (ix_in z3) (kdr dgX3_pick_0 2 7 rfl rfl) ?_
          refine kl_le (pc := 49) (tgt := 76) hx hb (kdr dgX3_pick_0 2 8 rfl rfl) (kdr dgX3_pick_0 2 9 rfl rfl) (by decide) (fun c5 => ?_) (fun c5 => ?_)
          · have h := g_t c5 h
            refine lv_iinc (v := x4 + 1) (lv' := (kvI 4 (x4 + 1) (kvA 0 (b 0) (kvI 1 x1 (kvI 2 x2 (kvI 3 x3 kvE)))))) hx hb (kdr dgX3_pick_0 4 3 rfl rfl) hl (k := 4) rfl rfl (by decide) rfl (fun ls hl => ?_)
            refine lv_goto (tgt := 26) hx hb (kdr dgX3_pick_0 4 4 rfl rfl) (by decide) ?_
            exact ih mce mfr mun mbe men mov msp mwb mwe mwi mac mre mkn mth x1 x2 x3 (x4 + 1) _ _ hP hD hS ls (lv_sub hl [1, 2, 3, 4, 0] rfl) h
          · have h := g_f c5 h
            refine lv_goto (tgt := 73) hx hb (kdr dgX3_pick_0 3 0 rfl rfl) (by decide) ?_
            refine lv_iload hx hb (kdr dgX3_pick_0 4 1 rfl rfl) (lv_at hl 4 rfl) ?_
            refine lv_istore_n (lv' := (kvI 3 x4 (kvA 0 (b 0) (kvI 1 x1 (kvI 2 x2 (kvI 4 x4 kvE)))))) hx hb (kdr dgX3_pick_0 4 2 rfl rfl) rfl hl (by decide) rfl (fun ls hl => ?_)
            refine lv_iinc (v := x4 + 1) (lv' := (kvI 4 (x4 + 1) (kvI 3 x4 (kvA 0 (b 0) (kvI 1 x1 (kvI 2 x2 kvE)))))) hx hb (kdr dgX3_pick_0 4 3 rfl rfl) hl (k := 4) rfl rfl (by decide) rfl (fun ls hl => ?_)
            refine lv_goto (tgt := 26) hx hb (kdr dgX3_pick_0 4 4 rfl rfl) (by decide) ?_
            exact ih mce mfr mun mbe men mov msp mwb mwe mwi mac mre mkn mth x1 x2 x4 (x4 + 1) _ _ hP hD hS ls (lv_sub hl [2, 3, 4, 1, 0] rfl) h
  have J13 : ∀ (mce : Nat → Int64) (mfr : Int64) (mun : Int64) (mbe : Nat → Int64) (men : Nat → Int64) (mov : Nat → Int32) (msp : Int32) (mwb : Nat → Int64) (mwe : Nat → Int64) (mwi : Int32) (mac : Int32) (mre : Int32) (mkn : Int32) (mth : Int32) (x1 : Int32) (x2 : Int32) (y0 : Int32) (H : Heap) (locs : List Loc), va_P (dC, dI) vwCl (wMo cJ cZ b mce mfr mun mbe men mov msp mwb mwe mwi mac mre mkn mth) H → va_D A (wMo cJ cZ b mce mfr mun mbe men mov msp mwb mwe mwi mac mre mkn mth) → va_S A s.heap H locs → ∀ (ls : Array Slot), lv_has ls 5 (kvA 0 (b 0) (kvI 1 x1 (kvI 2 x2 kvE))) → f_X3_pick_13 mce mac x1 x2 y0 = some res → W p l e (headSpec wsX3_pick (kRm 2 0 0 43)).room s m ([.ref (b 0), .int p0, .int p1] : List Value).toArray below meth c H locs 0 0 (MQ below (kI (dC, dI) .int (res.1) (wMo cJ cZ b (res.2.1) mfr mun mbe men mov msp mwb mwe mwi (res.2.2.1) mre mkn (res.2.2.2)) A) ([.ref (b 0), .int p0, .int p1] : List Value).toArray s 0 0 A) (F0 m 13 ls [.int y0, .ref (b 0)]) := by
    intro mce mfr mun mbe men mov msp mwb mwe mwi mac mre mkn mth x1 x2 y0 H locs hP hD hS ls hl h
    have h := f_X3_pick_13_e.symm.trans h
    obtain ⟨r1, g1, h⟩ := g_b h
    refine kq_i (wMo cJ cZ b mce mfr mun mbe men mov msp mwb mwe mwi mac mre mkn r1.2) (fun qP qD qF => va_runV (As := [.int y0]) (rest := []) ⟨hx, hb, hml, hown, hts⟩ (c_X3_isThrown_ l dC dI cB cI cJ cZ b _ mce mfr mun mbe men mov msp mwb mwe mwi mac mre mkn mth y0 r1 g1) (kcwV hts kw_1166 kv_X3_isThrown_ rfl rfl ⟨(Nat.le_of_ble_eq_true rfl), (Nat.le_of_ble_eq_true rfl)⟩) (kpV (A := A) qP hK qD hG (krecv_5 (q0 := 0) hK hP rfl)) rfl rfl hl.1 rfl (lv_room (Nat.le_of_ble_eq_true rfl)) (kdr dgX3_pick_0 0 7 rfl rfl) ⟨(Nat.le_of_ble_eq_true rfl), (Nat.le_of_ble_eq_true rfl)⟩) hP hD hS hA kFr_Mo (fun H locs hP hD hS br1 => ?_)
    refine lv_if_eq (tgt := 21) hx hb (kdr dgX3_pick_0 0 8 rfl rfl) (by decide) (fun c2 => ?_) (fun c2 => ?_)
    · have h := g_t c2 h
      refine lv_iconst (v := 0) hx hb (kdr dgX3_pick_0 1 1 rfl rfl) (by decide) ?_
      refine lv_istore_n (lv' := (kvI 3 0 (kvA 0 (b 0) (kvI 1 x1 (kvI 2 x2 kvE))))) hx hb (kdr dgX3_pick_0 1 2 rfl rfl) rfl hl (by decide) rfl (fun ls hl => ?_)
      refine lv_iconst (v := 1) hx hb (kdr dgX3_pick_0 1 3 rfl rfl) (by decide) ?_
      refine lv_istore (lv' := (kvI 4 1 (kvI 3 0 (kvA 0 (b 0) (kvI 1 x1 (kvI 2 x2 kvE)))))) hx hb (kdr dgX3_pick_0 1 4 rfl rfl) hl (by decide) rfl (fun ls hl => ?_)
      exact J26 24 mce mfr mun mbe men mov msp mwb mwe mwi mac mre mkn r1.2 x1 x2 0 1 _ _ hP hD hS ls (lv_sub hl [2, 3, 4, 1, 0] rfl) h
    · have h := g_f c2 h
      refine lv_iconst (v := 0) hx hb (kdr dgX3_pick_0 0 9 rfl rfl) (by decide) ?_
      have h := Option.some.inj h
      subst h
      exact kret_i (v := 0) hx hb hr rfl hlocks hS hP (kdr dgX3_pick_0 1 0 rfl rfl)
  have h := f_X3_pick_e.symm.trans hf
  refine lv_aload_n hx hb (kdr dgX3_pick_0 0 0 rfl rfl) rfl (lv_at hl 0 rfl) ?_
  refine lv_iload_n hx hb (kdr dgX3_pick_0 0 1 rfl rfl) rfl (lv_at hl 2 rfl) ?_
  obtain ⟨r1, g1, h⟩ := g_b h
  refine kq_i (wMo cJ cZ b mce mfr mun mbe men mov msp mwb mwe mwi mac mre mkn mth) (fun qP qD qF => va_runS (As := [.int p1]) (rest := [.ref (b 0)]) ⟨hx, hb, hml, hown, hts⟩ (c_X3_is l dC dI cB cI cJ cZ  _  p1 r1 g1) (kcwS hts kw_1119 kv_X3_is rfl rfl ⟨(Nat.le_of_ble_eq_true rfl), (Nat.le_of_ble_eq_true rfl)⟩) (kpS (A := A) (kPnil) hK ((kDnil (A := A))) hG) rfl rfl hl.1 rfl (lv_room (Nat.le_of_ble_eq_true rfl)) (kdr dgX3_pick_0 0 2 rfl rfl) ⟨(Nat.le_of_ble_eq_true rfl), (Nat.le_of_ble_eq_true rfl)⟩) hP hD hS hA kFr_n (fun H locs hP hD hS br1 => ?_)
  refine lv_if_ne (tgt := 12) hx hb (kdr dgX3_pick_0 0 3 rfl rfl) (by decide) (fun c2 => ?_) (fun c2 => ?_)
  · have h := g_f c2 h
    refine lv_iconst (v := 0) hx hb (kdr dgX3_pick_0 0 6 rfl rfl) (by decide) ?_
    exact J13 mce mfr mun mbe men mov msp mwb mwe mwi mac mre mkn mth p0 p1 0 _ _ hP hD hS ls (lv_sub hl [0, 1, 2] rfl) h
  · have h := g_t c2 h
    refine lv_iconst (v := 1) hx hb (kdr dgX3_pick_0 0 4 rfl rfl) (by decide) ?_
    refine lv_goto (tgt := 13) hx hb (kdr dgX3_pick_0 0 5 rfl rfl) (by decide) ?_
    exact J13 mce mfr mun mbe men mov msp mwb mwe mwi mac mre mkn mth p0 p1 1 _ _ hP hD hS ls (lv_sub hl [0, 1, 2] rfl) h
noncomputable abbrev wsX3_areLet : List Cond := kWs yX3_areLet cX3_areLet 5 (some .boolean)
noncomputable def f_X3_areLet_3 (n0 : Nat) : Nat → (Nat → Int64) → (Int32) → (Int64) → (Int32) → Option (Int32)
  | 0, _, _, _, _ => none
  | n + 1, v0, x1, x2, x4 =>
    if x1 ≤ x4 then
      some 1
    else
      if ix x4 n0 then
        (f_X3_isLet ((v0 x4.toNatClampNeg) + x2)).bind fun r3 =>
        if r3 = 0 then
          some 0
        else
          f_X3_areLet_3 n0 n v0 x1 x2 (x4 + 1)
      else none
theorem f_X3_areLet_3_0 {n0 : Nat} {v0 : Nat → Int64} {x1 : Int32} {x2 : Int64} {x4 : Int32} : f_X3_areLet_3 n0 0 v0 x1 x2 x4 = none := rfl
theorem f_X3_areLet_3_s {n0 : Nat} {n : Nat} {v0 : Nat → Int64} {x1 : Int32} {x2 : Int64} {x4 : Int32} : f_X3_areLet_3 n0 (n + 1) v0 x1 x2 x4 =
  if x1 ≤ x4 then
    some 1
  else
    if ix x4 n0 then
      (f_X3_isLet ((v0 x4.toNatClampNeg) + x2)).bind fun r3 =>
      if r3 = 0 then
        some 0
      else
        f_X3_areLet_3 n0 n v0 x1 x2 (x4 + 1)
    else none := rfl
noncomputable def f_X3_areLet (n0 : Nat) (v0 : Nat → Int64) (p1 : Int32) (p2 : Int64) : Option (Int32) :=
  f_X3_areLet_3 n0 24 v0 p1 p2 0
theorem f_X3_areLet_e {n0 : Nat} {v0 : Nat → Int64} {p1 : Int32} {p2 : Int64} : f_X3_areLet n0 v0 p1 p2 = 
  f_X3_areLet_3 n0 24 v0 p1 p2 0 := rfl
set_option maxHeartbeats 4000000 in
set_option maxRecDepth 100000 in
theorem c_X3_areLet (l : Launch) (dC : Nat → ClassId) (dI : Nat → Nat → Nat) (cB cI cJ cZ : ClassId) (q0 : Nat) (n0 : Nat) (sz : Nat) (v0 : Nat → Int64) (p1 : Int32) (p2 : Int64) (res : Int32) (hf : f_X3_areLet n0 v0 p1 p2 = some res) : kMi l yX3_areLet wsX3_areLet (kRm 1 0 0 21) dC dI cB cI cJ cZ [.ref q0, .int p1, .long p2] sz [(q0, .inl (cJ, n0, .inr (.inl v0)))] .boolean (res) [(q0, .inl (cJ, n0, .inr (.inl v0)))] 0 0 := by
  refine kmet_i (y := yX3_areLet) (cc := cX3_areLet) (maxL := 5) (ret := (some .boolean)) RX3 (kvA 0 q0 (kvI 1 p1 (kvJ 2 p2 kvE))) kpl_X3 rfl rfl (Nat.le_of_ble_eq_true rfl) rfl (fun p e s m below meth c A ls hx hb hr hml hts hown hlocks hP hK hG hD hA hS hl => ?_)
  have J3 : ∀ (n : Nat), ∀ (v0 : Nat → Int64) (x1 : Int32) (x2 : Int64) (x4 : Int32) (H : Heap) (locs : List Loc), va_P (dC, dI) vwCl [(q0, .inl (cJ, n0, .inr (.inl v0)))] H → va_D A [(q0, .inl (cJ, n0, .inr (.inl v0)))] → va_S A s.heap H locs → ∀ (ls : Array Slot), lv_has ls 5 (kvA 0 q0 (kvI 1 x1 (kvJ 2 x2 (kvI 4 x4 kvE)))) → f_X3_areLet_3 n0 n v0 x1 x2 x4 = some res → W p l e (headSpec wsX3_areLet (kRm 1 0 0 21)).room s m ([.ref q0, .int p1, .long p2] : List Value).toArray below meth c H locs 0 0 (MQ below (kI (dC, dI) .boolean (res) [(q0, .inl (cJ, n0, .inr (.inl v0)))] A) ([.ref q0, .int p1, .long p2] : List Value).toArray s 0 0 A) (F0 m 3 ls []) := by
    intro n
    induction n with
    | zero =>
      intro v0 x1 x2 x4 H locs hP hD hS ls hl h
      have h := f_X3_areLet_3_0.symm.trans h
      cases h
    | succ n ih =>
      intro v0 x1 x2 x4 H locs hP hD hS ls hl h
      have h := f_X3_areLet_3_s.symm.trans h
      refine lv_iload hx hb (kdr dgX3_areLet_0 0 2 rfl rfl) (lv_at hl 3 rfl) ?_
      refine lv_iload_n hx hb (kdr dgX3_areLet_0 0 3 rfl rfl) rfl (lv_at hl 1 rfl) ?_
      refine lv_icmp_ge (tgt := 29) hx hb (kdr dgX3_areLet_0 0 4 rfl rfl) (by decide) (fun c1 => ?_) (fun c1 => ?_)
      · have h := g_t c1 h
        refine lv_iconst (v := 1) hx hb (kdr dgX3_areLet_0 1 6 rfl rfl) (by decide) ?_
        have h := Option.some.inj h
        subst h
        exact kret_i (v := 1) hx hb hr rfl hlocks hS hP (kdr dgX3_areLet_0 1 7 rfl rfl)
      · have h := g_f c1 h
        refine lv_aload_n hx hb (kdr dgX3_areLet_0 0 5 rfl rfl) rfl (lv_at hl 0 rfl) ?_
        refine lv_iload hx hb (kdr dgX3_areLet_0 0 6 rfl rfl) (lv_at hl 3 rfl) ?_
        obtain ⟨z1, h⟩ := g_if h
        refine va_lald hx hb hK hP 0 2 rfl rfl (ix_in z1) (kdr dgX3_areLet_0 0 7 rfl rfl) ?_
        refine lv_lload_n hx hb (kdr dgX3_areLet_0 0 8 rfl rfl) rfl (lv_at hl 2 rfl) ?_
        refine lv_ladd hx hb (kdr dgX3_areLet_0 0 9 rfl rfl) ?_
        obtain ⟨r3, g3, h⟩ := g_b h
        refine kq_i [(q0, .inl (cJ, n0, .inr (.inl v0)))] (fun qP qD qF => va_runS (As := [.long ((v0 x4.toNatClampNeg) + x2)]) (rest := []) ⟨hx, hb, hml, hown, hts⟩ (c_X3_isLet l dC dI cB cI cJ cZ  _  ((v0 x4.toNatClampNeg) + x2) r3 g3) (kcwS hts kw_1131 kv_X3_isLet rfl rfl ⟨(Nat.le_of_ble_eq_true rfl), (Nat.le_of_ble_eq_true rfl)⟩) (kpS (A := A) (kPnil) hK ((kDnil (A := A))) hG) rfl rfl hl.1 rfl (lv_room (Nat.le_of_ble_eq_true rfl)) (kdr dgX3_areLet_0 1 0 rfl rfl) ⟨(Nat.le_of_ble_eq_true rfl), (Nat.le_of_ble_eq_true rfl)⟩) hP hD hS hA kFr_n (fun H locs hP hD hS br3 => ?_)
        refine lv_if_ne (tgt := 23) hx hb (kdr dgX3_areLet_0 1 1 rfl rfl) (by decide) (fun c4 => ?_) (fun c4 => ?_)
        · have h := g_f c4 h
          refine lv_iinc (v := x4 + 1) (lv' := (kvI 4 (x4 + 1) (kvA 0 q0 (kvI 1 x1 (kvJ 2 x2 kvE))))) hx hb (kdr dgX3_areLet_0 1 4 rfl rfl) hl (k := 3) rfl rfl (by decide) rfl (fun ls hl => ?_)
          refine lv_goto (tgt := 3) hx hb (kdr dgX3_areLet_0 1 5 rfl rfl) (by decide) ?_
          exact ih v0 x1 x2 (x4 + 1) _ _ hP hD hS ls (lv_sub hl [1, 2, 3, 0] rfl) h
        · have h := g_t c4 h
          refine lv_iconst (v := 0) hx hb (kdr dgX3_areLet_0 1 2 rfl rfl) (by decide) ?_
          have h := Option.some.inj h
          subst h
          exact kret_i (v := 0) hx hb hr rfl hlocks hS hP (kdr dgX3_areLet_0 1 3 rfl rfl)
  have h := f_X3_areLet_e.symm.trans hf
  refine lv_iconst (v := 0) hx hb (kdr dgX3_areLet_0 0 0 rfl rfl) (by decide) ?_
  refine lv_istore (lv' := (kvI 4 0 (kvA 0 q0 (kvI 1 p1 (kvJ 2 p2 kvE))))) hx hb (kdr dgX3_areLet_0 0 1 rfl rfl) hl (by decide) rfl (fun ls hl => ?_)
  exact J3 24 v0 p1 p2 0 _ _ hP hD hS ls (lv_sub hl [1, 2, 3, 0] rfl) h
noncomputable abbrev wsX3_shifted : List Cond := kWs yX3_shifted cX3_shifted 5 (some (.array .long))
noncomputable def f_X3_shifted_8 (n0 : Nat) : Nat → (Nat → Int64) → (Nat → Int64) → (Int64) → (Int32) → Option (Nat → Int64)
  | 0, _, _, _, _ => none
  | n + 1, v0, ext0, x1, x4 =>
    if (Int32.ofNat ((Int32.ofNat n0).toNatClampNeg)) ≤ x4 then
      some ext0
    else
      if ix x4 n0 then
        if ix x4 ((Int32.ofNat n0).toNatClampNeg) then
          f_X3_shifted_8 n0 n v0 (vp_updL ext0 x4.toNatClampNeg ((v0 x4.toNatClampNeg) + x1)) x1 (x4 + 1)
        else none
      else none
theorem f_X3_shifted_8_0 {n0 : Nat} {v0 : Nat → Int64} {ext0 : Nat → Int64} {x1 : Int64} {x4 : Int32} : f_X3_shifted_8 n0 0 v0 ext0 x1 x4 = none := rfl
theorem f_X3_shifted_8_s {n0 : Nat} {n : Nat} {v0 : Nat → Int64} {ext0 : Nat → Int64} {x1 : Int64} {x4 : Int32} : f_X3_shifted_8 n0 (n + 1) v0 ext0 x1 x4 =
  if (Int32.ofNat ((Int32.ofNat n0).toNatClampNeg)) ≤ x4 then
    some ext0
  else
    if ix x4 n0 then
      if ix x4 ((Int32.ofNat n0).toNatClampNeg) then
        f_X3_shifted_8 n0 n v0 (vp_updL ext0 x4.toNatClampNeg ((v0 x4.toNatClampNeg) + x1)) x1 (x4 + 1)
      else none
    else none := rfl
noncomputable def f_X3_shifted (n0 : Nat) (v0 : Nat → Int64) (p1 : Int64) : Option (Nat → Int64) :=
  if ix (Int32.ofNat n0) 17 then
    f_X3_shifted_8 n0 24 v0 (fun _ => 0) p1 0
  else none
theorem f_X3_shifted_e {n0 : Nat} {v0 : Nat → Int64} {p1 : Int64} : f_X3_shifted n0 v0 p1 = 
  if ix (Int32.ofNat n0) 17 then
    f_X3_shifted_8 n0 24 v0 (fun _ => 0) p1 0
  else none := rfl
set_option maxHeartbeats 4000000 in
set_option maxRecDepth 100000 in
theorem c_X3_shifted (l : Launch) (dC : Nat → ClassId) (dI : Nat → Nat → Nat) (cB cI cJ cZ : ClassId) (q0 : Nat) (n0 : Nat) (sz : Nat) (v0 : Nat → Int64) (p1 : Int64) (res : Nat → Int64) (hf : f_X3_shifted n0 v0 p1 = some res) : Met l yX3_shifted wsX3_shifted (kRm 0 1 16 0) (kPre (dC, dI) (kTy cB cI cJ cZ) [.ref q0, .long p1] sz [(q0, .inl (cJ, n0, .inr (.inl v0)))]) (kR (dC, dI) (.inl (cJ, (Int32.ofNat n0).toNatClampNeg, .inr (.inl (res)))) [(q0, .inl (cJ, n0, .inr (.inl v0)))] (va_A [(q0, .inl (cJ, n0, .inr (.inl v0)))] sz)) 1 16 (va_A [(q0, .inl (cJ, n0, .inr (.inl v0)))] sz) := by
  refine Met.ofW (cc := cX3_shifted) (maxL := 5) (ret := (some (.array .long))) (by decide) rfl ?_
  intro p e s m args below meth c s₁ B hml hv
  obtain ⟨rfl, hsz, hP, hK, hD0, hG⟩ := hv
  have hx := B.exec
  have hb := B.bytes
  have hr := B.returns
  have hts := atoms_spec (ws := wsX3_shifted) B.pre
  have hown : s.vm.findClass RX3 = some m.cls := findClass_of_methodNamed B.named
  have hlocks := B.notSynchronized
  subst hsz
  have hD := hD0.self (sz := s.heap.size)
  generalize hAe : va_A [(q0, .inl (cJ, n0, .inr (.inl v0)))] s.heap.size = A at hD ⊢
  have hA : ∀ q : Nat, s.heap.size ≤ q → A q := fun q h => by rw [← hAe]; exact Or.inr h
  have hS : va_S A s.heap s.heap [] := va_S.rf
  clear hAe
  have hw0 := hts (.arrayClass .long) (List.mem_cons_of_mem _ kw_105)
  have J8 : ∀ (n : Nat), ∀ (v0 : Nat → Int64) (ext0 : Nat → Int64) (x1 : Int64) (x4 : Int32) (qn0 : Nat) (H : Heap) (locs : List Loc), va_P (dC, dI) vwCl ([(q0, .inl (cJ, n0, .inr (.inl v0)))] ++ [(qn0, .inl (cJ, (Int32.ofNat n0).toNatClampNeg, .inr (.inl ext0)))]) H → va_D A ([(q0, .inl (cJ, n0, .inr (.inl v0)))] ++ [(qn0, .inl (cJ, (Int32.ofNat n0).toNatClampNeg, .inr (.inl ext0)))]) → va_S A s.heap H locs → ∀ (ls : Array Slot), lv_has ls 5 (kvA 0 q0 (kvJ 1 x1 (kvA 3 qn0 (kvI 4 x4 kvE)))) → f_X3_shifted_8 n0 n v0 ext0 x1 x4 = some res → W p l e (headSpec wsX3_shifted (kRm 0 1 16 0)).room s m ([.ref q0, .long p1] : List Value).toArray below meth c H locs 1 16 (MQ below (kR (dC, dI) (.inl (cJ, (Int32.ofNat n0).toNatClampNeg, .inr (.inl (res)))) [(q0, .inl (cJ, n0, .inr (.inl v0)))] A) ([.ref q0, .long p1] : List Value).toArray s 1 16 A) (F0 m 8 ls []) := by
    intro n
    induction n with
    | zero =>
      intro v0 ext0 x1 x4 qn0 H locs hP hD hS ls hl h
      have h := f_X3_shifted_8_0.symm.trans h
      cases h
    | succ n ih =>
      intro v0 ext0 x1 x4 qn0 H locs hP hD hS ls hl h
      have h := f_X3_shifted_8_s.symm.trans h
      refine lv_iload hx hb (kdr dgX3_shifted_4 0 3 rfl rfl) (lv_at hl 3 rfl) ?_
      refine lv_aload_n hx hb (kdr dgX3_shifted_4 0 4 rfl rfl) rfl (lv_at hl 2 rfl) ?_
      refine va_alen (v := Int32.ofNat ((Int32.ofNat n0).toNatClampNeg)) hx hb hK hP 1 2 rfl rfl rfl (kdr dgX3_shifted_4 0 5 rfl rfl) ?_
      refine lv_icmp_ge (tgt := 31) hx hb (kdr dgX3_shifted_4 0 6 rfl rfl) (by decide) (fun c1 => ?_) (fun c1 => ?_)
      · have h := g_t c1 h
        refine lv_aload_n hx hb (kdr dgX3_shifted_4 1 7 rfl rfl) rfl (lv_at hl 2 rfl) ?_
        have h := Option.some.inj h
        subst h
        refine W.widen (k := 1) (n := 16) (Nat.le_of_ble_eq_true rfl) (Nat.le_of_ble_eq_true rfl) ?_
        exact kret_r (q := qn0) hx hb hr (Or.inr ⟨_, rfl⟩) hlocks hS hP hD (kdr dgX3_shifted_4 1 8 rfl rfl)
      · have h := g_f c1 h
        refine lv_aload_n hx hb (kdr dgX3_shifted_4 0 7 rfl rfl) rfl (lv_at hl 2 rfl) ?_
        refine lv_iload hx hb (kdr dgX3_shifted_4 0 8 rfl rfl) (lv_at hl 3 rfl) ?_
        refine lv_aload_n hx hb (kdr dgX3_shifted_4 0 9 rfl rfl) rfl (lv_at hl 0 rfl) ?_
        refine lv_iload hx hb (kdr dgX3_shifted_4 1 0 rfl rfl) (lv_at hl 3 rfl) ?_
        obtain ⟨z1, h⟩ := g_if h
        refine va_lald hx hb hK hP 0 2 rfl rfl (ix_in z1) (kdr dgX3_shifted_4 1 1 rfl rfl) ?_
        refine lv_lload_n hx hb (kdr dgX3_shifted_4 1 2 rfl rfl) rfl (lv_at hl 1 rfl) ?_
        refine lv_ladd hx hb (kdr dgX3_shifted_4 1 3 rfl rfl) ?_
        obtain ⟨z2, h⟩ := g_if h
        refine va_last hx hb hK hP hD hS 1 2 rfl rfl (ix_in z2) (kdr dgX3_shifted_4 1 4 rfl rfl) (fun H locs hP hD hS => ?_)
        have hP : va_P (dC, dI) vwCl ([(q0, .inl (cJ, n0, .inr (.inl v0)))] ++ [(qn0, .inl (cJ, (Int32.ofNat n0).toNatClampNeg, .inr (.inl (vp_updL ext0 x4.toNatClampNeg ((v0 x4.toNatClampNeg) + x1)))))]) H := hP
        have hD : va_D A ([(q0, .inl (cJ, n0, .inr (.inl v0)))] ++ [(qn0, .inl (cJ, (Int32.ofNat n0).toNatClampNeg, .inr (.inl (vp_updL ext0 x4.toNatClampNeg ((v0 x4.toNatClampNeg) + x1)))))]) := hD
        refine lv_iinc (v := x4 + 1) (lv' := (kvI 4 (x4 + 1) (kvA 0 q0 (kvJ 1 x1 (kvA 3 qn0 kvE))))) hx hb (kdr dgX3_shifted_4 1 5 rfl rfl) hl (k := 3) rfl rfl (by decide) rfl (fun ls hl => ?_)
        refine lv_goto (tgt := 8) hx hb (kdr dgX3_shifted_4 1 6 rfl rfl) (by decide) ?_
        exact ih v0 (vp_updL ext0 x4.toNatClampNeg ((v0 x4.toNatClampNeg) + x1)) x1 (x4 + 1) qn0 _ _ hP hD hS ls (lv_sub hl [1, 2, 3, 0] rfl) h
  have hl := lv_entry ([.ref q0, .long p1]) (n := 5) (Nat.le_of_ble_eq_true rfl)
  rw [lg_entry_eq]
  generalize (lg_sl ([.ref q0, .long p1]) ++ List.replicate (5 - (lg_sl ([.ref q0, .long p1])).length) Slot.unset).toArray = ls at hl ⊢
  have hl : lv_has ls 5 (kvA 0 q0 (kvJ 1 p1 kvE)) := hl
  have h := f_X3_shifted_e.symm.trans hf
  refine lv_aload_n hx hb (kdr dgX3_shifted_0 0 0 rfl rfl) rfl (lv_at hl 0 rfl) ?_
  refine va_alen (v := Int32.ofNat n0) hx hb hK hP 0 2 rfl rfl rfl (kdr dgX3_shifted_0 0 1 rfl rfl) ?_
  obtain ⟨z0, h⟩ := g_if h
  refine va_newa (atype := .long) (ty := .long) (a0 := ((Int32.ofNat n0).toNatClampNeg, .inr (.inl (fun _ => 0)))) hx hb hw0 rfl hK hP hD hS hA (fun _ => rfl) (kn_pos z0) rfl (kn_by z0 (by decide)) (Nat.le_of_ble_eq_true rfl) (kn_slg z0 (Nat.le_of_ble_eq_true rfl)) dX3_shifted_2 (fun qn0 cA H hK9 hP hD hS => ?_)
  have e9 : cA = cJ := k_cA hK9 2 rfl
  rw [e9] at hP hD
  have hP : va_P (dC, dI) vwCl ([(q0, .inl (cJ, n0, .inr (.inl v0)))] ++ [(qn0, .inl (cJ, (Int32.ofNat n0).toNatClampNeg, .inr (.inl (fun _ => 0))))]) H := hP
  have hD : va_D A ([(q0, .inl (cJ, n0, .inr (.inl v0)))] ++ [(qn0, .inl (cJ, (Int32.ofNat n0).toNatClampNeg, .inr (.inl (fun _ => 0))))]) := hD
  refine W.widen (k := 1) (n := 16) (Nat.le_of_ble_eq_true rfl) (kn_slg z0 (Nat.le_of_ble_eq_true rfl)) ?_
  refine lv_astore_n (lv' := (kvA 3 qn0 (kvA 0 q0 (kvJ 1 p1 kvE)))) hx hb (kdr dgX3_shifted_4 0 0 rfl rfl) rfl hl (by decide) rfl (fun ls hl => ?_)
  refine lv_iconst (v := 0) hx hb (kdr dgX3_shifted_4 0 1 rfl rfl) (by decide) ?_
  refine lv_istore (lv' := (kvI 4 0 (kvA 3 qn0 (kvA 0 q0 (kvJ 1 p1 kvE))))) hx hb (kdr dgX3_shifted_4 0 2 rfl rfl) hl (by decide) rfl (fun ls hl => ?_)
  exact J8 24 v0 (fun _ => 0) p1 0 qn0 _ _ hP hD hS ls (lv_sub hl [2, 3, 1, 0] rfl) h
noncomputable abbrev wsX3_shift : List Cond := kWs yX3_shift cX3_shift 6 (some .int)
noncomputable def f_X3_shift_128 (mce : Nat → Int64) (mfr : Int64) (mun : Int64) (mbe : Nat → Int64) (men : Nat → Int64) (mwb : Nat → Int64) (mwe : Nat → Int64) (mac : Int32) (mre : Int32) (mth : Int32) : Option ((Int32) × (Nat → Int64) × (Int64) × (Int64) × (Nat → Int64) × (Nat → Int64) × (Nat → Int64) × (Nat → Int64) × (Int32) × (Int32) × (Int32)) :=
  (f_X3_no mre).bind fun r1 =>
  some (r1.1, mce, mfr, mun, mbe, men, mwb, mwe, mac, r1.2, mth)
theorem f_X3_shift_128_e {mce : Nat → Int64} {mfr : Int64} {mun : Int64} {mbe : Nat → Int64} {men : Nat → Int64} {mwb : Nat → Int64} {mwe : Nat → Int64} {mac : Int32} {mre : Int32} {mth : Int32} : f_X3_shift_128 mce mfr mun mbe men mwb mwe mac mre mth =
  (f_X3_no mre).bind fun r1 =>
  some (r1.1, mce, mfr, mun, mbe, men, mwb, mwe, mac, r1.2, mth) := rfl
noncomputable def f_X3_shift_91 (mce : Nat → Int64) (mfr : Int64) (mun : Int64) (mbe : Nat → Int64) (men : Nat → Int64) (msp : Int32) (mwb : Nat → Int64) (mwe : Nat → Int64) (mwi : Int32) (mac : Int32) (mre : Int32) (mth : Int32) (x3 : Int64) (y0 : Int32) : Option ((Int32) × (Nat → Int64) × (Int64) × (Int64) × (Nat → Int64) × (Nat → Int64) × (Nat → Int64) × (Nat → Int64) × (Int32) × (Int32) × (Int32)) :=
  if y0 = 0 then
    f_X3_shift_128 mce mfr mun mbe men mwb mwe mac mre mth
  else
    (f_X3_areLet 8 mwb mwi x3).bind fun r2 =>
    if r2 = 0 then
      f_X3_shift_128 mce mfr mun mbe men mwb mwe mac mre mth
    else
      (f_X3_areLet 8 mwe mwi x3).bind fun r4 =>
      if r4 = 0 then
        f_X3_shift_128 mce mfr mun mbe men mwb mwe mac mre mth
      else
        (f_X3_shifted 4 mce x3).bind fun r6 =>
        (f_X3_shifted 10 mbe x3).bind fun r7 =>
        (f_X3_shifted 10 men x3).bind fun r8 =>
        (f_X3_shifted 8 mwb x3).bind fun r9 =>
        (f_X3_shifted 8 mwe x3).bind fun r10 =>
        (f_X3_done mac ((6 + (2 * msp)) + (2 * mwi))).bind fun r11 =>
        some (r11.1, r6, mfr + x3, mun + x3, r7, r8, r9, r10, r11.2, mre, mth)
theorem f_X3_shift_91_e {mce : Nat → Int64} {mfr : Int64} {mun : Int64} {mbe : Nat → Int64} {men : Nat → Int64} {msp : Int32} {mwb : Nat → Int64} {mwe : Nat → Int64} {mwi : Int32} {mac : Int32} {mre : Int32} {mth : Int32} {x3 : Int64} {y0 : Int32} : f_X3_shift_91 mce mfr mun mbe men msp mwb mwe mwi mac mre mth x3 y0 =
  if y0 = 0 then
    f_X3_shift_128 mce mfr mun mbe men mwb mwe mac mre mth
  else
    (f_X3_areLet 8 mwb mwi x3).bind fun r2 =>
    if r2 = 0 then
      f_X3_shift_128 mce mfr mun mbe men mwb mwe mac mre mth
    else
      (f_X3_areLet 8 mwe mwi x3).bind fun r4 =>
      if r4 = 0 then
        f_X3_shift_128 mce mfr mun mbe men mwb mwe mac mre mth
      else
        (f_X3_shifted 4 mce x3).bind fun r6 =>
        (f_X3_shifted 10 mbe x3).bind fun r7 =>
        (f_X3_shifted 10 men x3).bind fun r8 =>
        (f_X3_shifted 8 mwb x3).bind fun r9 =>
        (f_X3_shifted 8 mwe x3).bind fun r10 =>
        (f_X3_done mac ((6 + (2 * msp)) + (2 * mwi))).bind fun r11 =>
        some (r11.1, r6, mfr + x3, mun + x3, r7, r8, r9, r10, r11.2, mre, mth) := rfl
noncomputable def f_X3_shift_90 (mce : Nat → Int64) (mfr : Int64) (mun : Int64) (mbe : Nat → Int64) (men : Nat → Int64) (msp : Int32) (mwb : Nat → Int64) (mwe : Nat → Int64) (mwi : Int32) (mac : Int32) (mre : Int32) (mth : Int32) (x3 : Int64) : Option ((Int32) × (Nat → Int64) × (Int64) × (Int64) × (Nat → Int64) × (Nat → Int64) × (Nat → Int64) × (Nat → Int64) × (Int32) × (Int32) × (Int32)) :=
  f_X3_shift_91 mce mfr mun mbe men msp mwb mwe mwi mac mre mth x3 0
theorem f_X3_shift_90_e {mce : Nat → Int64} {mfr : Int64} {mun : Int64} {mbe : Nat → Int64} {men : Nat → Int64} {msp : Int32} {mwb : Nat → Int64} {mwe : Nat → Int64} {mwi : Int32} {mac : Int32} {mre : Int32} {mth : Int32} {x3 : Int64} : f_X3_shift_90 mce mfr mun mbe men msp mwb mwe mwi mac mre mth x3 =
  f_X3_shift_91 mce mfr mun mbe men msp mwb mwe mwi mac mre mth x3 0 := rfl
noncomputable def f_X3_shift (mce : Nat → Int64) (mfr : Int64) (mun : Int64) (mbe : Nat → Int64) (men : Nat → Int64) (msp : Int32) (mwb : Nat → Int64) (mwe : Nat → Int64) (mwi : Int32) (mac : Int32) (mre : Int32) (p0 : Int32) (p1 : Int32) : Option ((Int32) × (Nat → Int64) × (Int64) × (Int64) × (Nat → Int64) × (Nat → Int64) × (Nat → Int64) × (Nat → Int64) × (Int32) × (Int32) × (Int32)) :=
  (f_X3_isNoUnit p0 p1).bind fun r1 =>
  (f_X3_isThrown_ r1).bind fun r2 =>
  if r2.1 = 0 then
    (f_X3_units p0 p1).bind fun r4 =>
    (f_X3_areLet 4 mce 4 r4).bind fun r5 =>
    if r5 = 0 then
      f_X3_shift_90 mce mfr mun mbe men msp mwb mwe mwi mac mre r2.2 r4
    else
      (f_X3_isLet (mfr + r4)).bind fun r7 =>
      if r7 = 0 then
        f_X3_shift_90 mce mfr mun mbe men msp mwb mwe mwi mac mre r2.2 r4
      else
        (f_X3_isLet (mun + r4)).bind fun r9 =>
        if r9 = 0 then
          f_X3_shift_90 mce mfr mun mbe men msp mwb mwe mwi mac mre r2.2 r4
        else
          (f_X3_areLet 10 mbe msp r4).bind fun r11 =>
          if r11 = 0 then
            f_X3_shift_90 mce mfr mun mbe men msp mwb mwe mwi mac mre r2.2 r4
          else
            (f_X3_areLet 10 men msp r4).bind fun r13 =>
            if r13 = 0 then
              f_X3_shift_90 mce mfr mun mbe men msp mwb mwe mwi mac mre r2.2 r4
            else
              f_X3_shift_91 mce mfr mun mbe men msp mwb mwe mwi mac mre r2.2 r4 1
  else
    some (0, mce, mfr, mun, mbe, men, mwb, mwe, mac, mre, r2.2)
theorem f_X3_shift_e {mce : Nat → Int64} {mfr : Int64} {mun : Int64} {mbe : Nat → Int64} {men : Nat → Int64} {msp : Int32} {mwb : Nat → Int64} {mwe : Nat → Int64} {mwi : Int32} {mac : Int32} {mre : Int32} {p0 : Int32} {p1 : Int32} : f_X3_shift mce mfr mun mbe men msp mwb mwe mwi mac mre p0 p1 = 
  (f_X3_isNoUnit p0 p1).bind fun r1 =>
  (f_X3_isThrown_ r1).bind fun r2 =>
  if r2.1 = 0 then
    (f_X3_units p0 p1).bind fun r4 =>
    (f_X3_areLet 4 mce 4 r4).bind fun r5 =>
    if r5 = 0 then
      f_X3_shift_90 mce mfr mun mbe men msp mwb mwe mwi mac mre r2.2 r4
    else
      (f_X3_isLet (mfr + r4)).bind fun r7 =>
      if r7 = 0 then
        f_X3_shift_90 mce mfr mun mbe men msp mwb mwe mwi mac mre r2.2 r4
      else
        (f_X3_isLet (mun + r4)).bind fun r9 =>
        if r9 = 0 then
          f_X3_shift_90 mce mfr mun mbe men msp mwb mwe mwi mac mre r2.2 r4
        else
          (f_X3_areLet 10 mbe msp r4).bind fun r11 =>
          if r11 = 0 then
            f_X3_shift_90 mce mfr mun mbe men msp mwb mwe mwi mac mre r2.2 r4
          else
            (f_X3_areLet 10 men msp r4).bind fun r13 =>
            if r13 = 0 then
              f_X3_shift_90 mce mfr mun mbe men msp mwb mwe mwi mac mre r2.2 r4
            else
              f_X3_shift_91 mce mfr mun mbe men msp mwb mwe mwi mac mre r2.2 r4 1
  else
    some (0, mce, mfr, mun, mbe, men, mwb, mwe, mac, mre, r2.2) := rfl
set_option maxHeartbeats 4000000 in
set_option maxRecDepth 100000 in
theorem c_X3_shift (l : Launch) (dC : Nat → ClassId) (dI : Nat → Nat → Nat) (cB cI cJ cZ : ClassId) (b : Nat → Nat) (sz : Nat) (mce : Nat → Int64) (mfr : Int64) (mun : Int64) (mbe : Nat → Int64) (men : Nat → Int64) (mov : Nat → Int32) (msp : Int32) (mwb : Nat → Int64) (mwe : Nat → Int64) (mwi : Int32) (mac : Int32) (mre : Int32) (mkn : Int32) (mth : Int32) (p0 : Int32) (p1 : Int32) (res : (Int32) × (Nat → Int64) × (Int64) × (Int64) × (Nat → Int64) × (Nat → Int64) × (Nat → Int64) × (Nat → Int64) × (Int32) × (Int32) × (Int32)) (hf : f_X3_shift mce mfr mun mbe men msp mwb mwe mwi mac mre p0 p1 = some res) : Met l yX3_shift wsX3_shift (kRm 2 5 80 45) (kPre (dC, dI) (kTy cB cI cJ cZ) [.ref (b 0), .int p0, .int p1] sz (wMo cJ cZ b mce mfr mun mbe men mov msp mwb mwe mwi mac mre mkn mth)) (kSh (dC, dI) (res.1) (b 0) (fun b => (wMo cJ cZ b (res.2.1) (res.2.2.1) (res.2.2.2.1) (res.2.2.2.2.1) (res.2.2.2.2.2.1) mov msp (res.2.2.2.2.2.2.1) (res.2.2.2.2.2.2.2.1) mwi (res.2.2.2.2.2.2.2.2.1) (res.2.2.2.2.2.2.2.2.2.1) mkn (res.2.2.2.2.2.2.2.2.2.2))) (va_A (wMo cJ cZ b mce mfr mun mbe men mov msp mwb mwe mwi mac mre mkn mth) sz)) 5 80 (va_A (wMo cJ cZ b mce mfr mun mbe men mov msp mwb mwe mwi mac mre mkn mth) sz) := by
  refine Met.ofW (cc := cX3_shift) (maxL := 6) (ret := (some .int)) (by decide) rfl ?_
  intro p e s m args below meth c s₁ B hml hv
  obtain ⟨rfl, hsz, hP, hK, hD0, hG⟩ := hv
  have hx := B.exec
  have hb := B.bytes
  have hr := B.returns
  have hts := atoms_spec (ws := wsX3_shift) B.pre
  have hown : s.vm.findClass RX3 = some m.cls := findClass_of_methodNamed B.named
  have hlocks := B.notSynchronized
  subst hsz
  have hD := hD0.self (sz := s.heap.size)
  generalize hAe : va_A (wMo cJ cZ b mce mfr mun mbe men mov msp mwb mwe mwi mac mre mkn mth) s.heap.size = A at hD ⊢
  have hA : ∀ q : Nat, s.heap.size ≤ q → A q := fun q h => by rw [← hAe]; exact Or.inr h
  have hS : va_S A s.heap s.heap [] := va_S.rf
  clear hAe
  have hw0 := hts (.fieldLink RX3 7 "SpanbookerModel" "cells" "[J") (List.mem_cons_of_mem _ kw_1072)
  have hw1 := hts (.fieldLink RX3 29 "SpanbookerModel" "wishBegins" "[J") (List.mem_cons_of_mem _ kw_1079)
  have hw2 := hts (.fieldLink RX3 88 "SpanbookerModel" "wishes" "I") (List.mem_cons_of_mem _ kw_1081)
  have hw3 := hts (.fieldLink RX3 32 "SpanbookerModel" "wishEnds" "[J") (List.mem_cons_of_mem _ kw_1080)
  have hw4 := hts (.fieldLink RX3 53 "SpanbookerModel" "from" "J") (List.mem_cons_of_mem _ kw_1073)
  have hw5 := hts (.fieldLink RX3 15 "SpanbookerModel" "until" "J") (List.mem_cons_of_mem _ kw_1074)
  have hw6 := hts (.fieldLink RX3 19 "SpanbookerModel" "begins" "[J") (List.mem_cons_of_mem _ kw_1075)
  have hw7 := hts (.fieldLink RX3 22 "SpanbookerModel" "ends" "[J") (List.mem_cons_of_mem _ kw_1076)
  have hw8 := hts (.fieldLink RX3 56 "SpanbookerModel" "spans" "I") (List.mem_cons_of_mem _ kw_1078)
  have hiX3 : ∀ w ∈ u_ws RX3 TX3 14, w ∈ wsX3_shift := fun w h => List.mem_cons_of_mem _ (ku_X3 w h)
  have J128 : ∀ (mce : Nat → Int64) (mfr : Int64) (mun : Int64) (mbe : Nat → Int64) (men : Nat → Int64) (mov : Nat → Int32) (msp : Int32) (mwb : Nat → Int64) (mwe : Nat → Int64) (mwi : Int32) (mac : Int32) (mre : Int32) (mkn : Int32) (mth : Int32) (H : Heap) (locs : List Loc), va_P (dC, dI) vwCl (wMo cJ cZ b mce mfr mun mbe men mov msp mwb mwe mwi mac mre mkn mth) H → va_D A (wMo cJ cZ b mce mfr mun mbe men mov msp mwb mwe mwi mac mre mkn mth) → va_S A s.heap H locs → ∀ (ls : Array Slot), lv_has ls 6 (kvA 0 (b 0) kvE) → f_X3_shift_128 mce mfr mun mbe men mwb mwe mac mre mth = some res → W p l e (headSpec wsX3_shift (kRm 2 5 80 45)).room s m ([.ref (b 0), .int p0, .int p1] : List Value).toArray below meth c H locs 0 0 (MQ below (kSh (dC, dI) (res.1) (b 0) (fun b => (wMo cJ cZ b (res.2.1) (res.2.2.1) (res.2.2.2.1) (res.2.2.2.2.1) (res.2.2.2.2.2.1) mov msp (res.2.2.2.2.2.2.1) (res.2.2.2.2.2.2.2.1) mwi (res.2.2.2.2.2.2.2.2.1) (res.2.2.2.2.2.2.2.2.2.1) mkn (res.2.2.2.2.2.2.2.2.2.2))) A) ([.ref (b 0), .int p0, .int p1] : List Value).toArray s 5 80 A) (F0 m 128 ls []) := by
    intro mce mfr mun mbe men mov msp mwb mwe mwi mac mre mkn mth H locs hP hD hS ls hl h
    have h := f_X3_shift_128_e.symm.trans h
    refine lv_aload_n hx hb (kdr dgX3_shift_0 6 4 rfl rfl) rfl (lv_at hl 0 rfl) ?_
    obtain ⟨r1, g1, h⟩ := g_b h
    refine kq_i (wMo cJ cZ b mce mfr mun mbe men mov msp mwb mwe mwi mac r1.2 mkn mth) (fun qP qD qF => va_runV (As := []) (rest := []) ⟨hx, hb, hml, hown, hts⟩ (c_X3_no l dC dI cB cI cJ cZ b _ mce mfr mun mbe men mov msp mwb mwe mwi mac mre mkn mth  r1 g1) (kcwV hts kw_1136 kv_X3_no rfl rfl ⟨(Nat.le_of_ble_eq_true rfl), (Nat.le_of_ble_eq_true rfl)⟩) (kpV (A := A) qP hK qD hG (krecv_5 (q0 := 0) hK hP rfl)) rfl rfl hl.1 rfl (lv_room (Nat.le_of_ble_eq_true rfl)) (kdr dgX3_shift_0 6 5 rfl rfl) ⟨(Nat.le_of_ble_eq_true rfl), (Nat.le_of_ble_eq_true rfl)⟩) hP hD hS hA kFr_Mo (fun H locs hP hD hS br1 => ?_)
    have hP := hP.sub (ws' := (wMo cJ cZ (kadr (b 0) (b 1) (b 2) (b 3) (b 4) (b 5) (b 6)) mce mfr mun mbe men mov msp mwb mwe mwi mac r1.2 mkn mth)) [0, 1, 2, 3, 4, 5, 6] rfl
    have hD := hD.sub (ws' := (wMo cJ cZ (kadr (b 0) (b 1) (b 2) (b 3) (b 4) (b 5) (b 6)) mce mfr mun mbe men mov msp mwb mwe mwi mac r1.2 mkn mth)) [0, 1, 2, 3, 4, 5, 6] (by decide) rfl
    have h := Option.some.inj h
    subst h
    refine W.widen (k := 5) (n := 80) (Nat.le_of_ble_eq_true rfl) (Nat.le_of_ble_eq_true rfl) ?_
    exact kret_sh (v := r1.1) (u := (kadr (b 0) (b 1) (b 2) (b 3) (b 4) (b 5) (b 6))) (b0 := (b 0)) hx hb hr hlocks hS rfl hP hD (kdr dgX3_shift_0 6 6 rfl rfl)
  have J91 : ∀ (mce : Nat → Int64) (mfr : Int64) (mun : Int64) (mbe : Nat → Int64) (men : Nat → Int64) (mov : Nat → Int32) (msp : Int32) (mwb : Nat → Int64) (mwe : Nat → Int64) (mwi : Int32) (mac : Int32) (mre : Int32) (mkn : Int32) (mth : Int32) (x3 : Int64) (y0 : Int32) (H : Heap) (locs : List Loc), va_P (dC, dI) vwCl (wMo cJ cZ b mce mfr mun mbe men mov msp mwb mwe mwi mac mre mkn mth) H → va_D A (wMo cJ cZ b mce mfr mun mbe men mov msp mwb mwe mwi mac mre mkn mth) → va_S A s.heap H locs → ∀ (ls : Array Slot), lv_has ls 6 (kvA 0 (b 0) (kvJ 3 x3 kvE)) → f_X3_shift_91 mce mfr mun mbe men msp mwb mwe mwi mac mre mth x3 y0 = some res → W p l e (headSpec wsX3_shift (kRm 2 5 80 45)).room s m ([.ref (b 0), .int p0, .int p1] : List Value).toArray below meth c H locs 0 0 (MQ below (kSh (dC, dI) (res.1) (b 0) (fun b => (wMo cJ cZ b (res.2.1) (res.2.2.1) (res.2.2.2.1) (res.2.2.2.2.1) (res.2.2.2.2.2.1) mov msp (res.2.2.2.2.2.2.1) (res.2.2.2.2.2.2.2.1) mwi (res.2.2.2.2.2.2.2.2.1) (res.2.2.2.2.2.2.2.2.2.1) mkn (res.2.2.2.2.2.2.2.2.2.2))) A) ([.ref (b 0), .int p0, .int p1] : List Value).toArray s 5 80 A) (F0 m 91 ls [.int y0]) := by
    intro mce mfr mun mbe men mov msp mwb mwe mwi mac mre mkn mth x3 y0 H locs hP hD hS ls hl h
    have h := f_X3_shift_91_e.symm.trans h
    refine lv_istore (lv' := (kvI 5 y0 (kvA 0 (b 0) (kvJ 3 x3 kvE)))) hx hb (kdr dgX3_shift_0 4 7 rfl rfl) hl (by decide) rfl (fun ls hl => ?_)
    refine lv_iload hx hb (kdr dgX3_shift_0 4 8 rfl rfl) (lv_at hl 0 rfl) ?_
    refine lv_if_eq (tgt := 128) hx hb (kdr dgX3_shift_0 4 9 rfl rfl) (by decide) (fun c1 => ?_) (fun c1 => ?_)
    · have h := g_t c1 h
      exact J128 mce mfr mun mbe men mov msp mwb mwe mwi mac mre mkn mth _ _ hP hD hS ls (lv_sub hl [1] rfl) h
    · have h := g_f c1 h
      refine lv_aload_n hx hb (kdr dgX3_shift_0 5 0 rfl rfl) rfl (lv_at hl 1 rfl) ?_
      refine va_get (D := (dC, dI)) (ci := 5) (v := .ref (b 5)) (C := RX3) (T := TX3) (N := 14) hx hb hts hiX3 hown hK hP 0 rfl rfl 7 (by decide) hw1 (fun _ h9 => h9) rfl (kdr dgX3_shift_0 5 1 rfl rfl) ?_
      refine lv_aload_n hx hb (kdr dgX3_shift_0 5 2 rfl rfl) rfl (lv_at hl 1 rfl) ?_
      refine va_get (D := (dC, dI)) (ci := 5) (v := .int mwi) (C := RX3) (T := TX3) (N := 14) hx hb hts hiX3 hown hK hP 0 rfl rfl 9 (by decide) hw2 (fun _ h9 => h9) rfl (kdr dgX3_shift_0 5 3 rfl rfl) ?_
      refine lv_lload_n hx hb (kdr dgX3_shift_0 5 4 rfl rfl) rfl (lv_at hl 2 rfl) ?_
      obtain ⟨r2, g2, h⟩ := g_b h
      refine kcall_i (wMo cJ cZ b mce mfr mun mbe men mov msp mwb mwe mwi mac mre mkn mth) (va_runS (As := [.ref (b 5), .int mwi, .long x3]) (rest := []) ⟨hx, hb, hml, hown, hts⟩ (c_X3_areLet l dC dI cB cI cJ cZ (b 5) 8 _ mwb mwi x3 r2 g2) (kcwS hts kw_1182 kv_X3_areLet rfl rfl ⟨(Nat.le_of_ble_eq_true rfl), (Nat.le_of_ble_eq_true rfl)⟩) (kpS (A := A) (hP.sub (kIT mk_13 0) (km_f (m := mk_13) rfl rfl)) hK (hD.sub (kIT mk_13 0) (km_nd mk_13) (km_T (m := mk_13) rfl rfl)) hG) rfl rfl hl.1 rfl (lv_room (Nat.le_of_ble_eq_true rfl)) (kdr dgX3_shift_0 5 5 rfl rfl) ⟨(Nat.le_of_ble_eq_true rfl), (Nat.le_of_ble_eq_true rfl)⟩) hP hD hS hA (kIT mk_13 0) (kIT mk_14 0) (km_T (m := mk_13) rfl rfl) (km_T (m := mk_13) rfl rfl) [((b 0), .inr (5, [.ref (b 1), .long mfr, .long mun, .ref (b 2), .ref (b 3), .ref (b 4), .int msp, .ref (b 5), .ref (b 6), .int mwi, .int mac, .int mre, .int mkn, .int mth])), ((b 1), .inl (cJ, 4, .inr (.inl mce))), ((b 2), .inl (cJ, 10, .inr (.inl mbe))), ((b 3), .inl (cJ, 10, .inr (.inl men))), ((b 4), .inl (cZ, 10, .inl mov)), ((b 6), .inl (cJ, 8, .inr (.inl mwe)))] (km_T (m := mk_14) rfl rfl) (km_T (m := mk_14) rfl rfl) (km_cov (m := mk_13) (n := mk_14) rfl rfl) (km_dis (m := mk_13) (n := mk_14) rfl) rfl (fun H locs hP hD hS br2 => ?_)
      refine lv_if_eq (tgt := 128) hx hb (kdr dgX3_shift_0 5 6 rfl rfl) (by decide) (fun c3 => ?_) (fun c3 => ?_)
      · have h := g_t c3 h
        exact J128 mce mfr mun mbe men mov msp mwb mwe mwi mac mre mkn mth _ _ hP hD hS ls (lv_sub hl [1] rfl) h
      · have h := g_f c3 h
        refine lv_aload_n hx hb (kdr dgX3_shift_0 5 7 rfl rfl) rfl (lv_at hl 1 rfl) ?_
        refine va_get (D := (dC, dI)) (ci := 5) (v := .ref (b 6)) (C := RX3) (T := TX3) (N := 14) hx hb hts hiX3 hown hK hP 0 rfl rfl 8 (by decide) hw3 (fun _ h9 => h9) rfl (kdr dgX3_shift_0 5 8 rfl rfl) ?_
        refine lv_aload_n hx hb (kdr dgX3_shift_0 5 9 rfl rfl) rfl (lv_at hl 1 rfl) ?_
        refine va_get (D := (dC, dI)) (ci := 5) (v := .int mwi) (C := RX3) (T := TX3) (N := 14) hx hb hts hiX3 hown hK hP 0 rfl rfl 9 (by decide) hw2 (fun _ h9 => h9) rfl (kdr dgX3_shift_0 6 0 rfl rfl) ?_
        refine lv_lload_n hx hb (kdr dgX3_shift_0 6 1 rfl rfl) rfl (lv_at hl 2 rfl) ?_
        obtain ⟨r4, g4, h⟩ := g_b h
        refine kcall_i (wMo cJ cZ b mce mfr mun mbe men mov msp mwb mwe mwi mac mre mkn mth) (va_runS (As := [.ref (b 6), .int mwi, .long x3]) (rest := []) ⟨hx, hb, hml, hown, hts⟩ (c_X3_areLet l dC dI cB cI cJ cZ (b 6) 8 _ mwe mwi x3 r4 g4) (kcwS hts kw_1182 kv_X3_areLet rfl rfl ⟨(Nat.le_of_ble_eq_true rfl), (Nat.le_of_ble_eq_true rfl)⟩) (kpS (A := A) (hP.sub (kIT mk_15 0) (km_f (m := mk_15) rfl rfl)) hK (hD.sub (kIT mk_15 0) (km_nd mk_15) (km_T (m := mk_15) rfl rfl)) hG) rfl rfl hl.1 rfl (lv_room (Nat.le_of_ble_eq_true rfl)) (kdr dgX3_shift_0 6 2 rfl rfl) ⟨(Nat.le_of_ble_eq_true rfl), (Nat.le_of_ble_eq_true rfl)⟩) hP hD hS hA (kIT mk_15 0) (kIT mk_16 0) (km_T (m := mk_15) rfl rfl) (km_T (m := mk_15) rfl rfl) [((b 0), .inr (5, [.ref (b 1), .long mfr, .long mun, .ref (b 2), .ref (b 3), .ref (b 4), .int msp, .ref (b 5), .ref (b 6), .int mwi, .int mac, .int mre, .int mkn, .int mth])), ((b 1), .inl (cJ, 4, .inr (.inl mce))), ((b 2), .inl (cJ, 10, .inr (.inl mbe))), ((b 3), .inl (cJ, 10, .inr (.inl men))), ((b 4), .inl (cZ, 10, .inl mov)), ((b 5), .inl (cJ, 8, .inr (.inl mwb)))] (km_T (m := mk_16) rfl rfl) (km_T (m := mk_16) rfl rfl) (km_cov (m := mk_15) (n := mk_16) rfl rfl) (km_dis (m := mk_15) (n := mk_16) rfl) rfl (fun H locs hP hD hS br4 => ?_)
        refine lv_if_ne (tgt := 133) hx hb (kdr dgX3_shift_0 6 3 rfl rfl) (by decide) (fun c5 => ?_) (fun c5 => ?_)
        · have h := g_f c5 h
          refine lv_aload_n hx hb (kdr dgX3_shift_0 6 7 rfl rfl) rfl (lv_at hl 1 rfl) ?_
          refine lv_aload_n hx hb (kdr dgX3_shift_0 6 8 rfl rfl) rfl (lv_at hl 1 rfl) ?_
          refine va_get (D := (dC, dI)) (ci := 5) (v := .ref (b 1)) (C := RX3) (T := TX3) (N := 14) hx hb hts hiX3 hown hK hP 0 rfl rfl 0 (by decide) hw0 (fun _ h9 => h9) rfl (kdr dgX3_shift_0 6 9 rfl rfl) ?_
          refine lv_lload_n hx hb (kdr dgX3_shift_0 7 0 rfl rfl) rfl (lv_at hl 2 rfl) ?_
          obtain ⟨r6, g6, h⟩ := g_b h
          refine kcall_r (wMo cJ cZ b mce mfr mun mbe men mov msp mwb mwe mwi mac mre mkn mth) (va_runS (As := [.ref (b 1), .long x3]) (rest := [.ref (b 0)]) ⟨hx, hb, hml, hown, hts⟩ (c_X3_shifted l dC dI cB cI cJ cZ (b 1) 4 _ mce x3 r6 g6) (kcwS hts kw_1185 kv_X3_shifted rfl rfl ⟨(Nat.le_of_ble_eq_true rfl), (Nat.le_of_ble_eq_true rfl)⟩) (kpS (A := A) (hP.sub [1] rfl) hK (hD.sub [1] (by decide) rfl) hG) rfl rfl hl.1 rfl (lv_room (Nat.le_of_ble_eq_true rfl)) (kdr dgX3_shift_0 7 1 rfl rfl) ⟨(Nat.le_of_ble_eq_true rfl), (Nat.le_of_ble_eq_true rfl)⟩) hP hD hS hA [1] [0, 2, 3, 4, 5, 6] rfl rfl [((b 0), .inr (5, [.ref (b 1), .long mfr, .long mun, .ref (b 2), .ref (b 3), .ref (b 4), .int msp, .ref (b 5), .ref (b 6), .int mwi, .int mac, .int mre, .int mkn, .int mth])), ((b 2), .inl (cJ, 10, .inr (.inl mbe))), ((b 3), .inl (cJ, 10, .inr (.inl men))), ((b 4), .inl (cZ, 10, .inl mov)), ((b 5), .inl (cJ, 8, .inr (.inl mwb))), ((b 6), .inl (cJ, 8, .inr (.inl mwe)))] rfl rfl rfl (by decide) rfl rfl (fun qn0 H locs hP hD hS => ?_)
          have hP : va_P (dC, dI) vwCl ((wMo cJ cZ b mce mfr mun mbe men mov msp mwb mwe mwi mac mre mkn mth) ++ [(qn0, .inl (cJ, (Int32.ofNat 4).toNatClampNeg, .inr (.inl r6)))]) H := hP
          have hD : va_D A ((wMo cJ cZ b mce mfr mun mbe men mov msp mwb mwe mwi mac mre mkn mth) ++ [(qn0, .inl (cJ, (Int32.ofNat 4).toNatClampNeg, .inr (.inl r6)))]) := hD
          refine va_put (D := (dC, dI)) (ci := 5) (v := .ref qn0) (ty := (.array .long)) (C := RX3) (T := TX3) (N := 14) hx hb hts hiX3 tyX3 tyX3_ok nmX3 hown hK hP hD hS 0 rfl rfl 0 (by decide) hw0 (fun _ h9 => h9) rfl (by decide +kernel) rfl rfl (Nat.le_of_ble_eq_true rfl) (kdr dgX3_shift_0 7 2 rfl rfl) (fun H locs hP hD hS => ?_)
          have hP : va_P (dC, dI) vwCl [((b 0), .inr (5, [.ref qn0, .long mfr, .long mun, .ref (b 2), .ref (b 3), .ref (b 4), .int msp, .ref (b 5), .ref (b 6), .int mwi, .int mac, .int mre, .int mkn, .int mth])), ((b 1), .inl (cJ, 4, .inr (.inl mce))), ((b 2), .inl (cJ, 10, .inr (.inl mbe))), ((b 3), .inl (cJ, 10, .inr (.inl men))), ((b 4), .inl (cZ, 10, .inl mov)), ((b 5), .inl (cJ, 8, .inr (.inl mwb))), ((b 6), .inl (cJ, 8, .inr (.inl mwe))), (qn0, .inl (cJ, (Int32.ofNat 4).toNatClampNeg, .inr (.inl r6)))] H := hP
          have hD : va_D A [((b 0), .inr (5, [.ref qn0, .long mfr, .long mun, .ref (b 2), .ref (b 3), .ref (b 4), .int msp, .ref (b 5), .ref (b 6), .int mwi, .int mac, .int mre, .int mkn, .int mth])), ((b 1), .inl (cJ, 4, .inr (.inl mce))), ((b 2), .inl (cJ, 10, .inr (.inl mbe))), ((b 3), .inl (cJ, 10, .inr (.inl men))), ((b 4), .inl (cZ, 10, .inl mov)), ((b 5), .inl (cJ, 8, .inr (.inl mwb))), ((b 6), .inl (cJ, 8, .inr (.inl mwe))), (qn0, .inl (cJ, (Int32.ofNat 4).toNatClampNeg, .inr (.inl r6)))] := hD
          refine lv_aload_n hx hb (kdr dgX3_shift_0 7 3 rfl rfl) rfl (lv_at hl 1 rfl) ?_
          refine lv_dup hx hb (kdr dgX3_shift_0 7 4 rfl rfl) rfl ?_
          refine va_get (D := (dC, dI)) (ci := 5) (v := .long mfr) (C := RX3) (T := TX3) (N := 14) hx hb hts hiX3 hown hK hP 0 rfl rfl 1 (by decide) hw4 (fun _ h9 => h9) rfl (kdr dgX3_shift_0 7 5 rfl rfl) ?_
          refine lv_lload_n hx hb (kdr dgX3_shift_0 7 6 rfl rfl) rfl (lv_at hl 2 rfl) ?_
          refine lv_ladd hx hb (kdr dgX3_shift_0 7 7 rfl rfl) ?_
          refine va_put (D := (dC, dI)) (ci := 5) (v := .long (mfr + x3)) (ty := .long) (C := RX3) (T := TX3) (N := 14) hx hb hts hiX3 tyX3 tyX3_ok nmX3 hown hK hP hD hS 0 rfl rfl 1 (by decide) hw4 (fun _ h9 => h9) rfl (by decide +kernel) rfl rfl (Nat.le_of_ble_eq_true rfl) (kdr dgX3_shift_0 7 8 rfl rfl) (fun H locs hP hD hS => ?_)
          have hP : va_P (dC, dI) vwCl [((b 0), .inr (5, [.ref qn0, .long (mfr + x3), .long mun, .ref (b 2), .ref (b 3), .ref (b 4), .int msp, .ref (b 5), .ref (b 6), .int mwi, .int mac, .int mre, .int mkn, .int mth])), ((b 1), .inl (cJ, 4, .inr (.inl mce))), ((b 2), .inl (cJ, 10, .inr (.inl mbe))), ((b 3), .inl (cJ, 10, .inr (.inl men))), ((b 4), .inl (cZ, 10, .inl mov)), ((b 5), .inl (cJ, 8, .inr (.inl mwb))), ((b 6), .inl (cJ, 8, .inr (.inl mwe))), (qn0, .inl (cJ, (Int32.ofNat 4).toNatClampNeg, .inr (.inl r6)))] H := hP
          have hD : va_D A [((b 0), .inr (5, [.ref qn0, .long (mfr + x3), .long mun, .ref (b 2), .ref (b 3), .ref (b 4), .int msp, .ref (b 5), .ref (b 6), .int mwi, .int mac, .int mre, .int mkn, .int mth])), ((b 1), .inl (cJ, 4, .inr (.inl mce))), ((b 2), .inl (cJ, 10, .inr (.inl mbe))), ((b 3), .inl (cJ, 10, .inr (.inl men))), ((b 4), .inl (cZ, 10, .inl mov)), ((b 5), .inl (cJ, 8, .inr (.inl mwb))), ((b 6), .inl (cJ, 8, .inr (.inl mwe))), (qn0, .inl (cJ, (Int32.ofNat 4).toNatClampNeg, .inr (.inl r6)))] := hD
          refine lv_aload_n hx hb (kdr dgX3_shift_0 7 9 rfl rfl) rfl (lv_at hl 1 rfl) ?_
          refine lv_dup hx hb (kdr dgX3_shift_0 8 0 rfl rfl) rfl ?_
          refine va_get (D := (dC, dI)) (ci := 5) (v := .long mun) (C := RX3) (T := TX3) (N := 14) hx hb hts hiX3 hown hK hP 0 rfl rfl 2 (by decide) hw5 (fun _ h9 => h9) rfl (kdr dgX3_shift_0 8 1 rfl rfl) ?_
          refine lv_lload_n hx hb (kdr dgX3_shift_0 8 2 rfl rfl) rfl (lv_at hl 2 rfl) ?_
          refine lv_ladd hx hb (kdr dgX3_shift_0 8 3 rfl rfl) ?_
          refine va_put (D := (dC, dI)) (ci := 5) (v := .long (mun + x3)) (ty := .long) (C := RX3) (T := TX3) (N := 14) hx hb hts hiX3 tyX3 tyX3_ok nmX3 hown hK hP hD hS 0 rfl rfl 2 (by decide) hw5 (fun _ h9 => h9) rfl (by decide +kernel) rfl rfl (Nat.le_of_ble_eq_true rfl) (kdr dgX3_shift_0 8 4 rfl rfl) (fun H locs hP hD hS => ?_)
          have hP : va_P (dC, dI) vwCl [((b 0), .inr (5, [.ref qn0, .long (mfr + x3), .long (mun + x3), .ref (b 2), .ref (b 3), .ref (b 4), .int msp, .ref (b 5), .ref (b 6), .int mwi, .int mac, .int mre, .int mkn, .int mth])), ((b 1), .inl (cJ, 4, .inr (.inl mce))), ((b 2), .inl (cJ, 10, .inr (.inl mbe))), ((b 3), .inl (cJ, 10, .inr (.inl men))), ((b 4), .inl (cZ, 10, .inl mov)), ((b 5), .inl (cJ, 8, .inr (.inl mwb))), ((b 6), .inl (cJ, 8, .inr (.inl mwe))), (qn0, .inl (cJ, (Int32.ofNat 4).toNatClampNeg, .inr (.inl r6)))] H := hP
          have hD : va_D A [((b 0), .inr (5, [.ref qn0, .long (mfr + x3), .long (mun + x3), .ref (b 2), .ref (b 3), .ref (b 4), .int msp, .ref (b 5), .ref (b 6), .int mwi, .int mac, .int mre, .int mkn, .int mth])), ((b 1), .inl (cJ, 4, .inr (.inl mce))), ((b 2), .inl (cJ, 10, .inr (.inl mbe))), ((b 3), .inl (cJ, 10, .inr (.inl men))), ((b 4), .inl (cZ, 10, .inl mov)), ((b 5), .inl (cJ, 8, .inr (.inl mwb))), ((b 6), .inl (cJ, 8, .inr (.inl mwe))), (qn0, .inl (cJ, (Int32.ofNat 4).toNatClampNeg, .inr (.inl r6)))] := hD
          refine lv_aload_n hx hb (kdr dgX3_shift_0 8 5 rfl rfl) rfl (lv_at hl 1 rfl) ?_
          refine lv_aload_n hx hb (kdr dgX3_shift_0 8 6 rfl rfl) rfl (lv_at hl 1 rfl) ?_
          refine va_get (D := (dC, dI)) (ci := 5) (v := .ref (b 2)) (C := RX3) (T := TX3) (N := 14) hx hb hts hiX3 hown hK hP 0 rfl rfl 3 (by decide) hw6 (fun _ h9 => h9) rfl (kdr dgX3_shift_0 8 7 rfl rfl) ?_
          refine lv_lload_n hx hb (kdr dgX3_shift_0 8 8 rfl rfl) rfl (lv_at hl 2 rfl) ?_
          obtain ⟨r7, g7, h⟩ := g_b h
          refine kcall_r [((b 0), .inr (5, [.ref qn0, .long (mfr + x3), .long (mun + x3), .ref (b 2), .ref (b 3), .ref (b 4), .int msp, .ref (b 5), .ref (b 6), .int mwi, .int mac, .int mre, .int mkn, .int mth])), ((b 1), .inl (cJ, 4, .inr (.inl mce))), ((b 2), .inl (cJ, 10, .inr (.inl mbe))), ((b 3), .inl (cJ, 10, .inr (.inl men))), ((b 4), .inl (cZ, 10, .inl mov)), ((b 5), .inl (cJ, 8, .inr (.inl mwb))), ((b 6), .inl (cJ, 8, .inr (.inl mwe))), (qn0, .inl (cJ, (Int32.ofNat 4).toNatClampNeg, .inr (.inl r6)))] (va_runS (As := [.ref (b 2), .long x3]) (rest := [.ref (b 0)]) ⟨hx, hb, hml, hown, hts⟩ (c_X3_shifted l dC dI cB cI cJ cZ (b 2) 10 _ mbe x3 r7 g7) (kcwS hts kw_1185 kv_X3_shifted rfl rfl ⟨(Nat.le_of_ble_eq_true rfl), (Nat.le_of_ble_eq_true rfl)⟩) (kpS (A := A) (hP.sub [2] rfl) hK (hD.sub [2] (by decide) rfl) hG) rfl rfl hl.1 rfl (lv_room (Nat.le_of_ble_eq_true rfl)) (kdr dgX3_shift_0 8 9 rfl rfl) ⟨(Nat.le_of_ble_eq_true rfl), (Nat.le_of_ble_eq_true rfl)⟩) hP hD hS hA [2] [0, 1, 3, 4, 5, 6, 7] rfl rfl [((b 0), .inr (5, [.ref qn0, .long (mfr + x3), .long (mun + x3), .ref (b 2), .ref (b 3), .ref (b 4), .int msp, .ref (b 5), .ref (b 6), .int mwi, .int mac, .int mre, .int mkn, .int mth])), ((b 1), .inl (cJ, 4, .inr (.inl mce))), ((b 3), .inl (cJ, 10, .inr (.inl men))), ((b 4), .inl (cZ, 10, .inl mov)), ((b 5), .inl (cJ, 8, .inr (.inl mwb))), ((b 6), .inl (cJ, 8, .inr (.inl mwe))), (qn0, .inl (cJ, (Int32.ofNat 4).toNatClampNeg, .inr (.inl r6)))] rfl rfl rfl (by decide) rfl rfl (fun qn1 H locs hP hD hS => ?_)
          have hP : va_P (dC, dI) vwCl [((b 0), .inr (5, [.ref qn0, .long (mfr + x3), .long (mun + x3), .ref (b 2), .ref (b 3), .ref (b 4), .int msp, .ref (b 5), .ref (b 6), .int mwi, .int mac, .int mre, .int mkn, .int mth])), ((b 1), .inl (cJ, 4, .inr (.inl mce))), ((b 2), .inl (cJ, 10, .inr (.inl mbe))), ((b 3), .inl (cJ, 10, .inr (.inl men))), ((b 4), .inl (cZ, 10, .inl mov)), ((b 5), .inl (cJ, 8, .inr (.inl mwb))), ((b 6), .inl (cJ, 8, .inr (.inl mwe))), (qn0, .inl (cJ, (Int32.ofNat 4).toNatClampNeg, .inr (.inl r6))), (qn1, .inl (cJ, (Int32.ofNat 10).toNatClampNeg, .inr (.inl r7)))] H := hP
          have hD : va_D A [((b 0), .inr (5, [.ref qn0, .long (mfr + x3), .long (mun + x3), .ref (b 2), .ref (b 3), .ref (b 4), .int msp, .ref (b 5), .ref (b 6), .int mwi, .int mac, .int mre, .int mkn, .int mth])), ((b 1), .inl (cJ, 4, .inr (.inl mce))), ((b 2), .inl (cJ, 10, .inr (.inl mbe))), ((b 3), .inl (cJ, 10, .inr (.inl men))), ((b 4), .inl (cZ, 10, .inl mov)), ((b 5), .inl (cJ, 8, .inr (.inl mwb))), ((b 6), .inl (cJ, 8, .inr (.inl mwe))), (qn0, .inl (cJ, (Int32.ofNat 4).toNatClampNeg, .inr (.inl r6))), (qn1, .inl (cJ, (Int32.ofNat 10).toNatClampNeg, .inr (.inl r7)))] := hD
          refine va_put (D := (dC, dI)) (ci := 5) (v := .ref qn1) (ty := (.array .long)) (C := RX3) (T := TX3) (N := 14) hx hb hts hiX3 tyX3 tyX3_ok nmX3 hown hK hP hD hS 0 rfl rfl 3 (by decide) hw6 (fun _ h9 => h9) rfl (by decide +kernel) rfl rfl (Nat.le_of_ble_eq_true rfl) (kdr dgX3_shift_0 9 0 rfl rfl) (fun H locs hP hD hS => ?_)
          have hP : va_P (dC, dI) vwCl [((b 0), .inr (5, [.ref qn0, .long (mfr + x3), .long (mun + x3), .ref qn1, .ref (b 3), .ref (b 4), .int msp, .ref (b 5), .ref (b 6), .int mwi, .int mac, .int mre, .int mkn, .int mth])), ((b 1), .inl (cJ, 4, .inr (.inl mce))), ((b 2), .inl (cJ, 10, .inr (.inl mbe))), ((b 3), .inl (cJ, 10, .inr (.inl men))), ((b 4), .inl (cZ, 10, .inl mov)), ((b 5), .inl (cJ, 8, .inr (.inl mwb))), ((b 6), .inl (cJ, 8, .inr (.inl mwe))), (qn0, .inl (cJ, (Int32.ofNat 4).toNatClampNeg, .inr (.inl r6))), (qn1, .inl (cJ, (Int32.ofNat 10).toNatClampNeg, .inr (.inl r7)))] H := hP
          have hD : va_D A [((b 0), .inr (5, [.ref qn0, .long (mfr + x3), .long (mun + x3), .ref qn1, .ref (b 3), .ref (b 4), .int msp, .ref (b 5), .ref (b 6), .int mwi, .int mac, .int mre, .int mkn, .int mth])), ((b 1), .inl (cJ, 4, .inr (.inl mce))), ((b 2), .inl (cJ, 10, .inr (.inl mbe))), ((b 3), .inl (cJ, 10, .inr (.inl men))), ((b 4), .inl (cZ, 10, .inl mov)), ((b 5), .inl (cJ, 8, .inr (.inl mwb))), ((b 6), .inl (cJ, 8, .inr (.inl mwe))), (qn0, .inl (cJ, (Int32.ofNat 4).toNatClampNeg, .inr (.inl r6))), (qn1, .inl (cJ, (Int32.ofNat 10).toNatClampNeg, .inr (.inl r7)))] := hD
          refine lv_aload_n hx hb (kdr dgX3_shift_0 9 1 rfl rfl) rfl (lv_at hl 1 rfl) ?_
          refine lv_aload_n hx hb (kdr dgX3_shift_0 9 2 rfl rfl) rfl (lv_at hl 1 rfl) ?_
          refine va_get (D := (dC, dI)) (ci := 5) (v := .ref (b 3)) (C := RX3) (T := TX3) (N := 14) hx hb hts hiX3 hown hK hP 0 rfl rfl 4 (by decide) hw7 (fun _ h9 => h9) rfl (kdr dgX3_shift_0 9 3 rfl rfl) ?_
          refine lv_lload_n hx hb (kdr dgX3_shift_0 9 4 rfl rfl) rfl (lv_at hl 2 rfl) ?_
          obtain ⟨r8, g8, h⟩ := g_b h
          refine kcall_r [((b 0), .inr (5, [.ref qn0, .long (mfr + x3), .long (mun + x3), .ref qn1, .ref (b 3), .ref (b 4), .int msp, .ref (b 5), .ref (b 6), .int mwi, .int mac, .int mre, .int mkn, .int mth])), ((b 1), .inl (cJ, 4, .inr (.inl mce))), ((b 2), .inl (cJ, 10, .inr (.inl mbe))), ((b 3), .inl (cJ, 10, .inr (.inl men))), ((b 4), .inl (cZ, 10, .inl mov)), ((b 5), .inl (cJ, 8, .inr (.inl mwb))), ((b 6), .inl (cJ, 8, .inr (.inl mwe))), (qn0, .inl (cJ, (Int32.ofNat 4).toNatClampNeg, .inr (.inl r6))), (qn1, .inl (cJ, (Int32.ofNat 10).toNatClampNeg, .inr (.inl r7)))] (va_runS (As := [.ref (b 3), .long x3]) (rest := [.ref (b 0)]) ⟨hx, hb, hml, hown, hts⟩ (c_X3_shifted l dC dI cB cI cJ cZ (b 3) 10 _ men x3 r8 g8) (kcwS hts kw_1185 kv_X3_shifted rfl rfl ⟨(Nat.le_of_ble_eq_true rfl), (Nat.le_of_ble_eq_true rfl)⟩) (kpS (A := A) (hP.sub [3] rfl) hK (hD.sub [3] (by decide) rfl) hG) rfl rfl hl.1 rfl (lv_room (Nat.le_of_ble_eq_true rfl)) (kdr dgX3_shift_0 9 5 rfl rfl) ⟨(Nat.le_of_ble_eq_true rfl), (Nat.le_of_ble_eq_true rfl)⟩) hP hD hS hA [3] [0, 1, 2, 4, 5, 6, 7, 8] rfl rfl [((b 0), .inr (5, [.ref qn0, .long (mfr + x3), .long (mun + x3), .ref qn1, .ref (b 3), .ref (b 4), .int msp, .ref (b 5), .ref (b 6), .int mwi, .int mac, .int mre, .int mkn, .int mth])), ((b 1), .inl (cJ, 4, .inr (.inl mce))), ((b 2), .inl (cJ, 10, .inr (.inl mbe))), ((b 4), .inl (cZ, 10, .inl mov)), ((b 5), .inl (cJ, 8, .inr (.inl mwb))), ((b 6), .inl (cJ, 8, .inr (.inl mwe))), (qn0, .inl (cJ, (Int32.ofNat 4).toNatClampNeg, .inr (.inl r6))), (qn1, .inl (cJ, (Int32.ofNat 10).toNatClampNeg, .inr (.inl r7)))] rfl rfl rfl (by decide) rfl rfl (fun qn2 H locs hP hD hS => ?_)
          have hP : va_P (dC, dI) vwCl [((b 0), .inr (5, [.ref qn0, .long (mfr + x3), .long (mun + x3), .ref qn1, .ref (b 3), .ref (b 4), .int msp, .ref (b 5), .ref (b 6), .int mwi, .int mac, .int mre, .int mkn, .int mth])), ((b 1), .inl (cJ, 4, .inr (.inl mce))), ((b 2), .inl (cJ, 10, .inr (.inl mbe))), ((b 3), .inl (cJ, 10, .inr (.inl men))), ((b 4), .inl (cZ, 10, .inl mov)), ((b 5), .inl (cJ, 8, .inr (.inl mwb))), ((b 6), .inl (cJ, 8, .inr (.inl mwe))), (qn0, .inl (cJ, (Int32.ofNat 4).toNatClampNeg, .inr (.inl r6))), (qn1, .inl (cJ, (Int32.ofNat 10).toNatClampNeg, .inr (.inl r7))), (qn2, .inl (cJ, (Int32.ofNat 10).toNatClampNeg, .inr (.inl r8)))] H := hP
          have hD : va_D A [((b 0), .inr (5, [.ref qn0, .long (mfr + x3), .long (mun + x3), .ref qn1, .ref (b 3), .ref (b 4), .int msp, .ref (b 5), .ref (b 6), .int mwi, .int mac, .int mre, .int mkn, .int mth])), ((b 1), .inl (cJ, 4, .inr (.inl mce))), ((b 2), .inl (cJ, 10, .inr (.inl mbe))), ((b 3), .inl (cJ, 10, .inr (.inl men))), ((b 4), .inl (cZ, 10, .inl mov)), ((b 5), .inl (cJ, 8, .inr (.inl mwb))), ((b 6), .inl (cJ, 8, .inr (.inl mwe))), (qn0, .inl (cJ, (Int32.ofNat 4).toNatClampNeg, .inr (.inl r6))), (qn1, .inl (cJ, (Int32.ofNat 10).toNatClampNeg, .inr (.inl r7))), (qn2, .inl (cJ, (Int32.ofNat 10).toNatClampNeg, .inr (.inl r8)))] := hD
          refine va_put (D := (dC, dI)) (ci := 5) (v := .ref qn2) (ty := (.array .long)) (C := RX3) (T := TX3) (N := 14) hx hb hts hiX3 tyX3 tyX3_ok nmX3 hown hK hP hD hS 0 rfl rfl 4 (by decide) hw7 (fun _ h9 => h9) rfl (by decide +kernel) rfl rfl (Nat.le_of_ble_eq_true rfl) (kdr dgX3_shift_0 9 6 rfl rfl) (fun H locs hP hD hS => ?_)
          have hP : va_P (dC, dI) vwCl [((b 0), .inr (5, [.ref qn0, .long (mfr + x3), .long (mun + x3), .ref qn1, .ref qn2, .ref (b 4), .int msp, .ref (b 5), .ref (b 6), .int mwi, .int mac, .int mre, .int mkn, .int mth])), ((b 1), .inl (cJ, 4, .inr (.inl mce))), ((b 2), .inl (cJ, 10, .inr (.inl mbe))), ((b 3), .inl (cJ, 10, .inr (.inl men))), ((b 4), .inl (cZ, 10, .inl mov)), ((b 5), .inl (cJ, 8, .inr (.inl mwb))), ((b 6), .inl (cJ, 8, .inr (.inl mwe))), (qn0, .inl (cJ, (Int32.ofNat 4).toNatClampNeg, .inr (.inl r6))), (qn1, .inl (cJ, (Int32.ofNat 10).toNatClampNeg, .inr (.inl r7))), (qn2, .inl (cJ, (Int32.ofNat 10).toNatClampNeg, .inr (.inl r8)))] H := hP
          have hD : va_D A [((b 0), .inr (5, [.ref qn0, .long (mfr + x3), .long (mun + x3), .ref qn1, .ref qn2, .ref (b 4), .int msp, .ref (b 5), .ref (b 6), .int mwi, .int mac, .int mre, .int mkn, .int mth])), ((b 1), .inl (cJ, 4, .inr (.inl mce))), ((b 2), .inl (cJ, 10, .inr (.inl mbe))), ((b 3), .inl (cJ, 10, .inr (.inl men))), ((b 4), .inl (cZ, 10, .inl mov)), ((b 5), .inl (cJ, 8, .inr (.inl mwb))), ((b 6), .inl (cJ, 8, .inr (.inl mwe))), (qn0, .inl (cJ, (Int32.ofNat 4).toNatClampNeg, .inr (.inl r6))), (qn1, .inl (cJ, (Int32.ofNat 10).toNatClampNeg, .inr (.inl r7))), (qn2, .inl (cJ, (Int32.ofNat 10).toNatClampNeg, .inr (.inl r8)))] := hD
          refine lv_aload_n hx hb (kdr dgX3_shift_0 9 7 rfl rfl) rfl (lv_at hl 1 rfl) ?_
          refine lv_aload_n hx hb (kdr dgX3_shift_0 9 8 rfl rfl) rfl (lv_at hl 1 rfl) ?_
          refine va_get (D := (dC, dI)) (ci := 5) (v := .ref (b 5)) (C := RX3) (T := TX3) (N := 14) hx hb hts hiX3 hown hK hP 0 rfl rfl 7 (by decide) hw1 (fun _ h9 => h9) rfl (kdr dgX3_shift_0 9 9 rfl rfl) ?_
          refine lv_lload_n hx hb (kdr dgX3_shift_194 0 0 rfl rfl) rfl (lv_at hl 2 rfl) ?_
          obtain ⟨r9, g9, h⟩ := g_b h
          refine kcall_r [((b 0), .inr (5, [.ref qn0, .long (mfr + x3), .long (mun + x3), .ref qn1, .ref qn2, .ref (b 4), .int msp, .ref (b 5), .ref (b 6), .int mwi, .int mac, .int mre, .int mkn, .int mth])), ((b 1), .inl (cJ, 4, .inr (.inl mce))), ((b 2), .inl (cJ, 10, .inr (.inl mbe))), ((b 3), .inl (cJ, 10, .inr (.inl men))), ((b 4), .inl (cZ, 10, .inl mov)), ((b 5), .inl (cJ, 8, .inr (.inl mwb))), ((b 6), .inl (cJ, 8, .inr (.inl mwe))), (qn0, .inl (cJ, (Int32.ofNat 4).toNatClampNeg, .inr (.inl r6))), (qn1, .inl (cJ, (Int32.ofNat 10).toNatClampNeg, .inr (.inl r7))), (qn2, .inl (cJ, (Int32.ofNat 10).toNatClampNeg, .inr (.inl r8)))] (va_runS (As := [.ref (b 5), .long x3]) (rest := [.ref (b 0)]) ⟨hx, hb, hml, hown, hts⟩ (c_X3_shifted l dC dI cB cI cJ cZ (b 5) 8 _ mwb x3 r9 g9) (kcwS hts kw_1185 kv_X3_shifted rfl rfl ⟨(Nat.le_of_ble_eq_true rfl), (Nat.le_of_ble_eq_true rfl)⟩) (kpS (A := A) (hP.sub [5] rfl) hK (hD.sub [5] (by decide) rfl) hG) rfl rfl hl.1 rfl (lv_room (Nat.le_of_ble_eq_true rfl)) (kdr dgX3_shift_194 0 1 rfl rfl) ⟨(Nat.le_of_ble_eq_true rfl), (Nat.le_of_ble_eq_true rfl)⟩) hP hD hS hA [5] [0, 1, 2, 3, 4, 6, 7, 8, 9] rfl rfl [((b 0), .inr (5, [.ref qn0, .long (mfr + x3), .long (mun + x3), .ref qn1, .ref qn2, .ref (b 4), .int msp, .ref (b 5), .ref (b 6), .int mwi, .int mac, .int mre, .int mkn, .int mth])), ((b 1), .inl (cJ, 4, .inr (.inl mce))), ((b 2), .inl (cJ, 10, .inr (.inl mbe))), ((b 3), .inl (cJ, 10, .inr (.inl men))), ((b 4), .inl (cZ, 10, .inl mov)), ((b 6), .inl (cJ, 8, .inr (.inl mwe))), (qn0, .inl (cJ, (Int32.ofNat 4).toNatClampNeg, .inr (.inl r6))), (qn1, .inl (cJ, (Int32.ofNat 10).toNatClampNeg, .inr (.inl r7))), (qn2, .inl (cJ, (Int32.ofNat 10).toNatClampNeg, .inr (.inl r8)))] rfl rfl rfl (by decide) rfl rfl (fun qn3 H locs hP hD hS => ?_)
          have hP : va_P (dC, dI) vwCl [((b 0), .inr (5, [.ref qn0, .long (mfr + x3), .long (mun + x3), .ref qn1, .ref qn2, .ref (b 4), .int msp, .ref (b 5), .ref (b 6), .int mwi, .int mac, .int mre, .int mkn, .int mth])), ((b 1), .inl (cJ, 4, .inr (.inl mce))), ((b 2), .inl (cJ, 10, .inr (.inl mbe))), ((b 3), .inl (cJ, 10, .inr (.inl men))), ((b 4), .inl (cZ, 10, .inl mov)), ((b 5), .inl (cJ, 8, .inr (.inl mwb))), ((b 6), .inl (cJ, 8, .inr (.inl mwe))), (qn0, .inl (cJ, (Int32.ofNat 4).toNatClampNeg, .inr (.inl r6))), (qn1, .inl (cJ, (Int32.ofNat 10).toNatClampNeg, .inr (.inl r7))), (qn2, .inl (cJ, (Int32.ofNat 10).toNatClampNeg, .inr (.inl r8))), (qn3, .inl (cJ, (Int32.ofNat 8).toNatClampNeg, .inr (.inl r9)))] H := hP
          have hD : va_D A [((b 0), .inr (5, [.ref qn0, .long (mfr + x3), .long (mun + x3), .ref qn1, .ref qn2, .ref (b 4), .int msp, .ref (b 5), .ref (b 6), .int mwi, .int mac, .int mre, .int mkn, .int mth])), ((b 1), .inl (cJ, 4, .inr (.inl mce))), ((b 2), .inl (cJ, 10, .inr (.inl mbe))), ((b 3), .inl (cJ, 10, .inr (.inl men))), ((b 4), .inl (cZ, 10, .inl mov)), ((b 5), .inl (cJ, 8, .inr (.inl mwb))), ((b 6), .inl (cJ, 8, .inr (.inl mwe))), (qn0, .inl (cJ, (Int32.ofNat 4).toNatClampNeg, .inr (.inl r6))), (qn1, .inl (cJ, (Int32.ofNat 10).toNatClampNeg, .inr (.inl r7))), (qn2, .inl (cJ, (Int32.ofNat 10).toNatClampNeg, .inr (.inl r8))), (qn3, .inl (cJ, (Int32.ofNat 8).toNatClampNeg, .inr (.inl r9)))] := hD
          refine va_put (D := (dC, dI)) (ci := 5) (v := .ref qn3) (ty := (.array .long)) (C := RX3) (T := TX3) (N := 14) hx hb hts hiX3 tyX3 tyX3_ok nmX3 hown hK hP hD hS 0 rfl rfl 7 (by decide) hw1 (fun _ h9 => h9) rfl (by decide +kernel) rfl rfl (Nat.le_of_ble_eq_true rfl) (kdr dgX3_shift_194 0 2 rfl rfl) (fun H locs hP hD hS => ?_)
          have hP : va_P (dC, dI) vwCl [((b 0), .inr (5, [.ref qn0, .long (mfr + x3), .long (mun + x3), .ref qn1, .ref qn2, .ref (b 4), .int msp, .ref qn3, .ref (b 6), .int mwi, .int mac, .int mre, .int mkn, .int mth])), ((b 1), .inl (cJ, 4, .inr (.inl mce))), ((b 2), .inl (cJ, 10, .inr (.inl mbe))), ((b 3), .inl (cJ, 10, .inr (.inl men))), ((b 4), .inl (cZ, 10, .inl mov)), ((b 5), .inl (cJ, 8, .inr (.inl mwb))), ((b 6), .inl (cJ, 8, .inr (.inl mwe))), (qn0, .inl (cJ, (Int32.ofNat 4).toNatClampNeg, .inr (.inl r6))), (qn1, .inl (cJ, (Int32.ofNat 10).toNatClampNeg, .inr (.inl r7))), (qn2, .inl (cJ, (Int32.ofNat 10).toNatClampNeg, .inr (.inl r8))), (qn3, .inl (cJ, (Int32.ofNat 8).toNatClampNeg, .inr (.inl r9)))] H := hP
          have hD : va_D A [((b 0), .inr (5, [.ref qn0, .long (mfr + x3), .long (mun + x3), .ref qn1, .ref qn2, .ref (b 4), .int msp, .ref qn3, .ref (b 6), .int mwi, .int mac, .int mre, .int mkn, .int mth])), ((b 1), .inl (cJ, 4, .inr (.inl mce))), ((b 2), .inl (cJ, 10, .inr (.inl mbe))), ((b 3), .inl (cJ, 10, .inr (.inl men))), ((b 4), .inl (cZ, 10, .inl mov)), ((b 5), .inl (cJ, 8, .inr (.inl mwb))), ((b 6), .inl (cJ, 8, .inr (.inl mwe))), (qn0, .inl (cJ, (Int32.ofNat 4).toNatClampNeg, .inr (.inl r6))), (qn1, .inl (cJ, (Int32.ofNat 10).toNatClampNeg, .inr (.inl r7))), (qn2, .inl (cJ, (Int32.ofNat 10).toNatClampNeg, .inr (.inl r8))), (qn3, .inl (cJ, (Int32.ofNat 8).toNatClampNeg, .inr (.inl r9)))] := hD
          refine lv_aload_n hx hb (kdr dgX3_shift_194 0 3 rfl rfl) rfl (lv_at hl 1 rfl) ?_
          refine lv_aload_n hx hb (kdr dgX3_shift_194 0 4 rfl rfl) rfl (lv_at hl 1 rfl) ?_
          refine va_get (D := (dC, dI)) (ci := 5) (v := .ref (b 6)) (C := RX3) (T := TX3) (N := 14) hx hb hts hiX3 hown hK hP 0 rfl rfl 8 (by decide) hw3 (fun _ h9 => h9) rfl (kdr dgX3_shift_194 0 5 rfl rfl) ?_
          refine lv_lload_n hx hb (kdr dgX3_shift_194 0 6 rfl rfl) rfl (lv_at hl 2 rfl) ?_
          obtain ⟨r10, g10, h⟩ := g_b h
          refine kcall_r [((b 0), .inr (5, [.ref qn0, .long (mfr + x3), .long (mun + x3), .ref qn1, .ref qn2, .ref (b 4), .int msp, .ref qn3, .ref (b 6), .int mwi, .int mac, .int mre, .int mkn, .int mth])), ((b 1), .inl (cJ, 4, .inr (.inl mce))), ((b 2), .inl (cJ, 10, .inr (.inl mbe))), ((b 3), .inl (cJ, 10, .inr (.inl men))), ((b 4), .inl (cZ, 10, .inl mov)), ((b 5), .inl (cJ, 8, .inr (.inl mwb))), ((b 6), .inl (cJ, 8, .inr (.inl mwe))), (qn0, .inl (cJ, (Int32.ofNat 4).toNatClampNeg, .inr (.inl r6))), (qn1, .inl (cJ, (Int32.ofNat 10).toNatClampNeg, .inr (.inl r7))), (qn2, .inl (cJ, (Int32.ofNat 10).toNatClampNeg, .inr (.inl r8))), (qn3, .inl (cJ, (Int32.ofNat 8).toNatClampNeg, .inr (.inl r9)))] (va_runS (As := [.ref (b 6), .long x3]) (rest := [.ref (b 0)]) ⟨hx, hb, hml, hown, hts⟩ (c_X3_shifted l dC dI cB cI cJ cZ (b 6) 8 _ mwe x3 r10 g10) (kcwS hts kw_1185 kv_X3_shifted rfl rfl ⟨(Nat.le_of_ble_eq_true rfl), (Nat.le_of_ble_eq_true rfl)⟩) (kpS (A := A) (hP.sub [6] rfl) hK (hD.sub [6] (by decide) rfl) hG) rfl rfl hl.1 rfl (lv_room (Nat.le_of_ble_eq_true rfl)) (kdr dgX3_shift_194 0 7 rfl rfl) ⟨(Nat.le_of_ble_eq_true rfl), (Nat.le_of_ble_eq_true rfl)⟩) hP hD hS hA [6] [0, 1, 2, 3, 4, 5, 7, 8, 9, 10] rfl rfl [((b 0), .inr (5, [.ref qn0, .long (mfr + x3), .long (mun + x3), .ref qn1, .ref qn2, .ref (b 4), .int msp, .ref qn3, .ref (b 6), .int mwi, .int mac, .int mre, .int mkn, .int mth])), ((b 1), .inl (cJ, 4, .inr (.inl mce))), ((b 2), .inl (cJ, 10, .inr (.inl mbe))), ((b 3), .inl (cJ, 10, .inr (.inl men))), ((b 4), .inl (cZ, 10, .inl mov)), ((b 5), .inl (cJ, 8, .inr (.inl mwb))), (qn0, .inl (cJ, (Int32.ofNat 4).toNatClampNeg, .inr (.inl r6))), (qn1, .inl (cJ, (Int32.ofNat 10).toNatClampNeg, .inr (.inl r7))), (qn2, .inl (cJ, (Int32.ofNat 10).toNatClampNeg, .inr (.inl r8))), (qn3, .inl (cJ, (Int32.ofNat 8).toNatClampNeg, .inr (.inl r9)))] rfl rfl rfl (by decide) rfl rfl (fun qn4 H locs hP hD hS => ?_)
          have hP : va_P (dC, dI) vwCl [((b 0), .inr (5, [.ref qn0, .long (mfr + x3), .long (mun + x3), .ref qn1, .ref qn2, .ref (b 4), .int msp, .ref qn3, .ref (b 6), .int mwi, .int mac, .int mre, .int mkn, .int mth])), ((b 1), .inl (cJ, 4, .inr (.inl mce))), ((b 2), .inl (cJ, 10, .inr (.inl mbe))), ((b 3), .inl (cJ, 10, .inr (.inl men))), ((b 4), .inl (cZ, 10, .inl mov)), ((b 5), .inl (cJ, 8, .inr (.inl mwb))), ((b 6), .inl (cJ, 8, .inr (.inl mwe))), (qn0, .inl (cJ, (Int32.ofNat 4).toNatClampNeg, .inr (.inl r6))), (qn1, .inl (cJ, (Int32.ofNat 10).toNatClampNeg, .inr (.inl r7))), (qn2, .inl (cJ, (Int32.ofNat 10).toNatClampNeg, .inr (.inl r8))), (qn3, .inl (cJ, (Int32.ofNat 8).toNatClampNeg, .inr (.inl r9))), (qn4, .inl (cJ, (Int32.ofNat 8).toNatClampNeg, .inr (.inl r10)))] H := hP
          have hD : va_D A [((b 0), .inr (5, [.ref qn0, .long (mfr + x3), .long (mun + x3), .ref qn1, .ref qn2, .ref (b 4), .int msp, .ref qn3, .ref (b 6), .int mwi, .int mac, .int mre, .int mkn, .int mth])), ((b 1), .inl (cJ, 4, .inr (.inl mce))), ((b 2), .inl (cJ, 10, .inr (.inl mbe))), ((b 3), .inl (cJ, 10, .inr (.inl men))), ((b 4), .inl (cZ, 10, .inl mov)), ((b 5), .inl (cJ, 8, .inr (.inl mwb))), ((b 6), .inl (cJ, 8, .inr (.inl mwe))), (qn0, .inl (cJ, (Int32.ofNat 4).toNatClampNeg, .inr (.inl r6))), (qn1, .inl (cJ, (Int32.ofNat 10).toNatClampNeg, .inr (.inl r7))), (qn2, .inl (cJ, (Int32.ofNat 10).toNatClampNeg, .inr (.inl r8))), (qn3, .inl (cJ, (Int32.ofNat 8).toNatClampNeg, .inr (.inl r9))), (qn4, .inl (cJ, (Int32.ofNat 8).toNatClampNeg, .inr (.inl r10)))] := hD
          refine va_put (D := (dC, dI)) (ci := 5) (v := .ref qn4) (ty := (.array .long)) (C := RX3) (T := TX3) (N := 14) hx hb hts hiX3 tyX3 tyX3_ok nmX3 hown hK hP hD hS 0 rfl rfl 8 (by decide) hw3 (fun _ h9 => h9) rfl (by decide +kernel) rfl rfl (Nat.le_of_ble_eq_true rfl) (kdr dgX3_shift_194 0 8 rfl rfl) (fun H locs hP hD hS => ?_)
          have hP : va_P (dC, dI) vwCl [((b 0), .inr (5, [.ref qn0, .long (mfr + x3), .long (mun + x3), .ref qn1, .ref qn2, .ref (b 4), .int msp, .ref qn3, .ref qn4, .int mwi, .int mac, .int mre, .int mkn, .int mth])), ((b 1), .inl (cJ, 4, .inr (.inl mce))), ((b 2), .inl (cJ, 10, .inr (.inl mbe))), ((b 3), .inl (cJ, 10, .inr (.inl men))), ((b 4), .inl (cZ, 10, .inl mov)), ((b 5), .inl (cJ, 8, .inr (.inl mwb))), ((b 6), .inl (cJ, 8, .inr (.inl mwe))), (qn0, .inl (cJ, (Int32.ofNat 4).toNatClampNeg, .inr (.inl r6))), (qn1, .inl (cJ, (Int32.ofNat 10).toNatClampNeg, .inr (.inl r7))), (qn2, .inl (cJ, (Int32.ofNat 10).toNatClampNeg, .inr (.inl r8))), (qn3, .inl (cJ, (Int32.ofNat 8).toNatClampNeg, .inr (.inl r9))), (qn4, .inl (cJ, (Int32.ofNat 8).toNatClampNeg, .inr (.inl r10)))] H := hP
          have hD : va_D A [((b 0), .inr (5, [.ref qn0, .long (mfr + x3), .long (mun + x3), .ref qn1, .ref qn2, .ref (b 4), .int msp, .ref qn3, .ref qn4, .int mwi, .int mac, .int mre, .int mkn, .int mth])), ((b 1), .inl (cJ, 4, .inr (.inl mce))), ((b 2), .inl (cJ, 10, .inr (.inl mbe))), ((b 3), .inl (cJ, 10, .inr (.inl men))), ((b 4), .inl (cZ, 10, .inl mov)), ((b 5), .inl (cJ, 8, .inr (.inl mwb))), ((b 6), .inl (cJ, 8, .inr (.inl mwe))), (qn0, .inl (cJ, (Int32.ofNat 4).toNatClampNeg, .inr (.inl r6))), (qn1, .inl (cJ, (Int32.ofNat 10).toNatClampNeg, .inr (.inl r7))), (qn2, .inl (cJ, (Int32.ofNat 10).toNatClampNeg, .inr (.inl r8))), (qn3, .inl (cJ, (Int32.ofNat 8).toNatClampNeg, .inr (.inl r9))), (qn4, .inl (cJ, (Int32.ofNat 8).toNatClampNeg, .inr (.inl r10)))] := hD
          refine lv_aload_n hx hb (kdr dgX3_shift_194 0 9 rfl rfl) rfl (lv_at hl 1 rfl) ?_
          refine lv_bipush (v := 6) hx hb (kdr dgX3_shift_194 1 0 rfl rfl) (by decide) ?_
          refine lv_iconst (v := 2) hx hb (kdr dgX3_shift_194 1 1 rfl rfl) (by decide) ?_
          refine lv_aload_n hx hb (kdr dgX3_shift_194 1 2 rfl rfl) rfl (lv_at hl 1 rfl) ?_
          refine va_get (D := (dC, dI)) (ci := 5) (v := .int msp) (C := RX3) (T := TX3) (N := 14) hx hb hts hiX3 hown hK hP 0 rfl rfl 6 (by decide) hw8 (fun _ h9 => h9) rfl (kdr dgX3_shift_194 1 3 rfl rfl) ?_
          refine lv_imul hx hb (kdr dgX3_shift_194 1 4 rfl rfl) ?_
          refine lv_iadd hx hb (kdr dgX3_shift_194 1 5 rfl rfl) ?_
          refine lv_iconst (v := 2) hx hb (kdr dgX3_shift_194 1 6 rfl rfl) (by decide) ?_
          refine lv_aload_n hx hb (kdr dgX3_shift_194 1 7 rfl rfl) rfl (lv_at hl 1 rfl) ?_
          refine va_get (D := (dC, dI)) (ci := 5) (v := .int mwi) (C := RX3) (T := TX3) (N := 14) hx hb hts hiX3 hown hK hP 0 rfl rfl 9 (by decide) hw2 (fun _ h9 => h9) rfl (kdr dgX3_shift_194 1 8 rfl rfl) ?_
          refine lv_imul hx hb (kdr dgX3_shift_194 1 9 rfl rfl) ?_
          refine lv_iadd hx hb (kdr dgX3_shift_194 2 0 rfl rfl) ?_
          obtain ⟨r11, g11, h⟩ := g_b h
          refine kcall_i [((b 0), .inr (5, [.ref qn0, .long (mfr + x3), .long (mun + x3), .ref qn1, .ref qn2, .ref (b 4), .int msp, .ref qn3, .ref qn4, .int mwi, .int r11.2, .int mre, .int mkn, .int mth])), ((b 1), .inl (cJ, 4, .inr (.inl mce))), ((b 2), .inl (cJ, 10, .inr (.inl mbe))), ((b 3), .inl (cJ, 10, .inr (.inl men))), ((b 4), .inl (cZ, 10, .inl mov)), ((b 5), .inl (cJ, 8, .inr (.inl mwb))), ((b 6), .inl (cJ, 8, .inr (.inl mwe))), (qn0, .inl (cJ, (Int32.ofNat 4).toNatClampNeg, .inr (.inl r6))), (qn1, .inl (cJ, (Int32.ofNat 10).toNatClampNeg, .inr (.inl r7))), (qn2, .inl (cJ, (Int32.ofNat 10).toNatClampNeg, .inr (.inl r8))), (qn3, .inl (cJ, (Int32.ofNat 8).toNatClampNeg, .inr (.inl r9))), (qn4, .inl (cJ, (Int32.ofNat 8).toNatClampNeg, .inr (.inl r10)))] (va_runV (As := [.int ((6 + (2 * msp)) + (2 * mwi))]) (rest := []) ⟨hx, hb, hml, hown, hts⟩ (c_X3_done l dC dI cB cI cJ cZ (kadr (b 0) qn0 qn1 qn2 (b 4) qn3 qn4) _ r6 (mfr + x3) (mun + x3) r7 r8 mov msp r9 r10 mwi mac mre mkn mth ((6 + (2 * msp)) + (2 * mwi)) r11 g11) (kcwV hts kw_1144 kv_X3_done rfl rfl ⟨(Nat.le_of_ble_eq_true rfl), (Nat.le_of_ble_eq_true rfl)⟩) (kpV (A := A) (hP.sub [0, 7, 8, 9, 4, 10, 11] rfl) hK (hD.sub [0, 7, 8, 9, 4, 10, 11] (by decide) rfl) hG (krecv_5 (q0 := 0) hK hP rfl)) rfl rfl hl.1 rfl (lv_room (Nat.le_of_ble_eq_true rfl)) (kdr dgX3_shift_194 2 1 rfl rfl) ⟨(Nat.le_of_ble_eq_true rfl), (Nat.le_of_ble_eq_true rfl)⟩) hP hD hS hA [0, 7, 8, 9, 4, 10, 11] [1, 2, 3, 5, 6] rfl rfl [((b 1), .inl (cJ, 4, .inr (.inl mce))), ((b 2), .inl (cJ, 10, .inr (.inl mbe))), ((b 3), .inl (cJ, 10, .inr (.inl men))), ((b 5), .inl (cJ, 8, .inr (.inl mwb))), ((b 6), .inl (cJ, 8, .inr (.inl mwe)))] rfl rfl rfl (by decide) rfl (fun H locs hP hD hS br11 => ?_)
          have hP := hP.sub (ws' := (wMo cJ cZ (kadr (b 0) qn0 qn1 qn2 (b 4) qn3 qn4) r6 (mfr + x3) (mun + x3) r7 r8 mov msp r9 r10 mwi r11.2 mre mkn mth)) [0, 7, 8, 9, 4, 10, 11] rfl
          have hD := hD.sub (ws' := (wMo cJ cZ (kadr (b 0) qn0 qn1 qn2 (b 4) qn3 qn4) r6 (mfr + x3) (mun + x3) r7 r8 mov msp r9 r10 mwi r11.2 mre mkn mth)) [0, 7, 8, 9, 4, 10, 11] (by decide) rfl
          have h := Option.some.inj h
          subst h
          refine W.widen (k := 5) (n := 80) (Nat.le_of_ble_eq_true rfl) (Nat.le_of_ble_eq_true rfl) ?_
          exact kret_sh (v := r11.1) (u := (kadr (b 0) qn0 qn1 qn2 (b 4) qn3 qn4)) (b0 := (b 0)) hx hb hr hlocks hS rfl hP hD (kdr dgX3_shift_194 2 2 rfl rfl)
        · have h := g_t c5 h
          exact J128 mce mfr mun mbe men mov msp mwb mwe mwi mac mre mkn mth _ _ hP hD hS ls (lv_sub hl [1] rfl) h
  have J90 : ∀ (mce : Nat → Int64) (mfr : Int64) (mun : Int64) (mbe : Nat → Int64) (men : Nat → Int64) (mov : Nat → Int32) (msp : Int32) (mwb : Nat → Int64) (mwe : Nat → Int64) (mwi : Int32) (mac : Int32) (mre : Int32) (mkn : Int32) (mth : Int32) (x3 : Int64) (H : Heap) (locs : List Loc), va_P (dC, dI) vwCl (wMo cJ cZ b mce mfr mun mbe men mov msp mwb mwe mwi mac mre mkn mth) H → va_D A (wMo cJ cZ b mce mfr mun mbe men mov msp mwb mwe mwi mac mre mkn mth) → va_S A s.heap H locs → ∀ (ls : Array Slot), lv_has ls 6 (kvA 0 (b 0) (kvJ 3 x3 kvE)) → f_X3_shift_90 mce mfr mun mbe men msp mwb mwe mwi mac mre mth x3 = some res → W p l e (headSpec wsX3_shift (kRm 2 5 80 45)).room s m ([.ref (b 0), .int p0, .int p1] : List Value).toArray below meth c H locs 0 0 (MQ below (kSh (dC, dI) (res.1) (b 0) (fun b => (wMo cJ cZ b (res.2.1) (res.2.2.1) (res.2.2.2.1) (res.2.2.2.2.1) (res.2.2.2.2.2.1) mov msp (res.2.2.2.2.2.2.1) (res.2.2.2.2.2.2.2.1) mwi (res.2.2.2.2.2.2.2.2.1) (res.2.2.2.2.2.2.2.2.2.1) mkn (res.2.2.2.2.2.2.2.2.2.2))) A) ([.ref (b 0), .int p0, .int p1] : List Value).toArray s 5 80 A) (F0 m 90 ls []) := by
    intro mce mfr mun mbe men mov msp mwb mwe mwi mac mre mkn mth x3 H locs hP hD hS ls hl h
    have h := f_X3_shift_90_e.symm.trans h
    refine lv_iconst (v := 0) hx hb (kdr dgX3_shift_0 4 6 rfl rfl) (by decide) ?_
    exact J91 mce mfr mun mbe men mov msp mwb mwe mwi mac mre mkn mth x3 0 _ _ hP hD hS ls (lv_sub hl [0, 1] rfl) h
  have hl := lv_entry ([.ref (b 0), .int p0, .int p1]) (n := 6) (Nat.le_of_ble_eq_true rfl)
  rw [lg_entry_eq]
  generalize (lg_sl ([.ref (b 0), .int p0, .int p1]) ++ List.replicate (6 - (lg_sl ([.ref (b 0), .int p0, .int p1])).length) Slot.unset).toArray = ls at hl ⊢
  have hl : lv_has ls 6 (kvA 0 (b 0) (kvI 1 p0 (kvI 2 p1 kvE))) := hl
  have h := f_X3_shift_e.symm.trans hf
  refine lv_aload_n hx hb (kdr dgX3_shift_0 0 0 rfl rfl) rfl (lv_at hl 0 rfl) ?_
  refine lv_iload_n hx hb (kdr dgX3_shift_0 0 1 rfl rfl) rfl (lv_at hl 1 rfl) ?_
  refine lv_iload_n hx hb (kdr dgX3_shift_0 0 2 rfl rfl) rfl (lv_at hl 2 rfl) ?_
  obtain ⟨r1, g1, h⟩ := g_b h
  refine kq_i (wMo cJ cZ b mce mfr mun mbe men mov msp mwb mwe mwi mac mre mkn mth) (fun qP qD qF => va_runS (As := [.int p0, .int p1]) (rest := [.ref (b 0)]) ⟨hx, hb, hml, hown, hts⟩ (c_X3_isNoUnit l dC dI cB cI cJ cZ  _  p0 p1 r1 g1) (kcwS hts kw_1152 kv_X3_isNoUnit rfl rfl ⟨(Nat.le_of_ble_eq_true rfl), (Nat.le_of_ble_eq_true rfl)⟩) (kpS (A := A) (kPnil) hK ((kDnil (A := A))) hG) rfl rfl hl.1 rfl (lv_room (Nat.le_of_ble_eq_true rfl)) (kdr dgX3_shift_0 0 3 rfl rfl) ⟨(Nat.le_of_ble_eq_true rfl), (Nat.le_of_ble_eq_true rfl)⟩) hP hD hS hA kFr_n (fun H locs hP hD hS br1 => ?_)
  obtain ⟨r2, g2, h⟩ := g_b h
  refine kq_i (wMo cJ cZ b mce mfr mun mbe men mov msp mwb mwe mwi mac mre mkn r2.2) (fun qP qD qF => va_runV (As := [.int r1]) (rest := []) ⟨hx, hb, hml, hown, hts⟩ (c_X3_isThrown_ l dC dI cB cI cJ cZ b _ mce mfr mun mbe men mov msp mwb mwe mwi mac mre mkn mth r1 r2 g2) (kcwV hts kw_1166 kv_X3_isThrown_ rfl rfl ⟨(Nat.le_of_ble_eq_true rfl), (Nat.le_of_ble_eq_true rfl)⟩) (kpV (A := A) qP hK qD hG (krecv_5 (q0 := 0) hK hP rfl)) rfl rfl hl.1 rfl (lv_room (Nat.le_of_ble_eq_true rfl)) (kdr dgX3_shift_0 0 4 rfl rfl) ⟨(Nat.le_of_ble_eq_true rfl), (Nat.le_of_ble_eq_true rfl)⟩) hP hD hS hA kFr_Mo (fun H locs hP hD hS br2 => ?_)
  refine lv_if_eq (tgt := 14) hx hb (kdr dgX3_shift_0 0 5 rfl rfl) (by decide) (fun c3 => ?_) (fun c3 => ?_)
  · have h := g_t c3 h
    refine lv_iload_n hx hb (kdr dgX3_shift_0 0 8 rfl rfl) rfl (lv_at hl 1 rfl) ?_
    refine lv_iload_n hx hb (kdr dgX3_shift_0 0 9 rfl rfl) rfl (lv_at hl 2 rfl) ?_
    obtain ⟨r4, g4, h⟩ := g_b h
    refine kq_l (wMo cJ cZ b mce mfr mun mbe men mov msp mwb mwe mwi mac mre mkn r2.2) (fun qP qD qF => va_runS (As := [.int p0, .int p1]) (rest := []) ⟨hx, hb, hml, hown, hts⟩ (c_X3_units l dC dI cB cI cJ cZ  _  p0 p1 r4 g4) (kcwS hts kw_1155 kv_X3_units rfl rfl ⟨(Nat.le_of_ble_eq_true rfl), (Nat.le_of_ble_eq_true rfl)⟩) (kpS (A := A) (kPnil) hK ((kDnil (A := A))) hG) rfl rfl hl.1 rfl (lv_room (Nat.le_of_ble_eq_true rfl)) (kdr dgX3_shift_0 1 0 rfl rfl) ⟨(Nat.le_of_ble_eq_true rfl), (Nat.le_of_ble_eq_true rfl)⟩) hP hD hS hA kFr_n (fun H locs hP hD hS => ?_)
    refine lv_lstore_n (lv' := (kvJ 3 r4 (kvA 0 (b 0) (kvI 1 p0 (kvI 2 p1 kvE))))) hx hb (kdr dgX3_shift_0 1 1 rfl rfl) rfl hl (by decide) rfl (fun ls hl => ?_)
    refine lv_aload_n hx hb (kdr dgX3_shift_0 1 2 rfl rfl) rfl (lv_at hl 1 rfl) ?_
    refine va_get (D := (dC, dI)) (ci := 5) (v := .ref (b 1)) (C := RX3) (T := TX3) (N := 14) hx hb hts hiX3 hown hK hP 0 rfl rfl 0 (by decide) hw0 (fun _ h9 => h9) rfl (kdr dgX3_shift_0 1 3 rfl rfl) ?_
    refine lv_iconst (v := 4) hx hb (kdr dgX3_shift_0 1 4 rfl rfl) (by decide) ?_
    refine lv_lload_n hx hb (kdr dgX3_shift_0 1 5 rfl rfl) rfl (lv_at hl 0 rfl) ?_
    obtain ⟨r5, g5, h⟩ := g_b h
    refine kcall_i (wMo cJ cZ b mce mfr mun mbe men mov msp mwb mwe mwi mac mre mkn r2.2) (va_runS (As := [.ref (b 1), .int 4, .long r4]) (rest := []) ⟨hx, hb, hml, hown, hts⟩ (c_X3_areLet l dC dI cB cI cJ cZ (b 1) 4 _ mce 4 r4 r5 g5) (kcwS hts kw_1182 kv_X3_areLet rfl rfl ⟨(Nat.le_of_ble_eq_true rfl), (Nat.le_of_ble_eq_true rfl)⟩) (kpS (A := A) (hP.sub (kIT mk_17 0) (km_f (m := mk_17) rfl rfl)) hK (hD.sub (kIT mk_17 0) (km_nd mk_17) (km_T (m := mk_17) rfl rfl)) hG) rfl rfl hl.1 rfl (lv_room (Nat.le_of_ble_eq_true rfl)) (kdr dgX3_shift_0 1 6 rfl rfl) ⟨(Nat.le_of_ble_eq_true rfl), (Nat.le_of_ble_eq_true rfl)⟩) hP hD hS hA (kIT mk_17 0) (kIT mk_18 0) (km_T (m := mk_17) rfl rfl) (km_T (m := mk_17) rfl rfl) [((b 0), .inr (5, [.ref (b 1), .long mfr, .long mun, .ref (b 2), .ref (b 3), .ref (b 4), .int msp, .ref (b 5), .ref (b 6), .int mwi, .int mac, .int mre, .int mkn, .int r2.2])), ((b 2), .inl (cJ, 10, .inr (.inl mbe))), ((b 3), .inl (cJ, 10, .inr (.inl men))), ((b 4), .inl (cZ, 10, .inl mov)), ((b 5), .inl (cJ, 8, .inr (.inl mwb))), ((b 6), .inl (cJ, 8, .inr (.inl mwe)))] (km_T (m := mk_18) rfl rfl) (km_T (m := mk_18) rfl rfl) (km_cov (m := mk_17) (n := mk_18) rfl rfl) (km_dis (m := mk_17) (n := mk_18) rfl) rfl (fun H locs hP hD hS br5 => ?_)
    refine lv_if_eq (tgt := 90) hx hb (kdr dgX3_shift_0 1 7 rfl rfl) (by decide) (fun c6 => ?_) (fun c6 => ?_)
    · have h := g_t c6 h
      exact J90 mce mfr mun mbe men mov msp mwb mwe mwi mac mre mkn r2.2 r4 _ _ hP hD hS ls (lv_sub hl [1, 0] rfl) h
    · have h := g_f c6 h
      refine lv_aload_n hx hb (kdr dgX3_shift_0 1 8 rfl rfl) rfl (lv_at hl 1 rfl) ?_
      refine va_get (D := (dC, dI)) (ci := 5) (v := .long mfr) (C := RX3) (T := TX3) (N := 14) hx hb hts hiX3 hown hK hP 0 rfl rfl 1 (by decide) hw4 (fun _ h9 => h9) rfl (kdr dgX3_shift_0 1 9 rfl rfl) ?_
      refine lv_lload_n hx hb (kdr dgX3_shift_0 2 0 rfl rfl) rfl (lv_at hl 0 rfl) ?_
      refine lv_ladd hx hb (kdr dgX3_shift_0 2 1 rfl rfl) ?_
      obtain ⟨r7, g7, h⟩ := g_b h
      refine kq_i (wMo cJ cZ b mce mfr mun mbe men mov msp mwb mwe mwi mac mre mkn r2.2) (fun qP qD qF => va_runS (As := [.long (mfr + r4)]) (rest := []) ⟨hx, hb, hml, hown, hts⟩ (c_X3_isLet l dC dI cB cI cJ cZ  _  (mfr + r4) r7 g7) (kcwS hts kw_1131 kv_X3_isLet rfl rfl ⟨(Nat.le_of_ble_eq_true rfl), (Nat.le_of_ble_eq_true rfl)⟩) (kpS (A := A) (kPnil) hK ((kDnil (A := A))) hG) rfl rfl hl.1 rfl (lv_room (Nat.le_of_ble_eq_true rfl)) (kdr dgX3_shift_0 2 2 rfl rfl) ⟨(Nat.le_of_ble_eq_true rfl), (Nat.le_of_ble_eq_true rfl)⟩) hP hD hS hA kFr_n (fun H locs hP hD hS br7 => ?_)
      refine lv_if_eq (tgt := 90) hx hb (kdr dgX3_shift_0 2 3 rfl rfl) (by decide) (fun c8 => ?_) (fun c8 => ?_)
      · have h := g_t c8 h
        exact J90 mce mfr mun mbe men mov msp mwb mwe mwi mac mre mkn r2.2 r4 _ _ hP hD hS ls (lv_sub hl [1, 0] rfl) h
      · have h := g_f c8 h
        refine lv_aload_n hx hb (kdr dgX3_shift_0 2 4 rfl rfl) rfl (lv_at hl 1 rfl) ?_
        refine va_get (D := (dC, dI)) (ci := 5) (v := .long mun) (C := RX3) (T := TX3) (N := 14) hx hb hts hiX3 hown hK hP 0 rfl rfl 2 (by decide) hw5 (fun _ h9 => h9) rfl (kdr dgX3_shift_0 2 5 rfl rfl) ?_
        refine lv_lload_n hx hb (kdr dgX3_shift_0 2 6 rfl rfl) rfl (lv_at hl 0 rfl) ?_
        refine lv_ladd hx hb (kdr dgX3_shift_0 2 7 rfl rfl) ?_
        obtain ⟨r9, g9, h⟩ := g_b h
        refine kq_i (wMo cJ cZ b mce mfr mun mbe men mov msp mwb mwe mwi mac mre mkn r2.2) (fun qP qD qF => va_runS (As := [.long (mun + r4)]) (rest := []) ⟨hx, hb, hml, hown, hts⟩ (c_X3_isLet l dC dI cB cI cJ cZ  _  (mun + r4) r9 g9) (kcwS hts kw_1131 kv_X3_isLet rfl rfl ⟨(Nat.le_of_ble_eq_true rfl), (Nat.le_of_ble_eq_true rfl)⟩) (kpS (A := A) (kPnil) hK ((kDnil (A := A))) hG) rfl rfl hl.1 rfl (lv_room (Nat.le_of_ble_eq_true rfl)) (kdr dgX3_shift_0 2 8 rfl rfl) ⟨(Nat.le_of_ble_eq_true rfl), (Nat.le_of_ble_eq_true rfl)⟩) hP hD hS hA kFr_n (fun H locs hP hD hS br9 => ?_)
        refine lv_if_eq (tgt := 90) hx hb (kdr dgX3_shift_0 2 9 rfl rfl) (by decide) (fun c10 => ?_) (fun c10 => ?_)
        · have h := g_t c10 h
          exact J90 mce mfr mun mbe men mov msp mwb mwe mwi mac mre mkn r2.2 r4 _ _ hP hD hS ls (lv_sub hl [1, 0] rfl) h
        · have h := g_f c10 h
          refine lv_aload_n hx hb (kdr dgX3_shift_0 3 0 rfl rfl) rfl (lv_at hl 1 rfl) ?_
          refine va_get (D := (dC, dI)) (ci := 5) (v := .ref (b 2)) (C := RX3) (T := TX3) (N := 14) hx hb hts hiX3 hown hK hP 0 rfl rfl 3 (by decide) hw6 (fun _ h9 => h9) rfl (kdr dgX3_shift_0 3 1 rfl rfl) ?_
          refine lv_aload_n hx hb (kdr dgX3_shift_0 3 2 rfl rfl) rfl (lv_at hl 1 rfl) ?_
          refine va_get (D := (dC, dI)) (ci := 5) (v := .int msp) (C := RX3) (T := TX3) (N := 14) hx hb hts hiX3 hown hK hP 0 rfl rfl 6 (by decide) hw8 (fun _ h9 => h9) rfl (kdr dgX3_shift_0 3 3 rfl rfl) ?_
          refine lv_lload_n hx hb (kdr dgX3_shift_0 3 4 rfl rfl) rfl (lv_at hl 0 rfl) ?_
          obtain ⟨r11, g11, h⟩ := g_b h
          refine kcall_i (wMo cJ cZ b mce mfr mun mbe men mov msp mwb mwe mwi mac mre mkn r2.2) (va_runS (As := [.ref (b 2), .int msp, .long r4]) (rest := []) ⟨hx, hb, hml, hown, hts⟩ (c_X3_areLet l dC dI cB cI cJ cZ (b 2) 10 _ mbe msp r4 r11 g11) (kcwS hts kw_1182 kv_X3_areLet rfl rfl ⟨(Nat.le_of_ble_eq_true rfl), (Nat.le_of_ble_eq_true rfl)⟩) (kpS (A := A) (hP.sub (kIT mk_27 0) (km_f (m := mk_27) rfl rfl)) hK (hD.sub (kIT mk_27 0) (km_nd mk_27) (km_T (m := mk_27) rfl rfl)) hG) rfl rfl hl.1 rfl (lv_room (Nat.le_of_ble_eq_true rfl)) (kdr dgX3_shift_0 3 5 rfl rfl) ⟨(Nat.le_of_ble_eq_true rfl), (Nat.le_of_ble_eq_true rfl)⟩) hP hD hS hA (kIT mk_27 0) (kIT mk_28 0) (km_T (m := mk_27) rfl rfl) (km_T (m := mk_27) rfl rfl) [((b 0), .inr (5, [.ref (b 1), .long mfr, .long mun, .ref (b 2), .ref (b 3), .ref (b 4), .int msp, .ref (b 5), .ref (b 6), .int mwi, .int mac, .int mre, .int mkn, .int r2.2])), ((b 1), .inl (cJ, 4, .inr (.inl mce))), ((b 3), .inl (cJ, 10, .inr (.inl men))), ((b 4), .inl (cZ, 10, .inl mov)), ((b 5), .inl (cJ, 8, .inr (.inl mwb))), ((b 6), .inl (cJ, 8, .inr (.inl mwe)))] (km_T (m := mk_28) rfl rfl) (km_T (m := mk_28) rfl rfl) (km_cov (m := mk_27) (n := mk_28) rfl rfl) (km_dis (m := mk_27) (n := mk_28) rfl) rfl (fun H locs hP hD hS br11 => ?_)
          refine lv_if_eq (tgt := 90) hx hb (kdr dgX3_shift_0 3 6 rfl rfl) (by decide) (fun c12 => ?_) (fun c12 => ?_)
          · have h := g_t c12 h
            exact J90 mce mfr mun mbe men mov msp mwb mwe mwi mac mre mkn r2.2 r4 _ _ hP hD hS ls (lv_sub hl [1, 0] rfl) h
          · have h := g_f c12 h
            refine lv_aload_n hx hb (kdr dgX3_shift_0 3 7 rfl rfl) rfl (lv_at hl 1 rfl) ?_
            refine va_get (D := (dC, dI)) (ci := 5) (v := .ref (b 3)) (C := RX3) (T := TX3) (N := 14) hx hb hts hiX3 hown hK hP 0 rfl rfl 4 (by decide) hw7 (fun _ h9 => h9) rfl (kdr dgX3_shift_0 3 8 rfl rfl) ?_
            refine lv_aload_n hx hb (kdr dgX3_shift_0 3 9 rfl rfl) rfl (lv_at hl 1 rfl) ?_
            refine va_get (D := (dC, dI)) (ci := 5) (v := .int msp) (C := RX3) (T := TX3) (N := 14) hx hb hts hiX3 hown hK hP 0 rfl rfl 6 (by decide) hw8 (fun _ h9 => h9) rfl (kdr dgX3_shift_0 4 0 rfl rfl) ?_
            refine lv_lload_n hx hb (kdr dgX3_shift_0 4 1 rfl rfl) rfl (lv_at hl 0 rfl) ?_
            obtain ⟨r13, g13, h⟩ := g_b h
            refine kcall_i (wMo cJ cZ b mce mfr mun mbe men mov msp mwb mwe mwi mac mre mkn r2.2) (va_runS (As := [.ref (b 3), .int msp, .long r4]) (rest := []) ⟨hx, hb, hml, hown, hts⟩ (c_X3_areLet l dC dI cB cI cJ cZ (b 3) 10 _ men msp r4 r13 g13) (kcwS hts kw_1182 kv_X3_areLet rfl rfl ⟨(Nat.le_of_ble_eq_true rfl), (Nat.le_of_ble_eq_true rfl)⟩) (kpS (A := A) (hP.sub (kIT mk_29 0) (km_f (m := mk_29) rfl rfl)) hK (hD.sub (kIT mk_29 0) (km_nd mk_29) (km_T (m := mk_29) rfl rfl)) hG) rfl rfl hl.1 rfl (lv_room (Nat.le_of_ble_eq_true rfl)) (kdr dgX3_shift_0 4 2 rfl rfl) ⟨(Nat.le_of_ble_eq_true rfl), (Nat.le_of_ble_eq_true rfl)⟩) hP hD hS hA (kIT mk_29 0) (kIT mk_30 0) (km_T (m := mk_29) rfl rfl) (km_T (m := mk_29) rfl rfl) [((b 0), .inr (5, [.ref (b 1), .long mfr, .long mun, .ref (b 2), .ref (b 3), .ref (b 4), .int msp, .ref (b 5), .ref (b 6), .int mwi, .int mac, .int mre, .int mkn, .int r2.2])), ((b 1), .inl (cJ, 4, .inr (.inl mce))), ((b 2), .inl (cJ, 10, .inr (.inl mbe))), ((b 4), .inl (cZ, 10, .inl mov)), ((b 5), .inl (cJ, 8, .inr (.inl mwb))), ((b 6), .inl (cJ, 8, .inr (.inl mwe)))] (km_T (m := mk_30) rfl rfl) (km_T (m := mk_30) rfl rfl) (km_cov (m := mk_29) (n := mk_30) rfl rfl) (km_dis (m := mk_29) (n := mk_30) rfl) rfl (fun H locs hP hD hS br13 => ?_)
            refine lv_if_eq (tgt := 90) hx hb (kdr dgX3_shift_0 4 3 rfl rfl) (by decide) (fun c14 => ?_) (fun c14 => ?_)
            · have h := g_t c14 h
              exact J90 mce mfr mun mbe men mov msp mwb mwe mwi mac mre mkn r2.2 r4 _ _ hP hD hS ls (lv_sub hl [1, 0] rfl) h
            · have h := g_f c14 h
              refine lv_iconst (v := 1) hx hb (kdr dgX3_shift_0 4 4 rfl rfl) (by decide) ?_
              refine lv_goto (tgt := 91) hx hb (kdr dgX3_shift_0 4 5 rfl rfl) (by decide) ?_
              exact J91 mce mfr mun mbe men mov msp mwb mwe mwi mac mre mkn r2.2 r4 1 _ _ hP hD hS ls (lv_sub hl [1, 0] rfl) h
  · have h := g_f c3 h
    refine lv_iconst (v := 0) hx hb (kdr dgX3_shift_0 0 6 rfl rfl) (by decide) ?_
    have hP := hP.sub (ws' := (wMo cJ cZ (kadr (b 0) (b 1) (b 2) (b 3) (b 4) (b 5) (b 6)) mce mfr mun mbe men mov msp mwb mwe mwi mac mre mkn r2.2)) [0, 1, 2, 3, 4, 5, 6] rfl
    have hD := hD.sub (ws' := (wMo cJ cZ (kadr (b 0) (b 1) (b 2) (b 3) (b 4) (b 5) (b 6)) mce mfr mun mbe men mov msp mwb mwe mwi mac mre mkn r2.2)) [0, 1, 2, 3, 4, 5, 6] (by decide) rfl
    have h := Option.some.inj h
    subst h
    refine W.widen (k := 5) (n := 80) (Nat.le_of_ble_eq_true rfl) (Nat.le_of_ble_eq_true rfl) ?_
    exact kret_sh (v := 0) (u := (kadr (b 0) (b 1) (b 2) (b 3) (b 4) (b 5) (b 6))) (b0 := (b 0)) hx hb hr hlocks hS rfl hP hD (kdr dgX3_shift_0 0 7 rfl rfl)
noncomputable abbrev wsX3_open : List Cond := kWs yX3_open cX3_open 4 (some .int)
noncomputable def f_X3_open_20 (mce : Nat → Int64) (mfr : Int64) (mun : Int64) (msp : Int32) (mac : Int32) (mre : Int32) (x1 : Int32) (x2 : Int32) (y0 : Int32) : Option ((Int32) × (Int64) × (Int64) × (Int32) × (Int32) × (Int32) × (Int32)) :=
  (f_X3_isThrown_ y0).bind fun r1 =>
  if r1.1 = 0 then
    if ix x1 4 then
      if ix x2 4 then
        if (mce x1.toNatClampNeg) < (mce x2.toNatClampNeg) then
          (f_X3_done mac msp).bind fun r6 =>
          some (r6.1, mce x1.toNatClampNeg, mce x2.toNatClampNeg, 0, r6.2, mre, r1.2)
        else
          (f_X3_no mre).bind fun r6 =>
          some (r6.1, mfr, mun, msp, mac, r6.2, r1.2)
      else none
    else none
  else
    some (0, mfr, mun, msp, mac, mre, r1.2)
theorem f_X3_open_20_e {mce : Nat → Int64} {mfr : Int64} {mun : Int64} {msp : Int32} {mac : Int32} {mre : Int32} {x1 : Int32} {x2 : Int32} {y0 : Int32} : f_X3_open_20 mce mfr mun msp mac mre x1 x2 y0 =
  (f_X3_isThrown_ y0).bind fun r1 =>
  if r1.1 = 0 then
    if ix x1 4 then
      if ix x2 4 then
        if (mce x1.toNatClampNeg) < (mce x2.toNatClampNeg) then
          (f_X3_done mac msp).bind fun r6 =>
          some (r6.1, mce x1.toNatClampNeg, mce x2.toNatClampNeg, 0, r6.2, mre, r1.2)
        else
          (f_X3_no mre).bind fun r6 =>
          some (r6.1, mfr, mun, msp, mac, r6.2, r1.2)
      else none
    else none
  else
    some (0, mfr, mun, msp, mac, mre, r1.2) := rfl
noncomputable def f_X3_open_15 (mce : Nat → Int64) (mfr : Int64) (mun : Int64) (msp : Int32) (mac : Int32) (mre : Int32) (x1 : Int32) (x2 : Int32) : Option ((Int32) × (Int64) × (Int64) × (Int32) × (Int32) × (Int32) × (Int32)) :=
  f_X3_open_20 mce mfr mun msp mac mre x1 x2 1
theorem f_X3_open_15_e {mce : Nat → Int64} {mfr : Int64} {mun : Int64} {msp : Int32} {mac : Int32} {mre : Int32} {x1 : Int32} {x2 : Int32} : f_X3_open_15 mce mfr mun msp mac mre x1 x2 =
  f_X3_open_20 mce mfr mun msp mac mre x1 x2 1 := rfl
noncomputable def f_X3_open (mce : Nat → Int64) (mfr : Int64) (mun : Int64) (msp : Int32) (mac : Int32) (mre : Int32) (p0 : Int32) (p1 : Int32) : Option ((Int32) × (Int64) × (Int64) × (Int32) × (Int32) × (Int32) × (Int32)) :=
  (f_X3_is p0).bind fun r1 =>
  if r1 = 0 then
    f_X3_open_15 mce mfr mun msp mac mre p0 p1
  else
    (f_X3_is p1).bind fun r3 =>
    if r3 = 0 then
      f_X3_open_15 mce mfr mun msp mac mre p0 p1
    else
      f_X3_open_20 mce mfr mun msp mac mre p0 p1 0
theorem f_X3_open_e {mce : Nat → Int64} {mfr : Int64} {mun : Int64} {msp : Int32} {mac : Int32} {mre : Int32} {p0 : Int32} {p1 : Int32} : f_X3_open mce mfr mun msp mac mre p0 p1 = 
  (f_X3_is p0).bind fun r1 =>
  if r1 = 0 then
    f_X3_open_15 mce mfr mun msp mac mre p0 p1
  else
    (f_X3_is p1).bind fun r3 =>
    if r3 = 0 then
      f_X3_open_15 mce mfr mun msp mac mre p0 p1
    else
      f_X3_open_20 mce mfr mun msp mac mre p0 p1 0 := rfl
set_option maxHeartbeats 4000000 in
set_option maxRecDepth 100000 in
theorem c_X3_open (l : Launch) (dC : Nat → ClassId) (dI : Nat → Nat → Nat) (cB cI cJ cZ : ClassId) (b : Nat → Nat) (sz : Nat) (mce : Nat → Int64) (mfr : Int64) (mun : Int64) (mbe : Nat → Int64) (men : Nat → Int64) (mov : Nat → Int32) (msp : Int32) (mwb : Nat → Int64) (mwe : Nat → Int64) (mwi : Int32) (mac : Int32) (mre : Int32) (mkn : Int32) (mth : Int32) (p0 : Int32) (p1 : Int32) (res : (Int32) × (Int64) × (Int64) × (Int32) × (Int32) × (Int32) × (Int32)) (hf : f_X3_open mce mfr mun msp mac mre p0 p1 = some res) : kMi l yX3_open wsX3_open (kRm 2 0 0 43) dC dI cB cI cJ cZ [.ref (b 0), .int p0, .int p1] sz (wMo cJ cZ b mce mfr mun mbe men mov msp mwb mwe mwi mac mre mkn mth) .int (res.1) (wMo cJ cZ b mce (res.2.1) (res.2.2.1) mbe men mov (res.2.2.2.1) mwb mwe mwi (res.2.2.2.2.1) (res.2.2.2.2.2.1) mkn (res.2.2.2.2.2.2)) 0 0 := by
  refine kmet_i (y := yX3_open) (cc := cX3_open) (maxL := 4) (ret := (some .int)) RX3 (kvA 0 (b 0) (kvI 1 p0 (kvI 2 p1 kvE))) kpl_X3 rfl rfl (Nat.le_of_ble_eq_true rfl) rfl (fun p e s m below meth c A ls hx hb hr hml hts hown hlocks hP hK hG hD hA hS hl => ?_)
  have hw0 := hts (.fieldLink RX3 7 "SpanbookerModel" "cells" "[J") (List.mem_cons_of_mem _ kw_1072)
  have hw1 := hts (.fieldLink RX3 53 "SpanbookerModel" "from" "J") (List.mem_cons_of_mem _ kw_1073)
  have hw2 := hts (.fieldLink RX3 15 "SpanbookerModel" "until" "J") (List.mem_cons_of_mem _ kw_1074)
  have hw3 := hts (.fieldLink RX3 56 "SpanbookerModel" "spans" "I") (List.mem_cons_of_mem _ kw_1078)
  have hiX3 : ∀ w ∈ u_ws RX3 TX3 14, w ∈ wsX3_open := fun w h => List.mem_cons_of_mem _ (ku_X3 w h)
  have J20 : ∀ (mce : Nat → Int64) (mfr : Int64) (mun : Int64) (mbe : Nat → Int64) (men : Nat → Int64) (mov : Nat → Int32) (msp : Int32) (mwb : Nat → Int64) (mwe : Nat → Int64) (mwi : Int32) (mac : Int32) (mre : Int32) (mkn : Int32) (mth : Int32) (x1 : Int32) (x2 : Int32) (y0 : Int32) (H : Heap) (locs : List Loc), va_P (dC, dI) vwCl (wMo cJ cZ b mce mfr mun mbe men mov msp mwb mwe mwi mac mre mkn mth) H → va_D A (wMo cJ cZ b mce mfr mun mbe men mov msp mwb mwe mwi mac mre mkn mth) → va_S A s.heap H locs → ∀ (ls : Array Slot), lv_has ls 4 (kvA 0 (b 0) (kvI 1 x1 (kvI 2 x2 kvE))) → f_X3_open_20 mce mfr mun msp mac mre x1 x2 y0 = some res → W p l e (headSpec wsX3_open (kRm 2 0 0 43)).room s m ([.ref (b 0), .int p0, .int p1] : List Value).toArray below meth c H locs 0 0 (MQ below (kI (dC, dI) .int (res.1) (wMo cJ cZ b mce (res.2.1) (res.2.2.1) mbe men mov (res.2.2.2.1) mwb mwe mwi (res.2.2.2.2.1) (res.2.2.2.2.2.1) mkn (res.2.2.2.2.2.2)) A) ([.ref (b 0), .int p0, .int p1] : List Value).toArray s 0 0 A) (F0 m 20 ls [.int y0, .ref (b 0)]) := by
    intro mce mfr mun mbe men mov msp mwb mwe mwi mac mre mkn mth x1 x2 y0 H locs hP hD hS ls hl h
    have h := f_X3_open_20_e.symm.trans h
    obtain ⟨r1, g1, h⟩ := g_b h
    refine kq_i (wMo cJ cZ b mce mfr mun mbe men mov msp mwb mwe mwi mac mre mkn r1.2) (fun qP qD qF => va_runV (As := [.int y0]) (rest := []) ⟨hx, hb, hml, hown, hts⟩ (c_X3_isThrown_ l dC dI cB cI cJ cZ b _ mce mfr mun mbe men mov msp mwb mwe mwi mac mre mkn mth y0 r1 g1) (kcwV hts kw_1166 kv_X3_isThrown_ rfl rfl ⟨(Nat.le_of_ble_eq_true rfl), (Nat.le_of_ble_eq_true rfl)⟩) (kpV (A := A) qP hK qD hG (krecv_5 (q0 := 0) hK hP rfl)) rfl rfl hl.1 rfl (lv_room (Nat.le_of_ble_eq_true rfl)) (kdr dgX3_open_0 1 0 rfl rfl) ⟨(Nat.le_of_ble_eq_true rfl), (Nat.le_of_ble_eq_true rfl)⟩) hP hD hS hA kFr_Mo (fun H locs hP hD hS br1 => ?_)
    refine lv_if_eq (tgt := 28) hx hb (kdr dgX3_open_0 1 1 rfl rfl) (by decide) (fun c2 => ?_) (fun c2 => ?_)
    · have h := g_t c2 h
      refine lv_aload_n hx hb (kdr dgX3_open_0 1 4 rfl rfl) rfl (lv_at hl 0 rfl) ?_
      refine va_get (D := (dC, dI)) (ci := 5) (v := .ref (b 1)) (C := RX3) (T := TX3) (N := 14) hx hb hts hiX3 hown hK hP 0 rfl rfl 0 (by decide) hw0 (fun _ h9 => h9) rfl (kdr dgX3_open_0 1 5 rfl rfl) ?_
      refine lv_iload_n hx hb (kdr dgX3_open_0 1 6 rfl rfl) rfl (lv_at hl 1 rfl) ?_
      obtain ⟨z2, h⟩ := g_if h
      refine va_lald hx hb hK hP 1 2 rfl rfl (ix_in z2) (kdr dgX3_open_0 1 7 rfl rfl) ?_
      refine lv_aload_n hx hb (kdr dgX3_open_0 1 8 rfl rfl) rfl (lv_at hl 0 rfl) ?_
      refine va_get (D := (dC, dI)) (ci := 5) (v := .ref (b 1)) (C := RX3) (T := TX3) (N := 14) hx hb hts hiX3 hown hK hP 0 rfl rfl 0 (by decide) hw0 (fun _ h9 => h9) rfl (kdr dgX3_open_0 1 9 rfl rfl) ?_
      refine lv_iload_n hx hb (kdr dgX3_open_0 2 0 rfl rfl) rfl (lv_at hl 2 rfl) ?_
      obtain ⟨z3, h⟩ := g_if h
      refine va_lald hx hb hK hP 1 2 rfl rfl (ix_in z3) (kdr dgX3_open_0 2 1 rfl rfl) ?_
      refine kl_lt (pc := 40) (tgt := 49) hx hb (kdr dgX3_open_0 2 2 rfl rfl) (kdr dgX3_open_0 2 3 rfl rfl) (by decide) (fun c5 => ?_) (fun c5 => ?_)
      · have h := g_t c5 h
        refine lv_aload_n hx hb (kdr dgX3_open_0 2 7 rfl rfl) rfl (lv_at hl 0 rfl) ?_
        refine lv_aload_n hx hb (kdr dgX3_open_0 2 8 rfl rfl) rfl (lv_at hl 0 rfl) ?_
        refine va_get (D := (dC, dI)) (ci := 5) (v := .ref (b 1)) (C := RX3) (T := TX3) (N := 14) hx hb hts hiX3 hown hK hP 0 rfl rfl 0 (by decide) hw0 (fun _ h9 => h9) rfl (kdr dgX3_open_0 2 9 rfl rfl) ?_
        refine lv_iload_n hx hb (kdr dgX3_open_0 3 0 rfl rfl) rfl (lv_at hl 1 rfl) ?_
        refine va_lald hx hb hK hP 1 2 rfl rfl (ix_in z2) (kdr dgX3_open_0 3 1 rfl rfl) ?_
        refine va_put (D := (dC, dI)) (ci := 5) (v := .long (mce x1.toNatClampNeg)) (ty := .long) (C := RX3) (T := TX3) (N := 14) hx hb hts hiX3 tyX3 tyX3_ok nmX3 hown hK hP hD hS 0 rfl rfl 1 (by decide) hw1 (fun _ h9 => h9) rfl (by decide +kernel) rfl rfl (Nat.le_of_ble_eq_true rfl) (kdr dgX3_open_0 3 2 rfl rfl) (fun H locs hP hD hS => ?_)
        have hP : va_P (dC, dI) vwCl (wMo cJ cZ b mce (mce x1.toNatClampNeg) mun mbe men mov msp mwb mwe mwi mac mre mkn r1.2) H := hP
        have hD : va_D A (wMo cJ cZ b mce (mce x1.toNatClampNeg) mun mbe men mov msp mwb mwe mwi mac mre mkn r1.2) := hD
        refine lv_aload_n hx hb (kdr dgX3_open_0 3 3 rfl rfl) rfl (lv_at hl 0 rfl) ?_
        refine lv_aload_n hx hb (kdr dgX3_open_0 3 4 rfl rfl) rfl (lv_at hl 0 rfl) ?_
        refine va_get (D := (dC, dI)) (ci := 5) (v := .ref (b 1)) (C := RX3) (T := TX3) (N := 14) hx hb hts hiX3 hown hK hP 0 rfl rfl 0 (by decide) hw0 (fun _ h9 => h9) rfl (kdr dgX3_open_0 3 5 rfl rfl) ?_
        refine lv_iload_n hx hb (kdr dgX3_open_0 3 6 rfl rfl) rfl (lv_at hl 2 rfl) ?_
        refine va_lald hx hb hK hP 1 2 rfl rfl (ix_in z3) (kdr dgX3_open_0 3 7 rfl rfl) ?_
        refine va_put (D := (dC, dI)) (ci := 5) (v := .long (mce x2.toNatClampNeg)) (ty := .long) (C := RX3) (T := TX3) (N := 14) hx hb hts hiX3 tyX3 tyX3_ok nmX3 hown hK hP hD hS 0 rfl rfl 2 (by decide) hw2 (fun _ h9 => h9) rfl (by decide +kernel) rfl rfl (Nat.le_of_ble_eq_true rfl) (kdr dgX3_open_0 3 8 rfl rfl) (fun H locs hP hD hS => ?_)
        have hP : va_P (dC, dI) vwCl (wMo cJ cZ b mce (mce x1.toNatClampNeg) (mce x2.toNatClampNeg) mbe men mov msp mwb mwe mwi mac mre mkn r1.2) H := hP
        have hD : va_D A (wMo cJ cZ b mce (mce x1.toNatClampNeg) (mce x2.toNatClampNeg) mbe men mov msp mwb mwe mwi mac mre mkn r1.2) := hD
        refine lv_aload_n hx hb (kdr dgX3_open_0 3 9 rfl rfl) rfl (lv_at hl 0 rfl) ?_
        refine va_get (D := (dC, dI)) (ci := 5) (v := .int msp) (C := RX3) (T := TX3) (N := 14) hx hb hts hiX3 hown hK hP 0 rfl rfl 6 (by decide) hw3 (fun _ h9 => h9) rfl (kdr dgX3_open_0 4 0 rfl rfl) ?_
        refine lv_istore_n (lv' := (kvI 3 msp (kvA 0 (b 0) (kvI 1 x1 (kvI 2 x2 kvE))))) hx hb (kdr dgX3_open_0 4 1 rfl rfl) rfl hl (by decide) rfl (fun ls hl => ?_)
        refine lv_aload_n hx hb (kdr dgX3_open_0 4 2 rfl rfl) rfl (lv_at hl 1 rfl) ?_
        refine lv_iconst (v := 0) hx hb (kdr dgX3_open_0 4 3 rfl rfl) (by decide) ?_
        refine va_put (D := (dC, dI)) (ci := 5) (v := .int 0) (ty := .int) (C := RX3) (T := TX3) (N := 14) hx hb hts hiX3 tyX3 tyX3_ok nmX3 hown hK hP hD hS 0 rfl rfl 6 (by decide) hw3 (fun _ h9 => h9) rfl (by decide +kernel) rfl rfl (Nat.le_of_ble_eq_true rfl) (kdr dgX3_open_0 4 4 rfl rfl) (fun H locs hP hD hS => ?_)
        have hP : va_P (dC, dI) vwCl (wMo cJ cZ b mce (mce x1.toNatClampNeg) (mce x2.toNatClampNeg) mbe men mov 0 mwb mwe mwi mac mre mkn r1.2) H := hP
        have hD : va_D A (wMo cJ cZ b mce (mce x1.toNatClampNeg) (mce x2.toNatClampNeg) mbe men mov 0 mwb mwe mwi mac mre mkn r1.2) := hD
        refine lv_aload_n hx hb (kdr dgX3_open_0 4 5 rfl rfl) rfl (lv_at hl 1 rfl) ?_
        refine lv_iload_n hx hb (kdr dgX3_open_0 4 6 rfl rfl) rfl (lv_at hl 0 rfl) ?_
        obtain ⟨r6, g6, h⟩ := g_b h
        refine kq_i (wMo cJ cZ b mce (mce x1.toNatClampNeg) (mce x2.toNatClampNeg) mbe men mov 0 mwb mwe mwi r6.2 mre mkn r1.2) (fun qP qD qF => va_runV (As := [.int msp]) (rest := []) ⟨hx, hb, hml, hown, hts⟩ (c_X3_done l dC dI cB cI cJ cZ b _ mce (mce x1.toNatClampNeg) (mce x2.toNatClampNeg) mbe men mov 0 mwb mwe mwi mac mre mkn r1.2 msp r6 g6) (kcwV hts kw_1144 kv_X3_done rfl rfl ⟨(Nat.le_of_ble_eq_true rfl), (Nat.le_of_ble_eq_true rfl)⟩) (kpV (A := A) qP hK qD hG (krecv_5 (q0 := 0) hK hP rfl)) rfl rfl hl.1 rfl (lv_room (Nat.le_of_ble_eq_true rfl)) (kdr dgX3_open_0 4 7 rfl rfl) ⟨(Nat.le_of_ble_eq_true rfl), (Nat.le_of_ble_eq_true rfl)⟩) hP hD hS hA kFr_Mo (fun H locs hP hD hS br6 => ?_)
        have h := Option.some.inj h
        subst h
        exact kret_i (v := r6.1) hx hb hr rfl hlocks hS hP (kdr dgX3_open_0 4 8 rfl rfl)
      · have h := g_f c5 h
        refine lv_aload_n hx hb (kdr dgX3_open_0 2 4 rfl rfl) rfl (lv_at hl 0 rfl) ?_
        obtain ⟨r6, g6, h⟩ := g_b h
        refine kq_i (wMo cJ cZ b mce mfr mun mbe men mov msp mwb mwe mwi mac r6.2 mkn r1.2) (fun qP qD qF => va_runV (As := []) (rest := []) ⟨hx, hb, hml, hown, hts⟩ (c_X3_no l dC dI cB cI cJ cZ b _ mce mfr mun mbe men mov msp mwb mwe mwi mac mre mkn r1.2  r6 g6) (kcwV hts kw_1136 kv_X3_no rfl rfl ⟨(Nat.le_of_ble_eq_true rfl), (Nat.le_of_ble_eq_true rfl)⟩) (kpV (A := A) qP hK qD hG (krecv_5 (q0 := 0) hK hP rfl)) rfl rfl hl.1 rfl (lv_room (Nat.le_of_ble_eq_true rfl)) (kdr dgX3_open_0 2 5 rfl rfl) ⟨(Nat.le_of_ble_eq_true rfl), (Nat.le_of_ble_eq_true rfl)⟩) hP hD hS hA kFr_Mo (fun H locs hP hD hS br6 => ?_)
        have h := Option.some.inj h
        subst h
        exact kret_i (v := r6.1) hx hb hr rfl hlocks hS hP (kdr dgX3_open_0 2 6 rfl rfl)
    · have h := g_f c2 h
      refine lv_iconst (v := 0) hx hb (kdr dgX3_open_0 1 2 rfl rfl) (by decide) ?_
      have h := Option.some.inj h
      subst h
      exact kret_i (v := 0) hx hb hr rfl hlocks hS hP (kdr dgX3_open_0 1 3 rfl rfl)
  have J15 : ∀ (mce : Nat → Int64) (mfr : Int64) (mun : Int64) (mbe : Nat → Int64) (men : Nat → Int64) (mov : Nat → Int32) (msp : Int32) (mwb : Nat → Int64) (mwe : Nat → Int64) (mwi : Int32) (mac : Int32) (mre : Int32) (mkn : Int32) (mth : Int32) (x1 : Int32) (x2 : Int32) (H : Heap) (locs : List Loc), va_P (dC, dI) vwCl (wMo cJ cZ b mce mfr mun mbe men mov msp mwb mwe mwi mac mre mkn mth) H → va_D A (wMo cJ cZ b mce mfr mun mbe men mov msp mwb mwe mwi mac mre mkn mth) → va_S A s.heap H locs → ∀ (ls : Array Slot), lv_has ls 4 (kvA 0 (b 0) (kvI 1 x1 (kvI 2 x2 kvE))) → f_X3_open_15 mce mfr mun msp mac mre x1 x2 = some res → W p l e (headSpec wsX3_open (kRm 2 0 0 43)).room s m ([.ref (b 0), .int p0, .int p1] : List Value).toArray below meth c H locs 0 0 (MQ below (kI (dC, dI) .int (res.1) (wMo cJ cZ b mce (res.2.1) (res.2.2.1) mbe men mov (res.2.2.2.1) mwb mwe mwi (res.2.2.2.2.1) (res.2.2.2.2.2.1) mkn (res.2.2.2.2.2.2)) A) ([.ref (b 0), .int p0, .int p1] : List Value).toArray s 0 0 A) (F0 m 15 ls [.ref (b 0)]) := by
    intro mce mfr mun mbe men mov msp mwb mwe mwi mac mre mkn mth x1 x2 H locs hP hD hS ls hl h
    have h := f_X3_open_15_e.symm.trans h
    refine lv_iconst (v := 1) hx hb (kdr dgX3_open_0 0 7 rfl rfl) (by decide) ?_
    refine lv_goto (tgt := 20) hx hb (kdr dgX3_open_0 0 8 rfl rfl) (by decide) ?_
    exact J20 mce mfr mun mbe men mov msp mwb mwe mwi mac mre mkn mth x1 x2 1 _ _ hP hD hS ls (lv_sub hl [0, 1, 2] rfl) h
  have h := f_X3_open_e.symm.trans hf
  refine lv_aload_n hx hb (kdr dgX3_open_0 0 0 rfl rfl) rfl (lv_at hl 0 rfl) ?_
  refine lv_iload_n hx hb (kdr dgX3_open_0 0 1 rfl rfl) rfl (lv_at hl 1 rfl) ?_
  obtain ⟨r1, g1, h⟩ := g_b h
  refine kq_i (wMo cJ cZ b mce mfr mun mbe men mov msp mwb mwe mwi mac mre mkn mth) (fun qP qD qF => va_runS (As := [.int p0]) (rest := [.ref (b 0)]) ⟨hx, hb, hml, hown, hts⟩ (c_X3_is l dC dI cB cI cJ cZ  _  p0 r1 g1) (kcwS hts kw_1119 kv_X3_is rfl rfl ⟨(Nat.le_of_ble_eq_true rfl), (Nat.le_of_ble_eq_true rfl)⟩) (kpS (A := A) (kPnil) hK ((kDnil (A := A))) hG) rfl rfl hl.1 rfl (lv_room (Nat.le_of_ble_eq_true rfl)) (kdr dgX3_open_0 0 2 rfl rfl) ⟨(Nat.le_of_ble_eq_true rfl), (Nat.le_of_ble_eq_true rfl)⟩) hP hD hS hA kFr_n (fun H locs hP hD hS br1 => ?_)
  refine lv_if_eq (tgt := 15) hx hb (kdr dgX3_open_0 0 3 rfl rfl) (by decide) (fun c2 => ?_) (fun c2 => ?_)
  · have h := g_t c2 h
    exact J15 mce mfr mun mbe men mov msp mwb mwe mwi mac mre mkn mth p0 p1 _ _ hP hD hS ls (lv_sub hl [0, 1, 2] rfl) h
  · have h := g_f c2 h
    refine lv_iload_n hx hb (kdr dgX3_open_0 0 4 rfl rfl) rfl (lv_at hl 2 rfl) ?_
    obtain ⟨r3, g3, h⟩ := g_b h
    refine kq_i (wMo cJ cZ b mce mfr mun mbe men mov msp mwb mwe mwi mac mre mkn mth) (fun qP qD qF => va_runS (As := [.int p1]) (rest := [.ref (b 0)]) ⟨hx, hb, hml, hown, hts⟩ (c_X3_is l dC dI cB cI cJ cZ  _  p1 r3 g3) (kcwS hts kw_1119 kv_X3_is rfl rfl ⟨(Nat.le_of_ble_eq_true rfl), (Nat.le_of_ble_eq_true rfl)⟩) (kpS (A := A) (kPnil) hK ((kDnil (A := A))) hG) rfl rfl hl.1 rfl (lv_room (Nat.le_of_ble_eq_true rfl)) (kdr dgX3_open_0 0 5 rfl rfl) ⟨(Nat.le_of_ble_eq_true rfl), (Nat.le_of_ble_eq_true rfl)⟩) hP hD hS hA kFr_n (fun H locs hP hD hS br3 => ?_)
    refine lv_if_ne (tgt := 19) hx hb (kdr dgX3_open_0 0 6 rfl rfl) (by decide) (fun c4 => ?_) (fun c4 => ?_)
    · have h := g_f c4 h
      refine lv_iconst (v := 0) hx hb (kdr dgX3_open_0 0 9 rfl rfl) (by decide) ?_
      exact J20 mce mfr mun mbe men mov msp mwb mwe mwi mac mre mkn mth p0 p1 0 _ _ hP hD hS ls (lv_sub hl [0, 1, 2] rfl) h
    · have h := g_t c4 h
      exact J15 mce mfr mun mbe men mov msp mwb mwe mwi mac mre mkn mth p0 p1 _ _ hP hD hS ls (lv_sub hl [0, 1, 2] rfl) h
noncomputable abbrev wsX3_mayCome : List Cond := kWs yX3_mayCome cX3_mayCome 6 (some .boolean)
noncomputable def f_X3_mayCome (mfr : Int64) (mun : Int64) (mbe : Nat → Int64) (men : Nat → Int64) (msp : Int32) (p0 : Int64) (p1 : Int64) (p2 : Int32) : Option (Int32) :=
  if p1 ≤ p0 then
    some 0
  else
    (f_X3_isIn mfr mun p0 p1).bind fun r2 =>
    if r2 = 0 then
      some 0
    else
      if 10 ≤ msp then
        some 0
      else
        if p2 = 0 then
          (f_X3_meetsSome mbe men msp p0 p1 (-1)).bind fun r6 =>
          if r6 = 0 then
            some 1
          else
            some 0
        else
          some 1
theorem f_X3_mayCome_e {mfr : Int64} {mun : Int64} {mbe : Nat → Int64} {men : Nat → Int64} {msp : Int32} {p0 : Int64} {p1 : Int64} {p2 : Int32} : f_X3_mayCome mfr mun mbe men msp p0 p1 p2 = 
  if p1 ≤ p0 then
    some 0
  else
    (f_X3_isIn mfr mun p0 p1).bind fun r2 =>
    if r2 = 0 then
      some 0
    else
      if 10 ≤ msp then
        some 0
      else
        if p2 = 0 then
          (f_X3_meetsSome mbe men msp p0 p1 (-1)).bind fun r6 =>
          if r6 = 0 then
            some 1
          else
            some 0
        else
          some 1 := rfl
set_option maxHeartbeats 4000000 in
set_option maxRecDepth 100000 in
theorem c_X3_mayCome (l : Launch) (dC : Nat → ClassId) (dI : Nat → Nat → Nat) (cB cI cJ cZ : ClassId) (b : Nat → Nat) (sz : Nat) (mce : Nat → Int64) (mfr : Int64) (mun : Int64) (mbe : Nat → Int64) (men : Nat → Int64) (mov : Nat → Int32) (msp : Int32) (mwb : Nat → Int64) (mwe : Nat → Int64) (mwi : Int32) (mac : Int32) (mre : Int32) (mkn : Int32) (mth : Int32) (p0 : Int64) (p1 : Int64) (p2 : Int32) (res : Int32) (hf : f_X3_mayCome mfr mun mbe men msp p0 p1 p2 = some res) : kMi l yX3_mayCome wsX3_mayCome (kRm 2 0 0 53) dC dI cB cI cJ cZ [.ref (b 0), .long p0, .long p1, .int p2] sz (wMo cJ cZ b mce mfr mun mbe men mov msp mwb mwe mwi mac mre mkn mth) .boolean (res) (wMo cJ cZ b mce mfr mun mbe men mov msp mwb mwe mwi mac mre mkn mth) 0 0 := by
  refine kmet_i (y := yX3_mayCome) (cc := cX3_mayCome) (maxL := 6) (ret := (some .boolean)) RX3 (kvA 0 (b 0) (kvJ 1 p0 (kvJ 3 p1 (kvI 5 p2 kvE)))) kpl_X3 rfl rfl (Nat.le_of_ble_eq_true rfl) rfl (fun p e s m below meth c A ls hx hb hr hml hts hown hlocks hP hK hG hD hA hS hl => ?_)
  have hw0 := hts (.fieldLink RX3 56 "SpanbookerModel" "spans" "I") (List.mem_cons_of_mem _ kw_1078)
  have hiX3 : ∀ w ∈ u_ws RX3 TX3 14, w ∈ wsX3_mayCome := fun w h => List.mem_cons_of_mem _ (ku_X3 w h)
  have h := f_X3_mayCome_e.symm.trans hf
  refine lv_lload_n hx hb (kdr dgX3_mayCome_0 0 0 rfl rfl) rfl (lv_at hl 1 rfl) ?_
  refine lv_lload_n hx hb (kdr dgX3_mayCome_0 0 1 rfl rfl) rfl (lv_at hl 2 rfl) ?_
  refine kl_ge (pc := 2) (tgt := 43) hx hb (kdr dgX3_mayCome_0 0 2 rfl rfl) (kdr dgX3_mayCome_0 0 3 rfl rfl) (by decide) (fun c1 => ?_) (fun c1 => ?_)
  · have h := g_t c1 h
    refine lv_iconst (v := 0) hx hb (kdr dgX3_mayCome_0 2 3 rfl rfl) (by decide) ?_
    have h := Option.some.inj h
    subst h
    exact kret_i (v := 0) hx hb hr rfl hlocks hS hP (kdr dgX3_mayCome_0 2 4 rfl rfl)
  · have h := g_f c1 h
    refine lv_aload_n hx hb (kdr dgX3_mayCome_0 0 4 rfl rfl) rfl (lv_at hl 0 rfl) ?_
    refine lv_lload_n hx hb (kdr dgX3_mayCome_0 0 5 rfl rfl) rfl (lv_at hl 1 rfl) ?_
    refine lv_lload_n hx hb (kdr dgX3_mayCome_0 0 6 rfl rfl) rfl (lv_at hl 2 rfl) ?_
    obtain ⟨r2, g2, h⟩ := g_b h
    refine kq_i (wMo cJ cZ b mce mfr mun mbe men mov msp mwb mwe mwi mac mre mkn mth) (fun qP qD qF => va_runV (As := [.long p0, .long p1]) (rest := []) ⟨hx, hb, hml, hown, hts⟩ (c_X3_isIn l dC dI cB cI cJ cZ b _ mce mfr mun mbe men mov msp mwb mwe mwi mac mre mkn mth p0 p1 r2 g2) (kcwV hts kw_1200 kv_X3_isIn rfl rfl ⟨(Nat.le_of_ble_eq_true rfl), (Nat.le_of_ble_eq_true rfl)⟩) (kpV (A := A) qP hK qD hG (krecv_5 (q0 := 0) hK hP rfl)) rfl rfl hl.1 rfl (lv_room (Nat.le_of_ble_eq_true rfl)) (kdr dgX3_mayCome_0 0 7 rfl rfl) ⟨(Nat.le_of_ble_eq_true rfl), (Nat.le_of_ble_eq_true rfl)⟩) hP hD hS hA kFr_Mo (fun H locs hP hD hS br2 => ?_)
    refine lv_if_eq (tgt := 43) hx hb (kdr dgX3_mayCome_0 0 8 rfl rfl) (by decide) (fun c3 => ?_) (fun c3 => ?_)
    · have h := g_t c3 h
      refine lv_iconst (v := 0) hx hb (kdr dgX3_mayCome_0 2 3 rfl rfl) (by decide) ?_
      have h := Option.some.inj h
      subst h
      exact kret_i (v := 0) hx hb hr rfl hlocks hS hP (kdr dgX3_mayCome_0 2 4 rfl rfl)
    · have h := g_f c3 h
      refine lv_aload_n hx hb (kdr dgX3_mayCome_0 0 9 rfl rfl) rfl (lv_at hl 0 rfl) ?_
      refine va_get (D := (dC, dI)) (ci := 5) (v := .int msp) (C := RX3) (T := TX3) (N := 14) hx hb hts hiX3 hown hK hP 0 rfl rfl 6 (by decide) hw0 (fun _ h9 => h9) rfl (kdr dgX3_mayCome_0 1 0 rfl rfl) ?_
      refine lv_bipush (v := 10) hx hb (kdr dgX3_mayCome_0 1 1 rfl rfl) (by decide) ?_
      refine lv_icmp_ge (tgt := 43) hx hb (kdr dgX3_mayCome_0 1 2 rfl rfl) (by decide) (fun c4 => ?_) (fun c4 => ?_)
      · have h := g_t c4 h
        refine lv_iconst (v := 0) hx hb (kdr dgX3_mayCome_0 2 3 rfl rfl) (by decide) ?_
        have h := Option.some.inj h
        subst h
        exact kret_i (v := 0) hx hb hr rfl hlocks hS hP (kdr dgX3_mayCome_0 2 4 rfl rfl)
      · have h := g_f c4 h
        refine lv_iload hx hb (kdr dgX3_mayCome_0 1 3 rfl rfl) (lv_at hl 3 rfl) ?_
        refine lv_if_ne (tgt := 39) hx hb (kdr dgX3_mayCome_0 1 4 rfl rfl) (by decide) (fun c5 => ?_) (fun c5 => ?_)
        · have h := g_f c5 h
          refine lv_iconst (v := 1) hx hb (kdr dgX3_mayCome_0 2 1 rfl rfl) (by decide) ?_
          refine lv_goto (tgt := 44) hx hb (kdr dgX3_mayCome_0 2 2 rfl rfl) (by decide) ?_
          have h := Option.some.inj h
          subst h
          exact kret_i (v := 1) hx hb hr rfl hlocks hS hP (kdr dgX3_mayCome_0 2 4 rfl rfl)
        · have h := g_t c5 h
          refine lv_aload_n hx hb (kdr dgX3_mayCome_0 1 5 rfl rfl) rfl (lv_at hl 0 rfl) ?_
          refine lv_lload_n hx hb (kdr dgX3_mayCome_0 1 6 rfl rfl) rfl (lv_at hl 1 rfl) ?_
          refine lv_lload_n hx hb (kdr dgX3_mayCome_0 1 7 rfl rfl) rfl (lv_at hl 2 rfl) ?_
          refine lv_iconst (v := (-1)) hx hb (kdr dgX3_mayCome_0 1 8 rfl rfl) (by decide) ?_
          obtain ⟨r6, g6, h⟩ := g_b h
          refine kq_i (wMo cJ cZ b mce mfr mun mbe men mov msp mwb mwe mwi mac mre mkn mth) (fun qP qD qF => va_runV (As := [.long p0, .long p1, .int (-1)]) (rest := []) ⟨hx, hb, hml, hown, hts⟩ (c_X3_meetsSome l dC dI cB cI cJ cZ b _ mce mfr mun mbe men mov msp mwb mwe mwi mac mre mkn mth p0 p1 (-1) r6 g6) (kcwV hts kw_1204 kv_X3_meetsSome rfl rfl ⟨(Nat.le_of_ble_eq_true rfl), (Nat.le_of_ble_eq_true rfl)⟩) (kpV (A := A) qP hK qD hG (krecv_5 (q0 := 0) hK hP rfl)) rfl rfl hl.1 rfl (lv_room (Nat.le_of_ble_eq_true rfl)) (kdr dgX3_mayCome_0 1 9 rfl rfl) ⟨(Nat.le_of_ble_eq_true rfl), (Nat.le_of_ble_eq_true rfl)⟩) hP hD hS hA kFr_Mo (fun H locs hP hD hS br6 => ?_)
          refine lv_if_ne (tgt := 43) hx hb (kdr dgX3_mayCome_0 2 0 rfl rfl) (by decide) (fun c7 => ?_) (fun c7 => ?_)
          · have h := g_f c7 h
            refine lv_iconst (v := 0) hx hb (kdr dgX3_mayCome_0 2 3 rfl rfl) (by decide) ?_
            have h := Option.some.inj h
            subst h
            exact kret_i (v := 0) hx hb hr rfl hlocks hS hP (kdr dgX3_mayCome_0 2 4 rfl rfl)
          · have h := g_t c7 h
            refine lv_iconst (v := 1) hx hb (kdr dgX3_mayCome_0 2 1 rfl rfl) (by decide) ?_
            refine lv_goto (tgt := 44) hx hb (kdr dgX3_mayCome_0 2 2 rfl rfl) (by decide) ?_
            have h := Option.some.inj h
            subst h
            exact kret_i (v := 1) hx hb hr rfl hlocks hS hP (kdr dgX3_mayCome_0 2 4 rfl rfl)
noncomputable abbrev wsX3_come : List Cond := kWs yX3_come cX3_come 6 (some .int)
noncomputable def f_X3_come (mbe : Nat → Int64) (men : Nat → Int64) (mov : Nat → Int32) (msp : Int32) (mac : Int32) (p0 : Int64) (p1 : Int64) (p2 : Int32) : Option ((Int32) × (Nat → Int64) × (Nat → Int64) × (Nat → Int32) × (Int32) × (Int32)) :=
  if ix msp 10 then
    (f_X3_done mac ((msp + 1) - 1)).bind fun r2 =>
    some (r2.1, vp_updL mbe msp.toNatClampNeg p0, vp_updL men msp.toNatClampNeg p1, upd mov msp.toNatClampNeg (vp_nar .boolean p2), msp + 1, r2.2)
  else none
theorem f_X3_come_e {mbe : Nat → Int64} {men : Nat → Int64} {mov : Nat → Int32} {msp : Int32} {mac : Int32} {p0 : Int64} {p1 : Int64} {p2 : Int32} : f_X3_come mbe men mov msp mac p0 p1 p2 = 
  if ix msp 10 then
    (f_X3_done mac ((msp + 1) - 1)).bind fun r2 =>
    some (r2.1, vp_updL mbe msp.toNatClampNeg p0, vp_updL men msp.toNatClampNeg p1, upd mov msp.toNatClampNeg (vp_nar .boolean p2), msp + 1, r2.2)
  else none := rfl
set_option maxHeartbeats 4000000 in
set_option maxRecDepth 100000 in
theorem c_X3_come (l : Launch) (dC : Nat → ClassId) (dI : Nat → Nat → Nat) (cB cI cJ cZ : ClassId) (b : Nat → Nat) (sz : Nat) (mce : Nat → Int64) (mfr : Int64) (mun : Int64) (mbe : Nat → Int64) (men : Nat → Int64) (mov : Nat → Int32) (msp : Int32) (mwb : Nat → Int64) (mwe : Nat → Int64) (mwi : Int32) (mac : Int32) (mre : Int32) (mkn : Int32) (mth : Int32) (p0 : Int64) (p1 : Int64) (p2 : Int32) (res : (Int32) × (Nat → Int64) × (Nat → Int64) × (Nat → Int32) × (Int32) × (Int32)) (hf : f_X3_come mbe men mov msp mac p0 p1 p2 = some res) : kMi l yX3_come wsX3_come (kRm 1 0 0 21) dC dI cB cI cJ cZ [.ref (b 0), .long p0, .long p1, .int p2] sz (wMo cJ cZ b mce mfr mun mbe men mov msp mwb mwe mwi mac mre mkn mth) .int (res.1) (wMo cJ cZ b mce mfr mun (res.2.1) (res.2.2.1) (res.2.2.2.1) (res.2.2.2.2.1) mwb mwe mwi (res.2.2.2.2.2) mre mkn mth) 0 0 := by
  refine kmet_i (y := yX3_come) (cc := cX3_come) (maxL := 6) (ret := (some .int)) RX3 (kvA 0 (b 0) (kvJ 1 p0 (kvJ 3 p1 (kvI 5 p2 kvE)))) kpl_X3 rfl rfl (Nat.le_of_ble_eq_true rfl) rfl (fun p e s m below meth c A ls hx hb hr hml hts hown hlocks hP hK hG hD hA hS hl => ?_)
  have hw0 := hts (.fieldLink RX3 19 "SpanbookerModel" "begins" "[J") (List.mem_cons_of_mem _ kw_1075)
  have hw1 := hts (.fieldLink RX3 56 "SpanbookerModel" "spans" "I") (List.mem_cons_of_mem _ kw_1078)
  have hw2 := hts (.fieldLink RX3 22 "SpanbookerModel" "ends" "[J") (List.mem_cons_of_mem _ kw_1076)
  have hw3 := hts (.fieldLink RX3 25 "SpanbookerModel" "over" "[Z") (List.mem_cons_of_mem _ kw_1077)
  have hiX3 : ∀ w ∈ u_ws RX3 TX3 14, w ∈ wsX3_come := fun w h => List.mem_cons_of_mem _ (ku_X3 w h)
  have h := f_X3_come_e.symm.trans hf
  refine lv_aload_n hx hb (kdr dgX3_come_0 0 0 rfl rfl) rfl (lv_at hl 0 rfl) ?_
  refine va_get (D := (dC, dI)) (ci := 5) (v := .ref (b 2)) (C := RX3) (T := TX3) (N := 14) hx hb hts hiX3 hown hK hP 0 rfl rfl 3 (by decide) hw0 (fun _ h9 => h9) rfl (kdr dgX3_come_0 0 1 rfl rfl) ?_
  refine lv_aload_n hx hb (kdr dgX3_come_0 0 2 rfl rfl) rfl (lv_at hl 0 rfl) ?_
  refine va_get (D := (dC, dI)) (ci := 5) (v := .int msp) (C := RX3) (T := TX3) (N := 14) hx hb hts hiX3 hown hK hP 0 rfl rfl 6 (by decide) hw1 (fun _ h9 => h9) rfl (kdr dgX3_come_0 0 3 rfl rfl) ?_
  refine lv_lload_n hx hb (kdr dgX3_come_0 0 4 rfl rfl) rfl (lv_at hl 1 rfl) ?_
  obtain ⟨z0, h⟩ := g_if h
  refine va_last hx hb hK hP hD hS 2 2 rfl rfl (ix_in z0) (kdr dgX3_come_0 0 5 rfl rfl) (fun H locs hP hD hS => ?_)
  have hP : va_P (dC, dI) vwCl (wMo cJ cZ b mce mfr mun (vp_updL mbe msp.toNatClampNeg p0) men mov msp mwb mwe mwi mac mre mkn mth) H := hP
  have hD : va_D A (wMo cJ cZ b mce mfr mun (vp_updL mbe msp.toNatClampNeg p0) men mov msp mwb mwe mwi mac mre mkn mth) := hD
  refine lv_aload_n hx hb (kdr dgX3_come_0 0 6 rfl rfl) rfl (lv_at hl 0 rfl) ?_
  refine va_get (D := (dC, dI)) (ci := 5) (v := .ref (b 3)) (C := RX3) (T := TX3) (N := 14) hx hb hts hiX3 hown hK hP 0 rfl rfl 4 (by decide) hw2 (fun _ h9 => h9) rfl (kdr dgX3_come_0 0 7 rfl rfl) ?_
  refine lv_aload_n hx hb (kdr dgX3_come_0 0 8 rfl rfl) rfl (lv_at hl 0 rfl) ?_
  refine va_get (D := (dC, dI)) (ci := 5) (v := .int msp) (C := RX3) (T := TX3) (N := 14) hx hb hts hiX3 hown hK hP 0 rfl rfl 6 (by decide) hw1 (fun _ h9 => h9) rfl (kdr dgX3_come_0 0 9 rfl rfl) ?_
  refine lv_lload_n hx hb (kdr dgX3_come_0 1 0 rfl rfl) rfl (lv_at hl 2 rfl) ?_
  refine va_last hx hb hK hP hD hS 3 2 rfl rfl (ix_in z0) (kdr dgX3_come_0 1 1 rfl rfl) (fun H locs hP hD hS => ?_)
  have hP : va_P (dC, dI) vwCl (wMo cJ cZ b mce mfr mun (vp_updL mbe msp.toNatClampNeg p0) (vp_updL men msp.toNatClampNeg p1) mov msp mwb mwe mwi mac mre mkn mth) H := hP
  have hD : va_D A (wMo cJ cZ b mce mfr mun (vp_updL mbe msp.toNatClampNeg p0) (vp_updL men msp.toNatClampNeg p1) mov msp mwb mwe mwi mac mre mkn mth) := hD
  refine lv_aload_n hx hb (kdr dgX3_come_0 1 2 rfl rfl) rfl (lv_at hl 0 rfl) ?_
  refine va_get (D := (dC, dI)) (ci := 5) (v := .ref (b 4)) (C := RX3) (T := TX3) (N := 14) hx hb hts hiX3 hown hK hP 0 rfl rfl 5 (by decide) hw3 (fun _ h9 => h9) rfl (kdr dgX3_come_0 1 3 rfl rfl) ?_
  refine lv_aload_n hx hb (kdr dgX3_come_0 1 4 rfl rfl) rfl (lv_at hl 0 rfl) ?_
  refine va_get (D := (dC, dI)) (ci := 5) (v := .int msp) (C := RX3) (T := TX3) (N := 14) hx hb hts hiX3 hown hK hP 0 rfl rfl 6 (by decide) hw1 (fun _ h9 => h9) rfl (kdr dgX3_come_0 1 5 rfl rfl) ?_
  refine lv_iload hx hb (kdr dgX3_come_0 1 6 rfl rfl) (lv_at hl 3 rfl) ?_
  refine va_zast hx hb hK hP hD hS 4 3 rfl rfl (ix_in z0) (kdr dgX3_come_0 1 7 rfl rfl) (fun H locs hP hD hS => ?_)
  have hP : va_P (dC, dI) vwCl (wMo cJ cZ b mce mfr mun (vp_updL mbe msp.toNatClampNeg p0) (vp_updL men msp.toNatClampNeg p1) (upd mov msp.toNatClampNeg (vp_nar .boolean p2)) msp mwb mwe mwi mac mre mkn mth) H := hP
  have hD : va_D A (wMo cJ cZ b mce mfr mun (vp_updL mbe msp.toNatClampNeg p0) (vp_updL men msp.toNatClampNeg p1) (upd mov msp.toNatClampNeg (vp_nar .boolean p2)) msp mwb mwe mwi mac mre mkn mth) := hD
  refine lv_aload_n hx hb (kdr dgX3_come_0 1 8 rfl rfl) rfl (lv_at hl 0 rfl) ?_
  refine lv_dup hx hb (kdr dgX3_come_0 1 9 rfl rfl) rfl ?_
  refine va_get (D := (dC, dI)) (ci := 5) (v := .int msp) (C := RX3) (T := TX3) (N := 14) hx hb hts hiX3 hown hK hP 0 rfl rfl 6 (by decide) hw1 (fun _ h9 => h9) rfl (kdr dgX3_come_0 2 0 rfl rfl) ?_
  refine lv_iconst (v := 1) hx hb (kdr dgX3_come_0 2 1 rfl rfl) (by decide) ?_
  refine lv_iadd hx hb (kdr dgX3_come_0 2 2 rfl rfl) ?_
  refine va_put (D := (dC, dI)) (ci := 5) (v := .int (msp + 1)) (ty := .int) (C := RX3) (T := TX3) (N := 14) hx hb hts hiX3 tyX3 tyX3_ok nmX3 hown hK hP hD hS 0 rfl rfl 6 (by decide) hw1 (fun _ h9 => h9) rfl (by decide +kernel) rfl rfl (Nat.le_of_ble_eq_true rfl) (kdr dgX3_come_0 2 3 rfl rfl) (fun H locs hP hD hS => ?_)
  have hP : va_P (dC, dI) vwCl (wMo cJ cZ b mce mfr mun (vp_updL mbe msp.toNatClampNeg p0) (vp_updL men msp.toNatClampNeg p1) (upd mov msp.toNatClampNeg (vp_nar .boolean p2)) (msp + 1) mwb mwe mwi mac mre mkn mth) H := hP
  have hD : va_D A (wMo cJ cZ b mce mfr mun (vp_updL mbe msp.toNatClampNeg p0) (vp_updL men msp.toNatClampNeg p1) (upd mov msp.toNatClampNeg (vp_nar .boolean p2)) (msp + 1) mwb mwe mwi mac mre mkn mth) := hD
  refine lv_aload_n hx hb (kdr dgX3_come_0 2 4 rfl rfl) rfl (lv_at hl 0 rfl) ?_
  refine lv_aload_n hx hb (kdr dgX3_come_0 2 5 rfl rfl) rfl (lv_at hl 0 rfl) ?_
  refine va_get (D := (dC, dI)) (ci := 5) (v := .int (msp + 1)) (C := RX3) (T := TX3) (N := 14) hx hb hts hiX3 hown hK hP 0 rfl rfl 6 (by decide) hw1 (fun _ h9 => h9) rfl (kdr dgX3_come_0 2 6 rfl rfl) ?_
  refine lv_iconst (v := 1) hx hb (kdr dgX3_come_0 2 7 rfl rfl) (by decide) ?_
  refine lv_isub hx hb (kdr dgX3_come_0 2 8 rfl rfl) ?_
  obtain ⟨r2, g2, h⟩ := g_b h
  refine kq_i (wMo cJ cZ b mce mfr mun (vp_updL mbe msp.toNatClampNeg p0) (vp_updL men msp.toNatClampNeg p1) (upd mov msp.toNatClampNeg (vp_nar .boolean p2)) (msp + 1) mwb mwe mwi r2.2 mre mkn mth) (fun qP qD qF => va_runV (As := [.int ((msp + 1) - 1)]) (rest := []) ⟨hx, hb, hml, hown, hts⟩ (c_X3_done l dC dI cB cI cJ cZ b _ mce mfr mun (vp_updL mbe msp.toNatClampNeg p0) (vp_updL men msp.toNatClampNeg p1) (upd mov msp.toNatClampNeg (vp_nar .boolean p2)) (msp + 1) mwb mwe mwi mac mre mkn mth ((msp + 1) - 1) r2 g2) (kcwV hts kw_1144 kv_X3_done rfl rfl ⟨(Nat.le_of_ble_eq_true rfl), (Nat.le_of_ble_eq_true rfl)⟩) (kpV (A := A) qP hK qD hG (krecv_5 (q0 := 0) hK hP rfl)) rfl rfl hl.1 rfl (lv_room (Nat.le_of_ble_eq_true rfl)) (kdr dgX3_come_0 2 9 rfl rfl) ⟨(Nat.le_of_ble_eq_true rfl), (Nat.le_of_ble_eq_true rfl)⟩) hP hD hS hA kFr_Mo (fun H locs hP hD hS br2 => ?_)
  have h := Option.some.inj h
  subst h
  exact kret_i (v := r2.1) hx hb hr rfl hlocks hS hP (kdr dgX3_come_0 3 0 rfl rfl)
noncomputable abbrev wsX3_book : List Cond := kWs yX3_book cX3_book 4 (some .int)
noncomputable def f_X3_book_20 (mce : Nat → Int64) (mfr : Int64) (mun : Int64) (mbe : Nat → Int64) (men : Nat → Int64) (mov : Nat → Int32) (msp : Int32) (mac : Int32) (mre : Int32) (x1 : Int32) (x2 : Int32) (x3 : Int32) (y0 : Int32) : Option ((Int32) × (Nat → Int64) × (Nat → Int64) × (Nat → Int32) × (Int32) × (Int32) × (Int32) × (Int32)) :=
  (f_X3_isThrown_ y0).bind fun r1 =>
  if r1.1 = 0 then
    if ix x1 4 then
      if ix x2 4 then
        (f_X3_mayCome mfr mun mbe men msp (mce x1.toNatClampNeg) (mce x2.toNatClampNeg) x3).bind fun r5 =>
        if r5 = 0 then
          (f_X3_no mre).bind fun r7 =>
          some (r7.1, mbe, men, mov, msp, mac, r7.2, r1.2)
        else
          (f_X3_come mbe men mov msp mac (mce x1.toNatClampNeg) (mce x2.toNatClampNeg) x3).bind fun r7 =>
          some (r7.1, r7.2.1, r7.2.2.1, r7.2.2.2.1, r7.2.2.2.2.1, r7.2.2.2.2.2, mre, r1.2)
      else none
    else none
  else
    some (0, mbe, men, mov, msp, mac, mre, r1.2)
theorem f_X3_book_20_e {mce : Nat → Int64} {mfr : Int64} {mun : Int64} {mbe : Nat → Int64} {men : Nat → Int64} {mov : Nat → Int32} {msp : Int32} {mac : Int32} {mre : Int32} {x1 : Int32} {x2 : Int32} {x3 : Int32} {y0 : Int32} : f_X3_book_20 mce mfr mun mbe men mov msp mac mre x1 x2 x3 y0 =
  (f_X3_isThrown_ y0).bind fun r1 =>
  if r1.1 = 0 then
    if ix x1 4 then
      if ix x2 4 then
        (f_X3_mayCome mfr mun mbe men msp (mce x1.toNatClampNeg) (mce x2.toNatClampNeg) x3).bind fun r5 =>
        if r5 = 0 then
          (f_X3_no mre).bind fun r7 =>
          some (r7.1, mbe, men, mov, msp, mac, r7.2, r1.2)
        else
          (f_X3_come mbe men mov msp mac (mce x1.toNatClampNeg) (mce x2.toNatClampNeg) x3).bind fun r7 =>
          some (r7.1, r7.2.1, r7.2.2.1, r7.2.2.2.1, r7.2.2.2.2.1, r7.2.2.2.2.2, mre, r1.2)
      else none
    else none
  else
    some (0, mbe, men, mov, msp, mac, mre, r1.2) := rfl
noncomputable def f_X3_book_15 (mce : Nat → Int64) (mfr : Int64) (mun : Int64) (mbe : Nat → Int64) (men : Nat → Int64) (mov : Nat → Int32) (msp : Int32) (mac : Int32) (mre : Int32) (x1 : Int32) (x2 : Int32) (x3 : Int32) : Option ((Int32) × (Nat → Int64) × (Nat → Int64) × (Nat → Int32) × (Int32) × (Int32) × (Int32) × (Int32)) :=
  f_X3_book_20 mce mfr mun mbe men mov msp mac mre x1 x2 x3 1
theorem f_X3_book_15_e {mce : Nat → Int64} {mfr : Int64} {mun : Int64} {mbe : Nat → Int64} {men : Nat → Int64} {mov : Nat → Int32} {msp : Int32} {mac : Int32} {mre : Int32} {x1 : Int32} {x2 : Int32} {x3 : Int32} : f_X3_book_15 mce mfr mun mbe men mov msp mac mre x1 x2 x3 =
  f_X3_book_20 mce mfr mun mbe men mov msp mac mre x1 x2 x3 1 := rfl
noncomputable def f_X3_book (mce : Nat → Int64) (mfr : Int64) (mun : Int64) (mbe : Nat → Int64) (men : Nat → Int64) (mov : Nat → Int32) (msp : Int32) (mac : Int32) (mre : Int32) (p0 : Int32) (p1 : Int32) (p2 : Int32) : Option ((Int32) × (Nat → Int64) × (Nat → Int64) × (Nat → Int32) × (Int32) × (Int32) × (Int32) × (Int32)) :=
  (f_X3_is p0).bind fun r1 =>
  if r1 = 0 then
    f_X3_book_15 mce mfr mun mbe men mov msp mac mre p0 p1 p2
  else
    (f_X3_is p1).bind fun r3 =>
    if r3 = 0 then
      f_X3_book_15 mce mfr mun mbe men mov msp mac mre p0 p1 p2
    else
      f_X3_book_20 mce mfr mun mbe men mov msp mac mre p0 p1 p2 0
theorem f_X3_book_e {mce : Nat → Int64} {mfr : Int64} {mun : Int64} {mbe : Nat → Int64} {men : Nat → Int64} {mov : Nat → Int32} {msp : Int32} {mac : Int32} {mre : Int32} {p0 : Int32} {p1 : Int32} {p2 : Int32} : f_X3_book mce mfr mun mbe men mov msp mac mre p0 p1 p2 = 
  (f_X3_is p0).bind fun r1 =>
  if r1 = 0 then
    f_X3_book_15 mce mfr mun mbe men mov msp mac mre p0 p1 p2
  else
    (f_X3_is p1).bind fun r3 =>
    if r3 = 0 then
      f_X3_book_15 mce mfr mun mbe men mov msp mac mre p0 p1 p2
    else
      f_X3_book_20 mce mfr mun mbe men mov msp mac mre p0 p1 p2 0 := rfl
set_option maxHeartbeats 4000000 in
set_option maxRecDepth 100000 in
theorem c_X3_book (l : Launch) (dC : Nat → ClassId) (dI : Nat → Nat → Nat) (cB cI cJ cZ : ClassId) (b : Nat → Nat) (sz : Nat) (mce : Nat → Int64) (mfr : Int64) (mun : Int64) (mbe : Nat → Int64) (men : Nat → Int64) (mov : Nat → Int32) (msp : Int32) (mwb : Nat → Int64) (mwe : Nat → Int64) (mwi : Int32) (mac : Int32) (mre : Int32) (mkn : Int32) (mth : Int32) (p0 : Int32) (p1 : Int32) (p2 : Int32) (res : (Int32) × (Nat → Int64) × (Nat → Int64) × (Nat → Int32) × (Int32) × (Int32) × (Int32) × (Int32)) (hf : f_X3_book mce mfr mun mbe men mov msp mac mre p0 p1 p2 = some res) : kMi l yX3_book wsX3_book (kRm 3 0 0 78) dC dI cB cI cJ cZ [.ref (b 0), .int p0, .int p1, .int p2] sz (wMo cJ cZ b mce mfr mun mbe men mov msp mwb mwe mwi mac mre mkn mth) .int (res.1) (wMo cJ cZ b mce mfr mun (res.2.1) (res.2.2.1) (res.2.2.2.1) (res.2.2.2.2.1) mwb mwe mwi (res.2.2.2.2.2.1) (res.2.2.2.2.2.2.1) mkn (res.2.2.2.2.2.2.2)) 0 0 := by
  refine kmet_i (y := yX3_book) (cc := cX3_book) (maxL := 4) (ret := (some .int)) RX3 (kvA 0 (b 0) (kvI 1 p0 (kvI 2 p1 (kvI 3 p2 kvE)))) kpl_X3 rfl rfl (Nat.le_of_ble_eq_true rfl) rfl (fun p e s m below meth c A ls hx hb hr hml hts hown hlocks hP hK hG hD hA hS hl => ?_)
  have hw0 := hts (.fieldLink RX3 7 "SpanbookerModel" "cells" "[J") (List.mem_cons_of_mem _ kw_1072)
  have hiX3 : ∀ w ∈ u_ws RX3 TX3 14, w ∈ wsX3_book := fun w h => List.mem_cons_of_mem _ (ku_X3 w h)
  have J20 : ∀ (mce : Nat → Int64) (mfr : Int64) (mun : Int64) (mbe : Nat → Int64) (men : Nat → Int64) (mov : Nat → Int32) (msp : Int32) (mwb : Nat → Int64) (mwe : Nat → Int64) (mwi : Int32) (mac : Int32) (mre : Int32) (mkn : Int32) (mth : Int32) (x1 : Int32) (x2 : Int32) (x3 : Int32) (y0 : Int32) (H : Heap) (locs : List Loc), va_P (dC, dI) vwCl (wMo cJ cZ b mce mfr mun mbe men mov msp mwb mwe mwi mac mre mkn mth) H → va_D A (wMo cJ cZ b mce mfr mun mbe men mov msp mwb mwe mwi mac mre mkn mth) → va_S A s.heap H locs → ∀ (ls : Array Slot), lv_has ls 4 (kvA 0 (b 0) (kvI 1 x1 (kvI 2 x2 (kvI 3 x3 kvE)))) → f_X3_book_20 mce mfr mun mbe men mov msp mac mre x1 x2 x3 y0 = some res → W p l e (headSpec wsX3_book (kRm 3 0 0 78)).room s m ([.ref (b 0), .int p0, .int p1, .int p2] : List Value).toArray below meth c H locs 0 0 (MQ below (kI (dC, dI) .int (res.1) (wMo cJ cZ b mce mfr mun (res.2.1) (res.2.2.1) (res.2.2.2.1) (res.2.2.2.2.1) mwb mwe mwi (res.2.2.2.2.2.1) (res.2.2.2.2.2.2.1) mkn (res.2.2.2.2.2.2.2)) A) ([.ref (b 0), .int p0, .int p1, .int p2] : List Value).toArray s 0 0 A) (F0 m 20 ls [.int y0, .ref (b 0)]) := by
    intro mce mfr mun mbe men mov msp mwb mwe mwi mac mre mkn mth x1 x2 x3 y0 H locs hP hD hS ls hl h
    have h := f_X3_book_20_e.symm.trans h
    obtain ⟨r1, g1, h⟩ := g_b h
    refine kq_i (wMo cJ cZ b mce mfr mun mbe men mov msp mwb mwe mwi mac mre mkn r1.2) (fun qP qD qF => va_runV (As := [.int y0]) (rest := []) ⟨hx, hb, hml, hown, hts⟩ (c_X3_isThrown_ l dC dI cB cI cJ cZ b _ mce mfr mun mbe men mov msp mwb mwe mwi mac mre mkn mth y0 r1 g1) (kcwV hts kw_1166 kv_X3_isThrown_ rfl rfl ⟨(Nat.le_of_ble_eq_true rfl), (Nat.le_of_ble_eq_true rfl)⟩) (kpV (A := A) qP hK qD hG (krecv_5 (q0 := 0) hK hP rfl)) rfl rfl hl.1 rfl (lv_room (Nat.le_of_ble_eq_true rfl)) (kdr dgX3_book_0 1 0 rfl rfl) ⟨(Nat.le_of_ble_eq_true rfl), (Nat.le_of_ble_eq_true rfl)⟩) hP hD hS hA kFr_Mo (fun H locs hP hD hS br1 => ?_)
    refine lv_if_eq (tgt := 28) hx hb (kdr dgX3_book_0 1 1 rfl rfl) (by decide) (fun c2 => ?_) (fun c2 => ?_)
    · have h := g_t c2 h
      refine lv_aload_n hx hb (kdr dgX3_book_0 1 4 rfl rfl) rfl (lv_at hl 0 rfl) ?_
      refine lv_aload_n hx hb (kdr dgX3_book_0 1 5 rfl rfl) rfl (lv_at hl 0 rfl) ?_
      refine va_get (D := (dC, dI)) (ci := 5) (v := .ref (b 1)) (C := RX3) (T := TX3) (N := 14) hx hb hts hiX3 hown hK hP 0 rfl rfl 0 (by decide) hw0 (fun _ h9 => h9) rfl (kdr dgX3_book_0 1 6 rfl rfl) ?_
      refine lv_iload_n hx hb (kdr dgX3_book_0 1 7 rfl rfl) rfl (lv_at hl 1 rfl) ?_
      obtain ⟨z2, h⟩ := g_if h
      refine va_lald hx hb hK hP 1 2 rfl rfl (ix_in z2) (kdr dgX3_book_0 1 8 rfl rfl) ?_
      refine lv_aload_n hx hb (kdr dgX3_book_0 1 9 rfl rfl) rfl (lv_at hl 0 rfl) ?_
      refine va_get (D := (dC, dI)) (ci := 5) (v := .ref (b 1)) (C := RX3) (T := TX3) (N := 14) hx hb hts hiX3 hown hK hP 0 rfl rfl 0 (by decide) hw0 (fun _ h9 => h9) rfl (kdr dgX3_book_0 2 0 rfl rfl) ?_
      refine lv_iload_n hx hb (kdr dgX3_book_0 2 1 rfl rfl) rfl (lv_at hl 2 rfl) ?_
      obtain ⟨z3, h⟩ := g_if h
      refine va_lald hx hb hK hP 1 2 rfl rfl (ix_in z3) (kdr dgX3_book_0 2 2 rfl rfl) ?_
      refine lv_iload_n hx hb (kdr dgX3_book_0 2 3 rfl rfl) rfl (lv_at hl 3 rfl) ?_
      obtain ⟨r5, g5, h⟩ := g_b h
      refine kq_i (wMo cJ cZ b mce mfr mun mbe men mov msp mwb mwe mwi mac mre mkn r1.2) (fun qP qD qF => va_runV (As := [.long (mce x1.toNatClampNeg), .long (mce x2.toNatClampNeg), .int x3]) (rest := []) ⟨hx, hb, hml, hown, hts⟩ (c_X3_mayCome l dC dI cB cI cJ cZ b _ mce mfr mun mbe men mov msp mwb mwe mwi mac mre mkn r1.2 (mce x1.toNatClampNeg) (mce x2.toNatClampNeg) x3 r5 g5) (kcwV hts kw_1196 kv_X3_mayCome rfl rfl ⟨(Nat.le_of_ble_eq_true rfl), (Nat.le_of_ble_eq_true rfl)⟩) (kpV (A := A) qP hK qD hG (krecv_5 (q0 := 0) hK hP rfl)) rfl rfl hl.1 rfl (lv_room (Nat.le_of_ble_eq_true rfl)) (kdr dgX3_book_0 2 4 rfl rfl) ⟨(Nat.le_of_ble_eq_true rfl), (Nat.le_of_ble_eq_true rfl)⟩) hP hD hS hA kFr_Mo (fun H locs hP hD hS br5 => ?_)
      refine lv_if_eq (tgt := 68) hx hb (kdr dgX3_book_0 2 5 rfl rfl) (by decide) (fun c6 => ?_) (fun c6 => ?_)
      · have h := g_t c6 h
        refine lv_aload_n hx hb (kdr dgX3_book_0 3 8 rfl rfl) rfl (lv_at hl 0 rfl) ?_
        obtain ⟨r7, g7, h⟩ := g_b h
        refine kq_i (wMo cJ cZ b mce mfr mun mbe men mov msp mwb mwe mwi mac r7.2 mkn r1.2) (fun qP qD qF => va_runV (As := []) (rest := []) ⟨hx, hb, hml, hown, hts⟩ (c_X3_no l dC dI cB cI cJ cZ b _ mce mfr mun mbe men mov msp mwb mwe mwi mac mre mkn r1.2  r7 g7) (kcwV hts kw_1136 kv_X3_no rfl rfl ⟨(Nat.le_of_ble_eq_true rfl), (Nat.le_of_ble_eq_true rfl)⟩) (kpV (A := A) qP hK qD hG (krecv_5 (q0 := 0) hK hP rfl)) rfl rfl hl.1 rfl (lv_room (Nat.le_of_ble_eq_true rfl)) (kdr dgX3_book_0 3 9 rfl rfl) ⟨(Nat.le_of_ble_eq_true rfl), (Nat.le_of_ble_eq_true rfl)⟩) hP hD hS hA kFr_Mo (fun H locs hP hD hS br7 => ?_)
        have h := Option.some.inj h
        subst h
        exact kret_i (v := r7.1) hx hb hr rfl hlocks hS hP (kdr dgX3_book_0 4 0 rfl rfl)
      · have h := g_f c6 h
        refine lv_aload_n hx hb (kdr dgX3_book_0 2 6 rfl rfl) rfl (lv_at hl 0 rfl) ?_
        refine lv_aload_n hx hb (kdr dgX3_book_0 2 7 rfl rfl) rfl (lv_at hl 0 rfl) ?_
        refine va_get (D := (dC, dI)) (ci := 5) (v := .ref (b 1)) (C := RX3) (T := TX3) (N := 14) hx hb hts hiX3 hown hK hP 0 rfl rfl 0 (by decide) hw0 (fun _ h9 => h9) rfl (kdr dgX3_book_0 2 8 rfl rfl) ?_
        refine lv_iload_n hx hb (kdr dgX3_book_0 2 9 rfl rfl) rfl (lv_at hl 1 rfl) ?_
        refine va_lald hx hb hK hP 1 2 rfl rfl (ix_in z2) (kdr dgX3_book_0 3 0 rfl rfl) ?_
        refine lv_aload_n hx hb (kdr dgX3_book_0 3 1 rfl rfl) rfl (lv_at hl 0 rfl) ?_
        refine va_get (D := (dC, dI)) (ci := 5) (v := .ref (b 1)) (C := RX3) (T := TX3) (N := 14) hx hb hts hiX3 hown hK hP 0 rfl rfl 0 (by decide) hw0 (fun _ h9 => h9) rfl (kdr dgX3_book_0 3 2 rfl rfl) ?_
        refine lv_iload_n hx hb (kdr dgX3_book_0 3 3 rfl rfl) rfl (lv_at hl 2 rfl) ?_
        refine va_lald hx hb hK hP 1 2 rfl rfl (ix_in z3) (kdr dgX3_book_0 3 4 rfl rfl) ?_
        refine lv_iload_n hx hb (kdr dgX3_book_0 3 5 rfl rfl) rfl (lv_at hl 3 rfl) ?_
        obtain ⟨r7, g7, h⟩ := g_b h
        refine kq_i (wMo cJ cZ b mce mfr mun r7.2.1 r7.2.2.1 r7.2.2.2.1 r7.2.2.2.2.1 mwb mwe mwi r7.2.2.2.2.2 mre mkn r1.2) (fun qP qD qF => va_runV (As := [.long (mce x1.toNatClampNeg), .long (mce x2.toNatClampNeg), .int x3]) (rest := []) ⟨hx, hb, hml, hown, hts⟩ (c_X3_come l dC dI cB cI cJ cZ b _ mce mfr mun mbe men mov msp mwb mwe mwi mac mre mkn r1.2 (mce x1.toNatClampNeg) (mce x2.toNatClampNeg) x3 r7 g7) (kcwV hts kw_1211 kv_X3_come rfl rfl ⟨(Nat.le_of_ble_eq_true rfl), (Nat.le_of_ble_eq_true rfl)⟩) (kpV (A := A) qP hK qD hG (krecv_5 (q0 := 0) hK hP rfl)) rfl rfl hl.1 rfl (lv_room (Nat.le_of_ble_eq_true rfl)) (kdr dgX3_book_0 3 6 rfl rfl) ⟨(Nat.le_of_ble_eq_true rfl), (Nat.le_of_ble_eq_true rfl)⟩) hP hD hS hA kFr_Mo (fun H locs hP hD hS br7 => ?_)
        refine lv_goto (tgt := 72) hx hb (kdr dgX3_book_0 3 7 rfl rfl) (by decide) ?_
        have h := Option.some.inj h
        subst h
        exact kret_i (v := r7.1) hx hb hr rfl hlocks hS hP (kdr dgX3_book_0 4 0 rfl rfl)
    · have h := g_f c2 h
      refine lv_iconst (v := 0) hx hb (kdr dgX3_book_0 1 2 rfl rfl) (by decide) ?_
      have h := Option.some.inj h
      subst h
      exact kret_i (v := 0) hx hb hr rfl hlocks hS hP (kdr dgX3_book_0 1 3 rfl rfl)
  have J15 : ∀ (mce : Nat → Int64) (mfr : Int64) (mun : Int64) (mbe : Nat → Int64) (men : Nat → Int64) (mov : Nat → Int32) (msp : Int32) (mwb : Nat → Int64) (mwe : Nat → Int64) (mwi : Int32) (mac : Int32) (mre : Int32) (mkn : Int32) (mth : Int32) (x1 : Int32) (x2 : Int32) (x3 : Int32) (H : Heap) (locs : List Loc), va_P (dC, dI) vwCl (wMo cJ cZ b mce mfr mun mbe men mov msp mwb mwe mwi mac mre mkn mth) H → va_D A (wMo cJ cZ b mce mfr mun mbe men mov msp mwb mwe mwi mac mre mkn mth) → va_S A s.heap H locs → ∀ (ls : Array Slot), lv_has ls 4 (kvA 0 (b 0) (kvI 1 x1 (kvI 2 x2 (kvI 3 x3 kvE)))) → f_X3_book_15 mce mfr mun mbe men mov msp mac mre x1 x2 x3 = some res → W p l e (headSpec wsX3_book (kRm 3 0 0 78)).room s m ([.ref (b 0), .int p0, .int p1, .int p2] : List Value).toArray below meth c H locs 0 0 (MQ below (kI (dC, dI) .int (res.1) (wMo cJ cZ b mce mfr mun (res.2.1) (res.2.2.1) (res.2.2.2.1) (res.2.2.2.2.1) mwb mwe mwi (res.2.2.2.2.2.1) (res.2.2.2.2.2.2.1) mkn (res.2.2.2.2.2.2.2)) A) ([.ref (b 0), .int p0, .int p1, .int p2] : List Value).toArray s 0 0 A) (F0 m 15 ls [.ref (b 0)]) := by
    intro mce mfr mun mbe men mov msp mwb mwe mwi mac mre mkn mth x1 x2 x3 H locs hP hD hS ls hl h
    have h := f_X3_book_15_e.symm.trans h
    refine lv_iconst (v := 1) hx hb (kdr dgX3_book_0 0 7 rfl rfl) (by decide) ?_
    refine lv_goto (tgt := 20) hx hb (kdr dgX3_book_0 0 8 rfl rfl) (by decide) ?_
    exact J20 mce mfr mun mbe men mov msp mwb mwe mwi mac mre mkn mth x1 x2 x3 1 _ _ hP hD hS ls (lv_sub hl [0, 1, 2, 3] rfl) h
  have h := f_X3_book_e.symm.trans hf
  refine lv_aload_n hx hb (kdr dgX3_book_0 0 0 rfl rfl) rfl (lv_at hl 0 rfl) ?_
  refine lv_iload_n hx hb (kdr dgX3_book_0 0 1 rfl rfl) rfl (lv_at hl 1 rfl) ?_
  obtain ⟨r1, g1, h⟩ := g_b h
  refine kq_i (wMo cJ cZ b mce mfr mun mbe men mov msp mwb mwe mwi mac mre mkn mth) (fun qP qD qF => va_runS (As := [.int p0]) (rest := [.ref (b 0)]) ⟨hx, hb, hml, hown, hts⟩ (c_X3_is l dC dI cB cI cJ cZ  _  p0 r1 g1) (kcwS hts kw_1119 kv_X3_is rfl rfl ⟨(Nat.le_of_ble_eq_true rfl), (Nat.le_of_ble_eq_true rfl)⟩) (kpS (A := A) (kPnil) hK ((kDnil (A := A))) hG) rfl rfl hl.1 rfl (lv_room (Nat.le_of_ble_eq_true rfl)) (kdr dgX3_book_0 0 2 rfl rfl) ⟨(Nat.le_of_ble_eq_true rfl), (Nat.le_of_ble_eq_true rfl)⟩) hP hD hS hA kFr_n (fun H locs hP hD hS br1 => ?_)
  refine lv_if_eq (tgt := 15) hx hb (kdr dgX3_book_0 0 3 rfl rfl) (by decide) (fun c2 => ?_) (fun c2 => ?_)
  · have h := g_t c2 h
    exact J15 mce mfr mun mbe men mov msp mwb mwe mwi mac mre mkn mth p0 p1 p2 _ _ hP hD hS ls (lv_sub hl [0, 1, 2, 3] rfl) h
  · have h := g_f c2 h
    refine lv_iload_n hx hb (kdr dgX3_book_0 0 4 rfl rfl) rfl (lv_at hl 2 rfl) ?_
    obtain ⟨r3, g3, h⟩ := g_b h
    refine kq_i (wMo cJ cZ b mce mfr mun mbe men mov msp mwb mwe mwi mac mre mkn mth) (fun qP qD qF => va_runS (As := [.int p1]) (rest := [.ref (b 0)]) ⟨hx, hb, hml, hown, hts⟩ (c_X3_is l dC dI cB cI cJ cZ  _  p1 r3 g3) (kcwS hts kw_1119 kv_X3_is rfl rfl ⟨(Nat.le_of_ble_eq_true rfl), (Nat.le_of_ble_eq_true rfl)⟩) (kpS (A := A) (kPnil) hK ((kDnil (A := A))) hG) rfl rfl hl.1 rfl (lv_room (Nat.le_of_ble_eq_true rfl)) (kdr dgX3_book_0 0 5 rfl rfl) ⟨(Nat.le_of_ble_eq_true rfl), (Nat.le_of_ble_eq_true rfl)⟩) hP hD hS hA kFr_n (fun H locs hP hD hS br3 => ?_)
    refine lv_if_ne (tgt := 19) hx hb (kdr dgX3_book_0 0 6 rfl rfl) (by decide) (fun c4 => ?_) (fun c4 => ?_)
    · have h := g_f c4 h
      refine lv_iconst (v := 0) hx hb (kdr dgX3_book_0 0 9 rfl rfl) (by decide) ?_
      exact J20 mce mfr mun mbe men mov msp mwb mwe mwi mac mre mkn mth p0 p1 p2 0 _ _ hP hD hS ls (lv_sub hl [0, 1, 2, 3] rfl) h
    · have h := g_t c4 h
      exact J15 mce mfr mun mbe men mov msp mwb mwe mwi mac mre mkn mth p0 p1 p2 _ _ hP hD hS ls (lv_sub hl [0, 1, 2, 3] rfl) h
noncomputable abbrev wsX3_unbook : List Cond := kWs yX3_unbook cX3_unbook 3 (some .int)
noncomputable def f_X3_unbook_34 : Nat → (Nat → Int64) → (Nat → Int64) → (Nat → Int32) → (Int32) → (Int32) → (Int32) → (Int32) → Option ((Int32) × (Nat → Int64) × (Nat → Int64) × (Nat → Int32) × (Int32) × (Int32) × (Int32))
  | 0, _, _, _, _, _, _, _ => none
  | n + 1, mbe, men, mov, msp, mac, mth, x2 =>
    if msp ≤ x2 then
      (f_X3_done mac msp).bind fun r2 =>
      some (r2.1, mbe, men, mov, msp, r2.2, mth)
    else
      if ix (x2 + 1) 10 then
        if ix x2 10 then
          f_X3_unbook_34 n (vp_updL mbe x2.toNatClampNeg (mbe (x2 + 1).toNatClampNeg)) (vp_updL men x2.toNatClampNeg (men (x2 + 1).toNatClampNeg)) (upd mov x2.toNatClampNeg (vp_nar .boolean (mov (x2 + 1).toNatClampNeg))) msp mac mth (x2 + 1)
        else none
      else none
theorem f_X3_unbook_34_0 {mbe : Nat → Int64} {men : Nat → Int64} {mov : Nat → Int32} {msp : Int32} {mac : Int32} {mth : Int32} {x2 : Int32} : f_X3_unbook_34 0 mbe men mov msp mac mth x2 = none := rfl
theorem f_X3_unbook_34_s {n : Nat} {mbe : Nat → Int64} {men : Nat → Int64} {mov : Nat → Int32} {msp : Int32} {mac : Int32} {mth : Int32} {x2 : Int32} : f_X3_unbook_34 (n + 1) mbe men mov msp mac mth x2 =
  if msp ≤ x2 then
    (f_X3_done mac msp).bind fun r2 =>
    some (r2.1, mbe, men, mov, msp, r2.2, mth)
  else
    if ix (x2 + 1) 10 then
      if ix x2 10 then
        f_X3_unbook_34 n (vp_updL mbe x2.toNatClampNeg (mbe (x2 + 1).toNatClampNeg)) (vp_updL men x2.toNatClampNeg (men (x2 + 1).toNatClampNeg)) (upd mov x2.toNatClampNeg (vp_nar .boolean (mov (x2 + 1).toNatClampNeg))) msp mac mth (x2 + 1)
      else none
    else none := rfl
noncomputable def f_X3_unbook_14 (mbe : Nat → Int64) (men : Nat → Int64) (mov : Nat → Int32) (msp : Int32) (mac : Int32) (x1 : Int32) (y0 : Int32) : Option ((Int32) × (Nat → Int64) × (Nat → Int64) × (Nat → Int32) × (Int32) × (Int32) × (Int32)) :=
  (f_X3_isThrown_ y0).bind fun r1 =>
  if r1.1 = 0 then
    f_X3_unbook_34 24 mbe men mov (msp - 1) mac r1.2 x1
  else
    some (0, mbe, men, mov, msp, mac, r1.2)
theorem f_X3_unbook_14_e {mbe : Nat → Int64} {men : Nat → Int64} {mov : Nat → Int32} {msp : Int32} {mac : Int32} {x1 : Int32} {y0 : Int32} : f_X3_unbook_14 mbe men mov msp mac x1 y0 =
  (f_X3_isThrown_ y0).bind fun r1 =>
  if r1.1 = 0 then
    f_X3_unbook_34 24 mbe men mov (msp - 1) mac r1.2 x1
  else
    some (0, mbe, men, mov, msp, mac, r1.2) := rfl
noncomputable def f_X3_unbook (mbe : Nat → Int64) (men : Nat → Int64) (mov : Nat → Int32) (msp : Int32) (mac : Int32) (p0 : Int32) : Option ((Int32) × (Nat → Int64) × (Nat → Int64) × (Nat → Int32) × (Int32) × (Int32) × (Int32)) :=
  (f_X3_isSpan msp p0).bind fun r1 =>
  if r1 = 0 then
    f_X3_unbook_14 mbe men mov msp mac p0 1
  else
    f_X3_unbook_14 mbe men mov msp mac p0 0
theorem f_X3_unbook_e {mbe : Nat → Int64} {men : Nat → Int64} {mov : Nat → Int32} {msp : Int32} {mac : Int32} {p0 : Int32} : f_X3_unbook mbe men mov msp mac p0 = 
  (f_X3_isSpan msp p0).bind fun r1 =>
  if r1 = 0 then
    f_X3_unbook_14 mbe men mov msp mac p0 1
  else
    f_X3_unbook_14 mbe men mov msp mac p0 0 := rfl
set_option maxHeartbeats 4000000 in
set_option maxRecDepth 100000 in
theorem c_X3_unbook (l : Launch) (dC : Nat → ClassId) (dI : Nat → Nat → Nat) (cB cI cJ cZ : ClassId) (b : Nat → Nat) (sz : Nat) (mce : Nat → Int64) (mfr : Int64) (mun : Int64) (mbe : Nat → Int64) (men : Nat → Int64) (mov : Nat → Int32) (msp : Int32) (mwb : Nat → Int64) (mwe : Nat → Int64) (mwi : Int32) (mac : Int32) (mre : Int32) (mkn : Int32) (mth : Int32) (p0 : Int32) (res : (Int32) × (Nat → Int64) × (Nat → Int64) × (Nat → Int32) × (Int32) × (Int32) × (Int32)) (hf : f_X3_unbook mbe men mov msp mac p0 = some res) : kMi l yX3_unbook wsX3_unbook (kRm 2 0 0 43) dC dI cB cI cJ cZ [.ref (b 0), .int p0] sz (wMo cJ cZ b mce mfr mun mbe men mov msp mwb mwe mwi mac mre mkn mth) .int (res.1) (wMo cJ cZ b mce mfr mun (res.2.1) (res.2.2.1) (res.2.2.2.1) (res.2.2.2.2.1) mwb mwe mwi (res.2.2.2.2.2.1) mre mkn (res.2.2.2.2.2.2)) 0 0 := by
  refine kmet_i (y := yX3_unbook) (cc := cX3_unbook) (maxL := 3) (ret := (some .int)) RX3 (kvA 0 (b 0) (kvI 1 p0 kvE)) kpl_X3 rfl rfl (Nat.le_of_ble_eq_true rfl) rfl (fun p e s m below meth c A ls hx hb hr hml hts hown hlocks hP hK hG hD hA hS hl => ?_)
  have hw0 := hts (.fieldLink RX3 56 "SpanbookerModel" "spans" "I") (List.mem_cons_of_mem _ kw_1078)
  have hw1 := hts (.fieldLink RX3 19 "SpanbookerModel" "begins" "[J") (List.mem_cons_of_mem _ kw_1075)
  have hw2 := hts (.fieldLink RX3 22 "SpanbookerModel" "ends" "[J") (List.mem_cons_of_mem _ kw_1076)
  have hw3 := hts (.fieldLink RX3 25 "SpanbookerModel" "over" "[Z") (List.mem_cons_of_mem _ kw_1077)
  have hiX3 : ∀ w ∈ u_ws RX3 TX3 14, w ∈ wsX3_unbook := fun w h => List.mem_cons_of_mem _ (ku_X3 w h)
  have J34 : ∀ (n : Nat), ∀ (mce : Nat → Int64) (mfr : Int64) (mun : Int64) (mbe : Nat → Int64) (men : Nat → Int64) (mov : Nat → Int32) (msp : Int32) (mwb : Nat → Int64) (mwe : Nat → Int64) (mwi : Int32) (mac : Int32) (mre : Int32) (mkn : Int32) (mth : Int32) (x2 : Int32) (H : Heap) (locs : List Loc), va_P (dC, dI) vwCl (wMo cJ cZ b mce mfr mun mbe men mov msp mwb mwe mwi mac mre mkn mth) H → va_D A (wMo cJ cZ b mce mfr mun mbe men mov msp mwb mwe mwi mac mre mkn mth) → va_S A s.heap H locs → ∀ (ls : Array Slot), lv_has ls 3 (kvA 0 (b 0) (kvI 2 x2 kvE)) → f_X3_unbook_34 n mbe men mov msp mac mth x2 = some res → W p l e (headSpec wsX3_unbook (kRm 2 0 0 43)).room s m ([.ref (b 0), .int p0] : List Value).toArray below meth c H locs 0 0 (MQ below (kI (dC, dI) .int (res.1) (wMo cJ cZ b mce mfr mun (res.2.1) (res.2.2.1) (res.2.2.2.1) (res.2.2.2.2.1) mwb mwe mwi (res.2.2.2.2.2.1) mre mkn (res.2.2.2.2.2.2)) A) ([.ref (b 0), .int p0] : List Value).toArray s 0 0 A) (F0 m 34 ls []) := by
    intro n
    induction n with
    | zero =>
      intro mce mfr mun mbe men mov msp mwb mwe mwi mac mre mkn mth x2 H locs hP hD hS ls hl h
      have h := f_X3_unbook_34_0.symm.trans h
      cases h
    | succ n ih =>
      intro mce mfr mun mbe men mov msp mwb mwe mwi mac mre mkn mth x2 H locs hP hD hS ls hl h
      have h := f_X3_unbook_34_s.symm.trans h
      refine lv_iload_n hx hb (kdr dgX3_unbook_0 2 0 rfl rfl) rfl (lv_at hl 1 rfl) ?_
      refine lv_aload_n hx hb (kdr dgX3_unbook_0 2 1 rfl rfl) rfl (lv_at hl 0 rfl) ?_
      refine va_get (D := (dC, dI)) (ci := 5) (v := .int msp) (C := RX3) (T := TX3) (N := 14) hx hb hts hiX3 hown hK hP 0 rfl rfl 6 (by decide) hw0 (fun _ h9 => h9) rfl (kdr dgX3_unbook_0 2 2 rfl rfl) ?_
      refine lv_icmp_ge (tgt := 90) hx hb (kdr dgX3_unbook_0 2 3 rfl rfl) (by decide) (fun c1 => ?_) (fun c1 => ?_)
      · have h := g_t c1 h
        refine lv_aload_n hx hb (kdr dgX3_unbook_0 5 6 rfl rfl) rfl (lv_at hl 0 rfl) ?_
        refine lv_aload_n hx hb (kdr dgX3_unbook_0 5 7 rfl rfl) rfl (lv_at hl 0 rfl) ?_
        refine va_get (D := (dC, dI)) (ci := 5) (v := .int msp) (C := RX3) (T := TX3) (N := 14) hx hb hts hiX3 hown hK hP 0 rfl rfl 6 (by decide) hw0 (fun _ h9 => h9) rfl (kdr dgX3_unbook_0 5 8 rfl rfl) ?_
        obtain ⟨r2, g2, h⟩ := g_b h
        refine kq_i (wMo cJ cZ b mce mfr mun mbe men mov msp mwb mwe mwi r2.2 mre mkn mth) (fun qP qD qF => va_runV (As := [.int msp]) (rest := []) ⟨hx, hb, hml, hown, hts⟩ (c_X3_done l dC dI cB cI cJ cZ b _ mce mfr mun mbe men mov msp mwb mwe mwi mac mre mkn mth msp r2 g2) (kcwV hts kw_1144 kv_X3_done rfl rfl ⟨(Nat.le_of_ble_eq_true rfl), (Nat.le_of_ble_eq_true rfl)⟩) (kpV (A := A) qP hK qD hG (krecv_5 (q0 := 0) hK hP rfl)) rfl rfl hl.1 rfl (lv_room (Nat.le_of_ble_eq_true rfl)) (kdr dgX3_unbook_0 5 9 rfl rfl) ⟨(Nat.le_of_ble_eq_true rfl), (Nat.le_of_ble_eq_true rfl)⟩) hP hD hS hA kFr_Mo (fun H locs hP hD hS br2 => ?_)
        have h := Option.some.inj h
        subst h
        exact kret_i (v := r2.1) hx hb hr rfl hlocks hS hP (kdr dgX3_unbook_0 6 0 rfl rfl)
      · have h := g_f c1 h
        refine lv_aload_n hx hb (kdr dgX3_unbook_0 2 4 rfl rfl) rfl (lv_at hl 0 rfl) ?_
        refine va_get (D := (dC, dI)) (ci := 5) (v := .ref (b 2)) (C := RX3) (T := TX3) (N := 14) hx hb hts hiX3 hown hK hP 0 rfl rfl 3 (by decide) hw1 (fun _ h9 => h9) rfl (kdr dgX3_unbook_0 2 5 rfl rfl) ?_
        refine lv_iload_n hx hb (kdr dgX3_unbook_0 2 6 rfl rfl) rfl (lv_at hl 1 rfl) ?_
        refine lv_aload_n hx hb (kdr dgX3_unbook_0 2 7 rfl rfl) rfl (lv_at hl 0 rfl) ?_
        refine va_get (D := (dC, dI)) (ci := 5) (v := .ref (b 2)) (C := RX3) (T := TX3) (N := 14) hx hb hts hiX3 hown hK hP 0 rfl rfl 3 (by decide) hw1 (fun _ h9 => h9) rfl (kdr dgX3_unbook_0 2 8 rfl rfl) ?_
        refine lv_iload_n hx hb (kdr dgX3_unbook_0 2 9 rfl rfl) rfl (lv_at hl 1 rfl) ?_
        refine lv_iconst (v := 1) hx hb (kdr dgX3_unbook_0 3 0 rfl rfl) (by decide) ?_
        refine lv_iadd hx hb (kdr dgX3_unbook_0 3 1 rfl rfl) ?_
        obtain ⟨z1, h⟩ := g_if h
        refine va_lald hx hb hK hP 2 2 rfl rfl (ix_in z1) (kdr dgX3_unbook_0 3 2 rfl rfl) ?_
        obtain ⟨z2, h⟩ := g_if h
        refine va_last hx hb hK hP hD hS 2 2 rfl rfl (ix_in z2) (kdr dgX3_unbook_0 3 3 rfl rfl) (fun H locs hP hD hS => ?_)
        have hP : va_P (dC, dI) vwCl (wMo cJ cZ b mce mfr mun (vp_updL mbe x2.toNatClampNeg (mbe (x2 + 1).toNatClampNeg)) men mov msp mwb mwe mwi mac mre mkn mth) H := hP
        have hD : va_D A (wMo cJ cZ b mce mfr mun (vp_updL mbe x2.toNatClampNeg (mbe (x2 + 1).toNatClampNeg)) men mov msp mwb mwe mwi mac mre mkn mth) := hD
        refine lv_aload_n hx hb (kdr dgX3_unbook_0 3 4 rfl rfl) rfl (lv_at hl 0 rfl) ?_
        refine va_get (D := (dC, dI)) (ci := 5) (v := .ref (b 3)) (C := RX3) (T := TX3) (N := 14) hx hb hts hiX3 hown hK hP 0 rfl rfl 4 (by decide) hw2 (fun _ h9 => h9) rfl (kdr dgX3_unbook_0 3 5 rfl rfl) ?_
        refine lv_iload_n hx hb (kdr dgX3_unbook_0 3 6 rfl rfl) rfl (lv_at hl 1 rfl) ?_
        refine lv_aload_n hx hb (kdr dgX3_unbook_0 3 7 rfl rfl) rfl (lv_at hl 0 rfl) ?_
        refine va_get (D := (dC, dI)) (ci := 5) (v := .ref (b 3)) (C := RX3) (T := TX3) (N := 14) hx hb hts hiX3 hown hK hP 0 rfl rfl 4 (by decide) hw2 (fun _ h9 => h9) rfl (kdr dgX3_unbook_0 3 8 rfl rfl) ?_
        refine lv_iload_n hx hb (kdr dgX3_unbook_0 3 9 rfl rfl) rfl (lv_at hl 1 rfl) ?_
        refine lv_iconst (v := 1) hx hb (kdr dgX3_unbook_0 4 0 rfl rfl) (by decide) ?_
        refine lv_iadd hx hb (kdr dgX3_unbook_0 4 1 rfl rfl) ?_
        refine va_lald hx hb hK hP 3 2 rfl rfl (ix_in z1) (kdr dgX3_unbook_0 4 2 rfl rfl) ?_
        refine va_last hx hb hK hP hD hS 3 2 rfl rfl (ix_in z2) (kdr dgX3_unbook_0 4 3 rfl rfl) (fun H locs hP hD hS => ?_)
        have hP : va_P (dC, dI) vwCl (wMo cJ cZ b mce mfr mun (vp_updL mbe x2.toNatClampNeg (mbe (x2 + 1).toNatClampNeg)) (vp_updL men x2.toNatClampNeg (men (x2 + 1).toNatClampNeg)) mov msp mwb mwe mwi mac mre mkn mth) H := hP
        have hD : va_D A (wMo cJ cZ b mce mfr mun (vp_updL mbe x2.toNatClampNeg (mbe (x2 + 1).toNatClampNeg)) (vp_updL men x2.toNatClampNeg (men (x2 + 1).toNatClampNeg)) mov msp mwb mwe mwi mac mre mkn mth) := hD
        refine lv_aload_n hx hb (kdr dgX3_unbook_0 4 4 rfl rfl) rfl (lv_at hl 0 rfl) ?_
        refine va_get (D := (dC, dI)) (ci := 5) (v := .ref (b 4)) (C := RX3) (T := TX3) (N := 14) hx hb hts hiX3 hown hK hP 0 rfl rfl 5 (by decide) hw3 (fun _ h9 => h9) rfl (kdr dgX3_unbook_0 4 5 rfl rfl) ?_
        refine lv_iload_n hx hb (kdr dgX3_unbook_0 4 6 rfl rfl) rfl (lv_at hl 1 rfl) ?_
        refine lv_aload_n hx hb (kdr dgX3_unbook_0 4 7 rfl rfl) rfl (lv_at hl 0 rfl) ?_
        refine va_get (D := (dC, dI)) (ci := 5) (v := .ref (b 4)) (C := RX3) (T := TX3) (N := 14) hx hb hts hiX3 hown hK hP 0 rfl rfl 5 (by decide) hw3 (fun _ h9 => h9) rfl (kdr dgX3_unbook_0 4 8 rfl rfl) ?_
        refine lv_iload_n hx hb (kdr dgX3_unbook_0 4 9 rfl rfl) rfl (lv_at hl 1 rfl) ?_
        refine lv_iconst (v := 1) hx hb (kdr dgX3_unbook_0 5 0 rfl rfl) (by decide) ?_
        refine lv_iadd hx hb (kdr dgX3_unbook_0 5 1 rfl rfl) ?_
        refine va_zald hx hb hK hP 4 3 rfl rfl (ix_in z1) (kdr dgX3_unbook_0 5 2 rfl rfl) ?_
        refine va_zast hx hb hK hP hD hS 4 3 rfl rfl (ix_in z2) (kdr dgX3_unbook_0 5 3 rfl rfl) (fun H locs hP hD hS => ?_)
        have hP : va_P (dC, dI) vwCl (wMo cJ cZ b mce mfr mun (vp_updL mbe x2.toNatClampNeg (mbe (x2 + 1).toNatClampNeg)) (vp_updL men x2.toNatClampNeg (men (x2 + 1).toNatClampNeg)) (upd mov x2.toNatClampNeg (vp_nar .boolean (mov (x2 + 1).toNatClampNeg))) msp mwb mwe mwi mac mre mkn mth) H := hP
        have hD : va_D A (wMo cJ cZ b mce mfr mun (vp_updL mbe x2.toNatClampNeg (mbe (x2 + 1).toNatClampNeg)) (vp_updL men x2.toNatClampNeg (men (x2 + 1).toNatClampNeg)) (upd mov x2.toNatClampNeg (vp_nar .boolean (mov (x2 + 1).toNatClampNeg))) msp mwb mwe mwi mac mre mkn mth) := hD
        refine lv_iinc (v := x2 + 1) (lv' := (kvI 2 (x2 + 1) (kvA 0 (b 0) kvE))) hx hb (kdr dgX3_unbook_0 5 4 rfl rfl) hl (k := 1) rfl rfl (by decide) rfl (fun ls hl => ?_)
        refine lv_goto (tgt := 34) hx hb (kdr dgX3_unbook_0 5 5 rfl rfl) (by decide) ?_
        exact ih mce mfr mun (vp_updL mbe x2.toNatClampNeg (mbe (x2 + 1).toNatClampNeg)) (vp_updL men x2.toNatClampNeg (men (x2 + 1).toNatClampNeg)) (upd mov x2.toNatClampNeg (vp_nar .boolean (mov (x2 + 1).toNatClampNeg))) msp mwb mwe mwi mac mre mkn mth (x2 + 1) _ _ hP hD hS ls (lv_sub hl [1, 0] rfl) h
  have J14 : ∀ (mce : Nat → Int64) (mfr : Int64) (mun : Int64) (mbe : Nat → Int64) (men : Nat → Int64) (mov : Nat → Int32) (msp : Int32) (mwb : Nat → Int64) (mwe : Nat → Int64) (mwi : Int32) (mac : Int32) (mre : Int32) (mkn : Int32) (mth : Int32) (x1 : Int32) (y0 : Int32) (H : Heap) (locs : List Loc), va_P (dC, dI) vwCl (wMo cJ cZ b mce mfr mun mbe men mov msp mwb mwe mwi mac mre mkn mth) H → va_D A (wMo cJ cZ b mce mfr mun mbe men mov msp mwb mwe mwi mac mre mkn mth) → va_S A s.heap H locs → ∀ (ls : Array Slot), lv_has ls 3 (kvA 0 (b 0) (kvI 1 x1 kvE)) → f_X3_unbook_14 mbe men mov msp mac x1 y0 = some res → W p l e (headSpec wsX3_unbook (kRm 2 0 0 43)).room s m ([.ref (b 0), .int p0] : List Value).toArray below meth c H locs 0 0 (MQ below (kI (dC, dI) .int (res.1) (wMo cJ cZ b mce mfr mun (res.2.1) (res.2.2.1) (res.2.2.2.1) (res.2.2.2.2.1) mwb mwe mwi (res.2.2.2.2.2.1) mre mkn (res.2.2.2.2.2.2)) A) ([.ref (b 0), .int p0] : List Value).toArray s 0 0 A) (F0 m 14 ls [.int y0, .ref (b 0)]) := by
    intro mce mfr mun mbe men mov msp mwb mwe mwi mac mre mkn mth x1 y0 H locs hP hD hS ls hl h
    have h := f_X3_unbook_14_e.symm.trans h
    obtain ⟨r1, g1, h⟩ := g_b h
    refine kq_i (wMo cJ cZ b mce mfr mun mbe men mov msp mwb mwe mwi mac mre mkn r1.2) (fun qP qD qF => va_runV (As := [.int y0]) (rest := []) ⟨hx, hb, hml, hown, hts⟩ (c_X3_isThrown_ l dC dI cB cI cJ cZ b _ mce mfr mun mbe men mov msp mwb mwe mwi mac mre mkn mth y0 r1 g1) (kcwV hts kw_1166 kv_X3_isThrown_ rfl rfl ⟨(Nat.le_of_ble_eq_true rfl), (Nat.le_of_ble_eq_true rfl)⟩) (kpV (A := A) qP hK qD hG (krecv_5 (q0 := 0) hK hP rfl)) rfl rfl hl.1 rfl (lv_room (Nat.le_of_ble_eq_true rfl)) (kdr dgX3_unbook_0 0 8 rfl rfl) ⟨(Nat.le_of_ble_eq_true rfl), (Nat.le_of_ble_eq_true rfl)⟩) hP hD hS hA kFr_Mo (fun H locs hP hD hS br1 => ?_)
    refine lv_if_eq (tgt := 22) hx hb (kdr dgX3_unbook_0 0 9 rfl rfl) (by decide) (fun c2 => ?_) (fun c2 => ?_)
    · have h := g_t c2 h
      refine lv_aload_n hx hb (kdr dgX3_unbook_0 1 2 rfl rfl) rfl (lv_at hl 0 rfl) ?_
      refine lv_dup hx hb (kdr dgX3_unbook_0 1 3 rfl rfl) rfl ?_
      refine va_get (D := (dC, dI)) (ci := 5) (v := .int msp) (C := RX3) (T := TX3) (N := 14) hx hb hts hiX3 hown hK hP 0 rfl rfl 6 (by decide) hw0 (fun _ h9 => h9) rfl (kdr dgX3_unbook_0 1 4 rfl rfl) ?_
      refine lv_iconst (v := 1) hx hb (kdr dgX3_unbook_0 1 5 rfl rfl) (by decide) ?_
      refine lv_isub hx hb (kdr dgX3_unbook_0 1 6 rfl rfl) ?_
      refine va_put (D := (dC, dI)) (ci := 5) (v := .int (msp - 1)) (ty := .int) (C := RX3) (T := TX3) (N := 14) hx hb hts hiX3 tyX3 tyX3_ok nmX3 hown hK hP hD hS 0 rfl rfl 6 (by decide) hw0 (fun _ h9 => h9) rfl (by decide +kernel) rfl rfl (Nat.le_of_ble_eq_true rfl) (kdr dgX3_unbook_0 1 7 rfl rfl) (fun H locs hP hD hS => ?_)
      have hP : va_P (dC, dI) vwCl (wMo cJ cZ b mce mfr mun mbe men mov (msp - 1) mwb mwe mwi mac mre mkn r1.2) H := hP
      have hD : va_D A (wMo cJ cZ b mce mfr mun mbe men mov (msp - 1) mwb mwe mwi mac mre mkn r1.2) := hD
      refine lv_iload_n hx hb (kdr dgX3_unbook_0 1 8 rfl rfl) rfl (lv_at hl 1 rfl) ?_
      refine lv_istore_n (lv' := (kvI 2 x1 (kvA 0 (b 0) (kvI 1 x1 kvE)))) hx hb (kdr dgX3_unbook_0 1 9 rfl rfl) rfl hl (by decide) rfl (fun ls hl => ?_)
      exact J34 24 mce mfr mun mbe men mov (msp - 1) mwb mwe mwi mac mre mkn r1.2 x1 _ _ hP hD hS ls (lv_sub hl [1, 0] rfl) h
    · have h := g_f c2 h
      refine lv_iconst (v := 0) hx hb (kdr dgX3_unbook_0 1 0 rfl rfl) (by decide) ?_
      have h := Option.some.inj h
      subst h
      exact kret_i (v := 0) hx hb hr rfl hlocks hS hP (kdr dgX3_unbook_0 1 1 rfl rfl)
  have h := f_X3_unbook_e.symm.trans hf
  refine lv_aload_n hx hb (kdr dgX3_unbook_0 0 0 rfl rfl) rfl (lv_at hl 0 rfl) ?_
  refine lv_aload_n hx hb (kdr dgX3_unbook_0 0 1 rfl rfl) rfl (lv_at hl 0 rfl) ?_
  refine lv_iload_n hx hb (kdr dgX3_unbook_0 0 2 rfl rfl) rfl (lv_at hl 1 rfl) ?_
  obtain ⟨r1, g1, h⟩ := g_b h
  refine kq_i (wMo cJ cZ b mce mfr mun mbe men mov msp mwb mwe mwi mac mre mkn mth) (fun qP qD qF => va_runV (As := [.int p0]) (rest := [.ref (b 0)]) ⟨hx, hb, hml, hown, hts⟩ (c_X3_isSpan l dC dI cB cI cJ cZ b _ mce mfr mun mbe men mov msp mwb mwe mwi mac mre mkn mth p0 r1 g1) (kcwV hts kw_1219 kv_X3_isSpan rfl rfl ⟨(Nat.le_of_ble_eq_true rfl), (Nat.le_of_ble_eq_true rfl)⟩) (kpV (A := A) qP hK qD hG (krecv_5 (q0 := 0) hK hP rfl)) rfl rfl hl.1 rfl (lv_room (Nat.le_of_ble_eq_true rfl)) (kdr dgX3_unbook_0 0 3 rfl rfl) ⟨(Nat.le_of_ble_eq_true rfl), (Nat.le_of_ble_eq_true rfl)⟩) hP hD hS hA kFr_Mo (fun H locs hP hD hS br1 => ?_)
  refine lv_if_ne (tgt := 13) hx hb (kdr dgX3_unbook_0 0 4 rfl rfl) (by decide) (fun c2 => ?_) (fun c2 => ?_)
  · have h := g_f c2 h
    refine lv_iconst (v := 0) hx hb (kdr dgX3_unbook_0 0 7 rfl rfl) (by decide) ?_
    exact J14 mce mfr mun mbe men mov msp mwb mwe mwi mac mre mkn mth p0 0 _ _ hP hD hS ls (lv_sub hl [0, 1] rfl) h
  · have h := g_t c2 h
    refine lv_iconst (v := 1) hx hb (kdr dgX3_unbook_0 0 5 rfl rfl) (by decide) ?_
    refine lv_goto (tgt := 14) hx hb (kdr dgX3_unbook_0 0 6 rfl rfl) (by decide) ?_
    exact J14 mce mfr mun mbe men mov msp mwb mwe mwi mac mre mkn mth p0 1 _ _ hP hD hS ls (lv_sub hl [0, 1] rfl) h
noncomputable abbrev wsX3_empty : List Cond := kWs yX3_empty cX3_empty 2 (some .int)
noncomputable def f_X3_empty (msp : Int32) (mac : Int32) : Option ((Int32) × (Int32) × (Int32) × (Int32)) :=
  (f_X3_done mac msp).bind fun r1 =>
  some (r1.1, 0, r1.2, 0)
theorem f_X3_empty_e {msp : Int32} {mac : Int32} : f_X3_empty msp mac = 
  (f_X3_done mac msp).bind fun r1 =>
  some (r1.1, 0, r1.2, 0) := rfl
set_option maxHeartbeats 4000000 in
set_option maxRecDepth 100000 in
theorem c_X3_empty (l : Launch) (dC : Nat → ClassId) (dI : Nat → Nat → Nat) (cB cI cJ cZ : ClassId) (b : Nat → Nat) (sz : Nat) (mce : Nat → Int64) (mfr : Int64) (mun : Int64) (mbe : Nat → Int64) (men : Nat → Int64) (mov : Nat → Int32) (msp : Int32) (mwb : Nat → Int64) (mwe : Nat → Int64) (mwi : Int32) (mac : Int32) (mre : Int32) (mkn : Int32) (mth : Int32) (res : (Int32) × (Int32) × (Int32) × (Int32)) (hf : f_X3_empty msp mac = some res) : kMi l yX3_empty wsX3_empty (kRm 1 0 0 21) dC dI cB cI cJ cZ [.ref (b 0)] sz (wMo cJ cZ b mce mfr mun mbe men mov msp mwb mwe mwi mac mre mkn mth) .int (res.1) (wMo cJ cZ b mce mfr mun mbe men mov (res.2.1) mwb mwe mwi (res.2.2.1) mre mkn (res.2.2.2)) 0 0 := by
  refine kmet_i (y := yX3_empty) (cc := cX3_empty) (maxL := 2) (ret := (some .int)) RX3 (kvA 0 (b 0) kvE) kpl_X3 rfl rfl (Nat.le_of_ble_eq_true rfl) rfl (fun p e s m below meth c A ls hx hb hr hml hts hown hlocks hP hK hG hD hA hS hl => ?_)
  have hw0 := hts (.fieldLink RX3 35 "SpanbookerModel" "thrown" "I") (List.mem_cons_of_mem _ kw_1085)
  have hw1 := hts (.fieldLink RX3 56 "SpanbookerModel" "spans" "I") (List.mem_cons_of_mem _ kw_1078)
  have hiX3 : ∀ w ∈ u_ws RX3 TX3 14, w ∈ wsX3_empty := fun w h => List.mem_cons_of_mem _ (ku_X3 w h)
  have h := f_X3_empty_e.symm.trans hf
  refine lv_aload_n hx hb (kdr dgX3_empty_0 0 0 rfl rfl) rfl (lv_at hl 0 rfl) ?_
  refine lv_iconst (v := 0) hx hb (kdr dgX3_empty_0 0 1 rfl rfl) (by decide) ?_
  refine va_put (D := (dC, dI)) (ci := 5) (v := .int 0) (ty := .int) (C := RX3) (T := TX3) (N := 14) hx hb hts hiX3 tyX3 tyX3_ok nmX3 hown hK hP hD hS 0 rfl rfl 13 (by decide) hw0 (fun _ h9 => h9) rfl (by decide +kernel) rfl rfl (Nat.le_of_ble_eq_true rfl) (kdr dgX3_empty_0 0 2 rfl rfl) (fun H locs hP hD hS => ?_)
  have hP : va_P (dC, dI) vwCl (wMo cJ cZ b mce mfr mun mbe men mov msp mwb mwe mwi mac mre mkn 0) H := hP
  have hD : va_D A (wMo cJ cZ b mce mfr mun mbe men mov msp mwb mwe mwi mac mre mkn 0) := hD
  refine lv_aload_n hx hb (kdr dgX3_empty_0 0 3 rfl rfl) rfl (lv_at hl 0 rfl) ?_
  refine va_get (D := (dC, dI)) (ci := 5) (v := .int msp) (C := RX3) (T := TX3) (N := 14) hx hb hts hiX3 hown hK hP 0 rfl rfl 6 (by decide) hw1 (fun _ h9 => h9) rfl (kdr dgX3_empty_0 0 4 rfl rfl) ?_
  refine lv_istore_n (lv' := (kvI 1 msp (kvA 0 (b 0) kvE))) hx hb (kdr dgX3_empty_0 0 5 rfl rfl) rfl hl (by decide) rfl (fun ls hl => ?_)
  refine lv_aload_n hx hb (kdr dgX3_empty_0 0 6 rfl rfl) rfl (lv_at hl 1 rfl) ?_
  refine lv_iconst (v := 0) hx hb (kdr dgX3_empty_0 0 7 rfl rfl) (by decide) ?_
  refine va_put (D := (dC, dI)) (ci := 5) (v := .int 0) (ty := .int) (C := RX3) (T := TX3) (N := 14) hx hb hts hiX3 tyX3 tyX3_ok nmX3 hown hK hP hD hS 0 rfl rfl 6 (by decide) hw1 (fun _ h9 => h9) rfl (by decide +kernel) rfl rfl (Nat.le_of_ble_eq_true rfl) (kdr dgX3_empty_0 0 8 rfl rfl) (fun H locs hP hD hS => ?_)
  have hP : va_P (dC, dI) vwCl (wMo cJ cZ b mce mfr mun mbe men mov 0 mwb mwe mwi mac mre mkn 0) H := hP
  have hD : va_D A (wMo cJ cZ b mce mfr mun mbe men mov 0 mwb mwe mwi mac mre mkn 0) := hD
  refine lv_aload_n hx hb (kdr dgX3_empty_0 0 9 rfl rfl) rfl (lv_at hl 1 rfl) ?_
  refine lv_iload_n hx hb (kdr dgX3_empty_0 1 0 rfl rfl) rfl (lv_at hl 0 rfl) ?_
  obtain ⟨r1, g1, h⟩ := g_b h
  refine kq_i (wMo cJ cZ b mce mfr mun mbe men mov 0 mwb mwe mwi r1.2 mre mkn 0) (fun qP qD qF => va_runV (As := [.int msp]) (rest := []) ⟨hx, hb, hml, hown, hts⟩ (c_X3_done l dC dI cB cI cJ cZ b _ mce mfr mun mbe men mov 0 mwb mwe mwi mac mre mkn 0 msp r1 g1) (kcwV hts kw_1144 kv_X3_done rfl rfl ⟨(Nat.le_of_ble_eq_true rfl), (Nat.le_of_ble_eq_true rfl)⟩) (kpV (A := A) qP hK qD hG (krecv_5 (q0 := 0) hK hP rfl)) rfl rfl hl.1 rfl (lv_room (Nat.le_of_ble_eq_true rfl)) (kdr dgX3_empty_0 1 1 rfl rfl) ⟨(Nat.le_of_ble_eq_true rfl), (Nat.le_of_ble_eq_true rfl)⟩) hP hD hS hA kFr_Mo (fun H locs hP hD hS br1 => ?_)
  have h := Option.some.inj h
  subst h
  exact kret_i (v := r1.1) hx hb hr rfl hlocks hS hP (kdr dgX3_empty_0 1 2 rfl rfl)
noncomputable abbrev wsX3_less : List Cond := kWs yX3_less cX3_less 6 (some .int)
noncomputable def f_X3_less_6 (n0 : Nat) : Nat → (Nat → Int64) → (Int32) → (Int64) → (Int32) → (Int32) → Option (Int32)
  | 0, _, _, _, _, _ => none
  | n + 1, v0, x1, x2, x4, x5 =>
    if x1 ≤ x5 then
      some x4
    else
      if ix x5 n0 then
        if x2 ≤ (v0 x5.toNatClampNeg) then
          f_X3_less_6 n0 n v0 x1 x2 (x4 + 0) (x5 + 1)
        else
          f_X3_less_6 n0 n v0 x1 x2 (x4 + 1) (x5 + 1)
      else none
theorem f_X3_less_6_0 {n0 : Nat} {v0 : Nat → Int64} {x1 : Int32} {x2 : Int64} {x4 : Int32} {x5 : Int32} : f_X3_less_6 n0 0 v0 x1 x2 x4 x5 = none := rfl
theorem f_X3_less_6_s {n0 : Nat} {n : Nat} {v0 : Nat → Int64} {x1 : Int32} {x2 : Int64} {x4 : Int32} {x5 : Int32} : f_X3_less_6 n0 (n + 1) v0 x1 x2 x4 x5 =
  if x1 ≤ x5 then
    some x4
  else
    if ix x5 n0 then
      if x2 ≤ (v0 x5.toNatClampNeg) then
        f_X3_less_6 n0 n v0 x1 x2 (x4 + 0) (x5 + 1)
      else
        f_X3_less_6 n0 n v0 x1 x2 (x4 + 1) (x5 + 1)
    else none := rfl
noncomputable def f_X3_less (n0 : Nat) (v0 : Nat → Int64) (p1 : Int32) (p2 : Int64) : Option (Int32) :=
  f_X3_less_6 n0 24 v0 p1 p2 0 0
theorem f_X3_less_e {n0 : Nat} {v0 : Nat → Int64} {p1 : Int32} {p2 : Int64} : f_X3_less n0 v0 p1 p2 = 
  f_X3_less_6 n0 24 v0 p1 p2 0 0 := rfl
set_option maxHeartbeats 4000000 in
set_option maxRecDepth 100000 in
theorem c_X3_less (l : Launch) (dC : Nat → ClassId) (dI : Nat → Nat → Nat) (cB cI cJ cZ : ClassId) (q0 : Nat) (n0 : Nat) (sz : Nat) (v0 : Nat → Int64) (p1 : Int32) (p2 : Int64) (res : Int32) (hf : f_X3_less n0 v0 p1 p2 = some res) : kMi l yX3_less wsX3_less (kRm 0 0 0 0) dC dI cB cI cJ cZ [.ref q0, .int p1, .long p2] sz [(q0, .inl (cJ, n0, .inr (.inl v0)))] .int (res) [(q0, .inl (cJ, n0, .inr (.inl v0)))] 0 0 := by
  refine kmet_i (y := yX3_less) (cc := cX3_less) (maxL := 6) (ret := (some .int)) RX3 (kvA 0 q0 (kvI 1 p1 (kvJ 2 p2 kvE))) kpl_X3 rfl rfl (Nat.le_of_ble_eq_true rfl) rfl (fun p e s m below meth c A ls hx hb hr hml hts hown hlocks hP hK hG hD hA hS hl => ?_)
  have J6 : ∀ (n : Nat), ∀ (v0 : Nat → Int64) (x1 : Int32) (x2 : Int64) (x4 : Int32) (x5 : Int32) (H : Heap) (locs : List Loc), va_P (dC, dI) vwCl [(q0, .inl (cJ, n0, .inr (.inl v0)))] H → va_D A [(q0, .inl (cJ, n0, .inr (.inl v0)))] → va_S A s.heap H locs → ∀ (ls : Array Slot), lv_has ls 6 (kvA 0 q0 (kvI 1 x1 (kvJ 2 x2 (kvI 4 x4 (kvI 5 x5 kvE))))) → f_X3_less_6 n0 n v0 x1 x2 x4 x5 = some res → W p l e (headSpec wsX3_less (kRm 0 0 0 0)).room s m ([.ref q0, .int p1, .long p2] : List Value).toArray below meth c H locs 0 0 (MQ below (kI (dC, dI) .int (res) [(q0, .inl (cJ, n0, .inr (.inl v0)))] A) ([.ref q0, .int p1, .long p2] : List Value).toArray s 0 0 A) (F0 m 6 ls []) := by
    intro n
    induction n with
    | zero =>
      intro v0 x1 x2 x4 x5 H locs hP hD hS ls hl h
      have h := f_X3_less_6_0.symm.trans h
      cases h
    | succ n ih =>
      intro v0 x1 x2 x4 x5 H locs hP hD hS ls hl h
      have h := f_X3_less_6_s.symm.trans h
      refine lv_iload hx hb (kdr dgX3_less_0 0 4 rfl rfl) (lv_at hl 4 rfl) ?_
      refine lv_iload_n hx hb (kdr dgX3_less_0 0 5 rfl rfl) rfl (lv_at hl 1 rfl) ?_
      refine lv_icmp_ge (tgt := 37) hx hb (kdr dgX3_less_0 0 6 rfl rfl) (by decide) (fun c1 => ?_) (fun c1 => ?_)
      · have h := g_t c1 h
        refine lv_iload hx hb (kdr dgX3_less_0 2 1 rfl rfl) (lv_at hl 3 rfl) ?_
        have h := Option.some.inj h
        subst h
        exact kret_i (v := x4) hx hb hr rfl hlocks hS hP (kdr dgX3_less_0 2 2 rfl rfl)
      · have h := g_f c1 h
        refine lv_iload hx hb (kdr dgX3_less_0 0 7 rfl rfl) (lv_at hl 3 rfl) ?_
        refine lv_aload_n hx hb (kdr dgX3_less_0 0 8 rfl rfl) rfl (lv_at hl 0 rfl) ?_
        refine lv_iload hx hb (kdr dgX3_less_0 0 9 rfl rfl) (lv_at hl 4 rfl) ?_
        obtain ⟨z1, h⟩ := g_if h
        refine va_lald hx hb hK hP 0 2 rfl rfl (ix_in z1) (kdr dgX3_less_0 1 0 rfl rfl) ?_
        refine lv_lload_n hx hb (kdr dgX3_less_0 1 1 rfl rfl) rfl (lv_at hl 2 rfl) ?_
        refine kl_ge (pc := 19) (tgt := 27) hx hb (kdr dgX3_less_0 1 2 rfl rfl) (kdr dgX3_less_0 1 3 rfl rfl) (by decide) (fun c3 => ?_) (fun c3 => ?_)
        · have h := g_t c3 h
          refine lv_iconst (v := 0) hx hb (kdr dgX3_less_0 1 6 rfl rfl) (by decide) ?_
          refine lv_iadd hx hb (kdr dgX3_less_0 1 7 rfl rfl) ?_
          refine lv_istore (lv' := (kvI 4 (x4 + 0) (kvA 0 q0 (kvI 1 x1 (kvJ 2 x2 (kvI 5 x5 kvE)))))) hx hb (kdr dgX3_less_0 1 8 rfl rfl) hl (by decide) rfl (fun ls hl => ?_)
          refine lv_iinc (v := x5 + 1) (lv' := (kvI 5 (x5 + 1) (kvI 4 (x4 + 0) (kvA 0 q0 (kvI 1 x1 (kvJ 2 x2 kvE)))))) hx hb (kdr dgX3_less_0 1 9 rfl rfl) hl (k := 4) rfl rfl (by decide) rfl (fun ls hl => ?_)
          refine lv_goto (tgt := 6) hx hb (kdr dgX3_less_0 2 0 rfl rfl) (by decide) ?_
          exact ih v0 x1 x2 (x4 + 0) (x5 + 1) _ _ hP hD hS ls (lv_sub hl [2, 3, 4, 1, 0] rfl) h
        · have h := g_f c3 h
          refine lv_iconst (v := 1) hx hb (kdr dgX3_less_0 1 4 rfl rfl) (by decide) ?_
          refine lv_goto (tgt := 28) hx hb (kdr dgX3_less_0 1 5 rfl rfl) (by decide) ?_
          refine lv_iadd hx hb (kdr dgX3_less_0 1 7 rfl rfl) ?_
          refine lv_istore (lv' := (kvI 4 (x4 + 1) (kvA 0 q0 (kvI 1 x1 (kvJ 2 x2 (kvI 5 x5 kvE)))))) hx hb (kdr dgX3_less_0 1 8 rfl rfl) hl (by decide) rfl (fun ls hl => ?_)
          refine lv_iinc (v := x5 + 1) (lv' := (kvI 5 (x5 + 1) (kvI 4 (x4 + 1) (kvA 0 q0 (kvI 1 x1 (kvJ 2 x2 kvE)))))) hx hb (kdr dgX3_less_0 1 9 rfl rfl) hl (k := 4) rfl rfl (by decide) rfl (fun ls hl => ?_)
          refine lv_goto (tgt := 6) hx hb (kdr dgX3_less_0 2 0 rfl rfl) (by decide) ?_
          exact ih v0 x1 x2 (x4 + 1) (x5 + 1) _ _ hP hD hS ls (lv_sub hl [2, 3, 4, 1, 0] rfl) h
  have h := f_X3_less_e.symm.trans hf
  refine lv_iconst (v := 0) hx hb (kdr dgX3_less_0 0 0 rfl rfl) (by decide) ?_
  refine lv_istore (lv' := (kvI 4 0 (kvA 0 q0 (kvI 1 p1 (kvJ 2 p2 kvE))))) hx hb (kdr dgX3_less_0 0 1 rfl rfl) hl (by decide) rfl (fun ls hl => ?_)
  refine lv_iconst (v := 0) hx hb (kdr dgX3_less_0 0 2 rfl rfl) (by decide) ?_
  refine lv_istore (lv' := (kvI 5 0 (kvI 4 0 (kvA 0 q0 (kvI 1 p1 (kvJ 2 p2 kvE)))))) hx hb (kdr dgX3_less_0 0 3 rfl rfl) hl (by decide) rfl (fun ls hl => ?_)
  exact J6 24 v0 p1 p2 0 0 _ _ hP hD hS ls (lv_sub hl [2, 3, 4, 1, 0] rfl) h
noncomputable abbrev wsX3_move : List Cond := kWs yX3_move cX3_move 8 (some .int)
noncomputable def f_X3_move_78 (mbe : Nat → Int64) (men : Nat → Int64) (mac : Int32) (mre : Int32) (mth : Int32) : Option ((Int32) × (Nat → Int64) × (Nat → Int64) × (Int32) × (Int32) × (Int32)) :=
  (f_X3_no mre).bind fun r1 =>
  some (r1.1, mbe, men, mac, r1.2, mth)
theorem f_X3_move_78_e {mbe : Nat → Int64} {men : Nat → Int64} {mac : Int32} {mre : Int32} {mth : Int32} : f_X3_move_78 mbe men mac mre mth =
  (f_X3_no mre).bind fun r1 =>
  some (r1.1, mbe, men, mac, r1.2, mth) := rfl
noncomputable def f_X3_move_14 (mfr : Int64) (mun : Int64) (mbe : Nat → Int64) (men : Nat → Int64) (msp : Int32) (mac : Int32) (mre : Int32) (x1 : Int32) (x2 : Int32) (x3 : Int32) (y0 : Int32) : Option ((Int32) × (Nat → Int64) × (Nat → Int64) × (Int32) × (Int32) × (Int32)) :=
  (f_X3_isNoUnit x2 x3).bind fun r1 =>
  (f_X3_isThrown y0 r1).bind fun r2 =>
  if r2.1 = 0 then
    if ix x1 10 then
      (f_X3_units x2 x3).bind fun r5 =>
      (f_X3_units x2 x3).bind fun r6 =>
      (f_X3_isIn mfr mun ((mbe x1.toNatClampNeg) + r5) ((men x1.toNatClampNeg) + r6)).bind fun r7 =>
      if r7 = 0 then
        f_X3_move_78 mbe men mac mre r2.2
      else
        (f_X3_meetsSome mbe men msp ((mbe x1.toNatClampNeg) + r5) ((men x1.toNatClampNeg) + r6) x1).bind fun r9 =>
        if r9 = 0 then
          (f_X3_less 10 (vp_updL mbe x1.toNatClampNeg ((mbe x1.toNatClampNeg) + r5)) msp ((mbe x1.toNatClampNeg) + r5)).bind fun r11 =>
          (f_X3_done mac r11).bind fun r12 =>
          some (r12.1, vp_updL mbe x1.toNatClampNeg ((mbe x1.toNatClampNeg) + r5), vp_updL men x1.toNatClampNeg ((men x1.toNatClampNeg) + r6), r12.2, mre, r2.2)
        else
          f_X3_move_78 mbe men mac mre r2.2
    else none
  else
    some (0, mbe, men, mac, mre, r2.2)
theorem f_X3_move_14_e {mfr : Int64} {mun : Int64} {mbe : Nat → Int64} {men : Nat → Int64} {msp : Int32} {mac : Int32} {mre : Int32} {x1 : Int32} {x2 : Int32} {x3 : Int32} {y0 : Int32} : f_X3_move_14 mfr mun mbe men msp mac mre x1 x2 x3 y0 =
  (f_X3_isNoUnit x2 x3).bind fun r1 =>
  (f_X3_isThrown y0 r1).bind fun r2 =>
  if r2.1 = 0 then
    if ix x1 10 then
      (f_X3_units x2 x3).bind fun r5 =>
      (f_X3_units x2 x3).bind fun r6 =>
      (f_X3_isIn mfr mun ((mbe x1.toNatClampNeg) + r5) ((men x1.toNatClampNeg) + r6)).bind fun r7 =>
      if r7 = 0 then
        f_X3_move_78 mbe men mac mre r2.2
      else
        (f_X3_meetsSome mbe men msp ((mbe x1.toNatClampNeg) + r5) ((men x1.toNatClampNeg) + r6) x1).bind fun r9 =>
        if r9 = 0 then
          (f_X3_less 10 (vp_updL mbe x1.toNatClampNeg ((mbe x1.toNatClampNeg) + r5)) msp ((mbe x1.toNatClampNeg) + r5)).bind fun r11 =>
          (f_X3_done mac r11).bind fun r12 =>
          some (r12.1, vp_updL mbe x1.toNatClampNeg ((mbe x1.toNatClampNeg) + r5), vp_updL men x1.toNatClampNeg ((men x1.toNatClampNeg) + r6), r12.2, mre, r2.2)
        else
          f_X3_move_78 mbe men mac mre r2.2
    else none
  else
    some (0, mbe, men, mac, mre, r2.2) := rfl
noncomputable def f_X3_move (mfr : Int64) (mun : Int64) (mbe : Nat → Int64) (men : Nat → Int64) (msp : Int32) (mac : Int32) (mre : Int32) (p0 : Int32) (p1 : Int32) (p2 : Int32) : Option ((Int32) × (Nat → Int64) × (Nat → Int64) × (Int32) × (Int32) × (Int32)) :=
  (f_X3_isSpan msp p0).bind fun r1 =>
  if r1 = 0 then
    f_X3_move_14 mfr mun mbe men msp mac mre p0 p1 p2 1
  else
    f_X3_move_14 mfr mun mbe men msp mac mre p0 p1 p2 0
theorem f_X3_move_e {mfr : Int64} {mun : Int64} {mbe : Nat → Int64} {men : Nat → Int64} {msp : Int32} {mac : Int32} {mre : Int32} {p0 : Int32} {p1 : Int32} {p2 : Int32} : f_X3_move mfr mun mbe men msp mac mre p0 p1 p2 = 
  (f_X3_isSpan msp p0).bind fun r1 =>
  if r1 = 0 then
    f_X3_move_14 mfr mun mbe men msp mac mre p0 p1 p2 1
  else
    f_X3_move_14 mfr mun mbe men msp mac mre p0 p1 p2 0 := rfl
set_option maxHeartbeats 4000000 in
set_option maxRecDepth 100000 in
theorem c_X3_move (l : Launch) (dC : Nat → ClassId) (dI : Nat → Nat → Nat) (cB cI cJ cZ : ClassId) (b : Nat → Nat) (sz : Nat) (mce : Nat → Int64) (mfr : Int64) (mun : Int64) (mbe : Nat → Int64) (men : Nat → Int64) (mov : Nat → Int32) (msp : Int32) (mwb : Nat → Int64) (mwe : Nat → Int64) (mwi : Int32) (mac : Int32) (mre : Int32) (mkn : Int32) (mth : Int32) (p0 : Int32) (p1 : Int32) (p2 : Int32) (res : (Int32) × (Nat → Int64) × (Nat → Int64) × (Int32) × (Int32) × (Int32)) (hf : f_X3_move mfr mun mbe men msp mac mre p0 p1 p2 = some res) : kMi l yX3_move wsX3_move (kRm 2 0 0 53) dC dI cB cI cJ cZ [.ref (b 0), .int p0, .int p1, .int p2] sz (wMo cJ cZ b mce mfr mun mbe men mov msp mwb mwe mwi mac mre mkn mth) .int (res.1) (wMo cJ cZ b mce mfr mun (res.2.1) (res.2.2.1) mov msp mwb mwe mwi (res.2.2.2.1) (res.2.2.2.2.1) mkn (res.2.2.2.2.2)) 0 0 := by
  refine kmet_i (y := yX3_move) (cc := cX3_move) (maxL := 8) (ret := (some .int)) RX3 (kvA 0 (b 0) (kvI 1 p0 (kvI 2 p1 (kvI 3 p2 kvE)))) kpl_X3 rfl rfl (Nat.le_of_ble_eq_true rfl) rfl (fun p e s m below meth c A ls hx hb hr hml hts hown hlocks hP hK hG hD hA hS hl => ?_)
  have hw0 := hts (.fieldLink RX3 19 "SpanbookerModel" "begins" "[J") (List.mem_cons_of_mem _ kw_1075)
  have hw1 := hts (.fieldLink RX3 22 "SpanbookerModel" "ends" "[J") (List.mem_cons_of_mem _ kw_1076)
  have hw2 := hts (.fieldLink RX3 56 "SpanbookerModel" "spans" "I") (List.mem_cons_of_mem _ kw_1078)
  have hiX3 : ∀ w ∈ u_ws RX3 TX3 14, w ∈ wsX3_move := fun w h => List.mem_cons_of_mem _ (ku_X3 w h)
  have J78 : ∀ (mce : Nat → Int64) (mfr : Int64) (mun : Int64) (mbe : Nat → Int64) (men : Nat → Int64) (mov : Nat → Int32) (msp : Int32) (mwb : Nat → Int64) (mwe : Nat → Int64) (mwi : Int32) (mac : Int32) (mre : Int32) (mkn : Int32) (mth : Int32) (H : Heap) (locs : List Loc), va_P (dC, dI) vwCl (wMo cJ cZ b mce mfr mun mbe men mov msp mwb mwe mwi mac mre mkn mth) H → va_D A (wMo cJ cZ b mce mfr mun mbe men mov msp mwb mwe mwi mac mre mkn mth) → va_S A s.heap H locs → ∀ (ls : Array Slot), lv_has ls 8 (kvA 0 (b 0) kvE) → f_X3_move_78 mbe men mac mre mth = some res → W p l e (headSpec wsX3_move (kRm 2 0 0 53)).room s m ([.ref (b 0), .int p0, .int p1, .int p2] : List Value).toArray below meth c H locs 0 0 (MQ below (kI (dC, dI) .int (res.1) (wMo cJ cZ b mce mfr mun (res.2.1) (res.2.2.1) mov msp mwb mwe mwi (res.2.2.2.1) (res.2.2.2.2.1) mkn (res.2.2.2.2.2)) A) ([.ref (b 0), .int p0, .int p1, .int p2] : List Value).toArray s 0 0 A) (F0 m 78 ls []) := by
    intro mce mfr mun mbe men mov msp mwb mwe mwi mac mre mkn mth H locs hP hD hS ls hl h
    have h := f_X3_move_78_e.symm.trans h
    refine lv_aload_n hx hb (kdr dgX3_move_0 4 4 rfl rfl) rfl (lv_at hl 0 rfl) ?_
    obtain ⟨r1, g1, h⟩ := g_b h
    refine kq_i (wMo cJ cZ b mce mfr mun mbe men mov msp mwb mwe mwi mac r1.2 mkn mth) (fun qP qD qF => va_runV (As := []) (rest := []) ⟨hx, hb, hml, hown, hts⟩ (c_X3_no l dC dI cB cI cJ cZ b _ mce mfr mun mbe men mov msp mwb mwe mwi mac mre mkn mth  r1 g1) (kcwV hts kw_1136 kv_X3_no rfl rfl ⟨(Nat.le_of_ble_eq_true rfl), (Nat.le_of_ble_eq_true rfl)⟩) (kpV (A := A) qP hK qD hG (krecv_5 (q0 := 0) hK hP rfl)) rfl rfl hl.1 rfl (lv_room (Nat.le_of_ble_eq_true rfl)) (kdr dgX3_move_0 4 5 rfl rfl) ⟨(Nat.le_of_ble_eq_true rfl), (Nat.le_of_ble_eq_true rfl)⟩) hP hD hS hA kFr_Mo (fun H locs hP hD hS br1 => ?_)
    have h := Option.some.inj h
    subst h
    exact kret_i (v := r1.1) hx hb hr rfl hlocks hS hP (kdr dgX3_move_0 4 6 rfl rfl)
  have J14 : ∀ (mce : Nat → Int64) (mfr : Int64) (mun : Int64) (mbe : Nat → Int64) (men : Nat → Int64) (mov : Nat → Int32) (msp : Int32) (mwb : Nat → Int64) (mwe : Nat → Int64) (mwi : Int32) (mac : Int32) (mre : Int32) (mkn : Int32) (mth : Int32) (x1 : Int32) (x2 : Int32) (x3 : Int32) (y0 : Int32) (H : Heap) (locs : List Loc), va_P (dC, dI) vwCl (wMo cJ cZ b mce mfr mun mbe men mov msp mwb mwe mwi mac mre mkn mth) H → va_D A (wMo cJ cZ b mce mfr mun mbe men mov msp mwb mwe mwi mac mre mkn mth) → va_S A s.heap H locs → ∀ (ls : Array Slot), lv_has ls 8 (kvA 0 (b 0) (kvI 1 x1 (kvI 2 x2 (kvI 3 x3 kvE)))) → f_X3_move_14 mfr mun mbe men msp mac mre x1 x2 x3 y0 = some res → W p l e (headSpec wsX3_move (kRm 2 0 0 53)).room s m ([.ref (b 0), .int p0, .int p1, .int p2] : List Value).toArray below meth c H locs 0 0 (MQ below (kI (dC, dI) .int (res.1) (wMo cJ cZ b mce mfr mun (res.2.1) (res.2.2.1) mov msp mwb mwe mwi (res.2.2.2.1) (res.2.2.2.2.1) mkn (res.2.2.2.2.2)) A) ([.ref (b 0), .int p0, .int p1, .int p2] : List Value).toArray s 0 0 A) (F0 m 14 ls [.int y0, .ref (b 0)]) := by
    intro mce mfr mun mbe men mov msp mwb mwe mwi mac mre mkn mth x1 x2 x3 y0 H locs hP hD hS ls hl h
    have h := f_X3_move_14_e.symm.trans h
    refine lv_iload_n hx hb (kdr dgX3_move_0 0 8 rfl rfl) rfl (lv_at hl 2 rfl) ?_
    refine lv_iload_n hx hb (kdr dgX3_move_0 0 9 rfl rfl) rfl (lv_at hl 3 rfl) ?_
    obtain ⟨r1, g1, h⟩ := g_b h
    refine kq_i (wMo cJ cZ b mce mfr mun mbe men mov msp mwb mwe mwi mac mre mkn mth) (fun qP qD qF => va_runS (As := [.int x2, .int x3]) (rest := [.int y0, .ref (b 0)]) ⟨hx, hb, hml, hown, hts⟩ (c_X3_isNoUnit l dC dI cB cI cJ cZ  _  x2 x3 r1 g1) (kcwS hts kw_1152 kv_X3_isNoUnit rfl rfl ⟨(Nat.le_of_ble_eq_true rfl), (Nat.le_of_ble_eq_true rfl)⟩) (kpS (A := A) (kPnil) hK ((kDnil (A := A))) hG) rfl rfl hl.1 rfl (lv_room (Nat.le_of_ble_eq_true rfl)) (kdr dgX3_move_0 1 0 rfl rfl) ⟨(Nat.le_of_ble_eq_true rfl), (Nat.le_of_ble_eq_true rfl)⟩) hP hD hS hA kFr_n (fun H locs hP hD hS br1 => ?_)
    obtain ⟨r2, g2, h⟩ := g_b h
    refine kq_i (wMo cJ cZ b mce mfr mun mbe men mov msp mwb mwe mwi mac mre mkn r2.2) (fun qP qD qF => va_runV (As := [.int y0, .int r1]) (rest := []) ⟨hx, hb, hml, hown, hts⟩ (c_X3_isThrown l dC dI cB cI cJ cZ b _ mce mfr mun mbe men mov msp mwb mwe mwi mac mre mkn mth y0 r1 r2 g2) (kcwV hts kw_1126 kv_X3_isThrown rfl rfl ⟨(Nat.le_of_ble_eq_true rfl), (Nat.le_of_ble_eq_true rfl)⟩) (kpV (A := A) qP hK qD hG (krecv_5 (q0 := 0) hK hP rfl)) rfl rfl hl.1 rfl (lv_room (Nat.le_of_ble_eq_true rfl)) (kdr dgX3_move_0 1 1 rfl rfl) ⟨(Nat.le_of_ble_eq_true rfl), (Nat.le_of_ble_eq_true rfl)⟩) hP hD hS hA kFr_Mo (fun H locs hP hD hS br2 => ?_)
    refine lv_if_eq (tgt := 27) hx hb (kdr dgX3_move_0 1 2 rfl rfl) (by decide) (fun c3 => ?_) (fun c3 => ?_)
    · have h := g_t c3 h
      refine lv_aload_n hx hb (kdr dgX3_move_0 1 5 rfl rfl) rfl (lv_at hl 0 rfl) ?_
      refine va_get (D := (dC, dI)) (ci := 5) (v := .ref (b 2)) (C := RX3) (T := TX3) (N := 14) hx hb hts hiX3 hown hK hP 0 rfl rfl 3 (by decide) hw0 (fun _ h9 => h9) rfl (kdr dgX3_move_0 1 6 rfl rfl) ?_
      refine lv_iload_n hx hb (kdr dgX3_move_0 1 7 rfl rfl) rfl (lv_at hl 1 rfl) ?_
      obtain ⟨z3, h⟩ := g_if h
      refine va_lald hx hb hK hP 2 2 rfl rfl (ix_in z3) (kdr dgX3_move_0 1 8 rfl rfl) ?_
      refine lv_iload_n hx hb (kdr dgX3_move_0 1 9 rfl rfl) rfl (lv_at hl 2 rfl) ?_
      refine lv_iload_n hx hb (kdr dgX3_move_0 2 0 rfl rfl) rfl (lv_at hl 3 rfl) ?_
      obtain ⟨r5, g5, h⟩ := g_b h
      refine kq_l (wMo cJ cZ b mce mfr mun mbe men mov msp mwb mwe mwi mac mre mkn r2.2) (fun qP qD qF => va_runS (As := [.int x2, .int x3]) (rest := [.long (mbe x1.toNatClampNeg)]) ⟨hx, hb, hml, hown, hts⟩ (c_X3_units l dC dI cB cI cJ cZ  _  x2 x3 r5 g5) (kcwS hts kw_1155 kv_X3_units rfl rfl ⟨(Nat.le_of_ble_eq_true rfl), (Nat.le_of_ble_eq_true rfl)⟩) (kpS (A := A) (kPnil) hK ((kDnil (A := A))) hG) rfl rfl hl.1 rfl (lv_room (Nat.le_of_ble_eq_true rfl)) (kdr dgX3_move_0 2 1 rfl rfl) ⟨(Nat.le_of_ble_eq_true rfl), (Nat.le_of_ble_eq_true rfl)⟩) hP hD hS hA kFr_n (fun H locs hP hD hS => ?_)
      refine lv_ladd hx hb (kdr dgX3_move_0 2 2 rfl rfl) ?_
      refine lv_lstore (lv' := (kvJ 4 ((mbe x1.toNatClampNeg) + r5) (kvA 0 (b 0) (kvI 1 x1 (kvI 2 x2 (kvI 3 x3 kvE)))))) hx hb (kdr dgX3_move_0 2 3 rfl rfl) hl (by decide) rfl (fun ls hl => ?_)
      refine lv_aload_n hx hb (kdr dgX3_move_0 2 4 rfl rfl) rfl (lv_at hl 1 rfl) ?_
      refine va_get (D := (dC, dI)) (ci := 5) (v := .ref (b 3)) (C := RX3) (T := TX3) (N := 14) hx hb hts hiX3 hown hK hP 0 rfl rfl 4 (by decide) hw1 (fun _ h9 => h9) rfl (kdr dgX3_move_0 2 5 rfl rfl) ?_
      refine lv_iload_n hx hb (kdr dgX3_move_0 2 6 rfl rfl) rfl (lv_at hl 2 rfl) ?_
      refine va_lald hx hb hK hP 3 2 rfl rfl (ix_in z3) (kdr dgX3_move_0 2 7 rfl rfl) ?_
      refine lv_iload_n hx hb (kdr dgX3_move_0 2 8 rfl rfl) rfl (lv_at hl 3 rfl) ?_
      refine lv_iload_n hx hb (kdr dgX3_move_0 2 9 rfl rfl) rfl (lv_at hl 4 rfl) ?_
      obtain ⟨r6, g6, h⟩ := g_b h
      refine kq_l (wMo cJ cZ b mce mfr mun mbe men mov msp mwb mwe mwi mac mre mkn r2.2) (fun qP qD qF => va_runS (As := [.int x2, .int x3]) (rest := [.long (men x1.toNatClampNeg)]) ⟨hx, hb, hml, hown, hts⟩ (c_X3_units l dC dI cB cI cJ cZ  _  x2 x3 r6 g6) (kcwS hts kw_1155 kv_X3_units rfl rfl ⟨(Nat.le_of_ble_eq_true rfl), (Nat.le_of_ble_eq_true rfl)⟩) (kpS (A := A) (kPnil) hK ((kDnil (A := A))) hG) rfl rfl hl.1 rfl (lv_room (Nat.le_of_ble_eq_true rfl)) (kdr dgX3_move_0 3 0 rfl rfl) ⟨(Nat.le_of_ble_eq_true rfl), (Nat.le_of_ble_eq_true rfl)⟩) hP hD hS hA kFr_n (fun H locs hP hD hS => ?_)
      refine lv_ladd hx hb (kdr dgX3_move_0 3 1 rfl rfl) ?_
      refine lv_lstore (lv' := (kvJ 6 ((men x1.toNatClampNeg) + r6) (kvJ 4 ((mbe x1.toNatClampNeg) + r5) (kvA 0 (b 0) (kvI 1 x1 (kvI 2 x2 (kvI 3 x3 kvE))))))) hx hb (kdr dgX3_move_0 3 2 rfl rfl) hl (by decide) rfl (fun ls hl => ?_)
      refine lv_aload_n hx hb (kdr dgX3_move_0 3 3 rfl rfl) rfl (lv_at hl 2 rfl) ?_
      refine lv_lload hx hb (kdr dgX3_move_0 3 4 rfl rfl) (lv_at hl 1 rfl) ?_
      refine lv_lload hx hb (kdr dgX3_move_0 3 5 rfl rfl) (lv_at hl 0 rfl) ?_
      obtain ⟨r7, g7, h⟩ := g_b h
      refine kq_i (wMo cJ cZ b mce mfr mun mbe men mov msp mwb mwe mwi mac mre mkn r2.2) (fun qP qD qF => va_runV (As := [.long ((mbe x1.toNatClampNeg) + r5), .long ((men x1.toNatClampNeg) + r6)]) (rest := []) ⟨hx, hb, hml, hown, hts⟩ (c_X3_isIn l dC dI cB cI cJ cZ b _ mce mfr mun mbe men mov msp mwb mwe mwi mac mre mkn r2.2 ((mbe x1.toNatClampNeg) + r5) ((men x1.toNatClampNeg) + r6) r7 g7) (kcwV hts kw_1200 kv_X3_isIn rfl rfl ⟨(Nat.le_of_ble_eq_true rfl), (Nat.le_of_ble_eq_true rfl)⟩) (kpV (A := A) qP hK qD hG (krecv_5 (q0 := 0) hK hP rfl)) rfl rfl hl.1 rfl (lv_room (Nat.le_of_ble_eq_true rfl)) (kdr dgX3_move_0 3 6 rfl rfl) ⟨(Nat.le_of_ble_eq_true rfl), (Nat.le_of_ble_eq_true rfl)⟩) hP hD hS hA kFr_Mo (fun H locs hP hD hS br7 => ?_)
      refine lv_if_eq (tgt := 78) hx hb (kdr dgX3_move_0 3 7 rfl rfl) (by decide) (fun c8 => ?_) (fun c8 => ?_)
      · have h := g_t c8 h
        exact J78 mce mfr mun mbe men mov msp mwb mwe mwi mac mre mkn r2.2 _ _ hP hD hS ls (lv_sub hl [2] rfl) h
      · have h := g_f c8 h
        refine lv_aload_n hx hb (kdr dgX3_move_0 3 8 rfl rfl) rfl (lv_at hl 2 rfl) ?_
        refine lv_lload hx hb (kdr dgX3_move_0 3 9 rfl rfl) (lv_at hl 1 rfl) ?_
        refine lv_lload hx hb (kdr dgX3_move_0 4 0 rfl rfl) (lv_at hl 0 rfl) ?_
        refine lv_iload_n hx hb (kdr dgX3_move_0 4 1 rfl rfl) rfl (lv_at hl 3 rfl) ?_
        obtain ⟨r9, g9, h⟩ := g_b h
        refine kq_i (wMo cJ cZ b mce mfr mun mbe men mov msp mwb mwe mwi mac mre mkn r2.2) (fun qP qD qF => va_runV (As := [.long ((mbe x1.toNatClampNeg) + r5), .long ((men x1.toNatClampNeg) + r6), .int x1]) (rest := []) ⟨hx, hb, hml, hown, hts⟩ (c_X3_meetsSome l dC dI cB cI cJ cZ b _ mce mfr mun mbe men mov msp mwb mwe mwi mac mre mkn r2.2 ((mbe x1.toNatClampNeg) + r5) ((men x1.toNatClampNeg) + r6) x1 r9 g9) (kcwV hts kw_1204 kv_X3_meetsSome rfl rfl ⟨(Nat.le_of_ble_eq_true rfl), (Nat.le_of_ble_eq_true rfl)⟩) (kpV (A := A) qP hK qD hG (krecv_5 (q0 := 0) hK hP rfl)) rfl rfl hl.1 rfl (lv_room (Nat.le_of_ble_eq_true rfl)) (kdr dgX3_move_0 4 2 rfl rfl) ⟨(Nat.le_of_ble_eq_true rfl), (Nat.le_of_ble_eq_true rfl)⟩) hP hD hS hA kFr_Mo (fun H locs hP hD hS br9 => ?_)
        refine lv_if_eq (tgt := 83) hx hb (kdr dgX3_move_0 4 3 rfl rfl) (by decide) (fun c10 => ?_) (fun c10 => ?_)
        · have h := g_t c10 h
          refine lv_aload_n hx hb (kdr dgX3_move_0 4 7 rfl rfl) rfl (lv_at hl 2 rfl) ?_
          refine va_get (D := (dC, dI)) (ci := 5) (v := .ref (b 2)) (C := RX3) (T := TX3) (N := 14) hx hb hts hiX3 hown hK hP 0 rfl rfl 3 (by decide) hw0 (fun _ h9 => h9) rfl (kdr dgX3_move_0 4 8 rfl rfl) ?_
          refine lv_iload_n hx hb (kdr dgX3_move_0 4 9 rfl rfl) rfl (lv_at hl 3 rfl) ?_
          refine lv_lload hx hb (kdr dgX3_move_0 5 0 rfl rfl) (lv_at hl 1 rfl) ?_
          refine va_last hx hb hK hP hD hS 2 2 rfl rfl (ix_in z3) (kdr dgX3_move_0 5 1 rfl rfl) (fun H locs hP hD hS => ?_)
          have hP : va_P (dC, dI) vwCl (wMo cJ cZ b mce mfr mun (vp_updL mbe x1.toNatClampNeg ((mbe x1.toNatClampNeg) + r5)) men mov msp mwb mwe mwi mac mre mkn r2.2) H := hP
          have hD : va_D A (wMo cJ cZ b mce mfr mun (vp_updL mbe x1.toNatClampNeg ((mbe x1.toNatClampNeg) + r5)) men mov msp mwb mwe mwi mac mre mkn r2.2) := hD
          refine lv_aload_n hx hb (kdr dgX3_move_0 5 2 rfl rfl) rfl (lv_at hl 2 rfl) ?_
          refine va_get (D := (dC, dI)) (ci := 5) (v := .ref (b 3)) (C := RX3) (T := TX3) (N := 14) hx hb hts hiX3 hown hK hP 0 rfl rfl 4 (by decide) hw1 (fun _ h9 => h9) rfl (kdr dgX3_move_0 5 3 rfl rfl) ?_
          refine lv_iload_n hx hb (kdr dgX3_move_0 5 4 rfl rfl) rfl (lv_at hl 3 rfl) ?_
          refine lv_lload hx hb (kdr dgX3_move_0 5 5 rfl rfl) (lv_at hl 0 rfl) ?_
          refine va_last hx hb hK hP hD hS 3 2 rfl rfl (ix_in z3) (kdr dgX3_move_0 5 6 rfl rfl) (fun H locs hP hD hS => ?_)
          have hP : va_P (dC, dI) vwCl (wMo cJ cZ b mce mfr mun (vp_updL mbe x1.toNatClampNeg ((mbe x1.toNatClampNeg) + r5)) (vp_updL men x1.toNatClampNeg ((men x1.toNatClampNeg) + r6)) mov msp mwb mwe mwi mac mre mkn r2.2) H := hP
          have hD : va_D A (wMo cJ cZ b mce mfr mun (vp_updL mbe x1.toNatClampNeg ((mbe x1.toNatClampNeg) + r5)) (vp_updL men x1.toNatClampNeg ((men x1.toNatClampNeg) + r6)) mov msp mwb mwe mwi mac mre mkn r2.2) := hD
          refine lv_aload_n hx hb (kdr dgX3_move_0 5 7 rfl rfl) rfl (lv_at hl 2 rfl) ?_
          refine lv_aload_n hx hb (kdr dgX3_move_0 5 8 rfl rfl) rfl (lv_at hl 2 rfl) ?_
          refine va_get (D := (dC, dI)) (ci := 5) (v := .ref (b 2)) (C := RX3) (T := TX3) (N := 14) hx hb hts hiX3 hown hK hP 0 rfl rfl 3 (by decide) hw0 (fun _ h9 => h9) rfl (kdr dgX3_move_0 5 9 rfl rfl) ?_
          refine lv_aload_n hx hb (kdr dgX3_move_0 6 0 rfl rfl) rfl (lv_at hl 2 rfl) ?_
          refine va_get (D := (dC, dI)) (ci := 5) (v := .int msp) (C := RX3) (T := TX3) (N := 14) hx hb hts hiX3 hown hK hP 0 rfl rfl 6 (by decide) hw2 (fun _ h9 => h9) rfl (kdr dgX3_move_0 6 1 rfl rfl) ?_
          refine lv_lload hx hb (kdr dgX3_move_0 6 2 rfl rfl) (lv_at hl 1 rfl) ?_
          obtain ⟨r11, g11, h⟩ := g_b h
          refine kcall_i (wMo cJ cZ b mce mfr mun (vp_updL mbe x1.toNatClampNeg ((mbe x1.toNatClampNeg) + r5)) (vp_updL men x1.toNatClampNeg ((men x1.toNatClampNeg) + r6)) mov msp mwb mwe mwi mac mre mkn r2.2) (va_runS (As := [.ref (b 2), .int msp, .long ((mbe x1.toNatClampNeg) + r5)]) (rest := [.ref (b 0)]) ⟨hx, hb, hml, hown, hts⟩ (c_X3_less l dC dI cB cI cJ cZ (b 2) 10 _ (vp_updL mbe x1.toNatClampNeg ((mbe x1.toNatClampNeg) + r5)) msp ((mbe x1.toNatClampNeg) + r5) r11 g11) (kcwS hts kw_1231 kv_X3_less rfl rfl ⟨(Nat.le_of_ble_eq_true rfl), (Nat.le_of_ble_eq_true rfl)⟩) (kpS (A := A) (hP.sub (kIT mk_27 0) (km_f (m := mk_27) rfl rfl)) hK (hD.sub (kIT mk_27 0) (km_nd mk_27) (km_T (m := mk_27) rfl rfl)) hG) rfl rfl hl.1 rfl (lv_room (Nat.le_of_ble_eq_true rfl)) (kdr dgX3_move_0 6 3 rfl rfl) ⟨(Nat.le_of_ble_eq_true rfl), (Nat.le_of_ble_eq_true rfl)⟩) hP hD hS hA (kIT mk_27 0) (kIT mk_28 0) (km_T (m := mk_27) rfl rfl) (km_T (m := mk_27) rfl rfl) [((b 0), .inr (5, [.ref (b 1), .long mfr, .long mun, .ref (b 2), .ref (b 3), .ref (b 4), .int msp, .ref (b 5), .ref (b 6), .int mwi, .int mac, .int mre, .int mkn, .int r2.2])), ((b 1), .inl (cJ, 4, .inr (.inl mce))), ((b 3), .inl (cJ, 10, .inr (.inl (vp_updL men x1.toNatClampNeg ((men x1.toNatClampNeg) + r6))))), ((b 4), .inl (cZ, 10, .inl mov)), ((b 5), .inl (cJ, 8, .inr (.inl mwb))), ((b 6), .inl (cJ, 8, .inr (.inl mwe)))] (km_T (m := mk_28) rfl rfl) (km_T (m := mk_28) rfl rfl) (km_cov (m := mk_27) (n := mk_28) rfl rfl) (km_dis (m := mk_27) (n := mk_28) rfl) rfl (fun H locs hP hD hS br11 => ?_)
          obtain ⟨r12, g12, h⟩ := g_b h
          refine kq_i (wMo cJ cZ b mce mfr mun (vp_updL mbe x1.toNatClampNeg ((mbe x1.toNatClampNeg) + r5)) (vp_updL men x1.toNatClampNeg ((men x1.toNatClampNeg) + r6)) mov msp mwb mwe mwi r12.2 mre mkn r2.2) (fun qP qD qF => va_runV (As := [.int r11]) (rest := []) ⟨hx, hb, hml, hown, hts⟩ (c_X3_done l dC dI cB cI cJ cZ b _ mce mfr mun (vp_updL mbe x1.toNatClampNeg ((mbe x1.toNatClampNeg) + r5)) (vp_updL men x1.toNatClampNeg ((men x1.toNatClampNeg) + r6)) mov msp mwb mwe mwi mac mre mkn r2.2 r11 r12 g12) (kcwV hts kw_1144 kv_X3_done rfl rfl ⟨(Nat.le_of_ble_eq_true rfl), (Nat.le_of_ble_eq_true rfl)⟩) (kpV (A := A) qP hK qD hG (krecv_5 (q0 := 0) hK hP rfl)) rfl rfl hl.1 rfl (lv_room (Nat.le_of_ble_eq_true rfl)) (kdr dgX3_move_0 6 4 rfl rfl) ⟨(Nat.le_of_ble_eq_true rfl), (Nat.le_of_ble_eq_true rfl)⟩) hP hD hS hA kFr_Mo (fun H locs hP hD hS br12 => ?_)
          have h := Option.some.inj h
          subst h
          exact kret_i (v := r12.1) hx hb hr rfl hlocks hS hP (kdr dgX3_move_0 6 5 rfl rfl)
        · have h := g_f c10 h
          exact J78 mce mfr mun mbe men mov msp mwb mwe mwi mac mre mkn r2.2 _ _ hP hD hS ls (lv_sub hl [2] rfl) h
    · have h := g_f c3 h
      refine lv_iconst (v := 0) hx hb (kdr dgX3_move_0 1 3 rfl rfl) (by decide) ?_
      have h := Option.some.inj h
      subst h
      exact kret_i (v := 0) hx hb hr rfl hlocks hS hP (kdr dgX3_move_0 1 4 rfl rfl)
  have h := f_X3_move_e.symm.trans hf
  refine lv_aload_n hx hb (kdr dgX3_move_0 0 0 rfl rfl) rfl (lv_at hl 0 rfl) ?_
  refine lv_aload_n hx hb (kdr dgX3_move_0 0 1 rfl rfl) rfl (lv_at hl 0 rfl) ?_
  refine lv_iload_n hx hb (kdr dgX3_move_0 0 2 rfl rfl) rfl (lv_at hl 1 rfl) ?_
  obtain ⟨r1, g1, h⟩ := g_b h
  refine kq_i (wMo cJ cZ b mce mfr mun mbe men mov msp mwb mwe mwi mac mre mkn mth) (fun qP qD qF => va_runV (As := [.int p0]) (rest := [.ref (b 0)]) ⟨hx, hb, hml, hown, hts⟩ (c_X3_isSpan l dC dI cB cI cJ cZ b _ mce mfr mun mbe men mov msp mwb mwe mwi mac mre mkn mth p0 r1 g1) (kcwV hts kw_1219 kv_X3_isSpan rfl rfl ⟨(Nat.le_of_ble_eq_true rfl), (Nat.le_of_ble_eq_true rfl)⟩) (kpV (A := A) qP hK qD hG (krecv_5 (q0 := 0) hK hP rfl)) rfl rfl hl.1 rfl (lv_room (Nat.le_of_ble_eq_true rfl)) (kdr dgX3_move_0 0 3 rfl rfl) ⟨(Nat.le_of_ble_eq_true rfl), (Nat.le_of_ble_eq_true rfl)⟩) hP hD hS hA kFr_Mo (fun H locs hP hD hS br1 => ?_)
  refine lv_if_ne (tgt := 13) hx hb (kdr dgX3_move_0 0 4 rfl rfl) (by decide) (fun c2 => ?_) (fun c2 => ?_)
  · have h := g_f c2 h
    refine lv_iconst (v := 0) hx hb (kdr dgX3_move_0 0 7 rfl rfl) (by decide) ?_
    exact J14 mce mfr mun mbe men mov msp mwb mwe mwi mac mre mkn mth p0 p1 p2 0 _ _ hP hD hS ls (lv_sub hl [0, 1, 2, 3] rfl) h
  · have h := g_t c2 h
    refine lv_iconst (v := 1) hx hb (kdr dgX3_move_0 0 5 rfl rfl) (by decide) ?_
    refine lv_goto (tgt := 14) hx hb (kdr dgX3_move_0 0 6 rfl rfl) (by decide) ?_
    exact J14 mce mfr mun mbe men mov msp mwb mwe mwi mac mre mkn mth p0 p1 p2 1 _ _ hP hD hS ls (lv_sub hl [0, 1, 2, 3] rfl) h
noncomputable abbrev wsX3_stretch : List Cond := kWs yX3_stretch cX3_stretch 6 (some .int)
noncomputable def f_X3_stretch_84 (men : Nat → Int64) (mac : Int32) (mre : Int32) (mth : Int32) : Option ((Int32) × (Nat → Int64) × (Int32) × (Int32) × (Int32)) :=
  (f_X3_no mre).bind fun r1 =>
  some (r1.1, men, mac, r1.2, mth)
theorem f_X3_stretch_84_e {men : Nat → Int64} {mac : Int32} {mre : Int32} {mth : Int32} : f_X3_stretch_84 men mac mre mth =
  (f_X3_no mre).bind fun r1 =>
  some (r1.1, men, mac, r1.2, mth) := rfl
noncomputable def f_X3_stretch_14 (mfr : Int64) (mun : Int64) (mbe : Nat → Int64) (men : Nat → Int64) (msp : Int32) (mac : Int32) (mre : Int32) (x1 : Int32) (x2 : Int32) (x3 : Int32) (y0 : Int32) : Option ((Int32) × (Nat → Int64) × (Int32) × (Int32) × (Int32)) :=
  (f_X3_isNoUnit x2 x3).bind fun r1 =>
  (f_X3_isThrown y0 r1).bind fun r2 =>
  if r2.1 = 0 then
    if ix x1 10 then
      (f_X3_units x2 x3).bind fun r5 =>
      if ((men x1.toNatClampNeg) + r5) ≤ (mbe x1.toNatClampNeg) then
        f_X3_stretch_84 men mac mre r2.2
      else
        (f_X3_isIn mfr mun (mbe x1.toNatClampNeg) ((men x1.toNatClampNeg) + r5)).bind fun r7 =>
        if r7 = 0 then
          f_X3_stretch_84 men mac mre r2.2
        else
          (f_X3_meetsSome mbe men msp (mbe x1.toNatClampNeg) ((men x1.toNatClampNeg) + r5) x1).bind fun r9 =>
          if r9 = 0 then
            (f_X3_less 10 (vp_updL men x1.toNatClampNeg ((men x1.toNatClampNeg) + r5)) msp ((men x1.toNatClampNeg) + r5)).bind fun r11 =>
            (f_X3_done mac r11).bind fun r12 =>
            some (r12.1, vp_updL men x1.toNatClampNeg ((men x1.toNatClampNeg) + r5), r12.2, mre, r2.2)
          else
            f_X3_stretch_84 men mac mre r2.2
    else none
  else
    some (0, men, mac, mre, r2.2)
theorem f_X3_stretch_14_e {mfr : Int64} {mun : Int64} {mbe : Nat → Int64} {men : Nat → Int64} {msp : Int32} {mac : Int32} {mre : Int32} {x1 : Int32} {x2 : Int32} {x3 : Int32} {y0 : Int32} : f_X3_stretch_14 mfr mun mbe men msp mac mre x1 x2 x3 y0 =
  (f_X3_isNoUnit x2 x3).bind fun r1 =>
  (f_X3_isThrown y0 r1).bind fun r2 =>
  if r2.1 = 0 then
    if ix x1 10 then
      (f_X3_units x2 x3).bind fun r5 =>
      if ((men x1.toNatClampNeg) + r5) ≤ (mbe x1.toNatClampNeg) then
        f_X3_stretch_84 men mac mre r2.2
      else
        (f_X3_isIn mfr mun (mbe x1.toNatClampNeg) ((men x1.toNatClampNeg) + r5)).bind fun r7 =>
        if r7 = 0 then
          f_X3_stretch_84 men mac mre r2.2
        else
          (f_X3_meetsSome mbe men msp (mbe x1.toNatClampNeg) ((men x1.toNatClampNeg) + r5) x1).bind fun r9 =>
          if r9 = 0 then
            (f_X3_less 10 (vp_updL men x1.toNatClampNeg ((men x1.toNatClampNeg) + r5)) msp ((men x1.toNatClampNeg) + r5)).bind fun r11 =>
            (f_X3_done mac r11).bind fun r12 =>
            some (r12.1, vp_updL men x1.toNatClampNeg ((men x1.toNatClampNeg) + r5), r12.2, mre, r2.2)
          else
            f_X3_stretch_84 men mac mre r2.2
    else none
  else
    some (0, men, mac, mre, r2.2) := rfl
noncomputable def f_X3_stretch (mfr : Int64) (mun : Int64) (mbe : Nat → Int64) (men : Nat → Int64) (msp : Int32) (mac : Int32) (mre : Int32) (p0 : Int32) (p1 : Int32) (p2 : Int32) : Option ((Int32) × (Nat → Int64) × (Int32) × (Int32) × (Int32)) :=
  (f_X3_isSpan msp p0).bind fun r1 =>
  if r1 = 0 then
    f_X3_stretch_14 mfr mun mbe men msp mac mre p0 p1 p2 1
  else
    f_X3_stretch_14 mfr mun mbe men msp mac mre p0 p1 p2 0
theorem f_X3_stretch_e {mfr : Int64} {mun : Int64} {mbe : Nat → Int64} {men : Nat → Int64} {msp : Int32} {mac : Int32} {mre : Int32} {p0 : Int32} {p1 : Int32} {p2 : Int32} : f_X3_stretch mfr mun mbe men msp mac mre p0 p1 p2 = 
  (f_X3_isSpan msp p0).bind fun r1 =>
  if r1 = 0 then
    f_X3_stretch_14 mfr mun mbe men msp mac mre p0 p1 p2 1
  else
    f_X3_stretch_14 mfr mun mbe men msp mac mre p0 p1 p2 0 := rfl
set_option maxHeartbeats 4000000 in
set_option maxRecDepth 100000 in
theorem c_X3_stretch (l : Launch) (dC : Nat → ClassId) (dI : Nat → Nat → Nat) (cB cI cJ cZ : ClassId) (b : Nat → Nat) (sz : Nat) (mce : Nat → Int64) (mfr : Int64) (mun : Int64) (mbe : Nat → Int64) (men : Nat → Int64) (mov : Nat → Int32) (msp : Int32) (mwb : Nat → Int64) (mwe : Nat → Int64) (mwi : Int32) (mac : Int32) (mre : Int32) (mkn : Int32) (mth : Int32) (p0 : Int32) (p1 : Int32) (p2 : Int32) (res : (Int32) × (Nat → Int64) × (Int32) × (Int32) × (Int32)) (hf : f_X3_stretch mfr mun mbe men msp mac mre p0 p1 p2 = some res) : kMi l yX3_stretch wsX3_stretch (kRm 2 0 0 53) dC dI cB cI cJ cZ [.ref (b 0), .int p0, .int p1, .int p2] sz (wMo cJ cZ b mce mfr mun mbe men mov msp mwb mwe mwi mac mre mkn mth) .int (res.1) (wMo cJ cZ b mce mfr mun mbe (res.2.1) mov msp mwb mwe mwi (res.2.2.1) (res.2.2.2.1) mkn (res.2.2.2.2)) 0 0 := by
  refine kmet_i (y := yX3_stretch) (cc := cX3_stretch) (maxL := 6) (ret := (some .int)) RX3 (kvA 0 (b 0) (kvI 1 p0 (kvI 2 p1 (kvI 3 p2 kvE)))) kpl_X3 rfl rfl (Nat.le_of_ble_eq_true rfl) rfl (fun p e s m below meth c A ls hx hb hr hml hts hown hlocks hP hK hG hD hA hS hl => ?_)
  have hw0 := hts (.fieldLink RX3 22 "SpanbookerModel" "ends" "[J") (List.mem_cons_of_mem _ kw_1076)
  have hw1 := hts (.fieldLink RX3 19 "SpanbookerModel" "begins" "[J") (List.mem_cons_of_mem _ kw_1075)
  have hw2 := hts (.fieldLink RX3 56 "SpanbookerModel" "spans" "I") (List.mem_cons_of_mem _ kw_1078)
  have hiX3 : ∀ w ∈ u_ws RX3 TX3 14, w ∈ wsX3_stretch := fun w h => List.mem_cons_of_mem _ (ku_X3 w h)
  have J84 : ∀ (mce : Nat → Int64) (mfr : Int64) (mun : Int64) (mbe : Nat → Int64) (men : Nat → Int64) (mov : Nat → Int32) (msp : Int32) (mwb : Nat → Int64) (mwe : Nat → Int64) (mwi : Int32) (mac : Int32) (mre : Int32) (mkn : Int32) (mth : Int32) (H : Heap) (locs : List Loc), va_P (dC, dI) vwCl (wMo cJ cZ b mce mfr mun mbe men mov msp mwb mwe mwi mac mre mkn mth) H → va_D A (wMo cJ cZ b mce mfr mun mbe men mov msp mwb mwe mwi mac mre mkn mth) → va_S A s.heap H locs → ∀ (ls : Array Slot), lv_has ls 6 (kvA 0 (b 0) kvE) → f_X3_stretch_84 men mac mre mth = some res → W p l e (headSpec wsX3_stretch (kRm 2 0 0 53)).room s m ([.ref (b 0), .int p0, .int p1, .int p2] : List Value).toArray below meth c H locs 0 0 (MQ below (kI (dC, dI) .int (res.1) (wMo cJ cZ b mce mfr mun mbe (res.2.1) mov msp mwb mwe mwi (res.2.2.1) (res.2.2.2.1) mkn (res.2.2.2.2)) A) ([.ref (b 0), .int p0, .int p1, .int p2] : List Value).toArray s 0 0 A) (F0 m 84 ls []) := by
    intro mce mfr mun mbe men mov msp mwb mwe mwi mac mre mkn mth H locs hP hD hS ls hl h
    have h := f_X3_stretch_84_e.symm.trans h
    refine lv_aload_n hx hb (kdr dgX3_stretch_0 4 8 rfl rfl) rfl (lv_at hl 0 rfl) ?_
    obtain ⟨r1, g1, h⟩ := g_b h
    refine kq_i (wMo cJ cZ b mce mfr mun mbe men mov msp mwb mwe mwi mac r1.2 mkn mth) (fun qP qD qF => va_runV (As := []) (rest := []) ⟨hx, hb, hml, hown, hts⟩ (c_X3_no l dC dI cB cI cJ cZ b _ mce mfr mun mbe men mov msp mwb mwe mwi mac mre mkn mth  r1 g1) (kcwV hts kw_1136 kv_X3_no rfl rfl ⟨(Nat.le_of_ble_eq_true rfl), (Nat.le_of_ble_eq_true rfl)⟩) (kpV (A := A) qP hK qD hG (krecv_5 (q0 := 0) hK hP rfl)) rfl rfl hl.1 rfl (lv_room (Nat.le_of_ble_eq_true rfl)) (kdr dgX3_stretch_0 4 9 rfl rfl) ⟨(Nat.le_of_ble_eq_true rfl), (Nat.le_of_ble_eq_true rfl)⟩) hP hD hS hA kFr_Mo (fun H locs hP hD hS br1 => ?_)
    have h := Option.some.inj h
    subst h
    exact kret_i (v := r1.1) hx hb hr rfl hlocks hS hP (kdr dgX3_stretch_0 5 0 rfl rfl)
  have J14 : ∀ (mce : Nat → Int64) (mfr : Int64) (mun : Int64) (mbe : Nat → Int64) (men : Nat → Int64) (mov : Nat → Int32) (msp : Int32) (mwb : Nat → Int64) (mwe : Nat → Int64) (mwi : Int32) (mac : Int32) (mre : Int32) (mkn : Int32) (mth : Int32) (x1 : Int32) (x2 : Int32) (x3 : Int32) (y0 : Int32) (H : Heap) (locs : List Loc), va_P (dC, dI) vwCl (wMo cJ cZ b mce mfr mun mbe men mov msp mwb mwe mwi mac mre mkn mth) H → va_D A (wMo cJ cZ b mce mfr mun mbe men mov msp mwb mwe mwi mac mre mkn mth) → va_S A s.heap H locs → ∀ (ls : Array Slot), lv_has ls 6 (kvA 0 (b 0) (kvI 1 x1 (kvI 2 x2 (kvI 3 x3 kvE)))) → f_X3_stretch_14 mfr mun mbe men msp mac mre x1 x2 x3 y0 = some res → W p l e (headSpec wsX3_stretch (kRm 2 0 0 53)).room s m ([.ref (b 0), .int p0, .int p1, .int p2] : List Value).toArray below meth c H locs 0 0 (MQ below (kI (dC, dI) .int (res.1) (wMo cJ cZ b mce mfr mun mbe (res.2.1) mov msp mwb mwe mwi (res.2.2.1) (res.2.2.2.1) mkn (res.2.2.2.2)) A) ([.ref (b 0), .int p0, .int p1, .int p2] : List Value).toArray s 0 0 A) (F0 m 14 ls [.int y0, .ref (b 0)]) := by
    intro mce mfr mun mbe men mov msp mwb mwe mwi mac mre mkn mth x1 x2 x3 y0 H locs hP hD hS ls hl h
    have h := f_X3_stretch_14_e.symm.trans h
    refine lv_iload_n hx hb (kdr dgX3_stretch_0 0 8 rfl rfl) rfl (lv_at hl 2 rfl) ?_
    refine lv_iload_n hx hb (kdr dgX3_stretch_0 0 9 rfl rfl) rfl (lv_at hl 3 rfl) ?_
    obtain ⟨r1, g1, h⟩ := g_b h
    refine kq_i (wMo cJ cZ b mce mfr mun mbe men mov msp mwb mwe mwi mac mre mkn mth) (fun qP qD qF => va_runS (As := [.int x2, .int x3]) (rest := [.int y0, .ref (b 0)]) ⟨hx, hb, hml, hown, hts⟩ (c_X3_isNoUnit l dC dI cB cI cJ cZ  _  x2 x3 r1 g1) (kcwS hts kw_1152 kv_X3_isNoUnit rfl rfl ⟨(Nat.le_of_ble_eq_true rfl), (Nat.le_of_ble_eq_true rfl)⟩) (kpS (A := A) (kPnil) hK ((kDnil (A := A))) hG) rfl rfl hl.1 rfl (lv_room (Nat.le_of_ble_eq_true rfl)) (kdr dgX3_stretch_0 1 0 rfl rfl) ⟨(Nat.le_of_ble_eq_true rfl), (Nat.le_of_ble_eq_true rfl)⟩) hP hD hS hA kFr_n (fun H locs hP hD hS br1 => ?_)
    obtain ⟨r2, g2, h⟩ := g_b h
    refine kq_i (wMo cJ cZ b mce mfr mun mbe men mov msp mwb mwe mwi mac mre mkn r2.2) (fun qP qD qF => va_runV (As := [.int y0, .int r1]) (rest := []) ⟨hx, hb, hml, hown, hts⟩ (c_X3_isThrown l dC dI cB cI cJ cZ b _ mce mfr mun mbe men mov msp mwb mwe mwi mac mre mkn mth y0 r1 r2 g2) (kcwV hts kw_1126 kv_X3_isThrown rfl rfl ⟨(Nat.le_of_ble_eq_true rfl), (Nat.le_of_ble_eq_true rfl)⟩) (kpV (A := A) qP hK qD hG (krecv_5 (q0 := 0) hK hP rfl)) rfl rfl hl.1 rfl (lv_room (Nat.le_of_ble_eq_true rfl)) (kdr dgX3_stretch_0 1 1 rfl rfl) ⟨(Nat.le_of_ble_eq_true rfl), (Nat.le_of_ble_eq_true rfl)⟩) hP hD hS hA kFr_Mo (fun H locs hP hD hS br2 => ?_)
    refine lv_if_eq (tgt := 27) hx hb (kdr dgX3_stretch_0 1 2 rfl rfl) (by decide) (fun c3 => ?_) (fun c3 => ?_)
    · have h := g_t c3 h
      refine lv_aload_n hx hb (kdr dgX3_stretch_0 1 5 rfl rfl) rfl (lv_at hl 0 rfl) ?_
      refine va_get (D := (dC, dI)) (ci := 5) (v := .ref (b 3)) (C := RX3) (T := TX3) (N := 14) hx hb hts hiX3 hown hK hP 0 rfl rfl 4 (by decide) hw0 (fun _ h9 => h9) rfl (kdr dgX3_stretch_0 1 6 rfl rfl) ?_
      refine lv_iload_n hx hb (kdr dgX3_stretch_0 1 7 rfl rfl) rfl (lv_at hl 1 rfl) ?_
      obtain ⟨z3, h⟩ := g_if h
      refine va_lald hx hb hK hP 3 2 rfl rfl (ix_in z3) (kdr dgX3_stretch_0 1 8 rfl rfl) ?_
      refine lv_iload_n hx hb (kdr dgX3_stretch_0 1 9 rfl rfl) rfl (lv_at hl 2 rfl) ?_
      refine lv_iload_n hx hb (kdr dgX3_stretch_0 2 0 rfl rfl) rfl (lv_at hl 3 rfl) ?_
      obtain ⟨r5, g5, h⟩ := g_b h
      refine kq_l (wMo cJ cZ b mce mfr mun mbe men mov msp mwb mwe mwi mac mre mkn r2.2) (fun qP qD qF => va_runS (As := [.int x2, .int x3]) (rest := [.long (men x1.toNatClampNeg)]) ⟨hx, hb, hml, hown, hts⟩ (c_X3_units l dC dI cB cI cJ cZ  _  x2 x3 r5 g5) (kcwS hts kw_1155 kv_X3_units rfl rfl ⟨(Nat.le_of_ble_eq_true rfl), (Nat.le_of_ble_eq_true rfl)⟩) (kpS (A := A) (kPnil) hK ((kDnil (A := A))) hG) rfl rfl hl.1 rfl (lv_room (Nat.le_of_ble_eq_true rfl)) (kdr dgX3_stretch_0 2 1 rfl rfl) ⟨(Nat.le_of_ble_eq_true rfl), (Nat.le_of_ble_eq_true rfl)⟩) hP hD hS hA kFr_n (fun H locs hP hD hS => ?_)
      refine lv_ladd hx hb (kdr dgX3_stretch_0 2 2 rfl rfl) ?_
      refine lv_lstore (lv' := (kvJ 4 ((men x1.toNatClampNeg) + r5) (kvA 0 (b 0) (kvI 1 x1 (kvI 2 x2 (kvI 3 x3 kvE)))))) hx hb (kdr dgX3_stretch_0 2 3 rfl rfl) hl (by decide) rfl (fun ls hl => ?_)
      refine lv_lload hx hb (kdr dgX3_stretch_0 2 4 rfl rfl) (lv_at hl 0 rfl) ?_
      refine lv_aload_n hx hb (kdr dgX3_stretch_0 2 5 rfl rfl) rfl (lv_at hl 1 rfl) ?_
      refine va_get (D := (dC, dI)) (ci := 5) (v := .ref (b 2)) (C := RX3) (T := TX3) (N := 14) hx hb hts hiX3 hown hK hP 0 rfl rfl 3 (by decide) hw1 (fun _ h9 => h9) rfl (kdr dgX3_stretch_0 2 6 rfl rfl) ?_
      refine lv_iload_n hx hb (kdr dgX3_stretch_0 2 7 rfl rfl) rfl (lv_at hl 2 rfl) ?_
      refine va_lald hx hb hK hP 2 2 rfl rfl (ix_in z3) (kdr dgX3_stretch_0 2 8 rfl rfl) ?_
      refine kl_le (pc := 49) (tgt := 84) hx hb (kdr dgX3_stretch_0 2 9 rfl rfl) (kdr dgX3_stretch_0 3 0 rfl rfl) (by decide) (fun c6 => ?_) (fun c6 => ?_)
      · have h := g_t c6 h
        exact J84 mce mfr mun mbe men mov msp mwb mwe mwi mac mre mkn r2.2 _ _ hP hD hS ls (lv_sub hl [1] rfl) h
      · have h := g_f c6 h
        refine lv_aload_n hx hb (kdr dgX3_stretch_0 3 1 rfl rfl) rfl (lv_at hl 1 rfl) ?_
        refine lv_aload_n hx hb (kdr dgX3_stretch_0 3 2 rfl rfl) rfl (lv_at hl 1 rfl) ?_
        refine va_get (D := (dC, dI)) (ci := 5) (v := .ref (b 2)) (C := RX3) (T := TX3) (N := 14) hx hb hts hiX3 hown hK hP 0 rfl rfl 3 (by decide) hw1 (fun _ h9 => h9) rfl (kdr dgX3_stretch_0 3 3 rfl rfl) ?_
        refine lv_iload_n hx hb (kdr dgX3_stretch_0 3 4 rfl rfl) rfl (lv_at hl 2 rfl) ?_
        refine va_lald hx hb hK hP 2 2 rfl rfl (ix_in z3) (kdr dgX3_stretch_0 3 5 rfl rfl) ?_
        refine lv_lload hx hb (kdr dgX3_stretch_0 3 6 rfl rfl) (lv_at hl 0 rfl) ?_
        obtain ⟨r7, g7, h⟩ := g_b h
        refine kq_i (wMo cJ cZ b mce mfr mun mbe men mov msp mwb mwe mwi mac mre mkn r2.2) (fun qP qD qF => va_runV (As := [.long (mbe x1.toNatClampNeg), .long ((men x1.toNatClampNeg) + r5)]) (rest := []) ⟨hx, hb, hml, hown, hts⟩ (c_X3_isIn l dC dI cB cI cJ cZ b _ mce mfr mun mbe men mov msp mwb mwe mwi mac mre mkn r2.2 (mbe x1.toNatClampNeg) ((men x1.toNatClampNeg) + r5) r7 g7) (kcwV hts kw_1200 kv_X3_isIn rfl rfl ⟨(Nat.le_of_ble_eq_true rfl), (Nat.le_of_ble_eq_true rfl)⟩) (kpV (A := A) qP hK qD hG (krecv_5 (q0 := 0) hK hP rfl)) rfl rfl hl.1 rfl (lv_room (Nat.le_of_ble_eq_true rfl)) (kdr dgX3_stretch_0 3 7 rfl rfl) ⟨(Nat.le_of_ble_eq_true rfl), (Nat.le_of_ble_eq_true rfl)⟩) hP hD hS hA kFr_Mo (fun H locs hP hD hS br7 => ?_)
        refine lv_if_eq (tgt := 84) hx hb (kdr dgX3_stretch_0 3 8 rfl rfl) (by decide) (fun c8 => ?_) (fun c8 => ?_)
        · have h := g_t c8 h
          exact J84 mce mfr mun mbe men mov msp mwb mwe mwi mac mre mkn r2.2 _ _ hP hD hS ls (lv_sub hl [1] rfl) h
        · have h := g_f c8 h
          refine lv_aload_n hx hb (kdr dgX3_stretch_0 3 9 rfl rfl) rfl (lv_at hl 1 rfl) ?_
          refine lv_aload_n hx hb (kdr dgX3_stretch_0 4 0 rfl rfl) rfl (lv_at hl 1 rfl) ?_
          refine va_get (D := (dC, dI)) (ci := 5) (v := .ref (b 2)) (C := RX3) (T := TX3) (N := 14) hx hb hts hiX3 hown hK hP 0 rfl rfl 3 (by decide) hw1 (fun _ h9 => h9) rfl (kdr dgX3_stretch_0 4 1 rfl rfl) ?_
          refine lv_iload_n hx hb (kdr dgX3_stretch_0 4 2 rfl rfl) rfl (lv_at hl 2 rfl) ?_
          refine va_lald hx hb hK hP 2 2 rfl rfl (ix_in z3) (kdr dgX3_stretch_0 4 3 rfl rfl) ?_
          refine lv_lload hx hb (kdr dgX3_stretch_0 4 4 rfl rfl) (lv_at hl 0 rfl) ?_
          refine lv_iload_n hx hb (kdr dgX3_stretch_0 4 5 rfl rfl) rfl (lv_at hl 2 rfl) ?_
          obtain ⟨r9, g9, h⟩ := g_b h
          refine kq_i (wMo cJ cZ b mce mfr mun mbe men mov msp mwb mwe mwi mac mre mkn r2.2) (fun qP qD qF => va_runV (As := [.long (mbe x1.toNatClampNeg), .long ((men x1.toNatClampNeg) + r5), .int x1]) (rest := []) ⟨hx, hb, hml, hown, hts⟩ (c_X3_meetsSome l dC dI cB cI cJ cZ b _ mce mfr mun mbe men mov msp mwb mwe mwi mac mre mkn r2.2 (mbe x1.toNatClampNeg) ((men x1.toNatClampNeg) + r5) x1 r9 g9) (kcwV hts kw_1204 kv_X3_meetsSome rfl rfl ⟨(Nat.le_of_ble_eq_true rfl), (Nat.le_of_ble_eq_true rfl)⟩) (kpV (A := A) qP hK qD hG (krecv_5 (q0 := 0) hK hP rfl)) rfl rfl hl.1 rfl (lv_room (Nat.le_of_ble_eq_true rfl)) (kdr dgX3_stretch_0 4 6 rfl rfl) ⟨(Nat.le_of_ble_eq_true rfl), (Nat.le_of_ble_eq_true rfl)⟩) hP hD hS hA kFr_Mo (fun H locs hP hD hS br9 => ?_)
          refine lv_if_eq (tgt := 89) hx hb (kdr dgX3_stretch_0 4 7 rfl rfl) (by decide) (fun c10 => ?_) (fun c10 => ?_)
          · have h := g_t c10 h
            refine lv_aload_n hx hb (kdr dgX3_stretch_0 5 1 rfl rfl) rfl (lv_at hl 1 rfl) ?_
            refine va_get (D := (dC, dI)) (ci := 5) (v := .ref (b 3)) (C := RX3) (T := TX3) (N := 14) hx hb hts hiX3 hown hK hP 0 rfl rfl 4 (by decide) hw0 (fun _ h9 => h9) rfl (kdr dgX3_stretch_0 5 2 rfl rfl) ?_
            refine lv_iload_n hx hb (kdr dgX3_stretch_0 5 3 rfl rfl) rfl (lv_at hl 2 rfl) ?_
            refine lv_lload hx hb (kdr dgX3_stretch_0 5 4 rfl rfl) (lv_at hl 0 rfl) ?_
            refine va_last hx hb hK hP hD hS 3 2 rfl rfl (ix_in z3) (kdr dgX3_stretch_0 5 5 rfl rfl) (fun H locs hP hD hS => ?_)
            have hP : va_P (dC, dI) vwCl (wMo cJ cZ b mce mfr mun mbe (vp_updL men x1.toNatClampNeg ((men x1.toNatClampNeg) + r5)) mov msp mwb mwe mwi mac mre mkn r2.2) H := hP
            have hD : va_D A (wMo cJ cZ b mce mfr mun mbe (vp_updL men x1.toNatClampNeg ((men x1.toNatClampNeg) + r5)) mov msp mwb mwe mwi mac mre mkn r2.2) := hD
            refine lv_aload_n hx hb (kdr dgX3_stretch_0 5 6 rfl rfl) rfl (lv_at hl 1 rfl) ?_
            refine lv_aload_n hx hb (kdr dgX3_stretch_0 5 7 rfl rfl) rfl (lv_at hl 1 rfl) ?_
            refine va_get (D := (dC, dI)) (ci := 5) (v := .ref (b 3)) (C := RX3) (T := TX3) (N := 14) hx hb hts hiX3 hown hK hP 0 rfl rfl 4 (by decide) hw0 (fun _ h9 => h9) rfl (kdr dgX3_stretch_0 5 8 rfl rfl) ?_
            refine lv_aload_n hx hb (kdr dgX3_stretch_0 5 9 rfl rfl) rfl (lv_at hl 1 rfl) ?_
            refine va_get (D := (dC, dI)) (ci := 5) (v := .int msp) (C := RX3) (T := TX3) (N := 14) hx hb hts hiX3 hown hK hP 0 rfl rfl 6 (by decide) hw2 (fun _ h9 => h9) rfl (kdr dgX3_stretch_0 6 0 rfl rfl) ?_
            refine lv_lload hx hb (kdr dgX3_stretch_0 6 1 rfl rfl) (lv_at hl 0 rfl) ?_
            obtain ⟨r11, g11, h⟩ := g_b h
            refine kcall_i (wMo cJ cZ b mce mfr mun mbe (vp_updL men x1.toNatClampNeg ((men x1.toNatClampNeg) + r5)) mov msp mwb mwe mwi mac mre mkn r2.2) (va_runS (As := [.ref (b 3), .int msp, .long ((men x1.toNatClampNeg) + r5)]) (rest := [.ref (b 0)]) ⟨hx, hb, hml, hown, hts⟩ (c_X3_less l dC dI cB cI cJ cZ (b 3) 10 _ (vp_updL men x1.toNatClampNeg ((men x1.toNatClampNeg) + r5)) msp ((men x1.toNatClampNeg) + r5) r11 g11) (kcwS hts kw_1231 kv_X3_less rfl rfl ⟨(Nat.le_of_ble_eq_true rfl), (Nat.le_of_ble_eq_true rfl)⟩) (kpS (A := A) (hP.sub (kIT mk_29 0) (km_f (m := mk_29) rfl rfl)) hK (hD.sub (kIT mk_29 0) (km_nd mk_29) (km_T (m := mk_29) rfl rfl)) hG) rfl rfl hl.1 rfl (lv_room (Nat.le_of_ble_eq_true rfl)) (kdr dgX3_stretch_0 6 2 rfl rfl) ⟨(Nat.le_of_ble_eq_true rfl), (Nat.le_of_ble_eq_true rfl)⟩) hP hD hS hA (kIT mk_29 0) (kIT mk_30 0) (km_T (m := mk_29) rfl rfl) (km_T (m := mk_29) rfl rfl) [((b 0), .inr (5, [.ref (b 1), .long mfr, .long mun, .ref (b 2), .ref (b 3), .ref (b 4), .int msp, .ref (b 5), .ref (b 6), .int mwi, .int mac, .int mre, .int mkn, .int r2.2])), ((b 1), .inl (cJ, 4, .inr (.inl mce))), ((b 2), .inl (cJ, 10, .inr (.inl mbe))), ((b 4), .inl (cZ, 10, .inl mov)), ((b 5), .inl (cJ, 8, .inr (.inl mwb))), ((b 6), .inl (cJ, 8, .inr (.inl mwe)))] (km_T (m := mk_30) rfl rfl) (km_T (m := mk_30) rfl rfl) (km_cov (m := mk_29) (n := mk_30) rfl rfl) (km_dis (m := mk_29) (n := mk_30) rfl) rfl (fun H locs hP hD hS br11 => ?_)
            obtain ⟨r12, g12, h⟩ := g_b h
            refine kq_i (wMo cJ cZ b mce mfr mun mbe (vp_updL men x1.toNatClampNeg ((men x1.toNatClampNeg) + r5)) mov msp mwb mwe mwi r12.2 mre mkn r2.2) (fun qP qD qF => va_runV (As := [.int r11]) (rest := []) ⟨hx, hb, hml, hown, hts⟩ (c_X3_done l dC dI cB cI cJ cZ b _ mce mfr mun mbe (vp_updL men x1.toNatClampNeg ((men x1.toNatClampNeg) + r5)) mov msp mwb mwe mwi mac mre mkn r2.2 r11 r12 g12) (kcwV hts kw_1144 kv_X3_done rfl rfl ⟨(Nat.le_of_ble_eq_true rfl), (Nat.le_of_ble_eq_true rfl)⟩) (kpV (A := A) qP hK qD hG (krecv_5 (q0 := 0) hK hP rfl)) rfl rfl hl.1 rfl (lv_room (Nat.le_of_ble_eq_true rfl)) (kdr dgX3_stretch_0 6 3 rfl rfl) ⟨(Nat.le_of_ble_eq_true rfl), (Nat.le_of_ble_eq_true rfl)⟩) hP hD hS hA kFr_Mo (fun H locs hP hD hS br12 => ?_)
            have h := Option.some.inj h
            subst h
            exact kret_i (v := r12.1) hx hb hr rfl hlocks hS hP (kdr dgX3_stretch_0 6 4 rfl rfl)
          · have h := g_f c10 h
            exact J84 mce mfr mun mbe men mov msp mwb mwe mwi mac mre mkn r2.2 _ _ hP hD hS ls (lv_sub hl [1] rfl) h
    · have h := g_f c3 h
      refine lv_iconst (v := 0) hx hb (kdr dgX3_stretch_0 1 3 rfl rfl) (by decide) ?_
      have h := Option.some.inj h
      subst h
      exact kret_i (v := 0) hx hb hr rfl hlocks hS hP (kdr dgX3_stretch_0 1 4 rfl rfl)
  have h := f_X3_stretch_e.symm.trans hf
  refine lv_aload_n hx hb (kdr dgX3_stretch_0 0 0 rfl rfl) rfl (lv_at hl 0 rfl) ?_
  refine lv_aload_n hx hb (kdr dgX3_stretch_0 0 1 rfl rfl) rfl (lv_at hl 0 rfl) ?_
  refine lv_iload_n hx hb (kdr dgX3_stretch_0 0 2 rfl rfl) rfl (lv_at hl 1 rfl) ?_
  obtain ⟨r1, g1, h⟩ := g_b h
  refine kq_i (wMo cJ cZ b mce mfr mun mbe men mov msp mwb mwe mwi mac mre mkn mth) (fun qP qD qF => va_runV (As := [.int p0]) (rest := [.ref (b 0)]) ⟨hx, hb, hml, hown, hts⟩ (c_X3_isSpan l dC dI cB cI cJ cZ b _ mce mfr mun mbe men mov msp mwb mwe mwi mac mre mkn mth p0 r1 g1) (kcwV hts kw_1219 kv_X3_isSpan rfl rfl ⟨(Nat.le_of_ble_eq_true rfl), (Nat.le_of_ble_eq_true rfl)⟩) (kpV (A := A) qP hK qD hG (krecv_5 (q0 := 0) hK hP rfl)) rfl rfl hl.1 rfl (lv_room (Nat.le_of_ble_eq_true rfl)) (kdr dgX3_stretch_0 0 3 rfl rfl) ⟨(Nat.le_of_ble_eq_true rfl), (Nat.le_of_ble_eq_true rfl)⟩) hP hD hS hA kFr_Mo (fun H locs hP hD hS br1 => ?_)
  refine lv_if_ne (tgt := 13) hx hb (kdr dgX3_stretch_0 0 4 rfl rfl) (by decide) (fun c2 => ?_) (fun c2 => ?_)
  · have h := g_f c2 h
    refine lv_iconst (v := 0) hx hb (kdr dgX3_stretch_0 0 7 rfl rfl) (by decide) ?_
    exact J14 mce mfr mun mbe men mov msp mwb mwe mwi mac mre mkn mth p0 p1 p2 0 _ _ hP hD hS ls (lv_sub hl [0, 1, 2, 3] rfl) h
  · have h := g_t c2 h
    refine lv_iconst (v := 1) hx hb (kdr dgX3_stretch_0 0 5 rfl rfl) (by decide) ?_
    refine lv_goto (tgt := 14) hx hb (kdr dgX3_stretch_0 0 6 rfl rfl) (by decide) ?_
    exact J14 mce mfr mun mbe men mov msp mwb mwe mwi mac mre mkn mth p0 p1 p2 1 _ _ hP hD hS ls (lv_sub hl [0, 1, 2, 3] rfl) h
noncomputable abbrev wsX3_fit : List Cond := kWs yX3_fit cX3_fit 13 (some .int)
noncomputable def f_X3_fit_210 (mce : Nat → Int64) (mac : Int32) (mre : Int32) (mth : Int32) (y0 : Int32) : Option ((Int32) × (Nat → Int64) × (Int32) × (Int32) × (Int32)) :=
  (f_X3_done mac y0).bind fun r1 =>
  some (r1.1, mce, r1.2, mre, mth)
theorem f_X3_fit_210_e {mce : Nat → Int64} {mac : Int32} {mre : Int32} {mth : Int32} {y0 : Int32} : f_X3_fit_210 mce mac mre mth y0 =
  (f_X3_done mac y0).bind fun r1 =>
  some (r1.1, mce, r1.2, mre, mth) := rfl
noncomputable def f_X3_fit_188 (mce : Nat → Int64) (mac : Int32) (mre : Int32) (mth : Int32) (x4 : Int32) (x10 : Int64) (y0 : Int32) : Option ((Int32) × (Nat → Int64) × (Int32) × (Int32) × (Int32)) :=
  if ix x4 4 then
    if y0 = 0 then
      f_X3_fit_210 (vp_updL mce x4.toNatClampNeg x10) mac mre mth 0
    else
      f_X3_fit_210 (vp_updL mce x4.toNatClampNeg x10) mac mre mth 1
  else none
theorem f_X3_fit_188_e {mce : Nat → Int64} {mac : Int32} {mre : Int32} {mth : Int32} {x4 : Int32} {x10 : Int64} {y0 : Int32} : f_X3_fit_188 mce mac mre mth x4 x10 y0 =
  if ix x4 4 then
    if y0 = 0 then
      f_X3_fit_210 (vp_updL mce x4.toNatClampNeg x10) mac mre mth 0
    else
      f_X3_fit_210 (vp_updL mce x4.toNatClampNeg x10) mac mre mth 1
  else none := rfl
noncomputable def f_X3_fit_86 : Nat → (Nat → Int64) → (Int64) → (Int64) → (Nat → Int64) → (Nat → Int64) → (Int32) → (Int32) → (Int32) → (Int32) → (Int32) → (Int64) → (Int64) → (Int32) → (Int64) → (Int32) → Option ((Int32) × (Nat → Int64) × (Int32) × (Int32) × (Int32))
  | 0, _, _, _, _, _, _, _, _, _, _, _, _, _, _, _ => none
  | n + 1, mce, mfr, mun, mbe, men, msp, mac, mre, mth, x4, x5, x7, x9, x10, x12 =>
    if msp ≤ x12 then
      if x9 = 0 then
        (f_X3_no mre).bind fun r3 =>
        some (r3.1, mce, mac, r3.2, mth)
      else
        if ix x4 4 then
          if (mce x4.toNatClampNeg) = x10 then
            f_X3_fit_188 mce mac mre mth x4 x10 0
          else
            f_X3_fit_188 mce mac mre mth x4 x10 1
        else none
    else
      if ix x12 10 then
        if (men x12.toNatClampNeg) < x7 then
          f_X3_fit_86 n mce mfr mun mbe men msp mac mre mth x4 x5 x7 x9 x10 (x12 + 1)
        else
          (f_X3_fits mfr mun mbe men msp (men x12.toNatClampNeg) x5).bind fun r4 =>
          if r4 = 0 then
            f_X3_fit_86 n mce mfr mun mbe men msp mac mre mth x4 x5 x7 x9 x10 (x12 + 1)
          else
            if x9 = 0 then
              f_X3_fit_86 n mce mfr mun mbe men msp mac mre mth x4 x5 x7 1 (men x12.toNatClampNeg) (x12 + 1)
            else
              if x10 ≤ (men x12.toNatClampNeg) then
                f_X3_fit_86 n mce mfr mun mbe men msp mac mre mth x4 x5 x7 x9 x10 (x12 + 1)
              else
                f_X3_fit_86 n mce mfr mun mbe men msp mac mre mth x4 x5 x7 1 (men x12.toNatClampNeg) (x12 + 1)
      else none
theorem f_X3_fit_86_0 {mce : Nat → Int64} {mfr : Int64} {mun : Int64} {mbe : Nat → Int64} {men : Nat → Int64} {msp : Int32} {mac : Int32} {mre : Int32} {mth : Int32} {x4 : Int32} {x5 : Int64} {x7 : Int64} {x9 : Int32} {x10 : Int64} {x12 : Int32} : f_X3_fit_86 0 mce mfr mun mbe men msp mac mre mth x4 x5 x7 x9 x10 x12 = none := rfl
theorem f_X3_fit_86_s {n : Nat} {mce : Nat → Int64} {mfr : Int64} {mun : Int64} {mbe : Nat → Int64} {men : Nat → Int64} {msp : Int32} {mac : Int32} {mre : Int32} {mth : Int32} {x4 : Int32} {x5 : Int64} {x7 : Int64} {x9 : Int32} {x10 : Int64} {x12 : Int32} : f_X3_fit_86 (n + 1) mce mfr mun mbe men msp mac mre mth x4 x5 x7 x9 x10 x12 =
  if msp ≤ x12 then
    if x9 = 0 then
      (f_X3_no mre).bind fun r3 =>
      some (r3.1, mce, mac, r3.2, mth)
    else
      if ix x4 4 then
        if (mce x4.toNatClampNeg) = x10 then
          f_X3_fit_188 mce mac mre mth x4 x10 0
        else
          f_X3_fit_188 mce mac mre mth x4 x10 1
      else none
  else
    if ix x12 10 then
      if (men x12.toNatClampNeg) < x7 then
        f_X3_fit_86 n mce mfr mun mbe men msp mac mre mth x4 x5 x7 x9 x10 (x12 + 1)
      else
        (f_X3_fits mfr mun mbe men msp (men x12.toNatClampNeg) x5).bind fun r4 =>
        if r4 = 0 then
          f_X3_fit_86 n mce mfr mun mbe men msp mac mre mth x4 x5 x7 x9 x10 (x12 + 1)
        else
          if x9 = 0 then
            f_X3_fit_86 n mce mfr mun mbe men msp mac mre mth x4 x5 x7 1 (men x12.toNatClampNeg) (x12 + 1)
          else
            if x10 ≤ (men x12.toNatClampNeg) then
              f_X3_fit_86 n mce mfr mun mbe men msp mac mre mth x4 x5 x7 x9 x10 (x12 + 1)
            else
              f_X3_fit_86 n mce mfr mun mbe men msp mac mre mth x4 x5 x7 1 (men x12.toNatClampNeg) (x12 + 1)
    else none := rfl
noncomputable def f_X3_fit_39 (mce : Nat → Int64) (mfr : Int64) (mun : Int64) (mbe : Nat → Int64) (men : Nat → Int64) (msp : Int32) (mac : Int32) (mre : Int32) (x1 : Int32) (x2 : Int32) (x3 : Int32) (x4 : Int32) (y0 : Int32) (y1 : Int32) : Option ((Int32) × (Nat → Int64) × (Int32) × (Int32) × (Int32)) :=
  (f_X3_isThrown y1 y0).bind fun r1 =>
  if r1.1 = 0 then
    (f_X3_units x2 x3).bind fun r3 =>
    if ix x1 4 then
      (f_X3_fits mfr mun mbe men msp (if mfr < (mce x1.toNatClampNeg) then mce x1.toNatClampNeg else mfr) r3).bind fun r5 =>
      f_X3_fit_86 24 mce mfr mun mbe men msp mac mre r1.2 x4 r3 (if mfr < (mce x1.toNatClampNeg) then mce x1.toNatClampNeg else mfr) r5 (if mfr < (mce x1.toNatClampNeg) then mce x1.toNatClampNeg else mfr) 0
    else none
  else
    some (0, mce, mac, mre, r1.2)
theorem f_X3_fit_39_e {mce : Nat → Int64} {mfr : Int64} {mun : Int64} {mbe : Nat → Int64} {men : Nat → Int64} {msp : Int32} {mac : Int32} {mre : Int32} {x1 : Int32} {x2 : Int32} {x3 : Int32} {x4 : Int32} {y0 : Int32} {y1 : Int32} : f_X3_fit_39 mce mfr mun mbe men msp mac mre x1 x2 x3 x4 y0 y1 =
  (f_X3_isThrown y1 y0).bind fun r1 =>
  if r1.1 = 0 then
    (f_X3_units x2 x3).bind fun r3 =>
    if ix x1 4 then
      (f_X3_fits mfr mun mbe men msp (if mfr < (mce x1.toNatClampNeg) then mce x1.toNatClampNeg else mfr) r3).bind fun r5 =>
      f_X3_fit_86 24 mce mfr mun mbe men msp mac mre r1.2 x4 r3 (if mfr < (mce x1.toNatClampNeg) then mce x1.toNatClampNeg else mfr) r5 (if mfr < (mce x1.toNatClampNeg) then mce x1.toNatClampNeg else mfr) 0
    else none
  else
    some (0, mce, mac, mre, r1.2) := rfl
noncomputable def f_X3_fit_34 (mce : Nat → Int64) (mfr : Int64) (mun : Int64) (mbe : Nat → Int64) (men : Nat → Int64) (msp : Int32) (mac : Int32) (mre : Int32) (x1 : Int32) (x2 : Int32) (x3 : Int32) (x4 : Int32) (y0 : Int32) : Option ((Int32) × (Nat → Int64) × (Int32) × (Int32) × (Int32)) :=
  f_X3_fit_39 mce mfr mun mbe men msp mac mre x1 x2 x3 x4 1 y0
theorem f_X3_fit_34_e {mce : Nat → Int64} {mfr : Int64} {mun : Int64} {mbe : Nat → Int64} {men : Nat → Int64} {msp : Int32} {mac : Int32} {mre : Int32} {x1 : Int32} {x2 : Int32} {x3 : Int32} {x4 : Int32} {y0 : Int32} : f_X3_fit_34 mce mfr mun mbe men msp mac mre x1 x2 x3 x4 y0 =
  f_X3_fit_39 mce mfr mun mbe men msp mac mre x1 x2 x3 x4 1 y0 := rfl
noncomputable def f_X3_fit_21 (mce : Nat → Int64) (mfr : Int64) (mun : Int64) (mbe : Nat → Int64) (men : Nat → Int64) (msp : Int32) (mac : Int32) (mre : Int32) (x1 : Int32) (x2 : Int32) (x3 : Int32) (x4 : Int32) (y0 : Int32) : Option ((Int32) × (Nat → Int64) × (Int32) × (Int32) × (Int32)) :=
  (f_X3_isNoUnit x2 x3).bind fun r1 =>
  if r1 = 0 then
    if 1 ≤ x3 then
      f_X3_fit_39 mce mfr mun mbe men msp mac mre x1 x2 x3 x4 0 y0
    else
      f_X3_fit_34 mce mfr mun mbe men msp mac mre x1 x2 x3 x4 y0
  else
    f_X3_fit_34 mce mfr mun mbe men msp mac mre x1 x2 x3 x4 y0
theorem f_X3_fit_21_e {mce : Nat → Int64} {mfr : Int64} {mun : Int64} {mbe : Nat → Int64} {men : Nat → Int64} {msp : Int32} {mac : Int32} {mre : Int32} {x1 : Int32} {x2 : Int32} {x3 : Int32} {x4 : Int32} {y0 : Int32} : f_X3_fit_21 mce mfr mun mbe men msp mac mre x1 x2 x3 x4 y0 =
  (f_X3_isNoUnit x2 x3).bind fun r1 =>
  if r1 = 0 then
    if 1 ≤ x3 then
      f_X3_fit_39 mce mfr mun mbe men msp mac mre x1 x2 x3 x4 0 y0
    else
      f_X3_fit_34 mce mfr mun mbe men msp mac mre x1 x2 x3 x4 y0
  else
    f_X3_fit_34 mce mfr mun mbe men msp mac mre x1 x2 x3 x4 y0 := rfl
noncomputable def f_X3_fit_16 (mce : Nat → Int64) (mfr : Int64) (mun : Int64) (mbe : Nat → Int64) (men : Nat → Int64) (msp : Int32) (mac : Int32) (mre : Int32) (x1 : Int32) (x2 : Int32) (x3 : Int32) (x4 : Int32) : Option ((Int32) × (Nat → Int64) × (Int32) × (Int32) × (Int32)) :=
  f_X3_fit_21 mce mfr mun mbe men msp mac mre x1 x2 x3 x4 1
theorem f_X3_fit_16_e {mce : Nat → Int64} {mfr : Int64} {mun : Int64} {mbe : Nat → Int64} {men : Nat → Int64} {msp : Int32} {mac : Int32} {mre : Int32} {x1 : Int32} {x2 : Int32} {x3 : Int32} {x4 : Int32} : f_X3_fit_16 mce mfr mun mbe men msp mac mre x1 x2 x3 x4 =
  f_X3_fit_21 mce mfr mun mbe men msp mac mre x1 x2 x3 x4 1 := rfl
noncomputable def f_X3_fit (mce : Nat → Int64) (mfr : Int64) (mun : Int64) (mbe : Nat → Int64) (men : Nat → Int64) (msp : Int32) (mac : Int32) (mre : Int32) (p0 : Int32) (p1 : Int32) (p2 : Int32) (p3 : Int32) : Option ((Int32) × (Nat → Int64) × (Int32) × (Int32) × (Int32)) :=
  (f_X3_is p0).bind fun r1 =>
  if r1 = 0 then
    f_X3_fit_16 mce mfr mun mbe men msp mac mre p0 p1 p2 p3
  else
    (f_X3_is p3).bind fun r3 =>
    if r3 = 0 then
      f_X3_fit_16 mce mfr mun mbe men msp mac mre p0 p1 p2 p3
    else
      f_X3_fit_21 mce mfr mun mbe men msp mac mre p0 p1 p2 p3 0
theorem f_X3_fit_e {mce : Nat → Int64} {mfr : Int64} {mun : Int64} {mbe : Nat → Int64} {men : Nat → Int64} {msp : Int32} {mac : Int32} {mre : Int32} {p0 : Int32} {p1 : Int32} {p2 : Int32} {p3 : Int32} : f_X3_fit mce mfr mun mbe men msp mac mre p0 p1 p2 p3 = 
  (f_X3_is p0).bind fun r1 =>
  if r1 = 0 then
    f_X3_fit_16 mce mfr mun mbe men msp mac mre p0 p1 p2 p3
  else
    (f_X3_is p3).bind fun r3 =>
    if r3 = 0 then
      f_X3_fit_16 mce mfr mun mbe men msp mac mre p0 p1 p2 p3
    else
      f_X3_fit_21 mce mfr mun mbe men msp mac mre p0 p1 p2 p3 0 := rfl
set_option maxHeartbeats 4000000 in
set_option maxRecDepth 100000 in
theorem c_X3_fit (l : Launch) (dC : Nat → ClassId) (dI : Nat → Nat → Nat) (cB cI cJ cZ : ClassId) (b : Nat → Nat) (sz : Nat) (mce : Nat → Int64) (mfr : Int64) (mun : Int64) (mbe : Nat → Int64) (men : Nat → Int64) (mov : Nat → Int32) (msp : Int32) (mwb : Nat → Int64) (mwe : Nat → Int64) (mwi : Int32) (mac : Int32) (mre : Int32) (mkn : Int32) (mth : Int32) (p0 : Int32) (p1 : Int32) (p2 : Int32) (p3 : Int32) (res : (Int32) × (Nat → Int64) × (Int32) × (Int32) × (Int32)) (hf : f_X3_fit mce mfr mun mbe men msp mac mre p0 p1 p2 p3 = some res) : kMi l yX3_fit wsX3_fit (kRm 3 0 0 77) dC dI cB cI cJ cZ [.ref (b 0), .int p0, .int p1, .int p2, .int p3] sz (wMo cJ cZ b mce mfr mun mbe men mov msp mwb mwe mwi mac mre mkn mth) .int (res.1) (wMo cJ cZ b (res.2.1) mfr mun mbe men mov msp mwb mwe mwi (res.2.2.1) (res.2.2.2.1) mkn (res.2.2.2.2)) 0 0 := by
  refine kmet_i (y := yX3_fit) (cc := cX3_fit) (maxL := 13) (ret := (some .int)) RX3 (kvA 0 (b 0) (kvI 1 p0 (kvI 2 p1 (kvI 3 p2 (kvI 4 p3 kvE))))) kpl_X3 rfl rfl (Nat.le_of_ble_eq_true rfl) rfl (fun p e s m below meth c A ls hx hb hr hml hts hown hlocks hP hK hG hD hA hS hl => ?_)
  have hw0 := hts (.fieldLink RX3 7 "SpanbookerModel" "cells" "[J") (List.mem_cons_of_mem _ kw_1072)
  have hw1 := hts (.fieldLink RX3 53 "SpanbookerModel" "from" "J") (List.mem_cons_of_mem _ kw_1073)
  have hw2 := hts (.methodLink RX3 175 Lib.MathLoose.max_long.x) (List.mem_cons_of_mem _ kw_1242)
  have hw3 := hts (.static Lib.MathLoose.max_long.x) (List.mem_cons_of_mem _ kw_638)
  have hw4 := hts (.initialized "java/lang/Math") (List.mem_cons_of_mem _ kw_66)
  have hw5 := hts (.code Lib.MathLoose.max_long.x Lib.MathLoose.max_long.code 4 (some .long)) (List.mem_cons_of_mem _ kw_639)
  have hw6 := hts (.fieldLink RX3 56 "SpanbookerModel" "spans" "I") (List.mem_cons_of_mem _ kw_1078)
  have hw7 := hts (.fieldLink RX3 22 "SpanbookerModel" "ends" "[J") (List.mem_cons_of_mem _ kw_1076)
  have hiX3 : ∀ w ∈ u_ws RX3 TX3 14, w ∈ wsX3_fit := fun w h => List.mem_cons_of_mem _ (ku_X3 w h)
  have J210 : ∀ (mce : Nat → Int64) (mfr : Int64) (mun : Int64) (mbe : Nat → Int64) (men : Nat → Int64) (mov : Nat → Int32) (msp : Int32) (mwb : Nat → Int64) (mwe : Nat → Int64) (mwi : Int32) (mac : Int32) (mre : Int32) (mkn : Int32) (mth : Int32) (y0 : Int32) (H : Heap) (locs : List Loc), va_P (dC, dI) vwCl (wMo cJ cZ b mce mfr mun mbe men mov msp mwb mwe mwi mac mre mkn mth) H → va_D A (wMo cJ cZ b mce mfr mun mbe men mov msp mwb mwe mwi mac mre mkn mth) → va_S A s.heap H locs → ∀ (ls : Array Slot), lv_has ls 13 kvE → f_X3_fit_210 mce mac mre mth y0 = some res → W p l e (headSpec wsX3_fit (kRm 3 0 0 77)).room s m ([.ref (b 0), .int p0, .int p1, .int p2, .int p3] : List Value).toArray below meth c H locs 0 0 (MQ below (kI (dC, dI) .int (res.1) (wMo cJ cZ b (res.2.1) mfr mun mbe men mov msp mwb mwe mwi (res.2.2.1) (res.2.2.2.1) mkn (res.2.2.2.2)) A) ([.ref (b 0), .int p0, .int p1, .int p2, .int p3] : List Value).toArray s 0 0 A) (F0 m 210 ls [.int y0, .ref (b 0)]) := by
    intro mce mfr mun mbe men mov msp mwb mwe mwi mac mre mkn mth y0 H locs hP hD hS ls hl h
    have h := f_X3_fit_210_e.symm.trans h
    obtain ⟨r1, g1, h⟩ := g_b h
    refine kq_i (wMo cJ cZ b mce mfr mun mbe men mov msp mwb mwe mwi r1.2 mre mkn mth) (fun qP qD qF => va_runV (As := [.int y0]) (rest := []) ⟨hx, hb, hml, hown, hts⟩ (c_X3_done l dC dI cB cI cJ cZ b _ mce mfr mun mbe men mov msp mwb mwe mwi mac mre mkn mth y0 r1 g1) (kcwV hts kw_1144 kv_X3_done rfl rfl ⟨(Nat.le_of_ble_eq_true rfl), (Nat.le_of_ble_eq_true rfl)⟩) (kpV (A := A) qP hK qD hG (krecv_5 (q0 := 0) hK hP rfl)) rfl rfl hl.1 rfl (lv_room (Nat.le_of_ble_eq_true rfl)) (kdr dgX3_fit_194 0 9 rfl rfl) ⟨(Nat.le_of_ble_eq_true rfl), (Nat.le_of_ble_eq_true rfl)⟩) hP hD hS hA kFr_Mo (fun H locs hP hD hS br1 => ?_)
    have h := Option.some.inj h
    subst h
    exact kret_i (v := r1.1) hx hb hr rfl hlocks hS hP (kdr dgX3_fit_194 1 0 rfl rfl)
  have J188 : ∀ (mce : Nat → Int64) (mfr : Int64) (mun : Int64) (mbe : Nat → Int64) (men : Nat → Int64) (mov : Nat → Int32) (msp : Int32) (mwb : Nat → Int64) (mwe : Nat → Int64) (mwi : Int32) (mac : Int32) (mre : Int32) (mkn : Int32) (mth : Int32) (x4 : Int32) (x10 : Int64) (y0 : Int32) (H : Heap) (locs : List Loc), va_P (dC, dI) vwCl (wMo cJ cZ b mce mfr mun mbe men mov msp mwb mwe mwi mac mre mkn mth) H → va_D A (wMo cJ cZ b mce mfr mun mbe men mov msp mwb mwe mwi mac mre mkn mth) → va_S A s.heap H locs → ∀ (ls : Array Slot), lv_has ls 13 (kvA 0 (b 0) (kvI 4 x4 (kvJ 10 x10 kvE))) → f_X3_fit_188 mce mac mre mth x4 x10 y0 = some res → W p l e (headSpec wsX3_fit (kRm 3 0 0 77)).room s m ([.ref (b 0), .int p0, .int p1, .int p2, .int p3] : List Value).toArray below meth c H locs 0 0 (MQ below (kI (dC, dI) .int (res.1) (wMo cJ cZ b (res.2.1) mfr mun mbe men mov msp mwb mwe mwi (res.2.2.1) (res.2.2.2.1) mkn (res.2.2.2.2)) A) ([.ref (b 0), .int p0, .int p1, .int p2, .int p3] : List Value).toArray s 0 0 A) (F0 m 188 ls [.int y0]) := by
    intro mce mfr mun mbe men mov msp mwb mwe mwi mac mre mkn mth x4 x10 y0 H locs hP hD hS ls hl h
    have h := f_X3_fit_188_e.symm.trans h
    refine lv_istore (lv' := (kvI 12 y0 (kvA 0 (b 0) (kvI 4 x4 (kvJ 10 x10 kvE))))) hx hb (kdr dgX3_fit_0 9 7 rfl rfl) hl (by decide) rfl (fun ls hl => ?_)
    refine lv_aload_n hx hb (kdr dgX3_fit_0 9 8 rfl rfl) rfl (lv_at hl 1 rfl) ?_
    refine va_get (D := (dC, dI)) (ci := 5) (v := .ref (b 1)) (C := RX3) (T := TX3) (N := 14) hx hb hts hiX3 hown hK hP 0 rfl rfl 0 (by decide) hw0 (fun _ h9 => h9) rfl (kdr dgX3_fit_0 9 9 rfl rfl) ?_
    refine lv_iload hx hb (kdr dgX3_fit_194 0 0 rfl rfl) (lv_at hl 2 rfl) ?_
    refine lv_lload hx hb (kdr dgX3_fit_194 0 1 rfl rfl) (lv_at hl 3 rfl) ?_
    obtain ⟨z0, h⟩ := g_if h
    refine va_last hx hb hK hP hD hS 1 2 rfl rfl (ix_in z0) (kdr dgX3_fit_194 0 2 rfl rfl) (fun H locs hP hD hS => ?_)
    have hP : va_P (dC, dI) vwCl (wMo cJ cZ b (vp_updL mce x4.toNatClampNeg x10) mfr mun mbe men mov msp mwb mwe mwi mac mre mkn mth) H := hP
    have hD : va_D A (wMo cJ cZ b (vp_updL mce x4.toNatClampNeg x10) mfr mun mbe men mov msp mwb mwe mwi mac mre mkn mth) := hD
    refine lv_aload_n hx hb (kdr dgX3_fit_194 0 3 rfl rfl) rfl (lv_at hl 1 rfl) ?_
    refine lv_iload hx hb (kdr dgX3_fit_194 0 4 rfl rfl) (lv_at hl 0 rfl) ?_
    refine lv_if_eq (tgt := 209) hx hb (kdr dgX3_fit_194 0 5 rfl rfl) (by decide) (fun c2 => ?_) (fun c2 => ?_)
    · have h := g_t c2 h
      refine lv_iconst (v := 0) hx hb (kdr dgX3_fit_194 0 8 rfl rfl) (by decide) ?_
      exact J210 (vp_updL mce x4.toNatClampNeg x10) mfr mun mbe men mov msp mwb mwe mwi mac mre mkn mth 0 _ _ hP hD hS ls (lv_sub hl [] rfl) h
    · have h := g_f c2 h
      refine lv_iconst (v := 1) hx hb (kdr dgX3_fit_194 0 6 rfl rfl) (by decide) ?_
      refine lv_goto (tgt := 210) hx hb (kdr dgX3_fit_194 0 7 rfl rfl) (by decide) ?_
      exact J210 (vp_updL mce x4.toNatClampNeg x10) mfr mun mbe men mov msp mwb mwe mwi mac mre mkn mth 1 _ _ hP hD hS ls (lv_sub hl [] rfl) h
  have J86 : ∀ (n : Nat), ∀ (mce : Nat → Int64) (mfr : Int64) (mun : Int64) (mbe : Nat → Int64) (men : Nat → Int64) (mov : Nat → Int32) (msp : Int32) (mwb : Nat → Int64) (mwe : Nat → Int64) (mwi : Int32) (mac : Int32) (mre : Int32) (mkn : Int32) (mth : Int32) (x4 : Int32) (x5 : Int64) (x7 : Int64) (x9 : Int32) (x10 : Int64) (x12 : Int32) (H : Heap) (locs : List Loc), va_P (dC, dI) vwCl (wMo cJ cZ b mce mfr mun mbe men mov msp mwb mwe mwi mac mre mkn mth) H → va_D A (wMo cJ cZ b mce mfr mun mbe men mov msp mwb mwe mwi mac mre mkn mth) → va_S A s.heap H locs → ∀ (ls : Array Slot), lv_has ls 13 (kvA 0 (b 0) (kvI 4 x4 (kvJ 5 x5 (kvJ 7 x7 (kvI 9 x9 (kvJ 10 x10 (kvI 12 x12 kvE))))))) → f_X3_fit_86 n mce mfr mun mbe men msp mac mre mth x4 x5 x7 x9 x10 x12 = some res → W p l e (headSpec wsX3_fit (kRm 3 0 0 77)).room s m ([.ref (b 0), .int p0, .int p1, .int p2, .int p3] : List Value).toArray below meth c H locs 0 0 (MQ below (kI (dC, dI) .int (res.1) (wMo cJ cZ b (res.2.1) mfr mun mbe men mov msp mwb mwe mwi (res.2.2.1) (res.2.2.2.1) mkn (res.2.2.2.2)) A) ([.ref (b 0), .int p0, .int p1, .int p2, .int p3] : List Value).toArray s 0 0 A) (F0 m 86 ls []) := by
    intro n
    induction n with
    | zero =>
      intro mce mfr mun mbe men mov msp mwb mwe mwi mac mre mkn mth x4 x5 x7 x9 x10 x12 H locs hP hD hS ls hl h
      have h := f_X3_fit_86_0.symm.trans h
      cases h
    | succ n ih =>
      intro mce mfr mun mbe men mov msp mwb mwe mwi mac mre mkn mth x4 x5 x7 x9 x10 x12 H locs hP hD hS ls hl h
      have h := f_X3_fit_86_s.symm.trans h
      refine lv_iload hx hb (kdr dgX3_fit_0 4 5 rfl rfl) (lv_at hl 6 rfl) ?_
      refine lv_aload_n hx hb (kdr dgX3_fit_0 4 6 rfl rfl) rfl (lv_at hl 0 rfl) ?_
      refine va_get (D := (dC, dI)) (ci := 5) (v := .int msp) (C := RX3) (T := TX3) (N := 14) hx hb hts hiX3 hown hK hP 0 rfl rfl 6 (by decide) hw6 (fun _ h9 => h9) rfl (kdr dgX3_fit_0 4 7 rfl rfl) ?_
      refine lv_icmp_ge (tgt := 160) hx hb (kdr dgX3_fit_0 4 8 rfl rfl) (by decide) (fun c1 => ?_) (fun c1 => ?_)
      · have h := g_t c1 h
        refine lv_iload hx hb (kdr dgX3_fit_0 8 2 rfl rfl) (lv_at hl 4 rfl) ?_
        refine lv_if_ne (tgt := 170) hx hb (kdr dgX3_fit_0 8 3 rfl rfl) (by decide) (fun c2 => ?_) (fun c2 => ?_)
        · have h := g_f c2 h
          refine lv_aload_n hx hb (kdr dgX3_fit_0 8 7 rfl rfl) rfl (lv_at hl 0 rfl) ?_
          refine va_get (D := (dC, dI)) (ci := 5) (v := .ref (b 1)) (C := RX3) (T := TX3) (N := 14) hx hb hts hiX3 hown hK hP 0 rfl rfl 0 (by decide) hw0 (fun _ h9 => h9) rfl (kdr dgX3_fit_0 8 8 rfl rfl) ?_
          refine lv_iload hx hb (kdr dgX3_fit_0 8 9 rfl rfl) (lv_at hl 1 rfl) ?_
          obtain ⟨z2, h⟩ := g_if h
          refine va_lald hx hb hK hP 1 2 rfl rfl (ix_in z2) (kdr dgX3_fit_0 9 0 rfl rfl) ?_
          refine lv_lload hx hb (kdr dgX3_fit_0 9 1 rfl rfl) (lv_at hl 5 rfl) ?_
          refine kl_eq (pc := 179) (tgt := 187) hx hb (kdr dgX3_fit_0 9 2 rfl rfl) (kdr dgX3_fit_0 9 3 rfl rfl) (by decide) (fun c4 => ?_) (fun c4 => ?_)
          · have h := g_t c4 h
            refine lv_iconst (v := 0) hx hb (kdr dgX3_fit_0 9 6 rfl rfl) (by decide) ?_
            exact J188 mce mfr mun mbe men mov msp mwb mwe mwi mac mre mkn mth x4 x10 0 _ _ hP hD hS ls (lv_sub hl [0, 1, 5] rfl) h
          · have h := g_f c4 h
            refine lv_iconst (v := 1) hx hb (kdr dgX3_fit_0 9 4 rfl rfl) (by decide) ?_
            refine lv_goto (tgt := 188) hx hb (kdr dgX3_fit_0 9 5 rfl rfl) (by decide) ?_
            exact J188 mce mfr mun mbe men mov msp mwb mwe mwi mac mre mkn mth x4 x10 1 _ _ hP hD hS ls (lv_sub hl [0, 1, 5] rfl) h
        · have h := g_t c2 h
          refine lv_aload_n hx hb (kdr dgX3_fit_0 8 4 rfl rfl) rfl (lv_at hl 0 rfl) ?_
          obtain ⟨r3, g3, h⟩ := g_b h
          refine kq_i (wMo cJ cZ b mce mfr mun mbe men mov msp mwb mwe mwi mac r3.2 mkn mth) (fun qP qD qF => va_runV (As := []) (rest := []) ⟨hx, hb, hml, hown, hts⟩ (c_X3_no l dC dI cB cI cJ cZ b _ mce mfr mun mbe men mov msp mwb mwe mwi mac mre mkn mth  r3 g3) (kcwV hts kw_1136 kv_X3_no rfl rfl ⟨(Nat.le_of_ble_eq_true rfl), (Nat.le_of_ble_eq_true rfl)⟩) (kpV (A := A) qP hK qD hG (krecv_5 (q0 := 0) hK hP rfl)) rfl rfl hl.1 rfl (lv_room (Nat.le_of_ble_eq_true rfl)) (kdr dgX3_fit_0 8 5 rfl rfl) ⟨(Nat.le_of_ble_eq_true rfl), (Nat.le_of_ble_eq_true rfl)⟩) hP hD hS hA kFr_Mo (fun H locs hP hD hS br3 => ?_)
          have h := Option.some.inj h
          subst h
          exact kret_i (v := r3.1) hx hb hr rfl hlocks hS hP (kdr dgX3_fit_0 8 6 rfl rfl)
      · have h := g_f c1 h
        refine lv_aload_n hx hb (kdr dgX3_fit_0 4 9 rfl rfl) rfl (lv_at hl 0 rfl) ?_
        refine va_get (D := (dC, dI)) (ci := 5) (v := .ref (b 3)) (C := RX3) (T := TX3) (N := 14) hx hb hts hiX3 hown hK hP 0 rfl rfl 4 (by decide) hw7 (fun _ h9 => h9) rfl (kdr dgX3_fit_0 5 0 rfl rfl) ?_
        refine lv_iload hx hb (kdr dgX3_fit_0 5 1 rfl rfl) (lv_at hl 6 rfl) ?_
        obtain ⟨z1, h⟩ := g_if h
        refine va_lald hx hb hK hP 3 2 rfl rfl (ix_in z1) (kdr dgX3_fit_0 5 2 rfl rfl) ?_
        refine lv_lload hx hb (kdr dgX3_fit_0 5 3 rfl rfl) (lv_at hl 3 rfl) ?_
        refine kl_lt (pc := 104) (tgt := 154) hx hb (kdr dgX3_fit_0 5 4 rfl rfl) (kdr dgX3_fit_0 5 5 rfl rfl) (by decide) (fun c3 => ?_) (fun c3 => ?_)
        · have h := g_t c3 h
          refine lv_iinc (v := x12 + 1) (lv' := (kvI 12 (x12 + 1) (kvA 0 (b 0) (kvI 4 x4 (kvJ 5 x5 (kvJ 7 x7 (kvI 9 x9 (kvJ 10 x10 kvE)))))))) hx hb (kdr dgX3_fit_0 8 0 rfl rfl) hl (k := 6) rfl rfl (by decide) rfl (fun ls hl => ?_)
          refine lv_goto (tgt := 86) hx hb (kdr dgX3_fit_0 8 1 rfl rfl) (by decide) ?_
          exact ih mce mfr mun mbe men mov msp mwb mwe mwi mac mre mkn mth x4 x5 x7 x9 x10 (x12 + 1) _ _ hP hD hS ls (lv_sub hl [1, 2, 3, 4, 5, 6, 0] rfl) h
        · have h := g_f c3 h
          refine lv_aload_n hx hb (kdr dgX3_fit_0 5 6 rfl rfl) rfl (lv_at hl 0 rfl) ?_
          refine lv_aload_n hx hb (kdr dgX3_fit_0 5 7 rfl rfl) rfl (lv_at hl 0 rfl) ?_
          refine va_get (D := (dC, dI)) (ci := 5) (v := .ref (b 3)) (C := RX3) (T := TX3) (N := 14) hx hb hts hiX3 hown hK hP 0 rfl rfl 4 (by decide) hw7 (fun _ h9 => h9) rfl (kdr dgX3_fit_0 5 8 rfl rfl) ?_
          refine lv_iload hx hb (kdr dgX3_fit_0 5 9 rfl rfl) (lv_at hl 6 rfl) ?_
          refine va_lald hx hb hK hP 3 2 rfl rfl (ix_in z1) (kdr dgX3_fit_0 6 0 rfl rfl) ?_
          refine lv_lload hx hb (kdr dgX3_fit_0 6 1 rfl rfl) (lv_at hl 2 rfl) ?_
          obtain ⟨r4, g4, h⟩ := g_b h
          refine kq_i (wMo cJ cZ b mce mfr mun mbe men mov msp mwb mwe mwi mac mre mkn mth) (fun qP qD qF => va_runV (As := [.long (men x12.toNatClampNeg), .long x5]) (rest := []) ⟨hx, hb, hml, hown, hts⟩ (c_X3_fits l dC dI cB cI cJ cZ b _ mce mfr mun mbe men mov msp mwb mwe mwi mac mre mkn mth (men x12.toNatClampNeg) x5 r4 g4) (kcwV hts kw_1243 kv_X3_fits rfl rfl ⟨(Nat.le_of_ble_eq_true rfl), (Nat.le_of_ble_eq_true rfl)⟩) (kpV (A := A) qP hK qD hG (krecv_5 (q0 := 0) hK hP rfl)) rfl rfl hl.1 rfl (lv_room (Nat.le_of_ble_eq_true rfl)) (kdr dgX3_fit_0 6 2 rfl rfl) ⟨(Nat.le_of_ble_eq_true rfl), (Nat.le_of_ble_eq_true rfl)⟩) hP hD hS hA kFr_Mo (fun H locs hP hD hS br4 => ?_)
          refine lv_if_eq (tgt := 154) hx hb (kdr dgX3_fit_0 6 3 rfl rfl) (by decide) (fun c5 => ?_) (fun c5 => ?_)
          · have h := g_t c5 h
            refine lv_iinc (v := x12 + 1) (lv' := (kvI 12 (x12 + 1) (kvA 0 (b 0) (kvI 4 x4 (kvJ 5 x5 (kvJ 7 x7 (kvI 9 x9 (kvJ 10 x10 kvE)))))))) hx hb (kdr dgX3_fit_0 8 0 rfl rfl) hl (k := 6) rfl rfl (by decide) rfl (fun ls hl => ?_)
            refine lv_goto (tgt := 86) hx hb (kdr dgX3_fit_0 8 1 rfl rfl) (by decide) ?_
            exact ih mce mfr mun mbe men mov msp mwb mwe mwi mac mre mkn mth x4 x5 x7 x9 x10 (x12 + 1) _ _ hP hD hS ls (lv_sub hl [1, 2, 3, 4, 5, 6, 0] rfl) h
          · have h := g_f c5 h
            refine lv_iload hx hb (kdr dgX3_fit_0 6 4 rfl rfl) (lv_at hl 4 rfl) ?_
            refine lv_if_eq (tgt := 142) hx hb (kdr dgX3_fit_0 6 5 rfl rfl) (by decide) (fun c6 => ?_) (fun c6 => ?_)
            · have h := g_t c6 h
              refine lv_aload_n hx hb (kdr dgX3_fit_0 7 3 rfl rfl) rfl (lv_at hl 0 rfl) ?_
              refine va_get (D := (dC, dI)) (ci := 5) (v := .ref (b 3)) (C := RX3) (T := TX3) (N := 14) hx hb hts hiX3 hown hK hP 0 rfl rfl 4 (by decide) hw7 (fun _ h9 => h9) rfl (kdr dgX3_fit_0 7 4 rfl rfl) ?_
              refine lv_iload hx hb (kdr dgX3_fit_0 7 5 rfl rfl) (lv_at hl 6 rfl) ?_
              refine va_lald hx hb hK hP 3 2 rfl rfl (ix_in z1) (kdr dgX3_fit_0 7 6 rfl rfl) ?_
              refine lv_lstore (lv' := (kvJ 10 (men x12.toNatClampNeg) (kvA 0 (b 0) (kvI 4 x4 (kvJ 5 x5 (kvJ 7 x7 (kvI 9 x9 (kvI 12 x12 kvE)))))))) hx hb (kdr dgX3_fit_0 7 7 rfl rfl) hl (by decide) rfl (fun ls hl => ?_)
              refine lv_iconst (v := 1) hx hb (kdr dgX3_fit_0 7 8 rfl rfl) (by decide) ?_
              refine lv_istore (lv' := (kvI 9 1 (kvJ 10 (men x12.toNatClampNeg) (kvA 0 (b 0) (kvI 4 x4 (kvJ 5 x5 (kvJ 7 x7 (kvI 12 x12 kvE)))))))) hx hb (kdr dgX3_fit_0 7 9 rfl rfl) hl (by decide) rfl (fun ls hl => ?_)
              refine lv_iinc (v := x12 + 1) (lv' := (kvI 12 (x12 + 1) (kvI 9 1 (kvJ 10 (men x12.toNatClampNeg) (kvA 0 (b 0) (kvI 4 x4 (kvJ 5 x5 (kvJ 7 x7 kvE)))))))) hx hb (kdr dgX3_fit_0 8 0 rfl rfl) hl (k := 6) rfl rfl (by decide) rfl (fun ls hl => ?_)
              refine lv_goto (tgt := 86) hx hb (kdr dgX3_fit_0 8 1 rfl rfl) (by decide) ?_
              exact ih mce mfr mun mbe men mov msp mwb mwe mwi mac mre mkn mth x4 x5 x7 1 (men x12.toNatClampNeg) (x12 + 1) _ _ hP hD hS ls (lv_sub hl [3, 4, 5, 6, 1, 2, 0] rfl) h
            · have h := g_f c6 h
              refine lv_aload_n hx hb (kdr dgX3_fit_0 6 6 rfl rfl) rfl (lv_at hl 0 rfl) ?_
              refine va_get (D := (dC, dI)) (ci := 5) (v := .ref (b 3)) (C := RX3) (T := TX3) (N := 14) hx hb hts hiX3 hown hK hP 0 rfl rfl 4 (by decide) hw7 (fun _ h9 => h9) rfl (kdr dgX3_fit_0 6 7 rfl rfl) ?_
              refine lv_iload hx hb (kdr dgX3_fit_0 6 8 rfl rfl) (lv_at hl 6 rfl) ?_
              refine va_lald hx hb hK hP 3 2 rfl rfl (ix_in z1) (kdr dgX3_fit_0 6 9 rfl rfl) ?_
              refine lv_lload hx hb (kdr dgX3_fit_0 7 0 rfl rfl) (lv_at hl 5 rfl) ?_
              refine kl_ge (pc := 138) (tgt := 154) hx hb (kdr dgX3_fit_0 7 1 rfl rfl) (kdr dgX3_fit_0 7 2 rfl rfl) (by decide) (fun c7 => ?_) (fun c7 => ?_)
              · have h := g_t c7 h
                refine lv_iinc (v := x12 + 1) (lv' := (kvI 12 (x12 + 1) (kvA 0 (b 0) (kvI 4 x4 (kvJ 5 x5 (kvJ 7 x7 (kvI 9 x9 (kvJ 10 x10 kvE)))))))) hx hb (kdr dgX3_fit_0 8 0 rfl rfl) hl (k := 6) rfl rfl (by decide) rfl (fun ls hl => ?_)
                refine lv_goto (tgt := 86) hx hb (kdr dgX3_fit_0 8 1 rfl rfl) (by decide) ?_
                exact ih mce mfr mun mbe men mov msp mwb mwe mwi mac mre mkn mth x4 x5 x7 x9 x10 (x12 + 1) _ _ hP hD hS ls (lv_sub hl [1, 2, 3, 4, 5, 6, 0] rfl) h
              · have h := g_f c7 h
                refine lv_aload_n hx hb (kdr dgX3_fit_0 7 3 rfl rfl) rfl (lv_at hl 0 rfl) ?_
                refine va_get (D := (dC, dI)) (ci := 5) (v := .ref (b 3)) (C := RX3) (T := TX3) (N := 14) hx hb hts hiX3 hown hK hP 0 rfl rfl 4 (by decide) hw7 (fun _ h9 => h9) rfl (kdr dgX3_fit_0 7 4 rfl rfl) ?_
                refine lv_iload hx hb (kdr dgX3_fit_0 7 5 rfl rfl) (lv_at hl 6 rfl) ?_
                refine va_lald hx hb hK hP 3 2 rfl rfl (ix_in z1) (kdr dgX3_fit_0 7 6 rfl rfl) ?_
                refine lv_lstore (lv' := (kvJ 10 (men x12.toNatClampNeg) (kvA 0 (b 0) (kvI 4 x4 (kvJ 5 x5 (kvJ 7 x7 (kvI 9 x9 (kvI 12 x12 kvE)))))))) hx hb (kdr dgX3_fit_0 7 7 rfl rfl) hl (by decide) rfl (fun ls hl => ?_)
                refine lv_iconst (v := 1) hx hb (kdr dgX3_fit_0 7 8 rfl rfl) (by decide) ?_
                refine lv_istore (lv' := (kvI 9 1 (kvJ 10 (men x12.toNatClampNeg) (kvA 0 (b 0) (kvI 4 x4 (kvJ 5 x5 (kvJ 7 x7 (kvI 12 x12 kvE)))))))) hx hb (kdr dgX3_fit_0 7 9 rfl rfl) hl (by decide) rfl (fun ls hl => ?_)
                refine lv_iinc (v := x12 + 1) (lv' := (kvI 12 (x12 + 1) (kvI 9 1 (kvJ 10 (men x12.toNatClampNeg) (kvA 0 (b 0) (kvI 4 x4 (kvJ 5 x5 (kvJ 7 x7 kvE)))))))) hx hb (kdr dgX3_fit_0 8 0 rfl rfl) hl (k := 6) rfl rfl (by decide) rfl (fun ls hl => ?_)
                refine lv_goto (tgt := 86) hx hb (kdr dgX3_fit_0 8 1 rfl rfl) (by decide) ?_
                exact ih mce mfr mun mbe men mov msp mwb mwe mwi mac mre mkn mth x4 x5 x7 1 (men x12.toNatClampNeg) (x12 + 1) _ _ hP hD hS ls (lv_sub hl [3, 4, 5, 6, 1, 2, 0] rfl) h
  have J39 : ∀ (mce : Nat → Int64) (mfr : Int64) (mun : Int64) (mbe : Nat → Int64) (men : Nat → Int64) (mov : Nat → Int32) (msp : Int32) (mwb : Nat → Int64) (mwe : Nat → Int64) (mwi : Int32) (mac : Int32) (mre : Int32) (mkn : Int32) (mth : Int32) (x1 : Int32) (x2 : Int32) (x3 : Int32) (x4 : Int32) (y0 : Int32) (y1 : Int32) (H : Heap) (locs : List Loc), va_P (dC, dI) vwCl (wMo cJ cZ b mce mfr mun mbe men mov msp mwb mwe mwi mac mre mkn mth) H → va_D A (wMo cJ cZ b mce mfr mun mbe men mov msp mwb mwe mwi mac mre mkn mth) → va_S A s.heap H locs → ∀ (ls : Array Slot), lv_has ls 13 (kvA 0 (b 0) (kvI 1 x1 (kvI 2 x2 (kvI 3 x3 (kvI 4 x4 kvE))))) → f_X3_fit_39 mce mfr mun mbe men msp mac mre x1 x2 x3 x4 y0 y1 = some res → W p l e (headSpec wsX3_fit (kRm 3 0 0 77)).room s m ([.ref (b 0), .int p0, .int p1, .int p2, .int p3] : List Value).toArray below meth c H locs 0 0 (MQ below (kI (dC, dI) .int (res.1) (wMo cJ cZ b (res.2.1) mfr mun mbe men mov msp mwb mwe mwi (res.2.2.1) (res.2.2.2.1) mkn (res.2.2.2.2)) A) ([.ref (b 0), .int p0, .int p1, .int p2, .int p3] : List Value).toArray s 0 0 A) (F0 m 39 ls [.int y0, .int y1, .ref (b 0)]) := by
    intro mce mfr mun mbe men mov msp mwb mwe mwi mac mre mkn mth x1 x2 x3 x4 y0 y1 H locs hP hD hS ls hl h
    have h := f_X3_fit_39_e.symm.trans h
    obtain ⟨r1, g1, h⟩ := g_b h
    refine kq_i (wMo cJ cZ b mce mfr mun mbe men mov msp mwb mwe mwi mac mre mkn r1.2) (fun qP qD qF => va_runV (As := [.int y1, .int y0]) (rest := []) ⟨hx, hb, hml, hown, hts⟩ (c_X3_isThrown l dC dI cB cI cJ cZ b _ mce mfr mun mbe men mov msp mwb mwe mwi mac mre mkn mth y1 y0 r1 g1) (kcwV hts kw_1126 kv_X3_isThrown rfl rfl ⟨(Nat.le_of_ble_eq_true rfl), (Nat.le_of_ble_eq_true rfl)⟩) (kpV (A := A) qP hK qD hG (krecv_5 (q0 := 0) hK hP rfl)) rfl rfl hl.1 rfl (lv_room (Nat.le_of_ble_eq_true rfl)) (kdr dgX3_fit_0 2 0 rfl rfl) ⟨(Nat.le_of_ble_eq_true rfl), (Nat.le_of_ble_eq_true rfl)⟩) hP hD hS hA kFr_Mo (fun H locs hP hD hS br1 => ?_)
    refine lv_if_eq (tgt := 47) hx hb (kdr dgX3_fit_0 2 1 rfl rfl) (by decide) (fun c2 => ?_) (fun c2 => ?_)
    · have h := g_t c2 h
      refine lv_iload_n hx hb (kdr dgX3_fit_0 2 4 rfl rfl) rfl (lv_at hl 2 rfl) ?_
      refine lv_iload_n hx hb (kdr dgX3_fit_0 2 5 rfl rfl) rfl (lv_at hl 3 rfl) ?_
      obtain ⟨r3, g3, h⟩ := g_b h
      refine kq_l (wMo cJ cZ b mce mfr mun mbe men mov msp mwb mwe mwi mac mre mkn r1.2) (fun qP qD qF => va_runS (As := [.int x2, .int x3]) (rest := []) ⟨hx, hb, hml, hown, hts⟩ (c_X3_units l dC dI cB cI cJ cZ  _  x2 x3 r3 g3) (kcwS hts kw_1155 kv_X3_units rfl rfl ⟨(Nat.le_of_ble_eq_true rfl), (Nat.le_of_ble_eq_true rfl)⟩) (kpS (A := A) (kPnil) hK ((kDnil (A := A))) hG) rfl rfl hl.1 rfl (lv_room (Nat.le_of_ble_eq_true rfl)) (kdr dgX3_fit_0 2 6 rfl rfl) ⟨(Nat.le_of_ble_eq_true rfl), (Nat.le_of_ble_eq_true rfl)⟩) hP hD hS hA kFr_n (fun H locs hP hD hS => ?_)
      refine lv_lstore (lv' := (kvJ 5 r3 (kvA 0 (b 0) (kvI 1 x1 (kvI 2 x2 (kvI 3 x3 (kvI 4 x4 kvE))))))) hx hb (kdr dgX3_fit_0 2 7 rfl rfl) hl (by decide) rfl (fun ls hl => ?_)
      refine lv_aload_n hx hb (kdr dgX3_fit_0 2 8 rfl rfl) rfl (lv_at hl 1 rfl) ?_
      refine va_get (D := (dC, dI)) (ci := 5) (v := .ref (b 1)) (C := RX3) (T := TX3) (N := 14) hx hb hts hiX3 hown hK hP 0 rfl rfl 0 (by decide) hw0 (fun _ h9 => h9) rfl (kdr dgX3_fit_0 2 9 rfl rfl) ?_
      refine lv_iload_n hx hb (kdr dgX3_fit_0 3 0 rfl rfl) rfl (lv_at hl 2 rfl) ?_
      obtain ⟨z3, h⟩ := g_if h
      refine va_lald hx hb hK hP 1 2 rfl rfl (ix_in z3) (kdr dgX3_fit_0 3 1 rfl rfl) ?_
      refine lv_aload_n hx hb (kdr dgX3_fit_0 3 2 rfl rfl) rfl (lv_at hl 1 rfl) ?_
      refine va_get (D := (dC, dI)) (ci := 5) (v := .long mfr) (C := RX3) (T := TX3) (N := 14) hx hb hts hiX3 hown hK hP 0 rfl rfl 1 (by decide) hw1 (fun _ h9 => h9) rfl (kdr dgX3_fit_0 3 3 rfl rfl) ?_
      refine va_mmax_long hx hb (hml.trans hl.1.symm) hown hw2 hw3 hw4 hw5 (Nat.le_of_ble_eq_true rfl) (Nat.le_of_ble_eq_true rfl) (Nat.le_of_ble_eq_true rfl) (Nat.le_of_ble_eq_true rfl) (kdr dgX3_fit_0 3 4 rfl rfl) ?_
      refine lv_lstore (lv' := (kvJ 7 (if mfr < (mce x1.toNatClampNeg) then mce x1.toNatClampNeg else mfr) (kvJ 5 r3 (kvA 0 (b 0) (kvI 1 x1 (kvI 2 x2 (kvI 3 x3 (kvI 4 x4 kvE)))))))) hx hb (kdr dgX3_fit_0 3 5 rfl rfl) hl (by decide) rfl (fun ls hl => ?_)
      refine lv_aload_n hx hb (kdr dgX3_fit_0 3 6 rfl rfl) rfl (lv_at hl 2 rfl) ?_
      refine lv_lload hx hb (kdr dgX3_fit_0 3 7 rfl rfl) (lv_at hl 0 rfl) ?_
      refine lv_lload hx hb (kdr dgX3_fit_0 3 8 rfl rfl) (lv_at hl 1 rfl) ?_
      obtain ⟨r5, g5, h⟩ := g_b h
      refine kq_i (wMo cJ cZ b mce mfr mun mbe men mov msp mwb mwe mwi mac mre mkn r1.2) (fun qP qD qF => va_runV (As := [.long (if mfr < (mce x1.toNatClampNeg) then mce x1.toNatClampNeg else mfr), .long r3]) (rest := []) ⟨hx, hb, hml, hown, hts⟩ (c_X3_fits l dC dI cB cI cJ cZ b _ mce mfr mun mbe men mov msp mwb mwe mwi mac mre mkn r1.2 (if mfr < (mce x1.toNatClampNeg) then mce x1.toNatClampNeg else mfr) r3 r5 g5) (kcwV hts kw_1243 kv_X3_fits rfl rfl ⟨(Nat.le_of_ble_eq_true rfl), (Nat.le_of_ble_eq_true rfl)⟩) (kpV (A := A) qP hK qD hG (krecv_5 (q0 := 0) hK hP rfl)) rfl rfl hl.1 rfl (lv_room (Nat.le_of_ble_eq_true rfl)) (kdr dgX3_fit_0 3 9 rfl rfl) ⟨(Nat.le_of_ble_eq_true rfl), (Nat.le_of_ble_eq_true rfl)⟩) hP hD hS hA kFr_Mo (fun H locs hP hD hS br5 => ?_)
      refine lv_istore (lv' := (kvI 9 r5 (kvJ 7 (if mfr < (mce x1.toNatClampNeg) then mce x1.toNatClampNeg else mfr) (kvJ 5 r3 (kvA 0 (b 0) (kvI 1 x1 (kvI 2 x2 (kvI 3 x3 (kvI 4 x4 kvE))))))))) hx hb (kdr dgX3_fit_0 4 0 rfl rfl) hl (by decide) rfl (fun ls hl => ?_)
      refine lv_lload hx hb (kdr dgX3_fit_0 4 1 rfl rfl) (lv_at hl 1 rfl) ?_
      refine lv_lstore (lv' := (kvJ 10 (if mfr < (mce x1.toNatClampNeg) then mce x1.toNatClampNeg else mfr) (kvI 9 r5 (kvJ 7 (if mfr < (mce x1.toNatClampNeg) then mce x1.toNatClampNeg else mfr) (kvJ 5 r3 (kvA 0 (b 0) (kvI 1 x1 (kvI 2 x2 (kvI 3 x3 (kvI 4 x4 kvE)))))))))) hx hb (kdr dgX3_fit_0 4 2 rfl rfl) hl (by decide) rfl (fun ls hl => ?_)
      refine lv_iconst (v := 0) hx hb (kdr dgX3_fit_0 4 3 rfl rfl) (by decide) ?_
      refine lv_istore (lv' := (kvI 12 0 (kvJ 10 (if mfr < (mce x1.toNatClampNeg) then mce x1.toNatClampNeg else mfr) (kvI 9 r5 (kvJ 7 (if mfr < (mce x1.toNatClampNeg) then mce x1.toNatClampNeg else mfr) (kvJ 5 r3 (kvA 0 (b 0) (kvI 1 x1 (kvI 2 x2 (kvI 3 x3 (kvI 4 x4 kvE))))))))))) hx hb (kdr dgX3_fit_0 4 4 rfl rfl) hl (by decide) rfl (fun ls hl => ?_)
      exact J86 24 mce mfr mun mbe men mov msp mwb mwe mwi mac mre mkn r1.2 x4 r3 (if mfr < (mce x1.toNatClampNeg) then mce x1.toNatClampNeg else mfr) r5 (if mfr < (mce x1.toNatClampNeg) then mce x1.toNatClampNeg else mfr) 0 _ _ hP hD hS ls (lv_sub hl [5, 9, 4, 3, 2, 1, 0] rfl) h
    · have h := g_f c2 h
      refine lv_iconst (v := 0) hx hb (kdr dgX3_fit_0 2 2 rfl rfl) (by decide) ?_
      have h := Option.some.inj h
      subst h
      exact kret_i (v := 0) hx hb hr rfl hlocks hS hP (kdr dgX3_fit_0 2 3 rfl rfl)
  have J34 : ∀ (mce : Nat → Int64) (mfr : Int64) (mun : Int64) (mbe : Nat → Int64) (men : Nat → Int64) (mov : Nat → Int32) (msp : Int32) (mwb : Nat → Int64) (mwe : Nat → Int64) (mwi : Int32) (mac : Int32) (mre : Int32) (mkn : Int32) (mth : Int32) (x1 : Int32) (x2 : Int32) (x3 : Int32) (x4 : Int32) (y0 : Int32) (H : Heap) (locs : List Loc), va_P (dC, dI) vwCl (wMo cJ cZ b mce mfr mun mbe men mov msp mwb mwe mwi mac mre mkn mth) H → va_D A (wMo cJ cZ b mce mfr mun mbe men mov msp mwb mwe mwi mac mre mkn mth) → va_S A s.heap H locs → ∀ (ls : Array Slot), lv_has ls 13 (kvA 0 (b 0) (kvI 1 x1 (kvI 2 x2 (kvI 3 x3 (kvI 4 x4 kvE))))) → f_X3_fit_34 mce mfr mun mbe men msp mac mre x1 x2 x3 x4 y0 = some res → W p l e (headSpec wsX3_fit (kRm 3 0 0 77)).room s m ([.ref (b 0), .int p0, .int p1, .int p2, .int p3] : List Value).toArray below meth c H locs 0 0 (MQ below (kI (dC, dI) .int (res.1) (wMo cJ cZ b (res.2.1) mfr mun mbe men mov msp mwb mwe mwi (res.2.2.1) (res.2.2.2.1) mkn (res.2.2.2.2)) A) ([.ref (b 0), .int p0, .int p1, .int p2, .int p3] : List Value).toArray s 0 0 A) (F0 m 34 ls [.int y0, .ref (b 0)]) := by
    intro mce mfr mun mbe men mov msp mwb mwe mwi mac mre mkn mth x1 x2 x3 x4 y0 H locs hP hD hS ls hl h
    have h := f_X3_fit_34_e.symm.trans h
    refine lv_iconst (v := 1) hx hb (kdr dgX3_fit_0 1 7 rfl rfl) (by decide) ?_
    refine lv_goto (tgt := 39) hx hb (kdr dgX3_fit_0 1 8 rfl rfl) (by decide) ?_
    exact J39 mce mfr mun mbe men mov msp mwb mwe mwi mac mre mkn mth x1 x2 x3 x4 1 y0 _ _ hP hD hS ls (lv_sub hl [0, 1, 2, 3, 4] rfl) h
  have J21 : ∀ (mce : Nat → Int64) (mfr : Int64) (mun : Int64) (mbe : Nat → Int64) (men : Nat → Int64) (mov : Nat → Int32) (msp : Int32) (mwb : Nat → Int64) (mwe : Nat → Int64) (mwi : Int32) (mac : Int32) (mre : Int32) (mkn : Int32) (mth : Int32) (x1 : Int32) (x2 : Int32) (x3 : Int32) (x4 : Int32) (y0 : Int32) (H : Heap) (locs : List Loc), va_P (dC, dI) vwCl (wMo cJ cZ b mce mfr mun mbe men mov msp mwb mwe mwi mac mre mkn mth) H → va_D A (wMo cJ cZ b mce mfr mun mbe men mov msp mwb mwe mwi mac mre mkn mth) → va_S A s.heap H locs → ∀ (ls : Array Slot), lv_has ls 13 (kvA 0 (b 0) (kvI 1 x1 (kvI 2 x2 (kvI 3 x3 (kvI 4 x4 kvE))))) → f_X3_fit_21 mce mfr mun mbe men msp mac mre x1 x2 x3 x4 y0 = some res → W p l e (headSpec wsX3_fit (kRm 3 0 0 77)).room s m ([.ref (b 0), .int p0, .int p1, .int p2, .int p3] : List Value).toArray below meth c H locs 0 0 (MQ below (kI (dC, dI) .int (res.1) (wMo cJ cZ b (res.2.1) mfr mun mbe men mov msp mwb mwe mwi (res.2.2.1) (res.2.2.2.1) mkn (res.2.2.2.2)) A) ([.ref (b 0), .int p0, .int p1, .int p2, .int p3] : List Value).toArray s 0 0 A) (F0 m 21 ls [.int y0, .ref (b 0)]) := by
    intro mce mfr mun mbe men mov msp mwb mwe mwi mac mre mkn mth x1 x2 x3 x4 y0 H locs hP hD hS ls hl h
    have h := f_X3_fit_21_e.symm.trans h
    refine lv_iload_n hx hb (kdr dgX3_fit_0 1 0 rfl rfl) rfl (lv_at hl 2 rfl) ?_
    refine lv_iload_n hx hb (kdr dgX3_fit_0 1 1 rfl rfl) rfl (lv_at hl 3 rfl) ?_
    obtain ⟨r1, g1, h⟩ := g_b h
    refine kq_i (wMo cJ cZ b mce mfr mun mbe men mov msp mwb mwe mwi mac mre mkn mth) (fun qP qD qF => va_runS (As := [.int x2, .int x3]) (rest := [.int y0, .ref (b 0)]) ⟨hx, hb, hml, hown, hts⟩ (c_X3_isNoUnit l dC dI cB cI cJ cZ  _  x2 x3 r1 g1) (kcwS hts kw_1152 kv_X3_isNoUnit rfl rfl ⟨(Nat.le_of_ble_eq_true rfl), (Nat.le_of_ble_eq_true rfl)⟩) (kpS (A := A) (kPnil) hK ((kDnil (A := A))) hG) rfl rfl hl.1 rfl (lv_room (Nat.le_of_ble_eq_true rfl)) (kdr dgX3_fit_0 1 2 rfl rfl) ⟨(Nat.le_of_ble_eq_true rfl), (Nat.le_of_ble_eq_true rfl)⟩) hP hD hS hA kFr_n (fun H locs hP hD hS br1 => ?_)
    refine lv_if_ne (tgt := 34) hx hb (kdr dgX3_fit_0 1 3 rfl rfl) (by decide) (fun c2 => ?_) (fun c2 => ?_)
    · have h := g_f c2 h
      exact J34 mce mfr mun mbe men mov msp mwb mwe mwi mac mre mkn mth x1 x2 x3 x4 y0 _ _ hP hD hS ls (lv_sub hl [0, 1, 2, 3, 4] rfl) h
    · have h := g_t c2 h
      refine lv_iload_n hx hb (kdr dgX3_fit_0 1 4 rfl rfl) rfl (lv_at hl 3 rfl) ?_
      refine lv_iconst (v := 1) hx hb (kdr dgX3_fit_0 1 5 rfl rfl) (by decide) ?_
      refine lv_icmp_ge (tgt := 38) hx hb (kdr dgX3_fit_0 1 6 rfl rfl) (by decide) (fun c3 => ?_) (fun c3 => ?_)
      · have h := g_t c3 h
        refine lv_iconst (v := 0) hx hb (kdr dgX3_fit_0 1 9 rfl rfl) (by decide) ?_
        exact J39 mce mfr mun mbe men mov msp mwb mwe mwi mac mre mkn mth x1 x2 x3 x4 0 y0 _ _ hP hD hS ls (lv_sub hl [0, 1, 2, 3, 4] rfl) h
      · have h := g_f c3 h
        exact J34 mce mfr mun mbe men mov msp mwb mwe mwi mac mre mkn mth x1 x2 x3 x4 y0 _ _ hP hD hS ls (lv_sub hl [0, 1, 2, 3, 4] rfl) h
  have J16 : ∀ (mce : Nat → Int64) (mfr : Int64) (mun : Int64) (mbe : Nat → Int64) (men : Nat → Int64) (mov : Nat → Int32) (msp : Int32) (mwb : Nat → Int64) (mwe : Nat → Int64) (mwi : Int32) (mac : Int32) (mre : Int32) (mkn : Int32) (mth : Int32) (x1 : Int32) (x2 : Int32) (x3 : Int32) (x4 : Int32) (H : Heap) (locs : List Loc), va_P (dC, dI) vwCl (wMo cJ cZ b mce mfr mun mbe men mov msp mwb mwe mwi mac mre mkn mth) H → va_D A (wMo cJ cZ b mce mfr mun mbe men mov msp mwb mwe mwi mac mre mkn mth) → va_S A s.heap H locs → ∀ (ls : Array Slot), lv_has ls 13 (kvA 0 (b 0) (kvI 1 x1 (kvI 2 x2 (kvI 3 x3 (kvI 4 x4 kvE))))) → f_X3_fit_16 mce mfr mun mbe men msp mac mre x1 x2 x3 x4 = some res → W p l e (headSpec wsX3_fit (kRm 3 0 0 77)).room s m ([.ref (b 0), .int p0, .int p1, .int p2, .int p3] : List Value).toArray below meth c H locs 0 0 (MQ below (kI (dC, dI) .int (res.1) (wMo cJ cZ b (res.2.1) mfr mun mbe men mov msp mwb mwe mwi (res.2.2.1) (res.2.2.2.1) mkn (res.2.2.2.2)) A) ([.ref (b 0), .int p0, .int p1, .int p2, .int p3] : List Value).toArray s 0 0 A) (F0 m 16 ls [.ref (b 0)]) := by
    intro mce mfr mun mbe men mov msp mwb mwe mwi mac mre mkn mth x1 x2 x3 x4 H locs hP hD hS ls hl h
    have h := f_X3_fit_16_e.symm.trans h
    refine lv_iconst (v := 1) hx hb (kdr dgX3_fit_0 0 7 rfl rfl) (by decide) ?_
    refine lv_goto (tgt := 21) hx hb (kdr dgX3_fit_0 0 8 rfl rfl) (by decide) ?_
    exact J21 mce mfr mun mbe men mov msp mwb mwe mwi mac mre mkn mth x1 x2 x3 x4 1 _ _ hP hD hS ls (lv_sub hl [0, 1, 2, 3, 4] rfl) h
  have h := f_X3_fit_e.symm.trans hf
  refine lv_aload_n hx hb (kdr dgX3_fit_0 0 0 rfl rfl) rfl (lv_at hl 0 rfl) ?_
  refine lv_iload_n hx hb (kdr dgX3_fit_0 0 1 rfl rfl) rfl (lv_at hl 1 rfl) ?_
  obtain ⟨r1, g1, h⟩ := g_b h
  refine kq_i (wMo cJ cZ b mce mfr mun mbe men mov msp mwb mwe mwi mac mre mkn mth) (fun qP qD qF => va_runS (As := [.int p0]) (rest := [.ref (b 0)]) ⟨hx, hb, hml, hown, hts⟩ (c_X3_is l dC dI cB cI cJ cZ  _  p0 r1 g1) (kcwS hts kw_1119 kv_X3_is rfl rfl ⟨(Nat.le_of_ble_eq_true rfl), (Nat.le_of_ble_eq_true rfl)⟩) (kpS (A := A) (kPnil) hK ((kDnil (A := A))) hG) rfl rfl hl.1 rfl (lv_room (Nat.le_of_ble_eq_true rfl)) (kdr dgX3_fit_0 0 2 rfl rfl) ⟨(Nat.le_of_ble_eq_true rfl), (Nat.le_of_ble_eq_true rfl)⟩) hP hD hS hA kFr_n (fun H locs hP hD hS br1 => ?_)
  refine lv_if_eq (tgt := 16) hx hb (kdr dgX3_fit_0 0 3 rfl rfl) (by decide) (fun c2 => ?_) (fun c2 => ?_)
  · have h := g_t c2 h
    exact J16 mce mfr mun mbe men mov msp mwb mwe mwi mac mre mkn mth p0 p1 p2 p3 _ _ hP hD hS ls (lv_sub hl [0, 1, 2, 3, 4] rfl) h
  · have h := g_f c2 h
    refine lv_iload hx hb (kdr dgX3_fit_0 0 4 rfl rfl) (lv_at hl 4 rfl) ?_
    obtain ⟨r3, g3, h⟩ := g_b h
    refine kq_i (wMo cJ cZ b mce mfr mun mbe men mov msp mwb mwe mwi mac mre mkn mth) (fun qP qD qF => va_runS (As := [.int p3]) (rest := [.ref (b 0)]) ⟨hx, hb, hml, hown, hts⟩ (c_X3_is l dC dI cB cI cJ cZ  _  p3 r3 g3) (kcwS hts kw_1119 kv_X3_is rfl rfl ⟨(Nat.le_of_ble_eq_true rfl), (Nat.le_of_ble_eq_true rfl)⟩) (kpS (A := A) (kPnil) hK ((kDnil (A := A))) hG) rfl rfl hl.1 rfl (lv_room (Nat.le_of_ble_eq_true rfl)) (kdr dgX3_fit_0 0 5 rfl rfl) ⟨(Nat.le_of_ble_eq_true rfl), (Nat.le_of_ble_eq_true rfl)⟩) hP hD hS hA kFr_n (fun H locs hP hD hS br3 => ?_)
    refine lv_if_ne (tgt := 20) hx hb (kdr dgX3_fit_0 0 6 rfl rfl) (by decide) (fun c4 => ?_) (fun c4 => ?_)
    · have h := g_f c4 h
      refine lv_iconst (v := 0) hx hb (kdr dgX3_fit_0 0 9 rfl rfl) (by decide) ?_
      exact J21 mce mfr mun mbe men mov msp mwb mwe mwi mac mre mkn mth p0 p1 p2 p3 0 _ _ hP hD hS ls (lv_sub hl [0, 1, 2, 3, 4] rfl) h
    · have h := g_t c4 h
      exact J16 mce mfr mun mbe men mov msp mwb mwe mwi mac mre mkn mth p0 p1 p2 p3 _ _ hP hD hS ls (lv_sub hl [0, 1, 2, 3, 4] rfl) h
noncomputable abbrev wsX3_wish : List Cond := kWs yX3_wish cX3_wish 3 (some .int)
noncomputable def f_X3_wish_53 (mwb : Nat → Int64) (mwe : Nat → Int64) (mwi : Int32) (mac : Int32) (mre : Int32) (mth : Int32) : Option ((Int32) × (Nat → Int64) × (Nat → Int64) × (Int32) × (Int32) × (Int32) × (Int32)) :=
  (f_X3_no mre).bind fun r1 =>
  some (r1.1, mwb, mwe, mwi, mac, r1.2, mth)
theorem f_X3_wish_53_e {mwb : Nat → Int64} {mwe : Nat → Int64} {mwi : Int32} {mac : Int32} {mre : Int32} {mth : Int32} : f_X3_wish_53 mwb mwe mwi mac mre mth =
  (f_X3_no mre).bind fun r1 =>
  some (r1.1, mwb, mwe, mwi, mac, r1.2, mth) := rfl
noncomputable def f_X3_wish_20 (mce : Nat → Int64) (mwb : Nat → Int64) (mwe : Nat → Int64) (mwi : Int32) (mac : Int32) (mre : Int32) (x1 : Int32) (x2 : Int32) (y0 : Int32) : Option ((Int32) × (Nat → Int64) × (Nat → Int64) × (Int32) × (Int32) × (Int32) × (Int32)) :=
  (f_X3_isThrown_ y0).bind fun r1 =>
  if r1.1 = 0 then
    if ix x1 4 then
      if ix x2 4 then
        if (mce x2.toNatClampNeg) ≤ (mce x1.toNatClampNeg) then
          f_X3_wish_53 mwb mwe mwi mac mre r1.2
        else
          if mwi = 8 then
            f_X3_wish_53 mwb mwe mwi mac mre r1.2
          else
            if ix mwi 8 then
              (f_X3_done mac ((mwi + 1) - 1)).bind fun r8 =>
              some (r8.1, vp_updL mwb mwi.toNatClampNeg (mce x1.toNatClampNeg), vp_updL mwe mwi.toNatClampNeg (mce x2.toNatClampNeg), mwi + 1, r8.2, mre, r1.2)
            else none
      else none
    else none
  else
    some (0, mwb, mwe, mwi, mac, mre, r1.2)
theorem f_X3_wish_20_e {mce : Nat → Int64} {mwb : Nat → Int64} {mwe : Nat → Int64} {mwi : Int32} {mac : Int32} {mre : Int32} {x1 : Int32} {x2 : Int32} {y0 : Int32} : f_X3_wish_20 mce mwb mwe mwi mac mre x1 x2 y0 =
  (f_X3_isThrown_ y0).bind fun r1 =>
  if r1.1 = 0 then
    if ix x1 4 then
      if ix x2 4 then
        if (mce x2.toNatClampNeg) ≤ (mce x1.toNatClampNeg) then
          f_X3_wish_53 mwb mwe mwi mac mre r1.2
        else
          if mwi = 8 then
            f_X3_wish_53 mwb mwe mwi mac mre r1.2
          else
            if ix mwi 8 then
              (f_X3_done mac ((mwi + 1) - 1)).bind fun r8 =>
              some (r8.1, vp_updL mwb mwi.toNatClampNeg (mce x1.toNatClampNeg), vp_updL mwe mwi.toNatClampNeg (mce x2.toNatClampNeg), mwi + 1, r8.2, mre, r1.2)
            else none
      else none
    else none
  else
    some (0, mwb, mwe, mwi, mac, mre, r1.2) := rfl
noncomputable def f_X3_wish_15 (mce : Nat → Int64) (mwb : Nat → Int64) (mwe : Nat → Int64) (mwi : Int32) (mac : Int32) (mre : Int32) (x1 : Int32) (x2 : Int32) : Option ((Int32) × (Nat → Int64) × (Nat → Int64) × (Int32) × (Int32) × (Int32) × (Int32)) :=
  f_X3_wish_20 mce mwb mwe mwi mac mre x1 x2 1
theorem f_X3_wish_15_e {mce : Nat → Int64} {mwb : Nat → Int64} {mwe : Nat → Int64} {mwi : Int32} {mac : Int32} {mre : Int32} {x1 : Int32} {x2 : Int32} : f_X3_wish_15 mce mwb mwe mwi mac mre x1 x2 =
  f_X3_wish_20 mce mwb mwe mwi mac mre x1 x2 1 := rfl
noncomputable def f_X3_wish (mce : Nat → Int64) (mwb : Nat → Int64) (mwe : Nat → Int64) (mwi : Int32) (mac : Int32) (mre : Int32) (p0 : Int32) (p1 : Int32) : Option ((Int32) × (Nat → Int64) × (Nat → Int64) × (Int32) × (Int32) × (Int32) × (Int32)) :=
  (f_X3_is p0).bind fun r1 =>
  if r1 = 0 then
    f_X3_wish_15 mce mwb mwe mwi mac mre p0 p1
  else
    (f_X3_is p1).bind fun r3 =>
    if r3 = 0 then
      f_X3_wish_15 mce mwb mwe mwi mac mre p0 p1
    else
      f_X3_wish_20 mce mwb mwe mwi mac mre p0 p1 0
theorem f_X3_wish_e {mce : Nat → Int64} {mwb : Nat → Int64} {mwe : Nat → Int64} {mwi : Int32} {mac : Int32} {mre : Int32} {p0 : Int32} {p1 : Int32} : f_X3_wish mce mwb mwe mwi mac mre p0 p1 = 
  (f_X3_is p0).bind fun r1 =>
  if r1 = 0 then
    f_X3_wish_15 mce mwb mwe mwi mac mre p0 p1
  else
    (f_X3_is p1).bind fun r3 =>
    if r3 = 0 then
      f_X3_wish_15 mce mwb mwe mwi mac mre p0 p1
    else
      f_X3_wish_20 mce mwb mwe mwi mac mre p0 p1 0 := rfl
set_option maxHeartbeats 4000000 in
set_option maxRecDepth 100000 in
theorem c_X3_wish (l : Launch) (dC : Nat → ClassId) (dI : Nat → Nat → Nat) (cB cI cJ cZ : ClassId) (b : Nat → Nat) (sz : Nat) (mce : Nat → Int64) (mfr : Int64) (mun : Int64) (mbe : Nat → Int64) (men : Nat → Int64) (mov : Nat → Int32) (msp : Int32) (mwb : Nat → Int64) (mwe : Nat → Int64) (mwi : Int32) (mac : Int32) (mre : Int32) (mkn : Int32) (mth : Int32) (p0 : Int32) (p1 : Int32) (res : (Int32) × (Nat → Int64) × (Nat → Int64) × (Int32) × (Int32) × (Int32) × (Int32)) (hf : f_X3_wish mce mwb mwe mwi mac mre p0 p1 = some res) : kMi l yX3_wish wsX3_wish (kRm 2 0 0 43) dC dI cB cI cJ cZ [.ref (b 0), .int p0, .int p1] sz (wMo cJ cZ b mce mfr mun mbe men mov msp mwb mwe mwi mac mre mkn mth) .int (res.1) (wMo cJ cZ b mce mfr mun mbe men mov msp (res.2.1) (res.2.2.1) (res.2.2.2.1) (res.2.2.2.2.1) (res.2.2.2.2.2.1) mkn (res.2.2.2.2.2.2)) 0 0 := by
  refine kmet_i (y := yX3_wish) (cc := cX3_wish) (maxL := 3) (ret := (some .int)) RX3 (kvA 0 (b 0) (kvI 1 p0 (kvI 2 p1 kvE))) kpl_X3 rfl rfl (Nat.le_of_ble_eq_true rfl) rfl (fun p e s m below meth c A ls hx hb hr hml hts hown hlocks hP hK hG hD hA hS hl => ?_)
  have hw0 := hts (.fieldLink RX3 7 "SpanbookerModel" "cells" "[J") (List.mem_cons_of_mem _ kw_1072)
  have hw1 := hts (.fieldLink RX3 88 "SpanbookerModel" "wishes" "I") (List.mem_cons_of_mem _ kw_1081)
  have hw2 := hts (.fieldLink RX3 29 "SpanbookerModel" "wishBegins" "[J") (List.mem_cons_of_mem _ kw_1079)
  have hw3 := hts (.fieldLink RX3 32 "SpanbookerModel" "wishEnds" "[J") (List.mem_cons_of_mem _ kw_1080)
  have hiX3 : ∀ w ∈ u_ws RX3 TX3 14, w ∈ wsX3_wish := fun w h => List.mem_cons_of_mem _ (ku_X3 w h)
  have J53 : ∀ (mce : Nat → Int64) (mfr : Int64) (mun : Int64) (mbe : Nat → Int64) (men : Nat → Int64) (mov : Nat → Int32) (msp : Int32) (mwb : Nat → Int64) (mwe : Nat → Int64) (mwi : Int32) (mac : Int32) (mre : Int32) (mkn : Int32) (mth : Int32) (H : Heap) (locs : List Loc), va_P (dC, dI) vwCl (wMo cJ cZ b mce mfr mun mbe men mov msp mwb mwe mwi mac mre mkn mth) H → va_D A (wMo cJ cZ b mce mfr mun mbe men mov msp mwb mwe mwi mac mre mkn mth) → va_S A s.heap H locs → ∀ (ls : Array Slot), lv_has ls 3 (kvA 0 (b 0) kvE) → f_X3_wish_53 mwb mwe mwi mac mre mth = some res → W p l e (headSpec wsX3_wish (kRm 2 0 0 43)).room s m ([.ref (b 0), .int p0, .int p1] : List Value).toArray below meth c H locs 0 0 (MQ below (kI (dC, dI) .int (res.1) (wMo cJ cZ b mce mfr mun mbe men mov msp (res.2.1) (res.2.2.1) (res.2.2.2.1) (res.2.2.2.2.1) (res.2.2.2.2.2.1) mkn (res.2.2.2.2.2.2)) A) ([.ref (b 0), .int p0, .int p1] : List Value).toArray s 0 0 A) (F0 m 53 ls []) := by
    intro mce mfr mun mbe men mov msp mwb mwe mwi mac mre mkn mth H locs hP hD hS ls hl h
    have h := f_X3_wish_53_e.symm.trans h
    refine lv_aload_n hx hb (kdr dgX3_wish_0 2 8 rfl rfl) rfl (lv_at hl 0 rfl) ?_
    obtain ⟨r1, g1, h⟩ := g_b h
    refine kq_i (wMo cJ cZ b mce mfr mun mbe men mov msp mwb mwe mwi mac r1.2 mkn mth) (fun qP qD qF => va_runV (As := []) (rest := []) ⟨hx, hb, hml, hown, hts⟩ (c_X3_no l dC dI cB cI cJ cZ b _ mce mfr mun mbe men mov msp mwb mwe mwi mac mre mkn mth  r1 g1) (kcwV hts kw_1136 kv_X3_no rfl rfl ⟨(Nat.le_of_ble_eq_true rfl), (Nat.le_of_ble_eq_true rfl)⟩) (kpV (A := A) qP hK qD hG (krecv_5 (q0 := 0) hK hP rfl)) rfl rfl hl.1 rfl (lv_room (Nat.le_of_ble_eq_true rfl)) (kdr dgX3_wish_0 2 9 rfl rfl) ⟨(Nat.le_of_ble_eq_true rfl), (Nat.le_of_ble_eq_true rfl)⟩) hP hD hS hA kFr_Mo (fun H locs hP hD hS br1 => ?_)
    have h := Option.some.inj h
    subst h
    exact kret_i (v := r1.1) hx hb hr rfl hlocks hS hP (kdr dgX3_wish_0 3 0 rfl rfl)
  have J20 : ∀ (mce : Nat → Int64) (mfr : Int64) (mun : Int64) (mbe : Nat → Int64) (men : Nat → Int64) (mov : Nat → Int32) (msp : Int32) (mwb : Nat → Int64) (mwe : Nat → Int64) (mwi : Int32) (mac : Int32) (mre : Int32) (mkn : Int32) (mth : Int32) (x1 : Int32) (x2 : Int32) (y0 : Int32) (H : Heap) (locs : List Loc), va_P (dC, dI) vwCl (wMo cJ cZ b mce mfr mun mbe men mov msp mwb mwe mwi mac mre mkn mth) H → va_D A (wMo cJ cZ b mce mfr mun mbe men mov msp mwb mwe mwi mac mre mkn mth) → va_S A s.heap H locs → ∀ (ls : Array Slot), lv_has ls 3 (kvA 0 (b 0) (kvI 1 x1 (kvI 2 x2 kvE))) → f_X3_wish_20 mce mwb mwe mwi mac mre x1 x2 y0 = some res → W p l e (headSpec wsX3_wish (kRm 2 0 0 43)).room s m ([.ref (b 0), .int p0, .int p1] : List Value).toArray below meth c H locs 0 0 (MQ below (kI (dC, dI) .int (res.1) (wMo cJ cZ b mce mfr mun mbe men mov msp (res.2.1) (res.2.2.1) (res.2.2.2.1) (res.2.2.2.2.1) (res.2.2.2.2.2.1) mkn (res.2.2.2.2.2.2)) A) ([.ref (b 0), .int p0, .int p1] : List Value).toArray s 0 0 A) (F0 m 20 ls [.int y0, .ref (b 0)]) := by
    intro mce mfr mun mbe men mov msp mwb mwe mwi mac mre mkn mth x1 x2 y0 H locs hP hD hS ls hl h
    have h := f_X3_wish_20_e.symm.trans h
    obtain ⟨r1, g1, h⟩ := g_b h
    refine kq_i (wMo cJ cZ b mce mfr mun mbe men mov msp mwb mwe mwi mac mre mkn r1.2) (fun qP qD qF => va_runV (As := [.int y0]) (rest := []) ⟨hx, hb, hml, hown, hts⟩ (c_X3_isThrown_ l dC dI cB cI cJ cZ b _ mce mfr mun mbe men mov msp mwb mwe mwi mac mre mkn mth y0 r1 g1) (kcwV hts kw_1166 kv_X3_isThrown_ rfl rfl ⟨(Nat.le_of_ble_eq_true rfl), (Nat.le_of_ble_eq_true rfl)⟩) (kpV (A := A) qP hK qD hG (krecv_5 (q0 := 0) hK hP rfl)) rfl rfl hl.1 rfl (lv_room (Nat.le_of_ble_eq_true rfl)) (kdr dgX3_wish_0 1 0 rfl rfl) ⟨(Nat.le_of_ble_eq_true rfl), (Nat.le_of_ble_eq_true rfl)⟩) hP hD hS hA kFr_Mo (fun H locs hP hD hS br1 => ?_)
    refine lv_if_eq (tgt := 28) hx hb (kdr dgX3_wish_0 1 1 rfl rfl) (by decide) (fun c2 => ?_) (fun c2 => ?_)
    · have h := g_t c2 h
      refine lv_aload_n hx hb (kdr dgX3_wish_0 1 4 rfl rfl) rfl (lv_at hl 0 rfl) ?_
      refine va_get (D := (dC, dI)) (ci := 5) (v := .ref (b 1)) (C := RX3) (T := TX3) (N := 14) hx hb hts hiX3 hown hK hP 0 rfl rfl 0 (by decide) hw0 (fun _ h9 => h9) rfl (kdr dgX3_wish_0 1 5 rfl rfl) ?_
      refine lv_iload_n hx hb (kdr dgX3_wish_0 1 6 rfl rfl) rfl (lv_at hl 1 rfl) ?_
      obtain ⟨z2, h⟩ := g_if h
      refine va_lald hx hb hK hP 1 2 rfl rfl (ix_in z2) (kdr dgX3_wish_0 1 7 rfl rfl) ?_
      refine lv_aload_n hx hb (kdr dgX3_wish_0 1 8 rfl rfl) rfl (lv_at hl 0 rfl) ?_
      refine va_get (D := (dC, dI)) (ci := 5) (v := .ref (b 1)) (C := RX3) (T := TX3) (N := 14) hx hb hts hiX3 hown hK hP 0 rfl rfl 0 (by decide) hw0 (fun _ h9 => h9) rfl (kdr dgX3_wish_0 1 9 rfl rfl) ?_
      refine lv_iload_n hx hb (kdr dgX3_wish_0 2 0 rfl rfl) rfl (lv_at hl 2 rfl) ?_
      obtain ⟨z3, h⟩ := g_if h
      refine va_lald hx hb hK hP 1 2 rfl rfl (ix_in z3) (kdr dgX3_wish_0 2 1 rfl rfl) ?_
      refine kl_ge (pc := 40) (tgt := 53) hx hb (kdr dgX3_wish_0 2 2 rfl rfl) (kdr dgX3_wish_0 2 3 rfl rfl) (by decide) (fun c5 => ?_) (fun c5 => ?_)
      · have h := g_t c5 h
        exact J53 mce mfr mun mbe men mov msp mwb mwe mwi mac mre mkn r1.2 _ _ hP hD hS ls (lv_sub hl [0] rfl) h
      · have h := g_f c5 h
        refine lv_aload_n hx hb (kdr dgX3_wish_0 2 4 rfl rfl) rfl (lv_at hl 0 rfl) ?_
        refine va_get (D := (dC, dI)) (ci := 5) (v := .int mwi) (C := RX3) (T := TX3) (N := 14) hx hb hts hiX3 hown hK hP 0 rfl rfl 9 (by decide) hw1 (fun _ h9 => h9) rfl (kdr dgX3_wish_0 2 5 rfl rfl) ?_
        refine lv_bipush (v := 8) hx hb (kdr dgX3_wish_0 2 6 rfl rfl) (by decide) ?_
        refine lv_icmp_ne (tgt := 58) hx hb (kdr dgX3_wish_0 2 7 rfl rfl) (by decide) (fun c6 => ?_) (fun c6 => ?_)
        · have h := g_f c6 h
          refine lv_aload_n hx hb (kdr dgX3_wish_0 3 1 rfl rfl) rfl (lv_at hl 0 rfl) ?_
          refine va_get (D := (dC, dI)) (ci := 5) (v := .ref (b 5)) (C := RX3) (T := TX3) (N := 14) hx hb hts hiX3 hown hK hP 0 rfl rfl 7 (by decide) hw2 (fun _ h9 => h9) rfl (kdr dgX3_wish_0 3 2 rfl rfl) ?_
          refine lv_aload_n hx hb (kdr dgX3_wish_0 3 3 rfl rfl) rfl (lv_at hl 0 rfl) ?_
          refine va_get (D := (dC, dI)) (ci := 5) (v := .int mwi) (C := RX3) (T := TX3) (N := 14) hx hb hts hiX3 hown hK hP 0 rfl rfl 9 (by decide) hw1 (fun _ h9 => h9) rfl (kdr dgX3_wish_0 3 4 rfl rfl) ?_
          refine lv_aload_n hx hb (kdr dgX3_wish_0 3 5 rfl rfl) rfl (lv_at hl 0 rfl) ?_
          refine va_get (D := (dC, dI)) (ci := 5) (v := .ref (b 1)) (C := RX3) (T := TX3) (N := 14) hx hb hts hiX3 hown hK hP 0 rfl rfl 0 (by decide) hw0 (fun _ h9 => h9) rfl (kdr dgX3_wish_0 3 6 rfl rfl) ?_
          refine lv_iload_n hx hb (kdr dgX3_wish_0 3 7 rfl rfl) rfl (lv_at hl 1 rfl) ?_
          refine va_lald hx hb hK hP 1 2 rfl rfl (ix_in z2) (kdr dgX3_wish_0 3 8 rfl rfl) ?_
          obtain ⟨z6, h⟩ := g_if h
          refine va_last hx hb hK hP hD hS 5 2 rfl rfl (ix_in z6) (kdr dgX3_wish_0 3 9 rfl rfl) (fun H locs hP hD hS => ?_)
          have hP : va_P (dC, dI) vwCl (wMo cJ cZ b mce mfr mun mbe men mov msp (vp_updL mwb mwi.toNatClampNeg (mce x1.toNatClampNeg)) mwe mwi mac mre mkn r1.2) H := hP
          have hD : va_D A (wMo cJ cZ b mce mfr mun mbe men mov msp (vp_updL mwb mwi.toNatClampNeg (mce x1.toNatClampNeg)) mwe mwi mac mre mkn r1.2) := hD
          refine lv_aload_n hx hb (kdr dgX3_wish_0 4 0 rfl rfl) rfl (lv_at hl 0 rfl) ?_
          refine va_get (D := (dC, dI)) (ci := 5) (v := .ref (b 6)) (C := RX3) (T := TX3) (N := 14) hx hb hts hiX3 hown hK hP 0 rfl rfl 8 (by decide) hw3 (fun _ h9 => h9) rfl (kdr dgX3_wish_0 4 1 rfl rfl) ?_
          refine lv_aload_n hx hb (kdr dgX3_wish_0 4 2 rfl rfl) rfl (lv_at hl 0 rfl) ?_
          refine va_get (D := (dC, dI)) (ci := 5) (v := .int mwi) (C := RX3) (T := TX3) (N := 14) hx hb hts hiX3 hown hK hP 0 rfl rfl 9 (by decide) hw1 (fun _ h9 => h9) rfl (kdr dgX3_wish_0 4 3 rfl rfl) ?_
          refine lv_aload_n hx hb (kdr dgX3_wish_0 4 4 rfl rfl) rfl (lv_at hl 0 rfl) ?_
          refine va_get (D := (dC, dI)) (ci := 5) (v := .ref (b 1)) (C := RX3) (T := TX3) (N := 14) hx hb hts hiX3 hown hK hP 0 rfl rfl 0 (by decide) hw0 (fun _ h9 => h9) rfl (kdr dgX3_wish_0 4 5 rfl rfl) ?_
          refine lv_iload_n hx hb (kdr dgX3_wish_0 4 6 rfl rfl) rfl (lv_at hl 2 rfl) ?_
          refine va_lald hx hb hK hP 1 2 rfl rfl (ix_in z3) (kdr dgX3_wish_0 4 7 rfl rfl) ?_
          refine va_last hx hb hK hP hD hS 6 2 rfl rfl (ix_in z6) (kdr dgX3_wish_0 4 8 rfl rfl) (fun H locs hP hD hS => ?_)
          have hP : va_P (dC, dI) vwCl (wMo cJ cZ b mce mfr mun mbe men mov msp (vp_updL mwb mwi.toNatClampNeg (mce x1.toNatClampNeg)) (vp_updL mwe mwi.toNatClampNeg (mce x2.toNatClampNeg)) mwi mac mre mkn r1.2) H := hP
          have hD : va_D A (wMo cJ cZ b mce mfr mun mbe men mov msp (vp_updL mwb mwi.toNatClampNeg (mce x1.toNatClampNeg)) (vp_updL mwe mwi.toNatClampNeg (mce x2.toNatClampNeg)) mwi mac mre mkn r1.2) := hD
          refine lv_aload_n hx hb (kdr dgX3_wish_0 4 9 rfl rfl) rfl (lv_at hl 0 rfl) ?_
          refine lv_dup hx hb (kdr dgX3_wish_0 5 0 rfl rfl) rfl ?_
          refine va_get (D := (dC, dI)) (ci := 5) (v := .int mwi) (C := RX3) (T := TX3) (N := 14) hx hb hts hiX3 hown hK hP 0 rfl rfl 9 (by decide) hw1 (fun _ h9 => h9) rfl (kdr dgX3_wish_0 5 1 rfl rfl) ?_
          refine lv_iconst (v := 1) hx hb (kdr dgX3_wish_0 5 2 rfl rfl) (by decide) ?_
          refine lv_iadd hx hb (kdr dgX3_wish_0 5 3 rfl rfl) ?_
          refine va_put (D := (dC, dI)) (ci := 5) (v := .int (mwi + 1)) (ty := .int) (C := RX3) (T := TX3) (N := 14) hx hb hts hiX3 tyX3 tyX3_ok nmX3 hown hK hP hD hS 0 rfl rfl 9 (by decide) hw1 (fun _ h9 => h9) rfl (by decide +kernel) rfl rfl (Nat.le_of_ble_eq_true rfl) (kdr dgX3_wish_0 5 4 rfl rfl) (fun H locs hP hD hS => ?_)
          have hP : va_P (dC, dI) vwCl (wMo cJ cZ b mce mfr mun mbe men mov msp (vp_updL mwb mwi.toNatClampNeg (mce x1.toNatClampNeg)) (vp_updL mwe mwi.toNatClampNeg (mce x2.toNatClampNeg)) (mwi + 1) mac mre mkn r1.2) H := hP
          have hD : va_D A (wMo cJ cZ b mce mfr mun mbe men mov msp (vp_updL mwb mwi.toNatClampNeg (mce x1.toNatClampNeg)) (vp_updL mwe mwi.toNatClampNeg (mce x2.toNatClampNeg)) (mwi + 1) mac mre mkn r1.2) := hD
          refine lv_aload_n hx hb (kdr dgX3_wish_0 5 5 rfl rfl) rfl (lv_at hl 0 rfl) ?_
          refine lv_aload_n hx hb (kdr dgX3_wish_0 5 6 rfl rfl) rfl (lv_at hl 0 rfl) ?_
          refine va_get (D := (dC, dI)) (ci := 5) (v := .int (mwi + 1)) (C := RX3) (T := TX3) (N := 14) hx hb hts hiX3 hown hK hP 0 rfl rfl 9 (by decide) hw1 (fun _ h9 => h9) rfl (kdr dgX3_wish_0 5 7 rfl rfl) ?_
          refine lv_iconst (v := 1) hx hb (kdr dgX3_wish_0 5 8 rfl rfl) (by decide) ?_
          refine lv_isub hx hb (kdr dgX3_wish_0 5 9 rfl rfl) ?_
          obtain ⟨r8, g8, h⟩ := g_b h
          refine kq_i (wMo cJ cZ b mce mfr mun mbe men mov msp (vp_updL mwb mwi.toNatClampNeg (mce x1.toNatClampNeg)) (vp_updL mwe mwi.toNatClampNeg (mce x2.toNatClampNeg)) (mwi + 1) r8.2 mre mkn r1.2) (fun qP qD qF => va_runV (As := [.int ((mwi + 1) - 1)]) (rest := []) ⟨hx, hb, hml, hown, hts⟩ (c_X3_done l dC dI cB cI cJ cZ b _ mce mfr mun mbe men mov msp (vp_updL mwb mwi.toNatClampNeg (mce x1.toNatClampNeg)) (vp_updL mwe mwi.toNatClampNeg (mce x2.toNatClampNeg)) (mwi + 1) mac mre mkn r1.2 ((mwi + 1) - 1) r8 g8) (kcwV hts kw_1144 kv_X3_done rfl rfl ⟨(Nat.le_of_ble_eq_true rfl), (Nat.le_of_ble_eq_true rfl)⟩) (kpV (A := A) qP hK qD hG (krecv_5 (q0 := 0) hK hP rfl)) rfl rfl hl.1 rfl (lv_room (Nat.le_of_ble_eq_true rfl)) (kdr dgX3_wish_0 6 0 rfl rfl) ⟨(Nat.le_of_ble_eq_true rfl), (Nat.le_of_ble_eq_true rfl)⟩) hP hD hS hA kFr_Mo (fun H locs hP hD hS br8 => ?_)
          have h := Option.some.inj h
          subst h
          exact kret_i (v := r8.1) hx hb hr rfl hlocks hS hP (kdr dgX3_wish_0 6 1 rfl rfl)
        · have h := g_t c6 h
          exact J53 mce mfr mun mbe men mov msp mwb mwe mwi mac mre mkn r1.2 _ _ hP hD hS ls (lv_sub hl [0] rfl) h
    · have h := g_f c2 h
      refine lv_iconst (v := 0) hx hb (kdr dgX3_wish_0 1 2 rfl rfl) (by decide) ?_
      have h := Option.some.inj h
      subst h
      exact kret_i (v := 0) hx hb hr rfl hlocks hS hP (kdr dgX3_wish_0 1 3 rfl rfl)
  have J15 : ∀ (mce : Nat → Int64) (mfr : Int64) (mun : Int64) (mbe : Nat → Int64) (men : Nat → Int64) (mov : Nat → Int32) (msp : Int32) (mwb : Nat → Int64) (mwe : Nat → Int64) (mwi : Int32) (mac : Int32) (mre : Int32) (mkn : Int32) (mth : Int32) (x1 : Int32) (x2 : Int32) (H : Heap) (locs : List Loc), va_P (dC, dI) vwCl (wMo cJ cZ b mce mfr mun mbe men mov msp mwb mwe mwi mac mre mkn mth) H → va_D A (wMo cJ cZ b mce mfr mun mbe men mov msp mwb mwe mwi mac mre mkn mth) → va_S A s.heap H locs → ∀ (ls : Array Slot), lv_has ls 3 (kvA 0 (b 0) (kvI 1 x1 (kvI 2 x2 kvE))) → f_X3_wish_15 mce mwb mwe mwi mac mre x1 x2 = some res → W p l e (headSpec wsX3_wish (kRm 2 0 0 43)).room s m ([.ref (b 0), .int p0, .int p1] : List Value).toArray below meth c H locs 0 0 (MQ below (kI (dC, dI) .int (res.1) (wMo cJ cZ b mce mfr mun mbe men mov msp (res.2.1) (res.2.2.1) (res.2.2.2.1) (res.2.2.2.2.1) (res.2.2.2.2.2.1) mkn (res.2.2.2.2.2.2)) A) ([.ref (b 0), .int p0, .int p1] : List Value).toArray s 0 0 A) (F0 m 15 ls [.ref (b 0)]) := by
    intro mce mfr mun mbe men mov msp mwb mwe mwi mac mre mkn mth x1 x2 H locs hP hD hS ls hl h
    have h := f_X3_wish_15_e.symm.trans h
    refine lv_iconst (v := 1) hx hb (kdr dgX3_wish_0 0 7 rfl rfl) (by decide) ?_
    refine lv_goto (tgt := 20) hx hb (kdr dgX3_wish_0 0 8 rfl rfl) (by decide) ?_
    exact J20 mce mfr mun mbe men mov msp mwb mwe mwi mac mre mkn mth x1 x2 1 _ _ hP hD hS ls (lv_sub hl [0, 1, 2] rfl) h
  have h := f_X3_wish_e.symm.trans hf
  refine lv_aload_n hx hb (kdr dgX3_wish_0 0 0 rfl rfl) rfl (lv_at hl 0 rfl) ?_
  refine lv_iload_n hx hb (kdr dgX3_wish_0 0 1 rfl rfl) rfl (lv_at hl 1 rfl) ?_
  obtain ⟨r1, g1, h⟩ := g_b h
  refine kq_i (wMo cJ cZ b mce mfr mun mbe men mov msp mwb mwe mwi mac mre mkn mth) (fun qP qD qF => va_runS (As := [.int p0]) (rest := [.ref (b 0)]) ⟨hx, hb, hml, hown, hts⟩ (c_X3_is l dC dI cB cI cJ cZ  _  p0 r1 g1) (kcwS hts kw_1119 kv_X3_is rfl rfl ⟨(Nat.le_of_ble_eq_true rfl), (Nat.le_of_ble_eq_true rfl)⟩) (kpS (A := A) (kPnil) hK ((kDnil (A := A))) hG) rfl rfl hl.1 rfl (lv_room (Nat.le_of_ble_eq_true rfl)) (kdr dgX3_wish_0 0 2 rfl rfl) ⟨(Nat.le_of_ble_eq_true rfl), (Nat.le_of_ble_eq_true rfl)⟩) hP hD hS hA kFr_n (fun H locs hP hD hS br1 => ?_)
  refine lv_if_eq (tgt := 15) hx hb (kdr dgX3_wish_0 0 3 rfl rfl) (by decide) (fun c2 => ?_) (fun c2 => ?_)
  · have h := g_t c2 h
    exact J15 mce mfr mun mbe men mov msp mwb mwe mwi mac mre mkn mth p0 p1 _ _ hP hD hS ls (lv_sub hl [0, 1, 2] rfl) h
  · have h := g_f c2 h
    refine lv_iload_n hx hb (kdr dgX3_wish_0 0 4 rfl rfl) rfl (lv_at hl 2 rfl) ?_
    obtain ⟨r3, g3, h⟩ := g_b h
    refine kq_i (wMo cJ cZ b mce mfr mun mbe men mov msp mwb mwe mwi mac mre mkn mth) (fun qP qD qF => va_runS (As := [.int p1]) (rest := [.ref (b 0)]) ⟨hx, hb, hml, hown, hts⟩ (c_X3_is l dC dI cB cI cJ cZ  _  p1 r3 g3) (kcwS hts kw_1119 kv_X3_is rfl rfl ⟨(Nat.le_of_ble_eq_true rfl), (Nat.le_of_ble_eq_true rfl)⟩) (kpS (A := A) (kPnil) hK ((kDnil (A := A))) hG) rfl rfl hl.1 rfl (lv_room (Nat.le_of_ble_eq_true rfl)) (kdr dgX3_wish_0 0 5 rfl rfl) ⟨(Nat.le_of_ble_eq_true rfl), (Nat.le_of_ble_eq_true rfl)⟩) hP hD hS hA kFr_n (fun H locs hP hD hS br3 => ?_)
    refine lv_if_ne (tgt := 19) hx hb (kdr dgX3_wish_0 0 6 rfl rfl) (by decide) (fun c4 => ?_) (fun c4 => ?_)
    · have h := g_f c4 h
      refine lv_iconst (v := 0) hx hb (kdr dgX3_wish_0 0 9 rfl rfl) (by decide) ?_
      exact J20 mce mfr mun mbe men mov msp mwb mwe mwi mac mre mkn mth p0 p1 0 _ _ hP hD hS ls (lv_sub hl [0, 1, 2] rfl) h
    · have h := g_t c4 h
      exact J15 mce mfr mun mbe men mov msp mwb mwe mwi mac mre mkn mth p0 p1 _ _ hP hD hS ls (lv_sub hl [0, 1, 2] rfl) h
noncomputable abbrev wsX3_gone : List Cond := kWs yX3_gone cX3_gone 3 none
noncomputable def f_X3_gone_12 : Nat → (Nat → Int64) → (Nat → Int64) → (Int32) → (Int32) → Option ((Nat → Int64) × (Nat → Int64) × (Int32))
  | 0, _, _, _, _ => none
  | n + 1, mwb, mwe, mwi, x2 =>
    if mwi ≤ x2 then
      some (mwb, mwe, mwi)
    else
      if ix (x2 + 1) 8 then
        if ix x2 8 then
          f_X3_gone_12 n (vp_updL mwb x2.toNatClampNeg (mwb (x2 + 1).toNatClampNeg)) (vp_updL mwe x2.toNatClampNeg (mwe (x2 + 1).toNatClampNeg)) mwi (x2 + 1)
        else none
      else none
theorem f_X3_gone_12_0 {mwb : Nat → Int64} {mwe : Nat → Int64} {mwi : Int32} {x2 : Int32} : f_X3_gone_12 0 mwb mwe mwi x2 = none := rfl
theorem f_X3_gone_12_s {n : Nat} {mwb : Nat → Int64} {mwe : Nat → Int64} {mwi : Int32} {x2 : Int32} : f_X3_gone_12 (n + 1) mwb mwe mwi x2 =
  if mwi ≤ x2 then
    some (mwb, mwe, mwi)
  else
    if ix (x2 + 1) 8 then
      if ix x2 8 then
        f_X3_gone_12 n (vp_updL mwb x2.toNatClampNeg (mwb (x2 + 1).toNatClampNeg)) (vp_updL mwe x2.toNatClampNeg (mwe (x2 + 1).toNatClampNeg)) mwi (x2 + 1)
      else none
    else none := rfl
noncomputable def f_X3_gone (mwb : Nat → Int64) (mwe : Nat → Int64) (mwi : Int32) (p0 : Int32) : Option ((Nat → Int64) × (Nat → Int64) × (Int32)) :=
  f_X3_gone_12 24 mwb mwe (mwi - 1) p0
theorem f_X3_gone_e {mwb : Nat → Int64} {mwe : Nat → Int64} {mwi : Int32} {p0 : Int32} : f_X3_gone mwb mwe mwi p0 = 
  f_X3_gone_12 24 mwb mwe (mwi - 1) p0 := rfl
set_option maxHeartbeats 4000000 in
set_option maxRecDepth 100000 in
theorem c_X3_gone (l : Launch) (dC : Nat → ClassId) (dI : Nat → Nat → Nat) (cB cI cJ cZ : ClassId) (b : Nat → Nat) (sz : Nat) (mce : Nat → Int64) (mfr : Int64) (mun : Int64) (mbe : Nat → Int64) (men : Nat → Int64) (mov : Nat → Int32) (msp : Int32) (mwb : Nat → Int64) (mwe : Nat → Int64) (mwi : Int32) (mac : Int32) (mre : Int32) (mkn : Int32) (mth : Int32) (p0 : Int32) (res : (Nat → Int64) × (Nat → Int64) × (Int32)) (hf : f_X3_gone mwb mwe mwi p0 = some res) : kMv l yX3_gone wsX3_gone (kRm 0 0 0 0) dC dI cB cI cJ cZ [.ref (b 0), .int p0] sz (wMo cJ cZ b mce mfr mun mbe men mov msp mwb mwe mwi mac mre mkn mth) (wMo cJ cZ b mce mfr mun mbe men mov msp (res.1) (res.2.1) (res.2.2) mac mre mkn mth) 0 0 := by
  refine kmet_v (y := yX3_gone) (cc := cX3_gone) (maxL := 3) (ret := none) RX3 (kvA 0 (b 0) (kvI 1 p0 kvE)) kpl_X3 rfl rfl (Nat.le_of_ble_eq_true rfl) rfl (fun p e s m below meth c A ls hx hb hr hml hts hown hlocks hP hK hG hD hA hS hl => ?_)
  have hw0 := hts (.fieldLink RX3 88 "SpanbookerModel" "wishes" "I") (List.mem_cons_of_mem _ kw_1081)
  have hw1 := hts (.fieldLink RX3 29 "SpanbookerModel" "wishBegins" "[J") (List.mem_cons_of_mem _ kw_1079)
  have hw2 := hts (.fieldLink RX3 32 "SpanbookerModel" "wishEnds" "[J") (List.mem_cons_of_mem _ kw_1080)
  have hiX3 : ∀ w ∈ u_ws RX3 TX3 14, w ∈ wsX3_gone := fun w h => List.mem_cons_of_mem _ (ku_X3 w h)
  have J12 : ∀ (n : Nat), ∀ (mce : Nat → Int64) (mfr : Int64) (mun : Int64) (mbe : Nat → Int64) (men : Nat → Int64) (mov : Nat → Int32) (msp : Int32) (mwb : Nat → Int64) (mwe : Nat → Int64) (mwi : Int32) (mac : Int32) (mre : Int32) (mkn : Int32) (mth : Int32) (x2 : Int32) (H : Heap) (locs : List Loc), va_P (dC, dI) vwCl (wMo cJ cZ b mce mfr mun mbe men mov msp mwb mwe mwi mac mre mkn mth) H → va_D A (wMo cJ cZ b mce mfr mun mbe men mov msp mwb mwe mwi mac mre mkn mth) → va_S A s.heap H locs → ∀ (ls : Array Slot), lv_has ls 3 (kvA 0 (b 0) (kvI 2 x2 kvE)) → f_X3_gone_12 n mwb mwe mwi x2 = some res → W p l e (headSpec wsX3_gone (kRm 0 0 0 0)).room s m ([.ref (b 0), .int p0] : List Value).toArray below meth c H locs 0 0 (MQ below (kV (dC, dI) (wMo cJ cZ b mce mfr mun mbe men mov msp (res.1) (res.2.1) (res.2.2) mac mre mkn mth) A) ([.ref (b 0), .int p0] : List Value).toArray s 0 0 A) (F0 m 12 ls []) := by
    intro n
    induction n with
    | zero =>
      intro mce mfr mun mbe men mov msp mwb mwe mwi mac mre mkn mth x2 H locs hP hD hS ls hl h
      have h := f_X3_gone_12_0.symm.trans h
      cases h
    | succ n ih =>
      intro mce mfr mun mbe men mov msp mwb mwe mwi mac mre mkn mth x2 H locs hP hD hS ls hl h
      have h := f_X3_gone_12_s.symm.trans h
      refine lv_iload_n hx hb (kdr dgX3_gone_0 0 8 rfl rfl) rfl (lv_at hl 1 rfl) ?_
      refine lv_aload_n hx hb (kdr dgX3_gone_0 0 9 rfl rfl) rfl (lv_at hl 0 rfl) ?_
      refine va_get (D := (dC, dI)) (ci := 5) (v := .int mwi) (C := RX3) (T := TX3) (N := 14) hx hb hts hiX3 hown hK hP 0 rfl rfl 9 (by decide) hw0 (fun _ h9 => h9) rfl (kdr dgX3_gone_0 1 0 rfl rfl) ?_
      refine lv_icmp_ge (tgt := 54) hx hb (kdr dgX3_gone_0 1 1 rfl rfl) (by decide) (fun c1 => ?_) (fun c1 => ?_)
      · have h := g_t c1 h
        have h := Option.some.inj h
        subst h
        exact kret_v hx hb hr hlocks hS hP (kdr dgX3_gone_0 3 4 rfl rfl)
      · have h := g_f c1 h
        refine lv_aload_n hx hb (kdr dgX3_gone_0 1 2 rfl rfl) rfl (lv_at hl 0 rfl) ?_
        refine va_get (D := (dC, dI)) (ci := 5) (v := .ref (b 5)) (C := RX3) (T := TX3) (N := 14) hx hb hts hiX3 hown hK hP 0 rfl rfl 7 (by decide) hw1 (fun _ h9 => h9) rfl (kdr dgX3_gone_0 1 3 rfl rfl) ?_
        refine lv_iload_n hx hb (kdr dgX3_gone_0 1 4 rfl rfl) rfl (lv_at hl 1 rfl) ?_
        refine lv_aload_n hx hb (kdr dgX3_gone_0 1 5 rfl rfl) rfl (lv_at hl 0 rfl) ?_
        refine va_get (D := (dC, dI)) (ci := 5) (v := .ref (b 5)) (C := RX3) (T := TX3) (N := 14) hx hb hts hiX3 hown hK hP 0 rfl rfl 7 (by decide) hw1 (fun _ h9 => h9) rfl (kdr dgX3_gone_0 1 6 rfl rfl) ?_
        refine lv_iload_n hx hb (kdr dgX3_gone_0 1 7 rfl rfl) rfl (lv_at hl 1 rfl) ?_
        refine lv_iconst (v := 1) hx hb (kdr dgX3_gone_0 1 8 rfl rfl) (by decide) ?_
        refine lv_iadd hx hb (kdr dgX3_gone_0 1 9 rfl rfl) ?_
        obtain ⟨z1, h⟩ := g_if h
        refine va_lald hx hb hK hP 5 2 rfl rfl (ix_in z1) (kdr dgX3_gone_0 2 0 rfl rfl) ?_
        obtain ⟨z2, h⟩ := g_if h
        refine va_last hx hb hK hP hD hS 5 2 rfl rfl (ix_in z2) (kdr dgX3_gone_0 2 1 rfl rfl) (fun H locs hP hD hS => ?_)
        have hP : va_P (dC, dI) vwCl (wMo cJ cZ b mce mfr mun mbe men mov msp (vp_updL mwb x2.toNatClampNeg (mwb (x2 + 1).toNatClampNeg)) mwe mwi mac mre mkn mth) H := hP
        have hD : va_D A (wMo cJ cZ b mce mfr mun mbe men mov msp (vp_updL mwb x2.toNatClampNeg (mwb (x2 + 1).toNatClampNeg)) mwe mwi mac mre mkn mth) := hD
        refine lv_aload_n hx hb (kdr dgX3_gone_0 2 2 rfl rfl) rfl (lv_at hl 0 rfl) ?_
        refine va_get (D := (dC, dI)) (ci := 5) (v := .ref (b 6)) (C := RX3) (T := TX3) (N := 14) hx hb hts hiX3 hown hK hP 0 rfl rfl 8 (by decide) hw2 (fun _ h9 => h9) rfl (kdr dgX3_gone_0 2 3 rfl rfl) ?_
        refine lv_iload_n hx hb (kdr dgX3_gone_0 2 4 rfl rfl) rfl (lv_at hl 1 rfl) ?_
        refine lv_aload_n hx hb (kdr dgX3_gone_0 2 5 rfl rfl) rfl (lv_at hl 0 rfl) ?_
        refine va_get (D := (dC, dI)) (ci := 5) (v := .ref (b 6)) (C := RX3) (T := TX3) (N := 14) hx hb hts hiX3 hown hK hP 0 rfl rfl 8 (by decide) hw2 (fun _ h9 => h9) rfl (kdr dgX3_gone_0 2 6 rfl rfl) ?_
        refine lv_iload_n hx hb (kdr dgX3_gone_0 2 7 rfl rfl) rfl (lv_at hl 1 rfl) ?_
        refine lv_iconst (v := 1) hx hb (kdr dgX3_gone_0 2 8 rfl rfl) (by decide) ?_
        refine lv_iadd hx hb (kdr dgX3_gone_0 2 9 rfl rfl) ?_
        refine va_lald hx hb hK hP 6 2 rfl rfl (ix_in z1) (kdr dgX3_gone_0 3 0 rfl rfl) ?_
        refine va_last hx hb hK hP hD hS 6 2 rfl rfl (ix_in z2) (kdr dgX3_gone_0 3 1 rfl rfl) (fun H locs hP hD hS => ?_)
        have hP : va_P (dC, dI) vwCl (wMo cJ cZ b mce mfr mun mbe men mov msp (vp_updL mwb x2.toNatClampNeg (mwb (x2 + 1).toNatClampNeg)) (vp_updL mwe x2.toNatClampNeg (mwe (x2 + 1).toNatClampNeg)) mwi mac mre mkn mth) H := hP
        have hD : va_D A (wMo cJ cZ b mce mfr mun mbe men mov msp (vp_updL mwb x2.toNatClampNeg (mwb (x2 + 1).toNatClampNeg)) (vp_updL mwe x2.toNatClampNeg (mwe (x2 + 1).toNatClampNeg)) mwi mac mre mkn mth) := hD
        refine lv_iinc (v := x2 + 1) (lv' := (kvI 2 (x2 + 1) (kvA 0 (b 0) kvE))) hx hb (kdr dgX3_gone_0 3 2 rfl rfl) hl (k := 1) rfl rfl (by decide) rfl (fun ls hl => ?_)
        refine lv_goto (tgt := 12) hx hb (kdr dgX3_gone_0 3 3 rfl rfl) (by decide) ?_
        exact ih mce mfr mun mbe men mov msp (vp_updL mwb x2.toNatClampNeg (mwb (x2 + 1).toNatClampNeg)) (vp_updL mwe x2.toNatClampNeg (mwe (x2 + 1).toNatClampNeg)) mwi mac mre mkn mth (x2 + 1) _ _ hP hD hS ls (lv_sub hl [1, 0] rfl) h
  have h := f_X3_gone_e.symm.trans hf
  refine lv_aload_n hx hb (kdr dgX3_gone_0 0 0 rfl rfl) rfl (lv_at hl 0 rfl) ?_
  refine lv_dup hx hb (kdr dgX3_gone_0 0 1 rfl rfl) rfl ?_
  refine va_get (D := (dC, dI)) (ci := 5) (v := .int mwi) (C := RX3) (T := TX3) (N := 14) hx hb hts hiX3 hown hK hP 0 rfl rfl 9 (by decide) hw0 (fun _ h9 => h9) rfl (kdr dgX3_gone_0 0 2 rfl rfl) ?_
  refine lv_iconst (v := 1) hx hb (kdr dgX3_gone_0 0 3 rfl rfl) (by decide) ?_
  refine lv_isub hx hb (kdr dgX3_gone_0 0 4 rfl rfl) ?_
  refine va_put (D := (dC, dI)) (ci := 5) (v := .int (mwi - 1)) (ty := .int) (C := RX3) (T := TX3) (N := 14) hx hb hts hiX3 tyX3 tyX3_ok nmX3 hown hK hP hD hS 0 rfl rfl 9 (by decide) hw0 (fun _ h9 => h9) rfl (by decide +kernel) rfl rfl (Nat.le_of_ble_eq_true rfl) (kdr dgX3_gone_0 0 5 rfl rfl) (fun H locs hP hD hS => ?_)
  have hP : va_P (dC, dI) vwCl (wMo cJ cZ b mce mfr mun mbe men mov msp mwb mwe (mwi - 1) mac mre mkn mth) H := hP
  have hD : va_D A (wMo cJ cZ b mce mfr mun mbe men mov msp mwb mwe (mwi - 1) mac mre mkn mth) := hD
  refine lv_iload_n hx hb (kdr dgX3_gone_0 0 6 rfl rfl) rfl (lv_at hl 1 rfl) ?_
  refine lv_istore_n (lv' := (kvI 2 p0 (kvA 0 (b 0) (kvI 1 p0 kvE)))) hx hb (kdr dgX3_gone_0 0 7 rfl rfl) rfl hl (by decide) rfl (fun ls hl => ?_)
  exact J12 24 mce mfr mun mbe men mov msp mwb mwe (mwi - 1) mac mre mkn mth p0 _ _ hP hD hS ls (lv_sub hl [1, 0] rfl) h
noncomputable abbrev wsX3_unwish : List Cond := kWs yX3_unwish cX3_unwish 2 (some .int)
noncomputable def f_X3_unwish_14 (mwb : Nat → Int64) (mwe : Nat → Int64) (mwi : Int32) (mac : Int32) (x1 : Int32) (y0 : Int32) : Option ((Int32) × (Nat → Int64) × (Nat → Int64) × (Int32) × (Int32) × (Int32)) :=
  (f_X3_isThrown_ y0).bind fun r1 =>
  if r1.1 = 0 then
    (f_X3_gone mwb mwe mwi x1).bind fun r3 =>
    (f_X3_done mac r3.2.2).bind fun r4 =>
    some (r4.1, r3.1, r3.2.1, r3.2.2, r4.2, r1.2)
  else
    some (0, mwb, mwe, mwi, mac, r1.2)
theorem f_X3_unwish_14_e {mwb : Nat → Int64} {mwe : Nat → Int64} {mwi : Int32} {mac : Int32} {x1 : Int32} {y0 : Int32} : f_X3_unwish_14 mwb mwe mwi mac x1 y0 =
  (f_X3_isThrown_ y0).bind fun r1 =>
  if r1.1 = 0 then
    (f_X3_gone mwb mwe mwi x1).bind fun r3 =>
    (f_X3_done mac r3.2.2).bind fun r4 =>
    some (r4.1, r3.1, r3.2.1, r3.2.2, r4.2, r1.2)
  else
    some (0, mwb, mwe, mwi, mac, r1.2) := rfl
noncomputable def f_X3_unwish (mwb : Nat → Int64) (mwe : Nat → Int64) (mwi : Int32) (mac : Int32) (p0 : Int32) : Option ((Int32) × (Nat → Int64) × (Nat → Int64) × (Int32) × (Int32) × (Int32)) :=
  (f_X3_isWish mwi p0).bind fun r1 =>
  if r1 = 0 then
    f_X3_unwish_14 mwb mwe mwi mac p0 1
  else
    f_X3_unwish_14 mwb mwe mwi mac p0 0
theorem f_X3_unwish_e {mwb : Nat → Int64} {mwe : Nat → Int64} {mwi : Int32} {mac : Int32} {p0 : Int32} : f_X3_unwish mwb mwe mwi mac p0 = 
  (f_X3_isWish mwi p0).bind fun r1 =>
  if r1 = 0 then
    f_X3_unwish_14 mwb mwe mwi mac p0 1
  else
    f_X3_unwish_14 mwb mwe mwi mac p0 0 := rfl
set_option maxHeartbeats 4000000 in
set_option maxRecDepth 100000 in
theorem c_X3_unwish (l : Launch) (dC : Nat → ClassId) (dI : Nat → Nat → Nat) (cB cI cJ cZ : ClassId) (b : Nat → Nat) (sz : Nat) (mce : Nat → Int64) (mfr : Int64) (mun : Int64) (mbe : Nat → Int64) (men : Nat → Int64) (mov : Nat → Int32) (msp : Int32) (mwb : Nat → Int64) (mwe : Nat → Int64) (mwi : Int32) (mac : Int32) (mre : Int32) (mkn : Int32) (mth : Int32) (p0 : Int32) (res : (Int32) × (Nat → Int64) × (Nat → Int64) × (Int32) × (Int32) × (Int32)) (hf : f_X3_unwish mwb mwe mwi mac p0 = some res) : kMi l yX3_unwish wsX3_unwish (kRm 2 0 0 43) dC dI cB cI cJ cZ [.ref (b 0), .int p0] sz (wMo cJ cZ b mce mfr mun mbe men mov msp mwb mwe mwi mac mre mkn mth) .int (res.1) (wMo cJ cZ b mce mfr mun mbe men mov msp (res.2.1) (res.2.2.1) (res.2.2.2.1) (res.2.2.2.2.1) mre mkn (res.2.2.2.2.2)) 0 0 := by
  refine kmet_i (y := yX3_unwish) (cc := cX3_unwish) (maxL := 2) (ret := (some .int)) RX3 (kvA 0 (b 0) (kvI 1 p0 kvE)) kpl_X3 rfl rfl (Nat.le_of_ble_eq_true rfl) rfl (fun p e s m below meth c A ls hx hb hr hml hts hown hlocks hP hK hG hD hA hS hl => ?_)
  have hw0 := hts (.fieldLink RX3 88 "SpanbookerModel" "wishes" "I") (List.mem_cons_of_mem _ kw_1081)
  have hiX3 : ∀ w ∈ u_ws RX3 TX3 14, w ∈ wsX3_unwish := fun w h => List.mem_cons_of_mem _ (ku_X3 w h)
  have J14 : ∀ (mce : Nat → Int64) (mfr : Int64) (mun : Int64) (mbe : Nat → Int64) (men : Nat → Int64) (mov : Nat → Int32) (msp : Int32) (mwb : Nat → Int64) (mwe : Nat → Int64) (mwi : Int32) (mac : Int32) (mre : Int32) (mkn : Int32) (mth : Int32) (x1 : Int32) (y0 : Int32) (H : Heap) (locs : List Loc), va_P (dC, dI) vwCl (wMo cJ cZ b mce mfr mun mbe men mov msp mwb mwe mwi mac mre mkn mth) H → va_D A (wMo cJ cZ b mce mfr mun mbe men mov msp mwb mwe mwi mac mre mkn mth) → va_S A s.heap H locs → ∀ (ls : Array Slot), lv_has ls 2 (kvA 0 (b 0) (kvI 1 x1 kvE)) → f_X3_unwish_14 mwb mwe mwi mac x1 y0 = some res → W p l e (headSpec wsX3_unwish (kRm 2 0 0 43)).room s m ([.ref (b 0), .int p0] : List Value).toArray below meth c H locs 0 0 (MQ below (kI (dC, dI) .int (res.1) (wMo cJ cZ b mce mfr mun mbe men mov msp (res.2.1) (res.2.2.1) (res.2.2.2.1) (res.2.2.2.2.1) mre mkn (res.2.2.2.2.2)) A) ([.ref (b 0), .int p0] : List Value).toArray s 0 0 A) (F0 m 14 ls [.int y0, .ref (b 0)]) := by
    intro mce mfr mun mbe men mov msp mwb mwe mwi mac mre mkn mth x1 y0 H locs hP hD hS ls hl h
    have h := f_X3_unwish_14_e.symm.trans h
    obtain ⟨r1, g1, h⟩ := g_b h
    refine kq_i (wMo cJ cZ b mce mfr mun mbe men mov msp mwb mwe mwi mac mre mkn r1.2) (fun qP qD qF => va_runV (As := [.int y0]) (rest := []) ⟨hx, hb, hml, hown, hts⟩ (c_X3_isThrown_ l dC dI cB cI cJ cZ b _ mce mfr mun mbe men mov msp mwb mwe mwi mac mre mkn mth y0 r1 g1) (kcwV hts kw_1166 kv_X3_isThrown_ rfl rfl ⟨(Nat.le_of_ble_eq_true rfl), (Nat.le_of_ble_eq_true rfl)⟩) (kpV (A := A) qP hK qD hG (krecv_5 (q0 := 0) hK hP rfl)) rfl rfl hl.1 rfl (lv_room (Nat.le_of_ble_eq_true rfl)) (kdr dgX3_unwish_0 0 8 rfl rfl) ⟨(Nat.le_of_ble_eq_true rfl), (Nat.le_of_ble_eq_true rfl)⟩) hP hD hS hA kFr_Mo (fun H locs hP hD hS br1 => ?_)
    refine lv_if_eq (tgt := 22) hx hb (kdr dgX3_unwish_0 0 9 rfl rfl) (by decide) (fun c2 => ?_) (fun c2 => ?_)
    · have h := g_t c2 h
      refine lv_aload_n hx hb (kdr dgX3_unwish_0 1 2 rfl rfl) rfl (lv_at hl 0 rfl) ?_
      refine lv_iload_n hx hb (kdr dgX3_unwish_0 1 3 rfl rfl) rfl (lv_at hl 1 rfl) ?_
      obtain ⟨r3, g3, h⟩ := g_b h
      refine kq_v (wMo cJ cZ b mce mfr mun mbe men mov msp r3.1 r3.2.1 r3.2.2 mac mre mkn r1.2) (fun qP qD qF => va_runV (As := [.int x1]) (rest := []) ⟨hx, hb, hml, hown, hts⟩ (c_X3_gone l dC dI cB cI cJ cZ b _ mce mfr mun mbe men mov msp mwb mwe mwi mac mre mkn r1.2 x1 r3 g3) (kcwV hts kw_1259 kv_X3_gone rfl rfl ⟨(Nat.le_of_ble_eq_true rfl), (Nat.le_of_ble_eq_true rfl)⟩) (kpV (A := A) qP hK qD hG (krecv_5 (q0 := 0) hK hP rfl)) rfl rfl hl.1 rfl (lv_room (Nat.le_of_ble_eq_true rfl)) (kdr dgX3_unwish_0 1 4 rfl rfl) ⟨(Nat.le_of_ble_eq_true rfl), (Nat.le_of_ble_eq_true rfl)⟩) hP hD hS hA kFr_Mo (fun H locs hP hD hS => ?_)
      refine lv_aload_n hx hb (kdr dgX3_unwish_0 1 5 rfl rfl) rfl (lv_at hl 0 rfl) ?_
      refine lv_aload_n hx hb (kdr dgX3_unwish_0 1 6 rfl rfl) rfl (lv_at hl 0 rfl) ?_
      refine va_get (D := (dC, dI)) (ci := 5) (v := .int r3.2.2) (C := RX3) (T := TX3) (N := 14) hx hb hts hiX3 hown hK hP 0 rfl rfl 9 (by decide) hw0 (fun _ h9 => h9) rfl (kdr dgX3_unwish_0 1 7 rfl rfl) ?_
      obtain ⟨r4, g4, h⟩ := g_b h
      refine kq_i (wMo cJ cZ b mce mfr mun mbe men mov msp r3.1 r3.2.1 r3.2.2 r4.2 mre mkn r1.2) (fun qP qD qF => va_runV (As := [.int r3.2.2]) (rest := []) ⟨hx, hb, hml, hown, hts⟩ (c_X3_done l dC dI cB cI cJ cZ b _ mce mfr mun mbe men mov msp r3.1 r3.2.1 r3.2.2 mac mre mkn r1.2 r3.2.2 r4 g4) (kcwV hts kw_1144 kv_X3_done rfl rfl ⟨(Nat.le_of_ble_eq_true rfl), (Nat.le_of_ble_eq_true rfl)⟩) (kpV (A := A) qP hK qD hG (krecv_5 (q0 := 0) hK hP rfl)) rfl rfl hl.1 rfl (lv_room (Nat.le_of_ble_eq_true rfl)) (kdr dgX3_unwish_0 1 8 rfl rfl) ⟨(Nat.le_of_ble_eq_true rfl), (Nat.le_of_ble_eq_true rfl)⟩) hP hD hS hA kFr_Mo (fun H locs hP hD hS br4 => ?_)
      have h := Option.some.inj h
      subst h
      exact kret_i (v := r4.1) hx hb hr rfl hlocks hS hP (kdr dgX3_unwish_0 1 9 rfl rfl)
    · have h := g_f c2 h
      refine lv_iconst (v := 0) hx hb (kdr dgX3_unwish_0 1 0 rfl rfl) (by decide) ?_
      have h := Option.some.inj h
      subst h
      exact kret_i (v := 0) hx hb hr rfl hlocks hS hP (kdr dgX3_unwish_0 1 1 rfl rfl)
  have h := f_X3_unwish_e.symm.trans hf
  refine lv_aload_n hx hb (kdr dgX3_unwish_0 0 0 rfl rfl) rfl (lv_at hl 0 rfl) ?_
  refine lv_aload_n hx hb (kdr dgX3_unwish_0 0 1 rfl rfl) rfl (lv_at hl 0 rfl) ?_
  refine lv_iload_n hx hb (kdr dgX3_unwish_0 0 2 rfl rfl) rfl (lv_at hl 1 rfl) ?_
  obtain ⟨r1, g1, h⟩ := g_b h
  refine kq_i (wMo cJ cZ b mce mfr mun mbe men mov msp mwb mwe mwi mac mre mkn mth) (fun qP qD qF => va_runV (As := [.int p0]) (rest := [.ref (b 0)]) ⟨hx, hb, hml, hown, hts⟩ (c_X3_isWish l dC dI cB cI cJ cZ b _ mce mfr mun mbe men mov msp mwb mwe mwi mac mre mkn mth p0 r1 g1) (kcwV hts kw_1255 kv_X3_isWish rfl rfl ⟨(Nat.le_of_ble_eq_true rfl), (Nat.le_of_ble_eq_true rfl)⟩) (kpV (A := A) qP hK qD hG (krecv_5 (q0 := 0) hK hP rfl)) rfl rfl hl.1 rfl (lv_room (Nat.le_of_ble_eq_true rfl)) (kdr dgX3_unwish_0 0 3 rfl rfl) ⟨(Nat.le_of_ble_eq_true rfl), (Nat.le_of_ble_eq_true rfl)⟩) hP hD hS hA kFr_Mo (fun H locs hP hD hS br1 => ?_)
  refine lv_if_ne (tgt := 13) hx hb (kdr dgX3_unwish_0 0 4 rfl rfl) (by decide) (fun c2 => ?_) (fun c2 => ?_)
  · have h := g_f c2 h
    refine lv_iconst (v := 0) hx hb (kdr dgX3_unwish_0 0 7 rfl rfl) (by decide) ?_
    exact J14 mce mfr mun mbe men mov msp mwb mwe mwi mac mre mkn mth p0 0 _ _ hP hD hS ls (lv_sub hl [0, 1] rfl) h
  · have h := g_t c2 h
    refine lv_iconst (v := 1) hx hb (kdr dgX3_unwish_0 0 5 rfl rfl) (by decide) ?_
    refine lv_goto (tgt := 14) hx hb (kdr dgX3_unwish_0 0 6 rfl rfl) (by decide) ?_
    exact J14 mce mfr mun mbe men mov msp mwb mwe mwi mac mre mkn mth p0 1 _ _ hP hD hS ls (lv_sub hl [0, 1] rfl) h
noncomputable abbrev wsX3_grant : List Cond := kWs yX3_grant cX3_grant 3 (some .int)
noncomputable def f_X3_grant_14 (mfr : Int64) (mun : Int64) (mbe : Nat → Int64) (men : Nat → Int64) (mov : Nat → Int32) (msp : Int32) (mwb : Nat → Int64) (mwe : Nat → Int64) (mwi : Int32) (mac : Int32) (mre : Int32) (x1 : Int32) (y0 : Int32) : Option ((Int32) × (Nat → Int64) × (Nat → Int64) × (Nat → Int32) × (Int32) × (Nat → Int64) × (Nat → Int64) × (Int32) × (Int32) × (Int32) × (Int32)) :=
  (f_X3_isThrown_ y0).bind fun r1 =>
  if r1.1 = 0 then
    if ix x1 8 then
      (f_X3_mayCome mfr mun mbe men msp (mwb x1.toNatClampNeg) (mwe x1.toNatClampNeg) 0).bind fun r4 =>
      if r4 = 0 then
        (f_X3_no mre).bind fun r6 =>
        some (r6.1, mbe, men, mov, msp, mwb, mwe, mwi, mac, r6.2, r1.2)
      else
        (f_X3_come mbe men mov msp mac (mwb x1.toNatClampNeg) (mwe x1.toNatClampNeg) 0).bind fun r6 =>
        (f_X3_gone mwb mwe mwi x1).bind fun r7 =>
        some (r6.1, r6.2.1, r6.2.2.1, r6.2.2.2.1, r6.2.2.2.2.1, r7.1, r7.2.1, r7.2.2, r6.2.2.2.2.2, mre, r1.2)
    else none
  else
    some (0, mbe, men, mov, msp, mwb, mwe, mwi, mac, mre, r1.2)
theorem f_X3_grant_14_e {mfr : Int64} {mun : Int64} {mbe : Nat → Int64} {men : Nat → Int64} {mov : Nat → Int32} {msp : Int32} {mwb : Nat → Int64} {mwe : Nat → Int64} {mwi : Int32} {mac : Int32} {mre : Int32} {x1 : Int32} {y0 : Int32} : f_X3_grant_14 mfr mun mbe men mov msp mwb mwe mwi mac mre x1 y0 =
  (f_X3_isThrown_ y0).bind fun r1 =>
  if r1.1 = 0 then
    if ix x1 8 then
      (f_X3_mayCome mfr mun mbe men msp (mwb x1.toNatClampNeg) (mwe x1.toNatClampNeg) 0).bind fun r4 =>
      if r4 = 0 then
        (f_X3_no mre).bind fun r6 =>
        some (r6.1, mbe, men, mov, msp, mwb, mwe, mwi, mac, r6.2, r1.2)
      else
        (f_X3_come mbe men mov msp mac (mwb x1.toNatClampNeg) (mwe x1.toNatClampNeg) 0).bind fun r6 =>
        (f_X3_gone mwb mwe mwi x1).bind fun r7 =>
        some (r6.1, r6.2.1, r6.2.2.1, r6.2.2.2.1, r6.2.2.2.2.1, r7.1, r7.2.1, r7.2.2, r6.2.2.2.2.2, mre, r1.2)
    else none
  else
    some (0, mbe, men, mov, msp, mwb, mwe, mwi, mac, mre, r1.2) := rfl
noncomputable def f_X3_grant (mfr : Int64) (mun : Int64) (mbe : Nat → Int64) (men : Nat → Int64) (mov : Nat → Int32) (msp : Int32) (mwb : Nat → Int64) (mwe : Nat → Int64) (mwi : Int32) (mac : Int32) (mre : Int32) (p0 : Int32) : Option ((Int32) × (Nat → Int64) × (Nat → Int64) × (Nat → Int32) × (Int32) × (Nat → Int64) × (Nat → Int64) × (Int32) × (Int32) × (Int32) × (Int32)) :=
  (f_X3_isWish mwi p0).bind fun r1 =>
  if r1 = 0 then
    f_X3_grant_14 mfr mun mbe men mov msp mwb mwe mwi mac mre p0 1
  else
    f_X3_grant_14 mfr mun mbe men mov msp mwb mwe mwi mac mre p0 0
theorem f_X3_grant_e {mfr : Int64} {mun : Int64} {mbe : Nat → Int64} {men : Nat → Int64} {mov : Nat → Int32} {msp : Int32} {mwb : Nat → Int64} {mwe : Nat → Int64} {mwi : Int32} {mac : Int32} {mre : Int32} {p0 : Int32} : f_X3_grant mfr mun mbe men mov msp mwb mwe mwi mac mre p0 = 
  (f_X3_isWish mwi p0).bind fun r1 =>
  if r1 = 0 then
    f_X3_grant_14 mfr mun mbe men mov msp mwb mwe mwi mac mre p0 1
  else
    f_X3_grant_14 mfr mun mbe men mov msp mwb mwe mwi mac mre p0 0 := rfl
set_option maxHeartbeats 4000000 in
set_option maxRecDepth 100000 in
theorem c_X3_grant (l : Launch) (dC : Nat → ClassId) (dI : Nat → Nat → Nat) (cB cI cJ cZ : ClassId) (b : Nat → Nat) (sz : Nat) (mce : Nat → Int64) (mfr : Int64) (mun : Int64) (mbe : Nat → Int64) (men : Nat → Int64) (mov : Nat → Int32) (msp : Int32) (mwb : Nat → Int64) (mwe : Nat → Int64) (mwi : Int32) (mac : Int32) (mre : Int32) (mkn : Int32) (mth : Int32) (p0 : Int32) (res : (Int32) × (Nat → Int64) × (Nat → Int64) × (Nat → Int32) × (Int32) × (Nat → Int64) × (Nat → Int64) × (Int32) × (Int32) × (Int32) × (Int32)) (hf : f_X3_grant mfr mun mbe men mov msp mwb mwe mwi mac mre p0 = some res) : kMi l yX3_grant wsX3_grant (kRm 3 0 0 78) dC dI cB cI cJ cZ [.ref (b 0), .int p0] sz (wMo cJ cZ b mce mfr mun mbe men mov msp mwb mwe mwi mac mre mkn mth) .int (res.1) (wMo cJ cZ b mce mfr mun (res.2.1) (res.2.2.1) (res.2.2.2.1) (res.2.2.2.2.1) (res.2.2.2.2.2.1) (res.2.2.2.2.2.2.1) (res.2.2.2.2.2.2.2.1) (res.2.2.2.2.2.2.2.2.1) (res.2.2.2.2.2.2.2.2.2.1) mkn (res.2.2.2.2.2.2.2.2.2.2)) 0 0 := by
  refine kmet_i (y := yX3_grant) (cc := cX3_grant) (maxL := 3) (ret := (some .int)) RX3 (kvA 0 (b 0) (kvI 1 p0 kvE)) kpl_X3 rfl rfl (Nat.le_of_ble_eq_true rfl) rfl (fun p e s m below meth c A ls hx hb hr hml hts hown hlocks hP hK hG hD hA hS hl => ?_)
  have hw0 := hts (.fieldLink RX3 29 "SpanbookerModel" "wishBegins" "[J") (List.mem_cons_of_mem _ kw_1079)
  have hw1 := hts (.fieldLink RX3 32 "SpanbookerModel" "wishEnds" "[J") (List.mem_cons_of_mem _ kw_1080)
  have hiX3 : ∀ w ∈ u_ws RX3 TX3 14, w ∈ wsX3_grant := fun w h => List.mem_cons_of_mem _ (ku_X3 w h)
  have J14 : ∀ (mce : Nat → Int64) (mfr : Int64) (mun : Int64) (mbe : Nat → Int64) (men : Nat → Int64) (mov : Nat → Int32) (msp : Int32) (mwb : Nat → Int64) (mwe : Nat → Int64) (mwi : Int32) (mac : Int32) (mre : Int32) (mkn : Int32) (mth : Int32) (x1 : Int32) (y0 : Int32) (H : Heap) (locs : List Loc), va_P (dC, dI) vwCl (wMo cJ cZ b mce mfr mun mbe men mov msp mwb mwe mwi mac mre mkn mth) H → va_D A (wMo cJ cZ b mce mfr mun mbe men mov msp mwb mwe mwi mac mre mkn mth) → va_S A s.heap H locs → ∀ (ls : Array Slot), lv_has ls 3 (kvA 0 (b 0) (kvI 1 x1 kvE)) → f_X3_grant_14 mfr mun mbe men mov msp mwb mwe mwi mac mre x1 y0 = some res → W p l e (headSpec wsX3_grant (kRm 3 0 0 78)).room s m ([.ref (b 0), .int p0] : List Value).toArray below meth c H locs 0 0 (MQ below (kI (dC, dI) .int (res.1) (wMo cJ cZ b mce mfr mun (res.2.1) (res.2.2.1) (res.2.2.2.1) (res.2.2.2.2.1) (res.2.2.2.2.2.1) (res.2.2.2.2.2.2.1) (res.2.2.2.2.2.2.2.1) (res.2.2.2.2.2.2.2.2.1) (res.2.2.2.2.2.2.2.2.2.1) mkn (res.2.2.2.2.2.2.2.2.2.2)) A) ([.ref (b 0), .int p0] : List Value).toArray s 0 0 A) (F0 m 14 ls [.int y0, .ref (b 0)]) := by
    intro mce mfr mun mbe men mov msp mwb mwe mwi mac mre mkn mth x1 y0 H locs hP hD hS ls hl h
    have h := f_X3_grant_14_e.symm.trans h
    obtain ⟨r1, g1, h⟩ := g_b h
    refine kq_i (wMo cJ cZ b mce mfr mun mbe men mov msp mwb mwe mwi mac mre mkn r1.2) (fun qP qD qF => va_runV (As := [.int y0]) (rest := []) ⟨hx, hb, hml, hown, hts⟩ (c_X3_isThrown_ l dC dI cB cI cJ cZ b _ mce mfr mun mbe men mov msp mwb mwe mwi mac mre mkn mth y0 r1 g1) (kcwV hts kw_1166 kv_X3_isThrown_ rfl rfl ⟨(Nat.le_of_ble_eq_true rfl), (Nat.le_of_ble_eq_true rfl)⟩) (kpV (A := A) qP hK qD hG (krecv_5 (q0 := 0) hK hP rfl)) rfl rfl hl.1 rfl (lv_room (Nat.le_of_ble_eq_true rfl)) (kdr dgX3_grant_0 0 8 rfl rfl) ⟨(Nat.le_of_ble_eq_true rfl), (Nat.le_of_ble_eq_true rfl)⟩) hP hD hS hA kFr_Mo (fun H locs hP hD hS br1 => ?_)
    refine lv_if_eq (tgt := 22) hx hb (kdr dgX3_grant_0 0 9 rfl rfl) (by decide) (fun c2 => ?_) (fun c2 => ?_)
    · have h := g_t c2 h
      refine lv_aload_n hx hb (kdr dgX3_grant_0 1 2 rfl rfl) rfl (lv_at hl 0 rfl) ?_
      refine lv_aload_n hx hb (kdr dgX3_grant_0 1 3 rfl rfl) rfl (lv_at hl 0 rfl) ?_
      refine va_get (D := (dC, dI)) (ci := 5) (v := .ref (b 5)) (C := RX3) (T := TX3) (N := 14) hx hb hts hiX3 hown hK hP 0 rfl rfl 7 (by decide) hw0 (fun _ h9 => h9) rfl (kdr dgX3_grant_0 1 4 rfl rfl) ?_
      refine lv_iload_n hx hb (kdr dgX3_grant_0 1 5 rfl rfl) rfl (lv_at hl 1 rfl) ?_
      obtain ⟨z2, h⟩ := g_if h
      refine va_lald hx hb hK hP 5 2 rfl rfl (ix_in z2) (kdr dgX3_grant_0 1 6 rfl rfl) ?_
      refine lv_aload_n hx hb (kdr dgX3_grant_0 1 7 rfl rfl) rfl (lv_at hl 0 rfl) ?_
      refine va_get (D := (dC, dI)) (ci := 5) (v := .ref (b 6)) (C := RX3) (T := TX3) (N := 14) hx hb hts hiX3 hown hK hP 0 rfl rfl 8 (by decide) hw1 (fun _ h9 => h9) rfl (kdr dgX3_grant_0 1 8 rfl rfl) ?_
      refine lv_iload_n hx hb (kdr dgX3_grant_0 1 9 rfl rfl) rfl (lv_at hl 1 rfl) ?_
      refine va_lald hx hb hK hP 6 2 rfl rfl (ix_in z2) (kdr dgX3_grant_0 2 0 rfl rfl) ?_
      refine lv_iconst (v := 0) hx hb (kdr dgX3_grant_0 2 1 rfl rfl) (by decide) ?_
      obtain ⟨r4, g4, h⟩ := g_b h
      refine kq_i (wMo cJ cZ b mce mfr mun mbe men mov msp mwb mwe mwi mac mre mkn r1.2) (fun qP qD qF => va_runV (As := [.long (mwb x1.toNatClampNeg), .long (mwe x1.toNatClampNeg), .int 0]) (rest := []) ⟨hx, hb, hml, hown, hts⟩ (c_X3_mayCome l dC dI cB cI cJ cZ b _ mce mfr mun mbe men mov msp mwb mwe mwi mac mre mkn r1.2 (mwb x1.toNatClampNeg) (mwe x1.toNatClampNeg) 0 r4 g4) (kcwV hts kw_1196 kv_X3_mayCome rfl rfl ⟨(Nat.le_of_ble_eq_true rfl), (Nat.le_of_ble_eq_true rfl)⟩) (kpV (A := A) qP hK qD hG (krecv_5 (q0 := 0) hK hP rfl)) rfl rfl hl.1 rfl (lv_room (Nat.le_of_ble_eq_true rfl)) (kdr dgX3_grant_0 2 2 rfl rfl) ⟨(Nat.le_of_ble_eq_true rfl), (Nat.le_of_ble_eq_true rfl)⟩) hP hD hS hA kFr_Mo (fun H locs hP hD hS br4 => ?_)
      refine lv_if_ne (tgt := 47) hx hb (kdr dgX3_grant_0 2 3 rfl rfl) (by decide) (fun c5 => ?_) (fun c5 => ?_)
      · have h := g_f c5 h
        refine lv_aload_n hx hb (kdr dgX3_grant_0 2 7 rfl rfl) rfl (lv_at hl 0 rfl) ?_
        refine lv_aload_n hx hb (kdr dgX3_grant_0 2 8 rfl rfl) rfl (lv_at hl 0 rfl) ?_
        refine va_get (D := (dC, dI)) (ci := 5) (v := .ref (b 5)) (C := RX3) (T := TX3) (N := 14) hx hb hts hiX3 hown hK hP 0 rfl rfl 7 (by decide) hw0 (fun _ h9 => h9) rfl (kdr dgX3_grant_0 2 9 rfl rfl) ?_
        refine lv_iload_n hx hb (kdr dgX3_grant_0 3 0 rfl rfl) rfl (lv_at hl 1 rfl) ?_
        refine va_lald hx hb hK hP 5 2 rfl rfl (ix_in z2) (kdr dgX3_grant_0 3 1 rfl rfl) ?_
        refine lv_aload_n hx hb (kdr dgX3_grant_0 3 2 rfl rfl) rfl (lv_at hl 0 rfl) ?_
        refine va_get (D := (dC, dI)) (ci := 5) (v := .ref (b 6)) (C := RX3) (T := TX3) (N := 14) hx hb hts hiX3 hown hK hP 0 rfl rfl 8 (by decide) hw1 (fun _ h9 => h9) rfl (kdr dgX3_grant_0 3 3 rfl rfl) ?_
        refine lv_iload_n hx hb (kdr dgX3_grant_0 3 4 rfl rfl) rfl (lv_at hl 1 rfl) ?_
        refine va_lald hx hb hK hP 6 2 rfl rfl (ix_in z2) (kdr dgX3_grant_0 3 5 rfl rfl) ?_
        refine lv_iconst (v := 0) hx hb (kdr dgX3_grant_0 3 6 rfl rfl) (by decide) ?_
        obtain ⟨r6, g6, h⟩ := g_b h
        refine kq_i (wMo cJ cZ b mce mfr mun r6.2.1 r6.2.2.1 r6.2.2.2.1 r6.2.2.2.2.1 mwb mwe mwi r6.2.2.2.2.2 mre mkn r1.2) (fun qP qD qF => va_runV (As := [.long (mwb x1.toNatClampNeg), .long (mwe x1.toNatClampNeg), .int 0]) (rest := []) ⟨hx, hb, hml, hown, hts⟩ (c_X3_come l dC dI cB cI cJ cZ b _ mce mfr mun mbe men mov msp mwb mwe mwi mac mre mkn r1.2 (mwb x1.toNatClampNeg) (mwe x1.toNatClampNeg) 0 r6 g6) (kcwV hts kw_1211 kv_X3_come rfl rfl ⟨(Nat.le_of_ble_eq_true rfl), (Nat.le_of_ble_eq_true rfl)⟩) (kpV (A := A) qP hK qD hG (krecv_5 (q0 := 0) hK hP rfl)) rfl rfl hl.1 rfl (lv_room (Nat.le_of_ble_eq_true rfl)) (kdr dgX3_grant_0 3 7 rfl rfl) ⟨(Nat.le_of_ble_eq_true rfl), (Nat.le_of_ble_eq_true rfl)⟩) hP hD hS hA kFr_Mo (fun H locs hP hD hS br6 => ?_)
        refine lv_istore_n (lv' := (kvI 2 r6.1 (kvA 0 (b 0) (kvI 1 x1 kvE)))) hx hb (kdr dgX3_grant_0 3 8 rfl rfl) rfl hl (by decide) rfl (fun ls hl => ?_)
        refine lv_aload_n hx hb (kdr dgX3_grant_0 3 9 rfl rfl) rfl (lv_at hl 1 rfl) ?_
        refine lv_iload_n hx hb (kdr dgX3_grant_0 4 0 rfl rfl) rfl (lv_at hl 2 rfl) ?_
        obtain ⟨r7, g7, h⟩ := g_b h
        refine kq_v (wMo cJ cZ b mce mfr mun r6.2.1 r6.2.2.1 r6.2.2.2.1 r6.2.2.2.2.1 r7.1 r7.2.1 r7.2.2 r6.2.2.2.2.2 mre mkn r1.2) (fun qP qD qF => va_runV (As := [.int x1]) (rest := []) ⟨hx, hb, hml, hown, hts⟩ (c_X3_gone l dC dI cB cI cJ cZ b _ mce mfr mun r6.2.1 r6.2.2.1 r6.2.2.2.1 r6.2.2.2.2.1 mwb mwe mwi r6.2.2.2.2.2 mre mkn r1.2 x1 r7 g7) (kcwV hts kw_1259 kv_X3_gone rfl rfl ⟨(Nat.le_of_ble_eq_true rfl), (Nat.le_of_ble_eq_true rfl)⟩) (kpV (A := A) qP hK qD hG (krecv_5 (q0 := 0) hK hP rfl)) rfl rfl hl.1 rfl (lv_room (Nat.le_of_ble_eq_true rfl)) (kdr dgX3_grant_0 4 1 rfl rfl) ⟨(Nat.le_of_ble_eq_true rfl), (Nat.le_of_ble_eq_true rfl)⟩) hP hD hS hA kFr_Mo (fun H locs hP hD hS => ?_)
        refine lv_iload_n hx hb (kdr dgX3_grant_0 4 2 rfl rfl) rfl (lv_at hl 0 rfl) ?_
        have h := Option.some.inj h
        subst h
        exact kret_i (v := r6.1) hx hb hr rfl hlocks hS hP (kdr dgX3_grant_0 4 3 rfl rfl)
      · have h := g_t c5 h
        refine lv_aload_n hx hb (kdr dgX3_grant_0 2 4 rfl rfl) rfl (lv_at hl 0 rfl) ?_
        obtain ⟨r6, g6, h⟩ := g_b h
        refine kq_i (wMo cJ cZ b mce mfr mun mbe men mov msp mwb mwe mwi mac r6.2 mkn r1.2) (fun qP qD qF => va_runV (As := []) (rest := []) ⟨hx, hb, hml, hown, hts⟩ (c_X3_no l dC dI cB cI cJ cZ b _ mce mfr mun mbe men mov msp mwb mwe mwi mac mre mkn r1.2  r6 g6) (kcwV hts kw_1136 kv_X3_no rfl rfl ⟨(Nat.le_of_ble_eq_true rfl), (Nat.le_of_ble_eq_true rfl)⟩) (kpV (A := A) qP hK qD hG (krecv_5 (q0 := 0) hK hP rfl)) rfl rfl hl.1 rfl (lv_room (Nat.le_of_ble_eq_true rfl)) (kdr dgX3_grant_0 2 5 rfl rfl) ⟨(Nat.le_of_ble_eq_true rfl), (Nat.le_of_ble_eq_true rfl)⟩) hP hD hS hA kFr_Mo (fun H locs hP hD hS br6 => ?_)
        have h := Option.some.inj h
        subst h
        exact kret_i (v := r6.1) hx hb hr rfl hlocks hS hP (kdr dgX3_grant_0 2 6 rfl rfl)
    · have h := g_f c2 h
      refine lv_iconst (v := 0) hx hb (kdr dgX3_grant_0 1 0 rfl rfl) (by decide) ?_
      have h := Option.some.inj h
      subst h
      exact kret_i (v := 0) hx hb hr rfl hlocks hS hP (kdr dgX3_grant_0 1 1 rfl rfl)
  have h := f_X3_grant_e.symm.trans hf
  refine lv_aload_n hx hb (kdr dgX3_grant_0 0 0 rfl rfl) rfl (lv_at hl 0 rfl) ?_
  refine lv_aload_n hx hb (kdr dgX3_grant_0 0 1 rfl rfl) rfl (lv_at hl 0 rfl) ?_
  refine lv_iload_n hx hb (kdr dgX3_grant_0 0 2 rfl rfl) rfl (lv_at hl 1 rfl) ?_
  obtain ⟨r1, g1, h⟩ := g_b h
  refine kq_i (wMo cJ cZ b mce mfr mun mbe men mov msp mwb mwe mwi mac mre mkn mth) (fun qP qD qF => va_runV (As := [.int p0]) (rest := [.ref (b 0)]) ⟨hx, hb, hml, hown, hts⟩ (c_X3_isWish l dC dI cB cI cJ cZ b _ mce mfr mun mbe men mov msp mwb mwe mwi mac mre mkn mth p0 r1 g1) (kcwV hts kw_1255 kv_X3_isWish rfl rfl ⟨(Nat.le_of_ble_eq_true rfl), (Nat.le_of_ble_eq_true rfl)⟩) (kpV (A := A) qP hK qD hG (krecv_5 (q0 := 0) hK hP rfl)) rfl rfl hl.1 rfl (lv_room (Nat.le_of_ble_eq_true rfl)) (kdr dgX3_grant_0 0 3 rfl rfl) ⟨(Nat.le_of_ble_eq_true rfl), (Nat.le_of_ble_eq_true rfl)⟩) hP hD hS hA kFr_Mo (fun H locs hP hD hS br1 => ?_)
  refine lv_if_ne (tgt := 13) hx hb (kdr dgX3_grant_0 0 4 rfl rfl) (by decide) (fun c2 => ?_) (fun c2 => ?_)
  · have h := g_f c2 h
    refine lv_iconst (v := 0) hx hb (kdr dgX3_grant_0 0 7 rfl rfl) (by decide) ?_
    exact J14 mce mfr mun mbe men mov msp mwb mwe mwi mac mre mkn mth p0 0 _ _ hP hD hS ls (lv_sub hl [0, 1] rfl) h
  · have h := g_t c2 h
    refine lv_iconst (v := 1) hx hb (kdr dgX3_grant_0 0 5 rfl rfl) (by decide) ?_
    refine lv_goto (tgt := 14) hx hb (kdr dgX3_grant_0 0 6 rfl rfl) (by decide) ?_
    exact J14 mce mfr mun mbe men mov msp mwb mwe mwi mac mre mkn mth p0 1 _ _ hP hD hS ls (lv_sub hl [0, 1] rfl) h
noncomputable abbrev wsX3_second : List Cond := kWs yX3_second cX3_second 2 (some .int)
noncomputable def f_X3_second_13 (mce : Nat → Int64) (x1 : Int32) (y0 : Int32) : Option ((Int32) × (Int32)) :=
  (f_X3_isThrown_ y0).bind fun r1 =>
  if r1.1 = 0 then
    if ix x1 4 then
      (f_X3_secondOf (mce x1.toNatClampNeg)).bind fun r4 =>
      some (r4, r1.2)
    else none
  else
    some (0, r1.2)
theorem f_X3_second_13_e {mce : Nat → Int64} {x1 : Int32} {y0 : Int32} : f_X3_second_13 mce x1 y0 =
  (f_X3_isThrown_ y0).bind fun r1 =>
  if r1.1 = 0 then
    if ix x1 4 then
      (f_X3_secondOf (mce x1.toNatClampNeg)).bind fun r4 =>
      some (r4, r1.2)
    else none
  else
    some (0, r1.2) := rfl
noncomputable def f_X3_second (mce : Nat → Int64) (p0 : Int32) : Option ((Int32) × (Int32)) :=
  (f_X3_is p0).bind fun r1 =>
  if r1 = 0 then
    f_X3_second_13 mce p0 1
  else
    f_X3_second_13 mce p0 0
theorem f_X3_second_e {mce : Nat → Int64} {p0 : Int32} : f_X3_second mce p0 = 
  (f_X3_is p0).bind fun r1 =>
  if r1 = 0 then
    f_X3_second_13 mce p0 1
  else
    f_X3_second_13 mce p0 0 := rfl
set_option maxHeartbeats 4000000 in
set_option maxRecDepth 100000 in
theorem c_X3_second (l : Launch) (dC : Nat → ClassId) (dI : Nat → Nat → Nat) (cB cI cJ cZ : ClassId) (b : Nat → Nat) (sz : Nat) (mce : Nat → Int64) (mfr : Int64) (mun : Int64) (mbe : Nat → Int64) (men : Nat → Int64) (mov : Nat → Int32) (msp : Int32) (mwb : Nat → Int64) (mwe : Nat → Int64) (mwi : Int32) (mac : Int32) (mre : Int32) (mkn : Int32) (mth : Int32) (p0 : Int32) (res : (Int32) × (Int32)) (hf : f_X3_second mce p0 = some res) : kMi l yX3_second wsX3_second (kRm 2 0 0 43) dC dI cB cI cJ cZ [.ref (b 0), .int p0] sz (wMo cJ cZ b mce mfr mun mbe men mov msp mwb mwe mwi mac mre mkn mth) .int (res.1) (wMo cJ cZ b mce mfr mun mbe men mov msp mwb mwe mwi mac mre mkn (res.2)) 0 0 := by
  refine kmet_i (y := yX3_second) (cc := cX3_second) (maxL := 2) (ret := (some .int)) RX3 (kvA 0 (b 0) (kvI 1 p0 kvE)) kpl_X3 rfl rfl (Nat.le_of_ble_eq_true rfl) rfl (fun p e s m below meth c A ls hx hb hr hml hts hown hlocks hP hK hG hD hA hS hl => ?_)
  have hw0 := hts (.fieldLink RX3 7 "SpanbookerModel" "cells" "[J") (List.mem_cons_of_mem _ kw_1072)
  have hiX3 : ∀ w ∈ u_ws RX3 TX3 14, w ∈ wsX3_second := fun w h => List.mem_cons_of_mem _ (ku_X3 w h)
  have J13 : ∀ (mce : Nat → Int64) (mfr : Int64) (mun : Int64) (mbe : Nat → Int64) (men : Nat → Int64) (mov : Nat → Int32) (msp : Int32) (mwb : Nat → Int64) (mwe : Nat → Int64) (mwi : Int32) (mac : Int32) (mre : Int32) (mkn : Int32) (mth : Int32) (x1 : Int32) (y0 : Int32) (H : Heap) (locs : List Loc), va_P (dC, dI) vwCl (wMo cJ cZ b mce mfr mun mbe men mov msp mwb mwe mwi mac mre mkn mth) H → va_D A (wMo cJ cZ b mce mfr mun mbe men mov msp mwb mwe mwi mac mre mkn mth) → va_S A s.heap H locs → ∀ (ls : Array Slot), lv_has ls 2 (kvA 0 (b 0) (kvI 1 x1 kvE)) → f_X3_second_13 mce x1 y0 = some res → W p l e (headSpec wsX3_second (kRm 2 0 0 43)).room s m ([.ref (b 0), .int p0] : List Value).toArray below meth c H locs 0 0 (MQ below (kI (dC, dI) .int (res.1) (wMo cJ cZ b mce mfr mun mbe men mov msp mwb mwe mwi mac mre mkn (res.2)) A) ([.ref (b 0), .int p0] : List Value).toArray s 0 0 A) (F0 m 13 ls [.int y0, .ref (b 0)]) := by
    intro mce mfr mun mbe men mov msp mwb mwe mwi mac mre mkn mth x1 y0 H locs hP hD hS ls hl h
    have h := f_X3_second_13_e.symm.trans h
    obtain ⟨r1, g1, h⟩ := g_b h
    refine kq_i (wMo cJ cZ b mce mfr mun mbe men mov msp mwb mwe mwi mac mre mkn r1.2) (fun qP qD qF => va_runV (As := [.int y0]) (rest := []) ⟨hx, hb, hml, hown, hts⟩ (c_X3_isThrown_ l dC dI cB cI cJ cZ b _ mce mfr mun mbe men mov msp mwb mwe mwi mac mre mkn mth y0 r1 g1) (kcwV hts kw_1166 kv_X3_isThrown_ rfl rfl ⟨(Nat.le_of_ble_eq_true rfl), (Nat.le_of_ble_eq_true rfl)⟩) (kpV (A := A) qP hK qD hG (krecv_5 (q0 := 0) hK hP rfl)) rfl rfl hl.1 rfl (lv_room (Nat.le_of_ble_eq_true rfl)) (kdr dgX3_second_0 0 7 rfl rfl) ⟨(Nat.le_of_ble_eq_true rfl), (Nat.le_of_ble_eq_true rfl)⟩) hP hD hS hA kFr_Mo (fun H locs hP hD hS br1 => ?_)
    refine lv_if_eq (tgt := 23) hx hb (kdr dgX3_second_0 0 8 rfl rfl) (by decide) (fun c2 => ?_) (fun c2 => ?_)
    · have h := g_t c2 h
      refine lv_aload_n hx hb (kdr dgX3_second_0 1 1 rfl rfl) rfl (lv_at hl 0 rfl) ?_
      refine va_get (D := (dC, dI)) (ci := 5) (v := .ref (b 1)) (C := RX3) (T := TX3) (N := 14) hx hb hts hiX3 hown hK hP 0 rfl rfl 0 (by decide) hw0 (fun _ h9 => h9) rfl (kdr dgX3_second_0 1 2 rfl rfl) ?_
      refine lv_iload_n hx hb (kdr dgX3_second_0 1 3 rfl rfl) rfl (lv_at hl 1 rfl) ?_
      obtain ⟨z2, h⟩ := g_if h
      refine va_lald hx hb hK hP 1 2 rfl rfl (ix_in z2) (kdr dgX3_second_0 1 4 rfl rfl) ?_
      obtain ⟨r4, g4, h⟩ := g_b h
      refine kq_i (wMo cJ cZ b mce mfr mun mbe men mov msp mwb mwe mwi mac mre mkn r1.2) (fun qP qD qF => va_runS (As := [.long (mce x1.toNatClampNeg)]) (rest := []) ⟨hx, hb, hml, hown, hts⟩ (c_X3_secondOf l dC dI cB cI cJ cZ  _  (mce x1.toNatClampNeg) r4 g4) (kcwS hts kw_1140 kv_X3_secondOf rfl rfl ⟨(Nat.le_of_ble_eq_true rfl), (Nat.le_of_ble_eq_true rfl)⟩) (kpS (A := A) (kPnil) hK ((kDnil (A := A))) hG) rfl rfl hl.1 rfl (lv_room (Nat.le_of_ble_eq_true rfl)) (kdr dgX3_second_0 1 5 rfl rfl) ⟨(Nat.le_of_ble_eq_true rfl), (Nat.le_of_ble_eq_true rfl)⟩) hP hD hS hA kFr_n (fun H locs hP hD hS br4 => ?_)
      have h := Option.some.inj h
      subst h
      exact kret_i (v := r4) hx hb hr rfl hlocks hS hP (kdr dgX3_second_0 1 6 rfl rfl)
    · have h := g_f c2 h
      refine lv_iconst (v := 0) hx hb (kdr dgX3_second_0 0 9 rfl rfl) (by decide) ?_
      refine lv_goto (tgt := 32) hx hb (kdr dgX3_second_0 1 0 rfl rfl) (by decide) ?_
      have h := Option.some.inj h
      subst h
      exact kret_i (v := 0) hx hb hr rfl hlocks hS hP (kdr dgX3_second_0 1 6 rfl rfl)
  have h := f_X3_second_e.symm.trans hf
  refine lv_aload_n hx hb (kdr dgX3_second_0 0 0 rfl rfl) rfl (lv_at hl 0 rfl) ?_
  refine lv_iload_n hx hb (kdr dgX3_second_0 0 1 rfl rfl) rfl (lv_at hl 1 rfl) ?_
  obtain ⟨r1, g1, h⟩ := g_b h
  refine kq_i (wMo cJ cZ b mce mfr mun mbe men mov msp mwb mwe mwi mac mre mkn mth) (fun qP qD qF => va_runS (As := [.int p0]) (rest := [.ref (b 0)]) ⟨hx, hb, hml, hown, hts⟩ (c_X3_is l dC dI cB cI cJ cZ  _  p0 r1 g1) (kcwS hts kw_1119 kv_X3_is rfl rfl ⟨(Nat.le_of_ble_eq_true rfl), (Nat.le_of_ble_eq_true rfl)⟩) (kpS (A := A) (kPnil) hK ((kDnil (A := A))) hG) rfl rfl hl.1 rfl (lv_room (Nat.le_of_ble_eq_true rfl)) (kdr dgX3_second_0 0 2 rfl rfl) ⟨(Nat.le_of_ble_eq_true rfl), (Nat.le_of_ble_eq_true rfl)⟩) hP hD hS hA kFr_n (fun H locs hP hD hS br1 => ?_)
  refine lv_if_ne (tgt := 12) hx hb (kdr dgX3_second_0 0 3 rfl rfl) (by decide) (fun c2 => ?_) (fun c2 => ?_)
  · have h := g_f c2 h
    refine lv_iconst (v := 0) hx hb (kdr dgX3_second_0 0 6 rfl rfl) (by decide) ?_
    exact J13 mce mfr mun mbe men mov msp mwb mwe mwi mac mre mkn mth p0 0 _ _ hP hD hS ls (lv_sub hl [0, 1] rfl) h
  · have h := g_t c2 h
    refine lv_iconst (v := 1) hx hb (kdr dgX3_second_0 0 4 rfl rfl) (by decide) ?_
    refine lv_goto (tgt := 13) hx hb (kdr dgX3_second_0 0 5 rfl rfl) (by decide) ?_
    exact J13 mce mfr mun mbe men mov msp mwb mwe mwi mac mre mkn mth p0 1 _ _ hP hD hS ls (lv_sub hl [0, 1] rfl) h
noncomputable abbrev wsX3_nano : List Cond := kWs yX3_nano cX3_nano 2 (some .int)
noncomputable def f_X3_nano_13 (mce : Nat → Int64) (x1 : Int32) (y0 : Int32) : Option ((Int32) × (Int32)) :=
  (f_X3_isThrown_ y0).bind fun r1 =>
  if r1.1 = 0 then
    if ix x1 4 then
      (f_X3_nanoOf (mce x1.toNatClampNeg)).bind fun r4 =>
      some (r4, r1.2)
    else none
  else
    some (0, r1.2)
theorem f_X3_nano_13_e {mce : Nat → Int64} {x1 : Int32} {y0 : Int32} : f_X3_nano_13 mce x1 y0 =
  (f_X3_isThrown_ y0).bind fun r1 =>
  if r1.1 = 0 then
    if ix x1 4 then
      (f_X3_nanoOf (mce x1.toNatClampNeg)).bind fun r4 =>
      some (r4, r1.2)
    else none
  else
    some (0, r1.2) := rfl
noncomputable def f_X3_nano (mce : Nat → Int64) (p0 : Int32) : Option ((Int32) × (Int32)) :=
  (f_X3_is p0).bind fun r1 =>
  if r1 = 0 then
    f_X3_nano_13 mce p0 1
  else
    f_X3_nano_13 mce p0 0
theorem f_X3_nano_e {mce : Nat → Int64} {p0 : Int32} : f_X3_nano mce p0 = 
  (f_X3_is p0).bind fun r1 =>
  if r1 = 0 then
    f_X3_nano_13 mce p0 1
  else
    f_X3_nano_13 mce p0 0 := rfl
set_option maxHeartbeats 4000000 in
set_option maxRecDepth 100000 in
theorem c_X3_nano (l : Launch) (dC : Nat → ClassId) (dI : Nat → Nat → Nat) (cB cI cJ cZ : ClassId) (b : Nat → Nat) (sz : Nat) (mce : Nat → Int64) (mfr : Int64) (mun : Int64) (mbe : Nat → Int64) (men : Nat → Int64) (mov : Nat → Int32) (msp : Int32) (mwb : Nat → Int64) (mwe : Nat → Int64) (mwi : Int32) (mac : Int32) (mre : Int32) (mkn : Int32) (mth : Int32) (p0 : Int32) (res : (Int32) × (Int32)) (hf : f_X3_nano mce p0 = some res) : kMi l yX3_nano wsX3_nano (kRm 2 0 0 43) dC dI cB cI cJ cZ [.ref (b 0), .int p0] sz (wMo cJ cZ b mce mfr mun mbe men mov msp mwb mwe mwi mac mre mkn mth) .int (res.1) (wMo cJ cZ b mce mfr mun mbe men mov msp mwb mwe mwi mac mre mkn (res.2)) 0 0 := by
  refine kmet_i (y := yX3_nano) (cc := cX3_nano) (maxL := 2) (ret := (some .int)) RX3 (kvA 0 (b 0) (kvI 1 p0 kvE)) kpl_X3 rfl rfl (Nat.le_of_ble_eq_true rfl) rfl (fun p e s m below meth c A ls hx hb hr hml hts hown hlocks hP hK hG hD hA hS hl => ?_)
  have hw0 := hts (.fieldLink RX3 7 "SpanbookerModel" "cells" "[J") (List.mem_cons_of_mem _ kw_1072)
  have hiX3 : ∀ w ∈ u_ws RX3 TX3 14, w ∈ wsX3_nano := fun w h => List.mem_cons_of_mem _ (ku_X3 w h)
  have J13 : ∀ (mce : Nat → Int64) (mfr : Int64) (mun : Int64) (mbe : Nat → Int64) (men : Nat → Int64) (mov : Nat → Int32) (msp : Int32) (mwb : Nat → Int64) (mwe : Nat → Int64) (mwi : Int32) (mac : Int32) (mre : Int32) (mkn : Int32) (mth : Int32) (x1 : Int32) (y0 : Int32) (H : Heap) (locs : List Loc), va_P (dC, dI) vwCl (wMo cJ cZ b mce mfr mun mbe men mov msp mwb mwe mwi mac mre mkn mth) H → va_D A (wMo cJ cZ b mce mfr mun mbe men mov msp mwb mwe mwi mac mre mkn mth) → va_S A s.heap H locs → ∀ (ls : Array Slot), lv_has ls 2 (kvA 0 (b 0) (kvI 1 x1 kvE)) → f_X3_nano_13 mce x1 y0 = some res → W p l e (headSpec wsX3_nano (kRm 2 0 0 43)).room s m ([.ref (b 0), .int p0] : List Value).toArray below meth c H locs 0 0 (MQ below (kI (dC, dI) .int (res.1) (wMo cJ cZ b mce mfr mun mbe men mov msp mwb mwe mwi mac mre mkn (res.2)) A) ([.ref (b 0), .int p0] : List Value).toArray s 0 0 A) (F0 m 13 ls [.int y0, .ref (b 0)]) := by
    intro mce mfr mun mbe men mov msp mwb mwe mwi mac mre mkn mth x1 y0 H locs hP hD hS ls hl h
    have h := f_X3_nano_13_e.symm.trans h
    obtain ⟨r1, g1, h⟩ := g_b h
    refine kq_i (wMo cJ cZ b mce mfr mun mbe men mov msp mwb mwe mwi mac mre mkn r1.2) (fun qP qD qF => va_runV (As := [.int y0]) (rest := []) ⟨hx, hb, hml, hown, hts⟩ (c_X3_isThrown_ l dC dI cB cI cJ cZ b _ mce mfr mun mbe men mov msp mwb mwe mwi mac mre mkn mth y0 r1 g1) (kcwV hts kw_1166 kv_X3_isThrown_ rfl rfl ⟨(Nat.le_of_ble_eq_true rfl), (Nat.le_of_ble_eq_true rfl)⟩) (kpV (A := A) qP hK qD hG (krecv_5 (q0 := 0) hK hP rfl)) rfl rfl hl.1 rfl (lv_room (Nat.le_of_ble_eq_true rfl)) (kdr dgX3_nano_0 0 7 rfl rfl) ⟨(Nat.le_of_ble_eq_true rfl), (Nat.le_of_ble_eq_true rfl)⟩) hP hD hS hA kFr_Mo (fun H locs hP hD hS br1 => ?_)
    refine lv_if_eq (tgt := 23) hx hb (kdr dgX3_nano_0 0 8 rfl rfl) (by decide) (fun c2 => ?_) (fun c2 => ?_)
    · have h := g_t c2 h
      refine lv_aload_n hx hb (kdr dgX3_nano_0 1 1 rfl rfl) rfl (lv_at hl 0 rfl) ?_
      refine va_get (D := (dC, dI)) (ci := 5) (v := .ref (b 1)) (C := RX3) (T := TX3) (N := 14) hx hb hts hiX3 hown hK hP 0 rfl rfl 0 (by decide) hw0 (fun _ h9 => h9) rfl (kdr dgX3_nano_0 1 2 rfl rfl) ?_
      refine lv_iload_n hx hb (kdr dgX3_nano_0 1 3 rfl rfl) rfl (lv_at hl 1 rfl) ?_
      obtain ⟨z2, h⟩ := g_if h
      refine va_lald hx hb hK hP 1 2 rfl rfl (ix_in z2) (kdr dgX3_nano_0 1 4 rfl rfl) ?_
      obtain ⟨r4, g4, h⟩ := g_b h
      refine kq_i (wMo cJ cZ b mce mfr mun mbe men mov msp mwb mwe mwi mac mre mkn r1.2) (fun qP qD qF => va_runS (As := [.long (mce x1.toNatClampNeg)]) (rest := []) ⟨hx, hb, hml, hown, hts⟩ (c_X3_nanoOf l dC dI cB cI cJ cZ  _  (mce x1.toNatClampNeg) r4 g4) (kcwS hts kw_1275 kv_X3_nanoOf rfl rfl ⟨(Nat.le_of_ble_eq_true rfl), (Nat.le_of_ble_eq_true rfl)⟩) (kpS (A := A) (kPnil) hK ((kDnil (A := A))) hG) rfl rfl hl.1 rfl (lv_room (Nat.le_of_ble_eq_true rfl)) (kdr dgX3_nano_0 1 5 rfl rfl) ⟨(Nat.le_of_ble_eq_true rfl), (Nat.le_of_ble_eq_true rfl)⟩) hP hD hS hA kFr_n (fun H locs hP hD hS br4 => ?_)
      have h := Option.some.inj h
      subst h
      exact kret_i (v := r4) hx hb hr rfl hlocks hS hP (kdr dgX3_nano_0 1 6 rfl rfl)
    · have h := g_f c2 h
      refine lv_iconst (v := 0) hx hb (kdr dgX3_nano_0 0 9 rfl rfl) (by decide) ?_
      refine lv_goto (tgt := 32) hx hb (kdr dgX3_nano_0 1 0 rfl rfl) (by decide) ?_
      have h := Option.some.inj h
      subst h
      exact kret_i (v := 0) hx hb hr rfl hlocks hS hP (kdr dgX3_nano_0 1 6 rfl rfl)
  have h := f_X3_nano_e.symm.trans hf
  refine lv_aload_n hx hb (kdr dgX3_nano_0 0 0 rfl rfl) rfl (lv_at hl 0 rfl) ?_
  refine lv_iload_n hx hb (kdr dgX3_nano_0 0 1 rfl rfl) rfl (lv_at hl 1 rfl) ?_
  obtain ⟨r1, g1, h⟩ := g_b h
  refine kq_i (wMo cJ cZ b mce mfr mun mbe men mov msp mwb mwe mwi mac mre mkn mth) (fun qP qD qF => va_runS (As := [.int p0]) (rest := [.ref (b 0)]) ⟨hx, hb, hml, hown, hts⟩ (c_X3_is l dC dI cB cI cJ cZ  _  p0 r1 g1) (kcwS hts kw_1119 kv_X3_is rfl rfl ⟨(Nat.le_of_ble_eq_true rfl), (Nat.le_of_ble_eq_true rfl)⟩) (kpS (A := A) (kPnil) hK ((kDnil (A := A))) hG) rfl rfl hl.1 rfl (lv_room (Nat.le_of_ble_eq_true rfl)) (kdr dgX3_nano_0 0 2 rfl rfl) ⟨(Nat.le_of_ble_eq_true rfl), (Nat.le_of_ble_eq_true rfl)⟩) hP hD hS hA kFr_n (fun H locs hP hD hS br1 => ?_)
  refine lv_if_ne (tgt := 12) hx hb (kdr dgX3_nano_0 0 3 rfl rfl) (by decide) (fun c2 => ?_) (fun c2 => ?_)
  · have h := g_f c2 h
    refine lv_iconst (v := 0) hx hb (kdr dgX3_nano_0 0 6 rfl rfl) (by decide) ?_
    exact J13 mce mfr mun mbe men mov msp mwb mwe mwi mac mre mkn mth p0 0 _ _ hP hD hS ls (lv_sub hl [0, 1] rfl) h
  · have h := g_t c2 h
    refine lv_iconst (v := 1) hx hb (kdr dgX3_nano_0 0 4 rfl rfl) (by decide) ?_
    refine lv_goto (tgt := 13) hx hb (kdr dgX3_nano_0 0 5 rfl rfl) (by decide) ?_
    exact J13 mce mfr mun mbe men mov msp mwb mwe mwi mac mre mkn mth p0 1 _ _ hP hD hS ls (lv_sub hl [0, 1] rfl) h
noncomputable abbrev wsX3_areNone : List Cond := kWs yX3_areNone cX3_areNone 3 (some .boolean)
noncomputable def f_X3_areNone_20 (y0 : Int32) : Option ((Int32) × (Int32)) :=
  (f_X3_isThrown_ y0).bind fun r1 =>
  some (r1.1, r1.2)
theorem f_X3_areNone_20_e {y0 : Int32} : f_X3_areNone_20 y0 =
  (f_X3_isThrown_ y0).bind fun r1 =>
  some (r1.1, r1.2) := rfl
noncomputable def f_X3_areNone_15 : Option ((Int32) × (Int32)) :=
  f_X3_areNone_20 1
theorem f_X3_areNone_15_e : f_X3_areNone_15 =
  f_X3_areNone_20 1 := rfl
noncomputable def f_X3_areNone (p0 : Int32) (p1 : Int32) : Option ((Int32) × (Int32)) :=
  (f_X3_is p0).bind fun r1 =>
  if r1 = 0 then
    f_X3_areNone_15
  else
    (f_X3_is p1).bind fun r3 =>
    if r3 = 0 then
      f_X3_areNone_15
    else
      f_X3_areNone_20 0
theorem f_X3_areNone_e {p0 : Int32} {p1 : Int32} : f_X3_areNone p0 p1 = 
  (f_X3_is p0).bind fun r1 =>
  if r1 = 0 then
    f_X3_areNone_15
  else
    (f_X3_is p1).bind fun r3 =>
    if r3 = 0 then
      f_X3_areNone_15
    else
      f_X3_areNone_20 0 := rfl
set_option maxHeartbeats 4000000 in
set_option maxRecDepth 100000 in
theorem c_X3_areNone (l : Launch) (dC : Nat → ClassId) (dI : Nat → Nat → Nat) (cB cI cJ cZ : ClassId) (b : Nat → Nat) (sz : Nat) (mce : Nat → Int64) (mfr : Int64) (mun : Int64) (mbe : Nat → Int64) (men : Nat → Int64) (mov : Nat → Int32) (msp : Int32) (mwb : Nat → Int64) (mwe : Nat → Int64) (mwi : Int32) (mac : Int32) (mre : Int32) (mkn : Int32) (mth : Int32) (p0 : Int32) (p1 : Int32) (res : (Int32) × (Int32)) (hf : f_X3_areNone p0 p1 = some res) : kMi l yX3_areNone wsX3_areNone (kRm 2 0 0 43) dC dI cB cI cJ cZ [.ref (b 0), .int p0, .int p1] sz (wMo cJ cZ b mce mfr mun mbe men mov msp mwb mwe mwi mac mre mkn mth) .boolean (res.1) (wMo cJ cZ b mce mfr mun mbe men mov msp mwb mwe mwi mac mre mkn (res.2)) 0 0 := by
  refine kmet_i (y := yX3_areNone) (cc := cX3_areNone) (maxL := 3) (ret := (some .boolean)) RX3 (kvA 0 (b 0) (kvI 1 p0 (kvI 2 p1 kvE))) kpl_X3 rfl rfl (Nat.le_of_ble_eq_true rfl) rfl (fun p e s m below meth c A ls hx hb hr hml hts hown hlocks hP hK hG hD hA hS hl => ?_)
  have J20 : ∀ (mce : Nat → Int64) (mfr : Int64) (mun : Int64) (mbe : Nat → Int64) (men : Nat → Int64) (mov : Nat → Int32) (msp : Int32) (mwb : Nat → Int64) (mwe : Nat → Int64) (mwi : Int32) (mac : Int32) (mre : Int32) (mkn : Int32) (mth : Int32) (y0 : Int32) (H : Heap) (locs : List Loc), va_P (dC, dI) vwCl (wMo cJ cZ b mce mfr mun mbe men mov msp mwb mwe mwi mac mre mkn mth) H → va_D A (wMo cJ cZ b mce mfr mun mbe men mov msp mwb mwe mwi mac mre mkn mth) → va_S A s.heap H locs → ∀ (ls : Array Slot), lv_has ls 3 kvE → f_X3_areNone_20 y0 = some res → W p l e (headSpec wsX3_areNone (kRm 2 0 0 43)).room s m ([.ref (b 0), .int p0, .int p1] : List Value).toArray below meth c H locs 0 0 (MQ below (kI (dC, dI) .boolean (res.1) (wMo cJ cZ b mce mfr mun mbe men mov msp mwb mwe mwi mac mre mkn (res.2)) A) ([.ref (b 0), .int p0, .int p1] : List Value).toArray s 0 0 A) (F0 m 20 ls [.int y0, .ref (b 0)]) := by
    intro mce mfr mun mbe men mov msp mwb mwe mwi mac mre mkn mth y0 H locs hP hD hS ls hl h
    have h := f_X3_areNone_20_e.symm.trans h
    obtain ⟨r1, g1, h⟩ := g_b h
    refine kq_i (wMo cJ cZ b mce mfr mun mbe men mov msp mwb mwe mwi mac mre mkn r1.2) (fun qP qD qF => va_runV (As := [.int y0]) (rest := []) ⟨hx, hb, hml, hown, hts⟩ (c_X3_isThrown_ l dC dI cB cI cJ cZ b _ mce mfr mun mbe men mov msp mwb mwe mwi mac mre mkn mth y0 r1 g1) (kcwV hts kw_1166 kv_X3_isThrown_ rfl rfl ⟨(Nat.le_of_ble_eq_true rfl), (Nat.le_of_ble_eq_true rfl)⟩) (kpV (A := A) qP hK qD hG (krecv_5 (q0 := 0) hK hP rfl)) rfl rfl hl.1 rfl (lv_room (Nat.le_of_ble_eq_true rfl)) (kdr dgX3_areNone_0 1 0 rfl rfl) ⟨(Nat.le_of_ble_eq_true rfl), (Nat.le_of_ble_eq_true rfl)⟩) hP hD hS hA kFr_Mo (fun H locs hP hD hS br1 => ?_)
    have h := Option.some.inj h
    subst h
    exact kret_i (v := r1.1) hx hb hr br1 hlocks hS hP (kdr dgX3_areNone_0 1 1 rfl rfl)
  have J15 : ∀ (mce : Nat → Int64) (mfr : Int64) (mun : Int64) (mbe : Nat → Int64) (men : Nat → Int64) (mov : Nat → Int32) (msp : Int32) (mwb : Nat → Int64) (mwe : Nat → Int64) (mwi : Int32) (mac : Int32) (mre : Int32) (mkn : Int32) (mth : Int32) (H : Heap) (locs : List Loc), va_P (dC, dI) vwCl (wMo cJ cZ b mce mfr mun mbe men mov msp mwb mwe mwi mac mre mkn mth) H → va_D A (wMo cJ cZ b mce mfr mun mbe men mov msp mwb mwe mwi mac mre mkn mth) → va_S A s.heap H locs → ∀ (ls : Array Slot), lv_has ls 3 kvE → f_X3_areNone_15  = some res → W p l e (headSpec wsX3_areNone (kRm 2 0 0 43)).room s m ([.ref (b 0), .int p0, .int p1] : List Value).toArray below meth c H locs 0 0 (MQ below (kI (dC, dI) .boolean (res.1) (wMo cJ cZ b mce mfr mun mbe men mov msp mwb mwe mwi mac mre mkn (res.2)) A) ([.ref (b 0), .int p0, .int p1] : List Value).toArray s 0 0 A) (F0 m 15 ls [.ref (b 0)]) := by
    intro mce mfr mun mbe men mov msp mwb mwe mwi mac mre mkn mth H locs hP hD hS ls hl h
    have h := f_X3_areNone_15_e.symm.trans h
    refine lv_iconst (v := 1) hx hb (kdr dgX3_areNone_0 0 7 rfl rfl) (by decide) ?_
    refine lv_goto (tgt := 20) hx hb (kdr dgX3_areNone_0 0 8 rfl rfl) (by decide) ?_
    exact J20 mce mfr mun mbe men mov msp mwb mwe mwi mac mre mkn mth 1 _ _ hP hD hS ls (lv_sub hl [] rfl) h
  have h := f_X3_areNone_e.symm.trans hf
  refine lv_aload_n hx hb (kdr dgX3_areNone_0 0 0 rfl rfl) rfl (lv_at hl 0 rfl) ?_
  refine lv_iload_n hx hb (kdr dgX3_areNone_0 0 1 rfl rfl) rfl (lv_at hl 1 rfl) ?_
  obtain ⟨r1, g1, h⟩ := g_b h
  refine kq_i (wMo cJ cZ b mce mfr mun mbe men mov msp mwb mwe mwi mac mre mkn mth) (fun qP qD qF => va_runS (As := [.int p0]) (rest := [.ref (b 0)]) ⟨hx, hb, hml, hown, hts⟩ (c_X3_is l dC dI cB cI cJ cZ  _  p0 r1 g1) (kcwS hts kw_1119 kv_X3_is rfl rfl ⟨(Nat.le_of_ble_eq_true rfl), (Nat.le_of_ble_eq_true rfl)⟩) (kpS (A := A) (kPnil) hK ((kDnil (A := A))) hG) rfl rfl hl.1 rfl (lv_room (Nat.le_of_ble_eq_true rfl)) (kdr dgX3_areNone_0 0 2 rfl rfl) ⟨(Nat.le_of_ble_eq_true rfl), (Nat.le_of_ble_eq_true rfl)⟩) hP hD hS hA kFr_n (fun H locs hP hD hS br1 => ?_)
  refine lv_if_eq (tgt := 15) hx hb (kdr dgX3_areNone_0 0 3 rfl rfl) (by decide) (fun c2 => ?_) (fun c2 => ?_)
  · have h := g_t c2 h
    exact J15 mce mfr mun mbe men mov msp mwb mwe mwi mac mre mkn mth _ _ hP hD hS ls (lv_sub hl [] rfl) h
  · have h := g_f c2 h
    refine lv_iload_n hx hb (kdr dgX3_areNone_0 0 4 rfl rfl) rfl (lv_at hl 2 rfl) ?_
    obtain ⟨r3, g3, h⟩ := g_b h
    refine kq_i (wMo cJ cZ b mce mfr mun mbe men mov msp mwb mwe mwi mac mre mkn mth) (fun qP qD qF => va_runS (As := [.int p1]) (rest := [.ref (b 0)]) ⟨hx, hb, hml, hown, hts⟩ (c_X3_is l dC dI cB cI cJ cZ  _  p1 r3 g3) (kcwS hts kw_1119 kv_X3_is rfl rfl ⟨(Nat.le_of_ble_eq_true rfl), (Nat.le_of_ble_eq_true rfl)⟩) (kpS (A := A) (kPnil) hK ((kDnil (A := A))) hG) rfl rfl hl.1 rfl (lv_room (Nat.le_of_ble_eq_true rfl)) (kdr dgX3_areNone_0 0 5 rfl rfl) ⟨(Nat.le_of_ble_eq_true rfl), (Nat.le_of_ble_eq_true rfl)⟩) hP hD hS hA kFr_n (fun H locs hP hD hS br3 => ?_)
    refine lv_if_ne (tgt := 19) hx hb (kdr dgX3_areNone_0 0 6 rfl rfl) (by decide) (fun c4 => ?_) (fun c4 => ?_)
    · have h := g_f c4 h
      refine lv_iconst (v := 0) hx hb (kdr dgX3_areNone_0 0 9 rfl rfl) (by decide) ?_
      exact J20 mce mfr mun mbe men mov msp mwb mwe mwi mac mre mkn mth 0 _ _ hP hD hS ls (lv_sub hl [] rfl) h
    · have h := g_t c4 h
      exact J15 mce mfr mun mbe men mov msp mwb mwe mwi mac mre mkn mth _ _ hP hD hS ls (lv_sub hl [] rfl) h
noncomputable abbrev wsX3_order : List Cond := kWs yX3_order cX3_order 3 (some .int)
noncomputable def f_X3_order (mce : Nat → Int64) (p0 : Int32) (p1 : Int32) : Option ((Int32) × (Int32)) :=
  (f_X3_areNone p0 p1).bind fun r1 =>
  if r1.1 = 0 then
    if ix p0 4 then
      if ix p1 4 then
        (f_X3_sign ((mce p0.toNatClampNeg) - (mce p1.toNatClampNeg))).bind fun r5 =>
        some (r5, r1.2)
      else none
    else none
  else
    some (0, r1.2)
theorem f_X3_order_e {mce : Nat → Int64} {p0 : Int32} {p1 : Int32} : f_X3_order mce p0 p1 = 
  (f_X3_areNone p0 p1).bind fun r1 =>
  if r1.1 = 0 then
    if ix p0 4 then
      if ix p1 4 then
        (f_X3_sign ((mce p0.toNatClampNeg) - (mce p1.toNatClampNeg))).bind fun r5 =>
        some (r5, r1.2)
      else none
    else none
  else
    some (0, r1.2) := rfl
set_option maxHeartbeats 4000000 in
set_option maxRecDepth 100000 in
theorem c_X3_order (l : Launch) (dC : Nat → ClassId) (dI : Nat → Nat → Nat) (cB cI cJ cZ : ClassId) (b : Nat → Nat) (sz : Nat) (mce : Nat → Int64) (mfr : Int64) (mun : Int64) (mbe : Nat → Int64) (men : Nat → Int64) (mov : Nat → Int32) (msp : Int32) (mwb : Nat → Int64) (mwe : Nat → Int64) (mwi : Int32) (mac : Int32) (mre : Int32) (mkn : Int32) (mth : Int32) (p0 : Int32) (p1 : Int32) (res : (Int32) × (Int32)) (hf : f_X3_order mce p0 p1 = some res) : kMi l yX3_order wsX3_order (kRm 3 0 0 65) dC dI cB cI cJ cZ [.ref (b 0), .int p0, .int p1] sz (wMo cJ cZ b mce mfr mun mbe men mov msp mwb mwe mwi mac mre mkn mth) .int (res.1) (wMo cJ cZ b mce mfr mun mbe men mov msp mwb mwe mwi mac mre mkn (res.2)) 0 0 := by
  refine kmet_i (y := yX3_order) (cc := cX3_order) (maxL := 3) (ret := (some .int)) RX3 (kvA 0 (b 0) (kvI 1 p0 (kvI 2 p1 kvE))) kpl_X3 rfl rfl (Nat.le_of_ble_eq_true rfl) rfl (fun p e s m below meth c A ls hx hb hr hml hts hown hlocks hP hK hG hD hA hS hl => ?_)
  have hw0 := hts (.fieldLink RX3 7 "SpanbookerModel" "cells" "[J") (List.mem_cons_of_mem _ kw_1072)
  have hiX3 : ∀ w ∈ u_ws RX3 TX3 14, w ∈ wsX3_order := fun w h => List.mem_cons_of_mem _ (ku_X3 w h)
  have h := f_X3_order_e.symm.trans hf
  refine lv_aload_n hx hb (kdr dgX3_order_0 0 0 rfl rfl) rfl (lv_at hl 0 rfl) ?_
  refine lv_iload_n hx hb (kdr dgX3_order_0 0 1 rfl rfl) rfl (lv_at hl 1 rfl) ?_
  refine lv_iload_n hx hb (kdr dgX3_order_0 0 2 rfl rfl) rfl (lv_at hl 2 rfl) ?_
  obtain ⟨r1, g1, h⟩ := g_b h
  refine kq_i (wMo cJ cZ b mce mfr mun mbe men mov msp mwb mwe mwi mac mre mkn r1.2) (fun qP qD qF => va_runV (As := [.int p0, .int p1]) (rest := []) ⟨hx, hb, hml, hown, hts⟩ (c_X3_areNone l dC dI cB cI cJ cZ b _ mce mfr mun mbe men mov msp mwb mwe mwi mac mre mkn mth p0 p1 r1 g1) (kcwV hts kw_1293 kv_X3_areNone rfl rfl ⟨(Nat.le_of_ble_eq_true rfl), (Nat.le_of_ble_eq_true rfl)⟩) (kpV (A := A) qP hK qD hG (krecv_5 (q0 := 0) hK hP rfl)) rfl rfl hl.1 rfl (lv_room (Nat.le_of_ble_eq_true rfl)) (kdr dgX3_order_0 0 3 rfl rfl) ⟨(Nat.le_of_ble_eq_true rfl), (Nat.le_of_ble_eq_true rfl)⟩) hP hD hS hA kFr_Mo (fun H locs hP hD hS br1 => ?_)
  refine lv_if_eq (tgt := 13) hx hb (kdr dgX3_order_0 0 4 rfl rfl) (by decide) (fun c2 => ?_) (fun c2 => ?_)
  · have h := g_t c2 h
    refine lv_aload_n hx hb (kdr dgX3_order_0 0 7 rfl rfl) rfl (lv_at hl 0 rfl) ?_
    refine va_get (D := (dC, dI)) (ci := 5) (v := .ref (b 1)) (C := RX3) (T := TX3) (N := 14) hx hb hts hiX3 hown hK hP 0 rfl rfl 0 (by decide) hw0 (fun _ h9 => h9) rfl (kdr dgX3_order_0 0 8 rfl rfl) ?_
    refine lv_iload_n hx hb (kdr dgX3_order_0 0 9 rfl rfl) rfl (lv_at hl 1 rfl) ?_
    obtain ⟨z2, h⟩ := g_if h
    refine va_lald hx hb hK hP 1 2 rfl rfl (ix_in z2) (kdr dgX3_order_0 1 0 rfl rfl) ?_
    refine lv_aload_n hx hb (kdr dgX3_order_0 1 1 rfl rfl) rfl (lv_at hl 0 rfl) ?_
    refine va_get (D := (dC, dI)) (ci := 5) (v := .ref (b 1)) (C := RX3) (T := TX3) (N := 14) hx hb hts hiX3 hown hK hP 0 rfl rfl 0 (by decide) hw0 (fun _ h9 => h9) rfl (kdr dgX3_order_0 1 2 rfl rfl) ?_
    refine lv_iload_n hx hb (kdr dgX3_order_0 1 3 rfl rfl) rfl (lv_at hl 2 rfl) ?_
    obtain ⟨z3, h⟩ := g_if h
    refine va_lald hx hb hK hP 1 2 rfl rfl (ix_in z3) (kdr dgX3_order_0 1 4 rfl rfl) ?_
    refine lv_lsub hx hb (kdr dgX3_order_0 1 5 rfl rfl) ?_
    obtain ⟨r5, g5, h⟩ := g_b h
    refine kq_i (wMo cJ cZ b mce mfr mun mbe men mov msp mwb mwe mwi mac mre mkn r1.2) (fun qP qD qF => va_runS (As := [.long ((mce p0.toNatClampNeg) - (mce p1.toNatClampNeg))]) (rest := []) ⟨hx, hb, hml, hown, hts⟩ (c_X3_sign l dC dI cB cI cJ cZ  _  ((mce p0.toNatClampNeg) - (mce p1.toNatClampNeg)) r5 g5) (kcwS hts kw_1159 kv_X3_sign rfl rfl ⟨(Nat.le_of_ble_eq_true rfl), (Nat.le_of_ble_eq_true rfl)⟩) (kpS (A := A) (kPnil) hK ((kDnil (A := A))) hG) rfl rfl hl.1 rfl (lv_room (Nat.le_of_ble_eq_true rfl)) (kdr dgX3_order_0 1 6 rfl rfl) ⟨(Nat.le_of_ble_eq_true rfl), (Nat.le_of_ble_eq_true rfl)⟩) hP hD hS hA kFr_n (fun H locs hP hD hS br5 => ?_)
    have h := Option.some.inj h
    subst h
    exact kret_i (v := r5) hx hb hr rfl hlocks hS hP (kdr dgX3_order_0 1 7 rfl rfl)
  · have h := g_f c2 h
    refine lv_iconst (v := 0) hx hb (kdr dgX3_order_0 0 5 rfl rfl) (by decide) ?_
    refine lv_goto (tgt := 29) hx hb (kdr dgX3_order_0 0 6 rfl rfl) (by decide) ?_
    have h := Option.some.inj h
    subst h
    exact kret_i (v := 0) hx hb hr rfl hlocks hS hP (kdr dgX3_order_0 1 7 rfl rfl)
noncomputable abbrev wsX3_isBefore : List Cond := kWs yX3_isBefore cX3_isBefore 3 (some .boolean)
noncomputable def f_X3_isBefore (mce : Nat → Int64) (p0 : Int32) (p1 : Int32) : Option ((Int32) × (Int32)) :=
  (f_X3_areNone p0 p1).bind fun r1 =>
  if r1.1 = 0 then
    if ix p0 4 then
      if ix p1 4 then
        if (mce p1.toNatClampNeg) ≤ (mce p0.toNatClampNeg) then
          some (0, r1.2)
        else
          some (1, r1.2)
      else none
    else none
  else
    some (0, r1.2)
theorem f_X3_isBefore_e {mce : Nat → Int64} {p0 : Int32} {p1 : Int32} : f_X3_isBefore mce p0 p1 = 
  (f_X3_areNone p0 p1).bind fun r1 =>
  if r1.1 = 0 then
    if ix p0 4 then
      if ix p1 4 then
        if (mce p1.toNatClampNeg) ≤ (mce p0.toNatClampNeg) then
          some (0, r1.2)
        else
          some (1, r1.2)
      else none
    else none
  else
    some (0, r1.2) := rfl
set_option maxHeartbeats 4000000 in
set_option maxRecDepth 100000 in
theorem c_X3_isBefore (l : Launch) (dC : Nat → ClassId) (dI : Nat → Nat → Nat) (cB cI cJ cZ : ClassId) (b : Nat → Nat) (sz : Nat) (mce : Nat → Int64) (mfr : Int64) (mun : Int64) (mbe : Nat → Int64) (men : Nat → Int64) (mov : Nat → Int32) (msp : Int32) (mwb : Nat → Int64) (mwe : Nat → Int64) (mwi : Int32) (mac : Int32) (mre : Int32) (mkn : Int32) (mth : Int32) (p0 : Int32) (p1 : Int32) (res : (Int32) × (Int32)) (hf : f_X3_isBefore mce p0 p1 = some res) : kMi l yX3_isBefore wsX3_isBefore (kRm 3 0 0 65) dC dI cB cI cJ cZ [.ref (b 0), .int p0, .int p1] sz (wMo cJ cZ b mce mfr mun mbe men mov msp mwb mwe mwi mac mre mkn mth) .boolean (res.1) (wMo cJ cZ b mce mfr mun mbe men mov msp mwb mwe mwi mac mre mkn (res.2)) 0 0 := by
  refine kmet_i (y := yX3_isBefore) (cc := cX3_isBefore) (maxL := 3) (ret := (some .boolean)) RX3 (kvA 0 (b 0) (kvI 1 p0 (kvI 2 p1 kvE))) kpl_X3 rfl rfl (Nat.le_of_ble_eq_true rfl) rfl (fun p e s m below meth c A ls hx hb hr hml hts hown hlocks hP hK hG hD hA hS hl => ?_)
  have hw0 := hts (.fieldLink RX3 7 "SpanbookerModel" "cells" "[J") (List.mem_cons_of_mem _ kw_1072)
  have hiX3 : ∀ w ∈ u_ws RX3 TX3 14, w ∈ wsX3_isBefore := fun w h => List.mem_cons_of_mem _ (ku_X3 w h)
  have h := f_X3_isBefore_e.symm.trans hf
  refine lv_aload_n hx hb (kdr dgX3_isBefore_0 0 0 rfl rfl) rfl (lv_at hl 0 rfl) ?_
  refine lv_iload_n hx hb (kdr dgX3_isBefore_0 0 1 rfl rfl) rfl (lv_at hl 1 rfl) ?_
  refine lv_iload_n hx hb (kdr dgX3_isBefore_0 0 2 rfl rfl) rfl (lv_at hl 2 rfl) ?_
  obtain ⟨r1, g1, h⟩ := g_b h
  refine kq_i (wMo cJ cZ b mce mfr mun mbe men mov msp mwb mwe mwi mac mre mkn r1.2) (fun qP qD qF => va_runV (As := [.int p0, .int p1]) (rest := []) ⟨hx, hb, hml, hown, hts⟩ (c_X3_areNone l dC dI cB cI cJ cZ b _ mce mfr mun mbe men mov msp mwb mwe mwi mac mre mkn mth p0 p1 r1 g1) (kcwV hts kw_1293 kv_X3_areNone rfl rfl ⟨(Nat.le_of_ble_eq_true rfl), (Nat.le_of_ble_eq_true rfl)⟩) (kpV (A := A) qP hK qD hG (krecv_5 (q0 := 0) hK hP rfl)) rfl rfl hl.1 rfl (lv_room (Nat.le_of_ble_eq_true rfl)) (kdr dgX3_isBefore_0 0 3 rfl rfl) ⟨(Nat.le_of_ble_eq_true rfl), (Nat.le_of_ble_eq_true rfl)⟩) hP hD hS hA kFr_Mo (fun H locs hP hD hS br1 => ?_)
  refine lv_if_ne (tgt := 29) hx hb (kdr dgX3_isBefore_0 0 4 rfl rfl) (by decide) (fun c2 => ?_) (fun c2 => ?_)
  · have h := g_f c2 h
    refine lv_iconst (v := 0) hx hb (kdr dgX3_isBefore_0 1 7 rfl rfl) (by decide) ?_
    have h := Option.some.inj h
    subst h
    exact kret_i (v := 0) hx hb hr rfl hlocks hS hP (kdr dgX3_isBefore_0 1 8 rfl rfl)
  · have h := g_t c2 h
    refine lv_aload_n hx hb (kdr dgX3_isBefore_0 0 5 rfl rfl) rfl (lv_at hl 0 rfl) ?_
    refine va_get (D := (dC, dI)) (ci := 5) (v := .ref (b 1)) (C := RX3) (T := TX3) (N := 14) hx hb hts hiX3 hown hK hP 0 rfl rfl 0 (by decide) hw0 (fun _ h9 => h9) rfl (kdr dgX3_isBefore_0 0 6 rfl rfl) ?_
    refine lv_iload_n hx hb (kdr dgX3_isBefore_0 0 7 rfl rfl) rfl (lv_at hl 1 rfl) ?_
    obtain ⟨z2, h⟩ := g_if h
    refine va_lald hx hb hK hP 1 2 rfl rfl (ix_in z2) (kdr dgX3_isBefore_0 0 8 rfl rfl) ?_
    refine lv_aload_n hx hb (kdr dgX3_isBefore_0 0 9 rfl rfl) rfl (lv_at hl 0 rfl) ?_
    refine va_get (D := (dC, dI)) (ci := 5) (v := .ref (b 1)) (C := RX3) (T := TX3) (N := 14) hx hb hts hiX3 hown hK hP 0 rfl rfl 0 (by decide) hw0 (fun _ h9 => h9) rfl (kdr dgX3_isBefore_0 1 0 rfl rfl) ?_
    refine lv_iload_n hx hb (kdr dgX3_isBefore_0 1 1 rfl rfl) rfl (lv_at hl 2 rfl) ?_
    obtain ⟨z3, h⟩ := g_if h
    refine va_lald hx hb hK hP 1 2 rfl rfl (ix_in z3) (kdr dgX3_isBefore_0 1 2 rfl rfl) ?_
    refine kl_ge (pc := 21) (tgt := 29) hx hb (kdr dgX3_isBefore_0 1 3 rfl rfl) (kdr dgX3_isBefore_0 1 4 rfl rfl) (by decide) (fun c5 => ?_) (fun c5 => ?_)
    · have h := g_t c5 h
      refine lv_iconst (v := 0) hx hb (kdr dgX3_isBefore_0 1 7 rfl rfl) (by decide) ?_
      have h := Option.some.inj h
      subst h
      exact kret_i (v := 0) hx hb hr rfl hlocks hS hP (kdr dgX3_isBefore_0 1 8 rfl rfl)
    · have h := g_f c5 h
      refine lv_iconst (v := 1) hx hb (kdr dgX3_isBefore_0 1 5 rfl rfl) (by decide) ?_
      refine lv_goto (tgt := 30) hx hb (kdr dgX3_isBefore_0 1 6 rfl rfl) (by decide) ?_
      have h := Option.some.inj h
      subst h
      exact kret_i (v := 1) hx hb hr rfl hlocks hS hP (kdr dgX3_isBefore_0 1 8 rfl rfl)
end
