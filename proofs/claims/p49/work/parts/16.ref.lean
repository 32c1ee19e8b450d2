-- 16.moc.lean.txt
section
noncomputable abbrev wsX3_isAfter : List Cond := kWs yX3_isAfter cX3_isAfter 3 (some .boolean)
noncomputable def f_X3_isAfter (mce : Nat → Int64) (p0 : Int32) (p1 : Int32) : Option ((Int32) × (Int32)) :=
  (f_X3_areNone p0 p1).bind fun r1 =>
  if r1.1 = 0 then
    if ix p0 4 then
      if ix p1 4 then
        if (mce p0.toNatClampNeg) ≤ (mce p1.toNatClampNeg) then
          some (0, r1.2)
        else
          some (1, r1.2)
      else none
    else none
  else
    some (0, r1.2)
theorem f_X3_isAfter_e {mce : Nat → Int64} {p0 : Int32} {p1 : Int32} : f_X3_isAfter mce p0 p1 = 
  (f_X3_areNone p0 p1).bind fun r1 =>
  if r1.1 = 0 then
    if ix p0 4 then
      if ix p1 4 then
        if (mce p0.toNatClampNeg) ≤ (mce p1.toNatClampNeg) then
          some (0, r1.2)
        else
          some (1, r1.2)
      else none
    else none
  else
    some (0, r1.2) := rfl
set_option maxHeartbeats 4000000 in
set_option maxRecDepth 100000 in
theorem c_X3_isAfter (l : Launch) (dC : Nat → ClassId) (dI : Nat → Nat → Nat) (cB cI cJ cZ : ClassId) (b : Nat → Nat) (sz : Nat) (mce : Nat → Int64) (mfr : Int64) (mun : Int64) (mbe : Nat → Int64) (men : Nat → Int64) (mov : Nat → Int32) (msp : Int32) (mwb : Nat → Int64) (mwe : Nat → Int64) (mwi : Int32) (mac : Int32) (mre : Int32) (mkn : Int32) (mth : Int32) (p0 : Int32) (p1 : Int32) (res : (Int32) × (Int32)) (hf : f_X3_isAfter mce p0 p1 = some res) : kMi l yX3_isAfter wsX3_isAfter (kRm 3 0 0 65) dC dI cB cI cJ cZ [.ref (b 0), .int p0, .int p1] sz (wMo cJ cZ b mce mfr mun mbe men mov msp mwb mwe mwi mac mre mkn mth) .boolean (res.1) (wMo cJ cZ b mce mfr mun mbe men mov msp mwb mwe mwi mac mre mkn (res.2)) 0 0 := by
  refine kmet_i (y := yX3_isAfter) (cc := cX3_isAfter) (maxL := 3) (ret := (some .boolean)) RX3 (kvA 0 (b 0) (kvI 1 p0 (kvI 2 p1 kvE))) kpl_X3 rfl rfl (Nat.le_of_ble_eq_true rfl) rfl (fun p e s m below meth c A ls hx hb hr hml hts hown hlocks hP hK hG hD hA hS hl => ?_)
  have hw0 := hts (.fieldLink RX3 7 "SpanbookerModel" "cells" "[J") (List.mem_cons_of_mem _ kw_1072)
  have hiX3 : ∀ w ∈ u_ws RX3 TX3 14, w ∈ wsX3_isAfter := fun w h => List.mem_cons_of_mem _ (ku_X3 w h)
  have h := f_X3_isAfter_e.symm.trans hf
  refine lv_aload_n hx hb (kdr dgX3_isAfter_0 0 0 rfl rfl) rfl (lv_at hl 0 rfl) ?_
  refine lv_iload_n hx hb (kdr dgX3_isAfter_0 0 1 rfl rfl) rfl (lv_at hl 1 rfl) ?_
  refine lv_iload_n hx hb (kdr dgX3_isAfter_0 0 2 rfl rfl) rfl (lv_at hl 2 rfl) ?_
  obtain ⟨r1, g1, h⟩ := g_b h
  refine kq_i (wMo cJ cZ b mce mfr mun mbe men mov msp mwb mwe mwi mac mre mkn r1.2) (fun qP qD qF => va_runV (As := [.int p0, .int p1]) (rest := []) ⟨hx, hb, hml, hown, hts⟩ (c_X3_areNone l dC dI cB cI cJ cZ b _ mce mfr mun mbe men mov msp mwb mwe mwi mac mre mkn mth p0 p1 r1 g1) (kcwV hts kw_1293 kv_X3_areNone rfl rfl ⟨(Nat.le_of_ble_eq_true rfl), (Nat.le_of_ble_eq_true rfl)⟩) (kpV (A := A) qP hK qD hG (krecv_5 (q0 := 0) hK hP rfl)) rfl rfl hl.1 rfl (lv_room (Nat.le_of_ble_eq_true rfl)) (kdr dgX3_isAfter_0 0 3 rfl rfl) ⟨(Nat.le_of_ble_eq_true rfl), (Nat.le_of_ble_eq_true rfl)⟩) hP hD hS hA kFr_Mo (fun H locs hP hD hS br1 => ?_)
  refine lv_if_ne (tgt := 29) hx hb (kdr dgX3_isAfter_0 0 4 rfl rfl) (by decide) (fun c2 => ?_) (fun c2 => ?_)
  · have h := g_f c2 h
    refine lv_iconst (v := 0) hx hb (kdr dgX3_isAfter_0 1 7 rfl rfl) (by decide) ?_
    have h := Option.some.inj h
    subst h
    exact kret_i (v := 0) hx hb hr rfl hlocks hS hP (kdr dgX3_isAfter_0 1 8 rfl rfl)
  · have h := g_t c2 h
    refine lv_aload_n hx hb (kdr dgX3_isAfter_0 0 5 rfl rfl) rfl (lv_at hl 0 rfl) ?_
    refine va_get (D := (dC, dI)) (ci := 5) (v := .ref (b 1)) (C := RX3) (T := TX3) (N := 14) hx hb hts hiX3 hown hK hP 0 rfl rfl 0 (by decide) hw0 (fun _ h9 => h9) rfl (kdr dgX3_isAfter_0 0 6 rfl rfl) ?_
    refine lv_iload_n hx hb (kdr dgX3_isAfter_0 0 7 rfl rfl) rfl (lv_at hl 1 rfl) ?_
    obtain ⟨z2, h⟩ := g_if h
    refine va_lald hx hb hK hP 1 2 rfl rfl (ix_in z2) (kdr dgX3_isAfter_0 0 8 rfl rfl) ?_
    refine lv_aload_n hx hb (kdr dgX3_isAfter_0 0 9 rfl rfl) rfl (lv_at hl 0 rfl) ?_
    refine va_get (D := (dC, dI)) (ci := 5) (v := .ref (b 1)) (C := RX3) (T := TX3) (N := 14) hx hb hts hiX3 hown hK hP 0 rfl rfl 0 (by decide) hw0 (fun _ h9 => h9) rfl (kdr dgX3_isAfter_0 1 0 rfl rfl) ?_
    refine lv_iload_n hx hb (kdr dgX3_isAfter_0 1 1 rfl rfl) rfl (lv_at hl 2 rfl) ?_
    obtain ⟨z3, h⟩ := g_if h
    refine va_lald hx hb hK hP 1 2 rfl rfl (ix_in z3) (kdr dgX3_isAfter_0 1 2 rfl rfl) ?_
    refine kl_le (pc := 21) (tgt := 29) hx hb (kdr dgX3_isAfter_0 1 3 rfl rfl) (kdr dgX3_isAfter_0 1 4 rfl rfl) (by decide) (fun c5 => ?_) (fun c5 => ?_)
    · have h := g_t c5 h
      refine lv_iconst (v := 0) hx hb (kdr dgX3_isAfter_0 1 7 rfl rfl) (by decide) ?_
      have h := Option.some.inj h
      subst h
      exact kret_i (v := 0) hx hb hr rfl hlocks hS hP (kdr dgX3_isAfter_0 1 8 rfl rfl)
    · have h := g_f c5 h
      refine lv_iconst (v := 1) hx hb (kdr dgX3_isAfter_0 1 5 rfl rfl) (by decide) ?_
      refine lv_goto (tgt := 30) hx hb (kdr dgX3_isAfter_0 1 6 rfl rfl) (by decide) ?_
      have h := Option.some.inj h
      subst h
      exact kret_i (v := 1) hx hb hr rfl hlocks hS hP (kdr dgX3_isAfter_0 1 8 rfl rfl)
noncomputable abbrev wsX3_same : List Cond := kWs yX3_same cX3_same 4 (some .boolean)
noncomputable def f_X3_same_34 (mce : Nat → Int64) (x1 : Int32) (x2 : Int32) (x3 : Int32) (y0 : Int32) (y1 : Int32) : Option ((Int32) × (Int32)) :=
  (f_X3_isThrown y1 y0).bind fun r1 =>
  if r1.1 = 0 then
    if x3 = 2 then
      some (1, r1.2)
    else
      if ix x1 4 then
        if ix x2 4 then
          if (mce x1.toNatClampNeg) = (mce x2.toNatClampNeg) then
            some (1, r1.2)
          else
            some (0, r1.2)
        else none
      else none
  else
    some (0, r1.2)
theorem f_X3_same_34_e {mce : Nat → Int64} {x1 : Int32} {x2 : Int32} {x3 : Int32} {y0 : Int32} {y1 : Int32} : f_X3_same_34 mce x1 x2 x3 y0 y1 =
  (f_X3_isThrown y1 y0).bind fun r1 =>
  if r1.1 = 0 then
    if x3 = 2 then
      some (1, r1.2)
    else
      if ix x1 4 then
        if ix x2 4 then
          if (mce x1.toNatClampNeg) = (mce x2.toNatClampNeg) then
            some (1, r1.2)
          else
            some (0, r1.2)
        else none
      else none
  else
    some (0, r1.2) := rfl
noncomputable def f_X3_same_29 (mce : Nat → Int64) (x1 : Int32) (x2 : Int32) (x3 : Int32) (y0 : Int32) : Option ((Int32) × (Int32)) :=
  f_X3_same_34 mce x1 x2 x3 1 y0
theorem f_X3_same_29_e {mce : Nat → Int64} {x1 : Int32} {x2 : Int32} {x3 : Int32} {y0 : Int32} : f_X3_same_29 mce x1 x2 x3 y0 =
  f_X3_same_34 mce x1 x2 x3 1 y0 := rfl
noncomputable def f_X3_same_20 (mce : Nat → Int64) (x1 : Int32) (x2 : Int32) (x3 : Int32) (y0 : Int32) : Option ((Int32) × (Int32)) :=
  if x3 < 0 then
    f_X3_same_29 mce x1 x2 x3 y0
  else
    if x3 ≤ 2 then
      f_X3_same_34 mce x1 x2 x3 0 y0
    else
      f_X3_same_29 mce x1 x2 x3 y0
theorem f_X3_same_20_e {mce : Nat → Int64} {x1 : Int32} {x2 : Int32} {x3 : Int32} {y0 : Int32} : f_X3_same_20 mce x1 x2 x3 y0 =
  if x3 < 0 then
    f_X3_same_29 mce x1 x2 x3 y0
  else
    if x3 ≤ 2 then
      f_X3_same_34 mce x1 x2 x3 0 y0
    else
      f_X3_same_29 mce x1 x2 x3 y0 := rfl
noncomputable def f_X3_same_15 (mce : Nat → Int64) (x1 : Int32) (x2 : Int32) (x3 : Int32) : Option ((Int32) × (Int32)) :=
  f_X3_same_20 mce x1 x2 x3 1
theorem f_X3_same_15_e {mce : Nat → Int64} {x1 : Int32} {x2 : Int32} {x3 : Int32} : f_X3_same_15 mce x1 x2 x3 =
  f_X3_same_20 mce x1 x2 x3 1 := rfl
noncomputable def f_X3_same (mce : Nat → Int64) (p0 : Int32) (p1 : Int32) (p2 : Int32) : Option ((Int32) × (Int32)) :=
  (f_X3_is p0).bind fun r1 =>
  if r1 = 0 then
    f_X3_same_15 mce p0 p1 p2
  else
    (f_X3_is p1).bind fun r3 =>
    if r3 = 0 then
      f_X3_same_15 mce p0 p1 p2
    else
      f_X3_same_20 mce p0 p1 p2 0
theorem f_X3_same_e {mce : Nat → Int64} {p0 : Int32} {p1 : Int32} {p2 : Int32} : f_X3_same mce p0 p1 p2 = 
  (f_X3_is p0).bind fun r1 =>
  if r1 = 0 then
    f_X3_same_15 mce p0 p1 p2
  else
    (f_X3_is p1).bind fun r3 =>
    if r3 = 0 then
      f_X3_same_15 mce p0 p1 p2
    else
      f_X3_same_20 mce p0 p1 p2 0 := rfl
set_option maxHeartbeats 4000000 in
set_option maxRecDepth 100000 in
theorem c_X3_same (l : Launch) (dC : Nat → ClassId) (dI : Nat → Nat → Nat) (cB cI cJ cZ : ClassId) (b : Nat → Nat) (sz : Nat) (mce : Nat → Int64) (mfr : Int64) (mun : Int64) (mbe : Nat → Int64) (men : Nat → Int64) (mov : Nat → Int32) (msp : Int32) (mwb : Nat → Int64) (mwe : Nat → Int64) (mwi : Int32) (mac : Int32) (mre : Int32) (mkn : Int32) (mth : Int32) (p0 : Int32) (p1 : Int32) (p2 : Int32) (res : (Int32) × (Int32)) (hf : f_X3_same mce p0 p1 p2 = some res) : kMi l yX3_same wsX3_same (kRm 1 0 0 22) dC dI cB cI cJ cZ [.ref (b 0), .int p0, .int p1, .int p2] sz (wMo cJ cZ b mce mfr mun mbe men mov msp mwb mwe mwi mac mre mkn mth) .boolean (res.1) (wMo cJ cZ b mce mfr mun mbe men mov msp mwb mwe mwi mac mre mkn (res.2)) 0 0 := by
  refine kmet_i (y := yX3_same) (cc := cX3_same) (maxL := 4) (ret := (some .boolean)) RX3 (kvA 0 (b 0) (kvI 1 p0 (kvI 2 p1 (kvI 3 p2 kvE)))) kpl_X3 rfl rfl (Nat.le_of_ble_eq_true rfl) rfl (fun p e s m below meth c A ls hx hb hr hml hts hown hlocks hP hK hG hD hA hS hl => ?_)
  have hw0 := hts (.fieldLink RX3 7 "SpanbookerModel" "cells" "[J") (List.mem_cons_of_mem _ kw_1072)
  have hiX3 : ∀ w ∈ u_ws RX3 TX3 14, w ∈ wsX3_same := fun w h => List.mem_cons_of_mem _ (ku_X3 w h)
  have J34 : ∀ (mce : Nat → Int64) (mfr : Int64) (mun : Int64) (mbe : Nat → Int64) (men : Nat → Int64) (mov : Nat → Int32) (msp : Int32) (mwb : Nat → Int64) (mwe : Nat → Int64) (mwi : Int32) (mac : Int32) (mre : Int32) (mkn : Int32) (mth : Int32) (x1 : Int32) (x2 : Int32) (x3 : Int32) (y0 : Int32) (y1 : Int32) (H : Heap) (locs : List Loc), va_P (dC, dI) vwCl (wMo cJ cZ b mce mfr mun mbe men mov msp mwb mwe mwi mac mre mkn mth) H → va_D A (wMo cJ cZ b mce mfr mun mbe men mov msp mwb mwe mwi mac mre mkn mth) → va_S A s.heap H locs → ∀ (ls : Array Slot), lv_has ls 4 (kvA 0 (b 0) (kvI 1 x1 (kvI 2 x2 (kvI 3 x3 kvE)))) → f_X3_same_34 mce x1 x2 x3 y0 y1 = some res → W p l e (headSpec wsX3_same (kRm 1 0 0 22)).room s m ([.ref (b 0), .int p0, .int p1, .int p2] : List Value).toArray below meth c H locs 0 0 (MQ below (kI (dC, dI) .boolean (res.1) (wMo cJ cZ b mce mfr mun mbe men mov msp mwb mwe mwi mac mre mkn (res.2)) A) ([.ref (b 0), .int p0, .int p1, .int p2] : List Value).toArray s 0 0 A) (F0 m 34 ls [.int y0, .int y1, .ref (b 0)]) := by
    intro mce mfr mun mbe men mov msp mwb mwe mwi mac mre mkn mth x1 x2 x3 y0 y1 H locs hP hD hS ls hl h
    have h := f_X3_same_34_e.symm.trans h
    obtain ⟨r1, g1, h⟩ := g_b h
    refine kq_i (wMo cJ cZ b mce mfr mun mbe men mov msp mwb mwe mwi mac mre mkn r1.2) (fun qP qD qF => va_runV (As := [.int y1, .int y0]) (rest := []) ⟨hx, hb, hml, hown, hts⟩ (c_X3_isThrown l dC dI cB cI cJ cZ b _ mce mfr mun mbe men mov msp mwb mwe mwi mac mre mkn mth y1 y0 r1 g1) (kcwV hts kw_1126 kv_X3_isThrown rfl rfl ⟨(Nat.le_of_ble_eq_true rfl), (Nat.le_of_ble_eq_true rfl)⟩) (kpV (A := A) qP hK qD hG (krecv_5 (q0 := 0) hK hP rfl)) rfl rfl hl.1 rfl (lv_room (Nat.le_of_ble_eq_true rfl)) (kdr dgX3_same_0 1 8 rfl rfl) ⟨(Nat.le_of_ble_eq_true rfl), (Nat.le_of_ble_eq_true rfl)⟩) hP hD hS hA kFr_Mo (fun H locs hP hD hS br1 => ?_)
    refine lv_if_ne (tgt := 65) hx hb (kdr dgX3_same_0 1 9 rfl rfl) (by decide) (fun c2 => ?_) (fun c2 => ?_)
    · have h := g_f c2 h
      refine lv_iconst (v := 0) hx hb (kdr dgX3_same_0 3 5 rfl rfl) (by decide) ?_
      have h := Option.some.inj h
      subst h
      exact kret_i (v := 0) hx hb hr rfl hlocks hS hP (kdr dgX3_same_0 3 6 rfl rfl)
    · have h := g_t c2 h
      refine lv_iload_n hx hb (kdr dgX3_same_0 2 0 rfl rfl) rfl (lv_at hl 3 rfl) ?_
      refine lv_iconst (v := 2) hx hb (kdr dgX3_same_0 2 1 rfl rfl) (by decide) ?_
      refine lv_icmp_eq (tgt := 61) hx hb (kdr dgX3_same_0 2 2 rfl rfl) (by decide) (fun c3 => ?_) (fun c3 => ?_)
      · have h := g_t c3 h
        refine lv_iconst (v := 1) hx hb (kdr dgX3_same_0 3 3 rfl rfl) (by decide) ?_
        refine lv_goto (tgt := 66) hx hb (kdr dgX3_same_0 3 4 rfl rfl) (by decide) ?_
        have h := Option.some.inj h
        subst h
        exact kret_i (v := 1) hx hb hr rfl hlocks hS hP (kdr dgX3_same_0 3 6 rfl rfl)
      · have h := g_f c3 h
        refine lv_aload_n hx hb (kdr dgX3_same_0 2 3 rfl rfl) rfl (lv_at hl 0 rfl) ?_
        refine va_get (D := (dC, dI)) (ci := 5) (v := .ref (b 1)) (C := RX3) (T := TX3) (N := 14) hx hb hts hiX3 hown hK hP 0 rfl rfl 0 (by decide) hw0 (fun _ h9 => h9) rfl (kdr dgX3_same_0 2 4 rfl rfl) ?_
        refine lv_iload_n hx hb (kdr dgX3_same_0 2 5 rfl rfl) rfl (lv_at hl 1 rfl) ?_
        obtain ⟨z3, h⟩ := g_if h
        refine va_lald hx hb hK hP 1 2 rfl rfl (ix_in z3) (kdr dgX3_same_0 2 6 rfl rfl) ?_
        refine lv_aload_n hx hb (kdr dgX3_same_0 2 7 rfl rfl) rfl (lv_at hl 0 rfl) ?_
        refine va_get (D := (dC, dI)) (ci := 5) (v := .ref (b 1)) (C := RX3) (T := TX3) (N := 14) hx hb hts hiX3 hown hK hP 0 rfl rfl 0 (by decide) hw0 (fun _ h9 => h9) rfl (kdr dgX3_same_0 2 8 rfl rfl) ?_
        refine lv_iload_n hx hb (kdr dgX3_same_0 2 9 rfl rfl) rfl (lv_at hl 2 rfl) ?_
        obtain ⟨z4, h⟩ := g_if h
        refine va_lald hx hb hK hP 1 2 rfl rfl (ix_in z4) (kdr dgX3_same_0 3 0 rfl rfl) ?_
        refine kl_ne (pc := 57) (tgt := 65) hx hb (kdr dgX3_same_0 3 1 rfl rfl) (kdr dgX3_same_0 3 2 rfl rfl) (by decide) (fun c6 => ?_) (fun c6 => ?_)
        · have h := g_f c6 h
          refine lv_iconst (v := 0) hx hb (kdr dgX3_same_0 3 5 rfl rfl) (by decide) ?_
          have h := Option.some.inj h
          subst h
          exact kret_i (v := 0) hx hb hr rfl hlocks hS hP (kdr dgX3_same_0 3 6 rfl rfl)
        · have h := g_t c6 h
          refine lv_iconst (v := 1) hx hb (kdr dgX3_same_0 3 3 rfl rfl) (by decide) ?_
          refine lv_goto (tgt := 66) hx hb (kdr dgX3_same_0 3 4 rfl rfl) (by decide) ?_
          have h := Option.some.inj h
          subst h
          exact kret_i (v := 1) hx hb hr rfl hlocks hS hP (kdr dgX3_same_0 3 6 rfl rfl)
  have J29 : ∀ (mce : Nat → Int64) (mfr : Int64) (mun : Int64) (mbe : Nat → Int64) (men : Nat → Int64) (mov : Nat → Int32) (msp : Int32) (mwb : Nat → Int64) (mwe : Nat → Int64) (mwi : Int32) (mac : Int32) (mre : Int32) (mkn : Int32) (mth : Int32) (x1 : Int32) (x2 : Int32) (x3 : Int32) (y0 : Int32) (H : Heap) (locs : List Loc), va_P (dC, dI) vwCl (wMo cJ cZ b mce mfr mun mbe men mov msp mwb mwe mwi mac mre mkn mth) H → va_D A (wMo cJ cZ b mce mfr mun mbe men mov msp mwb mwe mwi mac mre mkn mth) → va_S A s.heap H locs → ∀ (ls : Array Slot), lv_has ls 4 (kvA 0 (b 0) (kvI 1 x1 (kvI 2 x2 (kvI 3 x3 kvE)))) → f_X3_same_29 mce x1 x2 x3 y0 = some res → W p l e (headSpec wsX3_same (kRm 1 0 0 22)).room s m ([.ref (b 0), .int p0, .int p1, .int p2] : List Value).toArray below meth c H locs 0 0 (MQ below (kI (dC, dI) .boolean (res.1) (wMo cJ cZ b mce mfr mun mbe men mov msp mwb mwe mwi mac mre mkn (res.2)) A) ([.ref (b 0), .int p0, .int p1, .int p2] : List Value).toArray s 0 0 A) (F0 m 29 ls [.int y0, .ref (b 0)]) := by
    intro mce mfr mun mbe men mov msp mwb mwe mwi mac mre mkn mth x1 x2 x3 y0 H locs hP hD hS ls hl h
    have h := f_X3_same_29_e.symm.trans h
    refine lv_iconst (v := 1) hx hb (kdr dgX3_same_0 1 5 rfl rfl) (by decide) ?_
    refine lv_goto (tgt := 34) hx hb (kdr dgX3_same_0 1 6 rfl rfl) (by decide) ?_
    exact J34 mce mfr mun mbe men mov msp mwb mwe mwi mac mre mkn mth x1 x2 x3 1 y0 _ _ hP hD hS ls (lv_sub hl [0, 1, 2, 3] rfl) h
  have J20 : ∀ (mce : Nat → Int64) (mfr : Int64) (mun : Int64) (mbe : Nat → Int64) (men : Nat → Int64) (mov : Nat → Int32) (msp : Int32) (mwb : Nat → Int64) (mwe : Nat → Int64) (mwi : Int32) (mac : Int32) (mre : Int32) (mkn : Int32) (mth : Int32) (x1 : Int32) (x2 : Int32) (x3 : Int32) (y0 : Int32) (H : Heap) (locs : List Loc), va_P (dC, dI) vwCl (wMo cJ cZ b mce mfr mun mbe men mov msp mwb mwe mwi mac mre mkn mth) H → va_D A (wMo cJ cZ b mce mfr mun mbe men mov msp mwb mwe mwi mac mre mkn mth) → va_S A s.heap H locs → ∀ (ls : Array Slot), lv_has ls 4 (kvA 0 (b 0) (kvI 1 x1 (kvI 2 x2 (kvI 3 x3 kvE)))) → f_X3_same_20 mce x1 x2 x3 y0 = some res → W p l e (headSpec wsX3_same (kRm 1 0 0 22)).room s m ([.ref (b 0), .int p0, .int p1, .int p2] : List Value).toArray below meth c H locs 0 0 (MQ below (kI (dC, dI) .boolean (res.1) (wMo cJ cZ b mce mfr mun mbe men mov msp mwb mwe mwi mac mre mkn (res.2)) A) ([.ref (b 0), .int p0, .int p1, .int p2] : List Value).toArray s 0 0 A) (F0 m 20 ls [.int y0, .ref (b 0)]) := by
    intro mce mfr mun mbe men mov msp mwb mwe mwi mac mre mkn mth x1 x2 x3 y0 H locs hP hD hS ls hl h
    have h := f_X3_same_20_e.symm.trans h
    refine lv_iload_n hx hb (kdr dgX3_same_0 1 0 rfl rfl) rfl (lv_at hl 3 rfl) ?_
    refine lv_if_lt (tgt := 29) hx hb (kdr dgX3_same_0 1 1 rfl rfl) (by decide) (fun c1 => ?_) (fun c1 => ?_)
    · have h := g_t c1 h
      exact J29 mce mfr mun mbe men mov msp mwb mwe mwi mac mre mkn mth x1 x2 x3 y0 _ _ hP hD hS ls (lv_sub hl [0, 1, 2, 3] rfl) h
    · have h := g_f c1 h
      refine lv_iload_n hx hb (kdr dgX3_same_0 1 2 rfl rfl) rfl (lv_at hl 3 rfl) ?_
      refine lv_iconst (v := 2) hx hb (kdr dgX3_same_0 1 3 rfl rfl) (by decide) ?_
      refine lv_icmp_le (tgt := 33) hx hb (kdr dgX3_same_0 1 4 rfl rfl) (by decide) (fun c2 => ?_) (fun c2 => ?_)
      · have h := g_t c2 h
        refine lv_iconst (v := 0) hx hb (kdr dgX3_same_0 1 7 rfl rfl) (by decide) ?_
        exact J34 mce mfr mun mbe men mov msp mwb mwe mwi mac mre mkn mth x1 x2 x3 0 y0 _ _ hP hD hS ls (lv_sub hl [0, 1, 2, 3] rfl) h
      · have h := g_f c2 h
        exact J29 mce mfr mun mbe men mov msp mwb mwe mwi mac mre mkn mth x1 x2 x3 y0 _ _ hP hD hS ls (lv_sub hl [0, 1, 2, 3] rfl) h
  have J15 : ∀ (mce : Nat → Int64) (mfr : Int64) (mun : Int64) (mbe : Nat → Int64) (men : Nat → Int64) (mov : Nat → Int32) (msp : Int32) (mwb : Nat → Int64) (mwe : Nat → Int64) (mwi : Int32) (mac : Int32) (mre : Int32) (mkn : Int32) (mth : Int32) (x1 : Int32) (x2 : Int32) (x3 : Int32) (H : Heap) (locs : List Loc), va_P (dC, dI) vwCl (wMo cJ cZ b mce mfr mun mbe men mov msp mwb mwe mwi mac mre mkn mth) H → va_D A (wMo cJ cZ b mce mfr mun mbe men mov msp mwb mwe mwi mac mre mkn mth) → va_S A s.heap H locs → ∀ (ls : Array Slot), lv_has ls 4 (kvA 0 (b 0) (kvI 1 x1 (kvI 2 x2 (kvI 3 x3 kvE)))) → f_X3_same_15 mce x1 x2 x3 = some res → W p l e (headSpec wsX3_same (kRm 1 0 0 22)).room s m ([.ref (b 0), .int p0, .int p1, .int p2] : List Value).toArray below meth c H locs 0 0 (MQ below (kI (dC, dI) .boolean (res.1) (wMo cJ cZ b mce mfr mun mbe men mov msp mwb mwe mwi mac mre mkn (res.2)) A) ([.ref (b 0), .int p0, .int p1, .int p2] : List Value).toArray s 0 0 A) (F0 m 15 ls [.ref (b 0)]) := by
    intro mce mfr mun mbe men mov msp mwb mwe mwi mac mre mkn mth x1 x2 x3 H locs hP hD hS ls hl h
    have h := f_X3_same_15_e.symm.trans h
    refine lv_iconst (v := 1) hx hb (kdr dgX3_same_0 0 7 rfl rfl) (by decide) ?_
    refine lv_goto (tgt := 20) hx hb (kdr dgX3_same_0 0 8 rfl rfl) (by decide) ?_
    exact J20 mce mfr mun mbe men mov msp mwb mwe mwi mac mre mkn mth x1 x2 x3 1 _ _ hP hD hS ls (lv_sub hl [0, 1, 2, 3] rfl) h
  have h := f_X3_same_e.symm.trans hf
  refine lv_aload_n hx hb (kdr dgX3_same_0 0 0 rfl rfl) rfl (lv_at hl 0 rfl) ?_
  refine lv_iload_n hx hb (kdr dgX3_same_0 0 1 rfl rfl) rfl (lv_at hl 1 rfl) ?_
  obtain ⟨r1, g1, h⟩ := g_b h
  refine kq_i (wMo cJ cZ b mce mfr mun mbe men mov msp mwb mwe mwi mac mre mkn mth) (fun qP qD qF => va_runS (As := [.int p0]) (rest := [.ref (b 0)]) ⟨hx, hb, hml, hown, hts⟩ (c_X3_is l dC dI cB cI cJ cZ  _  p0 r1 g1) (kcwS hts kw_1119 kv_X3_is rfl rfl ⟨(Nat.le_of_ble_eq_true rfl), (Nat.le_of_ble_eq_true rfl)⟩) (kpS (A := A) (kPnil) hK ((kDnil (A := A))) hG) rfl rfl hl.1 rfl (lv_room (Nat.le_of_ble_eq_true rfl)) (kdr dgX3_same_0 0 2 rfl rfl) ⟨(Nat.le_of_ble_eq_true rfl), (Nat.le_of_ble_eq_true rfl)⟩) hP hD hS hA kFr_n (fun H locs hP hD hS br1 => ?_)
  refine lv_if_eq (tgt := 15) hx hb (kdr dgX3_same_0 0 3 rfl rfl) (by decide) (fun c2 => ?_) (fun c2 => ?_)
  · have h := g_t c2 h
    exact J15 mce mfr mun mbe men mov msp mwb mwe mwi mac mre mkn mth p0 p1 p2 _ _ hP hD hS ls (lv_sub hl [0, 1, 2, 3] rfl) h
  · have h := g_f c2 h
    refine lv_iload_n hx hb (kdr dgX3_same_0 0 4 rfl rfl) rfl (lv_at hl 2 rfl) ?_
    obtain ⟨r3, g3, h⟩ := g_b h
    refine kq_i (wMo cJ cZ b mce mfr mun mbe men mov msp mwb mwe mwi mac mre mkn mth) (fun qP qD qF => va_runS (As := [.int p1]) (rest := [.ref (b 0)]) ⟨hx, hb, hml, hown, hts⟩ (c_X3_is l dC dI cB cI cJ cZ  _  p1 r3 g3) (kcwS hts kw_1119 kv_X3_is rfl rfl ⟨(Nat.le_of_ble_eq_true rfl), (Nat.le_of_ble_eq_true rfl)⟩) (kpS (A := A) (kPnil) hK ((kDnil (A := A))) hG) rfl rfl hl.1 rfl (lv_room (Nat.le_of_ble_eq_true rfl)) (kdr dgX3_same_0 0 5 rfl rfl) ⟨(Nat.le_of_ble_eq_true rfl), (Nat.le_of_ble_eq_true rfl)⟩) hP hD hS hA kFr_n (fun H locs hP hD hS br3 => ?_)
    refine lv_if_ne (tgt := 19) hx hb (kdr dgX3_same_0 0 6 rfl rfl) (by decide) (fun c4 => ?_) (fun c4 => ?_)
    · have h := g_f c4 h
      refine lv_iconst (v := 0) hx hb (kdr dgX3_same_0 0 9 rfl rfl) (by decide) ?_
      exact J20 mce mfr mun mbe men mov msp mwb mwe mwi mac mre mkn mth p0 p1 p2 0 _ _ hP hD hS ls (lv_sub hl [0, 1, 2, 3] rfl) h
    · have h := g_t c4 h
      exact J15 mce mfr mun mbe men mov msp mwb mwe mwi mac mre mkn mth p0 p1 p2 _ _ hP hD hS ls (lv_sub hl [0, 1, 2, 3] rfl) h
noncomputable abbrev wsX3_half : List Cond := kWs yX3_half cX3_half 3 (some .int)
noncomputable def f_X3_half (p0 : Int64) (p1 : Int32) : Option (Int32) :=
  if (p1 - p1 / 2 * 2) = 0 then
    (f_X3_secondOf p0).bind fun r2 =>
    some r2
  else
    (f_X3_nanoOf p0).bind fun r2 =>
    some r2
theorem f_X3_half_e {p0 : Int64} {p1 : Int32} : f_X3_half p0 p1 = 
  if (p1 - p1 / 2 * 2) = 0 then
    (f_X3_secondOf p0).bind fun r2 =>
    some r2
  else
    (f_X3_nanoOf p0).bind fun r2 =>
    some r2 := rfl
set_option maxHeartbeats 4000000 in
set_option maxRecDepth 100000 in
theorem c_X3_half (l : Launch) (dC : Nat → ClassId) (dI : Nat → Nat → Nat) (cB cI cJ cZ : ClassId) (sz : Nat) (p0 : Int64) (p1 : Int32) (res : Int32) (hf : f_X3_half p0 p1 = some res) : kMi l yX3_half wsX3_half (kRm 2 0 0 42) dC dI cB cI cJ cZ [.long p0, .int p1] sz [] .int (res) [] 0 0 := by
  refine kmet_i (y := yX3_half) (cc := cX3_half) (maxL := 3) (ret := (some .int)) RX3 (kvJ 0 p0 (kvI 2 p1 kvE)) kpl_X3 rfl rfl (Nat.le_of_ble_eq_true rfl) rfl (fun p e s m below meth c A ls hx hb hr hml hts hown hlocks hP hK hG hD hA hS hl => ?_)
  have h := f_X3_half_e.symm.trans hf
  refine lv_iload_n hx hb (kdr dgX3_half_0 0 0 rfl rfl) rfl (lv_at hl 1 rfl) ?_
  refine lv_iconst (v := 2) hx hb (kdr dgX3_half_0 0 1 rfl rfl) (by decide) ?_
  refine lv_irem hx hb (kdr dgX3_half_0 0 2 rfl rfl) (by decide) ?_
  refine lv_if_ne (tgt := 13) hx hb (kdr dgX3_half_0 0 3 rfl rfl) (by decide) (fun c1 => ?_) (fun c1 => ?_)
  · have h := g_f c1 h
    refine lv_lload_n hx hb (kdr dgX3_half_0 0 7 rfl rfl) rfl (lv_at hl 0 rfl) ?_
    obtain ⟨r2, g2, h⟩ := g_b h
    refine kq_i [] (fun qP qD qF => va_runS (As := [.long p0]) (rest := []) ⟨hx, hb, hml, hown, hts⟩ (c_X3_nanoOf l dC dI cB cI cJ cZ  _  p0 r2 g2) (kcwS hts kw_1275 kv_X3_nanoOf rfl rfl ⟨(Nat.le_of_ble_eq_true rfl), (Nat.le_of_ble_eq_true rfl)⟩) (kpS (A := A) (kPnil) hK ((kDnil (A := A))) hG) rfl rfl hl.1 rfl (lv_room (Nat.le_of_ble_eq_true rfl)) (kdr dgX3_half_0 0 8 rfl rfl) ⟨(Nat.le_of_ble_eq_true rfl), (Nat.le_of_ble_eq_true rfl)⟩) hP hD hS hA kFr_n (fun H locs hP hD hS br2 => ?_)
    have h := Option.some.inj h
    subst h
    exact kret_i (v := r2) hx hb hr rfl hlocks hS hP (kdr dgX3_half_0 0 9 rfl rfl)
  · have h := g_t c1 h
    refine lv_lload_n hx hb (kdr dgX3_half_0 0 4 rfl rfl) rfl (lv_at hl 0 rfl) ?_
    obtain ⟨r2, g2, h⟩ := g_b h
    refine kq_i [] (fun qP qD qF => va_runS (As := [.long p0]) (rest := []) ⟨hx, hb, hml, hown, hts⟩ (c_X3_secondOf l dC dI cB cI cJ cZ  _  p0 r2 g2) (kcwS hts kw_1140 kv_X3_secondOf rfl rfl ⟨(Nat.le_of_ble_eq_true rfl), (Nat.le_of_ble_eq_true rfl)⟩) (kpS (A := A) (kPnil) hK ((kDnil (A := A))) hG) rfl rfl hl.1 rfl (lv_room (Nat.le_of_ble_eq_true rfl)) (kdr dgX3_half_0 0 5 rfl rfl) ⟨(Nat.le_of_ble_eq_true rfl), (Nat.le_of_ble_eq_true rfl)⟩) hP hD hS hA kFr_n (fun H locs hP hD hS br2 => ?_)
    refine lv_goto (tgt := 17) hx hb (kdr dgX3_half_0 0 6 rfl rfl) (by decide) ?_
    have h := Option.some.inj h
    subst h
    exact kret_i (v := r2) hx hb hr rfl hlocks hS hP (kdr dgX3_half_0 0 9 rfl rfl)
noncomputable abbrev wsX3_apart : List Cond := kWs yX3_apart cX3_apart 4 (some .int)
noncomputable def f_X3_apart_34 (mce : Nat → Int64) (x1 : Int32) (x2 : Int32) (x3 : Int32) (y0 : Int32) (y1 : Int32) : Option ((Int32) × (Int32)) :=
  (f_X3_isThrown y1 y0).bind fun r1 =>
  if r1.1 = 0 then
    if ix x2 4 then
      if ix x1 4 then
        (f_X3_half ((mce x2.toNatClampNeg) - (mce x1.toNatClampNeg)) x3).bind fun r5 =>
        some (r5, r1.2)
      else none
    else none
  else
    some (0, r1.2)
theorem f_X3_apart_34_e {mce : Nat → Int64} {x1 : Int32} {x2 : Int32} {x3 : Int32} {y0 : Int32} {y1 : Int32} : f_X3_apart_34 mce x1 x2 x3 y0 y1 =
  (f_X3_isThrown y1 y0).bind fun r1 =>
  if r1.1 = 0 then
    if ix x2 4 then
      if ix x1 4 then
        (f_X3_half ((mce x2.toNatClampNeg) - (mce x1.toNatClampNeg)) x3).bind fun r5 =>
        some (r5, r1.2)
      else none
    else none
  else
    some (0, r1.2) := rfl
noncomputable def f_X3_apart_29 (mce : Nat → Int64) (x1 : Int32) (x2 : Int32) (x3 : Int32) (y0 : Int32) : Option ((Int32) × (Int32)) :=
  f_X3_apart_34 mce x1 x2 x3 1 y0
theorem f_X3_apart_29_e {mce : Nat → Int64} {x1 : Int32} {x2 : Int32} {x3 : Int32} {y0 : Int32} : f_X3_apart_29 mce x1 x2 x3 y0 =
  f_X3_apart_34 mce x1 x2 x3 1 y0 := rfl
noncomputable def f_X3_apart_20 (mce : Nat → Int64) (x1 : Int32) (x2 : Int32) (x3 : Int32) (y0 : Int32) : Option ((Int32) × (Int32)) :=
  if x3 < 0 then
    f_X3_apart_29 mce x1 x2 x3 y0
  else
    if x3 ≤ 1 then
      f_X3_apart_34 mce x1 x2 x3 0 y0
    else
      f_X3_apart_29 mce x1 x2 x3 y0
theorem f_X3_apart_20_e {mce : Nat → Int64} {x1 : Int32} {x2 : Int32} {x3 : Int32} {y0 : Int32} : f_X3_apart_20 mce x1 x2 x3 y0 =
  if x3 < 0 then
    f_X3_apart_29 mce x1 x2 x3 y0
  else
    if x3 ≤ 1 then
      f_X3_apart_34 mce x1 x2 x3 0 y0
    else
      f_X3_apart_29 mce x1 x2 x3 y0 := rfl
noncomputable def f_X3_apart_15 (mce : Nat → Int64) (x1 : Int32) (x2 : Int32) (x3 : Int32) : Option ((Int32) × (Int32)) :=
  f_X3_apart_20 mce x1 x2 x3 1
theorem f_X3_apart_15_e {mce : Nat → Int64} {x1 : Int32} {x2 : Int32} {x3 : Int32} : f_X3_apart_15 mce x1 x2 x3 =
  f_X3_apart_20 mce x1 x2 x3 1 := rfl
noncomputable def f_X3_apart (mce : Nat → Int64) (p0 : Int32) (p1 : Int32) (p2 : Int32) : Option ((Int32) × (Int32)) :=
  (f_X3_is p0).bind fun r1 =>
  if r1 = 0 then
    f_X3_apart_15 mce p0 p1 p2
  else
    (f_X3_is p1).bind fun r3 =>
    if r3 = 0 then
      f_X3_apart_15 mce p0 p1 p2
    else
      f_X3_apart_20 mce p0 p1 p2 0
theorem f_X3_apart_e {mce : Nat → Int64} {p0 : Int32} {p1 : Int32} {p2 : Int32} : f_X3_apart mce p0 p1 p2 = 
  (f_X3_is p0).bind fun r1 =>
  if r1 = 0 then
    f_X3_apart_15 mce p0 p1 p2
  else
    (f_X3_is p1).bind fun r3 =>
    if r3 = 0 then
      f_X3_apart_15 mce p0 p1 p2
    else
      f_X3_apart_20 mce p0 p1 p2 0 := rfl
set_option maxHeartbeats 4000000 in
set_option maxRecDepth 100000 in
theorem c_X3_apart (l : Launch) (dC : Nat → ClassId) (dI : Nat → Nat → Nat) (cB cI cJ cZ : ClassId) (b : Nat → Nat) (sz : Nat) (mce : Nat → Int64) (mfr : Int64) (mun : Int64) (mbe : Nat → Int64) (men : Nat → Int64) (mov : Nat → Int32) (msp : Int32) (mwb : Nat → Int64) (mwe : Nat → Int64) (mwi : Int32) (mac : Int32) (mre : Int32) (mkn : Int32) (mth : Int32) (p0 : Int32) (p1 : Int32) (p2 : Int32) (res : (Int32) × (Int32)) (hf : f_X3_apart mce p0 p1 p2 = some res) : kMi l yX3_apart wsX3_apart (kRm 3 0 0 64) dC dI cB cI cJ cZ [.ref (b 0), .int p0, .int p1, .int p2] sz (wMo cJ cZ b mce mfr mun mbe men mov msp mwb mwe mwi mac mre mkn mth) .int (res.1) (wMo cJ cZ b mce mfr mun mbe men mov msp mwb mwe mwi mac mre mkn (res.2)) 0 0 := by
  refine kmet_i (y := yX3_apart) (cc := cX3_apart) (maxL := 4) (ret := (some .int)) RX3 (kvA 0 (b 0) (kvI 1 p0 (kvI 2 p1 (kvI 3 p2 kvE)))) kpl_X3 rfl rfl (Nat.le_of_ble_eq_true rfl) rfl (fun p e s m below meth c A ls hx hb hr hml hts hown hlocks hP hK hG hD hA hS hl => ?_)
  have hw0 := hts (.fieldLink RX3 7 "SpanbookerModel" "cells" "[J") (List.mem_cons_of_mem _ kw_1072)
  have hiX3 : ∀ w ∈ u_ws RX3 TX3 14, w ∈ wsX3_apart := fun w h => List.mem_cons_of_mem _ (ku_X3 w h)
  have J34 : ∀ (mce : Nat → Int64) (mfr : Int64) (mun : Int64) (mbe : Nat → Int64) (men : Nat → Int64) (mov : Nat → Int32) (msp : Int32) (mwb : Nat → Int64) (mwe : Nat → Int64) (mwi : Int32) (mac : Int32) (mre : Int32) (mkn : Int32) (mth : Int32) (x1 : Int32) (x2 : Int32) (x3 : Int32) (y0 : Int32) (y1 : Int32) (H : Heap) (locs : List Loc), va_P (dC, dI) vwCl (wMo cJ cZ b mce mfr mun mbe men mov msp mwb mwe mwi mac mre mkn mth) H → va_D A (wMo cJ cZ b mce mfr mun mbe men mov msp mwb mwe mwi mac mre mkn mth) → va_S A s.heap H locs → ∀ (ls : Array Slot), lv_has ls 4 (kvA 0 (b 0) (kvI 1 x1 (kvI 2 x2 (kvI 3 x3 kvE)))) → f_X3_apart_34 mce x1 x2 x3 y0 y1 = some res → W p l e (headSpec wsX3_apart (kRm 3 0 0 64)).room s m ([.ref (b 0), .int p0, .int p1, .int p2] : List Value).toArray below meth c H locs 0 0 (MQ below (kI (dC, dI) .int (res.1) (wMo cJ cZ b mce mfr mun mbe men mov msp mwb mwe mwi mac mre mkn (res.2)) A) ([.ref (b 0), .int p0, .int p1, .int p2] : List Value).toArray s 0 0 A) (F0 m 34 ls [.int y0, .int y1, .ref (b 0)]) := by
    intro mce mfr mun mbe men mov msp mwb mwe mwi mac mre mkn mth x1 x2 x3 y0 y1 H locs hP hD hS ls hl h
    have h := f_X3_apart_34_e.symm.trans h
    obtain ⟨r1, g1, h⟩ := g_b h
    refine kq_i (wMo cJ cZ b mce mfr mun mbe men mov msp mwb mwe mwi mac mre mkn r1.2) (fun qP qD qF => va_runV (As := [.int y1, .int y0]) (rest := []) ⟨hx, hb, hml, hown, hts⟩ (c_X3_isThrown l dC dI cB cI cJ cZ b _ mce mfr mun mbe men mov msp mwb mwe mwi mac mre mkn mth y1 y0 r1 g1) (kcwV hts kw_1126 kv_X3_isThrown rfl rfl ⟨(Nat.le_of_ble_eq_true rfl), (Nat.le_of_ble_eq_true rfl)⟩) (kpV (A := A) qP hK qD hG (krecv_5 (q0 := 0) hK hP rfl)) rfl rfl hl.1 rfl (lv_room (Nat.le_of_ble_eq_true rfl)) (kdr dgX3_apart_0 1 8 rfl rfl) ⟨(Nat.le_of_ble_eq_true rfl), (Nat.le_of_ble_eq_true rfl)⟩) hP hD hS hA kFr_Mo (fun H locs hP hD hS br1 => ?_)
    refine lv_if_eq (tgt := 44) hx hb (kdr dgX3_apart_0 1 9 rfl rfl) (by decide) (fun c2 => ?_) (fun c2 => ?_)
    · have h := g_t c2 h
      refine lv_aload_n hx hb (kdr dgX3_apart_0 2 2 rfl rfl) rfl (lv_at hl 0 rfl) ?_
      refine va_get (D := (dC, dI)) (ci := 5) (v := .ref (b 1)) (C := RX3) (T := TX3) (N := 14) hx hb hts hiX3 hown hK hP 0 rfl rfl 0 (by decide) hw0 (fun _ h9 => h9) rfl (kdr dgX3_apart_0 2 3 rfl rfl) ?_
      refine lv_iload_n hx hb (kdr dgX3_apart_0 2 4 rfl rfl) rfl (lv_at hl 2 rfl) ?_
      obtain ⟨z2, h⟩ := g_if h
      refine va_lald hx hb hK hP 1 2 rfl rfl (ix_in z2) (kdr dgX3_apart_0 2 5 rfl rfl) ?_
      refine lv_aload_n hx hb (kdr dgX3_apart_0 2 6 rfl rfl) rfl (lv_at hl 0 rfl) ?_
      refine va_get (D := (dC, dI)) (ci := 5) (v := .ref (b 1)) (C := RX3) (T := TX3) (N := 14) hx hb hts hiX3 hown hK hP 0 rfl rfl 0 (by decide) hw0 (fun _ h9 => h9) rfl (kdr dgX3_apart_0 2 7 rfl rfl) ?_
      refine lv_iload_n hx hb (kdr dgX3_apart_0 2 8 rfl rfl) rfl (lv_at hl 1 rfl) ?_
      obtain ⟨z3, h⟩ := g_if h
      refine va_lald hx hb hK hP 1 2 rfl rfl (ix_in z3) (kdr dgX3_apart_0 2 9 rfl rfl) ?_
      refine lv_lsub hx hb (kdr dgX3_apart_0 3 0 rfl rfl) ?_
      refine lv_iload_n hx hb (kdr dgX3_apart_0 3 1 rfl rfl) rfl (lv_at hl 3 rfl) ?_
      obtain ⟨r5, g5, h⟩ := g_b h
      refine kq_i (wMo cJ cZ b mce mfr mun mbe men mov msp mwb mwe mwi mac mre mkn r1.2) (fun qP qD qF => va_runS (As := [.long ((mce x2.toNatClampNeg) - (mce x1.toNatClampNeg)), .int x3]) (rest := []) ⟨hx, hb, hml, hown, hts⟩ (c_X3_half l dC dI cB cI cJ cZ  _  ((mce x2.toNatClampNeg) - (mce x1.toNatClampNeg)) x3 r5 g5) (kcwS hts kw_1313 kv_X3_half rfl rfl ⟨(Nat.le_of_ble_eq_true rfl), (Nat.le_of_ble_eq_true rfl)⟩) (kpS (A := A) (kPnil) hK ((kDnil (A := A))) hG) rfl rfl hl.1 rfl (lv_room (Nat.le_of_ble_eq_true rfl)) (kdr dgX3_apart_0 3 2 rfl rfl) ⟨(Nat.le_of_ble_eq_true rfl), (Nat.le_of_ble_eq_true rfl)⟩) hP hD hS hA kFr_n (fun H locs hP hD hS br5 => ?_)
      have h := Option.some.inj h
      subst h
      exact kret_i (v := r5) hx hb hr rfl hlocks hS hP (kdr dgX3_apart_0 3 3 rfl rfl)
    · have h := g_f c2 h
      refine lv_iconst (v := 0) hx hb (kdr dgX3_apart_0 2 0 rfl rfl) (by decide) ?_
      refine lv_goto (tgt := 61) hx hb (kdr dgX3_apart_0 2 1 rfl rfl) (by decide) ?_
      have h := Option.some.inj h
      subst h
      exact kret_i (v := 0) hx hb hr rfl hlocks hS hP (kdr dgX3_apart_0 3 3 rfl rfl)
  have J29 : ∀ (mce : Nat → Int64) (mfr : Int64) (mun : Int64) (mbe : Nat → Int64) (men : Nat → Int64) (mov : Nat → Int32) (msp : Int32) (mwb : Nat → Int64) (mwe : Nat → Int64) (mwi : Int32) (mac : Int32) (mre : Int32) (mkn : Int32) (mth : Int32) (x1 : Int32) (x2 : Int32) (x3 : Int32) (y0 : Int32) (H : Heap) (locs : List Loc), va_P (dC, dI) vwCl (wMo cJ cZ b mce mfr mun mbe men mov msp mwb mwe mwi mac mre mkn mth) H → va_D A (wMo cJ cZ b mce mfr mun mbe men mov msp mwb mwe mwi mac mre mkn mth) → va_S A s.heap H locs → ∀ (ls : Array Slot), lv_has ls 4 (kvA 0 (b 0) (kvI 1 x1 (kvI 2 x2 (kvI 3 x3 kvE)))) → f_X3_apart_29 mce x1 x2 x3 y0 = some res → W p l e (headSpec wsX3_apart (kRm 3 0 0 64)).room s m ([.ref (b 0), .int p0, .int p1, .int p2] : List Value).toArray below meth c H locs 0 0 (MQ below (kI (dC, dI) .int (res.1) (wMo cJ cZ b mce mfr mun mbe men mov msp mwb mwe mwi mac mre mkn (res.2)) A) ([.ref (b 0), .int p0, .int p1, .int p2] : List Value).toArray s 0 0 A) (F0 m 29 ls [.int y0, .ref (b 0)]) := by
    intro mce mfr mun mbe men mov msp mwb mwe mwi mac mre mkn mth x1 x2 x3 y0 H locs hP hD hS ls hl h
    have h := f_X3_apart_29_e.symm.trans h
    refine lv_iconst (v := 1) hx hb (kdr dgX3_apart_0 1 5 rfl rfl) (by decide) ?_
    refine lv_goto (tgt := 34) hx hb (kdr dgX3_apart_0 1 6 rfl rfl) (by decide) ?_
    exact J34 mce mfr mun mbe men mov msp mwb mwe mwi mac mre mkn mth x1 x2 x3 1 y0 _ _ hP hD hS ls (lv_sub hl [0, 1, 2, 3] rfl) h
  have J20 : ∀ (mce : Nat → Int64) (mfr : Int64) (mun : Int64) (mbe : Nat → Int64) (men : Nat → Int64) (mov : Nat → Int32) (msp : Int32) (mwb : Nat → Int64) (mwe : Nat → Int64) (mwi : Int32) (mac : Int32) (mre : Int32) (mkn : Int32) (mth : Int32) (x1 : Int32) (x2 : Int32) (x3 : Int32) (y0 : Int32) (H : Heap) (locs : List Loc), va_P (dC, dI) vwCl (wMo cJ cZ b mce mfr mun mbe men mov msp mwb mwe mwi mac mre mkn mth) H → va_D A (wMo cJ cZ b mce mfr mun mbe men mov msp mwb mwe mwi mac mre mkn mth) → va_S A s.heap H locs → ∀ (ls : Array Slot), lv_has ls 4 (kvA 0 (b 0) (kvI 1 x1 (kvI 2 x2 (kvI 3 x3 kvE)))) → f_X3_apart_20 mce x1 x2 x3 y0 = some res → W p l e (headSpec wsX3_apart (kRm 3 0 0 64)).room s m ([.ref (b 0), .int p0, .int p1, .int p2] : List Value).toArray below meth c H locs 0 0 (MQ below (kI (dC, dI) .int (res.1) (wMo cJ cZ b mce mfr mun mbe men mov msp mwb mwe mwi mac mre mkn (res.2)) A) ([.ref (b 0), .int p0, .int p1, .int p2] : List Value).toArray s 0 0 A) (F0 m 20 ls [.int y0, .ref (b 0)]) := by
    intro mce mfr mun mbe men mov msp mwb mwe mwi mac mre mkn mth x1 x2 x3 y0 H locs hP hD hS ls hl h
    have h := f_X3_apart_20_e.symm.trans h
    refine lv_iload_n hx hb (kdr dgX3_apart_0 1 0 rfl rfl) rfl (lv_at hl 3 rfl) ?_
    refine lv_if_lt (tgt := 29) hx hb (kdr dgX3_apart_0 1 1 rfl rfl) (by decide) (fun c1 => ?_) (fun c1 => ?_)
    · have h := g_t c1 h
      exact J29 mce mfr mun mbe men mov msp mwb mwe mwi mac mre mkn mth x1 x2 x3 y0 _ _ hP hD hS ls (lv_sub hl [0, 1, 2, 3] rfl) h
    · have h := g_f c1 h
      refine lv_iload_n hx hb (kdr dgX3_apart_0 1 2 rfl rfl) rfl (lv_at hl 3 rfl) ?_
      refine lv_iconst (v := 1) hx hb (kdr dgX3_apart_0 1 3 rfl rfl) (by decide) ?_
      refine lv_icmp_le (tgt := 33) hx hb (kdr dgX3_apart_0 1 4 rfl rfl) (by decide) (fun c2 => ?_) (fun c2 => ?_)
      · have h := g_t c2 h
        refine lv_iconst (v := 0) hx hb (kdr dgX3_apart_0 1 7 rfl rfl) (by decide) ?_
        exact J34 mce mfr mun mbe men mov msp mwb mwe mwi mac mre mkn mth x1 x2 x3 0 y0 _ _ hP hD hS ls (lv_sub hl [0, 1, 2, 3] rfl) h
      · have h := g_f c2 h
        exact J29 mce mfr mun mbe men mov msp mwb mwe mwi mac mre mkn mth x1 x2 x3 y0 _ _ hP hD hS ls (lv_sub hl [0, 1, 2, 3] rfl) h
  have J15 : ∀ (mce : Nat → Int64) (mfr : Int64) (mun : Int64) (mbe : Nat → Int64) (men : Nat → Int64) (mov : Nat → Int32) (msp : Int32) (mwb : Nat → Int64) (mwe : Nat → Int64) (mwi : Int32) (mac : Int32) (mre : Int32) (mkn : Int32) (mth : Int32) (x1 : Int32) (x2 : Int32) (x3 : Int32) (H : Heap) (locs : List Loc), va_P (dC, dI) vwCl (wMo cJ cZ b mce mfr mun mbe men mov msp mwb mwe mwi mac mre mkn mth) H → va_D A (wMo cJ cZ b mce mfr mun mbe men mov msp mwb mwe mwi mac mre mkn mth) → va_S A s.heap H locs → ∀ (ls : Array Slot), lv_has ls 4 (kvA 0 (b 0) (kvI 1 x1 (kvI 2 x2 (kvI 3 x3 kvE)))) → f_X3_apart_15 mce x1 x2 x3 = some res → W p l e (headSpec wsX3_apart (kRm 3 0 0 64)).room s m ([.ref (b 0), .int p0, .int p1, .int p2] : List Value).toArray below meth c H locs 0 0 (MQ below (kI (dC, dI) .int (res.1) (wMo cJ cZ b mce mfr mun mbe men mov msp mwb mwe mwi mac mre mkn (res.2)) A) ([.ref (b 0), .int p0, .int p1, .int p2] : List Value).toArray s 0 0 A) (F0 m 15 ls [.ref (b 0)]) := by
    intro mce mfr mun mbe men mov msp mwb mwe mwi mac mre mkn mth x1 x2 x3 H locs hP hD hS ls hl h
    have h := f_X3_apart_15_e.symm.trans h
    refine lv_iconst (v := 1) hx hb (kdr dgX3_apart_0 0 7 rfl rfl) (by decide) ?_
    refine lv_goto (tgt := 20) hx hb (kdr dgX3_apart_0 0 8 rfl rfl) (by decide) ?_
    exact J20 mce mfr mun mbe men mov msp mwb mwe mwi mac mre mkn mth x1 x2 x3 1 _ _ hP hD hS ls (lv_sub hl [0, 1, 2, 3] rfl) h
  have h := f_X3_apart_e.symm.trans hf
  refine lv_aload_n hx hb (kdr dgX3_apart_0 0 0 rfl rfl) rfl (lv_at hl 0 rfl) ?_
  refine lv_iload_n hx hb (kdr dgX3_apart_0 0 1 rfl rfl) rfl (lv_at hl 1 rfl) ?_
  obtain ⟨r1, g1, h⟩ := g_b h
  refine kq_i (wMo cJ cZ b mce mfr mun mbe men mov msp mwb mwe mwi mac mre mkn mth) (fun qP qD qF => va_runS (As := [.int p0]) (rest := [.ref (b 0)]) ⟨hx, hb, hml, hown, hts⟩ (c_X3_is l dC dI cB cI cJ cZ  _  p0 r1 g1) (kcwS hts kw_1119 kv_X3_is rfl rfl ⟨(Nat.le_of_ble_eq_true rfl), (Nat.le_of_ble_eq_true rfl)⟩) (kpS (A := A) (kPnil) hK ((kDnil (A := A))) hG) rfl rfl hl.1 rfl (lv_room (Nat.le_of_ble_eq_true rfl)) (kdr dgX3_apart_0 0 2 rfl rfl) ⟨(Nat.le_of_ble_eq_true rfl), (Nat.le_of_ble_eq_true rfl)⟩) hP hD hS hA kFr_n (fun H locs hP hD hS br1 => ?_)
  refine lv_if_eq (tgt := 15) hx hb (kdr dgX3_apart_0 0 3 rfl rfl) (by decide) (fun c2 => ?_) (fun c2 => ?_)
  · have h := g_t c2 h
    exact J15 mce mfr mun mbe men mov msp mwb mwe mwi mac mre mkn mth p0 p1 p2 _ _ hP hD hS ls (lv_sub hl [0, 1, 2, 3] rfl) h
  · have h := g_f c2 h
    refine lv_iload_n hx hb (kdr dgX3_apart_0 0 4 rfl rfl) rfl (lv_at hl 2 rfl) ?_
    obtain ⟨r3, g3, h⟩ := g_b h
    refine kq_i (wMo cJ cZ b mce mfr mun mbe men mov msp mwb mwe mwi mac mre mkn mth) (fun qP qD qF => va_runS (As := [.int p1]) (rest := [.ref (b 0)]) ⟨hx, hb, hml, hown, hts⟩ (c_X3_is l dC dI cB cI cJ cZ  _  p1 r3 g3) (kcwS hts kw_1119 kv_X3_is rfl rfl ⟨(Nat.le_of_ble_eq_true rfl), (Nat.le_of_ble_eq_true rfl)⟩) (kpS (A := A) (kPnil) hK ((kDnil (A := A))) hG) rfl rfl hl.1 rfl (lv_room (Nat.le_of_ble_eq_true rfl)) (kdr dgX3_apart_0 0 5 rfl rfl) ⟨(Nat.le_of_ble_eq_true rfl), (Nat.le_of_ble_eq_true rfl)⟩) hP hD hS hA kFr_n (fun H locs hP hD hS br3 => ?_)
    refine lv_if_ne (tgt := 19) hx hb (kdr dgX3_apart_0 0 6 rfl rfl) (by decide) (fun c4 => ?_) (fun c4 => ?_)
    · have h := g_f c4 h
      refine lv_iconst (v := 0) hx hb (kdr dgX3_apart_0 0 9 rfl rfl) (by decide) ?_
      exact J20 mce mfr mun mbe men mov msp mwb mwe mwi mac mre mkn mth p0 p1 p2 0 _ _ hP hD hS ls (lv_sub hl [0, 1, 2, 3] rfl) h
    · have h := g_t c4 h
      exact J15 mce mfr mun mbe men mov msp mwb mwe mwi mac mre mkn mth p0 p1 p2 _ _ hP hD hS ls (lv_sub hl [0, 1, 2, 3] rfl) h
noncomputable abbrev wsX3_calendar : List Cond := kWs yX3_calendar cX3_calendar 2 (some .int)
noncomputable def f_X3_calendar_41 (mth : Int32) (x1 : Int32) (y0 : Int64) : Option ((Int32) × (Int32)) :=
  (f_X3_half y0 x1).bind fun r1 =>
  some (r1, mth)
theorem f_X3_calendar_41_e {mth : Int32} {x1 : Int32} {y0 : Int64} : f_X3_calendar_41 mth x1 y0 =
  (f_X3_half y0 x1).bind fun r1 =>
  some (r1, mth) := rfl
noncomputable def f_X3_calendar_15 (mfr : Int64) (mun : Int64) (x1 : Int32) (y0 : Int32) : Option ((Int32) × (Int32)) :=
  (f_X3_isThrown_ y0).bind fun r1 =>
  if r1.1 = 0 then
    if 2 ≤ x1 then
      f_X3_calendar_41 r1.2 x1 mun
    else
      f_X3_calendar_41 r1.2 x1 mfr
  else
    some (0, r1.2)
theorem f_X3_calendar_15_e {mfr : Int64} {mun : Int64} {x1 : Int32} {y0 : Int32} : f_X3_calendar_15 mfr mun x1 y0 =
  (f_X3_isThrown_ y0).bind fun r1 =>
  if r1.1 = 0 then
    if 2 ≤ x1 then
      f_X3_calendar_41 r1.2 x1 mun
    else
      f_X3_calendar_41 r1.2 x1 mfr
  else
    some (0, r1.2) := rfl
noncomputable def f_X3_calendar_10 (mfr : Int64) (mun : Int64) (x1 : Int32) : Option ((Int32) × (Int32)) :=
  f_X3_calendar_15 mfr mun x1 1
theorem f_X3_calendar_10_e {mfr : Int64} {mun : Int64} {x1 : Int32} : f_X3_calendar_10 mfr mun x1 =
  f_X3_calendar_15 mfr mun x1 1 := rfl
noncomputable def f_X3_calendar (mfr : Int64) (mun : Int64) (p0 : Int32) : Option ((Int32) × (Int32)) :=
  if p0 < 0 then
    f_X3_calendar_10 mfr mun p0
  else
    if p0 ≤ 3 then
      f_X3_calendar_15 mfr mun p0 0
    else
      f_X3_calendar_10 mfr mun p0
theorem f_X3_calendar_e {mfr : Int64} {mun : Int64} {p0 : Int32} : f_X3_calendar mfr mun p0 = 
  if p0 < 0 then
    f_X3_calendar_10 mfr mun p0
  else
    if p0 ≤ 3 then
      f_X3_calendar_15 mfr mun p0 0
    else
      f_X3_calendar_10 mfr mun p0 := rfl
set_option maxHeartbeats 4000000 in
set_option maxRecDepth 100000 in
theorem c_X3_calendar (l : Launch) (dC : Nat → ClassId) (dI : Nat → Nat → Nat) (cB cI cJ cZ : ClassId) (b : Nat → Nat) (sz : Nat) (mce : Nat → Int64) (mfr : Int64) (mun : Int64) (mbe : Nat → Int64) (men : Nat → Int64) (mov : Nat → Int32) (msp : Int32) (mwb : Nat → Int64) (mwe : Nat → Int64) (mwi : Int32) (mac : Int32) (mre : Int32) (mkn : Int32) (mth : Int32) (p0 : Int32) (res : (Int32) × (Int32)) (hf : f_X3_calendar mfr mun p0 = some res) : kMi l yX3_calendar wsX3_calendar (kRm 3 0 0 64) dC dI cB cI cJ cZ [.ref (b 0), .int p0] sz (wMo cJ cZ b mce mfr mun mbe men mov msp mwb mwe mwi mac mre mkn mth) .int (res.1) (wMo cJ cZ b mce mfr mun mbe men mov msp mwb mwe mwi mac mre mkn (res.2)) 0 0 := by
  refine kmet_i (y := yX3_calendar) (cc := cX3_calendar) (maxL := 2) (ret := (some .int)) RX3 (kvA 0 (b 0) (kvI 1 p0 kvE)) kpl_X3 rfl rfl (Nat.le_of_ble_eq_true rfl) rfl (fun p e s m below meth c A ls hx hb hr hml hts hown hlocks hP hK hG hD hA hS hl => ?_)
  have hw0 := hts (.fieldLink RX3 15 "SpanbookerModel" "until" "J") (List.mem_cons_of_mem _ kw_1074)
  have hw1 := hts (.fieldLink RX3 53 "SpanbookerModel" "from" "J") (List.mem_cons_of_mem _ kw_1073)
  have hiX3 : ∀ w ∈ u_ws RX3 TX3 14, w ∈ wsX3_calendar := fun w h => List.mem_cons_of_mem _ (ku_X3 w h)
  have J41 : ∀ (mce : Nat → Int64) (mfr : Int64) (mun : Int64) (mbe : Nat → Int64) (men : Nat → Int64) (mov : Nat → Int32) (msp : Int32) (mwb : Nat → Int64) (mwe : Nat → Int64) (mwi : Int32) (mac : Int32) (mre : Int32) (mkn : Int32) (mth : Int32) (x1 : Int32) (y0 : Int64) (H : Heap) (locs : List Loc), va_P (dC, dI) vwCl (wMo cJ cZ b mce mfr mun mbe men mov msp mwb mwe mwi mac mre mkn mth) H → va_D A (wMo cJ cZ b mce mfr mun mbe men mov msp mwb mwe mwi mac mre mkn mth) → va_S A s.heap H locs → ∀ (ls : Array Slot), lv_has ls 2 (kvI 1 x1 kvE) → f_X3_calendar_41 mth x1 y0 = some res → W p l e (headSpec wsX3_calendar (kRm 3 0 0 64)).room s m ([.ref (b 0), .int p0] : List Value).toArray below meth c H locs 0 0 (MQ below (kI (dC, dI) .int (res.1) (wMo cJ cZ b mce mfr mun mbe men mov msp mwb mwe mwi mac mre mkn (res.2)) A) ([.ref (b 0), .int p0] : List Value).toArray s 0 0 A) (F0 m 41 ls [.long y0]) := by
    intro mce mfr mun mbe men mov msp mwb mwe mwi mac mre mkn mth x1 y0 H locs hP hD hS ls hl h
    have h := f_X3_calendar_41_e.symm.trans h
    refine lv_iload_n hx hb (kdr dgX3_calendar_0 2 1 rfl rfl) rfl (lv_at hl 0 rfl) ?_
    obtain ⟨r1, g1, h⟩ := g_b h
    refine kq_i (wMo cJ cZ b mce mfr mun mbe men mov msp mwb mwe mwi mac mre mkn mth) (fun qP qD qF => va_runS (As := [.long y0, .int x1]) (rest := []) ⟨hx, hb, hml, hown, hts⟩ (c_X3_half l dC dI cB cI cJ cZ  _  y0 x1 r1 g1) (kcwS hts kw_1313 kv_X3_half rfl rfl ⟨(Nat.le_of_ble_eq_true rfl), (Nat.le_of_ble_eq_true rfl)⟩) (kpS (A := A) (kPnil) hK ((kDnil (A := A))) hG) rfl rfl hl.1 rfl (lv_room (Nat.le_of_ble_eq_true rfl)) (kdr dgX3_calendar_0 2 2 rfl rfl) ⟨(Nat.le_of_ble_eq_true rfl), (Nat.le_of_ble_eq_true rfl)⟩) hP hD hS hA kFr_n (fun H locs hP hD hS br1 => ?_)
    have h := Option.some.inj h
    subst h
    exact kret_i (v := r1) hx hb hr rfl hlocks hS hP (kdr dgX3_calendar_0 2 3 rfl rfl)
  have J15 : ∀ (mce : Nat → Int64) (mfr : Int64) (mun : Int64) (mbe : Nat → Int64) (men : Nat → Int64) (mov : Nat → Int32) (msp : Int32) (mwb : Nat → Int64) (mwe : Nat → Int64) (mwi : Int32) (mac : Int32) (mre : Int32) (mkn : Int32) (mth : Int32) (x1 : Int32) (y0 : Int32) (H : Heap) (locs : List Loc), va_P (dC, dI) vwCl (wMo cJ cZ b mce mfr mun mbe men mov msp mwb mwe mwi mac mre mkn mth) H → va_D A (wMo cJ cZ b mce mfr mun mbe men mov msp mwb mwe mwi mac mre mkn mth) → va_S A s.heap H locs → ∀ (ls : Array Slot), lv_has ls 2 (kvA 0 (b 0) (kvI 1 x1 kvE)) → f_X3_calendar_15 mfr mun x1 y0 = some res → W p l e (headSpec wsX3_calendar (kRm 3 0 0 64)).room s m ([.ref (b 0), .int p0] : List Value).toArray below meth c H locs 0 0 (MQ below (kI (dC, dI) .int (res.1) (wMo cJ cZ b mce mfr mun mbe men mov msp mwb mwe mwi mac mre mkn (res.2)) A) ([.ref (b 0), .int p0] : List Value).toArray s 0 0 A) (F0 m 15 ls [.int y0, .ref (b 0)]) := by
    intro mce mfr mun mbe men mov msp mwb mwe mwi mac mre mkn mth x1 y0 H locs hP hD hS ls hl h
    have h := f_X3_calendar_15_e.symm.trans h
    obtain ⟨r1, g1, h⟩ := g_b h
    refine kq_i (wMo cJ cZ b mce mfr mun mbe men mov msp mwb mwe mwi mac mre mkn r1.2) (fun qP qD qF => va_runV (As := [.int y0]) (rest := []) ⟨hx, hb, hml, hown, hts⟩ (c_X3_isThrown_ l dC dI cB cI cJ cZ b _ mce mfr mun mbe men mov msp mwb mwe mwi mac mre mkn mth y0 r1 g1) (kcwV hts kw_1166 kv_X3_isThrown_ rfl rfl ⟨(Nat.le_of_ble_eq_true rfl), (Nat.le_of_ble_eq_true rfl)⟩) (kpV (A := A) qP hK qD hG (krecv_5 (q0 := 0) hK hP rfl)) rfl rfl hl.1 rfl (lv_room (Nat.le_of_ble_eq_true rfl)) (kdr dgX3_calendar_0 0 9 rfl rfl) ⟨(Nat.le_of_ble_eq_true rfl), (Nat.le_of_ble_eq_true rfl)⟩) hP hD hS hA kFr_Mo (fun H locs hP hD hS br1 => ?_)
    refine lv_if_eq (tgt := 25) hx hb (kdr dgX3_calendar_0 1 0 rfl rfl) (by decide) (fun c2 => ?_) (fun c2 => ?_)
    · have h := g_t c2 h
      refine lv_iload_n hx hb (kdr dgX3_calendar_0 1 3 rfl rfl) rfl (lv_at hl 1 rfl) ?_
      refine lv_iconst (v := 2) hx hb (kdr dgX3_calendar_0 1 4 rfl rfl) (by decide) ?_
      refine lv_icmp_ge (tgt := 37) hx hb (kdr dgX3_calendar_0 1 5 rfl rfl) (by decide) (fun c3 => ?_) (fun c3 => ?_)
      · have h := g_t c3 h
        refine lv_aload_n hx hb (kdr dgX3_calendar_0 1 9 rfl rfl) rfl (lv_at hl 0 rfl) ?_
        refine va_get (D := (dC, dI)) (ci := 5) (v := .long mun) (C := RX3) (T := TX3) (N := 14) hx hb hts hiX3 hown hK hP 0 rfl rfl 2 (by decide) hw0 (fun _ h9 => h9) rfl (kdr dgX3_calendar_0 2 0 rfl rfl) ?_
        exact J41 mce mfr mun mbe men mov msp mwb mwe mwi mac mre mkn r1.2 x1 mun _ _ hP hD hS ls (lv_sub hl [1] rfl) h
      · have h := g_f c3 h
        refine lv_aload_n hx hb (kdr dgX3_calendar_0 1 6 rfl rfl) rfl (lv_at hl 0 rfl) ?_
        refine va_get (D := (dC, dI)) (ci := 5) (v := .long mfr) (C := RX3) (T := TX3) (N := 14) hx hb hts hiX3 hown hK hP 0 rfl rfl 1 (by decide) hw1 (fun _ h9 => h9) rfl (kdr dgX3_calendar_0 1 7 rfl rfl) ?_
        refine lv_goto (tgt := 41) hx hb (kdr dgX3_calendar_0 1 8 rfl rfl) (by decide) ?_
        exact J41 mce mfr mun mbe men mov msp mwb mwe mwi mac mre mkn r1.2 x1 mfr _ _ hP hD hS ls (lv_sub hl [1] rfl) h
    · have h := g_f c2 h
      refine lv_iconst (v := 0) hx hb (kdr dgX3_calendar_0 1 1 rfl rfl) (by decide) ?_
      refine lv_goto (tgt := 45) hx hb (kdr dgX3_calendar_0 1 2 rfl rfl) (by decide) ?_
      have h := Option.some.inj h
      subst h
      exact kret_i (v := 0) hx hb hr rfl hlocks hS hP (kdr dgX3_calendar_0 2 3 rfl rfl)
  have J10 : ∀ (mce : Nat → Int64) (mfr : Int64) (mun : Int64) (mbe : Nat → Int64) (men : Nat → Int64) (mov : Nat → Int32) (msp : Int32) (mwb : Nat → Int64) (mwe : Nat → Int64) (mwi : Int32) (mac : Int32) (mre : Int32) (mkn : Int32) (mth : Int32) (x1 : Int32) (H : Heap) (locs : List Loc), va_P (dC, dI) vwCl (wMo cJ cZ b mce mfr mun mbe men mov msp mwb mwe mwi mac mre mkn mth) H → va_D A (wMo cJ cZ b mce mfr mun mbe men mov msp mwb mwe mwi mac mre mkn mth) → va_S A s.heap H locs → ∀ (ls : Array Slot), lv_has ls 2 (kvA 0 (b 0) (kvI 1 x1 kvE)) → f_X3_calendar_10 mfr mun x1 = some res → W p l e (headSpec wsX3_calendar (kRm 3 0 0 64)).room s m ([.ref (b 0), .int p0] : List Value).toArray below meth c H locs 0 0 (MQ below (kI (dC, dI) .int (res.1) (wMo cJ cZ b mce mfr mun mbe men mov msp mwb mwe mwi mac mre mkn (res.2)) A) ([.ref (b 0), .int p0] : List Value).toArray s 0 0 A) (F0 m 10 ls [.ref (b 0)]) := by
    intro mce mfr mun mbe men mov msp mwb mwe mwi mac mre mkn mth x1 H locs hP hD hS ls hl h
    have h := f_X3_calendar_10_e.symm.trans h
    refine lv_iconst (v := 1) hx hb (kdr dgX3_calendar_0 0 6 rfl rfl) (by decide) ?_
    refine lv_goto (tgt := 15) hx hb (kdr dgX3_calendar_0 0 7 rfl rfl) (by decide) ?_
    exact J15 mce mfr mun mbe men mov msp mwb mwe mwi mac mre mkn mth x1 1 _ _ hP hD hS ls (lv_sub hl [0, 1] rfl) h
  have h := f_X3_calendar_e.symm.trans hf
  refine lv_aload_n hx hb (kdr dgX3_calendar_0 0 0 rfl rfl) rfl (lv_at hl 0 rfl) ?_
  refine lv_iload_n hx hb (kdr dgX3_calendar_0 0 1 rfl rfl) rfl (lv_at hl 1 rfl) ?_
  refine lv_if_lt (tgt := 10) hx hb (kdr dgX3_calendar_0 0 2 rfl rfl) (by decide) (fun c1 => ?_) (fun c1 => ?_)
  · have h := g_t c1 h
    exact J10 mce mfr mun mbe men mov msp mwb mwe mwi mac mre mkn mth p0 _ _ hP hD hS ls (lv_sub hl [0, 1] rfl) h
  · have h := g_f c1 h
    refine lv_iload_n hx hb (kdr dgX3_calendar_0 0 3 rfl rfl) rfl (lv_at hl 1 rfl) ?_
    refine lv_iconst (v := 3) hx hb (kdr dgX3_calendar_0 0 4 rfl rfl) (by decide) ?_
    refine lv_icmp_le (tgt := 14) hx hb (kdr dgX3_calendar_0 0 5 rfl rfl) (by decide) (fun c2 => ?_) (fun c2 => ?_)
    · have h := g_t c2 h
      refine lv_iconst (v := 0) hx hb (kdr dgX3_calendar_0 0 8 rfl rfl) (by decide) ?_
      exact J15 mce mfr mun mbe men mov msp mwb mwe mwi mac mre mkn mth p0 0 _ _ hP hD hS ls (lv_sub hl [0, 1] rfl) h
    · have h := g_f c2 h
      exact J10 mce mfr mun mbe men mov msp mwb mwe mwi mac mre mkn mth p0 _ _ hP hD hS ls (lv_sub hl [0, 1] rfl) h
noncomputable abbrev wsX3_spans : List Cond := kWs yX3_spans cX3_spans 1 (some .int)
noncomputable def f_X3_spans (msp : Int32) : Option ((Int32) × (Int32)) :=
  some (msp, 0)
theorem f_X3_spans_e {msp : Int32} : f_X3_spans msp = 
  some (msp, 0) := rfl
set_option maxHeartbeats 4000000 in
set_option maxRecDepth 100000 in
theorem c_X3_spans (l : Launch) (dC : Nat → ClassId) (dI : Nat → Nat → Nat) (cB cI cJ cZ : ClassId) (b : Nat → Nat) (sz : Nat) (mce : Nat → Int64) (mfr : Int64) (mun : Int64) (mbe : Nat → Int64) (men : Nat → Int64) (mov : Nat → Int32) (msp : Int32) (mwb : Nat → Int64) (mwe : Nat → Int64) (mwi : Int32) (mac : Int32) (mre : Int32) (mkn : Int32) (mth : Int32) (res : (Int32) × (Int32)) (hf : f_X3_spans msp = some res) : kMi l yX3_spans wsX3_spans (kRm 0 0 0 0) dC dI cB cI cJ cZ [.ref (b 0)] sz (wMo cJ cZ b mce mfr mun mbe men mov msp mwb mwe mwi mac mre mkn mth) .int (res.1) (wMo cJ cZ b mce mfr mun mbe men mov msp mwb mwe mwi mac mre mkn (res.2)) 0 0 := by
  refine kmet_i (y := yX3_spans) (cc := cX3_spans) (maxL := 1) (ret := (some .int)) RX3 (kvA 0 (b 0) kvE) kpl_X3 rfl rfl (Nat.le_of_ble_eq_true rfl) rfl (fun p e s m below meth c A ls hx hb hr hml hts hown hlocks hP hK hG hD hA hS hl => ?_)
  have hw0 := hts (.fieldLink RX3 35 "SpanbookerModel" "thrown" "I") (List.mem_cons_of_mem _ kw_1085)
  have hw1 := hts (.fieldLink RX3 56 "SpanbookerModel" "spans" "I") (List.mem_cons_of_mem _ kw_1078)
  have hiX3 : ∀ w ∈ u_ws RX3 TX3 14, w ∈ wsX3_spans := fun w h => List.mem_cons_of_mem _ (ku_X3 w h)
  have h := f_X3_spans_e.symm.trans hf
  refine lv_aload_n hx hb (kdr dgX3_spans_0 0 0 rfl rfl) rfl (lv_at hl 0 rfl) ?_
  refine lv_iconst (v := 0) hx hb (kdr dgX3_spans_0 0 1 rfl rfl) (by decide) ?_
  refine va_put (D := (dC, dI)) (ci := 5) (v := .int 0) (ty := .int) (C := RX3) (T := TX3) (N := 14) hx hb hts hiX3 tyX3 tyX3_ok nmX3 hown hK hP hD hS 0 rfl rfl 13 (by decide) hw0 (fun _ h9 => h9) rfl (by decide +kernel) rfl rfl (Nat.le_of_ble_eq_true rfl) (kdr dgX3_spans_0 0 2 rfl rfl) (fun H locs hP hD hS => ?_)
  have hP : va_P (dC, dI) vwCl (wMo cJ cZ b mce mfr mun mbe men mov msp mwb mwe mwi mac mre mkn 0) H := hP
  have hD : va_D A (wMo cJ cZ b mce mfr mun mbe men mov msp mwb mwe mwi mac mre mkn 0) := hD
  refine lv_aload_n hx hb (kdr dgX3_spans_0 0 3 rfl rfl) rfl (lv_at hl 0 rfl) ?_
  refine va_get (D := (dC, dI)) (ci := 5) (v := .int msp) (C := RX3) (T := TX3) (N := 14) hx hb hts hiX3 hown hK hP 0 rfl rfl 6 (by decide) hw1 (fun _ h9 => h9) rfl (kdr dgX3_spans_0 0 4 rfl rfl) ?_
  have h := Option.some.inj h
  subst h
  exact kret_i (v := msp) hx hb hr rfl hlocks hS hP (kdr dgX3_spans_0 0 5 rfl rfl)
noncomputable abbrev wsX3_ofSpan : List Cond := kWs yX3_ofSpan cX3_ofSpan 3 (some .int)
noncomputable def f_X3_ofSpan_78 (mth : Int32) (x2 : Int32) (y0 : Int64) : Option ((Int32) × (Int32)) :=
  (f_X3_half y0 x2).bind fun r1 =>
  some (r1, mth)
theorem f_X3_ofSpan_78_e {mth : Int32} {x2 : Int32} {y0 : Int64} : f_X3_ofSpan_78 mth x2 y0 =
  (f_X3_half y0 x2).bind fun r1 =>
  some (r1, mth) := rfl
noncomputable def f_X3_ofSpan_28 (mbe : Nat → Int64) (men : Nat → Int64) (mov : Nat → Int32) (x1 : Int32) (x2 : Int32) (y0 : Int32) (y1 : Int32) : Option ((Int32) × (Int32)) :=
  (f_X3_isThrown y1 y0).bind fun r1 =>
  if r1.1 = 0 then
    if x2 = 4 then
      if ix x1 10 then
        if (mov x1.toNatClampNeg) = 0 then
          some (0, r1.2)
        else
          some (1, r1.2)
      else none
    else
      if 2 ≤ x2 then
        if ix x1 10 then
          f_X3_ofSpan_78 r1.2 x2 (men x1.toNatClampNeg)
        else none
      else
        if ix x1 10 then
          f_X3_ofSpan_78 r1.2 x2 (mbe x1.toNatClampNeg)
        else none
  else
    some (0, r1.2)
theorem f_X3_ofSpan_28_e {mbe : Nat → Int64} {men : Nat → Int64} {mov : Nat → Int32} {x1 : Int32} {x2 : Int32} {y0 : Int32} {y1 : Int32} : f_X3_ofSpan_28 mbe men mov x1 x2 y0 y1 =
  (f_X3_isThrown y1 y0).bind fun r1 =>
  if r1.1 = 0 then
    if x2 = 4 then
      if ix x1 10 then
        if (mov x1.toNatClampNeg) = 0 then
          some (0, r1.2)
        else
          some (1, r1.2)
      else none
    else
      if 2 ≤ x2 then
        if ix x1 10 then
          f_X3_ofSpan_78 r1.2 x2 (men x1.toNatClampNeg)
        else none
      else
        if ix x1 10 then
          f_X3_ofSpan_78 r1.2 x2 (mbe x1.toNatClampNeg)
        else none
  else
    some (0, r1.2) := rfl
noncomputable def f_X3_ofSpan_23 (mbe : Nat → Int64) (men : Nat → Int64) (mov : Nat → Int32) (x1 : Int32) (x2 : Int32) (y0 : Int32) : Option ((Int32) × (Int32)) :=
  f_X3_ofSpan_28 mbe men mov x1 x2 1 y0
theorem f_X3_ofSpan_23_e {mbe : Nat → Int64} {men : Nat → Int64} {mov : Nat → Int32} {x1 : Int32} {x2 : Int32} {y0 : Int32} : f_X3_ofSpan_23 mbe men mov x1 x2 y0 =
  f_X3_ofSpan_28 mbe men mov x1 x2 1 y0 := rfl
noncomputable def f_X3_ofSpan_14 (mbe : Nat → Int64) (men : Nat → Int64) (mov : Nat → Int32) (x1 : Int32) (x2 : Int32) (y0 : Int32) : Option ((Int32) × (Int32)) :=
  if x2 < 0 then
    f_X3_ofSpan_23 mbe men mov x1 x2 y0
  else
    if x2 ≤ 4 then
      f_X3_ofSpan_28 mbe men mov x1 x2 0 y0
    else
      f_X3_ofSpan_23 mbe men mov x1 x2 y0
theorem f_X3_ofSpan_14_e {mbe : Nat → Int64} {men : Nat → Int64} {mov : Nat → Int32} {x1 : Int32} {x2 : Int32} {y0 : Int32} : f_X3_ofSpan_14 mbe men mov x1 x2 y0 =
  if x2 < 0 then
    f_X3_ofSpan_23 mbe men mov x1 x2 y0
  else
    if x2 ≤ 4 then
      f_X3_ofSpan_28 mbe men mov x1 x2 0 y0
    else
      f_X3_ofSpan_23 mbe men mov x1 x2 y0 := rfl
noncomputable def f_X3_ofSpan (mbe : Nat → Int64) (men : Nat → Int64) (mov : Nat → Int32) (msp : Int32) (p0 : Int32) (p1 : Int32) : Option ((Int32) × (Int32)) :=
  (f_X3_isSpan msp p0).bind fun r1 =>
  if r1 = 0 then
    f_X3_ofSpan_14 mbe men mov p0 p1 1
  else
    f_X3_ofSpan_14 mbe men mov p0 p1 0
theorem f_X3_ofSpan_e {mbe : Nat → Int64} {men : Nat → Int64} {mov : Nat → Int32} {msp : Int32} {p0 : Int32} {p1 : Int32} : f_X3_ofSpan mbe men mov msp p0 p1 = 
  (f_X3_isSpan msp p0).bind fun r1 =>
  if r1 = 0 then
    f_X3_ofSpan_14 mbe men mov p0 p1 1
  else
    f_X3_ofSpan_14 mbe men mov p0 p1 0 := rfl
set_option maxHeartbeats 4000000 in
set_option maxRecDepth 100000 in
theorem c_X3_ofSpan (l : Launch) (dC : Nat → ClassId) (dI : Nat → Nat → Nat) (cB cI cJ cZ : ClassId) (b : Nat → Nat) (sz : Nat) (mce : Nat → Int64) (mfr : Int64) (mun : Int64) (mbe : Nat → Int64) (men : Nat → Int64) (mov : Nat → Int32) (msp : Int32) (mwb : Nat → Int64) (mwe : Nat → Int64) (mwi : Int32) (mac : Int32) (mre : Int32) (mkn : Int32) (mth : Int32) (p0 : Int32) (p1 : Int32) (res : (Int32) × (Int32)) (hf : f_X3_ofSpan mbe men mov msp p0 p1 = some res) : kMi l yX3_ofSpan wsX3_ofSpan (kRm 3 0 0 64) dC dI cB cI cJ cZ [.ref (b 0), .int p0, .int p1] sz (wMo cJ cZ b mce mfr mun mbe men mov msp mwb mwe mwi mac mre mkn mth) .int (res.1) (wMo cJ cZ b mce mfr mun mbe men mov msp mwb mwe mwi mac mre mkn (res.2)) 0 0 := by
  refine kmet_i (y := yX3_ofSpan) (cc := cX3_ofSpan) (maxL := 3) (ret := (some .int)) RX3 (kvA 0 (b 0) (kvI 1 p0 (kvI 2 p1 kvE))) kpl_X3 rfl rfl (Nat.le_of_ble_eq_true rfl) rfl (fun p e s m below meth c A ls hx hb hr hml hts hown hlocks hP hK hG hD hA hS hl => ?_)
  have hw0 := hts (.fieldLink RX3 22 "SpanbookerModel" "ends" "[J") (List.mem_cons_of_mem _ kw_1076)
  have hw1 := hts (.fieldLink RX3 19 "SpanbookerModel" "begins" "[J") (List.mem_cons_of_mem _ kw_1075)
  have hw2 := hts (.fieldLink RX3 25 "SpanbookerModel" "over" "[Z") (List.mem_cons_of_mem _ kw_1077)
  have hiX3 : ∀ w ∈ u_ws RX3 TX3 14, w ∈ wsX3_ofSpan := fun w h => List.mem_cons_of_mem _ (ku_X3 w h)
  have J78 : ∀ (mce : Nat → Int64) (mfr : Int64) (mun : Int64) (mbe : Nat → Int64) (men : Nat → Int64) (mov : Nat → Int32) (msp : Int32) (mwb : Nat → Int64) (mwe : Nat → Int64) (mwi : Int32) (mac : Int32) (mre : Int32) (mkn : Int32) (mth : Int32) (x2 : Int32) (y0 : Int64) (H : Heap) (locs : List Loc), va_P (dC, dI) vwCl (wMo cJ cZ b mce mfr mun mbe men mov msp mwb mwe mwi mac mre mkn mth) H → va_D A (wMo cJ cZ b mce mfr mun mbe men mov msp mwb mwe mwi mac mre mkn mth) → va_S A s.heap H locs → ∀ (ls : Array Slot), lv_has ls 3 (kvI 2 x2 kvE) → f_X3_ofSpan_78 mth x2 y0 = some res → W p l e (headSpec wsX3_ofSpan (kRm 3 0 0 64)).room s m ([.ref (b 0), .int p0, .int p1] : List Value).toArray below meth c H locs 0 0 (MQ below (kI (dC, dI) .int (res.1) (wMo cJ cZ b mce mfr mun mbe men mov msp mwb mwe mwi mac mre mkn (res.2)) A) ([.ref (b 0), .int p0, .int p1] : List Value).toArray s 0 0 A) (F0 m 78 ls [.long y0]) := by
    intro mce mfr mun mbe men mov msp mwb mwe mwi mac mre mkn mth x2 y0 H locs hP hD hS ls hl h
    have h := f_X3_ofSpan_78_e.symm.trans h
    refine lv_iload_n hx hb (kdr dgX3_ofSpan_0 4 4 rfl rfl) rfl (lv_at hl 0 rfl) ?_
    obtain ⟨r1, g1, h⟩ := g_b h
    refine kq_i (wMo cJ cZ b mce mfr mun mbe men mov msp mwb mwe mwi mac mre mkn mth) (fun qP qD qF => va_runS (As := [.long y0, .int x2]) (rest := []) ⟨hx, hb, hml, hown, hts⟩ (c_X3_half l dC dI cB cI cJ cZ  _  y0 x2 r1 g1) (kcwS hts kw_1313 kv_X3_half rfl rfl ⟨(Nat.le_of_ble_eq_true rfl), (Nat.le_of_ble_eq_true rfl)⟩) (kpS (A := A) (kPnil) hK ((kDnil (A := A))) hG) rfl rfl hl.1 rfl (lv_room (Nat.le_of_ble_eq_true rfl)) (kdr dgX3_ofSpan_0 4 5 rfl rfl) ⟨(Nat.le_of_ble_eq_true rfl), (Nat.le_of_ble_eq_true rfl)⟩) hP hD hS hA kFr_n (fun H locs hP hD hS br1 => ?_)
    have h := Option.some.inj h
    subst h
    exact kret_i (v := r1) hx hb hr rfl hlocks hS hP (kdr dgX3_ofSpan_0 4 6 rfl rfl)
  have J28 : ∀ (mce : Nat → Int64) (mfr : Int64) (mun : Int64) (mbe : Nat → Int64) (men : Nat → Int64) (mov : Nat → Int32) (msp : Int32) (mwb : Nat → Int64) (mwe : Nat → Int64) (mwi : Int32) (mac : Int32) (mre : Int32) (mkn : Int32) (mth : Int32) (x1 : Int32) (x2 : Int32) (y0 : Int32) (y1 : Int32) (H : Heap) (locs : List Loc), va_P (dC, dI) vwCl (wMo cJ cZ b mce mfr mun mbe men mov msp mwb mwe mwi mac mre mkn mth) H → va_D A (wMo cJ cZ b mce mfr mun mbe men mov msp mwb mwe mwi mac mre mkn mth) → va_S A s.heap H locs → ∀ (ls : Array Slot), lv_has ls 3 (kvA 0 (b 0) (kvI 1 x1 (kvI 2 x2 kvE))) → f_X3_ofSpan_28 mbe men mov x1 x2 y0 y1 = some res → W p l e (headSpec wsX3_ofSpan (kRm 3 0 0 64)).room s m ([.ref (b 0), .int p0, .int p1] : List Value).toArray below meth c H locs 0 0 (MQ below (kI (dC, dI) .int (res.1) (wMo cJ cZ b mce mfr mun mbe men mov msp mwb mwe mwi mac mre mkn (res.2)) A) ([.ref (b 0), .int p0, .int p1] : List Value).toArray s 0 0 A) (F0 m 28 ls [.int y0, .int y1, .ref (b 0)]) := by
    intro mce mfr mun mbe men mov msp mwb mwe mwi mac mre mkn mth x1 x2 y0 y1 H locs hP hD hS ls hl h
    have h := f_X3_ofSpan_28_e.symm.trans h
    obtain ⟨r1, g1, h⟩ := g_b h
    refine kq_i (wMo cJ cZ b mce mfr mun mbe men mov msp mwb mwe mwi mac mre mkn r1.2) (fun qP qD qF => va_runV (As := [.int y1, .int y0]) (rest := []) ⟨hx, hb, hml, hown, hts⟩ (c_X3_isThrown l dC dI cB cI cJ cZ b _ mce mfr mun mbe men mov msp mwb mwe mwi mac mre mkn mth y1 y0 r1 g1) (kcwV hts kw_1126 kv_X3_isThrown rfl rfl ⟨(Nat.le_of_ble_eq_true rfl), (Nat.le_of_ble_eq_true rfl)⟩) (kpV (A := A) qP hK qD hG (krecv_5 (q0 := 0) hK hP rfl)) rfl rfl hl.1 rfl (lv_room (Nat.le_of_ble_eq_true rfl)) (kdr dgX3_ofSpan_0 1 6 rfl rfl) ⟨(Nat.le_of_ble_eq_true rfl), (Nat.le_of_ble_eq_true rfl)⟩) hP hD hS hA kFr_Mo (fun H locs hP hD hS br1 => ?_)
    refine lv_if_eq (tgt := 36) hx hb (kdr dgX3_ofSpan_0 1 7 rfl rfl) (by decide) (fun c2 => ?_) (fun c2 => ?_)
    · have h := g_t c2 h
      refine lv_iload_n hx hb (kdr dgX3_ofSpan_0 2 0 rfl rfl) rfl (lv_at hl 2 rfl) ?_
      refine lv_iconst (v := 4) hx hb (kdr dgX3_ofSpan_0 2 1 rfl rfl) (by decide) ?_
      refine lv_icmp_ne (tgt := 58) hx hb (kdr dgX3_ofSpan_0 2 2 rfl rfl) (by decide) (fun c3 => ?_) (fun c3 => ?_)
      · have h := g_f c3 h
        refine lv_iload_n hx hb (kdr dgX3_ofSpan_0 3 2 rfl rfl) rfl (lv_at hl 2 rfl) ?_
        refine lv_iconst (v := 2) hx hb (kdr dgX3_ofSpan_0 3 3 rfl rfl) (by decide) ?_
        refine lv_icmp_ge (tgt := 72) hx hb (kdr dgX3_ofSpan_0 3 4 rfl rfl) (by decide) (fun c4 => ?_) (fun c4 => ?_)
        · have h := g_t c4 h
          refine lv_aload_n hx hb (kdr dgX3_ofSpan_0 4 0 rfl rfl) rfl (lv_at hl 0 rfl) ?_
          refine va_get (D := (dC, dI)) (ci := 5) (v := .ref (b 3)) (C := RX3) (T := TX3) (N := 14) hx hb hts hiX3 hown hK hP 0 rfl rfl 4 (by decide) hw0 (fun _ h9 => h9) rfl (kdr dgX3_ofSpan_0 4 1 rfl rfl) ?_
          refine lv_iload_n hx hb (kdr dgX3_ofSpan_0 4 2 rfl rfl) rfl (lv_at hl 1 rfl) ?_
          obtain ⟨z4, h⟩ := g_if h
          refine va_lald hx hb hK hP 3 2 rfl rfl (ix_in z4) (kdr dgX3_ofSpan_0 4 3 rfl rfl) ?_
          exact J78 mce mfr mun mbe men mov msp mwb mwe mwi mac mre mkn r1.2 x2 (men x1.toNatClampNeg) _ _ hP hD hS ls (lv_sub hl [2] rfl) h
        · have h := g_f c4 h
          refine lv_aload_n hx hb (kdr dgX3_ofSpan_0 3 5 rfl rfl) rfl (lv_at hl 0 rfl) ?_
          refine va_get (D := (dC, dI)) (ci := 5) (v := .ref (b 2)) (C := RX3) (T := TX3) (N := 14) hx hb hts hiX3 hown hK hP 0 rfl rfl 3 (by decide) hw1 (fun _ h9 => h9) rfl (kdr dgX3_ofSpan_0 3 6 rfl rfl) ?_
          refine lv_iload_n hx hb (kdr dgX3_ofSpan_0 3 7 rfl rfl) rfl (lv_at hl 1 rfl) ?_
          obtain ⟨z4, h⟩ := g_if h
          refine va_lald hx hb hK hP 2 2 rfl rfl (ix_in z4) (kdr dgX3_ofSpan_0 3 8 rfl rfl) ?_
          refine lv_goto (tgt := 78) hx hb (kdr dgX3_ofSpan_0 3 9 rfl rfl) (by decide) ?_
          exact J78 mce mfr mun mbe men mov msp mwb mwe mwi mac mre mkn r1.2 x2 (mbe x1.toNatClampNeg) _ _ hP hD hS ls (lv_sub hl [2] rfl) h
      · have h := g_t c3 h
        refine lv_aload_n hx hb (kdr dgX3_ofSpan_0 2 3 rfl rfl) rfl (lv_at hl 0 rfl) ?_
        refine va_get (D := (dC, dI)) (ci := 5) (v := .ref (b 4)) (C := RX3) (T := TX3) (N := 14) hx hb hts hiX3 hown hK hP 0 rfl rfl 5 (by decide) hw2 (fun _ h9 => h9) rfl (kdr dgX3_ofSpan_0 2 4 rfl rfl) ?_
        refine lv_iload_n hx hb (kdr dgX3_ofSpan_0 2 5 rfl rfl) rfl (lv_at hl 1 rfl) ?_
        obtain ⟨z3, h⟩ := g_if h
        refine va_zald hx hb hK hP 4 3 rfl rfl (ix_in z3) (kdr dgX3_ofSpan_0 2 6 rfl rfl) ?_
        refine lv_if_eq (tgt := 54) hx hb (kdr dgX3_ofSpan_0 2 7 rfl rfl) (by decide) (fun c5 => ?_) (fun c5 => ?_)
        · have h := g_t c5 h
          refine lv_iconst (v := 0) hx hb (kdr dgX3_ofSpan_0 3 0 rfl rfl) (by decide) ?_
          refine lv_goto (tgt := 82) hx hb (kdr dgX3_ofSpan_0 3 1 rfl rfl) (by decide) ?_
          have h := Option.some.inj h
          subst h
          exact kret_i (v := 0) hx hb hr rfl hlocks hS hP (kdr dgX3_ofSpan_0 4 6 rfl rfl)
        · have h := g_f c5 h
          refine lv_iconst (v := 1) hx hb (kdr dgX3_ofSpan_0 2 8 rfl rfl) (by decide) ?_
          refine lv_goto (tgt := 82) hx hb (kdr dgX3_ofSpan_0 2 9 rfl rfl) (by decide) ?_
          have h := Option.some.inj h
          subst h
          exact kret_i (v := 1) hx hb hr rfl hlocks hS hP (kdr dgX3_ofSpan_0 4 6 rfl rfl)
    · have h := g_f c2 h
      refine lv_iconst (v := 0) hx hb (kdr dgX3_ofSpan_0 1 8 rfl rfl) (by decide) ?_
      have h := Option.some.inj h
      subst h
      exact kret_i (v := 0) hx hb hr rfl hlocks hS hP (kdr dgX3_ofSpan_0 1 9 rfl rfl)
  have J23 : ∀ (mce : Nat → Int64) (mfr : Int64) (mun : Int64) (mbe : Nat → Int64) (men : Nat → Int64) (mov : Nat → Int32) (msp : Int32) (mwb : Nat → Int64) (mwe : Nat → Int64) (mwi : Int32) (mac : Int32) (mre : Int32) (mkn : Int32) (mth : Int32) (x1 : Int32) (x2 : Int32) (y0 : Int32) (H : Heap) (locs : List Loc), va_P (dC, dI) vwCl (wMo cJ cZ b mce mfr mun mbe men mov msp mwb mwe mwi mac mre mkn mth) H → va_D A (wMo cJ cZ b mce mfr mun mbe men mov msp mwb mwe mwi mac mre mkn mth) → va_S A s.heap H locs → ∀ (ls : Array Slot), lv_has ls 3 (kvA 0 (b 0) (kvI 1 x1 (kvI 2 x2 kvE))) → f_X3_ofSpan_23 mbe men mov x1 x2 y0 = some res → W p l e (headSpec wsX3_ofSpan (kRm 3 0 0 64)).room s m ([.ref (b 0), .int p0, .int p1] : List Value).toArray below meth c H locs 0 0 (MQ below (kI (dC, dI) .int (res.1) (wMo cJ cZ b mce mfr mun mbe men mov msp mwb mwe mwi mac mre mkn (res.2)) A) ([.ref (b 0), .int p0, .int p1] : List Value).toArray s 0 0 A) (F0 m 23 ls [.int y0, .ref (b 0)]) := by
    intro mce mfr mun mbe men mov msp mwb mwe mwi mac mre mkn mth x1 x2 y0 H locs hP hD hS ls hl h
    have h := f_X3_ofSpan_23_e.symm.trans h
    refine lv_iconst (v := 1) hx hb (kdr dgX3_ofSpan_0 1 3 rfl rfl) (by decide) ?_
    refine lv_goto (tgt := 28) hx hb (kdr dgX3_ofSpan_0 1 4 rfl rfl) (by decide) ?_
    exact J28 mce mfr mun mbe men mov msp mwb mwe mwi mac mre mkn mth x1 x2 1 y0 _ _ hP hD hS ls (lv_sub hl [0, 1, 2] rfl) h
  have J14 : ∀ (mce : Nat → Int64) (mfr : Int64) (mun : Int64) (mbe : Nat → Int64) (men : Nat → Int64) (mov : Nat → Int32) (msp : Int32) (mwb : Nat → Int64) (mwe : Nat → Int64) (mwi : Int32) (mac : Int32) (mre : Int32) (mkn : Int32) (mth : Int32) (x1 : Int32) (x2 : Int32) (y0 : Int32) (H : Heap) (locs : List Loc), va_P (dC, dI) vwCl (wMo cJ cZ b mce mfr mun mbe men mov msp mwb mwe mwi mac mre mkn mth) H → va_D A (wMo cJ cZ b mce mfr mun mbe men mov msp mwb mwe mwi mac mre mkn mth) → va_S A s.heap H locs → ∀ (ls : Array Slot), lv_has ls 3 (kvA 0 (b 0) (kvI 1 x1 (kvI 2 x2 kvE))) → f_X3_ofSpan_14 mbe men mov x1 x2 y0 = some res → W p l e (headSpec wsX3_ofSpan (kRm 3 0 0 64)).room s m ([.ref (b 0), .int p0, .int p1] : List Value).toArray below meth c H locs 0 0 (MQ below (kI (dC, dI) .int (res.1) (wMo cJ cZ b mce mfr mun mbe men mov msp mwb mwe mwi mac mre mkn (res.2)) A) ([.ref (b 0), .int p0, .int p1] : List Value).toArray s 0 0 A) (F0 m 14 ls [.int y0, .ref (b 0)]) := by
    intro mce mfr mun mbe men mov msp mwb mwe mwi mac mre mkn mth x1 x2 y0 H locs hP hD hS ls hl h
    have h := f_X3_ofSpan_14_e.symm.trans h
    refine lv_iload_n hx hb (kdr dgX3_ofSpan_0 0 8 rfl rfl) rfl (lv_at hl 2 rfl) ?_
    refine lv_if_lt (tgt := 23) hx hb (kdr dgX3_ofSpan_0 0 9 rfl rfl) (by decide) (fun c1 => ?_) (fun c1 => ?_)
    · have h := g_t c1 h
      exact J23 mce mfr mun mbe men mov msp mwb mwe mwi mac mre mkn mth x1 x2 y0 _ _ hP hD hS ls (lv_sub hl [0, 1, 2] rfl) h
    · have h := g_f c1 h
      refine lv_iload_n hx hb (kdr dgX3_ofSpan_0 1 0 rfl rfl) rfl (lv_at hl 2 rfl) ?_
      refine lv_iconst (v := 4) hx hb (kdr dgX3_ofSpan_0 1 1 rfl rfl) (by decide) ?_
      refine lv_icmp_le (tgt := 27) hx hb (kdr dgX3_ofSpan_0 1 2 rfl rfl) (by decide) (fun c2 => ?_) (fun c2 => ?_)
      · have h := g_t c2 h
        refine lv_iconst (v := 0) hx hb (kdr dgX3_ofSpan_0 1 5 rfl rfl) (by decide) ?_
        exact J28 mce mfr mun mbe men mov msp mwb mwe mwi mac mre mkn mth x1 x2 0 y0 _ _ hP hD hS ls (lv_sub hl [0, 1, 2] rfl) h
      · have h := g_f c2 h
        exact J23 mce mfr mun mbe men mov msp mwb mwe mwi mac mre mkn mth x1 x2 y0 _ _ hP hD hS ls (lv_sub hl [0, 1, 2] rfl) h
  have h := f_X3_ofSpan_e.symm.trans hf
  refine lv_aload_n hx hb (kdr dgX3_ofSpan_0 0 0 rfl rfl) rfl (lv_at hl 0 rfl) ?_
  refine lv_aload_n hx hb (kdr dgX3_ofSpan_0 0 1 rfl rfl) rfl (lv_at hl 0 rfl) ?_
  refine lv_iload_n hx hb (kdr dgX3_ofSpan_0 0 2 rfl rfl) rfl (lv_at hl 1 rfl) ?_
  obtain ⟨r1, g1, h⟩ := g_b h
  refine kq_i (wMo cJ cZ b mce mfr mun mbe men mov msp mwb mwe mwi mac mre mkn mth) (fun qP qD qF => va_runV (As := [.int p0]) (rest := [.ref (b 0)]) ⟨hx, hb, hml, hown, hts⟩ (c_X3_isSpan l dC dI cB cI cJ cZ b _ mce mfr mun mbe men mov msp mwb mwe mwi mac mre mkn mth p0 r1 g1) (kcwV hts kw_1219 kv_X3_isSpan rfl rfl ⟨(Nat.le_of_ble_eq_true rfl), (Nat.le_of_ble_eq_true rfl)⟩) (kpV (A := A) qP hK qD hG (krecv_5 (q0 := 0) hK hP rfl)) rfl rfl hl.1 rfl (lv_room (Nat.le_of_ble_eq_true rfl)) (kdr dgX3_ofSpan_0 0 3 rfl rfl) ⟨(Nat.le_of_ble_eq_true rfl), (Nat.le_of_ble_eq_true rfl)⟩) hP hD hS hA kFr_Mo (fun H locs hP hD hS br1 => ?_)
  refine lv_if_ne (tgt := 13) hx hb (kdr dgX3_ofSpan_0 0 4 rfl rfl) (by decide) (fun c2 => ?_) (fun c2 => ?_)
  · have h := g_f c2 h
    refine lv_iconst (v := 0) hx hb (kdr dgX3_ofSpan_0 0 7 rfl rfl) (by decide) ?_
    exact J14 mce mfr mun mbe men mov msp mwb mwe mwi mac mre mkn mth p0 p1 0 _ _ hP hD hS ls (lv_sub hl [0, 1, 2] rfl) h
  · have h := g_t c2 h
    refine lv_iconst (v := 1) hx hb (kdr dgX3_ofSpan_0 0 5 rfl rfl) (by decide) ?_
    refine lv_goto (tgt := 14) hx hb (kdr dgX3_ofSpan_0 0 6 rfl rfl) (by decide) ?_
    exact J14 mce mfr mun mbe men mov msp mwb mwe mwi mac mre mkn mth p0 p1 1 _ _ hP hD hS ls (lv_sub hl [0, 1, 2] rfl) h
noncomputable abbrev wsX3_meets : List Cond := kWs yX3_meets cX3_meets 3 (some .boolean)
noncomputable def f_X3_meets_22 (mbe : Nat → Int64) (men : Nat → Int64) (x1 : Int32) (x2 : Int32) (y0 : Int32) : Option ((Int32) × (Int32)) :=
  (f_X3_isThrown_ y0).bind fun r1 =>
  if r1.1 = 0 then
    if ix x1 10 then
      if ix x2 10 then
        (f_X3_meet (mbe x1.toNatClampNeg) (men x1.toNatClampNeg) (mbe x2.toNatClampNeg) (men x2.toNatClampNeg)).bind fun r5 =>
        if r5 = 0 then
          some (0, r1.2)
        else
          some (1, r1.2)
      else none
    else none
  else
    some (0, r1.2)
theorem f_X3_meets_22_e {mbe : Nat → Int64} {men : Nat → Int64} {x1 : Int32} {x2 : Int32} {y0 : Int32} : f_X3_meets_22 mbe men x1 x2 y0 =
  (f_X3_isThrown_ y0).bind fun r1 =>
  if r1.1 = 0 then
    if ix x1 10 then
      if ix x2 10 then
        (f_X3_meet (mbe x1.toNatClampNeg) (men x1.toNatClampNeg) (mbe x2.toNatClampNeg) (men x2.toNatClampNeg)).bind fun r5 =>
        if r5 = 0 then
          some (0, r1.2)
        else
          some (1, r1.2)
      else none
    else none
  else
    some (0, r1.2) := rfl
noncomputable def f_X3_meets_17 (mbe : Nat → Int64) (men : Nat → Int64) (x1 : Int32) (x2 : Int32) : Option ((Int32) × (Int32)) :=
  f_X3_meets_22 mbe men x1 x2 1
theorem f_X3_meets_17_e {mbe : Nat → Int64} {men : Nat → Int64} {x1 : Int32} {x2 : Int32} : f_X3_meets_17 mbe men x1 x2 =
  f_X3_meets_22 mbe men x1 x2 1 := rfl
noncomputable def f_X3_meets (mbe : Nat → Int64) (men : Nat → Int64) (msp : Int32) (p0 : Int32) (p1 : Int32) : Option ((Int32) × (Int32)) :=
  (f_X3_isSpan msp p0).bind fun r1 =>
  if r1 = 0 then
    f_X3_meets_17 mbe men p0 p1
  else
    (f_X3_isSpan msp p1).bind fun r3 =>
    if r3 = 0 then
      f_X3_meets_17 mbe men p0 p1
    else
      f_X3_meets_22 mbe men p0 p1 0
theorem f_X3_meets_e {mbe : Nat → Int64} {men : Nat → Int64} {msp : Int32} {p0 : Int32} {p1 : Int32} : f_X3_meets mbe men msp p0 p1 = 
  (f_X3_isSpan msp p0).bind fun r1 =>
  if r1 = 0 then
    f_X3_meets_17 mbe men p0 p1
  else
    (f_X3_isSpan msp p1).bind fun r3 =>
    if r3 = 0 then
      f_X3_meets_17 mbe men p0 p1
    else
      f_X3_meets_22 mbe men p0 p1 0 := rfl
set_option maxHeartbeats 4000000 in
set_option maxRecDepth 100000 in
theorem c_X3_meets (l : Launch) (dC : Nat → ClassId) (dI : Nat → Nat → Nat) (cB cI cJ cZ : ClassId) (b : Nat → Nat) (sz : Nat) (mce : Nat → Int64) (mfr : Int64) (mun : Int64) (mbe : Nat → Int64) (men : Nat → Int64) (mov : Nat → Int32) (msp : Int32) (mwb : Nat → Int64) (mwe : Nat → Int64) (mwi : Int32) (mac : Int32) (mre : Int32) (mkn : Int32) (mth : Int32) (p0 : Int32) (p1 : Int32) (res : (Int32) × (Int32)) (hf : f_X3_meets mbe men msp p0 p1 = some res) : kMi l yX3_meets wsX3_meets (kRm 2 0 0 43) dC dI cB cI cJ cZ [.ref (b 0), .int p0, .int p1] sz (wMo cJ cZ b mce mfr mun mbe men mov msp mwb mwe mwi mac mre mkn mth) .boolean (res.1) (wMo cJ cZ b mce mfr mun mbe men mov msp mwb mwe mwi mac mre mkn (res.2)) 0 0 := by
  refine kmet_i (y := yX3_meets) (cc := cX3_meets) (maxL := 3) (ret := (some .boolean)) RX3 (kvA 0 (b 0) (kvI 1 p0 (kvI 2 p1 kvE))) kpl_X3 rfl rfl (Nat.le_of_ble_eq_true rfl) rfl (fun p e s m below meth c A ls hx hb hr hml hts hown hlocks hP hK hG hD hA hS hl => ?_)
  have hw0 := hts (.fieldLink RX3 19 "SpanbookerModel" "begins" "[J") (List.mem_cons_of_mem _ kw_1075)
  have hw1 := hts (.fieldLink RX3 22 "SpanbookerModel" "ends" "[J") (List.mem_cons_of_mem _ kw_1076)
  have hiX3 : ∀ w ∈ u_ws RX3 TX3 14, w ∈ wsX3_meets := fun w h => List.mem_cons_of_mem _ (ku_X3 w h)
  have J22 : ∀ (mce : Nat → Int64) (mfr : Int64) (mun : Int64) (mbe : Nat → Int64) (men : Nat → Int64) (mov : Nat → Int32) (msp : Int32) (mwb : Nat → Int64) (mwe : Nat → Int64) (mwi : Int32) (mac : Int32) (mre : Int32) (mkn : Int32) (mth : Int32) (x1 : Int32) (x2 : Int32) (y0 : Int32) (H : Heap) (locs : List Loc), va_P (dC, dI) vwCl (wMo cJ cZ b mce mfr mun mbe men mov msp mwb mwe mwi mac mre mkn mth) H → va_D A (wMo cJ cZ b mce mfr mun mbe men mov msp mwb mwe mwi mac mre mkn mth) → va_S A s.heap H locs → ∀ (ls : Array Slot), lv_has ls 3 (kvA 0 (b 0) (kvI 1 x1 (kvI 2 x2 kvE))) → f_X3_meets_22 mbe men x1 x2 y0 = some res → W p l e (headSpec wsX3_meets (kRm 2 0 0 43)).room s m ([.ref (b 0), .int p0, .int p1] : List Value).toArray below meth c H locs 0 0 (MQ below (kI (dC, dI) .boolean (res.1) (wMo cJ cZ b mce mfr mun mbe men mov msp mwb mwe mwi mac mre mkn (res.2)) A) ([.ref (b 0), .int p0, .int p1] : List Value).toArray s 0 0 A) (F0 m 22 ls [.int y0, .ref (b 0)]) := by
    intro mce mfr mun mbe men mov msp mwb mwe mwi mac mre mkn mth x1 x2 y0 H locs hP hD hS ls hl h
    have h := f_X3_meets_22_e.symm.trans h
    obtain ⟨r1, g1, h⟩ := g_b h
    refine kq_i (wMo cJ cZ b mce mfr mun mbe men mov msp mwb mwe mwi mac mre mkn r1.2) (fun qP qD qF => va_runV (As := [.int y0]) (rest := []) ⟨hx, hb, hml, hown, hts⟩ (c_X3_isThrown_ l dC dI cB cI cJ cZ b _ mce mfr mun mbe men mov msp mwb mwe mwi mac mre mkn mth y0 r1 g1) (kcwV hts kw_1166 kv_X3_isThrown_ rfl rfl ⟨(Nat.le_of_ble_eq_true rfl), (Nat.le_of_ble_eq_true rfl)⟩) (kpV (A := A) qP hK qD hG (krecv_5 (q0 := 0) hK hP rfl)) rfl rfl hl.1 rfl (lv_room (Nat.le_of_ble_eq_true rfl)) (kdr dgX3_meets_0 1 2 rfl rfl) ⟨(Nat.le_of_ble_eq_true rfl), (Nat.le_of_ble_eq_true rfl)⟩) hP hD hS hA kFr_Mo (fun H locs hP hD hS br1 => ?_)
    refine lv_if_ne (tgt := 62) hx hb (kdr dgX3_meets_0 1 3 rfl rfl) (by decide) (fun c2 => ?_) (fun c2 => ?_)
    · have h := g_f c2 h
      refine lv_iconst (v := 0) hx hb (kdr dgX3_meets_0 3 4 rfl rfl) (by decide) ?_
      have h := Option.some.inj h
      subst h
      exact kret_i (v := 0) hx hb hr rfl hlocks hS hP (kdr dgX3_meets_0 3 5 rfl rfl)
    · have h := g_t c2 h
      refine lv_aload_n hx hb (kdr dgX3_meets_0 1 4 rfl rfl) rfl (lv_at hl 0 rfl) ?_
      refine va_get (D := (dC, dI)) (ci := 5) (v := .ref (b 2)) (C := RX3) (T := TX3) (N := 14) hx hb hts hiX3 hown hK hP 0 rfl rfl 3 (by decide) hw0 (fun _ h9 => h9) rfl (kdr dgX3_meets_0 1 5 rfl rfl) ?_
      refine lv_iload_n hx hb (kdr dgX3_meets_0 1 6 rfl rfl) rfl (lv_at hl 1 rfl) ?_
      obtain ⟨z2, h⟩ := g_if h
      refine va_lald hx hb hK hP 2 2 rfl rfl (ix_in z2) (kdr dgX3_meets_0 1 7 rfl rfl) ?_
      refine lv_aload_n hx hb (kdr dgX3_meets_0 1 8 rfl rfl) rfl (lv_at hl 0 rfl) ?_
      refine va_get (D := (dC, dI)) (ci := 5) (v := .ref (b 3)) (C := RX3) (T := TX3) (N := 14) hx hb hts hiX3 hown hK hP 0 rfl rfl 4 (by decide) hw1 (fun _ h9 => h9) rfl (kdr dgX3_meets_0 1 9 rfl rfl) ?_
      refine lv_iload_n hx hb (kdr dgX3_meets_0 2 0 rfl rfl) rfl (lv_at hl 1 rfl) ?_
      refine va_lald hx hb hK hP 3 2 rfl rfl (ix_in z2) (kdr dgX3_meets_0 2 1 rfl rfl) ?_
      refine lv_aload_n hx hb (kdr dgX3_meets_0 2 2 rfl rfl) rfl (lv_at hl 0 rfl) ?_
      refine va_get (D := (dC, dI)) (ci := 5) (v := .ref (b 2)) (C := RX3) (T := TX3) (N := 14) hx hb hts hiX3 hown hK hP 0 rfl rfl 3 (by decide) hw0 (fun _ h9 => h9) rfl (kdr dgX3_meets_0 2 3 rfl rfl) ?_
      refine lv_iload_n hx hb (kdr dgX3_meets_0 2 4 rfl rfl) rfl (lv_at hl 2 rfl) ?_
      obtain ⟨z3, h⟩ := g_if h
      refine va_lald hx hb hK hP 2 2 rfl rfl (ix_in z3) (kdr dgX3_meets_0 2 5 rfl rfl) ?_
      refine lv_aload_n hx hb (kdr dgX3_meets_0 2 6 rfl rfl) rfl (lv_at hl 0 rfl) ?_
      refine va_get (D := (dC, dI)) (ci := 5) (v := .ref (b 3)) (C := RX3) (T := TX3) (N := 14) hx hb hts hiX3 hown hK hP 0 rfl rfl 4 (by decide) hw1 (fun _ h9 => h9) rfl (kdr dgX3_meets_0 2 7 rfl rfl) ?_
      refine lv_iload_n hx hb (kdr dgX3_meets_0 2 8 rfl rfl) rfl (lv_at hl 2 rfl) ?_
      refine va_lald hx hb hK hP 3 2 rfl rfl (ix_in z3) (kdr dgX3_meets_0 2 9 rfl rfl) ?_
      obtain ⟨r5, g5, h⟩ := g_b h
      refine kq_i (wMo cJ cZ b mce mfr mun mbe men mov msp mwb mwe mwi mac mre mkn r1.2) (fun qP qD qF => va_runS (As := [.long (mbe x1.toNatClampNeg), .long (men x1.toNatClampNeg), .long (mbe x2.toNatClampNeg), .long (men x2.toNatClampNeg)]) (rest := []) ⟨hx, hb, hml, hown, hts⟩ (c_X3_meet l dC dI cB cI cJ cZ  _  (mbe x1.toNatClampNeg) (men x1.toNatClampNeg) (mbe x2.toNatClampNeg) (men x2.toNatClampNeg) r5 g5) (kcwS hts kw_1208 kv_X3_meet rfl rfl ⟨(Nat.le_of_ble_eq_true rfl), (Nat.le_of_ble_eq_true rfl)⟩) (kpS (A := A) (kPnil) hK ((kDnil (A := A))) hG) rfl rfl hl.1 rfl (lv_room (Nat.le_of_ble_eq_true rfl)) (kdr dgX3_meets_0 3 0 rfl rfl) ⟨(Nat.le_of_ble_eq_true rfl), (Nat.le_of_ble_eq_true rfl)⟩) hP hD hS hA kFr_n (fun H locs hP hD hS br5 => ?_)
      refine lv_if_eq (tgt := 62) hx hb (kdr dgX3_meets_0 3 1 rfl rfl) (by decide) (fun c6 => ?_) (fun c6 => ?_)
      · have h := g_t c6 h
        refine lv_iconst (v := 0) hx hb (kdr dgX3_meets_0 3 4 rfl rfl) (by decide) ?_
        have h := Option.some.inj h
        subst h
        exact kret_i (v := 0) hx hb hr rfl hlocks hS hP (kdr dgX3_meets_0 3 5 rfl rfl)
      · have h := g_f c6 h
        refine lv_iconst (v := 1) hx hb (kdr dgX3_meets_0 3 2 rfl rfl) (by decide) ?_
        refine lv_goto (tgt := 63) hx hb (kdr dgX3_meets_0 3 3 rfl rfl) (by decide) ?_
        have h := Option.some.inj h
        subst h
        exact kret_i (v := 1) hx hb hr rfl hlocks hS hP (kdr dgX3_meets_0 3 5 rfl rfl)
  have J17 : ∀ (mce : Nat → Int64) (mfr : Int64) (mun : Int64) (mbe : Nat → Int64) (men : Nat → Int64) (mov : Nat → Int32) (msp : Int32) (mwb : Nat → Int64) (mwe : Nat → Int64) (mwi : Int32) (mac : Int32) (mre : Int32) (mkn : Int32) (mth : Int32) (x1 : Int32) (x2 : Int32) (H : Heap) (locs : List Loc), va_P (dC, dI) vwCl (wMo cJ cZ b mce mfr mun mbe men mov msp mwb mwe mwi mac mre mkn mth) H → va_D A (wMo cJ cZ b mce mfr mun mbe men mov msp mwb mwe mwi mac mre mkn mth) → va_S A s.heap H locs → ∀ (ls : Array Slot), lv_has ls 3 (kvA 0 (b 0) (kvI 1 x1 (kvI 2 x2 kvE))) → f_X3_meets_17 mbe men x1 x2 = some res → W p l e (headSpec wsX3_meets (kRm 2 0 0 43)).room s m ([.ref (b 0), .int p0, .int p1] : List Value).toArray below meth c H locs 0 0 (MQ below (kI (dC, dI) .boolean (res.1) (wMo cJ cZ b mce mfr mun mbe men mov msp mwb mwe mwi mac mre mkn (res.2)) A) ([.ref (b 0), .int p0, .int p1] : List Value).toArray s 0 0 A) (F0 m 17 ls [.ref (b 0)]) := by
    intro mce mfr mun mbe men mov msp mwb mwe mwi mac mre mkn mth x1 x2 H locs hP hD hS ls hl h
    have h := f_X3_meets_17_e.symm.trans h
    refine lv_iconst (v := 1) hx hb (kdr dgX3_meets_0 0 9 rfl rfl) (by decide) ?_
    refine lv_goto (tgt := 22) hx hb (kdr dgX3_meets_0 1 0 rfl rfl) (by decide) ?_
    exact J22 mce mfr mun mbe men mov msp mwb mwe mwi mac mre mkn mth x1 x2 1 _ _ hP hD hS ls (lv_sub hl [0, 1, 2] rfl) h
  have h := f_X3_meets_e.symm.trans hf
  refine lv_aload_n hx hb (kdr dgX3_meets_0 0 0 rfl rfl) rfl (lv_at hl 0 rfl) ?_
  refine lv_aload_n hx hb (kdr dgX3_meets_0 0 1 rfl rfl) rfl (lv_at hl 0 rfl) ?_
  refine lv_iload_n hx hb (kdr dgX3_meets_0 0 2 rfl rfl) rfl (lv_at hl 1 rfl) ?_
  obtain ⟨r1, g1, h⟩ := g_b h
  refine kq_i (wMo cJ cZ b mce mfr mun mbe men mov msp mwb mwe mwi mac mre mkn mth) (fun qP qD qF => va_runV (As := [.int p0]) (rest := [.ref (b 0)]) ⟨hx, hb, hml, hown, hts⟩ (c_X3_isSpan l dC dI cB cI cJ cZ b _ mce mfr mun mbe men mov msp mwb mwe mwi mac mre mkn mth p0 r1 g1) (kcwV hts kw_1219 kv_X3_isSpan rfl rfl ⟨(Nat.le_of_ble_eq_true rfl), (Nat.le_of_ble_eq_true rfl)⟩) (kpV (A := A) qP hK qD hG (krecv_5 (q0 := 0) hK hP rfl)) rfl rfl hl.1 rfl (lv_room (Nat.le_of_ble_eq_true rfl)) (kdr dgX3_meets_0 0 3 rfl rfl) ⟨(Nat.le_of_ble_eq_true rfl), (Nat.le_of_ble_eq_true rfl)⟩) hP hD hS hA kFr_Mo (fun H locs hP hD hS br1 => ?_)
  refine lv_if_eq (tgt := 17) hx hb (kdr dgX3_meets_0 0 4 rfl rfl) (by decide) (fun c2 => ?_) (fun c2 => ?_)
  · have h := g_t c2 h
    exact J17 mce mfr mun mbe men mov msp mwb mwe mwi mac mre mkn mth p0 p1 _ _ hP hD hS ls (lv_sub hl [0, 1, 2] rfl) h
  · have h := g_f c2 h
    refine lv_aload_n hx hb (kdr dgX3_meets_0 0 5 rfl rfl) rfl (lv_at hl 0 rfl) ?_
    refine lv_iload_n hx hb (kdr dgX3_meets_0 0 6 rfl rfl) rfl (lv_at hl 2 rfl) ?_
    obtain ⟨r3, g3, h⟩ := g_b h
    refine kq_i (wMo cJ cZ b mce mfr mun mbe men mov msp mwb mwe mwi mac mre mkn mth) (fun qP qD qF => va_runV (As := [.int p1]) (rest := [.ref (b 0)]) ⟨hx, hb, hml, hown, hts⟩ (c_X3_isSpan l dC dI cB cI cJ cZ b _ mce mfr mun mbe men mov msp mwb mwe mwi mac mre mkn mth p1 r3 g3) (kcwV hts kw_1219 kv_X3_isSpan rfl rfl ⟨(Nat.le_of_ble_eq_true rfl), (Nat.le_of_ble_eq_true rfl)⟩) (kpV (A := A) qP hK qD hG (krecv_5 (q0 := 0) hK hP rfl)) rfl rfl hl.1 rfl (lv_room (Nat.le_of_ble_eq_true rfl)) (kdr dgX3_meets_0 0 7 rfl rfl) ⟨(Nat.le_of_ble_eq_true rfl), (Nat.le_of_ble_eq_true rfl)⟩) hP hD hS hA kFr_Mo (fun H locs hP hD hS br3 => ?_)
    refine lv_if_ne (tgt := 21) hx hb (kdr dgX3_meets_0 0 8 rfl rfl) (by decide) (fun c4 => ?_) (fun c4 => ?_)
    · have h := g_f c4 h
      refine lv_iconst (v := 0) hx hb (kdr dgX3_meets_0 1 1 rfl rfl) (by decide) ?_
      exact J22 mce mfr mun mbe men mov msp mwb mwe mwi mac mre mkn mth p0 p1 0 _ _ hP hD hS ls (lv_sub hl [0, 1, 2] rfl) h
    · have h := g_t c4 h
      exact J17 mce mfr mun mbe men mov msp mwb mwe mwi mac mre mkn mth p0 p1 _ _ hP hD hS ls (lv_sub hl [0, 1, 2] rfl) h
noncomputable abbrev wsX3_clashes : List Cond := kWs yX3_clashes cX3_clashes 4 (some .int)
noncomputable def f_X3_clashes_19 (K9 : (Nat → Int64) → (Nat → Int64) → (Int32) → (Int32) → (Int32) → (Int32) → Option ((Int32) × (Int32))) : Nat → (Nat → Int64) → (Nat → Int64) → (Int32) → (Int32) → (Int32) → (Int32) → (Int32) → Option ((Int32) × (Int32))
  | 0, _, _, _, _, _, _, _ => none
  | n + 1, mbe, men, msp, mth, x1, x2, x3 =>
    if x2 ≤ x3 then
      K9 mbe men msp mth x1 (x2 + 1)
    else
      if ix x2 10 then
        if ix x3 10 then
          (f_X3_meet (mbe x2.toNatClampNeg) (men x2.toNatClampNeg) (mbe x3.toNatClampNeg) (men x3.toNatClampNeg)).bind fun r4 =>
          if r4 = 0 then
            f_X3_clashes_19 K9 n mbe men msp mth (x1 + 0) x2 (x3 + 1)
          else
            f_X3_clashes_19 K9 n mbe men msp mth (x1 + 1) x2 (x3 + 1)
        else none
      else none
theorem f_X3_clashes_19_0 {K9 : (Nat → Int64) → (Nat → Int64) → (Int32) → (Int32) → (Int32) → (Int32) → Option ((Int32) × (Int32))} {mbe : Nat → Int64} {men : Nat → Int64} {msp : Int32} {mth : Int32} {x1 : Int32} {x2 : Int32} {x3 : Int32} : f_X3_clashes_19 K9 0 mbe men msp mth x1 x2 x3 = none := rfl
theorem f_X3_clashes_19_s {K9 : (Nat → Int64) → (Nat → Int64) → (Int32) → (Int32) → (Int32) → (Int32) → Option ((Int32) × (Int32))} {n : Nat} {mbe : Nat → Int64} {men : Nat → Int64} {msp : Int32} {mth : Int32} {x1 : Int32} {x2 : Int32} {x3 : Int32} : f_X3_clashes_19 K9 (n + 1) mbe men msp mth x1 x2 x3 =
  if x2 ≤ x3 then
    K9 mbe men msp mth x1 (x2 + 1)
  else
    if ix x2 10 then
      if ix x3 10 then
        (f_X3_meet (mbe x2.toNatClampNeg) (men x2.toNatClampNeg) (mbe x3.toNatClampNeg) (men x3.toNatClampNeg)).bind fun r4 =>
        if r4 = 0 then
          f_X3_clashes_19 K9 n mbe men msp mth (x1 + 0) x2 (x3 + 1)
        else
          f_X3_clashes_19 K9 n mbe men msp mth (x1 + 1) x2 (x3 + 1)
      else none
    else none := rfl
noncomputable def f_X3_clashes_9 : Nat → (Nat → Int64) → (Nat → Int64) → (Int32) → (Int32) → (Int32) → (Int32) → Option ((Int32) × (Int32))
  | 0, _, _, _, _, _, _ => none
  | n + 1, mbe, men, msp, mth, x1, x2 =>
    if msp ≤ x2 then
      some (x1, mth)
    else
      f_X3_clashes_19 (f_X3_clashes_9 n) 24 mbe men msp mth x1 x2 0
theorem f_X3_clashes_9_0 {mbe : Nat → Int64} {men : Nat → Int64} {msp : Int32} {mth : Int32} {x1 : Int32} {x2 : Int32} : f_X3_clashes_9 0 mbe men msp mth x1 x2 = none := rfl
theorem f_X3_clashes_9_s {n : Nat} {mbe : Nat → Int64} {men : Nat → Int64} {msp : Int32} {mth : Int32} {x1 : Int32} {x2 : Int32} : f_X3_clashes_9 (n + 1) mbe men msp mth x1 x2 =
  if msp ≤ x2 then
    some (x1, mth)
  else
    f_X3_clashes_19 (f_X3_clashes_9 n) 24 mbe men msp mth x1 x2 0 := rfl
noncomputable def f_X3_clashes (mbe : Nat → Int64) (men : Nat → Int64) (msp : Int32) : Option ((Int32) × (Int32)) :=
  f_X3_clashes_9 24 mbe men msp 0 0 0
theorem f_X3_clashes_e {mbe : Nat → Int64} {men : Nat → Int64} {msp : Int32} : f_X3_clashes mbe men msp = 
  f_X3_clashes_9 24 mbe men msp 0 0 0 := rfl
set_option maxHeartbeats 4000000 in
set_option maxRecDepth 100000 in
theorem c_X3_clashes (l : Launch) (dC : Nat → ClassId) (dI : Nat → Nat → Nat) (cB cI cJ cZ : ClassId) (b : Nat → Nat) (sz : Nat) (mce : Nat → Int64) (mfr : Int64) (mun : Int64) (mbe : Nat → Int64) (men : Nat → Int64) (mov : Nat → Int32) (msp : Int32) (mwb : Nat → Int64) (mwe : Nat → Int64) (mwi : Int32) (mac : Int32) (mre : Int32) (mkn : Int32) (mth : Int32) (res : (Int32) × (Int32)) (hf : f_X3_clashes mbe men msp = some res) : kMi l yX3_clashes wsX3_clashes (kRm 1 0 0 27) dC dI cB cI cJ cZ [.ref (b 0)] sz (wMo cJ cZ b mce mfr mun mbe men mov msp mwb mwe mwi mac mre mkn mth) .int (res.1) (wMo cJ cZ b mce mfr mun mbe men mov msp mwb mwe mwi mac mre mkn (res.2)) 0 0 := by
  refine kmet_i (y := yX3_clashes) (cc := cX3_clashes) (maxL := 4) (ret := (some .int)) RX3 (kvA 0 (b 0) kvE) kpl_X3 rfl rfl (Nat.le_of_ble_eq_true rfl) rfl (fun p e s m below meth c A ls hx hb hr hml hts hown hlocks hP hK hG hD hA hS hl => ?_)
  have hw0 := hts (.fieldLink RX3 35 "SpanbookerModel" "thrown" "I") (List.mem_cons_of_mem _ kw_1085)
  have hw1 := hts (.fieldLink RX3 56 "SpanbookerModel" "spans" "I") (List.mem_cons_of_mem _ kw_1078)
  have hw2 := hts (.fieldLink RX3 19 "SpanbookerModel" "begins" "[J") (List.mem_cons_of_mem _ kw_1075)
  have hw3 := hts (.fieldLink RX3 22 "SpanbookerModel" "ends" "[J") (List.mem_cons_of_mem _ kw_1076)
  have hiX3 : ∀ w ∈ u_ws RX3 TX3 14, w ∈ wsX3_clashes := fun w h => List.mem_cons_of_mem _ (ku_X3 w h)
  have J19 : ∀ (K9 : (Nat → Int64) → (Nat → Int64) → (Int32) → (Int32) → (Int32) → (Int32) → Option ((Int32) × (Int32))), (∀ (mce : Nat → Int64) (mfr : Int64) (mun : Int64) (mbe : Nat → Int64) (men : Nat → Int64) (mov : Nat → Int32) (msp : Int32) (mwb : Nat → Int64) (mwe : Nat → Int64) (mwi : Int32) (mac : Int32) (mre : Int32) (mkn : Int32) (mth : Int32) (x1 : Int32) (x2 : Int32) (H : Heap) (locs : List Loc), va_P (dC, dI) vwCl (wMo cJ cZ b mce mfr mun mbe men mov msp mwb mwe mwi mac mre mkn mth) H → va_D A (wMo cJ cZ b mce mfr mun mbe men mov msp mwb mwe mwi mac mre mkn mth) → va_S A s.heap H locs → ∀ (ls : Array Slot), lv_has ls 4 (kvA 0 (b 0) (kvI 1 x1 (kvI 2 x2 kvE))) → K9 mbe men msp mth x1 x2 = some res → W p l e (headSpec wsX3_clashes (kRm 1 0 0 27)).room s m ([.ref (b 0)] : List Value).toArray below meth c H locs 0 0 (MQ below (kI (dC, dI) .int (res.1) (wMo cJ cZ b mce mfr mun mbe men mov msp mwb mwe mwi mac mre mkn (res.2)) A) ([.ref (b 0)] : List Value).toArray s 0 0 A) (F0 m 9 ls [])) → ∀ (n : Nat), ∀ (mce : Nat → Int64) (mfr : Int64) (mun : Int64) (mbe : Nat → Int64) (men : Nat → Int64) (mov : Nat → Int32) (msp : Int32) (mwb : Nat → Int64) (mwe : Nat → Int64) (mwi : Int32) (mac : Int32) (mre : Int32) (mkn : Int32) (mth : Int32) (x1 : Int32) (x2 : Int32) (x3 : Int32) (H : Heap) (locs : List Loc), va_P (dC, dI) vwCl (wMo cJ cZ b mce mfr mun mbe men mov msp mwb mwe mwi mac mre mkn mth) H → va_D A (wMo cJ cZ b mce mfr mun mbe men mov msp mwb mwe mwi mac mre mkn mth) → va_S A s.heap H locs → ∀ (ls : Array Slot), lv_has ls 4 (kvA 0 (b 0) (kvI 1 x1 (kvI 2 x2 (kvI 3 x3 kvE)))) → f_X3_clashes_19 K9 n mbe men msp mth x1 x2 x3 = some res → W p l e (headSpec wsX3_clashes (kRm 1 0 0 27)).room s m ([.ref (b 0)] : List Value).toArray below meth c H locs 0 0 (MQ below (kI (dC, dI) .int (res.1) (wMo cJ cZ b mce mfr mun mbe men mov msp mwb mwe mwi mac mre mkn (res.2)) A) ([.ref (b 0)] : List Value).toArray s 0 0 A) (F0 m 19 ls []) := by
    intro K9 hK9 n
    induction n with
    | zero =>
      intro mce mfr mun mbe men mov msp mwb mwe mwi mac mre mkn mth x1 x2 x3 H locs hP hD hS ls hl h
      have h := f_X3_clashes_19_0.symm.trans h
      cases h
    | succ n ih =>
      intro mce mfr mun mbe men mov msp mwb mwe mwi mac mre mkn mth x1 x2 x3 H locs hP hD hS ls hl h
      have h := f_X3_clashes_19_s.symm.trans h
      refine lv_iload_n hx hb (kdr dgX3_clashes_0 1 3 rfl rfl) rfl (lv_at hl 3 rfl) ?_
      refine lv_iload_n hx hb (kdr dgX3_clashes_0 1 4 rfl rfl) rfl (lv_at hl 2 rfl) ?_
      refine lv_icmp_ge (tgt := 68) hx hb (kdr dgX3_clashes_0 1 5 rfl rfl) (by decide) (fun c1 => ?_) (fun c1 => ?_)
      · have h := g_t c1 h
        refine lv_iinc (v := x2 + 1) (lv' := (kvI 2 (x2 + 1) (kvA 0 (b 0) (kvI 1 x1 (kvI 3 x3 kvE))))) hx hb (kdr dgX3_clashes_0 4 2 rfl rfl) hl (k := 2) rfl rfl (by decide) rfl (fun ls hl => ?_)
        refine lv_goto (tgt := 9) hx hb (kdr dgX3_clashes_0 4 3 rfl rfl) (by decide) ?_
        exact hK9 mce mfr mun mbe men mov msp mwb mwe mwi mac mre mkn mth x1 (x2 + 1) _ _ hP hD hS ls (lv_sub hl [1, 2, 0] rfl) h
      · have h := g_f c1 h
        refine lv_iload_n hx hb (kdr dgX3_clashes_0 1 6 rfl rfl) rfl (lv_at hl 1 rfl) ?_
        refine lv_aload_n hx hb (kdr dgX3_clashes_0 1 7 rfl rfl) rfl (lv_at hl 0 rfl) ?_
        refine va_get (D := (dC, dI)) (ci := 5) (v := .ref (b 2)) (C := RX3) (T := TX3) (N := 14) hx hb hts hiX3 hown hK hP 0 rfl rfl 3 (by decide) hw2 (fun _ h9 => h9) rfl (kdr dgX3_clashes_0 1 8 rfl rfl) ?_
        refine lv_iload_n hx hb (kdr dgX3_clashes_0 1 9 rfl rfl) rfl (lv_at hl 2 rfl) ?_
        obtain ⟨z1, h⟩ := g_if h
        refine va_lald hx hb hK hP 2 2 rfl rfl (ix_in z1) (kdr dgX3_clashes_0 2 0 rfl rfl) ?_
        refine lv_aload_n hx hb (kdr dgX3_clashes_0 2 1 rfl rfl) rfl (lv_at hl 0 rfl) ?_
        refine va_get (D := (dC, dI)) (ci := 5) (v := .ref (b 3)) (C := RX3) (T := TX3) (N := 14) hx hb hts hiX3 hown hK hP 0 rfl rfl 4 (by decide) hw3 (fun _ h9 => h9) rfl (kdr dgX3_clashes_0 2 2 rfl rfl) ?_
        refine lv_iload_n hx hb (kdr dgX3_clashes_0 2 3 rfl rfl) rfl (lv_at hl 2 rfl) ?_
        refine va_lald hx hb hK hP 3 2 rfl rfl (ix_in z1) (kdr dgX3_clashes_0 2 4 rfl rfl) ?_
        refine lv_aload_n hx hb (kdr dgX3_clashes_0 2 5 rfl rfl) rfl (lv_at hl 0 rfl) ?_
        refine va_get (D := (dC, dI)) (ci := 5) (v := .ref (b 2)) (C := RX3) (T := TX3) (N := 14) hx hb hts hiX3 hown hK hP 0 rfl rfl 3 (by decide) hw2 (fun _ h9 => h9) rfl (kdr dgX3_clashes_0 2 6 rfl rfl) ?_
        refine lv_iload_n hx hb (kdr dgX3_clashes_0 2 7 rfl rfl) rfl (lv_at hl 3 rfl) ?_
        obtain ⟨z2, h⟩ := g_if h
        refine va_lald hx hb hK hP 2 2 rfl rfl (ix_in z2) (kdr dgX3_clashes_0 2 8 rfl rfl) ?_
        refine lv_aload_n hx hb (kdr dgX3_clashes_0 2 9 rfl rfl) rfl (lv_at hl 0 rfl) ?_
        refine va_get (D := (dC, dI)) (ci := 5) (v := .ref (b 3)) (C := RX3) (T := TX3) (N := 14) hx hb hts hiX3 hown hK hP 0 rfl rfl 4 (by decide) hw3 (fun _ h9 => h9) rfl (kdr dgX3_clashes_0 3 0 rfl rfl) ?_
        refine lv_iload_n hx hb (kdr dgX3_clashes_0 3 1 rfl rfl) rfl (lv_at hl 3 rfl) ?_
        refine va_lald hx hb hK hP 3 2 rfl rfl (ix_in z2) (kdr dgX3_clashes_0 3 2 rfl rfl) ?_
        obtain ⟨r4, g4, h⟩ := g_b h
        refine kq_i (wMo cJ cZ b mce mfr mun mbe men mov msp mwb mwe mwi mac mre mkn mth) (fun qP qD qF => va_runS (As := [.long (mbe x2.toNatClampNeg), .long (men x2.toNatClampNeg), .long (mbe x3.toNatClampNeg), .long (men x3.toNatClampNeg)]) (rest := [.int x1]) ⟨hx, hb, hml, hown, hts⟩ (c_X3_meet l dC dI cB cI cJ cZ  _  (mbe x2.toNatClampNeg) (men x2.toNatClampNeg) (mbe x3.toNatClampNeg) (men x3.toNatClampNeg) r4 g4) (kcwS hts kw_1208 kv_X3_meet rfl rfl ⟨(Nat.le_of_ble_eq_true rfl), (Nat.le_of_ble_eq_true rfl)⟩) (kpS (A := A) (kPnil) hK ((kDnil (A := A))) hG) rfl rfl hl.1 rfl (lv_room (Nat.le_of_ble_eq_true rfl)) (kdr dgX3_clashes_0 3 3 rfl rfl) ⟨(Nat.le_of_ble_eq_true rfl), (Nat.le_of_ble_eq_true rfl)⟩) hP hD hS hA kFr_n (fun H locs hP hD hS br4 => ?_)
        refine lv_if_eq (tgt := 59) hx hb (kdr dgX3_clashes_0 3 4 rfl rfl) (by decide) (fun c5 => ?_) (fun c5 => ?_)
        · have h := g_t c5 h
          refine lv_iconst (v := 0) hx hb (kdr dgX3_clashes_0 3 7 rfl rfl) (by decide) ?_
          refine lv_iadd hx hb (kdr dgX3_clashes_0 3 8 rfl rfl) ?_
          refine lv_istore_n (lv' := (kvI 1 (x1 + 0) (kvA 0 (b 0) (kvI 2 x2 (kvI 3 x3 kvE))))) hx hb (kdr dgX3_clashes_0 3 9 rfl rfl) rfl hl (by decide) rfl (fun ls hl => ?_)
          refine lv_iinc (v := x3 + 1) (lv' := (kvI 3 (x3 + 1) (kvI 1 (x1 + 0) (kvA 0 (b 0) (kvI 2 x2 kvE))))) hx hb (kdr dgX3_clashes_0 4 0 rfl rfl) hl (k := 3) rfl rfl (by decide) rfl (fun ls hl => ?_)
          refine lv_goto (tgt := 19) hx hb (kdr dgX3_clashes_0 4 1 rfl rfl) (by decide) ?_
          exact ih mce mfr mun mbe men mov msp mwb mwe mwi mac mre mkn mth (x1 + 0) x2 (x3 + 1) _ _ hP hD hS ls (lv_sub hl [2, 1, 3, 0] rfl) h
        · have h := g_f c5 h
          refine lv_iconst (v := 1) hx hb (kdr dgX3_clashes_0 3 5 rfl rfl) (by decide) ?_
          refine lv_goto (tgt := 60) hx hb (kdr dgX3_clashes_0 3 6 rfl rfl) (by decide) ?_
          refine lv_iadd hx hb (kdr dgX3_clashes_0 3 8 rfl rfl) ?_
          refine lv_istore_n (lv' := (kvI 1 (x1 + 1) (kvA 0 (b 0) (kvI 2 x2 (kvI 3 x3 kvE))))) hx hb (kdr dgX3_clashes_0 3 9 rfl rfl) rfl hl (by decide) rfl (fun ls hl => ?_)
          refine lv_iinc (v := x3 + 1) (lv' := (kvI 3 (x3 + 1) (kvI 1 (x1 + 1) (kvA 0 (b 0) (kvI 2 x2 kvE))))) hx hb (kdr dgX3_clashes_0 4 0 rfl rfl) hl (k := 3) rfl rfl (by decide) rfl (fun ls hl => ?_)
          refine lv_goto (tgt := 19) hx hb (kdr dgX3_clashes_0 4 1 rfl rfl) (by decide) ?_
          exact ih mce mfr mun mbe men mov msp mwb mwe mwi mac mre mkn mth (x1 + 1) x2 (x3 + 1) _ _ hP hD hS ls (lv_sub hl [2, 1, 3, 0] rfl) h
  have J9 : ∀ (n : Nat), ∀ (mce : Nat → Int64) (mfr : Int64) (mun : Int64) (mbe : Nat → Int64) (men : Nat → Int64) (mov : Nat → Int32) (msp : Int32) (mwb : Nat → Int64) (mwe : Nat → Int64) (mwi : Int32) (mac : Int32) (mre : Int32) (mkn : Int32) (mth : Int32) (x1 : Int32) (x2 : Int32) (H : Heap) (locs : List Loc), va_P (dC, dI) vwCl (wMo cJ cZ b mce mfr mun mbe men mov msp mwb mwe mwi mac mre mkn mth) H → va_D A (wMo cJ cZ b mce mfr mun mbe men mov msp mwb mwe mwi mac mre mkn mth) → va_S A s.heap H locs → ∀ (ls : Array Slot), lv_has ls 4 (kvA 0 (b 0) (kvI 1 x1 (kvI 2 x2 kvE))) → f_X3_clashes_9 n mbe men msp mth x1 x2 = some res → W p l e (headSpec wsX3_clashes (kRm 1 0 0 27)).room s m ([.ref (b 0)] : List Value).toArray below meth c H locs 0 0 (MQ below (kI (dC, dI) .int (res.1) (wMo cJ cZ b mce mfr mun mbe men mov msp mwb mwe mwi mac mre mkn (res.2)) A) ([.ref (b 0)] : List Value).toArray s 0 0 A) (F0 m 9 ls []) := by
    intro n
    induction n with
    | zero =>
      intro mce mfr mun mbe men mov msp mwb mwe mwi mac mre mkn mth x1 x2 H locs hP hD hS ls hl h
      have h := f_X3_clashes_9_0.symm.trans h
      cases h
    | succ n ih =>
      intro mce mfr mun mbe men mov msp mwb mwe mwi mac mre mkn mth x1 x2 H locs hP hD hS ls hl h
      have h := f_X3_clashes_9_s.symm.trans h
      refine lv_iload_n hx hb (kdr dgX3_clashes_0 0 7 rfl rfl) rfl (lv_at hl 2 rfl) ?_
      refine lv_aload_n hx hb (kdr dgX3_clashes_0 0 8 rfl rfl) rfl (lv_at hl 0 rfl) ?_
      refine va_get (D := (dC, dI)) (ci := 5) (v := .int msp) (C := RX3) (T := TX3) (N := 14) hx hb hts hiX3 hown hK hP 0 rfl rfl 6 (by decide) hw1 (fun _ h9 => h9) rfl (kdr dgX3_clashes_0 0 9 rfl rfl) ?_
      refine lv_icmp_ge (tgt := 74) hx hb (kdr dgX3_clashes_0 1 0 rfl rfl) (by decide) (fun c1 => ?_) (fun c1 => ?_)
      · have h := g_t c1 h
        refine lv_iload_n hx hb (kdr dgX3_clashes_0 4 4 rfl rfl) rfl (lv_at hl 1 rfl) ?_
        have h := Option.some.inj h
        subst h
        exact kret_i (v := x1) hx hb hr rfl hlocks hS hP (kdr dgX3_clashes_0 4 5 rfl rfl)
      · have h := g_f c1 h
        refine lv_iconst (v := 0) hx hb (kdr dgX3_clashes_0 1 1 rfl rfl) (by decide) ?_
        refine lv_istore_n (lv' := (kvI 3 0 (kvA 0 (b 0) (kvI 1 x1 (kvI 2 x2 kvE))))) hx hb (kdr dgX3_clashes_0 1 2 rfl rfl) rfl hl (by decide) rfl (fun ls hl => ?_)
        exact J19 (f_X3_clashes_9 n) ih 24 mce mfr mun mbe men mov msp mwb mwe mwi mac mre mkn mth x1 x2 0 _ _ hP hD hS ls (lv_sub hl [1, 2, 3, 0] rfl) h
  have h := f_X3_clashes_e.symm.trans hf
  refine lv_aload_n hx hb (kdr dgX3_clashes_0 0 0 rfl rfl) rfl (lv_at hl 0 rfl) ?_
  refine lv_iconst (v := 0) hx hb (kdr dgX3_clashes_0 0 1 rfl rfl) (by decide) ?_
  refine va_put (D := (dC, dI)) (ci := 5) (v := .int 0) (ty := .int) (C := RX3) (T := TX3) (N := 14) hx hb hts hiX3 tyX3 tyX3_ok nmX3 hown hK hP hD hS 0 rfl rfl 13 (by decide) hw0 (fun _ h9 => h9) rfl (by decide +kernel) rfl rfl (Nat.le_of_ble_eq_true rfl) (kdr dgX3_clashes_0 0 2 rfl rfl) (fun H locs hP hD hS => ?_)
  have hP : va_P (dC, dI) vwCl (wMo cJ cZ b mce mfr mun mbe men mov msp mwb mwe mwi mac mre mkn 0) H := hP
  have hD : va_D A (wMo cJ cZ b mce mfr mun mbe men mov msp mwb mwe mwi mac mre mkn 0) := hD
  refine lv_iconst (v := 0) hx hb (kdr dgX3_clashes_0 0 3 rfl rfl) (by decide) ?_
  refine lv_istore_n (lv' := (kvI 1 0 (kvA 0 (b 0) kvE))) hx hb (kdr dgX3_clashes_0 0 4 rfl rfl) rfl hl (by decide) rfl (fun ls hl => ?_)
  refine lv_iconst (v := 0) hx hb (kdr dgX3_clashes_0 0 5 rfl rfl) (by decide) ?_
  refine lv_istore_n (lv' := (kvI 2 0 (kvI 1 0 (kvA 0 (b 0) kvE)))) hx hb (kdr dgX3_clashes_0 0 6 rfl rfl) rfl hl (by decide) rfl (fun ls hl => ?_)
  exact J9 24 mce mfr mun mbe men mov msp mwb mwe mwi mac mre mkn 0 0 0 _ _ hP hD hS ls (lv_sub hl [2, 1, 0] rfl) h
noncomputable abbrev wsX3_at : List Cond := kWs yX3_at cX3_at 2 (some .int)
noncomputable def f_X3_at_13 (mce : Nat → Int64) (mbe : Nat → Int64) (men : Nat → Int64) (msp : Int32) (x1 : Int32) (y0 : Int32) : Option ((Int32) × (Int32)) :=
  (f_X3_isThrown_ y0).bind fun r1 =>
  if r1.1 = 0 then
    if ix x1 4 then
      (f_X3_spanAt mbe men msp (mce x1.toNatClampNeg)).bind fun r4 =>
      some (r4, r1.2)
    else none
  else
    some (0, r1.2)
theorem f_X3_at_13_e {mce : Nat → Int64} {mbe : Nat → Int64} {men : Nat → Int64} {msp : Int32} {x1 : Int32} {y0 : Int32} : f_X3_at_13 mce mbe men msp x1 y0 =
  (f_X3_isThrown_ y0).bind fun r1 =>
  if r1.1 = 0 then
    if ix x1 4 then
      (f_X3_spanAt mbe men msp (mce x1.toNatClampNeg)).bind fun r4 =>
      some (r4, r1.2)
    else none
  else
    some (0, r1.2) := rfl
noncomputable def f_X3_at (mce : Nat → Int64) (mbe : Nat → Int64) (men : Nat → Int64) (msp : Int32) (p0 : Int32) : Option ((Int32) × (Int32)) :=
  (f_X3_is p0).bind fun r1 =>
  if r1 = 0 then
    f_X3_at_13 mce mbe men msp p0 1
  else
    f_X3_at_13 mce mbe men msp p0 0
theorem f_X3_at_e {mce : Nat → Int64} {mbe : Nat → Int64} {men : Nat → Int64} {msp : Int32} {p0 : Int32} : f_X3_at mce mbe men msp p0 = 
  (f_X3_is p0).bind fun r1 =>
  if r1 = 0 then
    f_X3_at_13 mce mbe men msp p0 1
  else
    f_X3_at_13 mce mbe men msp p0 0 := rfl
set_option maxHeartbeats 4000000 in
set_option maxRecDepth 100000 in
theorem c_X3_at (l : Launch) (dC : Nat → ClassId) (dI : Nat → Nat → Nat) (cB cI cJ cZ : ClassId) (b : Nat → Nat) (sz : Nat) (mce : Nat → Int64) (mfr : Int64) (mun : Int64) (mbe : Nat → Int64) (men : Nat → Int64) (mov : Nat → Int32) (msp : Int32) (mwb : Nat → Int64) (mwe : Nat → Int64) (mwi : Int32) (mac : Int32) (mre : Int32) (mkn : Int32) (mth : Int32) (p0 : Int32) (res : (Int32) × (Int32)) (hf : f_X3_at mce mbe men msp p0 = some res) : kMi l yX3_at wsX3_at (kRm 2 0 0 43) dC dI cB cI cJ cZ [.ref (b 0), .int p0] sz (wMo cJ cZ b mce mfr mun mbe men mov msp mwb mwe mwi mac mre mkn mth) .int (res.1) (wMo cJ cZ b mce mfr mun mbe men mov msp mwb mwe mwi mac mre mkn (res.2)) 0 0 := by
  refine kmet_i (y := yX3_at) (cc := cX3_at) (maxL := 2) (ret := (some .int)) RX3 (kvA 0 (b 0) (kvI 1 p0 kvE)) kpl_X3 rfl rfl (Nat.le_of_ble_eq_true rfl) rfl (fun p e s m below meth c A ls hx hb hr hml hts hown hlocks hP hK hG hD hA hS hl => ?_)
  have hw0 := hts (.fieldLink RX3 7 "SpanbookerModel" "cells" "[J") (List.mem_cons_of_mem _ kw_1072)
  have hiX3 : ∀ w ∈ u_ws RX3 TX3 14, w ∈ wsX3_at := fun w h => List.mem_cons_of_mem _ (ku_X3 w h)
  have J13 : ∀ (mce : Nat → Int64) (mfr : Int64) (mun : Int64) (mbe : Nat → Int64) (men : Nat → Int64) (mov : Nat → Int32) (msp : Int32) (mwb : Nat → Int64) (mwe : Nat → Int64) (mwi : Int32) (mac : Int32) (mre : Int32) (mkn : Int32) (mth : Int32) (x1 : Int32) (y0 : Int32) (H : Heap) (locs : List Loc), va_P (dC, dI) vwCl (wMo cJ cZ b mce mfr mun mbe men mov msp mwb mwe mwi mac mre mkn mth) H → va_D A (wMo cJ cZ b mce mfr mun mbe men mov msp mwb mwe mwi mac mre mkn mth) → va_S A s.heap H locs → ∀ (ls : Array Slot), lv_has ls 2 (kvA 0 (b 0) (kvI 1 x1 kvE)) → f_X3_at_13 mce mbe men msp x1 y0 = some res → W p l e (headSpec wsX3_at (kRm 2 0 0 43)).room s m ([.ref (b 0), .int p0] : List Value).toArray below meth c H locs 0 0 (MQ below (kI (dC, dI) .int (res.1) (wMo cJ cZ b mce mfr mun mbe men mov msp mwb mwe mwi mac mre mkn (res.2)) A) ([.ref (b 0), .int p0] : List Value).toArray s 0 0 A) (F0 m 13 ls [.int y0, .ref (b 0)]) := by
    intro mce mfr mun mbe men mov msp mwb mwe mwi mac mre mkn mth x1 y0 H locs hP hD hS ls hl h
    have h := f_X3_at_13_e.symm.trans h
    obtain ⟨r1, g1, h⟩ := g_b h
    refine kq_i (wMo cJ cZ b mce mfr mun mbe men mov msp mwb mwe mwi mac mre mkn r1.2) (fun qP qD qF => va_runV (As := [.int y0]) (rest := []) ⟨hx, hb, hml, hown, hts⟩ (c_X3_isThrown_ l dC dI cB cI cJ cZ b _ mce mfr mun mbe men mov msp mwb mwe mwi mac mre mkn mth y0 r1 g1) (kcwV hts kw_1166 kv_X3_isThrown_ rfl rfl ⟨(Nat.le_of_ble_eq_true rfl), (Nat.le_of_ble_eq_true rfl)⟩) (kpV (A := A) qP hK qD hG (krecv_5 (q0 := 0) hK hP rfl)) rfl rfl hl.1 rfl (lv_room (Nat.le_of_ble_eq_true rfl)) (kdr dgX3_at_0 0 7 rfl rfl) ⟨(Nat.le_of_ble_eq_true rfl), (Nat.le_of_ble_eq_true rfl)⟩) hP hD hS hA kFr_Mo (fun H locs hP hD hS br1 => ?_)
    refine lv_if_eq (tgt := 23) hx hb (kdr dgX3_at_0 0 8 rfl rfl) (by decide) (fun c2 => ?_) (fun c2 => ?_)
    · have h := g_t c2 h
      refine lv_aload_n hx hb (kdr dgX3_at_0 1 1 rfl rfl) rfl (lv_at hl 0 rfl) ?_
      refine lv_aload_n hx hb (kdr dgX3_at_0 1 2 rfl rfl) rfl (lv_at hl 0 rfl) ?_
      refine va_get (D := (dC, dI)) (ci := 5) (v := .ref (b 1)) (C := RX3) (T := TX3) (N := 14) hx hb hts hiX3 hown hK hP 0 rfl rfl 0 (by decide) hw0 (fun _ h9 => h9) rfl (kdr dgX3_at_0 1 3 rfl rfl) ?_
      refine lv_iload_n hx hb (kdr dgX3_at_0 1 4 rfl rfl) rfl (lv_at hl 1 rfl) ?_
      obtain ⟨z2, h⟩ := g_if h
      refine va_lald hx hb hK hP 1 2 rfl rfl (ix_in z2) (kdr dgX3_at_0 1 5 rfl rfl) ?_
      obtain ⟨r4, g4, h⟩ := g_b h
      refine kq_i (wMo cJ cZ b mce mfr mun mbe men mov msp mwb mwe mwi mac mre mkn r1.2) (fun qP qD qF => va_runV (As := [.long (mce x1.toNatClampNeg)]) (rest := []) ⟨hx, hb, hml, hown, hts⟩ (c_X3_spanAt l dC dI cB cI cJ cZ b _ mce mfr mun mbe men mov msp mwb mwe mwi mac mre mkn r1.2 (mce x1.toNatClampNeg) r4 g4) (kcwV hts kw_1340 kv_X3_spanAt rfl rfl ⟨(Nat.le_of_ble_eq_true rfl), (Nat.le_of_ble_eq_true rfl)⟩) (kpV (A := A) qP hK qD hG (krecv_5 (q0 := 0) hK hP rfl)) rfl rfl hl.1 rfl (lv_room (Nat.le_of_ble_eq_true rfl)) (kdr dgX3_at_0 1 6 rfl rfl) ⟨(Nat.le_of_ble_eq_true rfl), (Nat.le_of_ble_eq_true rfl)⟩) hP hD hS hA kFr_Mo (fun H locs hP hD hS br4 => ?_)
      have h := Option.some.inj h
      subst h
      exact kret_i (v := r4) hx hb hr rfl hlocks hS hP (kdr dgX3_at_0 1 7 rfl rfl)
    · have h := g_f c2 h
      refine lv_iconst (v := 0) hx hb (kdr dgX3_at_0 0 9 rfl rfl) (by decide) ?_
      refine lv_goto (tgt := 33) hx hb (kdr dgX3_at_0 1 0 rfl rfl) (by decide) ?_
      have h := Option.some.inj h
      subst h
      exact kret_i (v := 0) hx hb hr rfl hlocks hS hP (kdr dgX3_at_0 1 7 rfl rfl)
  have h := f_X3_at_e.symm.trans hf
  refine lv_aload_n hx hb (kdr dgX3_at_0 0 0 rfl rfl) rfl (lv_at hl 0 rfl) ?_
  refine lv_iload_n hx hb (kdr dgX3_at_0 0 1 rfl rfl) rfl (lv_at hl 1 rfl) ?_
  obtain ⟨r1, g1, h⟩ := g_b h
  refine kq_i (wMo cJ cZ b mce mfr mun mbe men mov msp mwb mwe mwi mac mre mkn mth) (fun qP qD qF => va_runS (As := [.int p0]) (rest := [.ref (b 0)]) ⟨hx, hb, hml, hown, hts⟩ (c_X3_is l dC dI cB cI cJ cZ  _  p0 r1 g1) (kcwS hts kw_1119 kv_X3_is rfl rfl ⟨(Nat.le_of_ble_eq_true rfl), (Nat.le_of_ble_eq_true rfl)⟩) (kpS (A := A) (kPnil) hK ((kDnil (A := A))) hG) rfl rfl hl.1 rfl (lv_room (Nat.le_of_ble_eq_true rfl)) (kdr dgX3_at_0 0 2 rfl rfl) ⟨(Nat.le_of_ble_eq_true rfl), (Nat.le_of_ble_eq_true rfl)⟩) hP hD hS hA kFr_n (fun H locs hP hD hS br1 => ?_)
  refine lv_if_ne (tgt := 12) hx hb (kdr dgX3_at_0 0 3 rfl rfl) (by decide) (fun c2 => ?_) (fun c2 => ?_)
  · have h := g_f c2 h
    refine lv_iconst (v := 0) hx hb (kdr dgX3_at_0 0 6 rfl rfl) (by decide) ?_
    exact J13 mce mfr mun mbe men mov msp mwb mwe mwi mac mre mkn mth p0 0 _ _ hP hD hS ls (lv_sub hl [0, 1] rfl) h
  · have h := g_t c2 h
    refine lv_iconst (v := 1) hx hb (kdr dgX3_at_0 0 4 rfl rfl) (by decide) ?_
    refine lv_goto (tgt := 13) hx hb (kdr dgX3_at_0 0 5 rfl rfl) (by decide) ?_
    exact J13 mce mfr mun mbe men mov msp mwb mwe mwi mac mre mkn mth p0 1 _ _ hP hD hS ls (lv_sub hl [0, 1] rfl) h
noncomputable abbrev wsX3_deepest_ : List Cond := kWs yX3_deepest_ cX3_deepest_ 1 (some .int)
noncomputable def f_X3_deepest_ (mbe : Nat → Int64) (men : Nat → Int64) (msp : Int32) : Option ((Int32) × (Int32)) :=
  (f_X3_deepest 10 10 mbe men msp).bind fun r1 =>
  some (r1, 0)
theorem f_X3_deepest__e {mbe : Nat → Int64} {men : Nat → Int64} {msp : Int32} : f_X3_deepest_ mbe men msp = 
  (f_X3_deepest 10 10 mbe men msp).bind fun r1 =>
  some (r1, 0) := rfl
set_option maxHeartbeats 4000000 in
set_option maxRecDepth 100000 in
theorem c_X3_deepest_ (l : Launch) (dC : Nat → ClassId) (dI : Nat → Nat → Nat) (cB cI cJ cZ : ClassId) (b : Nat → Nat) (sz : Nat) (mce : Nat → Int64) (mfr : Int64) (mun : Int64) (mbe : Nat → Int64) (men : Nat → Int64) (mov : Nat → Int32) (msp : Int32) (mwb : Nat → Int64) (mwe : Nat → Int64) (mwi : Int32) (mac : Int32) (mre : Int32) (mkn : Int32) (mth : Int32) (res : (Int32) × (Int32)) (hf : f_X3_deepest_ mbe men msp = some res) : kMi l yX3_deepest_ wsX3_deepest_ (kRm 2 0 0 66) dC dI cB cI cJ cZ [.ref (b 0)] sz (wMo cJ cZ b mce mfr mun mbe men mov msp mwb mwe mwi mac mre mkn mth) .int (res.1) (wMo cJ cZ b mce mfr mun mbe men mov msp mwb mwe mwi mac mre mkn (res.2)) 0 0 := by
  refine kmet_i (y := yX3_deepest_) (cc := cX3_deepest_) (maxL := 1) (ret := (some .int)) RX3 (kvA 0 (b 0) kvE) kpl_X3 rfl rfl (Nat.le_of_ble_eq_true rfl) rfl (fun p e s m below meth c A ls hx hb hr hml hts hown hlocks hP hK hG hD hA hS hl => ?_)
  have hw0 := hts (.fieldLink RX3 35 "SpanbookerModel" "thrown" "I") (List.mem_cons_of_mem _ kw_1085)
  have hw1 := hts (.fieldLink RX3 19 "SpanbookerModel" "begins" "[J") (List.mem_cons_of_mem _ kw_1075)
  have hw2 := hts (.fieldLink RX3 22 "SpanbookerModel" "ends" "[J") (List.mem_cons_of_mem _ kw_1076)
  have hw3 := hts (.fieldLink RX3 56 "SpanbookerModel" "spans" "I") (List.mem_cons_of_mem _ kw_1078)
  have hiX3 : ∀ w ∈ u_ws RX3 TX3 14, w ∈ wsX3_deepest_ := fun w h => List.mem_cons_of_mem _ (ku_X3 w h)
  have h := f_X3_deepest__e.symm.trans hf
  refine lv_aload_n hx hb (kdr dgX3_deepest__0 0 0 rfl rfl) rfl (lv_at hl 0 rfl) ?_
  refine lv_iconst (v := 0) hx hb (kdr dgX3_deepest__0 0 1 rfl rfl) (by decide) ?_
  refine va_put (D := (dC, dI)) (ci := 5) (v := .int 0) (ty := .int) (C := RX3) (T := TX3) (N := 14) hx hb hts hiX3 tyX3 tyX3_ok nmX3 hown hK hP hD hS 0 rfl rfl 13 (by decide) hw0 (fun _ h9 => h9) rfl (by decide +kernel) rfl rfl (Nat.le_of_ble_eq_true rfl) (kdr dgX3_deepest__0 0 2 rfl rfl) (fun H locs hP hD hS => ?_)
  have hP : va_P (dC, dI) vwCl (wMo cJ cZ b mce mfr mun mbe men mov msp mwb mwe mwi mac mre mkn 0) H := hP
  have hD : va_D A (wMo cJ cZ b mce mfr mun mbe men mov msp mwb mwe mwi mac mre mkn 0) := hD
  refine lv_aload_n hx hb (kdr dgX3_deepest__0 0 3 rfl rfl) rfl (lv_at hl 0 rfl) ?_
  refine va_get (D := (dC, dI)) (ci := 5) (v := .ref (b 2)) (C := RX3) (T := TX3) (N := 14) hx hb hts hiX3 hown hK hP 0 rfl rfl 3 (by decide) hw1 (fun _ h9 => h9) rfl (kdr dgX3_deepest__0 0 4 rfl rfl) ?_
  refine lv_aload_n hx hb (kdr dgX3_deepest__0 0 5 rfl rfl) rfl (lv_at hl 0 rfl) ?_
  refine va_get (D := (dC, dI)) (ci := 5) (v := .ref (b 3)) (C := RX3) (T := TX3) (N := 14) hx hb hts hiX3 hown hK hP 0 rfl rfl 4 (by decide) hw2 (fun _ h9 => h9) rfl (kdr dgX3_deepest__0 0 6 rfl rfl) ?_
  refine lv_aload_n hx hb (kdr dgX3_deepest__0 0 7 rfl rfl) rfl (lv_at hl 0 rfl) ?_
  refine va_get (D := (dC, dI)) (ci := 5) (v := .int msp) (C := RX3) (T := TX3) (N := 14) hx hb hts hiX3 hown hK hP 0 rfl rfl 6 (by decide) hw3 (fun _ h9 => h9) rfl (kdr dgX3_deepest__0 0 8 rfl rfl) ?_
  obtain ⟨r1, g1, h⟩ := g_b h
  refine kcall_i (wMo cJ cZ b mce mfr mun mbe men mov msp mwb mwe mwi mac mre mkn 0) (va_runS (As := [.ref (b 2), .ref (b 3), .int msp]) (rest := []) ⟨hx, hb, hml, hown, hts⟩ (c_X3_deepest l dC dI cB cI cJ cZ (b 2) 10 (b 3) 10 _ mbe men msp r1 g1) (kcwS hts kw_1348 kv_X3_deepest rfl rfl ⟨(Nat.le_of_ble_eq_true rfl), (Nat.le_of_ble_eq_true rfl)⟩) (kpS (A := A) (hP.sub (kIT mk_31 0) (km_f (m := mk_31) rfl rfl)) hK (hD.sub (kIT mk_31 0) (km_nd mk_31) (km_T (m := mk_31) rfl rfl)) hG) rfl rfl hl.1 rfl (lv_room (Nat.le_of_ble_eq_true rfl)) (kdr dgX3_deepest__0 0 9 rfl rfl) ⟨(Nat.le_of_ble_eq_true rfl), (Nat.le_of_ble_eq_true rfl)⟩) hP hD hS hA (kIT mk_31 0) (kIT mk_32 0) (km_T (m := mk_31) rfl rfl) (km_T (m := mk_31) rfl rfl) [((b 0), .inr (5, [.ref (b 1), .long mfr, .long mun, .ref (b 2), .ref (b 3), .ref (b 4), .int msp, .ref (b 5), .ref (b 6), .int mwi, .int mac, .int mre, .int mkn, .int 0])), ((b 1), .inl (cJ, 4, .inr (.inl mce))), ((b 4), .inl (cZ, 10, .inl mov)), ((b 5), .inl (cJ, 8, .inr (.inl mwb))), ((b 6), .inl (cJ, 8, .inr (.inl mwe)))] (km_T (m := mk_32) rfl rfl) (km_T (m := mk_32) rfl rfl) (km_cov (m := mk_31) (n := mk_32) rfl rfl) (km_dis (m := mk_31) (n := mk_32) rfl) rfl (fun H locs hP hD hS br1 => ?_)
  have h := Option.some.inj h
  subst h
  exact kret_i (v := r1) hx hb hr rfl hlocks hS hP (kdr dgX3_deepest__0 1 0 rfl rfl)
noncomputable abbrev wsX3_isFree : List Cond := kWs yX3_isFree cX3_isFree 3 (some .boolean)
noncomputable def f_X3_isFree (mce : Nat → Int64) (mfr : Int64) (mun : Int64) (mbe : Nat → Int64) (men : Nat → Int64) (msp : Int32) (p0 : Int32) (p1 : Int32) : Option ((Int32) × (Int32)) :=
  (f_X3_areNone p0 p1).bind fun r1 =>
  if r1.1 = 0 then
    if ix p0 4 then
      if ix p1 4 then
        if (mce p1.toNatClampNeg) ≤ (mce p0.toNatClampNeg) then
          some (0, r1.2)
        else
          (f_X3_fits mfr mun mbe men msp (mce p0.toNatClampNeg) ((mce p1.toNatClampNeg) - (mce p0.toNatClampNeg))).bind fun r6 =>
          if r6 = 0 then
            some (0, r1.2)
          else
            some (1, r1.2)
      else none
    else none
  else
    some (0, r1.2)
theorem f_X3_isFree_e {mce : Nat → Int64} {mfr : Int64} {mun : Int64} {mbe : Nat → Int64} {men : Nat → Int64} {msp : Int32} {p0 : Int32} {p1 : Int32} : f_X3_isFree mce mfr mun mbe men msp p0 p1 = 
  (f_X3_areNone p0 p1).bind fun r1 =>
  if r1.1 = 0 then
    if ix p0 4 then
      if ix p1 4 then
        if (mce p1.toNatClampNeg) ≤ (mce p0.toNatClampNeg) then
          some (0, r1.2)
        else
          (f_X3_fits mfr mun mbe men msp (mce p0.toNatClampNeg) ((mce p1.toNatClampNeg) - (mce p0.toNatClampNeg))).bind fun r6 =>
          if r6 = 0 then
            some (0, r1.2)
          else
            some (1, r1.2)
      else none
    else none
  else
    some (0, r1.2) := rfl
set_option maxHeartbeats 4000000 in
set_option maxRecDepth 100000 in
theorem c_X3_isFree (l : Launch) (dC : Nat → ClassId) (dI : Nat → Nat → Nat) (cB cI cJ cZ : ClassId) (b : Nat → Nat) (sz : Nat) (mce : Nat → Int64) (mfr : Int64) (mun : Int64) (mbe : Nat → Int64) (men : Nat → Int64) (mov : Nat → Int32) (msp : Int32) (mwb : Nat → Int64) (mwe : Nat → Int64) (mwi : Int32) (mac : Int32) (mre : Int32) (mkn : Int32) (mth : Int32) (p0 : Int32) (p1 : Int32) (res : (Int32) × (Int32)) (hf : f_X3_isFree mce mfr mun mbe men msp p0 p1 = some res) : kMi l yX3_isFree wsX3_isFree (kRm 3 0 0 77) dC dI cB cI cJ cZ [.ref (b 0), .int p0, .int p1] sz (wMo cJ cZ b mce mfr mun mbe men mov msp mwb mwe mwi mac mre mkn mth) .boolean (res.1) (wMo cJ cZ b mce mfr mun mbe men mov msp mwb mwe mwi mac mre mkn (res.2)) 0 0 := by
  refine kmet_i (y := yX3_isFree) (cc := cX3_isFree) (maxL := 3) (ret := (some .boolean)) RX3 (kvA 0 (b 0) (kvI 1 p0 (kvI 2 p1 kvE))) kpl_X3 rfl rfl (Nat.le_of_ble_eq_true rfl) rfl (fun p e s m below meth c A ls hx hb hr hml hts hown hlocks hP hK hG hD hA hS hl => ?_)
  have hw0 := hts (.fieldLink RX3 7 "SpanbookerModel" "cells" "[J") (List.mem_cons_of_mem _ kw_1072)
  have hiX3 : ∀ w ∈ u_ws RX3 TX3 14, w ∈ wsX3_isFree := fun w h => List.mem_cons_of_mem _ (ku_X3 w h)
  have h := f_X3_isFree_e.symm.trans hf
  refine lv_aload_n hx hb (kdr dgX3_isFree_0 0 0 rfl rfl) rfl (lv_at hl 0 rfl) ?_
  refine lv_iload_n hx hb (kdr dgX3_isFree_0 0 1 rfl rfl) rfl (lv_at hl 1 rfl) ?_
  refine lv_iload_n hx hb (kdr dgX3_isFree_0 0 2 rfl rfl) rfl (lv_at hl 2 rfl) ?_
  obtain ⟨r1, g1, h⟩ := g_b h
  refine kq_i (wMo cJ cZ b mce mfr mun mbe men mov msp mwb mwe mwi mac mre mkn r1.2) (fun qP qD qF => va_runV (As := [.int p0, .int p1]) (rest := []) ⟨hx, hb, hml, hown, hts⟩ (c_X3_areNone l dC dI cB cI cJ cZ b _ mce mfr mun mbe men mov msp mwb mwe mwi mac mre mkn mth p0 p1 r1 g1) (kcwV hts kw_1293 kv_X3_areNone rfl rfl ⟨(Nat.le_of_ble_eq_true rfl), (Nat.le_of_ble_eq_true rfl)⟩) (kpV (A := A) qP hK qD hG (krecv_5 (q0 := 0) hK hP rfl)) rfl rfl hl.1 rfl (lv_room (Nat.le_of_ble_eq_true rfl)) (kdr dgX3_isFree_0 0 3 rfl rfl) ⟨(Nat.le_of_ble_eq_true rfl), (Nat.le_of_ble_eq_true rfl)⟩) hP hD hS hA kFr_Mo (fun H locs hP hD hS br1 => ?_)
  refine lv_if_ne (tgt := 55) hx hb (kdr dgX3_isFree_0 0 4 rfl rfl) (by decide) (fun c2 => ?_) (fun c2 => ?_)
  · have h := g_f c2 h
    refine lv_iconst (v := 0) hx hb (kdr dgX3_isFree_0 3 3 rfl rfl) (by decide) ?_
    have h := Option.some.inj h
    subst h
    exact kret_i (v := 0) hx hb hr rfl hlocks hS hP (kdr dgX3_isFree_0 3 4 rfl rfl)
  · have h := g_t c2 h
    refine lv_aload_n hx hb (kdr dgX3_isFree_0 0 5 rfl rfl) rfl (lv_at hl 0 rfl) ?_
    refine va_get (D := (dC, dI)) (ci := 5) (v := .ref (b 1)) (C := RX3) (T := TX3) (N := 14) hx hb hts hiX3 hown hK hP 0 rfl rfl 0 (by decide) hw0 (fun _ h9 => h9) rfl (kdr dgX3_isFree_0 0 6 rfl rfl) ?_
    refine lv_iload_n hx hb (kdr dgX3_isFree_0 0 7 rfl rfl) rfl (lv_at hl 1 rfl) ?_
    obtain ⟨z2, h⟩ := g_if h
    refine va_lald hx hb hK hP 1 2 rfl rfl (ix_in z2) (kdr dgX3_isFree_0 0 8 rfl rfl) ?_
    refine lv_aload_n hx hb (kdr dgX3_isFree_0 0 9 rfl rfl) rfl (lv_at hl 0 rfl) ?_
    refine va_get (D := (dC, dI)) (ci := 5) (v := .ref (b 1)) (C := RX3) (T := TX3) (N := 14) hx hb hts hiX3 hown hK hP 0 rfl rfl 0 (by decide) hw0 (fun _ h9 => h9) rfl (kdr dgX3_isFree_0 1 0 rfl rfl) ?_
    refine lv_iload_n hx hb (kdr dgX3_isFree_0 1 1 rfl rfl) rfl (lv_at hl 2 rfl) ?_
    obtain ⟨z3, h⟩ := g_if h
    refine va_lald hx hb hK hP 1 2 rfl rfl (ix_in z3) (kdr dgX3_isFree_0 1 2 rfl rfl) ?_
    refine kl_ge (pc := 21) (tgt := 55) hx hb (kdr dgX3_isFree_0 1 3 rfl rfl) (kdr dgX3_isFree_0 1 4 rfl rfl) (by decide) (fun c5 => ?_) (fun c5 => ?_)
    · have h := g_t c5 h
      refine lv_iconst (v := 0) hx hb (kdr dgX3_isFree_0 3 3 rfl rfl) (by decide) ?_
      have h := Option.some.inj h
      subst h
      exact kret_i (v := 0) hx hb hr rfl hlocks hS hP (kdr dgX3_isFree_0 3 4 rfl rfl)
    · have h := g_f c5 h
      refine lv_aload_n hx hb (kdr dgX3_isFree_0 1 5 rfl rfl) rfl (lv_at hl 0 rfl) ?_
      refine lv_aload_n hx hb (kdr dgX3_isFree_0 1 6 rfl rfl) rfl (lv_at hl 0 rfl) ?_
      refine va_get (D := (dC, dI)) (ci := 5) (v := .ref (b 1)) (C := RX3) (T := TX3) (N := 14) hx hb hts hiX3 hown hK hP 0 rfl rfl 0 (by decide) hw0 (fun _ h9 => h9) rfl (kdr dgX3_isFree_0 1 7 rfl rfl) ?_
      refine lv_iload_n hx hb (kdr dgX3_isFree_0 1 8 rfl rfl) rfl (lv_at hl 1 rfl) ?_
      refine va_lald hx hb hK hP 1 2 rfl rfl (ix_in z2) (kdr dgX3_isFree_0 1 9 rfl rfl) ?_
      refine lv_aload_n hx hb (kdr dgX3_isFree_0 2 0 rfl rfl) rfl (lv_at hl 0 rfl) ?_
      refine va_get (D := (dC, dI)) (ci := 5) (v := .ref (b 1)) (C := RX3) (T := TX3) (N := 14) hx hb hts hiX3 hown hK hP 0 rfl rfl 0 (by decide) hw0 (fun _ h9 => h9) rfl (kdr dgX3_isFree_0 2 1 rfl rfl) ?_
      refine lv_iload_n hx hb (kdr dgX3_isFree_0 2 2 rfl rfl) rfl (lv_at hl 2 rfl) ?_
      refine va_lald hx hb hK hP 1 2 rfl rfl (ix_in z3) (kdr dgX3_isFree_0 2 3 rfl rfl) ?_
      refine lv_aload_n hx hb (kdr dgX3_isFree_0 2 4 rfl rfl) rfl (lv_at hl 0 rfl) ?_
      refine va_get (D := (dC, dI)) (ci := 5) (v := .ref (b 1)) (C := RX3) (T := TX3) (N := 14) hx hb hts hiX3 hown hK hP 0 rfl rfl 0 (by decide) hw0 (fun _ h9 => h9) rfl (kdr dgX3_isFree_0 2 5 rfl rfl) ?_
      refine lv_iload_n hx hb (kdr dgX3_isFree_0 2 6 rfl rfl) rfl (lv_at hl 1 rfl) ?_
      refine va_lald hx hb hK hP 1 2 rfl rfl (ix_in z2) (kdr dgX3_isFree_0 2 7 rfl rfl) ?_
      refine lv_lsub hx hb (kdr dgX3_isFree_0 2 8 rfl rfl) ?_
      obtain ⟨r6, g6, h⟩ := g_b h
      refine kq_i (wMo cJ cZ b mce mfr mun mbe men mov msp mwb mwe mwi mac mre mkn r1.2) (fun qP qD qF => va_runV (As := [.long (mce p0.toNatClampNeg), .long ((mce p1.toNatClampNeg) - (mce p0.toNatClampNeg))]) (rest := []) ⟨hx, hb, hml, hown, hts⟩ (c_X3_fits l dC dI cB cI cJ cZ b _ mce mfr mun mbe men mov msp mwb mwe mwi mac mre mkn r1.2 (mce p0.toNatClampNeg) ((mce p1.toNatClampNeg) - (mce p0.toNatClampNeg)) r6 g6) (kcwV hts kw_1243 kv_X3_fits rfl rfl ⟨(Nat.le_of_ble_eq_true rfl), (Nat.le_of_ble_eq_true rfl)⟩) (kpV (A := A) qP hK qD hG (krecv_5 (q0 := 0) hK hP rfl)) rfl rfl hl.1 rfl (lv_room (Nat.le_of_ble_eq_true rfl)) (kdr dgX3_isFree_0 2 9 rfl rfl) ⟨(Nat.le_of_ble_eq_true rfl), (Nat.le_of_ble_eq_true rfl)⟩) hP hD hS hA kFr_Mo (fun H locs hP hD hS br6 => ?_)
      refine lv_if_eq (tgt := 55) hx hb (kdr dgX3_isFree_0 3 0 rfl rfl) (by decide) (fun c7 => ?_) (fun c7 => ?_)
      · have h := g_t c7 h
        refine lv_iconst (v := 0) hx hb (kdr dgX3_isFree_0 3 3 rfl rfl) (by decide) ?_
        have h := Option.some.inj h
        subst h
        exact kret_i (v := 0) hx hb hr rfl hlocks hS hP (kdr dgX3_isFree_0 3 4 rfl rfl)
      · have h := g_f c7 h
        refine lv_iconst (v := 1) hx hb (kdr dgX3_isFree_0 3 1 rfl rfl) (by decide) ?_
        refine lv_goto (tgt := 56) hx hb (kdr dgX3_isFree_0 3 2 rfl rfl) (by decide) ?_
        have h := Option.some.inj h
        subst h
        exact kret_i (v := 1) hx hb hr rfl hlocks hS hP (kdr dgX3_isFree_0 3 4 rfl rfl)
noncomputable abbrev wsX3_frees : List Cond := kWs yX3_frees cX3_frees 1 (some .int)
noncomputable def f_X3_frees (mfr : Int64) (mun : Int64) (mbe : Nat → Int64) (men : Nat → Int64) (msp : Int32) : Option ((Int32) × (Int32)) :=
  (f_X3_free mfr mun mbe men msp).bind fun r1 =>
  (f_X3_freesOf 22 r1).bind fun r2 =>
  some (r2, 0)
theorem f_X3_frees_e {mfr : Int64} {mun : Int64} {mbe : Nat → Int64} {men : Nat → Int64} {msp : Int32} : f_X3_frees mfr mun mbe men msp = 
  (f_X3_free mfr mun mbe men msp).bind fun r1 =>
  (f_X3_freesOf 22 r1).bind fun r2 =>
  some (r2, 0) := rfl
set_option maxHeartbeats 4000000 in
set_option maxRecDepth 100000 in
theorem c_X3_frees (l : Launch) (dC : Nat → ClassId) (dI : Nat → Nat → Nat) (cB cI cJ cZ : ClassId) (b : Nat → Nat) (sz : Nat) (mce : Nat → Int64) (mfr : Int64) (mun : Int64) (mbe : Nat → Int64) (men : Nat → Int64) (mov : Nat → Int32) (msp : Int32) (mwb : Nat → Int64) (mwe : Nat → Int64) (mwi : Int32) (mac : Int32) (mre : Int32) (mkn : Int32) (mth : Int32) (res : (Int32) × (Int32)) (hf : f_X3_frees mfr mun mbe men msp = some res) : kMi l yX3_frees wsX3_frees (kRm 2 1 22 49) dC dI cB cI cJ cZ [.ref (b 0)] sz (wMo cJ cZ b mce mfr mun mbe men mov msp mwb mwe mwi mac mre mkn mth) .int (res.1) (wMo cJ cZ b mce mfr mun mbe men mov msp mwb mwe mwi mac mre mkn (res.2)) 1 22 := by
  refine kmet_i (y := yX3_frees) (cc := cX3_frees) (maxL := 1) (ret := (some .int)) RX3 (kvA 0 (b 0) kvE) kpl_X3 rfl rfl (Nat.le_of_ble_eq_true rfl) rfl (fun p e s m below meth c A ls hx hb hr hml hts hown hlocks hP hK hG hD hA hS hl => ?_)
  have hw0 := hts (.fieldLink RX3 35 "SpanbookerModel" "thrown" "I") (List.mem_cons_of_mem _ kw_1085)
  have hiX3 : ∀ w ∈ u_ws RX3 TX3 14, w ∈ wsX3_frees := fun w h => List.mem_cons_of_mem _ (ku_X3 w h)
  have h := f_X3_frees_e.symm.trans hf
  refine lv_aload_n hx hb (kdr dgX3_frees_0 0 0 rfl rfl) rfl (lv_at hl 0 rfl) ?_
  refine lv_iconst (v := 0) hx hb (kdr dgX3_frees_0 0 1 rfl rfl) (by decide) ?_
  refine va_put (D := (dC, dI)) (ci := 5) (v := .int 0) (ty := .int) (C := RX3) (T := TX3) (N := 14) hx hb hts hiX3 tyX3 tyX3_ok nmX3 hown hK hP hD hS 0 rfl rfl 13 (by decide) hw0 (fun _ h9 => h9) rfl (by decide +kernel) rfl rfl (Nat.le_of_ble_eq_true rfl) (kdr dgX3_frees_0 0 2 rfl rfl) (fun H locs hP hD hS => ?_)
  have hP : va_P (dC, dI) vwCl (wMo cJ cZ b mce mfr mun mbe men mov msp mwb mwe mwi mac mre mkn 0) H := hP
  have hD : va_D A (wMo cJ cZ b mce mfr mun mbe men mov msp mwb mwe mwi mac mre mkn 0) := hD
  refine lv_aload_n hx hb (kdr dgX3_frees_0 0 3 rfl rfl) rfl (lv_at hl 0 rfl) ?_
  obtain ⟨r1, g1, h⟩ := g_b h
  refine kcall_r (wMo cJ cZ b mce mfr mun mbe men mov msp mwb mwe mwi mac mre mkn 0) (va_runV (As := []) (rest := []) ⟨hx, hb, hml, hown, hts⟩ (c_X3_free l dC dI cB cI cJ cZ b _ mce mfr mun mbe men mov msp mwb mwe mwi mac mre mkn 0  r1 g1) (kcwV hts kw_1360 kv_X3_free rfl rfl ⟨(Nat.le_of_ble_eq_true rfl), (Nat.le_of_ble_eq_true rfl)⟩) (kpV (A := A) (hP.sub [0, 1, 2, 3, 4, 5, 6] rfl) hK (hD.sub [0, 1, 2, 3, 4, 5, 6] (by decide) rfl) hG (krecv_5 (q0 := 0) hK hP rfl)) rfl rfl hl.1 rfl (lv_room (Nat.le_of_ble_eq_true rfl)) (kdr dgX3_frees_0 0 4 rfl rfl) ⟨(Nat.le_of_ble_eq_true rfl), (Nat.le_of_ble_eq_true rfl)⟩) hP hD hS hA [0, 1, 2, 3, 4, 5, 6] [] rfl rfl [] rfl rfl rfl (by decide) rfl rfl (fun qn0 H locs hP hD hS => ?_)
  have hP : va_P (dC, dI) vwCl ((wMo cJ cZ b mce mfr mun mbe men mov msp mwb mwe mwi mac mre mkn 0) ++ [(qn0, .inl (cJ, 22, .inr (.inl r1)))]) H := hP
  have hD : va_D A ((wMo cJ cZ b mce mfr mun mbe men mov msp mwb mwe mwi mac mre mkn 0) ++ [(qn0, .inl (cJ, 22, .inr (.inl r1)))]) := hD
  obtain ⟨r2, g2, h⟩ := g_b h
  refine kq_i ((wMo cJ cZ b mce mfr mun mbe men mov msp mwb mwe mwi mac mre mkn 0) ++ [(qn0, .inl (cJ, 22, .inr (.inl r1)))]) (fun qP qD qF => va_runS (As := [.ref qn0]) (rest := []) ⟨hx, hb, hml, hown, hts⟩ (c_X3_freesOf l dC dI cB cI cJ cZ qn0 22 _ r1  r2 g2) (kcwS hts kw_1364 kv_X3_freesOf rfl rfl ⟨(Nat.le_of_ble_eq_true rfl), (Nat.le_of_ble_eq_true rfl)⟩) (kpS (A := A) qP hK qD hG) rfl rfl hl.1 rfl (lv_room (Nat.le_of_ble_eq_true rfl)) (kdr dgX3_frees_0 0 5 rfl rfl) ⟨(Nat.le_of_ble_eq_true rfl), (Nat.le_of_ble_eq_true rfl)⟩) hP hD hS hA (kFr_r kFr_o) (fun H locs hP hD hS br2 => ?_)
  have hP := hP.sub (ws' := (wMo cJ cZ b mce mfr mun mbe men mov msp mwb mwe mwi mac mre mkn 0)) [0, 1, 2, 3, 4, 5, 6] rfl
  have h := Option.some.inj h
  subst h
  refine W.widen (k := 1) (n := 22) (Nat.le_of_ble_eq_true rfl) (Nat.le_of_ble_eq_true rfl) ?_
  exact kret_i (v := r2) hx hb hr rfl hlocks hS hP (kdr dgX3_frees_0 0 6 rfl rfl)
noncomputable abbrev wsX3_ofFree : List Cond := kWs yX3_ofFree cX3_ofFree 4 (some .int)
noncomputable def f_X3_ofFree_37 (ext0 : Nat → Int64) (x1 : Int32) (x2 : Int32) (y0 : Int32) (y1 : Int32) : Option ((Int32) × (Int32)) :=
  (f_X3_isThrown y1 y0).bind fun r1 =>
  if r1.1 = 0 then
    if ix ((2 * x1) + (x2 / 2)) 22 then
      (f_X3_half (ext0 ((2 * x1) + (x2 / 2)).toNatClampNeg) x2).bind fun r4 =>
      some (r4, r1.2)
    else none
  else
    some (0, r1.2)
theorem f_X3_ofFree_37_e {ext0 : Nat → Int64} {x1 : Int32} {x2 : Int32} {y0 : Int32} {y1 : Int32} : f_X3_ofFree_37 ext0 x1 x2 y0 y1 =
  (f_X3_isThrown y1 y0).bind fun r1 =>
  if r1.1 = 0 then
    if ix ((2 * x1) + (x2 / 2)) 22 then
      (f_X3_half (ext0 ((2 * x1) + (x2 / 2)).toNatClampNeg) x2).bind fun r4 =>
      some (r4, r1.2)
    else none
  else
    some (0, r1.2) := rfl
noncomputable def f_X3_ofFree_32 (ext0 : Nat → Int64) (x1 : Int32) (x2 : Int32) (y0 : Int32) : Option ((Int32) × (Int32)) :=
  f_X3_ofFree_37 ext0 x1 x2 1 y0
theorem f_X3_ofFree_32_e {ext0 : Nat → Int64} {x1 : Int32} {x2 : Int32} {y0 : Int32} : f_X3_ofFree_32 ext0 x1 x2 y0 =
  f_X3_ofFree_37 ext0 x1 x2 1 y0 := rfl
noncomputable def f_X3_ofFree_23 (ext0 : Nat → Int64) (x1 : Int32) (x2 : Int32) (y0 : Int32) : Option ((Int32) × (Int32)) :=
  if x2 < 0 then
    f_X3_ofFree_32 ext0 x1 x2 y0
  else
    if x2 ≤ 3 then
      f_X3_ofFree_37 ext0 x1 x2 0 y0
    else
      f_X3_ofFree_32 ext0 x1 x2 y0
theorem f_X3_ofFree_23_e {ext0 : Nat → Int64} {x1 : Int32} {x2 : Int32} {y0 : Int32} : f_X3_ofFree_23 ext0 x1 x2 y0 =
  if x2 < 0 then
    f_X3_ofFree_32 ext0 x1 x2 y0
  else
    if x2 ≤ 3 then
      f_X3_ofFree_37 ext0 x1 x2 0 y0
    else
      f_X3_ofFree_32 ext0 x1 x2 y0 := rfl
noncomputable def f_X3_ofFree_18 (ext0 : Nat → Int64) (x1 : Int32) (x2 : Int32) : Option ((Int32) × (Int32)) :=
  f_X3_ofFree_23 ext0 x1 x2 1
theorem f_X3_ofFree_18_e {ext0 : Nat → Int64} {x1 : Int32} {x2 : Int32} : f_X3_ofFree_18 ext0 x1 x2 =
  f_X3_ofFree_23 ext0 x1 x2 1 := rfl
noncomputable def f_X3_ofFree (mfr : Int64) (mun : Int64) (mbe : Nat → Int64) (men : Nat → Int64) (msp : Int32) (p0 : Int32) (p1 : Int32) : Option ((Int32) × (Int32)) :=
  (f_X3_free mfr mun mbe men msp).bind fun r1 =>
  if p0 < 0 then
    f_X3_ofFree_18 r1 p0 p1
  else
    (f_X3_freesOf 22 r1).bind fun r3 =>
    if p0 < r3 then
      f_X3_ofFree_23 r1 p0 p1 0
    else
      f_X3_ofFree_18 r1 p0 p1
theorem f_X3_ofFree_e {mfr : Int64} {mun : Int64} {mbe : Nat → Int64} {men : Nat → Int64} {msp : Int32} {p0 : Int32} {p1 : Int32} : f_X3_ofFree mfr mun mbe men msp p0 p1 = 
  (f_X3_free mfr mun mbe men msp).bind fun r1 =>
  if p0 < 0 then
    f_X3_ofFree_18 r1 p0 p1
  else
    (f_X3_freesOf 22 r1).bind fun r3 =>
    if p0 < r3 then
      f_X3_ofFree_23 r1 p0 p1 0
    else
      f_X3_ofFree_18 r1 p0 p1 := rfl
set_option maxHeartbeats 4000000 in
set_option maxRecDepth 100000 in
theorem c_X3_ofFree (l : Launch) (dC : Nat → ClassId) (dI : Nat → Nat → Nat) (cB cI cJ cZ : ClassId) (b : Nat → Nat) (sz : Nat) (mce : Nat → Int64) (mfr : Int64) (mun : Int64) (mbe : Nat → Int64) (men : Nat → Int64) (mov : Nat → Int32) (msp : Int32) (mwb : Nat → Int64) (mwe : Nat → Int64) (mwi : Int32) (mac : Int32) (mre : Int32) (mkn : Int32) (mth : Int32) (p0 : Int32) (p1 : Int32) (res : (Int32) × (Int32)) (hf : f_X3_ofFree mfr mun mbe men msp p0 p1 = some res) : kMi l yX3_ofFree wsX3_ofFree (kRm 3 1 22 64) dC dI cB cI cJ cZ [.ref (b 0), .int p0, .int p1] sz (wMo cJ cZ b mce mfr mun mbe men mov msp mwb mwe mwi mac mre mkn mth) .int (res.1) (wMo cJ cZ b mce mfr mun mbe men mov msp mwb mwe mwi mac mre mkn (res.2)) 1 22 := by
  refine kmet_i (y := yX3_ofFree) (cc := cX3_ofFree) (maxL := 4) (ret := (some .int)) RX3 (kvA 0 (b 0) (kvI 1 p0 (kvI 2 p1 kvE))) kpl_X3 rfl rfl (Nat.le_of_ble_eq_true rfl) rfl (fun p e s m below meth c A ls hx hb hr hml hts hown hlocks hP hK hG hD hA hS hl => ?_)
  have J37 : ∀ (mce : Nat → Int64) (mfr : Int64) (mun : Int64) (mbe : Nat → Int64) (men : Nat → Int64) (mov : Nat → Int32) (msp : Int32) (mwb : Nat → Int64) (mwe : Nat → Int64) (mwi : Int32) (mac : Int32) (mre : Int32) (mkn : Int32) (mth : Int32) (ext0 : Nat → Int64) (x1 : Int32) (x2 : Int32) (y0 : Int32) (y1 : Int32) (qn0 : Nat) (H : Heap) (locs : List Loc), va_P (dC, dI) vwCl ((wMo cJ cZ b mce mfr mun mbe men mov msp mwb mwe mwi mac mre mkn mth) ++ [(qn0, .inl (cJ, 22, .inr (.inl ext0)))]) H → va_D A ((wMo cJ cZ b mce mfr mun mbe men mov msp mwb mwe mwi mac mre mkn mth) ++ [(qn0, .inl (cJ, 22, .inr (.inl ext0)))]) → va_S A s.heap H locs → ∀ (ls : Array Slot), lv_has ls 4 (kvI 1 x1 (kvI 2 x2 (kvA 3 qn0 kvE))) → f_X3_ofFree_37 ext0 x1 x2 y0 y1 = some res → W p l e (headSpec wsX3_ofFree (kRm 3 1 22 64)).room s m ([.ref (b 0), .int p0, .int p1] : List Value).toArray below meth c H locs 1 22 (MQ below (kI (dC, dI) .int (res.1) (wMo cJ cZ b mce mfr mun mbe men mov msp mwb mwe mwi mac mre mkn (res.2)) A) ([.ref (b 0), .int p0, .int p1] : List Value).toArray s 1 22 A) (F0 m 37 ls [.int y0, .int y1, .ref (b 0)]) := by
    intro mce mfr mun mbe men mov msp mwb mwe mwi mac mre mkn mth ext0 x1 x2 y0 y1 qn0 H locs hP hD hS ls hl h
    have h := f_X3_ofFree_37_e.symm.trans h
    obtain ⟨r1, g1, h⟩ := g_b h
    refine kq_i ((wMo cJ cZ b mce mfr mun mbe men mov msp mwb mwe mwi mac mre mkn r1.2) ++ [(qn0, .inl (cJ, 22, .inr (.inl ext0)))]) (fun qP qD qF => va_runV (As := [.int y1, .int y0]) (rest := []) ⟨hx, hb, hml, hown, hts⟩ (c_X3_isThrown l dC dI cB cI cJ cZ b _ mce mfr mun mbe men mov msp mwb mwe mwi mac mre mkn mth y1 y0 r1 g1) (kcwV hts kw_1126 kv_X3_isThrown rfl rfl ⟨(Nat.le_of_ble_eq_true rfl), (Nat.le_of_ble_eq_true rfl)⟩) (kpV (A := A) qP hK qD hG (krecv_5 (q0 := 0) hK hP rfl)) rfl rfl hl.1 rfl (lv_room (Nat.le_of_ble_eq_true rfl)) (kdr dgX3_ofFree_0 2 1 rfl rfl) ⟨(Nat.le_of_ble_eq_true rfl), (Nat.le_of_ble_eq_true rfl)⟩) hP hD hS hA (kFr_l kFr_Mo) (fun H locs hP hD hS br1 => ?_)
    refine lv_if_eq (tgt := 45) hx hb (kdr dgX3_ofFree_0 2 2 rfl rfl) (by decide) (fun c2 => ?_) (fun c2 => ?_)
    · have h := g_t c2 h
      refine lv_aload_n hx hb (kdr dgX3_ofFree_0 2 5 rfl rfl) rfl (lv_at hl 2 rfl) ?_
      refine lv_iconst (v := 2) hx hb (kdr dgX3_ofFree_0 2 6 rfl rfl) (by decide) ?_
      refine lv_iload_n hx hb (kdr dgX3_ofFree_0 2 7 rfl rfl) rfl (lv_at hl 0 rfl) ?_
      refine lv_imul hx hb (kdr dgX3_ofFree_0 2 8 rfl rfl) ?_
      refine lv_iload_n hx hb (kdr dgX3_ofFree_0 2 9 rfl rfl) rfl (lv_at hl 1 rfl) ?_
      refine lv_iconst (v := 2) hx hb (kdr dgX3_ofFree_0 3 0 rfl rfl) (by decide) ?_
      refine lv_idiv hx hb (kdr dgX3_ofFree_0 3 1 rfl rfl) (by decide) ?_
      refine lv_iadd hx hb (kdr dgX3_ofFree_0 3 2 rfl rfl) ?_
      obtain ⟨z2, h⟩ := g_if h
      refine va_lald hx hb hK hP 7 2 rfl rfl (ix_in z2) (kdr dgX3_ofFree_0 3 3 rfl rfl) ?_
      refine lv_iload_n hx hb (kdr dgX3_ofFree_0 3 4 rfl rfl) rfl (lv_at hl 1 rfl) ?_
      obtain ⟨r4, g4, h⟩ := g_b h
      refine kq_i ((wMo cJ cZ b mce mfr mun mbe men mov msp mwb mwe mwi mac mre mkn r1.2) ++ [(qn0, .inl (cJ, 22, .inr (.inl ext0)))]) (fun qP qD qF => va_runS (As := [.long (ext0 ((2 * x1) + (x2 / 2)).toNatClampNeg), .int x2]) (rest := []) ⟨hx, hb, hml, hown, hts⟩ (c_X3_half l dC dI cB cI cJ cZ  _  (ext0 ((2 * x1) + (x2 / 2)).toNatClampNeg) x2 r4 g4) (kcwS hts kw_1313 kv_X3_half rfl rfl ⟨(Nat.le_of_ble_eq_true rfl), (Nat.le_of_ble_eq_true rfl)⟩) (kpS (A := A) (kPnil) hK ((kDnil (A := A))) hG) rfl rfl hl.1 rfl (lv_room (Nat.le_of_ble_eq_true rfl)) (kdr dgX3_ofFree_0 3 5 rfl rfl) ⟨(Nat.le_of_ble_eq_true rfl), (Nat.le_of_ble_eq_true rfl)⟩) hP hD hS hA kFr_n (fun H locs hP hD hS br4 => ?_)
      have hP := hP.sub (ws' := (wMo cJ cZ b mce mfr mun mbe men mov msp mwb mwe mwi mac mre mkn r1.2)) [0, 1, 2, 3, 4, 5, 6] rfl
      have h := Option.some.inj h
      subst h
      refine W.widen (k := 1) (n := 22) (Nat.le_of_ble_eq_true rfl) (Nat.le_of_ble_eq_true rfl) ?_
      exact kret_i (v := r4) hx hb hr rfl hlocks hS hP (kdr dgX3_ofFree_0 3 6 rfl rfl)
    · have h := g_f c2 h
      refine lv_iconst (v := 0) hx hb (kdr dgX3_ofFree_0 2 3 rfl rfl) (by decide) ?_
      have hP := hP.sub (ws' := (wMo cJ cZ b mce mfr mun mbe men mov msp mwb mwe mwi mac mre mkn r1.2)) [0, 1, 2, 3, 4, 5, 6] rfl
      have h := Option.some.inj h
      subst h
      refine W.widen (k := 1) (n := 22) (Nat.le_of_ble_eq_true rfl) (Nat.le_of_ble_eq_true rfl) ?_
      exact kret_i (v := 0) hx hb hr rfl hlocks hS hP (kdr dgX3_ofFree_0 2 4 rfl rfl)
  have J32 : ∀ (mce : Nat → Int64) (mfr : Int64) (mun : Int64) (mbe : Nat → Int64) (men : Nat → Int64) (mov : Nat → Int32) (msp : Int32) (mwb : Nat → Int64) (mwe : Nat → Int64) (mwi : Int32) (mac : Int32) (mre : Int32) (mkn : Int32) (mth : Int32) (ext0 : Nat → Int64) (x1 : Int32) (x2 : Int32) (y0 : Int32) (qn0 : Nat) (H : Heap) (locs : List Loc), va_P (dC, dI) vwCl ((wMo cJ cZ b mce mfr mun mbe men mov msp mwb mwe mwi mac mre mkn mth) ++ [(qn0, .inl (cJ, 22, .inr (.inl ext0)))]) H → va_D A ((wMo cJ cZ b mce mfr mun mbe men mov msp mwb mwe mwi mac mre mkn mth) ++ [(qn0, .inl (cJ, 22, .inr (.inl ext0)))]) → va_S A s.heap H locs → ∀ (ls : Array Slot), lv_has ls 4 (kvI 1 x1 (kvI 2 x2 (kvA 3 qn0 kvE))) → f_X3_ofFree_32 ext0 x1 x2 y0 = some res → W p l e (headSpec wsX3_ofFree (kRm 3 1 22 64)).room s m ([.ref (b 0), .int p0, .int p1] : List Value).toArray below meth c H locs 1 22 (MQ below (kI (dC, dI) .int (res.1) (wMo cJ cZ b mce mfr mun mbe men mov msp mwb mwe mwi mac mre mkn (res.2)) A) ([.ref (b 0), .int p0, .int p1] : List Value).toArray s 1 22 A) (F0 m 32 ls [.int y0, .ref (b 0)]) := by
    intro mce mfr mun mbe men mov msp mwb mwe mwi mac mre mkn mth ext0 x1 x2 y0 qn0 H locs hP hD hS ls hl h
    have h := f_X3_ofFree_32_e.symm.trans h
    refine lv_iconst (v := 1) hx hb (kdr dgX3_ofFree_0 1 8 rfl rfl) (by decide) ?_
    refine lv_goto (tgt := 37) hx hb (kdr dgX3_ofFree_0 1 9 rfl rfl) (by decide) ?_
    exact J37 mce mfr mun mbe men mov msp mwb mwe mwi mac mre mkn mth ext0 x1 x2 1 y0 qn0 _ _ hP hD hS ls (lv_sub hl [0, 1, 2] rfl) h
  have J23 : ∀ (mce : Nat → Int64) (mfr : Int64) (mun : Int64) (mbe : Nat → Int64) (men : Nat → Int64) (mov : Nat → Int32) (msp : Int32) (mwb : Nat → Int64) (mwe : Nat → Int64) (mwi : Int32) (mac : Int32) (mre : Int32) (mkn : Int32) (mth : Int32) (ext0 : Nat → Int64) (x1 : Int32) (x2 : Int32) (y0 : Int32) (qn0 : Nat) (H : Heap) (locs : List Loc), va_P (dC, dI) vwCl ((wMo cJ cZ b mce mfr mun mbe men mov msp mwb mwe mwi mac mre mkn mth) ++ [(qn0, .inl (cJ, 22, .inr (.inl ext0)))]) H → va_D A ((wMo cJ cZ b mce mfr mun mbe men mov msp mwb mwe mwi mac mre mkn mth) ++ [(qn0, .inl (cJ, 22, .inr (.inl ext0)))]) → va_S A s.heap H locs → ∀ (ls : Array Slot), lv_has ls 4 (kvI 1 x1 (kvI 2 x2 (kvA 3 qn0 kvE))) → f_X3_ofFree_23 ext0 x1 x2 y0 = some res → W p l e (headSpec wsX3_ofFree (kRm 3 1 22 64)).room s m ([.ref (b 0), .int p0, .int p1] : List Value).toArray below meth c H locs 1 22 (MQ below (kI (dC, dI) .int (res.1) (wMo cJ cZ b mce mfr mun mbe men mov msp mwb mwe mwi mac mre mkn (res.2)) A) ([.ref (b 0), .int p0, .int p1] : List Value).toArray s 1 22 A) (F0 m 23 ls [.int y0, .ref (b 0)]) := by
    intro mce mfr mun mbe men mov msp mwb mwe mwi mac mre mkn mth ext0 x1 x2 y0 qn0 H locs hP hD hS ls hl h
    have h := f_X3_ofFree_23_e.symm.trans h
    refine lv_iload_n hx hb (kdr dgX3_ofFree_0 1 3 rfl rfl) rfl (lv_at hl 1 rfl) ?_
    refine lv_if_lt (tgt := 32) hx hb (kdr dgX3_ofFree_0 1 4 rfl rfl) (by decide) (fun c1 => ?_) (fun c1 => ?_)
    · have h := g_t c1 h
      exact J32 mce mfr mun mbe men mov msp mwb mwe mwi mac mre mkn mth ext0 x1 x2 y0 qn0 _ _ hP hD hS ls (lv_sub hl [0, 1, 2] rfl) h
    · have h := g_f c1 h
      refine lv_iload_n hx hb (kdr dgX3_ofFree_0 1 5 rfl rfl) rfl (lv_at hl 1 rfl) ?_
      refine lv_iconst (v := 3) hx hb (kdr dgX3_ofFree_0 1 6 rfl rfl) (by decide) ?_
      refine lv_icmp_le (tgt := 36) hx hb (kdr dgX3_ofFree_0 1 7 rfl rfl) (by decide) (fun c2 => ?_) (fun c2 => ?_)
      · have h := g_t c2 h
        refine lv_iconst (v := 0) hx hb (kdr dgX3_ofFree_0 2 0 rfl rfl) (by decide) ?_
        exact J37 mce mfr mun mbe men mov msp mwb mwe mwi mac mre mkn mth ext0 x1 x2 0 y0 qn0 _ _ hP hD hS ls (lv_sub hl [0, 1, 2] rfl) h
      · have h := g_f c2 h
        exact J32 mce mfr mun mbe men mov msp mwb mwe mwi mac mre mkn mth ext0 x1 x2 y0 qn0 _ _ hP hD hS ls (lv_sub hl [0, 1, 2] rfl) h
  have J18 : ∀ (mce : Nat → Int64) (mfr : Int64) (mun : Int64) (mbe : Nat → Int64) (men : Nat → Int64) (mov : Nat → Int32) (msp : Int32) (mwb : Nat → Int64) (mwe : Nat → Int64) (mwi : Int32) (mac : Int32) (mre : Int32) (mkn : Int32) (mth : Int32) (ext0 : Nat → Int64) (x1 : Int32) (x2 : Int32) (qn0 : Nat) (H : Heap) (locs : List Loc), va_P (dC, dI) vwCl ((wMo cJ cZ b mce mfr mun mbe men mov msp mwb mwe mwi mac mre mkn mth) ++ [(qn0, .inl (cJ, 22, .inr (.inl ext0)))]) H → va_D A ((wMo cJ cZ b mce mfr mun mbe men mov msp mwb mwe mwi mac mre mkn mth) ++ [(qn0, .inl (cJ, 22, .inr (.inl ext0)))]) → va_S A s.heap H locs → ∀ (ls : Array Slot), lv_has ls 4 (kvI 1 x1 (kvI 2 x2 (kvA 3 qn0 kvE))) → f_X3_ofFree_18 ext0 x1 x2 = some res → W p l e (headSpec wsX3_ofFree (kRm 3 1 22 64)).room s m ([.ref (b 0), .int p0, .int p1] : List Value).toArray below meth c H locs 1 22 (MQ below (kI (dC, dI) .int (res.1) (wMo cJ cZ b mce mfr mun mbe men mov msp mwb mwe mwi mac mre mkn (res.2)) A) ([.ref (b 0), .int p0, .int p1] : List Value).toArray s 1 22 A) (F0 m 18 ls [.ref (b 0)]) := by
    intro mce mfr mun mbe men mov msp mwb mwe mwi mac mre mkn mth ext0 x1 x2 qn0 H locs hP hD hS ls hl h
    have h := f_X3_ofFree_18_e.symm.trans h
    refine lv_iconst (v := 1) hx hb (kdr dgX3_ofFree_0 1 0 rfl rfl) (by decide) ?_
    refine lv_goto (tgt := 23) hx hb (kdr dgX3_ofFree_0 1 1 rfl rfl) (by decide) ?_
    exact J23 mce mfr mun mbe men mov msp mwb mwe mwi mac mre mkn mth ext0 x1 x2 1 qn0 _ _ hP hD hS ls (lv_sub hl [0, 1, 2] rfl) h
  have h := f_X3_ofFree_e.symm.trans hf
  refine lv_aload_n hx hb (kdr dgX3_ofFree_0 0 0 rfl rfl) rfl (lv_at hl 0 rfl) ?_
  obtain ⟨r1, g1, h⟩ := g_b h
  refine kcall_r (wMo cJ cZ b mce mfr mun mbe men mov msp mwb mwe mwi mac mre mkn mth) (va_runV (As := []) (rest := []) ⟨hx, hb, hml, hown, hts⟩ (c_X3_free l dC dI cB cI cJ cZ b _ mce mfr mun mbe men mov msp mwb mwe mwi mac mre mkn mth  r1 g1) (kcwV hts kw_1360 kv_X3_free rfl rfl ⟨(Nat.le_of_ble_eq_true rfl), (Nat.le_of_ble_eq_true rfl)⟩) (kpV (A := A) (hP.sub [0, 1, 2, 3, 4, 5, 6] rfl) hK (hD.sub [0, 1, 2, 3, 4, 5, 6] (by decide) rfl) hG (krecv_5 (q0 := 0) hK hP rfl)) rfl rfl hl.1 rfl (lv_room (Nat.le_of_ble_eq_true rfl)) (kdr dgX3_ofFree_0 0 1 rfl rfl) ⟨(Nat.le_of_ble_eq_true rfl), (Nat.le_of_ble_eq_true rfl)⟩) hP hD hS hA [0, 1, 2, 3, 4, 5, 6] [] rfl rfl [] rfl rfl rfl (by decide) rfl rfl (fun qn0 H locs hP hD hS => ?_)
  have hP : va_P (dC, dI) vwCl ((wMo cJ cZ b mce mfr mun mbe men mov msp mwb mwe mwi mac mre mkn mth) ++ [(qn0, .inl (cJ, 22, .inr (.inl r1)))]) H := hP
  have hD : va_D A ((wMo cJ cZ b mce mfr mun mbe men mov msp mwb mwe mwi mac mre mkn mth) ++ [(qn0, .inl (cJ, 22, .inr (.inl r1)))]) := hD
  refine lv_astore_n (lv' := (kvA 3 qn0 (kvA 0 (b 0) (kvI 1 p0 (kvI 2 p1 kvE))))) hx hb (kdr dgX3_ofFree_0 0 2 rfl rfl) rfl hl (by decide) rfl (fun ls hl => ?_)
  refine lv_aload_n hx hb (kdr dgX3_ofFree_0 0 3 rfl rfl) rfl (lv_at hl 1 rfl) ?_
  refine lv_iload_n hx hb (kdr dgX3_ofFree_0 0 4 rfl rfl) rfl (lv_at hl 2 rfl) ?_
  refine lv_if_lt (tgt := 18) hx hb (kdr dgX3_ofFree_0 0 5 rfl rfl) (by decide) (fun c2 => ?_) (fun c2 => ?_)
  · have h := g_t c2 h
    exact J18 mce mfr mun mbe men mov msp mwb mwe mwi mac mre mkn mth r1 p0 p1 qn0 _ _ hP hD hS ls (lv_sub hl [2, 3, 0] rfl) h
  · have h := g_f c2 h
    refine lv_iload_n hx hb (kdr dgX3_ofFree_0 0 6 rfl rfl) rfl (lv_at hl 2 rfl) ?_
    refine lv_aload_n hx hb (kdr dgX3_ofFree_0 0 7 rfl rfl) rfl (lv_at hl 0 rfl) ?_
    obtain ⟨r3, g3, h⟩ := g_b h
    refine kq_i ((wMo cJ cZ b mce mfr mun mbe men mov msp mwb mwe mwi mac mre mkn mth) ++ [(qn0, .inl (cJ, 22, .inr (.inl r1)))]) (fun qP qD qF => va_runS (As := [.ref qn0]) (rest := [.int p0, .ref (b 0)]) ⟨hx, hb, hml, hown, hts⟩ (c_X3_freesOf l dC dI cB cI cJ cZ qn0 22 _ r1  r3 g3) (kcwS hts kw_1364 kv_X3_freesOf rfl rfl ⟨(Nat.le_of_ble_eq_true rfl), (Nat.le_of_ble_eq_true rfl)⟩) (kpS (A := A) qP hK qD hG) rfl rfl hl.1 rfl (lv_room (Nat.le_of_ble_eq_true rfl)) (kdr dgX3_ofFree_0 0 8 rfl rfl) ⟨(Nat.le_of_ble_eq_true rfl), (Nat.le_of_ble_eq_true rfl)⟩) hP hD hS hA (kFr_r kFr_o) (fun H locs hP hD hS br3 => ?_)
    refine lv_icmp_lt (tgt := 22) hx hb (kdr dgX3_ofFree_0 0 9 rfl rfl) (by decide) (fun c4 => ?_) (fun c4 => ?_)
    · have h := g_t c4 h
      refine lv_iconst (v := 0) hx hb (kdr dgX3_ofFree_0 1 2 rfl rfl) (by decide) ?_
      exact J23 mce mfr mun mbe men mov msp mwb mwe mwi mac mre mkn mth r1 p0 p1 0 qn0 _ _ hP hD hS ls (lv_sub hl [2, 3, 0] rfl) h
    · have h := g_f c4 h
      exact J18 mce mfr mun mbe men mov msp mwb mwe mwi mac mre mkn mth r1 p0 p1 qn0 _ _ hP hD hS ls (lv_sub hl [2, 3, 0] rfl) h
noncomputable abbrev wsX3_freeAt : List Cond := kWs yX3_freeAt cX3_freeAt 4 (some .int)
noncomputable def f_X3_freeAt_28 : Nat → (Nat → Int64) → (Int32) → (Nat → Int64) → (Int32) → (Int32) → Option ((Int32) × (Int32))
  | 0, _, _, _, _, _ => none
  | n + 1, mce, mth, ext0, x1, x3 =>
    (f_X3_freesOf 22 ext0).bind fun r1 =>
    if r1 ≤ x3 then
      some ((-1), mth)
    else
      if ix (2 * x3) 22 then
        if ix x1 4 then
          if (mce x1.toNatClampNeg) < (ext0 (2 * x3).toNatClampNeg) then
            f_X3_freeAt_28 n mce mth ext0 x1 (x3 + 1)
          else
            if ix ((2 * x3) + 1) 22 then
              if (ext0 ((2 * x3) + 1).toNatClampNeg) ≤ (mce x1.toNatClampNeg) then
                f_X3_freeAt_28 n mce mth ext0 x1 (x3 + 1)
              else
                some (x3, mth)
            else none
        else none
      else none
theorem f_X3_freeAt_28_0 {mce : Nat → Int64} {mth : Int32} {ext0 : Nat → Int64} {x1 : Int32} {x3 : Int32} : f_X3_freeAt_28 0 mce mth ext0 x1 x3 = none := rfl
theorem f_X3_freeAt_28_s {n : Nat} {mce : Nat → Int64} {mth : Int32} {ext0 : Nat → Int64} {x1 : Int32} {x3 : Int32} : f_X3_freeAt_28 (n + 1) mce mth ext0 x1 x3 =
  (f_X3_freesOf 22 ext0).bind fun r1 =>
  if r1 ≤ x3 then
    some ((-1), mth)
  else
    if ix (2 * x3) 22 then
      if ix x1 4 then
        if (mce x1.toNatClampNeg) < (ext0 (2 * x3).toNatClampNeg) then
          f_X3_freeAt_28 n mce mth ext0 x1 (x3 + 1)
        else
          if ix ((2 * x3) + 1) 22 then
            if (ext0 ((2 * x3) + 1).toNatClampNeg) ≤ (mce x1.toNatClampNeg) then
              f_X3_freeAt_28 n mce mth ext0 x1 (x3 + 1)
            else
              some (x3, mth)
          else none
      else none
    else none := rfl
noncomputable def f_X3_freeAt_13 (mce : Nat → Int64) (mfr : Int64) (mun : Int64) (mbe : Nat → Int64) (men : Nat → Int64) (msp : Int32) (x1 : Int32) (y0 : Int32) : Option ((Int32) × (Int32)) :=
  (f_X3_isThrown_ y0).bind fun r1 =>
  if r1.1 = 0 then
    (f_X3_free mfr mun mbe men msp).bind fun r3 =>
    f_X3_freeAt_28 24 mce r1.2 r3 x1 0
  else
    some (0, r1.2)
theorem f_X3_freeAt_13_e {mce : Nat → Int64} {mfr : Int64} {mun : Int64} {mbe : Nat → Int64} {men : Nat → Int64} {msp : Int32} {x1 : Int32} {y0 : Int32} : f_X3_freeAt_13 mce mfr mun mbe men msp x1 y0 =
  (f_X3_isThrown_ y0).bind fun r1 =>
  if r1.1 = 0 then
    (f_X3_free mfr mun mbe men msp).bind fun r3 =>
    f_X3_freeAt_28 24 mce r1.2 r3 x1 0
  else
    some (0, r1.2) := rfl
noncomputable def f_X3_freeAt (mce : Nat → Int64) (mfr : Int64) (mun : Int64) (mbe : Nat → Int64) (men : Nat → Int64) (msp : Int32) (p0 : Int32) : Option ((Int32) × (Int32)) :=
  (f_X3_is p0).bind fun r1 =>
  if r1 = 0 then
    f_X3_freeAt_13 mce mfr mun mbe men msp p0 1
  else
    f_X3_freeAt_13 mce mfr mun mbe men msp p0 0
theorem f_X3_freeAt_e {mce : Nat → Int64} {mfr : Int64} {mun : Int64} {mbe : Nat → Int64} {men : Nat → Int64} {msp : Int32} {p0 : Int32} : f_X3_freeAt mce mfr mun mbe men msp p0 = 
  (f_X3_is p0).bind fun r1 =>
  if r1 = 0 then
    f_X3_freeAt_13 mce mfr mun mbe men msp p0 1
  else
    f_X3_freeAt_13 mce mfr mun mbe men msp p0 0 := rfl
set_option maxHeartbeats 4000000 in
set_option maxRecDepth 100000 in
theorem c_X3_freeAt (l : Launch) (dC : Nat → ClassId) (dI : Nat → Nat → Nat) (cB cI cJ cZ : ClassId) (b : Nat → Nat) (sz : Nat) (mce : Nat → Int64) (mfr : Int64) (mun : Int64) (mbe : Nat → Int64) (men : Nat → Int64) (mov : Nat → Int32) (msp : Int32) (mwb : Nat → Int64) (mwe : Nat → Int64) (mwi : Int32) (mac : Int32) (mre : Int32) (mkn : Int32) (mth : Int32) (p0 : Int32) (res : (Int32) × (Int32)) (hf : f_X3_freeAt mce mfr mun mbe men msp p0 = some res) : kMi l yX3_freeAt wsX3_freeAt (kRm 2 1 22 49) dC dI cB cI cJ cZ [.ref (b 0), .int p0] sz (wMo cJ cZ b mce mfr mun mbe men mov msp mwb mwe mwi mac mre mkn mth) .int (res.1) (wMo cJ cZ b mce mfr mun mbe men mov msp mwb mwe mwi mac mre mkn (res.2)) 1 22 := by
  refine kmet_i (y := yX3_freeAt) (cc := cX3_freeAt) (maxL := 4) (ret := (some .int)) RX3 (kvA 0 (b 0) (kvI 1 p0 kvE)) kpl_X3 rfl rfl (Nat.le_of_ble_eq_true rfl) rfl (fun p e s m below meth c A ls hx hb hr hml hts hown hlocks hP hK hG hD hA hS hl => ?_)
  have hw0 := hts (.fieldLink RX3 7 "SpanbookerModel" "cells" "[J") (List.mem_cons_of_mem _ kw_1072)
  have hiX3 : ∀ w ∈ u_ws RX3 TX3 14, w ∈ wsX3_freeAt := fun w h => List.mem_cons_of_mem _ (ku_X3 w h)
  have J28 : ∀ (n : Nat), ∀ (mce : Nat → Int64) (mfr : Int64) (mun : Int64) (mbe : Nat → Int64) (men : Nat → Int64) (mov : Nat → Int32) (msp : Int32) (mwb : Nat → Int64) (mwe : Nat → Int64) (mwi : Int32) (mac : Int32) (mre : Int32) (mkn : Int32) (mth : Int32) (ext0 : Nat → Int64) (x1 : Int32) (x3 : Int32) (qn0 : Nat) (H : Heap) (locs : List Loc), va_P (dC, dI) vwCl ((wMo cJ cZ b mce mfr mun mbe men mov msp mwb mwe mwi mac mre mkn mth) ++ [(qn0, .inl (cJ, 22, .inr (.inl ext0)))]) H → va_D A ((wMo cJ cZ b mce mfr mun mbe men mov msp mwb mwe mwi mac mre mkn mth) ++ [(qn0, .inl (cJ, 22, .inr (.inl ext0)))]) → va_S A s.heap H locs → ∀ (ls : Array Slot), lv_has ls 4 (kvA 0 (b 0) (kvI 1 x1 (kvA 2 qn0 (kvI 3 x3 kvE)))) → f_X3_freeAt_28 n mce mth ext0 x1 x3 = some res → W p l e (headSpec wsX3_freeAt (kRm 2 1 22 49)).room s m ([.ref (b 0), .int p0] : List Value).toArray below meth c H locs 1 22 (MQ below (kI (dC, dI) .int (res.1) (wMo cJ cZ b mce mfr mun mbe men mov msp mwb mwe mwi mac mre mkn (res.2)) A) ([.ref (b 0), .int p0] : List Value).toArray s 1 22 A) (F0 m 28 ls []) := by
    intro n
    induction n with
    | zero =>
      intro mce mfr mun mbe men mov msp mwb mwe mwi mac mre mkn mth ext0 x1 x3 qn0 H locs hP hD hS ls hl h
      have h := f_X3_freeAt_28_0.symm.trans h
      cases h
    | succ n ih =>
      intro mce mfr mun mbe men mov msp mwb mwe mwi mac mre mkn mth ext0 x1 x3 qn0 H locs hP hD hS ls hl h
      have h := f_X3_freeAt_28_s.symm.trans h
      refine lv_iload_n hx hb (kdr dgX3_freeAt_0 1 6 rfl rfl) rfl (lv_at hl 3 rfl) ?_
      refine lv_aload_n hx hb (kdr dgX3_freeAt_0 1 7 rfl rfl) rfl (lv_at hl 2 rfl) ?_
      obtain ⟨r1, g1, h⟩ := g_b h
      refine kq_i ((wMo cJ cZ b mce mfr mun mbe men mov msp mwb mwe mwi mac mre mkn mth) ++ [(qn0, .inl (cJ, 22, .inr (.inl ext0)))]) (fun qP qD qF => va_runS (As := [.ref qn0]) (rest := [.int x3]) ⟨hx, hb, hml, hown, hts⟩ (c_X3_freesOf l dC dI cB cI cJ cZ qn0 22 _ ext0  r1 g1) (kcwS hts kw_1364 kv_X3_freesOf rfl rfl ⟨(Nat.le_of_ble_eq_true rfl), (Nat.le_of_ble_eq_true rfl)⟩) (kpS (A := A) qP hK qD hG) rfl rfl hl.1 rfl (lv_room (Nat.le_of_ble_eq_true rfl)) (kdr dgX3_freeAt_0 1 8 rfl rfl) ⟨(Nat.le_of_ble_eq_true rfl), (Nat.le_of_ble_eq_true rfl)⟩) hP hD hS hA (kFr_r kFr_o) (fun H locs hP hD hS br1 => ?_)
      refine lv_icmp_ge (tgt := 76) hx hb (kdr dgX3_freeAt_0 1 9 rfl rfl) (by decide) (fun c2 => ?_) (fun c2 => ?_)
      · have h := g_t c2 h
        refine lv_iconst (v := (-1)) hx hb (kdr dgX3_freeAt_0 4 8 rfl rfl) (by decide) ?_
        have hP := hP.sub (ws' := (wMo cJ cZ b mce mfr mun mbe men mov msp mwb mwe mwi mac mre mkn mth)) [0, 1, 2, 3, 4, 5, 6] rfl
        have h := Option.some.inj h
        subst h
        refine W.widen (k := 1) (n := 22) (Nat.le_of_ble_eq_true rfl) (Nat.le_of_ble_eq_true rfl) ?_
        exact kret_i (v := (-1)) hx hb hr rfl hlocks hS hP (kdr dgX3_freeAt_0 4 9 rfl rfl)
      · have h := g_f c2 h
        refine lv_aload_n hx hb (kdr dgX3_freeAt_0 2 0 rfl rfl) rfl (lv_at hl 2 rfl) ?_
        refine lv_iconst (v := 2) hx hb (kdr dgX3_freeAt_0 2 1 rfl rfl) (by decide) ?_
        refine lv_iload_n hx hb (kdr dgX3_freeAt_0 2 2 rfl rfl) rfl (lv_at hl 3 rfl) ?_
        refine lv_imul hx hb (kdr dgX3_freeAt_0 2 3 rfl rfl) ?_
        obtain ⟨z2, h⟩ := g_if h
        refine va_lald hx hb hK hP 7 2 rfl rfl (ix_in z2) (kdr dgX3_freeAt_0 2 4 rfl rfl) ?_
        refine lv_aload_n hx hb (kdr dgX3_freeAt_0 2 5 rfl rfl) rfl (lv_at hl 0 rfl) ?_
        refine va_get (D := (dC, dI)) (ci := 5) (v := .ref (b 1)) (C := RX3) (T := TX3) (N := 14) hx hb hts hiX3 hown hK hP 0 rfl rfl 0 (by decide) hw0 (fun _ h9 => h9) rfl (kdr dgX3_freeAt_0 2 6 rfl rfl) ?_
        refine lv_iload_n hx hb (kdr dgX3_freeAt_0 2 7 rfl rfl) rfl (lv_at hl 1 rfl) ?_
        obtain ⟨z3, h⟩ := g_if h
        refine va_lald hx hb hK hP 1 2 rfl rfl (ix_in z3) (kdr dgX3_freeAt_0 2 8 rfl rfl) ?_
        refine kl_gt (pc := 47) (tgt := 70) hx hb (kdr dgX3_freeAt_0 2 9 rfl rfl) (kdr dgX3_freeAt_0 3 0 rfl rfl) (by decide) (fun c5 => ?_) (fun c5 => ?_)
        · have h := g_t c5 h
          refine lv_iinc (v := x3 + 1) (lv' := (kvI 3 (x3 + 1) (kvA 0 (b 0) (kvI 1 x1 (kvA 2 qn0 kvE))))) hx hb (kdr dgX3_freeAt_0 4 6 rfl rfl) hl (k := 3) rfl rfl (by decide) rfl (fun ls hl => ?_)
          refine lv_goto (tgt := 28) hx hb (kdr dgX3_freeAt_0 4 7 rfl rfl) (by decide) ?_
          exact ih mce mfr mun mbe men mov msp mwb mwe mwi mac mre mkn mth ext0 x1 (x3 + 1) qn0 _ _ hP hD hS ls (lv_sub hl [1, 2, 3, 0] rfl) h
        · have h := g_f c5 h
          refine lv_aload_n hx hb (kdr dgX3_freeAt_0 3 1 rfl rfl) rfl (lv_at hl 0 rfl) ?_
          refine va_get (D := (dC, dI)) (ci := 5) (v := .ref (b 1)) (C := RX3) (T := TX3) (N := 14) hx hb hts hiX3 hown hK hP 0 rfl rfl 0 (by decide) hw0 (fun _ h9 => h9) rfl (kdr dgX3_freeAt_0 3 2 rfl rfl) ?_
          refine lv_iload_n hx hb (kdr dgX3_freeAt_0 3 3 rfl rfl) rfl (lv_at hl 1 rfl) ?_
          refine va_lald hx hb hK hP 1 2 rfl rfl (ix_in z3) (kdr dgX3_freeAt_0 3 4 rfl rfl) ?_
          refine lv_aload_n hx hb (kdr dgX3_freeAt_0 3 5 rfl rfl) rfl (lv_at hl 2 rfl) ?_
          refine lv_iconst (v := 2) hx hb (kdr dgX3_freeAt_0 3 6 rfl rfl) (by decide) ?_
          refine lv_iload_n hx hb (kdr dgX3_freeAt_0 3 7 rfl rfl) rfl (lv_at hl 3 rfl) ?_
          refine lv_imul hx hb (kdr dgX3_freeAt_0 3 8 rfl rfl) ?_
          refine lv_iconst (v := 1) hx hb (kdr dgX3_freeAt_0 3 9 rfl rfl) (by decide) ?_
          refine lv_iadd hx hb (kdr dgX3_freeAt_0 4 0 rfl rfl) ?_
          obtain ⟨z5, h⟩ := g_if h
          refine va_lald hx hb hK hP 7 2 rfl rfl (ix_in z5) (kdr dgX3_freeAt_0 4 1 rfl rfl) ?_
          refine kl_ge (pc := 64) (tgt := 70) hx hb (kdr dgX3_freeAt_0 4 2 rfl rfl) (kdr dgX3_freeAt_0 4 3 rfl rfl) (by decide) (fun c7 => ?_) (fun c7 => ?_)
          · have h := g_t c7 h
            refine lv_iinc (v := x3 + 1) (lv' := (kvI 3 (x3 + 1) (kvA 0 (b 0) (kvI 1 x1 (kvA 2 qn0 kvE))))) hx hb (kdr dgX3_freeAt_0 4 6 rfl rfl) hl (k := 3) rfl rfl (by decide) rfl (fun ls hl => ?_)
            refine lv_goto (tgt := 28) hx hb (kdr dgX3_freeAt_0 4 7 rfl rfl) (by decide) ?_
            exact ih mce mfr mun mbe men mov msp mwb mwe mwi mac mre mkn mth ext0 x1 (x3 + 1) qn0 _ _ hP hD hS ls (lv_sub hl [1, 2, 3, 0] rfl) h
          · have h := g_f c7 h
            refine lv_iload_n hx hb (kdr dgX3_freeAt_0 4 4 rfl rfl) rfl (lv_at hl 3 rfl) ?_
            have hP := hP.sub (ws' := (wMo cJ cZ b mce mfr mun mbe men mov msp mwb mwe mwi mac mre mkn mth)) [0, 1, 2, 3, 4, 5, 6] rfl
            have h := Option.some.inj h
            subst h
            refine W.widen (k := 1) (n := 22) (Nat.le_of_ble_eq_true rfl) (Nat.le_of_ble_eq_true rfl) ?_
            exact kret_i (v := x3) hx hb hr rfl hlocks hS hP (kdr dgX3_freeAt_0 4 5 rfl rfl)
  have J13 : ∀ (mce : Nat → Int64) (mfr : Int64) (mun : Int64) (mbe : Nat → Int64) (men : Nat → Int64) (mov : Nat → Int32) (msp : Int32) (mwb : Nat → Int64) (mwe : Nat → Int64) (mwi : Int32) (mac : Int32) (mre : Int32) (mkn : Int32) (mth : Int32) (x1 : Int32) (y0 : Int32) (H : Heap) (locs : List Loc), va_P (dC, dI) vwCl (wMo cJ cZ b mce mfr mun mbe men mov msp mwb mwe mwi mac mre mkn mth) H → va_D A (wMo cJ cZ b mce mfr mun mbe men mov msp mwb mwe mwi mac mre mkn mth) → va_S A s.heap H locs → ∀ (ls : Array Slot), lv_has ls 4 (kvA 0 (b 0) (kvI 1 x1 kvE)) → f_X3_freeAt_13 mce mfr mun mbe men msp x1 y0 = some res → W p l e (headSpec wsX3_freeAt (kRm 2 1 22 49)).room s m ([.ref (b 0), .int p0] : List Value).toArray below meth c H locs 0 0 (MQ below (kI (dC, dI) .int (res.1) (wMo cJ cZ b mce mfr mun mbe men mov msp mwb mwe mwi mac mre mkn (res.2)) A) ([.ref (b 0), .int p0] : List Value).toArray s 1 22 A) (F0 m 13 ls [.int y0, .ref (b 0)]) := by
    intro mce mfr mun mbe men mov msp mwb mwe mwi mac mre mkn mth x1 y0 H locs hP hD hS ls hl h
    have h := f_X3_freeAt_13_e.symm.trans h
    obtain ⟨r1, g1, h⟩ := g_b h
    refine kq_i (wMo cJ cZ b mce mfr mun mbe men mov msp mwb mwe mwi mac mre mkn r1.2) (fun qP qD qF => va_runV (As := [.int y0]) (rest := []) ⟨hx, hb, hml, hown, hts⟩ (c_X3_isThrown_ l dC dI cB cI cJ cZ b _ mce mfr mun mbe men mov msp mwb mwe mwi mac mre mkn mth y0 r1 g1) (kcwV hts kw_1166 kv_X3_isThrown_ rfl rfl ⟨(Nat.le_of_ble_eq_true rfl), (Nat.le_of_ble_eq_true rfl)⟩) (kpV (A := A) qP hK qD hG (krecv_5 (q0 := 0) hK hP rfl)) rfl rfl hl.1 rfl (lv_room (Nat.le_of_ble_eq_true rfl)) (kdr dgX3_freeAt_0 0 7 rfl rfl) ⟨(Nat.le_of_ble_eq_true rfl), (Nat.le_of_ble_eq_true rfl)⟩) hP hD hS hA kFr_Mo (fun H locs hP hD hS br1 => ?_)
    refine lv_if_eq (tgt := 21) hx hb (kdr dgX3_freeAt_0 0 8 rfl rfl) (by decide) (fun c2 => ?_) (fun c2 => ?_)
    · have h := g_t c2 h
      refine lv_aload_n hx hb (kdr dgX3_freeAt_0 1 1 rfl rfl) rfl (lv_at hl 0 rfl) ?_
      obtain ⟨r3, g3, h⟩ := g_b h
      refine kcall_r (wMo cJ cZ b mce mfr mun mbe men mov msp mwb mwe mwi mac mre mkn r1.2) (va_runV (As := []) (rest := []) ⟨hx, hb, hml, hown, hts⟩ (c_X3_free l dC dI cB cI cJ cZ b _ mce mfr mun mbe men mov msp mwb mwe mwi mac mre mkn r1.2  r3 g3) (kcwV hts kw_1360 kv_X3_free rfl rfl ⟨(Nat.le_of_ble_eq_true rfl), (Nat.le_of_ble_eq_true rfl)⟩) (kpV (A := A) (hP.sub [0, 1, 2, 3, 4, 5, 6] rfl) hK (hD.sub [0, 1, 2, 3, 4, 5, 6] (by decide) rfl) hG (krecv_5 (q0 := 0) hK hP rfl)) rfl rfl hl.1 rfl (lv_room (Nat.le_of_ble_eq_true rfl)) (kdr dgX3_freeAt_0 1 2 rfl rfl) ⟨(Nat.le_of_ble_eq_true rfl), (Nat.le_of_ble_eq_true rfl)⟩) hP hD hS hA [0, 1, 2, 3, 4, 5, 6] [] rfl rfl [] rfl rfl rfl (by decide) rfl rfl (fun qn0 H locs hP hD hS => ?_)
      have hP : va_P (dC, dI) vwCl ((wMo cJ cZ b mce mfr mun mbe men mov msp mwb mwe mwi mac mre mkn r1.2) ++ [(qn0, .inl (cJ, 22, .inr (.inl r3)))]) H := hP
      have hD : va_D A ((wMo cJ cZ b mce mfr mun mbe men mov msp mwb mwe mwi mac mre mkn r1.2) ++ [(qn0, .inl (cJ, 22, .inr (.inl r3)))]) := hD
      refine lv_astore_n (lv' := (kvA 2 qn0 (kvA 0 (b 0) (kvI 1 x1 kvE)))) hx hb (kdr dgX3_freeAt_0 1 3 rfl rfl) rfl hl (by decide) rfl (fun ls hl => ?_)
      refine lv_iconst (v := 0) hx hb (kdr dgX3_freeAt_0 1 4 rfl rfl) (by decide) ?_
      refine lv_istore_n (lv' := (kvI 3 0 (kvA 2 qn0 (kvA 0 (b 0) (kvI 1 x1 kvE))))) hx hb (kdr dgX3_freeAt_0 1 5 rfl rfl) rfl hl (by decide) rfl (fun ls hl => ?_)
      exact J28 24 mce mfr mun mbe men mov msp mwb mwe mwi mac mre mkn r1.2 r3 x1 0 qn0 _ _ hP hD hS ls (lv_sub hl [2, 3, 1, 0] rfl) h
    · have h := g_f c2 h
      refine lv_iconst (v := 0) hx hb (kdr dgX3_freeAt_0 0 9 rfl rfl) (by decide) ?_
      have h := Option.some.inj h
      subst h
      refine W.widen (k := 1) (n := 22) (Nat.le_of_ble_eq_true rfl) (Nat.le_of_ble_eq_true rfl) ?_
      exact kret_i (v := 0) hx hb hr rfl hlocks hS hP (kdr dgX3_freeAt_0 1 0 rfl rfl)
  have h := f_X3_freeAt_e.symm.trans hf
  refine lv_aload_n hx hb (kdr dgX3_freeAt_0 0 0 rfl rfl) rfl (lv_at hl 0 rfl) ?_
  refine lv_iload_n hx hb (kdr dgX3_freeAt_0 0 1 rfl rfl) rfl (lv_at hl 1 rfl) ?_
  obtain ⟨r1, g1, h⟩ := g_b h
  refine kq_i (wMo cJ cZ b mce mfr mun mbe men mov msp mwb mwe mwi mac mre mkn mth) (fun qP qD qF => va_runS (As := [.int p0]) (rest := [.ref (b 0)]) ⟨hx, hb, hml, hown, hts⟩ (c_X3_is l dC dI cB cI cJ cZ  _  p0 r1 g1) (kcwS hts kw_1119 kv_X3_is rfl rfl ⟨(Nat.le_of_ble_eq_true rfl), (Nat.le_of_ble_eq_true rfl)⟩) (kpS (A := A) (kPnil) hK ((kDnil (A := A))) hG) rfl rfl hl.1 rfl (lv_room (Nat.le_of_ble_eq_true rfl)) (kdr dgX3_freeAt_0 0 2 rfl rfl) ⟨(Nat.le_of_ble_eq_true rfl), (Nat.le_of_ble_eq_true rfl)⟩) hP hD hS hA kFr_n (fun H locs hP hD hS br1 => ?_)
  refine lv_if_ne (tgt := 12) hx hb (kdr dgX3_freeAt_0 0 3 rfl rfl) (by decide) (fun c2 => ?_) (fun c2 => ?_)
  · have h := g_f c2 h
    refine lv_iconst (v := 0) hx hb (kdr dgX3_freeAt_0 0 6 rfl rfl) (by decide) ?_
    exact J13 mce mfr mun mbe men mov msp mwb mwe mwi mac mre mkn mth p0 0 _ _ hP hD hS ls (lv_sub hl [0, 1] rfl) h
  · have h := g_t c2 h
    refine lv_iconst (v := 1) hx hb (kdr dgX3_freeAt_0 0 4 rfl rfl) (by decide) ?_
    refine lv_goto (tgt := 13) hx hb (kdr dgX3_freeAt_0 0 5 rfl rfl) (by decide) ?_
    exact J13 mce mfr mun mbe men mov msp mwb mwe mwi mac mre mkn mth p0 1 _ _ hP hD hS ls (lv_sub hl [0, 1] rfl) h
noncomputable abbrev wsX3_length : List Cond := kWs yX3_length cX3_length 2 (some .int)
noncomputable def f_X3_length_56 (mth : Int32) (x1 : Int32) (y0 : Int64) : Option ((Int32) × (Int32)) :=
  (f_X3_half y0 x1).bind fun r1 =>
  some (r1, mth)
theorem f_X3_length_56_e {mth : Int32} {x1 : Int32} {y0 : Int64} : f_X3_length_56 mth x1 y0 =
  (f_X3_half y0 x1).bind fun r1 =>
  some (r1, mth) := rfl
noncomputable def f_X3_length_15 (mfr : Int64) (mun : Int64) (mbe : Nat → Int64) (men : Nat → Int64) (msp : Int32) (x1 : Int32) (y0 : Int32) : Option ((Int32) × (Int32)) :=
  (f_X3_isThrown_ y0).bind fun r1 =>
  if r1.1 = 0 then
    if 2 ≤ x1 then
      if 4 ≤ x1 then
        f_X3_length_56 r1.2 x1 (mun - mfr)
      else
        (f_X3_freeLength mfr mun mbe men msp).bind fun r5 =>
        f_X3_length_56 r1.2 x1 r5
    else
      (f_X3_takenLength mfr mun mbe men msp).bind fun r4 =>
      f_X3_length_56 r1.2 x1 r4
  else
    some (0, r1.2)
theorem f_X3_length_15_e {mfr : Int64} {mun : Int64} {mbe : Nat → Int64} {men : Nat → Int64} {msp : Int32} {x1 : Int32} {y0 : Int32} : f_X3_length_15 mfr mun mbe men msp x1 y0 =
  (f_X3_isThrown_ y0).bind fun r1 =>
  if r1.1 = 0 then
    if 2 ≤ x1 then
      if 4 ≤ x1 then
        f_X3_length_56 r1.2 x1 (mun - mfr)
      else
        (f_X3_freeLength mfr mun mbe men msp).bind fun r5 =>
        f_X3_length_56 r1.2 x1 r5
    else
      (f_X3_takenLength mfr mun mbe men msp).bind fun r4 =>
      f_X3_length_56 r1.2 x1 r4
  else
    some (0, r1.2) := rfl
noncomputable def f_X3_length_10 (mfr : Int64) (mun : Int64) (mbe : Nat → Int64) (men : Nat → Int64) (msp : Int32) (x1 : Int32) : Option ((Int32) × (Int32)) :=
  f_X3_length_15 mfr mun mbe men msp x1 1
theorem f_X3_length_10_e {mfr : Int64} {mun : Int64} {mbe : Nat → Int64} {men : Nat → Int64} {msp : Int32} {x1 : Int32} : f_X3_length_10 mfr mun mbe men msp x1 =
  f_X3_length_15 mfr mun mbe men msp x1 1 := rfl
noncomputable def f_X3_length (mfr : Int64) (mun : Int64) (mbe : Nat → Int64) (men : Nat → Int64) (msp : Int32) (p0 : Int32) : Option ((Int32) × (Int32)) :=
  if p0 < 0 then
    f_X3_length_10 mfr mun mbe men msp p0
  else
    if p0 ≤ 5 then
      f_X3_length_15 mfr mun mbe men msp p0 0
    else
      f_X3_length_10 mfr mun mbe men msp p0
theorem f_X3_length_e {mfr : Int64} {mun : Int64} {mbe : Nat → Int64} {men : Nat → Int64} {msp : Int32} {p0 : Int32} : f_X3_length mfr mun mbe men msp p0 = 
  if p0 < 0 then
    f_X3_length_10 mfr mun mbe men msp p0
  else
    if p0 ≤ 5 then
      f_X3_length_15 mfr mun mbe men msp p0 0
    else
      f_X3_length_10 mfr mun mbe men msp p0 := rfl
set_option maxHeartbeats 4000000 in
set_option maxRecDepth 100000 in
theorem c_X3_length (l : Launch) (dC : Nat → ClassId) (dI : Nat → Nat → Nat) (cB cI cJ cZ : ClassId) (b : Nat → Nat) (sz : Nat) (mce : Nat → Int64) (mfr : Int64) (mun : Int64) (mbe : Nat → Int64) (men : Nat → Int64) (mov : Nat → Int32) (msp : Int32) (mwb : Nat → Int64) (mwe : Nat → Int64) (mwi : Int32) (mac : Int32) (mre : Int32) (mkn : Int32) (mth : Int32) (p0 : Int32) (res : (Int32) × (Int32)) (hf : f_X3_length mfr mun mbe men msp p0 = some res) : kMi l yX3_length wsX3_length (kRm 3 1 22 73) dC dI cB cI cJ cZ [.ref (b 0), .int p0] sz (wMo cJ cZ b mce mfr mun mbe men mov msp mwb mwe mwi mac mre mkn mth) .int (res.1) (wMo cJ cZ b mce mfr mun mbe men mov msp mwb mwe mwi mac mre mkn (res.2)) 1 22 := by
  refine kmet_i (y := yX3_length) (cc := cX3_length) (maxL := 2) (ret := (some .int)) RX3 (kvA 0 (b 0) (kvI 1 p0 kvE)) kpl_X3 rfl rfl (Nat.le_of_ble_eq_true rfl) rfl (fun p e s m below meth c A ls hx hb hr hml hts hown hlocks hP hK hG hD hA hS hl => ?_)
  have hw0 := hts (.fieldLink RX3 15 "SpanbookerModel" "until" "J") (List.mem_cons_of_mem _ kw_1074)
  have hw1 := hts (.fieldLink RX3 53 "SpanbookerModel" "from" "J") (List.mem_cons_of_mem _ kw_1073)
  have hiX3 : ∀ w ∈ u_ws RX3 TX3 14, w ∈ wsX3_length := fun w h => List.mem_cons_of_mem _ (ku_X3 w h)
  have J56 : ∀ (mce : Nat → Int64) (mfr : Int64) (mun : Int64) (mbe : Nat → Int64) (men : Nat → Int64) (mov : Nat → Int32) (msp : Int32) (mwb : Nat → Int64) (mwe : Nat → Int64) (mwi : Int32) (mac : Int32) (mre : Int32) (mkn : Int32) (mth : Int32) (x1 : Int32) (y0 : Int64) (H : Heap) (locs : List Loc), va_P (dC, dI) vwCl (wMo cJ cZ b mce mfr mun mbe men mov msp mwb mwe mwi mac mre mkn mth) H → va_D A (wMo cJ cZ b mce mfr mun mbe men mov msp mwb mwe mwi mac mre mkn mth) → va_S A s.heap H locs → ∀ (ls : Array Slot), lv_has ls 2 (kvI 1 x1 kvE) → f_X3_length_56 mth x1 y0 = some res → W p l e (headSpec wsX3_length (kRm 3 1 22 73)).room s m ([.ref (b 0), .int p0] : List Value).toArray below meth c H locs 1 22 (MQ below (kI (dC, dI) .int (res.1) (wMo cJ cZ b mce mfr mun mbe men mov msp mwb mwe mwi mac mre mkn (res.2)) A) ([.ref (b 0), .int p0] : List Value).toArray s 1 22 A) (F0 m 56 ls [.long y0]) := by
    intro mce mfr mun mbe men mov msp mwb mwe mwi mac mre mkn mth x1 y0 H locs hP hD hS ls hl h
    have h := f_X3_length_56_e.symm.trans h
    refine lv_iload_n hx hb (kdr dgX3_length_0 3 0 rfl rfl) rfl (lv_at hl 0 rfl) ?_
    obtain ⟨r1, g1, h⟩ := g_b h
    refine kq_i (wMo cJ cZ b mce mfr mun mbe men mov msp mwb mwe mwi mac mre mkn mth) (fun qP qD qF => va_runS (As := [.long y0, .int x1]) (rest := []) ⟨hx, hb, hml, hown, hts⟩ (c_X3_half l dC dI cB cI cJ cZ  _  y0 x1 r1 g1) (kcwS hts kw_1313 kv_X3_half rfl rfl ⟨(Nat.le_of_ble_eq_true rfl), (Nat.le_of_ble_eq_true rfl)⟩) (kpS (A := A) (kPnil) hK ((kDnil (A := A))) hG) rfl rfl hl.1 rfl (lv_room (Nat.le_of_ble_eq_true rfl)) (kdr dgX3_length_0 3 1 rfl rfl) ⟨(Nat.le_of_ble_eq_true rfl), (Nat.le_of_ble_eq_true rfl)⟩) hP hD hS hA kFr_n (fun H locs hP hD hS br1 => ?_)
    have h := Option.some.inj h
    subst h
    refine W.widen (k := 1) (n := 22) (Nat.le_of_ble_eq_true rfl) (Nat.le_of_ble_eq_true rfl) ?_
    exact kret_i (v := r1) hx hb hr rfl hlocks hS hP (kdr dgX3_length_0 3 2 rfl rfl)
  have J15 : ∀ (mce : Nat → Int64) (mfr : Int64) (mun : Int64) (mbe : Nat → Int64) (men : Nat → Int64) (mov : Nat → Int32) (msp : Int32) (mwb : Nat → Int64) (mwe : Nat → Int64) (mwi : Int32) (mac : Int32) (mre : Int32) (mkn : Int32) (mth : Int32) (x1 : Int32) (y0 : Int32) (H : Heap) (locs : List Loc), va_P (dC, dI) vwCl (wMo cJ cZ b mce mfr mun mbe men mov msp mwb mwe mwi mac mre mkn mth) H → va_D A (wMo cJ cZ b mce mfr mun mbe men mov msp mwb mwe mwi mac mre mkn mth) → va_S A s.heap H locs → ∀ (ls : Array Slot), lv_has ls 2 (kvA 0 (b 0) (kvI 1 x1 kvE)) → f_X3_length_15 mfr mun mbe men msp x1 y0 = some res → W p l e (headSpec wsX3_length (kRm 3 1 22 73)).room s m ([.ref (b 0), .int p0] : List Value).toArray below meth c H locs 0 0 (MQ below (kI (dC, dI) .int (res.1) (wMo cJ cZ b mce mfr mun mbe men mov msp mwb mwe mwi mac mre mkn (res.2)) A) ([.ref (b 0), .int p0] : List Value).toArray s 1 22 A) (F0 m 15 ls [.int y0, .ref (b 0)]) := by
    intro mce mfr mun mbe men mov msp mwb mwe mwi mac mre mkn mth x1 y0 H locs hP hD hS ls hl h
    have h := f_X3_length_15_e.symm.trans h
    obtain ⟨r1, g1, h⟩ := g_b h
    refine kq_i (wMo cJ cZ b mce mfr mun mbe men mov msp mwb mwe mwi mac mre mkn r1.2) (fun qP qD qF => va_runV (As := [.int y0]) (rest := []) ⟨hx, hb, hml, hown, hts⟩ (c_X3_isThrown_ l dC dI cB cI cJ cZ b _ mce mfr mun mbe men mov msp mwb mwe mwi mac mre mkn mth y0 r1 g1) (kcwV hts kw_1166 kv_X3_isThrown_ rfl rfl ⟨(Nat.le_of_ble_eq_true rfl), (Nat.le_of_ble_eq_true rfl)⟩) (kpV (A := A) qP hK qD hG (krecv_5 (q0 := 0) hK hP rfl)) rfl rfl hl.1 rfl (lv_room (Nat.le_of_ble_eq_true rfl)) (kdr dgX3_length_0 0 9 rfl rfl) ⟨(Nat.le_of_ble_eq_true rfl), (Nat.le_of_ble_eq_true rfl)⟩) hP hD hS hA kFr_Mo (fun H locs hP hD hS br1 => ?_)
    refine lv_if_eq (tgt := 23) hx hb (kdr dgX3_length_0 1 0 rfl rfl) (by decide) (fun c2 => ?_) (fun c2 => ?_)
    · have h := g_t c2 h
      refine lv_iload_n hx hb (kdr dgX3_length_0 1 3 rfl rfl) rfl (lv_at hl 1 rfl) ?_
      refine lv_iconst (v := 2) hx hb (kdr dgX3_length_0 1 4 rfl rfl) (by decide) ?_
      refine lv_icmp_ge (tgt := 35) hx hb (kdr dgX3_length_0 1 5 rfl rfl) (by decide) (fun c3 => ?_) (fun c3 => ?_)
      · have h := g_t c3 h
        refine lv_iload_n hx hb (kdr dgX3_length_0 1 9 rfl rfl) rfl (lv_at hl 1 rfl) ?_
        refine lv_iconst (v := 4) hx hb (kdr dgX3_length_0 2 0 rfl rfl) (by decide) ?_
        refine lv_icmp_ge (tgt := 47) hx hb (kdr dgX3_length_0 2 1 rfl rfl) (by decide) (fun c4 => ?_) (fun c4 => ?_)
        · have h := g_t c4 h
          refine lv_aload_n hx hb (kdr dgX3_length_0 2 5 rfl rfl) rfl (lv_at hl 0 rfl) ?_
          refine va_get (D := (dC, dI)) (ci := 5) (v := .long mun) (C := RX3) (T := TX3) (N := 14) hx hb hts hiX3 hown hK hP 0 rfl rfl 2 (by decide) hw0 (fun _ h9 => h9) rfl (kdr dgX3_length_0 2 6 rfl rfl) ?_
          refine lv_aload_n hx hb (kdr dgX3_length_0 2 7 rfl rfl) rfl (lv_at hl 0 rfl) ?_
          refine va_get (D := (dC, dI)) (ci := 5) (v := .long mfr) (C := RX3) (T := TX3) (N := 14) hx hb hts hiX3 hown hK hP 0 rfl rfl 1 (by decide) hw1 (fun _ h9 => h9) rfl (kdr dgX3_length_0 2 8 rfl rfl) ?_
          refine lv_lsub hx hb (kdr dgX3_length_0 2 9 rfl rfl) ?_
          refine W.widen (k := 1) (n := 22) (Nat.le_of_ble_eq_true rfl) (Nat.le_of_ble_eq_true rfl) ?_
          exact J56 mce mfr mun mbe men mov msp mwb mwe mwi mac mre mkn r1.2 x1 (mun - mfr) _ _ hP hD hS ls (lv_sub hl [1] rfl) h
        · have h := g_f c4 h
          refine lv_aload_n hx hb (kdr dgX3_length_0 2 2 rfl rfl) rfl (lv_at hl 0 rfl) ?_
          obtain ⟨r5, g5, h⟩ := g_b h
          refine kq_l (wMo cJ cZ b mce mfr mun mbe men mov msp mwb mwe mwi mac mre mkn r1.2) (fun qP qD qF => va_runV (As := []) (rest := []) ⟨hx, hb, hml, hown, hts⟩ (c_X3_freeLength l dC dI cB cI cJ cZ b _ mce mfr mun mbe men mov msp mwb mwe mwi mac mre mkn r1.2  r5 g5) (kcwV hts kw_1383 kv_X3_freeLength rfl rfl ⟨(Nat.le_of_ble_eq_true rfl), (Nat.le_of_ble_eq_true rfl)⟩) (kpV (A := A) qP hK qD hG (krecv_5 (q0 := 0) hK hP rfl)) rfl rfl hl.1 rfl (lv_room (Nat.le_of_ble_eq_true rfl)) (kdr dgX3_length_0 2 3 rfl rfl) ⟨(Nat.le_of_ble_eq_true rfl), (Nat.le_of_ble_eq_true rfl)⟩) hP hD hS hA kFr_Mo (fun H locs hP hD hS => ?_)
          refine lv_goto (tgt := 56) hx hb (kdr dgX3_length_0 2 4 rfl rfl) (by decide) ?_
          exact J56 mce mfr mun mbe men mov msp mwb mwe mwi mac mre mkn r1.2 x1 r5 _ _ hP hD hS ls (lv_sub hl [1] rfl) h
      · have h := g_f c3 h
        refine lv_aload_n hx hb (kdr dgX3_length_0 1 6 rfl rfl) rfl (lv_at hl 0 rfl) ?_
        obtain ⟨r4, g4, h⟩ := g_b h
        refine kq_l (wMo cJ cZ b mce mfr mun mbe men mov msp mwb mwe mwi mac mre mkn r1.2) (fun qP qD qF => va_runV (As := []) (rest := []) ⟨hx, hb, hml, hown, hts⟩ (c_X3_takenLength l dC dI cB cI cJ cZ b _ mce mfr mun mbe men mov msp mwb mwe mwi mac mre mkn r1.2  r4 g4) (kcwV hts kw_1379 kv_X3_takenLength rfl rfl ⟨(Nat.le_of_ble_eq_true rfl), (Nat.le_of_ble_eq_true rfl)⟩) (kpV (A := A) qP hK qD hG (krecv_5 (q0 := 0) hK hP rfl)) rfl rfl hl.1 rfl (lv_room (Nat.le_of_ble_eq_true rfl)) (kdr dgX3_length_0 1 7 rfl rfl) ⟨(Nat.le_of_ble_eq_true rfl), (Nat.le_of_ble_eq_true rfl)⟩) hP hD hS hA kFr_Mo (fun H locs hP hD hS => ?_)
        refine lv_goto (tgt := 56) hx hb (kdr dgX3_length_0 1 8 rfl rfl) (by decide) ?_
        refine W.widen (k := 1) (n := 22) (Nat.le_of_ble_eq_true rfl) (Nat.le_of_ble_eq_true rfl) ?_
        exact J56 mce mfr mun mbe men mov msp mwb mwe mwi mac mre mkn r1.2 x1 r4 _ _ hP hD hS ls (lv_sub hl [1] rfl) h
    · have h := g_f c2 h
      refine lv_iconst (v := 0) hx hb (kdr dgX3_length_0 1 1 rfl rfl) (by decide) ?_
      have h := Option.some.inj h
      subst h
      refine W.widen (k := 1) (n := 22) (Nat.le_of_ble_eq_true rfl) (Nat.le_of_ble_eq_true rfl) ?_
      exact kret_i (v := 0) hx hb hr rfl hlocks hS hP (kdr dgX3_length_0 1 2 rfl rfl)
  have J10 : ∀ (mce : Nat → Int64) (mfr : Int64) (mun : Int64) (mbe : Nat → Int64) (men : Nat → Int64) (mov : Nat → Int32) (msp : Int32) (mwb : Nat → Int64) (mwe : Nat → Int64) (mwi : Int32) (mac : Int32) (mre : Int32) (mkn : Int32) (mth : Int32) (x1 : Int32) (H : Heap) (locs : List Loc), va_P (dC, dI) vwCl (wMo cJ cZ b mce mfr mun mbe men mov msp mwb mwe mwi mac mre mkn mth) H → va_D A (wMo cJ cZ b mce mfr mun mbe men mov msp mwb mwe mwi mac mre mkn mth) → va_S A s.heap H locs → ∀ (ls : Array Slot), lv_has ls 2 (kvA 0 (b 0) (kvI 1 x1 kvE)) → f_X3_length_10 mfr mun mbe men msp x1 = some res → W p l e (headSpec wsX3_length (kRm 3 1 22 73)).room s m ([.ref (b 0), .int p0] : List Value).toArray below meth c H locs 0 0 (MQ below (kI (dC, dI) .int (res.1) (wMo cJ cZ b mce mfr mun mbe men mov msp mwb mwe mwi mac mre mkn (res.2)) A) ([.ref (b 0), .int p0] : List Value).toArray s 1 22 A) (F0 m 10 ls [.ref (b 0)]) := by
    intro mce mfr mun mbe men mov msp mwb mwe mwi mac mre mkn mth x1 H locs hP hD hS ls hl h
    have h := f_X3_length_10_e.symm.trans h
    refine lv_iconst (v := 1) hx hb (kdr dgX3_length_0 0 6 rfl rfl) (by decide) ?_
    refine lv_goto (tgt := 15) hx hb (kdr dgX3_length_0 0 7 rfl rfl) (by decide) ?_
    exact J15 mce mfr mun mbe men mov msp mwb mwe mwi mac mre mkn mth x1 1 _ _ hP hD hS ls (lv_sub hl [0, 1] rfl) h
  have h := f_X3_length_e.symm.trans hf
  refine lv_aload_n hx hb (kdr dgX3_length_0 0 0 rfl rfl) rfl (lv_at hl 0 rfl) ?_
  refine lv_iload_n hx hb (kdr dgX3_length_0 0 1 rfl rfl) rfl (lv_at hl 1 rfl) ?_
  refine lv_if_lt (tgt := 10) hx hb (kdr dgX3_length_0 0 2 rfl rfl) (by decide) (fun c1 => ?_) (fun c1 => ?_)
  · have h := g_t c1 h
    exact J10 mce mfr mun mbe men mov msp mwb mwe mwi mac mre mkn mth p0 _ _ hP hD hS ls (lv_sub hl [0, 1] rfl) h
  · have h := g_f c1 h
    refine lv_iload_n hx hb (kdr dgX3_length_0 0 3 rfl rfl) rfl (lv_at hl 1 rfl) ?_
    refine lv_iconst (v := 5) hx hb (kdr dgX3_length_0 0 4 rfl rfl) (by decide) ?_
    refine lv_icmp_le (tgt := 14) hx hb (kdr dgX3_length_0 0 5 rfl rfl) (by decide) (fun c2 => ?_) (fun c2 => ?_)
    · have h := g_t c2 h
      refine lv_iconst (v := 0) hx hb (kdr dgX3_length_0 0 8 rfl rfl) (by decide) ?_
      exact J15 mce mfr mun mbe men mov msp mwb mwe mwi mac mre mkn mth p0 0 _ _ hP hD hS ls (lv_sub hl [0, 1] rfl) h
    · have h := g_f c2 h
      exact J10 mce mfr mun mbe men mov msp mwb mwe mwi mac mre mkn mth p0 _ _ hP hD hS ls (lv_sub hl [0, 1] rfl) h
noncomputable abbrev wsX3_wishes : List Cond := kWs yX3_wishes cX3_wishes 1 (some .int)
noncomputable def f_X3_wishes (mwi : Int32) : Option ((Int32) × (Int32)) :=
  some (mwi, 0)
theorem f_X3_wishes_e {mwi : Int32} : f_X3_wishes mwi = 
  some (mwi, 0) := rfl
set_option maxHeartbeats 4000000 in
set_option maxRecDepth 100000 in
theorem c_X3_wishes (l : Launch) (dC : Nat → ClassId) (dI : Nat → Nat → Nat) (cB cI cJ cZ : ClassId) (b : Nat → Nat) (sz : Nat) (mce : Nat → Int64) (mfr : Int64) (mun : Int64) (mbe : Nat → Int64) (men : Nat → Int64) (mov : Nat → Int32) (msp : Int32) (mwb : Nat → Int64) (mwe : Nat → Int64) (mwi : Int32) (mac : Int32) (mre : Int32) (mkn : Int32) (mth : Int32) (res : (Int32) × (Int32)) (hf : f_X3_wishes mwi = some res) : kMi l yX3_wishes wsX3_wishes (kRm 0 0 0 0) dC dI cB cI cJ cZ [.ref (b 0)] sz (wMo cJ cZ b mce mfr mun mbe men mov msp mwb mwe mwi mac mre mkn mth) .int (res.1) (wMo cJ cZ b mce mfr mun mbe men mov msp mwb mwe mwi mac mre mkn (res.2)) 0 0 := by
  refine kmet_i (y := yX3_wishes) (cc := cX3_wishes) (maxL := 1) (ret := (some .int)) RX3 (kvA 0 (b 0) kvE) kpl_X3 rfl rfl (Nat.le_of_ble_eq_true rfl) rfl (fun p e s m below meth c A ls hx hb hr hml hts hown hlocks hP hK hG hD hA hS hl => ?_)
  have hw0 := hts (.fieldLink RX3 35 "SpanbookerModel" "thrown" "I") (List.mem_cons_of_mem _ kw_1085)
  have hw1 := hts (.fieldLink RX3 88 "SpanbookerModel" "wishes" "I") (List.mem_cons_of_mem _ kw_1081)
  have hiX3 : ∀ w ∈ u_ws RX3 TX3 14, w ∈ wsX3_wishes := fun w h => List.mem_cons_of_mem _ (ku_X3 w h)
  have h := f_X3_wishes_e.symm.trans hf
  refine lv_aload_n hx hb (kdr dgX3_wishes_0 0 0 rfl rfl) rfl (lv_at hl 0 rfl) ?_
  refine lv_iconst (v := 0) hx hb (kdr dgX3_wishes_0 0 1 rfl rfl) (by decide) ?_
  refine va_put (D := (dC, dI)) (ci := 5) (v := .int 0) (ty := .int) (C := RX3) (T := TX3) (N := 14) hx hb hts hiX3 tyX3 tyX3_ok nmX3 hown hK hP hD hS 0 rfl rfl 13 (by decide) hw0 (fun _ h9 => h9) rfl (by decide +kernel) rfl rfl (Nat.le_of_ble_eq_true rfl) (kdr dgX3_wishes_0 0 2 rfl rfl) (fun H locs hP hD hS => ?_)
  have hP : va_P (dC, dI) vwCl (wMo cJ cZ b mce mfr mun mbe men mov msp mwb mwe mwi mac mre mkn 0) H := hP
  have hD : va_D A (wMo cJ cZ b mce mfr mun mbe men mov msp mwb mwe mwi mac mre mkn 0) := hD
  refine lv_aload_n hx hb (kdr dgX3_wishes_0 0 3 rfl rfl) rfl (lv_at hl 0 rfl) ?_
  refine va_get (D := (dC, dI)) (ci := 5) (v := .int mwi) (C := RX3) (T := TX3) (N := 14) hx hb hts hiX3 hown hK hP 0 rfl rfl 9 (by decide) hw1 (fun _ h9 => h9) rfl (kdr dgX3_wishes_0 0 4 rfl rfl) ?_
  have h := Option.some.inj h
  subst h
  exact kret_i (v := mwi) hx hb hr rfl hlocks hS hP (kdr dgX3_wishes_0 0 5 rfl rfl)
noncomputable abbrev wsX3_ofWish : List Cond := kWs yX3_ofWish cX3_ofWish 3 (some .int)
noncomputable def f_X3_ofWish_58 (mth : Int32) (x2 : Int32) (y0 : Int64) : Option ((Int32) × (Int32)) :=
  (f_X3_half y0 x2).bind fun r1 =>
  some (r1, mth)
theorem f_X3_ofWish_58_e {mth : Int32} {x2 : Int32} {y0 : Int64} : f_X3_ofWish_58 mth x2 y0 =
  (f_X3_half y0 x2).bind fun r1 =>
  some (r1, mth) := rfl
noncomputable def f_X3_ofWish_28 (mwb : Nat → Int64) (mwe : Nat → Int64) (x1 : Int32) (x2 : Int32) (y0 : Int32) (y1 : Int32) : Option ((Int32) × (Int32)) :=
  (f_X3_isThrown y1 y0).bind fun r1 =>
  if r1.1 = 0 then
    if 2 ≤ x2 then
      if ix x1 8 then
        f_X3_ofWish_58 r1.2 x2 (mwe x1.toNatClampNeg)
      else none
    else
      if ix x1 8 then
        f_X3_ofWish_58 r1.2 x2 (mwb x1.toNatClampNeg)
      else none
  else
    some (0, r1.2)
theorem f_X3_ofWish_28_e {mwb : Nat → Int64} {mwe : Nat → Int64} {x1 : Int32} {x2 : Int32} {y0 : Int32} {y1 : Int32} : f_X3_ofWish_28 mwb mwe x1 x2 y0 y1 =
  (f_X3_isThrown y1 y0).bind fun r1 =>
  if r1.1 = 0 then
    if 2 ≤ x2 then
      if ix x1 8 then
        f_X3_ofWish_58 r1.2 x2 (mwe x1.toNatClampNeg)
      else none
    else
      if ix x1 8 then
        f_X3_ofWish_58 r1.2 x2 (mwb x1.toNatClampNeg)
      else none
  else
    some (0, r1.2) := rfl
noncomputable def f_X3_ofWish_23 (mwb : Nat → Int64) (mwe : Nat → Int64) (x1 : Int32) (x2 : Int32) (y0 : Int32) : Option ((Int32) × (Int32)) :=
  f_X3_ofWish_28 mwb mwe x1 x2 1 y0
theorem f_X3_ofWish_23_e {mwb : Nat → Int64} {mwe : Nat → Int64} {x1 : Int32} {x2 : Int32} {y0 : Int32} : f_X3_ofWish_23 mwb mwe x1 x2 y0 =
  f_X3_ofWish_28 mwb mwe x1 x2 1 y0 := rfl
noncomputable def f_X3_ofWish_14 (mwb : Nat → Int64) (mwe : Nat → Int64) (x1 : Int32) (x2 : Int32) (y0 : Int32) : Option ((Int32) × (Int32)) :=
  if x2 < 0 then
    f_X3_ofWish_23 mwb mwe x1 x2 y0
  else
    if x2 ≤ 3 then
      f_X3_ofWish_28 mwb mwe x1 x2 0 y0
    else
      f_X3_ofWish_23 mwb mwe x1 x2 y0
theorem f_X3_ofWish_14_e {mwb : Nat → Int64} {mwe : Nat → Int64} {x1 : Int32} {x2 : Int32} {y0 : Int32} : f_X3_ofWish_14 mwb mwe x1 x2 y0 =
  if x2 < 0 then
    f_X3_ofWish_23 mwb mwe x1 x2 y0
  else
    if x2 ≤ 3 then
      f_X3_ofWish_28 mwb mwe x1 x2 0 y0
    else
      f_X3_ofWish_23 mwb mwe x1 x2 y0 := rfl
noncomputable def f_X3_ofWish (mwb : Nat → Int64) (mwe : Nat → Int64) (mwi : Int32) (p0 : Int32) (p1 : Int32) : Option ((Int32) × (Int32)) :=
  (f_X3_isWish mwi p0).bind fun r1 =>
  if r1 = 0 then
    f_X3_ofWish_14 mwb mwe p0 p1 1
  else
    f_X3_ofWish_14 mwb mwe p0 p1 0
theorem f_X3_ofWish_e {mwb : Nat → Int64} {mwe : Nat → Int64} {mwi : Int32} {p0 : Int32} {p1 : Int32} : f_X3_ofWish mwb mwe mwi p0 p1 = 
  (f_X3_isWish mwi p0).bind fun r1 =>
  if r1 = 0 then
    f_X3_ofWish_14 mwb mwe p0 p1 1
  else
    f_X3_ofWish_14 mwb mwe p0 p1 0 := rfl
set_option maxHeartbeats 4000000 in
set_option maxRecDepth 100000 in
theorem c_X3_ofWish (l : Launch) (dC : Nat → ClassId) (dI : Nat → Nat → Nat) (cB cI cJ cZ : ClassId) (b : Nat → Nat) (sz : Nat) (mce : Nat → Int64) (mfr : Int64) (mun : Int64) (mbe : Nat → Int64) (men : Nat → Int64) (mov : Nat → Int32) (msp : Int32) (mwb : Nat → Int64) (mwe : Nat → Int64) (mwi : Int32) (mac : Int32) (mre : Int32) (mkn : Int32) (mth : Int32) (p0 : Int32) (p1 : Int32) (res : (Int32) × (Int32)) (hf : f_X3_ofWish mwb mwe mwi p0 p1 = some res) : kMi l yX3_ofWish wsX3_ofWish (kRm 3 0 0 64) dC dI cB cI cJ cZ [.ref (b 0), .int p0, .int p1] sz (wMo cJ cZ b mce mfr mun mbe men mov msp mwb mwe mwi mac mre mkn mth) .int (res.1) (wMo cJ cZ b mce mfr mun mbe men mov msp mwb mwe mwi mac mre mkn (res.2)) 0 0 := by
  refine kmet_i (y := yX3_ofWish) (cc := cX3_ofWish) (maxL := 3) (ret := (some .int)) RX3 (kvA 0 (b 0) (kvI 1 p0 (kvI 2 p1 kvE))) kpl_X3 rfl rfl (Nat.le_of_ble_eq_true rfl) rfl (fun p e s m below meth c A ls hx hb hr hml hts hown hlocks hP hK hG hD hA hS hl => ?_)
  have hw0 := hts (.fieldLink RX3 32 "SpanbookerModel" "wishEnds" "[J") (List.mem_cons_of_mem _ kw_1080)
  have hw1 := hts (.fieldLink RX3 29 "SpanbookerModel" "wishBegins" "[J") (List.mem_cons_of_mem _ kw_1079)
  have hiX3 : ∀ w ∈ u_ws RX3 TX3 14, w ∈ wsX3_ofWish := fun w h => List.mem_cons_of_mem _ (ku_X3 w h)
  have J58 : ∀ (mce : Nat → Int64) (mfr : Int64) (mun : Int64) (mbe : Nat → Int64) (men : Nat → Int64) (mov : Nat → Int32) (msp : Int32) (mwb : Nat → Int64) (mwe : Nat → Int64) (mwi : Int32) (mac : Int32) (mre : Int32) (mkn : Int32) (mth : Int32) (x2 : Int32) (y0 : Int64) (H : Heap) (locs : List Loc), va_P (dC, dI) vwCl (wMo cJ cZ b mce mfr mun mbe men mov msp mwb mwe mwi mac mre mkn mth) H → va_D A (wMo cJ cZ b mce mfr mun mbe men mov msp mwb mwe mwi mac mre mkn mth) → va_S A s.heap H locs → ∀ (ls : Array Slot), lv_has ls 3 (kvI 2 x2 kvE) → f_X3_ofWish_58 mth x2 y0 = some res → W p l e (headSpec wsX3_ofWish (kRm 3 0 0 64)).room s m ([.ref (b 0), .int p0, .int p1] : List Value).toArray below meth c H locs 0 0 (MQ below (kI (dC, dI) .int (res.1) (wMo cJ cZ b mce mfr mun mbe men mov msp mwb mwe mwi mac mre mkn (res.2)) A) ([.ref (b 0), .int p0, .int p1] : List Value).toArray s 0 0 A) (F0 m 58 ls [.long y0]) := by
    intro mce mfr mun mbe men mov msp mwb mwe mwi mac mre mkn mth x2 y0 H locs hP hD hS ls hl h
    have h := f_X3_ofWish_58_e.symm.trans h
    refine lv_iload_n hx hb (kdr dgX3_ofWish_0 3 2 rfl rfl) rfl (lv_at hl 0 rfl) ?_
    obtain ⟨r1, g1, h⟩ := g_b h
    refine kq_i (wMo cJ cZ b mce mfr mun mbe men mov msp mwb mwe mwi mac mre mkn mth) (fun qP qD qF => va_runS (As := [.long y0, .int x2]) (rest := []) ⟨hx, hb, hml, hown, hts⟩ (c_X3_half l dC dI cB cI cJ cZ  _  y0 x2 r1 g1) (kcwS hts kw_1313 kv_X3_half rfl rfl ⟨(Nat.le_of_ble_eq_true rfl), (Nat.le_of_ble_eq_true rfl)⟩) (kpS (A := A) (kPnil) hK ((kDnil (A := A))) hG) rfl rfl hl.1 rfl (lv_room (Nat.le_of_ble_eq_true rfl)) (kdr dgX3_ofWish_0 3 3 rfl rfl) ⟨(Nat.le_of_ble_eq_true rfl), (Nat.le_of_ble_eq_true rfl)⟩) hP hD hS hA kFr_n (fun H locs hP hD hS br1 => ?_)
    have h := Option.some.inj h
    subst h
    exact kret_i (v := r1) hx hb hr rfl hlocks hS hP (kdr dgX3_ofWish_0 3 4 rfl rfl)
  have J28 : ∀ (mce : Nat → Int64) (mfr : Int64) (mun : Int64) (mbe : Nat → Int64) (men : Nat → Int64) (mov : Nat → Int32) (msp : Int32) (mwb : Nat → Int64) (mwe : Nat → Int64) (mwi : Int32) (mac : Int32) (mre : Int32) (mkn : Int32) (mth : Int32) (x1 : Int32) (x2 : Int32) (y0 : Int32) (y1 : Int32) (H : Heap) (locs : List Loc), va_P (dC, dI) vwCl (wMo cJ cZ b mce mfr mun mbe men mov msp mwb mwe mwi mac mre mkn mth) H → va_D A (wMo cJ cZ b mce mfr mun mbe men mov msp mwb mwe mwi mac mre mkn mth) → va_S A s.heap H locs → ∀ (ls : Array Slot), lv_has ls 3 (kvA 0 (b 0) (kvI 1 x1 (kvI 2 x2 kvE))) → f_X3_ofWish_28 mwb mwe x1 x2 y0 y1 = some res → W p l e (headSpec wsX3_ofWish (kRm 3 0 0 64)).room s m ([.ref (b 0), .int p0, .int p1] : List Value).toArray below meth c H locs 0 0 (MQ below (kI (dC, dI) .int (res.1) (wMo cJ cZ b mce mfr mun mbe men mov msp mwb mwe mwi mac mre mkn (res.2)) A) ([.ref (b 0), .int p0, .int p1] : List Value).toArray s 0 0 A) (F0 m 28 ls [.int y0, .int y1, .ref (b 0)]) := by
    intro mce mfr mun mbe men mov msp mwb mwe mwi mac mre mkn mth x1 x2 y0 y1 H locs hP hD hS ls hl h
    have h := f_X3_ofWish_28_e.symm.trans h
    obtain ⟨r1, g1, h⟩ := g_b h
    refine kq_i (wMo cJ cZ b mce mfr mun mbe men mov msp mwb mwe mwi mac mre mkn r1.2) (fun qP qD qF => va_runV (As := [.int y1, .int y0]) (rest := []) ⟨hx, hb, hml, hown, hts⟩ (c_X3_isThrown l dC dI cB cI cJ cZ b _ mce mfr mun mbe men mov msp mwb mwe mwi mac mre mkn mth y1 y0 r1 g1) (kcwV hts kw_1126 kv_X3_isThrown rfl rfl ⟨(Nat.le_of_ble_eq_true rfl), (Nat.le_of_ble_eq_true rfl)⟩) (kpV (A := A) qP hK qD hG (krecv_5 (q0 := 0) hK hP rfl)) rfl rfl hl.1 rfl (lv_room (Nat.le_of_ble_eq_true rfl)) (kdr dgX3_ofWish_0 1 6 rfl rfl) ⟨(Nat.le_of_ble_eq_true rfl), (Nat.le_of_ble_eq_true rfl)⟩) hP hD hS hA kFr_Mo (fun H locs hP hD hS br1 => ?_)
    refine lv_if_eq (tgt := 38) hx hb (kdr dgX3_ofWish_0 1 7 rfl rfl) (by decide) (fun c2 => ?_) (fun c2 => ?_)
    · have h := g_t c2 h
      refine lv_iload_n hx hb (kdr dgX3_ofWish_0 2 0 rfl rfl) rfl (lv_at hl 2 rfl) ?_
      refine lv_iconst (v := 2) hx hb (kdr dgX3_ofWish_0 2 1 rfl rfl) (by decide) ?_
      refine lv_icmp_ge (tgt := 52) hx hb (kdr dgX3_ofWish_0 2 2 rfl rfl) (by decide) (fun c3 => ?_) (fun c3 => ?_)
      · have h := g_t c3 h
        refine lv_aload_n hx hb (kdr dgX3_ofWish_0 2 8 rfl rfl) rfl (lv_at hl 0 rfl) ?_
        refine va_get (D := (dC, dI)) (ci := 5) (v := .ref (b 6)) (C := RX3) (T := TX3) (N := 14) hx hb hts hiX3 hown hK hP 0 rfl rfl 8 (by decide) hw0 (fun _ h9 => h9) rfl (kdr dgX3_ofWish_0 2 9 rfl rfl) ?_
        refine lv_iload_n hx hb (kdr dgX3_ofWish_0 3 0 rfl rfl) rfl (lv_at hl 1 rfl) ?_
        obtain ⟨z3, h⟩ := g_if h
        refine va_lald hx hb hK hP 6 2 rfl rfl (ix_in z3) (kdr dgX3_ofWish_0 3 1 rfl rfl) ?_
        exact J58 mce mfr mun mbe men mov msp mwb mwe mwi mac mre mkn r1.2 x2 (mwe x1.toNatClampNeg) _ _ hP hD hS ls (lv_sub hl [2] rfl) h
      · have h := g_f c3 h
        refine lv_aload_n hx hb (kdr dgX3_ofWish_0 2 3 rfl rfl) rfl (lv_at hl 0 rfl) ?_
        refine va_get (D := (dC, dI)) (ci := 5) (v := .ref (b 5)) (C := RX3) (T := TX3) (N := 14) hx hb hts hiX3 hown hK hP 0 rfl rfl 7 (by decide) hw1 (fun _ h9 => h9) rfl (kdr dgX3_ofWish_0 2 4 rfl rfl) ?_
        refine lv_iload_n hx hb (kdr dgX3_ofWish_0 2 5 rfl rfl) rfl (lv_at hl 1 rfl) ?_
        obtain ⟨z3, h⟩ := g_if h
        refine va_lald hx hb hK hP 5 2 rfl rfl (ix_in z3) (kdr dgX3_ofWish_0 2 6 rfl rfl) ?_
        refine lv_goto (tgt := 58) hx hb (kdr dgX3_ofWish_0 2 7 rfl rfl) (by decide) ?_
        exact J58 mce mfr mun mbe men mov msp mwb mwe mwi mac mre mkn r1.2 x2 (mwb x1.toNatClampNeg) _ _ hP hD hS ls (lv_sub hl [2] rfl) h
    · have h := g_f c2 h
      refine lv_iconst (v := 0) hx hb (kdr dgX3_ofWish_0 1 8 rfl rfl) (by decide) ?_
      refine lv_goto (tgt := 62) hx hb (kdr dgX3_ofWish_0 1 9 rfl rfl) (by decide) ?_
      have h := Option.some.inj h
      subst h
      exact kret_i (v := 0) hx hb hr rfl hlocks hS hP (kdr dgX3_ofWish_0 3 4 rfl rfl)
  have J23 : ∀ (mce : Nat → Int64) (mfr : Int64) (mun : Int64) (mbe : Nat → Int64) (men : Nat → Int64) (mov : Nat → Int32) (msp : Int32) (mwb : Nat → Int64) (mwe : Nat → Int64) (mwi : Int32) (mac : Int32) (mre : Int32) (mkn : Int32) (mth : Int32) (x1 : Int32) (x2 : Int32) (y0 : Int32) (H : Heap) (locs : List Loc), va_P (dC, dI) vwCl (wMo cJ cZ b mce mfr mun mbe men mov msp mwb mwe mwi mac mre mkn mth) H → va_D A (wMo cJ cZ b mce mfr mun mbe men mov msp mwb mwe mwi mac mre mkn mth) → va_S A s.heap H locs → ∀ (ls : Array Slot), lv_has ls 3 (kvA 0 (b 0) (kvI 1 x1 (kvI 2 x2 kvE))) → f_X3_ofWish_23 mwb mwe x1 x2 y0 = some res → W p l e (headSpec wsX3_ofWish (kRm 3 0 0 64)).room s m ([.ref (b 0), .int p0, .int p1] : List Value).toArray below meth c H locs 0 0 (MQ below (kI (dC, dI) .int (res.1) (wMo cJ cZ b mce mfr mun mbe men mov msp mwb mwe mwi mac mre mkn (res.2)) A) ([.ref (b 0), .int p0, .int p1] : List Value).toArray s 0 0 A) (F0 m 23 ls [.int y0, .ref (b 0)]) := by
    intro mce mfr mun mbe men mov msp mwb mwe mwi mac mre mkn mth x1 x2 y0 H locs hP hD hS ls hl h
    have h := f_X3_ofWish_23_e.symm.trans h
    refine lv_iconst (v := 1) hx hb (kdr dgX3_ofWish_0 1 3 rfl rfl) (by decide) ?_
    refine lv_goto (tgt := 28) hx hb (kdr dgX3_ofWish_0 1 4 rfl rfl) (by decide) ?_
    exact J28 mce mfr mun mbe men mov msp mwb mwe mwi mac mre mkn mth x1 x2 1 y0 _ _ hP hD hS ls (lv_sub hl [0, 1, 2] rfl) h
  have J14 : ∀ (mce : Nat → Int64) (mfr : Int64) (mun : Int64) (mbe : Nat → Int64) (men : Nat → Int64) (mov : Nat → Int32) (msp : Int32) (mwb : Nat → Int64) (mwe : Nat → Int64) (mwi : Int32) (mac : Int32) (mre : Int32) (mkn : Int32) (mth : Int32) (x1 : Int32) (x2 : Int32) (y0 : Int32) (H : Heap) (locs : List Loc), va_P (dC, dI) vwCl (wMo cJ cZ b mce mfr mun mbe men mov msp mwb mwe mwi mac mre mkn mth) H → va_D A (wMo cJ cZ b mce mfr mun mbe men mov msp mwb mwe mwi mac mre mkn mth) → va_S A s.heap H locs → ∀ (ls : Array Slot), lv_has ls 3 (kvA 0 (b 0) (kvI 1 x1 (kvI 2 x2 kvE))) → f_X3_ofWish_14 mwb mwe x1 x2 y0 = some res → W p l e (headSpec wsX3_ofWish (kRm 3 0 0 64)).room s m ([.ref (b 0), .int p0, .int p1] : List Value).toArray below meth c H locs 0 0 (MQ below (kI (dC, dI) .int (res.1) (wMo cJ cZ b mce mfr mun mbe men mov msp mwb mwe mwi mac mre mkn (res.2)) A) ([.ref (b 0), .int p0, .int p1] : List Value).toArray s 0 0 A) (F0 m 14 ls [.int y0, .ref (b 0)]) := by
    intro mce mfr mun mbe men mov msp mwb mwe mwi mac mre mkn mth x1 x2 y0 H locs hP hD hS ls hl h
    have h := f_X3_ofWish_14_e.symm.trans h
    refine lv_iload_n hx hb (kdr dgX3_ofWish_0 0 8 rfl rfl) rfl (lv_at hl 2 rfl) ?_
    refine lv_if_lt (tgt := 23) hx hb (kdr dgX3_ofWish_0 0 9 rfl rfl) (by decide) (fun c1 => ?_) (fun c1 => ?_)
    · have h := g_t c1 h
      exact J23 mce mfr mun mbe men mov msp mwb mwe mwi mac mre mkn mth x1 x2 y0 _ _ hP hD hS ls (lv_sub hl [0, 1, 2] rfl) h
    · have h := g_f c1 h
      refine lv_iload_n hx hb (kdr dgX3_ofWish_0 1 0 rfl rfl) rfl (lv_at hl 2 rfl) ?_
      refine lv_iconst (v := 3) hx hb (kdr dgX3_ofWish_0 1 1 rfl rfl) (by decide) ?_
      refine lv_icmp_le (tgt := 27) hx hb (kdr dgX3_ofWish_0 1 2 rfl rfl) (by decide) (fun c2 => ?_) (fun c2 => ?_)
      · have h := g_t c2 h
        refine lv_iconst (v := 0) hx hb (kdr dgX3_ofWish_0 1 5 rfl rfl) (by decide) ?_
        exact J28 mce mfr mun mbe men mov msp mwb mwe mwi mac mre mkn mth x1 x2 0 y0 _ _ hP hD hS ls (lv_sub hl [0, 1, 2] rfl) h
      · have h := g_f c2 h
        exact J23 mce mfr mun mbe men mov msp mwb mwe mwi mac mre mkn mth x1 x2 y0 _ _ hP hD hS ls (lv_sub hl [0, 1, 2] rfl) h
  have h := f_X3_ofWish_e.symm.trans hf
  refine lv_aload_n hx hb (kdr dgX3_ofWish_0 0 0 rfl rfl) rfl (lv_at hl 0 rfl) ?_
  refine lv_aload_n hx hb (kdr dgX3_ofWish_0 0 1 rfl rfl) rfl (lv_at hl 0 rfl) ?_
  refine lv_iload_n hx hb (kdr dgX3_ofWish_0 0 2 rfl rfl) rfl (lv_at hl 1 rfl) ?_
  obtain ⟨r1, g1, h⟩ := g_b h
  refine kq_i (wMo cJ cZ b mce mfr mun mbe men mov msp mwb mwe mwi mac mre mkn mth) (fun qP qD qF => va_runV (As := [.int p0]) (rest := [.ref (b 0)]) ⟨hx, hb, hml, hown, hts⟩ (c_X3_isWish l dC dI cB cI cJ cZ b _ mce mfr mun mbe men mov msp mwb mwe mwi mac mre mkn mth p0 r1 g1) (kcwV hts kw_1255 kv_X3_isWish rfl rfl ⟨(Nat.le_of_ble_eq_true rfl), (Nat.le_of_ble_eq_true rfl)⟩) (kpV (A := A) qP hK qD hG (krecv_5 (q0 := 0) hK hP rfl)) rfl rfl hl.1 rfl (lv_room (Nat.le_of_ble_eq_true rfl)) (kdr dgX3_ofWish_0 0 3 rfl rfl) ⟨(Nat.le_of_ble_eq_true rfl), (Nat.le_of_ble_eq_true rfl)⟩) hP hD hS hA kFr_Mo (fun H locs hP hD hS br1 => ?_)
  refine lv_if_ne (tgt := 13) hx hb (kdr dgX3_ofWish_0 0 4 rfl rfl) (by decide) (fun c2 => ?_) (fun c2 => ?_)
  · have h := g_f c2 h
    refine lv_iconst (v := 0) hx hb (kdr dgX3_ofWish_0 0 7 rfl rfl) (by decide) ?_
    exact J14 mce mfr mun mbe men mov msp mwb mwe mwi mac mre mkn mth p0 p1 0 _ _ hP hD hS ls (lv_sub hl [0, 1, 2] rfl) h
  · have h := g_t c2 h
    refine lv_iconst (v := 1) hx hb (kdr dgX3_ofWish_0 0 5 rfl rfl) (by decide) ?_
    refine lv_goto (tgt := 14) hx hb (kdr dgX3_ofWish_0 0 6 rfl rfl) (by decide) ?_
    exact J14 mce mfr mun mbe men mov msp mwb mwe mwi mac mre mkn mth p0 p1 1 _ _ hP hD hS ls (lv_sub hl [0, 1, 2] rfl) h
noncomputable abbrev wsX3_isApart : List Cond := kWs yX3_isApart cX3_isApart 2 (some .boolean)
noncomputable def f_X3_isApart_19 (mwb : Nat → Int64) (mwe : Nat → Int64) (mwi : Int32) (x1 : Int32) (y0 : Int32) : Option ((Int32) × (Int32)) :=
  (f_X3_isThrown_ y0).bind fun r1 =>
  if r1.1 = 0 then
    (f_X3_areApart mwb mwe mwi x1).bind fun r3 =>
    if r3 = 0 then
      some (0, r1.2)
    else
      some (1, r1.2)
  else
    some (0, r1.2)
theorem f_X3_isApart_19_e {mwb : Nat → Int64} {mwe : Nat → Int64} {mwi : Int32} {x1 : Int32} {y0 : Int32} : f_X3_isApart_19 mwb mwe mwi x1 y0 =
  (f_X3_isThrown_ y0).bind fun r1 =>
  if r1.1 = 0 then
    (f_X3_areApart mwb mwe mwi x1).bind fun r3 =>
    if r3 = 0 then
      some (0, r1.2)
    else
      some (1, r1.2)
  else
    some (0, r1.2) := rfl
noncomputable def f_X3_isApart_14 (mwb : Nat → Int64) (mwe : Nat → Int64) (mwi : Int32) (x1 : Int32) : Option ((Int32) × (Int32)) :=
  f_X3_isApart_19 mwb mwe mwi x1 1
theorem f_X3_isApart_14_e {mwb : Nat → Int64} {mwe : Nat → Int64} {mwi : Int32} {x1 : Int32} : f_X3_isApart_14 mwb mwe mwi x1 =
  f_X3_isApart_19 mwb mwe mwi x1 1 := rfl
noncomputable def f_X3_isApart (mwb : Nat → Int64) (mwe : Nat → Int64) (mwi : Int32) (p0 : Int32) : Option ((Int32) × (Int32)) :=
  if p0 < 0 then
    f_X3_isApart_14 mwb mwe mwi p0
  else
    if (p0 >>> (mwi &&& 31)) ≤ 0 then
      f_X3_isApart_19 mwb mwe mwi p0 0
    else
      f_X3_isApart_14 mwb mwe mwi p0
theorem f_X3_isApart_e {mwb : Nat → Int64} {mwe : Nat → Int64} {mwi : Int32} {p0 : Int32} : f_X3_isApart mwb mwe mwi p0 = 
  if p0 < 0 then
    f_X3_isApart_14 mwb mwe mwi p0
  else
    if (p0 >>> (mwi &&& 31)) ≤ 0 then
      f_X3_isApart_19 mwb mwe mwi p0 0
    else
      f_X3_isApart_14 mwb mwe mwi p0 := rfl
set_option maxHeartbeats 4000000 in
set_option maxRecDepth 100000 in
theorem c_X3_isApart (l : Launch) (dC : Nat → ClassId) (dI : Nat → Nat → Nat) (cB cI cJ cZ : ClassId) (b : Nat → Nat) (sz : Nat) (mce : Nat → Int64) (mfr : Int64) (mun : Int64) (mbe : Nat → Int64) (men : Nat → Int64) (mov : Nat → Int32) (msp : Int32) (mwb : Nat → Int64) (mwe : Nat → Int64) (mwi : Int32) (mac : Int32) (mre : Int32) (mkn : Int32) (mth : Int32) (p0 : Int32) (res : (Int32) × (Int32)) (hf : f_X3_isApart mwb mwe mwi p0 = some res) : kMi l yX3_isApart wsX3_isApart (kRm 3 0 0 72) dC dI cB cI cJ cZ [.ref (b 0), .int p0] sz (wMo cJ cZ b mce mfr mun mbe men mov msp mwb mwe mwi mac mre mkn mth) .boolean (res.1) (wMo cJ cZ b mce mfr mun mbe men mov msp mwb mwe mwi mac mre mkn (res.2)) 0 0 := by
  refine kmet_i (y := yX3_isApart) (cc := cX3_isApart) (maxL := 2) (ret := (some .boolean)) RX3 (kvA 0 (b 0) (kvI 1 p0 kvE)) kpl_X3 rfl rfl (Nat.le_of_ble_eq_true rfl) rfl (fun p e s m below meth c A ls hx hb hr hml hts hown hlocks hP hK hG hD hA hS hl => ?_)
  have hw0 := hts (.fieldLink RX3 88 "SpanbookerModel" "wishes" "I") (List.mem_cons_of_mem _ kw_1081)
  have hiX3 : ∀ w ∈ u_ws RX3 TX3 14, w ∈ wsX3_isApart := fun w h => List.mem_cons_of_mem _ (ku_X3 w h)
  have J19 : ∀ (mce : Nat → Int64) (mfr : Int64) (mun : Int64) (mbe : Nat → Int64) (men : Nat → Int64) (mov : Nat → Int32) (msp : Int32) (mwb : Nat → Int64) (mwe : Nat → Int64) (mwi : Int32) (mac : Int32) (mre : Int32) (mkn : Int32) (mth : Int32) (x1 : Int32) (y0 : Int32) (H : Heap) (locs : List Loc), va_P (dC, dI) vwCl (wMo cJ cZ b mce mfr mun mbe men mov msp mwb mwe mwi mac mre mkn mth) H → va_D A (wMo cJ cZ b mce mfr mun mbe men mov msp mwb mwe mwi mac mre mkn mth) → va_S A s.heap H locs → ∀ (ls : Array Slot), lv_has ls 2 (kvA 0 (b 0) (kvI 1 x1 kvE)) → f_X3_isApart_19 mwb mwe mwi x1 y0 = some res → W p l e (headSpec wsX3_isApart (kRm 3 0 0 72)).room s m ([.ref (b 0), .int p0] : List Value).toArray below meth c H locs 0 0 (MQ below (kI (dC, dI) .boolean (res.1) (wMo cJ cZ b mce mfr mun mbe men mov msp mwb mwe mwi mac mre mkn (res.2)) A) ([.ref (b 0), .int p0] : List Value).toArray s 0 0 A) (F0 m 19 ls [.int y0, .ref (b 0)]) := by
    intro mce mfr mun mbe men mov msp mwb mwe mwi mac mre mkn mth x1 y0 H locs hP hD hS ls hl h
    have h := f_X3_isApart_19_e.symm.trans h
    obtain ⟨r1, g1, h⟩ := g_b h
    refine kq_i (wMo cJ cZ b mce mfr mun mbe men mov msp mwb mwe mwi mac mre mkn r1.2) (fun qP qD qF => va_runV (As := [.int y0]) (rest := []) ⟨hx, hb, hml, hown, hts⟩ (c_X3_isThrown_ l dC dI cB cI cJ cZ b _ mce mfr mun mbe men mov msp mwb mwe mwi mac mre mkn mth y0 r1 g1) (kcwV hts kw_1166 kv_X3_isThrown_ rfl rfl ⟨(Nat.le_of_ble_eq_true rfl), (Nat.le_of_ble_eq_true rfl)⟩) (kpV (A := A) qP hK qD hG (krecv_5 (q0 := 0) hK hP rfl)) rfl rfl hl.1 rfl (lv_room (Nat.le_of_ble_eq_true rfl)) (kdr dgX3_isApart_0 1 1 rfl rfl) ⟨(Nat.le_of_ble_eq_true rfl), (Nat.le_of_ble_eq_true rfl)⟩) hP hD hS hA kFr_Mo (fun H locs hP hD hS br1 => ?_)
    refine lv_if_ne (tgt := 37) hx hb (kdr dgX3_isApart_0 1 2 rfl rfl) (by decide) (fun c2 => ?_) (fun c2 => ?_)
    · have h := g_f c2 h
      refine lv_iconst (v := 0) hx hb (kdr dgX3_isApart_0 1 9 rfl rfl) (by decide) ?_
      have h := Option.some.inj h
      subst h
      exact kret_i (v := 0) hx hb hr rfl hlocks hS hP (kdr dgX3_isApart_0 2 0 rfl rfl)
    · have h := g_t c2 h
      refine lv_aload_n hx hb (kdr dgX3_isApart_0 1 3 rfl rfl) rfl (lv_at hl 0 rfl) ?_
      refine lv_iload_n hx hb (kdr dgX3_isApart_0 1 4 rfl rfl) rfl (lv_at hl 1 rfl) ?_
      obtain ⟨r3, g3, h⟩ := g_b h
      refine kq_i (wMo cJ cZ b mce mfr mun mbe men mov msp mwb mwe mwi mac mre mkn r1.2) (fun qP qD qF => va_runV (As := [.int x1]) (rest := []) ⟨hx, hb, hml, hown, hts⟩ (c_X3_areApart l dC dI cB cI cJ cZ b _ mce mfr mun mbe men mov msp mwb mwe mwi mac mre mkn r1.2 x1 r3 g3) (kcwV hts kw_1399 kv_X3_areApart rfl rfl ⟨(Nat.le_of_ble_eq_true rfl), (Nat.le_of_ble_eq_true rfl)⟩) (kpV (A := A) qP hK qD hG (krecv_5 (q0 := 0) hK hP rfl)) rfl rfl hl.1 rfl (lv_room (Nat.le_of_ble_eq_true rfl)) (kdr dgX3_isApart_0 1 5 rfl rfl) ⟨(Nat.le_of_ble_eq_true rfl), (Nat.le_of_ble_eq_true rfl)⟩) hP hD hS hA kFr_Mo (fun H locs hP hD hS br3 => ?_)
      refine lv_if_eq (tgt := 37) hx hb (kdr dgX3_isApart_0 1 6 rfl rfl) (by decide) (fun c4 => ?_) (fun c4 => ?_)
      · have h := g_t c4 h
        refine lv_iconst (v := 0) hx hb (kdr dgX3_isApart_0 1 9 rfl rfl) (by decide) ?_
        have h := Option.some.inj h
        subst h
        exact kret_i (v := 0) hx hb hr rfl hlocks hS hP (kdr dgX3_isApart_0 2 0 rfl rfl)
      · have h := g_f c4 h
        refine lv_iconst (v := 1) hx hb (kdr dgX3_isApart_0 1 7 rfl rfl) (by decide) ?_
        refine lv_goto (tgt := 38) hx hb (kdr dgX3_isApart_0 1 8 rfl rfl) (by decide) ?_
        have h := Option.some.inj h
        subst h
        exact kret_i (v := 1) hx hb hr rfl hlocks hS hP (kdr dgX3_isApart_0 2 0 rfl rfl)
  have J14 : ∀ (mce : Nat → Int64) (mfr : Int64) (mun : Int64) (mbe : Nat → Int64) (men : Nat → Int64) (mov : Nat → Int32) (msp : Int32) (mwb : Nat → Int64) (mwe : Nat → Int64) (mwi : Int32) (mac : Int32) (mre : Int32) (mkn : Int32) (mth : Int32) (x1 : Int32) (H : Heap) (locs : List Loc), va_P (dC, dI) vwCl (wMo cJ cZ b mce mfr mun mbe men mov msp mwb mwe mwi mac mre mkn mth) H → va_D A (wMo cJ cZ b mce mfr mun mbe men mov msp mwb mwe mwi mac mre mkn mth) → va_S A s.heap H locs → ∀ (ls : Array Slot), lv_has ls 2 (kvA 0 (b 0) (kvI 1 x1 kvE)) → f_X3_isApart_14 mwb mwe mwi x1 = some res → W p l e (headSpec wsX3_isApart (kRm 3 0 0 72)).room s m ([.ref (b 0), .int p0] : List Value).toArray below meth c H locs 0 0 (MQ below (kI (dC, dI) .boolean (res.1) (wMo cJ cZ b mce mfr mun mbe men mov msp mwb mwe mwi mac mre mkn (res.2)) A) ([.ref (b 0), .int p0] : List Value).toArray s 0 0 A) (F0 m 14 ls [.ref (b 0)]) := by
    intro mce mfr mun mbe men mov msp mwb mwe mwi mac mre mkn mth x1 H locs hP hD hS ls hl h
    have h := f_X3_isApart_14_e.symm.trans h
    refine lv_iconst (v := 1) hx hb (kdr dgX3_isApart_0 0 8 rfl rfl) (by decide) ?_
    refine lv_goto (tgt := 19) hx hb (kdr dgX3_isApart_0 0 9 rfl rfl) (by decide) ?_
    exact J19 mce mfr mun mbe men mov msp mwb mwe mwi mac mre mkn mth x1 1 _ _ hP hD hS ls (lv_sub hl [0, 1] rfl) h
  have h := f_X3_isApart_e.symm.trans hf
  refine lv_aload_n hx hb (kdr dgX3_isApart_0 0 0 rfl rfl) rfl (lv_at hl 0 rfl) ?_
  refine lv_iload_n hx hb (kdr dgX3_isApart_0 0 1 rfl rfl) rfl (lv_at hl 1 rfl) ?_
  refine lv_if_lt (tgt := 14) hx hb (kdr dgX3_isApart_0 0 2 rfl rfl) (by decide) (fun c1 => ?_) (fun c1 => ?_)
  · have h := g_t c1 h
    exact J14 mce mfr mun mbe men mov msp mwb mwe mwi mac mre mkn mth p0 _ _ hP hD hS ls (lv_sub hl [0, 1] rfl) h
  · have h := g_f c1 h
    refine lv_iload_n hx hb (kdr dgX3_isApart_0 0 3 rfl rfl) rfl (lv_at hl 1 rfl) ?_
    refine lv_aload_n hx hb (kdr dgX3_isApart_0 0 4 rfl rfl) rfl (lv_at hl 0 rfl) ?_
    refine va_get (D := (dC, dI)) (ci := 5) (v := .int mwi) (C := RX3) (T := TX3) (N := 14) hx hb hts hiX3 hown hK hP 0 rfl rfl 9 (by decide) hw0 (fun _ h9 => h9) rfl (kdr dgX3_isApart_0 0 5 rfl rfl) ?_
    refine lv_ishr hx hb (kdr dgX3_isApart_0 0 6 rfl rfl) ?_
    refine lv_if_le (tgt := 18) hx hb (kdr dgX3_isApart_0 0 7 rfl rfl) (by decide) (fun c2 => ?_) (fun c2 => ?_)
    · have h := g_t c2 h
      refine lv_iconst (v := 0) hx hb (kdr dgX3_isApart_0 1 0 rfl rfl) (by decide) ?_
      exact J19 mce mfr mun mbe men mov msp mwb mwe mwi mac mre mkn mth p0 0 _ _ hP hD hS ls (lv_sub hl [0, 1] rfl) h
    · have h := g_f c2 h
      exact J14 mce mfr mun mbe men mov msp mwb mwe mwi mac mre mkn mth p0 _ _ hP hD hS ls (lv_sub hl [0, 1] rfl) h
noncomputable abbrev wsX3_chosen : List Cond := kWs yX3_chosen cX3_chosen 1 (some .int)
noncomputable def f_X3_chosen (mwb : Nat → Int64) (mwe : Nat → Int64) (mwi : Int32) : Option ((Int32) × (Int32)) :=
  (f_X3_chosenNow mwb mwe mwi).bind fun r1 =>
  some (r1, 0)
theorem f_X3_chosen_e {mwb : Nat → Int64} {mwe : Nat → Int64} {mwi : Int32} : f_X3_chosen mwb mwe mwi = 
  (f_X3_chosenNow mwb mwe mwi).bind fun r1 =>
  some (r1, 0) := rfl
set_option maxHeartbeats 4000000 in
set_option maxRecDepth 100000 in
theorem c_X3_chosen (l : Launch) (dC : Nat → ClassId) (dI : Nat → Nat → Nat) (cB cI cJ cZ : ClassId) (b : Nat → Nat) (sz : Nat) (mce : Nat → Int64) (mfr : Int64) (mun : Int64) (mbe : Nat → Int64) (men : Nat → Int64) (mov : Nat → Int32) (msp : Int32) (mwb : Nat → Int64) (mwe : Nat → Int64) (mwi : Int32) (mac : Int32) (mre : Int32) (mkn : Int32) (mth : Int32) (res : (Int32) × (Int32)) (hf : f_X3_chosen mwb mwe mwi = some res) : kMi l yX3_chosen wsX3_chosen (kRm 4 0 0 95) dC dI cB cI cJ cZ [.ref (b 0)] sz (wMo cJ cZ b mce mfr mun mbe men mov msp mwb mwe mwi mac mre mkn mth) .int (res.1) (wMo cJ cZ b mce mfr mun mbe men mov msp mwb mwe mwi mac mre mkn (res.2)) 0 0 := by
  refine kmet_i (y := yX3_chosen) (cc := cX3_chosen) (maxL := 1) (ret := (some .int)) RX3 (kvA 0 (b 0) kvE) kpl_X3 rfl rfl (Nat.le_of_ble_eq_true rfl) rfl (fun p e s m below meth c A ls hx hb hr hml hts hown hlocks hP hK hG hD hA hS hl => ?_)
  have hw0 := hts (.fieldLink RX3 35 "SpanbookerModel" "thrown" "I") (List.mem_cons_of_mem _ kw_1085)
  have hiX3 : ∀ w ∈ u_ws RX3 TX3 14, w ∈ wsX3_chosen := fun w h => List.mem_cons_of_mem _ (ku_X3 w h)
  have h := f_X3_chosen_e.symm.trans hf
  refine lv_aload_n hx hb (kdr dgX3_chosen_0 0 0 rfl rfl) rfl (lv_at hl 0 rfl) ?_
  refine lv_iconst (v := 0) hx hb (kdr dgX3_chosen_0 0 1 rfl rfl) (by decide) ?_
  refine va_put (D := (dC, dI)) (ci := 5) (v := .int 0) (ty := .int) (C := RX3) (T := TX3) (N := 14) hx hb hts hiX3 tyX3 tyX3_ok nmX3 hown hK hP hD hS 0 rfl rfl 13 (by decide) hw0 (fun _ h9 => h9) rfl (by decide +kernel) rfl rfl (Nat.le_of_ble_eq_true rfl) (kdr dgX3_chosen_0 0 2 rfl rfl) (fun H locs hP hD hS => ?_)
  have hP : va_P (dC, dI) vwCl (wMo cJ cZ b mce mfr mun mbe men mov msp mwb mwe mwi mac mre mkn 0) H := hP
  have hD : va_D A (wMo cJ cZ b mce mfr mun mbe men mov msp mwb mwe mwi mac mre mkn 0) := hD
  refine lv_aload_n hx hb (kdr dgX3_chosen_0 0 3 rfl rfl) rfl (lv_at hl 0 rfl) ?_
  obtain ⟨r1, g1, h⟩ := g_b h
  refine kq_i (wMo cJ cZ b mce mfr mun mbe men mov msp mwb mwe mwi mac mre mkn 0) (fun qP qD qF => va_runV (As := []) (rest := []) ⟨hx, hb, hml, hown, hts⟩ (c_X3_chosenNow l dC dI cB cI cJ cZ b _ mce mfr mun mbe men mov msp mwb mwe mwi mac mre mkn 0  r1 g1) (kcwV hts kw_1411 kv_X3_chosenNow rfl rfl ⟨(Nat.le_of_ble_eq_true rfl), (Nat.le_of_ble_eq_true rfl)⟩) (kpV (A := A) qP hK qD hG (krecv_5 (q0 := 0) hK hP rfl)) rfl rfl hl.1 rfl (lv_room (Nat.le_of_ble_eq_true rfl)) (kdr dgX3_chosen_0 0 4 rfl rfl) ⟨(Nat.le_of_ble_eq_true rfl), (Nat.le_of_ble_eq_true rfl)⟩) hP hD hS hA kFr_Mo (fun H locs hP hD hS br1 => ?_)
  have h := Option.some.inj h
  subst h
  exact kret_i (v := r1) hx hb hr rfl hlocks hS hP (kdr dgX3_chosen_0 0 5 rfl rfl)
noncomputable abbrev wsX3_most : List Cond := kWs yX3_most cX3_most 2 (some .int)
noncomputable def f_X3_most_15 (mwb : Nat → Int64) (mwe : Nat → Int64) (mwi : Int32) (x1 : Int32) (y0 : Int32) : Option ((Int32) × (Int32)) :=
  (f_X3_isThrown_ y0).bind fun r1 =>
  if r1.1 = 0 then
    if x1 = 0 then
      (f_X3_chosenNow mwb mwe mwi).bind fun r4 =>
      (f_X3_ones r4).bind fun r5 =>
      some (r5, r1.2)
    else
      (f_X3_mostOfAll mwb mwe mwi).bind fun r4 =>
      some (r4, r1.2)
  else
    some (0, r1.2)
theorem f_X3_most_15_e {mwb : Nat → Int64} {mwe : Nat → Int64} {mwi : Int32} {x1 : Int32} {y0 : Int32} : f_X3_most_15 mwb mwe mwi x1 y0 =
  (f_X3_isThrown_ y0).bind fun r1 =>
  if r1.1 = 0 then
    if x1 = 0 then
      (f_X3_chosenNow mwb mwe mwi).bind fun r4 =>
      (f_X3_ones r4).bind fun r5 =>
      some (r5, r1.2)
    else
      (f_X3_mostOfAll mwb mwe mwi).bind fun r4 =>
      some (r4, r1.2)
  else
    some (0, r1.2) := rfl
noncomputable def f_X3_most_10 (mwb : Nat → Int64) (mwe : Nat → Int64) (mwi : Int32) (x1 : Int32) : Option ((Int32) × (Int32)) :=
  f_X3_most_15 mwb mwe mwi x1 1
theorem f_X3_most_10_e {mwb : Nat → Int64} {mwe : Nat → Int64} {mwi : Int32} {x1 : Int32} : f_X3_most_10 mwb mwe mwi x1 =
  f_X3_most_15 mwb mwe mwi x1 1 := rfl
noncomputable def f_X3_most (mwb : Nat → Int64) (mwe : Nat → Int64) (mwi : Int32) (p0 : Int32) : Option ((Int32) × (Int32)) :=
  if p0 < 0 then
    f_X3_most_10 mwb mwe mwi p0
  else
    if p0 ≤ 1 then
      f_X3_most_15 mwb mwe mwi p0 0
    else
      f_X3_most_10 mwb mwe mwi p0
theorem f_X3_most_e {mwb : Nat → Int64} {mwe : Nat → Int64} {mwi : Int32} {p0 : Int32} : f_X3_most mwb mwe mwi p0 = 
  if p0 < 0 then
    f_X3_most_10 mwb mwe mwi p0
  else
    if p0 ≤ 1 then
      f_X3_most_15 mwb mwe mwi p0 0
    else
      f_X3_most_10 mwb mwe mwi p0 := rfl
set_option maxHeartbeats 4000000 in
set_option maxRecDepth 100000 in
theorem c_X3_most (l : Launch) (dC : Nat → ClassId) (dI : Nat → Nat → Nat) (cB cI cJ cZ : ClassId) (b : Nat → Nat) (sz : Nat) (mce : Nat → Int64) (mfr : Int64) (mun : Int64) (mbe : Nat → Int64) (men : Nat → Int64) (mov : Nat → Int32) (msp : Int32) (mwb : Nat → Int64) (mwe : Nat → Int64) (mwi : Int32) (mac : Int32) (mre : Int32) (mkn : Int32) (mth : Int32) (p0 : Int32) (res : (Int32) × (Int32)) (hf : f_X3_most mwb mwe mwi p0 = some res) : kMi l yX3_most wsX3_most (kRm 4 0 0 95) dC dI cB cI cJ cZ [.ref (b 0), .int p0] sz (wMo cJ cZ b mce mfr mun mbe men mov msp mwb mwe mwi mac mre mkn mth) .int (res.1) (wMo cJ cZ b mce mfr mun mbe men mov msp mwb mwe mwi mac mre mkn (res.2)) 0 0 := by
  refine kmet_i (y := yX3_most) (cc := cX3_most) (maxL := 2) (ret := (some .int)) RX3 (kvA 0 (b 0) (kvI 1 p0 kvE)) kpl_X3 rfl rfl (Nat.le_of_ble_eq_true rfl) rfl (fun p e s m below meth c A ls hx hb hr hml hts hown hlocks hP hK hG hD hA hS hl => ?_)
  have J15 : ∀ (mce : Nat → Int64) (mfr : Int64) (mun : Int64) (mbe : Nat → Int64) (men : Nat → Int64) (mov : Nat → Int32) (msp : Int32) (mwb : Nat → Int64) (mwe : Nat → Int64) (mwi : Int32) (mac : Int32) (mre : Int32) (mkn : Int32) (mth : Int32) (x1 : Int32) (y0 : Int32) (H : Heap) (locs : List Loc), va_P (dC, dI) vwCl (wMo cJ cZ b mce mfr mun mbe men mov msp mwb mwe mwi mac mre mkn mth) H → va_D A (wMo cJ cZ b mce mfr mun mbe men mov msp mwb mwe mwi mac mre mkn mth) → va_S A s.heap H locs → ∀ (ls : Array Slot), lv_has ls 2 (kvA 0 (b 0) (kvI 1 x1 kvE)) → f_X3_most_15 mwb mwe mwi x1 y0 = some res → W p l e (headSpec wsX3_most (kRm 4 0 0 95)).room s m ([.ref (b 0), .int p0] : List Value).toArray below meth c H locs 0 0 (MQ below (kI (dC, dI) .int (res.1) (wMo cJ cZ b mce mfr mun mbe men mov msp mwb mwe mwi mac mre mkn (res.2)) A) ([.ref (b 0), .int p0] : List Value).toArray s 0 0 A) (F0 m 15 ls [.int y0, .ref (b 0)]) := by
    intro mce mfr mun mbe men mov msp mwb mwe mwi mac mre mkn mth x1 y0 H locs hP hD hS ls hl h
    have h := f_X3_most_15_e.symm.trans h
    obtain ⟨r1, g1, h⟩ := g_b h
    refine kq_i (wMo cJ cZ b mce mfr mun mbe men mov msp mwb mwe mwi mac mre mkn r1.2) (fun qP qD qF => va_runV (As := [.int y0]) (rest := []) ⟨hx, hb, hml, hown, hts⟩ (c_X3_isThrown_ l dC dI cB cI cJ cZ b _ mce mfr mun mbe men mov msp mwb mwe mwi mac mre mkn mth y0 r1 g1) (kcwV hts kw_1166 kv_X3_isThrown_ rfl rfl ⟨(Nat.le_of_ble_eq_true rfl), (Nat.le_of_ble_eq_true rfl)⟩) (kpV (A := A) qP hK qD hG (krecv_5 (q0 := 0) hK hP rfl)) rfl rfl hl.1 rfl (lv_room (Nat.le_of_ble_eq_true rfl)) (kdr dgX3_most_0 0 9 rfl rfl) ⟨(Nat.le_of_ble_eq_true rfl), (Nat.le_of_ble_eq_true rfl)⟩) hP hD hS hA kFr_Mo (fun H locs hP hD hS br1 => ?_)
    refine lv_if_eq (tgt := 25) hx hb (kdr dgX3_most_0 1 0 rfl rfl) (by decide) (fun c2 => ?_) (fun c2 => ?_)
    · have h := g_t c2 h
      refine lv_iload_n hx hb (kdr dgX3_most_0 1 3 rfl rfl) rfl (lv_at hl 1 rfl) ?_
      refine lv_if_ne (tgt := 39) hx hb (kdr dgX3_most_0 1 4 rfl rfl) (by decide) (fun c3 => ?_) (fun c3 => ?_)
      · have h := g_f c3 h
        refine lv_aload_n hx hb (kdr dgX3_most_0 1 9 rfl rfl) rfl (lv_at hl 0 rfl) ?_
        obtain ⟨r4, g4, h⟩ := g_b h
        refine kq_i (wMo cJ cZ b mce mfr mun mbe men mov msp mwb mwe mwi mac mre mkn r1.2) (fun qP qD qF => va_runV (As := []) (rest := []) ⟨hx, hb, hml, hown, hts⟩ (c_X3_mostOfAll l dC dI cB cI cJ cZ b _ mce mfr mun mbe men mov msp mwb mwe mwi mac mre mkn r1.2  r4 g4) (kcwV hts kw_1422 kv_X3_mostOfAll rfl rfl ⟨(Nat.le_of_ble_eq_true rfl), (Nat.le_of_ble_eq_true rfl)⟩) (kpV (A := A) qP hK qD hG (krecv_5 (q0 := 0) hK hP rfl)) rfl rfl hl.1 rfl (lv_room (Nat.le_of_ble_eq_true rfl)) (kdr dgX3_most_0 2 0 rfl rfl) ⟨(Nat.le_of_ble_eq_true rfl), (Nat.le_of_ble_eq_true rfl)⟩) hP hD hS hA kFr_Mo (fun H locs hP hD hS br4 => ?_)
        have h := Option.some.inj h
        subst h
        exact kret_i (v := r4) hx hb hr rfl hlocks hS hP (kdr dgX3_most_0 2 1 rfl rfl)
      · have h := g_t c3 h
        refine lv_aload_n hx hb (kdr dgX3_most_0 1 5 rfl rfl) rfl (lv_at hl 0 rfl) ?_
        obtain ⟨r4, g4, h⟩ := g_b h
        refine kq_i (wMo cJ cZ b mce mfr mun mbe men mov msp mwb mwe mwi mac mre mkn r1.2) (fun qP qD qF => va_runV (As := []) (rest := []) ⟨hx, hb, hml, hown, hts⟩ (c_X3_chosenNow l dC dI cB cI cJ cZ b _ mce mfr mun mbe men mov msp mwb mwe mwi mac mre mkn r1.2  r4 g4) (kcwV hts kw_1411 kv_X3_chosenNow rfl rfl ⟨(Nat.le_of_ble_eq_true rfl), (Nat.le_of_ble_eq_true rfl)⟩) (kpV (A := A) qP hK qD hG (krecv_5 (q0 := 0) hK hP rfl)) rfl rfl hl.1 rfl (lv_room (Nat.le_of_ble_eq_true rfl)) (kdr dgX3_most_0 1 6 rfl rfl) ⟨(Nat.le_of_ble_eq_true rfl), (Nat.le_of_ble_eq_true rfl)⟩) hP hD hS hA kFr_Mo (fun H locs hP hD hS br4 => ?_)
        obtain ⟨r5, g5, h⟩ := g_b h
        refine kq_i (wMo cJ cZ b mce mfr mun mbe men mov msp mwb mwe mwi mac mre mkn r1.2) (fun qP qD qF => va_runS (As := [.int r4]) (rest := []) ⟨hx, hb, hml, hown, hts⟩ (c_X3_ones l dC dI cB cI cJ cZ  _  r4 r5 g5) (kcwS hts kw_1419 kv_X3_ones rfl rfl ⟨(Nat.le_of_ble_eq_true rfl), (Nat.le_of_ble_eq_true rfl)⟩) (kpS (A := A) (kPnil) hK ((kDnil (A := A))) hG) rfl rfl hl.1 rfl (lv_room (Nat.le_of_ble_eq_true rfl)) (kdr dgX3_most_0 1 7 rfl rfl) ⟨(Nat.le_of_ble_eq_true rfl), (Nat.le_of_ble_eq_true rfl)⟩) hP hD hS hA kFr_n (fun H locs hP hD hS br5 => ?_)
        refine lv_goto (tgt := 43) hx hb (kdr dgX3_most_0 1 8 rfl rfl) (by decide) ?_
        have h := Option.some.inj h
        subst h
        exact kret_i (v := r5) hx hb hr rfl hlocks hS hP (kdr dgX3_most_0 2 1 rfl rfl)
    · have h := g_f c2 h
      refine lv_iconst (v := 0) hx hb (kdr dgX3_most_0 1 1 rfl rfl) (by decide) ?_
      refine lv_goto (tgt := 43) hx hb (kdr dgX3_most_0 1 2 rfl rfl) (by decide) ?_
      have h := Option.some.inj h
      subst h
      exact kret_i (v := 0) hx hb hr rfl hlocks hS hP (kdr dgX3_most_0 2 1 rfl rfl)
  have J10 : ∀ (mce : Nat → Int64) (mfr : Int64) (mun : Int64) (mbe : Nat → Int64) (men : Nat → Int64) (mov : Nat → Int32) (msp : Int32) (mwb : Nat → Int64) (mwe : Nat → Int64) (mwi : Int32) (mac : Int32) (mre : Int32) (mkn : Int32) (mth : Int32) (x1 : Int32) (H : Heap) (locs : List Loc), va_P (dC, dI) vwCl (wMo cJ cZ b mce mfr mun mbe men mov msp mwb mwe mwi mac mre mkn mth) H → va_D A (wMo cJ cZ b mce mfr mun mbe men mov msp mwb mwe mwi mac mre mkn mth) → va_S A s.heap H locs → ∀ (ls : Array Slot), lv_has ls 2 (kvA 0 (b 0) (kvI 1 x1 kvE)) → f_X3_most_10 mwb mwe mwi x1 = some res → W p l e (headSpec wsX3_most (kRm 4 0 0 95)).room s m ([.ref (b 0), .int p0] : List Value).toArray below meth c H locs 0 0 (MQ below (kI (dC, dI) .int (res.1) (wMo cJ cZ b mce mfr mun mbe men mov msp mwb mwe mwi mac mre mkn (res.2)) A) ([.ref (b 0), .int p0] : List Value).toArray s 0 0 A) (F0 m 10 ls [.ref (b 0)]) := by
    intro mce mfr mun mbe men mov msp mwb mwe mwi mac mre mkn mth x1 H locs hP hD hS ls hl h
    have h := f_X3_most_10_e.symm.trans h
    refine lv_iconst (v := 1) hx hb (kdr dgX3_most_0 0 6 rfl rfl) (by decide) ?_
    refine lv_goto (tgt := 15) hx hb (kdr dgX3_most_0 0 7 rfl rfl) (by decide) ?_
    exact J15 mce mfr mun mbe men mov msp mwb mwe mwi mac mre mkn mth x1 1 _ _ hP hD hS ls (lv_sub hl [0, 1] rfl) h
  have h := f_X3_most_e.symm.trans hf
  refine lv_aload_n hx hb (kdr dgX3_most_0 0 0 rfl rfl) rfl (lv_at hl 0 rfl) ?_
  refine lv_iload_n hx hb (kdr dgX3_most_0 0 1 rfl rfl) rfl (lv_at hl 1 rfl) ?_
  refine lv_if_lt (tgt := 10) hx hb (kdr dgX3_most_0 0 2 rfl rfl) (by decide) (fun c1 => ?_) (fun c1 => ?_)
  · have h := g_t c1 h
    exact J10 mce mfr mun mbe men mov msp mwb mwe mwi mac mre mkn mth p0 _ _ hP hD hS ls (lv_sub hl [0, 1] rfl) h
  · have h := g_f c1 h
    refine lv_iload_n hx hb (kdr dgX3_most_0 0 3 rfl rfl) rfl (lv_at hl 1 rfl) ?_
    refine lv_iconst (v := 1) hx hb (kdr dgX3_most_0 0 4 rfl rfl) (by decide) ?_
    refine lv_icmp_le (tgt := 14) hx hb (kdr dgX3_most_0 0 5 rfl rfl) (by decide) (fun c2 => ?_) (fun c2 => ?_)
    · have h := g_t c2 h
      refine lv_iconst (v := 0) hx hb (kdr dgX3_most_0 0 8 rfl rfl) (by decide) ?_
      exact J15 mce mfr mun mbe men mov msp mwb mwe mwi mac mre mkn mth p0 0 _ _ hP hD hS ls (lv_sub hl [0, 1] rfl) h
    · have h := g_f c2 h
      exact J10 mce mfr mun mbe men mov msp mwb mwe mwi mac mre mkn mth p0 _ _ hP hD hS ls (lv_sub hl [0, 1] rfl) h
noncomputable abbrev wsX3_crowd : List Cond := kWs yX3_crowd cX3_crowd 1 (some .int)
noncomputable def f_X3_crowd (mwb : Nat → Int64) (mwe : Nat → Int64) (mwi : Int32) : Option ((Int32) × (Int32)) :=
  (f_X3_deepest 8 8 mwb mwe mwi).bind fun r1 =>
  some (r1, 0)
theorem f_X3_crowd_e {mwb : Nat → Int64} {mwe : Nat → Int64} {mwi : Int32} : f_X3_crowd mwb mwe mwi = 
  (f_X3_deepest 8 8 mwb mwe mwi).bind fun r1 =>
  some (r1, 0) := rfl
set_option maxHeartbeats 4000000 in
set_option maxRecDepth 100000 in
theorem c_X3_crowd (l : Launch) (dC : Nat → ClassId) (dI : Nat → Nat → Nat) (cB cI cJ cZ : ClassId) (b : Nat → Nat) (sz : Nat) (mce : Nat → Int64) (mfr : Int64) (mun : Int64) (mbe : Nat → Int64) (men : Nat → Int64) (mov : Nat → Int32) (msp : Int32) (mwb : Nat → Int64) (mwe : Nat → Int64) (mwi : Int32) (mac : Int32) (mre : Int32) (mkn : Int32) (mth : Int32) (res : (Int32) × (Int32)) (hf : f_X3_crowd mwb mwe mwi = some res) : kMi l yX3_crowd wsX3_crowd (kRm 2 0 0 66) dC dI cB cI cJ cZ [.ref (b 0)] sz (wMo cJ cZ b mce mfr mun mbe men mov msp mwb mwe mwi mac mre mkn mth) .int (res.1) (wMo cJ cZ b mce mfr mun mbe men mov msp mwb mwe mwi mac mre mkn (res.2)) 0 0 := by
  refine kmet_i (y := yX3_crowd) (cc := cX3_crowd) (maxL := 1) (ret := (some .int)) RX3 (kvA 0 (b 0) kvE) kpl_X3 rfl rfl (Nat.le_of_ble_eq_true rfl) rfl (fun p e s m below meth c A ls hx hb hr hml hts hown hlocks hP hK hG hD hA hS hl => ?_)
  have hw0 := hts (.fieldLink RX3 35 "SpanbookerModel" "thrown" "I") (List.mem_cons_of_mem _ kw_1085)
  have hw1 := hts (.fieldLink RX3 29 "SpanbookerModel" "wishBegins" "[J") (List.mem_cons_of_mem _ kw_1079)
  have hw2 := hts (.fieldLink RX3 32 "SpanbookerModel" "wishEnds" "[J") (List.mem_cons_of_mem _ kw_1080)
  have hw3 := hts (.fieldLink RX3 88 "SpanbookerModel" "wishes" "I") (List.mem_cons_of_mem _ kw_1081)
  have hiX3 : ∀ w ∈ u_ws RX3 TX3 14, w ∈ wsX3_crowd := fun w h => List.mem_cons_of_mem _ (ku_X3 w h)
  have h := f_X3_crowd_e.symm.trans hf
  refine lv_aload_n hx hb (kdr dgX3_crowd_0 0 0 rfl rfl) rfl (lv_at hl 0 rfl) ?_
  refine lv_iconst (v := 0) hx hb (kdr dgX3_crowd_0 0 1 rfl rfl) (by decide) ?_
  refine va_put (D := (dC, dI)) (ci := 5) (v := .int 0) (ty := .int) (C := RX3) (T := TX3) (N := 14) hx hb hts hiX3 tyX3 tyX3_ok nmX3 hown hK hP hD hS 0 rfl rfl 13 (by decide) hw0 (fun _ h9 => h9) rfl (by decide +kernel) rfl rfl (Nat.le_of_ble_eq_true rfl) (kdr dgX3_crowd_0 0 2 rfl rfl) (fun H locs hP hD hS => ?_)
  have hP : va_P (dC, dI) vwCl (wMo cJ cZ b mce mfr mun mbe men mov msp mwb mwe mwi mac mre mkn 0) H := hP
  have hD : va_D A (wMo cJ cZ b mce mfr mun mbe men mov msp mwb mwe mwi mac mre mkn 0) := hD
  refine lv_aload_n hx hb (kdr dgX3_crowd_0 0 3 rfl rfl) rfl (lv_at hl 0 rfl) ?_
  refine va_get (D := (dC, dI)) (ci := 5) (v := .ref (b 5)) (C := RX3) (T := TX3) (N := 14) hx hb hts hiX3 hown hK hP 0 rfl rfl 7 (by decide) hw1 (fun _ h9 => h9) rfl (kdr dgX3_crowd_0 0 4 rfl rfl) ?_
  refine lv_aload_n hx hb (kdr dgX3_crowd_0 0 5 rfl rfl) rfl (lv_at hl 0 rfl) ?_
  refine va_get (D := (dC, dI)) (ci := 5) (v := .ref (b 6)) (C := RX3) (T := TX3) (N := 14) hx hb hts hiX3 hown hK hP 0 rfl rfl 8 (by decide) hw2 (fun _ h9 => h9) rfl (kdr dgX3_crowd_0 0 6 rfl rfl) ?_
  refine lv_aload_n hx hb (kdr dgX3_crowd_0 0 7 rfl rfl) rfl (lv_at hl 0 rfl) ?_
  refine va_get (D := (dC, dI)) (ci := 5) (v := .int mwi) (C := RX3) (T := TX3) (N := 14) hx hb hts hiX3 hown hK hP 0 rfl rfl 9 (by decide) hw3 (fun _ h9 => h9) rfl (kdr dgX3_crowd_0 0 8 rfl rfl) ?_
  obtain ⟨r1, g1, h⟩ := g_b h
  refine kcall_i (wMo cJ cZ b mce mfr mun mbe men mov msp mwb mwe mwi mac mre mkn 0) (va_runS (As := [.ref (b 5), .ref (b 6), .int mwi]) (rest := []) ⟨hx, hb, hml, hown, hts⟩ (c_X3_deepest l dC dI cB cI cJ cZ (b 5) 8 (b 6) 8 _ mwb mwe mwi r1 g1) (kcwS hts kw_1348 kv_X3_deepest rfl rfl ⟨(Nat.le_of_ble_eq_true rfl), (Nat.le_of_ble_eq_true rfl)⟩) (kpS (A := A) (hP.sub (kIT mk_33 0) (km_f (m := mk_33) rfl rfl)) hK (hD.sub (kIT mk_33 0) (km_nd mk_33) (km_T (m := mk_33) rfl rfl)) hG) rfl rfl hl.1 rfl (lv_room (Nat.le_of_ble_eq_true rfl)) (kdr dgX3_crowd_0 0 9 rfl rfl) ⟨(Nat.le_of_ble_eq_true rfl), (Nat.le_of_ble_eq_true rfl)⟩) hP hD hS hA (kIT mk_33 0) (kIT mk_34 0) (km_T (m := mk_33) rfl rfl) (km_T (m := mk_33) rfl rfl) [((b 0), .inr (5, [.ref (b 1), .long mfr, .long mun, .ref (b 2), .ref (b 3), .ref (b 4), .int msp, .ref (b 5), .ref (b 6), .int mwi, .int mac, .int mre, .int mkn, .int 0])), ((b 1), .inl (cJ, 4, .inr (.inl mce))), ((b 2), .inl (cJ, 10, .inr (.inl mbe))), ((b 3), .inl (cJ, 10, .inr (.inl men))), ((b 4), .inl (cZ, 10, .inl mov))] (km_T (m := mk_34) rfl rfl) (km_T (m := mk_34) rfl rfl) (km_cov (m := mk_33) (n := mk_34) rfl rfl) (km_dis (m := mk_33) (n := mk_34) rfl) rfl (fun H locs hP hD hS br1 => ?_)
  have h := Option.some.inj h
  subst h
  exact kret_i (v := r1) hx hb hr rfl hlocks hS hP (kdr dgX3_crowd_0 1 0 rfl rfl)
noncomputable abbrev wsX3_room : List Cond := kWs yX3_room cX3_room 2 (some .int)
noncomputable def f_X3_room_14 (mwb : Nat → Int64) (mwe : Nat → Int64) (mwi : Int32) (x1 : Int32) (y0 : Int32) : Option ((Int32) × (Int32)) :=
  (f_X3_isThrown_ y0).bind fun r1 =>
  if r1.1 = 0 then
    (f_X3_roomsNow mwb mwe mwi).bind fun r3 =>
    if ix x1 mwi.toNatClampNeg then
      some (r3 x1.toNatClampNeg, r1.2)
    else none
  else
    some (0, r1.2)
theorem f_X3_room_14_e {mwb : Nat → Int64} {mwe : Nat → Int64} {mwi : Int32} {x1 : Int32} {y0 : Int32} : f_X3_room_14 mwb mwe mwi x1 y0 =
  (f_X3_isThrown_ y0).bind fun r1 =>
  if r1.1 = 0 then
    (f_X3_roomsNow mwb mwe mwi).bind fun r3 =>
    if ix x1 mwi.toNatClampNeg then
      some (r3 x1.toNatClampNeg, r1.2)
    else none
  else
    some (0, r1.2) := rfl
noncomputable def f_X3_room (mwb : Nat → Int64) (mwe : Nat → Int64) (mwi : Int32) (p0 : Int32) : Option ((Int32) × (Int32)) :=
  (f_X3_isWish mwi p0).bind fun r1 =>
  if r1 = 0 then
    f_X3_room_14 mwb mwe mwi p0 1
  else
    f_X3_room_14 mwb mwe mwi p0 0
theorem f_X3_room_e {mwb : Nat → Int64} {mwe : Nat → Int64} {mwi : Int32} {p0 : Int32} : f_X3_room mwb mwe mwi p0 = 
  (f_X3_isWish mwi p0).bind fun r1 =>
  if r1 = 0 then
    f_X3_room_14 mwb mwe mwi p0 1
  else
    f_X3_room_14 mwb mwe mwi p0 0 := rfl
set_option maxHeartbeats 4000000 in
set_option maxRecDepth 100000 in
theorem c_X3_room (l : Launch) (dC : Nat → ClassId) (dI : Nat → Nat → Nat) (cB cI cJ cZ : ClassId) (b : Nat → Nat) (sz : Nat) (mce : Nat → Int64) (mfr : Int64) (mun : Int64) (mbe : Nat → Int64) (men : Nat → Int64) (mov : Nat → Int32) (msp : Int32) (mwb : Nat → Int64) (mwe : Nat → Int64) (mwi : Int32) (mac : Int32) (mre : Int32) (mkn : Int32) (mth : Int32) (p0 : Int32) (res : (Int32) × (Int32)) (hf : f_X3_room mwb mwe mwi p0 = some res) : kMi l yX3_room wsX3_room (kRm 3 1 16 73) dC dI cB cI cJ cZ [.ref (b 0), .int p0] sz (wMo cJ cZ b mce mfr mun mbe men mov msp mwb mwe mwi mac mre mkn mth) .int (res.1) (wMo cJ cZ b mce mfr mun mbe men mov msp mwb mwe mwi mac mre mkn (res.2)) 1 16 := by
  refine kmet_i (y := yX3_room) (cc := cX3_room) (maxL := 2) (ret := (some .int)) RX3 (kvA 0 (b 0) (kvI 1 p0 kvE)) kpl_X3 rfl rfl (Nat.le_of_ble_eq_true rfl) rfl (fun p e s m below meth c A ls hx hb hr hml hts hown hlocks hP hK hG hD hA hS hl => ?_)
  have J14 : ∀ (mce : Nat → Int64) (mfr : Int64) (mun : Int64) (mbe : Nat → Int64) (men : Nat → Int64) (mov : Nat → Int32) (msp : Int32) (mwb : Nat → Int64) (mwe : Nat → Int64) (mwi : Int32) (mac : Int32) (mre : Int32) (mkn : Int32) (mth : Int32) (x1 : Int32) (y0 : Int32) (H : Heap) (locs : List Loc), va_P (dC, dI) vwCl (wMo cJ cZ b mce mfr mun mbe men mov msp mwb mwe mwi mac mre mkn mth) H → va_D A (wMo cJ cZ b mce mfr mun mbe men mov msp mwb mwe mwi mac mre mkn mth) → va_S A s.heap H locs → ∀ (ls : Array Slot), lv_has ls 2 (kvA 0 (b 0) (kvI 1 x1 kvE)) → f_X3_room_14 mwb mwe mwi x1 y0 = some res → W p l e (headSpec wsX3_room (kRm 3 1 16 73)).room s m ([.ref (b 0), .int p0] : List Value).toArray below meth c H locs 0 0 (MQ below (kI (dC, dI) .int (res.1) (wMo cJ cZ b mce mfr mun mbe men mov msp mwb mwe mwi mac mre mkn (res.2)) A) ([.ref (b 0), .int p0] : List Value).toArray s 1 16 A) (F0 m 14 ls [.int y0, .ref (b 0)]) := by
    intro mce mfr mun mbe men mov msp mwb mwe mwi mac mre mkn mth x1 y0 H locs hP hD hS ls hl h
    have h := f_X3_room_14_e.symm.trans h
    obtain ⟨r1, g1, h⟩ := g_b h
    refine kq_i (wMo cJ cZ b mce mfr mun mbe men mov msp mwb mwe mwi mac mre mkn r1.2) (fun qP qD qF => va_runV (As := [.int y0]) (rest := []) ⟨hx, hb, hml, hown, hts⟩ (c_X3_isThrown_ l dC dI cB cI cJ cZ b _ mce mfr mun mbe men mov msp mwb mwe mwi mac mre mkn mth y0 r1 g1) (kcwV hts kw_1166 kv_X3_isThrown_ rfl rfl ⟨(Nat.le_of_ble_eq_true rfl), (Nat.le_of_ble_eq_true rfl)⟩) (kpV (A := A) qP hK qD hG (krecv_5 (q0 := 0) hK hP rfl)) rfl rfl hl.1 rfl (lv_room (Nat.le_of_ble_eq_true rfl)) (kdr dgX3_room_0 0 8 rfl rfl) ⟨(Nat.le_of_ble_eq_true rfl), (Nat.le_of_ble_eq_true rfl)⟩) hP hD hS hA kFr_Mo (fun H locs hP hD hS br1 => ?_)
    refine lv_if_eq (tgt := 24) hx hb (kdr dgX3_room_0 0 9 rfl rfl) (by decide) (fun c2 => ?_) (fun c2 => ?_)
    · have h := g_t c2 h
      refine lv_aload_n hx hb (kdr dgX3_room_0 1 2 rfl rfl) rfl (lv_at hl 0 rfl) ?_
      obtain ⟨r3, g3, h⟩ := g_b h
      refine kcall_r (wMo cJ cZ b mce mfr mun mbe men mov msp mwb mwe mwi mac mre mkn r1.2) (va_runV (As := []) (rest := []) ⟨hx, hb, hml, hown, hts⟩ (c_X3_roomsNow l dC dI cB cI cJ cZ b _ mce mfr mun mbe men mov msp mwb mwe mwi mac mre mkn r1.2  r3 g3) (kcwV hts kw_1434 kv_X3_roomsNow rfl rfl ⟨(Nat.le_of_ble_eq_true rfl), (Nat.le_of_ble_eq_true rfl)⟩) (kpV (A := A) (hP.sub [0, 1, 2, 3, 4, 5, 6] rfl) hK (hD.sub [0, 1, 2, 3, 4, 5, 6] (by decide) rfl) hG (krecv_5 (q0 := 0) hK hP rfl)) rfl rfl hl.1 rfl (lv_room (Nat.le_of_ble_eq_true rfl)) (kdr dgX3_room_0 1 3 rfl rfl) ⟨(Nat.le_of_ble_eq_true rfl), (Nat.le_of_ble_eq_true rfl)⟩) hP hD hS hA [0, 1, 2, 3, 4, 5, 6] [] rfl rfl [] rfl rfl rfl (by decide) rfl rfl (fun qn0 H locs hP hD hS => ?_)
      have hP : va_P (dC, dI) vwCl ((wMo cJ cZ b mce mfr mun mbe men mov msp mwb mwe mwi mac mre mkn r1.2) ++ [(qn0, .inl (cI, mwi.toNatClampNeg, .inl r3))]) H := hP
      have hD : va_D A ((wMo cJ cZ b mce mfr mun mbe men mov msp mwb mwe mwi mac mre mkn r1.2) ++ [(qn0, .inl (cI, mwi.toNatClampNeg, .inl r3))]) := hD
      refine lv_iload_n hx hb (kdr dgX3_room_0 1 4 rfl rfl) rfl (lv_at hl 1 rfl) ?_
      obtain ⟨z3, h⟩ := g_if h
      refine va_iald hx hb hK hP 7 1 rfl rfl (ix_in z3) (kdr dgX3_room_0 1 5 rfl rfl) ?_
      have hP := hP.sub (ws' := (wMo cJ cZ b mce mfr mun mbe men mov msp mwb mwe mwi mac mre mkn r1.2)) [0, 1, 2, 3, 4, 5, 6] rfl
      have h := Option.some.inj h
      subst h
      refine W.widen (k := 1) (n := 16) (Nat.le_of_ble_eq_true rfl) (Nat.le_of_ble_eq_true rfl) ?_
      exact kret_i (v := r3 x1.toNatClampNeg) hx hb hr rfl hlocks hS hP (kdr dgX3_room_0 1 6 rfl rfl)
    · have h := g_f c2 h
      refine lv_iconst (v := 0) hx hb (kdr dgX3_room_0 1 0 rfl rfl) (by decide) ?_
      refine lv_goto (tgt := 30) hx hb (kdr dgX3_room_0 1 1 rfl rfl) (by decide) ?_
      have h := Option.some.inj h
      subst h
      refine W.widen (k := 1) (n := 16) (Nat.le_of_ble_eq_true rfl) (Nat.le_of_ble_eq_true rfl) ?_
      exact kret_i (v := 0) hx hb hr rfl hlocks hS hP (kdr dgX3_room_0 1 6 rfl rfl)
  have h := f_X3_room_e.symm.trans hf
  refine lv_aload_n hx hb (kdr dgX3_room_0 0 0 rfl rfl) rfl (lv_at hl 0 rfl) ?_
  refine lv_aload_n hx hb (kdr dgX3_room_0 0 1 rfl rfl) rfl (lv_at hl 0 rfl) ?_
  refine lv_iload_n hx hb (kdr dgX3_room_0 0 2 rfl rfl) rfl (lv_at hl 1 rfl) ?_
  obtain ⟨r1, g1, h⟩ := g_b h
  refine kq_i (wMo cJ cZ b mce mfr mun mbe men mov msp mwb mwe mwi mac mre mkn mth) (fun qP qD qF => va_runV (As := [.int p0]) (rest := [.ref (b 0)]) ⟨hx, hb, hml, hown, hts⟩ (c_X3_isWish l dC dI cB cI cJ cZ b _ mce mfr mun mbe men mov msp mwb mwe mwi mac mre mkn mth p0 r1 g1) (kcwV hts kw_1255 kv_X3_isWish rfl rfl ⟨(Nat.le_of_ble_eq_true rfl), (Nat.le_of_ble_eq_true rfl)⟩) (kpV (A := A) qP hK qD hG (krecv_5 (q0 := 0) hK hP rfl)) rfl rfl hl.1 rfl (lv_room (Nat.le_of_ble_eq_true rfl)) (kdr dgX3_room_0 0 3 rfl rfl) ⟨(Nat.le_of_ble_eq_true rfl), (Nat.le_of_ble_eq_true rfl)⟩) hP hD hS hA kFr_Mo (fun H locs hP hD hS br1 => ?_)
  refine lv_if_ne (tgt := 13) hx hb (kdr dgX3_room_0 0 4 rfl rfl) (by decide) (fun c2 => ?_) (fun c2 => ?_)
  · have h := g_f c2 h
    refine lv_iconst (v := 0) hx hb (kdr dgX3_room_0 0 7 rfl rfl) (by decide) ?_
    exact J14 mce mfr mun mbe men mov msp mwb mwe mwi mac mre mkn mth p0 0 _ _ hP hD hS ls (lv_sub hl [0, 1] rfl) h
  · have h := g_t c2 h
    refine lv_iconst (v := 1) hx hb (kdr dgX3_room_0 0 5 rfl rfl) (by decide) ?_
    refine lv_goto (tgt := 14) hx hb (kdr dgX3_room_0 0 6 rfl rfl) (by decide) ?_
    exact J14 mce mfr mun mbe men mov msp mwb mwe mwi mac mre mkn mth p0 1 _ _ hP hD hS ls (lv_sub hl [0, 1] rfl) h
noncomputable abbrev wsX3_rooms : List Cond := kWs yX3_rooms cX3_rooms 1 (some .int)
noncomputable def f_X3_rooms (mwb : Nat → Int64) (mwe : Nat → Int64) (mwi : Int32) : Option ((Int32) × (Int32)) :=
  (f_X3_roomsOf mwb mwe mwi).bind fun r1 =>
  some (r1, 0)
theorem f_X3_rooms_e {mwb : Nat → Int64} {mwe : Nat → Int64} {mwi : Int32} : f_X3_rooms mwb mwe mwi = 
  (f_X3_roomsOf mwb mwe mwi).bind fun r1 =>
  some (r1, 0) := rfl
set_option maxHeartbeats 4000000 in
set_option maxRecDepth 100000 in
theorem c_X3_rooms (l : Launch) (dC : Nat → ClassId) (dI : Nat → Nat → Nat) (cB cI cJ cZ : ClassId) (b : Nat → Nat) (sz : Nat) (mce : Nat → Int64) (mfr : Int64) (mun : Int64) (mbe : Nat → Int64) (men : Nat → Int64) (mov : Nat → Int32) (msp : Int32) (mwb : Nat → Int64) (mwe : Nat → Int64) (mwi : Int32) (mac : Int32) (mre : Int32) (mkn : Int32) (mth : Int32) (res : (Int32) × (Int32)) (hf : f_X3_rooms mwb mwe mwi = some res) : kMi l yX3_rooms wsX3_rooms (kRm 4 1 16 98) dC dI cB cI cJ cZ [.ref (b 0)] sz (wMo cJ cZ b mce mfr mun mbe men mov msp mwb mwe mwi mac mre mkn mth) .int (res.1) (wMo cJ cZ b mce mfr mun mbe men mov msp mwb mwe mwi mac mre mkn (res.2)) 1 16 := by
  refine kmet_i (y := yX3_rooms) (cc := cX3_rooms) (maxL := 1) (ret := (some .int)) RX3 (kvA 0 (b 0) kvE) kpl_X3 rfl rfl (Nat.le_of_ble_eq_true rfl) rfl (fun p e s m below meth c A ls hx hb hr hml hts hown hlocks hP hK hG hD hA hS hl => ?_)
  have hw0 := hts (.fieldLink RX3 35 "SpanbookerModel" "thrown" "I") (List.mem_cons_of_mem _ kw_1085)
  have hiX3 : ∀ w ∈ u_ws RX3 TX3 14, w ∈ wsX3_rooms := fun w h => List.mem_cons_of_mem _ (ku_X3 w h)
  have h := f_X3_rooms_e.symm.trans hf
  refine lv_aload_n hx hb (kdr dgX3_rooms_0 0 0 rfl rfl) rfl (lv_at hl 0 rfl) ?_
  refine lv_iconst (v := 0) hx hb (kdr dgX3_rooms_0 0 1 rfl rfl) (by decide) ?_
  refine va_put (D := (dC, dI)) (ci := 5) (v := .int 0) (ty := .int) (C := RX3) (T := TX3) (N := 14) hx hb hts hiX3 tyX3 tyX3_ok nmX3 hown hK hP hD hS 0 rfl rfl 13 (by decide) hw0 (fun _ h9 => h9) rfl (by decide +kernel) rfl rfl (Nat.le_of_ble_eq_true rfl) (kdr dgX3_rooms_0 0 2 rfl rfl) (fun H locs hP hD hS => ?_)
  have hP : va_P (dC, dI) vwCl (wMo cJ cZ b mce mfr mun mbe men mov msp mwb mwe mwi mac mre mkn 0) H := hP
  have hD : va_D A (wMo cJ cZ b mce mfr mun mbe men mov msp mwb mwe mwi mac mre mkn 0) := hD
  refine lv_aload_n hx hb (kdr dgX3_rooms_0 0 3 rfl rfl) rfl (lv_at hl 0 rfl) ?_
  obtain ⟨r1, g1, h⟩ := g_b h
  refine kq_i (wMo cJ cZ b mce mfr mun mbe men mov msp mwb mwe mwi mac mre mkn 0) (fun qP qD qF => va_runV (As := []) (rest := []) ⟨hx, hb, hml, hown, hts⟩ (c_X3_roomsOf l dC dI cB cI cJ cZ b _ mce mfr mun mbe men mov msp mwb mwe mwi mac mre mkn 0  r1 g1) (kcwV hts kw_1446 kv_X3_roomsOf rfl rfl ⟨(Nat.le_of_ble_eq_true rfl), (Nat.le_of_ble_eq_true rfl)⟩) (kpV (A := A) qP hK qD hG (krecv_5 (q0 := 0) hK hP rfl)) rfl rfl hl.1 rfl (lv_room (Nat.le_of_ble_eq_true rfl)) (kdr dgX3_rooms_0 0 4 rfl rfl) ⟨(Nat.le_of_ble_eq_true rfl), (Nat.le_of_ble_eq_true rfl)⟩) hP hD hS hA kFr_Mo (fun H locs hP hD hS br1 => ?_)
  have h := Option.some.inj h
  subst h
  refine W.widen (k := 1) (n := 16) (Nat.le_of_ble_eq_true rfl) (Nat.le_of_ble_eq_true rfl) ?_
  exact kret_i (v := r1) hx hb hr rfl hlocks hS hP (kdr dgX3_rooms_0 0 5 rfl rfl)
noncomputable abbrev wsX3_house : List Cond := kWs yX3_house cX3_house 2 (some .int)
noncomputable def f_X3_house_15 (mac : Int32) (mre : Int32) (mkn : Int32) (x1 : Int32) (y0 : Int32) : Option ((Int32) × (Int32)) :=
  (f_X3_isThrown_ y0).bind fun r1 =>
  if r1.1 = 0 then
    if x1 = 0 then
      some (mac, r1.2)
    else
      if x1 = 1 then
        some (mre, r1.2)
      else
        some (mkn, r1.2)
  else
    some (0, r1.2)
theorem f_X3_house_15_e {mac : Int32} {mre : Int32} {mkn : Int32} {x1 : Int32} {y0 : Int32} : f_X3_house_15 mac mre mkn x1 y0 =
  (f_X3_isThrown_ y0).bind fun r1 =>
  if r1.1 = 0 then
    if x1 = 0 then
      some (mac, r1.2)
    else
      if x1 = 1 then
        some (mre, r1.2)
      else
        some (mkn, r1.2)
  else
    some (0, r1.2) := rfl
noncomputable def f_X3_house_10 (mac : Int32) (mre : Int32) (mkn : Int32) (x1 : Int32) : Option ((Int32) × (Int32)) :=
  f_X3_house_15 mac mre mkn x1 1
theorem f_X3_house_10_e {mac : Int32} {mre : Int32} {mkn : Int32} {x1 : Int32} : f_X3_house_10 mac mre mkn x1 =
  f_X3_house_15 mac mre mkn x1 1 := rfl
noncomputable def f_X3_house (mac : Int32) (mre : Int32) (mkn : Int32) (p0 : Int32) : Option ((Int32) × (Int32)) :=
  if p0 < 0 then
    f_X3_house_10 mac mre mkn p0
  else
    if p0 ≤ 2 then
      f_X3_house_15 mac mre mkn p0 0
    else
      f_X3_house_10 mac mre mkn p0
theorem f_X3_house_e {mac : Int32} {mre : Int32} {mkn : Int32} {p0 : Int32} : f_X3_house mac mre mkn p0 = 
  if p0 < 0 then
    f_X3_house_10 mac mre mkn p0
  else
    if p0 ≤ 2 then
      f_X3_house_15 mac mre mkn p0 0
    else
      f_X3_house_10 mac mre mkn p0 := rfl
set_option maxHeartbeats 4000000 in
set_option maxRecDepth 100000 in
theorem c_X3_house (l : Launch) (dC : Nat → ClassId) (dI : Nat → Nat → Nat) (cB cI cJ cZ : ClassId) (b : Nat → Nat) (sz : Nat) (mce : Nat → Int64) (mfr : Int64) (mun : Int64) (mbe : Nat → Int64) (men : Nat → Int64) (mov : Nat → Int32) (msp : Int32) (mwb : Nat → Int64) (mwe : Nat → Int64) (mwi : Int32) (mac : Int32) (mre : Int32) (mkn : Int32) (mth : Int32) (p0 : Int32) (res : (Int32) × (Int32)) (hf : f_X3_house mac mre mkn p0 = some res) : kMi l yX3_house wsX3_house (kRm 2 0 0 43) dC dI cB cI cJ cZ [.ref (b 0), .int p0] sz (wMo cJ cZ b mce mfr mun mbe men mov msp mwb mwe mwi mac mre mkn mth) .int (res.1) (wMo cJ cZ b mce mfr mun mbe men mov msp mwb mwe mwi mac mre mkn (res.2)) 0 0 := by
  refine kmet_i (y := yX3_house) (cc := cX3_house) (maxL := 2) (ret := (some .int)) RX3 (kvA 0 (b 0) (kvI 1 p0 kvE)) kpl_X3 rfl rfl (Nat.le_of_ble_eq_true rfl) rfl (fun p e s m below meth c A ls hx hb hr hml hts hown hlocks hP hK hG hD hA hS hl => ?_)
  have hw0 := hts (.fieldLink RX3 236 "SpanbookerModel" "knocks" "I") (List.mem_cons_of_mem _ kw_1084)
  have hw1 := hts (.fieldLink RX3 120 "SpanbookerModel" "refused" "I") (List.mem_cons_of_mem _ kw_1083)
  have hw2 := hts (.fieldLink RX3 117 "SpanbookerModel" "acts" "I") (List.mem_cons_of_mem _ kw_1082)
  have hiX3 : ∀ w ∈ u_ws RX3 TX3 14, w ∈ wsX3_house := fun w h => List.mem_cons_of_mem _ (ku_X3 w h)
  have J15 : ∀ (mce : Nat → Int64) (mfr : Int64) (mun : Int64) (mbe : Nat → Int64) (men : Nat → Int64) (mov : Nat → Int32) (msp : Int32) (mwb : Nat → Int64) (mwe : Nat → Int64) (mwi : Int32) (mac : Int32) (mre : Int32) (mkn : Int32) (mth : Int32) (x1 : Int32) (y0 : Int32) (H : Heap) (locs : List Loc), va_P (dC, dI) vwCl (wMo cJ cZ b mce mfr mun mbe men mov msp mwb mwe mwi mac mre mkn mth) H → va_D A (wMo cJ cZ b mce mfr mun mbe men mov msp mwb mwe mwi mac mre mkn mth) → va_S A s.heap H locs → ∀ (ls : Array Slot), lv_has ls 2 (kvA 0 (b 0) (kvI 1 x1 kvE)) → f_X3_house_15 mac mre mkn x1 y0 = some res → W p l e (headSpec wsX3_house (kRm 2 0 0 43)).room s m ([.ref (b 0), .int p0] : List Value).toArray below meth c H locs 0 0 (MQ below (kI (dC, dI) .int (res.1) (wMo cJ cZ b mce mfr mun mbe men mov msp mwb mwe mwi mac mre mkn (res.2)) A) ([.ref (b 0), .int p0] : List Value).toArray s 0 0 A) (F0 m 15 ls [.int y0, .ref (b 0)]) := by
    intro mce mfr mun mbe men mov msp mwb mwe mwi mac mre mkn mth x1 y0 H locs hP hD hS ls hl h
    have h := f_X3_house_15_e.symm.trans h
    obtain ⟨r1, g1, h⟩ := g_b h
    refine kq_i (wMo cJ cZ b mce mfr mun mbe men mov msp mwb mwe mwi mac mre mkn r1.2) (fun qP qD qF => va_runV (As := [.int y0]) (rest := []) ⟨hx, hb, hml, hown, hts⟩ (c_X3_isThrown_ l dC dI cB cI cJ cZ b _ mce mfr mun mbe men mov msp mwb mwe mwi mac mre mkn mth y0 r1 g1) (kcwV hts kw_1166 kv_X3_isThrown_ rfl rfl ⟨(Nat.le_of_ble_eq_true rfl), (Nat.le_of_ble_eq_true rfl)⟩) (kpV (A := A) qP hK qD hG (krecv_5 (q0 := 0) hK hP rfl)) rfl rfl hl.1 rfl (lv_room (Nat.le_of_ble_eq_true rfl)) (kdr dgX3_house_0 0 9 rfl rfl) ⟨(Nat.le_of_ble_eq_true rfl), (Nat.le_of_ble_eq_true rfl)⟩) hP hD hS hA kFr_Mo (fun H locs hP hD hS br1 => ?_)
    refine lv_if_eq (tgt := 25) hx hb (kdr dgX3_house_0 1 0 rfl rfl) (by decide) (fun c2 => ?_) (fun c2 => ?_)
    · have h := g_t c2 h
      refine lv_iload_n hx hb (kdr dgX3_house_0 1 3 rfl rfl) rfl (lv_at hl 1 rfl) ?_
      refine lv_if_ne (tgt := 36) hx hb (kdr dgX3_house_0 1 4 rfl rfl) (by decide) (fun c3 => ?_) (fun c3 => ?_)
      · have h := g_f c3 h
        refine lv_iload_n hx hb (kdr dgX3_house_0 1 8 rfl rfl) rfl (lv_at hl 1 rfl) ?_
        refine lv_iconst (v := 1) hx hb (kdr dgX3_house_0 1 9 rfl rfl) (by decide) ?_
        refine lv_icmp_ne (tgt := 48) hx hb (kdr dgX3_house_0 2 0 rfl rfl) (by decide) (fun c4 => ?_) (fun c4 => ?_)
        · have h := g_f c4 h
          refine lv_aload_n hx hb (kdr dgX3_house_0 2 4 rfl rfl) rfl (lv_at hl 0 rfl) ?_
          refine va_get (D := (dC, dI)) (ci := 5) (v := .int mkn) (C := RX3) (T := TX3) (N := 14) hx hb hts hiX3 hown hK hP 0 rfl rfl 12 (by decide) hw0 (fun _ h9 => h9) rfl (kdr dgX3_house_0 2 5 rfl rfl) ?_
          have h := Option.some.inj h
          subst h
          exact kret_i (v := mkn) hx hb hr rfl hlocks hS hP (kdr dgX3_house_0 2 6 rfl rfl)
        · have h := g_t c4 h
          refine lv_aload_n hx hb (kdr dgX3_house_0 2 1 rfl rfl) rfl (lv_at hl 0 rfl) ?_
          refine va_get (D := (dC, dI)) (ci := 5) (v := .int mre) (C := RX3) (T := TX3) (N := 14) hx hb hts hiX3 hown hK hP 0 rfl rfl 11 (by decide) hw1 (fun _ h9 => h9) rfl (kdr dgX3_house_0 2 2 rfl rfl) ?_
          refine lv_goto (tgt := 52) hx hb (kdr dgX3_house_0 2 3 rfl rfl) (by decide) ?_
          have h := Option.some.inj h
          subst h
          exact kret_i (v := mre) hx hb hr rfl hlocks hS hP (kdr dgX3_house_0 2 6 rfl rfl)
      · have h := g_t c3 h
        refine lv_aload_n hx hb (kdr dgX3_house_0 1 5 rfl rfl) rfl (lv_at hl 0 rfl) ?_
        refine va_get (D := (dC, dI)) (ci := 5) (v := .int mac) (C := RX3) (T := TX3) (N := 14) hx hb hts hiX3 hown hK hP 0 rfl rfl 10 (by decide) hw2 (fun _ h9 => h9) rfl (kdr dgX3_house_0 1 6 rfl rfl) ?_
        refine lv_goto (tgt := 52) hx hb (kdr dgX3_house_0 1 7 rfl rfl) (by decide) ?_
        have h := Option.some.inj h
        subst h
        exact kret_i (v := mac) hx hb hr rfl hlocks hS hP (kdr dgX3_house_0 2 6 rfl rfl)
    · have h := g_f c2 h
      refine lv_iconst (v := 0) hx hb (kdr dgX3_house_0 1 1 rfl rfl) (by decide) ?_
      refine lv_goto (tgt := 52) hx hb (kdr dgX3_house_0 1 2 rfl rfl) (by decide) ?_
      have h := Option.some.inj h
      subst h
      exact kret_i (v := 0) hx hb hr rfl hlocks hS hP (kdr dgX3_house_0 2 6 rfl rfl)
  have J10 : ∀ (mce : Nat → Int64) (mfr : Int64) (mun : Int64) (mbe : Nat → Int64) (men : Nat → Int64) (mov : Nat → Int32) (msp : Int32) (mwb : Nat → Int64) (mwe : Nat → Int64) (mwi : Int32) (mac : Int32) (mre : Int32) (mkn : Int32) (mth : Int32) (x1 : Int32) (H : Heap) (locs : List Loc), va_P (dC, dI) vwCl (wMo cJ cZ b mce mfr mun mbe men mov msp mwb mwe mwi mac mre mkn mth) H → va_D A (wMo cJ cZ b mce mfr mun mbe men mov msp mwb mwe mwi mac mre mkn mth) → va_S A s.heap H locs → ∀ (ls : Array Slot), lv_has ls 2 (kvA 0 (b 0) (kvI 1 x1 kvE)) → f_X3_house_10 mac mre mkn x1 = some res → W p l e (headSpec wsX3_house (kRm 2 0 0 43)).room s m ([.ref (b 0), .int p0] : List Value).toArray below meth c H locs 0 0 (MQ below (kI (dC, dI) .int (res.1) (wMo cJ cZ b mce mfr mun mbe men mov msp mwb mwe mwi mac mre mkn (res.2)) A) ([.ref (b 0), .int p0] : List Value).toArray s 0 0 A) (F0 m 10 ls [.ref (b 0)]) := by
    intro mce mfr mun mbe men mov msp mwb mwe mwi mac mre mkn mth x1 H locs hP hD hS ls hl h
    have h := f_X3_house_10_e.symm.trans h
    refine lv_iconst (v := 1) hx hb (kdr dgX3_house_0 0 6 rfl rfl) (by decide) ?_
    refine lv_goto (tgt := 15) hx hb (kdr dgX3_house_0 0 7 rfl rfl) (by decide) ?_
    exact J15 mce mfr mun mbe men mov msp mwb mwe mwi mac mre mkn mth x1 1 _ _ hP hD hS ls (lv_sub hl [0, 1] rfl) h
  have h := f_X3_house_e.symm.trans hf
  refine lv_aload_n hx hb (kdr dgX3_house_0 0 0 rfl rfl) rfl (lv_at hl 0 rfl) ?_
  refine lv_iload_n hx hb (kdr dgX3_house_0 0 1 rfl rfl) rfl (lv_at hl 1 rfl) ?_
  refine lv_if_lt (tgt := 10) hx hb (kdr dgX3_house_0 0 2 rfl rfl) (by decide) (fun c1 => ?_) (fun c1 => ?_)
  · have h := g_t c1 h
    exact J10 mce mfr mun mbe men mov msp mwb mwe mwi mac mre mkn mth p0 _ _ hP hD hS ls (lv_sub hl [0, 1] rfl) h
  · have h := g_f c1 h
    refine lv_iload_n hx hb (kdr dgX3_house_0 0 3 rfl rfl) rfl (lv_at hl 1 rfl) ?_
    refine lv_iconst (v := 2) hx hb (kdr dgX3_house_0 0 4 rfl rfl) (by decide) ?_
    refine lv_icmp_le (tgt := 14) hx hb (kdr dgX3_house_0 0 5 rfl rfl) (by decide) (fun c2 => ?_) (fun c2 => ?_)
    · have h := g_t c2 h
      refine lv_iconst (v := 0) hx hb (kdr dgX3_house_0 0 8 rfl rfl) (by decide) ?_
      exact J15 mce mfr mun mbe men mov msp mwb mwe mwi mac mre mkn mth p0 0 _ _ hP hD hS ls (lv_sub hl [0, 1] rfl) h
    · have h := g_f c2 h
      exact J10 mce mfr mun mbe men mov msp mwb mwe mwi mac mre mkn mth p0 _ _ hP hD hS ls (lv_sub hl [0, 1] rfl) h
noncomputable abbrev wsX3_knock : List Cond := kWs yX3_knock cX3_knock 1 (some .int)
noncomputable def f_X3_knock (mkn : Int32) : Option ((Int32) × (Int32) × (Int32)) :=
  some (mkn + 1, mkn + 1, 0)
theorem f_X3_knock_e {mkn : Int32} : f_X3_knock mkn = 
  some (mkn + 1, mkn + 1, 0) := rfl
set_option maxHeartbeats 4000000 in
set_option maxRecDepth 100000 in
theorem c_X3_knock (l : Launch) (dC : Nat → ClassId) (dI : Nat → Nat → Nat) (cB cI cJ cZ : ClassId) (b : Nat → Nat) (sz : Nat) (mce : Nat → Int64) (mfr : Int64) (mun : Int64) (mbe : Nat → Int64) (men : Nat → Int64) (mov : Nat → Int32) (msp : Int32) (mwb : Nat → Int64) (mwe : Nat → Int64) (mwi : Int32) (mac : Int32) (mre : Int32) (mkn : Int32) (mth : Int32) (res : (Int32) × (Int32) × (Int32)) (hf : f_X3_knock mkn = some res) : kMi l yX3_knock wsX3_knock (kRm 0 0 0 0) dC dI cB cI cJ cZ [.ref (b 0)] sz (wMo cJ cZ b mce mfr mun mbe men mov msp mwb mwe mwi mac mre mkn mth) .int (res.1) (wMo cJ cZ b mce mfr mun mbe men mov msp mwb mwe mwi mac mre (res.2.1) (res.2.2)) 0 0 := by
  refine kmet_i (y := yX3_knock) (cc := cX3_knock) (maxL := 1) (ret := (some .int)) RX3 (kvA 0 (b 0) kvE) kpl_X3 rfl rfl (Nat.le_of_ble_eq_true rfl) rfl (fun p e s m below meth c A ls hx hb hr hml hts hown hlocks hP hK hG hD hA hS hl => ?_)
  have hw0 := hts (.fieldLink RX3 35 "SpanbookerModel" "thrown" "I") (List.mem_cons_of_mem _ kw_1085)
  have hw1 := hts (.fieldLink RX3 236 "SpanbookerModel" "knocks" "I") (List.mem_cons_of_mem _ kw_1084)
  have hiX3 : ∀ w ∈ u_ws RX3 TX3 14, w ∈ wsX3_knock := fun w h => List.mem_cons_of_mem _ (ku_X3 w h)
  have h := f_X3_knock_e.symm.trans hf
  refine lv_aload_n hx hb (kdr dgX3_knock_0 0 0 rfl rfl) rfl (lv_at hl 0 rfl) ?_
  refine lv_iconst (v := 0) hx hb (kdr dgX3_knock_0 0 1 rfl rfl) (by decide) ?_
  refine va_put (D := (dC, dI)) (ci := 5) (v := .int 0) (ty := .int) (C := RX3) (T := TX3) (N := 14) hx hb hts hiX3 tyX3 tyX3_ok nmX3 hown hK hP hD hS 0 rfl rfl 13 (by decide) hw0 (fun _ h9 => h9) rfl (by decide +kernel) rfl rfl (Nat.le_of_ble_eq_true rfl) (kdr dgX3_knock_0 0 2 rfl rfl) (fun H locs hP hD hS => ?_)
  have hP : va_P (dC, dI) vwCl (wMo cJ cZ b mce mfr mun mbe men mov msp mwb mwe mwi mac mre mkn 0) H := hP
  have hD : va_D A (wMo cJ cZ b mce mfr mun mbe men mov msp mwb mwe mwi mac mre mkn 0) := hD
  refine lv_aload_n hx hb (kdr dgX3_knock_0 0 3 rfl rfl) rfl (lv_at hl 0 rfl) ?_
  refine lv_dup hx hb (kdr dgX3_knock_0 0 4 rfl rfl) rfl ?_
  refine va_get (D := (dC, dI)) (ci := 5) (v := .int mkn) (C := RX3) (T := TX3) (N := 14) hx hb hts hiX3 hown hK hP 0 rfl rfl 12 (by decide) hw1 (fun _ h9 => h9) rfl (kdr dgX3_knock_0 0 5 rfl rfl) ?_
  refine lv_iconst (v := 1) hx hb (kdr dgX3_knock_0 0 6 rfl rfl) (by decide) ?_
  refine lv_iadd hx hb (kdr dgX3_knock_0 0 7 rfl rfl) ?_
  refine va_put (D := (dC, dI)) (ci := 5) (v := .int (mkn + 1)) (ty := .int) (C := RX3) (T := TX3) (N := 14) hx hb hts hiX3 tyX3 tyX3_ok nmX3 hown hK hP hD hS 0 rfl rfl 12 (by decide) hw1 (fun _ h9 => h9) rfl (by decide +kernel) rfl rfl (Nat.le_of_ble_eq_true rfl) (kdr dgX3_knock_0 0 8 rfl rfl) (fun H locs hP hD hS => ?_)
  have hP : va_P (dC, dI) vwCl (wMo cJ cZ b mce mfr mun mbe men mov msp mwb mwe mwi mac mre (mkn + 1) 0) H := hP
  have hD : va_D A (wMo cJ cZ b mce mfr mun mbe men mov msp mwb mwe mwi mac mre (mkn + 1) 0) := hD
  refine lv_aload_n hx hb (kdr dgX3_knock_0 0 9 rfl rfl) rfl (lv_at hl 0 rfl) ?_
  refine va_get (D := (dC, dI)) (ci := 5) (v := .int (mkn + 1)) (C := RX3) (T := TX3) (N := 14) hx hb hts hiX3 hown hK hP 0 rfl rfl 12 (by decide) hw1 (fun _ h9 => h9) rfl (kdr dgX3_knock_0 1 0 rfl rfl) ?_
  have h := Option.some.inj h
  subst h
  exact kret_i (v := mkn + 1) hx hb hr rfl hlocks hS hP (kdr dgX3_knock_0 1 1 rfl rfl)
noncomputable abbrev wsX3_areSpans : List Cond := kWs yX3_areSpans cX3_areSpans 3 (some .boolean)
noncomputable def f_X3_areSpans_107 : Nat → (Nat → Int64) → (Nat → Int64) → (Int32) → (Nat → Int64) → (Int32) → Option (Int32)
  | 0, _, _, _, _, _ => none
  | n + 1, mbe, men, msp, ext0, x2 =>
    (f_X3_freesOf 22 ext0).bind fun r1 =>
    if r1 ≤ x2 then
      some 1
    else
      if ix (2 * x2) 22 then
        if ix ((2 * x2) + 1) 22 then
          (f_X3_meetsSome mbe men msp (ext0 (2 * x2).toNatClampNeg) (ext0 ((2 * x2) + 1).toNatClampNeg) (-1)).bind fun r5 =>
          if r5 = 0 then
            f_X3_areSpans_107 n mbe men msp ext0 (x2 + 1)
          else
            some 0
        else none
      else none
theorem f_X3_areSpans_107_0 {mbe : Nat → Int64} {men : Nat → Int64} {msp : Int32} {ext0 : Nat → Int64} {x2 : Int32} : f_X3_areSpans_107 0 mbe men msp ext0 x2 = none := rfl
theorem f_X3_areSpans_107_s {n : Nat} {mbe : Nat → Int64} {men : Nat → Int64} {msp : Int32} {ext0 : Nat → Int64} {x2 : Int32} : f_X3_areSpans_107 (n + 1) mbe men msp ext0 x2 =
  (f_X3_freesOf 22 ext0).bind fun r1 =>
  if r1 ≤ x2 then
    some 1
  else
    if ix (2 * x2) 22 then
      if ix ((2 * x2) + 1) 22 then
        (f_X3_meetsSome mbe men msp (ext0 (2 * x2).toNatClampNeg) (ext0 ((2 * x2) + 1).toNatClampNeg) (-1)).bind fun r5 =>
        if r5 = 0 then
          f_X3_areSpans_107 n mbe men msp ext0 (x2 + 1)
        else
          some 0
      else none
    else none := rfl
noncomputable def f_X3_areSpans_33 (K2 : (Int64) → (Int64) → (Nat → Int64) → (Nat → Int64) → (Nat → Int32) → (Int32) → (Int32) → Option (Int32)) : Nat → (Int64) → (Int64) → (Nat → Int64) → (Nat → Int64) → (Nat → Int32) → (Int32) → (Int32) → (Int32) → Option (Int32)
  | 0, _, _, _, _, _, _, _, _ => none
  | n + 1, mfr, mun, mbe, men, mov, msp, x1, x2 =>
    if x1 ≤ x2 then
      K2 mfr mun mbe men mov msp (x1 + 1)
    else
      if ix x1 10 then
        if ix x2 10 then
          (f_X3_meet (mbe x1.toNatClampNeg) (men x1.toNatClampNeg) (mbe x2.toNatClampNeg) (men x2.toNatClampNeg)).bind fun r4 =>
          if r4 = 0 then
            f_X3_areSpans_33 K2 n mfr mun mbe men mov msp x1 (x2 + 1)
          else
            if (mov x1.toNatClampNeg) = 0 then
              if (mov x2.toNatClampNeg) = 0 then
                some 0
              else
                f_X3_areSpans_33 K2 n mfr mun mbe men mov msp x1 (x2 + 1)
            else
              f_X3_areSpans_33 K2 n mfr mun mbe men mov msp x1 (x2 + 1)
        else none
      else none
theorem f_X3_areSpans_33_0 {K2 : (Int64) → (Int64) → (Nat → Int64) → (Nat → Int64) → (Nat → Int32) → (Int32) → (Int32) → Option (Int32)} {mfr : Int64} {mun : Int64} {mbe : Nat → Int64} {men : Nat → Int64} {mov : Nat → Int32} {msp : Int32} {x1 : Int32} {x2 : Int32} : f_X3_areSpans_33 K2 0 mfr mun mbe men mov msp x1 x2 = none := rfl
theorem f_X3_areSpans_33_s {K2 : (Int64) → (Int64) → (Nat → Int64) → (Nat → Int64) → (Nat → Int32) → (Int32) → (Int32) → Option (Int32)} {n : Nat} {mfr : Int64} {mun : Int64} {mbe : Nat → Int64} {men : Nat → Int64} {mov : Nat → Int32} {msp : Int32} {x1 : Int32} {x2 : Int32} : f_X3_areSpans_33 K2 (n + 1) mfr mun mbe men mov msp x1 x2 =
  if x1 ≤ x2 then
    K2 mfr mun mbe men mov msp (x1 + 1)
  else
    if ix x1 10 then
      if ix x2 10 then
        (f_X3_meet (mbe x1.toNatClampNeg) (men x1.toNatClampNeg) (mbe x2.toNatClampNeg) (men x2.toNatClampNeg)).bind fun r4 =>
        if r4 = 0 then
          f_X3_areSpans_33 K2 n mfr mun mbe men mov msp x1 (x2 + 1)
        else
          if (mov x1.toNatClampNeg) = 0 then
            if (mov x2.toNatClampNeg) = 0 then
              some 0
            else
              f_X3_areSpans_33 K2 n mfr mun mbe men mov msp x1 (x2 + 1)
          else
            f_X3_areSpans_33 K2 n mfr mun mbe men mov msp x1 (x2 + 1)
      else none
    else none := rfl
noncomputable def f_X3_areSpans_2 : Nat → (Int64) → (Int64) → (Nat → Int64) → (Nat → Int64) → (Nat → Int32) → (Int32) → (Int32) → Option (Int32)
  | 0, _, _, _, _, _, _, _ => none
  | n + 1, mfr, mun, mbe, men, mov, msp, x1 =>
    if msp ≤ x1 then
      (f_X3_free mfr mun mbe men msp).bind fun r2 =>
      f_X3_areSpans_107 24 mbe men msp r2 0
    else
      if ix x1 10 then
        (f_X3_isIn mfr mun (mbe x1.toNatClampNeg) (men x1.toNatClampNeg)).bind fun r3 =>
        if r3 = 0 then
          some 0
        else
          f_X3_areSpans_33 (f_X3_areSpans_2 n) 24 mfr mun mbe men mov msp x1 0
      else none
theorem f_X3_areSpans_2_0 {mfr : Int64} {mun : Int64} {mbe : Nat → Int64} {men : Nat → Int64} {mov : Nat → Int32} {msp : Int32} {x1 : Int32} : f_X3_areSpans_2 0 mfr mun mbe men mov msp x1 = none := rfl
theorem f_X3_areSpans_2_s {n : Nat} {mfr : Int64} {mun : Int64} {mbe : Nat → Int64} {men : Nat → Int64} {mov : Nat → Int32} {msp : Int32} {x1 : Int32} : f_X3_areSpans_2 (n + 1) mfr mun mbe men mov msp x1 =
  if msp ≤ x1 then
    (f_X3_free mfr mun mbe men msp).bind fun r2 =>
    f_X3_areSpans_107 24 mbe men msp r2 0
  else
    if ix x1 10 then
      (f_X3_isIn mfr mun (mbe x1.toNatClampNeg) (men x1.toNatClampNeg)).bind fun r3 =>
      if r3 = 0 then
        some 0
      else
        f_X3_areSpans_33 (f_X3_areSpans_2 n) 24 mfr mun mbe men mov msp x1 0
    else none := rfl
noncomputable def f_X3_areSpans (mfr : Int64) (mun : Int64) (mbe : Nat → Int64) (men : Nat → Int64) (mov : Nat → Int32) (msp : Int32) : Option (Int32) :=
  f_X3_areSpans_2 24 mfr mun mbe men mov msp 0
theorem f_X3_areSpans_e {mfr : Int64} {mun : Int64} {mbe : Nat → Int64} {men : Nat → Int64} {mov : Nat → Int32} {msp : Int32} : f_X3_areSpans mfr mun mbe men mov msp = 
  f_X3_areSpans_2 24 mfr mun mbe men mov msp 0 := rfl
set_option maxHeartbeats 4000000 in
set_option maxRecDepth 100000 in
theorem c_X3_areSpans (l : Launch) (dC : Nat → ClassId) (dI : Nat → Nat → Nat) (cB cI cJ cZ : ClassId) (b : Nat → Nat) (sz : Nat) (mce : Nat → Int64) (mfr : Int64) (mun : Int64) (mbe : Nat → Int64) (men : Nat → Int64) (mov : Nat → Int32) (msp : Int32) (mwb : Nat → Int64) (mwe : Nat → Int64) (mwi : Int32) (mac : Int32) (mre : Int32) (mkn : Int32) (mth : Int32) (res : Int32) (hf : f_X3_areSpans mfr mun mbe men mov msp = some res) : kMi l yX3_areSpans wsX3_areSpans (kRm 2 1 22 53) dC dI cB cI cJ cZ [.ref (b 0)] sz (wMo cJ cZ b mce mfr mun mbe men mov msp mwb mwe mwi mac mre mkn mth) .boolean (res) (wMo cJ cZ b mce mfr mun mbe men mov msp mwb mwe mwi mac mre mkn mth) 1 22 := by
  refine kmet_i (y := yX3_areSpans) (cc := cX3_areSpans) (maxL := 3) (ret := (some .boolean)) RX3 (kvA 0 (b 0) kvE) kpl_X3 rfl rfl (Nat.le_of_ble_eq_true rfl) rfl (fun p e s m below meth c A ls hx hb hr hml hts hown hlocks hP hK hG hD hA hS hl => ?_)
  have hw0 := hts (.fieldLink RX3 56 "SpanbookerModel" "spans" "I") (List.mem_cons_of_mem _ kw_1078)
  have hw1 := hts (.fieldLink RX3 19 "SpanbookerModel" "begins" "[J") (List.mem_cons_of_mem _ kw_1075)
  have hw2 := hts (.fieldLink RX3 22 "SpanbookerModel" "ends" "[J") (List.mem_cons_of_mem _ kw_1076)
  have hw3 := hts (.fieldLink RX3 25 "SpanbookerModel" "over" "[Z") (List.mem_cons_of_mem _ kw_1077)
  have hiX3 : ∀ w ∈ u_ws RX3 TX3 14, w ∈ wsX3_areSpans := fun w h => List.mem_cons_of_mem _ (ku_X3 w h)
  have J107 : ∀ (n : Nat), ∀ (mce : Nat → Int64) (mfr : Int64) (mun : Int64) (mbe : Nat → Int64) (men : Nat → Int64) (mov : Nat → Int32) (msp : Int32) (mwb : Nat → Int64) (mwe : Nat → Int64) (mwi : Int32) (mac : Int32) (mre : Int32) (mkn : Int32) (mth : Int32) (ext0 : Nat → Int64) (x2 : Int32) (qn0 : Nat) (H : Heap) (locs : List Loc), va_P (dC, dI) vwCl ((wMo cJ cZ b mce mfr mun mbe men mov msp mwb mwe mwi mac mre mkn mth) ++ [(qn0, .inl (cJ, 22, .inr (.inl ext0)))]) H → va_D A ((wMo cJ cZ b mce mfr mun mbe men mov msp mwb mwe mwi mac mre mkn mth) ++ [(qn0, .inl (cJ, 22, .inr (.inl ext0)))]) → va_S A s.heap H locs → ∀ (ls : Array Slot), lv_has ls 3 (kvA 0 (b 0) (kvA 1 qn0 (kvI 2 x2 kvE))) → f_X3_areSpans_107 n mbe men msp ext0 x2 = some res → W p l e (headSpec wsX3_areSpans (kRm 2 1 22 53)).room s m ([.ref (b 0)] : List Value).toArray below meth c H locs 1 22 (MQ below (kI (dC, dI) .boolean (res) (wMo cJ cZ b mce mfr mun mbe men mov msp mwb mwe mwi mac mre mkn mth) A) ([.ref (b 0)] : List Value).toArray s 1 22 A) (F0 m 107 ls []) := by
    intro n
    induction n with
    | zero =>
      intro mce mfr mun mbe men mov msp mwb mwe mwi mac mre mkn mth ext0 x2 qn0 H locs hP hD hS ls hl h
      have h := f_X3_areSpans_107_0.symm.trans h
      cases h
    | succ n ih =>
      intro mce mfr mun mbe men mov msp mwb mwe mwi mac mre mkn mth ext0 x2 qn0 H locs hP hD hS ls hl h
      have h := f_X3_areSpans_107_s.symm.trans h
      refine lv_iload_n hx hb (kdr dgX3_areSpans_0 6 3 rfl rfl) rfl (lv_at hl 2 rfl) ?_
      refine lv_aload_n hx hb (kdr dgX3_areSpans_0 6 4 rfl rfl) rfl (lv_at hl 1 rfl) ?_
      obtain ⟨r1, g1, h⟩ := g_b h
      refine kq_i ((wMo cJ cZ b mce mfr mun mbe men mov msp mwb mwe mwi mac mre mkn mth) ++ [(qn0, .inl (cJ, 22, .inr (.inl ext0)))]) (fun qP qD qF => va_runS (As := [.ref qn0]) (rest := [.int x2]) ⟨hx, hb, hml, hown, hts⟩ (c_X3_freesOf l dC dI cB cI cJ cZ qn0 22 _ ext0  r1 g1) (kcwS hts kw_1364 kv_X3_freesOf rfl rfl ⟨(Nat.le_of_ble_eq_true rfl), (Nat.le_of_ble_eq_true rfl)⟩) (kpS (A := A) qP hK qD hG) rfl rfl hl.1 rfl (lv_room (Nat.le_of_ble_eq_true rfl)) (kdr dgX3_areSpans_0 6 5 rfl rfl) ⟨(Nat.le_of_ble_eq_true rfl), (Nat.le_of_ble_eq_true rfl)⟩) hP hD hS hA (kFr_r kFr_o) (fun H locs hP hD hS br1 => ?_)
      refine lv_icmp_ge (tgt := 143) hx hb (kdr dgX3_areSpans_0 6 6 rfl rfl) (by decide) (fun c2 => ?_) (fun c2 => ?_)
      · have h := g_t c2 h
        refine lv_iconst (v := 1) hx hb (kdr dgX3_areSpans_0 8 7 rfl rfl) (by decide) ?_
        have hP := hP.sub (ws' := (wMo cJ cZ b mce mfr mun mbe men mov msp mwb mwe mwi mac mre mkn mth)) [0, 1, 2, 3, 4, 5, 6] rfl
        have h := Option.some.inj h
        subst h
        refine W.widen (k := 1) (n := 22) (Nat.le_of_ble_eq_true rfl) (Nat.le_of_ble_eq_true rfl) ?_
        exact kret_i (v := 1) hx hb hr rfl hlocks hS hP (kdr dgX3_areSpans_0 8 8 rfl rfl)
      · have h := g_f c2 h
        refine lv_aload_n hx hb (kdr dgX3_areSpans_0 6 7 rfl rfl) rfl (lv_at hl 0 rfl) ?_
        refine lv_aload_n hx hb (kdr dgX3_areSpans_0 6 8 rfl rfl) rfl (lv_at hl 1 rfl) ?_
        refine lv_iconst (v := 2) hx hb (kdr dgX3_areSpans_0 6 9 rfl rfl) (by decide) ?_
        refine lv_iload_n hx hb (kdr dgX3_areSpans_0 7 0 rfl rfl) rfl (lv_at hl 2 rfl) ?_
        refine lv_imul hx hb (kdr dgX3_areSpans_0 7 1 rfl rfl) ?_
        obtain ⟨z2, h⟩ := g_if h
        refine va_lald hx hb hK hP 7 2 rfl rfl (ix_in z2) (kdr dgX3_areSpans_0 7 2 rfl rfl) ?_
        refine lv_aload_n hx hb (kdr dgX3_areSpans_0 7 3 rfl rfl) rfl (lv_at hl 1 rfl) ?_
        refine lv_iconst (v := 2) hx hb (kdr dgX3_areSpans_0 7 4 rfl rfl) (by decide) ?_
        refine lv_iload_n hx hb (kdr dgX3_areSpans_0 7 5 rfl rfl) rfl (lv_at hl 2 rfl) ?_
        refine lv_imul hx hb (kdr dgX3_areSpans_0 7 6 rfl rfl) ?_
        refine lv_iconst (v := 1) hx hb (kdr dgX3_areSpans_0 7 7 rfl rfl) (by decide) ?_
        refine lv_iadd hx hb (kdr dgX3_areSpans_0 7 8 rfl rfl) ?_
        obtain ⟨z3, h⟩ := g_if h
        refine va_lald hx hb hK hP 7 2 rfl rfl (ix_in z3) (kdr dgX3_areSpans_0 7 9 rfl rfl) ?_
        refine lv_iconst (v := (-1)) hx hb (kdr dgX3_areSpans_0 8 0 rfl rfl) (by decide) ?_
        obtain ⟨r5, g5, h⟩ := g_b h
        refine kq_i ((wMo cJ cZ b mce mfr mun mbe men mov msp mwb mwe mwi mac mre mkn mth) ++ [(qn0, .inl (cJ, 22, .inr (.inl ext0)))]) (fun qP qD qF => va_runV (As := [.long (ext0 (2 * x2).toNatClampNeg), .long (ext0 ((2 * x2) + 1).toNatClampNeg), .int (-1)]) (rest := []) ⟨hx, hb, hml, hown, hts⟩ (c_X3_meetsSome l dC dI cB cI cJ cZ b _ mce mfr mun mbe men mov msp mwb mwe mwi mac mre mkn mth (ext0 (2 * x2).toNatClampNeg) (ext0 ((2 * x2) + 1).toNatClampNeg) (-1) r5 g5) (kcwV hts kw_1204 kv_X3_meetsSome rfl rfl ⟨(Nat.le_of_ble_eq_true rfl), (Nat.le_of_ble_eq_true rfl)⟩) (kpV (A := A) qP hK qD hG (krecv_5 (q0 := 0) hK hP rfl)) rfl rfl hl.1 rfl (lv_room (Nat.le_of_ble_eq_true rfl)) (kdr dgX3_areSpans_0 8 1 rfl rfl) ⟨(Nat.le_of_ble_eq_true rfl), (Nat.le_of_ble_eq_true rfl)⟩) hP hD hS hA (kFr_l kFr_Mo) (fun H locs hP hD hS br5 => ?_)
        refine lv_if_eq (tgt := 137) hx hb (kdr dgX3_areSpans_0 8 2 rfl rfl) (by decide) (fun c6 => ?_) (fun c6 => ?_)
        · have h := g_t c6 h
          refine lv_iinc (v := x2 + 1) (lv' := (kvI 2 (x2 + 1) (kvA 0 (b 0) (kvA 1 qn0 kvE)))) hx hb (kdr dgX3_areSpans_0 8 5 rfl rfl) hl (k := 2) rfl rfl (by decide) rfl (fun ls hl => ?_)
          refine lv_goto (tgt := 107) hx hb (kdr dgX3_areSpans_0 8 6 rfl rfl) (by decide) ?_
          exact ih mce mfr mun mbe men mov msp mwb mwe mwi mac mre mkn mth ext0 (x2 + 1) qn0 _ _ hP hD hS ls (lv_sub hl [1, 2, 0] rfl) h
        · have h := g_f c6 h
          refine lv_iconst (v := 0) hx hb (kdr dgX3_areSpans_0 8 3 rfl rfl) (by decide) ?_
          have hP := hP.sub (ws' := (wMo cJ cZ b mce mfr mun mbe men mov msp mwb mwe mwi mac mre mkn mth)) [0, 1, 2, 3, 4, 5, 6] rfl
          have h := Option.some.inj h
          subst h
          refine W.widen (k := 1) (n := 22) (Nat.le_of_ble_eq_true rfl) (Nat.le_of_ble_eq_true rfl) ?_
          exact kret_i (v := 0) hx hb hr rfl hlocks hS hP (kdr dgX3_areSpans_0 8 4 rfl rfl)
  have J33 : ∀ (K2 : (Int64) → (Int64) → (Nat → Int64) → (Nat → Int64) → (Nat → Int32) → (Int32) → (Int32) → Option (Int32)), (∀ (mce : Nat → Int64) (mfr : Int64) (mun : Int64) (mbe : Nat → Int64) (men : Nat → Int64) (mov : Nat → Int32) (msp : Int32) (mwb : Nat → Int64) (mwe : Nat → Int64) (mwi : Int32) (mac : Int32) (mre : Int32) (mkn : Int32) (mth : Int32) (x1 : Int32) (H : Heap) (locs : List Loc), va_P (dC, dI) vwCl (wMo cJ cZ b mce mfr mun mbe men mov msp mwb mwe mwi mac mre mkn mth) H → va_D A (wMo cJ cZ b mce mfr mun mbe men mov msp mwb mwe mwi mac mre mkn mth) → va_S A s.heap H locs → ∀ (ls : Array Slot), lv_has ls 3 (kvA 0 (b 0) (kvI 1 x1 kvE)) → K2 mfr mun mbe men mov msp x1 = some res → W p l e (headSpec wsX3_areSpans (kRm 2 1 22 53)).room s m ([.ref (b 0)] : List Value).toArray below meth c H locs 0 0 (MQ below (kI (dC, dI) .boolean (res) (wMo cJ cZ b mce mfr mun mbe men mov msp mwb mwe mwi mac mre mkn mth) A) ([.ref (b 0)] : List Value).toArray s 1 22 A) (F0 m 2 ls [])) → ∀ (n : Nat), ∀ (mce : Nat → Int64) (mfr : Int64) (mun : Int64) (mbe : Nat → Int64) (men : Nat → Int64) (mov : Nat → Int32) (msp : Int32) (mwb : Nat → Int64) (mwe : Nat → Int64) (mwi : Int32) (mac : Int32) (mre : Int32) (mkn : Int32) (mth : Int32) (x1 : Int32) (x2 : Int32) (H : Heap) (locs : List Loc), va_P (dC, dI) vwCl (wMo cJ cZ b mce mfr mun mbe men mov msp mwb mwe mwi mac mre mkn mth) H → va_D A (wMo cJ cZ b mce mfr mun mbe men mov msp mwb mwe mwi mac mre mkn mth) → va_S A s.heap H locs → ∀ (ls : Array Slot), lv_has ls 3 (kvA 0 (b 0) (kvI 1 x1 (kvI 2 x2 kvE))) → f_X3_areSpans_33 K2 n mfr mun mbe men mov msp x1 x2 = some res → W p l e (headSpec wsX3_areSpans (kRm 2 1 22 53)).room s m ([.ref (b 0)] : List Value).toArray below meth c H locs 0 0 (MQ below (kI (dC, dI) .boolean (res) (wMo cJ cZ b mce mfr mun mbe men mov msp mwb mwe mwi mac mre mkn mth) A) ([.ref (b 0)] : List Value).toArray s 1 22 A) (F0 m 33 ls []) := by
    intro K2 hK2 n
    induction n with
    | zero =>
      intro mce mfr mun mbe men mov msp mwb mwe mwi mac mre mkn mth x1 x2 H locs hP hD hS ls hl h
      have h := f_X3_areSpans_33_0.symm.trans h
      cases h
    | succ n ih =>
      intro mce mfr mun mbe men mov msp mwb mwe mwi mac mre mkn mth x1 x2 H locs hP hD hS ls hl h
      have h := f_X3_areSpans_33_s.symm.trans h
      refine lv_iload_n hx hb (kdr dgX3_areSpans_0 2 1 rfl rfl) rfl (lv_at hl 2 rfl) ?_
      refine lv_iload_n hx hb (kdr dgX3_areSpans_0 2 2 rfl rfl) rfl (lv_at hl 1 rfl) ?_
      refine lv_icmp_ge (tgt := 94) hx hb (kdr dgX3_areSpans_0 2 3 rfl rfl) (by decide) (fun c1 => ?_) (fun c1 => ?_)
      · have h := g_t c1 h
        refine lv_iinc (v := x1 + 1) (lv' := (kvI 1 (x1 + 1) (kvA 0 (b 0) (kvI 2 x2 kvE)))) hx hb (kdr dgX3_areSpans_0 5 6 rfl rfl) hl (k := 1) rfl rfl (by decide) rfl (fun ls hl => ?_)
        refine lv_goto (tgt := 2) hx hb (kdr dgX3_areSpans_0 5 7 rfl rfl) (by decide) ?_
        exact hK2 mce mfr mun mbe men mov msp mwb mwe mwi mac mre mkn mth (x1 + 1) _ _ hP hD hS ls (lv_sub hl [1, 0] rfl) h
      · have h := g_f c1 h
        refine lv_aload_n hx hb (kdr dgX3_areSpans_0 2 4 rfl rfl) rfl (lv_at hl 0 rfl) ?_
        refine va_get (D := (dC, dI)) (ci := 5) (v := .ref (b 2)) (C := RX3) (T := TX3) (N := 14) hx hb hts hiX3 hown hK hP 0 rfl rfl 3 (by decide) hw1 (fun _ h9 => h9) rfl (kdr dgX3_areSpans_0 2 5 rfl rfl) ?_
        refine lv_iload_n hx hb (kdr dgX3_areSpans_0 2 6 rfl rfl) rfl (lv_at hl 1 rfl) ?_
        obtain ⟨z1, h⟩ := g_if h
        refine va_lald hx hb hK hP 2 2 rfl rfl (ix_in z1) (kdr dgX3_areSpans_0 2 7 rfl rfl) ?_
        refine lv_aload_n hx hb (kdr dgX3_areSpans_0 2 8 rfl rfl) rfl (lv_at hl 0 rfl) ?_
        refine va_get (D := (dC, dI)) (ci := 5) (v := .ref (b 3)) (C := RX3) (T := TX3) (N := 14) hx hb hts hiX3 hown hK hP 0 rfl rfl 4 (by decide) hw2 (fun _ h9 => h9) rfl (kdr dgX3_areSpans_0 2 9 rfl rfl) ?_
        refine lv_iload_n hx hb (kdr dgX3_areSpans_0 3 0 rfl rfl) rfl (lv_at hl 1 rfl) ?_
        refine va_lald hx hb hK hP 3 2 rfl rfl (ix_in z1) (kdr dgX3_areSpans_0 3 1 rfl rfl) ?_
        refine lv_aload_n hx hb (kdr dgX3_areSpans_0 3 2 rfl rfl) rfl (lv_at hl 0 rfl) ?_
        refine va_get (D := (dC, dI)) (ci := 5) (v := .ref (b 2)) (C := RX3) (T := TX3) (N := 14) hx hb hts hiX3 hown hK hP 0 rfl rfl 3 (by decide) hw1 (fun _ h9 => h9) rfl (kdr dgX3_areSpans_0 3 3 rfl rfl) ?_
        refine lv_iload_n hx hb (kdr dgX3_areSpans_0 3 4 rfl rfl) rfl (lv_at hl 2 rfl) ?_
        obtain ⟨z2, h⟩ := g_if h
        refine va_lald hx hb hK hP 2 2 rfl rfl (ix_in z2) (kdr dgX3_areSpans_0 3 5 rfl rfl) ?_
        refine lv_aload_n hx hb (kdr dgX3_areSpans_0 3 6 rfl rfl) rfl (lv_at hl 0 rfl) ?_
        refine va_get (D := (dC, dI)) (ci := 5) (v := .ref (b 3)) (C := RX3) (T := TX3) (N := 14) hx hb hts hiX3 hown hK hP 0 rfl rfl 4 (by decide) hw2 (fun _ h9 => h9) rfl (kdr dgX3_areSpans_0 3 7 rfl rfl) ?_
        refine lv_iload_n hx hb (kdr dgX3_areSpans_0 3 8 rfl rfl) rfl (lv_at hl 2 rfl) ?_
        refine va_lald hx hb hK hP 3 2 rfl rfl (ix_in z2) (kdr dgX3_areSpans_0 3 9 rfl rfl) ?_
        obtain ⟨r4, g4, h⟩ := g_b h
        refine kq_i (wMo cJ cZ b mce mfr mun mbe men mov msp mwb mwe mwi mac mre mkn mth) (fun qP qD qF => va_runS (As := [.long (mbe x1.toNatClampNeg), .long (men x1.toNatClampNeg), .long (mbe x2.toNatClampNeg), .long (men x2.toNatClampNeg)]) (rest := []) ⟨hx, hb, hml, hown, hts⟩ (c_X3_meet l dC dI cB cI cJ cZ  _  (mbe x1.toNatClampNeg) (men x1.toNatClampNeg) (mbe x2.toNatClampNeg) (men x2.toNatClampNeg) r4 g4) (kcwS hts kw_1208 kv_X3_meet rfl rfl ⟨(Nat.le_of_ble_eq_true rfl), (Nat.le_of_ble_eq_true rfl)⟩) (kpS (A := A) (kPnil) hK ((kDnil (A := A))) hG) rfl rfl hl.1 rfl (lv_room (Nat.le_of_ble_eq_true rfl)) (kdr dgX3_areSpans_0 4 0 rfl rfl) ⟨(Nat.le_of_ble_eq_true rfl), (Nat.le_of_ble_eq_true rfl)⟩) hP hD hS hA kFr_n (fun H locs hP hD hS br4 => ?_)
        refine lv_if_eq (tgt := 88) hx hb (kdr dgX3_areSpans_0 4 1 rfl rfl) (by decide) (fun c5 => ?_) (fun c5 => ?_)
        · have h := g_t c5 h
          refine lv_iinc (v := x2 + 1) (lv' := (kvI 2 (x2 + 1) (kvA 0 (b 0) (kvI 1 x1 kvE)))) hx hb (kdr dgX3_areSpans_0 5 4 rfl rfl) hl (k := 2) rfl rfl (by decide) rfl (fun ls hl => ?_)
          refine lv_goto (tgt := 33) hx hb (kdr dgX3_areSpans_0 5 5 rfl rfl) (by decide) ?_
          exact ih mce mfr mun mbe men mov msp mwb mwe mwi mac mre mkn mth x1 (x2 + 1) _ _ hP hD hS ls (lv_sub hl [1, 2, 0] rfl) h
        · have h := g_f c5 h
          refine lv_aload_n hx hb (kdr dgX3_areSpans_0 4 2 rfl rfl) rfl (lv_at hl 0 rfl) ?_
          refine va_get (D := (dC, dI)) (ci := 5) (v := .ref (b 4)) (C := RX3) (T := TX3) (N := 14) hx hb hts hiX3 hown hK hP 0 rfl rfl 5 (by decide) hw3 (fun _ h9 => h9) rfl (kdr dgX3_areSpans_0 4 3 rfl rfl) ?_
          refine lv_iload_n hx hb (kdr dgX3_areSpans_0 4 4 rfl rfl) rfl (lv_at hl 1 rfl) ?_
          refine va_zald hx hb hK hP 4 3 rfl rfl (ix_in z1) (kdr dgX3_areSpans_0 4 5 rfl rfl) ?_
          refine lv_if_ne (tgt := 88) hx hb (kdr dgX3_areSpans_0 4 6 rfl rfl) (by decide) (fun c6 => ?_) (fun c6 => ?_)
          · have h := g_f c6 h
            refine lv_iinc (v := x2 + 1) (lv' := (kvI 2 (x2 + 1) (kvA 0 (b 0) (kvI 1 x1 kvE)))) hx hb (kdr dgX3_areSpans_0 5 4 rfl rfl) hl (k := 2) rfl rfl (by decide) rfl (fun ls hl => ?_)
            refine lv_goto (tgt := 33) hx hb (kdr dgX3_areSpans_0 5 5 rfl rfl) (by decide) ?_
            exact ih mce mfr mun mbe men mov msp mwb mwe mwi mac mre mkn mth x1 (x2 + 1) _ _ hP hD hS ls (lv_sub hl [1, 2, 0] rfl) h
          · have h := g_t c6 h
            refine lv_aload_n hx hb (kdr dgX3_areSpans_0 4 7 rfl rfl) rfl (lv_at hl 0 rfl) ?_
            refine va_get (D := (dC, dI)) (ci := 5) (v := .ref (b 4)) (C := RX3) (T := TX3) (N := 14) hx hb hts hiX3 hown hK hP 0 rfl rfl 5 (by decide) hw3 (fun _ h9 => h9) rfl (kdr dgX3_areSpans_0 4 8 rfl rfl) ?_
            refine lv_iload_n hx hb (kdr dgX3_areSpans_0 4 9 rfl rfl) rfl (lv_at hl 2 rfl) ?_
            refine va_zald hx hb hK hP 4 3 rfl rfl (ix_in z2) (kdr dgX3_areSpans_0 5 0 rfl rfl) ?_
            refine lv_if_ne (tgt := 88) hx hb (kdr dgX3_areSpans_0 5 1 rfl rfl) (by decide) (fun c7 => ?_) (fun c7 => ?_)
            · have h := g_f c7 h
              refine lv_iinc (v := x2 + 1) (lv' := (kvI 2 (x2 + 1) (kvA 0 (b 0) (kvI 1 x1 kvE)))) hx hb (kdr dgX3_areSpans_0 5 4 rfl rfl) hl (k := 2) rfl rfl (by decide) rfl (fun ls hl => ?_)
              refine lv_goto (tgt := 33) hx hb (kdr dgX3_areSpans_0 5 5 rfl rfl) (by decide) ?_
              exact ih mce mfr mun mbe men mov msp mwb mwe mwi mac mre mkn mth x1 (x2 + 1) _ _ hP hD hS ls (lv_sub hl [1, 2, 0] rfl) h
            · have h := g_t c7 h
              refine lv_iconst (v := 0) hx hb (kdr dgX3_areSpans_0 5 2 rfl rfl) (by decide) ?_
              have h := Option.some.inj h
              subst h
              refine W.widen (k := 1) (n := 22) (Nat.le_of_ble_eq_true rfl) (Nat.le_of_ble_eq_true rfl) ?_
              exact kret_i (v := 0) hx hb hr rfl hlocks hS hP (kdr dgX3_areSpans_0 5 3 rfl rfl)
  have J2 : ∀ (n : Nat), ∀ (mce : Nat → Int64) (mfr : Int64) (mun : Int64) (mbe : Nat → Int64) (men : Nat → Int64) (mov : Nat → Int32) (msp : Int32) (mwb : Nat → Int64) (mwe : Nat → Int64) (mwi : Int32) (mac : Int32) (mre : Int32) (mkn : Int32) (mth : Int32) (x1 : Int32) (H : Heap) (locs : List Loc), va_P (dC, dI) vwCl (wMo cJ cZ b mce mfr mun mbe men mov msp mwb mwe mwi mac mre mkn mth) H → va_D A (wMo cJ cZ b mce mfr mun mbe men mov msp mwb mwe mwi mac mre mkn mth) → va_S A s.heap H locs → ∀ (ls : Array Slot), lv_has ls 3 (kvA 0 (b 0) (kvI 1 x1 kvE)) → f_X3_areSpans_2 n mfr mun mbe men mov msp x1 = some res → W p l e (headSpec wsX3_areSpans (kRm 2 1 22 53)).room s m ([.ref (b 0)] : List Value).toArray below meth c H locs 0 0 (MQ below (kI (dC, dI) .boolean (res) (wMo cJ cZ b mce mfr mun mbe men mov msp mwb mwe mwi mac mre mkn mth) A) ([.ref (b 0)] : List Value).toArray s 1 22 A) (F0 m 2 ls []) := by
    intro n
    induction n with
    | zero =>
      intro mce mfr mun mbe men mov msp mwb mwe mwi mac mre mkn mth x1 H locs hP hD hS ls hl h
      have h := f_X3_areSpans_2_0.symm.trans h
      cases h
    | succ n ih =>
      intro mce mfr mun mbe men mov msp mwb mwe mwi mac mre mkn mth x1 H locs hP hD hS ls hl h
      have h := f_X3_areSpans_2_s.symm.trans h
      refine lv_iload_n hx hb (kdr dgX3_areSpans_0 0 2 rfl rfl) rfl (lv_at hl 1 rfl) ?_
      refine lv_aload_n hx hb (kdr dgX3_areSpans_0 0 3 rfl rfl) rfl (lv_at hl 0 rfl) ?_
      refine va_get (D := (dC, dI)) (ci := 5) (v := .int msp) (C := RX3) (T := TX3) (N := 14) hx hb hts hiX3 hown hK hP 0 rfl rfl 6 (by decide) hw0 (fun _ h9 => h9) rfl (kdr dgX3_areSpans_0 0 4 rfl rfl) ?_
      refine lv_icmp_ge (tgt := 100) hx hb (kdr dgX3_areSpans_0 0 5 rfl rfl) (by decide) (fun c1 => ?_) (fun c1 => ?_)
      · have h := g_t c1 h
        refine lv_aload_n hx hb (kdr dgX3_areSpans_0 5 8 rfl rfl) rfl (lv_at hl 0 rfl) ?_
        obtain ⟨r2, g2, h⟩ := g_b h
        refine kcall_r (wMo cJ cZ b mce mfr mun mbe men mov msp mwb mwe mwi mac mre mkn mth) (va_runV (As := []) (rest := []) ⟨hx, hb, hml, hown, hts⟩ (c_X3_free l dC dI cB cI cJ cZ b _ mce mfr mun mbe men mov msp mwb mwe mwi mac mre mkn mth  r2 g2) (kcwV hts kw_1360 kv_X3_free rfl rfl ⟨(Nat.le_of_ble_eq_true rfl), (Nat.le_of_ble_eq_true rfl)⟩) (kpV (A := A) (hP.sub [0, 1, 2, 3, 4, 5, 6] rfl) hK (hD.sub [0, 1, 2, 3, 4, 5, 6] (by decide) rfl) hG (krecv_5 (q0 := 0) hK hP rfl)) rfl rfl hl.1 rfl (lv_room (Nat.le_of_ble_eq_true rfl)) (kdr dgX3_areSpans_0 5 9 rfl rfl) ⟨(Nat.le_of_ble_eq_true rfl), (Nat.le_of_ble_eq_true rfl)⟩) hP hD hS hA [0, 1, 2, 3, 4, 5, 6] [] rfl rfl [] rfl rfl rfl (by decide) rfl rfl (fun qn0 H locs hP hD hS => ?_)
        have hP : va_P (dC, dI) vwCl ((wMo cJ cZ b mce mfr mun mbe men mov msp mwb mwe mwi mac mre mkn mth) ++ [(qn0, .inl (cJ, 22, .inr (.inl r2)))]) H := hP
        have hD : va_D A ((wMo cJ cZ b mce mfr mun mbe men mov msp mwb mwe mwi mac mre mkn mth) ++ [(qn0, .inl (cJ, 22, .inr (.inl r2)))]) := hD
        refine lv_astore_n (lv' := (kvA 1 qn0 (kvA 0 (b 0) kvE))) hx hb (kdr dgX3_areSpans_0 6 0 rfl rfl) rfl hl (by decide) rfl (fun ls hl => ?_)
        refine lv_iconst (v := 0) hx hb (kdr dgX3_areSpans_0 6 1 rfl rfl) (by decide) ?_
        refine lv_istore_n (lv' := (kvI 2 0 (kvA 1 qn0 (kvA 0 (b 0) kvE)))) hx hb (kdr dgX3_areSpans_0 6 2 rfl rfl) rfl hl (by decide) rfl (fun ls hl => ?_)
        exact J107 24 mce mfr mun mbe men mov msp mwb mwe mwi mac mre mkn mth r2 0 qn0 _ _ hP hD hS ls (lv_sub hl [2, 1, 0] rfl) h
      · have h := g_f c1 h
        refine lv_aload_n hx hb (kdr dgX3_areSpans_0 0 6 rfl rfl) rfl (lv_at hl 0 rfl) ?_
        refine lv_aload_n hx hb (kdr dgX3_areSpans_0 0 7 rfl rfl) rfl (lv_at hl 0 rfl) ?_
        refine va_get (D := (dC, dI)) (ci := 5) (v := .ref (b 2)) (C := RX3) (T := TX3) (N := 14) hx hb hts hiX3 hown hK hP 0 rfl rfl 3 (by decide) hw1 (fun _ h9 => h9) rfl (kdr dgX3_areSpans_0 0 8 rfl rfl) ?_
        refine lv_iload_n hx hb (kdr dgX3_areSpans_0 0 9 rfl rfl) rfl (lv_at hl 1 rfl) ?_
        obtain ⟨z1, h⟩ := g_if h
        refine va_lald hx hb hK hP 2 2 rfl rfl (ix_in z1) (kdr dgX3_areSpans_0 1 0 rfl rfl) ?_
        refine lv_aload_n hx hb (kdr dgX3_areSpans_0 1 1 rfl rfl) rfl (lv_at hl 0 rfl) ?_
        refine va_get (D := (dC, dI)) (ci := 5) (v := .ref (b 3)) (C := RX3) (T := TX3) (N := 14) hx hb hts hiX3 hown hK hP 0 rfl rfl 4 (by decide) hw2 (fun _ h9 => h9) rfl (kdr dgX3_areSpans_0 1 2 rfl rfl) ?_
        refine lv_iload_n hx hb (kdr dgX3_areSpans_0 1 3 rfl rfl) rfl (lv_at hl 1 rfl) ?_
        refine va_lald hx hb hK hP 3 2 rfl rfl (ix_in z1) (kdr dgX3_areSpans_0 1 4 rfl rfl) ?_
        obtain ⟨r3, g3, h⟩ := g_b h
        refine kq_i (wMo cJ cZ b mce mfr mun mbe men mov msp mwb mwe mwi mac mre mkn mth) (fun qP qD qF => va_runV (As := [.long (mbe x1.toNatClampNeg), .long (men x1.toNatClampNeg)]) (rest := []) ⟨hx, hb, hml, hown, hts⟩ (c_X3_isIn l dC dI cB cI cJ cZ b _ mce mfr mun mbe men mov msp mwb mwe mwi mac mre mkn mth (mbe x1.toNatClampNeg) (men x1.toNatClampNeg) r3 g3) (kcwV hts kw_1200 kv_X3_isIn rfl rfl ⟨(Nat.le_of_ble_eq_true rfl), (Nat.le_of_ble_eq_true rfl)⟩) (kpV (A := A) qP hK qD hG (krecv_5 (q0 := 0) hK hP rfl)) rfl rfl hl.1 rfl (lv_room (Nat.le_of_ble_eq_true rfl)) (kdr dgX3_areSpans_0 1 5 rfl rfl) ⟨(Nat.le_of_ble_eq_true rfl), (Nat.le_of_ble_eq_true rfl)⟩) hP hD hS hA kFr_Mo (fun H locs hP hD hS br3 => ?_)
        refine lv_if_ne (tgt := 31) hx hb (kdr dgX3_areSpans_0 1 6 rfl rfl) (by decide) (fun c4 => ?_) (fun c4 => ?_)
        · have h := g_f c4 h
          refine lv_iconst (v := 0) hx hb (kdr dgX3_areSpans_0 1 9 rfl rfl) (by decide) ?_
          refine lv_istore_n (lv' := (kvI 2 0 (kvA 0 (b 0) (kvI 1 x1 kvE)))) hx hb (kdr dgX3_areSpans_0 2 0 rfl rfl) rfl hl (by decide) rfl (fun ls hl => ?_)
          exact J33 (f_X3_areSpans_2 n) ih 24 mce mfr mun mbe men mov msp mwb mwe mwi mac mre mkn mth x1 0 _ _ hP hD hS ls (lv_sub hl [1, 2, 0] rfl) h
        · have h := g_t c4 h
          refine lv_iconst (v := 0) hx hb (kdr dgX3_areSpans_0 1 7 rfl rfl) (by decide) ?_
          have h := Option.some.inj h
          subst h
          refine W.widen (k := 1) (n := 22) (Nat.le_of_ble_eq_true rfl) (Nat.le_of_ble_eq_true rfl) ?_
          exact kret_i (v := 0) hx hb hr rfl hlocks hS hP (kdr dgX3_areSpans_0 1 8 rfl rfl)
  have h := f_X3_areSpans_e.symm.trans hf
  refine lv_iconst (v := 0) hx hb (kdr dgX3_areSpans_0 0 0 rfl rfl) (by decide) ?_
  refine lv_istore_n (lv' := (kvI 1 0 (kvA 0 (b 0) kvE))) hx hb (kdr dgX3_areSpans_0 0 1 rfl rfl) rfl hl (by decide) rfl (fun ls hl => ?_)
  exact J2 24 mce mfr mun mbe men mov msp mwb mwe mwi mac mre mkn mth 0 _ _ hP hD hS ls (lv_sub hl [1, 0] rfl) h
noncomputable abbrev wsX3_isSound : List Cond := kWs yX3_isSound cX3_isSound 2 (some .boolean)
noncomputable def f_X3_isSound (mfr : Int64) (mun : Int64) (mbe : Nat → Int64) (men : Nat → Int64) (mov : Nat → Int32) (msp : Int32) (mwb : Nat → Int64) (mwe : Nat → Int64) (mwi : Int32) : Option ((Int32) × (Int32)) :=
  (f_X3_chosenNow mwb mwe mwi).bind fun r1 =>
  if mun ≤ mfr then
    some (0, 0)
  else
    (f_X3_areSpans mfr mun mbe men mov msp).bind fun r3 =>
    if r3 = 0 then
      some (0, 0)
    else
      (f_X3_takenLength mfr mun mbe men msp).bind fun r5 =>
      (f_X3_freeLength mfr mun mbe men msp).bind fun r6 =>
      if (r5 + r6) = (mun - mfr) then
        (f_X3_areApart mwb mwe mwi r1).bind fun r8 =>
        if r8 = 0 then
          some (0, 0)
        else
          (f_X3_ones r1).bind fun r10 =>
          (f_X3_mostOfAll mwb mwe mwi).bind fun r11 =>
          if r10 = r11 then
            (f_X3_roomsOf mwb mwe mwi).bind fun r13 =>
            (f_X3_deepest 8 8 mwb mwe mwi).bind fun r14 =>
            if r13 = r14 then
              some (1, 0)
            else
              some (0, 0)
          else
            some (0, 0)
      else
        some (0, 0)
theorem f_X3_isSound_e {mfr : Int64} {mun : Int64} {mbe : Nat → Int64} {men : Nat → Int64} {mov : Nat → Int32} {msp : Int32} {mwb : Nat → Int64} {mwe : Nat → Int64} {mwi : Int32} : f_X3_isSound mfr mun mbe men mov msp mwb mwe mwi = 
  (f_X3_chosenNow mwb mwe mwi).bind fun r1 =>
  if mun ≤ mfr then
    some (0, 0)
  else
    (f_X3_areSpans mfr mun mbe men mov msp).bind fun r3 =>
    if r3 = 0 then
      some (0, 0)
    else
      (f_X3_takenLength mfr mun mbe men msp).bind fun r5 =>
      (f_X3_freeLength mfr mun mbe men msp).bind fun r6 =>
      if (r5 + r6) = (mun - mfr) then
        (f_X3_areApart mwb mwe mwi r1).bind fun r8 =>
        if r8 = 0 then
          some (0, 0)
        else
          (f_X3_ones r1).bind fun r10 =>
          (f_X3_mostOfAll mwb mwe mwi).bind fun r11 =>
          if r10 = r11 then
            (f_X3_roomsOf mwb mwe mwi).bind fun r13 =>
            (f_X3_deepest 8 8 mwb mwe mwi).bind fun r14 =>
            if r13 = r14 then
              some (1, 0)
            else
              some (0, 0)
          else
            some (0, 0)
      else
        some (0, 0) := rfl
set_option maxHeartbeats 4000000 in
set_option maxRecDepth 100000 in
theorem c_X3_isSound (l : Launch) (dC : Nat → ClassId) (dI : Nat → Nat → Nat) (cB cI cJ cZ : ClassId) (b : Nat → Nat) (sz : Nat) (mce : Nat → Int64) (mfr : Int64) (mun : Int64) (mbe : Nat → Int64) (men : Nat → Int64) (mov : Nat → Int32) (msp : Int32) (mwb : Nat → Int64) (mwe : Nat → Int64) (mwi : Int32) (mac : Int32) (mre : Int32) (mkn : Int32) (mth : Int32) (res : (Int32) × (Int32)) (hf : f_X3_isSound mfr mun mbe men mov msp mwb mwe mwi = some res) : kMi l yX3_isSound wsX3_isSound (kRm 4 3 60 98) dC dI cB cI cJ cZ [.ref (b 0)] sz (wMo cJ cZ b mce mfr mun mbe men mov msp mwb mwe mwi mac mre mkn mth) .boolean (res.1) (wMo cJ cZ b mce mfr mun mbe men mov msp mwb mwe mwi mac mre mkn (res.2)) 3 60 := by
  refine kmet_i (y := yX3_isSound) (cc := cX3_isSound) (maxL := 2) (ret := (some .boolean)) RX3 (kvA 0 (b 0) kvE) kpl_X3 rfl rfl (Nat.le_of_ble_eq_true rfl) rfl (fun p e s m below meth c A ls hx hb hr hml hts hown hlocks hP hK hG hD hA hS hl => ?_)
  have hw0 := hts (.fieldLink RX3 35 "SpanbookerModel" "thrown" "I") (List.mem_cons_of_mem _ kw_1085)
  have hw1 := hts (.fieldLink RX3 53 "SpanbookerModel" "from" "J") (List.mem_cons_of_mem _ kw_1073)
  have hw2 := hts (.fieldLink RX3 15 "SpanbookerModel" "until" "J") (List.mem_cons_of_mem _ kw_1074)
  have hw3 := hts (.fieldLink RX3 29 "SpanbookerModel" "wishBegins" "[J") (List.mem_cons_of_mem _ kw_1079)
  have hw4 := hts (.fieldLink RX3 32 "SpanbookerModel" "wishEnds" "[J") (List.mem_cons_of_mem _ kw_1080)
  have hw5 := hts (.fieldLink RX3 88 "SpanbookerModel" "wishes" "I") (List.mem_cons_of_mem _ kw_1081)
  have hiX3 : ∀ w ∈ u_ws RX3 TX3 14, w ∈ wsX3_isSound := fun w h => List.mem_cons_of_mem _ (ku_X3 w h)
  have h := f_X3_isSound_e.symm.trans hf
  refine lv_aload_n hx hb (kdr dgX3_isSound_0 0 0 rfl rfl) rfl (lv_at hl 0 rfl) ?_
  refine lv_iconst (v := 0) hx hb (kdr dgX3_isSound_0 0 1 rfl rfl) (by decide) ?_
  refine va_put (D := (dC, dI)) (ci := 5) (v := .int 0) (ty := .int) (C := RX3) (T := TX3) (N := 14) hx hb hts hiX3 tyX3 tyX3_ok nmX3 hown hK hP hD hS 0 rfl rfl 13 (by decide) hw0 (fun _ h9 => h9) rfl (by decide +kernel) rfl rfl (Nat.le_of_ble_eq_true rfl) (kdr dgX3_isSound_0 0 2 rfl rfl) (fun H locs hP hD hS => ?_)
  have hP : va_P (dC, dI) vwCl (wMo cJ cZ b mce mfr mun mbe men mov msp mwb mwe mwi mac mre mkn 0) H := hP
  have hD : va_D A (wMo cJ cZ b mce mfr mun mbe men mov msp mwb mwe mwi mac mre mkn 0) := hD
  refine lv_aload_n hx hb (kdr dgX3_isSound_0 0 3 rfl rfl) rfl (lv_at hl 0 rfl) ?_
  obtain ⟨r1, g1, h⟩ := g_b h
  refine kq_i (wMo cJ cZ b mce mfr mun mbe men mov msp mwb mwe mwi mac mre mkn 0) (fun qP qD qF => va_runV (As := []) (rest := []) ⟨hx, hb, hml, hown, hts⟩ (c_X3_chosenNow l dC dI cB cI cJ cZ b _ mce mfr mun mbe men mov msp mwb mwe mwi mac mre mkn 0  r1 g1) (kcwV hts kw_1411 kv_X3_chosenNow rfl rfl ⟨(Nat.le_of_ble_eq_true rfl), (Nat.le_of_ble_eq_true rfl)⟩) (kpV (A := A) qP hK qD hG (krecv_5 (q0 := 0) hK hP rfl)) rfl rfl hl.1 rfl (lv_room (Nat.le_of_ble_eq_true rfl)) (kdr dgX3_isSound_0 0 4 rfl rfl) ⟨(Nat.le_of_ble_eq_true rfl), (Nat.le_of_ble_eq_true rfl)⟩) hP hD hS hA kFr_Mo (fun H locs hP hD hS br1 => ?_)
  refine lv_istore_n (lv' := (kvI 1 r1 (kvA 0 (b 0) kvE))) hx hb (kdr dgX3_isSound_0 0 5 rfl rfl) rfl hl (by decide) rfl (fun ls hl => ?_)
  refine lv_aload_n hx hb (kdr dgX3_isSound_0 0 6 rfl rfl) rfl (lv_at hl 1 rfl) ?_
  refine va_get (D := (dC, dI)) (ci := 5) (v := .long mfr) (C := RX3) (T := TX3) (N := 14) hx hb hts hiX3 hown hK hP 0 rfl rfl 1 (by decide) hw1 (fun _ h9 => h9) rfl (kdr dgX3_isSound_0 0 7 rfl rfl) ?_
  refine lv_aload_n hx hb (kdr dgX3_isSound_0 0 8 rfl rfl) rfl (lv_at hl 1 rfl) ?_
  refine va_get (D := (dC, dI)) (ci := 5) (v := .long mun) (C := RX3) (T := TX3) (N := 14) hx hb hts hiX3 hown hK hP 0 rfl rfl 2 (by decide) hw2 (fun _ h9 => h9) rfl (kdr dgX3_isSound_0 0 9 rfl rfl) ?_
  refine kl_ge (pc := 18) (tgt := 96) hx hb (kdr dgX3_isSound_0 1 0 rfl rfl) (kdr dgX3_isSound_0 1 1 rfl rfl) (by decide) (fun c2 => ?_) (fun c2 => ?_)
  · have h := g_t c2 h
    refine lv_iconst (v := 0) hx hb (kdr dgX3_isSound_0 4 8 rfl rfl) (by decide) ?_
    have h := Option.some.inj h
    subst h
    refine W.widen (k := 3) (n := 60) (Nat.le_of_ble_eq_true rfl) (Nat.le_of_ble_eq_true rfl) ?_
    exact kret_i (v := 0) hx hb hr rfl hlocks hS hP (kdr dgX3_isSound_0 4 9 rfl rfl)
  · have h := g_f c2 h
    refine lv_aload_n hx hb (kdr dgX3_isSound_0 1 2 rfl rfl) rfl (lv_at hl 1 rfl) ?_
    obtain ⟨r3, g3, h⟩ := g_b h
    refine kq_i (wMo cJ cZ b mce mfr mun mbe men mov msp mwb mwe mwi mac mre mkn 0) (fun qP qD qF => va_runV (As := []) (rest := []) ⟨hx, hb, hml, hown, hts⟩ (c_X3_areSpans l dC dI cB cI cJ cZ b _ mce mfr mun mbe men mov msp mwb mwe mwi mac mre mkn 0  r3 g3) (kcwV hts kw_1462 kv_X3_areSpans rfl rfl ⟨(Nat.le_of_ble_eq_true rfl), (Nat.le_of_ble_eq_true rfl)⟩) (kpV (A := A) qP hK qD hG (krecv_5 (q0 := 0) hK hP rfl)) rfl rfl hl.1 rfl (lv_room (Nat.le_of_ble_eq_true rfl)) (kdr dgX3_isSound_0 1 3 rfl rfl) ⟨(Nat.le_of_ble_eq_true rfl), (Nat.le_of_ble_eq_true rfl)⟩) hP hD hS hA kFr_Mo (fun H locs hP hD hS br3 => ?_)
    refine lv_if_eq (tgt := 96) hx hb (kdr dgX3_isSound_0 1 4 rfl rfl) (by decide) (fun c4 => ?_) (fun c4 => ?_)
    · have h := g_t c4 h
      refine lv_iconst (v := 0) hx hb (kdr dgX3_isSound_0 4 8 rfl rfl) (by decide) ?_
      have h := Option.some.inj h
      subst h
      refine W.widen (k := 3) (n := 60) (Nat.le_of_ble_eq_true rfl) (Nat.le_of_ble_eq_true rfl) ?_
      exact kret_i (v := 0) hx hb hr rfl hlocks hS hP (kdr dgX3_isSound_0 4 9 rfl rfl)
    · have h := g_f c4 h
      refine lv_aload_n hx hb (kdr dgX3_isSound_0 1 5 rfl rfl) rfl (lv_at hl 1 rfl) ?_
      obtain ⟨r5, g5, h⟩ := g_b h
      refine kq_l (wMo cJ cZ b mce mfr mun mbe men mov msp mwb mwe mwi mac mre mkn 0) (fun qP qD qF => va_runV (As := []) (rest := []) ⟨hx, hb, hml, hown, hts⟩ (c_X3_takenLength l dC dI cB cI cJ cZ b _ mce mfr mun mbe men mov msp mwb mwe mwi mac mre mkn 0  r5 g5) (kcwV hts kw_1379 kv_X3_takenLength rfl rfl ⟨(Nat.le_of_ble_eq_true rfl), (Nat.le_of_ble_eq_true rfl)⟩) (kpV (A := A) qP hK qD hG (krecv_5 (q0 := 0) hK hP rfl)) rfl rfl hl.1 rfl (lv_room (Nat.le_of_ble_eq_true rfl)) (kdr dgX3_isSound_0 1 6 rfl rfl) ⟨(Nat.le_of_ble_eq_true rfl), (Nat.le_of_ble_eq_true rfl)⟩) hP hD hS hA kFr_Mo (fun H locs hP hD hS => ?_)
      refine lv_aload_n hx hb (kdr dgX3_isSound_0 1 7 rfl rfl) rfl (lv_at hl 1 rfl) ?_
      obtain ⟨r6, g6, h⟩ := g_b h
      refine kq_l (wMo cJ cZ b mce mfr mun mbe men mov msp mwb mwe mwi mac mre mkn 0) (fun qP qD qF => va_runV (As := []) (rest := [.long r5]) ⟨hx, hb, hml, hown, hts⟩ (c_X3_freeLength l dC dI cB cI cJ cZ b _ mce mfr mun mbe men mov msp mwb mwe mwi mac mre mkn 0  r6 g6) (kcwV hts kw_1383 kv_X3_freeLength rfl rfl ⟨(Nat.le_of_ble_eq_true rfl), (Nat.le_of_ble_eq_true rfl)⟩) (kpV (A := A) qP hK qD hG (krecv_5 (q0 := 0) hK hP rfl)) rfl rfl hl.1 rfl (lv_room (Nat.le_of_ble_eq_true rfl)) (kdr dgX3_isSound_0 1 8 rfl rfl) ⟨(Nat.le_of_ble_eq_true rfl), (Nat.le_of_ble_eq_true rfl)⟩) hP hD hS hA kFr_Mo (fun H locs hP hD hS => ?_)
      refine lv_ladd hx hb (kdr dgX3_isSound_0 1 9 rfl rfl) ?_
      refine lv_aload_n hx hb (kdr dgX3_isSound_0 2 0 rfl rfl) rfl (lv_at hl 1 rfl) ?_
      refine va_get (D := (dC, dI)) (ci := 5) (v := .long mun) (C := RX3) (T := TX3) (N := 14) hx hb hts hiX3 hown hK hP 0 rfl rfl 2 (by decide) hw2 (fun _ h9 => h9) rfl (kdr dgX3_isSound_0 2 1 rfl rfl) ?_
      refine lv_aload_n hx hb (kdr dgX3_isSound_0 2 2 rfl rfl) rfl (lv_at hl 1 rfl) ?_
      refine va_get (D := (dC, dI)) (ci := 5) (v := .long mfr) (C := RX3) (T := TX3) (N := 14) hx hb hts hiX3 hown hK hP 0 rfl rfl 1 (by decide) hw1 (fun _ h9 => h9) rfl (kdr dgX3_isSound_0 2 3 rfl rfl) ?_
      refine lv_lsub hx hb (kdr dgX3_isSound_0 2 4 rfl rfl) ?_
      refine kl_ne (pc := 47) (tgt := 96) hx hb (kdr dgX3_isSound_0 2 5 rfl rfl) (kdr dgX3_isSound_0 2 6 rfl rfl) (by decide) (fun c7 => ?_) (fun c7 => ?_)
      · have h := g_f c7 h
        refine lv_iconst (v := 0) hx hb (kdr dgX3_isSound_0 4 8 rfl rfl) (by decide) ?_
        have h := Option.some.inj h
        subst h
        refine W.widen (k := 3) (n := 60) (Nat.le_of_ble_eq_true rfl) (Nat.le_of_ble_eq_true rfl) ?_
        exact kret_i (v := 0) hx hb hr rfl hlocks hS hP (kdr dgX3_isSound_0 4 9 rfl rfl)
      · have h := g_t c7 h
        refine lv_aload_n hx hb (kdr dgX3_isSound_0 2 7 rfl rfl) rfl (lv_at hl 1 rfl) ?_
        refine lv_iload_n hx hb (kdr dgX3_isSound_0 2 8 rfl rfl) rfl (lv_at hl 0 rfl) ?_
        obtain ⟨r8, g8, h⟩ := g_b h
        refine kq_i (wMo cJ cZ b mce mfr mun mbe men mov msp mwb mwe mwi mac mre mkn 0) (fun qP qD qF => va_runV (As := [.int r1]) (rest := []) ⟨hx, hb, hml, hown, hts⟩ (c_X3_areApart l dC dI cB cI cJ cZ b _ mce mfr mun mbe men mov msp mwb mwe mwi mac mre mkn 0 r1 r8 g8) (kcwV hts kw_1399 kv_X3_areApart rfl rfl ⟨(Nat.le_of_ble_eq_true rfl), (Nat.le_of_ble_eq_true rfl)⟩) (kpV (A := A) qP hK qD hG (krecv_5 (q0 := 0) hK hP rfl)) rfl rfl hl.1 rfl (lv_room (Nat.le_of_ble_eq_true rfl)) (kdr dgX3_isSound_0 2 9 rfl rfl) ⟨(Nat.le_of_ble_eq_true rfl), (Nat.le_of_ble_eq_true rfl)⟩) hP hD hS hA kFr_Mo (fun H locs hP hD hS br8 => ?_)
        refine lv_if_eq (tgt := 96) hx hb (kdr dgX3_isSound_0 3 0 rfl rfl) (by decide) (fun c9 => ?_) (fun c9 => ?_)
        · have h := g_t c9 h
          refine lv_iconst (v := 0) hx hb (kdr dgX3_isSound_0 4 8 rfl rfl) (by decide) ?_
          have h := Option.some.inj h
          subst h
          refine W.widen (k := 3) (n := 60) (Nat.le_of_ble_eq_true rfl) (Nat.le_of_ble_eq_true rfl) ?_
          exact kret_i (v := 0) hx hb hr rfl hlocks hS hP (kdr dgX3_isSound_0 4 9 rfl rfl)
        · have h := g_f c9 h
          refine lv_iload_n hx hb (kdr dgX3_isSound_0 3 1 rfl rfl) rfl (lv_at hl 0 rfl) ?_
          obtain ⟨r10, g10, h⟩ := g_b h
          refine kq_i (wMo cJ cZ b mce mfr mun mbe men mov msp mwb mwe mwi mac mre mkn 0) (fun qP qD qF => va_runS (As := [.int r1]) (rest := []) ⟨hx, hb, hml, hown, hts⟩ (c_X3_ones l dC dI cB cI cJ cZ  _  r1 r10 g10) (kcwS hts kw_1419 kv_X3_ones rfl rfl ⟨(Nat.le_of_ble_eq_true rfl), (Nat.le_of_ble_eq_true rfl)⟩) (kpS (A := A) (kPnil) hK ((kDnil (A := A))) hG) rfl rfl hl.1 rfl (lv_room (Nat.le_of_ble_eq_true rfl)) (kdr dgX3_isSound_0 3 2 rfl rfl) ⟨(Nat.le_of_ble_eq_true rfl), (Nat.le_of_ble_eq_true rfl)⟩) hP hD hS hA kFr_n (fun H locs hP hD hS br10 => ?_)
          refine lv_aload_n hx hb (kdr dgX3_isSound_0 3 3 rfl rfl) rfl (lv_at hl 1 rfl) ?_
          obtain ⟨r11, g11, h⟩ := g_b h
          refine kq_i (wMo cJ cZ b mce mfr mun mbe men mov msp mwb mwe mwi mac mre mkn 0) (fun qP qD qF => va_runV (As := []) (rest := [.int r10]) ⟨hx, hb, hml, hown, hts⟩ (c_X3_mostOfAll l dC dI cB cI cJ cZ b _ mce mfr mun mbe men mov msp mwb mwe mwi mac mre mkn 0  r11 g11) (kcwV hts kw_1422 kv_X3_mostOfAll rfl rfl ⟨(Nat.le_of_ble_eq_true rfl), (Nat.le_of_ble_eq_true rfl)⟩) (kpV (A := A) qP hK qD hG (krecv_5 (q0 := 0) hK hP rfl)) rfl rfl hl.1 rfl (lv_room (Nat.le_of_ble_eq_true rfl)) (kdr dgX3_isSound_0 3 4 rfl rfl) ⟨(Nat.le_of_ble_eq_true rfl), (Nat.le_of_ble_eq_true rfl)⟩) hP hD hS hA kFr_Mo (fun H locs hP hD hS br11 => ?_)
          refine lv_icmp_ne (tgt := 96) hx hb (kdr dgX3_isSound_0 3 5 rfl rfl) (by decide) (fun c12 => ?_) (fun c12 => ?_)
          · have h := g_f c12 h
            refine lv_iconst (v := 0) hx hb (kdr dgX3_isSound_0 4 8 rfl rfl) (by decide) ?_
            have h := Option.some.inj h
            subst h
            refine W.widen (k := 3) (n := 60) (Nat.le_of_ble_eq_true rfl) (Nat.le_of_ble_eq_true rfl) ?_
            exact kret_i (v := 0) hx hb hr rfl hlocks hS hP (kdr dgX3_isSound_0 4 9 rfl rfl)
          · have h := g_t c12 h
            refine lv_aload_n hx hb (kdr dgX3_isSound_0 3 6 rfl rfl) rfl (lv_at hl 1 rfl) ?_
            obtain ⟨r13, g13, h⟩ := g_b h
            refine kq_i (wMo cJ cZ b mce mfr mun mbe men mov msp mwb mwe mwi mac mre mkn 0) (fun qP qD qF => va_runV (As := []) (rest := []) ⟨hx, hb, hml, hown, hts⟩ (c_X3_roomsOf l dC dI cB cI cJ cZ b _ mce mfr mun mbe men mov msp mwb mwe mwi mac mre mkn 0  r13 g13) (kcwV hts kw_1446 kv_X3_roomsOf rfl rfl ⟨(Nat.le_of_ble_eq_true rfl), (Nat.le_of_ble_eq_true rfl)⟩) (kpV (A := A) qP hK qD hG (krecv_5 (q0 := 0) hK hP rfl)) rfl rfl hl.1 rfl (lv_room (Nat.le_of_ble_eq_true rfl)) (kdr dgX3_isSound_0 3 7 rfl rfl) ⟨(Nat.le_of_ble_eq_true rfl), (Nat.le_of_ble_eq_true rfl)⟩) hP hD hS hA kFr_Mo (fun H locs hP hD hS br13 => ?_)
            refine lv_aload_n hx hb (kdr dgX3_isSound_0 3 8 rfl rfl) rfl (lv_at hl 1 rfl) ?_
            refine va_get (D := (dC, dI)) (ci := 5) (v := .ref (b 5)) (C := RX3) (T := TX3) (N := 14) hx hb hts hiX3 hown hK hP 0 rfl rfl 7 (by decide) hw3 (fun _ h9 => h9) rfl (kdr dgX3_isSound_0 3 9 rfl rfl) ?_
            refine lv_aload_n hx hb (kdr dgX3_isSound_0 4 0 rfl rfl) rfl (lv_at hl 1 rfl) ?_
            refine va_get (D := (dC, dI)) (ci := 5) (v := .ref (b 6)) (C := RX3) (T := TX3) (N := 14) hx hb hts hiX3 hown hK hP 0 rfl rfl 8 (by decide) hw4 (fun _ h9 => h9) rfl (kdr dgX3_isSound_0 4 1 rfl rfl) ?_
            refine lv_aload_n hx hb (kdr dgX3_isSound_0 4 2 rfl rfl) rfl (lv_at hl 1 rfl) ?_
            refine va_get (D := (dC, dI)) (ci := 5) (v := .int mwi) (C := RX3) (T := TX3) (N := 14) hx hb hts hiX3 hown hK hP 0 rfl rfl 9 (by decide) hw5 (fun _ h9 => h9) rfl (kdr dgX3_isSound_0 4 3 rfl rfl) ?_
            obtain ⟨r14, g14, h⟩ := g_b h
            refine kcall_i (wMo cJ cZ b mce mfr mun mbe men mov msp mwb mwe mwi mac mre mkn 0) (va_runS (As := [.ref (b 5), .ref (b 6), .int mwi]) (rest := [.int r13]) ⟨hx, hb, hml, hown, hts⟩ (c_X3_deepest l dC dI cB cI cJ cZ (b 5) 8 (b 6) 8 _ mwb mwe mwi r14 g14) (kcwS hts kw_1348 kv_X3_deepest rfl rfl ⟨(Nat.le_of_ble_eq_true rfl), (Nat.le_of_ble_eq_true rfl)⟩) (kpS (A := A) (hP.sub (kIT mk_33 0) (km_f (m := mk_33) rfl rfl)) hK (hD.sub (kIT mk_33 0) (km_nd mk_33) (km_T (m := mk_33) rfl rfl)) hG) rfl rfl hl.1 rfl (lv_room (Nat.le_of_ble_eq_true rfl)) (kdr dgX3_isSound_0 4 4 rfl rfl) ⟨(Nat.le_of_ble_eq_true rfl), (Nat.le_of_ble_eq_true rfl)⟩) hP hD hS hA (kIT mk_33 0) (kIT mk_34 0) (km_T (m := mk_33) rfl rfl) (km_T (m := mk_33) rfl rfl) [((b 0), .inr (5, [.ref (b 1), .long mfr, .long mun, .ref (b 2), .ref (b 3), .ref (b 4), .int msp, .ref (b 5), .ref (b 6), .int mwi, .int mac, .int mre, .int mkn, .int 0])), ((b 1), .inl (cJ, 4, .inr (.inl mce))), ((b 2), .inl (cJ, 10, .inr (.inl mbe))), ((b 3), .inl (cJ, 10, .inr (.inl men))), ((b 4), .inl (cZ, 10, .inl mov))] (km_T (m := mk_34) rfl rfl) (km_T (m := mk_34) rfl rfl) (km_cov (m := mk_33) (n := mk_34) rfl rfl) (km_dis (m := mk_33) (n := mk_34) rfl) rfl (fun H locs hP hD hS br14 => ?_)
            refine lv_icmp_ne (tgt := 96) hx hb (kdr dgX3_isSound_0 4 5 rfl rfl) (by decide) (fun c15 => ?_) (fun c15 => ?_)
            · have h := g_f c15 h
              refine lv_iconst (v := 0) hx hb (kdr dgX3_isSound_0 4 8 rfl rfl) (by decide) ?_
              have h := Option.some.inj h
              subst h
              refine W.widen (k := 3) (n := 60) (Nat.le_of_ble_eq_true rfl) (Nat.le_of_ble_eq_true rfl) ?_
              exact kret_i (v := 0) hx hb hr rfl hlocks hS hP (kdr dgX3_isSound_0 4 9 rfl rfl)
            · have h := g_t c15 h
              refine lv_iconst (v := 1) hx hb (kdr dgX3_isSound_0 4 6 rfl rfl) (by decide) ?_
              refine lv_goto (tgt := 97) hx hb (kdr dgX3_isSound_0 4 7 rfl rfl) (by decide) ?_
              have h := Option.some.inj h
              subst h
              refine W.widen (k := 3) (n := 60) (Nat.le_of_ble_eq_true rfl) (Nat.le_of_ble_eq_true rfl) ?_
              exact kret_i (v := 1) hx hb hr rfl hlocks hS hP (kdr dgX3_isSound_0 4 9 rfl rfl)
noncomputable abbrev wsX3_added : List Cond := kWs yX3_added cX3_added 8 (some .long)
noncomputable def f_X3_added (n1 : Nat) (n2 : Nat) (v1 : Nat → Int64) (v2 : Nat → Int64) (p0 : Int64) (p3 : Int32) : Option (Int64) :=
  if ix p3 n1 then
    (f_X3_secondOf (v1 p3.toNatClampNeg)).bind fun r2 =>
    (f_X3_nanoOf (v1 p3.toNatClampNeg)).bind fun r3 =>
    if ix p3 n2 then
      (f_X3_secondOf (v2 p3.toNatClampNeg)).bind fun r5 =>
      (f_X3_nanoOf (v2 p3.toNatClampNeg)).bind fun r6 =>
      some ((((((((p0 * 31) + r2.toInt64) * 31) + r3.toInt64) * 31) + r5.toInt64) * 31) + r6.toInt64)
    else none
  else none
theorem f_X3_added_e {n1 : Nat} {n2 : Nat} {v1 : Nat → Int64} {v2 : Nat → Int64} {p0 : Int64} {p3 : Int32} : f_X3_added n1 n2 v1 v2 p0 p3 = 
  if ix p3 n1 then
    (f_X3_secondOf (v1 p3.toNatClampNeg)).bind fun r2 =>
    (f_X3_nanoOf (v1 p3.toNatClampNeg)).bind fun r3 =>
    if ix p3 n2 then
      (f_X3_secondOf (v2 p3.toNatClampNeg)).bind fun r5 =>
      (f_X3_nanoOf (v2 p3.toNatClampNeg)).bind fun r6 =>
      some ((((((((p0 * 31) + r2.toInt64) * 31) + r3.toInt64) * 31) + r5.toInt64) * 31) + r6.toInt64)
    else none
  else none := rfl
set_option maxHeartbeats 4000000 in
set_option maxRecDepth 100000 in
theorem c_X3_added (l : Launch) (dC : Nat → ClassId) (dI : Nat → Nat → Nat) (cB cI cJ cZ : ClassId) (b0 : Nat) (q1 : Nat) (n1 : Nat) (q2 : Nat) (n2 : Nat) (sz : Nat) (v1 : Nat → Int64) (v2 : Nat → Int64) (p0 : Int64) (p3 : Int32) (res : Int64) (hf : f_X3_added n1 n2 v1 v2 p0 p3 = some res) : kMl l yX3_added wsX3_added (kRm 2 0 0 42) dC dI cB cI cJ cZ [.ref b0, .long p0, .ref q1, .ref q2, .int p3] sz ([(q1, .inl (cJ, n1, .inr (.inl v1)))] ++ [(q2, .inl (cJ, n2, .inr (.inl v2)))]) (res) ([(q1, .inl (cJ, n1, .inr (.inl v1)))] ++ [(q2, .inl (cJ, n2, .inr (.inl v2)))]) 0 0 := by
  refine kmet_l (y := yX3_added) (cc := cX3_added) (maxL := 8) (ret := (some .long)) RX3 (kvA 0 b0 (kvJ 1 p0 (kvA 3 q1 (kvA 4 q2 (kvI 5 p3 kvE))))) kpl_X3 rfl rfl (Nat.le_of_ble_eq_true rfl) rfl (fun p e s m below meth c A ls hx hb hr hml hts hown hlocks hP hK hG hD hA hS hl => ?_)
  have hw0 := hts (.constantLong RX3 243 (31)) (List.mem_cons_of_mem _ kw_1471)
  have h := f_X3_added_e.symm.trans hf
  refine lv_lload_n hx hb (kdr dgX3_added_0 0 0 rfl rfl) rfl (lv_at hl 1 rfl) ?_
  refine lv_ldc2 (v := (31)) hx hb hown hw0 (kdr dgX3_added_0 0 1 rfl rfl) ?_
  refine lv_lmul hx hb (kdr dgX3_added_0 0 2 rfl rfl) ?_
  refine lv_aload_n hx hb (kdr dgX3_added_0 0 3 rfl rfl) rfl (lv_at hl 2 rfl) ?_
  refine lv_iload hx hb (kdr dgX3_added_0 0 4 rfl rfl) (lv_at hl 4 rfl) ?_
  obtain ⟨z0, h⟩ := g_if h
  refine va_lald hx hb hK hP 0 2 rfl rfl (ix_in z0) (kdr dgX3_added_0 0 5 rfl rfl) ?_
  obtain ⟨r2, g2, h⟩ := g_b h
  refine kq_i ([(q1, .inl (cJ, n1, .inr (.inl v1)))] ++ [(q2, .inl (cJ, n2, .inr (.inl v2)))]) (fun qP qD qF => va_runS (As := [.long (v1 p3.toNatClampNeg)]) (rest := [.long (p0 * 31)]) ⟨hx, hb, hml, hown, hts⟩ (c_X3_secondOf l dC dI cB cI cJ cZ  _  (v1 p3.toNatClampNeg) r2 g2) (kcwS hts kw_1140 kv_X3_secondOf rfl rfl ⟨(Nat.le_of_ble_eq_true rfl), (Nat.le_of_ble_eq_true rfl)⟩) (kpS (A := A) (kPnil) hK ((kDnil (A := A))) hG) rfl rfl hl.1 rfl (lv_room (Nat.le_of_ble_eq_true rfl)) (kdr dgX3_added_0 0 6 rfl rfl) ⟨(Nat.le_of_ble_eq_true rfl), (Nat.le_of_ble_eq_true rfl)⟩) hP hD hS hA kFr_n (fun H locs hP hD hS br2 => ?_)
  refine lv_i2l (v := r2.toInt64) hx hb (kdr dgX3_added_0 0 7 rfl rfl) rfl ?_
  refine lv_ladd hx hb (kdr dgX3_added_0 0 8 rfl rfl) ?_
  refine lv_ldc2 (v := (31)) hx hb hown hw0 (kdr dgX3_added_0 0 9 rfl rfl) ?_
  refine lv_lmul hx hb (kdr dgX3_added_0 1 0 rfl rfl) ?_
  refine lv_aload_n hx hb (kdr dgX3_added_0 1 1 rfl rfl) rfl (lv_at hl 2 rfl) ?_
  refine lv_iload hx hb (kdr dgX3_added_0 1 2 rfl rfl) (lv_at hl 4 rfl) ?_
  refine va_lald hx hb hK hP 0 2 rfl rfl (ix_in z0) (kdr dgX3_added_0 1 3 rfl rfl) ?_
  obtain ⟨r3, g3, h⟩ := g_b h
  refine kq_i ([(q1, .inl (cJ, n1, .inr (.inl v1)))] ++ [(q2, .inl (cJ, n2, .inr (.inl v2)))]) (fun qP qD qF => va_runS (As := [.long (v1 p3.toNatClampNeg)]) (rest := [.long (((p0 * 31) + r2.toInt64) * 31)]) ⟨hx, hb, hml, hown, hts⟩ (c_X3_nanoOf l dC dI cB cI cJ cZ  _  (v1 p3.toNatClampNeg) r3 g3) (kcwS hts kw_1275 kv_X3_nanoOf rfl rfl ⟨(Nat.le_of_ble_eq_true rfl), (Nat.le_of_ble_eq_true rfl)⟩) (kpS (A := A) (kPnil) hK ((kDnil (A := A))) hG) rfl rfl hl.1 rfl (lv_room (Nat.le_of_ble_eq_true rfl)) (kdr dgX3_added_0 1 4 rfl rfl) ⟨(Nat.le_of_ble_eq_true rfl), (Nat.le_of_ble_eq_true rfl)⟩) hP hD hS hA kFr_n (fun H locs hP hD hS br3 => ?_)
  refine lv_i2l (v := r3.toInt64) hx hb (kdr dgX3_added_0 1 5 rfl rfl) rfl ?_
  refine lv_ladd hx hb (kdr dgX3_added_0 1 6 rfl rfl) ?_
  refine lv_lstore (lv' := (kvJ 6 ((((p0 * 31) + r2.toInt64) * 31) + r3.toInt64) (kvA 0 b0 (kvJ 1 p0 (kvA 3 q1 (kvA 4 q2 (kvI 5 p3 kvE))))))) hx hb (kdr dgX3_added_0 1 7 rfl rfl) hl (by decide) rfl (fun ls hl => ?_)
  refine lv_lload hx hb (kdr dgX3_added_0 1 8 rfl rfl) (lv_at hl 0 rfl) ?_
  refine lv_ldc2 (v := (31)) hx hb hown hw0 (kdr dgX3_added_0 1 9 rfl rfl) ?_
  refine lv_lmul hx hb (kdr dgX3_added_0 2 0 rfl rfl) ?_
  refine lv_aload hx hb (kdr dgX3_added_0 2 1 rfl rfl) (lv_at hl 4 rfl) ?_
  refine lv_iload hx hb (kdr dgX3_added_0 2 2 rfl rfl) (lv_at hl 5 rfl) ?_
  obtain ⟨z3, h⟩ := g_if h
  refine va_lald hx hb hK hP 1 2 rfl rfl (ix_in z3) (kdr dgX3_added_0 2 3 rfl rfl) ?_
  obtain ⟨r5, g5, h⟩ := g_b h
  refine kq_i ([(q1, .inl (cJ, n1, .inr (.inl v1)))] ++ [(q2, .inl (cJ, n2, .inr (.inl v2)))]) (fun qP qD qF => va_runS (As := [.long (v2 p3.toNatClampNeg)]) (rest := [.long (((((p0 * 31) + r2.toInt64) * 31) + r3.toInt64) * 31)]) ⟨hx, hb, hml, hown, hts⟩ (c_X3_secondOf l dC dI cB cI cJ cZ  _  (v2 p3.toNatClampNeg) r5 g5) (kcwS hts kw_1140 kv_X3_secondOf rfl rfl ⟨(Nat.le_of_ble_eq_true rfl), (Nat.le_of_ble_eq_true rfl)⟩) (kpS (A := A) (kPnil) hK ((kDnil (A := A))) hG) rfl rfl hl.1 rfl (lv_room (Nat.le_of_ble_eq_true rfl)) (kdr dgX3_added_0 2 4 rfl rfl) ⟨(Nat.le_of_ble_eq_true rfl), (Nat.le_of_ble_eq_true rfl)⟩) hP hD hS hA kFr_n (fun H locs hP hD hS br5 => ?_)
  refine lv_i2l (v := r5.toInt64) hx hb (kdr dgX3_added_0 2 5 rfl rfl) rfl ?_
  refine lv_ladd hx hb (kdr dgX3_added_0 2 6 rfl rfl) ?_
  refine lv_ldc2 (v := (31)) hx hb hown hw0 (kdr dgX3_added_0 2 7 rfl rfl) ?_
  refine lv_lmul hx hb (kdr dgX3_added_0 2 8 rfl rfl) ?_
  refine lv_aload hx hb (kdr dgX3_added_0 2 9 rfl rfl) (lv_at hl 4 rfl) ?_
  refine lv_iload hx hb (kdr dgX3_added_0 3 0 rfl rfl) (lv_at hl 5 rfl) ?_
  refine va_lald hx hb hK hP 1 2 rfl rfl (ix_in z3) (kdr dgX3_added_0 3 1 rfl rfl) ?_
  obtain ⟨r6, g6, h⟩ := g_b h
  refine kq_i ([(q1, .inl (cJ, n1, .inr (.inl v1)))] ++ [(q2, .inl (cJ, n2, .inr (.inl v2)))]) (fun qP qD qF => va_runS (As := [.long (v2 p3.toNatClampNeg)]) (rest := [.long (((((((p0 * 31) + r2.toInt64) * 31) + r3.toInt64) * 31) + r5.toInt64) * 31)]) ⟨hx, hb, hml, hown, hts⟩ (c_X3_nanoOf l dC dI cB cI cJ cZ  _  (v2 p3.toNatClampNeg) r6 g6) (kcwS hts kw_1275 kv_X3_nanoOf rfl rfl ⟨(Nat.le_of_ble_eq_true rfl), (Nat.le_of_ble_eq_true rfl)⟩) (kpS (A := A) (kPnil) hK ((kDnil (A := A))) hG) rfl rfl hl.1 rfl (lv_room (Nat.le_of_ble_eq_true rfl)) (kdr dgX3_added_0 3 2 rfl rfl) ⟨(Nat.le_of_ble_eq_true rfl), (Nat.le_of_ble_eq_true rfl)⟩) hP hD hS hA kFr_n (fun H locs hP hD hS br6 => ?_)
  refine lv_i2l (v := r6.toInt64) hx hb (kdr dgX3_added_0 3 3 rfl rfl) rfl ?_
  refine lv_ladd hx hb (kdr dgX3_added_0 3 4 rfl rfl) ?_
  have h := Option.some.inj h
  subst h
  exact kret_l (v := (((((((p0 * 31) + r2.toInt64) * 31) + r3.toInt64) * 31) + r5.toInt64) * 31) + r6.toInt64) hx hb hr hlocks hS hP (kdr dgX3_added_0 3 5 rfl rfl)
noncomputable abbrev wsX3_digest : List Cond := kWs yX3_digest cX3_digest 5 (some .long)
noncomputable def f_X3_digest_279 : Nat → (Int64) → (Int64) → (Nat → Int64) → (Nat → Int64) → (Nat → Int32) → (Int32) → (Nat → Int64) → (Nat → Int64) → (Int32) → (Int32) → (Int32) → (Int32) → (Nat → Int32) → (Int64) → (Int32) → Option ((Int64) × (Int32))
  | 0, _, _, _, _, _, _, _, _, _, _, _, _, _, _, _ => none
  | n + 1, mfr, mun, mbe, men, mov, msp, mwb, mwe, mwi, mac, mre, mkn, ext0, x1, x4 =>
    if mwi ≤ x4 then
      (f_X3_chosenNow mwb mwe mwi).bind fun r2 =>
      (f_X3_mostOfAll mwb mwe mwi).bind fun r3 =>
      (f_X3_crowd mwb mwe mwi).bind fun r4 =>
      (f_X3_house mac mre mkn 0).bind fun r5 =>
      (f_X3_house mac mre mkn 1).bind fun r6 =>
      (f_X3_house mac mre mkn 2).bind fun r7 =>
      (f_X3_isSound mfr mun mbe men mov msp mwb mwe mwi).bind fun r8 =>
      if r8.1 = 0 then
        some ((((((((((((((x1 * 31) + r2.toInt64) * 31) + r3.toInt64) * 31) + r4.1.toInt64) * 31) + r5.1.toInt64) * 31) + r6.1.toInt64) * 31) + r7.1.toInt64) * 31) + ((0 : Int32).toInt64), 0)
      else
        some ((((((((((((((x1 * 31) + r2.toInt64) * 31) + r3.toInt64) * 31) + r4.1.toInt64) * 31) + r5.1.toInt64) * 31) + r6.1.toInt64) * 31) + r7.1.toInt64) * 31) + ((1 : Int32).toInt64), 0)
    else
      (f_X3_added 8 8 mwb mwe x1 x4).bind fun r2 =>
      if ix x4 mwi.toNatClampNeg then
        f_X3_digest_279 n mfr mun mbe men mov msp mwb mwe mwi mac mre mkn ext0 ((r2 * 31) + ((ext0 x4.toNatClampNeg).toInt64)) (x4 + 1)
      else none
theorem f_X3_digest_279_0 {mfr : Int64} {mun : Int64} {mbe : Nat → Int64} {men : Nat → Int64} {mov : Nat → Int32} {msp : Int32} {mwb : Nat → Int64} {mwe : Nat → Int64} {mwi : Int32} {mac : Int32} {mre : Int32} {mkn : Int32} {ext0 : Nat → Int32} {x1 : Int64} {x4 : Int32} : f_X3_digest_279 0 mfr mun mbe men mov msp mwb mwe mwi mac mre mkn ext0 x1 x4 = none := rfl
theorem f_X3_digest_279_s {n : Nat} {mfr : Int64} {mun : Int64} {mbe : Nat → Int64} {men : Nat → Int64} {mov : Nat → Int32} {msp : Int32} {mwb : Nat → Int64} {mwe : Nat → Int64} {mwi : Int32} {mac : Int32} {mre : Int32} {mkn : Int32} {ext0 : Nat → Int32} {x1 : Int64} {x4 : Int32} : f_X3_digest_279 (n + 1) mfr mun mbe men mov msp mwb mwe mwi mac mre mkn ext0 x1 x4 =
  if mwi ≤ x4 then
    (f_X3_chosenNow mwb mwe mwi).bind fun r2 =>
    (f_X3_mostOfAll mwb mwe mwi).bind fun r3 =>
    (f_X3_crowd mwb mwe mwi).bind fun r4 =>
    (f_X3_house mac mre mkn 0).bind fun r5 =>
    (f_X3_house mac mre mkn 1).bind fun r6 =>
    (f_X3_house mac mre mkn 2).bind fun r7 =>
    (f_X3_isSound mfr mun mbe men mov msp mwb mwe mwi).bind fun r8 =>
    if r8.1 = 0 then
      some ((((((((((((((x1 * 31) + r2.toInt64) * 31) + r3.toInt64) * 31) + r4.1.toInt64) * 31) + r5.1.toInt64) * 31) + r6.1.toInt64) * 31) + r7.1.toInt64) * 31) + ((0 : Int32).toInt64), 0)
    else
      some ((((((((((((((x1 * 31) + r2.toInt64) * 31) + r3.toInt64) * 31) + r4.1.toInt64) * 31) + r5.1.toInt64) * 31) + r6.1.toInt64) * 31) + r7.1.toInt64) * 31) + ((1 : Int32).toInt64), 0)
  else
    (f_X3_added 8 8 mwb mwe x1 x4).bind fun r2 =>
    if ix x4 mwi.toNatClampNeg then
      f_X3_digest_279 n mfr mun mbe men mov msp mwb mwe mwi mac mre mkn ext0 ((r2 * 31) + ((ext0 x4.toNatClampNeg).toInt64)) (x4 + 1)
    else none := rfl
noncomputable def f_X3_digest_188 : Nat → (Int64) → (Int64) → (Nat → Int64) → (Nat → Int64) → (Nat → Int32) → (Int32) → (Nat → Int64) → (Nat → Int64) → (Int32) → (Int32) → (Int32) → (Int32) → (Int64) → (Int32) → Option ((Int64) × (Int32))
  | 0, _, _, _, _, _, _, _, _, _, _, _, _, _, _ => none
  | n + 1, mfr, mun, mbe, men, mov, msp, mwb, mwe, mwi, mac, mre, mkn, x1, x3 =>
    (f_X3_frees mfr mun mbe men msp).bind fun r1 =>
    if r1.1 ≤ x3 then
      (f_X3_length mfr mun mbe men msp 0).bind fun r3 =>
      (f_X3_length mfr mun mbe men msp 1).bind fun r4 =>
      (f_X3_length mfr mun mbe men msp 2).bind fun r5 =>
      (f_X3_length mfr mun mbe men msp 3).bind fun r6 =>
      (f_X3_length mfr mun mbe men msp 4).bind fun r7 =>
      (f_X3_length mfr mun mbe men msp 5).bind fun r8 =>
      (f_X3_roomsNow mwb mwe mwi).bind fun r9 =>
      f_X3_digest_279 24 mfr mun mbe men mov msp mwb mwe mwi mac mre mkn r9 ((((((((((((((x1 * 31) + r3.1.toInt64) * 31) + r4.1.toInt64) * 31) + r5.1.toInt64) * 31) + r6.1.toInt64) * 31) + r7.1.toInt64) * 31) + r8.1.toInt64) * 31) + mwi.toInt64) 0
    else
      (f_X3_ofFree mfr mun mbe men msp x3 0).bind fun r3 =>
      (f_X3_ofFree mfr mun mbe men msp x3 1).bind fun r4 =>
      (f_X3_ofFree mfr mun mbe men msp x3 2).bind fun r5 =>
      (f_X3_ofFree mfr mun mbe men msp x3 3).bind fun r6 =>
      f_X3_digest_188 n mfr mun mbe men mov msp mwb mwe mwi mac mre mkn ((((((((x1 * 31) + r3.1.toInt64) * 31) + r4.1.toInt64) * 31) + r5.1.toInt64) * 31) + r6.1.toInt64) (x3 + 1)
theorem f_X3_digest_188_0 {mfr : Int64} {mun : Int64} {mbe : Nat → Int64} {men : Nat → Int64} {mov : Nat → Int32} {msp : Int32} {mwb : Nat → Int64} {mwe : Nat → Int64} {mwi : Int32} {mac : Int32} {mre : Int32} {mkn : Int32} {x1 : Int64} {x3 : Int32} : f_X3_digest_188 0 mfr mun mbe men mov msp mwb mwe mwi mac mre mkn x1 x3 = none := rfl
theorem f_X3_digest_188_s {n : Nat} {mfr : Int64} {mun : Int64} {mbe : Nat → Int64} {men : Nat → Int64} {mov : Nat → Int32} {msp : Int32} {mwb : Nat → Int64} {mwe : Nat → Int64} {mwi : Int32} {mac : Int32} {mre : Int32} {mkn : Int32} {x1 : Int64} {x3 : Int32} : f_X3_digest_188 (n + 1) mfr mun mbe men mov msp mwb mwe mwi mac mre mkn x1 x3 =
  (f_X3_frees mfr mun mbe men msp).bind fun r1 =>
  if r1.1 ≤ x3 then
    (f_X3_length mfr mun mbe men msp 0).bind fun r3 =>
    (f_X3_length mfr mun mbe men msp 1).bind fun r4 =>
    (f_X3_length mfr mun mbe men msp 2).bind fun r5 =>
    (f_X3_length mfr mun mbe men msp 3).bind fun r6 =>
    (f_X3_length mfr mun mbe men msp 4).bind fun r7 =>
    (f_X3_length mfr mun mbe men msp 5).bind fun r8 =>
    (f_X3_roomsNow mwb mwe mwi).bind fun r9 =>
    f_X3_digest_279 24 mfr mun mbe men mov msp mwb mwe mwi mac mre mkn r9 ((((((((((((((x1 * 31) + r3.1.toInt64) * 31) + r4.1.toInt64) * 31) + r5.1.toInt64) * 31) + r6.1.toInt64) * 31) + r7.1.toInt64) * 31) + r8.1.toInt64) * 31) + mwi.toInt64) 0
  else
    (f_X3_ofFree mfr mun mbe men msp x3 0).bind fun r3 =>
    (f_X3_ofFree mfr mun mbe men msp x3 1).bind fun r4 =>
    (f_X3_ofFree mfr mun mbe men msp x3 2).bind fun r5 =>
    (f_X3_ofFree mfr mun mbe men msp x3 3).bind fun r6 =>
    f_X3_digest_188 n mfr mun mbe men mov msp mwb mwe mwi mac mre mkn ((((((((x1 * 31) + r3.1.toInt64) * 31) + r4.1.toInt64) * 31) + r5.1.toInt64) * 31) + r6.1.toInt64) (x3 + 1) := rfl
noncomputable def f_X3_digest_105 : Nat → (Int64) → (Int64) → (Nat → Int64) → (Nat → Int64) → (Nat → Int32) → (Int32) → (Nat → Int64) → (Nat → Int64) → (Int32) → (Int32) → (Int32) → (Int32) → (Int64) → (Int32) → Option ((Int64) × (Int32))
  | 0, _, _, _, _, _, _, _, _, _, _, _, _, _, _ => none
  | n + 1, mfr, mun, mbe, men, mov, msp, mwb, mwe, mwi, mac, mre, mkn, x1, x3 =>
    if msp ≤ x3 then
      (f_X3_clashes mbe men msp).bind fun r2 =>
      (f_X3_deepest_ mbe men msp).bind fun r3 =>
      (f_X3_frees mfr mun mbe men msp).bind fun r4 =>
      f_X3_digest_188 14 mfr mun mbe men mov msp mwb mwe mwi mac mre mkn ((((((x1 * 31) + r2.1.toInt64) * 31) + r3.1.toInt64) * 31) + r4.1.toInt64) 0
    else
      (f_X3_added 10 10 mbe men x1 x3).bind fun r2 =>
      if ix x3 10 then
        if (mov x3.toNatClampNeg) = 0 then
          f_X3_digest_105 n mfr mun mbe men mov msp mwb mwe mwi mac mre mkn ((r2 * 31) + ((0 : Int32).toInt64)) (x3 + 1)
        else
          f_X3_digest_105 n mfr mun mbe men mov msp mwb mwe mwi mac mre mkn ((r2 * 31) + ((1 : Int32).toInt64)) (x3 + 1)
      else none
theorem f_X3_digest_105_0 {mfr : Int64} {mun : Int64} {mbe : Nat → Int64} {men : Nat → Int64} {mov : Nat → Int32} {msp : Int32} {mwb : Nat → Int64} {mwe : Nat → Int64} {mwi : Int32} {mac : Int32} {mre : Int32} {mkn : Int32} {x1 : Int64} {x3 : Int32} : f_X3_digest_105 0 mfr mun mbe men mov msp mwb mwe mwi mac mre mkn x1 x3 = none := rfl
theorem f_X3_digest_105_s {n : Nat} {mfr : Int64} {mun : Int64} {mbe : Nat → Int64} {men : Nat → Int64} {mov : Nat → Int32} {msp : Int32} {mwb : Nat → Int64} {mwe : Nat → Int64} {mwi : Int32} {mac : Int32} {mre : Int32} {mkn : Int32} {x1 : Int64} {x3 : Int32} : f_X3_digest_105 (n + 1) mfr mun mbe men mov msp mwb mwe mwi mac mre mkn x1 x3 =
  if msp ≤ x3 then
    (f_X3_clashes mbe men msp).bind fun r2 =>
    (f_X3_deepest_ mbe men msp).bind fun r3 =>
    (f_X3_frees mfr mun mbe men msp).bind fun r4 =>
    f_X3_digest_188 14 mfr mun mbe men mov msp mwb mwe mwi mac mre mkn ((((((x1 * 31) + r2.1.toInt64) * 31) + r3.1.toInt64) * 31) + r4.1.toInt64) 0
  else
    (f_X3_added 10 10 mbe men x1 x3).bind fun r2 =>
    if ix x3 10 then
      if (mov x3.toNatClampNeg) = 0 then
        f_X3_digest_105 n mfr mun mbe men mov msp mwb mwe mwi mac mre mkn ((r2 * 31) + ((0 : Int32).toInt64)) (x3 + 1)
      else
        f_X3_digest_105 n mfr mun mbe men mov msp mwb mwe mwi mac mre mkn ((r2 * 31) + ((1 : Int32).toInt64)) (x3 + 1)
    else none := rfl
noncomputable def f_X3_digest (mce : Nat → Int64) (mfr : Int64) (mun : Int64) (mbe : Nat → Int64) (men : Nat → Int64) (mov : Nat → Int32) (msp : Int32) (mwb : Nat → Int64) (mwe : Nat → Int64) (mwi : Int32) (mac : Int32) (mre : Int32) (mkn : Int32) : Option ((Int64) × (Int32)) :=
  (f_X3_second mce 0).bind fun r1 =>
  (f_X3_nano mce 0).bind fun r2 =>
  (f_X3_at mce mbe men msp 0).bind fun r3 =>
  (f_X3_freeAt mce mfr mun mbe men msp 0).bind fun r4 =>
  (f_X3_second mce 1).bind fun r5 =>
  (f_X3_nano mce 1).bind fun r6 =>
  (f_X3_at mce mbe men msp 1).bind fun r7 =>
  (f_X3_freeAt mce mfr mun mbe men msp 1).bind fun r8 =>
  (f_X3_second mce 2).bind fun r9 =>
  (f_X3_nano mce 2).bind fun r10 =>
  (f_X3_at mce mbe men msp 2).bind fun r11 =>
  (f_X3_freeAt mce mfr mun mbe men msp 2).bind fun r12 =>
  (f_X3_second mce 3).bind fun r13 =>
  (f_X3_nano mce 3).bind fun r14 =>
  (f_X3_at mce mbe men msp 3).bind fun r15 =>
  (f_X3_freeAt mce mfr mun mbe men msp 3).bind fun r16 =>
  (f_X3_calendar mfr mun 0).bind fun r17 =>
  (f_X3_calendar mfr mun 1).bind fun r18 =>
  (f_X3_calendar mfr mun 2).bind fun r19 =>
  (f_X3_calendar mfr mun 3).bind fun r20 =>
  f_X3_digest_105 24 mfr mun mbe men mov msp mwb mwe mwi mac mre mkn ((((((((((((((((((((((((((((((((((((((((((8009 * 31) + r1.1.toInt64) * 31) + r2.1.toInt64) * 31) + r3.1.toInt64) * 31) + r4.1.toInt64) * 31) + r5.1.toInt64) * 31) + r6.1.toInt64) * 31) + r7.1.toInt64) * 31) + r8.1.toInt64) * 31) + r9.1.toInt64) * 31) + r10.1.toInt64) * 31) + r11.1.toInt64) * 31) + r12.1.toInt64) * 31) + r13.1.toInt64) * 31) + r14.1.toInt64) * 31) + r15.1.toInt64) * 31) + r16.1.toInt64) * 31) + r17.1.toInt64) * 31) + r18.1.toInt64) * 31) + r19.1.toInt64) * 31) + r20.1.toInt64) * 31) + msp.toInt64) 0
theorem f_X3_digest_e {mce : Nat → Int64} {mfr : Int64} {mun : Int64} {mbe : Nat → Int64} {men : Nat → Int64} {mov : Nat → Int32} {msp : Int32} {mwb : Nat → Int64} {mwe : Nat → Int64} {mwi : Int32} {mac : Int32} {mre : Int32} {mkn : Int32} : f_X3_digest mce mfr mun mbe men mov msp mwb mwe mwi mac mre mkn = 
  (f_X3_second mce 0).bind fun r1 =>
  (f_X3_nano mce 0).bind fun r2 =>
  (f_X3_at mce mbe men msp 0).bind fun r3 =>
  (f_X3_freeAt mce mfr mun mbe men msp 0).bind fun r4 =>
  (f_X3_second mce 1).bind fun r5 =>
  (f_X3_nano mce 1).bind fun r6 =>
  (f_X3_at mce mbe men msp 1).bind fun r7 =>
  (f_X3_freeAt mce mfr mun mbe men msp 1).bind fun r8 =>
  (f_X3_second mce 2).bind fun r9 =>
  (f_X3_nano mce 2).bind fun r10 =>
  (f_X3_at mce mbe men msp 2).bind fun r11 =>
  (f_X3_freeAt mce mfr mun mbe men msp 2).bind fun r12 =>
  (f_X3_second mce 3).bind fun r13 =>
  (f_X3_nano mce 3).bind fun r14 =>
  (f_X3_at mce mbe men msp 3).bind fun r15 =>
  (f_X3_freeAt mce mfr mun mbe men msp 3).bind fun r16 =>
  (f_X3_calendar mfr mun 0).bind fun r17 =>
  (f_X3_calendar mfr mun 1).bind fun r18 =>
  (f_X3_calendar mfr mun 2).bind fun r19 =>
  (f_X3_calendar mfr mun 3).bind fun r20 =>
  f_X3_digest_105 24 mfr mun mbe men mov msp mwb mwe mwi mac mre mkn ((((((((((((((((((((((((((((((((((((((((((8009 * 31) + r1.1.toInt64) * 31) + r2.1.toInt64) * 31) + r3.1.toInt64) * 31) + r4.1.toInt64) * 31) + r5.1.toInt64) * 31) + r6.1.toInt64) * 31) + r7.1.toInt64) * 31) + r8.1.toInt64) * 31) + r9.1.toInt64) * 31) + r10.1.toInt64) * 31) + r11.1.toInt64) * 31) + r12.1.toInt64) * 31) + r13.1.toInt64) * 31) + r14.1.toInt64) * 31) + r15.1.toInt64) * 31) + r16.1.toInt64) * 31) + r17.1.toInt64) * 31) + r18.1.toInt64) * 31) + r19.1.toInt64) * 31) + r20.1.toInt64) * 31) + msp.toInt64) 0 := rfl
set_option maxHeartbeats 4000000 in
set_option maxRecDepth 100000 in
theorem c_X3_digest (l : Launch) (dC : Nat → ClassId) (dI : Nat → Nat → Nat) (cB cI cJ cZ : ClassId) (b : Nat → Nat) (sz : Nat) (mce : Nat → Int64) (mfr : Int64) (mun : Int64) (mbe : Nat → Int64) (men : Nat → Int64) (mov : Nat → Int32) (msp : Int32) (mwb : Nat → Int64) (mwe : Nat → Int64) (mwi : Int32) (mac : Int32) (mre : Int32) (mkn : Int32) (mth : Int32) (res : (Int64) × (Int32)) (hf : f_X3_digest mce mfr mun mbe men mov msp mwb mwe mwi mac mre mkn = some res) : kMl l yX3_digest wsX3_digest (kRm 5 86 1880 119) dC dI cB cI cJ cZ [.ref (b 0)] sz (wMo cJ cZ b mce mfr mun mbe men mov msp mwb mwe mwi mac mre mkn mth) (res.1) (wMo cJ cZ b mce mfr mun mbe men mov msp mwb mwe mwi mac mre mkn (res.2)) 86 1880 := by
  refine kmet_l (y := yX3_digest) (cc := cX3_digest) (maxL := 5) (ret := (some .long)) RX3 (kvA 0 (b 0) kvE) kpl_X3 rfl rfl (Nat.le_of_ble_eq_true rfl) rfl (fun p e s m below meth c A ls hx hb hr hml hts hown hlocks hP hK hG hD hA hS hl => ?_)
  have hw0 := hts (.constantLong RX3 245 (8009)) (List.mem_cons_of_mem _ kw_1470)
  have hw1 := hts (.constantLong RX3 243 (31)) (List.mem_cons_of_mem _ kw_1471)
  have hw2 := hts (.fieldLink RX3 56 "SpanbookerModel" "spans" "I") (List.mem_cons_of_mem _ kw_1078)
  have hw3 := hts (.fieldLink RX3 88 "SpanbookerModel" "wishes" "I") (List.mem_cons_of_mem _ kw_1081)
  have hw4 := hts (.fieldLink RX3 35 "SpanbookerModel" "thrown" "I") (List.mem_cons_of_mem _ kw_1085)
  have hw5 := hts (.fieldLink RX3 29 "SpanbookerModel" "wishBegins" "[J") (List.mem_cons_of_mem _ kw_1079)
  have hw6 := hts (.fieldLink RX3 32 "SpanbookerModel" "wishEnds" "[J") (List.mem_cons_of_mem _ kw_1080)
  have hw7 := hts (.fieldLink RX3 19 "SpanbookerModel" "begins" "[J") (List.mem_cons_of_mem _ kw_1075)
  have hw8 := hts (.fieldLink RX3 22 "SpanbookerModel" "ends" "[J") (List.mem_cons_of_mem _ kw_1076)
  have hw9 := hts (.fieldLink RX3 25 "SpanbookerModel" "over" "[Z") (List.mem_cons_of_mem _ kw_1077)
  have hiX3 : ∀ w ∈ u_ws RX3 TX3 14, w ∈ wsX3_digest := fun w h => List.mem_cons_of_mem _ (ku_X3 w h)
  have J279 : ∀ (n : Nat), ∀ (mce : Nat → Int64) (mfr : Int64) (mun : Int64) (mbe : Nat → Int64) (men : Nat → Int64) (mov : Nat → Int32) (msp : Int32) (mwb : Nat → Int64) (mwe : Nat → Int64) (mwi : Int32) (mac : Int32) (mre : Int32) (mkn : Int32) (mth : Int32) (ext0 : Nat → Int32) (x1 : Int64) (x4 : Int32) (qn0 : Nat) (H : Heap) (locs : List Loc) (kc ks : Nat), kc + (n * 0 + 3) ≤ 86 → ks + (n * 0 + 60) ≤ 1880 → va_P (dC, dI) vwCl ((wMo cJ cZ b mce mfr mun mbe men mov msp mwb mwe mwi mac mre mkn mth) ++ [(qn0, .inl (cI, mwi.toNatClampNeg, .inl ext0))]) H → va_D A ((wMo cJ cZ b mce mfr mun mbe men mov msp mwb mwe mwi mac mre mkn mth) ++ [(qn0, .inl (cI, mwi.toNatClampNeg, .inl ext0))]) → va_S A s.heap H locs → ∀ (ls : Array Slot), lv_has ls 5 (kvA 0 (b 0) (kvJ 1 x1 (kvA 3 qn0 (kvI 4 x4 kvE)))) → f_X3_digest_279 n mfr mun mbe men mov msp mwb mwe mwi mac mre mkn ext0 x1 x4 = some res → W p l e (headSpec wsX3_digest (kRm 5 86 1880 119)).room s m ([.ref (b 0)] : List Value).toArray below meth c H locs kc ks (MQ below (kL (dC, dI) (res.1) (wMo cJ cZ b mce mfr mun mbe men mov msp mwb mwe mwi mac mre mkn (res.2)) A) ([.ref (b 0)] : List Value).toArray s 86 1880 A) (F0 m 279 ls []) := by
    intro n
    induction n with
    | zero =>
      intro mce mfr mun mbe men mov msp mwb mwe mwi mac mre mkn mth ext0 x1 x4 qn0 H locs kc ks hkc hks hP hD hS ls hl h
      have h := f_X3_digest_279_0.symm.trans h
      cases h
    | succ n ih =>
      intro mce mfr mun mbe men mov msp mwb mwe mwi mac mre mkn mth ext0 x1 x4 qn0 H locs kc ks hkc hks hP hD hS ls hl h
      have h := f_X3_digest_279_s.symm.trans h
      refine lv_iload hx hb (kdr dgX3_digest_164 6 8 rfl rfl) (lv_at hl 3 rfl) ?_
      refine lv_aload_n hx hb (kdr dgX3_digest_164 6 9 rfl rfl) rfl (lv_at hl 0 rfl) ?_
      refine va_get (D := (dC, dI)) (ci := 5) (v := .int mwi) (C := RX3) (T := TX3) (N := 14) hx hb hts hiX3 hown hK hP 0 rfl rfl 9 (by decide) hw3 (fun _ h9 => h9) rfl (kdr dgX3_digest_164 7 0 rfl rfl) ?_
      refine lv_icmp_ge (tgt := 320) hx hb (kdr dgX3_digest_164 7 1 rfl rfl) (by decide) (fun c1 => ?_) (fun c1 => ?_)
      · have h := g_t c1 h
        refine lv_lload_n hx hb (kdr dgX3_digest_164 9 0 rfl rfl) rfl (lv_at hl 1 rfl) ?_
        refine lv_ldc2 (v := (31)) hx hb hown hw1 (kdr dgX3_digest_164 9 1 rfl rfl) ?_
        refine lv_lmul hx hb (kdr dgX3_digest_164 9 2 rfl rfl) ?_
        refine lv_aload_n hx hb (kdr dgX3_digest_164 9 3 rfl rfl) rfl (lv_at hl 0 rfl) ?_
        obtain ⟨r2, g2, h⟩ := g_b h
        refine kq_i ((wMo cJ cZ b mce mfr mun mbe men mov msp mwb mwe mwi mac mre mkn mth) ++ [(qn0, .inl (cI, mwi.toNatClampNeg, .inl ext0))]) (fun qP qD qF => va_runV (As := []) (rest := [.long (x1 * 31)]) ⟨hx, hb, hml, hown, hts⟩ (c_X3_chosenNow l dC dI cB cI cJ cZ b _ mce mfr mun mbe men mov msp mwb mwe mwi mac mre mkn mth  r2 g2) (kcwV hts kw_1411 kv_X3_chosenNow rfl rfl ⟨(Nat.le_of_ble_eq_true rfl), (Nat.le_of_ble_eq_true rfl)⟩) (kpV (A := A) qP hK qD hG (krecv_5 (q0 := 0) hK hP rfl)) rfl rfl hl.1 rfl (lv_room (Nat.le_of_ble_eq_true rfl)) (kdr dgX3_digest_164 9 4 rfl rfl) ⟨by show _ ≤ (86 : Nat); omega, by show _ ≤ (1880 : Nat); omega⟩) hP hD hS hA (kFr_l kFr_Mo) (fun H locs hP hD hS br2 => ?_)
        refine lv_i2l (v := r2.toInt64) hx hb (kdr dgX3_digest_164 9 5 rfl rfl) rfl ?_
        refine lv_ladd hx hb (kdr dgX3_digest_164 9 6 rfl rfl) ?_
        refine lv_ldc2 (v := (31)) hx hb hown hw1 (kdr dgX3_digest_164 9 7 rfl rfl) ?_
        refine lv_lmul hx hb (kdr dgX3_digest_164 9 8 rfl rfl) ?_
        refine lv_aload_n hx hb (kdr dgX3_digest_164 9 9 rfl rfl) rfl (lv_at hl 0 rfl) ?_
        obtain ⟨r3, g3, h⟩ := g_b h
        refine kq_i ((wMo cJ cZ b mce mfr mun mbe men mov msp mwb mwe mwi mac mre mkn mth) ++ [(qn0, .inl (cI, mwi.toNatClampNeg, .inl ext0))]) (fun qP qD qF => va_runV (As := []) (rest := [.long (((x1 * 31) + r2.toInt64) * 31)]) ⟨hx, hb, hml, hown, hts⟩ (c_X3_mostOfAll l dC dI cB cI cJ cZ b _ mce mfr mun mbe men mov msp mwb mwe mwi mac mre mkn mth  r3 g3) (kcwV hts kw_1422 kv_X3_mostOfAll rfl rfl ⟨(Nat.le_of_ble_eq_true rfl), (Nat.le_of_ble_eq_true rfl)⟩) (kpV (A := A) qP hK qD hG (krecv_5 (q0 := 0) hK hP rfl)) rfl rfl hl.1 rfl (lv_room (Nat.le_of_ble_eq_true rfl)) (kdr dgX3_digest_336 0 0 rfl rfl) ⟨by show _ ≤ (86 : Nat); omega, by show _ ≤ (1880 : Nat); omega⟩) hP hD hS hA (kFr_l kFr_Mo) (fun H locs hP hD hS br3 => ?_)
        refine lv_i2l (v := r3.toInt64) hx hb (kdr dgX3_digest_336 0 1 rfl rfl) rfl ?_
        refine lv_ladd hx hb (kdr dgX3_digest_336 0 2 rfl rfl) ?_
        refine lv_ldc2 (v := (31)) hx hb hown hw1 (kdr dgX3_digest_336 0 3 rfl rfl) ?_
        refine lv_lmul hx hb (kdr dgX3_digest_336 0 4 rfl rfl) ?_
        refine lv_aload_n hx hb (kdr dgX3_digest_336 0 5 rfl rfl) rfl (lv_at hl 0 rfl) ?_
        obtain ⟨r4, g4, h⟩ := g_b h
        refine kq_i ((wMo cJ cZ b mce mfr mun mbe men mov msp mwb mwe mwi mac mre mkn r4.2) ++ [(qn0, .inl (cI, mwi.toNatClampNeg, .inl ext0))]) (fun qP qD qF => va_runV (As := []) (rest := [.long (((((x1 * 31) + r2.toInt64) * 31) + r3.toInt64) * 31)]) ⟨hx, hb, hml, hown, hts⟩ (c_X3_crowd l dC dI cB cI cJ cZ b _ mce mfr mun mbe men mov msp mwb mwe mwi mac mre mkn mth  r4 g4) (kcwV hts kw_1486 kv_X3_crowd rfl rfl ⟨(Nat.le_of_ble_eq_true rfl), (Nat.le_of_ble_eq_true rfl)⟩) (kpV (A := A) qP hK qD hG (krecv_5 (q0 := 0) hK hP rfl)) rfl rfl hl.1 rfl (lv_room (Nat.le_of_ble_eq_true rfl)) (kdr dgX3_digest_336 0 6 rfl rfl) ⟨by show _ ≤ (86 : Nat); omega, by show _ ≤ (1880 : Nat); omega⟩) hP hD hS hA (kFr_l kFr_Mo) (fun H locs hP hD hS br4 => ?_)
        refine lv_i2l (v := r4.1.toInt64) hx hb (kdr dgX3_digest_336 0 7 rfl rfl) rfl ?_
        refine lv_ladd hx hb (kdr dgX3_digest_336 0 8 rfl rfl) ?_
        refine lv_lstore_n (lv' := (kvJ 1 ((((((x1 * 31) + r2.toInt64) * 31) + r3.toInt64) * 31) + r4.1.toInt64) (kvA 0 (b 0) (kvA 3 qn0 (kvI 4 x4 kvE))))) hx hb (kdr dgX3_digest_336 0 9 rfl rfl) rfl hl (by decide) rfl (fun ls hl => ?_)
        refine lv_iconst (v := 0) hx hb (kdr dgX3_digest_336 1 0 rfl rfl) (by decide) ?_
        refine lv_istore (lv' := (kvI 4 0 (kvJ 1 ((((((x1 * 31) + r2.toInt64) * 31) + r3.toInt64) * 31) + r4.1.toInt64) (kvA 0 (b 0) (kvA 3 qn0 kvE))))) hx hb (kdr dgX3_digest_336 1 1 rfl rfl) hl (by decide) rfl (fun ls hl => ?_)
        refine lv_iload hx hb (kdr dgX3_digest_336 1 2 rfl rfl) (lv_at hl 0 rfl) ?_
        refine lv_iconst (v := 3) hx hb (kdr dgX3_digest_336 1 3 rfl rfl) (by decide) ?_
        refine lv_icmp_ge (tgt := 381) hx hb (kdr dgX3_digest_336 1 4 rfl rfl) (by decide) (fun c9 => absurd c9 (by decide)) (fun _ => ?_)
        refine lv_lload_n hx hb (kdr dgX3_digest_336 1 5 rfl rfl) rfl (lv_at hl 1 rfl) ?_
        refine lv_ldc2 (v := (31)) hx hb hown hw1 (kdr dgX3_digest_336 1 6 rfl rfl) ?_
        refine lv_lmul hx hb (kdr dgX3_digest_336 1 7 rfl rfl) ?_
        refine lv_aload_n hx hb (kdr dgX3_digest_336 1 8 rfl rfl) rfl (lv_at hl 2 rfl) ?_
        refine lv_iload hx hb (kdr dgX3_digest_336 1 9 rfl rfl) (lv_at hl 0 rfl) ?_
        obtain ⟨r5, g5, h⟩ := g_b h
        refine kq_i ((wMo cJ cZ b mce mfr mun mbe men mov msp mwb mwe mwi mac mre mkn r5.2) ++ [(qn0, .inl (cI, mwi.toNatClampNeg, .inl ext0))]) (fun qP qD qF => va_runV (As := [.int 0]) (rest := [.long (((((((x1 * 31) + r2.toInt64) * 31) + r3.toInt64) * 31) + r4.1.toInt64) * 31)]) ⟨hx, hb, hml, hown, hts⟩ (c_X3_house l dC dI cB cI cJ cZ b _ mce mfr mun mbe men mov msp mwb mwe mwi mac mre mkn r4.2 0 r5 g5) (kcwV hts kw_1487 kv_X3_house rfl rfl ⟨(Nat.le_of_ble_eq_true rfl), (Nat.le_of_ble_eq_true rfl)⟩) (kpV (A := A) qP hK qD hG (krecv_5 (q0 := 0) hK hP rfl)) rfl rfl hl.1 rfl (lv_room (Nat.le_of_ble_eq_true rfl)) (kdr dgX3_digest_336 2 0 rfl rfl) ⟨by show _ ≤ (86 : Nat); omega, by show _ ≤ (1880 : Nat); omega⟩) hP hD hS hA (kFr_l kFr_Mo) (fun H locs hP hD hS br5 => ?_)
        refine lv_i2l (v := r5.1.toInt64) hx hb (kdr dgX3_digest_336 2 1 rfl rfl) rfl ?_
        refine lv_ladd hx hb (kdr dgX3_digest_336 2 2 rfl rfl) ?_
        refine lv_lstore_n (lv' := (kvJ 1 ((((((((x1 * 31) + r2.toInt64) * 31) + r3.toInt64) * 31) + r4.1.toInt64) * 31) + r5.1.toInt64) (kvI 4 0 (kvA 0 (b 0) (kvA 3 qn0 kvE))))) hx hb (kdr dgX3_digest_336 2 3 rfl rfl) rfl hl (by decide) rfl (fun ls hl => ?_)
        refine lv_iinc (v := 1) (lv' := (kvI 4 1 (kvJ 1 ((((((((x1 * 31) + r2.toInt64) * 31) + r3.toInt64) * 31) + r4.1.toInt64) * 31) + r5.1.toInt64) (kvA 0 (b 0) (kvA 3 qn0 kvE))))) hx hb (kdr dgX3_digest_336 2 4 rfl rfl) hl (k := 1) rfl (by decide) (by decide) rfl (fun ls hl => ?_)
        refine lv_goto (tgt := 355) hx hb (kdr dgX3_digest_336 2 5 rfl rfl) (by decide) ?_
        refine lv_iload hx hb (kdr dgX3_digest_336 1 2 rfl rfl) (lv_at hl 0 rfl) ?_
        refine lv_iconst (v := 3) hx hb (kdr dgX3_digest_336 1 3 rfl rfl) (by decide) ?_
        refine lv_icmp_ge (tgt := 381) hx hb (kdr dgX3_digest_336 1 4 rfl rfl) (by decide) (fun c9 => absurd c9 (by decide)) (fun _ => ?_)
        refine lv_lload_n hx hb (kdr dgX3_digest_336 1 5 rfl rfl) rfl (lv_at hl 1 rfl) ?_
        refine lv_ldc2 (v := (31)) hx hb hown hw1 (kdr dgX3_digest_336 1 6 rfl rfl) ?_
        refine lv_lmul hx hb (kdr dgX3_digest_336 1 7 rfl rfl) ?_
        refine lv_aload_n hx hb (kdr dgX3_digest_336 1 8 rfl rfl) rfl (lv_at hl 2 rfl) ?_
        refine lv_iload hx hb (kdr dgX3_digest_336 1 9 rfl rfl) (lv_at hl 0 rfl) ?_
        obtain ⟨r6, g6, h⟩ := g_b h
        refine kq_i ((wMo cJ cZ b mce mfr mun mbe men mov msp mwb mwe mwi mac mre mkn r6.2) ++ [(qn0, .inl (cI, mwi.toNatClampNeg, .inl ext0))]) (fun qP qD qF => va_runV (As := [.int 1]) (rest := [.long (((((((((x1 * 31) + r2.toInt64) * 31) + r3.toInt64) * 31) + r4.1.toInt64) * 31) + r5.1.toInt64) * 31)]) ⟨hx, hb, hml, hown, hts⟩ (c_X3_house l dC dI cB cI cJ cZ b _ mce mfr mun mbe men mov msp mwb mwe mwi mac mre mkn r5.2 1 r6 g6) (kcwV hts kw_1487 kv_X3_house rfl rfl ⟨(Nat.le_of_ble_eq_true rfl), (Nat.le_of_ble_eq_true rfl)⟩) (kpV (A := A) qP hK qD hG (krecv_5 (q0 := 0) hK hP rfl)) rfl rfl hl.1 rfl (lv_room (Nat.le_of_ble_eq_true rfl)) (kdr dgX3_digest_336 2 0 rfl rfl) ⟨by show _ ≤ (86 : Nat); omega, by show _ ≤ (1880 : Nat); omega⟩) hP hD hS hA (kFr_l kFr_Mo) (fun H locs hP hD hS br6 => ?_)
        refine lv_i2l (v := r6.1.toInt64) hx hb (kdr dgX3_digest_336 2 1 rfl rfl) rfl ?_
        refine lv_ladd hx hb (kdr dgX3_digest_336 2 2 rfl rfl) ?_
        refine lv_lstore_n (lv' := (kvJ 1 ((((((((((x1 * 31) + r2.toInt64) * 31) + r3.toInt64) * 31) + r4.1.toInt64) * 31) + r5.1.toInt64) * 31) + r6.1.toInt64) (kvI 4 1 (kvA 0 (b 0) (kvA 3 qn0 kvE))))) hx hb (kdr dgX3_digest_336 2 3 rfl rfl) rfl hl (by decide) rfl (fun ls hl => ?_)
        refine lv_iinc (v := 2) (lv' := (kvI 4 2 (kvJ 1 ((((((((((x1 * 31) + r2.toInt64) * 31) + r3.toInt64) * 31) + r4.1.toInt64) * 31) + r5.1.toInt64) * 31) + r6.1.toInt64) (kvA 0 (b 0) (kvA 3 qn0 kvE))))) hx hb (kdr dgX3_digest_336 2 4 rfl rfl) hl (k := 1) rfl (by decide) (by decide) rfl (fun ls hl => ?_)
        refine lv_goto (tgt := 355) hx hb (kdr dgX3_digest_336 2 5 rfl rfl) (by decide) ?_
        refine lv_iload hx hb (kdr dgX3_digest_336 1 2 rfl rfl) (lv_at hl 0 rfl) ?_
        refine lv_iconst (v := 3) hx hb (kdr dgX3_digest_336 1 3 rfl rfl) (by decide) ?_
        refine lv_icmp_ge (tgt := 381) hx hb (kdr dgX3_digest_336 1 4 rfl rfl) (by decide) (fun c9 => absurd c9 (by decide)) (fun _ => ?_)
        refine lv_lload_n hx hb (kdr dgX3_digest_336 1 5 rfl rfl) rfl (lv_at hl 1 rfl) ?_
        refine lv_ldc2 (v := (31)) hx hb hown hw1 (kdr dgX3_digest_336 1 6 rfl rfl) ?_
        refine lv_lmul hx hb (kdr dgX3_digest_336 1 7 rfl rfl) ?_
        refine lv_aload_n hx hb (kdr dgX3_digest_336 1 8 rfl rfl) rfl (lv_at hl 2 rfl) ?_
        refine lv_iload hx hb (kdr dgX3_digest_336 1 9 rfl rfl) (lv_at hl 0 rfl) ?_
        obtain ⟨r7, g7, h⟩ := g_b h
        refine kq_i ((wMo cJ cZ b mce mfr mun mbe men mov msp mwb mwe mwi mac mre mkn r7.2) ++ [(qn0, .inl (cI, mwi.toNatClampNeg, .inl ext0))]) (fun qP qD qF => va_runV (As := [.int 2]) (rest := [.long (((((((((((x1 * 31) + r2.toInt64) * 31) + r3.toInt64) * 31) + r4.1.toInt64) * 31) + r5.1.toInt64) * 31) + r6.1.toInt64) * 31)]) ⟨hx, hb, hml, hown, hts⟩ (c_X3_house l dC dI cB cI cJ cZ b _ mce mfr mun mbe men mov msp mwb mwe mwi mac mre mkn r6.2 2 r7 g7) (kcwV hts kw_1487 kv_X3_house rfl rfl ⟨(Nat.le_of_ble_eq_true rfl), (Nat.le_of_ble_eq_true rfl)⟩) (kpV (A := A) qP hK qD hG (krecv_5 (q0 := 0) hK hP rfl)) rfl rfl hl.1 rfl (lv_room (Nat.le_of_ble_eq_true rfl)) (kdr dgX3_digest_336 2 0 rfl rfl) ⟨by show _ ≤ (86 : Nat); omega, by show _ ≤ (1880 : Nat); omega⟩) hP hD hS hA (kFr_l kFr_Mo) (fun H locs hP hD hS br7 => ?_)
        refine lv_i2l (v := r7.1.toInt64) hx hb (kdr dgX3_digest_336 2 1 rfl rfl) rfl ?_
        refine lv_ladd hx hb (kdr dgX3_digest_336 2 2 rfl rfl) ?_
        refine lv_lstore_n (lv' := (kvJ 1 ((((((((((((x1 * 31) + r2.toInt64) * 31) + r3.toInt64) * 31) + r4.1.toInt64) * 31) + r5.1.toInt64) * 31) + r6.1.toInt64) * 31) + r7.1.toInt64) (kvI 4 2 (kvA 0 (b 0) (kvA 3 qn0 kvE))))) hx hb (kdr dgX3_digest_336 2 3 rfl rfl) rfl hl (by decide) rfl (fun ls hl => ?_)
        refine lv_iinc (v := 3) (lv' := (kvI 4 3 (kvJ 1 ((((((((((((x1 * 31) + r2.toInt64) * 31) + r3.toInt64) * 31) + r4.1.toInt64) * 31) + r5.1.toInt64) * 31) + r6.1.toInt64) * 31) + r7.1.toInt64) (kvA 0 (b 0) (kvA 3 qn0 kvE))))) hx hb (kdr dgX3_digest_336 2 4 rfl rfl) hl (k := 1) rfl (by decide) (by decide) rfl (fun ls hl => ?_)
        refine lv_goto (tgt := 355) hx hb (kdr dgX3_digest_336 2 5 rfl rfl) (by decide) ?_
        refine lv_iload hx hb (kdr dgX3_digest_336 1 2 rfl rfl) (lv_at hl 0 rfl) ?_
        refine lv_iconst (v := 3) hx hb (kdr dgX3_digest_336 1 3 rfl rfl) (by decide) ?_
        refine lv_icmp_ge (tgt := 381) hx hb (kdr dgX3_digest_336 1 4 rfl rfl) (by decide) (fun _ => ?_) (fun c9 => absurd (by decide) c9)
        refine lv_lload_n hx hb (kdr dgX3_digest_336 2 6 rfl rfl) rfl (lv_at hl 1 rfl) ?_
        refine lv_ldc2 (v := (31)) hx hb hown hw1 (kdr dgX3_digest_336 2 7 rfl rfl) ?_
        refine lv_lmul hx hb (kdr dgX3_digest_336 2 8 rfl rfl) ?_
        refine lv_aload_n hx hb (kdr dgX3_digest_336 2 9 rfl rfl) rfl (lv_at hl 2 rfl) ?_
        obtain ⟨r8, g8, h⟩ := g_b h
        refine kq_i ((wMo cJ cZ b mce mfr mun mbe men mov msp mwb mwe mwi mac mre mkn r8.2) ++ [(qn0, .inl (cI, mwi.toNatClampNeg, .inl ext0))]) (fun qP qD qF => va_runV (As := []) (rest := [.long (((((((((((((x1 * 31) + r2.toInt64) * 31) + r3.toInt64) * 31) + r4.1.toInt64) * 31) + r5.1.toInt64) * 31) + r6.1.toInt64) * 31) + r7.1.toInt64) * 31)]) ⟨hx, hb, hml, hown, hts⟩ (c_X3_isSound l dC dI cB cI cJ cZ b _ mce mfr mun mbe men mov msp mwb mwe mwi mac mre mkn r7.2  r8 g8) (kcwV hts kw_1488 kv_X3_isSound rfl rfl ⟨(Nat.le_of_ble_eq_true rfl), (Nat.le_of_ble_eq_true rfl)⟩) (kpV (A := A) qP hK qD hG (krecv_5 (q0 := 0) hK hP rfl)) rfl rfl hl.1 rfl (lv_room (Nat.le_of_ble_eq_true rfl)) (kdr dgX3_digest_336 3 0 rfl rfl) ⟨by show _ ≤ (86 : Nat); omega, by show _ ≤ (1880 : Nat); omega⟩) hP hD hS hA (kFr_l kFr_Mo) (fun H locs hP hD hS br8 => ?_)
        refine lv_if_eq (tgt := 397) hx hb (kdr dgX3_digest_336 3 1 rfl rfl) (by decide) (fun c9 => ?_) (fun c9 => ?_)
        · have h := g_t c9 h
          refine lv_iconst (v := 0) hx hb (kdr dgX3_digest_336 3 4 rfl rfl) (by decide) ?_
          refine lv_i2l (v := (0 : Int32).toInt64) hx hb (kdr dgX3_digest_336 3 5 rfl rfl) rfl ?_
          refine lv_ladd hx hb (kdr dgX3_digest_336 3 6 rfl rfl) ?_
          refine lv_lstore_n (lv' := (kvJ 1 ((((((((((((((x1 * 31) + r2.toInt64) * 31) + r3.toInt64) * 31) + r4.1.toInt64) * 31) + r5.1.toInt64) * 31) + r6.1.toInt64) * 31) + r7.1.toInt64) * 31) + ((0 : Int32).toInt64)) (kvI 4 3 (kvA 0 (b 0) (kvA 3 qn0 kvE))))) hx hb (kdr dgX3_digest_336 3 7 rfl rfl) rfl hl (by decide) rfl (fun ls hl => ?_)
          refine lv_aload_n hx hb (kdr dgX3_digest_336 3 8 rfl rfl) rfl (lv_at hl 2 rfl) ?_
          refine lv_iconst (v := 0) hx hb (kdr dgX3_digest_336 3 9 rfl rfl) (by decide) ?_
          refine va_put (D := (dC, dI)) (ci := 5) (v := .int 0) (ty := .int) (C := RX3) (T := TX3) (N := 14) hx hb hts hiX3 tyX3 tyX3_ok nmX3 hown hK hP hD hS 0 rfl rfl 13 (by decide) hw4 (fun _ h9 => h9) rfl (by decide +kernel) rfl rfl (Nat.le_of_ble_eq_true rfl) (kdr dgX3_digest_336 4 0 rfl rfl) (fun H locs hP hD hS => ?_)
          have hP : va_P (dC, dI) vwCl ((wMo cJ cZ b mce mfr mun mbe men mov msp mwb mwe mwi mac mre mkn 0) ++ [(qn0, .inl (cI, mwi.toNatClampNeg, .inl ext0))]) H := hP
          have hD : va_D A ((wMo cJ cZ b mce mfr mun mbe men mov msp mwb mwe mwi mac mre mkn 0) ++ [(qn0, .inl (cI, mwi.toNatClampNeg, .inl ext0))]) := hD
          refine lv_lload_n hx hb (kdr dgX3_digest_336 4 1 rfl rfl) rfl (lv_at hl 0 rfl) ?_
          have hP := hP.sub (ws' := (wMo cJ cZ b mce mfr mun mbe men mov msp mwb mwe mwi mac mre mkn 0)) [0, 1, 2, 3, 4, 5, 6] rfl
          have h := Option.some.inj h
          subst h
          refine W.widen (k := 86) (n := 1880) (by omega) (by omega) ?_
          exact kret_l (v := (((((((((((((x1 * 31) + r2.toInt64) * 31) + r3.toInt64) * 31) + r4.1.toInt64) * 31) + r5.1.toInt64) * 31) + r6.1.toInt64) * 31) + r7.1.toInt64) * 31) + ((0 : Int32).toInt64)) hx hb hr hlocks hS hP (kdr dgX3_digest_336 4 2 rfl rfl)
        · have h := g_f c9 h
          refine lv_iconst (v := 1) hx hb (kdr dgX3_digest_336 3 2 rfl rfl) (by decide) ?_
          refine lv_goto (tgt := 398) hx hb (kdr dgX3_digest_336 3 3 rfl rfl) (by decide) ?_
          refine lv_i2l (v := (1 : Int32).toInt64) hx hb (kdr dgX3_digest_336 3 5 rfl rfl) rfl ?_
          refine lv_ladd hx hb (kdr dgX3_digest_336 3 6 rfl rfl) ?_
          refine lv_lstore_n (lv' := (kvJ 1 ((((((((((((((x1 * 31) + r2.toInt64) * 31) + r3.toInt64) * 31) + r4.1.toInt64) * 31) + r5.1.toInt64) * 31) + r6.1.toInt64) * 31) + r7.1.toInt64) * 31) + ((1 : Int32).toInt64)) (kvI 4 3 (kvA 0 (b 0) (kvA 3 qn0 kvE))))) hx hb (kdr dgX3_digest_336 3 7 rfl rfl) rfl hl (by decide) rfl (fun ls hl => ?_)
          refine lv_aload_n hx hb (kdr dgX3_digest_336 3 8 rfl rfl) rfl (lv_at hl 2 rfl) ?_
          refine lv_iconst (v := 0) hx hb (kdr dgX3_digest_336 3 9 rfl rfl) (by decide) ?_
          refine va_put (D := (dC, dI)) (ci := 5) (v := .int 0) (ty := .int) (C := RX3) (T := TX3) (N := 14) hx hb hts hiX3 tyX3 tyX3_ok nmX3 hown hK hP hD hS 0 rfl rfl 13 (by decide) hw4 (fun _ h9 => h9) rfl (by decide +kernel) rfl rfl (Nat.le_of_ble_eq_true rfl) (kdr dgX3_digest_336 4 0 rfl rfl) (fun H locs hP hD hS => ?_)
          have hP : va_P (dC, dI) vwCl ((wMo cJ cZ b mce mfr mun mbe men mov msp mwb mwe mwi mac mre mkn 0) ++ [(qn0, .inl (cI, mwi.toNatClampNeg, .inl ext0))]) H := hP
          have hD : va_D A ((wMo cJ cZ b mce mfr mun mbe men mov msp mwb mwe mwi mac mre mkn 0) ++ [(qn0, .inl (cI, mwi.toNatClampNeg, .inl ext0))]) := hD
          refine lv_lload_n hx hb (kdr dgX3_digest_336 4 1 rfl rfl) rfl (lv_at hl 0 rfl) ?_
          have hP := hP.sub (ws' := (wMo cJ cZ b mce mfr mun mbe men mov msp mwb mwe mwi mac mre mkn 0)) [0, 1, 2, 3, 4, 5, 6] rfl
          have h := Option.some.inj h
          subst h
          refine W.widen (k := 86) (n := 1880) (by omega) (by omega) ?_
          exact kret_l (v := (((((((((((((x1 * 31) + r2.toInt64) * 31) + r3.toInt64) * 31) + r4.1.toInt64) * 31) + r5.1.toInt64) * 31) + r6.1.toInt64) * 31) + r7.1.toInt64) * 31) + ((1 : Int32).toInt64)) hx hb hr hlocks hS hP (kdr dgX3_digest_336 4 2 rfl rfl)
      · have h := g_f c1 h
        refine lv_aload_n hx hb (kdr dgX3_digest_164 7 2 rfl rfl) rfl (lv_at hl 0 rfl) ?_
        refine lv_lload_n hx hb (kdr dgX3_digest_164 7 3 rfl rfl) rfl (lv_at hl 1 rfl) ?_
        refine lv_aload_n hx hb (kdr dgX3_digest_164 7 4 rfl rfl) rfl (lv_at hl 0 rfl) ?_
        refine va_get (D := (dC, dI)) (ci := 5) (v := .ref (b 5)) (C := RX3) (T := TX3) (N := 14) hx hb hts hiX3 hown hK hP 0 rfl rfl 7 (by decide) hw5 (fun _ h9 => h9) rfl (kdr dgX3_digest_164 7 5 rfl rfl) ?_
        refine lv_aload_n hx hb (kdr dgX3_digest_164 7 6 rfl rfl) rfl (lv_at hl 0 rfl) ?_
        refine va_get (D := (dC, dI)) (ci := 5) (v := .ref (b 6)) (C := RX3) (T := TX3) (N := 14) hx hb hts hiX3 hown hK hP 0 rfl rfl 8 (by decide) hw6 (fun _ h9 => h9) rfl (kdr dgX3_digest_164 7 7 rfl rfl) ?_
        refine lv_iload hx hb (kdr dgX3_digest_164 7 8 rfl rfl) (lv_at hl 3 rfl) ?_
        obtain ⟨r2, g2, h⟩ := g_b h
        refine kcall_l ((wMo cJ cZ b mce mfr mun mbe men mov msp mwb mwe mwi mac mre mkn mth) ++ [(qn0, .inl (cI, mwi.toNatClampNeg, .inl ext0))]) (va_runV (As := [.long x1, .ref (b 5), .ref (b 6), .int x4]) (rest := []) ⟨hx, hb, hml, hown, hts⟩ (c_X3_added l dC dI cB cI cJ cZ (b 0) (b 5) 8 (b 6) 8 _ mwb mwe x1 x4 r2 g2) (kcwV hts kw_1477 kv_X3_added rfl rfl ⟨(Nat.le_of_ble_eq_true rfl), (Nat.le_of_ble_eq_true rfl)⟩) (kpV (A := A) (hP.sub (kIT mk_35 0) (km_f (m := mk_35) rfl rfl)) hK (hD.sub (kIT mk_35 0) (km_nd mk_35) (km_T (m := mk_35) rfl rfl)) hG (krecv_5 (q0 := 0) hK hP rfl)) rfl rfl hl.1 rfl (lv_room (Nat.le_of_ble_eq_true rfl)) (kdr dgX3_digest_164 7 9 rfl rfl) ⟨by show _ ≤ (86 : Nat); omega, by show _ ≤ (1880 : Nat); omega⟩) hP hD hS hA (kIT mk_35 0) (kIT mk_36 0) (km_T (m := mk_35) rfl rfl) (km_T (m := mk_35) rfl rfl) [((b 0), .inr (5, [.ref (b 1), .long mfr, .long mun, .ref (b 2), .ref (b 3), .ref (b 4), .int msp, .ref (b 5), .ref (b 6), .int mwi, .int mac, .int mre, .int mkn, .int mth])), ((b 1), .inl (cJ, 4, .inr (.inl mce))), ((b 2), .inl (cJ, 10, .inr (.inl mbe))), ((b 3), .inl (cJ, 10, .inr (.inl men))), ((b 4), .inl (cZ, 10, .inl mov)), (qn0, .inl (cI, mwi.toNatClampNeg, .inl ext0))] (km_T (m := mk_36) rfl rfl) (km_T (m := mk_36) rfl rfl) (km_cov (m := mk_35) (n := mk_36) rfl rfl) (km_dis (m := mk_35) (n := mk_36) rfl) rfl (fun H locs hP hD hS => ?_)
        refine lv_ldc2 (v := (31)) hx hb hown hw1 (kdr dgX3_digest_164 8 0 rfl rfl) ?_
        refine lv_lmul hx hb (kdr dgX3_digest_164 8 1 rfl rfl) ?_
        refine lv_aload_n hx hb (kdr dgX3_digest_164 8 2 rfl rfl) rfl (lv_at hl 2 rfl) ?_
        refine lv_iload hx hb (kdr dgX3_digest_164 8 3 rfl rfl) (lv_at hl 3 rfl) ?_
        obtain ⟨z2, h⟩ := g_if h
        refine va_iald hx hb hK hP 7 1 rfl rfl (ix_in z2) (kdr dgX3_digest_164 8 4 rfl rfl) ?_
        refine lv_i2l (v := (ext0 x4.toNatClampNeg).toInt64) hx hb (kdr dgX3_digest_164 8 5 rfl rfl) rfl ?_
        refine lv_ladd hx hb (kdr dgX3_digest_164 8 6 rfl rfl) ?_
        refine lv_lstore_n (lv' := (kvJ 1 ((r2 * 31) + ((ext0 x4.toNatClampNeg).toInt64)) (kvA 0 (b 0) (kvA 3 qn0 (kvI 4 x4 kvE))))) hx hb (kdr dgX3_digest_164 8 7 rfl rfl) rfl hl (by decide) rfl (fun ls hl => ?_)
        refine lv_iinc (v := x4 + 1) (lv' := (kvI 4 (x4 + 1) (kvJ 1 ((r2 * 31) + ((ext0 x4.toNatClampNeg).toInt64)) (kvA 0 (b 0) (kvA 3 qn0 kvE))))) hx hb (kdr dgX3_digest_164 8 8 rfl rfl) hl (k := 3) rfl rfl (by decide) rfl (fun ls hl => ?_)
        refine lv_goto (tgt := 279) hx hb (kdr dgX3_digest_164 8 9 rfl rfl) (by decide) ?_
        exact ih mce mfr mun mbe men mov msp mwb mwe mwi mac mre mkn mth ext0 ((r2 * 31) + ((ext0 x4.toNatClampNeg).toInt64)) (x4 + 1) qn0 _ _ _ _ (by omega) (by omega) hP hD hS ls (lv_sub hl [2, 1, 3, 0] rfl) h
  have J188 : ∀ (n : Nat), ∀ (mce : Nat → Int64) (mfr : Int64) (mun : Int64) (mbe : Nat → Int64) (men : Nat → Int64) (mov : Nat → Int32) (msp : Int32) (mwb : Nat → Int64) (mwe : Nat → Int64) (mwi : Int32) (mac : Int32) (mre : Int32) (mkn : Int32) (mth : Int32) (x1 : Int64) (x3 : Int32) (H : Heap) (locs : List Loc) (kc ks : Nat), kc + (n * 5 + 11) ≤ 86 → ks + (n * 110 + 230) ≤ 1880 → va_P (dC, dI) vwCl (wMo cJ cZ b mce mfr mun mbe men mov msp mwb mwe mwi mac mre mkn mth) H → va_D A (wMo cJ cZ b mce mfr mun mbe men mov msp mwb mwe mwi mac mre mkn mth) → va_S A s.heap H locs → ∀ (ls : Array Slot), lv_has ls 5 (kvA 0 (b 0) (kvJ 1 x1 (kvI 3 x3 kvE))) → f_X3_digest_188 n mfr mun mbe men mov msp mwb mwe mwi mac mre mkn x1 x3 = some res → W p l e (headSpec wsX3_digest (kRm 5 86 1880 119)).room s m ([.ref (b 0)] : List Value).toArray below meth c H locs kc ks (MQ below (kL (dC, dI) (res.1) (wMo cJ cZ b mce mfr mun mbe men mov msp mwb mwe mwi mac mre mkn (res.2)) A) ([.ref (b 0)] : List Value).toArray s 86 1880 A) (F0 m 188 ls []) := by
    intro n
    induction n with
    | zero =>
      intro mce mfr mun mbe men mov msp mwb mwe mwi mac mre mkn mth x1 x3 H locs kc ks hkc hks hP hD hS ls hl h
      have h := f_X3_digest_188_0.symm.trans h
      cases h
    | succ n ih =>
      intro mce mfr mun mbe men mov msp mwb mwe mwi mac mre mkn mth x1 x3 H locs kc ks hkc hks hP hD hS ls hl h
      have h := f_X3_digest_188_s.symm.trans h
      refine lv_iload_n hx hb (kdr dgX3_digest_164 1 6 rfl rfl) rfl (lv_at hl 2 rfl) ?_
      refine lv_aload_n hx hb (kdr dgX3_digest_164 1 7 rfl rfl) rfl (lv_at hl 0 rfl) ?_
      obtain ⟨r1, g1, h⟩ := g_b h
      refine kq_i (wMo cJ cZ b mce mfr mun mbe men mov msp mwb mwe mwi mac mre mkn r1.2) (fun qP qD qF => va_runV (As := []) (rest := [.int x3]) ⟨hx, hb, hml, hown, hts⟩ (c_X3_frees l dC dI cB cI cJ cZ b _ mce mfr mun mbe men mov msp mwb mwe mwi mac mre mkn mth  r1 g1) (kcwV hts kw_1483 kv_X3_frees rfl rfl ⟨(Nat.le_of_ble_eq_true rfl), (Nat.le_of_ble_eq_true rfl)⟩) (kpV (A := A) qP hK qD hG (krecv_5 (q0 := 0) hK hP rfl)) rfl rfl hl.1 rfl (lv_room (Nat.le_of_ble_eq_true rfl)) (kdr dgX3_digest_164 1 8 rfl rfl) ⟨by show _ ≤ (86 : Nat); omega, by show _ ≤ (1880 : Nat); omega⟩) hP hD hS hA kFr_Mo (fun H locs hP hD hS br1 => ?_)
      refine lv_icmp_ge (tgt := 232) hx hb (kdr dgX3_digest_164 1 9 rfl rfl) (by decide) (fun c2 => ?_) (fun c2 => ?_)
      · have h := g_t c2 h
        refine lv_iconst (v := 0) hx hb (kdr dgX3_digest_164 3 9 rfl rfl) (by decide) ?_
        refine lv_istore_n (lv' := (kvI 3 0 (kvA 0 (b 0) (kvJ 1 x1 kvE)))) hx hb (kdr dgX3_digest_164 4 0 rfl rfl) rfl hl (by decide) rfl (fun ls hl => ?_)
        refine lv_iload_n hx hb (kdr dgX3_digest_164 4 1 rfl rfl) rfl (lv_at hl 0 rfl) ?_
        refine lv_bipush (v := 6) hx hb (kdr dgX3_digest_164 4 2 rfl rfl) (by decide) ?_
        refine lv_icmp_ge (tgt := 259) hx hb (kdr dgX3_digest_164 4 3 rfl rfl) (by decide) (fun c9 => absurd c9 (by decide)) (fun _ => ?_)
        refine lv_lload_n hx hb (kdr dgX3_digest_164 4 4 rfl rfl) rfl (lv_at hl 2 rfl) ?_
        refine lv_ldc2 (v := (31)) hx hb hown hw1 (kdr dgX3_digest_164 4 5 rfl rfl) ?_
        refine lv_lmul hx hb (kdr dgX3_digest_164 4 6 rfl rfl) ?_
        refine lv_aload_n hx hb (kdr dgX3_digest_164 4 7 rfl rfl) rfl (lv_at hl 1 rfl) ?_
        refine lv_iload_n hx hb (kdr dgX3_digest_164 4 8 rfl rfl) rfl (lv_at hl 0 rfl) ?_
        obtain ⟨r3, g3, h⟩ := g_b h
        refine kq_i (wMo cJ cZ b mce mfr mun mbe men mov msp mwb mwe mwi mac mre mkn r3.2) (fun qP qD qF => va_runV (As := [.int 0]) (rest := [.long (x1 * 31)]) ⟨hx, hb, hml, hown, hts⟩ (c_X3_length l dC dI cB cI cJ cZ b _ mce mfr mun mbe men mov msp mwb mwe mwi mac mre mkn r1.2 0 r3 g3) (kcwV hts kw_1485 kv_X3_length rfl rfl ⟨(Nat.le_of_ble_eq_true rfl), (Nat.le_of_ble_eq_true rfl)⟩) (kpV (A := A) qP hK qD hG (krecv_5 (q0 := 0) hK hP rfl)) rfl rfl hl.1 rfl (lv_room (Nat.le_of_ble_eq_true rfl)) (kdr dgX3_digest_164 4 9 rfl rfl) ⟨by show _ ≤ (86 : Nat); omega, by show _ ≤ (1880 : Nat); omega⟩) hP hD hS hA kFr_Mo (fun H locs hP hD hS br3 => ?_)
        refine lv_i2l (v := r3.1.toInt64) hx hb (kdr dgX3_digest_164 5 0 rfl rfl) rfl ?_
        refine lv_ladd hx hb (kdr dgX3_digest_164 5 1 rfl rfl) ?_
        refine lv_lstore_n (lv' := (kvJ 1 ((x1 * 31) + r3.1.toInt64) (kvI 3 0 (kvA 0 (b 0) kvE)))) hx hb (kdr dgX3_digest_164 5 2 rfl rfl) rfl hl (by decide) rfl (fun ls hl => ?_)
        refine lv_iinc (v := 1) (lv' := (kvI 3 1 (kvJ 1 ((x1 * 31) + r3.1.toInt64) (kvA 0 (b 0) kvE)))) hx hb (kdr dgX3_digest_164 5 3 rfl rfl) hl (k := 1) rfl (by decide) (by decide) rfl (fun ls hl => ?_)
        refine lv_goto (tgt := 234) hx hb (kdr dgX3_digest_164 5 4 rfl rfl) (by decide) ?_
        refine lv_iload_n hx hb (kdr dgX3_digest_164 4 1 rfl rfl) rfl (lv_at hl 0 rfl) ?_
        refine lv_bipush (v := 6) hx hb (kdr dgX3_digest_164 4 2 rfl rfl) (by decide) ?_
        refine lv_icmp_ge (tgt := 259) hx hb (kdr dgX3_digest_164 4 3 rfl rfl) (by decide) (fun c9 => absurd c9 (by decide)) (fun _ => ?_)
        refine lv_lload_n hx hb (kdr dgX3_digest_164 4 4 rfl rfl) rfl (lv_at hl 1 rfl) ?_
        refine lv_ldc2 (v := (31)) hx hb hown hw1 (kdr dgX3_digest_164 4 5 rfl rfl) ?_
        refine lv_lmul hx hb (kdr dgX3_digest_164 4 6 rfl rfl) ?_
        refine lv_aload_n hx hb (kdr dgX3_digest_164 4 7 rfl rfl) rfl (lv_at hl 2 rfl) ?_
        refine lv_iload_n hx hb (kdr dgX3_digest_164 4 8 rfl rfl) rfl (lv_at hl 0 rfl) ?_
        obtain ⟨r4, g4, h⟩ := g_b h
        refine kq_i (wMo cJ cZ b mce mfr mun mbe men mov msp mwb mwe mwi mac mre mkn r4.2) (fun qP qD qF => va_runV (As := [.int 1]) (rest := [.long (((x1 * 31) + r3.1.toInt64) * 31)]) ⟨hx, hb, hml, hown, hts⟩ (c_X3_length l dC dI cB cI cJ cZ b _ mce mfr mun mbe men mov msp mwb mwe mwi mac mre mkn r3.2 1 r4 g4) (kcwV hts kw_1485 kv_X3_length rfl rfl ⟨(Nat.le_of_ble_eq_true rfl), (Nat.le_of_ble_eq_true rfl)⟩) (kpV (A := A) qP hK qD hG (krecv_5 (q0 := 0) hK hP rfl)) rfl rfl hl.1 rfl (lv_room (Nat.le_of_ble_eq_true rfl)) (kdr dgX3_digest_164 4 9 rfl rfl) ⟨by show _ ≤ (86 : Nat); omega, by show _ ≤ (1880 : Nat); omega⟩) hP hD hS hA kFr_Mo (fun H locs hP hD hS br4 => ?_)
        refine lv_i2l (v := r4.1.toInt64) hx hb (kdr dgX3_digest_164 5 0 rfl rfl) rfl ?_
        refine lv_ladd hx hb (kdr dgX3_digest_164 5 1 rfl rfl) ?_
        refine lv_lstore_n (lv' := (kvJ 1 ((((x1 * 31) + r3.1.toInt64) * 31) + r4.1.toInt64) (kvI 3 1 (kvA 0 (b 0) kvE)))) hx hb (kdr dgX3_digest_164 5 2 rfl rfl) rfl hl (by decide) rfl (fun ls hl => ?_)
        refine lv_iinc (v := 2) (lv' := (kvI 3 2 (kvJ 1 ((((x1 * 31) + r3.1.toInt64) * 31) + r4.1.toInt64) (kvA 0 (b 0) kvE)))) hx hb (kdr dgX3_digest_164 5 3 rfl rfl) hl (k := 1) rfl (by decide) (by decide) rfl (fun ls hl => ?_)
        refine lv_goto (tgt := 234) hx hb (kdr dgX3_digest_164 5 4 rfl rfl) (by decide) ?_
        refine lv_iload_n hx hb (kdr dgX3_digest_164 4 1 rfl rfl) rfl (lv_at hl 0 rfl) ?_
        refine lv_bipush (v := 6) hx hb (kdr dgX3_digest_164 4 2 rfl rfl) (by decide) ?_
        refine lv_icmp_ge (tgt := 259) hx hb (kdr dgX3_digest_164 4 3 rfl rfl) (by decide) (fun c9 => absurd c9 (by decide)) (fun _ => ?_)
        refine lv_lload_n hx hb (kdr dgX3_digest_164 4 4 rfl rfl) rfl (lv_at hl 1 rfl) ?_
        refine lv_ldc2 (v := (31)) hx hb hown hw1 (kdr dgX3_digest_164 4 5 rfl rfl) ?_
        refine lv_lmul hx hb (kdr dgX3_digest_164 4 6 rfl rfl) ?_
        refine lv_aload_n hx hb (kdr dgX3_digest_164 4 7 rfl rfl) rfl (lv_at hl 2 rfl) ?_
        refine lv_iload_n hx hb (kdr dgX3_digest_164 4 8 rfl rfl) rfl (lv_at hl 0 rfl) ?_
        obtain ⟨r5, g5, h⟩ := g_b h
        refine kq_i (wMo cJ cZ b mce mfr mun mbe men mov msp mwb mwe mwi mac mre mkn r5.2) (fun qP qD qF => va_runV (As := [.int 2]) (rest := [.long (((((x1 * 31) + r3.1.toInt64) * 31) + r4.1.toInt64) * 31)]) ⟨hx, hb, hml, hown, hts⟩ (c_X3_length l dC dI cB cI cJ cZ b _ mce mfr mun mbe men mov msp mwb mwe mwi mac mre mkn r4.2 2 r5 g5) (kcwV hts kw_1485 kv_X3_length rfl rfl ⟨(Nat.le_of_ble_eq_true rfl), (Nat.le_of_ble_eq_true rfl)⟩) (kpV (A := A) qP hK qD hG (krecv_5 (q0 := 0) hK hP rfl)) rfl rfl hl.1 rfl (lv_room (Nat.le_of_ble_eq_true rfl)) (kdr dgX3_digest_164 4 9 rfl rfl) ⟨by show _ ≤ (86 : Nat); omega, by show _ ≤ (1880 : Nat); omega⟩) hP hD hS hA kFr_Mo (fun H locs hP hD hS br5 => ?_)
        refine lv_i2l (v := r5.1.toInt64) hx hb (kdr dgX3_digest_164 5 0 rfl rfl) rfl ?_
        refine lv_ladd hx hb (kdr dgX3_digest_164 5 1 rfl rfl) ?_
        refine lv_lstore_n (lv' := (kvJ 1 ((((((x1 * 31) + r3.1.toInt64) * 31) + r4.1.toInt64) * 31) + r5.1.toInt64) (kvI 3 2 (kvA 0 (b 0) kvE)))) hx hb (kdr dgX3_digest_164 5 2 rfl rfl) rfl hl (by decide) rfl (fun ls hl => ?_)
        refine lv_iinc (v := 3) (lv' := (kvI 3 3 (kvJ 1 ((((((x1 * 31) + r3.1.toInt64) * 31) + r4.1.toInt64) * 31) + r5.1.toInt64) (kvA 0 (b 0) kvE)))) hx hb (kdr dgX3_digest_164 5 3 rfl rfl) hl (k := 1) rfl (by decide) (by decide) rfl (fun ls hl => ?_)
        refine lv_goto (tgt := 234) hx hb (kdr dgX3_digest_164 5 4 rfl rfl) (by decide) ?_
        refine lv_iload_n hx hb (kdr dgX3_digest_164 4 1 rfl rfl) rfl (lv_at hl 0 rfl) ?_
        refine lv_bipush (v := 6) hx hb (kdr dgX3_digest_164 4 2 rfl rfl) (by decide) ?_
        refine lv_icmp_ge (tgt := 259) hx hb (kdr dgX3_digest_164 4 3 rfl rfl) (by decide) (fun c9 => absurd c9 (by decide)) (fun _ => ?_)
        refine lv_lload_n hx hb (kdr dgX3_digest_164 4 4 rfl rfl) rfl (lv_at hl 1 rfl) ?_
        refine lv_ldc2 (v := (31)) hx hb hown hw1 (kdr dgX3_digest_164 4 5 rfl rfl) ?_
        refine lv_lmul hx hb (kdr dgX3_digest_164 4 6 rfl rfl) ?_
        refine lv_aload_n hx hb (kdr dgX3_digest_164 4 7 rfl rfl) rfl (lv_at hl 2 rfl) ?_
        refine lv_iload_n hx hb (kdr dgX3_digest_164 4 8 rfl rfl) rfl (lv_at hl 0 rfl) ?_
        obtain ⟨r6, g6, h⟩ := g_b h
        refine kq_i (wMo cJ cZ b mce mfr mun mbe men mov msp mwb mwe mwi mac mre mkn r6.2) (fun qP qD qF => va_runV (As := [.int 3]) (rest := [.long (((((((x1 * 31) + r3.1.toInt64) * 31) + r4.1.toInt64) * 31) + r5.1.toInt64) * 31)]) ⟨hx, hb, hml, hown, hts⟩ (c_X3_length l dC dI cB cI cJ cZ b _ mce mfr mun mbe men mov msp mwb mwe mwi mac mre mkn r5.2 3 r6 g6) (kcwV hts kw_1485 kv_X3_length rfl rfl ⟨(Nat.le_of_ble_eq_true rfl), (Nat.le_of_ble_eq_true rfl)⟩) (kpV (A := A) qP hK qD hG (krecv_5 (q0 := 0) hK hP rfl)) rfl rfl hl.1 rfl (lv_room (Nat.le_of_ble_eq_true rfl)) (kdr dgX3_digest_164 4 9 rfl rfl) ⟨by show _ ≤ (86 : Nat); omega, by show _ ≤ (1880 : Nat); omega⟩) hP hD hS hA kFr_Mo (fun H locs hP hD hS br6 => ?_)
        refine lv_i2l (v := r6.1.toInt64) hx hb (kdr dgX3_digest_164 5 0 rfl rfl) rfl ?_
        refine lv_ladd hx hb (kdr dgX3_digest_164 5 1 rfl rfl) ?_
        refine lv_lstore_n (lv' := (kvJ 1 ((((((((x1 * 31) + r3.1.toInt64) * 31) + r4.1.toInt64) * 31) + r5.1.toInt64) * 31) + r6.1.toInt64) (kvI 3 3 (kvA 0 (b 0) kvE)))) hx hb (kdr dgX3_digest_164 5 2 rfl rfl) rfl hl (by decide) rfl (fun ls hl => ?_)
        refine lv_iinc (v := 4) (lv' := (kvI 3 4 (kvJ 1 ((((((((x1 * 31) + r3.1.toInt64) * 31) + r4.1.toInt64) * 31) + r5.1.toInt64) * 31) + r6.1.toInt64) (kvA 0 (b 0) kvE)))) hx hb (kdr dgX3_digest_164 5 3 rfl rfl) hl (k := 1) rfl (by decide) (by decide) rfl (fun ls hl => ?_)
        refine lv_goto (tgt := 234) hx hb (kdr dgX3_digest_164 5 4 rfl rfl) (by decide) ?_
        refine lv_iload_n hx hb (kdr dgX3_digest_164 4 1 rfl rfl) rfl (lv_at hl 0 rfl) ?_
        refine lv_bipush (v := 6) hx hb (kdr dgX3_digest_164 4 2 rfl rfl) (by decide) ?_
        refine lv_icmp_ge (tgt := 259) hx hb (kdr dgX3_digest_164 4 3 rfl rfl) (by decide) (fun c9 => absurd c9 (by decide)) (fun _ => ?_)
        refine lv_lload_n hx hb (kdr dgX3_digest_164 4 4 rfl rfl) rfl (lv_at hl 1 rfl) ?_
        refine lv_ldc2 (v := (31)) hx hb hown hw1 (kdr dgX3_digest_164 4 5 rfl rfl) ?_
        refine lv_lmul hx hb (kdr dgX3_digest_164 4 6 rfl rfl) ?_
        refine lv_aload_n hx hb (kdr dgX3_digest_164 4 7 rfl rfl) rfl (lv_at hl 2 rfl) ?_
        refine lv_iload_n hx hb (kdr dgX3_digest_164 4 8 rfl rfl) rfl (lv_at hl 0 rfl) ?_
        obtain ⟨r7, g7, h⟩ := g_b h
        refine kq_i (wMo cJ cZ b mce mfr mun mbe men mov msp mwb mwe mwi mac mre mkn r7.2) (fun qP qD qF => va_runV (As := [.int 4]) (rest := [.long (((((((((x1 * 31) + r3.1.toInt64) * 31) + r4.1.toInt64) * 31) + r5.1.toInt64) * 31) + r6.1.toInt64) * 31)]) ⟨hx, hb, hml, hown, hts⟩ (c_X3_length l dC dI cB cI cJ cZ b _ mce mfr mun mbe men mov msp mwb mwe mwi mac mre mkn r6.2 4 r7 g7) (kcwV hts kw_1485 kv_X3_length rfl rfl ⟨(Nat.le_of_ble_eq_true rfl), (Nat.le_of_ble_eq_true rfl)⟩) (kpV (A := A) qP hK qD hG (krecv_5 (q0 := 0) hK hP rfl)) rfl rfl hl.1 rfl (lv_room (Nat.le_of_ble_eq_true rfl)) (kdr dgX3_digest_164 4 9 rfl rfl) ⟨by show _ ≤ (86 : Nat); omega, by show _ ≤ (1880 : Nat); omega⟩) hP hD hS hA kFr_Mo (fun H locs hP hD hS br7 => ?_)
        refine lv_i2l (v := r7.1.toInt64) hx hb (kdr dgX3_digest_164 5 0 rfl rfl) rfl ?_
        refine lv_ladd hx hb (kdr dgX3_digest_164 5 1 rfl rfl) ?_
        refine lv_lstore_n (lv' := (kvJ 1 ((((((((((x1 * 31) + r3.1.toInt64) * 31) + r4.1.toInt64) * 31) + r5.1.toInt64) * 31) + r6.1.toInt64) * 31) + r7.1.toInt64) (kvI 3 4 (kvA 0 (b 0) kvE)))) hx hb (kdr dgX3_digest_164 5 2 rfl rfl) rfl hl (by decide) rfl (fun ls hl => ?_)
        refine lv_iinc (v := 5) (lv' := (kvI 3 5 (kvJ 1 ((((((((((x1 * 31) + r3.1.toInt64) * 31) + r4.1.toInt64) * 31) + r5.1.toInt64) * 31) + r6.1.toInt64) * 31) + r7.1.toInt64) (kvA 0 (b 0) kvE)))) hx hb (kdr dgX3_digest_164 5 3 rfl rfl) hl (k := 1) rfl (by decide) (by decide) rfl (fun ls hl => ?_)
        refine lv_goto (tgt := 234) hx hb (kdr dgX3_digest_164 5 4 rfl rfl) (by decide) ?_
        refine lv_iload_n hx hb (kdr dgX3_digest_164 4 1 rfl rfl) rfl (lv_at hl 0 rfl) ?_
        refine lv_bipush (v := 6) hx hb (kdr dgX3_digest_164 4 2 rfl rfl) (by decide) ?_
        refine lv_icmp_ge (tgt := 259) hx hb (kdr dgX3_digest_164 4 3 rfl rfl) (by decide) (fun c9 => absurd c9 (by decide)) (fun _ => ?_)
        refine lv_lload_n hx hb (kdr dgX3_digest_164 4 4 rfl rfl) rfl (lv_at hl 1 rfl) ?_
        refine lv_ldc2 (v := (31)) hx hb hown hw1 (kdr dgX3_digest_164 4 5 rfl rfl) ?_
        refine lv_lmul hx hb (kdr dgX3_digest_164 4 6 rfl rfl) ?_
        refine lv_aload_n hx hb (kdr dgX3_digest_164 4 7 rfl rfl) rfl (lv_at hl 2 rfl) ?_
        refine lv_iload_n hx hb (kdr dgX3_digest_164 4 8 rfl rfl) rfl (lv_at hl 0 rfl) ?_
        obtain ⟨r8, g8, h⟩ := g_b h
        refine kq_i (wMo cJ cZ b mce mfr mun mbe men mov msp mwb mwe mwi mac mre mkn r8.2) (fun qP qD qF => va_runV (As := [.int 5]) (rest := [.long (((((((((((x1 * 31) + r3.1.toInt64) * 31) + r4.1.toInt64) * 31) + r5.1.toInt64) * 31) + r6.1.toInt64) * 31) + r7.1.toInt64) * 31)]) ⟨hx, hb, hml, hown, hts⟩ (c_X3_length l dC dI cB cI cJ cZ b _ mce mfr mun mbe men mov msp mwb mwe mwi mac mre mkn r7.2 5 r8 g8) (kcwV hts kw_1485 kv_X3_length rfl rfl ⟨(Nat.le_of_ble_eq_true rfl), (Nat.le_of_ble_eq_true rfl)⟩) (kpV (A := A) qP hK qD hG (krecv_5 (q0 := 0) hK hP rfl)) rfl rfl hl.1 rfl (lv_room (Nat.le_of_ble_eq_true rfl)) (kdr dgX3_digest_164 4 9 rfl rfl) ⟨by show _ ≤ (86 : Nat); omega, by show _ ≤ (1880 : Nat); omega⟩) hP hD hS hA kFr_Mo (fun H locs hP hD hS br8 => ?_)
        refine lv_i2l (v := r8.1.toInt64) hx hb (kdr dgX3_digest_164 5 0 rfl rfl) rfl ?_
        refine lv_ladd hx hb (kdr dgX3_digest_164 5 1 rfl rfl) ?_
        refine lv_lstore_n (lv' := (kvJ 1 ((((((((((((x1 * 31) + r3.1.toInt64) * 31) + r4.1.toInt64) * 31) + r5.1.toInt64) * 31) + r6.1.toInt64) * 31) + r7.1.toInt64) * 31) + r8.1.toInt64) (kvI 3 5 (kvA 0 (b 0) kvE)))) hx hb (kdr dgX3_digest_164 5 2 rfl rfl) rfl hl (by decide) rfl (fun ls hl => ?_)
        refine lv_iinc (v := 6) (lv' := (kvI 3 6 (kvJ 1 ((((((((((((x1 * 31) + r3.1.toInt64) * 31) + r4.1.toInt64) * 31) + r5.1.toInt64) * 31) + r6.1.toInt64) * 31) + r7.1.toInt64) * 31) + r8.1.toInt64) (kvA 0 (b 0) kvE)))) hx hb (kdr dgX3_digest_164 5 3 rfl rfl) hl (k := 1) rfl (by decide) (by decide) rfl (fun ls hl => ?_)
        refine lv_goto (tgt := 234) hx hb (kdr dgX3_digest_164 5 4 rfl rfl) (by decide) ?_
        refine lv_iload_n hx hb (kdr dgX3_digest_164 4 1 rfl rfl) rfl (lv_at hl 0 rfl) ?_
        refine lv_bipush (v := 6) hx hb (kdr dgX3_digest_164 4 2 rfl rfl) (by decide) ?_
        refine lv_icmp_ge (tgt := 259) hx hb (kdr dgX3_digest_164 4 3 rfl rfl) (by decide) (fun _ => ?_) (fun c9 => absurd (by decide) c9)
        refine lv_lload_n hx hb (kdr dgX3_digest_164 5 5 rfl rfl) rfl (lv_at hl 1 rfl) ?_
        refine lv_ldc2 (v := (31)) hx hb hown hw1 (kdr dgX3_digest_164 5 6 rfl rfl) ?_
        refine lv_lmul hx hb (kdr dgX3_digest_164 5 7 rfl rfl) ?_
        refine lv_aload_n hx hb (kdr dgX3_digest_164 5 8 rfl rfl) rfl (lv_at hl 2 rfl) ?_
        refine va_get (D := (dC, dI)) (ci := 5) (v := .int mwi) (C := RX3) (T := TX3) (N := 14) hx hb hts hiX3 hown hK hP 0 rfl rfl 9 (by decide) hw3 (fun _ h9 => h9) rfl (kdr dgX3_digest_164 5 9 rfl rfl) ?_
        refine lv_i2l (v := mwi.toInt64) hx hb (kdr dgX3_digest_164 6 0 rfl rfl) rfl ?_
        refine lv_ladd hx hb (kdr dgX3_digest_164 6 1 rfl rfl) ?_
        refine lv_lstore_n (lv' := (kvJ 1 ((((((((((((((x1 * 31) + r3.1.toInt64) * 31) + r4.1.toInt64) * 31) + r5.1.toInt64) * 31) + r6.1.toInt64) * 31) + r7.1.toInt64) * 31) + r8.1.toInt64) * 31) + mwi.toInt64) (kvI 3 6 (kvA 0 (b 0) kvE)))) hx hb (kdr dgX3_digest_164 6 2 rfl rfl) rfl hl (by decide) rfl (fun ls hl => ?_)
        refine lv_aload_n hx hb (kdr dgX3_digest_164 6 3 rfl rfl) rfl (lv_at hl 2 rfl) ?_
        obtain ⟨r9, g9, h⟩ := g_b h
        refine kcall_r (wMo cJ cZ b mce mfr mun mbe men mov msp mwb mwe mwi mac mre mkn r8.2) (va_runV (As := []) (rest := []) ⟨hx, hb, hml, hown, hts⟩ (c_X3_roomsNow l dC dI cB cI cJ cZ b _ mce mfr mun mbe men mov msp mwb mwe mwi mac mre mkn r8.2  r9 g9) (kcwV hts kw_1434 kv_X3_roomsNow rfl rfl ⟨(Nat.le_of_ble_eq_true rfl), (Nat.le_of_ble_eq_true rfl)⟩) (kpV (A := A) (hP.sub [0, 1, 2, 3, 4, 5, 6] rfl) hK (hD.sub [0, 1, 2, 3, 4, 5, 6] (by decide) rfl) hG (krecv_5 (q0 := 0) hK hP rfl)) rfl rfl hl.1 rfl (lv_room (Nat.le_of_ble_eq_true rfl)) (kdr dgX3_digest_164 6 4 rfl rfl) ⟨by show _ ≤ (86 : Nat); omega, by show _ ≤ (1880 : Nat); omega⟩) hP hD hS hA [0, 1, 2, 3, 4, 5, 6] [] rfl rfl [] rfl rfl rfl (by decide) rfl rfl (fun qn0 H locs hP hD hS => ?_)
        have hP : va_P (dC, dI) vwCl ((wMo cJ cZ b mce mfr mun mbe men mov msp mwb mwe mwi mac mre mkn r8.2) ++ [(qn0, .inl (cI, mwi.toNatClampNeg, .inl r9))]) H := hP
        have hD : va_D A ((wMo cJ cZ b mce mfr mun mbe men mov msp mwb mwe mwi mac mre mkn r8.2) ++ [(qn0, .inl (cI, mwi.toNatClampNeg, .inl r9))]) := hD
        refine lv_astore_n (lv' := (kvA 3 qn0 (kvJ 1 ((((((((((((((x1 * 31) + r3.1.toInt64) * 31) + r4.1.toInt64) * 31) + r5.1.toInt64) * 31) + r6.1.toInt64) * 31) + r7.1.toInt64) * 31) + r8.1.toInt64) * 31) + mwi.toInt64) (kvA 0 (b 0) kvE)))) hx hb (kdr dgX3_digest_164 6 5 rfl rfl) rfl hl (by decide) rfl (fun ls hl => ?_)
        refine lv_iconst (v := 0) hx hb (kdr dgX3_digest_164 6 6 rfl rfl) (by decide) ?_
        refine lv_istore (lv' := (kvI 4 0 (kvA 3 qn0 (kvJ 1 ((((((((((((((x1 * 31) + r3.1.toInt64) * 31) + r4.1.toInt64) * 31) + r5.1.toInt64) * 31) + r6.1.toInt64) * 31) + r7.1.toInt64) * 31) + r8.1.toInt64) * 31) + mwi.toInt64) (kvA 0 (b 0) kvE))))) hx hb (kdr dgX3_digest_164 6 7 rfl rfl) hl (by decide) rfl (fun ls hl => ?_)
        exact J279 24 mce mfr mun mbe men mov msp mwb mwe mwi mac mre mkn r8.2 r9 ((((((((((((((x1 * 31) + r3.1.toInt64) * 31) + r4.1.toInt64) * 31) + r5.1.toInt64) * 31) + r6.1.toInt64) * 31) + r7.1.toInt64) * 31) + r8.1.toInt64) * 31) + mwi.toInt64) 0 qn0 _ _ _ _ (by omega) (by omega) hP hD hS ls (lv_sub hl [3, 2, 1, 0] rfl) h
      · have h := g_f c2 h
        refine lv_iconst (v := 0) hx hb (kdr dgX3_digest_164 2 0 rfl rfl) (by decide) ?_
        refine lv_istore (lv' := (kvI 4 0 (kvA 0 (b 0) (kvJ 1 x1 (kvI 3 x3 kvE))))) hx hb (kdr dgX3_digest_164 2 1 rfl rfl) hl (by decide) rfl (fun ls hl => ?_)
        refine lv_iload hx hb (kdr dgX3_digest_164 2 2 rfl rfl) (lv_at hl 0 rfl) ?_
        refine lv_iconst (v := 4) hx hb (kdr dgX3_digest_164 2 3 rfl rfl) (by decide) ?_
        refine lv_icmp_ge (tgt := 226) hx hb (kdr dgX3_digest_164 2 4 rfl rfl) (by decide) (fun c9 => absurd c9 (by decide)) (fun _ => ?_)
        refine lv_lload_n hx hb (kdr dgX3_digest_164 2 5 rfl rfl) rfl (lv_at hl 2 rfl) ?_
        refine lv_ldc2 (v := (31)) hx hb hown hw1 (kdr dgX3_digest_164 2 6 rfl rfl) ?_
        refine lv_lmul hx hb (kdr dgX3_digest_164 2 7 rfl rfl) ?_
        refine lv_aload_n hx hb (kdr dgX3_digest_164 2 8 rfl rfl) rfl (lv_at hl 1 rfl) ?_
        refine lv_iload_n hx hb (kdr dgX3_digest_164 2 9 rfl rfl) rfl (lv_at hl 3 rfl) ?_
        refine lv_iload hx hb (kdr dgX3_digest_164 3 0 rfl rfl) (lv_at hl 0 rfl) ?_
        obtain ⟨r3, g3, h⟩ := g_b h
        refine kq_i (wMo cJ cZ b mce mfr mun mbe men mov msp mwb mwe mwi mac mre mkn r3.2) (fun qP qD qF => va_runV (As := [.int x3, .int 0]) (rest := [.long (x1 * 31)]) ⟨hx, hb, hml, hown, hts⟩ (c_X3_ofFree l dC dI cB cI cJ cZ b _ mce mfr mun mbe men mov msp mwb mwe mwi mac mre mkn r1.2 x3 0 r3 g3) (kcwV hts kw_1484 kv_X3_ofFree rfl rfl ⟨(Nat.le_of_ble_eq_true rfl), (Nat.le_of_ble_eq_true rfl)⟩) (kpV (A := A) qP hK qD hG (krecv_5 (q0 := 0) hK hP rfl)) rfl rfl hl.1 rfl (lv_room (Nat.le_of_ble_eq_true rfl)) (kdr dgX3_digest_164 3 1 rfl rfl) ⟨by show _ ≤ (86 : Nat); omega, by show _ ≤ (1880 : Nat); omega⟩) hP hD hS hA kFr_Mo (fun H locs hP hD hS br3 => ?_)
        refine lv_i2l (v := r3.1.toInt64) hx hb (kdr dgX3_digest_164 3 2 rfl rfl) rfl ?_
        refine lv_ladd hx hb (kdr dgX3_digest_164 3 3 rfl rfl) ?_
        refine lv_lstore_n (lv' := (kvJ 1 ((x1 * 31) + r3.1.toInt64) (kvI 4 0 (kvA 0 (b 0) (kvI 3 x3 kvE))))) hx hb (kdr dgX3_digest_164 3 4 rfl rfl) rfl hl (by decide) rfl (fun ls hl => ?_)
        refine lv_iinc (v := 1) (lv' := (kvI 4 1 (kvJ 1 ((x1 * 31) + r3.1.toInt64) (kvA 0 (b 0) (kvI 3 x3 kvE))))) hx hb (kdr dgX3_digest_164 3 5 rfl rfl) hl (k := 1) rfl (by decide) (by decide) rfl (fun ls hl => ?_)
        refine lv_goto (tgt := 199) hx hb (kdr dgX3_digest_164 3 6 rfl rfl) (by decide) ?_
        refine lv_iload hx hb (kdr dgX3_digest_164 2 2 rfl rfl) (lv_at hl 0 rfl) ?_
        refine lv_iconst (v := 4) hx hb (kdr dgX3_digest_164 2 3 rfl rfl) (by decide) ?_
        refine lv_icmp_ge (tgt := 226) hx hb (kdr dgX3_digest_164 2 4 rfl rfl) (by decide) (fun c9 => absurd c9 (by decide)) (fun _ => ?_)
        refine lv_lload_n hx hb (kdr dgX3_digest_164 2 5 rfl rfl) rfl (lv_at hl 1 rfl) ?_
        refine lv_ldc2 (v := (31)) hx hb hown hw1 (kdr dgX3_digest_164 2 6 rfl rfl) ?_
        refine lv_lmul hx hb (kdr dgX3_digest_164 2 7 rfl rfl) ?_
        refine lv_aload_n hx hb (kdr dgX3_digest_164 2 8 rfl rfl) rfl (lv_at hl 2 rfl) ?_
        refine lv_iload_n hx hb (kdr dgX3_digest_164 2 9 rfl rfl) rfl (lv_at hl 3 rfl) ?_
        refine lv_iload hx hb (kdr dgX3_digest_164 3 0 rfl rfl) (lv_at hl 0 rfl) ?_
        obtain ⟨r4, g4, h⟩ := g_b h
        refine kq_i (wMo cJ cZ b mce mfr mun mbe men mov msp mwb mwe mwi mac mre mkn r4.2) (fun qP qD qF => va_runV (As := [.int x3, .int 1]) (rest := [.long (((x1 * 31) + r3.1.toInt64) * 31)]) ⟨hx, hb, hml, hown, hts⟩ (c_X3_ofFree l dC dI cB cI cJ cZ b _ mce mfr mun mbe men mov msp mwb mwe mwi mac mre mkn r3.2 x3 1 r4 g4) (kcwV hts kw_1484 kv_X3_ofFree rfl rfl ⟨(Nat.le_of_ble_eq_true rfl), (Nat.le_of_ble_eq_true rfl)⟩) (kpV (A := A) qP hK qD hG (krecv_5 (q0 := 0) hK hP rfl)) rfl rfl hl.1 rfl (lv_room (Nat.le_of_ble_eq_true rfl)) (kdr dgX3_digest_164 3 1 rfl rfl) ⟨by show _ ≤ (86 : Nat); omega, by show _ ≤ (1880 : Nat); omega⟩) hP hD hS hA kFr_Mo (fun H locs hP hD hS br4 => ?_)
        refine lv_i2l (v := r4.1.toInt64) hx hb (kdr dgX3_digest_164 3 2 rfl rfl) rfl ?_
        refine lv_ladd hx hb (kdr dgX3_digest_164 3 3 rfl rfl) ?_
        refine lv_lstore_n (lv' := (kvJ 1 ((((x1 * 31) + r3.1.toInt64) * 31) + r4.1.toInt64) (kvI 4 1 (kvA 0 (b 0) (kvI 3 x3 kvE))))) hx hb (kdr dgX3_digest_164 3 4 rfl rfl) rfl hl (by decide) rfl (fun ls hl => ?_)
        refine lv_iinc (v := 2) (lv' := (kvI 4 2 (kvJ 1 ((((x1 * 31) + r3.1.toInt64) * 31) + r4.1.toInt64) (kvA 0 (b 0) (kvI 3 x3 kvE))))) hx hb (kdr dgX3_digest_164 3 5 rfl rfl) hl (k := 1) rfl (by decide) (by decide) rfl (fun ls hl => ?_)
        refine lv_goto (tgt := 199) hx hb (kdr dgX3_digest_164 3 6 rfl rfl) (by decide) ?_
        refine lv_iload hx hb (kdr dgX3_digest_164 2 2 rfl rfl) (lv_at hl 0 rfl) ?_
        refine lv_iconst (v := 4) hx hb (kdr dgX3_digest_164 2 3 rfl rfl) (by decide) ?_
        refine lv_icmp_ge (tgt := 226) hx hb (kdr dgX3_digest_164 2 4 rfl rfl) (by decide) (fun c9 => absurd c9 (by decide)) (fun _ => ?_)
        refine lv_lload_n hx hb (kdr dgX3_digest_164 2 5 rfl rfl) rfl (lv_at hl 1 rfl) ?_
        refine lv_ldc2 (v := (31)) hx hb hown hw1 (kdr dgX3_digest_164 2 6 rfl rfl) ?_
        refine lv_lmul hx hb (kdr dgX3_digest_164 2 7 rfl rfl) ?_
        refine lv_aload_n hx hb (kdr dgX3_digest_164 2 8 rfl rfl) rfl (lv_at hl 2 rfl) ?_
        refine lv_iload_n hx hb (kdr dgX3_digest_164 2 9 rfl rfl) rfl (lv_at hl 3 rfl) ?_
        refine lv_iload hx hb (kdr dgX3_digest_164 3 0 rfl rfl) (lv_at hl 0 rfl) ?_
        obtain ⟨r5, g5, h⟩ := g_b h
        refine kq_i (wMo cJ cZ b mce mfr mun mbe men mov msp mwb mwe mwi mac mre mkn r5.2) (fun qP qD qF => va_runV (As := [.int x3, .int 2]) (rest := [.long (((((x1 * 31) + r3.1.toInt64) * 31) + r4.1.toInt64) * 31)]) ⟨hx, hb, hml, hown, hts⟩ (c_X3_ofFree l dC dI cB cI cJ cZ b _ mce mfr mun mbe men mov msp mwb mwe mwi mac mre mkn r4.2 x3 2 r5 g5) (kcwV hts kw_1484 kv_X3_ofFree rfl rfl ⟨(Nat.le_of_ble_eq_true rfl), (Nat.le_of_ble_eq_true rfl)⟩) (kpV (A := A) qP hK qD hG (krecv_5 (q0 := 0) hK hP rfl)) rfl rfl hl.1 rfl (lv_room (Nat.le_of_ble_eq_true rfl)) (kdr dgX3_digest_164 3 1 rfl rfl) ⟨by show _ ≤ (86 : Nat); omega, by show _ ≤ (1880 : Nat); omega⟩) hP hD hS hA kFr_Mo (fun H locs hP hD hS br5 => ?_)
        refine lv_i2l (v := r5.1.toInt64) hx hb (kdr dgX3_digest_164 3 2 rfl rfl) rfl ?_
        refine lv_ladd hx hb (kdr dgX3_digest_164 3 3 rfl rfl) ?_
        refine lv_lstore_n (lv' := (kvJ 1 ((((((x1 * 31) + r3.1.toInt64) * 31) + r4.1.toInt64) * 31) + r5.1.toInt64) (kvI 4 2 (kvA 0 (b 0) (kvI 3 x3 kvE))))) hx hb (kdr dgX3_digest_164 3 4 rfl rfl) rfl hl (by decide) rfl (fun ls hl => ?_)
        refine lv_iinc (v := 3) (lv' := (kvI 4 3 (kvJ 1 ((((((x1 * 31) + r3.1.toInt64) * 31) + r4.1.toInt64) * 31) + r5.1.toInt64) (kvA 0 (b 0) (kvI 3 x3 kvE))))) hx hb (kdr dgX3_digest_164 3 5 rfl rfl) hl (k := 1) rfl (by decide) (by decide) rfl (fun ls hl => ?_)
        refine lv_goto (tgt := 199) hx hb (kdr dgX3_digest_164 3 6 rfl rfl) (by decide) ?_
        refine lv_iload hx hb (kdr dgX3_digest_164 2 2 rfl rfl) (lv_at hl 0 rfl) ?_
        refine lv_iconst (v := 4) hx hb (kdr dgX3_digest_164 2 3 rfl rfl) (by decide) ?_
        refine lv_icmp_ge (tgt := 226) hx hb (kdr dgX3_digest_164 2 4 rfl rfl) (by decide) (fun c9 => absurd c9 (by decide)) (fun _ => ?_)
        refine lv_lload_n hx hb (kdr dgX3_digest_164 2 5 rfl rfl) rfl (lv_at hl 1 rfl) ?_
        refine lv_ldc2 (v := (31)) hx hb hown hw1 (kdr dgX3_digest_164 2 6 rfl rfl) ?_
        refine lv_lmul hx hb (kdr dgX3_digest_164 2 7 rfl rfl) ?_
        refine lv_aload_n hx hb (kdr dgX3_digest_164 2 8 rfl rfl) rfl (lv_at hl 2 rfl) ?_
        refine lv_iload_n hx hb (kdr dgX3_digest_164 2 9 rfl rfl) rfl (lv_at hl 3 rfl) ?_
        refine lv_iload hx hb (kdr dgX3_digest_164 3 0 rfl rfl) (lv_at hl 0 rfl) ?_
        obtain ⟨r6, g6, h⟩ := g_b h
        refine kq_i (wMo cJ cZ b mce mfr mun mbe men mov msp mwb mwe mwi mac mre mkn r6.2) (fun qP qD qF => va_runV (As := [.int x3, .int 3]) (rest := [.long (((((((x1 * 31) + r3.1.toInt64) * 31) + r4.1.toInt64) * 31) + r5.1.toInt64) * 31)]) ⟨hx, hb, hml, hown, hts⟩ (c_X3_ofFree l dC dI cB cI cJ cZ b _ mce mfr mun mbe men mov msp mwb mwe mwi mac mre mkn r5.2 x3 3 r6 g6) (kcwV hts kw_1484 kv_X3_ofFree rfl rfl ⟨(Nat.le_of_ble_eq_true rfl), (Nat.le_of_ble_eq_true rfl)⟩) (kpV (A := A) qP hK qD hG (krecv_5 (q0 := 0) hK hP rfl)) rfl rfl hl.1 rfl (lv_room (Nat.le_of_ble_eq_true rfl)) (kdr dgX3_digest_164 3 1 rfl rfl) ⟨by show _ ≤ (86 : Nat); omega, by show _ ≤ (1880 : Nat); omega⟩) hP hD hS hA kFr_Mo (fun H locs hP hD hS br6 => ?_)
        refine lv_i2l (v := r6.1.toInt64) hx hb (kdr dgX3_digest_164 3 2 rfl rfl) rfl ?_
        refine lv_ladd hx hb (kdr dgX3_digest_164 3 3 rfl rfl) ?_
        refine lv_lstore_n (lv' := (kvJ 1 ((((((((x1 * 31) + r3.1.toInt64) * 31) + r4.1.toInt64) * 31) + r5.1.toInt64) * 31) + r6.1.toInt64) (kvI 4 3 (kvA 0 (b 0) (kvI 3 x3 kvE))))) hx hb (kdr dgX3_digest_164 3 4 rfl rfl) rfl hl (by decide) rfl (fun ls hl => ?_)
        refine lv_iinc (v := 4) (lv' := (kvI 4 4 (kvJ 1 ((((((((x1 * 31) + r3.1.toInt64) * 31) + r4.1.toInt64) * 31) + r5.1.toInt64) * 31) + r6.1.toInt64) (kvA 0 (b 0) (kvI 3 x3 kvE))))) hx hb (kdr dgX3_digest_164 3 5 rfl rfl) hl (k := 1) rfl (by decide) (by decide) rfl (fun ls hl => ?_)
        refine lv_goto (tgt := 199) hx hb (kdr dgX3_digest_164 3 6 rfl rfl) (by decide) ?_
        refine lv_iload hx hb (kdr dgX3_digest_164 2 2 rfl rfl) (lv_at hl 0 rfl) ?_
        refine lv_iconst (v := 4) hx hb (kdr dgX3_digest_164 2 3 rfl rfl) (by decide) ?_
        refine lv_icmp_ge (tgt := 226) hx hb (kdr dgX3_digest_164 2 4 rfl rfl) (by decide) (fun _ => ?_) (fun c9 => absurd (by decide) c9)
        refine lv_iinc (v := x3 + 1) (lv' := (kvI 3 (x3 + 1) (kvI 4 4 (kvJ 1 ((((((((x1 * 31) + r3.1.toInt64) * 31) + r4.1.toInt64) * 31) + r5.1.toInt64) * 31) + r6.1.toInt64) (kvA 0 (b 0) kvE))))) hx hb (kdr dgX3_digest_164 3 7 rfl rfl) hl (k := 3) rfl rfl (by decide) rfl (fun ls hl => ?_)
        refine lv_goto (tgt := 188) hx hb (kdr dgX3_digest_164 3 8 rfl rfl) (by decide) ?_
        exact ih mce mfr mun mbe men mov msp mwb mwe mwi mac mre mkn r6.2 ((((((((x1 * 31) + r3.1.toInt64) * 31) + r4.1.toInt64) * 31) + r5.1.toInt64) * 31) + r6.1.toInt64) (x3 + 1) _ _ _ _ (by omega) (by omega) hP hD hS ls (lv_sub hl [3, 2, 0] rfl) h
  have J105 : ∀ (n : Nat), ∀ (mce : Nat → Int64) (mfr : Int64) (mun : Int64) (mbe : Nat → Int64) (men : Nat → Int64) (mov : Nat → Int32) (msp : Int32) (mwb : Nat → Int64) (mwe : Nat → Int64) (mwi : Int32) (mac : Int32) (mre : Int32) (mkn : Int32) (mth : Int32) (x1 : Int64) (x3 : Int32) (H : Heap) (locs : List Loc) (kc ks : Nat), kc + (n * 0 + 82) ≤ 86 → ks + (n * 0 + 1792) ≤ 1880 → va_P (dC, dI) vwCl (wMo cJ cZ b mce mfr mun mbe men mov msp mwb mwe mwi mac mre mkn mth) H → va_D A (wMo cJ cZ b mce mfr mun mbe men mov msp mwb mwe mwi mac mre mkn mth) → va_S A s.heap H locs → ∀ (ls : Array Slot), lv_has ls 5 (kvA 0 (b 0) (kvJ 1 x1 (kvI 3 x3 kvE))) → f_X3_digest_105 n mfr mun mbe men mov msp mwb mwe mwi mac mre mkn x1 x3 = some res → W p l e (headSpec wsX3_digest (kRm 5 86 1880 119)).room s m ([.ref (b 0)] : List Value).toArray below meth c H locs kc ks (MQ below (kL (dC, dI) (res.1) (wMo cJ cZ b mce mfr mun mbe men mov msp mwb mwe mwi mac mre mkn (res.2)) A) ([.ref (b 0)] : List Value).toArray s 86 1880 A) (F0 m 105 ls []) := by
    intro n
    induction n with
    | zero =>
      intro mce mfr mun mbe men mov msp mwb mwe mwi mac mre mkn mth x1 x3 H locs kc ks hkc hks hP hD hS ls hl h
      have h := f_X3_digest_105_0.symm.trans h
      cases h
    | succ n ih =>
      intro mce mfr mun mbe men mov msp mwb mwe mwi mac mre mkn mth x1 x3 H locs kc ks hkc hks hP hD hS ls hl h
      have h := f_X3_digest_105_s.symm.trans h
      refine lv_iload_n hx hb (kdr dgX3_digest_0 6 7 rfl rfl) rfl (lv_at hl 2 rfl) ?_
      refine lv_aload_n hx hb (kdr dgX3_digest_0 6 8 rfl rfl) rfl (lv_at hl 0 rfl) ?_
      refine va_get (D := (dC, dI)) (ci := 5) (v := .int msp) (C := RX3) (T := TX3) (N := 14) hx hb hts hiX3 hown hK hP 0 rfl rfl 6 (by decide) hw2 (fun _ h9 => h9) rfl (kdr dgX3_digest_0 6 9 rfl rfl) ?_
      refine lv_icmp_ge (tgt := 154) hx hb (kdr dgX3_digest_0 7 0 rfl rfl) (by decide) (fun c1 => ?_) (fun c1 => ?_)
      · have h := g_t c1 h
        refine lv_lload_n hx hb (kdr dgX3_digest_0 9 4 rfl rfl) rfl (lv_at hl 1 rfl) ?_
        refine lv_ldc2 (v := (31)) hx hb hown hw1 (kdr dgX3_digest_0 9 5 rfl rfl) ?_
        refine lv_lmul hx hb (kdr dgX3_digest_0 9 6 rfl rfl) ?_
        refine lv_aload_n hx hb (kdr dgX3_digest_0 9 7 rfl rfl) rfl (lv_at hl 0 rfl) ?_
        obtain ⟨r2, g2, h⟩ := g_b h
        refine kq_i (wMo cJ cZ b mce mfr mun mbe men mov msp mwb mwe mwi mac mre mkn r2.2) (fun qP qD qF => va_runV (As := []) (rest := [.long (x1 * 31)]) ⟨hx, hb, hml, hown, hts⟩ (c_X3_clashes l dC dI cB cI cJ cZ b _ mce mfr mun mbe men mov msp mwb mwe mwi mac mre mkn mth  r2 g2) (kcwV hts kw_1481 kv_X3_clashes rfl rfl ⟨(Nat.le_of_ble_eq_true rfl), (Nat.le_of_ble_eq_true rfl)⟩) (kpV (A := A) qP hK qD hG (krecv_5 (q0 := 0) hK hP rfl)) rfl rfl hl.1 rfl (lv_room (Nat.le_of_ble_eq_true rfl)) (kdr dgX3_digest_0 9 8 rfl rfl) ⟨by show _ ≤ (86 : Nat); omega, by show _ ≤ (1880 : Nat); omega⟩) hP hD hS hA kFr_Mo (fun H locs hP hD hS br2 => ?_)
        refine lv_i2l (v := r2.1.toInt64) hx hb (kdr dgX3_digest_0 9 9 rfl rfl) rfl ?_
        refine lv_ladd hx hb (kdr dgX3_digest_164 0 0 rfl rfl) ?_
        refine lv_ldc2 (v := (31)) hx hb hown hw1 (kdr dgX3_digest_164 0 1 rfl rfl) ?_
        refine lv_lmul hx hb (kdr dgX3_digest_164 0 2 rfl rfl) ?_
        refine lv_aload_n hx hb (kdr dgX3_digest_164 0 3 rfl rfl) rfl (lv_at hl 0 rfl) ?_
        obtain ⟨r3, g3, h⟩ := g_b h
        refine kq_i (wMo cJ cZ b mce mfr mun mbe men mov msp mwb mwe mwi mac mre mkn r3.2) (fun qP qD qF => va_runV (As := []) (rest := [.long (((x1 * 31) + r2.1.toInt64) * 31)]) ⟨hx, hb, hml, hown, hts⟩ (c_X3_deepest_ l dC dI cB cI cJ cZ b _ mce mfr mun mbe men mov msp mwb mwe mwi mac mre mkn r2.2  r3 g3) (kcwV hts kw_1482 kv_X3_deepest_ rfl rfl ⟨(Nat.le_of_ble_eq_true rfl), (Nat.le_of_ble_eq_true rfl)⟩) (kpV (A := A) qP hK qD hG (krecv_5 (q0 := 0) hK hP rfl)) rfl rfl hl.1 rfl (lv_room (Nat.le_of_ble_eq_true rfl)) (kdr dgX3_digest_164 0 4 rfl rfl) ⟨by show _ ≤ (86 : Nat); omega, by show _ ≤ (1880 : Nat); omega⟩) hP hD hS hA kFr_Mo (fun H locs hP hD hS br3 => ?_)
        refine lv_i2l (v := r3.1.toInt64) hx hb (kdr dgX3_digest_164 0 5 rfl rfl) rfl ?_
        refine lv_ladd hx hb (kdr dgX3_digest_164 0 6 rfl rfl) ?_
        refine lv_ldc2 (v := (31)) hx hb hown hw1 (kdr dgX3_digest_164 0 7 rfl rfl) ?_
        refine lv_lmul hx hb (kdr dgX3_digest_164 0 8 rfl rfl) ?_
        refine lv_aload_n hx hb (kdr dgX3_digest_164 0 9 rfl rfl) rfl (lv_at hl 0 rfl) ?_
        obtain ⟨r4, g4, h⟩ := g_b h
        refine kq_i (wMo cJ cZ b mce mfr mun mbe men mov msp mwb mwe mwi mac mre mkn r4.2) (fun qP qD qF => va_runV (As := []) (rest := [.long (((((x1 * 31) + r2.1.toInt64) * 31) + r3.1.toInt64) * 31)]) ⟨hx, hb, hml, hown, hts⟩ (c_X3_frees l dC dI cB cI cJ cZ b _ mce mfr mun mbe men mov msp mwb mwe mwi mac mre mkn r3.2  r4 g4) (kcwV hts kw_1483 kv_X3_frees rfl rfl ⟨(Nat.le_of_ble_eq_true rfl), (Nat.le_of_ble_eq_true rfl)⟩) (kpV (A := A) qP hK qD hG (krecv_5 (q0 := 0) hK hP rfl)) rfl rfl hl.1 rfl (lv_room (Nat.le_of_ble_eq_true rfl)) (kdr dgX3_digest_164 1 0 rfl rfl) ⟨by show _ ≤ (86 : Nat); omega, by show _ ≤ (1880 : Nat); omega⟩) hP hD hS hA kFr_Mo (fun H locs hP hD hS br4 => ?_)
        refine lv_i2l (v := r4.1.toInt64) hx hb (kdr dgX3_digest_164 1 1 rfl rfl) rfl ?_
        refine lv_ladd hx hb (kdr dgX3_digest_164 1 2 rfl rfl) ?_
        refine lv_lstore_n (lv' := (kvJ 1 ((((((x1 * 31) + r2.1.toInt64) * 31) + r3.1.toInt64) * 31) + r4.1.toInt64) (kvA 0 (b 0) (kvI 3 x3 kvE)))) hx hb (kdr dgX3_digest_164 1 3 rfl rfl) rfl hl (by decide) rfl (fun ls hl => ?_)
        refine lv_iconst (v := 0) hx hb (kdr dgX3_digest_164 1 4 rfl rfl) (by decide) ?_
        refine lv_istore_n (lv' := (kvI 3 0 (kvJ 1 ((((((x1 * 31) + r2.1.toInt64) * 31) + r3.1.toInt64) * 31) + r4.1.toInt64) (kvA 0 (b 0) kvE)))) hx hb (kdr dgX3_digest_164 1 5 rfl rfl) rfl hl (by decide) rfl (fun ls hl => ?_)
        exact J188 14 mce mfr mun mbe men mov msp mwb mwe mwi mac mre mkn r4.2 ((((((x1 * 31) + r2.1.toInt64) * 31) + r3.1.toInt64) * 31) + r4.1.toInt64) 0 _ _ _ _ (by omega) (by omega) hP hD hS ls (lv_sub hl [2, 1, 0] rfl) h
      · have h := g_f c1 h
        refine lv_aload_n hx hb (kdr dgX3_digest_0 7 1 rfl rfl) rfl (lv_at hl 0 rfl) ?_
        refine lv_lload_n hx hb (kdr dgX3_digest_0 7 2 rfl rfl) rfl (lv_at hl 1 rfl) ?_
        refine lv_aload_n hx hb (kdr dgX3_digest_0 7 3 rfl rfl) rfl (lv_at hl 0 rfl) ?_
        refine va_get (D := (dC, dI)) (ci := 5) (v := .ref (b 2)) (C := RX3) (T := TX3) (N := 14) hx hb hts hiX3 hown hK hP 0 rfl rfl 3 (by decide) hw7 (fun _ h9 => h9) rfl (kdr dgX3_digest_0 7 4 rfl rfl) ?_
        refine lv_aload_n hx hb (kdr dgX3_digest_0 7 5 rfl rfl) rfl (lv_at hl 0 rfl) ?_
        refine va_get (D := (dC, dI)) (ci := 5) (v := .ref (b 3)) (C := RX3) (T := TX3) (N := 14) hx hb hts hiX3 hown hK hP 0 rfl rfl 4 (by decide) hw8 (fun _ h9 => h9) rfl (kdr dgX3_digest_0 7 6 rfl rfl) ?_
        refine lv_iload_n hx hb (kdr dgX3_digest_0 7 7 rfl rfl) rfl (lv_at hl 2 rfl) ?_
        obtain ⟨r2, g2, h⟩ := g_b h
        refine kcall_l (wMo cJ cZ b mce mfr mun mbe men mov msp mwb mwe mwi mac mre mkn mth) (va_runV (As := [.long x1, .ref (b 2), .ref (b 3), .int x3]) (rest := []) ⟨hx, hb, hml, hown, hts⟩ (c_X3_added l dC dI cB cI cJ cZ (b 0) (b 2) 10 (b 3) 10 _ mbe men x1 x3 r2 g2) (kcwV hts kw_1477 kv_X3_added rfl rfl ⟨(Nat.le_of_ble_eq_true rfl), (Nat.le_of_ble_eq_true rfl)⟩) (kpV (A := A) (hP.sub (kIT mk_31 0) (km_f (m := mk_31) rfl rfl)) hK (hD.sub (kIT mk_31 0) (km_nd mk_31) (km_T (m := mk_31) rfl rfl)) hG (krecv_5 (q0 := 0) hK hP rfl)) rfl rfl hl.1 rfl (lv_room (Nat.le_of_ble_eq_true rfl)) (kdr dgX3_digest_0 7 8 rfl rfl) ⟨by show _ ≤ (86 : Nat); omega, by show _ ≤ (1880 : Nat); omega⟩) hP hD hS hA (kIT mk_31 0) (kIT mk_32 0) (km_T (m := mk_31) rfl rfl) (km_T (m := mk_31) rfl rfl) [((b 0), .inr (5, [.ref (b 1), .long mfr, .long mun, .ref (b 2), .ref (b 3), .ref (b 4), .int msp, .ref (b 5), .ref (b 6), .int mwi, .int mac, .int mre, .int mkn, .int mth])), ((b 1), .inl (cJ, 4, .inr (.inl mce))), ((b 4), .inl (cZ, 10, .inl mov)), ((b 5), .inl (cJ, 8, .inr (.inl mwb))), ((b 6), .inl (cJ, 8, .inr (.inl mwe)))] (km_T (m := mk_32) rfl rfl) (km_T (m := mk_32) rfl rfl) (km_cov (m := mk_31) (n := mk_32) rfl rfl) (km_dis (m := mk_31) (n := mk_32) rfl) rfl (fun H locs hP hD hS => ?_)
        refine lv_ldc2 (v := (31)) hx hb hown hw1 (kdr dgX3_digest_0 7 9 rfl rfl) ?_
        refine lv_lmul hx hb (kdr dgX3_digest_0 8 0 rfl rfl) ?_
        refine lv_aload_n hx hb (kdr dgX3_digest_0 8 1 rfl rfl) rfl (lv_at hl 0 rfl) ?_
        refine va_get (D := (dC, dI)) (ci := 5) (v := .ref (b 4)) (C := RX3) (T := TX3) (N := 14) hx hb hts hiX3 hown hK hP 0 rfl rfl 5 (by decide) hw9 (fun _ h9 => h9) rfl (kdr dgX3_digest_0 8 2 rfl rfl) ?_
        refine lv_iload_n hx hb (kdr dgX3_digest_0 8 3 rfl rfl) rfl (lv_at hl 2 rfl) ?_
        obtain ⟨z2, h⟩ := g_if h
        refine va_zald hx hb hK hP 4 3 rfl rfl (ix_in z2) (kdr dgX3_digest_0 8 4 rfl rfl) ?_
        refine lv_if_eq (tgt := 144) hx hb (kdr dgX3_digest_0 8 5 rfl rfl) (by decide) (fun c4 => ?_) (fun c4 => ?_)
        · have h := g_t c4 h
          refine lv_iconst (v := 0) hx hb (kdr dgX3_digest_0 8 8 rfl rfl) (by decide) ?_
          refine lv_i2l (v := (0 : Int32).toInt64) hx hb (kdr dgX3_digest_0 8 9 rfl rfl) rfl ?_
          refine lv_ladd hx hb (kdr dgX3_digest_0 9 0 rfl rfl) ?_
          refine lv_lstore_n (lv' := (kvJ 1 ((r2 * 31) + ((0 : Int32).toInt64)) (kvA 0 (b 0) (kvI 3 x3 kvE)))) hx hb (kdr dgX3_digest_0 9 1 rfl rfl) rfl hl (by decide) rfl (fun ls hl => ?_)
          refine lv_iinc (v := x3 + 1) (lv' := (kvI 3 (x3 + 1) (kvJ 1 ((r2 * 31) + ((0 : Int32).toInt64)) (kvA 0 (b 0) kvE)))) hx hb (kdr dgX3_digest_0 9 2 rfl rfl) hl (k := 2) rfl rfl (by decide) rfl (fun ls hl => ?_)
          refine lv_goto (tgt := 105) hx hb (kdr dgX3_digest_0 9 3 rfl rfl) (by decide) ?_
          exact ih mce mfr mun mbe men mov msp mwb mwe mwi mac mre mkn mth ((r2 * 31) + ((0 : Int32).toInt64)) (x3 + 1) _ _ _ _ (by omega) (by omega) hP hD hS ls (lv_sub hl [2, 1, 0] rfl) h
        · have h := g_f c4 h
          refine lv_iconst (v := 1) hx hb (kdr dgX3_digest_0 8 6 rfl rfl) (by decide) ?_
          refine lv_goto (tgt := 145) hx hb (kdr dgX3_digest_0 8 7 rfl rfl) (by decide) ?_
          refine lv_i2l (v := (1 : Int32).toInt64) hx hb (kdr dgX3_digest_0 8 9 rfl rfl) rfl ?_
          refine lv_ladd hx hb (kdr dgX3_digest_0 9 0 rfl rfl) ?_
          refine lv_lstore_n (lv' := (kvJ 1 ((r2 * 31) + ((1 : Int32).toInt64)) (kvA 0 (b 0) (kvI 3 x3 kvE)))) hx hb (kdr dgX3_digest_0 9 1 rfl rfl) rfl hl (by decide) rfl (fun ls hl => ?_)
          refine lv_iinc (v := x3 + 1) (lv' := (kvI 3 (x3 + 1) (kvJ 1 ((r2 * 31) + ((1 : Int32).toInt64)) (kvA 0 (b 0) kvE)))) hx hb (kdr dgX3_digest_0 9 2 rfl rfl) hl (k := 2) rfl rfl (by decide) rfl (fun ls hl => ?_)
          refine lv_goto (tgt := 105) hx hb (kdr dgX3_digest_0 9 3 rfl rfl) (by decide) ?_
          exact ih mce mfr mun mbe men mov msp mwb mwe mwi mac mre mkn mth ((r2 * 31) + ((1 : Int32).toInt64)) (x3 + 1) _ _ _ _ (by omega) (by omega) hP hD hS ls (lv_sub hl [2, 1, 0] rfl) h
  have h := f_X3_digest_e.symm.trans hf
  refine lv_ldc2 (v := (8009)) hx hb hown hw0 (kdr dgX3_digest_0 0 0 rfl rfl) ?_
  refine lv_lstore_n (lv' := (kvJ 1 8009 (kvA 0 (b 0) kvE))) hx hb (kdr dgX3_digest_0 0 1 rfl rfl) rfl hl (by decide) rfl (fun ls hl => ?_)
  refine lv_iconst (v := 0) hx hb (kdr dgX3_digest_0 0 2 rfl rfl) (by decide) ?_
  refine lv_istore_n (lv' := (kvI 3 0 (kvJ 1 8009 (kvA 0 (b 0) kvE)))) hx hb (kdr dgX3_digest_0 0 3 rfl rfl) rfl hl (by decide) rfl (fun ls hl => ?_)
  refine lv_iload_n hx hb (kdr dgX3_digest_0 0 4 rfl rfl) rfl (lv_at hl 0 rfl) ?_
  refine lv_iconst (v := 4) hx hb (kdr dgX3_digest_0 0 5 rfl rfl) (by decide) ?_
  refine lv_icmp_ge (tgt := 65) hx hb (kdr dgX3_digest_0 0 6 rfl rfl) (by decide) (fun c9 => absurd c9 (by decide)) (fun _ => ?_)
  refine lv_lload_n hx hb (kdr dgX3_digest_0 0 7 rfl rfl) rfl (lv_at hl 1 rfl) ?_
  refine lv_ldc2 (v := (31)) hx hb hown hw1 (kdr dgX3_digest_0 0 8 rfl rfl) ?_
  refine lv_lmul hx hb (kdr dgX3_digest_0 0 9 rfl rfl) ?_
  refine lv_aload_n hx hb (kdr dgX3_digest_0 1 0 rfl rfl) rfl (lv_at hl 2 rfl) ?_
  refine lv_iload_n hx hb (kdr dgX3_digest_0 1 1 rfl rfl) rfl (lv_at hl 0 rfl) ?_
  obtain ⟨r1, g1, h⟩ := g_b h
  refine kq_i (wMo cJ cZ b mce mfr mun mbe men mov msp mwb mwe mwi mac mre mkn r1.2) (fun qP qD qF => va_runV (As := [.int 0]) (rest := [.long (8009 * 31)]) ⟨hx, hb, hml, hown, hts⟩ (c_X3_second l dC dI cB cI cJ cZ b _ mce mfr mun mbe men mov msp mwb mwe mwi mac mre mkn mth 0 r1 g1) (kcwV hts kw_1472 kv_X3_second rfl rfl ⟨(Nat.le_of_ble_eq_true rfl), (Nat.le_of_ble_eq_true rfl)⟩) (kpV (A := A) qP hK qD hG (krecv_5 (q0 := 0) hK hP rfl)) rfl rfl hl.1 rfl (lv_room (Nat.le_of_ble_eq_true rfl)) (kdr dgX3_digest_0 1 2 rfl rfl) ⟨by show _ ≤ (86 : Nat); omega, by show _ ≤ (1880 : Nat); omega⟩) hP hD hS hA kFr_Mo (fun H locs hP hD hS br1 => ?_)
  refine lv_i2l (v := r1.1.toInt64) hx hb (kdr dgX3_digest_0 1 3 rfl rfl) rfl ?_
  refine lv_ladd hx hb (kdr dgX3_digest_0 1 4 rfl rfl) ?_
  refine lv_ldc2 (v := (31)) hx hb hown hw1 (kdr dgX3_digest_0 1 5 rfl rfl) ?_
  refine lv_lmul hx hb (kdr dgX3_digest_0 1 6 rfl rfl) ?_
  refine lv_aload_n hx hb (kdr dgX3_digest_0 1 7 rfl rfl) rfl (lv_at hl 2 rfl) ?_
  refine lv_iload_n hx hb (kdr dgX3_digest_0 1 8 rfl rfl) rfl (lv_at hl 0 rfl) ?_
  obtain ⟨r2, g2, h⟩ := g_b h
  refine kq_i (wMo cJ cZ b mce mfr mun mbe men mov msp mwb mwe mwi mac mre mkn r2.2) (fun qP qD qF => va_runV (As := [.int 0]) (rest := [.long (((8009 * 31) + r1.1.toInt64) * 31)]) ⟨hx, hb, hml, hown, hts⟩ (c_X3_nano l dC dI cB cI cJ cZ b _ mce mfr mun mbe men mov msp mwb mwe mwi mac mre mkn r1.2 0 r2 g2) (kcwV hts kw_1473 kv_X3_nano rfl rfl ⟨(Nat.le_of_ble_eq_true rfl), (Nat.le_of_ble_eq_true rfl)⟩) (kpV (A := A) qP hK qD hG (krecv_5 (q0 := 0) hK hP rfl)) rfl rfl hl.1 rfl (lv_room (Nat.le_of_ble_eq_true rfl)) (kdr dgX3_digest_0 1 9 rfl rfl) ⟨by show _ ≤ (86 : Nat); omega, by show _ ≤ (1880 : Nat); omega⟩) hP hD hS hA kFr_Mo (fun H locs hP hD hS br2 => ?_)
  refine lv_i2l (v := r2.1.toInt64) hx hb (kdr dgX3_digest_0 2 0 rfl rfl) rfl ?_
  refine lv_ladd hx hb (kdr dgX3_digest_0 2 1 rfl rfl) ?_
  refine lv_lstore_n (lv' := (kvJ 1 ((((8009 * 31) + r1.1.toInt64) * 31) + r2.1.toInt64) (kvI 3 0 (kvA 0 (b 0) kvE)))) hx hb (kdr dgX3_digest_0 2 2 rfl rfl) rfl hl (by decide) rfl (fun ls hl => ?_)
  refine lv_lload_n hx hb (kdr dgX3_digest_0 2 3 rfl rfl) rfl (lv_at hl 0 rfl) ?_
  refine lv_ldc2 (v := (31)) hx hb hown hw1 (kdr dgX3_digest_0 2 4 rfl rfl) ?_
  refine lv_lmul hx hb (kdr dgX3_digest_0 2 5 rfl rfl) ?_
  refine lv_aload_n hx hb (kdr dgX3_digest_0 2 6 rfl rfl) rfl (lv_at hl 2 rfl) ?_
  refine lv_iload_n hx hb (kdr dgX3_digest_0 2 7 rfl rfl) rfl (lv_at hl 1 rfl) ?_
  obtain ⟨r3, g3, h⟩ := g_b h
  refine kq_i (wMo cJ cZ b mce mfr mun mbe men mov msp mwb mwe mwi mac mre mkn r3.2) (fun qP qD qF => va_runV (As := [.int 0]) (rest := [.long (((((8009 * 31) + r1.1.toInt64) * 31) + r2.1.toInt64) * 31)]) ⟨hx, hb, hml, hown, hts⟩ (c_X3_at l dC dI cB cI cJ cZ b _ mce mfr mun mbe men mov msp mwb mwe mwi mac mre mkn r2.2 0 r3 g3) (kcwV hts kw_1474 kv_X3_at rfl rfl ⟨(Nat.le_of_ble_eq_true rfl), (Nat.le_of_ble_eq_true rfl)⟩) (kpV (A := A) qP hK qD hG (krecv_5 (q0 := 0) hK hP rfl)) rfl rfl hl.1 rfl (lv_room (Nat.le_of_ble_eq_true rfl)) (kdr dgX3_digest_0 2 8 rfl rfl) ⟨by show _ ≤ (86 : Nat); omega, by show _ ≤ (1880 : Nat); omega⟩) hP hD hS hA kFr_Mo (fun H locs hP hD hS br3 => ?_)
  refine lv_i2l (v := r3.1.toInt64) hx hb (kdr dgX3_digest_0 2 9 rfl rfl) rfl ?_
  refine lv_ladd hx hb (kdr dgX3_digest_0 3 0 rfl rfl) ?_
  refine lv_ldc2 (v := (31)) hx hb hown hw1 (kdr dgX3_digest_0 3 1 rfl rfl) ?_
  refine lv_lmul hx hb (kdr dgX3_digest_0 3 2 rfl rfl) ?_
  refine lv_aload_n hx hb (kdr dgX3_digest_0 3 3 rfl rfl) rfl (lv_at hl 2 rfl) ?_
  refine lv_iload_n hx hb (kdr dgX3_digest_0 3 4 rfl rfl) rfl (lv_at hl 1 rfl) ?_
  obtain ⟨r4, g4, h⟩ := g_b h
  refine kq_i (wMo cJ cZ b mce mfr mun mbe men mov msp mwb mwe mwi mac mre mkn r4.2) (fun qP qD qF => va_runV (As := [.int 0]) (rest := [.long (((((((8009 * 31) + r1.1.toInt64) * 31) + r2.1.toInt64) * 31) + r3.1.toInt64) * 31)]) ⟨hx, hb, hml, hown, hts⟩ (c_X3_freeAt l dC dI cB cI cJ cZ b _ mce mfr mun mbe men mov msp mwb mwe mwi mac mre mkn r3.2 0 r4 g4) (kcwV hts kw_1475 kv_X3_freeAt rfl rfl ⟨(Nat.le_of_ble_eq_true rfl), (Nat.le_of_ble_eq_true rfl)⟩) (kpV (A := A) qP hK qD hG (krecv_5 (q0 := 0) hK hP rfl)) rfl rfl hl.1 rfl (lv_room (Nat.le_of_ble_eq_true rfl)) (kdr dgX3_digest_0 3 5 rfl rfl) ⟨by show _ ≤ (86 : Nat); omega, by show _ ≤ (1880 : Nat); omega⟩) hP hD hS hA kFr_Mo (fun H locs hP hD hS br4 => ?_)
  refine lv_i2l (v := r4.1.toInt64) hx hb (kdr dgX3_digest_0 3 6 rfl rfl) rfl ?_
  refine lv_ladd hx hb (kdr dgX3_digest_0 3 7 rfl rfl) ?_
  refine lv_lstore_n (lv' := (kvJ 1 ((((((((8009 * 31) + r1.1.toInt64) * 31) + r2.1.toInt64) * 31) + r3.1.toInt64) * 31) + r4.1.toInt64) (kvI 3 0 (kvA 0 (b 0) kvE)))) hx hb (kdr dgX3_digest_0 3 8 rfl rfl) rfl hl (by decide) rfl (fun ls hl => ?_)
  refine lv_iinc (v := 1) (lv' := (kvI 3 1 (kvJ 1 ((((((((8009 * 31) + r1.1.toInt64) * 31) + r2.1.toInt64) * 31) + r3.1.toInt64) * 31) + r4.1.toInt64) (kvA 0 (b 0) kvE)))) hx hb (kdr dgX3_digest_0 3 9 rfl rfl) hl (k := 1) rfl (by decide) (by decide) rfl (fun ls hl => ?_)
  refine lv_goto (tgt := 6) hx hb (kdr dgX3_digest_0 4 0 rfl rfl) (by decide) ?_
  refine lv_iload_n hx hb (kdr dgX3_digest_0 0 4 rfl rfl) rfl (lv_at hl 0 rfl) ?_
  refine lv_iconst (v := 4) hx hb (kdr dgX3_digest_0 0 5 rfl rfl) (by decide) ?_
  refine lv_icmp_ge (tgt := 65) hx hb (kdr dgX3_digest_0 0 6 rfl rfl) (by decide) (fun c9 => absurd c9 (by decide)) (fun _ => ?_)
  refine lv_lload_n hx hb (kdr dgX3_digest_0 0 7 rfl rfl) rfl (lv_at hl 1 rfl) ?_
  refine lv_ldc2 (v := (31)) hx hb hown hw1 (kdr dgX3_digest_0 0 8 rfl rfl) ?_
  refine lv_lmul hx hb (kdr dgX3_digest_0 0 9 rfl rfl) ?_
  refine lv_aload_n hx hb (kdr dgX3_digest_0 1 0 rfl rfl) rfl (lv_at hl 2 rfl) ?_
  refine lv_iload_n hx hb (kdr dgX3_digest_0 1 1 rfl rfl) rfl (lv_at hl 0 rfl) ?_
  obtain ⟨r5, g5, h⟩ := g_b h
  refine kq_i (wMo cJ cZ b mce mfr mun mbe men mov msp mwb mwe mwi mac mre mkn r5.2) (fun qP qD qF => va_runV (As := [.int 1]) (rest := [.long (((((((((8009 * 31) + r1.1.toInt64) * 31) + r2.1.toInt64) * 31) + r3.1.toInt64) * 31) + r4.1.toInt64) * 31)]) ⟨hx, hb, hml, hown, hts⟩ (c_X3_second l dC dI cB cI cJ cZ b _ mce mfr mun mbe men mov msp mwb mwe mwi mac mre mkn r4.2 1 r5 g5) (kcwV hts kw_1472 kv_X3_second rfl rfl ⟨(Nat.le_of_ble_eq_true rfl), (Nat.le_of_ble_eq_true rfl)⟩) (kpV (A := A) qP hK qD hG (krecv_5 (q0 := 0) hK hP rfl)) rfl rfl hl.1 rfl (lv_room (Nat.le_of_ble_eq_true rfl)) (kdr dgX3_digest_0 1 2 rfl rfl) ⟨by show _ ≤ (86 : Nat); omega, by show _ ≤ (1880 : Nat); omega⟩) hP hD hS hA kFr_Mo (fun H locs hP hD hS br5 => ?_)
  refine lv_i2l (v := r5.1.toInt64) hx hb (kdr dgX3_digest_0 1 3 rfl rfl) rfl ?_
  refine lv_ladd hx hb (kdr dgX3_digest_0 1 4 rfl rfl) ?_
  refine lv_ldc2 (v := (31)) hx hb hown hw1 (kdr dgX3_digest_0 1 5 rfl rfl) ?_
  refine lv_lmul hx hb (kdr dgX3_digest_0 1 6 rfl rfl) ?_
  refine lv_aload_n hx hb (kdr dgX3_digest_0 1 7 rfl rfl) rfl (lv_at hl 2 rfl) ?_
  refine lv_iload_n hx hb (kdr dgX3_digest_0 1 8 rfl rfl) rfl (lv_at hl 0 rfl) ?_
  obtain ⟨r6, g6, h⟩ := g_b h
  refine kq_i (wMo cJ cZ b mce mfr mun mbe men mov msp mwb mwe mwi mac mre mkn r6.2) (fun qP qD qF => va_runV (As := [.int 1]) (rest := [.long (((((((((((8009 * 31) + r1.1.toInt64) * 31) + r2.1.toInt64) * 31) + r3.1.toInt64) * 31) + r4.1.toInt64) * 31) + r5.1.toInt64) * 31)]) ⟨hx, hb, hml, hown, hts⟩ (c_X3_nano l dC dI cB cI cJ cZ b _ mce mfr mun mbe men mov msp mwb mwe mwi mac mre mkn r5.2 1 r6 g6) (kcwV hts kw_1473 kv_X3_nano rfl rfl ⟨(Nat.le_of_ble_eq_true rfl), (Nat.le_of_ble_eq_true rfl)⟩) (kpV (A := A) qP hK qD hG (krecv_5 (q0 := 0) hK hP rfl)) rfl rfl hl.1 rfl (lv_room (Nat.le_of_ble_eq_true rfl)) (kdr dgX3_digest_0 1 9 rfl rfl) ⟨by show _ ≤ (86 : Nat); omega, by show _ ≤ (1880 : Nat); omega⟩) hP hD hS hA kFr_Mo (fun H locs hP hD hS br6 => ?_)
  refine lv_i2l (v := r6.1.toInt64) hx hb (kdr dgX3_digest_0 2 0 rfl rfl) rfl ?_
  refine lv_ladd hx hb (kdr dgX3_digest_0 2 1 rfl rfl) ?_
  refine lv_lstore_n (lv' := (kvJ 1 ((((((((((((8009 * 31) + r1.1.toInt64) * 31) + r2.1.toInt64) * 31) + r3.1.toInt64) * 31) + r4.1.toInt64) * 31) + r5.1.toInt64) * 31) + r6.1.toInt64) (kvI 3 1 (kvA 0 (b 0) kvE)))) hx hb (kdr dgX3_digest_0 2 2 rfl rfl) rfl hl (by decide) rfl (fun ls hl => ?_)
  refine lv_lload_n hx hb (kdr dgX3_digest_0 2 3 rfl rfl) rfl (lv_at hl 0 rfl) ?_
  refine lv_ldc2 (v := (31)) hx hb hown hw1 (kdr dgX3_digest_0 2 4 rfl rfl) ?_
  refine lv_lmul hx hb (kdr dgX3_digest_0 2 5 rfl rfl) ?_
  refine lv_aload_n hx hb (kdr dgX3_digest_0 2 6 rfl rfl) rfl (lv_at hl 2 rfl) ?_
  refine lv_iload_n hx hb (kdr dgX3_digest_0 2 7 rfl rfl) rfl (lv_at hl 1 rfl) ?_
  obtain ⟨r7, g7, h⟩ := g_b h
  refine kq_i (wMo cJ cZ b mce mfr mun mbe men mov msp mwb mwe mwi mac mre mkn r7.2) (fun qP qD qF => va_runV (As := [.int 1]) (rest := [.long (((((((((((((8009 * 31) + r1.1.toInt64) * 31) + r2.1.toInt64) * 31) + r3.1.toInt64) * 31) + r4.1.toInt64) * 31) + r5.1.toInt64) * 31) + r6.1.toInt64) * 31)]) ⟨hx, hb, hml, hown, hts⟩ (c_X3_at l dC dI cB cI cJ cZ b _ mce mfr mun mbe men mov msp mwb mwe mwi mac mre mkn r6.2 1 r7 g7) (kcwV hts kw_1474 kv_X3_at rfl rfl ⟨(Nat.le_of_ble_eq_true rfl), (Nat.le_of_ble_eq_true rfl)⟩) (kpV (A := A) qP hK qD hG (krecv_5 (q0 := 0) hK hP rfl)) rfl rfl hl.1 rfl (lv_room (Nat.le_of_ble_eq_true rfl)) (kdr dgX3_digest_0 2 8 rfl rfl) ⟨by show _ ≤ (86 : Nat); omega, by show _ ≤ (1880 : Nat); omega⟩) hP hD hS hA kFr_Mo (fun H locs hP hD hS br7 => ?_)
  refine lv_i2l (v := r7.1.toInt64) hx hb (kdr dgX3_digest_0 2 9 rfl rfl) rfl ?_
  refine lv_ladd hx hb (kdr dgX3_digest_0 3 0 rfl rfl) ?_
  refine lv_ldc2 (v := (31)) hx hb hown hw1 (kdr dgX3_digest_0 3 1 rfl rfl) ?_
  refine lv_lmul hx hb (kdr dgX3_digest_0 3 2 rfl rfl) ?_
  refine lv_aload_n hx hb (kdr dgX3_digest_0 3 3 rfl rfl) rfl (lv_at hl 2 rfl) ?_
  refine lv_iload_n hx hb (kdr dgX3_digest_0 3 4 rfl rfl) rfl (lv_at hl 1 rfl) ?_
  obtain ⟨r8, g8, h⟩ := g_b h
  refine kq_i (wMo cJ cZ b mce mfr mun mbe men mov msp mwb mwe mwi mac mre mkn r8.2) (fun qP qD qF => va_runV (As := [.int 1]) (rest := [.long (((((((((((((((8009 * 31) + r1.1.toInt64) * 31) + r2.1.toInt64) * 31) + r3.1.toInt64) * 31) + r4.1.toInt64) * 31) + r5.1.toInt64) * 31) + r6.1.toInt64) * 31) + r7.1.toInt64) * 31)]) ⟨hx, hb, hml, hown, hts⟩ (c_X3_freeAt l dC dI cB cI cJ cZ b _ mce mfr mun mbe men mov msp mwb mwe mwi mac mre mkn r7.2 1 r8 g8) (kcwV hts kw_1475 kv_X3_freeAt rfl rfl ⟨(Nat.le_of_ble_eq_true rfl), (Nat.le_of_ble_eq_true rfl)⟩) (kpV (A := A) qP hK qD hG (krecv_5 (q0 := 0) hK hP rfl)) rfl rfl hl.1 rfl (lv_room (Nat.le_of_ble_eq_true rfl)) (kdr dgX3_digest_0 3 5 rfl rfl) ⟨by show _ ≤ (86 : Nat); omega, by show _ ≤ (1880 : Nat); omega⟩) hP hD hS hA kFr_Mo (fun H locs hP hD hS br8 => ?_)
  refine lv_i2l (v := r8.1.toInt64) hx hb (kdr dgX3_digest_0 3 6 rfl rfl) rfl ?_
  refine lv_ladd hx hb (kdr dgX3_digest_0 3 7 rfl rfl) ?_
  refine lv_lstore_n (lv' := (kvJ 1 ((((((((((((((((8009 * 31) + r1.1.toInt64) * 31) + r2.1.toInt64) * 31) + r3.1.toInt64) * 31) + r4.1.toInt64) * 31) + r5.1.toInt64) * 31) + r6.1.toInt64) * 31) + r7.1.toInt64) * 31) + r8.1.toInt64) (kvI 3 1 (kvA 0 (b 0) kvE)))) hx hb (kdr dgX3_digest_0 3 8 rfl rfl) rfl hl (by decide) rfl (fun ls hl => ?_)
  refine lv_iinc (v := 2) (lv' := (kvI 3 2 (kvJ 1 ((((((((((((((((8009 * 31) + r1.1.toInt64) * 31) + r2.1.toInt64) * 31) + r3.1.toInt64) * 31) + r4.1.toInt64) * 31) + r5.1.toInt64) * 31) + r6.1.toInt64) * 31) + r7.1.toInt64) * 31) + r8.1.toInt64) (kvA 0 (b 0) kvE)))) hx hb (kdr dgX3_digest_0 3 9 rfl rfl) hl (k := 1) rfl (by decide) (by decide) rfl (fun ls hl => ?_)
  refine lv_goto (tgt := 6) hx hb (kdr dgX3_digest_0 4 0 rfl rfl) (by decide) ?_
  refine lv_iload_n hx hb (kdr dgX3_digest_0 0 4 rfl rfl) rfl (lv_at hl 0 rfl) ?_
  refine lv_iconst (v := 4) hx hb (kdr dgX3_digest_0 0 5 rfl rfl) (by decide) ?_
  refine lv_icmp_ge (tgt := 65) hx hb (kdr dgX3_digest_0 0 6 rfl rfl) (by decide) (fun c9 => absurd c9 (by decide)) (fun _ => ?_)
  refine lv_lload_n hx hb (kdr dgX3_digest_0 0 7 rfl rfl) rfl (lv_at hl 1 rfl) ?_
  refine lv_ldc2 (v := (31)) hx hb hown hw1 (kdr dgX3_digest_0 0 8 rfl rfl) ?_
  refine lv_lmul hx hb (kdr dgX3_digest_0 0 9 rfl rfl) ?_
  refine lv_aload_n hx hb (kdr dgX3_digest_0 1 0 rfl rfl) rfl (lv_at hl 2 rfl) ?_
  refine lv_iload_n hx hb (kdr dgX3_digest_0 1 1 rfl rfl) rfl (lv_at hl 0 rfl) ?_
  obtain ⟨r9, g9, h⟩ := g_b h
  refine kq_i (wMo cJ cZ b mce mfr mun mbe men mov msp mwb mwe mwi mac mre mkn r9.2) (fun qP qD qF => va_runV (As := [.int 2]) (rest := [.long (((((((((((((((((8009 * 31) + r1.1.toInt64) * 31) + r2.1.toInt64) * 31) + r3.1.toInt64) * 31) + r4.1.toInt64) * 31) + r5.1.toInt64) * 31) + r6.1.toInt64) * 31) + r7.1.toInt64) * 31) + r8.1.toInt64) * 31)]) ⟨hx, hb, hml, hown, hts⟩ (c_X3_second l dC dI cB cI cJ cZ b _ mce mfr mun mbe men mov msp mwb mwe mwi mac mre mkn r8.2 2 r9 g9) (kcwV hts kw_1472 kv_X3_second rfl rfl ⟨(Nat.le_of_ble_eq_true rfl), (Nat.le_of_ble_eq_true rfl)⟩) (kpV (A := A) qP hK qD hG (krecv_5 (q0 := 0) hK hP rfl)) rfl rfl hl.1 rfl (lv_room (Nat.le_of_ble_eq_true rfl)) (kdr dgX3_digest_0 1 2 rfl rfl) ⟨by show _ ≤ (86 : Nat); omega, by show _ ≤ (1880 : Nat); omega⟩) hP hD hS hA kFr_Mo (fun H locs hP hD hS br9 => ?_)
  refine lv_i2l (v := r9.1.toInt64) hx hb (kdr dgX3_digest_0 1 3 rfl rfl) rfl ?_
  refine lv_ladd hx hb (kdr dgX3_digest_0 1 4 rfl rfl) ?_
  refine lv_ldc2 (v := (31)) hx hb hown hw1 (kdr dgX3_digest_0 1 5 rfl rfl) ?_
  refine lv_lmul hx hb (kdr dgX3_digest_0 1 6 rfl rfl) ?_
  refine lv_aload_n hx hb (kdr dgX3_digest_0 1 7 rfl rfl) rfl (lv_at hl 2 rfl) ?_
  refine lv_iload_n hx hb (kdr dgX3_digest_0 1 8 rfl rfl) rfl (lv_at hl 0 rfl) ?_
  obtain ⟨r10, g10, h⟩ := g_b h
  refine kq_i (wMo cJ cZ b mce mfr mun mbe men mov msp mwb mwe mwi mac mre mkn r10.2) (fun qP qD qF => va_runV (As := [.int 2]) (rest := [.long (((((((((((((((((((8009 * 31) + r1.1.toInt64) * 31) + r2.1.toInt64) * 31) + r3.1.toInt64) * 31) + r4.1.toInt64) * 31) + r5.1.toInt64) * 31) + r6.1.toInt64) * 31) + r7.1.toInt64) * 31) + r8.1.toInt64) * 31) + r9.1.toInt64) * 31)]) ⟨hx, hb, hml, hown, hts⟩ (c_X3_nano l dC dI cB cI cJ cZ b _ mce mfr mun mbe men mov msp mwb mwe mwi mac mre mkn r9.2 2 r10 g10) (kcwV hts kw_1473 kv_X3_nano rfl rfl ⟨(Nat.le_of_ble_eq_true rfl), (Nat.le_of_ble_eq_true rfl)⟩) (kpV (A := A) qP hK qD hG (krecv_5 (q0 := 0) hK hP rfl)) rfl rfl hl.1 rfl (lv_room (Nat.le_of_ble_eq_true rfl)) (kdr dgX3_digest_0 1 9 rfl rfl) ⟨by show _ ≤ (86 : Nat); omega, by show _ ≤ (1880 : Nat); omega⟩) hP hD hS hA kFr_Mo (fun H locs hP hD hS br10 => ?_)
  refine lv_i2l (v := r10.1.toInt64) hx hb (kdr dgX3_digest_0 2 0 rfl rfl) rfl ?_
  refine lv_ladd hx hb (kdr dgX3_digest_0 2 1 rfl rfl) ?_
  refine lv_lstore_n (lv' := (kvJ 1 ((((((((((((((((((((8009 * 31) + r1.1.toInt64) * 31) + r2.1.toInt64) * 31) + r3.1.toInt64) * 31) + r4.1.toInt64) * 31) + r5.1.toInt64) * 31) + r6.1.toInt64) * 31) + r7.1.toInt64) * 31) + r8.1.toInt64) * 31) + r9.1.toInt64) * 31) + r10.1.toInt64) (kvI 3 2 (kvA 0 (b 0) kvE)))) hx hb (kdr dgX3_digest_0 2 2 rfl rfl) rfl hl (by decide) rfl (fun ls hl => ?_)
  refine lv_lload_n hx hb (kdr dgX3_digest_0 2 3 rfl rfl) rfl (lv_at hl 0 rfl) ?_
  refine lv_ldc2 (v := (31)) hx hb hown hw1 (kdr dgX3_digest_0 2 4 rfl rfl) ?_
  refine lv_lmul hx hb (kdr dgX3_digest_0 2 5 rfl rfl) ?_
  refine lv_aload_n hx hb (kdr dgX3_digest_0 2 6 rfl rfl) rfl (lv_at hl 2 rfl) ?_
  refine lv_iload_n hx hb (kdr dgX3_digest_0 2 7 rfl rfl) rfl (lv_at hl 1 rfl) ?_
  obtain ⟨r11, g11, h⟩ := g_b h
  refine kq_i (wMo cJ cZ b mce mfr mun mbe men mov msp mwb mwe mwi mac mre mkn r11.2) (fun qP qD qF => va_runV (As := [.int 2]) (rest := [.long (((((((((((((((((((((8009 * 31) + r1.1.toInt64) * 31) + r2.1.toInt64) * 31) + r3.1.toInt64) * 31) + r4.1.toInt64) * 31) + r5.1.toInt64) * 31) + r6.1.toInt64) * 31) + r7.1.toInt64) * 31) + r8.1.toInt64) * 31) + r9.1.toInt64) * 31) + r10.1.toInt64) * 31)]) ⟨hx, hb, hml, hown, hts⟩ (c_X3_at l dC dI cB cI cJ cZ b _ mce mfr mun mbe men mov msp mwb mwe mwi mac mre mkn r10.2 2 r11 g11) (kcwV hts kw_1474 kv_X3_at rfl rfl ⟨(Nat.le_of_ble_eq_true rfl), (Nat.le_of_ble_eq_true rfl)⟩) (kpV (A := A) qP hK qD hG (krecv_5 (q0 := 0) hK hP rfl)) rfl rfl hl.1 rfl (lv_room (Nat.le_of_ble_eq_true rfl)) (kdr dgX3_digest_0 2 8 rfl rfl) ⟨by show _ ≤ (86 : Nat); omega, by show _ ≤ (1880 : Nat); omega⟩) hP hD hS hA kFr_Mo (fun H locs hP hD hS br11 => ?_)
  refine lv_i2l (v := r11.1.toInt64) hx hb (kdr dgX3_digest_0 2 9 rfl rfl) rfl ?_
  refine lv_ladd hx hb (kdr dgX3_digest_0 3 0 rfl rfl) ?_
  refine lv_ldc2 (v := (31)) hx hb hown hw1 (kdr dgX3_digest_0 3 1 rfl rfl) ?_
  refine lv_lmul hx hb (kdr dgX3_digest_0 3 2 rfl rfl) ?_
  refine lv_aload_n hx hb (kdr dgX3_digest_0 3 3 rfl rfl) rfl (lv_at hl 2 rfl) ?_
  refine lv_iload_n hx hb (kdr dgX3_digest_0 3 4 rfl rfl) rfl (lv_at hl 1 rfl) ?_
  obtain ⟨r12, g12, h⟩ := g_b h
  refine kq_i (wMo cJ cZ b mce mfr mun mbe men mov msp mwb mwe mwi mac mre mkn r12.2) (fun qP qD qF => va_runV (As := [.int 2]) (rest := [.long (((((((((((((((((((((((8009 * 31) + r1.1.toInt64) * 31) + r2.1.toInt64) * 31) + r3.1.toInt64) * 31) + r4.1.toInt64) * 31) + r5.1.toInt64) * 31) + r6.1.toInt64) * 31) + r7.1.toInt64) * 31) + r8.1.toInt64) * 31) + r9.1.toInt64) * 31) + r10.1.toInt64) * 31) + r11.1.toInt64) * 31)]) ⟨hx, hb, hml, hown, hts⟩ (c_X3_freeAt l dC dI cB cI cJ cZ b _ mce mfr mun mbe men mov msp mwb mwe mwi mac mre mkn r11.2 2 r12 g12) (kcwV hts kw_1475 kv_X3_freeAt rfl rfl ⟨(Nat.le_of_ble_eq_true rfl), (Nat.le_of_ble_eq_true rfl)⟩) (kpV (A := A) qP hK qD hG (krecv_5 (q0 := 0) hK hP rfl)) rfl rfl hl.1 rfl (lv_room (Nat.le_of_ble_eq_true rfl)) (kdr dgX3_digest_0 3 5 rfl rfl) ⟨by show _ ≤ (86 : Nat); omega, by show _ ≤ (1880 : Nat); omega⟩) hP hD hS hA kFr_Mo (fun H locs hP hD hS br12 => ?_)
  refine lv_i2l (v := r12.1.toInt64) hx hb (kdr dgX3_digest_0 3 6 rfl rfl) rfl ?_
  refine lv_ladd hx hb (kdr dgX3_digest_0 3 7 rfl rfl) ?_
  refine lv_lstore_n (lv' := (kvJ 1 ((((((((((((((((((((((((8009 * 31) + r1.1.toInt64) * 31) + r2.1.toInt64) * 31) + r3.1.toInt64) * 31) + r4.1.toInt64) * 31) + r5.1.toInt64) * 31) + r6.1.toInt64) * 31) + r7.1.toInt64) * 31) + r8.1.toInt64) * 31) + r9.1.toInt64) * 31) + r10.1.toInt64) * 31) + r11.1.toInt64) * 31) + r12.1.toInt64) (kvI 3 2 (kvA 0 (b 0) kvE)))) hx hb (kdr dgX3_digest_0 3 8 rfl rfl) rfl hl (by decide) rfl (fun ls hl => ?_)
  refine lv_iinc (v := 3) (lv' := (kvI 3 3 (kvJ 1 ((((((((((((((((((((((((8009 * 31) + r1.1.toInt64) * 31) + r2.1.toInt64) * 31) + r3.1.toInt64) * 31) + r4.1.toInt64) * 31) + r5.1.toInt64) * 31) + r6.1.toInt64) * 31) + r7.1.toInt64) * 31) + r8.1.toInt64) * 31) + r9.1.toInt64) * 31) + r10.1.toInt64) * 31) + r11.1.toInt64) * 31) + r12.1.toInt64) (kvA 0 (b 0) kvE)))) hx hb (kdr dgX3_digest_0 3 9 rfl rfl) hl (k := 1) rfl (by decide) (by decide) rfl (fun ls hl => ?_)
  refine lv_goto (tgt := 6) hx hb (kdr dgX3_digest_0 4 0 rfl rfl) (by decide) ?_
  refine lv_iload_n hx hb (kdr dgX3_digest_0 0 4 rfl rfl) rfl (lv_at hl 0 rfl) ?_
  refine lv_iconst (v := 4) hx hb (kdr dgX3_digest_0 0 5 rfl rfl) (by decide) ?_
  refine lv_icmp_ge (tgt := 65) hx hb (kdr dgX3_digest_0 0 6 rfl rfl) (by decide) (fun c9 => absurd c9 (by decide)) (fun _ => ?_)
  refine lv_lload_n hx hb (kdr dgX3_digest_0 0 7 rfl rfl) rfl (lv_at hl 1 rfl) ?_
  refine lv_ldc2 (v := (31)) hx hb hown hw1 (kdr dgX3_digest_0 0 8 rfl rfl) ?_
  refine lv_lmul hx hb (kdr dgX3_digest_0 0 9 rfl rfl) ?_
  refine lv_aload_n hx hb (kdr dgX3_digest_0 1 0 rfl rfl) rfl (lv_at hl 2 rfl) ?_
  refine lv_iload_n hx hb (kdr dgX3_digest_0 1 1 rfl rfl) rfl (lv_at hl 0 rfl) ?_
  obtain ⟨r13, g13, h⟩ := g_b h
  refine kq_i (wMo cJ cZ b mce mfr mun mbe men mov msp mwb mwe mwi mac mre mkn r13.2) (fun qP qD qF => va_runV (As := [.int 3]) (rest := [.long (((((((((((((((((((((((((8009 * 31) + r1.1.toInt64) * 31) + r2.1.toInt64) * 31) + r3.1.toInt64) * 31) + r4.1.toInt64) * 31) + r5.1.toInt64) * 31) + r6.1.toInt64) * 31) + r7.1.toInt64) * 31) + r8.1.toInt64) * 31) + r9.1.toInt64) * 31) + r10.1.toInt64) * 31) + r11.1.toInt64) * 31) + r12.1.toInt64) * 31)]) ⟨hx, hb, hml, hown, hts⟩ (c_X3_second l dC dI cB cI cJ cZ b _ mce mfr mun mbe men mov msp mwb mwe mwi mac mre mkn r12.2 3 r13 g13) (kcwV hts kw_1472 kv_X3_second rfl rfl ⟨(Nat.le_of_ble_eq_true rfl), (Nat.le_of_ble_eq_true rfl)⟩) (kpV (A := A) qP hK qD hG (krecv_5 (q0 := 0) hK hP rfl)) rfl rfl hl.1 rfl (lv_room (Nat.le_of_ble_eq_true rfl)) (kdr dgX3_digest_0 1 2 rfl rfl) ⟨by show _ ≤ (86 : Nat); omega, by show _ ≤ (1880 : Nat); omega⟩) hP hD hS hA kFr_Mo (fun H locs hP hD hS br13 => ?_)
  refine lv_i2l (v := r13.1.toInt64) hx hb (kdr dgX3_digest_0 1 3 rfl rfl) rfl ?_
  refine lv_ladd hx hb (kdr dgX3_digest_0 1 4 rfl rfl) ?_
  refine lv_ldc2 (v := (31)) hx hb hown hw1 (kdr dgX3_digest_0 1 5 rfl rfl) ?_
  refine lv_lmul hx hb (kdr dgX3_digest_0 1 6 rfl rfl) ?_
  refine lv_aload_n hx hb (kdr dgX3_digest_0 1 7 rfl rfl) rfl (lv_at hl 2 rfl) ?_
  refine lv_iload_n hx hb (kdr dgX3_digest_0 1 8 rfl rfl) rfl (lv_at hl 0 rfl) ?_
  obtain ⟨r14, g14, h⟩ := g_b h
  refine kq_i (wMo cJ cZ b mce mfr mun mbe men mov msp mwb mwe mwi mac mre mkn r14.2) (fun qP qD qF => va_runV (As := [.int 3]) (rest := [.long (((((((((((((((((((((((((((8009 * 31) + r1.1.toInt64) * 31) + r2.1.toInt64) * 31) + r3.1.toInt64) * 31) + r4.1.toInt64) * 31) + r5.1.toInt64) * 31) + r6.1.toInt64) * 31) + r7.1.toInt64) * 31) + r8.1.toInt64) * 31) + r9.1.toInt64) * 31) + r10.1.toInt64) * 31) + r11.1.toInt64) * 31) + r12.1.toInt64) * 31) + r13.1.toInt64) * 31)]) ⟨hx, hb, hml, hown, hts⟩ (c_X3_nano l dC dI cB cI cJ cZ b _ mce mfr mun mbe men mov msp mwb mwe mwi mac mre mkn r13.2 3 r14 g14) (kcwV hts kw_1473 kv_X3_nano rfl rfl ⟨(Nat.le_of_ble_eq_true rfl), (Nat.le_of_ble_eq_true rfl)⟩) (kpV (A := A) qP hK qD hG (krecv_5 (q0 := 0) hK hP rfl)) rfl rfl hl.1 rfl (lv_room (Nat.le_of_ble_eq_true rfl)) (kdr dgX3_digest_0 1 9 rfl rfl) ⟨by show _ ≤ (86 : Nat); omega, by show _ ≤ (1880 : Nat); omega⟩) hP hD hS hA kFr_Mo (fun H locs hP hD hS br14 => ?_)
  refine lv_i2l (v := r14.1.toInt64) hx hb (kdr dgX3_digest_0 2 0 rfl rfl) rfl ?_
  refine lv_ladd hx hb (kdr dgX3_digest_0 2 1 rfl rfl) ?_
  refine lv_lstore_n (lv' := (kvJ 1 ((((((((((((((((((((((((((((8009 * 31) + r1.1.toInt64) * 31) + r2.1.toInt64) * 31) + r3.1.toInt64) * 31) + r4.1.toInt64) * 31) + r5.1.toInt64) * 31) + r6.1.toInt64) * 31) + r7.1.toInt64) * 31) + r8.1.toInt64) * 31) + r9.1.toInt64) * 31) + r10.1.toInt64) * 31) + r11.1.toInt64) * 31) + r12.1.toInt64) * 31) + r13.1.toInt64) * 31) + r14.1.toInt64) (kvI 3 3 (kvA 0 (b 0) kvE)))) hx hb (kdr dgX3_digest_0 2 2 rfl rfl) rfl hl (by decide) rfl (fun ls hl => ?_)
  refine lv_lload_n hx hb (kdr dgX3_digest_0 2 3 rfl rfl) rfl (lv_at hl 0 rfl) ?_
  refine lv_ldc2 (v := (31)) hx hb hown hw1 (kdr dgX3_digest_0 2 4 rfl rfl) ?_
  refine lv_lmul hx hb (kdr dgX3_digest_0 2 5 rfl rfl) ?_
  refine lv_aload_n hx hb (kdr dgX3_digest_0 2 6 rfl rfl) rfl (lv_at hl 2 rfl) ?_
  refine lv_iload_n hx hb (kdr dgX3_digest_0 2 7 rfl rfl) rfl (lv_at hl 1 rfl) ?_
  obtain ⟨r15, g15, h⟩ := g_b h
  refine kq_i (wMo cJ cZ b mce mfr mun mbe men mov msp mwb mwe mwi mac mre mkn r15.2) (fun qP qD qF => va_runV (As := [.int 3]) (rest := [.long (((((((((((((((((((((((((((((8009 * 31) + r1.1.toInt64) * 31) + r2.1.toInt64) * 31) + r3.1.toInt64) * 31) + r4.1.toInt64) * 31) + r5.1.toInt64) * 31) + r6.1.toInt64) * 31) + r7.1.toInt64) * 31) + r8.1.toInt64) * 31) + r9.1.toInt64) * 31) + r10.1.toInt64) * 31) + r11.1.toInt64) * 31) + r12.1.toInt64) * 31) + r13.1.toInt64) * 31) + r14.1.toInt64) * 31)]) ⟨hx, hb, hml, hown, hts⟩ (c_X3_at l dC dI cB cI cJ cZ b _ mce mfr mun mbe men mov msp mwb mwe mwi mac mre mkn r14.2 3 r15 g15) (kcwV hts kw_1474 kv_X3_at rfl rfl ⟨(Nat.le_of_ble_eq_true rfl), (Nat.le_of_ble_eq_true rfl)⟩) (kpV (A := A) qP hK qD hG (krecv_5 (q0 := 0) hK hP rfl)) rfl rfl hl.1 rfl (lv_room (Nat.le_of_ble_eq_true rfl)) (kdr dgX3_digest_0 2 8 rfl rfl) ⟨by show _ ≤ (86 : Nat); omega, by show _ ≤ (1880 : Nat); omega⟩) hP hD hS hA kFr_Mo (fun H locs hP hD hS br15 => ?_)
  refine lv_i2l (v := r15.1.toInt64) hx hb (kdr dgX3_digest_0 2 9 rfl rfl) rfl ?_
  refine lv_ladd hx hb (kdr dgX3_digest_0 3 0 rfl rfl) ?_
  refine lv_ldc2 (v := (31)) hx hb hown hw1 (kdr dgX3_digest_0 3 1 rfl rfl) ?_
  refine lv_lmul hx hb (kdr dgX3_digest_0 3 2 rfl rfl) ?_
  refine lv_aload_n hx hb (kdr dgX3_digest_0 3 3 rfl rfl) rfl (lv_at hl 2 rfl) ?_
  refine lv_iload_n hx hb (kdr dgX3_digest_0 3 4 rfl rfl) rfl (lv_at hl 1 rfl) ?_
  obtain ⟨r16, g16, h⟩ := g_b h
  refine kq_i (wMo cJ cZ b mce mfr mun mbe men mov msp mwb mwe mwi mac mre mkn r16.2) (fun qP qD qF => va_runV (As := [.int 3]) (rest := [.long (((((((((((((((((((((((((((((((8009 * 31) + r1.1.toInt64) * 31) + r2.1.toInt64) * 31) + r3.1.toInt64) * 31) + r4.1.toInt64) * 31) + r5.1.toInt64) * 31) + r6.1.toInt64) * 31) + r7.1.toInt64) * 31) + r8.1.toInt64) * 31) + r9.1.toInt64) * 31) + r10.1.toInt64) * 31) + r11.1.toInt64) * 31) + r12.1.toInt64) * 31) + r13.1.toInt64) * 31) + r14.1.toInt64) * 31) + r15.1.toInt64) * 31)]) ⟨hx, hb, hml, hown, hts⟩ (c_X3_freeAt l dC dI cB cI cJ cZ b _ mce mfr mun mbe men mov msp mwb mwe mwi mac mre mkn r15.2 3 r16 g16) (kcwV hts kw_1475 kv_X3_freeAt rfl rfl ⟨(Nat.le_of_ble_eq_true rfl), (Nat.le_of_ble_eq_true rfl)⟩) (kpV (A := A) qP hK qD hG (krecv_5 (q0 := 0) hK hP rfl)) rfl rfl hl.1 rfl (lv_room (Nat.le_of_ble_eq_true rfl)) (kdr dgX3_digest_0 3 5 rfl rfl) ⟨by show _ ≤ (86 : Nat); omega, by show _ ≤ (1880 : Nat); omega⟩) hP hD hS hA kFr_Mo (fun H locs hP hD hS br16 => ?_)
  refine lv_i2l (v := r16.1.toInt64) hx hb (kdr dgX3_digest_0 3 6 rfl rfl) rfl ?_
  refine lv_ladd hx hb (kdr dgX3_digest_0 3 7 rfl rfl) ?_
  refine lv_lstore_n (lv' := (kvJ 1 ((((((((((((((((((((((((((((((((8009 * 31) + r1.1.toInt64) * 31) + r2.1.toInt64) * 31) + r3.1.toInt64) * 31) + r4.1.toInt64) * 31) + r5.1.toInt64) * 31) + r6.1.toInt64) * 31) + r7.1.toInt64) * 31) + r8.1.toInt64) * 31) + r9.1.toInt64) * 31) + r10.1.toInt64) * 31) + r11.1.toInt64) * 31) + r12.1.toInt64) * 31) + r13.1.toInt64) * 31) + r14.1.toInt64) * 31) + r15.1.toInt64) * 31) + r16.1.toInt64) (kvI 3 3 (kvA 0 (b 0) kvE)))) hx hb (kdr dgX3_digest_0 3 8 rfl rfl) rfl hl (by decide) rfl (fun ls hl => ?_)
  refine lv_iinc (v := 4) (lv' := (kvI 3 4 (kvJ 1 ((((((((((((((((((((((((((((((((8009 * 31) + r1.1.toInt64) * 31) + r2.1.toInt64) * 31) + r3.1.toInt64) * 31) + r4.1.toInt64) * 31) + r5.1.toInt64) * 31) + r6.1.toInt64) * 31) + r7.1.toInt64) * 31) + r8.1.toInt64) * 31) + r9.1.toInt64) * 31) + r10.1.toInt64) * 31) + r11.1.toInt64) * 31) + r12.1.toInt64) * 31) + r13.1.toInt64) * 31) + r14.1.toInt64) * 31) + r15.1.toInt64) * 31) + r16.1.toInt64) (kvA 0 (b 0) kvE)))) hx hb (kdr dgX3_digest_0 3 9 rfl rfl) hl (k := 1) rfl (by decide) (by decide) rfl (fun ls hl => ?_)
  refine lv_goto (tgt := 6) hx hb (kdr dgX3_digest_0 4 0 rfl rfl) (by decide) ?_
  refine lv_iload_n hx hb (kdr dgX3_digest_0 0 4 rfl rfl) rfl (lv_at hl 0 rfl) ?_
  refine lv_iconst (v := 4) hx hb (kdr dgX3_digest_0 0 5 rfl rfl) (by decide) ?_
  refine lv_icmp_ge (tgt := 65) hx hb (kdr dgX3_digest_0 0 6 rfl rfl) (by decide) (fun _ => ?_) (fun c9 => absurd (by decide) c9)
  refine lv_iconst (v := 0) hx hb (kdr dgX3_digest_0 4 1 rfl rfl) (by decide) ?_
  refine lv_istore_n (lv' := (kvI 3 0 (kvJ 1 ((((((((((((((((((((((((((((((((8009 * 31) + r1.1.toInt64) * 31) + r2.1.toInt64) * 31) + r3.1.toInt64) * 31) + r4.1.toInt64) * 31) + r5.1.toInt64) * 31) + r6.1.toInt64) * 31) + r7.1.toInt64) * 31) + r8.1.toInt64) * 31) + r9.1.toInt64) * 31) + r10.1.toInt64) * 31) + r11.1.toInt64) * 31) + r12.1.toInt64) * 31) + r13.1.toInt64) * 31) + r14.1.toInt64) * 31) + r15.1.toInt64) * 31) + r16.1.toInt64) (kvA 0 (b 0) kvE)))) hx hb (kdr dgX3_digest_0 4 2 rfl rfl) rfl hl (by decide) rfl (fun ls hl => ?_)
  refine lv_iload_n hx hb (kdr dgX3_digest_0 4 3 rfl rfl) rfl (lv_at hl 0 rfl) ?_
  refine lv_iconst (v := 4) hx hb (kdr dgX3_digest_0 4 4 rfl rfl) (by decide) ?_
  refine lv_icmp_ge (tgt := 91) hx hb (kdr dgX3_digest_0 4 5 rfl rfl) (by decide) (fun c9 => absurd c9 (by decide)) (fun _ => ?_)
  refine lv_lload_n hx hb (kdr dgX3_digest_0 4 6 rfl rfl) rfl (lv_at hl 1 rfl) ?_
  refine lv_ldc2 (v := (31)) hx hb hown hw1 (kdr dgX3_digest_0 4 7 rfl rfl) ?_
  refine lv_lmul hx hb (kdr dgX3_digest_0 4 8 rfl rfl) ?_
  refine lv_aload_n hx hb (kdr dgX3_digest_0 4 9 rfl rfl) rfl (lv_at hl 2 rfl) ?_
  refine lv_iload_n hx hb (kdr dgX3_digest_0 5 0 rfl rfl) rfl (lv_at hl 0 rfl) ?_
  obtain ⟨r17, g17, h⟩ := g_b h
  refine kq_i (wMo cJ cZ b mce mfr mun mbe men mov msp mwb mwe mwi mac mre mkn r17.2) (fun qP qD qF => va_runV (As := [.int 0]) (rest := [.long (((((((((((((((((((((((((((((((((8009 * 31) + r1.1.toInt64) * 31) + r2.1.toInt64) * 31) + r3.1.toInt64) * 31) + r4.1.toInt64) * 31) + r5.1.toInt64) * 31) + r6.1.toInt64) * 31) + r7.1.toInt64) * 31) + r8.1.toInt64) * 31) + r9.1.toInt64) * 31) + r10.1.toInt64) * 31) + r11.1.toInt64) * 31) + r12.1.toInt64) * 31) + r13.1.toInt64) * 31) + r14.1.toInt64) * 31) + r15.1.toInt64) * 31) + r16.1.toInt64) * 31)]) ⟨hx, hb, hml, hown, hts⟩ (c_X3_calendar l dC dI cB cI cJ cZ b _ mce mfr mun mbe men mov msp mwb mwe mwi mac mre mkn r16.2 0 r17 g17) (kcwV hts kw_1476 kv_X3_calendar rfl rfl ⟨(Nat.le_of_ble_eq_true rfl), (Nat.le_of_ble_eq_true rfl)⟩) (kpV (A := A) qP hK qD hG (krecv_5 (q0 := 0) hK hP rfl)) rfl rfl hl.1 rfl (lv_room (Nat.le_of_ble_eq_true rfl)) (kdr dgX3_digest_0 5 1 rfl rfl) ⟨by show _ ≤ (86 : Nat); omega, by show _ ≤ (1880 : Nat); omega⟩) hP hD hS hA kFr_Mo (fun H locs hP hD hS br17 => ?_)
  refine lv_i2l (v := r17.1.toInt64) hx hb (kdr dgX3_digest_0 5 2 rfl rfl) rfl ?_
  refine lv_ladd hx hb (kdr dgX3_digest_0 5 3 rfl rfl) ?_
  refine lv_lstore_n (lv' := (kvJ 1 ((((((((((((((((((((((((((((((((((8009 * 31) + r1.1.toInt64) * 31) + r2.1.toInt64) * 31) + r3.1.toInt64) * 31) + r4.1.toInt64) * 31) + r5.1.toInt64) * 31) + r6.1.toInt64) * 31) + r7.1.toInt64) * 31) + r8.1.toInt64) * 31) + r9.1.toInt64) * 31) + r10.1.toInt64) * 31) + r11.1.toInt64) * 31) + r12.1.toInt64) * 31) + r13.1.toInt64) * 31) + r14.1.toInt64) * 31) + r15.1.toInt64) * 31) + r16.1.toInt64) * 31) + r17.1.toInt64) (kvI 3 0 (kvA 0 (b 0) kvE)))) hx hb (kdr dgX3_digest_0 5 4 rfl rfl) rfl hl (by decide) rfl (fun ls hl => ?_)
  refine lv_iinc (v := 1) (lv' := (kvI 3 1 (kvJ 1 ((((((((((((((((((((((((((((((((((8009 * 31) + r1.1.toInt64) * 31) + r2.1.toInt64) * 31) + r3.1.toInt64) * 31) + r4.1.toInt64) * 31) + r5.1.toInt64) * 31) + r6.1.toInt64) * 31) + r7.1.toInt64) * 31) + r8.1.toInt64) * 31) + r9.1.toInt64) * 31) + r10.1.toInt64) * 31) + r11.1.toInt64) * 31) + r12.1.toInt64) * 31) + r13.1.toInt64) * 31) + r14.1.toInt64) * 31) + r15.1.toInt64) * 31) + r16.1.toInt64) * 31) + r17.1.toInt64) (kvA 0 (b 0) kvE)))) hx hb (kdr dgX3_digest_0 5 5 rfl rfl) hl (k := 1) rfl (by decide) (by decide) rfl (fun ls hl => ?_)
  refine lv_goto (tgt := 67) hx hb (kdr dgX3_digest_0 5 6 rfl rfl) (by decide) ?_
  refine lv_iload_n hx hb (kdr dgX3_digest_0 4 3 rfl rfl) rfl (lv_at hl 0 rfl) ?_
  refine lv_iconst (v := 4) hx hb (kdr dgX3_digest_0 4 4 rfl rfl) (by decide) ?_
  refine lv_icmp_ge (tgt := 91) hx hb (kdr dgX3_digest_0 4 5 rfl rfl) (by decide) (fun c9 => absurd c9 (by decide)) (fun _ => ?_)
  refine lv_lload_n hx hb (kdr dgX3_digest_0 4 6 rfl rfl) rfl (lv_at hl 1 rfl) ?_
  refine lv_ldc2 (v := (31)) hx hb hown hw1 (kdr dgX3_digest_0 4 7 rfl rfl) ?_
  refine lv_lmul hx hb (kdr dgX3_digest_0 4 8 rfl rfl) ?_
  refine lv_aload_n hx hb (kdr dgX3_digest_0 4 9 rfl rfl) rfl (lv_at hl 2 rfl) ?_
  refine lv_iload_n hx hb (kdr dgX3_digest_0 5 0 rfl rfl) rfl (lv_at hl 0 rfl) ?_
  obtain ⟨r18, g18, h⟩ := g_b h
  refine kq_i (wMo cJ cZ b mce mfr mun mbe men mov msp mwb mwe mwi mac mre mkn r18.2) (fun qP qD qF => va_runV (As := [.int 1]) (rest := [.long (((((((((((((((((((((((((((((((((((8009 * 31) + r1.1.toInt64) * 31) + r2.1.toInt64) * 31) + r3.1.toInt64) * 31) + r4.1.toInt64) * 31) + r5.1.toInt64) * 31) + r6.1.toInt64) * 31) + r7.1.toInt64) * 31) + r8.1.toInt64) * 31) + r9.1.toInt64) * 31) + r10.1.toInt64) * 31) + r11.1.toInt64) * 31) + r12.1.toInt64) * 31) + r13.1.toInt64) * 31) + r14.1.toInt64) * 31) + r15.1.toInt64) * 31) + r16.1.toInt64) * 31) + r17.1.toInt64) * 31)]) ⟨hx, hb, hml, hown, hts⟩ (c_X3_calendar l dC dI cB cI cJ cZ b _ mce mfr mun mbe men mov msp mwb mwe mwi mac mre mkn r17.2 1 r18 g18) (kcwV hts kw_1476 kv_X3_calendar rfl rfl ⟨(Nat.le_of_ble_eq_true rfl), (Nat.le_of_ble_eq_true rfl)⟩) (kpV (A := A) qP hK qD hG (krecv_5 (q0 := 0) hK hP rfl)) rfl rfl hl.1 rfl (lv_room (Nat.le_of_ble_eq_true rfl)) (kdr dgX3_digest_0 5 1 rfl rfl) ⟨by show _ ≤ (86 : Nat); omega, by show _ ≤ (1880 : Nat); omega⟩) hP hD hS hA kFr_Mo (fun H locs hP hD hS br18 => ?_)
  refine lv_i2l (v := r18.1.toInt64) hx hb (kdr dgX3_digest_0 5 2 rfl rfl) rfl ?_
  refine lv_ladd hx hb (kdr dgX3_digest_0 5 3 rfl rfl) ?_
  refine lv_lstore_n (lv' := (kvJ 1 ((((((((((((((((((((((((((((((((((((8009 * 31) + r1.1.toInt64) * 31) + r2.1.toInt64) * 31) + r3.1.toInt64) * 31) + r4.1.toInt64) * 31) + r5.1.toInt64) * 31) + r6.1.toInt64) * 31) + r7.1.toInt64) * 31) + r8.1.toInt64) * 31) + r9.1.toInt64) * 31) + r10.1.toInt64) * 31) + r11.1.toInt64) * 31) + r12.1.toInt64) * 31) + r13.1.toInt64) * 31) + r14.1.toInt64) * 31) + r15.1.toInt64) * 31) + r16.1.toInt64) * 31) + r17.1.toInt64) * 31) + r18.1.toInt64) (kvI 3 1 (kvA 0 (b 0) kvE)))) hx hb (kdr dgX3_digest_0 5 4 rfl rfl) rfl hl (by decide) rfl (fun ls hl => ?_)
  refine lv_iinc (v := 2) (lv' := (kvI 3 2 (kvJ 1 ((((((((((((((((((((((((((((((((((((8009 * 31) + r1.1.toInt64) * 31) + r2.1.toInt64) * 31) + r3.1.toInt64) * 31) + r4.1.toInt64) * 31) + r5.1.toInt64) * 31) + r6.1.toInt64) * 31) + r7.1.toInt64) * 31) + r8.1.toInt64) * 31) + r9.1.toInt64) * 31) + r10.1.toInt64) * 31) + r11.1.toInt64) * 31) + r12.1.toInt64) * 31) + r13.1.toInt64) * 31) + r14.1.toInt64) * 31) + r15.1.toInt64) * 31) + r16.1.toInt64) * 31) + r17.1.toInt64) * 31) + r18.1.toInt64) (kvA 0 (b 0) kvE)))) hx hb (kdr dgX3_digest_0 5 5 rfl rfl) hl (k := 1) rfl (by decide) (by decide) rfl (fun ls hl => ?_)
  refine lv_goto (tgt := 67) hx hb (kdr dgX3_digest_0 5 6 rfl rfl) (by decide) ?_
  refine lv_iload_n hx hb (kdr dgX3_digest_0 4 3 rfl rfl) rfl (lv_at hl 0 rfl) ?_
  refine lv_iconst (v := 4) hx hb (kdr dgX3_digest_0 4 4 rfl rfl) (by decide) ?_
  refine lv_icmp_ge (tgt := 91) hx hb (kdr dgX3_digest_0 4 5 rfl rfl) (by decide) (fun c9 => absurd c9 (by decide)) (fun _ => ?_)
  refine lv_lload_n hx hb (kdr dgX3_digest_0 4 6 rfl rfl) rfl (lv_at hl 1 rfl) ?_
  refine lv_ldc2 (v := (31)) hx hb hown hw1 (kdr dgX3_digest_0 4 7 rfl rfl) ?_
  refine lv_lmul hx hb (kdr dgX3_digest_0 4 8 rfl rfl) ?_
  refine lv_aload_n hx hb (kdr dgX3_digest_0 4 9 rfl rfl) rfl (lv_at hl 2 rfl) ?_
  refine lv_iload_n hx hb (kdr dgX3_digest_0 5 0 rfl rfl) rfl (lv_at hl 0 rfl) ?_
  obtain ⟨r19, g19, h⟩ := g_b h
  refine kq_i (wMo cJ cZ b mce mfr mun mbe men mov msp mwb mwe mwi mac mre mkn r19.2) (fun qP qD qF => va_runV (As := [.int 2]) (rest := [.long (((((((((((((((((((((((((((((((((((((8009 * 31) + r1.1.toInt64) * 31) + r2.1.toInt64) * 31) + r3.1.toInt64) * 31) + r4.1.toInt64) * 31) + r5.1.toInt64) * 31) + r6.1.toInt64) * 31) + r7.1.toInt64) * 31) + r8.1.toInt64) * 31) + r9.1.toInt64) * 31) + r10.1.toInt64) * 31) + r11.1.toInt64) * 31) + r12.1.toInt64) * 31) + r13.1.toInt64) * 31) + r14.1.toInt64) * 31) + r15.1.toInt64) * 31) + r16.1.toInt64) * 31) + r17.1.toInt64) * 31) + r18.1.toInt64) * 31)]) ⟨hx, hb, hml, hown, hts⟩ (c_X3_calendar l dC dI cB cI cJ cZ b _ mce mfr mun mbe men mov msp mwb mwe mwi mac mre mkn r18.2 2 r19 g19) (kcwV hts kw_1476 kv_X3_calendar rfl rfl ⟨(Nat.le_of_ble_eq_true rfl), (Nat.le_of_ble_eq_true rfl)⟩) (kpV (A := A) qP hK qD hG (krecv_5 (q0 := 0) hK hP rfl)) rfl rfl hl.1 rfl (lv_room (Nat.le_of_ble_eq_true rfl)) (kdr dgX3_digest_0 5 1 rfl rfl) ⟨by show _ ≤ (86 : Nat); omega, by show _ ≤ (1880 : Nat); omega⟩) hP hD hS hA kFr_Mo (fun H locs hP hD hS br19 => ?_)
  refine lv_i2l (v := r19.1.toInt64) hx hb (kdr dgX3_digest_0 5 2 rfl rfl) rfl ?_
  refine lv_ladd hx hb (kdr dgX3_digest_0 5 3 rfl rfl) ?_
  refine lv_lstore_n (lv' := (kvJ 1 ((((((((((((((((((((((((((((((((((((((8009 * 31) + r1.1.toInt64) * 31) + r2.1.toInt64) * 31) + r3.1.toInt64) * 31) + r4.1.toInt64) * 31) + r5.1.toInt64) * 31) + r6.1.toInt64) * 31) + r7.1.toInt64) * 31) + r8.1.toInt64) * 31) + r9.1.toInt64) * 31) + r10.1.toInt64) * 31) + r11.1.toInt64) * 31) + r12.1.toInt64) * 31) + r13.1.toInt64) * 31) + r14.1.toInt64) * 31) + r15.1.toInt64) * 31) + r16.1.toInt64) * 31) + r17.1.toInt64) * 31) + r18.1.toInt64) * 31) + r19.1.toInt64) (kvI 3 2 (kvA 0 (b 0) kvE)))) hx hb (kdr dgX3_digest_0 5 4 rfl rfl) rfl hl (by decide) rfl (fun ls hl => ?_)
  refine lv_iinc (v := 3) (lv' := (kvI 3 3 (kvJ 1 ((((((((((((((((((((((((((((((((((((((8009 * 31) + r1.1.toInt64) * 31) + r2.1.toInt64) * 31) + r3.1.toInt64) * 31) + r4.1.toInt64) * 31) + r5.1.toInt64) * 31) + r6.1.toInt64) * 31) + r7.1.toInt64) * 31) + r8.1.toInt64) * 31) + r9.1.toInt64) * 31) + r10.1.toInt64) * 31) + r11.1.toInt64) * 31) + r12.1.toInt64) * 31) + r13.1.toInt64) * 31) + r14.1.toInt64) * 31) + r15.1.toInt64) * 31) + r16.1.toInt64) * 31) + r17.1.toInt64) * 31) + r18.1.toInt64) * 31) + r19.1.toInt64) (kvA 0 (b 0) kvE)))) hx hb (kdr dgX3_digest_0 5 5 rfl rfl) hl (k := 1) rfl (by decide) (by decide) rfl (fun ls hl => ?_)
  refine lv_goto (tgt := 67) hx hb (kdr dgX3_digest_0 5 6 rfl rfl) (by decide) ?_
  refine lv_iload_n hx hb (kdr dgX3_digest_0 4 3 rfl rfl) rfl (lv_at hl 0 rfl) ?_
  refine lv_iconst (v := 4) hx hb (kdr dgX3_digest_0 4 4 rfl rfl) (by decide) ?_
  refine lv_icmp_ge (tgt := 91) hx hb (kdr dgX3_digest_0 4 5 rfl rfl) (by decide) (fun c9 => absurd c9 (by decide)) (fun _ => ?_)
  refine lv_lload_n hx hb (kdr dgX3_digest_0 4 6 rfl rfl) rfl (lv_at hl 1 rfl) ?_
  refine lv_ldc2 (v := (31)) hx hb hown hw1 (kdr dgX3_digest_0 4 7 rfl rfl) ?_
  refine lv_lmul hx hb (kdr dgX3_digest_0 4 8 rfl rfl) ?_
  refine lv_aload_n hx hb (kdr dgX3_digest_0 4 9 rfl rfl) rfl (lv_at hl 2 rfl) ?_
  refine lv_iload_n hx hb (kdr dgX3_digest_0 5 0 rfl rfl) rfl (lv_at hl 0 rfl) ?_
  obtain ⟨r20, g20, h⟩ := g_b h
  refine kq_i (wMo cJ cZ b mce mfr mun mbe men mov msp mwb mwe mwi mac mre mkn r20.2) (fun qP qD qF => va_runV (As := [.int 3]) (rest := [.long (((((((((((((((((((((((((((((((((((((((8009 * 31) + r1.1.toInt64) * 31) + r2.1.toInt64) * 31) + r3.1.toInt64) * 31) + r4.1.toInt64) * 31) + r5.1.toInt64) * 31) + r6.1.toInt64) * 31) + r7.1.toInt64) * 31) + r8.1.toInt64) * 31) + r9.1.toInt64) * 31) + r10.1.toInt64) * 31) + r11.1.toInt64) * 31) + r12.1.toInt64) * 31) + r13.1.toInt64) * 31) + r14.1.toInt64) * 31) + r15.1.toInt64) * 31) + r16.1.toInt64) * 31) + r17.1.toInt64) * 31) + r18.1.toInt64) * 31) + r19.1.toInt64) * 31)]) ⟨hx, hb, hml, hown, hts⟩ (c_X3_calendar l dC dI cB cI cJ cZ b _ mce mfr mun mbe men mov msp mwb mwe mwi mac mre mkn r19.2 3 r20 g20) (kcwV hts kw_1476 kv_X3_calendar rfl rfl ⟨(Nat.le_of_ble_eq_true rfl), (Nat.le_of_ble_eq_true rfl)⟩) (kpV (A := A) qP hK qD hG (krecv_5 (q0 := 0) hK hP rfl)) rfl rfl hl.1 rfl (lv_room (Nat.le_of_ble_eq_true rfl)) (kdr dgX3_digest_0 5 1 rfl rfl) ⟨by show _ ≤ (86 : Nat); omega, by show _ ≤ (1880 : Nat); omega⟩) hP hD hS hA kFr_Mo (fun H locs hP hD hS br20 => ?_)
  refine lv_i2l (v := r20.1.toInt64) hx hb (kdr dgX3_digest_0 5 2 rfl rfl) rfl ?_
  refine lv_ladd hx hb (kdr dgX3_digest_0 5 3 rfl rfl) ?_
  refine lv_lstore_n (lv' := (kvJ 1 ((((((((((((((((((((((((((((((((((((((((8009 * 31) + r1.1.toInt64) * 31) + r2.1.toInt64) * 31) + r3.1.toInt64) * 31) + r4.1.toInt64) * 31) + r5.1.toInt64) * 31) + r6.1.toInt64) * 31) + r7.1.toInt64) * 31) + r8.1.toInt64) * 31) + r9.1.toInt64) * 31) + r10.1.toInt64) * 31) + r11.1.toInt64) * 31) + r12.1.toInt64) * 31) + r13.1.toInt64) * 31) + r14.1.toInt64) * 31) + r15.1.toInt64) * 31) + r16.1.toInt64) * 31) + r17.1.toInt64) * 31) + r18.1.toInt64) * 31) + r19.1.toInt64) * 31) + r20.1.toInt64) (kvI 3 3 (kvA 0 (b 0) kvE)))) hx hb (kdr dgX3_digest_0 5 4 rfl rfl) rfl hl (by decide) rfl (fun ls hl => ?_)
  refine lv_iinc (v := 4) (lv' := (kvI 3 4 (kvJ 1 ((((((((((((((((((((((((((((((((((((((((8009 * 31) + r1.1.toInt64) * 31) + r2.1.toInt64) * 31) + r3.1.toInt64) * 31) + r4.1.toInt64) * 31) + r5.1.toInt64) * 31) + r6.1.toInt64) * 31) + r7.1.toInt64) * 31) + r8.1.toInt64) * 31) + r9.1.toInt64) * 31) + r10.1.toInt64) * 31) + r11.1.toInt64) * 31) + r12.1.toInt64) * 31) + r13.1.toInt64) * 31) + r14.1.toInt64) * 31) + r15.1.toInt64) * 31) + r16.1.toInt64) * 31) + r17.1.toInt64) * 31) + r18.1.toInt64) * 31) + r19.1.toInt64) * 31) + r20.1.toInt64) (kvA 0 (b 0) kvE)))) hx hb (kdr dgX3_digest_0 5 5 rfl rfl) hl (k := 1) rfl (by decide) (by decide) rfl (fun ls hl => ?_)
  refine lv_goto (tgt := 67) hx hb (kdr dgX3_digest_0 5 6 rfl rfl) (by decide) ?_
  refine lv_iload_n hx hb (kdr dgX3_digest_0 4 3 rfl rfl) rfl (lv_at hl 0 rfl) ?_
  refine lv_iconst (v := 4) hx hb (kdr dgX3_digest_0 4 4 rfl rfl) (by decide) ?_
  refine lv_icmp_ge (tgt := 91) hx hb (kdr dgX3_digest_0 4 5 rfl rfl) (by decide) (fun _ => ?_) (fun c9 => absurd (by decide) c9)
  refine lv_lload_n hx hb (kdr dgX3_digest_0 5 7 rfl rfl) rfl (lv_at hl 1 rfl) ?_
  refine lv_ldc2 (v := (31)) hx hb hown hw1 (kdr dgX3_digest_0 5 8 rfl rfl) ?_
  refine lv_lmul hx hb (kdr dgX3_digest_0 5 9 rfl rfl) ?_
  refine lv_aload_n hx hb (kdr dgX3_digest_0 6 0 rfl rfl) rfl (lv_at hl 2 rfl) ?_
  refine va_get (D := (dC, dI)) (ci := 5) (v := .int msp) (C := RX3) (T := TX3) (N := 14) hx hb hts hiX3 hown hK hP 0 rfl rfl 6 (by decide) hw2 (fun _ h9 => h9) rfl (kdr dgX3_digest_0 6 1 rfl rfl) ?_
  refine lv_i2l (v := msp.toInt64) hx hb (kdr dgX3_digest_0 6 2 rfl rfl) rfl ?_
  refine lv_ladd hx hb (kdr dgX3_digest_0 6 3 rfl rfl) ?_
  refine lv_lstore_n (lv' := (kvJ 1 ((((((((((((((((((((((((((((((((((((((((((8009 * 31) + r1.1.toInt64) * 31) + r2.1.toInt64) * 31) + r3.1.toInt64) * 31) + r4.1.toInt64) * 31) + r5.1.toInt64) * 31) + r6.1.toInt64) * 31) + r7.1.toInt64) * 31) + r8.1.toInt64) * 31) + r9.1.toInt64) * 31) + r10.1.toInt64) * 31) + r11.1.toInt64) * 31) + r12.1.toInt64) * 31) + r13.1.toInt64) * 31) + r14.1.toInt64) * 31) + r15.1.toInt64) * 31) + r16.1.toInt64) * 31) + r17.1.toInt64) * 31) + r18.1.toInt64) * 31) + r19.1.toInt64) * 31) + r20.1.toInt64) * 31) + msp.toInt64) (kvI 3 4 (kvA 0 (b 0) kvE)))) hx hb (kdr dgX3_digest_0 6 4 rfl rfl) rfl hl (by decide) rfl (fun ls hl => ?_)
  refine lv_iconst (v := 0) hx hb (kdr dgX3_digest_0 6 5 rfl rfl) (by decide) ?_
  refine lv_istore_n (lv' := (kvI 3 0 (kvJ 1 ((((((((((((((((((((((((((((((((((((((((((8009 * 31) + r1.1.toInt64) * 31) + r2.1.toInt64) * 31) + r3.1.toInt64) * 31) + r4.1.toInt64) * 31) + r5.1.toInt64) * 31) + r6.1.toInt64) * 31) + r7.1.toInt64) * 31) + r8.1.toInt64) * 31) + r9.1.toInt64) * 31) + r10.1.toInt64) * 31) + r11.1.toInt64) * 31) + r12.1.toInt64) * 31) + r13.1.toInt64) * 31) + r14.1.toInt64) * 31) + r15.1.toInt64) * 31) + r16.1.toInt64) * 31) + r17.1.toInt64) * 31) + r18.1.toInt64) * 31) + r19.1.toInt64) * 31) + r20.1.toInt64) * 31) + msp.toInt64) (kvA 0 (b 0) kvE)))) hx hb (kdr dgX3_digest_0 6 6 rfl rfl) rfl hl (by decide) rfl (fun ls hl => ?_)
  exact J105 24 mce mfr mun mbe men mov msp mwb mwe mwi mac mre mkn r20.2 ((((((((((((((((((((((((((((((((((((((((((8009 * 31) + r1.1.toInt64) * 31) + r2.1.toInt64) * 31) + r3.1.toInt64) * 31) + r4.1.toInt64) * 31) + r5.1.toInt64) * 31) + r6.1.toInt64) * 31) + r7.1.toInt64) * 31) + r8.1.toInt64) * 31) + r9.1.toInt64) * 31) + r10.1.toInt64) * 31) + r11.1.toInt64) * 31) + r12.1.toInt64) * 31) + r13.1.toInt64) * 31) + r14.1.toInt64) * 31) + r15.1.toInt64) * 31) + r16.1.toInt64) * 31) + r17.1.toInt64) * 31) + r18.1.toInt64) * 31) + r19.1.toInt64) * 31) + r20.1.toInt64) * 31) + msp.toInt64) 0 _ _ _ _ (by omega) (by omega) hP hD hS ls (lv_sub hl [2, 1, 0] rfl) h
noncomputable abbrev wsX3_text : List Cond := kWs yX3_text cX3_text 2 (some (.object "java/lang/String"))
noncomputable def f_X3_text_13 (mce : Nat → Int64) (x1 : Int32) (y0 : Int32) : Option (Int32) :=
  (f_X3_isThrown_ y0).bind fun r1 =>
  if r1.1 = 0 then
    (f_J4_init_da8c8).bind fun r3 =>
    if ix x1 4 then
      (f_X3_secondOf (mce x1.toNatClampNeg)).bind fun r5 =>
      (f_J4_append_bf812 r3.1 r3.2.1 r3.2.2 r5).bind fun r6 =>
      (f_J4_append_15ec4 r6.1 r6.2.1 r6.2.2).bind fun r7 =>
      (f_X3_nanoOf (mce x1.toNatClampNeg)).bind fun r8 =>
      (f_J4_append_bf812 r7.1 r7.2.1 r7.2.2 r8).bind fun r9 =>
      (f_J4_toString_0e30d r9.1 r9.2.1 r9.2.2).bind fun r10 =>
      some r1.2
    else none
  else
    some r1.2
theorem f_X3_text_13_e {mce : Nat → Int64} {x1 : Int32} {y0 : Int32} : f_X3_text_13 mce x1 y0 =
  (f_X3_isThrown_ y0).bind fun r1 =>
  if r1.1 = 0 then
    (f_J4_init_da8c8).bind fun r3 =>
    if ix x1 4 then
      (f_X3_secondOf (mce x1.toNatClampNeg)).bind fun r5 =>
      (f_J4_append_bf812 r3.1 r3.2.1 r3.2.2 r5).bind fun r6 =>
      (f_J4_append_15ec4 r6.1 r6.2.1 r6.2.2).bind fun r7 =>
      (f_X3_nanoOf (mce x1.toNatClampNeg)).bind fun r8 =>
      (f_J4_append_bf812 r7.1 r7.2.1 r7.2.2 r8).bind fun r9 =>
      (f_J4_toString_0e30d r9.1 r9.2.1 r9.2.2).bind fun r10 =>
      some r1.2
    else none
  else
    some r1.2 := rfl
noncomputable def f_X3_text (mce : Nat → Int64) (p0 : Int32) : Option (Int32) :=
  (f_X3_is p0).bind fun r1 =>
  if r1 = 0 then
    f_X3_text_13 mce p0 1
  else
    f_X3_text_13 mce p0 0
theorem f_X3_text_e {mce : Nat → Int64} {p0 : Int32} : f_X3_text mce p0 = 
  (f_X3_is p0).bind fun r1 =>
  if r1 = 0 then
    f_X3_text_13 mce p0 1
  else
    f_X3_text_13 mce p0 0 := rfl
set_option maxHeartbeats 4000000 in
set_option maxRecDepth 100000 in
theorem c_X3_text (l : Launch) (dC : Nat → ClassId) (dI : Nat → Nat → Nat) (cB cI cJ cZ : ClassId) (b : Nat → Nat) (sz : Nat) (mce : Nat → Int64) (mfr : Int64) (mun : Int64) (mbe : Nat → Int64) (men : Nat → Int64) (mov : Nat → Int32) (msp : Int32) (mwb : Nat → Int64) (mwe : Nat → Int64) (mwi : Int32) (mac : Int32) (mre : Int32) (mkn : Int32) (mth : Int32) (p0 : Int32) (res : Int32) (hf : f_X3_text mce p0 = some res) : Met l yX3_text wsX3_text (kRm 6 7 280 171) (kPreX (dC, dI) (kTy cB cI cJ cZ) [.ref (b 0), .int p0] sz (wMo cJ cZ b mce mfr mun mbe men mov msp mwb mwe mwi mac mre mkn mth)) (kNq (dC, dI) (wMo cJ cZ b mce mfr mun mbe men mov msp mwb mwe mwi mac mre mkn (res)) (va_A (wMo cJ cZ b mce mfr mun mbe men mov msp mwb mwe mwi mac mre mkn mth) sz)) 7 280 (va_A (wMo cJ cZ b mce mfr mun mbe men mov msp mwb mwe mwi mac mre mkn mth) sz) := by
  refine Met.ofW (cc := cX3_text) (maxL := 2) (ret := (some (.object "java/lang/String"))) (by decide) rfl ?_
  intro p e s m args below meth c s₁ B hml hv
  obtain ⟨rfl, hsz, hP, hK, hD0, hG, hZ⟩ := hv
  have hx := B.exec
  have hb := B.bytes
  have hr := B.returns
  have hts := atoms_spec (ws := wsX3_text) B.pre
  have hown : s.vm.findClass RX3 = some m.cls := findClass_of_methodNamed B.named
  have hlocks := B.notSynchronized
  subst hsz
  have hD := hD0.self (sz := s.heap.size)
  generalize hAe : va_A (wMo cJ cZ b mce mfr mun mbe men mov msp mwb mwe mwi mac mre mkn mth) s.heap.size = A at hD hZ ⊢
  have hA : ∀ q : Nat, s.heap.size ≤ q → A q := fun q h => by rw [← hAe]; exact Or.inr h
  have hS : va_S A s.heap s.heap [] := va_S.rf
  clear hAe
  have hw0 := hts (.classLink RX3 193 RJ4) (List.mem_cons_of_mem _ kw_1283)
  have hw1 := hts (.instantiable RJ4 4) (List.mem_cons_of_mem _ kw_683)
  have hw2 := hts (.initialized RJ4) (List.mem_cons_of_mem _ kw_68)
  have hw3 := hts (.fieldLink RX3 7 "SpanbookerModel" "cells" "[J") (List.mem_cons_of_mem _ kw_1072)
  have hiJ4 : ∀ w ∈ u_ws RJ4 TJ4 4, w ∈ wsX3_text := fun w h => List.mem_cons_of_mem _ (ku_J4 w h)
  have hiX3 : ∀ w ∈ u_ws RX3 TX3 14, w ∈ wsX3_text := fun w h => List.mem_cons_of_mem _ (ku_X3 w h)
  have J13 : ∀ (mce : Nat → Int64) (mfr : Int64) (mun : Int64) (mbe : Nat → Int64) (men : Nat → Int64) (mov : Nat → Int32) (msp : Int32) (mwb : Nat → Int64) (mwe : Nat → Int64) (mwi : Int32) (mac : Int32) (mre : Int32) (mkn : Int32) (mth : Int32) (x1 : Int32) (y0 : Int32) (H : Heap) (locs : List Loc), va_P (dC, dI) vwCl (wMo cJ cZ b mce mfr mun mbe men mov msp mwb mwe mwi mac mre mkn mth) H → va_D A (wMo cJ cZ b mce mfr mun mbe men mov msp mwb mwe mwi mac mre mkn mth) → va_S A s.heap H locs → ∀ (ls : Array Slot), lv_has ls 2 (kvA 0 (b 0) (kvI 1 x1 kvE)) → f_X3_text_13 mce x1 y0 = some res → W p l e (headSpec wsX3_text (kRm 6 7 280 171)).room s m ([.ref (b 0), .int p0] : List Value).toArray below meth c H locs 0 0 (MQ below (kNq (dC, dI) (wMo cJ cZ b mce mfr mun mbe men mov msp mwb mwe mwi mac mre mkn (res)) A) ([.ref (b 0), .int p0] : List Value).toArray s 7 280 A) (F0 m 13 ls [.int y0, .ref (b 0)]) := by
    intro mce mfr mun mbe men mov msp mwb mwe mwi mac mre mkn mth x1 y0 H locs hP hD hS ls hl h
    have h := f_X3_text_13_e.symm.trans h
    obtain ⟨r1, g1, h⟩ := g_b h
    refine kq_i (wMo cJ cZ b mce mfr mun mbe men mov msp mwb mwe mwi mac mre mkn r1.2) (fun qP qD qF => va_runV (As := [.int y0]) (rest := []) ⟨hx, hb, hml, hown, hts⟩ (c_X3_isThrown_ l dC dI cB cI cJ cZ b _ mce mfr mun mbe men mov msp mwb mwe mwi mac mre mkn mth y0 r1 g1) (kcwV hts kw_1166 kv_X3_isThrown_ rfl rfl ⟨(Nat.le_of_ble_eq_true rfl), (Nat.le_of_ble_eq_true rfl)⟩) (kpV (A := A) qP hK qD hG (krecv_5 (q0 := 0) hK hP rfl)) rfl rfl hl.1 rfl (lv_room (Nat.le_of_ble_eq_true rfl)) (kdr dgX3_text_0 0 7 rfl rfl) ⟨(Nat.le_of_ble_eq_true rfl), (Nat.le_of_ble_eq_true rfl)⟩) hP hD hS hA kFr_Mo (fun H locs hP hD hS br1 => ?_)
    refine lv_if_eq (tgt := 24) hx hb (kdr dgX3_text_0 0 8 rfl rfl) (by decide) (fun c2 => ?_) (fun c2 => ?_)
    · have h := g_t c2 h
      refine va_new (ci := 1) (fs := [.null, .int 0, .int 0, .int 0]) (C := RJ4) (T := TJ4) (N := 4) hx hb hts hiJ4 tyJ4 tyJ4_ok hown hw0 hw1 hw2 hK hP hD hS hA rfl (fun j hj => by rcases (show j = 0 ∨ j = 1 ∨ j = 2 ∨ j = 3 by omega) with rfl | rfl | rfl | rfl <;> rfl) (Nat.le_of_ble_eq_true rfl) (Nat.le_of_ble_eq_true rfl) (kdr dgX3_text_0 1 1 rfl rfl) (fun qn0 H hP hD hS => ?_)
      have hP : va_P (dC, dI) vwCl ((wMo cJ cZ b mce mfr mun mbe men mov msp mwb mwe mwi mac mre mkn r1.2) ++ [(qn0, .inr (1, [.null, .int 0, .int 0, .int 0]))]) H := hP
      have hD : va_D A ((wMo cJ cZ b mce mfr mun mbe men mov msp mwb mwe mwi mac mre mkn r1.2) ++ [(qn0, .inr (1, [.null, .int 0, .int 0, .int 0]))]) := hD
      refine lv_dup hx hb (kdr dgX3_text_0 1 2 rfl rfl) rfl ?_
      obtain ⟨r3, g3, h⟩ := g_b h
      refine kcall_vu (fun u3 => (wTB cB qn0 (u3 0) r3.1 r3.2.1 r3.2.2)) (va_runI (As := []) (rest := [.ref qn0]) ⟨hx, hb, hml, hown, hts⟩ (c_J4_init_da8c8 l dC dI cB cI cJ cZ qn0 _   r3 g3) (kcwI hts kw_1284 kv_J4_init_da8c8 rfl rfl ⟨(Nat.le_of_ble_eq_true rfl), (Nat.le_of_ble_eq_true rfl)⟩) (kpSX (A := A) (hP.sub [7] rfl) hK (hD.sub [7] (by decide) rfl) hG hZ hS hD hA [7] rfl) rfl rfl hl.1 rfl (lv_room (Nat.le_of_ble_eq_true rfl)) (kdr dgX3_text_0 1 3 rfl rfl) ⟨(Nat.le_of_ble_eq_true rfl), (Nat.le_of_ble_eq_true rfl)⟩) hP hD hS hA [7] [0, 1, 2, 3, 4, 5, 6] rfl [((b 0), .inr (5, [.ref (b 1), .long mfr, .long mun, .ref (b 2), .ref (b 3), .ref (b 4), .int msp, .ref (b 5), .ref (b 6), .int mwi, .int mac, .int mre, .int mkn, .int r1.2])), ((b 1), .inl (cJ, 4, .inr (.inl mce))), ((b 2), .inl (cJ, 10, .inr (.inl mbe))), ((b 3), .inl (cJ, 10, .inr (.inl men))), ((b 4), .inl (cZ, 10, .inl mov)), ((b 5), .inl (cJ, 8, .inr (.inl mwb))), ((b 6), .inl (cJ, 8, .inr (.inl mwe)))] rfl (by decide) (by decide) (fun u3 H locs hP hD hS => ?_)
      have hP := hP.sub (ws' := ((wMo cJ cZ b mce mfr mun mbe men mov msp mwb mwe mwi mac mre mkn r1.2) ++ [(qn0, .inr (1, [.ref (u3 0), .int 0, .int 0, .int r3.2.2]))] ++ [((u3 0), .inl (cB, r3.1, .inl r3.2.1))])) [0, 1, 2, 3, 4, 5, 6, 7, 8] rfl
      have hD := hD.sub (ws' := ((wMo cJ cZ b mce mfr mun mbe men mov msp mwb mwe mwi mac mre mkn r1.2) ++ [(qn0, .inr (1, [.ref (u3 0), .int 0, .int 0, .int r3.2.2]))] ++ [((u3 0), .inl (cB, r3.1, .inl r3.2.1))])) [0, 1, 2, 3, 4, 5, 6, 7, 8] (by decide) rfl
      refine lv_aload_n hx hb (kdr dgX3_text_0 1 4 rfl rfl) rfl (lv_at hl 0 rfl) ?_
      refine va_get (D := (dC, dI)) (ci := 5) (v := .ref (b 1)) (C := RX3) (T := TX3) (N := 14) hx hb hts hiX3 hown hK hP 0 rfl rfl 0 (by decide) hw3 (fun _ h9 => h9) rfl (kdr dgX3_text_0 1 5 rfl rfl) ?_
      refine lv_iload_n hx hb (kdr dgX3_text_0 1 6 rfl rfl) rfl (lv_at hl 1 rfl) ?_
      obtain ⟨z3, h⟩ := g_if h
      refine va_lald hx hb hK hP 1 2 rfl rfl (ix_in z3) (kdr dgX3_text_0 1 7 rfl rfl) ?_
      obtain ⟨r5, g5, h⟩ := g_b h
      refine kq_i ((wMo cJ cZ b mce mfr mun mbe men mov msp mwb mwe mwi mac mre mkn r1.2) ++ [(qn0, .inr (1, [.ref (u3 0), .int 0, .int 0, .int r3.2.2]))] ++ [((u3 0), .inl (cB, r3.1, .inl r3.2.1))]) (fun qP qD qF => va_runS (As := [.long (mce x1.toNatClampNeg)]) (rest := [.ref qn0]) ⟨hx, hb, hml, hown, hts⟩ (c_X3_secondOf l dC dI cB cI cJ cZ  _  (mce x1.toNatClampNeg) r5 g5) (kcwS hts kw_1140 kv_X3_secondOf rfl rfl ⟨(Nat.le_of_ble_eq_true rfl), (Nat.le_of_ble_eq_true rfl)⟩) (kpS (A := A) (kPnil) hK ((kDnil (A := A))) hG) rfl rfl hl.1 rfl (lv_room (Nat.le_of_ble_eq_true rfl)) (kdr dgX3_text_0 1 8 rfl rfl) ⟨(Nat.le_of_ble_eq_true rfl), (Nat.le_of_ble_eq_true rfl)⟩) hP hD hS hA kFr_n (fun H locs hP hD hS br5 => ?_)
      obtain ⟨r6, g6, h⟩ := g_b h
      refine kcall_au (fun u6 => (wTB cB qn0 (u6 0) r6.1 r6.2.1 r6.2.2)) (va_runV (As := [.int r5]) (rest := []) ⟨hx, hb, hml, hown, hts⟩ (c_J4_append_bf812 l dC dI cB cI cJ cZ qn0 (u3 0) _ r3.1 r3.2.1 r3.2.2 r5 r6 g6) (kcwV hts kw_1285 kv_J4_append_bf812 rfl rfl ⟨(Nat.le_of_ble_eq_true rfl), (Nat.le_of_ble_eq_true rfl)⟩) (kpVX (A := A) (hP.sub [7, 8] rfl) hK (hD.sub [7, 8] (by decide) rfl) hG hZ hS hD hA [7, 8] rfl (krecv_1 (q0 := 7) hK hP rfl)) rfl rfl hl.1 rfl (lv_room (Nat.le_of_ble_eq_true rfl)) (kdr dgX3_text_0 1 9 rfl rfl) ⟨(Nat.le_of_ble_eq_true rfl), (Nat.le_of_ble_eq_true rfl)⟩) hP hD hS hA [7, 8] [0, 1, 2, 3, 4, 5, 6] rfl [((b 0), .inr (5, [.ref (b 1), .long mfr, .long mun, .ref (b 2), .ref (b 3), .ref (b 4), .int msp, .ref (b 5), .ref (b 6), .int mwi, .int mac, .int mre, .int mkn, .int r1.2])), ((b 1), .inl (cJ, 4, .inr (.inl mce))), ((b 2), .inl (cJ, 10, .inr (.inl mbe))), ((b 3), .inl (cJ, 10, .inr (.inl men))), ((b 4), .inl (cZ, 10, .inl mov)), ((b 5), .inl (cJ, 8, .inr (.inl mwb))), ((b 6), .inl (cJ, 8, .inr (.inl mwe)))] rfl (by decide) (by decide) (fun u6 H locs hP hD hS => ?_)
      have hP := hP.sub (ws' := ((wMo cJ cZ b mce mfr mun mbe men mov msp mwb mwe mwi mac mre mkn r1.2) ++ [(qn0, .inr (1, [.ref (u6 0), .int 0, .int 0, .int r6.2.2]))] ++ [((u6 0), .inl (cB, r6.1, .inl r6.2.1))])) [0, 1, 2, 3, 4, 5, 6, 7, 8] rfl
      have hD := hD.sub (ws' := ((wMo cJ cZ b mce mfr mun mbe men mov msp mwb mwe mwi mac mre mkn r1.2) ++ [(qn0, .inr (1, [.ref (u6 0), .int 0, .int 0, .int r6.2.2]))] ++ [((u6 0), .inl (cB, r6.1, .inl r6.2.1))])) [0, 1, 2, 3, 4, 5, 6, 7, 8] (by decide) rfl
      obtain ⟨kS, zV, hk1, hT⟩ := hZ.2.2.2.2.2.2.2.2.2
      refine va_ldcS hx hb hown hk1 (kdr dgX3_text_0 2 0 rfl rfl) ?_
      obtain ⟨r7, g7, h⟩ := g_b h
      refine kcall_au (fun u7 => (wTB cB qn0 (u7 0) r7.1 r7.2.1 r7.2.2)) (va_runV (As := [.ref kS]) (rest := []) ⟨hx, hb, hml, hown, hts⟩ (c_J4_append_15ec4 l dC dI cB cI cJ cZ kS zV qn0 (u6 0) _ r6.1 r6.2.1 r6.2.2  r7 g7) (kcwV hts kw_1287 kv_J4_append_15ec4 rfl rfl ⟨(Nat.le_of_ble_eq_true rfl), (Nat.le_of_ble_eq_true rfl)⟩) (kpVT hT (hP.sub [7, 8] rfl) hK (hD.sub [7, 8] (by decide) rfl) hG hZ hS hD hA [7, 8] rfl (krecv_1 (q0 := 7) hK hP rfl)) rfl rfl hl.1 rfl (lv_room (Nat.le_of_ble_eq_true rfl)) (kdr dgX3_text_0 2 1 rfl rfl) ⟨(Nat.le_of_ble_eq_true rfl), (Nat.le_of_ble_eq_true rfl)⟩) hP hD hS hA [7, 8] [0, 1, 2, 3, 4, 5, 6] rfl [((b 0), .inr (5, [.ref (b 1), .long mfr, .long mun, .ref (b 2), .ref (b 3), .ref (b 4), .int msp, .ref (b 5), .ref (b 6), .int mwi, .int mac, .int mre, .int mkn, .int r1.2])), ((b 1), .inl (cJ, 4, .inr (.inl mce))), ((b 2), .inl (cJ, 10, .inr (.inl mbe))), ((b 3), .inl (cJ, 10, .inr (.inl men))), ((b 4), .inl (cZ, 10, .inl mov)), ((b 5), .inl (cJ, 8, .inr (.inl mwb))), ((b 6), .inl (cJ, 8, .inr (.inl mwe)))] rfl (by decide) (by decide) (fun u7 H locs hP hD hS => ?_)
      have hP := hP.sub (ws' := ((wMo cJ cZ b mce mfr mun mbe men mov msp mwb mwe mwi mac mre mkn r1.2) ++ [(qn0, .inr (1, [.ref (u7 0), .int 0, .int 0, .int r7.2.2]))] ++ [((u7 0), .inl (cB, r7.1, .inl r7.2.1))])) [0, 1, 2, 3, 4, 5, 6, 7, 8] rfl
      have hD := hD.sub (ws' := ((wMo cJ cZ b mce mfr mun mbe men mov msp mwb mwe mwi mac mre mkn r1.2) ++ [(qn0, .inr (1, [.ref (u7 0), .int 0, .int 0, .int r7.2.2]))] ++ [((u7 0), .inl (cB, r7.1, .inl r7.2.1))])) [0, 1, 2, 3, 4, 5, 6, 7, 8] (by decide) rfl
      refine lv_aload_n hx hb (kdr dgX3_text_0 2 2 rfl rfl) rfl (lv_at hl 0 rfl) ?_
      refine va_get (D := (dC, dI)) (ci := 5) (v := .ref (b 1)) (C := RX3) (T := TX3) (N := 14) hx hb hts hiX3 hown hK hP 0 rfl rfl 0 (by decide) hw3 (fun _ h9 => h9) rfl (kdr dgX3_text_0 2 3 rfl rfl) ?_
      refine lv_iload_n hx hb (kdr dgX3_text_0 2 4 rfl rfl) rfl (lv_at hl 1 rfl) ?_
      refine va_lald hx hb hK hP 1 2 rfl rfl (ix_in z3) (kdr dgX3_text_0 2 5 rfl rfl) ?_
      obtain ⟨r8, g8, h⟩ := g_b h
      refine kq_i ((wMo cJ cZ b mce mfr mun mbe men mov msp mwb mwe mwi mac mre mkn r1.2) ++ [(qn0, .inr (1, [.ref (u7 0), .int 0, .int 0, .int r7.2.2]))] ++ [((u7 0), .inl (cB, r7.1, .inl r7.2.1))]) (fun qP qD qF => va_runS (As := [.long (mce x1.toNatClampNeg)]) (rest := [.ref qn0]) ⟨hx, hb, hml, hown, hts⟩ (c_X3_nanoOf l dC dI cB cI cJ cZ  _  (mce x1.toNatClampNeg) r8 g8) (kcwS hts kw_1275 kv_X3_nanoOf rfl rfl ⟨(Nat.le_of_ble_eq_true rfl), (Nat.le_of_ble_eq_true rfl)⟩) (kpS (A := A) (kPnil) hK ((kDnil (A := A))) hG) rfl rfl hl.1 rfl (lv_room (Nat.le_of_ble_eq_true rfl)) (kdr dgX3_text_0 2 6 rfl rfl) ⟨(Nat.le_of_ble_eq_true rfl), (Nat.le_of_ble_eq_true rfl)⟩) hP hD hS hA kFr_n (fun H locs hP hD hS br8 => ?_)
      obtain ⟨r9, g9, h⟩ := g_b h
      refine kcall_au (fun u9 => (wTB cB qn0 (u9 0) r9.1 r9.2.1 r9.2.2)) (va_runV (As := [.int r8]) (rest := []) ⟨hx, hb, hml, hown, hts⟩ (c_J4_append_bf812 l dC dI cB cI cJ cZ qn0 (u7 0) _ r7.1 r7.2.1 r7.2.2 r8 r9 g9) (kcwV hts kw_1285 kv_J4_append_bf812 rfl rfl ⟨(Nat.le_of_ble_eq_true rfl), (Nat.le_of_ble_eq_true rfl)⟩) (kpVX (A := A) (hP.sub [7, 8] rfl) hK (hD.sub [7, 8] (by decide) rfl) hG hZ hS hD hA [7, 8] rfl (krecv_1 (q0 := 7) hK hP rfl)) rfl rfl hl.1 rfl (lv_room (Nat.le_of_ble_eq_true rfl)) (kdr dgX3_text_0 2 7 rfl rfl) ⟨(Nat.le_of_ble_eq_true rfl), (Nat.le_of_ble_eq_true rfl)⟩) hP hD hS hA [7, 8] [0, 1, 2, 3, 4, 5, 6] rfl [((b 0), .inr (5, [.ref (b 1), .long mfr, .long mun, .ref (b 2), .ref (b 3), .ref (b 4), .int msp, .ref (b 5), .ref (b 6), .int mwi, .int mac, .int mre, .int mkn, .int r1.2])), ((b 1), .inl (cJ, 4, .inr (.inl mce))), ((b 2), .inl (cJ, 10, .inr (.inl mbe))), ((b 3), .inl (cJ, 10, .inr (.inl men))), ((b 4), .inl (cZ, 10, .inl mov)), ((b 5), .inl (cJ, 8, .inr (.inl mwb))), ((b 6), .inl (cJ, 8, .inr (.inl mwe)))] rfl (by decide) (by decide) (fun u9 H locs hP hD hS => ?_)
      have hP := hP.sub (ws' := ((wMo cJ cZ b mce mfr mun mbe men mov msp mwb mwe mwi mac mre mkn r1.2) ++ [(qn0, .inr (1, [.ref (u9 0), .int 0, .int 0, .int r9.2.2]))] ++ [((u9 0), .inl (cB, r9.1, .inl r9.2.1))])) [0, 1, 2, 3, 4, 5, 6, 7, 8] rfl
      have hD := hD.sub (ws' := ((wMo cJ cZ b mce mfr mun mbe men mov msp mwb mwe mwi mac mre mkn r1.2) ++ [(qn0, .inr (1, [.ref (u9 0), .int 0, .int 0, .int r9.2.2]))] ++ [((u9 0), .inl (cB, r9.1, .inl r9.2.1))])) [0, 1, 2, 3, 4, 5, 6, 7, 8] (by decide) rfl
      obtain ⟨r10, g10, h⟩ := g_b h
      refine kcall_n ((wMo cJ cZ b mce mfr mun mbe men mov msp mwb mwe mwi mac mre mkn r1.2) ++ [(qn0, .inr (1, [.ref (u9 0), .int 0, .int 0, .int r9.2.2]))] ++ [((u9 0), .inl (cB, r9.1, .inl r9.2.1))]) (va_runV (As := []) (rest := []) ⟨hx, hb, hml, hown, hts⟩ (c_J4_toString_0e30d l dC dI cB cI cJ cZ qn0 (u9 0) _ r9.1 r9.2.1 r9.2.2  r10 g10) (kcwV hts kw_1288 kv_J4_toString_0e30d rfl rfl ⟨(Nat.le_of_ble_eq_true rfl), (Nat.le_of_ble_eq_true rfl)⟩) (kpVX (A := A) (hP.sub (kIT mk_37 0) (km_f (m := mk_37) rfl rfl)) hK (hD.sub (kIT mk_37 0) (km_nd mk_37) (km_T (m := mk_37) rfl rfl)) hG hZ hS hD hA (kIT mk_37 0) (km_T (m := mk_37) rfl rfl) (krecv_1 (q0 := 7) hK hP rfl)) rfl rfl hl.1 rfl (lv_room (Nat.le_of_ble_eq_true rfl)) (kdr dgX3_text_0 2 8 rfl rfl) ⟨(Nat.le_of_ble_eq_true rfl), (Nat.le_of_ble_eq_true rfl)⟩) hP hD hS hA (kIT mk_37 0) (kIT mk_38 0) (km_T (m := mk_37) rfl rfl) (km_T (m := mk_37) rfl rfl) [((b 0), .inr (5, [.ref (b 1), .long mfr, .long mun, .ref (b 2), .ref (b 3), .ref (b 4), .int msp, .ref (b 5), .ref (b 6), .int mwi, .int mac, .int mre, .int mkn, .int r1.2])), ((b 1), .inl (cJ, 4, .inr (.inl mce))), ((b 2), .inl (cJ, 10, .inr (.inl mbe))), ((b 3), .inl (cJ, 10, .inr (.inl men))), ((b 4), .inl (cZ, 10, .inl mov)), ((b 5), .inl (cJ, 8, .inr (.inl mwb))), ((b 6), .inl (cJ, 8, .inr (.inl mwe)))] (km_T (m := mk_38) rfl rfl) (km_T (m := mk_38) rfl rfl) (km_cov (m := mk_37) (n := mk_38) rfl rfl) (km_dis (m := mk_37) (n := mk_38) rfl) rfl (fun qa10 H locs hP hD hS => ?_)
      have hP := hP.sub (ws' := (wMo cJ cZ b mce mfr mun mbe men mov msp mwb mwe mwi mac mre mkn r1.2)) [0, 1, 2, 3, 4, 5, 6] rfl
      have h := Option.some.inj h
      subst h
      refine W.widen (k := 7) (n := 280) (Nat.le_of_ble_eq_true rfl) (Nat.le_of_ble_eq_true rfl) ?_
      exact kret_n hx hb hr (Or.inl ⟨_, rfl⟩) hlocks hS hP (kdr dgX3_text_0 2 9 rfl rfl)
    · have h := g_f c2 h
      obtain ⟨sE, hE⟩ := hZ.2.2.2.2.2.2.2.2.1
      refine va_ldcS hx hb hown hE (kdr dgX3_text_0 0 9 rfl rfl) ?_
      refine lv_goto (tgt := 63) hx hb (kdr dgX3_text_0 1 0 rfl rfl) (by decide) ?_
      have h := Option.some.inj h
      subst h
      refine W.widen (k := 7) (n := 280) (Nat.le_of_ble_eq_true rfl) (Nat.le_of_ble_eq_true rfl) ?_
      exact kret_n hx hb hr (Or.inl ⟨_, rfl⟩) hlocks hS hP (kdr dgX3_text_0 2 9 rfl rfl)
  have hl := lv_entry ([.ref (b 0), .int p0]) (n := 2) (Nat.le_of_ble_eq_true rfl)
  rw [lg_entry_eq]
  generalize (lg_sl ([.ref (b 0), .int p0]) ++ List.replicate (2 - (lg_sl ([.ref (b 0), .int p0])).length) Slot.unset).toArray = ls at hl ⊢
  have hl : lv_has ls 2 (kvA 0 (b 0) (kvI 1 p0 kvE)) := hl
  have h := f_X3_text_e.symm.trans hf
  refine lv_aload_n hx hb (kdr dgX3_text_0 0 0 rfl rfl) rfl (lv_at hl 0 rfl) ?_
  refine lv_iload_n hx hb (kdr dgX3_text_0 0 1 rfl rfl) rfl (lv_at hl 1 rfl) ?_
  obtain ⟨r1, g1, h⟩ := g_b h
  refine kq_i (wMo cJ cZ b mce mfr mun mbe men mov msp mwb mwe mwi mac mre mkn mth) (fun qP qD qF => va_runS (As := [.int p0]) (rest := [.ref (b 0)]) ⟨hx, hb, hml, hown, hts⟩ (c_X3_is l dC dI cB cI cJ cZ  _  p0 r1 g1) (kcwS hts kw_1119 kv_X3_is rfl rfl ⟨(Nat.le_of_ble_eq_true rfl), (Nat.le_of_ble_eq_true rfl)⟩) (kpS (A := A) (kPnil) hK ((kDnil (A := A))) hG) rfl rfl hl.1 rfl (lv_room (Nat.le_of_ble_eq_true rfl)) (kdr dgX3_text_0 0 2 rfl rfl) ⟨(Nat.le_of_ble_eq_true rfl), (Nat.le_of_ble_eq_true rfl)⟩) hP hD hS hA kFr_n (fun H locs hP hD hS br1 => ?_)
  refine lv_if_ne (tgt := 12) hx hb (kdr dgX3_text_0 0 3 rfl rfl) (by decide) (fun c2 => ?_) (fun c2 => ?_)
  · have h := g_f c2 h
    refine lv_iconst (v := 0) hx hb (kdr dgX3_text_0 0 6 rfl rfl) (by decide) ?_
    exact J13 mce mfr mun mbe men mov msp mwb mwe mwi mac mre mkn mth p0 0 _ _ hP hD hS ls (lv_sub hl [0, 1] rfl) h
  · have h := g_t c2 h
    refine lv_iconst (v := 1) hx hb (kdr dgX3_text_0 0 4 rfl rfl) (by decide) ?_
    refine lv_goto (tgt := 13) hx hb (kdr dgX3_text_0 0 5 rfl rfl) (by decide) ?_
    exact J13 mce mfr mun mbe men mov msp mwb mwe mwi mac mre mkn mth p0 1 _ _ hP hD hS ls (lv_sub hl [0, 1] rfl) h
noncomputable abbrev wsX3_init : List Cond := kWs yX3_init cX3_init 1 none
noncomputable def f_X3_init : Option (Unit) :=
  some ()
theorem f_X3_init_e : f_X3_init = 
  some () := rfl
set_option maxHeartbeats 4000000 in
set_option maxRecDepth 100000 in
theorem c_X3_init (l : Launch) (dC : Nat → ClassId) (dI : Nat → Nat → Nat) (cB cI cJ cZ : ClassId) (h0 : Nat) (sz : Nat) (res : Unit) (hf : f_X3_init = some res) : Met l yX3_init wsX3_init (kRm 1 6 50 20) (kPre (dC, dI) (kTy cB cI cJ cZ) [.ref h0] sz [(h0, .inr (5, [.null, .long 0, .long 0, .null, .null, .null, .int 0, .null, .null, .int 0, .int 0, .int 0, .int 0, .int 0]))]) (kVu (dC, dI) (fun u => (wMo cJ cZ (kcons h0 u) (fun _ => 0) 0 86400000000000 (fun _ => 0) (fun _ => 0) (fun _ => 0) 0 (fun _ => 0) (fun _ => 0) 0 0 0 0 0)) (va_A [(h0, .inr (5, [.null, .long 0, .long 0, .null, .null, .null, .int 0, .null, .null, .int 0, .int 0, .int 0, .int 0, .int 0]))] sz)) 6 50 (va_A [(h0, .inr (5, [.null, .long 0, .long 0, .null, .null, .null, .int 0, .null, .null, .int 0, .int 0, .int 0, .int 0, .int 0]))] sz) := by
  refine Met.ofW (cc := cX3_init) (maxL := 1) (ret := none) (by decide) rfl ?_
  intro p e s m args below meth c s₁ B hml hv
  obtain ⟨rfl, hsz, hP, hK, hD0, hG⟩ := hv
  have hx := B.exec
  have hb := B.bytes
  have hr := B.returns
  have hts := atoms_spec (ws := wsX3_init) B.pre
  have hown : s.vm.findClass RX3 = some m.cls := findClass_of_methodNamed B.named
  have hlocks := B.notSynchronized
  subst hsz
  have hD := hD0.self (sz := s.heap.size)
  generalize hAe : va_A [(h0, .inr (5, [.null, .long 0, .long 0, .null, .null, .null, .int 0, .null, .null, .int 0, .int 0, .int 0, .int 0, .int 0]))] s.heap.size = A at hD ⊢
  have hA : ∀ q : Nat, s.heap.size ≤ q → A q := fun q h => by rw [← hAe]; exact Or.inr h
  have hS : va_S A s.heap s.heap [] := va_S.rf
  clear hAe
  have hin : meth.name = "<init>" := (name_of_methodNamed B.named B.method).1
  have hw0 := hts (.methodLink RX3 1 objectInit) (List.mem_cons_of_mem _ kw_1070)
  have hw1 := hts (.instanceMethod objectInit) (List.mem_cons_of_mem _ kw_83)
  have hw2 := hts (.code objectInit ⟨#[0xb1]⟩ 1 none) (List.mem_cons_of_mem _ kw_84)
  have hw3 := hts (.arrayClass .long) (List.mem_cons_of_mem _ kw_105)
  have hw4 := hts (.fieldLink RX3 7 "SpanbookerModel" "cells" "[J") (List.mem_cons_of_mem _ kw_1072)
  have hw5 := hts (.constantLong RX3 13 (86400000000000)) (List.mem_cons_of_mem _ kw_1071)
  have hw6 := hts (.fieldLink RX3 15 "SpanbookerModel" "until" "J") (List.mem_cons_of_mem _ kw_1074)
  have hw7 := hts (.fieldLink RX3 19 "SpanbookerModel" "begins" "[J") (List.mem_cons_of_mem _ kw_1075)
  have hw8 := hts (.fieldLink RX3 22 "SpanbookerModel" "ends" "[J") (List.mem_cons_of_mem _ kw_1076)
  have hw9 := hts (.arrayClass .boolean) (List.mem_cons_of_mem _ kw_106)
  have hw10 := hts (.fieldLink RX3 25 "SpanbookerModel" "over" "[Z") (List.mem_cons_of_mem _ kw_1077)
  have hw11 := hts (.fieldLink RX3 29 "SpanbookerModel" "wishBegins" "[J") (List.mem_cons_of_mem _ kw_1079)
  have hw12 := hts (.fieldLink RX3 32 "SpanbookerModel" "wishEnds" "[J") (List.mem_cons_of_mem _ kw_1080)
  have hiX3 : ∀ w ∈ u_ws RX3 TX3 14, w ∈ wsX3_init := fun w h => List.mem_cons_of_mem _ (ku_X3 w h)
  have hl := lv_entry ([.ref h0]) (n := 1) (Nat.le_of_ble_eq_true rfl)
  rw [lg_entry_eq]
  generalize (lg_sl ([.ref h0]) ++ List.replicate (1 - (lg_sl ([.ref h0])).length) Slot.unset).toArray = ls at hl ⊢
  have hl : lv_has ls 1 (kvA 0 h0 kvE) := hl
  have h := f_X3_init_e.symm.trans hf
  refine lv_aload_n hx hb (kdr dgX3_init_0 0 0 rfl rfl) rfl (lv_at hl 0 rfl) ?_
  refine W.objInit hx hb hown hw0 hw1 hw2 rfl (by rw [hml]; exact hl.1) rfl (kdr dgX3_init_0 0 1 rfl rfl) (Nat.le_of_ble_eq_true rfl) (Nat.le_of_ble_eq_true rfl) ?_
  refine W.eq (g2 := F0 m 4 ls []) rfl ?_
  refine lv_aload_n hx hb (kdr dgX3_init_0 0 2 rfl rfl) rfl (lv_at hl 0 rfl) ?_
  refine lv_iconst (v := 4) hx hb (kdr dgX3_init_0 0 3 rfl rfl) (by decide) ?_
  refine va_newa (atype := .long) (ty := .long) (a0 := (4, .inr (.inl (fun _ => 0)))) hx hb hw3 rfl hK hP hD hS hA (fun _ => rfl) (by decide) (by decide) (Nat.le_of_ble_eq_true rfl) (Nat.le_of_ble_eq_true rfl) (Nat.le_of_ble_eq_true rfl) dX3_init_6 (fun qn0 cA H hK9 hP hD hS => ?_)
  have e9 : cA = cJ := k_cA hK9 2 rfl
  rw [e9] at hP hD
  have hP : va_P (dC, dI) vwCl [(h0, .inr (5, [.null, .long 0, .long 0, .null, .null, .null, .int 0, .null, .null, .int 0, .int 0, .int 0, .int 0, .int 0])), (qn0, .inl (cJ, 4, .inr (.inl (fun _ => 0))))] H := hP
  have hD : va_D A [(h0, .inr (5, [.null, .long 0, .long 0, .null, .null, .null, .int 0, .null, .null, .int 0, .int 0, .int 0, .int 0, .int 0])), (qn0, .inl (cJ, 4, .inr (.inl (fun _ => 0))))] := hD
  refine va_put (D := (dC, dI)) (ci := 5) (v := .ref qn0) (ty := (.array .long)) (C := RX3) (T := TX3) (N := 14) hx hb hts hiX3 tyX3 tyX3_ok nmX3 hown hK hP hD hS 0 rfl rfl 0 (by decide) hw4 (fun _ h9 => h9) rfl (by decide +kernel) rfl rfl (Nat.le_of_ble_eq_true rfl) (kdr dgX3_init_8 0 0 rfl rfl) (fun H locs hP hD hS => ?_)
  have hP : va_P (dC, dI) vwCl [(h0, .inr (5, [.ref qn0, .long 0, .long 0, .null, .null, .null, .int 0, .null, .null, .int 0, .int 0, .int 0, .int 0, .int 0])), (qn0, .inl (cJ, 4, .inr (.inl (fun _ => 0))))] H := hP
  have hD : va_D A [(h0, .inr (5, [.ref qn0, .long 0, .long 0, .null, .null, .null, .int 0, .null, .null, .int 0, .int 0, .int 0, .int 0, .int 0])), (qn0, .inl (cJ, 4, .inr (.inl (fun _ => 0))))] := hD
  refine lv_aload_n hx hb (kdr dgX3_init_8 0 1 rfl rfl) rfl (lv_at hl 0 rfl) ?_
  refine lv_ldc2 (v := (86400000000000)) hx hb hown hw5 (kdr dgX3_init_8 0 2 rfl rfl) ?_
  refine va_put (D := (dC, dI)) (ci := 5) (v := .long 86400000000000) (ty := .long) (C := RX3) (T := TX3) (N := 14) hx hb hts hiX3 tyX3 tyX3_ok nmX3 hown hK hP hD hS 0 rfl rfl 2 (by decide) hw6 (fun _ h9 => h9) rfl (by decide +kernel) rfl rfl (Nat.le_of_ble_eq_true rfl) (kdr dgX3_init_8 0 3 rfl rfl) (fun H locs hP hD hS => ?_)
  have hP : va_P (dC, dI) vwCl [(h0, .inr (5, [.ref qn0, .long 0, .long 86400000000000, .null, .null, .null, .int 0, .null, .null, .int 0, .int 0, .int 0, .int 0, .int 0])), (qn0, .inl (cJ, 4, .inr (.inl (fun _ => 0))))] H := hP
  have hD : va_D A [(h0, .inr (5, [.ref qn0, .long 0, .long 86400000000000, .null, .null, .null, .int 0, .null, .null, .int 0, .int 0, .int 0, .int 0, .int 0])), (qn0, .inl (cJ, 4, .inr (.inl (fun _ => 0))))] := hD
  refine lv_aload_n hx hb (kdr dgX3_init_8 0 4 rfl rfl) rfl (lv_at hl 0 rfl) ?_
  refine lv_bipush (v := 10) hx hb (kdr dgX3_init_8 0 5 rfl rfl) (by decide) ?_
  refine va_newa (atype := .long) (ty := .long) (a0 := (10, .inr (.inl (fun _ => 0)))) hx hb hw3 rfl hK hP hD hS hA (fun _ => rfl) (by decide) (by decide) (Nat.le_of_ble_eq_true rfl) (Nat.le_of_ble_eq_true rfl) (Nat.le_of_ble_eq_true rfl) dX3_init_21 (fun qn1 cA H hK9 hP hD hS => ?_)
  have e9 : cA = cJ := k_cA hK9 2 rfl
  rw [e9] at hP hD
  have hP : va_P (dC, dI) vwCl [(h0, .inr (5, [.ref qn0, .long 0, .long 86400000000000, .null, .null, .null, .int 0, .null, .null, .int 0, .int 0, .int 0, .int 0, .int 0])), (qn0, .inl (cJ, 4, .inr (.inl (fun _ => 0)))), (qn1, .inl (cJ, 10, .inr (.inl (fun _ => 0))))] H := hP
  have hD : va_D A [(h0, .inr (5, [.ref qn0, .long 0, .long 86400000000000, .null, .null, .null, .int 0, .null, .null, .int 0, .int 0, .int 0, .int 0, .int 0])), (qn0, .inl (cJ, 4, .inr (.inl (fun _ => 0)))), (qn1, .inl (cJ, 10, .inr (.inl (fun _ => 0))))] := hD
  refine va_put (D := (dC, dI)) (ci := 5) (v := .ref qn1) (ty := (.array .long)) (C := RX3) (T := TX3) (N := 14) hx hb hts hiX3 tyX3 tyX3_ok nmX3 hown hK hP hD hS 0 rfl rfl 3 (by decide) hw7 (fun _ h9 => h9) rfl (by decide +kernel) rfl rfl (Nat.le_of_ble_eq_true rfl) (kdr dgX3_init_23 0 0 rfl rfl) (fun H locs hP hD hS => ?_)
  have hP : va_P (dC, dI) vwCl [(h0, .inr (5, [.ref qn0, .long 0, .long 86400000000000, .ref qn1, .null, .null, .int 0, .null, .null, .int 0, .int 0, .int 0, .int 0, .int 0])), (qn0, .inl (cJ, 4, .inr (.inl (fun _ => 0)))), (qn1, .inl (cJ, 10, .inr (.inl (fun _ => 0))))] H := hP
  have hD : va_D A [(h0, .inr (5, [.ref qn0, .long 0, .long 86400000000000, .ref qn1, .null, .null, .int 0, .null, .null, .int 0, .int 0, .int 0, .int 0, .int 0])), (qn0, .inl (cJ, 4, .inr (.inl (fun _ => 0)))), (qn1, .inl (cJ, 10, .inr (.inl (fun _ => 0))))] := hD
  refine lv_aload_n hx hb (kdr dgX3_init_23 0 1 rfl rfl) rfl (lv_at hl 0 rfl) ?_
  refine lv_bipush (v := 10) hx hb (kdr dgX3_init_23 0 2 rfl rfl) (by decide) ?_
  refine va_newa (atype := .long) (ty := .long) (a0 := (10, .inr (.inl (fun _ => 0)))) hx hb hw3 rfl hK hP hD hS hA (fun _ => rfl) (by decide) (by decide) (Nat.le_of_ble_eq_true rfl) (Nat.le_of_ble_eq_true rfl) (Nat.le_of_ble_eq_true rfl) dX3_init_29 (fun qn2 cA H hK9 hP hD hS => ?_)
  have e9 : cA = cJ := k_cA hK9 2 rfl
  rw [e9] at hP hD
  have hP : va_P (dC, dI) vwCl [(h0, .inr (5, [.ref qn0, .long 0, .long 86400000000000, .ref qn1, .null, .null, .int 0, .null, .null, .int 0, .int 0, .int 0, .int 0, .int 0])), (qn0, .inl (cJ, 4, .inr (.inl (fun _ => 0)))), (qn1, .inl (cJ, 10, .inr (.inl (fun _ => 0)))), (qn2, .inl (cJ, 10, .inr (.inl (fun _ => 0))))] H := hP
  have hD : va_D A [(h0, .inr (5, [.ref qn0, .long 0, .long 86400000000000, .ref qn1, .null, .null, .int 0, .null, .null, .int 0, .int 0, .int 0, .int 0, .int 0])), (qn0, .inl (cJ, 4, .inr (.inl (fun _ => 0)))), (qn1, .inl (cJ, 10, .inr (.inl (fun _ => 0)))), (qn2, .inl (cJ, 10, .inr (.inl (fun _ => 0))))] := hD
  refine va_put (D := (dC, dI)) (ci := 5) (v := .ref qn2) (ty := (.array .long)) (C := RX3) (T := TX3) (N := 14) hx hb hts hiX3 tyX3 tyX3_ok nmX3 hown hK hP hD hS 0 rfl rfl 4 (by decide) hw8 (fun _ h9 => h9) rfl (by decide +kernel) rfl rfl (Nat.le_of_ble_eq_true rfl) (kdr dgX3_init_31 0 0 rfl rfl) (fun H locs hP hD hS => ?_)
  have hP : va_P (dC, dI) vwCl [(h0, .inr (5, [.ref qn0, .long 0, .long 86400000000000, .ref qn1, .ref qn2, .null, .int 0, .null, .null, .int 0, .int 0, .int 0, .int 0, .int 0])), (qn0, .inl (cJ, 4, .inr (.inl (fun _ => 0)))), (qn1, .inl (cJ, 10, .inr (.inl (fun _ => 0)))), (qn2, .inl (cJ, 10, .inr (.inl (fun _ => 0))))] H := hP
  have hD : va_D A [(h0, .inr (5, [.ref qn0, .long 0, .long 86400000000000, .ref qn1, .ref qn2, .null, .int 0, .null, .null, .int 0, .int 0, .int 0, .int 0, .int 0])), (qn0, .inl (cJ, 4, .inr (.inl (fun _ => 0)))), (qn1, .inl (cJ, 10, .inr (.inl (fun _ => 0)))), (qn2, .inl (cJ, 10, .inr (.inl (fun _ => 0))))] := hD
  refine lv_aload_n hx hb (kdr dgX3_init_31 0 1 rfl rfl) rfl (lv_at hl 0 rfl) ?_
  refine lv_bipush (v := 10) hx hb (kdr dgX3_init_31 0 2 rfl rfl) (by decide) ?_
  refine va_newa (atype := .boolean) (ty := .boolean) (a0 := (10, .inl (fun _ => 0))) hx hb hw9 rfl hK hP hD hS hA (fun _ => rfl) (by decide) (by decide) (Nat.le_of_ble_eq_true rfl) (Nat.le_of_ble_eq_true rfl) (Nat.le_of_ble_eq_true rfl) dX3_init_37 (fun qn3 cA H hK9 hP hD hS => ?_)
  have e9 : cA = cZ := k_cA hK9 3 rfl
  rw [e9] at hP hD
  have hP : va_P (dC, dI) vwCl [(h0, .inr (5, [.ref qn0, .long 0, .long 86400000000000, .ref qn1, .ref qn2, .null, .int 0, .null, .null, .int 0, .int 0, .int 0, .int 0, .int 0])), (qn0, .inl (cJ, 4, .inr (.inl (fun _ => 0)))), (qn1, .inl (cJ, 10, .inr (.inl (fun _ => 0)))), (qn2, .inl (cJ, 10, .inr (.inl (fun _ => 0)))), (qn3, .inl (cZ, 10, .inl (fun _ => 0)))] H := hP
  have hD : va_D A [(h0, .inr (5, [.ref qn0, .long 0, .long 86400000000000, .ref qn1, .ref qn2, .null, .int 0, .null, .null, .int 0, .int 0, .int 0, .int 0, .int 0])), (qn0, .inl (cJ, 4, .inr (.inl (fun _ => 0)))), (qn1, .inl (cJ, 10, .inr (.inl (fun _ => 0)))), (qn2, .inl (cJ, 10, .inr (.inl (fun _ => 0)))), (qn3, .inl (cZ, 10, .inl (fun _ => 0)))] := hD
  refine va_putF (D := (dC, dI)) (ci := 5) (v := .ref qn3) (ty := (.array .boolean)) (C := RX3) (T := TX3) (N := 14) hx hb hts hiX3 tyX3 tyX3_ok nmX3 hown hK hP hD hS 0 rfl rfl 5 (by decide) hw10 (fun _ h9 => h9) rfl hin rfl (by decide +kernel) rfl rfl (Nat.le_of_ble_eq_true rfl) (kdr dgX3_init_39 0 0 rfl rfl) (fun H locs hP hD hS => ?_)
  have hP : va_P (dC, dI) vwCl [(h0, .inr (5, [.ref qn0, .long 0, .long 86400000000000, .ref qn1, .ref qn2, .ref qn3, .int 0, .null, .null, .int 0, .int 0, .int 0, .int 0, .int 0])), (qn0, .inl (cJ, 4, .inr (.inl (fun _ => 0)))), (qn1, .inl (cJ, 10, .inr (.inl (fun _ => 0)))), (qn2, .inl (cJ, 10, .inr (.inl (fun _ => 0)))), (qn3, .inl (cZ, 10, .inl (fun _ => 0)))] H := hP
  have hD : va_D A [(h0, .inr (5, [.ref qn0, .long 0, .long 86400000000000, .ref qn1, .ref qn2, .ref qn3, .int 0, .null, .null, .int 0, .int 0, .int 0, .int 0, .int 0])), (qn0, .inl (cJ, 4, .inr (.inl (fun _ => 0)))), (qn1, .inl (cJ, 10, .inr (.inl (fun _ => 0)))), (qn2, .inl (cJ, 10, .inr (.inl (fun _ => 0)))), (qn3, .inl (cZ, 10, .inl (fun _ => 0)))] := hD
  refine lv_aload_n hx hb (kdr dgX3_init_39 0 1 rfl rfl) rfl (lv_at hl 0 rfl) ?_
  refine lv_bipush (v := 8) hx hb (kdr dgX3_init_39 0 2 rfl rfl) (by decide) ?_
  refine va_newa (atype := .long) (ty := .long) (a0 := (8, .inr (.inl (fun _ => 0)))) hx hb hw3 rfl hK hP hD hS hA (fun _ => rfl) (by decide) (by decide) (Nat.le_of_ble_eq_true rfl) (Nat.le_of_ble_eq_true rfl) (Nat.le_of_ble_eq_true rfl) dX3_init_45 (fun qn4 cA H hK9 hP hD hS => ?_)
  have e9 : cA = cJ := k_cA hK9 2 rfl
  rw [e9] at hP hD
  have hP : va_P (dC, dI) vwCl [(h0, .inr (5, [.ref qn0, .long 0, .long 86400000000000, .ref qn1, .ref qn2, .ref qn3, .int 0, .null, .null, .int 0, .int 0, .int 0, .int 0, .int 0])), (qn0, .inl (cJ, 4, .inr (.inl (fun _ => 0)))), (qn1, .inl (cJ, 10, .inr (.inl (fun _ => 0)))), (qn2, .inl (cJ, 10, .inr (.inl (fun _ => 0)))), (qn3, .inl (cZ, 10, .inl (fun _ => 0))), (qn4, .inl (cJ, 8, .inr (.inl (fun _ => 0))))] H := hP
  have hD : va_D A [(h0, .inr (5, [.ref qn0, .long 0, .long 86400000000000, .ref qn1, .ref qn2, .ref qn3, .int 0, .null, .null, .int 0, .int 0, .int 0, .int 0, .int 0])), (qn0, .inl (cJ, 4, .inr (.inl (fun _ => 0)))), (qn1, .inl (cJ, 10, .inr (.inl (fun _ => 0)))), (qn2, .inl (cJ, 10, .inr (.inl (fun _ => 0)))), (qn3, .inl (cZ, 10, .inl (fun _ => 0))), (qn4, .inl (cJ, 8, .inr (.inl (fun _ => 0))))] := hD
  refine va_put (D := (dC, dI)) (ci := 5) (v := .ref qn4) (ty := (.array .long)) (C := RX3) (T := TX3) (N := 14) hx hb hts hiX3 tyX3 tyX3_ok nmX3 hown hK hP hD hS 0 rfl rfl 7 (by decide) hw11 (fun _ h9 => h9) rfl (by decide +kernel) rfl rfl (Nat.le_of_ble_eq_true rfl) (kdr dgX3_init_47 0 0 rfl rfl) (fun H locs hP hD hS => ?_)
  have hP : va_P (dC, dI) vwCl [(h0, .inr (5, [.ref qn0, .long 0, .long 86400000000000, .ref qn1, .ref qn2, .ref qn3, .int 0, .ref qn4, .null, .int 0, .int 0, .int 0, .int 0, .int 0])), (qn0, .inl (cJ, 4, .inr (.inl (fun _ => 0)))), (qn1, .inl (cJ, 10, .inr (.inl (fun _ => 0)))), (qn2, .inl (cJ, 10, .inr (.inl (fun _ => 0)))), (qn3, .inl (cZ, 10, .inl (fun _ => 0))), (qn4, .inl (cJ, 8, .inr (.inl (fun _ => 0))))] H := hP
  have hD : va_D A [(h0, .inr (5, [.ref qn0, .long 0, .long 86400000000000, .ref qn1, .ref qn2, .ref qn3, .int 0, .ref qn4, .null, .int 0, .int 0, .int 0, .int 0, .int 0])), (qn0, .inl (cJ, 4, .inr (.inl (fun _ => 0)))), (qn1, .inl (cJ, 10, .inr (.inl (fun _ => 0)))), (qn2, .inl (cJ, 10, .inr (.inl (fun _ => 0)))), (qn3, .inl (cZ, 10, .inl (fun _ => 0))), (qn4, .inl (cJ, 8, .inr (.inl (fun _ => 0))))] := hD
  refine lv_aload_n hx hb (kdr dgX3_init_47 0 1 rfl rfl) rfl (lv_at hl 0 rfl) ?_
  refine lv_bipush (v := 8) hx hb (kdr dgX3_init_47 0 2 rfl rfl) (by decide) ?_
  refine va_newa (atype := .long) (ty := .long) (a0 := (8, .inr (.inl (fun _ => 0)))) hx hb hw3 rfl hK hP hD hS hA (fun _ => rfl) (by decide) (by decide) (Nat.le_of_ble_eq_true rfl) (Nat.le_of_ble_eq_true rfl) (Nat.le_of_ble_eq_true rfl) dX3_init_53 (fun qn5 cA H hK9 hP hD hS => ?_)
  have e9 : cA = cJ := k_cA hK9 2 rfl
  rw [e9] at hP hD
  have hP : va_P (dC, dI) vwCl [(h0, .inr (5, [.ref qn0, .long 0, .long 86400000000000, .ref qn1, .ref qn2, .ref qn3, .int 0, .ref qn4, .null, .int 0, .int 0, .int 0, .int 0, .int 0])), (qn0, .inl (cJ, 4, .inr (.inl (fun _ => 0)))), (qn1, .inl (cJ, 10, .inr (.inl (fun _ => 0)))), (qn2, .inl (cJ, 10, .inr (.inl (fun _ => 0)))), (qn3, .inl (cZ, 10, .inl (fun _ => 0))), (qn4, .inl (cJ, 8, .inr (.inl (fun _ => 0)))), (qn5, .inl (cJ, 8, .inr (.inl (fun _ => 0))))] H := hP
  have hD : va_D A [(h0, .inr (5, [.ref qn0, .long 0, .long 86400000000000, .ref qn1, .ref qn2, .ref qn3, .int 0, .ref qn4, .null, .int 0, .int 0, .int 0, .int 0, .int 0])), (qn0, .inl (cJ, 4, .inr (.inl (fun _ => 0)))), (qn1, .inl (cJ, 10, .inr (.inl (fun _ => 0)))), (qn2, .inl (cJ, 10, .inr (.inl (fun _ => 0)))), (qn3, .inl (cZ, 10, .inl (fun _ => 0))), (qn4, .inl (cJ, 8, .inr (.inl (fun _ => 0)))), (qn5, .inl (cJ, 8, .inr (.inl (fun _ => 0))))] := hD
  refine va_put (D := (dC, dI)) (ci := 5) (v := .ref qn5) (ty := (.array .long)) (C := RX3) (T := TX3) (N := 14) hx hb hts hiX3 tyX3 tyX3_ok nmX3 hown hK hP hD hS 0 rfl rfl 8 (by decide) hw12 (fun _ h9 => h9) rfl (by decide +kernel) rfl rfl (Nat.le_of_ble_eq_true rfl) (kdr dgX3_init_55 0 0 rfl rfl) (fun H locs hP hD hS => ?_)
  have hP : va_P (dC, dI) vwCl [(h0, .inr (5, [.ref qn0, .long 0, .long 86400000000000, .ref qn1, .ref qn2, .ref qn3, .int 0, .ref qn4, .ref qn5, .int 0, .int 0, .int 0, .int 0, .int 0])), (qn0, .inl (cJ, 4, .inr (.inl (fun _ => 0)))), (qn1, .inl (cJ, 10, .inr (.inl (fun _ => 0)))), (qn2, .inl (cJ, 10, .inr (.inl (fun _ => 0)))), (qn3, .inl (cZ, 10, .inl (fun _ => 0))), (qn4, .inl (cJ, 8, .inr (.inl (fun _ => 0)))), (qn5, .inl (cJ, 8, .inr (.inl (fun _ => 0))))] H := hP
  have hD : va_D A [(h0, .inr (5, [.ref qn0, .long 0, .long 86400000000000, .ref qn1, .ref qn2, .ref qn3, .int 0, .ref qn4, .ref qn5, .int 0, .int 0, .int 0, .int 0, .int 0])), (qn0, .inl (cJ, 4, .inr (.inl (fun _ => 0)))), (qn1, .inl (cJ, 10, .inr (.inl (fun _ => 0)))), (qn2, .inl (cJ, 10, .inr (.inl (fun _ => 0)))), (qn3, .inl (cZ, 10, .inl (fun _ => 0))), (qn4, .inl (cJ, 8, .inr (.inl (fun _ => 0)))), (qn5, .inl (cJ, 8, .inr (.inl (fun _ => 0))))] := hD
  have hP := hP.sub (ws' := (wMo cJ cZ (kcons h0 (kcons qn0 (kcons qn1 (kcons qn2 (kcons qn3 (kcons qn4 (kcons qn5 (fun _ => 0)))))))) (fun _ => 0) 0 86400000000000 (fun _ => 0) (fun _ => 0) (fun _ => 0) 0 (fun _ => 0) (fun _ => 0) 0 0 0 0 0)) [0, 1, 2, 3, 4, 5, 6] rfl
  have hD := hD.sub (ws' := (wMo cJ cZ (kcons h0 (kcons qn0 (kcons qn1 (kcons qn2 (kcons qn3 (kcons qn4 (kcons qn5 (fun _ => 0)))))))) (fun _ => 0) 0 86400000000000 (fun _ => 0) (fun _ => 0) (fun _ => 0) 0 (fun _ => 0) (fun _ => 0) 0 0 0 0 0)) [0, 1, 2, 3, 4, 5, 6] (by decide) rfl
  have h := Option.some.inj h
  subst h
  refine W.widen (k := 6) (n := 50) (Nat.le_of_ble_eq_true rfl) (Nat.le_of_ble_eq_true rfl) ?_
  exact kret_vu (u := (kcons qn0 (kcons qn1 (kcons qn2 (kcons qn3 (kcons qn4 (kcons qn5 (fun _ => 0)))))))) hx hb hr hlocks hS hP hD (kdr dgX3_init_55 0 1 rfl rfl)
end
