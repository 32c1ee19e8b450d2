abbrev wsX3_isAfter : List Cond := kWs yX3_isAfter cX3_isAfter 3 (some .boolean)
def f_X3_isAfter (mce : Nat → Int64) (p0 : Int32) (p1 : Int32) : Option ((Int32) × (Int32)) :=
  (f_X3_areNone p0 p1).bind fun r1 =>
  if r1.1 = 0 then
    if ix p0 4 then
      if ix p1 4 then
        if (mce p0.toNatClampNeg) ≤ (mce p1.toNatClampNeg) then
          some (0, r1.2)
        else
          some (1, r1.2)
      else none
    else none
  else
    some (0, r1.2)
theorem f_X3_isAfter_e {mce : Nat → Int64} {p0 : Int32} {p1 : Int32} : f_X3_isAfter mce p0 p1 = 
  (f_X3_areNone p0 p1).bind fun r1 =>
  if r1.1 = 0 then
    if ix p0 4 then
      if ix p1 4 then
        if (mce p0.toNatClampNeg) ≤ (mce p1.toNatClampNeg) then
          some (0, r1.2)
        else
          some (1, r1.2)
      else none
    else none
  else
    some (0, r1.2) := rfl
set_option maxHeartbeats 4000000 in
set_option maxRecDepth 100000 in
theorem c_X3_isAfter (l : Launch) (dC : Nat → ClassId) (dI : Nat → Nat → Nat) (cB cI cJ cZ : ClassId) (b : Nat → Nat) (sz : Nat) (mce : Nat → Int64) (mfr : Int64) (mun : Int64) (mbe : Nat → Int64) (men : Nat → Int64) (mov : Nat → Int32) (msp : Int32) (mwb : Nat → Int64) (mwe : Nat → Int64) (mwi : Int32) (mac : Int32) (mre : Int32) (mkn : Int32) (mth : Int32) (p0 : Int32) (p1 : Int32) (res : (Int32) × (Int32)) (hf : f_X3_isAfter mce p0 p1 = some res) : Met l yX3_isAfter wsX3_isAfter ({ frames := 3, cells := 0, slots := 0, locals := 65 } : Room) (kPre (dC, dI) (kTy cB cI cJ cZ) [.ref (b 0), .int p0, .int p1] sz (wMo cJ cZ b mce mfr mun mbe men mov msp mwb mwe mwi mac mre mkn mth)) (kI (dC, dI) .boolean (res.1) (wMo cJ cZ b mce mfr mun mbe men mov msp mwb mwe mwi mac mre mkn (res.2)) (va_A (wMo cJ cZ b mce mfr mun mbe men mov msp mwb mwe mwi mac mre mkn mth) sz)) 0 0 (va_A (wMo cJ cZ b mce mfr mun mbe men mov msp mwb mwe mwi mac mre mkn mth) sz) := by
  refine Met.ofW (cc := cX3_isAfter) (maxL := 3) (ret := (some .boolean)) (by decide) rfl ?_
  intro p e s m args below meth c s₁ B hml hv
  obtain ⟨rfl, hsz, hP, hK, hD0, hG⟩ := hv
  have hx := B.exec
  have hb := B.bytes
  have hr := B.returns
  have hts := atoms_spec (ws := wsX3_isAfter) B.pre
  have hown : s.vm.findClass RX3 = some m.cls := findClass_of_methodNamed B.named
  have hlocks := B.notSynchronized
  subst hsz
  have hD := hD0.self (sz := s.heap.size)
  generalize hAe : va_A (wMo cJ cZ b mce mfr mun mbe men mov msp mwb mwe mwi mac mre mkn mth) s.heap.size = A at hD ⊢
  have hA : ∀ q : Nat, s.heap.size ≤ q → A q := fun q h => by rw [← hAe]; exact Or.inr h
  have hS : va_S A s.heap s.heap [] := va_S.rf
  clear hAe
  have hw0 := hts (.fieldLink RX3 7 "SpanbookerModel" "cells" "[J") (List.mem_cons_of_mem _ kw_1072)
  have hiX3 : ∀ w ∈ u_ws RX3 TX3 14, w ∈ wsX3_isAfter := fun w h => List.mem_cons_of_mem _ (ku_X3 w h)
  have hl := lv_entry ([.ref (b 0), .int p0, .int p1]) (n := 3) (Nat.le_of_ble_eq_true rfl)
  rw [lg_entry_eq]
  generalize (lg_sl ([.ref (b 0), .int p0, .int p1]) ++ List.replicate (3 - (lg_sl ([.ref (b 0), .int p0, .int p1])).length) Slot.unset).toArray = ls at hl ⊢
  have hl : lv_has ls 3 [(0, .ref (b 0)), (1, .int p0), (2, .int p1)] := hl
  have h := f_X3_isAfter_e.symm.trans hf
  refine lv_aload_n hx hb dX3_isAfter_0 rfl (lv_at hl 0 rfl) ?_
  refine lv_iload_n hx hb dX3_isAfter_1 rfl (lv_at hl 1 rfl) ?_
  refine lv_iload_n hx hb dX3_isAfter_2 rfl (lv_at hl 2 rfl) ?_
  obtain ⟨r1, g1, h⟩ := g_b h
  refine kcall_i (wMo cJ cZ b mce mfr mun mbe men mov msp mwb mwe mwi mac mre mkn r1.2) (va_runV (As := [.int p0, .int p1]) (rest := []) ⟨hx, hb, hml, hown, hts⟩ (c_X3_areNone l dC dI cB cI cJ cZ b _ mce mfr mun mbe men mov msp mwb mwe mwi mac mre mkn mth p0 p1 r1 g1) (kcwV hts kw_1297 kv_X3_areNone rfl rfl ⟨(Nat.le_of_ble_eq_true rfl), (Nat.le_of_ble_eq_true rfl)⟩) (kpV (A := A) (hP.sub (kIT mk_26 0) (km_f (m := mk_26) rfl rfl)) hK (hD.sub (kIT mk_26 0) (km_nd mk_26) (km_T (m := mk_26) rfl rfl)) hG (va_recv hK hP (ci := 5) (q0 := 0) rfl rfl)) rfl rfl hl.1 rfl (lv_room (Nat.le_of_ble_eq_true rfl)) dX3_isAfter_3 ⟨(Nat.le_of_ble_eq_true rfl), (Nat.le_of_ble_eq_true rfl)⟩) hP hD hS hA (kIT mk_26 0) (kIT mk_25 0) (km_T (m := mk_26) rfl rfl) (km_T (m := mk_26) rfl rfl) [] (km_T (m := mk_25) rfl rfl) (km_T (m := mk_25) rfl rfl) (km_cov (m := mk_26) (n := mk_25) rfl rfl) (km_dis (m := mk_26) (n := mk_25) rfl) rfl (fun H locs hP hD hS br1 => ?_)
  refine lv_if_ne (tgt := 29) hx hb dX3_isAfter_6 (by decide) (fun c2 => ?_) (fun c2 => ?_)
  · have h := g_f c2 h
    refine lv_iconst (v := 0) hx hb dX3_isAfter_29 (by decide) ?_
    have h := Option.some.inj h
    subst h
    exact kret_i (v := 0) hx hb hr rfl hlocks hS hP dX3_isAfter_30
  · have h := g_t c2 h
    refine lv_aload_n hx hb dX3_isAfter_9 rfl (lv_at hl 0 rfl) ?_
    refine va_get (D := (dC, dI)) (ci := 5) (v := .ref (b 1)) (C := RX3) (T := TX3) (N := 14) hx hb hts hiX3 hown hK hP 0 rfl rfl 0 (by decide) hw0 (fun _ h9 => h9) rfl dX3_isAfter_10 ?_
    refine lv_iload_n hx hb dX3_isAfter_13 rfl (lv_at hl 1 rfl) ?_
    obtain ⟨z2, h⟩ := g_if h
    refine va_lald hx hb hK hP 1 2 rfl rfl (ix_in z2) dX3_isAfter_14 ?_
    refine lv_aload_n hx hb dX3_isAfter_15 rfl (lv_at hl 0 rfl) ?_
    refine va_get (D := (dC, dI)) (ci := 5) (v := .ref (b 1)) (C := RX3) (T := TX3) (N := 14) hx hb hts hiX3 hown hK hP 0 rfl rfl 0 (by decide) hw0 (fun _ h9 => h9) rfl dX3_isAfter_16 ?_
    refine lv_iload_n hx hb dX3_isAfter_19 rfl (lv_at hl 2 rfl) ?_
    obtain ⟨z3, h⟩ := g_if h
    refine va_lald hx hb hK hP 1 2 rfl rfl (ix_in z3) dX3_isAfter_20 ?_
    refine kl_le (pc := 21) (tgt := 29) hx hb dX3_isAfter_21 dX3_isAfter_22 (by decide) (fun c5 => ?_) (fun c5 => ?_)
    · have h := g_t c5 h
      refine lv_iconst (v := 0) hx hb dX3_isAfter_29 (by decide) ?_
      have h := Option.some.inj h
      subst h
      exact kret_i (v := 0) hx hb hr rfl hlocks hS hP dX3_isAfter_30
    · have h := g_f c5 h
      refine lv_iconst (v := 1) hx hb dX3_isAfter_25 (by decide) ?_
      refine lv_goto (tgt := 30) hx hb dX3_isAfter_26 (by decide) ?_
      have h := Option.some.inj h
      subst h
      exact kret_i (v := 1) hx hb hr rfl hlocks hS hP dX3_isAfter_30
abbrev wsX3_same : List Cond := kWs yX3_same cX3_same 4 (some .boolean)
def f_X3_same_34 (mce : Nat → Int64) (x1 : Int32) (x2 : Int32) (x3 : Int32) (y0 : Int32) (y1 : Int32) : Option ((Int32) × (Int32)) :=
  (f_X3_isThrown y1 y0).bind fun r1 =>
  if r1.1 = 0 then
    if x3 = 2 then
      some (1, r1.2)
    else
      if ix x1 4 then
        if ix x2 4 then
          if (mce x1.toNatClampNeg) = (mce x2.toNatClampNeg) then
            some (1, r1.2)
          else
            some (0, r1.2)
        else none
      else none
  else
    some (0, r1.2)
theorem f_X3_same_34_e {mce : Nat → Int64} {x1 : Int32} {x2 : Int32} {x3 : Int32} {y0 : Int32} {y1 : Int32} : f_X3_same_34 mce x1 x2 x3 y0 y1 =
  (f_X3_isThrown y1 y0).bind fun r1 =>
  if r1.1 = 0 then
    if x3 = 2 then
      some (1, r1.2)
    else
      if ix x1 4 then
        if ix x2 4 then
          if (mce x1.toNatClampNeg) = (mce x2.toNatClampNeg) then
            some (1, r1.2)
          else
            some (0, r1.2)
        else none
      else none
  else
    some (0, r1.2) := rfl
def f_X3_same_29 (mce : Nat → Int64) (x1 : Int32) (x2 : Int32) (x3 : Int32) (y0 : Int32) : Option ((Int32) × (Int32)) :=
  f_X3_same_34 mce x1 x2 x3 1 y0
theorem f_X3_same_29_e {mce : Nat → Int64} {x1 : Int32} {x2 : Int32} {x3 : Int32} {y0 : Int32} : f_X3_same_29 mce x1 x2 x3 y0 =
  f_X3_same_34 mce x1 x2 x3 1 y0 := rfl
def f_X3_same_20 (mce : Nat → Int64) (x1 : Int32) (x2 : Int32) (x3 : Int32) (y0 : Int32) : Option ((Int32) × (Int32)) :=
  if x3 < 0 then
    f_X3_same_29 mce x1 x2 x3 y0
  else
    if x3 ≤ 2 then
      f_X3_same_34 mce x1 x2 x3 0 y0
    else
      f_X3_same_29 mce x1 x2 x3 y0
theorem f_X3_same_20_e {mce : Nat → Int64} {x1 : Int32} {x2 : Int32} {x3 : Int32} {y0 : Int32} : f_X3_same_20 mce x1 x2 x3 y0 =
  if x3 < 0 then
    f_X3_same_29 mce x1 x2 x3 y0
  else
    if x3 ≤ 2 then
      f_X3_same_34 mce x1 x2 x3 0 y0
    else
      f_X3_same_29 mce x1 x2 x3 y0 := rfl
def f_X3_same_15 (mce : Nat → Int64) (x1 : Int32) (x2 : Int32) (x3 : Int32) : Option ((Int32) × (Int32)) :=
  f_X3_same_20 mce x1 x2 x3 1
theorem f_X3_same_15_e {mce : Nat → Int64} {x1 : Int32} {x2 : Int32} {x3 : Int32} : f_X3_same_15 mce x1 x2 x3 =
  f_X3_same_20 mce x1 x2 x3 1 := rfl
def f_X3_same (mce : Nat → Int64) (p0 : Int32) (p1 : Int32) (p2 : Int32) : Option ((Int32) × (Int32)) :=
  (f_X3_is p0).bind fun r1 =>
  if r1 = 0 then
    f_X3_same_15 mce p0 p1 p2
  else
    (f_X3_is p1).bind fun r3 =>
    if r3 = 0 then
      f_X3_same_15 mce p0 p1 p2
    else
      f_X3_same_20 mce p0 p1 p2 0
theorem f_X3_same_e {mce : Nat → Int64} {p0 : Int32} {p1 : Int32} {p2 : Int32} : f_X3_same mce p0 p1 p2 = 
  (f_X3_is p0).bind fun r1 =>
  if r1 = 0 then
    f_X3_same_15 mce p0 p1 p2
  else
    (f_X3_is p1).bind fun r3 =>
    if r3 = 0 then
      f_X3_same_15 mce p0 p1 p2
    else
      f_X3_same_20 mce p0 p1 p2 0 := rfl
set_option maxHeartbeats 4000000 in
set_option maxRecDepth 100000 in
theorem c_X3_same (l : Launch) (dC : Nat → ClassId) (dI : Nat → Nat → Nat) (cB cI cJ cZ : ClassId) (b : Nat → Nat) (sz : Nat) (mce : Nat → Int64) (mfr : Int64) (mun : Int64) (mbe : Nat → Int64) (men : Nat → Int64) (mov : Nat → Int32) (msp : Int32) (mwb : Nat → Int64) (mwe : Nat → Int64) (mwi : Int32) (mac : Int32) (mre : Int32) (mkn : Int32) (mth : Int32) (p0 : Int32) (p1 : Int32) (p2 : Int32) (res : (Int32) × (Int32)) (hf : f_X3_same mce p0 p1 p2 = some res) : Met l yX3_same wsX3_same ({ frames := 1, cells := 0, slots := 0, locals := 22 } : Room) (kPre (dC, dI) (kTy cB cI cJ cZ) [.ref (b 0), .int p0, .int p1, .int p2] sz (wMo cJ cZ b mce mfr mun mbe men mov msp mwb mwe mwi mac mre mkn mth)) (kI (dC, dI) .boolean (res.1) (wMo cJ cZ b mce mfr mun mbe men mov msp mwb mwe mwi mac mre mkn (res.2)) (va_A (wMo cJ cZ b mce mfr mun mbe men mov msp mwb mwe mwi mac mre mkn mth) sz)) 0 0 (va_A (wMo cJ cZ b mce mfr mun mbe men mov msp mwb mwe mwi mac mre mkn mth) sz) := by
  refine Met.ofW (cc := cX3_same) (maxL := 4) (ret := (some .boolean)) (by decide) rfl ?_
  intro p e s m args below meth c s₁ B hml hv
  obtain ⟨rfl, hsz, hP, hK, hD0, hG⟩ := hv
  have hx := B.exec
  have hb := B.bytes
  have hr := B.returns
  have hts := atoms_spec (ws := wsX3_same) B.pre
  have hown : s.vm.findClass RX3 = some m.cls := findClass_of_methodNamed B.named
  have hlocks := B.notSynchronized
  subst hsz
  have hD := hD0.self (sz := s.heap.size)
  generalize hAe : va_A (wMo cJ cZ b mce mfr mun mbe men mov msp mwb mwe mwi mac mre mkn mth) s.heap.size = A at hD ⊢
  have hA : ∀ q : Nat, s.heap.size ≤ q → A q := fun q h => by rw [← hAe]; exact Or.inr h
  have hS : va_S A s.heap s.heap [] := va_S.rf
  clear hAe
  have hw0 := hts (.fieldLink RX3 7 "SpanbookerModel" "cells" "[J") (List.mem_cons_of_mem _ kw_1072)
  have hiX3 : ∀ w ∈ u_ws RX3 TX3 14, w ∈ wsX3_same := fun w h => List.mem_cons_of_mem _ (ku_X3 w h)
  have J34 : ∀ (mce : Nat → Int64) (mfr : Int64) (mun : Int64) (mbe : Nat → Int64) (men : Nat → Int64) (mov : Nat → Int32) (msp : Int32) (mwb : Nat → Int64) (mwe : Nat → Int64) (mwi : Int32) (mac : Int32) (mre : Int32) (mkn : Int32) (mth : Int32) (x1 : Int32) (x2 : Int32) (x3 : Int32) (y0 : Int32) (y1 : Int32) (H : Heap) (locs : List Loc), va_P (dC, dI) vwCl (wMo cJ cZ b mce mfr mun mbe men mov msp mwb mwe mwi mac mre mkn mth) H → va_D A (wMo cJ cZ b mce mfr mun mbe men mov msp mwb mwe mwi mac mre mkn mth) → va_S A s.heap H locs → ∀ (ls : Array Slot), lv_has ls 4 [(0, .ref (b 0)), (1, .int x1), (2, .int x2), (3, .int x3)] → f_X3_same_34 mce x1 x2 x3 y0 y1 = some res → W p l e (headSpec wsX3_same ({ frames := 1, cells := 0, slots := 0, locals := 22 } : Room)).room s m ([.ref (b 0), .int p0, .int p1, .int p2] : List Value).toArray below meth c H locs 0 0 (MQ below (kI (dC, dI) .boolean (res.1) (wMo cJ cZ b mce mfr mun mbe men mov msp mwb mwe mwi mac mre mkn (res.2)) A) ([.ref (b 0), .int p0, .int p1, .int p2] : List Value).toArray s 0 0 A) (F0 m 34 ls [.int y0, .int y1, .ref (b 0)]) := by
    intro mce mfr mun mbe men mov msp mwb mwe mwi mac mre mkn mth x1 x2 x3 y0 y1 H locs hP hD hS ls hl h
    have h := f_X3_same_34_e.symm.trans h
    obtain ⟨r1, g1, h⟩ := g_b h
    refine kcall_i (wMo cJ cZ b mce mfr mun mbe men mov msp mwb mwe mwi mac mre mkn r1.2) (va_runV (As := [.int y1, .int y0]) (rest := []) ⟨hx, hb, hml, hown, hts⟩ (c_X3_isThrown l dC dI cB cI cJ cZ b _ mce mfr mun mbe men mov msp mwb mwe mwi mac mre mkn mth y1 y0 r1 g1) (kcwV hts kw_1130 kv_X3_isThrown rfl rfl ⟨(Nat.le_of_ble_eq_true rfl), (Nat.le_of_ble_eq_true rfl)⟩) (kpV (A := A) (hP.sub (kIT mk_26 0) (km_f (m := mk_26) rfl rfl)) hK (hD.sub (kIT mk_26 0) (km_nd mk_26) (km_T (m := mk_26) rfl rfl)) hG (va_recv hK hP (ci := 5) (q0 := 0) rfl rfl)) rfl rfl hl.1 rfl (lv_room (Nat.le_of_ble_eq_true rfl)) dX3_same_34 ⟨(Nat.le_of_ble_eq_true rfl), (Nat.le_of_ble_eq_true rfl)⟩) hP hD hS hA (kIT mk_26 0) (kIT mk_25 0) (km_T (m := mk_26) rfl rfl) (km_T (m := mk_26) rfl rfl) [] (km_T (m := mk_25) rfl rfl) (km_T (m := mk_25) rfl rfl) (km_cov (m := mk_26) (n := mk_25) rfl rfl) (km_dis (m := mk_26) (n := mk_25) rfl) rfl (fun H locs hP hD hS br1 => ?_)
    refine lv_if_ne (tgt := 65) hx hb dX3_same_37 (by decide) (fun c2 => ?_) (fun c2 => ?_)
    · have h := g_f c2 h
      refine lv_iconst (v := 0) hx hb dX3_same_65 (by decide) ?_
      have h := Option.some.inj h
      subst h
      exact kret_i (v := 0) hx hb hr rfl hlocks hS hP dX3_same_66
    · have h := g_t c2 h
      refine lv_iload_n hx hb dX3_same_40 rfl (lv_at hl 3 rfl) ?_
      refine lv_iconst (v := 2) hx hb dX3_same_41 (by decide) ?_
      refine lv_icmp_eq (tgt := 61) hx hb dX3_same_42 (by decide) (fun c3 => ?_) (fun c3 => ?_)
      · have h := g_t c3 h
        refine lv_iconst (v := 1) hx hb dX3_same_61 (by decide) ?_
        refine lv_goto (tgt := 66) hx hb dX3_same_62 (by decide) ?_
        have h := Option.some.inj h
        subst h
        exact kret_i (v := 1) hx hb hr rfl hlocks hS hP dX3_same_66
      · have h := g_f c3 h
        refine lv_aload_n hx hb dX3_same_45 rfl (lv_at hl 0 rfl) ?_
        refine va_get (D := (dC, dI)) (ci := 5) (v := .ref (b 1)) (C := RX3) (T := TX3) (N := 14) hx hb hts hiX3 hown hK hP 0 rfl rfl 0 (by decide) hw0 (fun _ h9 => h9) rfl dX3_same_46 ?_
        refine lv_iload_n hx hb dX3_same_49 rfl (lv_at hl 1 rfl) ?_
        obtain ⟨z3, h⟩ := g_if h
        refine va_lald hx hb hK hP 1 2 rfl rfl (ix_in z3) dX3_same_50 ?_
        refine lv_aload_n hx hb dX3_same_51 rfl (lv_at hl 0 rfl) ?_
        refine va_get (D := (dC, dI)) (ci := 5) (v := .ref (b 1)) (C := RX3) (T := TX3) (N := 14) hx hb hts hiX3 hown hK hP 0 rfl rfl 0 (by decide) hw0 (fun _ h9 => h9) rfl dX3_same_52 ?_
        refine lv_iload_n hx hb dX3_same_55 rfl (lv_at hl 2 rfl) ?_
        obtain ⟨z4, h⟩ := g_if h
        refine va_lald hx hb hK hP 1 2 rfl rfl (ix_in z4) dX3_same_56 ?_
        refine kl_ne (pc := 57) (tgt := 65) hx hb dX3_same_57 dX3_same_58 (by decide) (fun c6 => ?_) (fun c6 => ?_)
        · have h := g_f c6 h
          refine lv_iconst (v := 0) hx hb dX3_same_65 (by decide) ?_
          have h := Option.some.inj h
          subst h
          exact kret_i (v := 0) hx hb hr rfl hlocks hS hP dX3_same_66
        · have h := g_t c6 h
          refine lv_iconst (v := 1) hx hb dX3_same_61 (by decide) ?_
          refine lv_goto (tgt := 66) hx hb dX3_same_62 (by decide) ?_
          have h := Option.some.inj h
          subst h
          exact kret_i (v := 1) hx hb hr rfl hlocks hS hP dX3_same_66
  have J29 : ∀ (mce : Nat → Int64) (mfr : Int64) (mun : Int64) (mbe : Nat → Int64) (men : Nat → Int64) (mov : Nat → Int32) (msp : Int32) (mwb : Nat → Int64) (mwe : Nat → Int64) (mwi : Int32) (mac : Int32) (mre : Int32) (mkn : Int32) (mth : Int32) (x1 : Int32) (x2 : Int32) (x3 : Int32) (y0 : Int32) (H : Heap) (locs : List Loc), va_P (dC, dI) vwCl (wMo cJ cZ b mce mfr mun mbe men mov msp mwb mwe mwi mac mre mkn mth) H → va_D A (wMo cJ cZ b mce mfr mun mbe men mov msp mwb mwe mwi mac mre mkn mth) → va_S A s.heap H locs → ∀ (ls : Array Slot), lv_has ls 4 [(0, .ref (b 0)), (1, .int x1), (2, .int x2), (3, .int x3)] → f_X3_same_29 mce x1 x2 x3 y0 = some res → W p l e (headSpec wsX3_same ({ frames := 1, cells := 0, slots := 0, locals := 22 } : Room)).room s m ([.ref (b 0), .int p0, .int p1, .int p2] : List Value).toArray below meth c H locs 0 0 (MQ below (kI (dC, dI) .boolean (res.1) (wMo cJ cZ b mce mfr mun mbe men mov msp mwb mwe mwi mac mre mkn (res.2)) A) ([.ref (b 0), .int p0, .int p1, .int p2] : List Value).toArray s 0 0 A) (F0 m 29 ls [.int y0, .ref (b 0)]) := by
    intro mce mfr mun mbe men mov msp mwb mwe mwi mac mre mkn mth x1 x2 x3 y0 H locs hP hD hS ls hl h
    have h := f_X3_same_29_e.symm.trans h
    refine lv_iconst (v := 1) hx hb dX3_same_29 (by decide) ?_
    refine lv_goto (tgt := 34) hx hb dX3_same_30 (by decide) ?_
    exact J34 mce mfr mun mbe men mov msp mwb mwe mwi mac mre mkn mth x1 x2 x3 1 y0 _ _ hP hD hS ls (lv_sub hl [0, 1, 2, 3] rfl) h
  have J20 : ∀ (mce : Nat → Int64) (mfr : Int64) (mun : Int64) (mbe : Nat → Int64) (men : Nat → Int64) (mov : Nat → Int32) (msp : Int32) (mwb : Nat → Int64) (mwe : Nat → Int64) (mwi : Int32) (mac : Int32) (mre : Int32) (mkn : Int32) (mth : Int32) (x1 : Int32) (x2 : Int32) (x3 : Int32) (y0 : Int32) (H : Heap) (locs : List Loc), va_P (dC, dI) vwCl (wMo cJ cZ b mce mfr mun mbe men mov msp mwb mwe mwi mac mre mkn mth) H → va_D A (wMo cJ cZ b mce mfr mun mbe men mov msp mwb mwe mwi mac mre mkn mth) → va_S A s.heap H locs → ∀ (ls : Array Slot), lv_has ls 4 [(0, .ref (b 0)), (1, .int x1), (2, .int x2), (3, .int x3)] → f_X3_same_20 mce x1 x2 x3 y0 = some res → W p l e (headSpec wsX3_same ({ frames := 1, cells := 0, slots := 0, locals := 22 } : Room)).room s m ([.ref (b 0), .int p0, .int p1, .int p2] : List Value).toArray below meth c H locs 0 0 (MQ below (kI (dC, dI) .boolean (res.1) (wMo cJ cZ b mce mfr mun mbe men mov msp mwb mwe mwi mac mre mkn (res.2)) A) ([.ref (b 0), .int p0, .int p1, .int p2] : List Value).toArray s 0 0 A) (F0 m 20 ls [.int y0, .ref (b 0)]) := by
    intro mce mfr mun mbe men mov msp mwb mwe mwi mac mre mkn mth x1 x2 x3 y0 H locs hP hD hS ls hl h
    have h := f_X3_same_20_e.symm.trans h
    refine lv_iload_n hx hb dX3_same_20 rfl (lv_at hl 3 rfl) ?_
    refine lv_if_lt (tgt := 29) hx hb dX3_same_21 (by decide) (fun c1 => ?_) (fun c1 => ?_)
    · have h := g_t c1 h
      exact J29 mce mfr mun mbe men mov msp mwb mwe mwi mac mre mkn mth x1 x2 x3 y0 _ _ hP hD hS ls (lv_sub hl [0, 1, 2, 3] rfl) h
    · have h := g_f c1 h
      refine lv_iload_n hx hb dX3_same_24 rfl (lv_at hl 3 rfl) ?_
      refine lv_iconst (v := 2) hx hb dX3_same_25 (by decide) ?_
      refine lv_icmp_le (tgt := 33) hx hb dX3_same_26 (by decide) (fun c2 => ?_) (fun c2 => ?_)
      · have h := g_t c2 h
        refine lv_iconst (v := 0) hx hb dX3_same_33 (by decide) ?_
        exact J34 mce mfr mun mbe men mov msp mwb mwe mwi mac mre mkn mth x1 x2 x3 0 y0 _ _ hP hD hS ls (lv_sub hl [0, 1, 2, 3] rfl) h
      · have h := g_f c2 h
        exact J29 mce mfr mun mbe men mov msp mwb mwe mwi mac mre mkn mth x1 x2 x3 y0 _ _ hP hD hS ls (lv_sub hl [0, 1, 2, 3] rfl) h
  have J15 : ∀ (mce : Nat → Int64) (mfr : Int64) (mun : Int64) (mbe : Nat → Int64) (men : Nat → Int64) (mov : Nat → Int32) (msp : Int32) (mwb : Nat → Int64) (mwe : Nat → Int64) (mwi : Int32) (mac : Int32) (mre : Int32) (mkn : Int32) (mth : Int32) (x1 : Int32) (x2 : Int32) (x3 : Int32) (H : Heap) (locs : List Loc), va_P (dC, dI) vwCl (wMo cJ cZ b mce mfr mun mbe men mov msp mwb mwe mwi mac mre mkn mth) H → va_D A (wMo cJ cZ b mce mfr mun mbe men mov msp mwb mwe mwi mac mre mkn mth) → va_S A s.heap H locs → ∀ (ls : Array Slot), lv_has ls 4 [(0, .ref (b 0)), (1, .int x1), (2, .int x2), (3, .int x3)] → f_X3_same_15 mce x1 x2 x3 = some res → W p l e (headSpec wsX3_same ({ frames := 1, cells := 0, slots := 0, locals := 22 } : Room)).room s m ([.ref (b 0), .int p0, .int p1, .int p2] : List Value).toArray below meth c H locs 0 0 (MQ below (kI (dC, dI) .boolean (res.1) (wMo cJ cZ b mce mfr mun mbe men mov msp mwb mwe mwi mac mre mkn (res.2)) A) ([.ref (b 0), .int p0, .int p1, .int p2] : List Value).toArray s 0 0 A) (F0 m 15 ls [.ref (b 0)]) := by
    intro mce mfr mun mbe men mov msp mwb mwe mwi mac mre mkn mth x1 x2 x3 H locs hP hD hS ls hl h
    have h := f_X3_same_15_e.symm.trans h
    refine lv_iconst (v := 1) hx hb dX3_same_15 (by decide) ?_
    refine lv_goto (tgt := 20) hx hb dX3_same_16 (by decide) ?_
    exact J20 mce mfr mun mbe men mov msp mwb mwe mwi mac mre mkn mth x1 x2 x3 1 _ _ hP hD hS ls (lv_sub hl [0, 1, 2, 3] rfl) h
  have hl := lv_entry ([.ref (b 0), .int p0, .int p1, .int p2]) (n := 4) (Nat.le_of_ble_eq_true rfl)
  rw [lg_entry_eq]
  generalize (lg_sl ([.ref (b 0), .int p0, .int p1, .int p2]) ++ List.replicate (4 - (lg_sl ([.ref (b 0), .int p0, .int p1, .int p2])).length) Slot.unset).toArray = ls at hl ⊢
  have hl : lv_has ls 4 [(0, .ref (b 0)), (1, .int p0), (2, .int p1), (3, .int p2)] := hl
  have h := f_X3_same_e.symm.trans hf
  refine lv_aload_n hx hb dX3_same_0 rfl (lv_at hl 0 rfl) ?_
  refine lv_iload_n hx hb dX3_same_1 rfl (lv_at hl 1 rfl) ?_
  obtain ⟨r1, g1, h⟩ := g_b h
  refine kcall_i (wMo cJ cZ b mce mfr mun mbe men mov msp mwb mwe mwi mac mre mkn mth) (va_runS (As := [.int p0]) (rest := [.ref (b 0)]) ⟨hx, hb, hml, hown, hts⟩ (c_X3_is l dC dI cB cI cJ cZ  _  p0 r1 g1) (kcwS hts kw_1123 kv_X3_is rfl rfl ⟨(Nat.le_of_ble_eq_true rfl), (Nat.le_of_ble_eq_true rfl)⟩) (kpS (A := A) (kPnil) hK ((kDnil (A := A))) hG) rfl rfl hl.1 rfl (lv_room (Nat.le_of_ble_eq_true rfl)) dX3_same_2 ⟨(Nat.le_of_ble_eq_true rfl), (Nat.le_of_ble_eq_true rfl)⟩) hP hD hS hA (kIT mk_25 0) (kIT mk_26 0) (km_T (m := mk_25) rfl rfl) (km_T (m := mk_25) rfl rfl) [((b 0), .inr (5, [.ref (b 1), .long mfr, .long mun, .ref (b 2), .ref (b 3), .ref (b 4), .int msp, .ref (b 5), .ref (b 6), .int mwi, .int mac, .int mre, .int mkn, .int mth])), ((b 1), .inl (cJ, 4, .inr (.inl mce))), ((b 2), .inl (cJ, 10, .inr (.inl mbe))), ((b 3), .inl (cJ, 10, .inr (.inl men))), ((b 4), .inl (cZ, 10, .inl mov)), ((b 5), .inl (cJ, 8, .inr (.inl mwb))), ((b 6), .inl (cJ, 8, .inr (.inl mwe)))] (km_T (m := mk_26) rfl rfl) (km_T (m := mk_26) rfl rfl) (km_cov (m := mk_25) (n := mk_26) rfl rfl) (km_dis (m := mk_25) (n := mk_26) rfl) rfl (fun H locs hP hD hS br1 => ?_)
  refine lv_if_eq (tgt := 15) hx hb dX3_same_5 (by decide) (fun c2 => ?_) (fun c2 => ?_)
  · have h := g_t c2 h
    exact J15 mce mfr mun mbe men mov msp mwb mwe mwi mac mre mkn mth p0 p1 p2 _ _ hP hD hS ls (lv_sub hl [0, 1, 2, 3] rfl) h
  · have h := g_f c2 h
    refine lv_iload_n hx hb dX3_same_8 rfl (lv_at hl 2 rfl) ?_
    obtain ⟨r3, g3, h⟩ := g_b h
    refine kcall_i (wMo cJ cZ b mce mfr mun mbe men mov msp mwb mwe mwi mac mre mkn mth) (va_runS (As := [.int p1]) (rest := [.ref (b 0)]) ⟨hx, hb, hml, hown, hts⟩ (c_X3_is l dC dI cB cI cJ cZ  _  p1 r3 g3) (kcwS hts kw_1123 kv_X3_is rfl rfl ⟨(Nat.le_of_ble_eq_true rfl), (Nat.le_of_ble_eq_true rfl)⟩) (kpS (A := A) (kPnil) hK ((kDnil (A := A))) hG) rfl rfl hl.1 rfl (lv_room (Nat.le_of_ble_eq_true rfl)) dX3_same_9 ⟨(Nat.le_of_ble_eq_true rfl), (Nat.le_of_ble_eq_true rfl)⟩) hP hD hS hA (kIT mk_25 0) (kIT mk_26 0) (km_T (m := mk_25) rfl rfl) (km_T (m := mk_25) rfl rfl) [((b 0), .inr (5, [.ref (b 1), .long mfr, .long mun, .ref (b 2), .ref (b 3), .ref (b 4), .int msp, .ref (b 5), .ref (b 6), .int mwi, .int mac, .int mre, .int mkn, .int mth])), ((b 1), .inl (cJ, 4, .inr (.inl mce))), ((b 2), .inl (cJ, 10, .inr (.inl mbe))), ((b 3), .inl (cJ, 10, .inr (.inl men))), ((b 4), .inl (cZ, 10, .inl mov)), ((b 5), .inl (cJ, 8, .inr (.inl mwb))), ((b 6), .inl (cJ, 8, .inr (.inl mwe)))] (km_T (m := mk_26) rfl rfl) (km_T (m := mk_26) rfl rfl) (km_cov (m := mk_25) (n := mk_26) rfl rfl) (km_dis (m := mk_25) (n := mk_26) rfl) rfl (fun H locs hP hD hS br3 => ?_)
    refine lv_if_ne (tgt := 19) hx hb dX3_same_12 (by decide) (fun c4 => ?_) (fun c4 => ?_)
    · have h := g_f c4 h
      refine lv_iconst (v := 0) hx hb dX3_same_19 (by decide) ?_
      exact J20 mce mfr mun mbe men mov msp mwb mwe mwi mac mre mkn mth p0 p1 p2 0 _ _ hP hD hS ls (lv_sub hl [0, 1, 2, 3] rfl) h
    · have h := g_t c4 h
      exact J15 mce mfr mun mbe men mov msp mwb mwe mwi mac mre mkn mth p0 p1 p2 _ _ hP hD hS ls (lv_sub hl [0, 1, 2, 3] rfl) h
abbrev wsX3_half : List Cond := kWs yX3_half cX3_half 3 (some .int)
def f_X3_half (p0 : Int64) (p1 : Int32) : Option (Int32) :=
  if (p1 - p1 / 2 * 2) = 0 then
    (f_X3_secondOf p0).bind fun r2 =>
    some r2
  else
    (f_X3_nanoOf p0).bind fun r2 =>
    some r2
theorem f_X3_half_e {p0 : Int64} {p1 : Int32} : f_X3_half p0 p1 = 
  if (p1 - p1 / 2 * 2) = 0 then
    (f_X3_secondOf p0).bind fun r2 =>
    some r2
  else
    (f_X3_nanoOf p0).bind fun r2 =>
    some r2 := rfl
set_option maxHeartbeats 4000000 in
set_option maxRecDepth 100000 in
theorem c_X3_half (l : Launch) (dC : Nat → ClassId) (dI : Nat → Nat → Nat) (cB cI cJ cZ : ClassId) (sz : Nat) (p0 : Int64) (p1 : Int32) (res : Int32) (hf : f_X3_half p0 p1 = some res) : Met l yX3_half wsX3_half ({ frames := 2, cells := 0, slots := 0, locals := 42 } : Room) (kPre (dC, dI) (kTy cB cI cJ cZ) [.long p0, .int p1] sz []) (kI (dC, dI) .int (res) [] (va_A [] sz)) 0 0 (va_A [] sz) := by
  refine Met.ofW (cc := cX3_half) (maxL := 3) (ret := (some .int)) (by decide) rfl ?_
  intro p e s m args below meth c s₁ B hml hv
  obtain ⟨rfl, hsz, hP, hK, hD0, hG⟩ := hv
  have hx := B.exec
  have hb := B.bytes
  have hr := B.returns
  have hts := atoms_spec (ws := wsX3_half) B.pre
  have hown : s.vm.findClass RX3 = some m.cls := findClass_of_methodNamed B.named
  have hlocks := B.notSynchronized
  subst hsz
  have hD := hD0.self (sz := s.heap.size)
  generalize hAe : va_A [] s.heap.size = A at hD ⊢
  have hA : ∀ q : Nat, s.heap.size ≤ q → A q := fun q h => by rw [← hAe]; exact Or.inr h
  have hS : va_S A s.heap s.heap [] := va_S.rf
  clear hAe
  have hl := lv_entry ([.long p0, .int p1]) (n := 3) (Nat.le_of_ble_eq_true rfl)
  rw [lg_entry_eq]
  generalize (lg_sl ([.long p0, .int p1]) ++ List.replicate (3 - (lg_sl ([.long p0, .int p1])).length) Slot.unset).toArray = ls at hl ⊢
  have hl : lv_has ls 3 [(0, .long p0), (2, .int p1)] := hl
  have h := f_X3_half_e.symm.trans hf
  refine lv_iload_n hx hb dX3_half_0 rfl (lv_at hl 1 rfl) ?_
  refine lv_iconst (v := 2) hx hb dX3_half_1 (by decide) ?_
  refine lv_irem hx hb dX3_half_2 (by decide) ?_
  refine lv_if_ne (tgt := 13) hx hb dX3_half_3 (by decide) (fun c1 => ?_) (fun c1 => ?_)
  · have h := g_f c1 h
    refine lv_lload_n hx hb dX3_half_13 rfl (lv_at hl 0 rfl) ?_
    obtain ⟨r2, g2, h⟩ := g_b h
    refine kcall_i [] (va_runS (As := [.long p0]) (rest := []) ⟨hx, hb, hml, hown, hts⟩ (c_X3_nanoOf l dC dI cB cI cJ cZ  _  p0 r2 g2) (kcwS hts kw_1279 kv_X3_nanoOf rfl rfl ⟨(Nat.le_of_ble_eq_true rfl), (Nat.le_of_ble_eq_true rfl)⟩) (kpS (A := A) (kPnil) hK ((kDnil (A := A))) hG) rfl rfl hl.1 rfl (lv_room (Nat.le_of_ble_eq_true rfl)) dX3_half_14 ⟨(Nat.le_of_ble_eq_true rfl), (Nat.le_of_ble_eq_true rfl)⟩) hP hD hS hA (kIT mk_10 0) (kIT mk_10 0) (km_T (m := mk_10) rfl rfl) (km_T (m := mk_10) rfl rfl) [] (km_T (m := mk_10) rfl rfl) (km_T (m := mk_10) rfl rfl) (km_cov (m := mk_10) (n := mk_10) rfl rfl) (km_dis (m := mk_10) (n := mk_10) rfl) rfl (fun H locs hP hD hS br2 => ?_)
    have h := Option.some.inj h
    subst h
    exact kret_i (v := r2) hx hb hr rfl hlocks hS hP dX3_half_17
  · have h := g_t c1 h
    refine lv_lload_n hx hb dX3_half_6 rfl (lv_at hl 0 rfl) ?_
    obtain ⟨r2, g2, h⟩ := g_b h
    refine kcall_i [] (va_runS (As := [.long p0]) (rest := []) ⟨hx, hb, hml, hown, hts⟩ (c_X3_secondOf l dC dI cB cI cJ cZ  _  p0 r2 g2) (kcwS hts kw_1144 kv_X3_secondOf rfl rfl ⟨(Nat.le_of_ble_eq_true rfl), (Nat.le_of_ble_eq_true rfl)⟩) (kpS (A := A) (kPnil) hK ((kDnil (A := A))) hG) rfl rfl hl.1 rfl (lv_room (Nat.le_of_ble_eq_true rfl)) dX3_half_7 ⟨(Nat.le_of_ble_eq_true rfl), (Nat.le_of_ble_eq_true rfl)⟩) hP hD hS hA (kIT mk_10 0) (kIT mk_10 0) (km_T (m := mk_10) rfl rfl) (km_T (m := mk_10) rfl rfl) [] (km_T (m := mk_10) rfl rfl) (km_T (m := mk_10) rfl rfl) (km_cov (m := mk_10) (n := mk_10) rfl rfl) (km_dis (m := mk_10) (n := mk_10) rfl) rfl (fun H locs hP hD hS br2 => ?_)
    refine lv_goto (tgt := 17) hx hb dX3_half_10 (by decide) ?_
    have h := Option.some.inj h
    subst h
    exact kret_i (v := r2) hx hb hr rfl hlocks hS hP dX3_half_17
abbrev wsX3_apart : List Cond := kWs yX3_apart cX3_apart 4 (some .int)
def f_X3_apart_34 (mce : Nat → Int64) (x1 : Int32) (x2 : Int32) (x3 : Int32) (y0 : Int32) (y1 : Int32) : Option ((Int32) × (Int32)) :=
  (f_X3_isThrown y1 y0).bind fun r1 =>
  if r1.1 = 0 then
    if ix x2 4 then
      if ix x1 4 then
        (f_X3_half ((mce x2.toNatClampNeg) - (mce x1.toNatClampNeg)) x3).bind fun r5 =>
        some (r5, r1.2)
      else none
    else none
  else
    some (0, r1.2)
theorem f_X3_apart_34_e {mce : Nat → Int64} {x1 : Int32} {x2 : Int32} {x3 : Int32} {y0 : Int32} {y1 : Int32} : f_X3_apart_34 mce x1 x2 x3 y0 y1 =
  (f_X3_isThrown y1 y0).bind fun r1 =>
  if r1.1 = 0 then
    if ix x2 4 then
      if ix x1 4 then
        (f_X3_half ((mce x2.toNatClampNeg) - (mce x1.toNatClampNeg)) x3).bind fun r5 =>
        some (r5, r1.2)
      else none
    else none
  else
    some (0, r1.2) := rfl
def f_X3_apart_29 (mce : Nat → Int64) (x1 : Int32) (x2 : Int32) (x3 : Int32) (y0 : Int32) : Option ((Int32) × (Int32)) :=
  f_X3_apart_34 mce x1 x2 x3 1 y0
theorem f_X3_apart_29_e {mce : Nat → Int64} {x1 : Int32} {x2 : Int32} {x3 : Int32} {y0 : Int32} : f_X3_apart_29 mce x1 x2 x3 y0 =
  f_X3_apart_34 mce x1 x2 x3 1 y0 := rfl
def f_X3_apart_20 (mce : Nat → Int64) (x1 : Int32) (x2 : Int32) (x3 : Int32) (y0 : Int32) : Option ((Int32) × (Int32)) :=
  if x3 < 0 then
    f_X3_apart_29 mce x1 x2 x3 y0
  else
    if x3 ≤ 1 then
      f_X3_apart_34 mce x1 x2 x3 0 y0
    else
      f_X3_apart_29 mce x1 x2 x3 y0
theorem f_X3_apart_20_e {mce : Nat → Int64} {x1 : Int32} {x2 : Int32} {x3 : Int32} {y0 : Int32} : f_X3_apart_20 mce x1 x2 x3 y0 =
  if x3 < 0 then
    f_X3_apart_29 mce x1 x2 x3 y0
  else
    if x3 ≤ 1 then
      f_X3_apart_34 mce x1 x2 x3 0 y0
    else
      f_X3_apart_29 mce x1 x2 x3 y0 := rfl
def f_X3_apart_15 (mce : Nat → Int64) (x1 : Int32) (x2 : Int32) (x3 : Int32) : Option ((Int32) × (Int32)) :=
  f_X3_apart_20 mce x1 x2 x3 1
theorem f_X3_apart_15_e {mce : Nat → Int64} {x1 : Int32} {x2 : Int32} {x3 : Int32} : f_X3_apart_15 mce x1 x2 x3 =
  f_X3_apart_20 mce x1 x2 x3 1 := rfl
def f_X3_apart (mce : Nat → Int64) (p0 : Int32) (p1 : Int32) (p2 : Int32) : Option ((Int32) × (Int32)) :=
  (f_X3_is p0).bind fun r1 =>
  if r1 = 0 then
    f_X3_apart_15 mce p0 p1 p2
  else
    (f_X3_is p1).bind fun r3 =>
    if r3 = 0 then
      f_X3_apart_15 mce p0 p1 p2
    else
      f_X3_apart_20 mce p0 p1 p2 0
theorem f_X3_apart_e {mce : Nat → Int64} {p0 : Int32} {p1 : Int32} {p2 : Int32} : f_X3_apart mce p0 p1 p2 = 
  (f_X3_is p0).bind fun r1 =>
  if r1 = 0 then
    f_X3_apart_15 mce p0 p1 p2
  else
    (f_X3_is p1).bind fun r3 =>
    if r3 = 0 then
      f_X3_apart_15 mce p0 p1 p2
    else
      f_X3_apart_20 mce p0 p1 p2 0 := rfl
set_option maxHeartbeats 4000000 in
set_option maxRecDepth 100000 in
theorem c_X3_apart (l : Launch) (dC : Nat → ClassId) (dI : Nat → Nat → Nat) (cB cI cJ cZ : ClassId) (b : Nat → Nat) (sz : Nat) (mce : Nat → Int64) (mfr : Int64) (mun : Int64) (mbe : Nat → Int64) (men : Nat → Int64) (mov : Nat → Int32) (msp : Int32) (mwb : Nat → Int64) (mwe : Nat → Int64) (mwi : Int32) (mac : Int32) (mre : Int32) (mkn : Int32) (mth : Int32) (p0 : Int32) (p1 : Int32) (p2 : Int32) (res : (Int32) × (Int32)) (hf : f_X3_apart mce p0 p1 p2 = some res) : Met l yX3_apart wsX3_apart ({ frames := 3, cells := 0, slots := 0, locals := 64 } : Room) (kPre (dC, dI) (kTy cB cI cJ cZ) [.ref (b 0), .int p0, .int p1, .int p2] sz (wMo cJ cZ b mce mfr mun mbe men mov msp mwb mwe mwi mac mre mkn mth)) (kI (dC, dI) .int (res.1) (wMo cJ cZ b mce mfr mun mbe men mov msp mwb mwe mwi mac mre mkn (res.2)) (va_A (wMo cJ cZ b mce mfr mun mbe men mov msp mwb mwe mwi mac mre mkn mth) sz)) 0 0 (va_A (wMo cJ cZ b mce mfr mun mbe men mov msp mwb mwe mwi mac mre mkn mth) sz) := by
  refine Met.ofW (cc := cX3_apart) (maxL := 4) (ret := (some .int)) (by decide) rfl ?_
  intro p e s m args below meth c s₁ B hml hv
  obtain ⟨rfl, hsz, hP, hK, hD0, hG⟩ := hv
  have hx := B.exec
  have hb := B.bytes
  have hr := B.returns
  have hts := atoms_spec (ws := wsX3_apart) B.pre
  have hown : s.vm.findClass RX3 = some m.cls := findClass_of_methodNamed B.named
  have hlocks := B.notSynchronized
  subst hsz
  have hD := hD0.self (sz := s.heap.size)
  generalize hAe : va_A (wMo cJ cZ b mce mfr mun mbe men mov msp mwb mwe mwi mac mre mkn mth) s.heap.size = A at hD ⊢
  have hA : ∀ q : Nat, s.heap.size ≤ q → A q := fun q h => by rw [← hAe]; exact Or.inr h
  have hS : va_S A s.heap s.heap [] := va_S.rf
  clear hAe
  have hw0 := hts (.fieldLink RX3 7 "SpanbookerModel" "cells" "[J") (List.mem_cons_of_mem _ kw_1072)
  have hiX3 : ∀ w ∈ u_ws RX3 TX3 14, w ∈ wsX3_apart := fun w h => List.mem_cons_of_mem _ (ku_X3 w h)
  have J34 : ∀ (mce : Nat → Int64) (mfr : Int64) (mun : Int64) (mbe : Nat → Int64) (men : Nat → Int64) (mov : Nat → Int32) (msp : Int32) (mwb : Nat → Int64) (mwe : Nat → Int64) (mwi : Int32) (mac : Int32) (mre : Int32) (mkn : Int32) (mth : Int32) (x1 : Int32) (x2 : Int32) (x3 : Int32) (y0 : Int32) (y1 : Int32) (H : Heap) (locs : List Loc), va_P (dC, dI) vwCl (wMo cJ cZ b mce mfr mun mbe men mov msp mwb mwe mwi mac mre mkn mth) H → va_D A (wMo cJ cZ b mce mfr mun mbe men mov msp mwb mwe mwi mac mre mkn mth) → va_S A s.heap H locs → ∀ (ls : Array Slot), lv_has ls 4 [(0, .ref (b 0)), (1, .int x1), (2, .int x2), (3, .int x3)] → f_X3_apart_34 mce x1 x2 x3 y0 y1 = some res → W p l e (headSpec wsX3_apart ({ frames := 3, cells := 0, slots := 0, locals := 64 } : Room)).room s m ([.ref (b 0), .int p0, .int p1, .int p2] : List Value).toArray below meth c H locs 0 0 (MQ below (kI (dC, dI) .int (res.1) (wMo cJ cZ b mce mfr mun mbe men mov msp mwb mwe mwi mac mre mkn (res.2)) A) ([.ref (b 0), .int p0, .int p1, .int p2] : List Value).toArray s 0 0 A) (F0 m 34 ls [.int y0, .int y1, .ref (b 0)]) := by
    intro mce mfr mun mbe men mov msp mwb mwe mwi mac mre mkn mth x1 x2 x3 y0 y1 H locs hP hD hS ls hl h
    have h := f_X3_apart_34_e.symm.trans h
    obtain ⟨r1, g1, h⟩ := g_b h
    refine kcall_i (wMo cJ cZ b mce mfr mun mbe men mov msp mwb mwe mwi mac mre mkn r1.2) (va_runV (As := [.int y1, .int y0]) (rest := []) ⟨hx, hb, hml, hown, hts⟩ (c_X3_isThrown l dC dI cB cI cJ cZ b _ mce mfr mun mbe men mov msp mwb mwe mwi mac mre mkn mth y1 y0 r1 g1) (kcwV hts kw_1130 kv_X3_isThrown rfl rfl ⟨(Nat.le_of_ble_eq_true rfl), (Nat.le_of_ble_eq_true rfl)⟩) (kpV (A := A) (hP.sub (kIT mk_26 0) (km_f (m := mk_26) rfl rfl)) hK (hD.sub (kIT mk_26 0) (km_nd mk_26) (km_T (m := mk_26) rfl rfl)) hG (va_recv hK hP (ci := 5) (q0 := 0) rfl rfl)) rfl rfl hl.1 rfl (lv_room (Nat.le_of_ble_eq_true rfl)) dX3_apart_34 ⟨(Nat.le_of_ble_eq_true rfl), (Nat.le_of_ble_eq_true rfl)⟩) hP hD hS hA (kIT mk_26 0) (kIT mk_25 0) (km_T (m := mk_26) rfl rfl) (km_T (m := mk_26) rfl rfl) [] (km_T (m := mk_25) rfl rfl) (km_T (m := mk_25) rfl rfl) (km_cov (m := mk_26) (n := mk_25) rfl rfl) (km_dis (m := mk_26) (n := mk_25) rfl) rfl (fun H locs hP hD hS br1 => ?_)
    refine lv_if_eq (tgt := 44) hx hb dX3_apart_37 (by decide) (fun c2 => ?_) (fun c2 => ?_)
    · have h := g_t c2 h
      refine lv_aload_n hx hb dX3_apart_44 rfl (lv_at hl 0 rfl) ?_
      refine va_get (D := (dC, dI)) (ci := 5) (v := .ref (b 1)) (C := RX3) (T := TX3) (N := 14) hx hb hts hiX3 hown hK hP 0 rfl rfl 0 (by decide) hw0 (fun _ h9 => h9) rfl dX3_apart_45 ?_
      refine lv_iload_n hx hb dX3_apart_48 rfl (lv_at hl 2 rfl) ?_
      obtain ⟨z2, h⟩ := g_if h
      refine va_lald hx hb hK hP 1 2 rfl rfl (ix_in z2) dX3_apart_49 ?_
      refine lv_aload_n hx hb dX3_apart_50 rfl (lv_at hl 0 rfl) ?_
      refine va_get (D := (dC, dI)) (ci := 5) (v := .ref (b 1)) (C := RX3) (T := TX3) (N := 14) hx hb hts hiX3 hown hK hP 0 rfl rfl 0 (by decide) hw0 (fun _ h9 => h9) rfl dX3_apart_51 ?_
      refine lv_iload_n hx hb dX3_apart_54 rfl (lv_at hl 1 rfl) ?_
      obtain ⟨z3, h⟩ := g_if h
      refine va_lald hx hb hK hP 1 2 rfl rfl (ix_in z3) dX3_apart_55 ?_
      refine lv_lsub hx hb dX3_apart_56 ?_
      refine lv_iload_n hx hb dX3_apart_57 rfl (lv_at hl 3 rfl) ?_
      obtain ⟨r5, g5, h⟩ := g_b h
      refine kcall_i (wMo cJ cZ b mce mfr mun mbe men mov msp mwb mwe mwi mac mre mkn r1.2) (va_runS (As := [.long ((mce x2.toNatClampNeg) - (mce x1.toNatClampNeg)), .int x3]) (rest := []) ⟨hx, hb, hml, hown, hts⟩ (c_X3_half l dC dI cB cI cJ cZ  _  ((mce x2.toNatClampNeg) - (mce x1.toNatClampNeg)) x3 r5 g5) (kcwS hts kw_1317 kv_X3_half rfl rfl ⟨(Nat.le_of_ble_eq_true rfl), (Nat.le_of_ble_eq_true rfl)⟩) (kpS (A := A) (kPnil) hK ((kDnil (A := A))) hG) rfl rfl hl.1 rfl (lv_room (Nat.le_of_ble_eq_true rfl)) dX3_apart_58 ⟨(Nat.le_of_ble_eq_true rfl), (Nat.le_of_ble_eq_true rfl)⟩) hP hD hS hA (kIT mk_25 0) (kIT mk_26 0) (km_T (m := mk_25) rfl rfl) (km_T (m := mk_25) rfl rfl) [((b 0), .inr (5, [.ref (b 1), .long mfr, .long mun, .ref (b 2), .ref (b 3), .ref (b 4), .int msp, .ref (b 5), .ref (b 6), .int mwi, .int mac, .int mre, .int mkn, .int r1.2])), ((b 1), .inl (cJ, 4, .inr (.inl mce))), ((b 2), .inl (cJ, 10, .inr (.inl mbe))), ((b 3), .inl (cJ, 10, .inr (.inl men))), ((b 4), .inl (cZ, 10, .inl mov)), ((b 5), .inl (cJ, 8, .inr (.inl mwb))), ((b 6), .inl (cJ, 8, .inr (.inl mwe)))] (km_T (m := mk_26) rfl rfl) (km_T (m := mk_26) rfl rfl) (km_cov (m := mk_25) (n := mk_26) rfl rfl) (km_dis (m := mk_25) (n := mk_26) rfl) rfl (fun H locs hP hD hS br5 => ?_)
      have h := Option.some.inj h
      subst h
      exact kret_i (v := r5) hx hb hr rfl hlocks hS hP dX3_apart_61
    · have h := g_f c2 h
      refine lv_iconst (v := 0) hx hb dX3_apart_40 (by decide) ?_
      refine lv_goto (tgt := 61) hx hb dX3_apart_41 (by decide) ?_
      have h := Option.some.inj h
      subst h
      exact kret_i (v := 0) hx hb hr rfl hlocks hS hP dX3_apart_61
  have J29 : ∀ (mce : Nat → Int64) (mfr : Int64) (mun : Int64) (mbe : Nat → Int64) (men : Nat → Int64) (mov : Nat → Int32) (msp : Int32) (mwb : Nat → Int64) (mwe : Nat → Int64) (mwi : Int32) (mac : Int32) (mre : Int32) (mkn : Int32) (mth : Int32) (x1 : Int32) (x2 : Int32) (x3 : Int32) (y0 : Int32) (H : Heap) (locs : List Loc), va_P (dC, dI) vwCl (wMo cJ cZ b mce mfr mun mbe men mov msp mwb mwe mwi mac mre mkn mth) H → va_D A (wMo cJ cZ b mce mfr mun mbe men mov msp mwb mwe mwi mac mre mkn mth) → va_S A s.heap H locs → ∀ (ls : Array Slot), lv_has ls 4 [(0, .ref (b 0)), (1, .int x1), (2, .int x2), (3, .int x3)] → f_X3_apart_29 mce x1 x2 x3 y0 = some res → W p l e (headSpec wsX3_apart ({ frames := 3, cells := 0, slots := 0, locals := 64 } : Room)).room s m ([.ref (b 0), .int p0, .int p1, .int p2] : List Value).toArray below meth c H locs 0 0 (MQ below (kI (dC, dI) .int (res.1) (wMo cJ cZ b mce mfr mun mbe men mov msp mwb mwe mwi mac mre mkn (res.2)) A) ([.ref (b 0), .int p0, .int p1, .int p2] : List Value).toArray s 0 0 A) (F0 m 29 ls [.int y0, .ref (b 0)]) := by
    intro mce mfr mun mbe men mov msp mwb mwe mwi mac mre mkn mth x1 x2 x3 y0 H locs hP hD hS ls hl h
    have h := f_X3_apart_29_e.symm.trans h
    refine lv_iconst (v := 1) hx hb dX3_apart_29 (by decide) ?_
    refine lv_goto (tgt := 34) hx hb dX3_apart_30 (by decide) ?_
    exact J34 mce mfr mun mbe men mov msp mwb mwe mwi mac mre mkn mth x1 x2 x3 1 y0 _ _ hP hD hS ls (lv_sub hl [0, 1, 2, 3] rfl) h
  have J20 : ∀ (mce : Nat → Int64) (mfr : Int64) (mun : Int64) (mbe : Nat → Int64) (men : Nat → Int64) (mov : Nat → Int32) (msp : Int32) (mwb : Nat → Int64) (mwe : Nat → Int64) (mwi : Int32) (mac : Int32) (mre : Int32) (mkn : Int32) (mth : Int32) (x1 : Int32) (x2 : Int32) (x3 : Int32) (y0 : Int32) (H : Heap) (locs : List Loc), va_P (dC, dI) vwCl (wMo cJ cZ b mce mfr mun mbe men mov msp mwb mwe mwi mac mre mkn mth) H → va_D A (wMo cJ cZ b mce mfr mun mbe men mov msp mwb mwe mwi mac mre mkn mth) → va_S A s.heap H locs → ∀ (ls : Array Slot), lv_has ls 4 [(0, .ref (b 0)), (1, .int x1), (2, .int x2), (3, .int x3)] → f_X3_apart_20 mce x1 x2 x3 y0 = some res → W p l e (headSpec wsX3_apart ({ frames := 3, cells := 0, slots := 0, locals := 64 } : Room)).room s m ([.ref (b 0), .int p0, .int p1, .int p2] : List Value).toArray below meth c H locs 0 0 (MQ below (kI (dC, dI) .int (res.1) (wMo cJ cZ b mce mfr mun mbe men mov msp mwb mwe mwi mac mre mkn (res.2)) A) ([.ref (b 0), .int p0, .int p1, .int p2] : List Value).toArray s 0 0 A) (F0 m 20 ls [.int y0, .ref (b 0)]) := by
    intro mce mfr mun mbe men mov msp mwb mwe mwi mac mre mkn mth x1 x2 x3 y0 H locs hP hD hS ls hl h
    have h := f_X3_apart_20_e.symm.trans h
    refine lv_iload_n hx hb dX3_apart_20 rfl (lv_at hl 3 rfl) ?_
    refine lv_if_lt (tgt := 29) hx hb dX3_apart_21 (by decide) (fun c1 => ?_) (fun c1 => ?_)
    · have h := g_t c1 h
      exact J29 mce mfr mun mbe men mov msp mwb mwe mwi mac mre mkn mth x1 x2 x3 y0 _ _ hP hD hS ls (lv_sub hl [0, 1, 2, 3] rfl) h
    · have h := g_f c1 h
      refine lv_iload_n hx hb dX3_apart_24 rfl (lv_at hl 3 rfl) ?_
      refine lv_iconst (v := 1) hx hb dX3_apart_25 (by decide) ?_
      refine lv_icmp_le (tgt := 33) hx hb dX3_apart_26 (by decide) (fun c2 => ?_) (fun c2 => ?_)
      · have h := g_t c2 h
        refine lv_iconst (v := 0) hx hb dX3_apart_33 (by decide) ?_
        exact J34 mce mfr mun mbe men mov msp mwb mwe mwi mac mre mkn mth x1 x2 x3 0 y0 _ _ hP hD hS ls (lv_sub hl [0, 1, 2, 3] rfl) h
      · have h := g_f c2 h
        exact J29 mce mfr mun mbe men mov msp mwb mwe mwi mac mre mkn mth x1 x2 x3 y0 _ _ hP hD hS ls (lv_sub hl [0, 1, 2, 3] rfl) h
  have J15 : ∀ (mce : Nat → Int64) (mfr : Int64) (mun : Int64) (mbe : Nat → Int64) (men : Nat → Int64) (mov : Nat → Int32) (msp : Int32) (mwb : Nat → Int64) (mwe : Nat → Int64) (mwi : Int32) (mac : Int32) (mre : Int32) (mkn : Int32) (mth : Int32) (x1 : Int32) (x2 : Int32) (x3 : Int32) (H : Heap) (locs : List Loc), va_P (dC, dI) vwCl (wMo cJ cZ b mce mfr mun mbe men mov msp mwb mwe mwi mac mre mkn mth) H → va_D A (wMo cJ cZ b mce mfr mun mbe men mov msp mwb mwe mwi mac mre mkn mth) → va_S A s.heap H locs → ∀ (ls : Array Slot), lv_has ls 4 [(0, .ref (b 0)), (1, .int x1), (2, .int x2), (3, .int x3)] → f_X3_apart_15 mce x1 x2 x3 = some res → W p l e (headSpec wsX3_apart ({ frames := 3, cells := 0, slots := 0, locals := 64 } : Room)).room s m ([.ref (b 0), .int p0, .int p1, .int p2] : List Value).toArray below meth c H locs 0 0 (MQ below (kI (dC, dI) .int (res.1) (wMo cJ cZ b mce mfr mun mbe men mov msp mwb mwe mwi mac mre mkn (res.2)) A) ([.ref (b 0), .int p0, .int p1, .int p2] : List Value).toArray s 0 0 A) (F0 m 15 ls [.ref (b 0)]) := by
    intro mce mfr mun mbe men mov msp mwb mwe mwi mac mre mkn mth x1 x2 x3 H locs hP hD hS ls hl h
    have h := f_X3_apart_15_e.symm.trans h
    refine lv_iconst (v := 1) hx hb dX3_apart_15 (by decide) ?_
    refine lv_goto (tgt := 20) hx hb dX3_apart_16 (by decide) ?_
    exact J20 mce mfr mun mbe men mov msp mwb mwe mwi mac mre mkn mth x1 x2 x3 1 _ _ hP hD hS ls (lv_sub hl [0, 1, 2, 3] rfl) h
  have hl := lv_entry ([.ref (b 0), .int p0, .int p1, .int p2]) (n := 4) (Nat.le_of_ble_eq_true rfl)
  rw [lg_entry_eq]
  generalize (lg_sl ([.ref (b 0), .int p0, .int p1, .int p2]) ++ List.replicate (4 - (lg_sl ([.ref (b 0), .int p0, .int p1, .int p2])).length) Slot.unset).toArray = ls at hl ⊢
  have hl : lv_has ls 4 [(0, .ref (b 0)), (1, .int p0), (2, .int p1), (3, .int p2)] := hl
  have h := f_X3_apart_e.symm.trans hf
  refine lv_aload_n hx hb dX3_apart_0 rfl (lv_at hl 0 rfl) ?_
  refine lv_iload_n hx hb dX3_apart_1 rfl (lv_at hl 1 rfl) ?_
  obtain ⟨r1, g1, h⟩ := g_b h
  refine kcall_i (wMo cJ cZ b mce mfr mun mbe men mov msp mwb mwe mwi mac mre mkn mth) (va_runS (As := [.int p0]) (rest := [.ref (b 0)]) ⟨hx, hb, hml, hown, hts⟩ (c_X3_is l dC dI cB cI cJ cZ  _  p0 r1 g1) (kcwS hts kw_1123 kv_X3_is rfl rfl ⟨(Nat.le_of_ble_eq_true rfl), (Nat.le_of_ble_eq_true rfl)⟩) (kpS (A := A) (kPnil) hK ((kDnil (A := A))) hG) rfl rfl hl.1 rfl (lv_room (Nat.le_of_ble_eq_true rfl)) dX3_apart_2 ⟨(Nat.le_of_ble_eq_true rfl), (Nat.le_of_ble_eq_true rfl)⟩) hP hD hS hA (kIT mk_25 0) (kIT mk_26 0) (km_T (m := mk_25) rfl rfl) (km_T (m := mk_25) rfl rfl) [((b 0), .inr (5, [.ref (b 1), .long mfr, .long mun, .ref (b 2), .ref (b 3), .ref (b 4), .int msp, .ref (b 5), .ref (b 6), .int mwi, .int mac, .int mre, .int mkn, .int mth])), ((b 1), .inl (cJ, 4, .inr (.inl mce))), ((b 2), .inl (cJ, 10, .inr (.inl mbe))), ((b 3), .inl (cJ, 10, .inr (.inl men))), ((b 4), .inl (cZ, 10, .inl mov)), ((b 5), .inl (cJ, 8, .inr (.inl mwb))), ((b 6), .inl (cJ, 8, .inr (.inl mwe)))] (km_T (m := mk_26) rfl rfl) (km_T (m := mk_26) rfl rfl) (km_cov (m := mk_25) (n := mk_26) rfl rfl) (km_dis (m := mk_25) (n := mk_26) rfl) rfl (fun H locs hP hD hS br1 => ?_)
  refine lv_if_eq (tgt := 15) hx hb dX3_apart_5 (by decide) (fun c2 => ?_) (fun c2 => ?_)
  · have h := g_t c2 h
    exact J15 mce mfr mun mbe men mov msp mwb mwe mwi mac mre mkn mth p0 p1 p2 _ _ hP hD hS ls (lv_sub hl [0, 1, 2, 3] rfl) h
  · have h := g_f c2 h
    refine lv_iload_n hx hb dX3_apart_8 rfl (lv_at hl 2 rfl) ?_
    obtain ⟨r3, g3, h⟩ := g_b h
    refine kcall_i (wMo cJ cZ b mce mfr mun mbe men mov msp mwb mwe mwi mac mre mkn mth) (va_runS (As := [.int p1]) (rest := [.ref (b 0)]) ⟨hx, hb, hml, hown, hts⟩ (c_X3_is l dC dI cB cI cJ cZ  _  p1 r3 g3) (kcwS hts kw_1123 kv_X3_is rfl rfl ⟨(Nat.le_of_ble_eq_true rfl), (Nat.le_of_ble_eq_true rfl)⟩) (kpS (A := A) (kPnil) hK ((kDnil (A := A))) hG) rfl rfl hl.1 rfl (lv_room (Nat.le_of_ble_eq_true rfl)) dX3_apart_9 ⟨(Nat.le_of_ble_eq_true rfl), (Nat.le_of_ble_eq_true rfl)⟩) hP hD hS hA (kIT mk_25 0) (kIT mk_26 0) (km_T (m := mk_25) rfl rfl) (km_T (m := mk_25) rfl rfl) [((b 0), .inr (5, [.ref (b 1), .long mfr, .long mun, .ref (b 2), .ref (b 3), .ref (b 4), .int msp, .ref (b 5), .ref (b 6), .int mwi, .int mac, .int mre, .int mkn, .int mth])), ((b 1), .inl (cJ, 4, .inr (.inl mce))), ((b 2), .inl (cJ, 10, .inr (.inl mbe))), ((b 3), .inl (cJ, 10, .inr (.inl men))), ((b 4), .inl (cZ, 10, .inl mov)), ((b 5), .inl (cJ, 8, .inr (.inl mwb))), ((b 6), .inl (cJ, 8, .inr (.inl mwe)))] (km_T (m := mk_26) rfl rfl) (km_T (m := mk_26) rfl rfl) (km_cov (m := mk_25) (n := mk_26) rfl rfl) (km_dis (m := mk_25) (n := mk_26) rfl) rfl (fun H locs hP hD hS br3 => ?_)
    refine lv_if_ne (tgt := 19) hx hb dX3_apart_12 (by decide) (fun c4 => ?_) (fun c4 => ?_)
    · have h := g_f c4 h
      refine lv_iconst (v := 0) hx hb dX3_apart_19 (by decide) ?_
      exact J20 mce mfr mun mbe men mov msp mwb mwe mwi mac mre mkn mth p0 p1 p2 0 _ _ hP hD hS ls (lv_sub hl [0, 1, 2, 3] rfl) h
    · have h := g_t c4 h
      exact J15 mce mfr mun mbe men mov msp mwb mwe mwi mac mre mkn mth p0 p1 p2 _ _ hP hD hS ls (lv_sub hl [0, 1, 2, 3] rfl) h
abbrev wsX3_calendar : List Cond := kWs yX3_calendar cX3_calendar 2 (some .int)
def f_X3_calendar_41 (mth : Int32) (x1 : Int32) (y0 : Int64) : Option ((Int32) × (Int32)) :=
  (f_X3_half y0 x1).bind fun r1 =>
  some (r1, mth)
theorem f_X3_calendar_41_e {mth : Int32} {x1 : Int32} {y0 : Int64} : f_X3_calendar_41 mth x1 y0 =
  (f_X3_half y0 x1).bind fun r1 =>
  some (r1, mth) := rfl
def f_X3_calendar_15 (mfr : Int64) (mun : Int64) (x1 : Int32) (y0 : Int32) : Option ((Int32) × (Int32)) :=
  (f_X3_isThrown_ y0).bind fun r1 =>
  if r1.1 = 0 then
    if 2 ≤ x1 then
      f_X3_calendar_41 r1.2 x1 mun
    else
      f_X3_calendar_41 r1.2 x1 mfr
  else
    some (0, r1.2)
theorem f_X3_calendar_15_e {mfr : Int64} {mun : Int64} {x1 : Int32} {y0 : Int32} : f_X3_calendar_15 mfr mun x1 y0 =
  (f_X3_isThrown_ y0).bind fun r1 =>
  if r1.1 = 0 then
    if 2 ≤ x1 then
      f_X3_calendar_41 r1.2 x1 mun
    else
      f_X3_calendar_41 r1.2 x1 mfr
  else
    some (0, r1.2) := rfl
def f_X3_calendar_10 (mfr : Int64) (mun : Int64) (x1 : Int32) : Option ((Int32) × (Int32)) :=
  f_X3_calendar_15 mfr mun x1 1
theorem f_X3_calendar_10_e {mfr : Int64} {mun : Int64} {x1 : Int32} : f_X3_calendar_10 mfr mun x1 =
  f_X3_calendar_15 mfr mun x1 1 := rfl
def f_X3_calendar (mfr : Int64) (mun : Int64) (p0 : Int32) : Option ((Int32) × (Int32)) :=
  if p0 < 0 then
    f_X3_calendar_10 mfr mun p0
  else
    if p0 ≤ 3 then
      f_X3_calendar_15 mfr mun p0 0
    else
      f_X3_calendar_10 mfr mun p0
theorem f_X3_calendar_e {mfr : Int64} {mun : Int64} {p0 : Int32} : f_X3_calendar mfr mun p0 = 
  if p0 < 0 then
    f_X3_calendar_10 mfr mun p0
  else
    if p0 ≤ 3 then
      f_X3_calendar_15 mfr mun p0 0
    else
      f_X3_calendar_10 mfr mun p0 := rfl
set_option maxHeartbeats 4000000 in
set_option maxRecDepth 100000 in
theorem c_X3_calendar (l : Launch) (dC : Nat → ClassId) (dI : Nat → Nat → Nat) (cB cI cJ cZ : ClassId) (b : Nat → Nat) (sz : Nat) (mce : Nat → Int64) (mfr : Int64) (mun : Int64) (mbe : Nat → Int64) (men : Nat → Int64) (mov : Nat → Int32) (msp : Int32) (mwb : Nat → Int64) (mwe : Nat → Int64) (mwi : Int32) (mac : Int32) (mre : Int32) (mkn : Int32) (mth : Int32) (p0 : Int32) (res : (Int32) × (Int32)) (hf : f_X3_calendar mfr mun p0 = some res) : Met l yX3_calendar wsX3_calendar ({ frames := 3, cells := 0, slots := 0, locals := 64 } : Room) (kPre (dC, dI) (kTy cB cI cJ cZ) [.ref (b 0), .int p0] sz (wMo cJ cZ b mce mfr mun mbe men mov msp mwb mwe mwi mac mre mkn mth)) (kI (dC, dI) .int (res.1) (wMo cJ cZ b mce mfr mun mbe men mov msp mwb mwe mwi mac mre mkn (res.2)) (va_A (wMo cJ cZ b mce mfr mun mbe men mov msp mwb mwe mwi mac mre mkn mth) sz)) 0 0 (va_A (wMo cJ cZ b mce mfr mun mbe men mov msp mwb mwe mwi mac mre mkn mth) sz) := by
  refine Met.ofW (cc := cX3_calendar) (maxL := 2) (ret := (some .int)) (by decide) rfl ?_
  intro p e s m args below meth c s₁ B hml hv
  obtain ⟨rfl, hsz, hP, hK, hD0, hG⟩ := hv
  have hx := B.exec
  have hb := B.bytes
  have hr := B.returns
  have hts := atoms_spec (ws := wsX3_calendar) B.pre
  have hown : s.vm.findClass RX3 = some m.cls := findClass_of_methodNamed B.named
  have hlocks := B.notSynchronized
  subst hsz
  have hD := hD0.self (sz := s.heap.size)
  generalize hAe : va_A (wMo cJ cZ b mce mfr mun mbe men mov msp mwb mwe mwi mac mre mkn mth) s.heap.size = A at hD ⊢
  have hA : ∀ q : Nat, s.heap.size ≤ q → A q := fun q h => by rw [← hAe]; exact Or.inr h
  have hS : va_S A s.heap s.heap [] := va_S.rf
  clear hAe
  have hw0 := hts (.fieldLink RX3 15 "SpanbookerModel" "until" "J") (List.mem_cons_of_mem _ kw_1074)
  have hw1 := hts (.fieldLink RX3 53 "SpanbookerModel" "from" "J") (List.mem_cons_of_mem _ kw_1073)
  have hiX3 : ∀ w ∈ u_ws RX3 TX3 14, w ∈ wsX3_calendar := fun w h => List.mem_cons_of_mem _ (ku_X3 w h)
  have J41 : ∀ (mce : Nat → Int64) (mfr : Int64) (mun : Int64) (mbe : Nat → Int64) (men : Nat → Int64) (mov : Nat → Int32) (msp : Int32) (mwb : Nat → Int64) (mwe : Nat → Int64) (mwi : Int32) (mac : Int32) (mre : Int32) (mkn : Int32) (mth : Int32) (x1 : Int32) (y0 : Int64) (H : Heap) (locs : List Loc), va_P (dC, dI) vwCl (wMo cJ cZ b mce mfr mun mbe men mov msp mwb mwe mwi mac mre mkn mth) H → va_D A (wMo cJ cZ b mce mfr mun mbe men mov msp mwb mwe mwi mac mre mkn mth) → va_S A s.heap H locs → ∀ (ls : Array Slot), lv_has ls 2 [(1, .int x1)] → f_X3_calendar_41 mth x1 y0 = some res → W p l e (headSpec wsX3_calendar ({ frames := 3, cells := 0, slots := 0, locals := 64 } : Room)).room s m ([.ref (b 0), .int p0] : List Value).toArray below meth c H locs 0 0 (MQ below (kI (dC, dI) .int (res.1) (wMo cJ cZ b mce mfr mun mbe men mov msp mwb mwe mwi mac mre mkn (res.2)) A) ([.ref (b 0), .int p0] : List Value).toArray s 0 0 A) (F0 m 41 ls [.long y0]) := by
    intro mce mfr mun mbe men mov msp mwb mwe mwi mac mre mkn mth x1 y0 H locs hP hD hS ls hl h
    have h := f_X3_calendar_41_e.symm.trans h
    refine lv_iload_n hx hb dX3_calendar_41 rfl (lv_at hl 0 rfl) ?_
    obtain ⟨r1, g1, h⟩ := g_b h
    refine kcall_i (wMo cJ cZ b mce mfr mun mbe men mov msp mwb mwe mwi mac mre mkn mth) (va_runS (As := [.long y0, .int x1]) (rest := []) ⟨hx, hb, hml, hown, hts⟩ (c_X3_half l dC dI cB cI cJ cZ  _  y0 x1 r1 g1) (kcwS hts kw_1317 kv_X3_half rfl rfl ⟨(Nat.le_of_ble_eq_true rfl), (Nat.le_of_ble_eq_true rfl)⟩) (kpS (A := A) (kPnil) hK ((kDnil (A := A))) hG) rfl rfl hl.1 rfl (lv_room (Nat.le_of_ble_eq_true rfl)) dX3_calendar_42 ⟨(Nat.le_of_ble_eq_true rfl), (Nat.le_of_ble_eq_true rfl)⟩) hP hD hS hA (kIT mk_25 0) (kIT mk_26 0) (km_T (m := mk_25) rfl rfl) (km_T (m := mk_25) rfl rfl) [((b 0), .inr (5, [.ref (b 1), .long mfr, .long mun, .ref (b 2), .ref (b 3), .ref (b 4), .int msp, .ref (b 5), .ref (b 6), .int mwi, .int mac, .int mre, .int mkn, .int mth])), ((b 1), .inl (cJ, 4, .inr (.inl mce))), ((b 2), .inl (cJ, 10, .inr (.inl mbe))), ((b 3), .inl (cJ, 10, .inr (.inl men))), ((b 4), .inl (cZ, 10, .inl mov)), ((b 5), .inl (cJ, 8, .inr (.inl mwb))), ((b 6), .inl (cJ, 8, .inr (.inl mwe)))] (km_T (m := mk_26) rfl rfl) (km_T (m := mk_26) rfl rfl) (km_cov (m := mk_25) (n := mk_26) rfl rfl) (km_dis (m := mk_25) (n := mk_26) rfl) rfl (fun H locs hP hD hS br1 => ?_)
    have h := Option.some.inj h
    subst h
    exact kret_i (v := r1) hx hb hr rfl hlocks hS hP dX3_calendar_45
  have J15 : ∀ (mce : Nat → Int64) (mfr : Int64) (mun : Int64) (mbe : Nat → Int64) (men : Nat → Int64) (mov : Nat → Int32) (msp : Int32) (mwb : Nat → Int64) (mwe : Nat → Int64) (mwi : Int32) (mac : Int32) (mre : Int32) (mkn : Int32) (mth : Int32) (x1 : Int32) (y0 : Int32) (H : Heap) (locs : List Loc), va_P (dC, dI) vwCl (wMo cJ cZ b mce mfr mun mbe men mov msp mwb mwe mwi mac mre mkn mth) H → va_D A (wMo cJ cZ b mce mfr mun mbe men mov msp mwb mwe mwi mac mre mkn mth) → va_S A s.heap H locs → ∀ (ls : Array Slot), lv_has ls 2 [(0, .ref (b 0)), (1, .int x1)] → f_X3_calendar_15 mfr mun x1 y0 = some res → W p l e (headSpec wsX3_calendar ({ frames := 3, cells := 0, slots := 0, locals := 64 } : Room)).room s m ([.ref (b 0), .int p0] : List Value).toArray below meth c H locs 0 0 (MQ below (kI (dC, dI) .int (res.1) (wMo cJ cZ b mce mfr mun mbe men mov msp mwb mwe mwi mac mre mkn (res.2)) A) ([.ref (b 0), .int p0] : List Value).toArray s 0 0 A) (F0 m 15 ls [.int y0, .ref (b 0)]) := by
    intro mce mfr mun mbe men mov msp mwb mwe mwi mac mre mkn mth x1 y0 H locs hP hD hS ls hl h
    have h := f_X3_calendar_15_e.symm.trans h
    obtain ⟨r1, g1, h⟩ := g_b h
    refine kcall_i (wMo cJ cZ b mce mfr mun mbe men mov msp mwb mwe mwi mac mre mkn r1.2) (va_runV (As := [.int y0]) (rest := []) ⟨hx, hb, hml, hown, hts⟩ (c_X3_isThrown_ l dC dI cB cI cJ cZ b _ mce mfr mun mbe men mov msp mwb mwe mwi mac mre mkn mth y0 r1 g1) (kcwV hts kw_1170 kv_X3_isThrown_ rfl rfl ⟨(Nat.le_of_ble_eq_true rfl), (Nat.le_of_ble_eq_true rfl)⟩) (kpV (A := A) (hP.sub (kIT mk_26 0) (km_f (m := mk_26) rfl rfl)) hK (hD.sub (kIT mk_26 0) (km_nd mk_26) (km_T (m := mk_26) rfl rfl)) hG (va_recv hK hP (ci := 5) (q0 := 0) rfl rfl)) rfl rfl hl.1 rfl (lv_room (Nat.le_of_ble_eq_true rfl)) dX3_calendar_15 ⟨(Nat.le_of_ble_eq_true rfl), (Nat.le_of_ble_eq_true rfl)⟩) hP hD hS hA (kIT mk_26 0) (kIT mk_25 0) (km_T (m := mk_26) rfl rfl) (km_T (m := mk_26) rfl rfl) [] (km_T (m := mk_25) rfl rfl) (km_T (m := mk_25) rfl rfl) (km_cov (m := mk_26) (n := mk_25) rfl rfl) (km_dis (m := mk_26) (n := mk_25) rfl) rfl (fun H locs hP hD hS br1 => ?_)
    refine lv_if_eq (tgt := 25) hx hb dX3_calendar_18 (by decide) (fun c2 => ?_) (fun c2 => ?_)
    · have h := g_t c2 h
      refine lv_iload_n hx hb dX3_calendar_25 rfl (lv_at hl 1 rfl) ?_
      refine lv_iconst (v := 2) hx hb dX3_calendar_26 (by decide) ?_
      refine lv_icmp_ge (tgt := 37) hx hb dX3_calendar_27 (by decide) (fun c3 => ?_) (fun c3 => ?_)
      · have h := g_t c3 h
        refine lv_aload_n hx hb dX3_calendar_37 rfl (lv_at hl 0 rfl) ?_
        refine va_get (D := (dC, dI)) (ci := 5) (v := .long mun) (C := RX3) (T := TX3) (N := 14) hx hb hts hiX3 hown hK hP 0 rfl rfl 2 (by decide) hw0 (fun _ h9 => h9) rfl dX3_calendar_38 ?_
        exact J41 mce mfr mun mbe men mov msp mwb mwe mwi mac mre mkn r1.2 x1 mun _ _ hP hD hS ls (lv_sub hl [1] rfl) h
      · have h := g_f c3 h
        refine lv_aload_n hx hb dX3_calendar_30 rfl (lv_at hl 0 rfl) ?_
        refine va_get (D := (dC, dI)) (ci := 5) (v := .long mfr) (C := RX3) (T := TX3) (N := 14) hx hb hts hiX3 hown hK hP 0 rfl rfl 1 (by decide) hw1 (fun _ h9 => h9) rfl dX3_calendar_31 ?_
        refine lv_goto (tgt := 41) hx hb dX3_calendar_34 (by decide) ?_
        exact J41 mce mfr mun mbe men mov msp mwb mwe mwi mac mre mkn r1.2 x1 mfr _ _ hP hD hS ls (lv_sub hl [1] rfl) h
    · have h := g_f c2 h
      refine lv_iconst (v := 0) hx hb dX3_calendar_21 (by decide) ?_
      refine lv_goto (tgt := 45) hx hb dX3_calendar_22 (by decide) ?_
      have h := Option.some.inj h
      subst h
      exact kret_i (v := 0) hx hb hr rfl hlocks hS hP dX3_calendar_45
  have J10 : ∀ (mce : Nat → Int64) (mfr : Int64) (mun : Int64) (mbe : Nat → Int64) (men : Nat → Int64) (mov : Nat → Int32) (msp : Int32) (mwb : Nat → Int64) (mwe : Nat → Int64) (mwi : Int32) (mac : Int32) (mre : Int32) (mkn : Int32) (mth : Int32) (x1 : Int32) (H : Heap) (locs : List Loc), va_P (dC, dI) vwCl (wMo cJ cZ b mce mfr mun mbe men mov msp mwb mwe mwi mac mre mkn mth) H → va_D A (wMo cJ cZ b mce mfr mun mbe men mov msp mwb mwe mwi mac mre mkn mth) → va_S A s.heap H locs → ∀ (ls : Array Slot), lv_has ls 2 [(0, .ref (b 0)), (1, .int x1)] → f_X3_calendar_10 mfr mun x1 = some res → W p l e (headSpec wsX3_calendar ({ frames := 3, cells := 0, slots := 0, locals := 64 } : Room)).room s m ([.ref (b 0), .int p0] : List Value).toArray below meth c H locs 0 0 (MQ below (kI (dC, dI) .int (res.1) (wMo cJ cZ b mce mfr mun mbe men mov msp mwb mwe mwi mac mre mkn (res.2)) A) ([.ref (b 0), .int p0] : List Value).toArray s 0 0 A) (F0 m 10 ls [.ref (b 0)]) := by
    intro mce mfr mun mbe men mov msp mwb mwe mwi mac mre mkn mth x1 H locs hP hD hS ls hl h
    have h := f_X3_calendar_10_e.symm.trans h
    refine lv_iconst (v := 1) hx hb dX3_calendar_10 (by decide) ?_
    refine lv_goto (tgt := 15) hx hb dX3_calendar_11 (by decide) ?_
    exact J15 mce mfr mun mbe men mov msp mwb mwe mwi mac mre mkn mth x1 1 _ _ hP hD hS ls (lv_sub hl [0, 1] rfl) h
  have hl := lv_entry ([.ref (b 0), .int p0]) (n := 2) (Nat.le_of_ble_eq_true rfl)
  rw [lg_entry_eq]
  generalize (lg_sl ([.ref (b 0), .int p0]) ++ List.replicate (2 - (lg_sl ([.ref (b 0), .int p0])).length) Slot.unset).toArray = ls at hl ⊢
  have hl : lv_has ls 2 [(0, .ref (b 0)), (1, .int p0)] := hl
  have h := f_X3_calendar_e.symm.trans hf
  refine lv_aload_n hx hb dX3_calendar_0 rfl (lv_at hl 0 rfl) ?_
  refine lv_iload_n hx hb dX3_calendar_1 rfl (lv_at hl 1 rfl) ?_
  refine lv_if_lt (tgt := 10) hx hb dX3_calendar_2 (by decide) (fun c1 => ?_) (fun c1 => ?_)
  · have h := g_t c1 h
    exact J10 mce mfr mun mbe men mov msp mwb mwe mwi mac mre mkn mth p0 _ _ hP hD hS ls (lv_sub hl [0, 1] rfl) h
  · have h := g_f c1 h
    refine lv_iload_n hx hb dX3_calendar_5 rfl (lv_at hl 1 rfl) ?_
    refine lv_iconst (v := 3) hx hb dX3_calendar_6 (by decide) ?_
    refine lv_icmp_le (tgt := 14) hx hb dX3_calendar_7 (by decide) (fun c2 => ?_) (fun c2 => ?_)
    · have h := g_t c2 h
      refine lv_iconst (v := 0) hx hb dX3_calendar_14 (by decide) ?_
      exact J15 mce mfr mun mbe men mov msp mwb mwe mwi mac mre mkn mth p0 0 _ _ hP hD hS ls (lv_sub hl [0, 1] rfl) h
    · have h := g_f c2 h
      exact J10 mce mfr mun mbe men mov msp mwb mwe mwi mac mre mkn mth p0 _ _ hP hD hS ls (lv_sub hl [0, 1] rfl) h
abbrev wsX3_spans : List Cond := kWs yX3_spans cX3_spans 1 (some .int)
def f_X3_spans (msp : Int32) : Option ((Int32) × (Int32)) :=
  some (msp, 0)
theorem f_X3_spans_e {msp : Int32} : f_X3_spans msp = 
  some (msp, 0) := rfl
set_option maxHeartbeats 4000000 in
set_option maxRecDepth 100000 in
theorem c_X3_spans (l : Launch) (dC : Nat → ClassId) (dI : Nat → Nat → Nat) (cB cI cJ cZ : ClassId) (b : Nat → Nat) (sz : Nat) (mce : Nat → Int64) (mfr : Int64) (mun : Int64) (mbe : Nat → Int64) (men : Nat → Int64) (mov : Nat → Int32) (msp : Int32) (mwb : Nat → Int64) (mwe : Nat → Int64) (mwi : Int32) (mac : Int32) (mre : Int32) (mkn : Int32) (mth : Int32) (res : (Int32) × (Int32)) (hf : f_X3_spans msp = some res) : Met l yX3_spans wsX3_spans ({ frames := 0, cells := 0, slots := 0, locals := 0 } : Room) (kPre (dC, dI) (kTy cB cI cJ cZ) [.ref (b 0)] sz (wMo cJ cZ b mce mfr mun mbe men mov msp mwb mwe mwi mac mre mkn mth)) (kI (dC, dI) .int (res.1) (wMo cJ cZ b mce mfr mun mbe men mov msp mwb mwe mwi mac mre mkn (res.2)) (va_A (wMo cJ cZ b mce mfr mun mbe men mov msp mwb mwe mwi mac mre mkn mth) sz)) 0 0 (va_A (wMo cJ cZ b mce mfr mun mbe men mov msp mwb mwe mwi mac mre mkn mth) sz) := by
  refine Met.ofW (cc := cX3_spans) (maxL := 1) (ret := (some .int)) (by decide) rfl ?_
  intro p e s m args below meth c s₁ B hml hv
  obtain ⟨rfl, hsz, hP, hK, hD0, hG⟩ := hv
  have hx := B.exec
  have hb := B.bytes
  have hr := B.returns
  have hts := atoms_spec (ws := wsX3_spans) B.pre
  have hown : s.vm.findClass RX3 = some m.cls := findClass_of_methodNamed B.named
  have hlocks := B.notSynchronized
  subst hsz
  have hD := hD0.self (sz := s.heap.size)
  generalize hAe : va_A (wMo cJ cZ b mce mfr mun mbe men mov msp mwb mwe mwi mac mre mkn mth) s.heap.size = A at hD ⊢
  have hA : ∀ q : Nat, s.heap.size ≤ q → A q := fun q h => by rw [← hAe]; exact Or.inr h
  have hS : va_S A s.heap s.heap [] := va_S.rf
  clear hAe
  have hw0 := hts (.fieldLink RX3 35 "SpanbookerModel" "thrown" "I") (List.mem_cons_of_mem _ kw_1085)
  have hw1 := hts (.fieldLink RX3 56 "SpanbookerModel" "spans" "I") (List.mem_cons_of_mem _ kw_1078)
  have hiX3 : ∀ w ∈ u_ws RX3 TX3 14, w ∈ wsX3_spans := fun w h => List.mem_cons_of_mem _ (ku_X3 w h)
  have hl := lv_entry ([.ref (b 0)]) (n := 1) (Nat.le_of_ble_eq_true rfl)
  rw [lg_entry_eq]
  generalize (lg_sl ([.ref (b 0)]) ++ List.replicate (1 - (lg_sl ([.ref (b 0)])).length) Slot.unset).toArray = ls at hl ⊢
  have hl : lv_has ls 1 [(0, .ref (b 0))] := hl
  have h := f_X3_spans_e.symm.trans hf
  refine lv_aload_n hx hb dX3_spans_0 rfl (lv_at hl 0 rfl) ?_
  refine lv_iconst (v := 0) hx hb dX3_spans_1 (by decide) ?_
  refine va_put (D := (dC, dI)) (ci := 5) (v := .int 0) (ty := .int) (C := RX3) (T := TX3) (N := 14) hx hb hts hiX3 tyX3 tyX3_ok nmX3 hown hK hP hD hS 0 rfl rfl 13 (by decide) hw0 (fun _ h9 => h9) rfl (by decide +kernel) rfl rfl (Nat.le_of_ble_eq_true rfl) dX3_spans_2 (fun H locs hP hD hS => ?_)
  have hP : va_P (dC, dI) vwCl (wMo cJ cZ b mce mfr mun mbe men mov msp mwb mwe mwi mac mre mkn 0) H := hP
  have hD : va_D A (wMo cJ cZ b mce mfr mun mbe men mov msp mwb mwe mwi mac mre mkn 0) := hD
  refine lv_aload_n hx hb dX3_spans_5 rfl (lv_at hl 0 rfl) ?_
  refine va_get (D := (dC, dI)) (ci := 5) (v := .int msp) (C := RX3) (T := TX3) (N := 14) hx hb hts hiX3 hown hK hP 0 rfl rfl 6 (by decide) hw1 (fun _ h9 => h9) rfl dX3_spans_6 ?_
  have h := Option.some.inj h
  subst h
  exact kret_i (v := msp) hx hb hr rfl hlocks hS hP dX3_spans_9
abbrev wsX3_ofSpan : List Cond := kWs yX3_ofSpan cX3_ofSpan 3 (some .int)
def f_X3_ofSpan_78 (mth : Int32) (x2 : Int32) (y0 : Int64) : Option ((Int32) × (Int32)) :=
  (f_X3_half y0 x2).bind fun r1 =>
  some (r1, mth)
theorem f_X3_ofSpan_78_e {mth : Int32} {x2 : Int32} {y0 : Int64} : f_X3_ofSpan_78 mth x2 y0 =
  (f_X3_half y0 x2).bind fun r1 =>
  some (r1, mth) := rfl
def f_X3_ofSpan_28 (mbe : Nat → Int64) (men : Nat → Int64) (mov : Nat → Int32) (x1 : Int32) (x2 : Int32) (y0 : Int32) (y1 : Int32) : Option ((Int32) × (Int32)) :=
  (f_X3_isThrown y1 y0).bind fun r1 =>
  if r1.1 = 0 then
    if x2 = 4 then
      if ix x1 10 then
        if (mov x1.toNatClampNeg) = 0 then
          some (0, r1.2)
        else
          some (1, r1.2)
      else none
    else
      if 2 ≤ x2 then
        if ix x1 10 then
          f_X3_ofSpan_78 r1.2 x2 (men x1.toNatClampNeg)
        else none
      else
        if ix x1 10 then
          f_X3_ofSpan_78 r1.2 x2 (mbe x1.toNatClampNeg)
        else none
  else
    some (0, r1.2)
theorem f_X3_ofSpan_28_e {mbe : Nat → Int64} {men : Nat → Int64} {mov : Nat → Int32} {x1 : Int32} {x2 : Int32} {y0 : Int32} {y1 : Int32} : f_X3_ofSpan_28 mbe men mov x1 x2 y0 y1 =
  (f_X3_isThrown y1 y0).bind fun r1 =>
  if r1.1 = 0 then
    if x2 = 4 then
      if ix x1 10 then
        if (mov x1.toNatClampNeg) = 0 then
          some (0, r1.2)
        else
          some (1, r1.2)
      else none
    else
      if 2 ≤ x2 then
        if ix x1 10 then
          f_X3_ofSpan_78 r1.2 x2 (men x1.toNatClampNeg)
        else none
      else
        if ix x1 10 then
          f_X3_ofSpan_78 r1.2 x2 (mbe x1.toNatClampNeg)
        else none
  else
    some (0, r1.2) := rfl
def f_X3_ofSpan_23 (mbe : Nat → Int64) (men : Nat → Int64) (mov : Nat → Int32) (x1 : Int32) (x2 : Int32) (y0 : Int32) : Option ((Int32) × (Int32)) :=
  f_X3_ofSpan_28 mbe men mov x1 x2 1 y0
theorem f_X3_ofSpan_23_e {mbe : Nat → Int64} {men : Nat → Int64} {mov : Nat → Int32} {x1 : Int32} {x2 : Int32} {y0 : Int32} : f_X3_ofSpan_23 mbe men mov x1 x2 y0 =
  f_X3_ofSpan_28 mbe men mov x1 x2 1 y0 := rfl
def f_X3_ofSpan_14 (mbe : Nat → Int64) (men : Nat → Int64) (mov : Nat → Int32) (x1 : Int32) (x2 : Int32) (y0 : Int32) : Option ((Int32) × (Int32)) :=
  if x2 < 0 then
    f_X3_ofSpan_23 mbe men mov x1 x2 y0
  else
    if x2 ≤ 4 then
      f_X3_ofSpan_28 mbe men mov x1 x2 0 y0
    else
      f_X3_ofSpan_23 mbe men mov x1 x2 y0
theorem f_X3_ofSpan_14_e {mbe : Nat → Int64} {men : Nat → Int64} {mov : Nat → Int32} {x1 : Int32} {x2 : Int32} {y0 : Int32} : f_X3_ofSpan_14 mbe men mov x1 x2 y0 =
  if x2 < 0 then
    f_X3_ofSpan_23 mbe men mov x1 x2 y0
  else
    if x2 ≤ 4 then
      f_X3_ofSpan_28 mbe men mov x1 x2 0 y0
    else
      f_X3_ofSpan_23 mbe men mov x1 x2 y0 := rfl
def f_X3_ofSpan (mbe : Nat → Int64) (men : Nat → Int64) (mov : Nat → Int32) (msp : Int32) (p0 : Int32) (p1 : Int32) : Option ((Int32) × (Int32)) :=
  (f_X3_isSpan msp p0).bind fun r1 =>
  if r1 = 0 then
    f_X3_ofSpan_14 mbe men mov p0 p1 1
  else
    f_X3_ofSpan_14 mbe men mov p0 p1 0
theorem f_X3_ofSpan_e {mbe : Nat → Int64} {men : Nat → Int64} {mov : Nat → Int32} {msp : Int32} {p0 : Int32} {p1 : Int32} : f_X3_ofSpan mbe men mov msp p0 p1 = 
  (f_X3_isSpan msp p0).bind fun r1 =>
  if r1 = 0 then
    f_X3_ofSpan_14 mbe men mov p0 p1 1
  else
    f_X3_ofSpan_14 mbe men mov p0 p1 0 := rfl
set_option maxHeartbeats 4000000 in
set_option maxRecDepth 100000 in
theorem c_X3_ofSpan (l : Launch) (dC : Nat → ClassId) (dI : Nat → Nat → Nat) (cB cI cJ cZ : ClassId) (b : Nat → Nat) (sz : Nat) (mce : Nat → Int64) (mfr : Int64) (mun : Int64) (mbe : Nat → Int64) (men : Nat → Int64) (mov : Nat → Int32) (msp : Int32) (mwb : Nat → Int64) (mwe : Nat → Int64) (mwi : Int32) (mac : Int32) (mre : Int32) (mkn : Int32) (mth : Int32) (p0 : Int32) (p1 : Int32) (res : (Int32) × (Int32)) (hf : f_X3_ofSpan mbe men mov msp p0 p1 = some res) : Met l yX3_ofSpan wsX3_ofSpan ({ frames := 3, cells := 0, slots := 0, locals := 64 } : Room) (kPre (dC, dI) (kTy cB cI cJ cZ) [.ref (b 0), .int p0, .int p1] sz (wMo cJ cZ b mce mfr mun mbe men mov msp mwb mwe mwi mac mre mkn mth)) (kI (dC, dI) .int (res.1) (wMo cJ cZ b mce mfr mun mbe men mov msp mwb mwe mwi mac mre mkn (res.2)) (va_A (wMo cJ cZ b mce mfr mun mbe men mov msp mwb mwe mwi mac mre mkn mth) sz)) 0 0 (va_A (wMo cJ cZ b mce mfr mun mbe men mov msp mwb mwe mwi mac mre mkn mth) sz) := by
  refine Met.ofW (cc := cX3_ofSpan) (maxL := 3) (ret := (some .int)) (by decide) rfl ?_
  intro p e s m args below meth c s₁ B hml hv
  obtain ⟨rfl, hsz, hP, hK, hD0, hG⟩ := hv
  have hx := B.exec
  have hb := B.bytes
  have hr := B.returns
  have hts := atoms_spec (ws := wsX3_ofSpan) B.pre
  have hown : s.vm.findClass RX3 = some m.cls := findClass_of_methodNamed B.named
  have hlocks := B.notSynchronized
  subst hsz
  have hD := hD0.self (sz := s.heap.size)
  generalize hAe : va_A (wMo cJ cZ b mce mfr mun mbe men mov msp mwb mwe mwi mac mre mkn mth) s.heap.size = A at hD ⊢
  have hA : ∀ q : Nat, s.heap.size ≤ q → A q := fun q h => by rw [← hAe]; exact Or.inr h
  have hS : va_S A s.heap s.heap [] := va_S.rf
  clear hAe
  have hw0 := hts (.fieldLink RX3 22 "SpanbookerModel" "ends" "[J") (List.mem_cons_of_mem _ kw_1076)
  have hw1 := hts (.fieldLink RX3 19 "SpanbookerModel" "begins" "[J") (List.mem_cons_of_mem _ kw_1075)
  have hw2 := hts (.fieldLink RX3 25 "SpanbookerModel" "over" "[Z") (List.mem_cons_of_mem _ kw_1077)
  have hiX3 : ∀ w ∈ u_ws RX3 TX3 14, w ∈ wsX3_ofSpan := fun w h => List.mem_cons_of_mem _ (ku_X3 w h)
  have J78 : ∀ (mce : Nat → Int64) (mfr : Int64) (mun : Int64) (mbe : Nat → Int64) (men : Nat → Int64) (mov : Nat → Int32) (msp : Int32) (mwb : Nat → Int64) (mwe : Nat → Int64) (mwi : Int32) (mac : Int32) (mre : Int32) (mkn : Int32) (mth : Int32) (x2 : Int32) (y0 : Int64) (H : Heap) (locs : List Loc), va_P (dC, dI) vwCl (wMo cJ cZ b mce mfr mun mbe men mov msp mwb mwe mwi mac mre mkn mth) H → va_D A (wMo cJ cZ b mce mfr mun mbe men mov msp mwb mwe mwi mac mre mkn mth) → va_S A s.heap H locs → ∀ (ls : Array Slot), lv_has ls 3 [(2, .int x2)] → f_X3_ofSpan_78 mth x2 y0 = some res → W p l e (headSpec wsX3_ofSpan ({ frames := 3, cells := 0, slots := 0, locals := 64 } : Room)).room s m ([.ref (b 0), .int p0, .int p1] : List Value).toArray below meth c H locs 0 0 (MQ below (kI (dC, dI) .int (res.1) (wMo cJ cZ b mce mfr mun mbe men mov msp mwb mwe mwi mac mre mkn (res.2)) A) ([.ref (b 0), .int p0, .int p1] : List Value).toArray s 0 0 A) (F0 m 78 ls [.long y0]) := by
    intro mce mfr mun mbe men mov msp mwb mwe mwi mac mre mkn mth x2 y0 H locs hP hD hS ls hl h
    have h := f_X3_ofSpan_78_e.symm.trans h
    refine lv_iload_n hx hb dX3_ofSpan_78 rfl (lv_at hl 0 rfl) ?_
    obtain ⟨r1, g1, h⟩ := g_b h
    refine kcall_i (wMo cJ cZ b mce mfr mun mbe men mov msp mwb mwe mwi mac mre mkn mth) (va_runS (As := [.long y0, .int x2]) (rest := []) ⟨hx, hb, hml, hown, hts⟩ (c_X3_half l dC dI cB cI cJ cZ  _  y0 x2 r1 g1) (kcwS hts kw_1317 kv_X3_half rfl rfl ⟨(Nat.le_of_ble_eq_true rfl), (Nat.le_of_ble_eq_true rfl)⟩) (kpS (A := A) (kPnil) hK ((kDnil (A := A))) hG) rfl rfl hl.1 rfl (lv_room (Nat.le_of_ble_eq_true rfl)) dX3_ofSpan_79 ⟨(Nat.le_of_ble_eq_true rfl), (Nat.le_of_ble_eq_true rfl)⟩) hP hD hS hA (kIT mk_25 0) (kIT mk_26 0) (km_T (m := mk_25) rfl rfl) (km_T (m := mk_25) rfl rfl) [((b 0), .inr (5, [.ref (b 1), .long mfr, .long mun, .ref (b 2), .ref (b 3), .ref (b 4), .int msp, .ref (b 5), .ref (b 6), .int mwi, .int mac, .int mre, .int mkn, .int mth])), ((b 1), .inl (cJ, 4, .inr (.inl mce))), ((b 2), .inl (cJ, 10, .inr (.inl mbe))), ((b 3), .inl (cJ, 10, .inr (.inl men))), ((b 4), .inl (cZ, 10, .inl mov)), ((b 5), .inl (cJ, 8, .inr (.inl mwb))), ((b 6), .inl (cJ, 8, .inr (.inl mwe)))] (km_T (m := mk_26) rfl rfl) (km_T (m := mk_26) rfl rfl) (km_cov (m := mk_25) (n := mk_26) rfl rfl) (km_dis (m := mk_25) (n := mk_26) rfl) rfl (fun H locs hP hD hS br1 => ?_)
    have h := Option.some.inj h
    subst h
    exact kret_i (v := r1) hx hb hr rfl hlocks hS hP dX3_ofSpan_82
  have J28 : ∀ (mce : Nat → Int64) (mfr : Int64) (mun : Int64) (mbe : Nat → Int64) (men : Nat → Int64) (mov : Nat → Int32) (msp : Int32) (mwb : Nat → Int64) (mwe : Nat → Int64) (mwi : Int32) (mac : Int32) (mre : Int32) (mkn : Int32) (mth : Int32) (x1 : Int32) (x2 : Int32) (y0 : Int32) (y1 : Int32) (H : Heap) (locs : List Loc), va_P (dC, dI) vwCl (wMo cJ cZ b mce mfr mun mbe men mov msp mwb mwe mwi mac mre mkn mth) H → va_D A (wMo cJ cZ b mce mfr mun mbe men mov msp mwb mwe mwi mac mre mkn mth) → va_S A s.heap H locs → ∀ (ls : Array Slot), lv_has ls 3 [(0, .ref (b 0)), (1, .int x1), (2, .int x2)] → f_X3_ofSpan_28 mbe men mov x1 x2 y0 y1 = some res → W p l e (headSpec wsX3_ofSpan ({ frames := 3, cells := 0, slots := 0, locals := 64 } : Room)).room s m ([.ref (b 0), .int p0, .int p1] : List Value).toArray below meth c H locs 0 0 (MQ below (kI (dC, dI) .int (res.1) (wMo cJ cZ b mce mfr mun mbe men mov msp mwb mwe mwi mac mre mkn (res.2)) A) ([.ref (b 0), .int p0, .int p1] : List Value).toArray s 0 0 A) (F0 m 28 ls [.int y0, .int y1, .ref (b 0)]) := by
    intro mce mfr mun mbe men mov msp mwb mwe mwi mac mre mkn mth x1 x2 y0 y1 H locs hP hD hS ls hl h
    have h := f_X3_ofSpan_28_e.symm.trans h
    obtain ⟨r1, g1, h⟩ := g_b h
    refine kcall_i (wMo cJ cZ b mce mfr mun mbe men mov msp mwb mwe mwi mac mre mkn r1.2) (va_runV (As := [.int y1, .int y0]) (rest := []) ⟨hx, hb, hml, hown, hts⟩ (c_X3_isThrown l dC dI cB cI cJ cZ b _ mce mfr mun mbe men mov msp mwb mwe mwi mac mre mkn mth y1 y0 r1 g1) (kcwV hts kw_1130 kv_X3_isThrown rfl rfl ⟨(Nat.le_of_ble_eq_true rfl), (Nat.le_of_ble_eq_true rfl)⟩) (kpV (A := A) (hP.sub (kIT mk_26 0) (km_f (m := mk_26) rfl rfl)) hK (hD.sub (kIT mk_26 0) (km_nd mk_26) (km_T (m := mk_26) rfl rfl)) hG (va_recv hK hP (ci := 5) (q0 := 0) rfl rfl)) rfl rfl hl.1 rfl (lv_room (Nat.le_of_ble_eq_true rfl)) dX3_ofSpan_28 ⟨(Nat.le_of_ble_eq_true rfl), (Nat.le_of_ble_eq_true rfl)⟩) hP hD hS hA (kIT mk_26 0) (kIT mk_25 0) (km_T (m := mk_26) rfl rfl) (km_T (m := mk_26) rfl rfl) [] (km_T (m := mk_25) rfl rfl) (km_T (m := mk_25) rfl rfl) (km_cov (m := mk_26) (n := mk_25) rfl rfl) (km_dis (m := mk_26) (n := mk_25) rfl) rfl (fun H locs hP hD hS br1 => ?_)
    refine lv_if_eq (tgt := 36) hx hb dX3_ofSpan_31 (by decide) (fun c2 => ?_) (fun c2 => ?_)
    · have h := g_t c2 h
      refine lv_iload_n hx hb dX3_ofSpan_36 rfl (lv_at hl 2 rfl) ?_
      refine lv_iconst (v := 4) hx hb dX3_ofSpan_37 (by decide) ?_
      refine lv_icmp_ne (tgt := 58) hx hb dX3_ofSpan_38 (by decide) (fun c3 => ?_) (fun c3 => ?_)
      · have h := g_f c3 h
        refine lv_iload_n hx hb dX3_ofSpan_58 rfl (lv_at hl 2 rfl) ?_
        refine lv_iconst (v := 2) hx hb dX3_ofSpan_59 (by decide) ?_
        refine lv_icmp_ge (tgt := 72) hx hb dX3_ofSpan_60 (by decide) (fun c4 => ?_) (fun c4 => ?_)
        · have h := g_t c4 h
          refine lv_aload_n hx hb dX3_ofSpan_72 rfl (lv_at hl 0 rfl) ?_
          refine va_get (D := (dC, dI)) (ci := 5) (v := .ref (b 3)) (C := RX3) (T := TX3) (N := 14) hx hb hts hiX3 hown hK hP 0 rfl rfl 4 (by decide) hw0 (fun _ h9 => h9) rfl dX3_ofSpan_73 ?_
          refine lv_iload_n hx hb dX3_ofSpan_76 rfl (lv_at hl 1 rfl) ?_
          obtain ⟨z4, h⟩ := g_if h
          refine va_lald hx hb hK hP 3 2 rfl rfl (ix_in z4) dX3_ofSpan_77 ?_
          exact J78 mce mfr mun mbe men mov msp mwb mwe mwi mac mre mkn r1.2 x2 (men x1.toNatClampNeg) _ _ hP hD hS ls (lv_sub hl [2] rfl) h
        · have h := g_f c4 h
          refine lv_aload_n hx hb dX3_ofSpan_63 rfl (lv_at hl 0 rfl) ?_
          refine va_get (D := (dC, dI)) (ci := 5) (v := .ref (b 2)) (C := RX3) (T := TX3) (N := 14) hx hb hts hiX3 hown hK hP 0 rfl rfl 3 (by decide) hw1 (fun _ h9 => h9) rfl dX3_ofSpan_64 ?_
          refine lv_iload_n hx hb dX3_ofSpan_67 rfl (lv_at hl 1 rfl) ?_
          obtain ⟨z4, h⟩ := g_if h
          refine va_lald hx hb hK hP 2 2 rfl rfl (ix_in z4) dX3_ofSpan_68 ?_
          refine lv_goto (tgt := 78) hx hb dX3_ofSpan_69 (by decide) ?_
          exact J78 mce mfr mun mbe men mov msp mwb mwe mwi mac mre mkn r1.2 x2 (mbe x1.toNatClampNeg) _ _ hP hD hS ls (lv_sub hl [2] rfl) h
      · have h := g_t c3 h
        refine lv_aload_n hx hb dX3_ofSpan_41 rfl (lv_at hl 0 rfl) ?_
        refine va_get (D := (dC, dI)) (ci := 5) (v := .ref (b 4)) (C := RX3) (T := TX3) (N := 14) hx hb hts hiX3 hown hK hP 0 rfl rfl 5 (by decide) hw2 (fun _ h9 => h9) rfl dX3_ofSpan_42 ?_
        refine lv_iload_n hx hb dX3_ofSpan_45 rfl (lv_at hl 1 rfl) ?_
        obtain ⟨z3, h⟩ := g_if h
        refine va_zald hx hb hK hP 4 3 rfl rfl (ix_in z3) dX3_ofSpan_46 ?_
        refine lv_if_eq (tgt := 54) hx hb dX3_ofSpan_47 (by decide) (fun c5 => ?_) (fun c5 => ?_)
        · have h := g_t c5 h
          refine lv_iconst (v := 0) hx hb dX3_ofSpan_54 (by decide) ?_
          refine lv_goto (tgt := 82) hx hb dX3_ofSpan_55 (by decide) ?_
          have h := Option.some.inj h
          subst h
          exact kret_i (v := 0) hx hb hr rfl hlocks hS hP dX3_ofSpan_82
        · have h := g_f c5 h
          refine lv_iconst (v := 1) hx hb dX3_ofSpan_50 (by decide) ?_
          refine lv_goto (tgt := 82) hx hb dX3_ofSpan_51 (by decide) ?_
          have h := Option.some.inj h
          subst h
          exact kret_i (v := 1) hx hb hr rfl hlocks hS hP dX3_ofSpan_82
    · have h := g_f c2 h
      refine lv_iconst (v := 0) hx hb dX3_ofSpan_34 (by decide) ?_
      have h := Option.some.inj h
      subst h
      exact kret_i (v := 0) hx hb hr rfl hlocks hS hP dX3_ofSpan_35
  have J23 : ∀ (mce : Nat → Int64) (mfr : Int64) (mun : Int64) (mbe : Nat → Int64) (men : Nat → Int64) (mov : Nat → Int32) (msp : Int32) (mwb : Nat → Int64) (mwe : Nat → Int64) (mwi : Int32) (mac : Int32) (mre : Int32) (mkn : Int32) (mth : Int32) (x1 : Int32) (x2 : Int32) (y0 : Int32) (H : Heap) (locs : List Loc), va_P (dC, dI) vwCl (wMo cJ cZ b mce mfr mun mbe men mov msp mwb mwe mwi mac mre mkn mth) H → va_D A (wMo cJ cZ b mce mfr mun mbe men mov msp mwb mwe mwi mac mre mkn mth) → va_S A s.heap H locs → ∀ (ls : Array Slot), lv_has ls 3 [(0, .ref (b 0)), (1, .int x1), (2, .int x2)] → f_X3_ofSpan_23 mbe men mov x1 x2 y0 = some res → W p l e (headSpec wsX3_ofSpan ({ frames := 3, cells := 0, slots := 0, locals := 64 } : Room)).room s m ([.ref (b 0), .int p0, .int p1] : List Value).toArray below meth c H locs 0 0 (MQ below (kI (dC, dI) .int (res.1) (wMo cJ cZ b mce mfr mun mbe men mov msp mwb mwe mwi mac mre mkn (res.2)) A) ([.ref (b 0), .int p0, .int p1] : List Value).toArray s 0 0 A) (F0 m 23 ls [.int y0, .ref (b 0)]) := by
    intro mce mfr mun mbe men mov msp mwb mwe mwi mac mre mkn mth x1 x2 y0 H locs hP hD hS ls hl h
    have h := f_X3_ofSpan_23_e.symm.trans h
    refine lv_iconst (v := 1) hx hb dX3_ofSpan_23 (by decide) ?_
    refine lv_goto (tgt := 28) hx hb dX3_ofSpan_24 (by decide) ?_
    exact J28 mce mfr mun mbe men mov msp mwb mwe mwi mac mre mkn mth x1 x2 1 y0 _ _ hP hD hS ls (lv_sub hl [0, 1, 2] rfl) h
  have J14 : ∀ (mce : Nat → Int64) (mfr : Int64) (mun : Int64) (mbe : Nat → Int64) (men : Nat → Int64) (mov : Nat → Int32) (msp : Int32) (mwb : Nat → Int64) (mwe : Nat → Int64) (mwi : Int32) (mac : Int32) (mre : Int32) (mkn : Int32) (mth : Int32) (x1 : Int32) (x2 : Int32) (y0 : Int32) (H : Heap) (locs : List Loc), va_P (dC, dI) vwCl (wMo cJ cZ b mce mfr mun mbe men mov msp mwb mwe mwi mac mre mkn mth) H → va_D A (wMo cJ cZ b mce mfr mun mbe men mov msp mwb mwe mwi mac mre mkn mth) → va_S A s.heap H locs → ∀ (ls : Array Slot), lv_has ls 3 [(0, .ref (b 0)), (1, .int x1), (2, .int x2)] → f_X3_ofSpan_14 mbe men mov x1 x2 y0 = some res → W p l e (headSpec wsX3_ofSpan ({ frames := 3, cells := 0, slots := 0, locals := 64 } : Room)).room s m ([.ref (b 0), .int p0, .int p1] : List Value).toArray below meth c H locs 0 0 (MQ below (kI (dC, dI) .int (res.1) (wMo cJ cZ b mce mfr mun mbe men mov msp mwb mwe mwi mac mre mkn (res.2)) A) ([.ref (b 0), .int p0, .int p1] : List Value).toArray s 0 0 A) (F0 m 14 ls [.int y0, .ref (b 0)]) := by
    intro mce mfr mun mbe men mov msp mwb mwe mwi mac mre mkn mth x1 x2 y0 H locs hP hD hS ls hl h
    have h := f_X3_ofSpan_14_e.symm.trans h
    refine lv_iload_n hx hb dX3_ofSpan_14 rfl (lv_at hl 2 rfl) ?_
    refine lv_if_lt (tgt := 23) hx hb dX3_ofSpan_15 (by decide) (fun c1 => ?_) (fun c1 => ?_)
    · have h := g_t c1 h
      exact J23 mce mfr mun mbe men mov msp mwb mwe mwi mac mre mkn mth x1 x2 y0 _ _ hP hD hS ls (lv_sub hl [0, 1, 2] rfl) h
    · have h := g_f c1 h
      refine lv_iload_n hx hb dX3_ofSpan_18 rfl (lv_at hl 2 rfl) ?_
      refine lv_iconst (v := 4) hx hb dX3_ofSpan_19 (by decide) ?_
      refine lv_icmp_le (tgt := 27) hx hb dX3_ofSpan_20 (by decide) (fun c2 => ?_) (fun c2 => ?_)
      · have h := g_t c2 h
        refine lv_iconst (v := 0) hx hb dX3_ofSpan_27 (by decide) ?_
        exact J28 mce mfr mun mbe men mov msp mwb mwe mwi mac mre mkn mth x1 x2 0 y0 _ _ hP hD hS ls (lv_sub hl [0, 1, 2] rfl) h
      · have h := g_f c2 h
        exact J23 mce mfr mun mbe men mov msp mwb mwe mwi mac mre mkn mth x1 x2 y0 _ _ hP hD hS ls (lv_sub hl [0, 1, 2] rfl) h
  have hl := lv_entry ([.ref (b 0), .int p0, .int p1]) (n := 3) (Nat.le_of_ble_eq_true rfl)
  rw [lg_entry_eq]
  generalize (lg_sl ([.ref (b 0), .int p0, .int p1]) ++ List.replicate (3 - (lg_sl ([.ref (b 0), .int p0, .int p1])).length) Slot.unset).toArray = ls at hl ⊢
  have hl : lv_has ls 3 [(0, .ref (b 0)), (1, .int p0), (2, .int p1)] := hl
  have h := f_X3_ofSpan_e.symm.trans hf
  refine lv_aload_n hx hb dX3_ofSpan_0 rfl (lv_at hl 0 rfl) ?_
  refine lv_aload_n hx hb dX3_ofSpan_1 rfl (lv_at hl 0 rfl) ?_
  refine lv_iload_n hx hb dX3_ofSpan_2 rfl (lv_at hl 1 rfl) ?_
  obtain ⟨r1, g1, h⟩ := g_b h
  refine kcall_i (wMo cJ cZ b mce mfr mun mbe men mov msp mwb mwe mwi mac mre mkn mth) (va_runV (As := [.int p0]) (rest := [.ref (b 0)]) ⟨hx, hb, hml, hown, hts⟩ (c_X3_isSpan l dC dI cB cI cJ cZ b _ mce mfr mun mbe men mov msp mwb mwe mwi mac mre mkn mth p0 r1 g1) (kcwV hts kw_1223 kv_X3_isSpan rfl rfl ⟨(Nat.le_of_ble_eq_true rfl), (Nat.le_of_ble_eq_true rfl)⟩) (kpV (A := A) (hP.sub (kIT mk_26 0) (km_f (m := mk_26) rfl rfl)) hK (hD.sub (kIT mk_26 0) (km_nd mk_26) (km_T (m := mk_26) rfl rfl)) hG (va_recv hK hP (ci := 5) (q0 := 0) rfl rfl)) rfl rfl hl.1 rfl (lv_room (Nat.le_of_ble_eq_true rfl)) dX3_ofSpan_3 ⟨(Nat.le_of_ble_eq_true rfl), (Nat.le_of_ble_eq_true rfl)⟩) hP hD hS hA (kIT mk_26 0) (kIT mk_25 0) (km_T (m := mk_26) rfl rfl) (km_T (m := mk_26) rfl rfl) [] (km_T (m := mk_25) rfl rfl) (km_T (m := mk_25) rfl rfl) (km_cov (m := mk_26) (n := mk_25) rfl rfl) (km_dis (m := mk_26) (n := mk_25) rfl) rfl (fun H locs hP hD hS br1 => ?_)
  refine lv_if_ne (tgt := 13) hx hb dX3_ofSpan_6 (by decide) (fun c2 => ?_) (fun c2 => ?_)
  · have h := g_f c2 h
    refine lv_iconst (v := 0) hx hb dX3_ofSpan_13 (by decide) ?_
    exact J14 mce mfr mun mbe men mov msp mwb mwe mwi mac mre mkn mth p0 p1 0 _ _ hP hD hS ls (lv_sub hl [0, 1, 2] rfl) h
  · have h := g_t c2 h
    refine lv_iconst (v := 1) hx hb dX3_ofSpan_9 (by decide) ?_
    refine lv_goto (tgt := 14) hx hb dX3_ofSpan_10 (by decide) ?_
    exact J14 mce mfr mun mbe men mov msp mwb mwe mwi mac mre mkn mth p0 p1 1 _ _ hP hD hS ls (lv_sub hl [0, 1, 2] rfl) h
abbrev wsX3_meets : List Cond := kWs yX3_meets cX3_meets 3 (some .boolean)
def f_X3_meets_22 (mbe : Nat → Int64) (men : Nat → Int64) (x1 : Int32) (x2 : Int32) (y0 : Int32) : Option ((Int32) × (Int32)) :=
  (f_X3_isThrown_ y0).bind fun r1 =>
  if r1.1 = 0 then
    if ix x1 10 then
      if ix x2 10 then
        (f_X3_meet (mbe x1.toNatClampNeg) (men x1.toNatClampNeg) (mbe x2.toNatClampNeg) (men x2.toNatClampNeg)).bind fun r5 =>
        if r5 = 0 then
          some (0, r1.2)
        else
          some (1, r1.2)
      else none
    else none
  else
    some (0, r1.2)
theorem f_X3_meets_22_e {mbe : Nat → Int64} {men : Nat → Int64} {x1 : Int32} {x2 : Int32} {y0 : Int32} : f_X3_meets_22 mbe men x1 x2 y0 =
  (f_X3_isThrown_ y0).bind fun r1 =>
  if r1.1 = 0 then
    if ix x1 10 then
      if ix x2 10 then
        (f_X3_meet (mbe x1.toNatClampNeg) (men x1.toNatClampNeg) (mbe x2.toNatClampNeg) (men x2.toNatClampNeg)).bind fun r5 =>
        if r5 = 0 then
          some (0, r1.2)
        else
          some (1, r1.2)
      else none
    else none
  else
    some (0, r1.2) := rfl
def f_X3_meets_17 (mbe : Nat → Int64) (men : Nat → Int64) (x1 : Int32) (x2 : Int32) : Option ((Int32) × (Int32)) :=
  f_X3_meets_22 mbe men x1 x2 1
theorem f_X3_meets_17_e {mbe : Nat → Int64} {men : Nat → Int64} {x1 : Int32} {x2 : Int32} : f_X3_meets_17 mbe men x1 x2 =
  f_X3_meets_22 mbe men x1 x2 1 := rfl
def f_X3_meets (mbe : Nat → Int64) (men : Nat → Int64) (msp : Int32) (p0 : Int32) (p1 : Int32) : Option ((Int32) × (Int32)) :=
  (f_X3_isSpan msp p0).bind fun r1 =>
  if r1 = 0 then
    f_X3_meets_17 mbe men p0 p1
  else
    (f_X3_isSpan msp p1).bind fun r3 =>
    if r3 = 0 then
      f_X3_meets_17 mbe men p0 p1
    else
      f_X3_meets_22 mbe men p0 p1 0
theorem f_X3_meets_e {mbe : Nat → Int64} {men : Nat → Int64} {msp : Int32} {p0 : Int32} {p1 : Int32} : f_X3_meets mbe men msp p0 p1 = 
  (f_X3_isSpan msp p0).bind fun r1 =>
  if r1 = 0 then
    f_X3_meets_17 mbe men p0 p1
  else
    (f_X3_isSpan msp p1).bind fun r3 =>
    if r3 = 0 then
      f_X3_meets_17 mbe men p0 p1
    else
      f_X3_meets_22 mbe men p0 p1 0 := rfl
set_option maxHeartbeats 4000000 in
set_option maxRecDepth 100000 in
theorem c_X3_meets (l : Launch) (dC : Nat → ClassId) (dI : Nat → Nat → Nat) (cB cI cJ cZ : ClassId) (b : Nat → Nat) (sz : Nat) (mce : Nat → Int64) (mfr : Int64) (mun : Int64) (mbe : Nat → Int64) (men : Nat → Int64) (mov : Nat → Int32) (msp : Int32) (mwb : Nat → Int64) (mwe : Nat → Int64) (mwi : Int32) (mac : Int32) (mre : Int32) (mkn : Int32) (mth : Int32) (p0 : Int32) (p1 : Int32) (res : (Int32) × (Int32)) (hf : f_X3_meets mbe men msp p0 p1 = some res) : Met l yX3_meets wsX3_meets ({ frames := 2, cells := 0, slots := 0, locals := 43 } : Room) (kPre (dC, dI) (kTy cB cI cJ cZ) [.ref (b 0), .int p0, .int p1] sz (wMo cJ cZ b mce mfr mun mbe men mov msp mwb mwe mwi mac mre mkn mth)) (kI (dC, dI) .boolean (res.1) (wMo cJ cZ b mce mfr mun mbe men mov msp mwb mwe mwi mac mre mkn (res.2)) (va_A (wMo cJ cZ b mce mfr mun mbe men mov msp mwb mwe mwi mac mre mkn mth) sz)) 0 0 (va_A (wMo cJ cZ b mce mfr mun mbe men mov msp mwb mwe mwi mac mre mkn mth) sz) := by
  refine Met.ofW (cc := cX3_meets) (maxL := 3) (ret := (some .boolean)) (by decide) rfl ?_
  intro p e s m args below meth c s₁ B hml hv
  obtain ⟨rfl, hsz, hP, hK, hD0, hG⟩ := hv
  have hx := B.exec
  have hb := B.bytes
  have hr := B.returns
  have hts := atoms_spec (ws := wsX3_meets) B.pre
  have hown : s.vm.findClass RX3 = some m.cls := findClass_of_methodNamed B.named
  have hlocks := B.notSynchronized
  subst hsz
  have hD := hD0.self (sz := s.heap.size)
  generalize hAe : va_A (wMo cJ cZ b mce mfr mun mbe men mov msp mwb mwe mwi mac mre mkn mth) s.heap.size = A at hD ⊢
  have hA : ∀ q : Nat, s.heap.size ≤ q → A q := fun q h => by rw [← hAe]; exact Or.inr h
  have hS : va_S A s.heap s.heap [] := va_S.rf
  clear hAe
  have hw0 := hts (.fieldLink RX3 19 "SpanbookerModel" "begins" "[J") (List.mem_cons_of_mem _ kw_1075)
  have hw1 := hts (.fieldLink RX3 22 "SpanbookerModel" "ends" "[J") (List.mem_cons_of_mem _ kw_1076)
  have hiX3 : ∀ w ∈ u_ws RX3 TX3 14, w ∈ wsX3_meets := fun w h => List.mem_cons_of_mem _ (ku_X3 w h)
  have J22 : ∀ (mce : Nat → Int64) (mfr : Int64) (mun : Int64) (mbe : Nat → Int64) (men : Nat → Int64) (mov : Nat → Int32) (msp : Int32) (mwb : Nat → Int64) (mwe : Nat → Int64) (mwi : Int32) (mac : Int32) (mre : Int32) (mkn : Int32) (mth : Int32) (x1 : Int32) (x2 : Int32) (y0 : Int32) (H : Heap) (locs : List Loc), va_P (dC, dI) vwCl (wMo cJ cZ b mce mfr mun mbe men mov msp mwb mwe mwi mac mre mkn mth) H → va_D A (wMo cJ cZ b mce mfr mun mbe men mov msp mwb mwe mwi mac mre mkn mth) → va_S A s.heap H locs → ∀ (ls : Array Slot), lv_has ls 3 [(0, .ref (b 0)), (1, .int x1), (2, .int x2)] → f_X3_meets_22 mbe men x1 x2 y0 = some res → W p l e (headSpec wsX3_meets ({ frames := 2, cells := 0, slots := 0, locals := 43 } : Room)).room s m ([.ref (b 0), .int p0, .int p1] : List Value).toArray below meth c H locs 0 0 (MQ below (kI (dC, dI) .boolean (res.1) (wMo cJ cZ b mce mfr mun mbe men mov msp mwb mwe mwi mac mre mkn (res.2)) A) ([.ref (b 0), .int p0, .int p1] : List Value).toArray s 0 0 A) (F0 m 22 ls [.int y0, .ref (b 0)]) := by
    intro mce mfr mun mbe men mov msp mwb mwe mwi mac mre mkn mth x1 x2 y0 H locs hP hD hS ls hl h
    have h := f_X3_meets_22_e.symm.trans h
    obtain ⟨r1, g1, h⟩ := g_b h
    refine kcall_i (wMo cJ cZ b mce mfr mun mbe men mov msp mwb mwe mwi mac mre mkn r1.2) (va_runV (As := [.int y0]) (rest := []) ⟨hx, hb, hml, hown, hts⟩ (c_X3_isThrown_ l dC dI cB cI cJ cZ b _ mce mfr mun mbe men mov msp mwb mwe mwi mac mre mkn mth y0 r1 g1) (kcwV hts kw_1170 kv_X3_isThrown_ rfl rfl ⟨(Nat.le_of_ble_eq_true rfl), (Nat.le_of_ble_eq_true rfl)⟩) (kpV (A := A) (hP.sub (kIT mk_26 0) (km_f (m := mk_26) rfl rfl)) hK (hD.sub (kIT mk_26 0) (km_nd mk_26) (km_T (m := mk_26) rfl rfl)) hG (va_recv hK hP (ci := 5) (q0 := 0) rfl rfl)) rfl rfl hl.1 rfl (lv_room (Nat.le_of_ble_eq_true rfl)) dX3_meets_22 ⟨(Nat.le_of_ble_eq_true rfl), (Nat.le_of_ble_eq_true rfl)⟩) hP hD hS hA (kIT mk_26 0) (kIT mk_25 0) (km_T (m := mk_26) rfl rfl) (km_T (m := mk_26) rfl rfl) [] (km_T (m := mk_25) rfl rfl) (km_T (m := mk_25) rfl rfl) (km_cov (m := mk_26) (n := mk_25) rfl rfl) (km_dis (m := mk_26) (n := mk_25) rfl) rfl (fun H locs hP hD hS br1 => ?_)
    refine lv_if_ne (tgt := 62) hx hb dX3_meets_25 (by decide) (fun c2 => ?_) (fun c2 => ?_)
    · have h := g_f c2 h
      refine lv_iconst (v := 0) hx hb dX3_meets_62 (by decide) ?_
      have h := Option.some.inj h
      subst h
      exact kret_i (v := 0) hx hb hr rfl hlocks hS hP dX3_meets_63
    · have h := g_t c2 h
      refine lv_aload_n hx hb dX3_meets_28 rfl (lv_at hl 0 rfl) ?_
      refine va_get (D := (dC, dI)) (ci := 5) (v := .ref (b 2)) (C := RX3) (T := TX3) (N := 14) hx hb hts hiX3 hown hK hP 0 rfl rfl 3 (by decide) hw0 (fun _ h9 => h9) rfl dX3_meets_29 ?_
      refine lv_iload_n hx hb dX3_meets_32 rfl (lv_at hl 1 rfl) ?_
      obtain ⟨z2, h⟩ := g_if h
      refine va_lald hx hb hK hP 2 2 rfl rfl (ix_in z2) dX3_meets_33 ?_
      refine lv_aload_n hx hb dX3_meets_34 rfl (lv_at hl 0 rfl) ?_
      refine va_get (D := (dC, dI)) (ci := 5) (v := .ref (b 3)) (C := RX3) (T := TX3) (N := 14) hx hb hts hiX3 hown hK hP 0 rfl rfl 4 (by decide) hw1 (fun _ h9 => h9) rfl dX3_meets_35 ?_
      refine lv_iload_n hx hb dX3_meets_38 rfl (lv_at hl 1 rfl) ?_
      refine va_lald hx hb hK hP 3 2 rfl rfl (ix_in z2) dX3_meets_39 ?_
      refine lv_aload_n hx hb dX3_meets_40 rfl (lv_at hl 0 rfl) ?_
      refine va_get (D := (dC, dI)) (ci := 5) (v := .ref (b 2)) (C := RX3) (T := TX3) (N := 14) hx hb hts hiX3 hown hK hP 0 rfl rfl 3 (by decide) hw0 (fun _ h9 => h9) rfl dX3_meets_41 ?_
      refine lv_iload_n hx hb dX3_meets_44 rfl (lv_at hl 2 rfl) ?_
      obtain ⟨z3, h⟩ := g_if h
      refine va_lald hx hb hK hP 2 2 rfl rfl (ix_in z3) dX3_meets_45 ?_
      refine lv_aload_n hx hb dX3_meets_46 rfl (lv_at hl 0 rfl) ?_
      refine va_get (D := (dC, dI)) (ci := 5) (v := .ref (b 3)) (C := RX3) (T := TX3) (N := 14) hx hb hts hiX3 hown hK hP 0 rfl rfl 4 (by decide) hw1 (fun _ h9 => h9) rfl dX3_meets_47 ?_
      refine lv_iload_n hx hb dX3_meets_50 rfl (lv_at hl 2 rfl) ?_
      refine va_lald hx hb hK hP 3 2 rfl rfl (ix_in z3) dX3_meets_51 ?_
      obtain ⟨r5, g5, h⟩ := g_b h
      refine kcall_i (wMo cJ cZ b mce mfr mun mbe men mov msp mwb mwe mwi mac mre mkn r1.2) (va_runS (As := [.long (mbe x1.toNatClampNeg), .long (men x1.toNatClampNeg), .long (mbe x2.toNatClampNeg), .long (men x2.toNatClampNeg)]) (rest := []) ⟨hx, hb, hml, hown, hts⟩ (c_X3_meet l dC dI cB cI cJ cZ  _  (mbe x1.toNatClampNeg) (men x1.toNatClampNeg) (mbe x2.toNatClampNeg) (men x2.toNatClampNeg) r5 g5) (kcwS hts kw_1212 kv_X3_meet rfl rfl ⟨(Nat.le_of_ble_eq_true rfl), (Nat.le_of_ble_eq_true rfl)⟩) (kpS (A := A) (kPnil) hK ((kDnil (A := A))) hG) rfl rfl hl.1 rfl (lv_room (Nat.le_of_ble_eq_true rfl)) dX3_meets_52 ⟨(Nat.le_of_ble_eq_true rfl), (Nat.le_of_ble_eq_true rfl)⟩) hP hD hS hA (kIT mk_25 0) (kIT mk_26 0) (km_T (m := mk_25) rfl rfl) (km_T (m := mk_25) rfl rfl) [((b 0), .inr (5, [.ref (b 1), .long mfr, .long mun, .ref (b 2), .ref (b 3), .ref (b 4), .int msp, .ref (b 5), .ref (b 6), .int mwi, .int mac, .int mre, .int mkn, .int r1.2])), ((b 1), .inl (cJ, 4, .inr (.inl mce))), ((b 2), .inl (cJ, 10, .inr (.inl mbe))), ((b 3), .inl (cJ, 10, .inr (.inl men))), ((b 4), .inl (cZ, 10, .inl mov)), ((b 5), .inl (cJ, 8, .inr (.inl mwb))), ((b 6), .inl (cJ, 8, .inr (.inl mwe)))] (km_T (m := mk_26) rfl rfl) (km_T (m := mk_26) rfl rfl) (km_cov (m := mk_25) (n := mk_26) rfl rfl) (km_dis (m := mk_25) (n := mk_26) rfl) rfl (fun H locs hP hD hS br5 => ?_)
      refine lv_if_eq (tgt := 62) hx hb dX3_meets_55 (by decide) (fun c6 => ?_) (fun c6 => ?_)
      · have h := g_t c6 h
        refine lv_iconst (v := 0) hx hb dX3_meets_62 (by decide) ?_
        have h := Option.some.inj h
        subst h
        exact kret_i (v := 0) hx hb hr rfl hlocks hS hP dX3_meets_63
      · have h := g_f c6 h
        refine lv_iconst (v := 1) hx hb dX3_meets_58 (by decide) ?_
        refine lv_goto (tgt := 63) hx hb dX3_meets_59 (by decide) ?_
        have h := Option.some.inj h
        subst h
        exact kret_i (v := 1) hx hb hr rfl hlocks hS hP dX3_meets_63
  have J17 : ∀ (mce : Nat → Int64) (mfr : Int64) (mun : Int64) (mbe : Nat → Int64) (men : Nat → Int64) (mov : Nat → Int32) (msp : Int32) (mwb : Nat → Int64) (mwe : Nat → Int64) (mwi : Int32) (mac : Int32) (mre : Int32) (mkn : Int32) (mth : Int32) (x1 : Int32) (x2 : Int32) (H : Heap) (locs : List Loc), va_P (dC, dI) vwCl (wMo cJ cZ b mce mfr mun mbe men mov msp mwb mwe mwi mac mre mkn mth) H → va_D A (wMo cJ cZ b mce mfr mun mbe men mov msp mwb mwe mwi mac mre mkn mth) → va_S A s.heap H locs → ∀ (ls : Array Slot), lv_has ls 3 [(0, .ref (b 0)), (1, .int x1), (2, .int x2)] → f_X3_meets_17 mbe men x1 x2 = some res → W p l e (headSpec wsX3_meets ({ frames := 2, cells := 0, slots := 0, locals := 43 } : Room)).room s m ([.ref (b 0), .int p0, .int p1] : List Value).toArray below meth c H locs 0 0 (MQ below (kI (dC, dI) .boolean (res.1) (wMo cJ cZ b mce mfr mun mbe men mov msp mwb mwe mwi mac mre mkn (res.2)) A) ([.ref (b 0), .int p0, .int p1] : List Value).toArray s 0 0 A) (F0 m 17 ls [.ref (b 0)]) := by
    intro mce mfr mun mbe men mov msp mwb mwe mwi mac mre mkn mth x1 x2 H locs hP hD hS ls hl h
    have h := f_X3_meets_17_e.symm.trans h
    refine lv_iconst (v := 1) hx hb dX3_meets_17 (by decide) ?_
    refine lv_goto (tgt := 22) hx hb dX3_meets_18 (by decide) ?_
    exact J22 mce mfr mun mbe men mov msp mwb mwe mwi mac mre mkn mth x1 x2 1 _ _ hP hD hS ls (lv_sub hl [0, 1, 2] rfl) h
  have hl := lv_entry ([.ref (b 0), .int p0, .int p1]) (n := 3) (Nat.le_of_ble_eq_true rfl)
  rw [lg_entry_eq]
  generalize (lg_sl ([.ref (b 0), .int p0, .int p1]) ++ List.replicate (3 - (lg_sl ([.ref (b 0), .int p0, .int p1])).length) Slot.unset).toArray = ls at hl ⊢
  have hl : lv_has ls 3 [(0, .ref (b 0)), (1, .int p0), (2, .int p1)] := hl
  have h := f_X3_meets_e.symm.trans hf
  refine lv_aload_n hx hb dX3_meets_0 rfl (lv_at hl 0 rfl) ?_
  refine lv_aload_n hx hb dX3_meets_1 rfl (lv_at hl 0 rfl) ?_
  refine lv_iload_n hx hb dX3_meets_2 rfl (lv_at hl 1 rfl) ?_
  obtain ⟨r1, g1, h⟩ := g_b h
  refine kcall_i (wMo cJ cZ b mce mfr mun mbe men mov msp mwb mwe mwi mac mre mkn mth) (va_runV (As := [.int p0]) (rest := [.ref (b 0)]) ⟨hx, hb, hml, hown, hts⟩ (c_X3_isSpan l dC dI cB cI cJ cZ b _ mce mfr mun mbe men mov msp mwb mwe mwi mac mre mkn mth p0 r1 g1) (kcwV hts kw_1223 kv_X3_isSpan rfl rfl ⟨(Nat.le_of_ble_eq_true rfl), (Nat.le_of_ble_eq_true rfl)⟩) (kpV (A := A) (hP.sub (kIT mk_26 0) (km_f (m := mk_26) rfl rfl)) hK (hD.sub (kIT mk_26 0) (km_nd mk_26) (km_T (m := mk_26) rfl rfl)) hG (va_recv hK hP (ci := 5) (q0 := 0) rfl rfl)) rfl rfl hl.1 rfl (lv_room (Nat.le_of_ble_eq_true rfl)) dX3_meets_3 ⟨(Nat.le_of_ble_eq_true rfl), (Nat.le_of_ble_eq_true rfl)⟩) hP hD hS hA (kIT mk_26 0) (kIT mk_25 0) (km_T (m := mk_26) rfl rfl) (km_T (m := mk_26) rfl rfl) [] (km_T (m := mk_25) rfl rfl) (km_T (m := mk_25) rfl rfl) (km_cov (m := mk_26) (n := mk_25) rfl rfl) (km_dis (m := mk_26) (n := mk_25) rfl) rfl (fun H locs hP hD hS br1 => ?_)
  refine lv_if_eq (tgt := 17) hx hb dX3_meets_6 (by decide) (fun c2 => ?_) (fun c2 => ?_)
  · have h := g_t c2 h
    exact J17 mce mfr mun mbe men mov msp mwb mwe mwi mac mre mkn mth p0 p1 _ _ hP hD hS ls (lv_sub hl [0, 1, 2] rfl) h
  · have h := g_f c2 h
    refine lv_aload_n hx hb dX3_meets_9 rfl (lv_at hl 0 rfl) ?_
    refine lv_iload_n hx hb dX3_meets_10 rfl (lv_at hl 2 rfl) ?_
    obtain ⟨r3, g3, h⟩ := g_b h
    refine kcall_i (wMo cJ cZ b mce mfr mun mbe men mov msp mwb mwe mwi mac mre mkn mth) (va_runV (As := [.int p1]) (rest := [.ref (b 0)]) ⟨hx, hb, hml, hown, hts⟩ (c_X3_isSpan l dC dI cB cI cJ cZ b _ mce mfr mun mbe men mov msp mwb mwe mwi mac mre mkn mth p1 r3 g3) (kcwV hts kw_1223 kv_X3_isSpan rfl rfl ⟨(Nat.le_of_ble_eq_true rfl), (Nat.le_of_ble_eq_true rfl)⟩) (kpV (A := A) (hP.sub (kIT mk_26 0) (km_f (m := mk_26) rfl rfl)) hK (hD.sub (kIT mk_26 0) (km_nd mk_26) (km_T (m := mk_26) rfl rfl)) hG (va_recv hK hP (ci := 5) (q0 := 0) rfl rfl)) rfl rfl hl.1 rfl (lv_room (Nat.le_of_ble_eq_true rfl)) dX3_meets_11 ⟨(Nat.le_of_ble_eq_true rfl), (Nat.le_of_ble_eq_true rfl)⟩) hP hD hS hA (kIT mk_26 0) (kIT mk_25 0) (km_T (m := mk_26) rfl rfl) (km_T (m := mk_26) rfl rfl) [] (km_T (m := mk_25) rfl rfl) (km_T (m := mk_25) rfl rfl) (km_cov (m := mk_26) (n := mk_25) rfl rfl) (km_dis (m := mk_26) (n := mk_25) rfl) rfl (fun H locs hP hD hS br3 => ?_)
    refine lv_if_ne (tgt := 21) hx hb dX3_meets_14 (by decide) (fun c4 => ?_) (fun c4 => ?_)
    · have h := g_f c4 h
      refine lv_iconst (v := 0) hx hb dX3_meets_21 (by decide) ?_
      exact J22 mce mfr mun mbe men mov msp mwb mwe mwi mac mre mkn mth p0 p1 0 _ _ hP hD hS ls (lv_sub hl [0, 1, 2] rfl) h
    · have h := g_t c4 h
      exact J17 mce mfr mun mbe men mov msp mwb mwe mwi mac mre mkn mth p0 p1 _ _ hP hD hS ls (lv_sub hl [0, 1, 2] rfl) h
abbrev wsX3_clashes : List Cond := kWs yX3_clashes cX3_clashes 4 (some .int)
def f_X3_clashes_19 (K9 : (Nat → Int64) → (Nat → Int64) → (Int32) → (Int32) → (Int32) → (Int32) → Option ((Int32) × (Int32))) : Nat → (Nat → Int64) → (Nat → Int64) → (Int32) → (Int32) → (Int32) → (Int32) → (Int32) → Option ((Int32) × (Int32))
  | 0, _, _, _, _, _, _, _ => none
  | n + 1, mbe, men, msp, mth, x1, x2, x3 =>
    if x2 ≤ x3 then
      K9 mbe men msp mth x1 (x2 + 1)
    else
      if ix x2 10 then
        if ix x3 10 then
          (f_X3_meet (mbe x2.toNatClampNeg) (men x2.toNatClampNeg) (mbe x3.toNatClampNeg) (men x3.toNatClampNeg)).bind fun r4 =>
          if r4 = 0 then
            f_X3_clashes_19 K9 n mbe men msp mth (x1 + 0) x2 (x3 + 1)
          else
            f_X3_clashes_19 K9 n mbe men msp mth (x1 + 1) x2 (x3 + 1)
        else none
      else none
theorem f_X3_clashes_19_0 {K9 : (Nat → Int64) → (Nat → Int64) → (Int32) → (Int32) → (Int32) → (Int32) → Option ((Int32) × (Int32))} {mbe : Nat → Int64} {men : Nat → Int64} {msp : Int32} {mth : Int32} {x1 : Int32} {x2 : Int32} {x3 : Int32} : f_X3_clashes_19 K9 0 mbe men msp mth x1 x2 x3 = none := rfl
theorem f_X3_clashes_19_s {K9 : (Nat → Int64) → (Nat → Int64) → (Int32) → (Int32) → (Int32) → (Int32) → Option ((Int32) × (Int32))} {n : Nat} {mbe : Nat → Int64} {men : Nat → Int64} {msp : Int32} {mth : Int32} {x1 : Int32} {x2 : Int32} {x3 : Int32} : f_X3_clashes_19 K9 (n + 1) mbe men msp mth x1 x2 x3 =
  if x2 ≤ x3 then
    K9 mbe men msp mth x1 (x2 + 1)
  else
    if ix x2 10 then
      if ix x3 10 then
        (f_X3_meet (mbe x2.toNatClampNeg) (men x2.toNatClampNeg) (mbe x3.toNatClampNeg) (men x3.toNatClampNeg)).bind fun r4 =>
        if r4 = 0 then
          f_X3_clashes_19 K9 n mbe men msp mth (x1 + 0) x2 (x3 + 1)
        else
          f_X3_clashes_19 K9 n mbe men msp mth (x1 + 1) x2 (x3 + 1)
      else none
    else none := rfl
def f_X3_clashes_9 : Nat → (Nat → Int64) → (Nat → Int64) → (Int32) → (Int32) → (Int32) → (Int32) → Option ((Int32) × (Int32))
  | 0, _, _, _, _, _, _ => none
  | n + 1, mbe, men, msp, mth, x1, x2 =>
    if msp ≤ x2 then
      some (x1, mth)
    else
      f_X3_clashes_19 (f_X3_clashes_9 n) 24 mbe men msp mth x1 x2 0
theorem f_X3_clashes_9_0 {mbe : Nat → Int64} {men : Nat → Int64} {msp : Int32} {mth : Int32} {x1 : Int32} {x2 : Int32} : f_X3_clashes_9 0 mbe men msp mth x1 x2 = none := rfl
theorem f_X3_clashes_9_s {n : Nat} {mbe : Nat → Int64} {men : Nat → Int64} {msp : Int32} {mth : Int32} {x1 : Int32} {x2 : Int32} : f_X3_clashes_9 (n + 1) mbe men msp mth x1 x2 =
  if msp ≤ x2 then
    some (x1, mth)
  else
    f_X3_clashes_19 (f_X3_clashes_9 n) 24 mbe men msp mth x1 x2 0 := rfl
def f_X3_clashes (mbe : Nat → Int64) (men : Nat → Int64) (msp : Int32) : Option ((Int32) × (Int32)) :=
  f_X3_clashes_9 24 mbe men msp 0 0 0
theorem f_X3_clashes_e {mbe : Nat → Int64} {men : Nat → Int64} {msp : Int32} : f_X3_clashes mbe men msp = 
  f_X3_clashes_9 24 mbe men msp 0 0 0 := rfl
set_option maxHeartbeats 4000000 in
set_option maxRecDepth 100000 in
theorem c_X3_clashes (l : Launch) (dC : Nat → ClassId) (dI : Nat → Nat → Nat) (cB cI cJ cZ : ClassId) (b : Nat → Nat) (sz : Nat) (mce : Nat → Int64) (mfr : Int64) (mun : Int64) (mbe : Nat → Int64) (men : Nat → Int64) (mov : Nat → Int32) (msp : Int32) (mwb : Nat → Int64) (mwe : Nat → Int64) (mwi : Int32) (mac : Int32) (mre : Int32) (mkn : Int32) (mth : Int32) (res : (Int32) × (Int32)) (hf : f_X3_clashes mbe men msp = some res) : Met l yX3_clashes wsX3_clashes ({ frames := 1, cells := 0, slots := 0, locals := 27 } : Room) (kPre (dC, dI) (kTy cB cI cJ cZ) [.ref (b 0)] sz (wMo cJ cZ b mce mfr mun mbe men mov msp mwb mwe mwi mac mre mkn mth)) (kI (dC, dI) .int (res.1) (wMo cJ cZ b mce mfr mun mbe men mov msp mwb mwe mwi mac mre mkn (res.2)) (va_A (wMo cJ cZ b mce mfr mun mbe men mov msp mwb mwe mwi mac mre mkn mth) sz)) 0 0 (va_A (wMo cJ cZ b mce mfr mun mbe men mov msp mwb mwe mwi mac mre mkn mth) sz) := by
  refine Met.ofW (cc := cX3_clashes) (maxL := 4) (ret := (some .int)) (by decide) rfl ?_
  intro p e s m args below meth c s₁ B hml hv
  obtain ⟨rfl, hsz, hP, hK, hD0, hG⟩ := hv
  have hx := B.exec
  have hb := B.bytes
  have hr := B.returns
  have hts := atoms_spec (ws := wsX3_clashes) B.pre
  have hown : s.vm.findClass RX3 = some m.cls := findClass_of_methodNamed B.named
  have hlocks := B.notSynchronized
  subst hsz
  have hD := hD0.self (sz := s.heap.size)
  generalize hAe : va_A (wMo cJ cZ b mce mfr mun mbe men mov msp mwb mwe mwi mac mre mkn mth) s.heap.size = A at hD ⊢
  have hA : ∀ q : Nat, s.heap.size ≤ q → A q := fun q h => by rw [← hAe]; exact Or.inr h
  have hS : va_S A s.heap s.heap [] := va_S.rf
  clear hAe
  have hw0 := hts (.fieldLink RX3 35 "SpanbookerModel" "thrown" "I") (List.mem_cons_of_mem _ kw_1085)
  have hw1 := hts (.fieldLink RX3 56 "SpanbookerModel" "spans" "I") (List.mem_cons_of_mem _ kw_1078)
  have hw2 := hts (.fieldLink RX3 19 "SpanbookerModel" "begins" "[J") (List.mem_cons_of_mem _ kw_1075)
  have hw3 := hts (.fieldLink RX3 22 "SpanbookerModel" "ends" "[J") (List.mem_cons_of_mem _ kw_1076)
  have hiX3 : ∀ w ∈ u_ws RX3 TX3 14, w ∈ wsX3_clashes := fun w h => List.mem_cons_of_mem _ (ku_X3 w h)
  have J19 : ∀ (K9 : (Nat → Int64) → (Nat → Int64) → (Int32) → (Int32) → (Int32) → (Int32) → Option ((Int32) × (Int32))), (∀ (mce : Nat → Int64) (mfr : Int64) (mun : Int64) (mbe : Nat → Int64) (men : Nat → Int64) (mov : Nat → Int32) (msp : Int32) (mwb : Nat → Int64) (mwe : Nat → Int64) (mwi : Int32) (mac : Int32) (mre : Int32) (mkn : Int32) (mth : Int32) (x1 : Int32) (x2 : Int32) (H : Heap) (locs : List Loc), va_P (dC, dI) vwCl (wMo cJ cZ b mce mfr mun mbe men mov msp mwb mwe mwi mac mre mkn mth) H → va_D A (wMo cJ cZ b mce mfr mun mbe men mov msp mwb mwe mwi mac mre mkn mth) → va_S A s.heap H locs → ∀ (ls : Array Slot), lv_has ls 4 [(0, .ref (b 0)), (1, .int x1), (2, .int x2)] → K9 mbe men msp mth x1 x2 = some res → W p l e (headSpec wsX3_clashes ({ frames := 1, cells := 0, slots := 0, locals := 27 } : Room)).room s m ([.ref (b 0)] : List Value).toArray below meth c H locs 0 0 (MQ below (kI (dC, dI) .int (res.1) (wMo cJ cZ b mce mfr mun mbe men mov msp mwb mwe mwi mac mre mkn (res.2)) A) ([.ref (b 0)] : List Value).toArray s 0 0 A) (F0 m 9 ls [])) → ∀ (n : Nat), ∀ (mce : Nat → Int64) (mfr : Int64) (mun : Int64) (mbe : Nat → Int64) (men : Nat → Int64) (mov : Nat → Int32) (msp : Int32) (mwb : Nat → Int64) (mwe : Nat → Int64) (mwi : Int32) (mac : Int32) (mre : Int32) (mkn : Int32) (mth : Int32) (x1 : Int32) (x2 : Int32) (x3 : Int32) (H : Heap) (locs : List Loc), va_P (dC, dI) vwCl (wMo cJ cZ b mce mfr mun mbe men mov msp mwb mwe mwi mac mre mkn mth) H → va_D A (wMo cJ cZ b mce mfr mun mbe men mov msp mwb mwe mwi mac mre mkn mth) → va_S A s.heap H locs → ∀ (ls : Array Slot), lv_has ls 4 [(0, .ref (b 0)), (1, .int x1), (2, .int x2), (3, .int x3)] → f_X3_clashes_19 K9 n mbe men msp mth x1 x2 x3 = some res → W p l e (headSpec wsX3_clashes ({ frames := 1, cells := 0, slots := 0, locals := 27 } : Room)).room s m ([.ref (b 0)] : List Value).toArray below meth c H locs 0 0 (MQ below (kI (dC, dI) .int (res.1) (wMo cJ cZ b mce mfr mun mbe men mov msp mwb mwe mwi mac mre mkn (res.2)) A) ([.ref (b 0)] : List Value).toArray s 0 0 A) (F0 m 19 ls []) := by
    intro K9 hK9 n
    induction n with
    | zero =>
      intro mce mfr mun mbe men mov msp mwb mwe mwi mac mre mkn mth x1 x2 x3 H locs hP hD hS ls hl h
      have h := f_X3_clashes_19_0.symm.trans h
      cases h
    | succ n ih =>
      intro mce mfr mun mbe men mov msp mwb mwe mwi mac mre mkn mth x1 x2 x3 H locs hP hD hS ls hl h
      have h := f_X3_clashes_19_s.symm.trans h
      refine lv_iload_n hx hb dX3_clashes_19 rfl (lv_at hl 3 rfl) ?_
      refine lv_iload_n hx hb dX3_clashes_20 rfl (lv_at hl 2 rfl) ?_
      refine lv_icmp_ge (tgt := 68) hx hb dX3_clashes_21 (by decide) (fun c1 => ?_) (fun c1 => ?_)
      · have h := g_t c1 h
        refine lv_iinc (v := x2 + 1) (lv' := [(2, .int (x2 + 1)), (0, .ref (b 0)), (1, .int x1), (3, .int x3)]) hx hb dX3_clashes_68 hl (k := 2) rfl rfl (by decide) rfl (fun ls hl => ?_)
        refine lv_goto (tgt := 9) hx hb dX3_clashes_71 (by decide) ?_
        exact hK9 mce mfr mun mbe men mov msp mwb mwe mwi mac mre mkn mth x1 (x2 + 1) _ _ hP hD hS ls (lv_sub hl [1, 2, 0] rfl) h
      · have h := g_f c1 h
        refine lv_iload_n hx hb dX3_clashes_24 rfl (lv_at hl 1 rfl) ?_
        refine lv_aload_n hx hb dX3_clashes_25 rfl (lv_at hl 0 rfl) ?_
        refine va_get (D := (dC, dI)) (ci := 5) (v := .ref (b 2)) (C := RX3) (T := TX3) (N := 14) hx hb hts hiX3 hown hK hP 0 rfl rfl 3 (by decide) hw2 (fun _ h9 => h9) rfl dX3_clashes_26 ?_
        refine lv_iload_n hx hb dX3_clashes_29 rfl (lv_at hl 2 rfl) ?_
        obtain ⟨z1, h⟩ := g_if h
        refine va_lald hx hb hK hP 2 2 rfl rfl (ix_in z1) dX3_clashes_30 ?_
        refine lv_aload_n hx hb dX3_clashes_31 rfl (lv_at hl 0 rfl) ?_
        refine va_get (D := (dC, dI)) (ci := 5) (v := .ref (b 3)) (C := RX3) (T := TX3) (N := 14) hx hb hts hiX3 hown hK hP 0 rfl rfl 4 (by decide) hw3 (fun _ h9 => h9) rfl dX3_clashes_32 ?_
        refine lv_iload_n hx hb dX3_clashes_35 rfl (lv_at hl 2 rfl) ?_
        refine va_lald hx hb hK hP 3 2 rfl rfl (ix_in z1) dX3_clashes_36 ?_
        refine lv_aload_n hx hb dX3_clashes_37 rfl (lv_at hl 0 rfl) ?_
        refine va_get (D := (dC, dI)) (ci := 5) (v := .ref (b 2)) (C := RX3) (T := TX3) (N := 14) hx hb hts hiX3 hown hK hP 0 rfl rfl 3 (by decide) hw2 (fun _ h9 => h9) rfl dX3_clashes_38 ?_
        refine lv_iload_n hx hb dX3_clashes_41 rfl (lv_at hl 3 rfl) ?_
        obtain ⟨z2, h⟩ := g_if h
        refine va_lald hx hb hK hP 2 2 rfl rfl (ix_in z2) dX3_clashes_42 ?_
        refine lv_aload_n hx hb dX3_clashes_43 rfl (lv_at hl 0 rfl) ?_
        refine va_get (D := (dC, dI)) (ci := 5) (v := .ref (b 3)) (C := RX3) (T := TX3) (N := 14) hx hb hts hiX3 hown hK hP 0 rfl rfl 4 (by decide) hw3 (fun _ h9 => h9) rfl dX3_clashes_44 ?_
        refine lv_iload_n hx hb dX3_clashes_47 rfl (lv_at hl 3 rfl) ?_
        refine va_lald hx hb hK hP 3 2 rfl rfl (ix_in z2) dX3_clashes_48 ?_
        obtain ⟨r4, g4, h⟩ := g_b h
        refine kcall_i (wMo cJ cZ b mce mfr mun mbe men mov msp mwb mwe mwi mac mre mkn mth) (va_runS (As := [.long (mbe x2.toNatClampNeg), .long (men x2.toNatClampNeg), .long (mbe x3.toNatClampNeg), .long (men x3.toNatClampNeg)]) (rest := [.int x1]) ⟨hx, hb, hml, hown, hts⟩ (c_X3_meet l dC dI cB cI cJ cZ  _  (mbe x2.toNatClampNeg) (men x2.toNatClampNeg) (mbe x3.toNatClampNeg) (men x3.toNatClampNeg) r4 g4) (kcwS hts kw_1212 kv_X3_meet rfl rfl ⟨(Nat.le_of_ble_eq_true rfl), (Nat.le_of_ble_eq_true rfl)⟩) (kpS (A := A) (kPnil) hK ((kDnil (A := A))) hG) rfl rfl hl.1 rfl (lv_room (Nat.le_of_ble_eq_true rfl)) dX3_clashes_49 ⟨(Nat.le_of_ble_eq_true rfl), (Nat.le_of_ble_eq_true rfl)⟩) hP hD hS hA (kIT mk_25 0) (kIT mk_26 0) (km_T (m := mk_25) rfl rfl) (km_T (m := mk_25) rfl rfl) [((b 0), .inr (5, [.ref (b 1), .long mfr, .long mun, .ref (b 2), .ref (b 3), .ref (b 4), .int msp, .ref (b 5), .ref (b 6), .int mwi, .int mac, .int mre, .int mkn, .int mth])), ((b 1), .inl (cJ, 4, .inr (.inl mce))), ((b 2), .inl (cJ, 10, .inr (.inl mbe))), ((b 3), .inl (cJ, 10, .inr (.inl men))), ((b 4), .inl (cZ, 10, .inl mov)), ((b 5), .inl (cJ, 8, .inr (.inl mwb))), ((b 6), .inl (cJ, 8, .inr (.inl mwe)))] (km_T (m := mk_26) rfl rfl) (km_T (m := mk_26) rfl rfl) (km_cov (m := mk_25) (n := mk_26) rfl rfl) (km_dis (m := mk_25) (n := mk_26) rfl) rfl (fun H locs hP hD hS br4 => ?_)
        refine lv_if_eq (tgt := 59) hx hb dX3_clashes_52 (by decide) (fun c5 => ?_) (fun c5 => ?_)
        · have h := g_t c5 h
          refine lv_iconst (v := 0) hx hb dX3_clashes_59 (by decide) ?_
          refine lv_iadd hx hb dX3_clashes_60 ?_
          refine lv_istore_n (lv' := [(1, .int (x1 + 0)), (0, .ref (b 0)), (2, .int x2), (3, .int x3)]) hx hb dX3_clashes_61 rfl hl (by decide) rfl (fun ls hl => ?_)
          refine lv_iinc (v := x3 + 1) (lv' := [(3, .int (x3 + 1)), (1, .int (x1 + 0)), (0, .ref (b 0)), (2, .int x2)]) hx hb dX3_clashes_62 hl (k := 3) rfl rfl (by decide) rfl (fun ls hl => ?_)
          refine lv_goto (tgt := 19) hx hb dX3_clashes_65 (by decide) ?_
          exact ih mce mfr mun mbe men mov msp mwb mwe mwi mac mre mkn mth (x1 + 0) x2 (x3 + 1) _ _ hP hD hS ls (lv_sub hl [2, 1, 3, 0] rfl) h
        · have h := g_f c5 h
          refine lv_iconst (v := 1) hx hb dX3_clashes_55 (by decide) ?_
          refine lv_goto (tgt := 60) hx hb dX3_clashes_56 (by decide) ?_
          refine lv_iadd hx hb dX3_clashes_60 ?_
          refine lv_istore_n (lv' := [(1, .int (x1 + 1)), (0, .ref (b 0)), (2, .int x2), (3, .int x3)]) hx hb dX3_clashes_61 rfl hl (by decide) rfl (fun ls hl => ?_)
          refine lv_iinc (v := x3 + 1) (lv' := [(3, .int (x3 + 1)), (1, .int (x1 + 1)), (0, .ref (b 0)), (2, .int x2)]) hx hb dX3_clashes_62 hl (k := 3) rfl rfl (by decide) rfl (fun ls hl => ?_)
          refine lv_goto (tgt := 19) hx hb dX3_clashes_65 (by decide) ?_
          exact ih mce mfr mun mbe men mov msp mwb mwe mwi mac mre mkn mth (x1 + 1) x2 (x3 + 1) _ _ hP hD hS ls (lv_sub hl [2, 1, 3, 0] rfl) h
  have J9 : ∀ (n : Nat), ∀ (mce : Nat → Int64) (mfr : Int64) (mun : Int64) (mbe : Nat → Int64) (men : Nat → Int64) (mov : Nat → Int32) (msp : Int32) (mwb : Nat → Int64) (mwe : Nat → Int64) (mwi : Int32) (mac : Int32) (mre : Int32) (mkn : Int32) (mth : Int32) (x1 : Int32) (x2 : Int32) (H : Heap) (locs : List Loc), va_P (dC, dI) vwCl (wMo cJ cZ b mce mfr mun mbe men mov msp mwb mwe mwi mac mre mkn mth) H → va_D A (wMo cJ cZ b mce mfr mun mbe men mov msp mwb mwe mwi mac mre mkn mth) → va_S A s.heap H locs → ∀ (ls : Array Slot), lv_has ls 4 [(0, .ref (b 0)), (1, .int x1), (2, .int x2)] → f_X3_clashes_9 n mbe men msp mth x1 x2 = some res → W p l e (headSpec wsX3_clashes ({ frames := 1, cells := 0, slots := 0, locals := 27 } : Room)).room s m ([.ref (b 0)] : List Value).toArray below meth c H locs 0 0 (MQ below (kI (dC, dI) .int (res.1) (wMo cJ cZ b mce mfr mun mbe men mov msp mwb mwe mwi mac mre mkn (res.2)) A) ([.ref (b 0)] : List Value).toArray s 0 0 A) (F0 m 9 ls []) := by
    intro n
    induction n with
    | zero =>
      intro mce mfr mun mbe men mov msp mwb mwe mwi mac mre mkn mth x1 x2 H locs hP hD hS ls hl h
      have h := f_X3_clashes_9_0.symm.trans h
      cases h
    | succ n ih =>
      intro mce mfr mun mbe men mov msp mwb mwe mwi mac mre mkn mth x1 x2 H locs hP hD hS ls hl h
      have h := f_X3_clashes_9_s.symm.trans h
      refine lv_iload_n hx hb dX3_clashes_9 rfl (lv_at hl 2 rfl) ?_
      refine lv_aload_n hx hb dX3_clashes_10 rfl (lv_at hl 0 rfl) ?_
      refine va_get (D := (dC, dI)) (ci := 5) (v := .int msp) (C := RX3) (T := TX3) (N := 14) hx hb hts hiX3 hown hK hP 0 rfl rfl 6 (by decide) hw1 (fun _ h9 => h9) rfl dX3_clashes_11 ?_
      refine lv_icmp_ge (tgt := 74) hx hb dX3_clashes_14 (by decide) (fun c1 => ?_) (fun c1 => ?_)
      · have h := g_t c1 h
        refine lv_iload_n hx hb dX3_clashes_74 rfl (lv_at hl 1 rfl) ?_
        have h := Option.some.inj h
        subst h
        exact kret_i (v := x1) hx hb hr rfl hlocks hS hP dX3_clashes_75
      · have h := g_f c1 h
        refine lv_iconst (v := 0) hx hb dX3_clashes_17 (by decide) ?_
        refine lv_istore_n (lv' := [(3, .int 0), (0, .ref (b 0)), (1, .int x1), (2, .int x2)]) hx hb dX3_clashes_18 rfl hl (by decide) rfl (fun ls hl => ?_)
        exact J19 (f_X3_clashes_9 n) ih 24 mce mfr mun mbe men mov msp mwb mwe mwi mac mre mkn mth x1 x2 0 _ _ hP hD hS ls (lv_sub hl [1, 2, 3, 0] rfl) h
  have hl := lv_entry ([.ref (b 0)]) (n := 4) (Nat.le_of_ble_eq_true rfl)
  rw [lg_entry_eq]
  generalize (lg_sl ([.ref (b 0)]) ++ List.replicate (4 - (lg_sl ([.ref (b 0)])).length) Slot.unset).toArray = ls at hl ⊢
  have hl : lv_has ls 4 [(0, .ref (b 0))] := hl
  have h := f_X3_clashes_e.symm.trans hf
  refine lv_aload_n hx hb dX3_clashes_0 rfl (lv_at hl 0 rfl) ?_
  refine lv_iconst (v := 0) hx hb dX3_clashes_1 (by decide) ?_
  refine va_put (D := (dC, dI)) (ci := 5) (v := .int 0) (ty := .int) (C := RX3) (T := TX3) (N := 14) hx hb hts hiX3 tyX3 tyX3_ok nmX3 hown hK hP hD hS 0 rfl rfl 13 (by decide) hw0 (fun _ h9 => h9) rfl (by decide +kernel) rfl rfl (Nat.le_of_ble_eq_true rfl) dX3_clashes_2 (fun H locs hP hD hS => ?_)
  have hP : va_P (dC, dI) vwCl (wMo cJ cZ b mce mfr mun mbe men mov msp mwb mwe mwi mac mre mkn 0) H := hP
  have hD : va_D A (wMo cJ cZ b mce mfr mun mbe men mov msp mwb mwe mwi mac mre mkn 0) := hD
  refine lv_iconst (v := 0) hx hb dX3_clashes_5 (by decide) ?_
  refine lv_istore_n (lv' := [(1, .int 0), (0, .ref (b 0))]) hx hb dX3_clashes_6 rfl hl (by decide) rfl (fun ls hl => ?_)
  refine lv_iconst (v := 0) hx hb dX3_clashes_7 (by decide) ?_
  refine lv_istore_n (lv' := [(2, .int 0), (1, .int 0), (0, .ref (b 0))]) hx hb dX3_clashes_8 rfl hl (by decide) rfl (fun ls hl => ?_)
  exact J9 24 mce mfr mun mbe men mov msp mwb mwe mwi mac mre mkn 0 0 0 _ _ hP hD hS ls (lv_sub hl [2, 1, 0] rfl) h
abbrev wsX3_at : List Cond := kWs yX3_at cX3_at 2 (some .int)
def f_X3_at_13 (mce : Nat → Int64) (mbe : Nat → Int64) (men : Nat → Int64) (msp : Int32) (x1 : Int32) (y0 : Int32) : Option ((Int32) × (Int32)) :=
  (f_X3_isThrown_ y0).bind fun r1 =>
  if r1.1 = 0 then
    if ix x1 4 then
      (f_X3_spanAt mbe men msp (mce x1.toNatClampNeg)).bind fun r4 =>
      some (r4, r1.2)
    else none
  else
    some (0, r1.2)
theorem f_X3_at_13_e {mce : Nat → Int64} {mbe : Nat → Int64} {men : Nat → Int64} {msp : Int32} {x1 : Int32} {y0 : Int32} : f_X3_at_13 mce mbe men msp x1 y0 =
  (f_X3_isThrown_ y0).bind fun r1 =>
  if r1.1 = 0 then
    if ix x1 4 then
      (f_X3_spanAt mbe men msp (mce x1.toNatClampNeg)).bind fun r4 =>
      some (r4, r1.2)
    else none
  else
    some (0, r1.2) := rfl
def f_X3_at (mce : Nat → Int64) (mbe : Nat → Int64) (men : Nat → Int64) (msp : Int32) (p0 : Int32) : Option ((Int32) × (Int32)) :=
  (f_X3_is p0).bind fun r1 =>
  if r1 = 0 then
    f_X3_at_13 mce mbe men msp p0 1
  else
    f_X3_at_13 mce mbe men msp p0 0
theorem f_X3_at_e {mce : Nat → Int64} {mbe : Nat → Int64} {men : Nat → Int64} {msp : Int32} {p0 : Int32} : f_X3_at mce mbe men msp p0 = 
  (f_X3_is p0).bind fun r1 =>
  if r1 = 0 then
    f_X3_at_13 mce mbe men msp p0 1
  else
    f_X3_at_13 mce mbe men msp p0 0 := rfl
set_option maxHeartbeats 4000000 in
set_option maxRecDepth 100000 in
theorem c_X3_at (l : Launch) (dC : Nat → ClassId) (dI : Nat → Nat → Nat) (cB cI cJ cZ : ClassId) (b : Nat → Nat) (sz : Nat) (mce : Nat → Int64) (mfr : Int64) (mun : Int64) (mbe : Nat → Int64) (men : Nat → Int64) (mov : Nat → Int32) (msp : Int32) (mwb : Nat → Int64) (mwe : Nat → Int64) (mwi : Int32) (mac : Int32) (mre : Int32) (mkn : Int32) (mth : Int32) (p0 : Int32) (res : (Int32) × (Int32)) (hf : f_X3_at mce mbe men msp p0 = some res) : Met l yX3_at wsX3_at ({ frames := 2, cells := 0, slots := 0, locals := 43 } : Room) (kPre (dC, dI) (kTy cB cI cJ cZ) [.ref (b 0), .int p0] sz (wMo cJ cZ b mce mfr mun mbe men mov msp mwb mwe mwi mac mre mkn mth)) (kI (dC, dI) .int (res.1) (wMo cJ cZ b mce mfr mun mbe men mov msp mwb mwe mwi mac mre mkn (res.2)) (va_A (wMo cJ cZ b mce mfr mun mbe men mov msp mwb mwe mwi mac mre mkn mth) sz)) 0 0 (va_A (wMo cJ cZ b mce mfr mun mbe men mov msp mwb mwe mwi mac mre mkn mth) sz) := by
  refine Met.ofW (cc := cX3_at) (maxL := 2) (ret := (some .int)) (by decide) rfl ?_
  intro p e s m args below meth c s₁ B hml hv
  obtain ⟨rfl, hsz, hP, hK, hD0, hG⟩ := hv
  have hx := B.exec
  have hb := B.bytes
  have hr := B.returns
  have hts := atoms_spec (ws := wsX3_at) B.pre
  have hown : s.vm.findClass RX3 = some m.cls := findClass_of_methodNamed B.named
  have hlocks := B.notSynchronized
  subst hsz
  have hD := hD0.self (sz := s.heap.size)
  generalize hAe : va_A (wMo cJ cZ b mce mfr mun mbe men mov msp mwb mwe mwi mac mre mkn mth) s.heap.size = A at hD ⊢
  have hA : ∀ q : Nat, s.heap.size ≤ q → A q := fun q h => by rw [← hAe]; exact Or.inr h
  have hS : va_S A s.heap s.heap [] := va_S.rf
  clear hAe
  have hw0 := hts (.fieldLink RX3 7 "SpanbookerModel" "cells" "[J") (List.mem_cons_of_mem _ kw_1072)
  have hiX3 : ∀ w ∈ u_ws RX3 TX3 14, w ∈ wsX3_at := fun w h => List.mem_cons_of_mem _ (ku_X3 w h)
  have J13 : ∀ (mce : Nat → Int64) (mfr : Int64) (mun : Int64) (mbe : Nat → Int64) (men : Nat → Int64) (mov : Nat → Int32) (msp : Int32) (mwb : Nat → Int64) (mwe : Nat → Int64) (mwi : Int32) (mac : Int32) (mre : Int32) (mkn : Int32) (mth : Int32) (x1 : Int32) (y0 : Int32) (H : Heap) (locs : List Loc), va_P (dC, dI) vwCl (wMo cJ cZ b mce mfr mun mbe men mov msp mwb mwe mwi mac mre mkn mth) H → va_D A (wMo cJ cZ b mce mfr mun mbe men mov msp mwb mwe mwi mac mre mkn mth) → va_S A s.heap H locs → ∀ (ls : Array Slot), lv_has ls 2 [(0, .ref (b 0)), (1, .int x1)] → f_X3_at_13 mce mbe men msp x1 y0 = some res → W p l e (headSpec wsX3_at ({ frames := 2, cells := 0, slots := 0, locals := 43 } : Room)).room s m ([.ref (b 0), .int p0] : List Value).toArray below meth c H locs 0 0 (MQ below (kI (dC, dI) .int (res.1) (wMo cJ cZ b mce mfr mun mbe men mov msp mwb mwe mwi mac mre mkn (res.2)) A) ([.ref (b 0), .int p0] : List Value).toArray s 0 0 A) (F0 m 13 ls [.int y0, .ref (b 0)]) := by
    intro mce mfr mun mbe men mov msp mwb mwe mwi mac mre mkn mth x1 y0 H locs hP hD hS ls hl h
    have h := f_X3_at_13_e.symm.trans h
    obtain ⟨r1, g1, h⟩ := g_b h
    refine kcall_i (wMo cJ cZ b mce mfr mun mbe men mov msp mwb mwe mwi mac mre mkn r1.2) (va_runV (As := [.int y0]) (rest := []) ⟨hx, hb, hml, hown, hts⟩ (c_X3_isThrown_ l dC dI cB cI cJ cZ b _ mce mfr mun mbe men mov msp mwb mwe mwi mac mre mkn mth y0 r1 g1) (kcwV hts kw_1170 kv_X3_isThrown_ rfl rfl ⟨(Nat.le_of_ble_eq_true rfl), (Nat.le_of_ble_eq_true rfl)⟩) (kpV (A := A) (hP.sub (kIT mk_26 0) (km_f (m := mk_26) rfl rfl)) hK (hD.sub (kIT mk_26 0) (km_nd mk_26) (km_T (m := mk_26) rfl rfl)) hG (va_recv hK hP (ci := 5) (q0 := 0) rfl rfl)) rfl rfl hl.1 rfl (lv_room (Nat.le_of_ble_eq_true rfl)) dX3_at_13 ⟨(Nat.le_of_ble_eq_true rfl), (Nat.le_of_ble_eq_true rfl)⟩) hP hD hS hA (kIT mk_26 0) (kIT mk_25 0) (km_T (m := mk_26) rfl rfl) (km_T (m := mk_26) rfl rfl) [] (km_T (m := mk_25) rfl rfl) (km_T (m := mk_25) rfl rfl) (km_cov (m := mk_26) (n := mk_25) rfl rfl) (km_dis (m := mk_26) (n := mk_25) rfl) rfl (fun H locs hP hD hS br1 => ?_)
    refine lv_if_eq (tgt := 23) hx hb dX3_at_16 (by decide) (fun c2 => ?_) (fun c2 => ?_)
    · have h := g_t c2 h
      refine lv_aload_n hx hb dX3_at_23 rfl (lv_at hl 0 rfl) ?_
      refine lv_aload_n hx hb dX3_at_24 rfl (lv_at hl 0 rfl) ?_
      refine va_get (D := (dC, dI)) (ci := 5) (v := .ref (b 1)) (C := RX3) (T := TX3) (N := 14) hx hb hts hiX3 hown hK hP 0 rfl rfl 0 (by decide) hw0 (fun _ h9 => h9) rfl dX3_at_25 ?_
      refine lv_iload_n hx hb dX3_at_28 rfl (lv_at hl 1 rfl) ?_
      obtain ⟨z2, h⟩ := g_if h
      refine va_lald hx hb hK hP 1 2 rfl rfl (ix_in z2) dX3_at_29 ?_
      obtain ⟨r4, g4, h⟩ := g_b h
      refine kcall_i (wMo cJ cZ b mce mfr mun mbe men mov msp mwb mwe mwi mac mre mkn r1.2) (va_runV (As := [.long (mce x1.toNatClampNeg)]) (rest := []) ⟨hx, hb, hml, hown, hts⟩ (c_X3_spanAt l dC dI cB cI cJ cZ b _ mce mfr mun mbe men mov msp mwb mwe mwi mac mre mkn r1.2 (mce x1.toNatClampNeg) r4 g4) (kcwV hts kw_1344 kv_X3_spanAt rfl rfl ⟨(Nat.le_of_ble_eq_true rfl), (Nat.le_of_ble_eq_true rfl)⟩) (kpV (A := A) (hP.sub (kIT mk_26 0) (km_f (m := mk_26) rfl rfl)) hK (hD.sub (kIT mk_26 0) (km_nd mk_26) (km_T (m := mk_26) rfl rfl)) hG (va_recv hK hP (ci := 5) (q0 := 0) rfl rfl)) rfl rfl hl.1 rfl (lv_room (Nat.le_of_ble_eq_true rfl)) dX3_at_30 ⟨(Nat.le_of_ble_eq_true rfl), (Nat.le_of_ble_eq_true rfl)⟩) hP hD hS hA (kIT mk_26 0) (kIT mk_25 0) (km_T (m := mk_26) rfl rfl) (km_T (m := mk_26) rfl rfl) [] (km_T (m := mk_25) rfl rfl) (km_T (m := mk_25) rfl rfl) (km_cov (m := mk_26) (n := mk_25) rfl rfl) (km_dis (m := mk_26) (n := mk_25) rfl) rfl (fun H locs hP hD hS br4 => ?_)
      have h := Option.some.inj h
      subst h
      exact kret_i (v := r4) hx hb hr rfl hlocks hS hP dX3_at_33
    · have h := g_f c2 h
      refine lv_iconst (v := 0) hx hb dX3_at_19 (by decide) ?_
      refine lv_goto (tgt := 33) hx hb dX3_at_20 (by decide) ?_
      have h := Option.some.inj h
      subst h
      exact kret_i (v := 0) hx hb hr rfl hlocks hS hP dX3_at_33
  have hl := lv_entry ([.ref (b 0), .int p0]) (n := 2) (Nat.le_of_ble_eq_true rfl)
  rw [lg_entry_eq]
  generalize (lg_sl ([.ref (b 0), .int p0]) ++ List.replicate (2 - (lg_sl ([.ref (b 0), .int p0])).length) Slot.unset).toArray = ls at hl ⊢
  have hl : lv_has ls 2 [(0, .ref (b 0)), (1, .int p0)] := hl
  have h := f_X3_at_e.symm.trans hf
  refine lv_aload_n hx hb dX3_at_0 rfl (lv_at hl 0 rfl) ?_
  refine lv_iload_n hx hb dX3_at_1 rfl (lv_at hl 1 rfl) ?_
  obtain ⟨r1, g1, h⟩ := g_b h
  refine kcall_i (wMo cJ cZ b mce mfr mun mbe men mov msp mwb mwe mwi mac mre mkn mth) (va_runS (As := [.int p0]) (rest := [.ref (b 0)]) ⟨hx, hb, hml, hown, hts⟩ (c_X3_is l dC dI cB cI cJ cZ  _  p0 r1 g1) (kcwS hts kw_1123 kv_X3_is rfl rfl ⟨(Nat.le_of_ble_eq_true rfl), (Nat.le_of_ble_eq_true rfl)⟩) (kpS (A := A) (kPnil) hK ((kDnil (A := A))) hG) rfl rfl hl.1 rfl (lv_room (Nat.le_of_ble_eq_true rfl)) dX3_at_2 ⟨(Nat.le_of_ble_eq_true rfl), (Nat.le_of_ble_eq_true rfl)⟩) hP hD hS hA (kIT mk_25 0) (kIT mk_26 0) (km_T (m := mk_25) rfl rfl) (km_T (m := mk_25) rfl rfl) [((b 0), .inr (5, [.ref (b 1), .long mfr, .long mun, .ref (b 2), .ref (b 3), .ref (b 4), .int msp, .ref (b 5), .ref (b 6), .int mwi, .int mac, .int mre, .int mkn, .int mth])), ((b 1), .inl (cJ, 4, .inr (.inl mce))), ((b 2), .inl (cJ, 10, .inr (.inl mbe))), ((b 3), .inl (cJ, 10, .inr (.inl men))), ((b 4), .inl (cZ, 10, .inl mov)), ((b 5), .inl (cJ, 8, .inr (.inl mwb))), ((b 6), .inl (cJ, 8, .inr (.inl mwe)))] (km_T (m := mk_26) rfl rfl) (km_T (m := mk_26) rfl rfl) (km_cov (m := mk_25) (n := mk_26) rfl rfl) (km_dis (m := mk_25) (n := mk_26) rfl) rfl (fun H locs hP hD hS br1 => ?_)
  refine lv_if_ne (tgt := 12) hx hb dX3_at_5 (by decide) (fun c2 => ?_) (fun c2 => ?_)
  · have h := g_f c2 h
    refine lv_iconst (v := 0) hx hb dX3_at_12 (by decide) ?_
    exact J13 mce mfr mun mbe men mov msp mwb mwe mwi mac mre mkn mth p0 0 _ _ hP hD hS ls (lv_sub hl [0, 1] rfl) h
  · have h := g_t c2 h
    refine lv_iconst (v := 1) hx hb dX3_at_8 (by decide) ?_
    refine lv_goto (tgt := 13) hx hb dX3_at_9 (by decide) ?_
    exact J13 mce mfr mun mbe men mov msp mwb mwe mwi mac mre mkn mth p0 1 _ _ hP hD hS ls (lv_sub hl [0, 1] rfl) h
abbrev wsX3_deepest_ : List Cond := kWs yX3_deepest_ cX3_deepest_ 1 (some .int)
def f_X3_deepest_ (mbe : Nat → Int64) (men : Nat → Int64) (msp : Int32) : Option ((Int32) × (Int32)) :=
  (f_X3_deepest 10 10 mbe men msp).bind fun r1 =>
  some (r1, 0)
theorem f_X3_deepest__e {mbe : Nat → Int64} {men : Nat → Int64} {msp : Int32} : f_X3_deepest_ mbe men msp = 
  (f_X3_deepest 10 10 mbe men msp).bind fun r1 =>
  some (r1, 0) := rfl
set_option maxHeartbeats 4000000 in
set_option maxRecDepth 100000 in
theorem c_X3_deepest_ (l : Launch) (dC : Nat → ClassId) (dI : Nat → Nat → Nat) (cB cI cJ cZ : ClassId) (b : Nat → Nat) (sz : Nat) (mce : Nat → Int64) (mfr : Int64) (mun : Int64) (mbe : Nat → Int64) (men : Nat → Int64) (mov : Nat → Int32) (msp : Int32) (mwb : Nat → Int64) (mwe : Nat → Int64) (mwi : Int32) (mac : Int32) (mre : Int32) (mkn : Int32) (mth : Int32) (res : (Int32) × (Int32)) (hf : f_X3_deepest_ mbe men msp = some res) : Met l yX3_deepest_ wsX3_deepest_ ({ frames := 2, cells := 0, slots := 0, locals := 66 } : Room) (kPre (dC, dI) (kTy cB cI cJ cZ) [.ref (b 0)] sz (wMo cJ cZ b mce mfr mun mbe men mov msp mwb mwe mwi mac mre mkn mth)) (kI (dC, dI) .int (res.1) (wMo cJ cZ b mce mfr mun mbe men mov msp mwb mwe mwi mac mre mkn (res.2)) (va_A (wMo cJ cZ b mce mfr mun mbe men mov msp mwb mwe mwi mac mre mkn mth) sz)) 0 0 (va_A (wMo cJ cZ b mce mfr mun mbe men mov msp mwb mwe mwi mac mre mkn mth) sz) := by
  refine Met.ofW (cc := cX3_deepest_) (maxL := 1) (ret := (some .int)) (by decide) rfl ?_
  intro p e s m args below meth c s₁ B hml hv
  obtain ⟨rfl, hsz, hP, hK, hD0, hG⟩ := hv
  have hx := B.exec
  have hb := B.bytes
  have hr := B.returns
  have hts := atoms_spec (ws := wsX3_deepest_) B.pre
  have hown : s.vm.findClass RX3 = some m.cls := findClass_of_methodNamed B.named
  have hlocks := B.notSynchronized
  subst hsz
  have hD := hD0.self (sz := s.heap.size)
  generalize hAe : va_A (wMo cJ cZ b mce mfr mun mbe men mov msp mwb mwe mwi mac mre mkn mth) s.heap.size = A at hD ⊢
  have hA : ∀ q : Nat, s.heap.size ≤ q → A q := fun q h => by rw [← hAe]; exact Or.inr h
  have hS : va_S A s.heap s.heap [] := va_S.rf
  clear hAe
  have hw0 := hts (.fieldLink RX3 35 "SpanbookerModel" "thrown" "I") (List.mem_cons_of_mem _ kw_1085)
  have hw1 := hts (.fieldLink RX3 19 "SpanbookerModel" "begins" "[J") (List.mem_cons_of_mem _ kw_1075)
  have hw2 := hts (.fieldLink RX3 22 "SpanbookerModel" "ends" "[J") (List.mem_cons_of_mem _ kw_1076)
  have hw3 := hts (.fieldLink RX3 56 "SpanbookerModel" "spans" "I") (List.mem_cons_of_mem _ kw_1078)
  have hiX3 : ∀ w ∈ u_ws RX3 TX3 14, w ∈ wsX3_deepest_ := fun w h => List.mem_cons_of_mem _ (ku_X3 w h)
  have hl := lv_entry ([.ref (b 0)]) (n := 1) (Nat.le_of_ble_eq_true rfl)
  rw [lg_entry_eq]
  generalize (lg_sl ([.ref (b 0)]) ++ List.replicate (1 - (lg_sl ([.ref (b 0)])).length) Slot.unset).toArray = ls at hl ⊢
  have hl : lv_has ls 1 [(0, .ref (b 0))] := hl
  have h := f_X3_deepest__e.symm.trans hf
  refine lv_aload_n hx hb dX3_deepest__0 rfl (lv_at hl 0 rfl) ?_
  refine lv_iconst (v := 0) hx hb dX3_deepest__1 (by decide) ?_
  refine va_put (D := (dC, dI)) (ci := 5) (v := .int 0) (ty := .int) (C := RX3) (T := TX3) (N := 14) hx hb hts hiX3 tyX3 tyX3_ok nmX3 hown hK hP hD hS 0 rfl rfl 13 (by decide) hw0 (fun _ h9 => h9) rfl (by decide +kernel) rfl rfl (Nat.le_of_ble_eq_true rfl) dX3_deepest__2 (fun H locs hP hD hS => ?_)
  have hP : va_P (dC, dI) vwCl (wMo cJ cZ b mce mfr mun mbe men mov msp mwb mwe mwi mac mre mkn 0) H := hP
  have hD : va_D A (wMo cJ cZ b mce mfr mun mbe men mov msp mwb mwe mwi mac mre mkn 0) := hD
  refine lv_aload_n hx hb dX3_deepest__5 rfl (lv_at hl 0 rfl) ?_
  refine va_get (D := (dC, dI)) (ci := 5) (v := .ref (b 2)) (C := RX3) (T := TX3) (N := 14) hx hb hts hiX3 hown hK hP 0 rfl rfl 3 (by decide) hw1 (fun _ h9 => h9) rfl dX3_deepest__6 ?_
  refine lv_aload_n hx hb dX3_deepest__9 rfl (lv_at hl 0 rfl) ?_
  refine va_get (D := (dC, dI)) (ci := 5) (v := .ref (b 3)) (C := RX3) (T := TX3) (N := 14) hx hb hts hiX3 hown hK hP 0 rfl rfl 4 (by decide) hw2 (fun _ h9 => h9) rfl dX3_deepest__10 ?_
  refine lv_aload_n hx hb dX3_deepest__13 rfl (lv_at hl 0 rfl) ?_
  refine va_get (D := (dC, dI)) (ci := 5) (v := .int msp) (C := RX3) (T := TX3) (N := 14) hx hb hts hiX3 hown hK hP 0 rfl rfl 6 (by decide) hw3 (fun _ h9 => h9) rfl dX3_deepest__14 ?_
  obtain ⟨r1, g1, h⟩ := g_b h
  refine kcall_i (wMo cJ cZ b mce mfr mun mbe men mov msp mwb mwe mwi mac mre mkn 0) (va_runS (As := [.ref (b 2), .ref (b 3), .int msp]) (rest := []) ⟨hx, hb, hml, hown, hts⟩ (c_X3_deepest l dC dI cB cI cJ cZ (b 2) 10 (b 3) 10 _ mbe men msp r1 g1) (kcwS hts kw_1352 kv_X3_deepest rfl rfl ⟨(Nat.le_of_ble_eq_true rfl), (Nat.le_of_ble_eq_true rfl)⟩) (kpS (A := A) (hP.sub (kIT mk_49 0) (km_f (m := mk_49) rfl rfl)) hK (hD.sub (kIT mk_49 0) (km_nd mk_49) (km_T (m := mk_49) rfl rfl)) hG) rfl rfl hl.1 rfl (lv_room (Nat.le_of_ble_eq_true rfl)) dX3_deepest__17 ⟨(Nat.le_of_ble_eq_true rfl), (Nat.le_of_ble_eq_true rfl)⟩) hP hD hS hA (kIT mk_49 0) (kIT mk_50 0) (km_T (m := mk_49) rfl rfl) (km_T (m := mk_49) rfl rfl) [((b 0), .inr (5, [.ref (b 1), .long mfr, .long mun, .ref (b 2), .ref (b 3), .ref (b 4), .int msp, .ref (b 5), .ref (b 6), .int mwi, .int mac, .int mre, .int mkn, .int 0])), ((b 1), .inl (cJ, 4, .inr (.inl mce))), ((b 4), .inl (cZ, 10, .inl mov)), ((b 5), .inl (cJ, 8, .inr (.inl mwb))), ((b 6), .inl (cJ, 8, .inr (.inl mwe)))] (km_T (m := mk_50) rfl rfl) (km_T (m := mk_50) rfl rfl) (km_cov (m := mk_49) (n := mk_50) rfl rfl) (km_dis (m := mk_49) (n := mk_50) rfl) rfl (fun H locs hP hD hS br1 => ?_)
  have h := Option.some.inj h
  subst h
  exact kret_i (v := r1) hx hb hr rfl hlocks hS hP dX3_deepest__20
abbrev wsX3_isFree : List Cond := kWs yX3_isFree cX3_isFree 3 (some .boolean)
def f_X3_isFree (mce : Nat → Int64) (mfr : Int64) (mun : Int64) (mbe : Nat → Int64) (men : Nat → Int64) (msp : Int32) (p0 : Int32) (p1 : Int32) : Option ((Int32) × (Int32)) :=
  (f_X3_areNone p0 p1).bind fun r1 =>
  if r1.1 = 0 then
    if ix p0 4 then
      if ix p1 4 then
        if (mce p1.toNatClampNeg) ≤ (mce p0.toNatClampNeg) then
          some (0, r1.2)
        else
          (f_X3_fits mfr mun mbe men msp (mce p0.toNatClampNeg) ((mce p1.toNatClampNeg) - (mce p0.toNatClampNeg))).bind fun r6 =>
          if r6 = 0 then
            some (0, r1.2)
          else
            some (1, r1.2)
      else none
    else none
  else
    some (0, r1.2)
theorem f_X3_isFree_e {mce : Nat → Int64} {mfr : Int64} {mun : Int64} {mbe : Nat → Int64} {men : Nat → Int64} {msp : Int32} {p0 : Int32} {p1 : Int32} : f_X3_isFree mce mfr mun mbe men msp p0 p1 = 
  (f_X3_areNone p0 p1).bind fun r1 =>
  if r1.1 = 0 then
    if ix p0 4 then
      if ix p1 4 then
        if (mce p1.toNatClampNeg) ≤ (mce p0.toNatClampNeg) then
          some (0, r1.2)
        else
          (f_X3_fits mfr mun mbe men msp (mce p0.toNatClampNeg) ((mce p1.toNatClampNeg) - (mce p0.toNatClampNeg))).bind fun r6 =>
          if r6 = 0 then
            some (0, r1.2)
          else
            some (1, r1.2)
      else none
    else none
  else
    some (0, r1.2) := rfl
set_option maxHeartbeats 4000000 in
set_option maxRecDepth 100000 in
theorem c_X3_isFree (l : Launch) (dC : Nat → ClassId) (dI : Nat → Nat → Nat) (cB cI cJ cZ : ClassId) (b : Nat → Nat) (sz : Nat) (mce : Nat → Int64) (mfr : Int64) (mun : Int64) (mbe : Nat → Int64) (men : Nat → Int64) (mov : Nat → Int32) (msp : Int32) (mwb : Nat → Int64) (mwe : Nat → Int64) (mwi : Int32) (mac : Int32) (mre : Int32) (mkn : Int32) (mth : Int32) (p0 : Int32) (p1 : Int32) (res : (Int32) × (Int32)) (hf : f_X3_isFree mce mfr mun mbe men msp p0 p1 = some res) : Met l yX3_isFree wsX3_isFree ({ frames := 3, cells := 0, slots := 0, locals := 77 } : Room) (kPre (dC, dI) (kTy cB cI cJ cZ) [.ref (b 0), .int p0, .int p1] sz (wMo cJ cZ b mce mfr mun mbe men mov msp mwb mwe mwi mac mre mkn mth)) (kI (dC, dI) .boolean (res.1) (wMo cJ cZ b mce mfr mun mbe men mov msp mwb mwe mwi mac mre mkn (res.2)) (va_A (wMo cJ cZ b mce mfr mun mbe men mov msp mwb mwe mwi mac mre mkn mth) sz)) 0 0 (va_A (wMo cJ cZ b mce mfr mun mbe men mov msp mwb mwe mwi mac mre mkn mth) sz) := by
  refine Met.ofW (cc := cX3_isFree) (maxL := 3) (ret := (some .boolean)) (by decide) rfl ?_
  intro p e s m args below meth c s₁ B hml hv
  obtain ⟨rfl, hsz, hP, hK, hD0, hG⟩ := hv
  have hx := B.exec
  have hb := B.bytes
  have hr := B.returns
  have hts := atoms_spec (ws := wsX3_isFree) B.pre
  have hown : s.vm.findClass RX3 = some m.cls := findClass_of_methodNamed B.named
  have hlocks := B.notSynchronized
  subst hsz
  have hD := hD0.self (sz := s.heap.size)
  generalize hAe : va_A (wMo cJ cZ b mce mfr mun mbe men mov msp mwb mwe mwi mac mre mkn mth) s.heap.size = A at hD ⊢
  have hA : ∀ q : Nat, s.heap.size ≤ q → A q := fun q h => by rw [← hAe]; exact Or.inr h
  have hS : va_S A s.heap s.heap [] := va_S.rf
  clear hAe
  have hw0 := hts (.fieldLink RX3 7 "SpanbookerModel" "cells" "[J") (List.mem_cons_of_mem _ kw_1072)
  have hiX3 : ∀ w ∈ u_ws RX3 TX3 14, w ∈ wsX3_isFree := fun w h => List.mem_cons_of_mem _ (ku_X3 w h)
  have hl := lv_entry ([.ref (b 0), .int p0, .int p1]) (n := 3) (Nat.le_of_ble_eq_true rfl)
  rw [lg_entry_eq]
  generalize (lg_sl ([.ref (b 0), .int p0, .int p1]) ++ List.replicate (3 - (lg_sl ([.ref (b 0), .int p0, .int p1])).length) Slot.unset).toArray = ls at hl ⊢
  have hl : lv_has ls 3 [(0, .ref (b 0)), (1, .int p0), (2, .int p1)] := hl
  have h := f_X3_isFree_e.symm.trans hf
  refine lv_aload_n hx hb dX3_isFree_0 rfl (lv_at hl 0 rfl) ?_
  refine lv_iload_n hx hb dX3_isFree_1 rfl (lv_at hl 1 rfl) ?_
  refine lv_iload_n hx hb dX3_isFree_2 rfl (lv_at hl 2 rfl) ?_
  obtain ⟨r1, g1, h⟩ := g_b h
  refine kcall_i (wMo cJ cZ b mce mfr mun mbe men mov msp mwb mwe mwi mac mre mkn r1.2) (va_runV (As := [.int p0, .int p1]) (rest := []) ⟨hx, hb, hml, hown, hts⟩ (c_X3_areNone l dC dI cB cI cJ cZ b _ mce mfr mun mbe men mov msp mwb mwe mwi mac mre mkn mth p0 p1 r1 g1) (kcwV hts kw_1297 kv_X3_areNone rfl rfl ⟨(Nat.le_of_ble_eq_true rfl), (Nat.le_of_ble_eq_true rfl)⟩) (kpV (A := A) (hP.sub (kIT mk_26 0) (km_f (m := mk_26) rfl rfl)) hK (hD.sub (kIT mk_26 0) (km_nd mk_26) (km_T (m := mk_26) rfl rfl)) hG (va_recv hK hP (ci := 5) (q0 := 0) rfl rfl)) rfl rfl hl.1 rfl (lv_room (Nat.le_of_ble_eq_true rfl)) dX3_isFree_3 ⟨(Nat.le_of_ble_eq_true rfl), (Nat.le_of_ble_eq_true rfl)⟩) hP hD hS hA (kIT mk_26 0) (kIT mk_25 0) (km_T (m := mk_26) rfl rfl) (km_T (m := mk_26) rfl rfl) [] (km_T (m := mk_25) rfl rfl) (km_T (m := mk_25) rfl rfl) (km_cov (m := mk_26) (n := mk_25) rfl rfl) (km_dis (m := mk_26) (n := mk_25) rfl) rfl (fun H locs hP hD hS br1 => ?_)
  refine lv_if_ne (tgt := 55) hx hb dX3_isFree_6 (by decide) (fun c2 => ?_) (fun c2 => ?_)
  · have h := g_f c2 h
    refine lv_iconst (v := 0) hx hb dX3_isFree_55 (by decide) ?_
    have h := Option.some.inj h
    subst h
    exact kret_i (v := 0) hx hb hr rfl hlocks hS hP dX3_isFree_56
  · have h := g_t c2 h
    refine lv_aload_n hx hb dX3_isFree_9 rfl (lv_at hl 0 rfl) ?_
    refine va_get (D := (dC, dI)) (ci := 5) (v := .ref (b 1)) (C := RX3) (T := TX3) (N := 14) hx hb hts hiX3 hown hK hP 0 rfl rfl 0 (by decide) hw0 (fun _ h9 => h9) rfl dX3_isFree_10 ?_
    refine lv_iload_n hx hb dX3_isFree_13 rfl (lv_at hl 1 rfl) ?_
    obtain ⟨z2, h⟩ := g_if h
    refine va_lald hx hb hK hP 1 2 rfl rfl (ix_in z2) dX3_isFree_14 ?_
    refine lv_aload_n hx hb dX3_isFree_15 rfl (lv_at hl 0 rfl) ?_
    refine va_get (D := (dC, dI)) (ci := 5) (v := .ref (b 1)) (C := RX3) (T := TX3) (N := 14) hx hb hts hiX3 hown hK hP 0 rfl rfl 0 (by decide) hw0 (fun _ h9 => h9) rfl dX3_isFree_16 ?_
    refine lv_iload_n hx hb dX3_isFree_19 rfl (lv_at hl 2 rfl) ?_
    obtain ⟨z3, h⟩ := g_if h
    refine va_lald hx hb hK hP 1 2 rfl rfl (ix_in z3) dX3_isFree_20 ?_
    refine kl_ge (pc := 21) (tgt := 55) hx hb dX3_isFree_21 dX3_isFree_22 (by decide) (fun c5 => ?_) (fun c5 => ?_)
    · have h := g_t c5 h
      refine lv_iconst (v := 0) hx hb dX3_isFree_55 (by decide) ?_
      have h := Option.some.inj h
      subst h
      exact kret_i (v := 0) hx hb hr rfl hlocks hS hP dX3_isFree_56
    · have h := g_f c5 h
      refine lv_aload_n hx hb dX3_isFree_25 rfl (lv_at hl 0 rfl) ?_
      refine lv_aload_n hx hb dX3_isFree_26 rfl (lv_at hl 0 rfl) ?_
      refine va_get (D := (dC, dI)) (ci := 5) (v := .ref (b 1)) (C := RX3) (T := TX3) (N := 14) hx hb hts hiX3 hown hK hP 0 rfl rfl 0 (by decide) hw0 (fun _ h9 => h9) rfl dX3_isFree_27 ?_
      refine lv_iload_n hx hb dX3_isFree_30 rfl (lv_at hl 1 rfl) ?_
      refine va_lald hx hb hK hP 1 2 rfl rfl (ix_in z2) dX3_isFree_31 ?_
      refine lv_aload_n hx hb dX3_isFree_32 rfl (lv_at hl 0 rfl) ?_
      refine va_get (D := (dC, dI)) (ci := 5) (v := .ref (b 1)) (C := RX3) (T := TX3) (N := 14) hx hb hts hiX3 hown hK hP 0 rfl rfl 0 (by decide) hw0 (fun _ h9 => h9) rfl dX3_isFree_33 ?_
      refine lv_iload_n hx hb dX3_isFree_36 rfl (lv_at hl 2 rfl) ?_
      refine va_lald hx hb hK hP 1 2 rfl rfl (ix_in z3) dX3_isFree_37 ?_
      refine lv_aload_n hx hb dX3_isFree_38 rfl (lv_at hl 0 rfl) ?_
      refine va_get (D := (dC, dI)) (ci := 5) (v := .ref (b 1)) (C := RX3) (T := TX3) (N := 14) hx hb hts hiX3 hown hK hP 0 rfl rfl 0 (by decide) hw0 (fun _ h9 => h9) rfl dX3_isFree_39 ?_
      refine lv_iload_n hx hb dX3_isFree_42 rfl (lv_at hl 1 rfl) ?_
      refine va_lald hx hb hK hP 1 2 rfl rfl (ix_in z2) dX3_isFree_43 ?_
      refine lv_lsub hx hb dX3_isFree_44 ?_
      obtain ⟨r6, g6, h⟩ := g_b h
      refine kcall_i (wMo cJ cZ b mce mfr mun mbe men mov msp mwb mwe mwi mac mre mkn r1.2) (va_runV (As := [.long (mce p0.toNatClampNeg), .long ((mce p1.toNatClampNeg) - (mce p0.toNatClampNeg))]) (rest := []) ⟨hx, hb, hml, hown, hts⟩ (c_X3_fits l dC dI cB cI cJ cZ b _ mce mfr mun mbe men mov msp mwb mwe mwi mac mre mkn r1.2 (mce p0.toNatClampNeg) ((mce p1.toNatClampNeg) - (mce p0.toNatClampNeg)) r6 g6) (kcwV hts kw_1247 kv_X3_fits rfl rfl ⟨(Nat.le_of_ble_eq_true rfl), (Nat.le_of_ble_eq_true rfl)⟩) (kpV (A := A) (hP.sub (kIT mk_26 0) (km_f (m := mk_26) rfl rfl)) hK (hD.sub (kIT mk_26 0) (km_nd mk_26) (km_T (m := mk_26) rfl rfl)) hG (va_recv hK hP (ci := 5) (q0 := 0) rfl rfl)) rfl rfl hl.1 rfl (lv_room (Nat.le_of_ble_eq_true rfl)) dX3_isFree_45 ⟨(Nat.le_of_ble_eq_true rfl), (Nat.le_of_ble_eq_true rfl)⟩) hP hD hS hA (kIT mk_26 0) (kIT mk_25 0) (km_T (m := mk_26) rfl rfl) (km_T (m := mk_26) rfl rfl) [] (km_T (m := mk_25) rfl rfl) (km_T (m := mk_25) rfl rfl) (km_cov (m := mk_26) (n := mk_25) rfl rfl) (km_dis (m := mk_26) (n := mk_25) rfl) rfl (fun H locs hP hD hS br6 => ?_)
      refine lv_if_eq (tgt := 55) hx hb dX3_isFree_48 (by decide) (fun c7 => ?_) (fun c7 => ?_)
      · have h := g_t c7 h
        refine lv_iconst (v := 0) hx hb dX3_isFree_55 (by decide) ?_
        have h := Option.some.inj h
        subst h
        exact kret_i (v := 0) hx hb hr rfl hlocks hS hP dX3_isFree_56
      · have h := g_f c7 h
        refine lv_iconst (v := 1) hx hb dX3_isFree_51 (by decide) ?_
        refine lv_goto (tgt := 56) hx hb dX3_isFree_52 (by decide) ?_
        have h := Option.some.inj h
        subst h
        exact kret_i (v := 1) hx hb hr rfl hlocks hS hP dX3_isFree_56
abbrev wsX3_frees : List Cond := kWs yX3_frees cX3_frees 1 (some .int)
def f_X3_frees (mfr : Int64) (mun : Int64) (mbe : Nat → Int64) (men : Nat → Int64) (msp : Int32) : Option ((Int32) × (Int32)) :=
  (f_X3_free mfr mun mbe men msp).bind fun r1 =>
  (f_X3_freesOf 22 r1).bind fun r2 =>
  some (r2, 0)
theorem f_X3_frees_e {mfr : Int64} {mun : Int64} {mbe : Nat → Int64} {men : Nat → Int64} {msp : Int32} : f_X3_frees mfr mun mbe men msp = 
  (f_X3_free mfr mun mbe men msp).bind fun r1 =>
  (f_X3_freesOf 22 r1).bind fun r2 =>
  some (r2, 0) := rfl
set_option maxHeartbeats 4000000 in
set_option maxRecDepth 100000 in
theorem c_X3_frees (l : Launch) (dC : Nat → ClassId) (dI : Nat → Nat → Nat) (cB cI cJ cZ : ClassId) (b : Nat → Nat) (sz : Nat) (mce : Nat → Int64) (mfr : Int64) (mun : Int64) (mbe : Nat → Int64) (men : Nat → Int64) (mov : Nat → Int32) (msp : Int32) (mwb : Nat → Int64) (mwe : Nat → Int64) (mwi : Int32) (mac : Int32) (mre : Int32) (mkn : Int32) (mth : Int32) (res : (Int32) × (Int32)) (hf : f_X3_frees mfr mun mbe men msp = some res) : Met l yX3_frees wsX3_frees ({ frames := 2, cells := 1, slots := 22, locals := 49 } : Room) (kPre (dC, dI) (kTy cB cI cJ cZ) [.ref (b 0)] sz (wMo cJ cZ b mce mfr mun mbe men mov msp mwb mwe mwi mac mre mkn mth)) (kI (dC, dI) .int (res.1) (wMo cJ cZ b mce mfr mun mbe men mov msp mwb mwe mwi mac mre mkn (res.2)) (va_A (wMo cJ cZ b mce mfr mun mbe men mov msp mwb mwe mwi mac mre mkn mth) sz)) 1 22 (va_A (wMo cJ cZ b mce mfr mun mbe men mov msp mwb mwe mwi mac mre mkn mth) sz) := by
  refine Met.ofW (cc := cX3_frees) (maxL := 1) (ret := (some .int)) (by decide) rfl ?_
  intro p e s m args below meth c s₁ B hml hv
  obtain ⟨rfl, hsz, hP, hK, hD0, hG⟩ := hv
  have hx := B.exec
  have hb := B.bytes
  have hr := B.returns
  have hts := atoms_spec (ws := wsX3_frees) B.pre
  have hown : s.vm.findClass RX3 = some m.cls := findClass_of_methodNamed B.named
  have hlocks := B.notSynchronized
  subst hsz
  have hD := hD0.self (sz := s.heap.size)
  generalize hAe : va_A (wMo cJ cZ b mce mfr mun mbe men mov msp mwb mwe mwi mac mre mkn mth) s.heap.size = A at hD ⊢
  have hA : ∀ q : Nat, s.heap.size ≤ q → A q := fun q h => by rw [← hAe]; exact Or.inr h
  have hS : va_S A s.heap s.heap [] := va_S.rf
  clear hAe
  have hw0 := hts (.fieldLink RX3 35 "SpanbookerModel" "thrown" "I") (List.mem_cons_of_mem _ kw_1085)
  have hiX3 : ∀ w ∈ u_ws RX3 TX3 14, w ∈ wsX3_frees := fun w h => List.mem_cons_of_mem _ (ku_X3 w h)
  have hl := lv_entry ([.ref (b 0)]) (n := 1) (Nat.le_of_ble_eq_true rfl)
  rw [lg_entry_eq]
  generalize (lg_sl ([.ref (b 0)]) ++ List.replicate (1 - (lg_sl ([.ref (b 0)])).length) Slot.unset).toArray = ls at hl ⊢
  have hl : lv_has ls 1 [(0, .ref (b 0))] := hl
  have h := f_X3_frees_e.symm.trans hf
  refine lv_aload_n hx hb dX3_frees_0 rfl (lv_at hl 0 rfl) ?_
  refine lv_iconst (v := 0) hx hb dX3_frees_1 (by decide) ?_
  refine va_put (D := (dC, dI)) (ci := 5) (v := .int 0) (ty := .int) (C := RX3) (T := TX3) (N := 14) hx hb hts hiX3 tyX3 tyX3_ok nmX3 hown hK hP hD hS 0 rfl rfl 13 (by decide) hw0 (fun _ h9 => h9) rfl (by decide +kernel) rfl rfl (Nat.le_of_ble_eq_true rfl) dX3_frees_2 (fun H locs hP hD hS => ?_)
  have hP : va_P (dC, dI) vwCl (wMo cJ cZ b mce mfr mun mbe men mov msp mwb mwe mwi mac mre mkn 0) H := hP
  have hD : va_D A (wMo cJ cZ b mce mfr mun mbe men mov msp mwb mwe mwi mac mre mkn 0) := hD
  refine lv_aload_n hx hb dX3_frees_5 rfl (lv_at hl 0 rfl) ?_
  obtain ⟨r1, g1, h⟩ := g_b h
  refine kcall_r (wMo cJ cZ b mce mfr mun mbe men mov msp mwb mwe mwi mac mre mkn 0) (va_runV (As := []) (rest := []) ⟨hx, hb, hml, hown, hts⟩ (c_X3_free l dC dI cB cI cJ cZ b _ mce mfr mun mbe men mov msp mwb mwe mwi mac mre mkn 0  r1 g1) (kcwV hts kw_1364 kv_X3_free rfl rfl ⟨(Nat.le_of_ble_eq_true rfl), (Nat.le_of_ble_eq_true rfl)⟩) (kpV (A := A) (hP.sub [0, 1, 2, 3, 4, 5, 6] rfl) hK (hD.sub [0, 1, 2, 3, 4, 5, 6] (by decide) rfl) hG (va_recv hK hP (ci := 5) (q0 := 0) rfl rfl)) rfl rfl hl.1 rfl (lv_room (Nat.le_of_ble_eq_true rfl)) dX3_frees_6 ⟨(Nat.le_of_ble_eq_true rfl), (Nat.le_of_ble_eq_true rfl)⟩) hP hD hS hA [0, 1, 2, 3, 4, 5, 6] [] rfl rfl [] rfl rfl rfl (by decide) rfl rfl (fun qn0 H locs hP hD hS => ?_)
  have hP : va_P (dC, dI) vwCl ((wMo cJ cZ b mce mfr mun mbe men mov msp mwb mwe mwi mac mre mkn 0) ++ [(qn0, .inl (cJ, 22, .inr (.inl r1)))]) H := hP
  have hD : va_D A ((wMo cJ cZ b mce mfr mun mbe men mov msp mwb mwe mwi mac mre mkn 0) ++ [(qn0, .inl (cJ, 22, .inr (.inl r1)))]) := hD
  obtain ⟨r2, g2, h⟩ := g_b h
  refine kcall_i ((wMo cJ cZ b mce mfr mun mbe men mov msp mwb mwe mwi mac mre mkn 0) ++ [(qn0, .inl (cJ, 22, .inr (.inl r1)))]) (va_runS (As := [.ref qn0]) (rest := []) ⟨hx, hb, hml, hown, hts⟩ (c_X3_freesOf l dC dI cB cI cJ cZ qn0 22 _ r1  r2 g2) (kcwS hts kw_1368 kv_X3_freesOf rfl rfl ⟨(Nat.le_of_ble_eq_true rfl), (Nat.le_of_ble_eq_true rfl)⟩) (kpS (A := A) (hP.sub (kIT mk_28 0) (km_f (m := mk_28) rfl rfl)) hK (hD.sub (kIT mk_28 0) (km_nd mk_28) (km_T (m := mk_28) rfl rfl)) hG) rfl rfl hl.1 rfl (lv_room (Nat.le_of_ble_eq_true rfl)) dX3_frees_9 ⟨(Nat.le_of_ble_eq_true rfl), (Nat.le_of_ble_eq_true rfl)⟩) hP hD hS hA (kIT mk_28 0) (kIT mk_27 0) (km_T (m := mk_28) rfl rfl) (km_T (m := mk_28) rfl rfl) [((b 0), .inr (5, [.ref (b 1), .long mfr, .long mun, .ref (b 2), .ref (b 3), .ref (b 4), .int msp, .ref (b 5), .ref (b 6), .int mwi, .int mac, .int mre, .int mkn, .int 0])), ((b 1), .inl (cJ, 4, .inr (.inl mce))), ((b 2), .inl (cJ, 10, .inr (.inl mbe))), ((b 3), .inl (cJ, 10, .inr (.inl men))), ((b 4), .inl (cZ, 10, .inl mov)), ((b 5), .inl (cJ, 8, .inr (.inl mwb))), ((b 6), .inl (cJ, 8, .inr (.inl mwe)))] (km_T (m := mk_27) rfl rfl) (km_T (m := mk_27) rfl rfl) (km_cov (m := mk_28) (n := mk_27) rfl rfl) (km_dis (m := mk_28) (n := mk_27) rfl) rfl (fun H locs hP hD hS br2 => ?_)
  have hP := hP.sub (ws' := (wMo cJ cZ b mce mfr mun mbe men mov msp mwb mwe mwi mac mre mkn 0)) [0, 1, 2, 3, 4, 5, 6] rfl
  have h := Option.some.inj h
  subst h
  refine W.widen (k := 1) (n := 22) (Nat.le_of_ble_eq_true rfl) (Nat.le_of_ble_eq_true rfl) ?_
  exact kret_i (v := r2) hx hb hr rfl hlocks hS hP dX3_frees_12
abbrev wsX3_ofFree : List Cond := kWs yX3_ofFree cX3_ofFree 4 (some .int)
def f_X3_ofFree_37 (ext0 : Nat → Int64) (x1 : Int32) (x2 : Int32) (y0 : Int32) (y1 : Int32) : Option ((Int32) × (Int32)) :=
  (f_X3_isThrown y1 y0).bind fun r1 =>
  if r1.1 = 0 then
    if ix ((2 * x1) + (x2 / 2)) 22 then
      (f_X3_half (ext0 ((2 * x1) + (x2 / 2)).toNatClampNeg) x2).bind fun r4 =>
      some (r4, r1.2)
    else none
  else
    some (0, r1.2)
theorem f_X3_ofFree_37_e {ext0 : Nat → Int64} {x1 : Int32} {x2 : Int32} {y0 : Int32} {y1 : Int32} : f_X3_ofFree_37 ext0 x1 x2 y0 y1 =
  (f_X3_isThrown y1 y0).bind fun r1 =>
  if r1.1 = 0 then
    if ix ((2 * x1) + (x2 / 2)) 22 then
      (f_X3_half (ext0 ((2 * x1) + (x2 / 2)).toNatClampNeg) x2).bind fun r4 =>
      some (r4, r1.2)
    else none
  else
    some (0, r1.2) := rfl
def f_X3_ofFree_32 (ext0 : Nat → Int64) (x1 : Int32) (x2 : Int32) (y0 : Int32) : Option ((Int32) × (Int32)) :=
  f_X3_ofFree_37 ext0 x1 x2 1 y0
theorem f_X3_ofFree_32_e {ext0 : Nat → Int64} {x1 : Int32} {x2 : Int32} {y0 : Int32} : f_X3_ofFree_32 ext0 x1 x2 y0 =
  f_X3_ofFree_37 ext0 x1 x2 1 y0 := rfl
def f_X3_ofFree_23 (ext0 : Nat → Int64) (x1 : Int32) (x2 : Int32) (y0 : Int32) : Option ((Int32) × (Int32)) :=
  if x2 < 0 then
    f_X3_ofFree_32 ext0 x1 x2 y0
  else
    if x2 ≤ 3 then
      f_X3_ofFree_37 ext0 x1 x2 0 y0
    else
      f_X3_ofFree_32 ext0 x1 x2 y0
theorem f_X3_ofFree_23_e {ext0 : Nat → Int64} {x1 : Int32} {x2 : Int32} {y0 : Int32} : f_X3_ofFree_23 ext0 x1 x2 y0 =
  if x2 < 0 then
    f_X3_ofFree_32 ext0 x1 x2 y0
  else
    if x2 ≤ 3 then
      f_X3_ofFree_37 ext0 x1 x2 0 y0
    else
      f_X3_ofFree_32 ext0 x1 x2 y0 := rfl
def f_X3_ofFree_18 (ext0 : Nat → Int64) (x1 : Int32) (x2 : Int32) : Option ((Int32) × (Int32)) :=
  f_X3_ofFree_23 ext0 x1 x2 1
theorem f_X3_ofFree_18_e {ext0 : Nat → Int64} {x1 : Int32} {x2 : Int32} : f_X3_ofFree_18 ext0 x1 x2 =
  f_X3_ofFree_23 ext0 x1 x2 1 := rfl
def f_X3_ofFree (mfr : Int64) (mun : Int64) (mbe : Nat → Int64) (men : Nat → Int64) (msp : Int32) (p0 : Int32) (p1 : Int32) : Option ((Int32) × (Int32)) :=
  (f_X3_free mfr mun mbe men msp).bind fun r1 =>
  if p0 < 0 then
    f_X3_ofFree_18 r1 p0 p1
  else
    (f_X3_freesOf 22 r1).bind fun r3 =>
    if p0 < r3 then
      f_X3_ofFree_23 r1 p0 p1 0
    else
      f_X3_ofFree_18 r1 p0 p1
theorem f_X3_ofFree_e {mfr : Int64} {mun : Int64} {mbe : Nat → Int64} {men : Nat → Int64} {msp : Int32} {p0 : Int32} {p1 : Int32} : f_X3_ofFree mfr mun mbe men msp p0 p1 = 
  (f_X3_free mfr mun mbe men msp).bind fun r1 =>
  if p0 < 0 then
    f_X3_ofFree_18 r1 p0 p1
  else
    (f_X3_freesOf 22 r1).bind fun r3 =>
    if p0 < r3 then
      f_X3_ofFree_23 r1 p0 p1 0
    else
      f_X3_ofFree_18 r1 p0 p1 := rfl
set_option maxHeartbeats 4000000 in
set_option maxRecDepth 100000 in
theorem c_X3_ofFree (l : Launch) (dC : Nat → ClassId) (dI : Nat → Nat → Nat) (cB cI cJ cZ : ClassId) (b : Nat → Nat) (sz : Nat) (mce : Nat → Int64) (mfr : Int64) (mun : Int64) (mbe : Nat → Int64) (men : Nat → Int64) (mov : Nat → Int32) (msp : Int32) (mwb : Nat → Int64) (mwe : Nat → Int64) (mwi : Int32) (mac : Int32) (mre : Int32) (mkn : Int32) (mth : Int32) (p0 : Int32) (p1 : Int32) (res : (Int32) × (Int32)) (hf : f_X3_ofFree mfr mun mbe men msp p0 p1 = some res) : Met l yX3_ofFree wsX3_ofFree ({ frames := 3, cells := 1, slots := 22, locals := 64 } : Room) (kPre (dC, dI) (kTy cB cI cJ cZ) [.ref (b 0), .int p0, .int p1] sz (wMo cJ cZ b mce mfr mun mbe men mov msp mwb mwe mwi mac mre mkn mth)) (kI (dC, dI) .int (res.1) (wMo cJ cZ b mce mfr mun mbe men mov msp mwb mwe mwi mac mre mkn (res.2)) (va_A (wMo cJ cZ b mce mfr mun mbe men mov msp mwb mwe mwi mac mre mkn mth) sz)) 1 22 (va_A (wMo cJ cZ b mce mfr mun mbe men mov msp mwb mwe mwi mac mre mkn mth) sz) := by
  refine Met.ofW (cc := cX3_ofFree) (maxL := 4) (ret := (some .int)) (by decide) rfl ?_
  intro p e s m args below meth c s₁ B hml hv
  obtain ⟨rfl, hsz, hP, hK, hD0, hG⟩ := hv
  have hx := B.exec
  have hb := B.bytes
  have hr := B.returns
  have hts := atoms_spec (ws := wsX3_ofFree) B.pre
  have hown : s.vm.findClass RX3 = some m.cls := findClass_of_methodNamed B.named
  have hlocks := B.notSynchronized
  subst hsz
  have hD := hD0.self (sz := s.heap.size)
  generalize hAe : va_A (wMo cJ cZ b mce mfr mun mbe men mov msp mwb mwe mwi mac mre mkn mth) s.heap.size = A at hD ⊢
  have hA : ∀ q : Nat, s.heap.size ≤ q → A q := fun q h => by rw [← hAe]; exact Or.inr h
  have hS : va_S A s.heap s.heap [] := va_S.rf
  clear hAe
  have J37 : ∀ (mce : Nat → Int64) (mfr : Int64) (mun : Int64) (mbe : Nat → Int64) (men : Nat → Int64) (mov : Nat → Int32) (msp : Int32) (mwb : Nat → Int64) (mwe : Nat → Int64) (mwi : Int32) (mac : Int32) (mre : Int32) (mkn : Int32) (mth : Int32) (ext0 : Nat → Int64) (x1 : Int32) (x2 : Int32) (y0 : Int32) (y1 : Int32) (qn0 : Nat) (H : Heap) (locs : List Loc), va_P (dC, dI) vwCl ((wMo cJ cZ b mce mfr mun mbe men mov msp mwb mwe mwi mac mre mkn mth) ++ [(qn0, .inl (cJ, 22, .inr (.inl ext0)))]) H → va_D A ((wMo cJ cZ b mce mfr mun mbe men mov msp mwb mwe mwi mac mre mkn mth) ++ [(qn0, .inl (cJ, 22, .inr (.inl ext0)))]) → va_S A s.heap H locs → ∀ (ls : Array Slot), lv_has ls 4 [(1, .int x1), (2, .int x2), (3, .ref qn0)] → f_X3_ofFree_37 ext0 x1 x2 y0 y1 = some res → W p l e (headSpec wsX3_ofFree ({ frames := 3, cells := 1, slots := 22, locals := 64 } : Room)).room s m ([.ref (b 0), .int p0, .int p1] : List Value).toArray below meth c H locs 1 22 (MQ below (kI (dC, dI) .int (res.1) (wMo cJ cZ b mce mfr mun mbe men mov msp mwb mwe mwi mac mre mkn (res.2)) A) ([.ref (b 0), .int p0, .int p1] : List Value).toArray s 1 22 A) (F0 m 37 ls [.int y0, .int y1, .ref (b 0)]) := by
    intro mce mfr mun mbe men mov msp mwb mwe mwi mac mre mkn mth ext0 x1 x2 y0 y1 qn0 H locs hP hD hS ls hl h
    have h := f_X3_ofFree_37_e.symm.trans h
    obtain ⟨r1, g1, h⟩ := g_b h
    refine kcall_i ((wMo cJ cZ b mce mfr mun mbe men mov msp mwb mwe mwi mac mre mkn r1.2) ++ [(qn0, .inl (cJ, 22, .inr (.inl ext0)))]) (va_runV (As := [.int y1, .int y0]) (rest := []) ⟨hx, hb, hml, hown, hts⟩ (c_X3_isThrown l dC dI cB cI cJ cZ b _ mce mfr mun mbe men mov msp mwb mwe mwi mac mre mkn mth y1 y0 r1 g1) (kcwV hts kw_1130 kv_X3_isThrown rfl rfl ⟨(Nat.le_of_ble_eq_true rfl), (Nat.le_of_ble_eq_true rfl)⟩) (kpV (A := A) (hP.sub (kIT mk_27 0) (km_f (m := mk_27) rfl rfl)) hK (hD.sub (kIT mk_27 0) (km_nd mk_27) (km_T (m := mk_27) rfl rfl)) hG (va_recv hK hP (ci := 5) (q0 := 0) rfl rfl)) rfl rfl hl.1 rfl (lv_room (Nat.le_of_ble_eq_true rfl)) dX3_ofFree_37 ⟨(Nat.le_of_ble_eq_true rfl), (Nat.le_of_ble_eq_true rfl)⟩) hP hD hS hA (kIT mk_27 0) (kIT mk_28 0) (km_T (m := mk_27) rfl rfl) (km_T (m := mk_27) rfl rfl) [(qn0, .inl (cJ, 22, .inr (.inl ext0)))] (km_T (m := mk_28) rfl rfl) (km_T (m := mk_28) rfl rfl) (km_cov (m := mk_27) (n := mk_28) rfl rfl) (km_dis (m := mk_27) (n := mk_28) rfl) rfl (fun H locs hP hD hS br1 => ?_)
    refine lv_if_eq (tgt := 45) hx hb dX3_ofFree_40 (by decide) (fun c2 => ?_) (fun c2 => ?_)
    · have h := g_t c2 h
      refine lv_aload_n hx hb dX3_ofFree_45 rfl (lv_at hl 2 rfl) ?_
      refine lv_iconst (v := 2) hx hb dX3_ofFree_46 (by decide) ?_
      refine lv_iload_n hx hb dX3_ofFree_47 rfl (lv_at hl 0 rfl) ?_
      refine lv_imul hx hb dX3_ofFree_48 ?_
      refine lv_iload_n hx hb dX3_ofFree_49 rfl (lv_at hl 1 rfl) ?_
      refine lv_iconst (v := 2) hx hb dX3_ofFree_50 (by decide) ?_
      refine lv_idiv hx hb dX3_ofFree_51 (by decide) ?_
      refine lv_iadd hx hb dX3_ofFree_52 ?_
      obtain ⟨z2, h⟩ := g_if h
      refine va_lald hx hb hK hP 7 2 rfl rfl (ix_in z2) dX3_ofFree_53 ?_
      refine lv_iload_n hx hb dX3_ofFree_54 rfl (lv_at hl 1 rfl) ?_
      obtain ⟨r4, g4, h⟩ := g_b h
      refine kcall_i ((wMo cJ cZ b mce mfr mun mbe men mov msp mwb mwe mwi mac mre mkn r1.2) ++ [(qn0, .inl (cJ, 22, .inr (.inl ext0)))]) (va_runS (As := [.long (ext0 ((2 * x1) + (x2 / 2)).toNatClampNeg), .int x2]) (rest := []) ⟨hx, hb, hml, hown, hts⟩ (c_X3_half l dC dI cB cI cJ cZ  _  (ext0 ((2 * x1) + (x2 / 2)).toNatClampNeg) x2 r4 g4) (kcwS hts kw_1317 kv_X3_half rfl rfl ⟨(Nat.le_of_ble_eq_true rfl), (Nat.le_of_ble_eq_true rfl)⟩) (kpS (A := A) (kPnil) hK ((kDnil (A := A))) hG) rfl rfl hl.1 rfl (lv_room (Nat.le_of_ble_eq_true rfl)) dX3_ofFree_55 ⟨(Nat.le_of_ble_eq_true rfl), (Nat.le_of_ble_eq_true rfl)⟩) hP hD hS hA (kIT mk_30 0) (kIT mk_29 0) (km_T (m := mk_30) rfl rfl) (km_T (m := mk_30) rfl rfl) [((b 0), .inr (5, [.ref (b 1), .long mfr, .long mun, .ref (b 2), .ref (b 3), .ref (b 4), .int msp, .ref (b 5), .ref (b 6), .int mwi, .int mac, .int mre, .int mkn, .int r1.2])), ((b 1), .inl (cJ, 4, .inr (.inl mce))), ((b 2), .inl (cJ, 10, .inr (.inl mbe))), ((b 3), .inl (cJ, 10, .inr (.inl men))), ((b 4), .inl (cZ, 10, .inl mov)), ((b 5), .inl (cJ, 8, .inr (.inl mwb))), ((b 6), .inl (cJ, 8, .inr (.inl mwe))), (qn0, .inl (cJ, 22, .inr (.inl ext0)))] (km_T (m := mk_29) rfl rfl) (km_T (m := mk_29) rfl rfl) (km_cov (m := mk_30) (n := mk_29) rfl rfl) (km_dis (m := mk_30) (n := mk_29) rfl) rfl (fun H locs hP hD hS br4 => ?_)
      have hP := hP.sub (ws' := (wMo cJ cZ b mce mfr mun mbe men mov msp mwb mwe mwi mac mre mkn r1.2)) [0, 1, 2, 3, 4, 5, 6] rfl
      have h := Option.some.inj h
      subst h
      refine W.widen (k := 1) (n := 22) (Nat.le_of_ble_eq_true rfl) (Nat.le_of_ble_eq_true rfl) ?_
      exact kret_i (v := r4) hx hb hr rfl hlocks hS hP dX3_ofFree_58
    · have h := g_f c2 h
      refine lv_iconst (v := 0) hx hb dX3_ofFree_43 (by decide) ?_
      have hP := hP.sub (ws' := (wMo cJ cZ b mce mfr mun mbe men mov msp mwb mwe mwi mac mre mkn r1.2)) [0, 1, 2, 3, 4, 5, 6] rfl
      have h := Option.some.inj h
      subst h
      refine W.widen (k := 1) (n := 22) (Nat.le_of_ble_eq_true rfl) (Nat.le_of_ble_eq_true rfl) ?_
      exact kret_i (v := 0) hx hb hr rfl hlocks hS hP dX3_ofFree_44
  have J32 : ∀ (mce : Nat → Int64) (mfr : Int64) (mun : Int64) (mbe : Nat → Int64) (men : Nat → Int64) (mov : Nat → Int32) (msp : Int32) (mwb : Nat → Int64) (mwe : Nat → Int64) (mwi : Int32) (mac : Int32) (mre : Int32) (mkn : Int32) (mth : Int32) (ext0 : Nat → Int64) (x1 : Int32) (x2 : Int32) (y0 : Int32) (qn0 : Nat) (H : Heap) (locs : List Loc), va_P (dC, dI) vwCl ((wMo cJ cZ b mce mfr mun mbe men mov msp mwb mwe mwi mac mre mkn mth) ++ [(qn0, .inl (cJ, 22, .inr (.inl ext0)))]) H → va_D A ((wMo cJ cZ b mce mfr mun mbe men mov msp mwb mwe mwi mac mre mkn mth) ++ [(qn0, .inl (cJ, 22, .inr (.inl ext0)))]) → va_S A s.heap H locs → ∀ (ls : Array Slot), lv_has ls 4 [(1, .int x1), (2, .int x2), (3, .ref qn0)] → f_X3_ofFree_32 ext0 x1 x2 y0 = some res → W p l e (headSpec wsX3_ofFree ({ frames := 3, cells := 1, slots := 22, locals := 64 } : Room)).room s m ([.ref (b 0), .int p0, .int p1] : List Value).toArray below meth c H locs 1 22 (MQ below (kI (dC, dI) .int (res.1) (wMo cJ cZ b mce mfr mun mbe men mov msp mwb mwe mwi mac mre mkn (res.2)) A) ([.ref (b 0), .int p0, .int p1] : List Value).toArray s 1 22 A) (F0 m 32 ls [.int y0, .ref (b 0)]) := by
    intro mce mfr mun mbe men mov msp mwb mwe mwi mac mre mkn mth ext0 x1 x2 y0 qn0 H locs hP hD hS ls hl h
    have h := f_X3_ofFree_32_e.symm.trans h
    refine lv_iconst (v := 1) hx hb dX3_ofFree_32 (by decide) ?_
    refine lv_goto (tgt := 37) hx hb dX3_ofFree_33 (by decide) ?_
    exact J37 mce mfr mun mbe men mov msp mwb mwe mwi mac mre mkn mth ext0 x1 x2 1 y0 qn0 _ _ hP hD hS ls (lv_sub hl [0, 1, 2] rfl) h
  have J23 : ∀ (mce : Nat → Int64) (mfr : Int64) (mun : Int64) (mbe : Nat → Int64) (men : Nat → Int64) (mov : Nat → Int32) (msp : Int32) (mwb : Nat → Int64) (mwe : Nat → Int64) (mwi : Int32) (mac : Int32) (mre : Int32) (mkn : Int32) (mth : Int32) (ext0 : Nat → Int64) (x1 : Int32) (x2 : Int32) (y0 : Int32) (qn0 : Nat) (H : Heap) (locs : List Loc), va_P (dC, dI) vwCl ((wMo cJ cZ b mce mfr mun mbe men mov msp mwb mwe mwi mac mre mkn mth) ++ [(qn0, .inl (cJ, 22, .inr (.inl ext0)))]) H → va_D A ((wMo cJ cZ b mce mfr mun mbe men mov msp mwb mwe mwi mac mre mkn mth) ++ [(qn0, .inl (cJ, 22, .inr (.inl ext0)))]) → va_S A s.heap H locs → ∀ (ls : Array Slot), lv_has ls 4 [(1, .int x1), (2, .int x2), (3, .ref qn0)] → f_X3_ofFree_23 ext0 x1 x2 y0 = some res → W p l e (headSpec wsX3_ofFree ({ frames := 3, cells := 1, slots := 22, locals := 64 } : Room)).room s m ([.ref (b 0), .int p0, .int p1] : List Value).toArray below meth c H locs 1 22 (MQ below (kI (dC, dI) .int (res.1) (wMo cJ cZ b mce mfr mun mbe men mov msp mwb mwe mwi mac mre mkn (res.2)) A) ([.ref (b 0), .int p0, .int p1] : List Value).toArray s 1 22 A) (F0 m 23 ls [.int y0, .ref (b 0)]) := by
    intro mce mfr mun mbe men mov msp mwb mwe mwi mac mre mkn mth ext0 x1 x2 y0 qn0 H locs hP hD hS ls hl h
    have h := f_X3_ofFree_23_e.symm.trans h
    refine lv_iload_n hx hb dX3_ofFree_23 rfl (lv_at hl 1 rfl) ?_
    refine lv_if_lt (tgt := 32) hx hb dX3_ofFree_24 (by decide) (fun c1 => ?_) (fun c1 => ?_)
    · have h := g_t c1 h
      exact J32 mce mfr mun mbe men mov msp mwb mwe mwi mac mre mkn mth ext0 x1 x2 y0 qn0 _ _ hP hD hS ls (lv_sub hl [0, 1, 2] rfl) h
    · have h := g_f c1 h
      refine lv_iload_n hx hb dX3_ofFree_27 rfl (lv_at hl 1 rfl) ?_
      refine lv_iconst (v := 3) hx hb dX3_ofFree_28 (by decide) ?_
      refine lv_icmp_le (tgt := 36) hx hb dX3_ofFree_29 (by decide) (fun c2 => ?_) (fun c2 => ?_)
      · have h := g_t c2 h
        refine lv_iconst (v := 0) hx hb dX3_ofFree_36 (by decide) ?_
        exact J37 mce mfr mun mbe men mov msp mwb mwe mwi mac mre mkn mth ext0 x1 x2 0 y0 qn0 _ _ hP hD hS ls (lv_sub hl [0, 1, 2] rfl) h
      · have h := g_f c2 h
        exact J32 mce mfr mun mbe men mov msp mwb mwe mwi mac mre mkn mth ext0 x1 x2 y0 qn0 _ _ hP hD hS ls (lv_sub hl [0, 1, 2] rfl) h
  have J18 : ∀ (mce : Nat → Int64) (mfr : Int64) (mun : Int64) (mbe : Nat → Int64) (men : Nat → Int64) (mov : Nat → Int32) (msp : Int32) (mwb : Nat → Int64) (mwe : Nat → Int64) (mwi : Int32) (mac : Int32) (mre : Int32) (mkn : Int32) (mth : Int32) (ext0 : Nat → Int64) (x1 : Int32) (x2 : Int32) (qn0 : Nat) (H : Heap) (locs : List Loc), va_P (dC, dI) vwCl ((wMo cJ cZ b mce mfr mun mbe men mov msp mwb mwe mwi mac mre mkn mth) ++ [(qn0, .inl (cJ, 22, .inr (.inl ext0)))]) H → va_D A ((wMo cJ cZ b mce mfr mun mbe men mov msp mwb mwe mwi mac mre mkn mth) ++ [(qn0, .inl (cJ, 22, .inr (.inl ext0)))]) → va_S A s.heap H locs → ∀ (ls : Array Slot), lv_has ls 4 [(1, .int x1), (2, .int x2), (3, .ref qn0)] → f_X3_ofFree_18 ext0 x1 x2 = some res → W p l e (headSpec wsX3_ofFree ({ frames := 3, cells := 1, slots := 22, locals := 64 } : Room)).room s m ([.ref (b 0), .int p0, .int p1] : List Value).toArray below meth c H locs 1 22 (MQ below (kI (dC, dI) .int (res.1) (wMo cJ cZ b mce mfr mun mbe men mov msp mwb mwe mwi mac mre mkn (res.2)) A) ([.ref (b 0), .int p0, .int p1] : List Value).toArray s 1 22 A) (F0 m 18 ls [.ref (b 0)]) := by
    intro mce mfr mun mbe men mov msp mwb mwe mwi mac mre mkn mth ext0 x1 x2 qn0 H locs hP hD hS ls hl h
    have h := f_X3_ofFree_18_e.symm.trans h
    refine lv_iconst (v := 1) hx hb dX3_ofFree_18 (by decide) ?_
    refine lv_goto (tgt := 23) hx hb dX3_ofFree_19 (by decide) ?_
    exact J23 mce mfr mun mbe men mov msp mwb mwe mwi mac mre mkn mth ext0 x1 x2 1 qn0 _ _ hP hD hS ls (lv_sub hl [0, 1, 2] rfl) h
  have hl := lv_entry ([.ref (b 0), .int p0, .int p1]) (n := 4) (Nat.le_of_ble_eq_true rfl)
  rw [lg_entry_eq]
  generalize (lg_sl ([.ref (b 0), .int p0, .int p1]) ++ List.replicate (4 - (lg_sl ([.ref (b 0), .int p0, .int p1])).length) Slot.unset).toArray = ls at hl ⊢
  have hl : lv_has ls 4 [(0, .ref (b 0)), (1, .int p0), (2, .int p1)] := hl
  have h := f_X3_ofFree_e.symm.trans hf
  refine lv_aload_n hx hb dX3_ofFree_0 rfl (lv_at hl 0 rfl) ?_
  obtain ⟨r1, g1, h⟩ := g_b h
  refine kcall_r (wMo cJ cZ b mce mfr mun mbe men mov msp mwb mwe mwi mac mre mkn mth) (va_runV (As := []) (rest := []) ⟨hx, hb, hml, hown, hts⟩ (c_X3_free l dC dI cB cI cJ cZ b _ mce mfr mun mbe men mov msp mwb mwe mwi mac mre mkn mth  r1 g1) (kcwV hts kw_1364 kv_X3_free rfl rfl ⟨(Nat.le_of_ble_eq_true rfl), (Nat.le_of_ble_eq_true rfl)⟩) (kpV (A := A) (hP.sub [0, 1, 2, 3, 4, 5, 6] rfl) hK (hD.sub [0, 1, 2, 3, 4, 5, 6] (by decide) rfl) hG (va_recv hK hP (ci := 5) (q0 := 0) rfl rfl)) rfl rfl hl.1 rfl (lv_room (Nat.le_of_ble_eq_true rfl)) dX3_ofFree_1 ⟨(Nat.le_of_ble_eq_true rfl), (Nat.le_of_ble_eq_true rfl)⟩) hP hD hS hA [0, 1, 2, 3, 4, 5, 6] [] rfl rfl [] rfl rfl rfl (by decide) rfl rfl (fun qn0 H locs hP hD hS => ?_)
  have hP : va_P (dC, dI) vwCl ((wMo cJ cZ b mce mfr mun mbe men mov msp mwb mwe mwi mac mre mkn mth) ++ [(qn0, .inl (cJ, 22, .inr (.inl r1)))]) H := hP
  have hD : va_D A ((wMo cJ cZ b mce mfr mun mbe men mov msp mwb mwe mwi mac mre mkn mth) ++ [(qn0, .inl (cJ, 22, .inr (.inl r1)))]) := hD
  refine lv_astore_n (lv' := [(3, .ref qn0), (0, .ref (b 0)), (1, .int p0), (2, .int p1)]) hx hb dX3_ofFree_4 rfl hl (by decide) rfl (fun ls hl => ?_)
  refine lv_aload_n hx hb dX3_ofFree_5 rfl (lv_at hl 1 rfl) ?_
  refine lv_iload_n hx hb dX3_ofFree_6 rfl (lv_at hl 2 rfl) ?_
  refine lv_if_lt (tgt := 18) hx hb dX3_ofFree_7 (by decide) (fun c2 => ?_) (fun c2 => ?_)
  · have h := g_t c2 h
    exact J18 mce mfr mun mbe men mov msp mwb mwe mwi mac mre mkn mth r1 p0 p1 qn0 _ _ hP hD hS ls (lv_sub hl [2, 3, 0] rfl) h
  · have h := g_f c2 h
    refine lv_iload_n hx hb dX3_ofFree_10 rfl (lv_at hl 2 rfl) ?_
    refine lv_aload_n hx hb dX3_ofFree_11 rfl (lv_at hl 0 rfl) ?_
    obtain ⟨r3, g3, h⟩ := g_b h
    refine kcall_i ((wMo cJ cZ b mce mfr mun mbe men mov msp mwb mwe mwi mac mre mkn mth) ++ [(qn0, .inl (cJ, 22, .inr (.inl r1)))]) (va_runS (As := [.ref qn0]) (rest := [.int p0, .ref (b 0)]) ⟨hx, hb, hml, hown, hts⟩ (c_X3_freesOf l dC dI cB cI cJ cZ qn0 22 _ r1  r3 g3) (kcwS hts kw_1368 kv_X3_freesOf rfl rfl ⟨(Nat.le_of_ble_eq_true rfl), (Nat.le_of_ble_eq_true rfl)⟩) (kpS (A := A) (hP.sub (kIT mk_28 0) (km_f (m := mk_28) rfl rfl)) hK (hD.sub (kIT mk_28 0) (km_nd mk_28) (km_T (m := mk_28) rfl rfl)) hG) rfl rfl hl.1 rfl (lv_room (Nat.le_of_ble_eq_true rfl)) dX3_ofFree_12 ⟨(Nat.le_of_ble_eq_true rfl), (Nat.le_of_ble_eq_true rfl)⟩) hP hD hS hA (kIT mk_28 0) (kIT mk_27 0) (km_T (m := mk_28) rfl rfl) (km_T (m := mk_28) rfl rfl) [((b 0), .inr (5, [.ref (b 1), .long mfr, .long mun, .ref (b 2), .ref (b 3), .ref (b 4), .int msp, .ref (b 5), .ref (b 6), .int mwi, .int mac, .int mre, .int mkn, .int mth])), ((b 1), .inl (cJ, 4, .inr (.inl mce))), ((b 2), .inl (cJ, 10, .inr (.inl mbe))), ((b 3), .inl (cJ, 10, .inr (.inl men))), ((b 4), .inl (cZ, 10, .inl mov)), ((b 5), .inl (cJ, 8, .inr (.inl mwb))), ((b 6), .inl (cJ, 8, .inr (.inl mwe)))] (km_T (m := mk_27) rfl rfl) (km_T (m := mk_27) rfl rfl) (km_cov (m := mk_28) (n := mk_27) rfl rfl) (km_dis (m := mk_28) (n := mk_27) rfl) rfl (fun H locs hP hD hS br3 => ?_)
    refine lv_icmp_lt (tgt := 22) hx hb dX3_ofFree_15 (by decide) (fun c4 => ?_) (fun c4 => ?_)
    · have h := g_t c4 h
      refine lv_iconst (v := 0) hx hb dX3_ofFree_22 (by decide) ?_
      exact J23 mce mfr mun mbe men mov msp mwb mwe mwi mac mre mkn mth r1 p0 p1 0 qn0 _ _ hP hD hS ls (lv_sub hl [2, 3, 0] rfl) h
    · have h := g_f c4 h
      exact J18 mce mfr mun mbe men mov msp mwb mwe mwi mac mre mkn mth r1 p0 p1 qn0 _ _ hP hD hS ls (lv_sub hl [2, 3, 0] rfl) h
abbrev wsX3_freeAt : List Cond := kWs yX3_freeAt cX3_freeAt 4 (some .int)
def f_X3_freeAt_28 : Nat → (Nat → Int64) → (Int32) → (Nat → Int64) → (Int32) → (Int32) → Option ((Int32) × (Int32))
  | 0, _, _, _, _, _ => none
  | n + 1, mce, mth, ext0, x1, x3 =>
    (f_X3_freesOf 22 ext0).bind fun r1 =>
    if r1 ≤ x3 then
      some ((-1), mth)
    else
      if ix (2 * x3) 22 then
        if ix x1 4 then
          if (mce x1.toNatClampNeg) < (ext0 (2 * x3).toNatClampNeg) then
            f_X3_freeAt_28 n mce mth ext0 x1 (x3 + 1)
          else
            if ix ((2 * x3) + 1) 22 then
              if (ext0 ((2 * x3) + 1).toNatClampNeg) ≤ (mce x1.toNatClampNeg) then
                f_X3_freeAt_28 n mce mth ext0 x1 (x3 + 1)
              else
                some (x3, mth)
            else none
        else none
      else none
theorem f_X3_freeAt_28_0 {mce : Nat → Int64} {mth : Int32} {ext0 : Nat → Int64} {x1 : Int32} {x3 : Int32} : f_X3_freeAt_28 0 mce mth ext0 x1 x3 = none := rfl
theorem f_X3_freeAt_28_s {n : Nat} {mce : Nat → Int64} {mth : Int32} {ext0 : Nat → Int64} {x1 : Int32} {x3 : Int32} : f_X3_freeAt_28 (n + 1) mce mth ext0 x1 x3 =
  (f_X3_freesOf 22 ext0).bind fun r1 =>
  if r1 ≤ x3 then
    some ((-1), mth)
  else
    if ix (2 * x3) 22 then
      if ix x1 4 then
        if (mce x1.toNatClampNeg) < (ext0 (2 * x3).toNatClampNeg) then
          f_X3_freeAt_28 n mce mth ext0 x1 (x3 + 1)
        else
          if ix ((2 * x3) + 1) 22 then
            if (ext0 ((2 * x3) + 1).toNatClampNeg) ≤ (mce x1.toNatClampNeg) then
              f_X3_freeAt_28 n mce mth ext0 x1 (x3 + 1)
            else
              some (x3, mth)
          else none
      else none
    else none := rfl
def f_X3_freeAt_13 (mce : Nat → Int64) (mfr : Int64) (mun : Int64) (mbe : Nat → Int64) (men : Nat → Int64) (msp : Int32) (x1 : Int32) (y0 : Int32) : Option ((Int32) × (Int32)) :=
  (f_X3_isThrown_ y0).bind fun r1 =>
  if r1.1 = 0 then
    (f_X3_free mfr mun mbe men msp).bind fun r3 =>
    f_X3_freeAt_28 24 mce r1.2 r3 x1 0
  else
    some (0, r1.2)
theorem f_X3_freeAt_13_e {mce : Nat → Int64} {mfr : Int64} {mun : Int64} {mbe : Nat → Int64} {men : Nat → Int64} {msp : Int32} {x1 : Int32} {y0 : Int32} : f_X3_freeAt_13 mce mfr mun mbe men msp x1 y0 =
  (f_X3_isThrown_ y0).bind fun r1 =>
  if r1.1 = 0 then
    (f_X3_free mfr mun mbe men msp).bind fun r3 =>
    f_X3_freeAt_28 24 mce r1.2 r3 x1 0
  else
    some (0, r1.2) := rfl
def f_X3_freeAt (mce : Nat → Int64) (mfr : Int64) (mun : Int64) (mbe : Nat → Int64) (men : Nat → Int64) (msp : Int32) (p0 : Int32) : Option ((Int32) × (Int32)) :=
  (f_X3_is p0).bind fun r1 =>
  if r1 = 0 then
    f_X3_freeAt_13 mce mfr mun mbe men msp p0 1
  else
    f_X3_freeAt_13 mce mfr mun mbe men msp p0 0
theorem f_X3_freeAt_e {mce : Nat → Int64} {mfr : Int64} {mun : Int64} {mbe : Nat → Int64} {men : Nat → Int64} {msp : Int32} {p0 : Int32} : f_X3_freeAt mce mfr mun mbe men msp p0 = 
  (f_X3_is p0).bind fun r1 =>
  if r1 = 0 then
    f_X3_freeAt_13 mce mfr mun mbe men msp p0 1
  else
    f_X3_freeAt_13 mce mfr mun mbe men msp p0 0 := rfl
set_option maxHeartbeats 4000000 in
set_option maxRecDepth 100000 in
theorem c_X3_freeAt (l : Launch) (dC : Nat → ClassId) (dI : Nat → Nat → Nat) (cB cI cJ cZ : ClassId) (b : Nat → Nat) (sz : Nat) (mce : Nat → Int64) (mfr : Int64) (mun : Int64) (mbe : Nat → Int64) (men : Nat → Int64) (mov : Nat → Int32) (msp : Int32) (mwb : Nat → Int64) (mwe : Nat → Int64) (mwi : Int32) (mac : Int32) (mre : Int32) (mkn : Int32) (mth : Int32) (p0 : Int32) (res : (Int32) × (Int32)) (hf : f_X3_freeAt mce mfr mun mbe men msp p0 = some res) : Met l yX3_freeAt wsX3_freeAt ({ frames := 2, cells := 1, slots := 22, locals := 49 } : Room) (kPre (dC, dI) (kTy cB cI cJ cZ) [.ref (b 0), .int p0] sz (wMo cJ cZ b mce mfr mun mbe men mov msp mwb mwe mwi mac mre mkn mth)) (kI (dC, dI) .int (res.1) (wMo cJ cZ b mce mfr mun mbe men mov msp mwb mwe mwi mac mre mkn (res.2)) (va_A (wMo cJ cZ b mce mfr mun mbe men mov msp mwb mwe mwi mac mre mkn mth) sz)) 1 22 (va_A (wMo cJ cZ b mce mfr mun mbe men mov msp mwb mwe mwi mac mre mkn mth) sz) := by
  refine Met.ofW (cc := cX3_freeAt) (maxL := 4) (ret := (some .int)) (by decide) rfl ?_
  intro p e s m args below meth c s₁ B hml hv
  obtain ⟨rfl, hsz, hP, hK, hD0, hG⟩ := hv
  have hx := B.exec
  have hb := B.bytes
  have hr := B.returns
  have hts := atoms_spec (ws := wsX3_freeAt) B.pre
  have hown : s.vm.findClass RX3 = some m.cls := findClass_of_methodNamed B.named
  have hlocks := B.notSynchronized
  subst hsz
  have hD := hD0.self (sz := s.heap.size)
  generalize hAe : va_A (wMo cJ cZ b mce mfr mun mbe men mov msp mwb mwe mwi mac mre mkn mth) s.heap.size = A at hD ⊢
  have hA : ∀ q : Nat, s.heap.size ≤ q → A q := fun q h => by rw [← hAe]; exact Or.inr h
  have hS : va_S A s.heap s.heap [] := va_S.rf
  clear hAe
  have hw0 := hts (.fieldLink RX3 7 "SpanbookerModel" "cells" "[J") (List.mem_cons_of_mem _ kw_1072)
  have hiX3 : ∀ w ∈ u_ws RX3 TX3 14, w ∈ wsX3_freeAt := fun w h => List.mem_cons_of_mem _ (ku_X3 w h)
  have J28 : ∀ (n : Nat), ∀ (mce : Nat → Int64) (mfr : Int64) (mun : Int64) (mbe : Nat → Int64) (men : Nat → Int64) (mov : Nat → Int32) (msp : Int32) (mwb : Nat → Int64) (mwe : Nat → Int64) (mwi : Int32) (mac : Int32) (mre : Int32) (mkn : Int32) (mth : Int32) (ext0 : Nat → Int64) (x1 : Int32) (x3 : Int32) (qn0 : Nat) (H : Heap) (locs : List Loc), va_P (dC, dI) vwCl ((wMo cJ cZ b mce mfr mun mbe men mov msp mwb mwe mwi mac mre mkn mth) ++ [(qn0, .inl (cJ, 22, .inr (.inl ext0)))]) H → va_D A ((wMo cJ cZ b mce mfr mun mbe men mov msp mwb mwe mwi mac mre mkn mth) ++ [(qn0, .inl (cJ, 22, .inr (.inl ext0)))]) → va_S A s.heap H locs → ∀ (ls : Array Slot), lv_has ls 4 [(0, .ref (b 0)), (1, .int x1), (2, .ref qn0), (3, .int x3)] → f_X3_freeAt_28 n mce mth ext0 x1 x3 = some res → W p l e (headSpec wsX3_freeAt ({ frames := 2, cells := 1, slots := 22, locals := 49 } : Room)).room s m ([.ref (b 0), .int p0] : List Value).toArray below meth c H locs 1 22 (MQ below (kI (dC, dI) .int (res.1) (wMo cJ cZ b mce mfr mun mbe men mov msp mwb mwe mwi mac mre mkn (res.2)) A) ([.ref (b 0), .int p0] : List Value).toArray s 1 22 A) (F0 m 28 ls []) := by
    intro n
    induction n with
    | zero =>
      intro mce mfr mun mbe men mov msp mwb mwe mwi mac mre mkn mth ext0 x1 x3 qn0 H locs hP hD hS ls hl h
      have h := f_X3_freeAt_28_0.symm.trans h
      cases h
    | succ n ih =>
      intro mce mfr mun mbe men mov msp mwb mwe mwi mac mre mkn mth ext0 x1 x3 qn0 H locs hP hD hS ls hl h
      have h := f_X3_freeAt_28_s.symm.trans h
      refine lv_iload_n hx hb dX3_freeAt_28 rfl (lv_at hl 3 rfl) ?_
      refine lv_aload_n hx hb dX3_freeAt_29 rfl (lv_at hl 2 rfl) ?_
      obtain ⟨r1, g1, h⟩ := g_b h
      refine kcall_i ((wMo cJ cZ b mce mfr mun mbe men mov msp mwb mwe mwi mac mre mkn mth) ++ [(qn0, .inl (cJ, 22, .inr (.inl ext0)))]) (va_runS (As := [.ref qn0]) (rest := [.int x3]) ⟨hx, hb, hml, hown, hts⟩ (c_X3_freesOf l dC dI cB cI cJ cZ qn0 22 _ ext0  r1 g1) (kcwS hts kw_1368 kv_X3_freesOf rfl rfl ⟨(Nat.le_of_ble_eq_true rfl), (Nat.le_of_ble_eq_true rfl)⟩) (kpS (A := A) (hP.sub (kIT mk_28 0) (km_f (m := mk_28) rfl rfl)) hK (hD.sub (kIT mk_28 0) (km_nd mk_28) (km_T (m := mk_28) rfl rfl)) hG) rfl rfl hl.1 rfl (lv_room (Nat.le_of_ble_eq_true rfl)) dX3_freeAt_30 ⟨(Nat.le_of_ble_eq_true rfl), (Nat.le_of_ble_eq_true rfl)⟩) hP hD hS hA (kIT mk_28 0) (kIT mk_27 0) (km_T (m := mk_28) rfl rfl) (km_T (m := mk_28) rfl rfl) [((b 0), .inr (5, [.ref (b 1), .long mfr, .long mun, .ref (b 2), .ref (b 3), .ref (b 4), .int msp, .ref (b 5), .ref (b 6), .int mwi, .int mac, .int mre, .int mkn, .int mth])), ((b 1), .inl (cJ, 4, .inr (.inl mce))), ((b 2), .inl (cJ, 10, .inr (.inl mbe))), ((b 3), .inl (cJ, 10, .inr (.inl men))), ((b 4), .inl (cZ, 10, .inl mov)), ((b 5), .inl (cJ, 8, .inr (.inl mwb))), ((b 6), .inl (cJ, 8, .inr (.inl mwe)))] (km_T (m := mk_27) rfl rfl) (km_T (m := mk_27) rfl rfl) (km_cov (m := mk_28) (n := mk_27) rfl rfl) (km_dis (m := mk_28) (n := mk_27) rfl) rfl (fun H locs hP hD hS br1 => ?_)
      refine lv_icmp_ge (tgt := 76) hx hb dX3_freeAt_33 (by decide) (fun c2 => ?_) (fun c2 => ?_)
      · have h := g_t c2 h
        refine lv_iconst (v := (-1)) hx hb dX3_freeAt_76 (by decide) ?_
        have hP := hP.sub (ws' := (wMo cJ cZ b mce mfr mun mbe men mov msp mwb mwe mwi mac mre mkn mth)) [0, 1, 2, 3, 4, 5, 6] rfl
        have h := Option.some.inj h
        subst h
        refine W.widen (k := 1) (n := 22) (Nat.le_of_ble_eq_true rfl) (Nat.le_of_ble_eq_true rfl) ?_
        exact kret_i (v := (-1)) hx hb hr rfl hlocks hS hP dX3_freeAt_77
      · have h := g_f c2 h
        refine lv_aload_n hx hb dX3_freeAt_36 rfl (lv_at hl 2 rfl) ?_
        refine lv_iconst (v := 2) hx hb dX3_freeAt_37 (by decide) ?_
        refine lv_iload_n hx hb dX3_freeAt_38 rfl (lv_at hl 3 rfl) ?_
        refine lv_imul hx hb dX3_freeAt_39 ?_
        obtain ⟨z2, h⟩ := g_if h
        refine va_lald hx hb hK hP 7 2 rfl rfl (ix_in z2) dX3_freeAt_40 ?_
        refine lv_aload_n hx hb dX3_freeAt_41 rfl (lv_at hl 0 rfl) ?_
        refine va_get (D := (dC, dI)) (ci := 5) (v := .ref (b 1)) (C := RX3) (T := TX3) (N := 14) hx hb hts hiX3 hown hK hP 0 rfl rfl 0 (by decide) hw0 (fun _ h9 => h9) rfl dX3_freeAt_42 ?_
        refine lv_iload_n hx hb dX3_freeAt_45 rfl (lv_at hl 1 rfl) ?_
        obtain ⟨z3, h⟩ := g_if h
        refine va_lald hx hb hK hP 1 2 rfl rfl (ix_in z3) dX3_freeAt_46 ?_
        refine kl_gt (pc := 47) (tgt := 70) hx hb dX3_freeAt_47 dX3_freeAt_48 (by decide) (fun c5 => ?_) (fun c5 => ?_)
        · have h := g_t c5 h
          refine lv_iinc (v := x3 + 1) (lv' := [(3, .int (x3 + 1)), (0, .ref (b 0)), (1, .int x1), (2, .ref qn0)]) hx hb dX3_freeAt_70 hl (k := 3) rfl rfl (by decide) rfl (fun ls hl => ?_)
          refine lv_goto (tgt := 28) hx hb dX3_freeAt_73 (by decide) ?_
          exact ih mce mfr mun mbe men mov msp mwb mwe mwi mac mre mkn mth ext0 x1 (x3 + 1) qn0 _ _ hP hD hS ls (lv_sub hl [1, 2, 3, 0] rfl) h
        · have h := g_f c5 h
          refine lv_aload_n hx hb dX3_freeAt_51 rfl (lv_at hl 0 rfl) ?_
          refine va_get (D := (dC, dI)) (ci := 5) (v := .ref (b 1)) (C := RX3) (T := TX3) (N := 14) hx hb hts hiX3 hown hK hP 0 rfl rfl 0 (by decide) hw0 (fun _ h9 => h9) rfl dX3_freeAt_52 ?_
          refine lv_iload_n hx hb dX3_freeAt_55 rfl (lv_at hl 1 rfl) ?_
          refine va_lald hx hb hK hP 1 2 rfl rfl (ix_in z3) dX3_freeAt_56 ?_
          refine lv_aload_n hx hb dX3_freeAt_57 rfl (lv_at hl 2 rfl) ?_
          refine lv_iconst (v := 2) hx hb dX3_freeAt_58 (by decide) ?_
          refine lv_iload_n hx hb dX3_freeAt_59 rfl (lv_at hl 3 rfl) ?_
          refine lv_imul hx hb dX3_freeAt_60 ?_
          refine lv_iconst (v := 1) hx hb dX3_freeAt_61 (by decide) ?_
          refine lv_iadd hx hb dX3_freeAt_62 ?_
          obtain ⟨z5, h⟩ := g_if h
          refine va_lald hx hb hK hP 7 2 rfl rfl (ix_in z5) dX3_freeAt_63 ?_
          refine kl_ge (pc := 64) (tgt := 70) hx hb dX3_freeAt_64 dX3_freeAt_65 (by decide) (fun c7 => ?_) (fun c7 => ?_)
          · have h := g_t c7 h
            refine lv_iinc (v := x3 + 1) (lv' := [(3, .int (x3 + 1)), (0, .ref (b 0)), (1, .int x1), (2, .ref qn0)]) hx hb dX3_freeAt_70 hl (k := 3) rfl rfl (by decide) rfl (fun ls hl => ?_)
            refine lv_goto (tgt := 28) hx hb dX3_freeAt_73 (by decide) ?_
            exact ih mce mfr mun mbe men mov msp mwb mwe mwi mac mre mkn mth ext0 x1 (x3 + 1) qn0 _ _ hP hD hS ls (lv_sub hl [1, 2, 3, 0] rfl) h
          · have h := g_f c7 h
            refine lv_iload_n hx hb dX3_freeAt_68 rfl (lv_at hl 3 rfl) ?_
            have hP := hP.sub (ws' := (wMo cJ cZ b mce mfr mun mbe men mov msp mwb mwe mwi mac mre mkn mth)) [0, 1, 2, 3, 4, 5, 6] rfl
            have h := Option.some.inj h
            subst h
            refine W.widen (k := 1) (n := 22) (Nat.le_of_ble_eq_true rfl) (Nat.le_of_ble_eq_true rfl) ?_
            exact kret_i (v := x3) hx hb hr rfl hlocks hS hP dX3_freeAt_69
  have J13 : ∀ (mce : Nat → Int64) (mfr : Int64) (mun : Int64) (mbe : Nat → Int64) (men : Nat → Int64) (mov : Nat → Int32) (msp : Int32) (mwb : Nat → Int64) (mwe : Nat → Int64) (mwi : Int32) (mac : Int32) (mre : Int32) (mkn : Int32) (mth : Int32) (x1 : Int32) (y0 : Int32) (H : Heap) (locs : List Loc), va_P (dC, dI) vwCl (wMo cJ cZ b mce mfr mun mbe men mov msp mwb mwe mwi mac mre mkn mth) H → va_D A (wMo cJ cZ b mce mfr mun mbe men mov msp mwb mwe mwi mac mre mkn mth) → va_S A s.heap H locs → ∀ (ls : Array Slot), lv_has ls 4 [(0, .ref (b 0)), (1, .int x1)] → f_X3_freeAt_13 mce mfr mun mbe men msp x1 y0 = some res → W p l e (headSpec wsX3_freeAt ({ frames := 2, cells := 1, slots := 22, locals := 49 } : Room)).room s m ([.ref (b 0), .int p0] : List Value).toArray below meth c H locs 0 0 (MQ below (kI (dC, dI) .int (res.1) (wMo cJ cZ b mce mfr mun mbe men mov msp mwb mwe mwi mac mre mkn (res.2)) A) ([.ref (b 0), .int p0] : List Value).toArray s 1 22 A) (F0 m 13 ls [.int y0, .ref (b 0)]) := by
    intro mce mfr mun mbe men mov msp mwb mwe mwi mac mre mkn mth x1 y0 H locs hP hD hS ls hl h
    have h := f_X3_freeAt_13_e.symm.trans h
    obtain ⟨r1, g1, h⟩ := g_b h
    refine kcall_i (wMo cJ cZ b mce mfr mun mbe men mov msp mwb mwe mwi mac mre mkn r1.2) (va_runV (As := [.int y0]) (rest := []) ⟨hx, hb, hml, hown, hts⟩ (c_X3_isThrown_ l dC dI cB cI cJ cZ b _ mce mfr mun mbe men mov msp mwb mwe mwi mac mre mkn mth y0 r1 g1) (kcwV hts kw_1170 kv_X3_isThrown_ rfl rfl ⟨(Nat.le_of_ble_eq_true rfl), (Nat.le_of_ble_eq_true rfl)⟩) (kpV (A := A) (hP.sub (kIT mk_26 0) (km_f (m := mk_26) rfl rfl)) hK (hD.sub (kIT mk_26 0) (km_nd mk_26) (km_T (m := mk_26) rfl rfl)) hG (va_recv hK hP (ci := 5) (q0 := 0) rfl rfl)) rfl rfl hl.1 rfl (lv_room (Nat.le_of_ble_eq_true rfl)) dX3_freeAt_13 ⟨(Nat.le_of_ble_eq_true rfl), (Nat.le_of_ble_eq_true rfl)⟩) hP hD hS hA (kIT mk_26 0) (kIT mk_25 0) (km_T (m := mk_26) rfl rfl) (km_T (m := mk_26) rfl rfl) [] (km_T (m := mk_25) rfl rfl) (km_T (m := mk_25) rfl rfl) (km_cov (m := mk_26) (n := mk_25) rfl rfl) (km_dis (m := mk_26) (n := mk_25) rfl) rfl (fun H locs hP hD hS br1 => ?_)
    refine lv_if_eq (tgt := 21) hx hb dX3_freeAt_16 (by decide) (fun c2 => ?_) (fun c2 => ?_)
    · have h := g_t c2 h
      refine lv_aload_n hx hb dX3_freeAt_21 rfl (lv_at hl 0 rfl) ?_
      obtain ⟨r3, g3, h⟩ := g_b h
      refine kcall_r (wMo cJ cZ b mce mfr mun mbe men mov msp mwb mwe mwi mac mre mkn r1.2) (va_runV (As := []) (rest := []) ⟨hx, hb, hml, hown, hts⟩ (c_X3_free l dC dI cB cI cJ cZ b _ mce mfr mun mbe men mov msp mwb mwe mwi mac mre mkn r1.2  r3 g3) (kcwV hts kw_1364 kv_X3_free rfl rfl ⟨(Nat.le_of_ble_eq_true rfl), (Nat.le_of_ble_eq_true rfl)⟩) (kpV (A := A) (hP.sub [0, 1, 2, 3, 4, 5, 6] rfl) hK (hD.sub [0, 1, 2, 3, 4, 5, 6] (by decide) rfl) hG (va_recv hK hP (ci := 5) (q0 := 0) rfl rfl)) rfl rfl hl.1 rfl (lv_room (Nat.le_of_ble_eq_true rfl)) dX3_freeAt_22 ⟨(Nat.le_of_ble_eq_true rfl), (Nat.le_of_ble_eq_true rfl)⟩) hP hD hS hA [0, 1, 2, 3, 4, 5, 6] [] rfl rfl [] rfl rfl rfl (by decide) rfl rfl (fun qn0 H locs hP hD hS => ?_)
      have hP : va_P (dC, dI) vwCl ((wMo cJ cZ b mce mfr mun mbe men mov msp mwb mwe mwi mac mre mkn r1.2) ++ [(qn0, .inl (cJ, 22, .inr (.inl r3)))]) H := hP
      have hD : va_D A ((wMo cJ cZ b mce mfr mun mbe men mov msp mwb mwe mwi mac mre mkn r1.2) ++ [(qn0, .inl (cJ, 22, .inr (.inl r3)))]) := hD
      refine lv_astore_n (lv' := [(2, .ref qn0), (0, .ref (b 0)), (1, .int x1)]) hx hb dX3_freeAt_25 rfl hl (by decide) rfl (fun ls hl => ?_)
      refine lv_iconst (v := 0) hx hb dX3_freeAt_26 (by decide) ?_
      refine lv_istore_n (lv' := [(3, .int 0), (2, .ref qn0), (0, .ref (b 0)), (1, .int x1)]) hx hb dX3_freeAt_27 rfl hl (by decide) rfl (fun ls hl => ?_)
      exact J28 24 mce mfr mun mbe men mov msp mwb mwe mwi mac mre mkn r1.2 r3 x1 0 qn0 _ _ hP hD hS ls (lv_sub hl [2, 3, 1, 0] rfl) h
    · have h := g_f c2 h
      refine lv_iconst (v := 0) hx hb dX3_freeAt_19 (by decide) ?_
      have h := Option.some.inj h
      subst h
      refine W.widen (k := 1) (n := 22) (Nat.le_of_ble_eq_true rfl) (Nat.le_of_ble_eq_true rfl) ?_
      exact kret_i (v := 0) hx hb hr rfl hlocks hS hP dX3_freeAt_20
  have hl := lv_entry ([.ref (b 0), .int p0]) (n := 4) (Nat.le_of_ble_eq_true rfl)
  rw [lg_entry_eq]
  generalize (lg_sl ([.ref (b 0), .int p0]) ++ List.replicate (4 - (lg_sl ([.ref (b 0), .int p0])).length) Slot.unset).toArray = ls at hl ⊢
  have hl : lv_has ls 4 [(0, .ref (b 0)), (1, .int p0)] := hl
  have h := f_X3_freeAt_e.symm.trans hf
  refine lv_aload_n hx hb dX3_freeAt_0 rfl (lv_at hl 0 rfl) ?_
  refine lv_iload_n hx hb dX3_freeAt_1 rfl (lv_at hl 1 rfl) ?_
  obtain ⟨r1, g1, h⟩ := g_b h
  refine kcall_i (wMo cJ cZ b mce mfr mun mbe men mov msp mwb mwe mwi mac mre mkn mth) (va_runS (As := [.int p0]) (rest := [.ref (b 0)]) ⟨hx, hb, hml, hown, hts⟩ (c_X3_is l dC dI cB cI cJ cZ  _  p0 r1 g1) (kcwS hts kw_1123 kv_X3_is rfl rfl ⟨(Nat.le_of_ble_eq_true rfl), (Nat.le_of_ble_eq_true rfl)⟩) (kpS (A := A) (kPnil) hK ((kDnil (A := A))) hG) rfl rfl hl.1 rfl (lv_room (Nat.le_of_ble_eq_true rfl)) dX3_freeAt_2 ⟨(Nat.le_of_ble_eq_true rfl), (Nat.le_of_ble_eq_true rfl)⟩) hP hD hS hA (kIT mk_25 0) (kIT mk_26 0) (km_T (m := mk_25) rfl rfl) (km_T (m := mk_25) rfl rfl) [((b 0), .inr (5, [.ref (b 1), .long mfr, .long mun, .ref (b 2), .ref (b 3), .ref (b 4), .int msp, .ref (b 5), .ref (b 6), .int mwi, .int mac, .int mre, .int mkn, .int mth])), ((b 1), .inl (cJ, 4, .inr (.inl mce))), ((b 2), .inl (cJ, 10, .inr (.inl mbe))), ((b 3), .inl (cJ, 10, .inr (.inl men))), ((b 4), .inl (cZ, 10, .inl mov)), ((b 5), .inl (cJ, 8, .inr (.inl mwb))), ((b 6), .inl (cJ, 8, .inr (.inl mwe)))] (km_T (m := mk_26) rfl rfl) (km_T (m := mk_26) rfl rfl) (km_cov (m := mk_25) (n := mk_26) rfl rfl) (km_dis (m := mk_25) (n := mk_26) rfl) rfl (fun H locs hP hD hS br1 => ?_)
  refine lv_if_ne (tgt := 12) hx hb dX3_freeAt_5 (by decide) (fun c2 => ?_) (fun c2 => ?_)
  · have h := g_f c2 h
    refine lv_iconst (v := 0) hx hb dX3_freeAt_12 (by decide) ?_
    exact J13 mce mfr mun mbe men mov msp mwb mwe mwi mac mre mkn mth p0 0 _ _ hP hD hS ls (lv_sub hl [0, 1] rfl) h
  · have h := g_t c2 h
    refine lv_iconst (v := 1) hx hb dX3_freeAt_8 (by decide) ?_
    refine lv_goto (tgt := 13) hx hb dX3_freeAt_9 (by decide) ?_
    exact J13 mce mfr mun mbe men mov msp mwb mwe mwi mac mre mkn mth p0 1 _ _ hP hD hS ls (lv_sub hl [0, 1] rfl) h
abbrev wsX3_length : List Cond := kWs yX3_length cX3_length 2 (some .int)
def f_X3_length_56 (mth : Int32) (x1 : Int32) (y0 : Int64) : Option ((Int32) × (Int32)) :=
  (f_X3_half y0 x1).bind fun r1 =>
  some (r1, mth)
theorem f_X3_length_56_e {mth : Int32} {x1 : Int32} {y0 : Int64} : f_X3_length_56 mth x1 y0 =
  (f_X3_half y0 x1).bind fun r1 =>
  some (r1, mth) := rfl
def f_X3_length_15 (mfr : Int64) (mun : Int64) (mbe : Nat → Int64) (men : Nat → Int64) (msp : Int32) (x1 : Int32) (y0 : Int32) : Option ((Int32) × (Int32)) :=
  (f_X3_isThrown_ y0).bind fun r1 =>
  if r1.1 = 0 then
    if 2 ≤ x1 then
      if 4 ≤ x1 then
        f_X3_length_56 r1.2 x1 (mun - mfr)
      else
        (f_X3_freeLength mfr mun mbe men msp).bind fun r5 =>
        f_X3_length_56 r1.2 x1 r5
    else
      (f_X3_takenLength mfr mun mbe men msp).bind fun r4 =>
      f_X3_length_56 r1.2 x1 r4
  else
    some (0, r1.2)
theorem f_X3_length_15_e {mfr : Int64} {mun : Int64} {mbe : Nat → Int64} {men : Nat → Int64} {msp : Int32} {x1 : Int32} {y0 : Int32} : f_X3_length_15 mfr mun mbe men msp x1 y0 =
  (f_X3_isThrown_ y0).bind fun r1 =>
  if r1.1 = 0 then
    if 2 ≤ x1 then
      if 4 ≤ x1 then
        f_X3_length_56 r1.2 x1 (mun - mfr)
      else
        (f_X3_freeLength mfr mun mbe men msp).bind fun r5 =>
        f_X3_length_56 r1.2 x1 r5
    else
      (f_X3_takenLength mfr mun mbe men msp).bind fun r4 =>
      f_X3_length_56 r1.2 x1 r4
  else
    some (0, r1.2) := rfl
def f_X3_length_10 (mfr : Int64) (mun : Int64) (mbe : Nat → Int64) (men : Nat → Int64) (msp : Int32) (x1 : Int32) : Option ((Int32) × (Int32)) :=
  f_X3_length_15 mfr mun mbe men msp x1 1
theorem f_X3_length_10_e {mfr : Int64} {mun : Int64} {mbe : Nat → Int64} {men : Nat → Int64} {msp : Int32} {x1 : Int32} : f_X3_length_10 mfr mun mbe men msp x1 =
  f_X3_length_15 mfr mun mbe men msp x1 1 := rfl
def f_X3_length (mfr : Int64) (mun : Int64) (mbe : Nat → Int64) (men : Nat → Int64) (msp : Int32) (p0 : Int32) : Option ((Int32) × (Int32)) :=
  if p0 < 0 then
    f_X3_length_10 mfr mun mbe men msp p0
  else
    if p0 ≤ 5 then
      f_X3_length_15 mfr mun mbe men msp p0 0
    else
      f_X3_length_10 mfr mun mbe men msp p0
theorem f_X3_length_e {mfr : Int64} {mun : Int64} {mbe : Nat → Int64} {men : Nat → Int64} {msp : Int32} {p0 : Int32} : f_X3_length mfr mun mbe men msp p0 = 
  if p0 < 0 then
    f_X3_length_10 mfr mun mbe men msp p0
  else
    if p0 ≤ 5 then
      f_X3_length_15 mfr mun mbe men msp p0 0
    else
      f_X3_length_10 mfr mun mbe men msp p0 := rfl
set_option maxHeartbeats 4000000 in
set_option maxRecDepth 100000 in
theorem c_X3_length (l : Launch) (dC : Nat → ClassId) (dI : Nat → Nat → Nat) (cB cI cJ cZ : ClassId) (b : Nat → Nat) (sz : Nat) (mce : Nat → Int64) (mfr : Int64) (mun : Int64) (mbe : Nat → Int64) (men : Nat → Int64) (mov : Nat → Int32) (msp : Int32) (mwb : Nat → Int64) (mwe : Nat → Int64) (mwi : Int32) (mac : Int32) (mre : Int32) (mkn : Int32) (mth : Int32) (p0 : Int32) (res : (Int32) × (Int32)) (hf : f_X3_length mfr mun mbe men msp p0 = some res) : Met l yX3_length wsX3_length ({ frames := 3, cells := 1, slots := 22, locals := 73 } : Room) (kPre (dC, dI) (kTy cB cI cJ cZ) [.ref (b 0), .int p0] sz (wMo cJ cZ b mce mfr mun mbe men mov msp mwb mwe mwi mac mre mkn mth)) (kI (dC, dI) .int (res.1) (wMo cJ cZ b mce mfr mun mbe men mov msp mwb mwe mwi mac mre mkn (res.2)) (va_A (wMo cJ cZ b mce mfr mun mbe men mov msp mwb mwe mwi mac mre mkn mth) sz)) 1 22 (va_A (wMo cJ cZ b mce mfr mun mbe men mov msp mwb mwe mwi mac mre mkn mth) sz) := by
  refine Met.ofW (cc := cX3_length) (maxL := 2) (ret := (some .int)) (by decide) rfl ?_
  intro p e s m args below meth c s₁ B hml hv
  obtain ⟨rfl, hsz, hP, hK, hD0, hG⟩ := hv
  have hx := B.exec
  have hb := B.bytes
  have hr := B.returns
  have hts := atoms_spec (ws := wsX3_length) B.pre
  have hown : s.vm.findClass RX3 = some m.cls := findClass_of_methodNamed B.named
  have hlocks := B.notSynchronized
  subst hsz
  have hD := hD0.self (sz := s.heap.size)
  generalize hAe : va_A (wMo cJ cZ b mce mfr mun mbe men mov msp mwb mwe mwi mac mre mkn mth) s.heap.size = A at hD ⊢
  have hA : ∀ q : Nat, s.heap.size ≤ q → A q := fun q h => by rw [← hAe]; exact Or.inr h
  have hS : va_S A s.heap s.heap [] := va_S.rf
  clear hAe
  have hw0 := hts (.fieldLink RX3 15 "SpanbookerModel" "until" "J") (List.mem_cons_of_mem _ kw_1074)
  have hw1 := hts (.fieldLink RX3 53 "SpanbookerModel" "from" "J") (List.mem_cons_of_mem _ kw_1073)
  have hiX3 : ∀ w ∈ u_ws RX3 TX3 14, w ∈ wsX3_length := fun w h => List.mem_cons_of_mem _ (ku_X3 w h)
  have J56 : ∀ (mce : Nat → Int64) (mfr : Int64) (mun : Int64) (mbe : Nat → Int64) (men : Nat → Int64) (mov : Nat → Int32) (msp : Int32) (mwb : Nat → Int64) (mwe : Nat → Int64) (mwi : Int32) (mac : Int32) (mre : Int32) (mkn : Int32) (mth : Int32) (x1 : Int32) (y0 : Int64) (H : Heap) (locs : List Loc), va_P (dC, dI) vwCl (wMo cJ cZ b mce mfr mun mbe men mov msp mwb mwe mwi mac mre mkn mth) H → va_D A (wMo cJ cZ b mce mfr mun mbe men mov msp mwb mwe mwi mac mre mkn mth) → va_S A s.heap H locs → ∀ (ls : Array Slot), lv_has ls 2 [(1, .int x1)] → f_X3_length_56 mth x1 y0 = some res → W p l e (headSpec wsX3_length ({ frames := 3, cells := 1, slots := 22, locals := 73 } : Room)).room s m ([.ref (b 0), .int p0] : List Value).toArray below meth c H locs 1 22 (MQ below (kI (dC, dI) .int (res.1) (wMo cJ cZ b mce mfr mun mbe men mov msp mwb mwe mwi mac mre mkn (res.2)) A) ([.ref (b 0), .int p0] : List Value).toArray s 1 22 A) (F0 m 56 ls [.long y0]) := by
    intro mce mfr mun mbe men mov msp mwb mwe mwi mac mre mkn mth x1 y0 H locs hP hD hS ls hl h
    have h := f_X3_length_56_e.symm.trans h
    refine lv_iload_n hx hb dX3_length_56 rfl (lv_at hl 0 rfl) ?_
    obtain ⟨r1, g1, h⟩ := g_b h
    refine kcall_i (wMo cJ cZ b mce mfr mun mbe men mov msp mwb mwe mwi mac mre mkn mth) (va_runS (As := [.long y0, .int x1]) (rest := []) ⟨hx, hb, hml, hown, hts⟩ (c_X3_half l dC dI cB cI cJ cZ  _  y0 x1 r1 g1) (kcwS hts kw_1317 kv_X3_half rfl rfl ⟨(Nat.le_of_ble_eq_true rfl), (Nat.le_of_ble_eq_true rfl)⟩) (kpS (A := A) (kPnil) hK ((kDnil (A := A))) hG) rfl rfl hl.1 rfl (lv_room (Nat.le_of_ble_eq_true rfl)) dX3_length_57 ⟨(Nat.le_of_ble_eq_true rfl), (Nat.le_of_ble_eq_true rfl)⟩) hP hD hS hA (kIT mk_25 0) (kIT mk_26 0) (km_T (m := mk_25) rfl rfl) (km_T (m := mk_25) rfl rfl) [((b 0), .inr (5, [.ref (b 1), .long mfr, .long mun, .ref (b 2), .ref (b 3), .ref (b 4), .int msp, .ref (b 5), .ref (b 6), .int mwi, .int mac, .int mre, .int mkn, .int mth])), ((b 1), .inl (cJ, 4, .inr (.inl mce))), ((b 2), .inl (cJ, 10, .inr (.inl mbe))), ((b 3), .inl (cJ, 10, .inr (.inl men))), ((b 4), .inl (cZ, 10, .inl mov)), ((b 5), .inl (cJ, 8, .inr (.inl mwb))), ((b 6), .inl (cJ, 8, .inr (.inl mwe)))] (km_T (m := mk_26) rfl rfl) (km_T (m := mk_26) rfl rfl) (km_cov (m := mk_25) (n := mk_26) rfl rfl) (km_dis (m := mk_25) (n := mk_26) rfl) rfl (fun H locs hP hD hS br1 => ?_)
    have h := Option.some.inj h
    subst h
    refine W.widen (k := 1) (n := 22) (Nat.le_of_ble_eq_true rfl) (Nat.le_of_ble_eq_true rfl) ?_
    exact kret_i (v := r1) hx hb hr rfl hlocks hS hP dX3_length_60
  have J15 : ∀ (mce : Nat → Int64) (mfr : Int64) (mun : Int64) (mbe : Nat → Int64) (men : Nat → Int64) (mov : Nat → Int32) (msp : Int32) (mwb : Nat → Int64) (mwe : Nat → Int64) (mwi : Int32) (mac : Int32) (mre : Int32) (mkn : Int32) (mth : Int32) (x1 : Int32) (y0 : Int32) (H : Heap) (locs : List Loc), va_P (dC, dI) vwCl (wMo cJ cZ b mce mfr mun mbe men mov msp mwb mwe mwi mac mre mkn mth) H → va_D A (wMo cJ cZ b mce mfr mun mbe men mov msp mwb mwe mwi mac mre mkn mth) → va_S A s.heap H locs → ∀ (ls : Array Slot), lv_has ls 2 [(0, .ref (b 0)), (1, .int x1)] → f_X3_length_15 mfr mun mbe men msp x1 y0 = some res → W p l e (headSpec wsX3_length ({ frames := 3, cells := 1, slots := 22, locals := 73 } : Room)).room s m ([.ref (b 0), .int p0] : List Value).toArray below meth c H locs 0 0 (MQ below (kI (dC, dI) .int (res.1) (wMo cJ cZ b mce mfr mun mbe men mov msp mwb mwe mwi mac mre mkn (res.2)) A) ([.ref (b 0), .int p0] : List Value).toArray s 1 22 A) (F0 m 15 ls [.int y0, .ref (b 0)]) := by
    intro mce mfr mun mbe men mov msp mwb mwe mwi mac mre mkn mth x1 y0 H locs hP hD hS ls hl h
    have h := f_X3_length_15_e.symm.trans h
    obtain ⟨r1, g1, h⟩ := g_b h
    refine kcall_i (wMo cJ cZ b mce mfr mun mbe men mov msp mwb mwe mwi mac mre mkn r1.2) (va_runV (As := [.int y0]) (rest := []) ⟨hx, hb, hml, hown, hts⟩ (c_X3_isThrown_ l dC dI cB cI cJ cZ b _ mce mfr mun mbe men mov msp mwb mwe mwi mac mre mkn mth y0 r1 g1) (kcwV hts kw_1170 kv_X3_isThrown_ rfl rfl ⟨(Nat.le_of_ble_eq_true rfl), (Nat.le_of_ble_eq_true rfl)⟩) (kpV (A := A) (hP.sub (kIT mk_26 0) (km_f (m := mk_26) rfl rfl)) hK (hD.sub (kIT mk_26 0) (km_nd mk_26) (km_T (m := mk_26) rfl rfl)) hG (va_recv hK hP (ci := 5) (q0 := 0) rfl rfl)) rfl rfl hl.1 rfl (lv_room (Nat.le_of_ble_eq_true rfl)) dX3_length_15 ⟨(Nat.le_of_ble_eq_true rfl), (Nat.le_of_ble_eq_true rfl)⟩) hP hD hS hA (kIT mk_26 0) (kIT mk_25 0) (km_T (m := mk_26) rfl rfl) (km_T (m := mk_26) rfl rfl) [] (km_T (m := mk_25) rfl rfl) (km_T (m := mk_25) rfl rfl) (km_cov (m := mk_26) (n := mk_25) rfl rfl) (km_dis (m := mk_26) (n := mk_25) rfl) rfl (fun H locs hP hD hS br1 => ?_)
    refine lv_if_eq (tgt := 23) hx hb dX3_length_18 (by decide) (fun c2 => ?_) (fun c2 => ?_)
    · have h := g_t c2 h
      refine lv_iload_n hx hb dX3_length_23 rfl (lv_at hl 1 rfl) ?_
      refine lv_iconst (v := 2) hx hb dX3_length_24 (by decide) ?_
      refine lv_icmp_ge (tgt := 35) hx hb dX3_length_25 (by decide) (fun c3 => ?_) (fun c3 => ?_)
      · have h := g_t c3 h
        refine lv_iload_n hx hb dX3_length_35 rfl (lv_at hl 1 rfl) ?_
        refine lv_iconst (v := 4) hx hb dX3_length_36 (by decide) ?_
        refine lv_icmp_ge (tgt := 47) hx hb dX3_length_37 (by decide) (fun c4 => ?_) (fun c4 => ?_)
        · have h := g_t c4 h
          refine lv_aload_n hx hb dX3_length_47 rfl (lv_at hl 0 rfl) ?_
          refine va_get (D := (dC, dI)) (ci := 5) (v := .long mun) (C := RX3) (T := TX3) (N := 14) hx hb hts hiX3 hown hK hP 0 rfl rfl 2 (by decide) hw0 (fun _ h9 => h9) rfl dX3_length_48 ?_
          refine lv_aload_n hx hb dX3_length_51 rfl (lv_at hl 0 rfl) ?_
          refine va_get (D := (dC, dI)) (ci := 5) (v := .long mfr) (C := RX3) (T := TX3) (N := 14) hx hb hts hiX3 hown hK hP 0 rfl rfl 1 (by decide) hw1 (fun _ h9 => h9) rfl dX3_length_52 ?_
          refine lv_lsub hx hb dX3_length_55 ?_
          refine W.widen (k := 1) (n := 22) (Nat.le_of_ble_eq_true rfl) (Nat.le_of_ble_eq_true rfl) ?_
          exact J56 mce mfr mun mbe men mov msp mwb mwe mwi mac mre mkn r1.2 x1 (mun - mfr) _ _ hP hD hS ls (lv_sub hl [1] rfl) h
        · have h := g_f c4 h
          refine lv_aload_n hx hb dX3_length_40 rfl (lv_at hl 0 rfl) ?_
          obtain ⟨r5, g5, h⟩ := g_b h
          refine kcall_l (wMo cJ cZ b mce mfr mun mbe men mov msp mwb mwe mwi mac mre mkn r1.2) (va_runV (As := []) (rest := []) ⟨hx, hb, hml, hown, hts⟩ (c_X3_freeLength l dC dI cB cI cJ cZ b _ mce mfr mun mbe men mov msp mwb mwe mwi mac mre mkn r1.2  r5 g5) (kcwV hts kw_1387 kv_X3_freeLength rfl rfl ⟨(Nat.le_of_ble_eq_true rfl), (Nat.le_of_ble_eq_true rfl)⟩) (kpV (A := A) (hP.sub (kIT mk_26 0) (km_f (m := mk_26) rfl rfl)) hK (hD.sub (kIT mk_26 0) (km_nd mk_26) (km_T (m := mk_26) rfl rfl)) hG (va_recv hK hP (ci := 5) (q0 := 0) rfl rfl)) rfl rfl hl.1 rfl (lv_room (Nat.le_of_ble_eq_true rfl)) dX3_length_41 ⟨(Nat.le_of_ble_eq_true rfl), (Nat.le_of_ble_eq_true rfl)⟩) hP hD hS hA (kIT mk_26 0) (kIT mk_25 0) (km_T (m := mk_26) rfl rfl) (km_T (m := mk_26) rfl rfl) [] (km_T (m := mk_25) rfl rfl) (km_T (m := mk_25) rfl rfl) (km_cov (m := mk_26) (n := mk_25) rfl rfl) (km_dis (m := mk_26) (n := mk_25) rfl) rfl (fun H locs hP hD hS => ?_)
          refine lv_goto (tgt := 56) hx hb dX3_length_44 (by decide) ?_
          exact J56 mce mfr mun mbe men mov msp mwb mwe mwi mac mre mkn r1.2 x1 r5 _ _ hP hD hS ls (lv_sub hl [1] rfl) h
      · have h := g_f c3 h
        refine lv_aload_n hx hb dX3_length_28 rfl (lv_at hl 0 rfl) ?_
        obtain ⟨r4, g4, h⟩ := g_b h
        refine kcall_l (wMo cJ cZ b mce mfr mun mbe men mov msp mwb mwe mwi mac mre mkn r1.2) (va_runV (As := []) (rest := []) ⟨hx, hb, hml, hown, hts⟩ (c_X3_takenLength l dC dI cB cI cJ cZ b _ mce mfr mun mbe men mov msp mwb mwe mwi mac mre mkn r1.2  r4 g4) (kcwV hts kw_1383 kv_X3_takenLength rfl rfl ⟨(Nat.le_of_ble_eq_true rfl), (Nat.le_of_ble_eq_true rfl)⟩) (kpV (A := A) (hP.sub (kIT mk_26 0) (km_f (m := mk_26) rfl rfl)) hK (hD.sub (kIT mk_26 0) (km_nd mk_26) (km_T (m := mk_26) rfl rfl)) hG (va_recv hK hP (ci := 5) (q0 := 0) rfl rfl)) rfl rfl hl.1 rfl (lv_room (Nat.le_of_ble_eq_true rfl)) dX3_length_29 ⟨(Nat.le_of_ble_eq_true rfl), (Nat.le_of_ble_eq_true rfl)⟩) hP hD hS hA (kIT mk_26 0) (kIT mk_25 0) (km_T (m := mk_26) rfl rfl) (km_T (m := mk_26) rfl rfl) [] (km_T (m := mk_25) rfl rfl) (km_T (m := mk_25) rfl rfl) (km_cov (m := mk_26) (n := mk_25) rfl rfl) (km_dis (m := mk_26) (n := mk_25) rfl) rfl (fun H locs hP hD hS => ?_)
        refine lv_goto (tgt := 56) hx hb dX3_length_32 (by decide) ?_
        refine W.widen (k := 1) (n := 22) (Nat.le_of_ble_eq_true rfl) (Nat.le_of_ble_eq_true rfl) ?_
        exact J56 mce mfr mun mbe men mov msp mwb mwe mwi mac mre mkn r1.2 x1 r4 _ _ hP hD hS ls (lv_sub hl [1] rfl) h
    · have h := g_f c2 h
      refine lv_iconst (v := 0) hx hb dX3_length_21 (by decide) ?_
      have h := Option.some.inj h
      subst h
      refine W.widen (k := 1) (n := 22) (Nat.le_of_ble_eq_true rfl) (Nat.le_of_ble_eq_true rfl) ?_
      exact kret_i (v := 0) hx hb hr rfl hlocks hS hP dX3_length_22
  have J10 : ∀ (mce : Nat → Int64) (mfr : Int64) (mun : Int64) (mbe : Nat → Int64) (men : Nat → Int64) (mov : Nat → Int32) (msp : Int32) (mwb : Nat → Int64) (mwe : Nat → Int64) (mwi : Int32) (mac : Int32) (mre : Int32) (mkn : Int32) (mth : Int32) (x1 : Int32) (H : Heap) (locs : List Loc), va_P (dC, dI) vwCl (wMo cJ cZ b mce mfr mun mbe men mov msp mwb mwe mwi mac mre mkn mth) H → va_D A (wMo cJ cZ b mce mfr mun mbe men mov msp mwb mwe mwi mac mre mkn mth) → va_S A s.heap H locs → ∀ (ls : Array Slot), lv_has ls 2 [(0, .ref (b 0)), (1, .int x1)] → f_X3_length_10 mfr mun mbe men msp x1 = some res → W p l e (headSpec wsX3_length ({ frames := 3, cells := 1, slots := 22, locals := 73 } : Room)).room s m ([.ref (b 0), .int p0] : List Value).toArray below meth c H locs 0 0 (MQ below (kI (dC, dI) .int (res.1) (wMo cJ cZ b mce mfr mun mbe men mov msp mwb mwe mwi mac mre mkn (res.2)) A) ([.ref (b 0), .int p0] : List Value).toArray s 1 22 A) (F0 m 10 ls [.ref (b 0)]) := by
    intro mce mfr mun mbe men mov msp mwb mwe mwi mac mre mkn mth x1 H locs hP hD hS ls hl h
    have h := f_X3_length_10_e.symm.trans h
    refine lv_iconst (v := 1) hx hb dX3_length_10 (by decide) ?_
    refine lv_goto (tgt := 15) hx hb dX3_length_11 (by decide) ?_
    exact J15 mce mfr mun mbe men mov msp mwb mwe mwi mac mre mkn mth x1 1 _ _ hP hD hS ls (lv_sub hl [0, 1] rfl) h
  have hl := lv_entry ([.ref (b 0), .int p0]) (n := 2) (Nat.le_of_ble_eq_true rfl)
  rw [lg_entry_eq]
  generalize (lg_sl ([.ref (b 0), .int p0]) ++ List.replicate (2 - (lg_sl ([.ref (b 0), .int p0])).length) Slot.unset).toArray = ls at hl ⊢
  have hl : lv_has ls 2 [(0, .ref (b 0)), (1, .int p0)] := hl
  have h := f_X3_length_e.symm.trans hf
  refine lv_aload_n hx hb dX3_length_0 rfl (lv_at hl 0 rfl) ?_
  refine lv_iload_n hx hb dX3_length_1 rfl (lv_at hl 1 rfl) ?_
  refine lv_if_lt (tgt := 10) hx hb dX3_length_2 (by decide) (fun c1 => ?_) (fun c1 => ?_)
  · have h := g_t c1 h
    exact J10 mce mfr mun mbe men mov msp mwb mwe mwi mac mre mkn mth p0 _ _ hP hD hS ls (lv_sub hl [0, 1] rfl) h
  · have h := g_f c1 h
    refine lv_iload_n hx hb dX3_length_5 rfl (lv_at hl 1 rfl) ?_
    refine lv_iconst (v := 5) hx hb dX3_length_6 (by decide) ?_
    refine lv_icmp_le (tgt := 14) hx hb dX3_length_7 (by decide) (fun c2 => ?_) (fun c2 => ?_)
    · have h := g_t c2 h
      refine lv_iconst (v := 0) hx hb dX3_length_14 (by decide) ?_
      exact J15 mce mfr mun mbe men mov msp mwb mwe mwi mac mre mkn mth p0 0 _ _ hP hD hS ls (lv_sub hl [0, 1] rfl) h
    · have h := g_f c2 h
      exact J10 mce mfr mun mbe men mov msp mwb mwe mwi mac mre mkn mth p0 _ _ hP hD hS ls (lv_sub hl [0, 1] rfl) h
abbrev wsX3_wishes : List Cond := kWs yX3_wishes cX3_wishes 1 (some .int)
def f_X3_wishes (mwi : Int32) : Option ((Int32) × (Int32)) :=
  some (mwi, 0)
theorem f_X3_wishes_e {mwi : Int32} : f_X3_wishes mwi = 
  some (mwi, 0) := rfl
set_option maxHeartbeats 4000000 in
set_option maxRecDepth 100000 in
theorem c_X3_wishes (l : Launch) (dC : Nat → ClassId) (dI : Nat → Nat → Nat) (cB cI cJ cZ : ClassId) (b : Nat → Nat) (sz : Nat) (mce : Nat → Int64) (mfr : Int64) (mun : Int64) (mbe : Nat → Int64) (men : Nat → Int64) (mov : Nat → Int32) (msp : Int32) (mwb : Nat → Int64) (mwe : Nat → Int64) (mwi : Int32) (mac : Int32) (mre : Int32) (mkn : Int32) (mth : Int32) (res : (Int32) × (Int32)) (hf : f_X3_wishes mwi = some res) : Met l yX3_wishes wsX3_wishes ({ frames := 0, cells := 0, slots := 0, locals := 0 } : Room) (kPre (dC, dI) (kTy cB cI cJ cZ) [.ref (b 0)] sz (wMo cJ cZ b mce mfr mun mbe men mov msp mwb mwe mwi mac mre mkn mth)) (kI (dC, dI) .int (res.1) (wMo cJ cZ b mce mfr mun mbe men mov msp mwb mwe mwi mac mre mkn (res.2)) (va_A (wMo cJ cZ b mce mfr mun mbe men mov msp mwb mwe mwi mac mre mkn mth) sz)) 0 0 (va_A (wMo cJ cZ b mce mfr mun mbe men mov msp mwb mwe mwi mac mre mkn mth) sz) := by
  refine Met.ofW (cc := cX3_wishes) (maxL := 1) (ret := (some .int)) (by decide) rfl ?_
  intro p e s m args below meth c s₁ B hml hv
  obtain ⟨rfl, hsz, hP, hK, hD0, hG⟩ := hv
  have hx := B.exec
  have hb := B.bytes
  have hr := B.returns
  have hts := atoms_spec (ws := wsX3_wishes) B.pre
  have hown : s.vm.findClass RX3 = some m.cls := findClass_of_methodNamed B.named
  have hlocks := B.notSynchronized
  subst hsz
  have hD := hD0.self (sz := s.heap.size)
  generalize hAe : va_A (wMo cJ cZ b mce mfr mun mbe men mov msp mwb mwe mwi mac mre mkn mth) s.heap.size = A at hD ⊢
  have hA : ∀ q : Nat, s.heap.size ≤ q → A q := fun q h => by rw [← hAe]; exact Or.inr h
  have hS : va_S A s.heap s.heap [] := va_S.rf
  clear hAe
  have hw0 := hts (.fieldLink RX3 35 "SpanbookerModel" "thrown" "I") (List.mem_cons_of_mem _ kw_1085)
  have hw1 := hts (.fieldLink RX3 88 "SpanbookerModel" "wishes" "I") (List.mem_cons_of_mem _ kw_1081)
  have hiX3 : ∀ w ∈ u_ws RX3 TX3 14, w ∈ wsX3_wishes := fun w h => List.mem_cons_of_mem _ (ku_X3 w h)
  have hl := lv_entry ([.ref (b 0)]) (n := 1) (Nat.le_of_ble_eq_true rfl)
  rw [lg_entry_eq]
  generalize (lg_sl ([.ref (b 0)]) ++ List.replicate (1 - (lg_sl ([.ref (b 0)])).length) Slot.unset).toArray = ls at hl ⊢
  have hl : lv_has ls 1 [(0, .ref (b 0))] := hl
  have h := f_X3_wishes_e.symm.trans hf
  refine lv_aload_n hx hb dX3_wishes_0 rfl (lv_at hl 0 rfl) ?_
  refine lv_iconst (v := 0) hx hb dX3_wishes_1 (by decide) ?_
  refine va_put (D := (dC, dI)) (ci := 5) (v := .int 0) (ty := .int) (C := RX3) (T := TX3) (N := 14) hx hb hts hiX3 tyX3 tyX3_ok nmX3 hown hK hP hD hS 0 rfl rfl 13 (by decide) hw0 (fun _ h9 => h9) rfl (by decide +kernel) rfl rfl (Nat.le_of_ble_eq_true rfl) dX3_wishes_2 (fun H locs hP hD hS => ?_)
  have hP : va_P (dC, dI) vwCl (wMo cJ cZ b mce mfr mun mbe men mov msp mwb mwe mwi mac mre mkn 0) H := hP
  have hD : va_D A (wMo cJ cZ b mce mfr mun mbe men mov msp mwb mwe mwi mac mre mkn 0) := hD
  refine lv_aload_n hx hb dX3_wishes_5 rfl (lv_at hl 0 rfl) ?_
  refine va_get (D := (dC, dI)) (ci := 5) (v := .int mwi) (C := RX3) (T := TX3) (N := 14) hx hb hts hiX3 hown hK hP 0 rfl rfl 9 (by decide) hw1 (fun _ h9 => h9) rfl dX3_wishes_6 ?_
  have h := Option.some.inj h
  subst h
  exact kret_i (v := mwi) hx hb hr rfl hlocks hS hP dX3_wishes_9
abbrev wsX3_ofWish : List Cond := kWs yX3_ofWish cX3_ofWish 3 (some .int)
def f_X3_ofWish_58 (mth : Int32) (x2 : Int32) (y0 : Int64) : Option ((Int32) × (Int32)) :=
  (f_X3_half y0 x2).bind fun r1 =>
  some (r1, mth)
theorem f_X3_ofWish_58_e {mth : Int32} {x2 : Int32} {y0 : Int64} : f_X3_ofWish_58 mth x2 y0 =
  (f_X3_half y0 x2).bind fun r1 =>
  some (r1, mth) := rfl
def f_X3_ofWish_28 (mwb : Nat → Int64) (mwe : Nat → Int64) (x1 : Int32) (x2 : Int32) (y0 : Int32) (y1 : Int32) : Option ((Int32) × (Int32)) :=
  (f_X3_isThrown y1 y0).bind fun r1 =>
  if r1.1 = 0 then
    if 2 ≤ x2 then
      if ix x1 8 then
        f_X3_ofWish_58 r1.2 x2 (mwe x1.toNatClampNeg)
      else none
    else
      if ix x1 8 then
        f_X3_ofWish_58 r1.2 x2 (mwb x1.toNatClampNeg)
      else none
  else
    some (0, r1.2)
theorem f_X3_ofWish_28_e {mwb : Nat → Int64} {mwe : Nat → Int64} {x1 : Int32} {x2 : Int32} {y0 : Int32} {y1 : Int32} : f_X3_ofWish_28 mwb mwe x1 x2 y0 y1 =
  (f_X3_isThrown y1 y0).bind fun r1 =>
  if r1.1 = 0 then
    if 2 ≤ x2 then
      if ix x1 8 then
        f_X3_ofWish_58 r1.2 x2 (mwe x1.toNatClampNeg)
      else none
    else
      if ix x1 8 then
        f_X3_ofWish_58 r1.2 x2 (mwb x1.toNatClampNeg)
      else none
  else
    some (0, r1.2) := rfl
def f_X3_ofWish_23 (mwb : Nat → Int64) (mwe : Nat → Int64) (x1 : Int32) (x2 : Int32) (y0 : Int32) : Option ((Int32) × (Int32)) :=
  f_X3_ofWish_28 mwb mwe x1 x2 1 y0
theorem f_X3_ofWish_23_e {mwb : Nat → Int64} {mwe : Nat → Int64} {x1 : Int32} {x2 : Int32} {y0 : Int32} : f_X3_ofWish_23 mwb mwe x1 x2 y0 =
  f_X3_ofWish_28 mwb mwe x1 x2 1 y0 := rfl
def f_X3_ofWish_14 (mwb : Nat → Int64) (mwe : Nat → Int64) (x1 : Int32) (x2 : Int32) (y0 : Int32) : Option ((Int32) × (Int32)) :=
  if x2 < 0 then
    f_X3_ofWish_23 mwb mwe x1 x2 y0
  else
    if x2 ≤ 3 then
      f_X3_ofWish_28 mwb mwe x1 x2 0 y0
    else
      f_X3_ofWish_23 mwb mwe x1 x2 y0
theorem f_X3_ofWish_14_e {mwb : Nat → Int64} {mwe : Nat → Int64} {x1 : Int32} {x2 : Int32} {y0 : Int32} : f_X3_ofWish_14 mwb mwe x1 x2 y0 =
  if x2 < 0 then
    f_X3_ofWish_23 mwb mwe x1 x2 y0
  else
    if x2 ≤ 3 then
      f_X3_ofWish_28 mwb mwe x1 x2 0 y0
    else
      f_X3_ofWish_23 mwb mwe x1 x2 y0 := rfl
def f_X3_ofWish (mwb : Nat → Int64) (mwe : Nat → Int64) (mwi : Int32) (p0 : Int32) (p1 : Int32) : Option ((Int32) × (Int32)) :=
  (f_X3_isWish mwi p0).bind fun r1 =>
  if r1 = 0 then
    f_X3_ofWish_14 mwb mwe p0 p1 1
  else
    f_X3_ofWish_14 mwb mwe p0 p1 0
theorem f_X3_ofWish_e {mwb : Nat → Int64} {mwe : Nat → Int64} {mwi : Int32} {p0 : Int32} {p1 : Int32} : f_X3_ofWish mwb mwe mwi p0 p1 = 
  (f_X3_isWish mwi p0).bind fun r1 =>
  if r1 = 0 then
    f_X3_ofWish_14 mwb mwe p0 p1 1
  else
    f_X3_ofWish_14 mwb mwe p0 p1 0 := rfl
set_option maxHeartbeats 4000000 in
set_option maxRecDepth 100000 in
theorem c_X3_ofWish (l : Launch) (dC : Nat → ClassId) (dI : Nat → Nat → Nat) (cB cI cJ cZ : ClassId) (b : Nat → Nat) (sz : Nat) (mce : Nat → Int64) (mfr : Int64) (mun : Int64) (mbe : Nat → Int64) (men : Nat → Int64) (mov : Nat → Int32) (msp : Int32) (mwb : Nat → Int64) (mwe : Nat → Int64) (mwi : Int32) (mac : Int32) (mre : Int32) (mkn : Int32) (mth : Int32) (p0 : Int32) (p1 : Int32) (res : (Int32) × (Int32)) (hf : f_X3_ofWish mwb mwe mwi p0 p1 = some res) : Met l yX3_ofWish wsX3_ofWish ({ frames := 3, cells := 0, slots := 0, locals := 64 } : Room) (kPre (dC, dI) (kTy cB cI cJ cZ) [.ref (b 0), .int p0, .int p1] sz (wMo cJ cZ b mce mfr mun mbe men mov msp mwb mwe mwi mac mre mkn mth)) (kI (dC, dI) .int (res.1) (wMo cJ cZ b mce mfr mun mbe men mov msp mwb mwe mwi mac mre mkn (res.2)) (va_A (wMo cJ cZ b mce mfr mun mbe men mov msp mwb mwe mwi mac mre mkn mth) sz)) 0 0 (va_A (wMo cJ cZ b mce mfr mun mbe men mov msp mwb mwe mwi mac mre mkn mth) sz) := by
  refine Met.ofW (cc := cX3_ofWish) (maxL := 3) (ret := (some .int)) (by decide) rfl ?_
  intro p e s m args below meth c s₁ B hml hv
  obtain ⟨rfl, hsz, hP, hK, hD0, hG⟩ := hv
  have hx := B.exec
  have hb := B.bytes
  have hr := B.returns
  have hts := atoms_spec (ws := wsX3_ofWish) B.pre
  have hown : s.vm.findClass RX3 = some m.cls := findClass_of_methodNamed B.named
  have hlocks := B.notSynchronized
  subst hsz
  have hD := hD0.self (sz := s.heap.size)
  generalize hAe : va_A (wMo cJ cZ b mce mfr mun mbe men mov msp mwb mwe mwi mac mre mkn mth) s.heap.size = A at hD ⊢
  have hA : ∀ q : Nat, s.heap.size ≤ q → A q := fun q h => by rw [← hAe]; exact Or.inr h
  have hS : va_S A s.heap s.heap [] := va_S.rf
  clear hAe
  have hw0 := hts (.fieldLink RX3 32 "SpanbookerModel" "wishEnds" "[J") (List.mem_cons_of_mem _ kw_1080)
  have hw1 := hts (.fieldLink RX3 29 "SpanbookerModel" "wishBegins" "[J") (List.mem_cons_of_mem _ kw_1079)
  have hiX3 : ∀ w ∈ u_ws RX3 TX3 14, w ∈ wsX3_ofWish := fun w h => List.mem_cons_of_mem _ (ku_X3 w h)
  have J58 : ∀ (mce : Nat → Int64) (mfr : Int64) (mun : Int64) (mbe : Nat → Int64) (men : Nat → Int64) (mov : Nat → Int32) (msp : Int32) (mwb : Nat → Int64) (mwe : Nat → Int64) (mwi : Int32) (mac : Int32) (mre : Int32) (mkn : Int32) (mth : Int32) (x2 : Int32) (y0 : Int64) (H : Heap) (locs : List Loc), va_P (dC, dI) vwCl (wMo cJ cZ b mce mfr mun mbe men mov msp mwb mwe mwi mac mre mkn mth) H → va_D A (wMo cJ cZ b mce mfr mun mbe men mov msp mwb mwe mwi mac mre mkn mth) → va_S A s.heap H locs → ∀ (ls : Array Slot), lv_has ls 3 [(2, .int x2)] → f_X3_ofWish_58 mth x2 y0 = some res → W p l e (headSpec wsX3_ofWish ({ frames := 3, cells := 0, slots := 0, locals := 64 } : Room)).room s m ([.ref (b 0), .int p0, .int p1] : List Value).toArray below meth c H locs 0 0 (MQ below (kI (dC, dI) .int (res.1) (wMo cJ cZ b mce mfr mun mbe men mov msp mwb mwe mwi mac mre mkn (res.2)) A) ([.ref (b 0), .int p0, .int p1] : List Value).toArray s 0 0 A) (F0 m 58 ls [.long y0]) := by
    intro mce mfr mun mbe men mov msp mwb mwe mwi mac mre mkn mth x2 y0 H locs hP hD hS ls hl h
    have h := f_X3_ofWish_58_e.symm.trans h
    refine lv_iload_n hx hb dX3_ofWish_58 rfl (lv_at hl 0 rfl) ?_
    obtain ⟨r1, g1, h⟩ := g_b h
    refine kcall_i (wMo cJ cZ b mce mfr mun mbe men mov msp mwb mwe mwi mac mre mkn mth) (va_runS (As := [.long y0, .int x2]) (rest := []) ⟨hx, hb, hml, hown, hts⟩ (c_X3_half l dC dI cB cI cJ cZ  _  y0 x2 r1 g1) (kcwS hts kw_1317 kv_X3_half rfl rfl ⟨(Nat.le_of_ble_eq_true rfl), (Nat.le_of_ble_eq_true rfl)⟩) (kpS (A := A) (kPnil) hK ((kDnil (A := A))) hG) rfl rfl hl.1 rfl (lv_room (Nat.le_of_ble_eq_true rfl)) dX3_ofWish_59 ⟨(Nat.le_of_ble_eq_true rfl), (Nat.le_of_ble_eq_true rfl)⟩) hP hD hS hA (kIT mk_25 0) (kIT mk_26 0) (km_T (m := mk_25) rfl rfl) (km_T (m := mk_25) rfl rfl) [((b 0), .inr (5, [.ref (b 1), .long mfr, .long mun, .ref (b 2), .ref (b 3), .ref (b 4), .int msp, .ref (b 5), .ref (b 6), .int mwi, .int mac, .int mre, .int mkn, .int mth])), ((b 1), .inl (cJ, 4, .inr (.inl mce))), ((b 2), .inl (cJ, 10, .inr (.inl mbe))), ((b 3), .inl (cJ, 10, .inr (.inl men))), ((b 4), .inl (cZ, 10, .inl mov)), ((b 5), .inl (cJ, 8, .inr (.inl mwb))), ((b 6), .inl (cJ, 8, .inr (.inl mwe)))] (km_T (m := mk_26) rfl rfl) (km_T (m := mk_26) rfl rfl) (km_cov (m := mk_25) (n := mk_26) rfl rfl) (km_dis (m := mk_25) (n := mk_26) rfl) rfl (fun H locs hP hD hS br1 => ?_)
    have h := Option.some.inj h
    subst h
    exact kret_i (v := r1) hx hb hr rfl hlocks hS hP dX3_ofWish_62
  have J28 : ∀ (mce : Nat → Int64) (mfr : Int64) (mun : Int64) (mbe : Nat → Int64) (men : Nat → Int64) (mov : Nat → Int32) (msp : Int32) (mwb : Nat → Int64) (mwe : Nat → Int64) (mwi : Int32) (mac : Int32) (mre : Int32) (mkn : Int32) (mth : Int32) (x1 : Int32) (x2 : Int32) (y0 : Int32) (y1 : Int32) (H : Heap) (locs : List Loc), va_P (dC, dI) vwCl (wMo cJ cZ b mce mfr mun mbe men mov msp mwb mwe mwi mac mre mkn mth) H → va_D A (wMo cJ cZ b mce mfr mun mbe men mov msp mwb mwe mwi mac mre mkn mth) → va_S A s.heap H locs → ∀ (ls : Array Slot), lv_has ls 3 [(0, .ref (b 0)), (1, .int x1), (2, .int x2)] → f_X3_ofWish_28 mwb mwe x1 x2 y0 y1 = some res → W p l e (headSpec wsX3_ofWish ({ frames := 3, cells := 0, slots := 0, locals := 64 } : Room)).room s m ([.ref (b 0), .int p0, .int p1] : List Value).toArray below meth c H locs 0 0 (MQ below (kI (dC, dI) .int (res.1) (wMo cJ cZ b mce mfr mun mbe men mov msp mwb mwe mwi mac mre mkn (res.2)) A) ([.ref (b 0), .int p0, .int p1] : List Value).toArray s 0 0 A) (F0 m 28 ls [.int y0, .int y1, .ref (b 0)]) := by
    intro mce mfr mun mbe men mov msp mwb mwe mwi mac mre mkn mth x1 x2 y0 y1 H locs hP hD hS ls hl h
    have h := f_X3_ofWish_28_e.symm.trans h
    obtain ⟨r1, g1, h⟩ := g_b h
    refine kcall_i (wMo cJ cZ b mce mfr mun mbe men mov msp mwb mwe mwi mac mre mkn r1.2) (va_runV (As := [.int y1, .int y0]) (rest := []) ⟨hx, hb, hml, hown, hts⟩ (c_X3_isThrown l dC dI cB cI cJ cZ b _ mce mfr mun mbe men mov msp mwb mwe mwi mac mre mkn mth y1 y0 r1 g1) (kcwV hts kw_1130 kv_X3_isThrown rfl rfl ⟨(Nat.le_of_ble_eq_true rfl), (Nat.le_of_ble_eq_true rfl)⟩) (kpV (A := A) (hP.sub (kIT mk_26 0) (km_f (m := mk_26) rfl rfl)) hK (hD.sub (kIT mk_26 0) (km_nd mk_26) (km_T (m := mk_26) rfl rfl)) hG (va_recv hK hP (ci := 5) (q0 := 0) rfl rfl)) rfl rfl hl.1 rfl (lv_room (Nat.le_of_ble_eq_true rfl)) dX3_ofWish_28 ⟨(Nat.le_of_ble_eq_true rfl), (Nat.le_of_ble_eq_true rfl)⟩) hP hD hS hA (kIT mk_26 0) (kIT mk_25 0) (km_T (m := mk_26) rfl rfl) (km_T (m := mk_26) rfl rfl) [] (km_T (m := mk_25) rfl rfl) (km_T (m := mk_25) rfl rfl) (km_cov (m := mk_26) (n := mk_25) rfl rfl) (km_dis (m := mk_26) (n := mk_25) rfl) rfl (fun H locs hP hD hS br1 => ?_)
    refine lv_if_eq (tgt := 38) hx hb dX3_ofWish_31 (by decide) (fun c2 => ?_) (fun c2 => ?_)
    · have h := g_t c2 h
      refine lv_iload_n hx hb dX3_ofWish_38 rfl (lv_at hl 2 rfl) ?_
      refine lv_iconst (v := 2) hx hb dX3_ofWish_39 (by decide) ?_
      refine lv_icmp_ge (tgt := 52) hx hb dX3_ofWish_40 (by decide) (fun c3 => ?_) (fun c3 => ?_)
      · have h := g_t c3 h
        refine lv_aload_n hx hb dX3_ofWish_52 rfl (lv_at hl 0 rfl) ?_
        refine va_get (D := (dC, dI)) (ci := 5) (v := .ref (b 6)) (C := RX3) (T := TX3) (N := 14) hx hb hts hiX3 hown hK hP 0 rfl rfl 8 (by decide) hw0 (fun _ h9 => h9) rfl dX3_ofWish_53 ?_
        refine lv_iload_n hx hb dX3_ofWish_56 rfl (lv_at hl 1 rfl) ?_
        obtain ⟨z3, h⟩ := g_if h
        refine va_lald hx hb hK hP 6 2 rfl rfl (ix_in z3) dX3_ofWish_57 ?_
        exact J58 mce mfr mun mbe men mov msp mwb mwe mwi mac mre mkn r1.2 x2 (mwe x1.toNatClampNeg) _ _ hP hD hS ls (lv_sub hl [2] rfl) h
      · have h := g_f c3 h
        refine lv_aload_n hx hb dX3_ofWish_43 rfl (lv_at hl 0 rfl) ?_
        refine va_get (D := (dC, dI)) (ci := 5) (v := .ref (b 5)) (C := RX3) (T := TX3) (N := 14) hx hb hts hiX3 hown hK hP 0 rfl rfl 7 (by decide) hw1 (fun _ h9 => h9) rfl dX3_ofWish_44 ?_
        refine lv_iload_n hx hb dX3_ofWish_47 rfl (lv_at hl 1 rfl) ?_
        obtain ⟨z3, h⟩ := g_if h
        refine va_lald hx hb hK hP 5 2 rfl rfl (ix_in z3) dX3_ofWish_48 ?_
        refine lv_goto (tgt := 58) hx hb dX3_ofWish_49 (by decide) ?_
        exact J58 mce mfr mun mbe men mov msp mwb mwe mwi mac mre mkn r1.2 x2 (mwb x1.toNatClampNeg) _ _ hP hD hS ls (lv_sub hl [2] rfl) h
    · have h := g_f c2 h
      refine lv_iconst (v := 0) hx hb dX3_ofWish_34 (by decide) ?_
      refine lv_goto (tgt := 62) hx hb dX3_ofWish_35 (by decide) ?_
      have h := Option.some.inj h
      subst h
      exact kret_i (v := 0) hx hb hr rfl hlocks hS hP dX3_ofWish_62
  have J23 : ∀ (mce : Nat → Int64) (mfr : Int64) (mun : Int64) (mbe : Nat → Int64) (men : Nat → Int64) (mov : Nat → Int32) (msp : Int32) (mwb : Nat → Int64) (mwe : Nat → Int64) (mwi : Int32) (mac : Int32) (mre : Int32) (mkn : Int32) (mth : Int32) (x1 : Int32) (x2 : Int32) (y0 : Int32) (H : Heap) (locs : List Loc), va_P (dC, dI) vwCl (wMo cJ cZ b mce mfr mun mbe men mov msp mwb mwe mwi mac mre mkn mth) H → va_D A (wMo cJ cZ b mce mfr mun mbe men mov msp mwb mwe mwi mac mre mkn mth) → va_S A s.heap H locs → ∀ (ls : Array Slot), lv_has ls 3 [(0, .ref (b 0)), (1, .int x1), (2, .int x2)] → f_X3_ofWish_23 mwb mwe x1 x2 y0 = some res → W p l e (headSpec wsX3_ofWish ({ frames := 3, cells := 0, slots := 0, locals := 64 } : Room)).room s m ([.ref (b 0), .int p0, .int p1] : List Value).toArray below meth c H locs 0 0 (MQ below (kI (dC, dI) .int (res.1) (wMo cJ cZ b mce mfr mun mbe men mov msp mwb mwe mwi mac mre mkn (res.2)) A) ([.ref (b 0), .int p0, .int p1] : List Value).toArray s 0 0 A) (F0 m 23 ls [.int y0, .ref (b 0)]) := by
    intro mce mfr mun mbe men mov msp mwb mwe mwi mac mre mkn mth x1 x2 y0 H locs hP hD hS ls hl h
    have h := f_X3_ofWish_23_e.symm.trans h
    refine lv_iconst (v := 1) hx hb dX3_ofWish_23 (by decide) ?_
    refine lv_goto (tgt := 28) hx hb dX3_ofWish_24 (by decide) ?_
    exact J28 mce mfr mun mbe men mov msp mwb mwe mwi mac mre mkn mth x1 x2 1 y0 _ _ hP hD hS ls (lv_sub hl [0, 1, 2] rfl) h
  have J14 : ∀ (mce : Nat → Int64) (mfr : Int64) (mun : Int64) (mbe : Nat → Int64) (men : Nat → Int64) (mov : Nat → Int32) (msp : Int32) (mwb : Nat → Int64) (mwe : Nat → Int64) (mwi : Int32) (mac : Int32) (mre : Int32) (mkn : Int32) (mth : Int32) (x1 : Int32) (x2 : Int32) (y0 : Int32) (H : Heap) (locs : List Loc), va_P (dC, dI) vwCl (wMo cJ cZ b mce mfr mun mbe men mov msp mwb mwe mwi mac mre mkn mth) H → va_D A (wMo cJ cZ b mce mfr mun mbe men mov msp mwb mwe mwi mac mre mkn mth) → va_S A s.heap H locs → ∀ (ls : Array Slot), lv_has ls 3 [(0, .ref (b 0)), (1, .int x1), (2, .int x2)] → f_X3_ofWish_14 mwb mwe x1 x2 y0 = some res → W p l e (headSpec wsX3_ofWish ({ frames := 3, cells := 0, slots := 0, locals := 64 } : Room)).room s m ([.ref (b 0), .int p0, .int p1] : List Value).toArray below meth c H locs 0 0 (MQ below (kI (dC, dI) .int (res.1) (wMo cJ cZ b mce mfr mun mbe men mov msp mwb mwe mwi mac mre mkn (res.2)) A) ([.ref (b 0), .int p0, .int p1] : List Value).toArray s 0 0 A) (F0 m 14 ls [.int y0, .ref (b 0)]) := by
    intro mce mfr mun mbe men mov msp mwb mwe mwi mac mre mkn mth x1 x2 y0 H locs hP hD hS ls hl h
    have h := f_X3_ofWish_14_e.symm.trans h
    refine lv_iload_n hx hb dX3_ofWish_14 rfl (lv_at hl 2 rfl) ?_
    refine lv_if_lt (tgt := 23) hx hb dX3_ofWish_15 (by decide) (fun c1 => ?_) (fun c1 => ?_)
    · have h := g_t c1 h
      exact J23 mce mfr mun mbe men mov msp mwb mwe mwi mac mre mkn mth x1 x2 y0 _ _ hP hD hS ls (lv_sub hl [0, 1, 2] rfl) h
    · have h := g_f c1 h
      refine lv_iload_n hx hb dX3_ofWish_18 rfl (lv_at hl 2 rfl) ?_
      refine lv_iconst (v := 3) hx hb dX3_ofWish_19 (by decide) ?_
      refine lv_icmp_le (tgt := 27) hx hb dX3_ofWish_20 (by decide) (fun c2 => ?_) (fun c2 => ?_)
      · have h := g_t c2 h
        refine lv_iconst (v := 0) hx hb dX3_ofWish_27 (by decide) ?_
        exact J28 mce mfr mun mbe men mov msp mwb mwe mwi mac mre mkn mth x1 x2 0 y0 _ _ hP hD hS ls (lv_sub hl [0, 1, 2] rfl) h
      · have h := g_f c2 h
        exact J23 mce mfr mun mbe men mov msp mwb mwe mwi mac mre mkn mth x1 x2 y0 _ _ hP hD hS ls (lv_sub hl [0, 1, 2] rfl) h
  have hl := lv_entry ([.ref (b 0), .int p0, .int p1]) (n := 3) (Nat.le_of_ble_eq_true rfl)
  rw [lg_entry_eq]
  generalize (lg_sl ([.ref (b 0), .int p0, .int p1]) ++ List.replicate (3 - (lg_sl ([.ref (b 0), .int p0, .int p1])).length) Slot.unset).toArray = ls at hl ⊢
  have hl : lv_has ls 3 [(0, .ref (b 0)), (1, .int p0), (2, .int p1)] := hl
  have h := f_X3_ofWish_e.symm.trans hf
  refine lv_aload_n hx hb dX3_ofWish_0 rfl (lv_at hl 0 rfl) ?_
  refine lv_aload_n hx hb dX3_ofWish_1 rfl (lv_at hl 0 rfl) ?_
  refine lv_iload_n hx hb dX3_ofWish_2 rfl (lv_at hl 1 rfl) ?_
  obtain ⟨r1, g1, h⟩ := g_b h
  refine kcall_i (wMo cJ cZ b mce mfr mun mbe men mov msp mwb mwe mwi mac mre mkn mth) (va_runV (As := [.int p0]) (rest := [.ref (b 0)]) ⟨hx, hb, hml, hown, hts⟩ (c_X3_isWish l dC dI cB cI cJ cZ b _ mce mfr mun mbe men mov msp mwb mwe mwi mac mre mkn mth p0 r1 g1) (kcwV hts kw_1259 kv_X3_isWish rfl rfl ⟨(Nat.le_of_ble_eq_true rfl), (Nat.le_of_ble_eq_true rfl)⟩) (kpV (A := A) (hP.sub (kIT mk_26 0) (km_f (m := mk_26) rfl rfl)) hK (hD.sub (kIT mk_26 0) (km_nd mk_26) (km_T (m := mk_26) rfl rfl)) hG (va_recv hK hP (ci := 5) (q0 := 0) rfl rfl)) rfl rfl hl.1 rfl (lv_room (Nat.le_of_ble_eq_true rfl)) dX3_ofWish_3 ⟨(Nat.le_of_ble_eq_true rfl), (Nat.le_of_ble_eq_true rfl)⟩) hP hD hS hA (kIT mk_26 0) (kIT mk_25 0) (km_T (m := mk_26) rfl rfl) (km_T (m := mk_26) rfl rfl) [] (km_T (m := mk_25) rfl rfl) (km_T (m := mk_25) rfl rfl) (km_cov (m := mk_26) (n := mk_25) rfl rfl) (km_dis (m := mk_26) (n := mk_25) rfl) rfl (fun H locs hP hD hS br1 => ?_)
  refine lv_if_ne (tgt := 13) hx hb dX3_ofWish_6 (by decide) (fun c2 => ?_) (fun c2 => ?_)
  · have h := g_f c2 h
    refine lv_iconst (v := 0) hx hb dX3_ofWish_13 (by decide) ?_
    exact J14 mce mfr mun mbe men mov msp mwb mwe mwi mac mre mkn mth p0 p1 0 _ _ hP hD hS ls (lv_sub hl [0, 1, 2] rfl) h
  · have h := g_t c2 h
    refine lv_iconst (v := 1) hx hb dX3_ofWish_9 (by decide) ?_
    refine lv_goto (tgt := 14) hx hb dX3_ofWish_10 (by decide) ?_
    exact J14 mce mfr mun mbe men mov msp mwb mwe mwi mac mre mkn mth p0 p1 1 _ _ hP hD hS ls (lv_sub hl [0, 1, 2] rfl) h
abbrev wsX3_isApart : List Cond := kWs yX3_isApart cX3_isApart 2 (some .boolean)
def f_X3_isApart_19 (mwb : Nat → Int64) (mwe : Nat → Int64) (mwi : Int32) (x1 : Int32) (y0 : Int32) : Option ((Int32) × (Int32)) :=
  (f_X3_isThrown_ y0).bind fun r1 =>
  if r1.1 = 0 then
    (f_X3_areApart mwb mwe mwi x1).bind fun r3 =>
    if r3 = 0 then
      some (0, r1.2)
    else
      some (1, r1.2)
  else
    some (0, r1.2)
theorem f_X3_isApart_19_e {mwb : Nat → Int64} {mwe : Nat → Int64} {mwi : Int32} {x1 : Int32} {y0 : Int32} : f_X3_isApart_19 mwb mwe mwi x1 y0 =
  (f_X3_isThrown_ y0).bind fun r1 =>
  if r1.1 = 0 then
    (f_X3_areApart mwb mwe mwi x1).bind fun r3 =>
    if r3 = 0 then
      some (0, r1.2)
    else
      some (1, r1.2)
  else
    some (0, r1.2) := rfl
def f_X3_isApart_14 (mwb : Nat → Int64) (mwe : Nat → Int64) (mwi : Int32) (x1 : Int32) : Option ((Int32) × (Int32)) :=
  f_X3_isApart_19 mwb mwe mwi x1 1
theorem f_X3_isApart_14_e {mwb : Nat → Int64} {mwe : Nat → Int64} {mwi : Int32} {x1 : Int32} : f_X3_isApart_14 mwb mwe mwi x1 =
  f_X3_isApart_19 mwb mwe mwi x1 1 := rfl
def f_X3_isApart (mwb : Nat → Int64) (mwe : Nat → Int64) (mwi : Int32) (p0 : Int32) : Option ((Int32) × (Int32)) :=
  if p0 < 0 then
    f_X3_isApart_14 mwb mwe mwi p0
  else
    if (p0 >>> (mwi &&& 31)) ≤ 0 then
      f_X3_isApart_19 mwb mwe mwi p0 0
    else
      f_X3_isApart_14 mwb mwe mwi p0
theorem f_X3_isApart_e {mwb : Nat → Int64} {mwe : Nat → Int64} {mwi : Int32} {p0 : Int32} : f_X3_isApart mwb mwe mwi p0 = 
  if p0 < 0 then
    f_X3_isApart_14 mwb mwe mwi p0
  else
    if (p0 >>> (mwi &&& 31)) ≤ 0 then
      f_X3_isApart_19 mwb mwe mwi p0 0
    else
      f_X3_isApart_14 mwb mwe mwi p0 := rfl
set_option maxHeartbeats 4000000 in
set_option maxRecDepth 100000 in
theorem c_X3_isApart (l : Launch) (dC : Nat → ClassId) (dI : Nat → Nat → Nat) (cB cI cJ cZ : ClassId) (b : Nat → Nat) (sz : Nat) (mce : Nat → Int64) (mfr : Int64) (mun : Int64) (mbe : Nat → Int64) (men : Nat → Int64) (mov : Nat → Int32) (msp : Int32) (mwb : Nat → Int64) (mwe : Nat → Int64) (mwi : Int32) (mac : Int32) (mre : Int32) (mkn : Int32) (mth : Int32) (p0 : Int32) (res : (Int32) × (Int32)) (hf : f_X3_isApart mwb mwe mwi p0 = some res) : Met l yX3_isApart wsX3_isApart ({ frames := 3, cells := 0, slots := 0, locals := 72 } : Room) (kPre (dC, dI) (kTy cB cI cJ cZ) [.ref (b 0), .int p0] sz (wMo cJ cZ b mce mfr mun mbe men mov msp mwb mwe mwi mac mre mkn mth)) (kI (dC, dI) .boolean (res.1) (wMo cJ cZ b mce mfr mun mbe men mov msp mwb mwe mwi mac mre mkn (res.2)) (va_A (wMo cJ cZ b mce mfr mun mbe men mov msp mwb mwe mwi mac mre mkn mth) sz)) 0 0 (va_A (wMo cJ cZ b mce mfr mun mbe men mov msp mwb mwe mwi mac mre mkn mth) sz) := by
  refine Met.ofW (cc := cX3_isApart) (maxL := 2) (ret := (some .boolean)) (by decide) rfl ?_
  intro p e s m args below meth c s₁ B hml hv
  obtain ⟨rfl, hsz, hP, hK, hD0, hG⟩ := hv
  have hx := B.exec
  have hb := B.bytes
  have hr := B.returns
  have hts := atoms_spec (ws := wsX3_isApart) B.pre
  have hown : s.vm.findClass RX3 = some m.cls := findClass_of_methodNamed B.named
  have hlocks := B.notSynchronized
  subst hsz
  have hD := hD0.self (sz := s.heap.size)
  generalize hAe : va_A (wMo cJ cZ b mce mfr mun mbe men mov msp mwb mwe mwi mac mre mkn mth) s.heap.size = A at hD ⊢
  have hA : ∀ q : Nat, s.heap.size ≤ q → A q := fun q h => by rw [← hAe]; exact Or.inr h
  have hS : va_S A s.heap s.heap [] := va_S.rf
  clear hAe
  have hw0 := hts (.fieldLink RX3 88 "SpanbookerModel" "wishes" "I") (List.mem_cons_of_mem _ kw_1081)
  have hiX3 : ∀ w ∈ u_ws RX3 TX3 14, w ∈ wsX3_isApart := fun w h => List.mem_cons_of_mem _ (ku_X3 w h)
  have J19 : ∀ (mce : Nat → Int64) (mfr : Int64) (mun : Int64) (mbe : Nat → Int64) (men : Nat → Int64) (mov : Nat → Int32) (msp : Int32) (mwb : Nat → Int64) (mwe : Nat → Int64) (mwi : Int32) (mac : Int32) (mre : Int32) (mkn : Int32) (mth : Int32) (x1 : Int32) (y0 : Int32) (H : Heap) (locs : List Loc), va_P (dC, dI) vwCl (wMo cJ cZ b mce mfr mun mbe men mov msp mwb mwe mwi mac mre mkn mth) H → va_D A (wMo cJ cZ b mce mfr mun mbe men mov msp mwb mwe mwi mac mre mkn mth) → va_S A s.heap H locs → ∀ (ls : Array Slot), lv_has ls 2 [(0, .ref (b 0)), (1, .int x1)] → f_X3_isApart_19 mwb mwe mwi x1 y0 = some res → W p l e (headSpec wsX3_isApart ({ frames := 3, cells := 0, slots := 0, locals := 72 } : Room)).room s m ([.ref (b 0), .int p0] : List Value).toArray below meth c H locs 0 0 (MQ below (kI (dC, dI) .boolean (res.1) (wMo cJ cZ b mce mfr mun mbe men mov msp mwb mwe mwi mac mre mkn (res.2)) A) ([.ref (b 0), .int p0] : List Value).toArray s 0 0 A) (F0 m 19 ls [.int y0, .ref (b 0)]) := by
    intro mce mfr mun mbe men mov msp mwb mwe mwi mac mre mkn mth x1 y0 H locs hP hD hS ls hl h
    have h := f_X3_isApart_19_e.symm.trans h
    obtain ⟨r1, g1, h⟩ := g_b h
    refine kcall_i (wMo cJ cZ b mce mfr mun mbe men mov msp mwb mwe mwi mac mre mkn r1.2) (va_runV (As := [.int y0]) (rest := []) ⟨hx, hb, hml, hown, hts⟩ (c_X3_isThrown_ l dC dI cB cI cJ cZ b _ mce mfr mun mbe men mov msp mwb mwe mwi mac mre mkn mth y0 r1 g1) (kcwV hts kw_1170 kv_X3_isThrown_ rfl rfl ⟨(Nat.le_of_ble_eq_true rfl), (Nat.le_of_ble_eq_true rfl)⟩) (kpV (A := A) (hP.sub (kIT mk_26 0) (km_f (m := mk_26) rfl rfl)) hK (hD.sub (kIT mk_26 0) (km_nd mk_26) (km_T (m := mk_26) rfl rfl)) hG (va_recv hK hP (ci := 5) (q0 := 0) rfl rfl)) rfl rfl hl.1 rfl (lv_room (Nat.le_of_ble_eq_true rfl)) dX3_isApart_19 ⟨(Nat.le_of_ble_eq_true rfl), (Nat.le_of_ble_eq_true rfl)⟩) hP hD hS hA (kIT mk_26 0) (kIT mk_25 0) (km_T (m := mk_26) rfl rfl) (km_T (m := mk_26) rfl rfl) [] (km_T (m := mk_25) rfl rfl) (km_T (m := mk_25) rfl rfl) (km_cov (m := mk_26) (n := mk_25) rfl rfl) (km_dis (m := mk_26) (n := mk_25) rfl) rfl (fun H locs hP hD hS br1 => ?_)
    refine lv_if_ne (tgt := 37) hx hb dX3_isApart_22 (by decide) (fun c2 => ?_) (fun c2 => ?_)
    · have h := g_f c2 h
      refine lv_iconst (v := 0) hx hb dX3_isApart_37 (by decide) ?_
      have h := Option.some.inj h
      subst h
      exact kret_i (v := 0) hx hb hr rfl hlocks hS hP dX3_isApart_38
    · have h := g_t c2 h
      refine lv_aload_n hx hb dX3_isApart_25 rfl (lv_at hl 0 rfl) ?_
      refine lv_iload_n hx hb dX3_isApart_26 rfl (lv_at hl 1 rfl) ?_
      obtain ⟨r3, g3, h⟩ := g_b h
      refine kcall_i (wMo cJ cZ b mce mfr mun mbe men mov msp mwb mwe mwi mac mre mkn r1.2) (va_runV (As := [.int x1]) (rest := []) ⟨hx, hb, hml, hown, hts⟩ (c_X3_areApart l dC dI cB cI cJ cZ b _ mce mfr mun mbe men mov msp mwb mwe mwi mac mre mkn r1.2 x1 r3 g3) (kcwV hts kw_1403 kv_X3_areApart rfl rfl ⟨(Nat.le_of_ble_eq_true rfl), (Nat.le_of_ble_eq_true rfl)⟩) (kpV (A := A) (hP.sub (kIT mk_26 0) (km_f (m := mk_26) rfl rfl)) hK (hD.sub (kIT mk_26 0) (km_nd mk_26) (km_T (m := mk_26) rfl rfl)) hG (va_recv hK hP (ci := 5) (q0 := 0) rfl rfl)) rfl rfl hl.1 rfl (lv_room (Nat.le_of_ble_eq_true rfl)) dX3_isApart_27 ⟨(Nat.le_of_ble_eq_true rfl), (Nat.le_of_ble_eq_true rfl)⟩) hP hD hS hA (kIT mk_26 0) (kIT mk_25 0) (km_T (m := mk_26) rfl rfl) (km_T (m := mk_26) rfl rfl) [] (km_T (m := mk_25) rfl rfl) (km_T (m := mk_25) rfl rfl) (km_cov (m := mk_26) (n := mk_25) rfl rfl) (km_dis (m := mk_26) (n := mk_25) rfl) rfl (fun H locs hP hD hS br3 => ?_)
      refine lv_if_eq (tgt := 37) hx hb dX3_isApart_30 (by decide) (fun c4 => ?_) (fun c4 => ?_)
      · have h := g_t c4 h
        refine lv_iconst (v := 0) hx hb dX3_isApart_37 (by decide) ?_
        have h := Option.some.inj h
        subst h
        exact kret_i (v := 0) hx hb hr rfl hlocks hS hP dX3_isApart_38
      · have h := g_f c4 h
        refine lv_iconst (v := 1) hx hb dX3_isApart_33 (by decide) ?_
        refine lv_goto (tgt := 38) hx hb dX3_isApart_34 (by decide) ?_
        have h := Option.some.inj h
        subst h
        exact kret_i (v := 1) hx hb hr rfl hlocks hS hP dX3_isApart_38
  have J14 : ∀ (mce : Nat → Int64) (mfr : Int64) (mun : Int64) (mbe : Nat → Int64) (men : Nat → Int64) (mov : Nat → Int32) (msp : Int32) (mwb : Nat → Int64) (mwe : Nat → Int64) (mwi : Int32) (mac : Int32) (mre : Int32) (mkn : Int32) (mth : Int32) (x1 : Int32) (H : Heap) (locs : List Loc), va_P (dC, dI) vwCl (wMo cJ cZ b mce mfr mun mbe men mov msp mwb mwe mwi mac mre mkn mth) H → va_D A (wMo cJ cZ b mce mfr mun mbe men mov msp mwb mwe mwi mac mre mkn mth) → va_S A s.heap H locs → ∀ (ls : Array Slot), lv_has ls 2 [(0, .ref (b 0)), (1, .int x1)] → f_X3_isApart_14 mwb mwe mwi x1 = some res → W p l e (headSpec wsX3_isApart ({ frames := 3, cells := 0, slots := 0, locals := 72 } : Room)).room s m ([.ref (b 0), .int p0] : List Value).toArray below meth c H locs 0 0 (MQ below (kI (dC, dI) .boolean (res.1) (wMo cJ cZ b mce mfr mun mbe men mov msp mwb mwe mwi mac mre mkn (res.2)) A) ([.ref (b 0), .int p0] : List Value).toArray s 0 0 A) (F0 m 14 ls [.ref (b 0)]) := by
    intro mce mfr mun mbe men mov msp mwb mwe mwi mac mre mkn mth x1 H locs hP hD hS ls hl h
    have h := f_X3_isApart_14_e.symm.trans h
    refine lv_iconst (v := 1) hx hb dX3_isApart_14 (by decide) ?_
    refine lv_goto (tgt := 19) hx hb dX3_isApart_15 (by decide) ?_
    exact J19 mce mfr mun mbe men mov msp mwb mwe mwi mac mre mkn mth x1 1 _ _ hP hD hS ls (lv_sub hl [0, 1] rfl) h
  have hl := lv_entry ([.ref (b 0), .int p0]) (n := 2) (Nat.le_of_ble_eq_true rfl)
  rw [lg_entry_eq]
  generalize (lg_sl ([.ref (b 0), .int p0]) ++ List.replicate (2 - (lg_sl ([.ref (b 0), .int p0])).length) Slot.unset).toArray = ls at hl ⊢
  have hl : lv_has ls 2 [(0, .ref (b 0)), (1, .int p0)] := hl
  have h := f_X3_isApart_e.symm.trans hf
  refine lv_aload_n hx hb dX3_isApart_0 rfl (lv_at hl 0 rfl) ?_
  refine lv_iload_n hx hb dX3_isApart_1 rfl (lv_at hl 1 rfl) ?_
  refine lv_if_lt (tgt := 14) hx hb dX3_isApart_2 (by decide) (fun c1 => ?_) (fun c1 => ?_)
  · have h := g_t c1 h
    exact J14 mce mfr mun mbe men mov msp mwb mwe mwi mac mre mkn mth p0 _ _ hP hD hS ls (lv_sub hl [0, 1] rfl) h
  · have h := g_f c1 h
    refine lv_iload_n hx hb dX3_isApart_5 rfl (lv_at hl 1 rfl) ?_
    refine lv_aload_n hx hb dX3_isApart_6 rfl (lv_at hl 0 rfl) ?_
    refine va_get (D := (dC, dI)) (ci := 5) (v := .int mwi) (C := RX3) (T := TX3) (N := 14) hx hb hts hiX3 hown hK hP 0 rfl rfl 9 (by decide) hw0 (fun _ h9 => h9) rfl dX3_isApart_7 ?_
    refine lv_ishr hx hb dX3_isApart_10 ?_
    refine lv_if_le (tgt := 18) hx hb dX3_isApart_11 (by decide) (fun c2 => ?_) (fun c2 => ?_)
    · have h := g_t c2 h
      refine lv_iconst (v := 0) hx hb dX3_isApart_18 (by decide) ?_
      exact J19 mce mfr mun mbe men mov msp mwb mwe mwi mac mre mkn mth p0 0 _ _ hP hD hS ls (lv_sub hl [0, 1] rfl) h
    · have h := g_f c2 h
      exact J14 mce mfr mun mbe men mov msp mwb mwe mwi mac mre mkn mth p0 _ _ hP hD hS ls (lv_sub hl [0, 1] rfl) h
abbrev wsX3_chosen : List Cond := kWs yX3_chosen cX3_chosen 1 (some .int)
def f_X3_chosen (mwb : Nat → Int64) (mwe : Nat → Int64) (mwi : Int32) : Option ((Int32) × (Int32)) :=
  (f_X3_chosenNow mwb mwe mwi).bind fun r1 =>
  some (r1, 0)
theorem f_X3_chosen_e {mwb : Nat → Int64} {mwe : Nat → Int64} {mwi : Int32} : f_X3_chosen mwb mwe mwi = 
  (f_X3_chosenNow mwb mwe mwi).bind fun r1 =>
  some (r1, 0) := rfl
set_option maxHeartbeats 4000000 in
set_option maxRecDepth 100000 in
theorem c_X3_chosen (l : Launch) (dC : Nat → ClassId) (dI : Nat → Nat → Nat) (cB cI cJ cZ : ClassId) (b : Nat → Nat) (sz : Nat) (mce : Nat → Int64) (mfr : Int64) (mun : Int64) (mbe : Nat → Int64) (men : Nat → Int64) (mov : Nat → Int32) (msp : Int32) (mwb : Nat → Int64) (mwe : Nat → Int64) (mwi : Int32) (mac : Int32) (mre : Int32) (mkn : Int32) (mth : Int32) (res : (Int32) × (Int32)) (hf : f_X3_chosen mwb mwe mwi = some res) : Met l yX3_chosen wsX3_chosen ({ frames := 4, cells := 0, slots := 0, locals := 95 } : Room) (kPre (dC, dI) (kTy cB cI cJ cZ) [.ref (b 0)] sz (wMo cJ cZ b mce mfr mun mbe men mov msp mwb mwe mwi mac mre mkn mth)) (kI (dC, dI) .int (res.1) (wMo cJ cZ b mce mfr mun mbe men mov msp mwb mwe mwi mac mre mkn (res.2)) (va_A (wMo cJ cZ b mce mfr mun mbe men mov msp mwb mwe mwi mac mre mkn mth) sz)) 0 0 (va_A (wMo cJ cZ b mce mfr mun mbe men mov msp mwb mwe mwi mac mre mkn mth) sz) := by
  refine Met.ofW (cc := cX3_chosen) (maxL := 1) (ret := (some .int)) (by decide) rfl ?_
  intro p e s m args below meth c s₁ B hml hv
  obtain ⟨rfl, hsz, hP, hK, hD0, hG⟩ := hv
  have hx := B.exec
  have hb := B.bytes
  have hr := B.returns
  have hts := atoms_spec (ws := wsX3_chosen) B.pre
  have hown : s.vm.findClass RX3 = some m.cls := findClass_of_methodNamed B.named
  have hlocks := B.notSynchronized
  subst hsz
  have hD := hD0.self (sz := s.heap.size)
  generalize hAe : va_A (wMo cJ cZ b mce mfr mun mbe men mov msp mwb mwe mwi mac mre mkn mth) s.heap.size = A at hD ⊢
  have hA : ∀ q : Nat, s.heap.size ≤ q → A q := fun q h => by rw [← hAe]; exact Or.inr h
  have hS : va_S A s.heap s.heap [] := va_S.rf
  clear hAe
  have hw0 := hts (.fieldLink RX3 35 "SpanbookerModel" "thrown" "I") (List.mem_cons_of_mem _ kw_1085)
  have hiX3 : ∀ w ∈ u_ws RX3 TX3 14, w ∈ wsX3_chosen := fun w h => List.mem_cons_of_mem _ (ku_X3 w h)
  have hl := lv_entry ([.ref (b 0)]) (n := 1) (Nat.le_of_ble_eq_true rfl)
  rw [lg_entry_eq]
  generalize (lg_sl ([.ref (b 0)]) ++ List.replicate (1 - (lg_sl ([.ref (b 0)])).length) Slot.unset).toArray = ls at hl ⊢
  have hl : lv_has ls 1 [(0, .ref (b 0))] := hl
  have h := f_X3_chosen_e.symm.trans hf
  refine lv_aload_n hx hb dX3_chosen_0 rfl (lv_at hl 0 rfl) ?_
  refine lv_iconst (v := 0) hx hb dX3_chosen_1 (by decide) ?_
  refine va_put (D := (dC, dI)) (ci := 5) (v := .int 0) (ty := .int) (C := RX3) (T := TX3) (N := 14) hx hb hts hiX3 tyX3 tyX3_ok nmX3 hown hK hP hD hS 0 rfl rfl 13 (by decide) hw0 (fun _ h9 => h9) rfl (by decide +kernel) rfl rfl (Nat.le_of_ble_eq_true rfl) dX3_chosen_2 (fun H locs hP hD hS => ?_)
  have hP : va_P (dC, dI) vwCl (wMo cJ cZ b mce mfr mun mbe men mov msp mwb mwe mwi mac mre mkn 0) H := hP
  have hD : va_D A (wMo cJ cZ b mce mfr mun mbe men mov msp mwb mwe mwi mac mre mkn 0) := hD
  refine lv_aload_n hx hb dX3_chosen_5 rfl (lv_at hl 0 rfl) ?_
  obtain ⟨r1, g1, h⟩ := g_b h
  refine kcall_i (wMo cJ cZ b mce mfr mun mbe men mov msp mwb mwe mwi mac mre mkn 0) (va_runV (As := []) (rest := []) ⟨hx, hb, hml, hown, hts⟩ (c_X3_chosenNow l dC dI cB cI cJ cZ b _ mce mfr mun mbe men mov msp mwb mwe mwi mac mre mkn 0  r1 g1) (kcwV hts kw_1415 kv_X3_chosenNow rfl rfl ⟨(Nat.le_of_ble_eq_true rfl), (Nat.le_of_ble_eq_true rfl)⟩) (kpV (A := A) (hP.sub (kIT mk_26 0) (km_f (m := mk_26) rfl rfl)) hK (hD.sub (kIT mk_26 0) (km_nd mk_26) (km_T (m := mk_26) rfl rfl)) hG (va_recv hK hP (ci := 5) (q0 := 0) rfl rfl)) rfl rfl hl.1 rfl (lv_room (Nat.le_of_ble_eq_true rfl)) dX3_chosen_6 ⟨(Nat.le_of_ble_eq_true rfl), (Nat.le_of_ble_eq_true rfl)⟩) hP hD hS hA (kIT mk_26 0) (kIT mk_25 0) (km_T (m := mk_26) rfl rfl) (km_T (m := mk_26) rfl rfl) [] (km_T (m := mk_25) rfl rfl) (km_T (m := mk_25) rfl rfl) (km_cov (m := mk_26) (n := mk_25) rfl rfl) (km_dis (m := mk_26) (n := mk_25) rfl) rfl (fun H locs hP hD hS br1 => ?_)
  have h := Option.some.inj h
  subst h
  exact kret_i (v := r1) hx hb hr rfl hlocks hS hP dX3_chosen_9
abbrev wsX3_most : List Cond := kWs yX3_most cX3_most 2 (some .int)
def f_X3_most_15 (mwb : Nat → Int64) (mwe : Nat → Int64) (mwi : Int32) (x1 : Int32) (y0 : Int32) : Option ((Int32) × (Int32)) :=
  (f_X3_isThrown_ y0).bind fun r1 =>
  if r1.1 = 0 then
    if x1 = 0 then
      (f_X3_chosenNow mwb mwe mwi).bind fun r4 =>
      (f_X3_ones r4).bind fun r5 =>
      some (r5, r1.2)
    else
      (f_X3_mostOfAll mwb mwe mwi).bind fun r4 =>
      some (r4, r1.2)
  else
    some (0, r1.2)
theorem f_X3_most_15_e {mwb : Nat → Int64} {mwe : Nat → Int64} {mwi : Int32} {x1 : Int32} {y0 : Int32} : f_X3_most_15 mwb mwe mwi x1 y0 =
  (f_X3_isThrown_ y0).bind fun r1 =>
  if r1.1 = 0 then
    if x1 = 0 then
      (f_X3_chosenNow mwb mwe mwi).bind fun r4 =>
      (f_X3_ones r4).bind fun r5 =>
      some (r5, r1.2)
    else
      (f_X3_mostOfAll mwb mwe mwi).bind fun r4 =>
      some (r4, r1.2)
  else
    some (0, r1.2) := rfl
def f_X3_most_10 (mwb : Nat → Int64) (mwe : Nat → Int64) (mwi : Int32) (x1 : Int32) : Option ((Int32) × (Int32)) :=
  f_X3_most_15 mwb mwe mwi x1 1
theorem f_X3_most_10_e {mwb : Nat → Int64} {mwe : Nat → Int64} {mwi : Int32} {x1 : Int32} : f_X3_most_10 mwb mwe mwi x1 =
  f_X3_most_15 mwb mwe mwi x1 1 := rfl
def f_X3_most (mwb : Nat → Int64) (mwe : Nat → Int64) (mwi : Int32) (p0 : Int32) : Option ((Int32) × (Int32)) :=
  if p0 < 0 then
    f_X3_most_10 mwb mwe mwi p0
  else
    if p0 ≤ 1 then
      f_X3_most_15 mwb mwe mwi p0 0
    else
      f_X3_most_10 mwb mwe mwi p0
theorem f_X3_most_e {mwb : Nat → Int64} {mwe : Nat → Int64} {mwi : Int32} {p0 : Int32} : f_X3_most mwb mwe mwi p0 = 
  if p0 < 0 then
    f_X3_most_10 mwb mwe mwi p0
  else
    if p0 ≤ 1 then
      f_X3_most_15 mwb mwe mwi p0 0
    else
      f_X3_most_10 mwb mwe mwi p0 := rfl
set_option maxHeartbeats 4000000 in
set_option maxRecDepth 100000 in
theorem c_X3_most (l : Launch) (dC : Nat → ClassId) (dI : Nat → Nat → Nat) (cB cI cJ cZ : ClassId) (b : Nat → Nat) (sz : Nat) (mce : Nat → Int64) (mfr : Int64) (mun : Int64) (mbe : Nat → Int64) (men : Nat → Int64) (mov : Nat → Int32) (msp : Int32) (mwb : Nat → Int64) (mwe : Nat → Int64) (mwi : Int32) (mac : Int32) (mre : Int32) (mkn : Int32) (mth : Int32) (p0 : Int32) (res : (Int32) × (Int32)) (hf : f_X3_most mwb mwe mwi p0 = some res) : Met l yX3_most wsX3_most ({ frames := 4, cells := 0, slots := 0, locals := 95 } : Room) (kPre (dC, dI) (kTy cB cI cJ cZ) [.ref (b 0), .int p0] sz (wMo cJ cZ b mce mfr mun mbe men mov msp mwb mwe mwi mac mre mkn mth)) (kI (dC, dI) .int (res.1) (wMo cJ cZ b mce mfr mun mbe men mov msp mwb mwe mwi mac mre mkn (res.2)) (va_A (wMo cJ cZ b mce mfr mun mbe men mov msp mwb mwe mwi mac mre mkn mth) sz)) 0 0 (va_A (wMo cJ cZ b mce mfr mun mbe men mov msp mwb mwe mwi mac mre mkn mth) sz) := by
  refine Met.ofW (cc := cX3_most) (maxL := 2) (ret := (some .int)) (by decide) rfl ?_
  intro p e s m args below meth c s₁ B hml hv
  obtain ⟨rfl, hsz, hP, hK, hD0, hG⟩ := hv
  have hx := B.exec
  have hb := B.bytes
  have hr := B.returns
  have hts := atoms_spec (ws := wsX3_most) B.pre
  have hown : s.vm.findClass RX3 = some m.cls := findClass_of_methodNamed B.named
  have hlocks := B.notSynchronized
  subst hsz
  have hD := hD0.self (sz := s.heap.size)
  generalize hAe : va_A (wMo cJ cZ b mce mfr mun mbe men mov msp mwb mwe mwi mac mre mkn mth) s.heap.size = A at hD ⊢
  have hA : ∀ q : Nat, s.heap.size ≤ q → A q := fun q h => by rw [← hAe]; exact Or.inr h
  have hS : va_S A s.heap s.heap [] := va_S.rf
  clear hAe
  have J15 : ∀ (mce : Nat → Int64) (mfr : Int64) (mun : Int64) (mbe : Nat → Int64) (men : Nat → Int64) (mov : Nat → Int32) (msp : Int32) (mwb : Nat → Int64) (mwe : Nat → Int64) (mwi : Int32) (mac : Int32) (mre : Int32) (mkn : Int32) (mth : Int32) (x1 : Int32) (y0 : Int32) (H : Heap) (locs : List Loc), va_P (dC, dI) vwCl (wMo cJ cZ b mce mfr mun mbe men mov msp mwb mwe mwi mac mre mkn mth) H → va_D A (wMo cJ cZ b mce mfr mun mbe men mov msp mwb mwe mwi mac mre mkn mth) → va_S A s.heap H locs → ∀ (ls : Array Slot), lv_has ls 2 [(0, .ref (b 0)), (1, .int x1)] → f_X3_most_15 mwb mwe mwi x1 y0 = some res → W p l e (headSpec wsX3_most ({ frames := 4, cells := 0, slots := 0, locals := 95 } : Room)).room s m ([.ref (b 0), .int p0] : List Value).toArray below meth c H locs 0 0 (MQ below (kI (dC, dI) .int (res.1) (wMo cJ cZ b mce mfr mun mbe men mov msp mwb mwe mwi mac mre mkn (res.2)) A) ([.ref (b 0), .int p0] : List Value).toArray s 0 0 A) (F0 m 15 ls [.int y0, .ref (b 0)]) := by
    intro mce mfr mun mbe men mov msp mwb mwe mwi mac mre mkn mth x1 y0 H locs hP hD hS ls hl h
    have h := f_X3_most_15_e.symm.trans h
    obtain ⟨r1, g1, h⟩ := g_b h
    refine kcall_i (wMo cJ cZ b mce mfr mun mbe men mov msp mwb mwe mwi mac mre mkn r1.2) (va_runV (As := [.int y0]) (rest := []) ⟨hx, hb, hml, hown, hts⟩ (c_X3_isThrown_ l dC dI cB cI cJ cZ b _ mce mfr mun mbe men mov msp mwb mwe mwi mac mre mkn mth y0 r1 g1) (kcwV hts kw_1170 kv_X3_isThrown_ rfl rfl ⟨(Nat.le_of_ble_eq_true rfl), (Nat.le_of_ble_eq_true rfl)⟩) (kpV (A := A) (hP.sub (kIT mk_26 0) (km_f (m := mk_26) rfl rfl)) hK (hD.sub (kIT mk_26 0) (km_nd mk_26) (km_T (m := mk_26) rfl rfl)) hG (va_recv hK hP (ci := 5) (q0 := 0) rfl rfl)) rfl rfl hl.1 rfl (lv_room (Nat.le_of_ble_eq_true rfl)) dX3_most_15 ⟨(Nat.le_of_ble_eq_true rfl), (Nat.le_of_ble_eq_true rfl)⟩) hP hD hS hA (kIT mk_26 0) (kIT mk_25 0) (km_T (m := mk_26) rfl rfl) (km_T (m := mk_26) rfl rfl) [] (km_T (m := mk_25) rfl rfl) (km_T (m := mk_25) rfl rfl) (km_cov (m := mk_26) (n := mk_25) rfl rfl) (km_dis (m := mk_26) (n := mk_25) rfl) rfl (fun H locs hP hD hS br1 => ?_)
    refine lv_if_eq (tgt := 25) hx hb dX3_most_18 (by decide) (fun c2 => ?_) (fun c2 => ?_)
    · have h := g_t c2 h
      refine lv_iload_n hx hb dX3_most_25 rfl (lv_at hl 1 rfl) ?_
      refine lv_if_ne (tgt := 39) hx hb dX3_most_26 (by decide) (fun c3 => ?_) (fun c3 => ?_)
      · have h := g_f c3 h
        refine lv_aload_n hx hb dX3_most_39 rfl (lv_at hl 0 rfl) ?_
        obtain ⟨r4, g4, h⟩ := g_b h
        refine kcall_i (wMo cJ cZ b mce mfr mun mbe men mov msp mwb mwe mwi mac mre mkn r1.2) (va_runV (As := []) (rest := []) ⟨hx, hb, hml, hown, hts⟩ (c_X3_mostOfAll l dC dI cB cI cJ cZ b _ mce mfr mun mbe men mov msp mwb mwe mwi mac mre mkn r1.2  r4 g4) (kcwV hts kw_1426 kv_X3_mostOfAll rfl rfl ⟨(Nat.le_of_ble_eq_true rfl), (Nat.le_of_ble_eq_true rfl)⟩) (kpV (A := A) (hP.sub (kIT mk_26 0) (km_f (m := mk_26) rfl rfl)) hK (hD.sub (kIT mk_26 0) (km_nd mk_26) (km_T (m := mk_26) rfl rfl)) hG (va_recv hK hP (ci := 5) (q0 := 0) rfl rfl)) rfl rfl hl.1 rfl (lv_room (Nat.le_of_ble_eq_true rfl)) dX3_most_40 ⟨(Nat.le_of_ble_eq_true rfl), (Nat.le_of_ble_eq_true rfl)⟩) hP hD hS hA (kIT mk_26 0) (kIT mk_25 0) (km_T (m := mk_26) rfl rfl) (km_T (m := mk_26) rfl rfl) [] (km_T (m := mk_25) rfl rfl) (km_T (m := mk_25) rfl rfl) (km_cov (m := mk_26) (n := mk_25) rfl rfl) (km_dis (m := mk_26) (n := mk_25) rfl) rfl (fun H locs hP hD hS br4 => ?_)
        have h := Option.some.inj h
        subst h
        exact kret_i (v := r4) hx hb hr rfl hlocks hS hP dX3_most_43
      · have h := g_t c3 h
        refine lv_aload_n hx hb dX3_most_29 rfl (lv_at hl 0 rfl) ?_
        obtain ⟨r4, g4, h⟩ := g_b h
        refine kcall_i (wMo cJ cZ b mce mfr mun mbe men mov msp mwb mwe mwi mac mre mkn r1.2) (va_runV (As := []) (rest := []) ⟨hx, hb, hml, hown, hts⟩ (c_X3_chosenNow l dC dI cB cI cJ cZ b _ mce mfr mun mbe men mov msp mwb mwe mwi mac mre mkn r1.2  r4 g4) (kcwV hts kw_1415 kv_X3_chosenNow rfl rfl ⟨(Nat.le_of_ble_eq_true rfl), (Nat.le_of_ble_eq_true rfl)⟩) (kpV (A := A) (hP.sub (kIT mk_26 0) (km_f (m := mk_26) rfl rfl)) hK (hD.sub (kIT mk_26 0) (km_nd mk_26) (km_T (m := mk_26) rfl rfl)) hG (va_recv hK hP (ci := 5) (q0 := 0) rfl rfl)) rfl rfl hl.1 rfl (lv_room (Nat.le_of_ble_eq_true rfl)) dX3_most_30 ⟨(Nat.le_of_ble_eq_true rfl), (Nat.le_of_ble_eq_true rfl)⟩) hP hD hS hA (kIT mk_26 0) (kIT mk_25 0) (km_T (m := mk_26) rfl rfl) (km_T (m := mk_26) rfl rfl) [] (km_T (m := mk_25) rfl rfl) (km_T (m := mk_25) rfl rfl) (km_cov (m := mk_26) (n := mk_25) rfl rfl) (km_dis (m := mk_26) (n := mk_25) rfl) rfl (fun H locs hP hD hS br4 => ?_)
        obtain ⟨r5, g5, h⟩ := g_b h
        refine kcall_i (wMo cJ cZ b mce mfr mun mbe men mov msp mwb mwe mwi mac mre mkn r1.2) (va_runS (As := [.int r4]) (rest := []) ⟨hx, hb, hml, hown, hts⟩ (c_X3_ones l dC dI cB cI cJ cZ  _  r4 r5 g5) (kcwS hts kw_1423 kv_X3_ones rfl rfl ⟨(Nat.le_of_ble_eq_true rfl), (Nat.le_of_ble_eq_true rfl)⟩) (kpS (A := A) (kPnil) hK ((kDnil (A := A))) hG) rfl rfl hl.1 rfl (lv_room (Nat.le_of_ble_eq_true rfl)) dX3_most_33 ⟨(Nat.le_of_ble_eq_true rfl), (Nat.le_of_ble_eq_true rfl)⟩) hP hD hS hA (kIT mk_25 0) (kIT mk_26 0) (km_T (m := mk_25) rfl rfl) (km_T (m := mk_25) rfl rfl) [((b 0), .inr (5, [.ref (b 1), .long mfr, .long mun, .ref (b 2), .ref (b 3), .ref (b 4), .int msp, .ref (b 5), .ref (b 6), .int mwi, .int mac, .int mre, .int mkn, .int r1.2])), ((b 1), .inl (cJ, 4, .inr (.inl mce))), ((b 2), .inl (cJ, 10, .inr (.inl mbe))), ((b 3), .inl (cJ, 10, .inr (.inl men))), ((b 4), .inl (cZ, 10, .inl mov)), ((b 5), .inl (cJ, 8, .inr (.inl mwb))), ((b 6), .inl (cJ, 8, .inr (.inl mwe)))] (km_T (m := mk_26) rfl rfl) (km_T (m := mk_26) rfl rfl) (km_cov (m := mk_25) (n := mk_26) rfl rfl) (km_dis (m := mk_25) (n := mk_26) rfl) rfl (fun H locs hP hD hS br5 => ?_)
        refine lv_goto (tgt := 43) hx hb dX3_most_36 (by decide) ?_
        have h := Option.some.inj h
        subst h
        exact kret_i (v := r5) hx hb hr rfl hlocks hS hP dX3_most_43
    · have h := g_f c2 h
      refine lv_iconst (v := 0) hx hb dX3_most_21 (by decide) ?_
      refine lv_goto (tgt := 43) hx hb dX3_most_22 (by decide) ?_
      have h := Option.some.inj h
      subst h
      exact kret_i (v := 0) hx hb hr rfl hlocks hS hP dX3_most_43
  have J10 : ∀ (mce : Nat → Int64) (mfr : Int64) (mun : Int64) (mbe : Nat → Int64) (men : Nat → Int64) (mov : Nat → Int32) (msp : Int32) (mwb : Nat → Int64) (mwe : Nat → Int64) (mwi : Int32) (mac : Int32) (mre : Int32) (mkn : Int32) (mth : Int32) (x1 : Int32) (H : Heap) (locs : List Loc), va_P (dC, dI) vwCl (wMo cJ cZ b mce mfr mun mbe men mov msp mwb mwe mwi mac mre mkn mth) H → va_D A (wMo cJ cZ b mce mfr mun mbe men mov msp mwb mwe mwi mac mre mkn mth) → va_S A s.heap H locs → ∀ (ls : Array Slot), lv_has ls 2 [(0, .ref (b 0)), (1, .int x1)] → f_X3_most_10 mwb mwe mwi x1 = some res → W p l e (headSpec wsX3_most ({ frames := 4, cells := 0, slots := 0, locals := 95 } : Room)).room s m ([.ref (b 0), .int p0] : List Value).toArray below meth c H locs 0 0 (MQ below (kI (dC, dI) .int (res.1) (wMo cJ cZ b mce mfr mun mbe men mov msp mwb mwe mwi mac mre mkn (res.2)) A) ([.ref (b 0), .int p0] : List Value).toArray s 0 0 A) (F0 m 10 ls [.ref (b 0)]) := by
    intro mce mfr mun mbe men mov msp mwb mwe mwi mac mre mkn mth x1 H locs hP hD hS ls hl h
    have h := f_X3_most_10_e.symm.trans h
    refine lv_iconst (v := 1) hx hb dX3_most_10 (by decide) ?_
    refine lv_goto (tgt := 15) hx hb dX3_most_11 (by decide) ?_
    exact J15 mce mfr mun mbe men mov msp mwb mwe mwi mac mre mkn mth x1 1 _ _ hP hD hS ls (lv_sub hl [0, 1] rfl) h
  have hl := lv_entry ([.ref (b 0), .int p0]) (n := 2) (Nat.le_of_ble_eq_true rfl)
  rw [lg_entry_eq]
  generalize (lg_sl ([.ref (b 0), .int p0]) ++ List.replicate (2 - (lg_sl ([.ref (b 0), .int p0])).length) Slot.unset).toArray = ls at hl ⊢
  have hl : lv_has ls 2 [(0, .ref (b 0)), (1, .int p0)] := hl
  have h := f_X3_most_e.symm.trans hf
  refine lv_aload_n hx hb dX3_most_0 rfl (lv_at hl 0 rfl) ?_
  refine lv_iload_n hx hb dX3_most_1 rfl (lv_at hl 1 rfl) ?_
  refine lv_if_lt (tgt := 10) hx hb dX3_most_2 (by decide) (fun c1 => ?_) (fun c1 => ?_)
  · have h := g_t c1 h
    exact J10 mce mfr mun mbe men mov msp mwb mwe mwi mac mre mkn mth p0 _ _ hP hD hS ls (lv_sub hl [0, 1] rfl) h
  · have h := g_f c1 h
    refine lv_iload_n hx hb dX3_most_5 rfl (lv_at hl 1 rfl) ?_
    refine lv_iconst (v := 1) hx hb dX3_most_6 (by decide) ?_
    refine lv_icmp_le (tgt := 14) hx hb dX3_most_7 (by decide) (fun c2 => ?_) (fun c2 => ?_)
    · have h := g_t c2 h
      refine lv_iconst (v := 0) hx hb dX3_most_14 (by decide) ?_
      exact J15 mce mfr mun mbe men mov msp mwb mwe mwi mac mre mkn mth p0 0 _ _ hP hD hS ls (lv_sub hl [0, 1] rfl) h
    · have h := g_f c2 h
      exact J10 mce mfr mun mbe men mov msp mwb mwe mwi mac mre mkn mth p0 _ _ hP hD hS ls (lv_sub hl [0, 1] rfl) h
abbrev wsX3_crowd : List Cond := kWs yX3_crowd cX3_crowd 1 (some .int)
def f_X3_crowd (mwb : Nat → Int64) (mwe : Nat → Int64) (mwi : Int32) : Option ((Int32) × (Int32)) :=
  (f_X3_deepest 8 8 mwb mwe mwi).bind fun r1 =>
  some (r1, 0)
theorem f_X3_crowd_e {mwb : Nat → Int64} {mwe : Nat → Int64} {mwi : Int32} : f_X3_crowd mwb mwe mwi = 
  (f_X3_deepest 8 8 mwb mwe mwi).bind fun r1 =>
  some (r1, 0) := rfl
set_option maxHeartbeats 4000000 in
set_option maxRecDepth 100000 in
theorem c_X3_crowd (l : Launch) (dC : Nat → ClassId) (dI : Nat → Nat → Nat) (cB cI cJ cZ : ClassId) (b : Nat → Nat) (sz : Nat) (mce : Nat → Int64) (mfr : Int64) (mun : Int64) (mbe : Nat → Int64) (men : Nat → Int64) (mov : Nat → Int32) (msp : Int32) (mwb : Nat → Int64) (mwe : Nat → Int64) (mwi : Int32) (mac : Int32) (mre : Int32) (mkn : Int32) (mth : Int32) (res : (Int32) × (Int32)) (hf : f_X3_crowd mwb mwe mwi = some res) : Met l yX3_crowd wsX3_crowd ({ frames := 2, cells := 0, slots := 0, locals := 66 } : Room) (kPre (dC, dI) (kTy cB cI cJ cZ) [.ref (b 0)] sz (wMo cJ cZ b mce mfr mun mbe men mov msp mwb mwe mwi mac mre mkn mth)) (kI (dC, dI) .int (res.1) (wMo cJ cZ b mce mfr mun mbe men mov msp mwb mwe mwi mac mre mkn (res.2)) (va_A (wMo cJ cZ b mce mfr mun mbe men mov msp mwb mwe mwi mac mre mkn mth) sz)) 0 0 (va_A (wMo cJ cZ b mce mfr mun mbe men mov msp mwb mwe mwi mac mre mkn mth) sz) := by
  refine Met.ofW (cc := cX3_crowd) (maxL := 1) (ret := (some .int)) (by decide) rfl ?_
  intro p e s m args below meth c s₁ B hml hv
  obtain ⟨rfl, hsz, hP, hK, hD0, hG⟩ := hv
  have hx := B.exec
  have hb := B.bytes
  have hr := B.returns
  have hts := atoms_spec (ws := wsX3_crowd) B.pre
  have hown : s.vm.findClass RX3 = some m.cls := findClass_of_methodNamed B.named
  have hlocks := B.notSynchronized
  subst hsz
  have hD := hD0.self (sz := s.heap.size)
  generalize hAe : va_A (wMo cJ cZ b mce mfr mun mbe men mov msp mwb mwe mwi mac mre mkn mth) s.heap.size = A at hD ⊢
  have hA : ∀ q : Nat, s.heap.size ≤ q → A q := fun q h => by rw [← hAe]; exact Or.inr h
  have hS : va_S A s.heap s.heap [] := va_S.rf
  clear hAe
  have hw0 := hts (.fieldLink RX3 35 "SpanbookerModel" "thrown" "I") (List.mem_cons_of_mem _ kw_1085)
  have hw1 := hts (.fieldLink RX3 29 "SpanbookerModel" "wishBegins" "[J") (List.mem_cons_of_mem _ kw_1079)
  have hw2 := hts (.fieldLink RX3 32 "SpanbookerModel" "wishEnds" "[J") (List.mem_cons_of_mem _ kw_1080)
  have hw3 := hts (.fieldLink RX3 88 "SpanbookerModel" "wishes" "I") (List.mem_cons_of_mem _ kw_1081)
  have hiX3 : ∀ w ∈ u_ws RX3 TX3 14, w ∈ wsX3_crowd := fun w h => List.mem_cons_of_mem _ (ku_X3 w h)
  have hl := lv_entry ([.ref (b 0)]) (n := 1) (Nat.le_of_ble_eq_true rfl)
  rw [lg_entry_eq]
  generalize (lg_sl ([.ref (b 0)]) ++ List.replicate (1 - (lg_sl ([.ref (b 0)])).length) Slot.unset).toArray = ls at hl ⊢
  have hl : lv_has ls 1 [(0, .ref (b 0))] := hl
  have h := f_X3_crowd_e.symm.trans hf
  refine lv_aload_n hx hb dX3_crowd_0 rfl (lv_at hl 0 rfl) ?_
  refine lv_iconst (v := 0) hx hb dX3_crowd_1 (by decide) ?_
  refine va_put (D := (dC, dI)) (ci := 5) (v := .int 0) (ty := .int) (C := RX3) (T := TX3) (N := 14) hx hb hts hiX3 tyX3 tyX3_ok nmX3 hown hK hP hD hS 0 rfl rfl 13 (by decide) hw0 (fun _ h9 => h9) rfl (by decide +kernel) rfl rfl (Nat.le_of_ble_eq_true rfl) dX3_crowd_2 (fun H locs hP hD hS => ?_)
  have hP : va_P (dC, dI) vwCl (wMo cJ cZ b mce mfr mun mbe men mov msp mwb mwe mwi mac mre mkn 0) H := hP
  have hD : va_D A (wMo cJ cZ b mce mfr mun mbe men mov msp mwb mwe mwi mac mre mkn 0) := hD
  refine lv_aload_n hx hb dX3_crowd_5 rfl (lv_at hl 0 rfl) ?_
  refine va_get (D := (dC, dI)) (ci := 5) (v := .ref (b 5)) (C := RX3) (T := TX3) (N := 14) hx hb hts hiX3 hown hK hP 0 rfl rfl 7 (by decide) hw1 (fun _ h9 => h9) rfl dX3_crowd_6 ?_
  refine lv_aload_n hx hb dX3_crowd_9 rfl (lv_at hl 0 rfl) ?_
  refine va_get (D := (dC, dI)) (ci := 5) (v := .ref (b 6)) (C := RX3) (T := TX3) (N := 14) hx hb hts hiX3 hown hK hP 0 rfl rfl 8 (by decide) hw2 (fun _ h9 => h9) rfl dX3_crowd_10 ?_
  refine lv_aload_n hx hb dX3_crowd_13 rfl (lv_at hl 0 rfl) ?_
  refine va_get (D := (dC, dI)) (ci := 5) (v := .int mwi) (C := RX3) (T := TX3) (N := 14) hx hb hts hiX3 hown hK hP 0 rfl rfl 9 (by decide) hw3 (fun _ h9 => h9) rfl dX3_crowd_14 ?_
  obtain ⟨r1, g1, h⟩ := g_b h
  refine kcall_i (wMo cJ cZ b mce mfr mun mbe men mov msp mwb mwe mwi mac mre mkn 0) (va_runS (As := [.ref (b 5), .ref (b 6), .int mwi]) (rest := []) ⟨hx, hb, hml, hown, hts⟩ (c_X3_deepest l dC dI cB cI cJ cZ (b 5) 8 (b 6) 8 _ mwb mwe mwi r1 g1) (kcwS hts kw_1352 kv_X3_deepest rfl rfl ⟨(Nat.le_of_ble_eq_true rfl), (Nat.le_of_ble_eq_true rfl)⟩) (kpS (A := A) (hP.sub (kIT mk_51 0) (km_f (m := mk_51) rfl rfl)) hK (hD.sub (kIT mk_51 0) (km_nd mk_51) (km_T (m := mk_51) rfl rfl)) hG) rfl rfl hl.1 rfl (lv_room (Nat.le_of_ble_eq_true rfl)) dX3_crowd_17 ⟨(Nat.le_of_ble_eq_true rfl), (Nat.le_of_ble_eq_true rfl)⟩) hP hD hS hA (kIT mk_51 0) (kIT mk_52 0) (km_T (m := mk_51) rfl rfl) (km_T (m := mk_51) rfl rfl) [((b 0), .inr (5, [.ref (b 1), .long mfr, .long mun, .ref (b 2), .ref (b 3), .ref (b 4), .int msp, .ref (b 5), .ref (b 6), .int mwi, .int mac, .int mre, .int mkn, .int 0])), ((b 1), .inl (cJ, 4, .inr (.inl mce))), ((b 2), .inl (cJ, 10, .inr (.inl mbe))), ((b 3), .inl (cJ, 10, .inr (.inl men))), ((b 4), .inl (cZ, 10, .inl mov))] (km_T (m := mk_52) rfl rfl) (km_T (m := mk_52) rfl rfl) (km_cov (m := mk_51) (n := mk_52) rfl rfl) (km_dis (m := mk_51) (n := mk_52) rfl) rfl (fun H locs hP hD hS br1 => ?_)
  have h := Option.some.inj h
  subst h
  exact kret_i (v := r1) hx hb hr rfl hlocks hS hP dX3_crowd_20
abbrev wsX3_room : List Cond := kWs yX3_room cX3_room 2 (some .int)
def f_X3_room_14 (mwb : Nat → Int64) (mwe : Nat → Int64) (mwi : Int32) (x1 : Int32) (y0 : Int32) : Option ((Int32) × (Int32)) :=
  (f_X3_isThrown_ y0).bind fun r1 =>
  if r1.1 = 0 then
    (f_X3_roomsNow mwb mwe mwi).bind fun r3 =>
    if ix x1 mwi.toNatClampNeg then
      some (r3 x1.toNatClampNeg, r1.2)
    else none
  else
    some (0, r1.2)
theorem f_X3_room_14_e {mwb : Nat → Int64} {mwe : Nat → Int64} {mwi : Int32} {x1 : Int32} {y0 : Int32} : f_X3_room_14 mwb mwe mwi x1 y0 =
  (f_X3_isThrown_ y0).bind fun r1 =>
  if r1.1 = 0 then
    (f_X3_roomsNow mwb mwe mwi).bind fun r3 =>
    if ix x1 mwi.toNatClampNeg then
      some (r3 x1.toNatClampNeg, r1.2)
    else none
  else
    some (0, r1.2) := rfl
def f_X3_room (mwb : Nat → Int64) (mwe : Nat → Int64) (mwi : Int32) (p0 : Int32) : Option ((Int32) × (Int32)) :=
  (f_X3_isWish mwi p0).bind fun r1 =>
  if r1 = 0 then
    f_X3_room_14 mwb mwe mwi p0 1
  else
    f_X3_room_14 mwb mwe mwi p0 0
theorem f_X3_room_e {mwb : Nat → Int64} {mwe : Nat → Int64} {mwi : Int32} {p0 : Int32} : f_X3_room mwb mwe mwi p0 = 
  (f_X3_isWish mwi p0).bind fun r1 =>
  if r1 = 0 then
    f_X3_room_14 mwb mwe mwi p0 1
  else
    f_X3_room_14 mwb mwe mwi p0 0 := rfl
set_option maxHeartbeats 4000000 in
set_option maxRecDepth 100000 in
theorem c_X3_room (l : Launch) (dC : Nat → ClassId) (dI : Nat → Nat → Nat) (cB cI cJ cZ : ClassId) (b : Nat → Nat) (sz : Nat) (mce : Nat → Int64) (mfr : Int64) (mun : Int64) (mbe : Nat → Int64) (men : Nat → Int64) (mov : Nat → Int32) (msp : Int32) (mwb : Nat → Int64) (mwe : Nat → Int64) (mwi : Int32) (mac : Int32) (mre : Int32) (mkn : Int32) (mth : Int32) (p0 : Int32) (res : (Int32) × (Int32)) (hf : f_X3_room mwb mwe mwi p0 = some res) : Met l yX3_room wsX3_room ({ frames := 3, cells := 1, slots := 16, locals := 73 } : Room) (kPre (dC, dI) (kTy cB cI cJ cZ) [.ref (b 0), .int p0] sz (wMo cJ cZ b mce mfr mun mbe men mov msp mwb mwe mwi mac mre mkn mth)) (kI (dC, dI) .int (res.1) (wMo cJ cZ b mce mfr mun mbe men mov msp mwb mwe mwi mac mre mkn (res.2)) (va_A (wMo cJ cZ b mce mfr mun mbe men mov msp mwb mwe mwi mac mre mkn mth) sz)) 1 16 (va_A (wMo cJ cZ b mce mfr mun mbe men mov msp mwb mwe mwi mac mre mkn mth) sz) := by
  refine Met.ofW (cc := cX3_room) (maxL := 2) (ret := (some .int)) (by decide) rfl ?_
  intro p e s m args below meth c s₁ B hml hv
  obtain ⟨rfl, hsz, hP, hK, hD0, hG⟩ := hv
  have hx := B.exec
  have hb := B.bytes
  have hr := B.returns
  have hts := atoms_spec (ws := wsX3_room) B.pre
  have hown : s.vm.findClass RX3 = some m.cls := findClass_of_methodNamed B.named
  have hlocks := B.notSynchronized
  subst hsz
  have hD := hD0.self (sz := s.heap.size)
  generalize hAe : va_A (wMo cJ cZ b mce mfr mun mbe men mov msp mwb mwe mwi mac mre mkn mth) s.heap.size = A at hD ⊢
  have hA : ∀ q : Nat, s.heap.size ≤ q → A q := fun q h => by rw [← hAe]; exact Or.inr h
  have hS : va_S A s.heap s.heap [] := va_S.rf
  clear hAe
  have J14 : ∀ (mce : Nat → Int64) (mfr : Int64) (mun : Int64) (mbe : Nat → Int64) (men : Nat → Int64) (mov : Nat → Int32) (msp : Int32) (mwb : Nat → Int64) (mwe : Nat → Int64) (mwi : Int32) (mac : Int32) (mre : Int32) (mkn : Int32) (mth : Int32) (x1 : Int32) (y0 : Int32) (H : Heap) (locs : List Loc), va_P (dC, dI) vwCl (wMo cJ cZ b mce mfr mun mbe men mov msp mwb mwe mwi mac mre mkn mth) H → va_D A (wMo cJ cZ b mce mfr mun mbe men mov msp mwb mwe mwi mac mre mkn mth) → va_S A s.heap H locs → ∀ (ls : Array Slot), lv_has ls 2 [(0, .ref (b 0)), (1, .int x1)] → f_X3_room_14 mwb mwe mwi x1 y0 = some res → W p l e (headSpec wsX3_room ({ frames := 3, cells := 1, slots := 16, locals := 73 } : Room)).room s m ([.ref (b 0), .int p0] : List Value).toArray below meth c H locs 0 0 (MQ below (kI (dC, dI) .int (res.1) (wMo cJ cZ b mce mfr mun mbe men mov msp mwb mwe mwi mac mre mkn (res.2)) A) ([.ref (b 0), .int p0] : List Value).toArray s 1 16 A) (F0 m 14 ls [.int y0, .ref (b 0)]) := by
    intro mce mfr mun mbe men mov msp mwb mwe mwi mac mre mkn mth x1 y0 H locs hP hD hS ls hl h
    have h := f_X3_room_14_e.symm.trans h
    obtain ⟨r1, g1, h⟩ := g_b h
    refine kcall_i (wMo cJ cZ b mce mfr mun mbe men mov msp mwb mwe mwi mac mre mkn r1.2) (va_runV (As := [.int y0]) (rest := []) ⟨hx, hb, hml, hown, hts⟩ (c_X3_isThrown_ l dC dI cB cI cJ cZ b _ mce mfr mun mbe men mov msp mwb mwe mwi mac mre mkn mth y0 r1 g1) (kcwV hts kw_1170 kv_X3_isThrown_ rfl rfl ⟨(Nat.le_of_ble_eq_true rfl), (Nat.le_of_ble_eq_true rfl)⟩) (kpV (A := A) (hP.sub (kIT mk_26 0) (km_f (m := mk_26) rfl rfl)) hK (hD.sub (kIT mk_26 0) (km_nd mk_26) (km_T (m := mk_26) rfl rfl)) hG (va_recv hK hP (ci := 5) (q0 := 0) rfl rfl)) rfl rfl hl.1 rfl (lv_room (Nat.le_of_ble_eq_true rfl)) dX3_room_14 ⟨(Nat.le_of_ble_eq_true rfl), (Nat.le_of_ble_eq_true rfl)⟩) hP hD hS hA (kIT mk_26 0) (kIT mk_25 0) (km_T (m := mk_26) rfl rfl) (km_T (m := mk_26) rfl rfl) [] (km_T (m := mk_25) rfl rfl) (km_T (m := mk_25) rfl rfl) (km_cov (m := mk_26) (n := mk_25) rfl rfl) (km_dis (m := mk_26) (n := mk_25) rfl) rfl (fun H locs hP hD hS br1 => ?_)
    refine lv_if_eq (tgt := 24) hx hb dX3_room_17 (by decide) (fun c2 => ?_) (fun c2 => ?_)
    · have h := g_t c2 h
      refine lv_aload_n hx hb dX3_room_24 rfl (lv_at hl 0 rfl) ?_
      obtain ⟨r3, g3, h⟩ := g_b h
      refine kcall_r (wMo cJ cZ b mce mfr mun mbe men mov msp mwb mwe mwi mac mre mkn r1.2) (va_runV (As := []) (rest := []) ⟨hx, hb, hml, hown, hts⟩ (c_X3_roomsNow l dC dI cB cI cJ cZ b _ mce mfr mun mbe men mov msp mwb mwe mwi mac mre mkn r1.2  r3 g3) (kcwV hts kw_1438 kv_X3_roomsNow rfl rfl ⟨(Nat.le_of_ble_eq_true rfl), (Nat.le_of_ble_eq_true rfl)⟩) (kpV (A := A) (hP.sub [0, 1, 2, 3, 4, 5, 6] rfl) hK (hD.sub [0, 1, 2, 3, 4, 5, 6] (by decide) rfl) hG (va_recv hK hP (ci := 5) (q0 := 0) rfl rfl)) rfl rfl hl.1 rfl (lv_room (Nat.le_of_ble_eq_true rfl)) dX3_room_25 ⟨(Nat.le_of_ble_eq_true rfl), (Nat.le_of_ble_eq_true rfl)⟩) hP hD hS hA [0, 1, 2, 3, 4, 5, 6] [] rfl rfl [] rfl rfl rfl (by decide) rfl rfl (fun qn0 H locs hP hD hS => ?_)
      have hP : va_P (dC, dI) vwCl ((wMo cJ cZ b mce mfr mun mbe men mov msp mwb mwe mwi mac mre mkn r1.2) ++ [(qn0, .inl (cI, mwi.toNatClampNeg, .inl r3))]) H := hP
      have hD : va_D A ((wMo cJ cZ b mce mfr mun mbe men mov msp mwb mwe mwi mac mre mkn r1.2) ++ [(qn0, .inl (cI, mwi.toNatClampNeg, .inl r3))]) := hD
      refine lv_iload_n hx hb dX3_room_28 rfl (lv_at hl 1 rfl) ?_
      obtain ⟨z3, h⟩ := g_if h
      refine va_iald hx hb hK hP 7 1 rfl rfl (ix_in z3) dX3_room_29 ?_
      have hP := hP.sub (ws' := (wMo cJ cZ b mce mfr mun mbe men mov msp mwb mwe mwi mac mre mkn r1.2)) [0, 1, 2, 3, 4, 5, 6] rfl
      have h := Option.some.inj h
      subst h
      refine W.widen (k := 1) (n := 16) (Nat.le_of_ble_eq_true rfl) (Nat.le_of_ble_eq_true rfl) ?_
      exact kret_i (v := r3 x1.toNatClampNeg) hx hb hr rfl hlocks hS hP dX3_room_30
    · have h := g_f c2 h
      refine lv_iconst (v := 0) hx hb dX3_room_20 (by decide) ?_
      refine lv_goto (tgt := 30) hx hb dX3_room_21 (by decide) ?_
      have h := Option.some.inj h
      subst h
      refine W.widen (k := 1) (n := 16) (Nat.le_of_ble_eq_true rfl) (Nat.le_of_ble_eq_true rfl) ?_
      exact kret_i (v := 0) hx hb hr rfl hlocks hS hP dX3_room_30
  have hl := lv_entry ([.ref (b 0), .int p0]) (n := 2) (Nat.le_of_ble_eq_true rfl)
  rw [lg_entry_eq]
  generalize (lg_sl ([.ref (b 0), .int p0]) ++ List.replicate (2 - (lg_sl ([.ref (b 0), .int p0])).length) Slot.unset).toArray = ls at hl ⊢
  have hl : lv_has ls 2 [(0, .ref (b 0)), (1, .int p0)] := hl
  have h := f_X3_room_e.symm.trans hf
  refine lv_aload_n hx hb dX3_room_0 rfl (lv_at hl 0 rfl) ?_
  refine lv_aload_n hx hb dX3_room_1 rfl (lv_at hl 0 rfl) ?_
  refine lv_iload_n hx hb dX3_room_2 rfl (lv_at hl 1 rfl) ?_
  obtain ⟨r1, g1, h⟩ := g_b h
  refine kcall_i (wMo cJ cZ b mce mfr mun mbe men mov msp mwb mwe mwi mac mre mkn mth) (va_runV (As := [.int p0]) (rest := [.ref (b 0)]) ⟨hx, hb, hml, hown, hts⟩ (c_X3_isWish l dC dI cB cI cJ cZ b _ mce mfr mun mbe men mov msp mwb mwe mwi mac mre mkn mth p0 r1 g1) (kcwV hts kw_1259 kv_X3_isWish rfl rfl ⟨(Nat.le_of_ble_eq_true rfl), (Nat.le_of_ble_eq_true rfl)⟩) (kpV (A := A) (hP.sub (kIT mk_26 0) (km_f (m := mk_26) rfl rfl)) hK (hD.sub (kIT mk_26 0) (km_nd mk_26) (km_T (m := mk_26) rfl rfl)) hG (va_recv hK hP (ci := 5) (q0 := 0) rfl rfl)) rfl rfl hl.1 rfl (lv_room (Nat.le_of_ble_eq_true rfl)) dX3_room_3 ⟨(Nat.le_of_ble_eq_true rfl), (Nat.le_of_ble_eq_true rfl)⟩) hP hD hS hA (kIT mk_26 0) (kIT mk_25 0) (km_T (m := mk_26) rfl rfl) (km_T (m := mk_26) rfl rfl) [] (km_T (m := mk_25) rfl rfl) (km_T (m := mk_25) rfl rfl) (km_cov (m := mk_26) (n := mk_25) rfl rfl) (km_dis (m := mk_26) (n := mk_25) rfl) rfl (fun H locs hP hD hS br1 => ?_)
  refine lv_if_ne (tgt := 13) hx hb dX3_room_6 (by decide) (fun c2 => ?_) (fun c2 => ?_)
  · have h := g_f c2 h
    refine lv_iconst (v := 0) hx hb dX3_room_13 (by decide) ?_
    exact J14 mce mfr mun mbe men mov msp mwb mwe mwi mac mre mkn mth p0 0 _ _ hP hD hS ls (lv_sub hl [0, 1] rfl) h
  · have h := g_t c2 h
    refine lv_iconst (v := 1) hx hb dX3_room_9 (by decide) ?_
    refine lv_goto (tgt := 14) hx hb dX3_room_10 (by decide) ?_
    exact J14 mce mfr mun mbe men mov msp mwb mwe mwi mac mre mkn mth p0 1 _ _ hP hD hS ls (lv_sub hl [0, 1] rfl) h
abbrev wsX3_rooms : List Cond := kWs yX3_rooms cX3_rooms 1 (some .int)
def f_X3_rooms (mwb : Nat → Int64) (mwe : Nat → Int64) (mwi : Int32) : Option ((Int32) × (Int32)) :=
  (f_X3_roomsOf mwb mwe mwi).bind fun r1 =>
  some (r1, 0)
theorem f_X3_rooms_e {mwb : Nat → Int64} {mwe : Nat → Int64} {mwi : Int32} : f_X3_rooms mwb mwe mwi = 
  (f_X3_roomsOf mwb mwe mwi).bind fun r1 =>
  some (r1, 0) := rfl
set_option maxHeartbeats 4000000 in
set_option maxRecDepth 100000 in
theorem c_X3_rooms (l : Launch) (dC : Nat → ClassId) (dI : Nat → Nat → Nat) (cB cI cJ cZ : ClassId) (b : Nat → Nat) (sz : Nat) (mce : Nat → Int64) (mfr : Int64) (mun : Int64) (mbe : Nat → Int64) (men : Nat → Int64) (mov : Nat → Int32) (msp : Int32) (mwb : Nat → Int64) (mwe : Nat → Int64) (mwi : Int32) (mac : Int32) (mre : Int32) (mkn : Int32) (mth : Int32) (res : (Int32) × (Int32)) (hf : f_X3_rooms mwb mwe mwi = some res) : Met l yX3_rooms wsX3_rooms ({ frames := 4, cells := 1, slots := 16, locals := 98 } : Room) (kPre (dC, dI) (kTy cB cI cJ cZ) [.ref (b 0)] sz (wMo cJ cZ b mce mfr mun mbe men mov msp mwb mwe mwi mac mre mkn mth)) (kI (dC, dI) .int (res.1) (wMo cJ cZ b mce mfr mun mbe men mov msp mwb mwe mwi mac mre mkn (res.2)) (va_A (wMo cJ cZ b mce mfr mun mbe men mov msp mwb mwe mwi mac mre mkn mth) sz)) 1 16 (va_A (wMo cJ cZ b mce mfr mun mbe men mov msp mwb mwe mwi mac mre mkn mth) sz) := by
  refine Met.ofW (cc := cX3_rooms) (maxL := 1) (ret := (some .int)) (by decide) rfl ?_
  intro p e s m args below meth c s₁ B hml hv
  obtain ⟨rfl, hsz, hP, hK, hD0, hG⟩ := hv
  have hx := B.exec
  have hb := B.bytes
  have hr := B.returns
  have hts := atoms_spec (ws := wsX3_rooms) B.pre
  have hown : s.vm.findClass RX3 = some m.cls := findClass_of_methodNamed B.named
  have hlocks := B.notSynchronized
  subst hsz
  have hD := hD0.self (sz := s.heap.size)
  generalize hAe : va_A (wMo cJ cZ b mce mfr mun mbe men mov msp mwb mwe mwi mac mre mkn mth) s.heap.size = A at hD ⊢
  have hA : ∀ q : Nat, s.heap.size ≤ q → A q := fun q h => by rw [← hAe]; exact Or.inr h
  have hS : va_S A s.heap s.heap [] := va_S.rf
  clear hAe
  have hw0 := hts (.fieldLink RX3 35 "SpanbookerModel" "thrown" "I") (List.mem_cons_of_mem _ kw_1085)
  have hiX3 : ∀ w ∈ u_ws RX3 TX3 14, w ∈ wsX3_rooms := fun w h => List.mem_cons_of_mem _ (ku_X3 w h)
  have hl := lv_entry ([.ref (b 0)]) (n := 1) (Nat.le_of_ble_eq_true rfl)
  rw [lg_entry_eq]
  generalize (lg_sl ([.ref (b 0)]) ++ List.replicate (1 - (lg_sl ([.ref (b 0)])).length) Slot.unset).toArray = ls at hl ⊢
  have hl : lv_has ls 1 [(0, .ref (b 0))] := hl
  have h := f_X3_rooms_e.symm.trans hf
  refine lv_aload_n hx hb dX3_rooms_0 rfl (lv_at hl 0 rfl) ?_
  refine lv_iconst (v := 0) hx hb dX3_rooms_1 (by decide) ?_
  refine va_put (D := (dC, dI)) (ci := 5) (v := .int 0) (ty := .int) (C := RX3) (T := TX3) (N := 14) hx hb hts hiX3 tyX3 tyX3_ok nmX3 hown hK hP hD hS 0 rfl rfl 13 (by decide) hw0 (fun _ h9 => h9) rfl (by decide +kernel) rfl rfl (Nat.le_of_ble_eq_true rfl) dX3_rooms_2 (fun H locs hP hD hS => ?_)
  have hP : va_P (dC, dI) vwCl (wMo cJ cZ b mce mfr mun mbe men mov msp mwb mwe mwi mac mre mkn 0) H := hP
  have hD : va_D A (wMo cJ cZ b mce mfr mun mbe men mov msp mwb mwe mwi mac mre mkn 0) := hD
  refine lv_aload_n hx hb dX3_rooms_5 rfl (lv_at hl 0 rfl) ?_
  obtain ⟨r1, g1, h⟩ := g_b h
  refine kcall_i (wMo cJ cZ b mce mfr mun mbe men mov msp mwb mwe mwi mac mre mkn 0) (va_runV (As := []) (rest := []) ⟨hx, hb, hml, hown, hts⟩ (c_X3_roomsOf l dC dI cB cI cJ cZ b _ mce mfr mun mbe men mov msp mwb mwe mwi mac mre mkn 0  r1 g1) (kcwV hts kw_1450 kv_X3_roomsOf rfl rfl ⟨(Nat.le_of_ble_eq_true rfl), (Nat.le_of_ble_eq_true rfl)⟩) (kpV (A := A) (hP.sub (kIT mk_26 0) (km_f (m := mk_26) rfl rfl)) hK (hD.sub (kIT mk_26 0) (km_nd mk_26) (km_T (m := mk_26) rfl rfl)) hG (va_recv hK hP (ci := 5) (q0 := 0) rfl rfl)) rfl rfl hl.1 rfl (lv_room (Nat.le_of_ble_eq_true rfl)) dX3_rooms_6 ⟨(Nat.le_of_ble_eq_true rfl), (Nat.le_of_ble_eq_true rfl)⟩) hP hD hS hA (kIT mk_26 0) (kIT mk_25 0) (km_T (m := mk_26) rfl rfl) (km_T (m := mk_26) rfl rfl) [] (km_T (m := mk_25) rfl rfl) (km_T (m := mk_25) rfl rfl) (km_cov (m := mk_26) (n := mk_25) rfl rfl) (km_dis (m := mk_26) (n := mk_25) rfl) rfl (fun H locs hP hD hS br1 => ?_)
  have h := Option.some.inj h
  subst h
  refine W.widen (k := 1) (n := 16) (Nat.le_of_ble_eq_true rfl) (Nat.le_of_ble_eq_true rfl) ?_
  exact kret_i (v := r1) hx hb hr rfl hlocks hS hP dX3_rooms_9
abbrev wsX3_house : List Cond := kWs yX3_house cX3_house 2 (some .int)
def f_X3_house_15 (mac : Int32) (mre : Int32) (mkn : Int32) (x1 : Int32) (y0 : Int32) : Option ((Int32) × (Int32)) :=
  (f_X3_isThrown_ y0).bind fun r1 =>
  if r1.1 = 0 then
    if x1 = 0 then
      some (mac, r1.2)
    else
      if x1 = 1 then
        some (mre, r1.2)
      else
        some (mkn, r1.2)
  else
    some (0, r1.2)
theorem f_X3_house_15_e {mac : Int32} {mre : Int32} {mkn : Int32} {x1 : Int32} {y0 : Int32} : f_X3_house_15 mac mre mkn x1 y0 =
  (f_X3_isThrown_ y0).bind fun r1 =>
  if r1.1 = 0 then
    if x1 = 0 then
      some (mac, r1.2)
    else
      if x1 = 1 then
        some (mre, r1.2)
      else
        some (mkn, r1.2)
  else
    some (0, r1.2) := rfl
def f_X3_house_10 (mac : Int32) (mre : Int32) (mkn : Int32) (x1 : Int32) : Option ((Int32) × (Int32)) :=
  f_X3_house_15 mac mre mkn x1 1
theorem f_X3_house_10_e {mac : Int32} {mre : Int32} {mkn : Int32} {x1 : Int32} : f_X3_house_10 mac mre mkn x1 =
  f_X3_house_15 mac mre mkn x1 1 := rfl
def f_X3_house (mac : Int32) (mre : Int32) (mkn : Int32) (p0 : Int32) : Option ((Int32) × (Int32)) :=
  if p0 < 0 then
    f_X3_house_10 mac mre mkn p0
  else
    if p0 ≤ 2 then
      f_X3_house_15 mac mre mkn p0 0
    else
      f_X3_house_10 mac mre mkn p0
theorem f_X3_house_e {mac : Int32} {mre : Int32} {mkn : Int32} {p0 : Int32} : f_X3_house mac mre mkn p0 = 
  if p0 < 0 then
    f_X3_house_10 mac mre mkn p0
  else
    if p0 ≤ 2 then
      f_X3_house_15 mac mre mkn p0 0
    else
      f_X3_house_10 mac mre mkn p0 := rfl
set_option maxHeartbeats 4000000 in
set_option maxRecDepth 100000 in
theorem c_X3_house (l : Launch) (dC : Nat → ClassId) (dI : Nat → Nat → Nat) (cB cI cJ cZ : ClassId) (b : Nat → Nat) (sz : Nat) (mce : Nat → Int64) (mfr : Int64) (mun : Int64) (mbe : Nat → Int64) (men : Nat → Int64) (mov : Nat → Int32) (msp : Int32) (mwb : Nat → Int64) (mwe : Nat → Int64) (mwi : Int32) (mac : Int32) (mre : Int32) (mkn : Int32) (mth : Int32) (p0 : Int32) (res : (Int32) × (Int32)) (hf : f_X3_house mac mre mkn p0 = some res) : Met l yX3_house wsX3_house ({ frames := 2, cells := 0, slots := 0, locals := 43 } : Room) (kPre (dC, dI) (kTy cB cI cJ cZ) [.ref (b 0), .int p0] sz (wMo cJ cZ b mce mfr mun mbe men mov msp mwb mwe mwi mac mre mkn mth)) (kI (dC, dI) .int (res.1) (wMo cJ cZ b mce mfr mun mbe men mov msp mwb mwe mwi mac mre mkn (res.2)) (va_A (wMo cJ cZ b mce mfr mun mbe men mov msp mwb mwe mwi mac mre mkn mth) sz)) 0 0 (va_A (wMo cJ cZ b mce mfr mun mbe men mov msp mwb mwe mwi mac mre mkn mth) sz) := by
  refine Met.ofW (cc := cX3_house) (maxL := 2) (ret := (some .int)) (by decide) rfl ?_
  intro p e s m args below meth c s₁ B hml hv
  obtain ⟨rfl, hsz, hP, hK, hD0, hG⟩ := hv
  have hx := B.exec
  have hb := B.bytes
  have hr := B.returns
  have hts := atoms_spec (ws := wsX3_house) B.pre
  have hown : s.vm.findClass RX3 = some m.cls := findClass_of_methodNamed B.named
  have hlocks := B.notSynchronized
  subst hsz
  have hD := hD0.self (sz := s.heap.size)
  generalize hAe : va_A (wMo cJ cZ b mce mfr mun mbe men mov msp mwb mwe mwi mac mre mkn mth) s.heap.size = A at hD ⊢
  have hA : ∀ q : Nat, s.heap.size ≤ q → A q := fun q h => by rw [← hAe]; exact Or.inr h
  have hS : va_S A s.heap s.heap [] := va_S.rf
  clear hAe
  have hw0 := hts (.fieldLink RX3 236 "SpanbookerModel" "knocks" "I") (List.mem_cons_of_mem _ kw_1084)
  have hw1 := hts (.fieldLink RX3 120 "SpanbookerModel" "refused" "I") (List.mem_cons_of_mem _ kw_1083)
  have hw2 := hts (.fieldLink RX3 117 "SpanbookerModel" "acts" "I") (List.mem_cons_of_mem _ kw_1082)
  have hiX3 : ∀ w ∈ u_ws RX3 TX3 14, w ∈ wsX3_house := fun w h => List.mem_cons_of_mem _ (ku_X3 w h)
  have J15 : ∀ (mce : Nat → Int64) (mfr : Int64) (mun : Int64) (mbe : Nat → Int64) (men : Nat → Int64) (mov : Nat → Int32) (msp : Int32) (mwb : Nat → Int64) (mwe : Nat → Int64) (mwi : Int32) (mac : Int32) (mre : Int32) (mkn : Int32) (mth : Int32) (x1 : Int32) (y0 : Int32) (H : Heap) (locs : List Loc), va_P (dC, dI) vwCl (wMo cJ cZ b mce mfr mun mbe men mov msp mwb mwe mwi mac mre mkn mth) H → va_D A (wMo cJ cZ b mce mfr mun mbe men mov msp mwb mwe mwi mac mre mkn mth) → va_S A s.heap H locs → ∀ (ls : Array Slot), lv_has ls 2 [(0, .ref (b 0)), (1, .int x1)] → f_X3_house_15 mac mre mkn x1 y0 = some res → W p l e (headSpec wsX3_house ({ frames := 2, cells := 0, slots := 0, locals := 43 } : Room)).room s m ([.ref (b 0), .int p0] : List Value).toArray below meth c H locs 0 0 (MQ below (kI (dC, dI) .int (res.1) (wMo cJ cZ b mce mfr mun mbe men mov msp mwb mwe mwi mac mre mkn (res.2)) A) ([.ref (b 0), .int p0] : List Value).toArray s 0 0 A) (F0 m 15 ls [.int y0, .ref (b 0)]) := by
    intro mce mfr mun mbe men mov msp mwb mwe mwi mac mre mkn mth x1 y0 H locs hP hD hS ls hl h
    have h := f_X3_house_15_e.symm.trans h
    obtain ⟨r1, g1, h⟩ := g_b h
    refine kcall_i (wMo cJ cZ b mce mfr mun mbe men mov msp mwb mwe mwi mac mre mkn r1.2) (va_runV (As := [.int y0]) (rest := []) ⟨hx, hb, hml, hown, hts⟩ (c_X3_isThrown_ l dC dI cB cI cJ cZ b _ mce mfr mun mbe men mov msp mwb mwe mwi mac mre mkn mth y0 r1 g1) (kcwV hts kw_1170 kv_X3_isThrown_ rfl rfl ⟨(Nat.le_of_ble_eq_true rfl), (Nat.le_of_ble_eq_true rfl)⟩) (kpV (A := A) (hP.sub (kIT mk_26 0) (km_f (m := mk_26) rfl rfl)) hK (hD.sub (kIT mk_26 0) (km_nd mk_26) (km_T (m := mk_26) rfl rfl)) hG (va_recv hK hP (ci := 5) (q0 := 0) rfl rfl)) rfl rfl hl.1 rfl (lv_room (Nat.le_of_ble_eq_true rfl)) dX3_house_15 ⟨(Nat.le_of_ble_eq_true rfl), (Nat.le_of_ble_eq_true rfl)⟩) hP hD hS hA (kIT mk_26 0) (kIT mk_25 0) (km_T (m := mk_26) rfl rfl) (km_T (m := mk_26) rfl rfl) [] (km_T (m := mk_25) rfl rfl) (km_T (m := mk_25) rfl rfl) (km_cov (m := mk_26) (n := mk_25) rfl rfl) (km_dis (m := mk_26) (n := mk_25) rfl) rfl (fun H locs hP hD hS br1 => ?_)
    refine lv_if_eq (tgt := 25) hx hb dX3_house_18 (by decide) (fun c2 => ?_) (fun c2 => ?_)
    · have h := g_t c2 h
      refine lv_iload_n hx hb dX3_house_25 rfl (lv_at hl 1 rfl) ?_
      refine lv_if_ne (tgt := 36) hx hb dX3_house_26 (by decide) (fun c3 => ?_) (fun c3 => ?_)
      · have h := g_f c3 h
        refine lv_iload_n hx hb dX3_house_36 rfl (lv_at hl 1 rfl) ?_
        refine lv_iconst (v := 1) hx hb dX3_house_37 (by decide) ?_
        refine lv_icmp_ne (tgt := 48) hx hb dX3_house_38 (by decide) (fun c4 => ?_) (fun c4 => ?_)
        · have h := g_f c4 h
          refine lv_aload_n hx hb dX3_house_48 rfl (lv_at hl 0 rfl) ?_
          refine va_get (D := (dC, dI)) (ci := 5) (v := .int mkn) (C := RX3) (T := TX3) (N := 14) hx hb hts hiX3 hown hK hP 0 rfl rfl 12 (by decide) hw0 (fun _ h9 => h9) rfl dX3_house_49 ?_
          have h := Option.some.inj h
          subst h
          exact kret_i (v := mkn) hx hb hr rfl hlocks hS hP dX3_house_52
        · have h := g_t c4 h
          refine lv_aload_n hx hb dX3_house_41 rfl (lv_at hl 0 rfl) ?_
          refine va_get (D := (dC, dI)) (ci := 5) (v := .int mre) (C := RX3) (T := TX3) (N := 14) hx hb hts hiX3 hown hK hP 0 rfl rfl 11 (by decide) hw1 (fun _ h9 => h9) rfl dX3_house_42 ?_
          refine lv_goto (tgt := 52) hx hb dX3_house_45 (by decide) ?_
          have h := Option.some.inj h
          subst h
          exact kret_i (v := mre) hx hb hr rfl hlocks hS hP dX3_house_52
      · have h := g_t c3 h
        refine lv_aload_n hx hb dX3_house_29 rfl (lv_at hl 0 rfl) ?_
        refine va_get (D := (dC, dI)) (ci := 5) (v := .int mac) (C := RX3) (T := TX3) (N := 14) hx hb hts hiX3 hown hK hP 0 rfl rfl 10 (by decide) hw2 (fun _ h9 => h9) rfl dX3_house_30 ?_
        refine lv_goto (tgt := 52) hx hb dX3_house_33 (by decide) ?_
        have h := Option.some.inj h
        subst h
        exact kret_i (v := mac) hx hb hr rfl hlocks hS hP dX3_house_52
    · have h := g_f c2 h
      refine lv_iconst (v := 0) hx hb dX3_house_21 (by decide) ?_
      refine lv_goto (tgt := 52) hx hb dX3_house_22 (by decide) ?_
      have h := Option.some.inj h
      subst h
      exact kret_i (v := 0) hx hb hr rfl hlocks hS hP dX3_house_52
  have J10 : ∀ (mce : Nat → Int64) (mfr : Int64) (mun : Int64) (mbe : Nat → Int64) (men : Nat → Int64) (mov : Nat → Int32) (msp : Int32) (mwb : Nat → Int64) (mwe : Nat → Int64) (mwi : Int32) (mac : Int32) (mre : Int32) (mkn : Int32) (mth : Int32) (x1 : Int32) (H : Heap) (locs : List Loc), va_P (dC, dI) vwCl (wMo cJ cZ b mce mfr mun mbe men mov msp mwb mwe mwi mac mre mkn mth) H → va_D A (wMo cJ cZ b mce mfr mun mbe men mov msp mwb mwe mwi mac mre mkn mth) → va_S A s.heap H locs → ∀ (ls : Array Slot), lv_has ls 2 [(0, .ref (b 0)), (1, .int x1)] → f_X3_house_10 mac mre mkn x1 = some res → W p l e (headSpec wsX3_house ({ frames := 2, cells := 0, slots := 0, locals := 43 } : Room)).room s m ([.ref (b 0), .int p0] : List Value).toArray below meth c H locs 0 0 (MQ below (kI (dC, dI) .int (res.1) (wMo cJ cZ b mce mfr mun mbe men mov msp mwb mwe mwi mac mre mkn (res.2)) A) ([.ref (b 0), .int p0] : List Value).toArray s 0 0 A) (F0 m 10 ls [.ref (b 0)]) := by
    intro mce mfr mun mbe men mov msp mwb mwe mwi mac mre mkn mth x1 H locs hP hD hS ls hl h
    have h := f_X3_house_10_e.symm.trans h
    refine lv_iconst (v := 1) hx hb dX3_house_10 (by decide) ?_
    refine lv_goto (tgt := 15) hx hb dX3_house_11 (by decide) ?_
    exact J15 mce mfr mun mbe men mov msp mwb mwe mwi mac mre mkn mth x1 1 _ _ hP hD hS ls (lv_sub hl [0, 1] rfl) h
  have hl := lv_entry ([.ref (b 0), .int p0]) (n := 2) (Nat.le_of_ble_eq_true rfl)
  rw [lg_entry_eq]
  generalize (lg_sl ([.ref (b 0), .int p0]) ++ List.replicate (2 - (lg_sl ([.ref (b 0), .int p0])).length) Slot.unset).toArray = ls at hl ⊢
  have hl : lv_has ls 2 [(0, .ref (b 0)), (1, .int p0)] := hl
  have h := f_X3_house_e.symm.trans hf
  refine lv_aload_n hx hb dX3_house_0 rfl (lv_at hl 0 rfl) ?_
  refine lv_iload_n hx hb dX3_house_1 rfl (lv_at hl 1 rfl) ?_
  refine lv_if_lt (tgt := 10) hx hb dX3_house_2 (by decide) (fun c1 => ?_) (fun c1 => ?_)
  · have h := g_t c1 h
    exact J10 mce mfr mun mbe men mov msp mwb mwe mwi mac mre mkn mth p0 _ _ hP hD hS ls (lv_sub hl [0, 1] rfl) h
  · have h := g_f c1 h
    refine lv_iload_n hx hb dX3_house_5 rfl (lv_at hl 1 rfl) ?_
    refine lv_iconst (v := 2) hx hb dX3_house_6 (by decide) ?_
    refine lv_icmp_le (tgt := 14) hx hb dX3_house_7 (by decide) (fun c2 => ?_) (fun c2 => ?_)
    · have h := g_t c2 h
      refine lv_iconst (v := 0) hx hb dX3_house_14 (by decide) ?_
      exact J15 mce mfr mun mbe men mov msp mwb mwe mwi mac mre mkn mth p0 0 _ _ hP hD hS ls (lv_sub hl [0, 1] rfl) h
    · have h := g_f c2 h
      exact J10 mce mfr mun mbe men mov msp mwb mwe mwi mac mre mkn mth p0 _ _ hP hD hS ls (lv_sub hl [0, 1] rfl) h
abbrev wsX3_knock : List Cond := kWs yX3_knock cX3_knock 1 (some .int)
def f_X3_knock (mkn : Int32) : Option ((Int32) × (Int32) × (Int32)) :=
  some (mkn + 1, mkn + 1, 0)
theorem f_X3_knock_e {mkn : Int32} : f_X3_knock mkn = 
  some (mkn + 1, mkn + 1, 0) := rfl
set_option maxHeartbeats 4000000 in
set_option maxRecDepth 100000 in
theorem c_X3_knock (l : Launch) (dC : Nat → ClassId) (dI : Nat → Nat → Nat) (cB cI cJ cZ : ClassId) (b : Nat → Nat) (sz : Nat) (mce : Nat → Int64) (mfr : Int64) (mun : Int64) (mbe : Nat → Int64) (men : Nat → Int64) (mov : Nat → Int32) (msp : Int32) (mwb : Nat → Int64) (mwe : Nat → Int64) (mwi : Int32) (mac : Int32) (mre : Int32) (mkn : Int32) (mth : Int32) (res : (Int32) × (Int32) × (Int32)) (hf : f_X3_knock mkn = some res) : Met l yX3_knock wsX3_knock ({ frames := 0, cells := 0, slots := 0, locals := 0 } : Room) (kPre (dC, dI) (kTy cB cI cJ cZ) [.ref (b 0)] sz (wMo cJ cZ b mce mfr mun mbe men mov msp mwb mwe mwi mac mre mkn mth)) (kI (dC, dI) .int (res.1) (wMo cJ cZ b mce mfr mun mbe men mov msp mwb mwe mwi mac mre (res.2.1) (res.2.2)) (va_A (wMo cJ cZ b mce mfr mun mbe men mov msp mwb mwe mwi mac mre mkn mth) sz)) 0 0 (va_A (wMo cJ cZ b mce mfr mun mbe men mov msp mwb mwe mwi mac mre mkn mth) sz) := by
  refine Met.ofW (cc := cX3_knock) (maxL := 1) (ret := (some .int)) (by decide) rfl ?_
  intro p e s m args below meth c s₁ B hml hv
  obtain ⟨rfl, hsz, hP, hK, hD0, hG⟩ := hv
  have hx := B.exec
  have hb := B.bytes
  have hr := B.returns
  have hts := atoms_spec (ws := wsX3_knock) B.pre
  have hown : s.vm.findClass RX3 = some m.cls := findClass_of_methodNamed B.named
  have hlocks := B.notSynchronized
  subst hsz
  have hD := hD0.self (sz := s.heap.size)
  generalize hAe : va_A (wMo cJ cZ b mce mfr mun mbe men mov msp mwb mwe mwi mac mre mkn mth) s.heap.size = A at hD ⊢
  have hA : ∀ q : Nat, s.heap.size ≤ q → A q := fun q h => by rw [← hAe]; exact Or.inr h
  have hS : va_S A s.heap s.heap [] := va_S.rf
  clear hAe
  have hw0 := hts (.fieldLink RX3 35 "SpanbookerModel" "thrown" "I") (List.mem_cons_of_mem _ kw_1085)
  have hw1 := hts (.fieldLink RX3 236 "SpanbookerModel" "knocks" "I") (List.mem_cons_of_mem _ kw_1084)
  have hiX3 : ∀ w ∈ u_ws RX3 TX3 14, w ∈ wsX3_knock := fun w h => List.mem_cons_of_mem _ (ku_X3 w h)
  have hl := lv_entry ([.ref (b 0)]) (n := 1) (Nat.le_of_ble_eq_true rfl)
  rw [lg_entry_eq]
  generalize (lg_sl ([.ref (b 0)]) ++ List.replicate (1 - (lg_sl ([.ref (b 0)])).length) Slot.unset).toArray = ls at hl ⊢
  have hl : lv_has ls 1 [(0, .ref (b 0))] := hl
  have h := f_X3_knock_e.symm.trans hf
  refine lv_aload_n hx hb dX3_knock_0 rfl (lv_at hl 0 rfl) ?_
  refine lv_iconst (v := 0) hx hb dX3_knock_1 (by decide) ?_
  refine va_put (D := (dC, dI)) (ci := 5) (v := .int 0) (ty := .int) (C := RX3) (T := TX3) (N := 14) hx hb hts hiX3 tyX3 tyX3_ok nmX3 hown hK hP hD hS 0 rfl rfl 13 (by decide) hw0 (fun _ h9 => h9) rfl (by decide +kernel) rfl rfl (Nat.le_of_ble_eq_true rfl) dX3_knock_2 (fun H locs hP hD hS => ?_)
  have hP : va_P (dC, dI) vwCl (wMo cJ cZ b mce mfr mun mbe men mov msp mwb mwe mwi mac mre mkn 0) H := hP
  have hD : va_D A (wMo cJ cZ b mce mfr mun mbe men mov msp mwb mwe mwi mac mre mkn 0) := hD
  refine lv_aload_n hx hb dX3_knock_5 rfl (lv_at hl 0 rfl) ?_
  refine lv_dup hx hb dX3_knock_6 rfl ?_
  refine va_get (D := (dC, dI)) (ci := 5) (v := .int mkn) (C := RX3) (T := TX3) (N := 14) hx hb hts hiX3 hown hK hP 0 rfl rfl 12 (by decide) hw1 (fun _ h9 => h9) rfl dX3_knock_7 ?_
  refine lv_iconst (v := 1) hx hb dX3_knock_10 (by decide) ?_
  refine lv_iadd hx hb dX3_knock_11 ?_
  refine va_put (D := (dC, dI)) (ci := 5) (v := .int (mkn + 1)) (ty := .int) (C := RX3) (T := TX3) (N := 14) hx hb hts hiX3 tyX3 tyX3_ok nmX3 hown hK hP hD hS 0 rfl rfl 12 (by decide) hw1 (fun _ h9 => h9) rfl (by decide +kernel) rfl rfl (Nat.le_of_ble_eq_true rfl) dX3_knock_12 (fun H locs hP hD hS => ?_)
  have hP : va_P (dC, dI) vwCl (wMo cJ cZ b mce mfr mun mbe men mov msp mwb mwe mwi mac mre (mkn + 1) 0) H := hP
  have hD : va_D A (wMo cJ cZ b mce mfr mun mbe men mov msp mwb mwe mwi mac mre (mkn + 1) 0) := hD
  refine lv_aload_n hx hb dX3_knock_15 rfl (lv_at hl 0 rfl) ?_
  refine va_get (D := (dC, dI)) (ci := 5) (v := .int (mkn + 1)) (C := RX3) (T := TX3) (N := 14) hx hb hts hiX3 hown hK hP 0 rfl rfl 12 (by decide) hw1 (fun _ h9 => h9) rfl dX3_knock_16 ?_
  have h := Option.some.inj h
  subst h
  exact kret_i (v := mkn + 1) hx hb hr rfl hlocks hS hP dX3_knock_19
abbrev wsX3_areSpans : List Cond := kWs yX3_areSpans cX3_areSpans 3 (some .boolean)
def f_X3_areSpans_107 : Nat → (Nat → Int64) → (Nat → Int64) → (Int32) → (Nat → Int64) → (Int32) → Option (Int32)
  | 0, _, _, _, _, _ => none
  | n + 1, mbe, men, msp, ext0, x2 =>
    (f_X3_freesOf 22 ext0).bind fun r1 =>
    if r1 ≤ x2 then
      some 1
    else
      if ix (2 * x2) 22 then
        if ix ((2 * x2) + 1) 22 then
          (f_X3_meetsSome mbe men msp (ext0 (2 * x2).toNatClampNeg) (ext0 ((2 * x2) + 1).toNatClampNeg) (-1)).bind fun r5 =>
          if r5 = 0 then
            f_X3_areSpans_107 n mbe men msp ext0 (x2 + 1)
          else
            some 0
        else none
      else none
theorem f_X3_areSpans_107_0 {mbe : Nat → Int64} {men : Nat → Int64} {msp : Int32} {ext0 : Nat → Int64} {x2 : Int32} : f_X3_areSpans_107 0 mbe men msp ext0 x2 = none := rfl
theorem f_X3_areSpans_107_s {n : Nat} {mbe : Nat → Int64} {men : Nat → Int64} {msp : Int32} {ext0 : Nat → Int64} {x2 : Int32} : f_X3_areSpans_107 (n + 1) mbe men msp ext0 x2 =
  (f_X3_freesOf 22 ext0).bind fun r1 =>
  if r1 ≤ x2 then
    some 1
  else
    if ix (2 * x2) 22 then
      if ix ((2 * x2) + 1) 22 then
        (f_X3_meetsSome mbe men msp (ext0 (2 * x2).toNatClampNeg) (ext0 ((2 * x2) + 1).toNatClampNeg) (-1)).bind fun r5 =>
        if r5 = 0 then
          f_X3_areSpans_107 n mbe men msp ext0 (x2 + 1)
        else
          some 0
      else none
    else none := rfl
def f_X3_areSpans_33 (K2 : (Int64) → (Int64) → (Nat → Int64) → (Nat → Int64) → (Nat → Int32) → (Int32) → (Int32) → Option (Int32)) : Nat → (Int64) → (Int64) → (Nat → Int64) → (Nat → Int64) → (Nat → Int32) → (Int32) → (Int32) → (Int32) → Option (Int32)
  | 0, _, _, _, _, _, _, _, _ => none
  | n + 1, mfr, mun, mbe, men, mov, msp, x1, x2 =>
    if x1 ≤ x2 then
      K2 mfr mun mbe men mov msp (x1 + 1)
    else
      if ix x1 10 then
        if ix x2 10 then
          (f_X3_meet (mbe x1.toNatClampNeg) (men x1.toNatClampNeg) (mbe x2.toNatClampNeg) (men x2.toNatClampNeg)).bind fun r4 =>
          if r4 = 0 then
            f_X3_areSpans_33 K2 n mfr mun mbe men mov msp x1 (x2 + 1)
          else
            if (mov x1.toNatClampNeg) = 0 then
              if (mov x2.toNatClampNeg) = 0 then
                some 0
              else
                f_X3_areSpans_33 K2 n mfr mun mbe men mov msp x1 (x2 + 1)
            else
              f_X3_areSpans_33 K2 n mfr mun mbe men mov msp x1 (x2 + 1)
        else none
      else none
theorem f_X3_areSpans_33_0 {K2 : (Int64) → (Int64) → (Nat → Int64) → (Nat → Int64) → (Nat → Int32) → (Int32) → (Int32) → Option (Int32)} {mfr : Int64} {mun : Int64} {mbe : Nat → Int64} {men : Nat → Int64} {mov : Nat → Int32} {msp : Int32} {x1 : Int32} {x2 : Int32} : f_X3_areSpans_33 K2 0 mfr mun mbe men mov msp x1 x2 = none := rfl
theorem f_X3_areSpans_33_s {K2 : (Int64) → (Int64) → (Nat → Int64) → (Nat → Int64) → (Nat → Int32) → (Int32) → (Int32) → Option (Int32)} {n : Nat} {mfr : Int64} {mun : Int64} {mbe : Nat → Int64} {men : Nat → Int64} {mov : Nat → Int32} {msp : Int32} {x1 : Int32} {x2 : Int32} : f_X3_areSpans_33 K2 (n + 1) mfr mun mbe men mov msp x1 x2 =
  if x1 ≤ x2 then
    K2 mfr mun mbe men mov msp (x1 + 1)
  else
    if ix x1 10 then
      if ix x2 10 then
        (f_X3_meet (mbe x1.toNatClampNeg) (men x1.toNatClampNeg) (mbe x2.toNatClampNeg) (men x2.toNatClampNeg)).bind fun r4 =>
        if r4 = 0 then
          f_X3_areSpans_33 K2 n mfr mun mbe men mov msp x1 (x2 + 1)
        else
          if (mov x1.toNatClampNeg) = 0 then
            if (mov x2.toNatClampNeg) = 0 then
              some 0
            else
              f_X3_areSpans_33 K2 n mfr mun mbe men mov msp x1 (x2 + 1)
          else
            f_X3_areSpans_33 K2 n mfr mun mbe men mov msp x1 (x2 + 1)
      else none
    else none := rfl
def f_X3_areSpans_2 : Nat → (Int64) → (Int64) → (Nat → Int64) → (Nat → Int64) → (Nat → Int32) → (Int32) → (Int32) → Option (Int32)
  | 0, _, _, _, _, _, _, _ => none
  | n + 1, mfr, mun, mbe, men, mov, msp, x1 =>
    if msp ≤ x1 then
      (f_X3_free mfr mun mbe men msp).bind fun r2 =>
      f_X3_areSpans_107 24 mbe men msp r2 0
    else
      if ix x1 10 then
        (f_X3_isIn mfr mun (mbe x1.toNatClampNeg) (men x1.toNatClampNeg)).bind fun r3 =>
        if r3 = 0 then
          some 0
        else
          f_X3_areSpans_33 (f_X3_areSpans_2 n) 24 mfr mun mbe men mov msp x1 0
      else none
theorem f_X3_areSpans_2_0 {mfr : Int64} {mun : Int64} {mbe : Nat → Int64} {men : Nat → Int64} {mov : Nat → Int32} {msp : Int32} {x1 : Int32} : f_X3_areSpans_2 0 mfr mun mbe men mov msp x1 = none := rfl
theorem f_X3_areSpans_2_s {n : Nat} {mfr : Int64} {mun : Int64} {mbe : Nat → Int64} {men : Nat → Int64} {mov : Nat → Int32} {msp : Int32} {x1 : Int32} : f_X3_areSpans_2 (n + 1) mfr mun mbe men mov msp x1 =
  if msp ≤ x1 then
    (f_X3_free mfr mun mbe men msp).bind fun r2 =>
    f_X3_areSpans_107 24 mbe men msp r2 0
  else
    if ix x1 10 then
      (f_X3_isIn mfr mun (mbe x1.toNatClampNeg) (men x1.toNatClampNeg)).bind fun r3 =>
      if r3 = 0 then
        some 0
      else
        f_X3_areSpans_33 (f_X3_areSpans_2 n) 24 mfr mun mbe men mov msp x1 0
    else none := rfl
def f_X3_areSpans (mfr : Int64) (mun : Int64) (mbe : Nat → Int64) (men : Nat → Int64) (mov : Nat → Int32) (msp : Int32) : Option (Int32) :=
  f_X3_areSpans_2 24 mfr mun mbe men mov msp 0
theorem f_X3_areSpans_e {mfr : Int64} {mun : Int64} {mbe : Nat → Int64} {men : Nat → Int64} {mov : Nat → Int32} {msp : Int32} : f_X3_areSpans mfr mun mbe men mov msp = 
  f_X3_areSpans_2 24 mfr mun mbe men mov msp 0 := rfl
set_option maxHeartbeats 4000000 in
set_option maxRecDepth 100000 in
theorem c_X3_areSpans (l : Launch) (dC : Nat → ClassId) (dI : Nat → Nat → Nat) (cB cI cJ cZ : ClassId) (b : Nat → Nat) (sz : Nat) (mce : Nat → Int64) (mfr : Int64) (mun : Int64) (mbe : Nat → Int64) (men : Nat → Int64) (mov : Nat → Int32) (msp : Int32) (mwb : Nat → Int64) (mwe : Nat → Int64) (mwi : Int32) (mac : Int32) (mre : Int32) (mkn : Int32) (mth : Int32) (res : Int32) (hf : f_X3_areSpans mfr mun mbe men mov msp = some res) : Met l yX3_areSpans wsX3_areSpans ({ frames := 2, cells := 1, slots := 22, locals := 53 } : Room) (kPre (dC, dI) (kTy cB cI cJ cZ) [.ref (b 0)] sz (wMo cJ cZ b mce mfr mun mbe men mov msp mwb mwe mwi mac mre mkn mth)) (kI (dC, dI) .boolean (res) (wMo cJ cZ b mce mfr mun mbe men mov msp mwb mwe mwi mac mre mkn mth) (va_A (wMo cJ cZ b mce mfr mun mbe men mov msp mwb mwe mwi mac mre mkn mth) sz)) 1 22 (va_A (wMo cJ cZ b mce mfr mun mbe men mov msp mwb mwe mwi mac mre mkn mth) sz) := by
  refine Met.ofW (cc := cX3_areSpans) (maxL := 3) (ret := (some .boolean)) (by decide) rfl ?_
  intro p e s m args below meth c s₁ B hml hv
  obtain ⟨rfl, hsz, hP, hK, hD0, hG⟩ := hv
  have hx := B.exec
  have hb := B.bytes
  have hr := B.returns
  have hts := atoms_spec (ws := wsX3_areSpans) B.pre
  have hown : s.vm.findClass RX3 = some m.cls := findClass_of_methodNamed B.named
  have hlocks := B.notSynchronized
  subst hsz
  have hD := hD0.self (sz := s.heap.size)
  generalize hAe : va_A (wMo cJ cZ b mce mfr mun mbe men mov msp mwb mwe mwi mac mre mkn mth) s.heap.size = A at hD ⊢
  have hA : ∀ q : Nat, s.heap.size ≤ q → A q := fun q h => by rw [← hAe]; exact Or.inr h
  have hS : va_S A s.heap s.heap [] := va_S.rf
  clear hAe
  have hw0 := hts (.fieldLink RX3 56 "SpanbookerModel" "spans" "I") (List.mem_cons_of_mem _ kw_1078)
  have hw1 := hts (.fieldLink RX3 19 "SpanbookerModel" "begins" "[J") (List.mem_cons_of_mem _ kw_1075)
  have hw2 := hts (.fieldLink RX3 22 "SpanbookerModel" "ends" "[J") (List.mem_cons_of_mem _ kw_1076)
  have hw3 := hts (.fieldLink RX3 25 "SpanbookerModel" "over" "[Z") (List.mem_cons_of_mem _ kw_1077)
  have hiX3 : ∀ w ∈ u_ws RX3 TX3 14, w ∈ wsX3_areSpans := fun w h => List.mem_cons_of_mem _ (ku_X3 w h)
  have J107 : ∀ (n : Nat), ∀ (mce : Nat → Int64) (mfr : Int64) (mun : Int64) (mbe : Nat → Int64) (men : Nat → Int64) (mov : Nat → Int32) (msp : Int32) (mwb : Nat → Int64) (mwe : Nat → Int64) (mwi : Int32) (mac : Int32) (mre : Int32) (mkn : Int32) (mth : Int32) (ext0 : Nat → Int64) (x2 : Int32) (qn0 : Nat) (H : Heap) (locs : List Loc), va_P (dC, dI) vwCl ((wMo cJ cZ b mce mfr mun mbe men mov msp mwb mwe mwi mac mre mkn mth) ++ [(qn0, .inl (cJ, 22, .inr (.inl ext0)))]) H → va_D A ((wMo cJ cZ b mce mfr mun mbe men mov msp mwb mwe mwi mac mre mkn mth) ++ [(qn0, .inl (cJ, 22, .inr (.inl ext0)))]) → va_S A s.heap H locs → ∀ (ls : Array Slot), lv_has ls 3 [(0, .ref (b 0)), (1, .ref qn0), (2, .int x2)] → f_X3_areSpans_107 n mbe men msp ext0 x2 = some res → W p l e (headSpec wsX3_areSpans ({ frames := 2, cells := 1, slots := 22, locals := 53 } : Room)).room s m ([.ref (b 0)] : List Value).toArray below meth c H locs 1 22 (MQ below (kI (dC, dI) .boolean (res) (wMo cJ cZ b mce mfr mun mbe men mov msp mwb mwe mwi mac mre mkn mth) A) ([.ref (b 0)] : List Value).toArray s 1 22 A) (F0 m 107 ls []) := by
    intro n
    induction n with
    | zero =>
      intro mce mfr mun mbe men mov msp mwb mwe mwi mac mre mkn mth ext0 x2 qn0 H locs hP hD hS ls hl h
      have h := f_X3_areSpans_107_0.symm.trans h
      cases h
    | succ n ih =>
      intro mce mfr mun mbe men mov msp mwb mwe mwi mac mre mkn mth ext0 x2 qn0 H locs hP hD hS ls hl h
      have h := f_X3_areSpans_107_s.symm.trans h
      refine lv_iload_n hx hb dX3_areSpans_107 rfl (lv_at hl 2 rfl) ?_
      refine lv_aload_n hx hb dX3_areSpans_108 rfl (lv_at hl 1 rfl) ?_
      obtain ⟨r1, g1, h⟩ := g_b h
      refine kcall_i ((wMo cJ cZ b mce mfr mun mbe men mov msp mwb mwe mwi mac mre mkn mth) ++ [(qn0, .inl (cJ, 22, .inr (.inl ext0)))]) (va_runS (As := [.ref qn0]) (rest := [.int x2]) ⟨hx, hb, hml, hown, hts⟩ (c_X3_freesOf l dC dI cB cI cJ cZ qn0 22 _ ext0  r1 g1) (kcwS hts kw_1368 kv_X3_freesOf rfl rfl ⟨(Nat.le_of_ble_eq_true rfl), (Nat.le_of_ble_eq_true rfl)⟩) (kpS (A := A) (hP.sub (kIT mk_28 0) (km_f (m := mk_28) rfl rfl)) hK (hD.sub (kIT mk_28 0) (km_nd mk_28) (km_T (m := mk_28) rfl rfl)) hG) rfl rfl hl.1 rfl (lv_room (Nat.le_of_ble_eq_true rfl)) dX3_areSpans_109 ⟨(Nat.le_of_ble_eq_true rfl), (Nat.le_of_ble_eq_true rfl)⟩) hP hD hS hA (kIT mk_28 0) (kIT mk_27 0) (km_T (m := mk_28) rfl rfl) (km_T (m := mk_28) rfl rfl) [((b 0), .inr (5, [.ref (b 1), .long mfr, .long mun, .ref (b 2), .ref (b 3), .ref (b 4), .int msp, .ref (b 5), .ref (b 6), .int mwi, .int mac, .int mre, .int mkn, .int mth])), ((b 1), .inl (cJ, 4, .inr (.inl mce))), ((b 2), .inl (cJ, 10, .inr (.inl mbe))), ((b 3), .inl (cJ, 10, .inr (.inl men))), ((b 4), .inl (cZ, 10, .inl mov)), ((b 5), .inl (cJ, 8, .inr (.inl mwb))), ((b 6), .inl (cJ, 8, .inr (.inl mwe)))] (km_T (m := mk_27) rfl rfl) (km_T (m := mk_27) rfl rfl) (km_cov (m := mk_28) (n := mk_27) rfl rfl) (km_dis (m := mk_28) (n := mk_27) rfl) rfl (fun H locs hP hD hS br1 => ?_)
      refine lv_icmp_ge (tgt := 143) hx hb dX3_areSpans_112 (by decide) (fun c2 => ?_) (fun c2 => ?_)
      · have h := g_t c2 h
        refine lv_iconst (v := 1) hx hb dX3_areSpans_143 (by decide) ?_
        have hP := hP.sub (ws' := (wMo cJ cZ b mce mfr mun mbe men mov msp mwb mwe mwi mac mre mkn mth)) [0, 1, 2, 3, 4, 5, 6] rfl
        have h := Option.some.inj h
        subst h
        refine W.widen (k := 1) (n := 22) (Nat.le_of_ble_eq_true rfl) (Nat.le_of_ble_eq_true rfl) ?_
        exact kret_i (v := 1) hx hb hr rfl hlocks hS hP dX3_areSpans_144
      · have h := g_f c2 h
        refine lv_aload_n hx hb dX3_areSpans_115 rfl (lv_at hl 0 rfl) ?_
        refine lv_aload_n hx hb dX3_areSpans_116 rfl (lv_at hl 1 rfl) ?_
        refine lv_iconst (v := 2) hx hb dX3_areSpans_117 (by decide) ?_
        refine lv_iload_n hx hb dX3_areSpans_118 rfl (lv_at hl 2 rfl) ?_
        refine lv_imul hx hb dX3_areSpans_119 ?_
        obtain ⟨z2, h⟩ := g_if h
        refine va_lald hx hb hK hP 7 2 rfl rfl (ix_in z2) dX3_areSpans_120 ?_
        refine lv_aload_n hx hb dX3_areSpans_121 rfl (lv_at hl 1 rfl) ?_
        refine lv_iconst (v := 2) hx hb dX3_areSpans_122 (by decide) ?_
        refine lv_iload_n hx hb dX3_areSpans_123 rfl (lv_at hl 2 rfl) ?_
        refine lv_imul hx hb dX3_areSpans_124 ?_
        refine lv_iconst (v := 1) hx hb dX3_areSpans_125 (by decide) ?_
        refine lv_iadd hx hb dX3_areSpans_126 ?_
        obtain ⟨z3, h⟩ := g_if h
        refine va_lald hx hb hK hP 7 2 rfl rfl (ix_in z3) dX3_areSpans_127 ?_
        refine lv_iconst (v := (-1)) hx hb dX3_areSpans_128 (by decide) ?_
        obtain ⟨r5, g5, h⟩ := g_b h
        refine kcall_i ((wMo cJ cZ b mce mfr mun mbe men mov msp mwb mwe mwi mac mre mkn mth) ++ [(qn0, .inl (cJ, 22, .inr (.inl ext0)))]) (va_runV (As := [.long (ext0 (2 * x2).toNatClampNeg), .long (ext0 ((2 * x2) + 1).toNatClampNeg), .int (-1)]) (rest := []) ⟨hx, hb, hml, hown, hts⟩ (c_X3_meetsSome l dC dI cB cI cJ cZ b _ mce mfr mun mbe men mov msp mwb mwe mwi mac mre mkn mth (ext0 (2 * x2).toNatClampNeg) (ext0 ((2 * x2) + 1).toNatClampNeg) (-1) r5 g5) (kcwV hts kw_1208 kv_X3_meetsSome rfl rfl ⟨(Nat.le_of_ble_eq_true rfl), (Nat.le_of_ble_eq_true rfl)⟩) (kpV (A := A) (hP.sub (kIT mk_27 0) (km_f (m := mk_27) rfl rfl)) hK (hD.sub (kIT mk_27 0) (km_nd mk_27) (km_T (m := mk_27) rfl rfl)) hG (va_recv hK hP (ci := 5) (q0 := 0) rfl rfl)) rfl rfl hl.1 rfl (lv_room (Nat.le_of_ble_eq_true rfl)) dX3_areSpans_129 ⟨(Nat.le_of_ble_eq_true rfl), (Nat.le_of_ble_eq_true rfl)⟩) hP hD hS hA (kIT mk_27 0) (kIT mk_28 0) (km_T (m := mk_27) rfl rfl) (km_T (m := mk_27) rfl rfl) [(qn0, .inl (cJ, 22, .inr (.inl ext0)))] (km_T (m := mk_28) rfl rfl) (km_T (m := mk_28) rfl rfl) (km_cov (m := mk_27) (n := mk_28) rfl rfl) (km_dis (m := mk_27) (n := mk_28) rfl) rfl (fun H locs hP hD hS br5 => ?_)
        refine lv_if_eq (tgt := 137) hx hb dX3_areSpans_132 (by decide) (fun c6 => ?_) (fun c6 => ?_)
        · have h := g_t c6 h
          refine lv_iinc (v := x2 + 1) (lv' := [(2, .int (x2 + 1)), (0, .ref (b 0)), (1, .ref qn0)]) hx hb dX3_areSpans_137 hl (k := 2) rfl rfl (by decide) rfl (fun ls hl => ?_)
          refine lv_goto (tgt := 107) hx hb dX3_areSpans_140 (by decide) ?_
          exact ih mce mfr mun mbe men mov msp mwb mwe mwi mac mre mkn mth ext0 (x2 + 1) qn0 _ _ hP hD hS ls (lv_sub hl [1, 2, 0] rfl) h
        · have h := g_f c6 h
          refine lv_iconst (v := 0) hx hb dX3_areSpans_135 (by decide) ?_
          have hP := hP.sub (ws' := (wMo cJ cZ b mce mfr mun mbe men mov msp mwb mwe mwi mac mre mkn mth)) [0, 1, 2, 3, 4, 5, 6] rfl
          have h := Option.some.inj h
          subst h
          refine W.widen (k := 1) (n := 22) (Nat.le_of_ble_eq_true rfl) (Nat.le_of_ble_eq_true rfl) ?_
          exact kret_i (v := 0) hx hb hr rfl hlocks hS hP dX3_areSpans_136
  have J33 : ∀ (K2 : (Int64) → (Int64) → (Nat → Int64) → (Nat → Int64) → (Nat → Int32) → (Int32) → (Int32) → Option (Int32)), (∀ (mce : Nat → Int64) (mfr : Int64) (mun : Int64) (mbe : Nat → Int64) (men : Nat → Int64) (mov : Nat → Int32) (msp : Int32) (mwb : Nat → Int64) (mwe : Nat → Int64) (mwi : Int32) (mac : Int32) (mre : Int32) (mkn : Int32) (mth : Int32) (x1 : Int32) (H : Heap) (locs : List Loc), va_P (dC, dI) vwCl (wMo cJ cZ b mce mfr mun mbe men mov msp mwb mwe mwi mac mre mkn mth) H → va_D A (wMo cJ cZ b mce mfr mun mbe men mov msp mwb mwe mwi mac mre mkn mth) → va_S A s.heap H locs → ∀ (ls : Array Slot), lv_has ls 3 [(0, .ref (b 0)), (1, .int x1)] → K2 mfr mun mbe men mov msp x1 = some res → W p l e (headSpec wsX3_areSpans ({ frames := 2, cells := 1, slots := 22, locals := 53 } : Room)).room s m ([.ref (b 0)] : List Value).toArray below meth c H locs 0 0 (MQ below (kI (dC, dI) .boolean (res) (wMo cJ cZ b mce mfr mun mbe men mov msp mwb mwe mwi mac mre mkn mth) A) ([.ref (b 0)] : List Value).toArray s 1 22 A) (F0 m 2 ls [])) → ∀ (n : Nat), ∀ (mce : Nat → Int64) (mfr : Int64) (mun : Int64) (mbe : Nat → Int64) (men : Nat → Int64) (mov : Nat → Int32) (msp : Int32) (mwb : Nat → Int64) (mwe : Nat → Int64) (mwi : Int32) (mac : Int32) (mre : Int32) (mkn : Int32) (mth : Int32) (x1 : Int32) (x2 : Int32) (H : Heap) (locs : List Loc), va_P (dC, dI) vwCl (wMo cJ cZ b mce mfr mun mbe men mov msp mwb mwe mwi mac mre mkn mth) H → va_D A (wMo cJ cZ b mce mfr mun mbe men mov msp mwb mwe mwi mac mre mkn mth) → va_S A s.heap H locs → ∀ (ls : Array Slot), lv_has ls 3 [(0, .ref (b 0)), (1, .int x1), (2, .int x2)] → f_X3_areSpans_33 K2 n mfr mun mbe men mov msp x1 x2 = some res → W p l e (headSpec wsX3_areSpans ({ frames := 2, cells := 1, slots := 22, locals := 53 } : Room)).room s m ([.ref (b 0)] : List Value).toArray below meth c H locs 0 0 (MQ below (kI (dC, dI) .boolean (res) (wMo cJ cZ b mce mfr mun mbe men mov msp mwb mwe mwi mac mre mkn mth) A) ([.ref (b 0)] : List Value).toArray s 1 22 A) (F0 m 33 ls []) := by
    intro K2 hK2 n
    induction n with
    | zero =>
      intro mce mfr mun mbe men mov msp mwb mwe mwi mac mre mkn mth x1 x2 H locs hP hD hS ls hl h
      have h := f_X3_areSpans_33_0.symm.trans h
      cases h
    | succ n ih =>
      intro mce mfr mun mbe men mov msp mwb mwe mwi mac mre mkn mth x1 x2 H locs hP hD hS ls hl h
      have h := f_X3_areSpans_33_s.symm.trans h
      refine lv_iload_n hx hb dX3_areSpans_33 rfl (lv_at hl 2 rfl) ?_
      refine lv_iload_n hx hb dX3_areSpans_34 rfl (lv_at hl 1 rfl) ?_
      refine lv_icmp_ge (tgt := 94) hx hb dX3_areSpans_35 (by decide) (fun c1 => ?_) (fun c1 => ?_)
      · have h := g_t c1 h
        refine lv_iinc (v := x1 + 1) (lv' := [(1, .int (x1 + 1)), (0, .ref (b 0)), (2, .int x2)]) hx hb dX3_areSpans_94 hl (k := 1) rfl rfl (by decide) rfl (fun ls hl => ?_)
        refine lv_goto (tgt := 2) hx hb dX3_areSpans_97 (by decide) ?_
        exact hK2 mce mfr mun mbe men mov msp mwb mwe mwi mac mre mkn mth (x1 + 1) _ _ hP hD hS ls (lv_sub hl [1, 0] rfl) h
      · have h := g_f c1 h
        refine lv_aload_n hx hb dX3_areSpans_38 rfl (lv_at hl 0 rfl) ?_
        refine va_get (D := (dC, dI)) (ci := 5) (v := .ref (b 2)) (C := RX3) (T := TX3) (N := 14) hx hb hts hiX3 hown hK hP 0 rfl rfl 3 (by decide) hw1 (fun _ h9 => h9) rfl dX3_areSpans_39 ?_
        refine lv_iload_n hx hb dX3_areSpans_42 rfl (lv_at hl 1 rfl) ?_
        obtain ⟨z1, h⟩ := g_if h
        refine va_lald hx hb hK hP 2 2 rfl rfl (ix_in z1) dX3_areSpans_43 ?_
        refine lv_aload_n hx hb dX3_areSpans_44 rfl (lv_at hl 0 rfl) ?_
        refine va_get (D := (dC, dI)) (ci := 5) (v := .ref (b 3)) (C := RX3) (T := TX3) (N := 14) hx hb hts hiX3 hown hK hP 0 rfl rfl 4 (by decide) hw2 (fun _ h9 => h9) rfl dX3_areSpans_45 ?_
        refine lv_iload_n hx hb dX3_areSpans_48 rfl (lv_at hl 1 rfl) ?_
        refine va_lald hx hb hK hP 3 2 rfl rfl (ix_in z1) dX3_areSpans_49 ?_
        refine lv_aload_n hx hb dX3_areSpans_50 rfl (lv_at hl 0 rfl) ?_
        refine va_get (D := (dC, dI)) (ci := 5) (v := .ref (b 2)) (C := RX3) (T := TX3) (N := 14) hx hb hts hiX3 hown hK hP 0 rfl rfl 3 (by decide) hw1 (fun _ h9 => h9) rfl dX3_areSpans_51 ?_
        refine lv_iload_n hx hb dX3_areSpans_54 rfl (lv_at hl 2 rfl) ?_
        obtain ⟨z2, h⟩ := g_if h
        refine va_lald hx hb hK hP 2 2 rfl rfl (ix_in z2) dX3_areSpans_55 ?_
        refine lv_aload_n hx hb dX3_areSpans_56 rfl (lv_at hl 0 rfl) ?_
        refine va_get (D := (dC, dI)) (ci := 5) (v := .ref (b 3)) (C := RX3) (T := TX3) (N := 14) hx hb hts hiX3 hown hK hP 0 rfl rfl 4 (by decide) hw2 (fun _ h9 => h9) rfl dX3_areSpans_57 ?_
        refine lv_iload_n hx hb dX3_areSpans_60 rfl (lv_at hl 2 rfl) ?_
        refine va_lald hx hb hK hP 3 2 rfl rfl (ix_in z2) dX3_areSpans_61 ?_
        obtain ⟨r4, g4, h⟩ := g_b h
        refine kcall_i (wMo cJ cZ b mce mfr mun mbe men mov msp mwb mwe mwi mac mre mkn mth) (va_runS (As := [.long (mbe x1.toNatClampNeg), .long (men x1.toNatClampNeg), .long (mbe x2.toNatClampNeg), .long (men x2.toNatClampNeg)]) (rest := []) ⟨hx, hb, hml, hown, hts⟩ (c_X3_meet l dC dI cB cI cJ cZ  _  (mbe x1.toNatClampNeg) (men x1.toNatClampNeg) (mbe x2.toNatClampNeg) (men x2.toNatClampNeg) r4 g4) (kcwS hts kw_1212 kv_X3_meet rfl rfl ⟨(Nat.le_of_ble_eq_true rfl), (Nat.le_of_ble_eq_true rfl)⟩) (kpS (A := A) (kPnil) hK ((kDnil (A := A))) hG) rfl rfl hl.1 rfl (lv_room (Nat.le_of_ble_eq_true rfl)) dX3_areSpans_62 ⟨(Nat.le_of_ble_eq_true rfl), (Nat.le_of_ble_eq_true rfl)⟩) hP hD hS hA (kIT mk_25 0) (kIT mk_26 0) (km_T (m := mk_25) rfl rfl) (km_T (m := mk_25) rfl rfl) [((b 0), .inr (5, [.ref (b 1), .long mfr, .long mun, .ref (b 2), .ref (b 3), .ref (b 4), .int msp, .ref (b 5), .ref (b 6), .int mwi, .int mac, .int mre, .int mkn, .int mth])), ((b 1), .inl (cJ, 4, .inr (.inl mce))), ((b 2), .inl (cJ, 10, .inr (.inl mbe))), ((b 3), .inl (cJ, 10, .inr (.inl men))), ((b 4), .inl (cZ, 10, .inl mov)), ((b 5), .inl (cJ, 8, .inr (.inl mwb))), ((b 6), .inl (cJ, 8, .inr (.inl mwe)))] (km_T (m := mk_26) rfl rfl) (km_T (m := mk_26) rfl rfl) (km_cov (m := mk_25) (n := mk_26) rfl rfl) (km_dis (m := mk_25) (n := mk_26) rfl) rfl (fun H locs hP hD hS br4 => ?_)
        refine lv_if_eq (tgt := 88) hx hb dX3_areSpans_65 (by decide) (fun c5 => ?_) (fun c5 => ?_)
        · have h := g_t c5 h
          refine lv_iinc (v := x2 + 1) (lv' := [(2, .int (x2 + 1)), (0, .ref (b 0)), (1, .int x1)]) hx hb dX3_areSpans_88 hl (k := 2) rfl rfl (by decide) rfl (fun ls hl => ?_)
          refine lv_goto (tgt := 33) hx hb dX3_areSpans_91 (by decide) ?_
          exact ih mce mfr mun mbe men mov msp mwb mwe mwi mac mre mkn mth x1 (x2 + 1) _ _ hP hD hS ls (lv_sub hl [1, 2, 0] rfl) h
        · have h := g_f c5 h
          refine lv_aload_n hx hb dX3_areSpans_68 rfl (lv_at hl 0 rfl) ?_
          refine va_get (D := (dC, dI)) (ci := 5) (v := .ref (b 4)) (C := RX3) (T := TX3) (N := 14) hx hb hts hiX3 hown hK hP 0 rfl rfl 5 (by decide) hw3 (fun _ h9 => h9) rfl dX3_areSpans_69 ?_
          refine lv_iload_n hx hb dX3_areSpans_72 rfl (lv_at hl 1 rfl) ?_
          refine va_zald hx hb hK hP 4 3 rfl rfl (ix_in z1) dX3_areSpans_73 ?_
          refine lv_if_ne (tgt := 88) hx hb dX3_areSpans_74 (by decide) (fun c6 => ?_) (fun c6 => ?_)
          · have h := g_f c6 h
            refine lv_iinc (v := x2 + 1) (lv' := [(2, .int (x2 + 1)), (0, .ref (b 0)), (1, .int x1)]) hx hb dX3_areSpans_88 hl (k := 2) rfl rfl (by decide) rfl (fun ls hl => ?_)
            refine lv_goto (tgt := 33) hx hb dX3_areSpans_91 (by decide) ?_
            exact ih mce mfr mun mbe men mov msp mwb mwe mwi mac mre mkn mth x1 (x2 + 1) _ _ hP hD hS ls (lv_sub hl [1, 2, 0] rfl) h
          · have h := g_t c6 h
            refine lv_aload_n hx hb dX3_areSpans_77 rfl (lv_at hl 0 rfl) ?_
            refine va_get (D := (dC, dI)) (ci := 5) (v := .ref (b 4)) (C := RX3) (T := TX3) (N := 14) hx hb hts hiX3 hown hK hP 0 rfl rfl 5 (by decide) hw3 (fun _ h9 => h9) rfl dX3_areSpans_78 ?_
            refine lv_iload_n hx hb dX3_areSpans_81 rfl (lv_at hl 2 rfl) ?_
            refine va_zald hx hb hK hP 4 3 rfl rfl (ix_in z2) dX3_areSpans_82 ?_
            refine lv_if_ne (tgt := 88) hx hb dX3_areSpans_83 (by decide) (fun c7 => ?_) (fun c7 => ?_)
            · have h := g_f c7 h
              refine lv_iinc (v := x2 + 1) (lv' := [(2, .int (x2 + 1)), (0, .ref (b 0)), (1, .int x1)]) hx hb dX3_areSpans_88 hl (k := 2) rfl rfl (by decide) rfl (fun ls hl => ?_)
              refine lv_goto (tgt := 33) hx hb dX3_areSpans_91 (by decide) ?_
              exact ih mce mfr mun mbe men mov msp mwb mwe mwi mac mre mkn mth x1 (x2 + 1) _ _ hP hD hS ls (lv_sub hl [1, 2, 0] rfl) h
            · have h := g_t c7 h
              refine lv_iconst (v := 0) hx hb dX3_areSpans_86 (by decide) ?_
              have h := Option.some.inj h
              subst h
              refine W.widen (k := 1) (n := 22) (Nat.le_of_ble_eq_true rfl) (Nat.le_of_ble_eq_true rfl) ?_
              exact kret_i (v := 0) hx hb hr rfl hlocks hS hP dX3_areSpans_87
  have J2 : ∀ (n : Nat), ∀ (mce : Nat → Int64) (mfr : Int64) (mun : Int64) (mbe : Nat → Int64) (men : Nat → Int64) (mov : Nat → Int32) (msp : Int32) (mwb : Nat → Int64) (mwe : Nat → Int64) (mwi : Int32) (mac : Int32) (mre : Int32) (mkn : Int32) (mth : Int32) (x1 : Int32) (H : Heap) (locs : List Loc), va_P (dC, dI) vwCl (wMo cJ cZ b mce mfr mun mbe men mov msp mwb mwe mwi mac mre mkn mth) H → va_D A (wMo cJ cZ b mce mfr mun mbe men mov msp mwb mwe mwi mac mre mkn mth) → va_S A s.heap H locs → ∀ (ls : Array Slot), lv_has ls 3 [(0, .ref (b 0)), (1, .int x1)] → f_X3_areSpans_2 n mfr mun mbe men mov msp x1 = some res → W p l e (headSpec wsX3_areSpans ({ frames := 2, cells := 1, slots := 22, locals := 53 } : Room)).room s m ([.ref (b 0)] : List Value).toArray below meth c H locs 0 0 (MQ below (kI (dC, dI) .boolean (res) (wMo cJ cZ b mce mfr mun mbe men mov msp mwb mwe mwi mac mre mkn mth) A) ([.ref (b 0)] : List Value).toArray s 1 22 A) (F0 m 2 ls []) := by
    intro n
    induction n with
    | zero =>
      intro mce mfr mun mbe men mov msp mwb mwe mwi mac mre mkn mth x1 H locs hP hD hS ls hl h
      have h := f_X3_areSpans_2_0.symm.trans h
      cases h
    | succ n ih =>
      intro mce mfr mun mbe men mov msp mwb mwe mwi mac mre mkn mth x1 H locs hP hD hS ls hl h
      have h := f_X3_areSpans_2_s.symm.trans h
      refine lv_iload_n hx hb dX3_areSpans_2 rfl (lv_at hl 1 rfl) ?_
      refine lv_aload_n hx hb dX3_areSpans_3 rfl (lv_at hl 0 rfl) ?_
      refine va_get (D := (dC, dI)) (ci := 5) (v := .int msp) (C := RX3) (T := TX3) (N := 14) hx hb hts hiX3 hown hK hP 0 rfl rfl 6 (by decide) hw0 (fun _ h9 => h9) rfl dX3_areSpans_4 ?_
      refine lv_icmp_ge (tgt := 100) hx hb dX3_areSpans_7 (by decide) (fun c1 => ?_) (fun c1 => ?_)
      · have h := g_t c1 h
        refine lv_aload_n hx hb dX3_areSpans_100 rfl (lv_at hl 0 rfl) ?_
        obtain ⟨r2, g2, h⟩ := g_b h
        refine kcall_r (wMo cJ cZ b mce mfr mun mbe men mov msp mwb mwe mwi mac mre mkn mth) (va_runV (As := []) (rest := []) ⟨hx, hb, hml, hown, hts⟩ (c_X3_free l dC dI cB cI cJ cZ b _ mce mfr mun mbe men mov msp mwb mwe mwi mac mre mkn mth  r2 g2) (kcwV hts kw_1364 kv_X3_free rfl rfl ⟨(Nat.le_of_ble_eq_true rfl), (Nat.le_of_ble_eq_true rfl)⟩) (kpV (A := A) (hP.sub [0, 1, 2, 3, 4, 5, 6] rfl) hK (hD.sub [0, 1, 2, 3, 4, 5, 6] (by decide) rfl) hG (va_recv hK hP (ci := 5) (q0 := 0) rfl rfl)) rfl rfl hl.1 rfl (lv_room (Nat.le_of_ble_eq_true rfl)) dX3_areSpans_101 ⟨(Nat.le_of_ble_eq_true rfl), (Nat.le_of_ble_eq_true rfl)⟩) hP hD hS hA [0, 1, 2, 3, 4, 5, 6] [] rfl rfl [] rfl rfl rfl (by decide) rfl rfl (fun qn0 H locs hP hD hS => ?_)
        have hP : va_P (dC, dI) vwCl ((wMo cJ cZ b mce mfr mun mbe men mov msp mwb mwe mwi mac mre mkn mth) ++ [(qn0, .inl (cJ, 22, .inr (.inl r2)))]) H := hP
        have hD : va_D A ((wMo cJ cZ b mce mfr mun mbe men mov msp mwb mwe mwi mac mre mkn mth) ++ [(qn0, .inl (cJ, 22, .inr (.inl r2)))]) := hD
        refine lv_astore_n (lv' := [(1, .ref qn0), (0, .ref (b 0))]) hx hb dX3_areSpans_104 rfl hl (by decide) rfl (fun ls hl => ?_)
        refine lv_iconst (v := 0) hx hb dX3_areSpans_105 (by decide) ?_
        refine lv_istore_n (lv' := [(2, .int 0), (1, .ref qn0), (0, .ref (b 0))]) hx hb dX3_areSpans_106 rfl hl (by decide) rfl (fun ls hl => ?_)
        exact J107 24 mce mfr mun mbe men mov msp mwb mwe mwi mac mre mkn mth r2 0 qn0 _ _ hP hD hS ls (lv_sub hl [2, 1, 0] rfl) h
      · have h := g_f c1 h
        refine lv_aload_n hx hb dX3_areSpans_10 rfl (lv_at hl 0 rfl) ?_
        refine lv_aload_n hx hb dX3_areSpans_11 rfl (lv_at hl 0 rfl) ?_
        refine va_get (D := (dC, dI)) (ci := 5) (v := .ref (b 2)) (C := RX3) (T := TX3) (N := 14) hx hb hts hiX3 hown hK hP 0 rfl rfl 3 (by decide) hw1 (fun _ h9 => h9) rfl dX3_areSpans_12 ?_
        refine lv_iload_n hx hb dX3_areSpans_15 rfl (lv_at hl 1 rfl) ?_
        obtain ⟨z1, h⟩ := g_if h
        refine va_lald hx hb hK hP 2 2 rfl rfl (ix_in z1) dX3_areSpans_16 ?_
        refine lv_aload_n hx hb dX3_areSpans_17 rfl (lv_at hl 0 rfl) ?_
        refine va_get (D := (dC, dI)) (ci := 5) (v := .ref (b 3)) (C := RX3) (T := TX3) (N := 14) hx hb hts hiX3 hown hK hP 0 rfl rfl 4 (by decide) hw2 (fun _ h9 => h9) rfl dX3_areSpans_18 ?_
        refine lv_iload_n hx hb dX3_areSpans_21 rfl (lv_at hl 1 rfl) ?_
        refine va_lald hx hb hK hP 3 2 rfl rfl (ix_in z1) dX3_areSpans_22 ?_
        obtain ⟨r3, g3, h⟩ := g_b h
        refine kcall_i (wMo cJ cZ b mce mfr mun mbe men mov msp mwb mwe mwi mac mre mkn mth) (va_runV (As := [.long (mbe x1.toNatClampNeg), .long (men x1.toNatClampNeg)]) (rest := []) ⟨hx, hb, hml, hown, hts⟩ (c_X3_isIn l dC dI cB cI cJ cZ b _ mce mfr mun mbe men mov msp mwb mwe mwi mac mre mkn mth (mbe x1.toNatClampNeg) (men x1.toNatClampNeg) r3 g3) (kcwV hts kw_1204 kv_X3_isIn rfl rfl ⟨(Nat.le_of_ble_eq_true rfl), (Nat.le_of_ble_eq_true rfl)⟩) (kpV (A := A) (hP.sub (kIT mk_26 0) (km_f (m := mk_26) rfl rfl)) hK (hD.sub (kIT mk_26 0) (km_nd mk_26) (km_T (m := mk_26) rfl rfl)) hG (va_recv hK hP (ci := 5) (q0 := 0) rfl rfl)) rfl rfl hl.1 rfl (lv_room (Nat.le_of_ble_eq_true rfl)) dX3_areSpans_23 ⟨(Nat.le_of_ble_eq_true rfl), (Nat.le_of_ble_eq_true rfl)⟩) hP hD hS hA (kIT mk_26 0) (kIT mk_25 0) (km_T (m := mk_26) rfl rfl) (km_T (m := mk_26) rfl rfl) [] (km_T (m := mk_25) rfl rfl) (km_T (m := mk_25) rfl rfl) (km_cov (m := mk_26) (n := mk_25) rfl rfl) (km_dis (m := mk_26) (n := mk_25) rfl) rfl (fun H locs hP hD hS br3 => ?_)
        refine lv_if_ne (tgt := 31) hx hb dX3_areSpans_26 (by decide) (fun c4 => ?_) (fun c4 => ?_)
        · have h := g_f c4 h
          refine lv_iconst (v := 0) hx hb dX3_areSpans_31 (by decide) ?_
          refine lv_istore_n (lv' := [(2, .int 0), (0, .ref (b 0)), (1, .int x1)]) hx hb dX3_areSpans_32 rfl hl (by decide) rfl (fun ls hl => ?_)
          exact J33 (f_X3_areSpans_2 n) ih 24 mce mfr mun mbe men mov msp mwb mwe mwi mac mre mkn mth x1 0 _ _ hP hD hS ls (lv_sub hl [1, 2, 0] rfl) h
        · have h := g_t c4 h
          refine lv_iconst (v := 0) hx hb dX3_areSpans_29 (by decide) ?_
          have h := Option.some.inj h
          subst h
          refine W.widen (k := 1) (n := 22) (Nat.le_of_ble_eq_true rfl) (Nat.le_of_ble_eq_true rfl) ?_
          exact kret_i (v := 0) hx hb hr rfl hlocks hS hP dX3_areSpans_30
  have hl := lv_entry ([.ref (b 0)]) (n := 3) (Nat.le_of_ble_eq_true rfl)
  rw [lg_entry_eq]
  generalize (lg_sl ([.ref (b 0)]) ++ List.replicate (3 - (lg_sl ([.ref (b 0)])).length) Slot.unset).toArray = ls at hl ⊢
  have hl : lv_has ls 3 [(0, .ref (b 0))] := hl
  have h := f_X3_areSpans_e.symm.trans hf
  refine lv_iconst (v := 0) hx hb dX3_areSpans_0 (by decide) ?_
  refine lv_istore_n (lv' := [(1, .int 0), (0, .ref (b 0))]) hx hb dX3_areSpans_1 rfl hl (by decide) rfl (fun ls hl => ?_)
  exact J2 24 mce mfr mun mbe men mov msp mwb mwe mwi mac mre mkn mth 0 _ _ hP hD hS ls (lv_sub hl [1, 0] rfl) h
abbrev wsX3_isSound : List Cond := kWs yX3_isSound cX3_isSound 2 (some .boolean)
def f_X3_isSound (mfr : Int64) (mun : Int64) (mbe : Nat → Int64) (men : Nat → Int64) (mov : Nat → Int32) (msp : Int32) (mwb : Nat → Int64) (mwe : Nat → Int64) (mwi : Int32) : Option ((Int32) × (Int32)) :=
  (f_X3_chosenNow mwb mwe mwi).bind fun r1 =>
  if mun ≤ mfr then
    some (0, 0)
  else
    (f_X3_areSpans mfr mun mbe men mov msp).bind fun r3 =>
    if r3 = 0 then
      some (0, 0)
    else
      (f_X3_takenLength mfr mun mbe men msp).bind fun r5 =>
      (f_X3_freeLength mfr mun mbe men msp).bind fun r6 =>
      if (r5 + r6) = (mun - mfr) then
        (f_X3_areApart mwb mwe mwi r1).bind fun r8 =>
        if r8 = 0 then
          some (0, 0)
        else
          (f_X3_ones r1).bind fun r10 =>
          (f_X3_mostOfAll mwb mwe mwi).bind fun r11 =>
          if r10 = r11 then
            (f_X3_roomsOf mwb mwe mwi).bind fun r13 =>
            (f_X3_deepest 8 8 mwb mwe mwi).bind fun r14 =>
            if r13 = r14 then
              some (1, 0)
            else
              some (0, 0)
          else
            some (0, 0)
      else
        some (0, 0)
theorem f_X3_isSound_e {mfr : Int64} {mun : Int64} {mbe : Nat → Int64} {men : Nat → Int64} {mov : Nat → Int32} {msp : Int32} {mwb : Nat → Int64} {mwe : Nat → Int64} {mwi : Int32} : f_X3_isSound mfr mun mbe men mov msp mwb mwe mwi = 
  (f_X3_chosenNow mwb mwe mwi).bind fun r1 =>
  if mun ≤ mfr then
    some (0, 0)
  else
    (f_X3_areSpans mfr mun mbe men mov msp).bind fun r3 =>
    if r3 = 0 then
      some (0, 0)
    else
      (f_X3_takenLength mfr mun mbe men msp).bind fun r5 =>
      (f_X3_freeLength mfr mun mbe men msp).bind fun r6 =>
      if (r5 + r6) = (mun - mfr) then
        (f_X3_areApart mwb mwe mwi r1).bind fun r8 =>
        if r8 = 0 then
          some (0, 0)
        else
          (f_X3_ones r1).bind fun r10 =>
          (f_X3_mostOfAll mwb mwe mwi).bind fun r11 =>
          if r10 = r11 then
            (f_X3_roomsOf mwb mwe mwi).bind fun r13 =>
            (f_X3_deepest 8 8 mwb mwe mwi).bind fun r14 =>
            if r13 = r14 then
              some (1, 0)
            else
              some (0, 0)
          else
            some (0, 0)
      else
        some (0, 0) := rfl
set_option maxHeartbeats 4000000 in
set_option maxRecDepth 100000 in
theorem c_X3_isSound (l : Launch) (dC : Nat → ClassId) (dI : Nat → Nat → Nat) (cB cI cJ cZ : ClassId) (b : Nat → Nat) (sz : Nat) (mce : Nat → Int64) (mfr : Int64) (mun : Int64) (mbe : Nat → Int64) (men : Nat → Int64) (mov : Nat → Int32) (msp : Int32) (mwb : Nat → Int64) (mwe : Nat → Int64) (mwi : Int32) (mac : Int32) (mre : Int32) (mkn : Int32) (mth : Int32) (res : (Int32) × (Int32)) (hf : f_X3_isSound mfr mun mbe men mov msp mwb mwe mwi = some res) : Met l yX3_isSound wsX3_isSound ({ frames := 4, cells := 3, slots := 60, locals := 98 } : Room) (kPre (dC, dI) (kTy cB cI cJ cZ) [.ref (b 0)] sz (wMo cJ cZ b mce mfr mun mbe men mov msp mwb mwe mwi mac mre mkn mth)) (kI (dC, dI) .boolean (res.1) (wMo cJ cZ b mce mfr mun mbe men mov msp mwb mwe mwi mac mre mkn (res.2)) (va_A (wMo cJ cZ b mce mfr mun mbe men mov msp mwb mwe mwi mac mre mkn mth) sz)) 3 60 (va_A (wMo cJ cZ b mce mfr mun mbe men mov msp mwb mwe mwi mac mre mkn mth) sz) := by
  refine Met.ofW (cc := cX3_isSound) (maxL := 2) (ret := (some .boolean)) (by decide) rfl ?_
  intro p e s m args below meth c s₁ B hml hv
  obtain ⟨rfl, hsz, hP, hK, hD0, hG⟩ := hv
  have hx := B.exec
  have hb := B.bytes
  have hr := B.returns
  have hts := atoms_spec (ws := wsX3_isSound) B.pre
  have hown : s.vm.findClass RX3 = some m.cls := findClass_of_methodNamed B.named
  have hlocks := B.notSynchronized
  subst hsz
  have hD := hD0.self (sz := s.heap.size)
  generalize hAe : va_A (wMo cJ cZ b mce mfr mun mbe men mov msp mwb mwe mwi mac mre mkn mth) s.heap.size = A at hD ⊢
  have hA : ∀ q : Nat, s.heap.size ≤ q → A q := fun q h => by rw [← hAe]; exact Or.inr h
  have hS : va_S A s.heap s.heap [] := va_S.rf
  clear hAe
  have hw0 := hts (.fieldLink RX3 35 "SpanbookerModel" "thrown" "I") (List.mem_cons_of_mem _ kw_1085)
  have hw1 := hts (.fieldLink RX3 53 "SpanbookerModel" "from" "J") (List.mem_cons_of_mem _ kw_1073)
  have hw2 := hts (.fieldLink RX3 15 "SpanbookerModel" "until" "J") (List.mem_cons_of_mem _ kw_1074)
  have hw3 := hts (.fieldLink RX3 29 "SpanbookerModel" "wishBegins" "[J") (List.mem_cons_of_mem _ kw_1079)
  have hw4 := hts (.fieldLink RX3 32 "SpanbookerModel" "wishEnds" "[J") (List.mem_cons_of_mem _ kw_1080)
  have hw5 := hts (.fieldLink RX3 88 "SpanbookerModel" "wishes" "I") (List.mem_cons_of_mem _ kw_1081)
  have hiX3 : ∀ w ∈ u_ws RX3 TX3 14, w ∈ wsX3_isSound := fun w h => List.mem_cons_of_mem _ (ku_X3 w h)
  have hl := lv_entry ([.ref (b 0)]) (n := 2) (Nat.le_of_ble_eq_true rfl)
  rw [lg_entry_eq]
  generalize (lg_sl ([.ref (b 0)]) ++ List.replicate (2 - (lg_sl ([.ref (b 0)])).length) Slot.unset).toArray = ls at hl ⊢
  have hl : lv_has ls 2 [(0, .ref (b 0))] := hl
  have h := f_X3_isSound_e.symm.trans hf
  refine lv_aload_n hx hb dX3_isSound_0 rfl (lv_at hl 0 rfl) ?_
  refine lv_iconst (v := 0) hx hb dX3_isSound_1 (by decide) ?_
  refine va_put (D := (dC, dI)) (ci := 5) (v := .int 0) (ty := .int) (C := RX3) (T := TX3) (N := 14) hx hb hts hiX3 tyX3 tyX3_ok nmX3 hown hK hP hD hS 0 rfl rfl 13 (by decide) hw0 (fun _ h9 => h9) rfl (by decide +kernel) rfl rfl (Nat.le_of_ble_eq_true rfl) dX3_isSound_2 (fun H locs hP hD hS => ?_)
  have hP : va_P (dC, dI) vwCl (wMo cJ cZ b mce mfr mun mbe men mov msp mwb mwe mwi mac mre mkn 0) H := hP
  have hD : va_D A (wMo cJ cZ b mce mfr mun mbe men mov msp mwb mwe mwi mac mre mkn 0) := hD
  refine lv_aload_n hx hb dX3_isSound_5 rfl (lv_at hl 0 rfl) ?_
  obtain ⟨r1, g1, h⟩ := g_b h
  refine kcall_i (wMo cJ cZ b mce mfr mun mbe men mov msp mwb mwe mwi mac mre mkn 0) (va_runV (As := []) (rest := []) ⟨hx, hb, hml, hown, hts⟩ (c_X3_chosenNow l dC dI cB cI cJ cZ b _ mce mfr mun mbe men mov msp mwb mwe mwi mac mre mkn 0  r1 g1) (kcwV hts kw_1415 kv_X3_chosenNow rfl rfl ⟨(Nat.le_of_ble_eq_true rfl), (Nat.le_of_ble_eq_true rfl)⟩) (kpV (A := A) (hP.sub (kIT mk_26 0) (km_f (m := mk_26) rfl rfl)) hK (hD.sub (kIT mk_26 0) (km_nd mk_26) (km_T (m := mk_26) rfl rfl)) hG (va_recv hK hP (ci := 5) (q0 := 0) rfl rfl)) rfl rfl hl.1 rfl (lv_room (Nat.le_of_ble_eq_true rfl)) dX3_isSound_6 ⟨(Nat.le_of_ble_eq_true rfl), (Nat.le_of_ble_eq_true rfl)⟩) hP hD hS hA (kIT mk_26 0) (kIT mk_25 0) (km_T (m := mk_26) rfl rfl) (km_T (m := mk_26) rfl rfl) [] (km_T (m := mk_25) rfl rfl) (km_T (m := mk_25) rfl rfl) (km_cov (m := mk_26) (n := mk_25) rfl rfl) (km_dis (m := mk_26) (n := mk_25) rfl) rfl (fun H locs hP hD hS br1 => ?_)
  refine lv_istore_n (lv' := [(1, .int r1), (0, .ref (b 0))]) hx hb dX3_isSound_9 rfl hl (by decide) rfl (fun ls hl => ?_)
  refine lv_aload_n hx hb dX3_isSound_10 rfl (lv_at hl 1 rfl) ?_
  refine va_get (D := (dC, dI)) (ci := 5) (v := .long mfr) (C := RX3) (T := TX3) (N := 14) hx hb hts hiX3 hown hK hP 0 rfl rfl 1 (by decide) hw1 (fun _ h9 => h9) rfl dX3_isSound_11 ?_
  refine lv_aload_n hx hb dX3_isSound_14 rfl (lv_at hl 1 rfl) ?_
  refine va_get (D := (dC, dI)) (ci := 5) (v := .long mun) (C := RX3) (T := TX3) (N := 14) hx hb hts hiX3 hown hK hP 0 rfl rfl 2 (by decide) hw2 (fun _ h9 => h9) rfl dX3_isSound_15 ?_
  refine kl_ge (pc := 18) (tgt := 96) hx hb dX3_isSound_18 dX3_isSound_19 (by decide) (fun c2 => ?_) (fun c2 => ?_)
  · have h := g_t c2 h
    refine lv_iconst (v := 0) hx hb dX3_isSound_96 (by decide) ?_
    have h := Option.some.inj h
    subst h
    refine W.widen (k := 3) (n := 60) (Nat.le_of_ble_eq_true rfl) (Nat.le_of_ble_eq_true rfl) ?_
    exact kret_i (v := 0) hx hb hr rfl hlocks hS hP dX3_isSound_97
  · have h := g_f c2 h
    refine lv_aload_n hx hb dX3_isSound_22 rfl (lv_at hl 1 rfl) ?_
    obtain ⟨r3, g3, h⟩ := g_b h
    refine kcall_i (wMo cJ cZ b mce mfr mun mbe men mov msp mwb mwe mwi mac mre mkn 0) (va_runV (As := []) (rest := []) ⟨hx, hb, hml, hown, hts⟩ (c_X3_areSpans l dC dI cB cI cJ cZ b _ mce mfr mun mbe men mov msp mwb mwe mwi mac mre mkn 0  r3 g3) (kcwV hts kw_1466 kv_X3_areSpans rfl rfl ⟨(Nat.le_of_ble_eq_true rfl), (Nat.le_of_ble_eq_true rfl)⟩) (kpV (A := A) (hP.sub (kIT mk_26 0) (km_f (m := mk_26) rfl rfl)) hK (hD.sub (kIT mk_26 0) (km_nd mk_26) (km_T (m := mk_26) rfl rfl)) hG (va_recv hK hP (ci := 5) (q0 := 0) rfl rfl)) rfl rfl hl.1 rfl (lv_room (Nat.le_of_ble_eq_true rfl)) dX3_isSound_23 ⟨(Nat.le_of_ble_eq_true rfl), (Nat.le_of_ble_eq_true rfl)⟩) hP hD hS hA (kIT mk_26 0) (kIT mk_25 0) (km_T (m := mk_26) rfl rfl) (km_T (m := mk_26) rfl rfl) [] (km_T (m := mk_25) rfl rfl) (km_T (m := mk_25) rfl rfl) (km_cov (m := mk_26) (n := mk_25) rfl rfl) (km_dis (m := mk_26) (n := mk_25) rfl) rfl (fun H locs hP hD hS br3 => ?_)
    refine lv_if_eq (tgt := 96) hx hb dX3_isSound_26 (by decide) (fun c4 => ?_) (fun c4 => ?_)
    · have h := g_t c4 h
      refine lv_iconst (v := 0) hx hb dX3_isSound_96 (by decide) ?_
      have h := Option.some.inj h
      subst h
      refine W.widen (k := 3) (n := 60) (Nat.le_of_ble_eq_true rfl) (Nat.le_of_ble_eq_true rfl) ?_
      exact kret_i (v := 0) hx hb hr rfl hlocks hS hP dX3_isSound_97
    · have h := g_f c4 h
      refine lv_aload_n hx hb dX3_isSound_29 rfl (lv_at hl 1 rfl) ?_
      obtain ⟨r5, g5, h⟩ := g_b h
      refine kcall_l (wMo cJ cZ b mce mfr mun mbe men mov msp mwb mwe mwi mac mre mkn 0) (va_runV (As := []) (rest := []) ⟨hx, hb, hml, hown, hts⟩ (c_X3_takenLength l dC dI cB cI cJ cZ b _ mce mfr mun mbe men mov msp mwb mwe mwi mac mre mkn 0  r5 g5) (kcwV hts kw_1383 kv_X3_takenLength rfl rfl ⟨(Nat.le_of_ble_eq_true rfl), (Nat.le_of_ble_eq_true rfl)⟩) (kpV (A := A) (hP.sub (kIT mk_26 0) (km_f (m := mk_26) rfl rfl)) hK (hD.sub (kIT mk_26 0) (km_nd mk_26) (km_T (m := mk_26) rfl rfl)) hG (va_recv hK hP (ci := 5) (q0 := 0) rfl rfl)) rfl rfl hl.1 rfl (lv_room (Nat.le_of_ble_eq_true rfl)) dX3_isSound_30 ⟨(Nat.le_of_ble_eq_true rfl), (Nat.le_of_ble_eq_true rfl)⟩) hP hD hS hA (kIT mk_26 0) (kIT mk_25 0) (km_T (m := mk_26) rfl rfl) (km_T (m := mk_26) rfl rfl) [] (km_T (m := mk_25) rfl rfl) (km_T (m := mk_25) rfl rfl) (km_cov (m := mk_26) (n := mk_25) rfl rfl) (km_dis (m := mk_26) (n := mk_25) rfl) rfl (fun H locs hP hD hS => ?_)
      refine lv_aload_n hx hb dX3_isSound_33 rfl (lv_at hl 1 rfl) ?_
      obtain ⟨r6, g6, h⟩ := g_b h
      refine kcall_l (wMo cJ cZ b mce mfr mun mbe men mov msp mwb mwe mwi mac mre mkn 0) (va_runV (As := []) (rest := [.long r5]) ⟨hx, hb, hml, hown, hts⟩ (c_X3_freeLength l dC dI cB cI cJ cZ b _ mce mfr mun mbe men mov msp mwb mwe mwi mac mre mkn 0  r6 g6) (kcwV hts kw_1387 kv_X3_freeLength rfl rfl ⟨(Nat.le_of_ble_eq_true rfl), (Nat.le_of_ble_eq_true rfl)⟩) (kpV (A := A) (hP.sub (kIT mk_26 0) (km_f (m := mk_26) rfl rfl)) hK (hD.sub (kIT mk_26 0) (km_nd mk_26) (km_T (m := mk_26) rfl rfl)) hG (va_recv hK hP (ci := 5) (q0 := 0) rfl rfl)) rfl rfl hl.1 rfl (lv_room (Nat.le_of_ble_eq_true rfl)) dX3_isSound_34 ⟨(Nat.le_of_ble_eq_true rfl), (Nat.le_of_ble_eq_true rfl)⟩) hP hD hS hA (kIT mk_26 0) (kIT mk_25 0) (km_T (m := mk_26) rfl rfl) (km_T (m := mk_26) rfl rfl) [] (km_T (m := mk_25) rfl rfl) (km_T (m := mk_25) rfl rfl) (km_cov (m := mk_26) (n := mk_25) rfl rfl) (km_dis (m := mk_26) (n := mk_25) rfl) rfl (fun H locs hP hD hS => ?_)
      refine lv_ladd hx hb dX3_isSound_37 ?_
      refine lv_aload_n hx hb dX3_isSound_38 rfl (lv_at hl 1 rfl) ?_
      refine va_get (D := (dC, dI)) (ci := 5) (v := .long mun) (C := RX3) (T := TX3) (N := 14) hx hb hts hiX3 hown hK hP 0 rfl rfl 2 (by decide) hw2 (fun _ h9 => h9) rfl dX3_isSound_39 ?_
      refine lv_aload_n hx hb dX3_isSound_42 rfl (lv_at hl 1 rfl) ?_
      refine va_get (D := (dC, dI)) (ci := 5) (v := .long mfr) (C := RX3) (T := TX3) (N := 14) hx hb hts hiX3 hown hK hP 0 rfl rfl 1 (by decide) hw1 (fun _ h9 => h9) rfl dX3_isSound_43 ?_
      refine lv_lsub hx hb dX3_isSound_46 ?_
      refine kl_ne (pc := 47) (tgt := 96) hx hb dX3_isSound_47 dX3_isSound_48 (by decide) (fun c7 => ?_) (fun c7 => ?_)
      · have h := g_f c7 h
        refine lv_iconst (v := 0) hx hb dX3_isSound_96 (by decide) ?_
        have h := Option.some.inj h
        subst h
        refine W.widen (k := 3) (n := 60) (Nat.le_of_ble_eq_true rfl) (Nat.le_of_ble_eq_true rfl) ?_
        exact kret_i (v := 0) hx hb hr rfl hlocks hS hP dX3_isSound_97
      · have h := g_t c7 h
        refine lv_aload_n hx hb dX3_isSound_51 rfl (lv_at hl 1 rfl) ?_
        refine lv_iload_n hx hb dX3_isSound_52 rfl (lv_at hl 0 rfl) ?_
        obtain ⟨r8, g8, h⟩ := g_b h
        refine kcall_i (wMo cJ cZ b mce mfr mun mbe men mov msp mwb mwe mwi mac mre mkn 0) (va_runV (As := [.int r1]) (rest := []) ⟨hx, hb, hml, hown, hts⟩ (c_X3_areApart l dC dI cB cI cJ cZ b _ mce mfr mun mbe men mov msp mwb mwe mwi mac mre mkn 0 r1 r8 g8) (kcwV hts kw_1403 kv_X3_areApart rfl rfl ⟨(Nat.le_of_ble_eq_true rfl), (Nat.le_of_ble_eq_true rfl)⟩) (kpV (A := A) (hP.sub (kIT mk_26 0) (km_f (m := mk_26) rfl rfl)) hK (hD.sub (kIT mk_26 0) (km_nd mk_26) (km_T (m := mk_26) rfl rfl)) hG (va_recv hK hP (ci := 5) (q0 := 0) rfl rfl)) rfl rfl hl.1 rfl (lv_room (Nat.le_of_ble_eq_true rfl)) dX3_isSound_53 ⟨(Nat.le_of_ble_eq_true rfl), (Nat.le_of_ble_eq_true rfl)⟩) hP hD hS hA (kIT mk_26 0) (kIT mk_25 0) (km_T (m := mk_26) rfl rfl) (km_T (m := mk_26) rfl rfl) [] (km_T (m := mk_25) rfl rfl) (km_T (m := mk_25) rfl rfl) (km_cov (m := mk_26) (n := mk_25) rfl rfl) (km_dis (m := mk_26) (n := mk_25) rfl) rfl (fun H locs hP hD hS br8 => ?_)
        refine lv_if_eq (tgt := 96) hx hb dX3_isSound_56 (by decide) (fun c9 => ?_) (fun c9 => ?_)
        · have h := g_t c9 h
          refine lv_iconst (v := 0) hx hb dX3_isSound_96 (by decide) ?_
          have h := Option.some.inj h
          subst h
          refine W.widen (k := 3) (n := 60) (Nat.le_of_ble_eq_true rfl) (Nat.le_of_ble_eq_true rfl) ?_
          exact kret_i (v := 0) hx hb hr rfl hlocks hS hP dX3_isSound_97
        · have h := g_f c9 h
          refine lv_iload_n hx hb dX3_isSound_59 rfl (lv_at hl 0 rfl) ?_
          obtain ⟨r10, g10, h⟩ := g_b h
          refine kcall_i (wMo cJ cZ b mce mfr mun mbe men mov msp mwb mwe mwi mac mre mkn 0) (va_runS (As := [.int r1]) (rest := []) ⟨hx, hb, hml, hown, hts⟩ (c_X3_ones l dC dI cB cI cJ cZ  _  r1 r10 g10) (kcwS hts kw_1423 kv_X3_ones rfl rfl ⟨(Nat.le_of_ble_eq_true rfl), (Nat.le_of_ble_eq_true rfl)⟩) (kpS (A := A) (kPnil) hK ((kDnil (A := A))) hG) rfl rfl hl.1 rfl (lv_room (Nat.le_of_ble_eq_true rfl)) dX3_isSound_60 ⟨(Nat.le_of_ble_eq_true rfl), (Nat.le_of_ble_eq_true rfl)⟩) hP hD hS hA (kIT mk_25 0) (kIT mk_26 0) (km_T (m := mk_25) rfl rfl) (km_T (m := mk_25) rfl rfl) [((b 0), .inr (5, [.ref (b 1), .long mfr, .long mun, .ref (b 2), .ref (b 3), .ref (b 4), .int msp, .ref (b 5), .ref (b 6), .int mwi, .int mac, .int mre, .int mkn, .int 0])), ((b 1), .inl (cJ, 4, .inr (.inl mce))), ((b 2), .inl (cJ, 10, .inr (.inl mbe))), ((b 3), .inl (cJ, 10, .inr (.inl men))), ((b 4), .inl (cZ, 10, .inl mov)), ((b 5), .inl (cJ, 8, .inr (.inl mwb))), ((b 6), .inl (cJ, 8, .inr (.inl mwe)))] (km_T (m := mk_26) rfl rfl) (km_T (m := mk_26) rfl rfl) (km_cov (m := mk_25) (n := mk_26) rfl rfl) (km_dis (m := mk_25) (n := mk_26) rfl) rfl (fun H locs hP hD hS br10 => ?_)
          refine lv_aload_n hx hb dX3_isSound_63 rfl (lv_at hl 1 rfl) ?_
          obtain ⟨r11, g11, h⟩ := g_b h
          refine kcall_i (wMo cJ cZ b mce mfr mun mbe men mov msp mwb mwe mwi mac mre mkn 0) (va_runV (As := []) (rest := [.int r10]) ⟨hx, hb, hml, hown, hts⟩ (c_X3_mostOfAll l dC dI cB cI cJ cZ b _ mce mfr mun mbe men mov msp mwb mwe mwi mac mre mkn 0  r11 g11) (kcwV hts kw_1426 kv_X3_mostOfAll rfl rfl ⟨(Nat.le_of_ble_eq_true rfl), (Nat.le_of_ble_eq_true rfl)⟩) (kpV (A := A) (hP.sub (kIT mk_26 0) (km_f (m := mk_26) rfl rfl)) hK (hD.sub (kIT mk_26 0) (km_nd mk_26) (km_T (m := mk_26) rfl rfl)) hG (va_recv hK hP (ci := 5) (q0 := 0) rfl rfl)) rfl rfl hl.1 rfl (lv_room (Nat.le_of_ble_eq_true rfl)) dX3_isSound_64 ⟨(Nat.le_of_ble_eq_true rfl), (Nat.le_of_ble_eq_true rfl)⟩) hP hD hS hA (kIT mk_26 0) (kIT mk_25 0) (km_T (m := mk_26) rfl rfl) (km_T (m := mk_26) rfl rfl) [] (km_T (m := mk_25) rfl rfl) (km_T (m := mk_25) rfl rfl) (km_cov (m := mk_26) (n := mk_25) rfl rfl) (km_dis (m := mk_26) (n := mk_25) rfl) rfl (fun H locs hP hD hS br11 => ?_)
          refine lv_icmp_ne (tgt := 96) hx hb dX3_isSound_67 (by decide) (fun c12 => ?_) (fun c12 => ?_)
          · have h := g_f c12 h
            refine lv_iconst (v := 0) hx hb dX3_isSound_96 (by decide) ?_
            have h := Option.some.inj h
            subst h
            refine W.widen (k := 3) (n := 60) (Nat.le_of_ble_eq_true rfl) (Nat.le_of_ble_eq_true rfl) ?_
            exact kret_i (v := 0) hx hb hr rfl hlocks hS hP dX3_isSound_97
          · have h := g_t c12 h
            refine lv_aload_n hx hb dX3_isSound_70 rfl (lv_at hl 1 rfl) ?_
            obtain ⟨r13, g13, h⟩ := g_b h
            refine kcall_i (wMo cJ cZ b mce mfr mun mbe men mov msp mwb mwe mwi mac mre mkn 0) (va_runV (As := []) (rest := []) ⟨hx, hb, hml, hown, hts⟩ (c_X3_roomsOf l dC dI cB cI cJ cZ b _ mce mfr mun mbe men mov msp mwb mwe mwi mac mre mkn 0  r13 g13) (kcwV hts kw_1450 kv_X3_roomsOf rfl rfl ⟨(Nat.le_of_ble_eq_true rfl), (Nat.le_of_ble_eq_true rfl)⟩) (kpV (A := A) (hP.sub (kIT mk_26 0) (km_f (m := mk_26) rfl rfl)) hK (hD.sub (kIT mk_26 0) (km_nd mk_26) (km_T (m := mk_26) rfl rfl)) hG (va_recv hK hP (ci := 5) (q0 := 0) rfl rfl)) rfl rfl hl.1 rfl (lv_room (Nat.le_of_ble_eq_true rfl)) dX3_isSound_71 ⟨(Nat.le_of_ble_eq_true rfl), (Nat.le_of_ble_eq_true rfl)⟩) hP hD hS hA (kIT mk_26 0) (kIT mk_25 0) (km_T (m := mk_26) rfl rfl) (km_T (m := mk_26) rfl rfl) [] (km_T (m := mk_25) rfl rfl) (km_T (m := mk_25) rfl rfl) (km_cov (m := mk_26) (n := mk_25) rfl rfl) (km_dis (m := mk_26) (n := mk_25) rfl) rfl (fun H locs hP hD hS br13 => ?_)
            refine lv_aload_n hx hb dX3_isSound_74 rfl (lv_at hl 1 rfl) ?_
            refine va_get (D := (dC, dI)) (ci := 5) (v := .ref (b 5)) (C := RX3) (T := TX3) (N := 14) hx hb hts hiX3 hown hK hP 0 rfl rfl 7 (by decide) hw3 (fun _ h9 => h9) rfl dX3_isSound_75 ?_
            refine lv_aload_n hx hb dX3_isSound_78 rfl (lv_at hl 1 rfl) ?_
            refine va_get (D := (dC, dI)) (ci := 5) (v := .ref (b 6)) (C := RX3) (T := TX3) (N := 14) hx hb hts hiX3 hown hK hP 0 rfl rfl 8 (by decide) hw4 (fun _ h9 => h9) rfl dX3_isSound_79 ?_
            refine lv_aload_n hx hb dX3_isSound_82 rfl (lv_at hl 1 rfl) ?_
            refine va_get (D := (dC, dI)) (ci := 5) (v := .int mwi) (C := RX3) (T := TX3) (N := 14) hx hb hts hiX3 hown hK hP 0 rfl rfl 9 (by decide) hw5 (fun _ h9 => h9) rfl dX3_isSound_83 ?_
            obtain ⟨r14, g14, h⟩ := g_b h
            refine kcall_i (wMo cJ cZ b mce mfr mun mbe men mov msp mwb mwe mwi mac mre mkn 0) (va_runS (As := [.ref (b 5), .ref (b 6), .int mwi]) (rest := [.int r13]) ⟨hx, hb, hml, hown, hts⟩ (c_X3_deepest l dC dI cB cI cJ cZ (b 5) 8 (b 6) 8 _ mwb mwe mwi r14 g14) (kcwS hts kw_1352 kv_X3_deepest rfl rfl ⟨(Nat.le_of_ble_eq_true rfl), (Nat.le_of_ble_eq_true rfl)⟩) (kpS (A := A) (hP.sub (kIT mk_51 0) (km_f (m := mk_51) rfl rfl)) hK (hD.sub (kIT mk_51 0) (km_nd mk_51) (km_T (m := mk_51) rfl rfl)) hG) rfl rfl hl.1 rfl (lv_room (Nat.le_of_ble_eq_true rfl)) dX3_isSound_86 ⟨(Nat.le_of_ble_eq_true rfl), (Nat.le_of_ble_eq_true rfl)⟩) hP hD hS hA (kIT mk_51 0) (kIT mk_52 0) (km_T (m := mk_51) rfl rfl) (km_T (m := mk_51) rfl rfl) [((b 0), .inr (5, [.ref (b 1), .long mfr, .long mun, .ref (b 2), .ref (b 3), .ref (b 4), .int msp, .ref (b 5), .ref (b 6), .int mwi, .int mac, .int mre, .int mkn, .int 0])), ((b 1), .inl (cJ, 4, .inr (.inl mce))), ((b 2), .inl (cJ, 10, .inr (.inl mbe))), ((b 3), .inl (cJ, 10, .inr (.inl men))), ((b 4), .inl (cZ, 10, .inl mov))] (km_T (m := mk_52) rfl rfl) (km_T (m := mk_52) rfl rfl) (km_cov (m := mk_51) (n := mk_52) rfl rfl) (km_dis (m := mk_51) (n := mk_52) rfl) rfl (fun H locs hP hD hS br14 => ?_)
            refine lv_icmp_ne (tgt := 96) hx hb dX3_isSound_89 (by decide) (fun c15 => ?_) (fun c15 => ?_)
            · have h := g_f c15 h
              refine lv_iconst (v := 0) hx hb dX3_isSound_96 (by decide) ?_
              have h := Option.some.inj h
              subst h
              refine W.widen (k := 3) (n := 60) (Nat.le_of_ble_eq_true rfl) (Nat.le_of_ble_eq_true rfl) ?_
              exact kret_i (v := 0) hx hb hr rfl hlocks hS hP dX3_isSound_97
            · have h := g_t c15 h
              refine lv_iconst (v := 1) hx hb dX3_isSound_92 (by decide) ?_
              refine lv_goto (tgt := 97) hx hb dX3_isSound_93 (by decide) ?_
              have h := Option.some.inj h
              subst h
              refine W.widen (k := 3) (n := 60) (Nat.le_of_ble_eq_true rfl) (Nat.le_of_ble_eq_true rfl) ?_
              exact kret_i (v := 1) hx hb hr rfl hlocks hS hP dX3_isSound_97
abbrev wsX3_added : List Cond := kWs yX3_added cX3_added 8 (some .long)
def f_X3_added (n1 : Nat) (n2 : Nat) (v1 : Nat → Int64) (v2 : Nat → Int64) (p0 : Int64) (p3 : Int32) : Option (Int64) :=
  if ix p3 n1 then
    (f_X3_secondOf (v1 p3.toNatClampNeg)).bind fun r2 =>
    (f_X3_nanoOf (v1 p3.toNatClampNeg)).bind fun r3 =>
    if ix p3 n2 then
      (f_X3_secondOf (v2 p3.toNatClampNeg)).bind fun r5 =>
      (f_X3_nanoOf (v2 p3.toNatClampNeg)).bind fun r6 =>
      some ((((((((p0 * 31) + r2.toInt64) * 31) + r3.toInt64) * 31) + r5.toInt64) * 31) + r6.toInt64)
    else none
  else none
theorem f_X3_added_e {n1 : Nat} {n2 : Nat} {v1 : Nat → Int64} {v2 : Nat → Int64} {p0 : Int64} {p3 : Int32} : f_X3_added n1 n2 v1 v2 p0 p3 = 
  if ix p3 n1 then
    (f_X3_secondOf (v1 p3.toNatClampNeg)).bind fun r2 =>
    (f_X3_nanoOf (v1 p3.toNatClampNeg)).bind fun r3 =>
    if ix p3 n2 then
      (f_X3_secondOf (v2 p3.toNatClampNeg)).bind fun r5 =>
      (f_X3_nanoOf (v2 p3.toNatClampNeg)).bind fun r6 =>
      some ((((((((p0 * 31) + r2.toInt64) * 31) + r3.toInt64) * 31) + r5.toInt64) * 31) + r6.toInt64)
    else none
  else none := rfl
set_option maxHeartbeats 4000000 in
set_option maxRecDepth 100000 in
theorem c_X3_added (l : Launch) (dC : Nat → ClassId) (dI : Nat → Nat → Nat) (cB cI cJ cZ : ClassId) (b0 : Nat) (q1 : Nat) (n1 : Nat) (q2 : Nat) (n2 : Nat) (sz : Nat) (v1 : Nat → Int64) (v2 : Nat → Int64) (p0 : Int64) (p3 : Int32) (res : Int64) (hf : f_X3_added n1 n2 v1 v2 p0 p3 = some res) : Met l yX3_added wsX3_added ({ frames := 2, cells := 0, slots := 0, locals := 42 } : Room) (kPre (dC, dI) (kTy cB cI cJ cZ) [.ref b0, .long p0, .ref q1, .ref q2, .int p3] sz ([(q1, .inl (cJ, n1, .inr (.inl v1)))] ++ [(q2, .inl (cJ, n2, .inr (.inl v2)))])) (kL (dC, dI) (res) ([(q1, .inl (cJ, n1, .inr (.inl v1)))] ++ [(q2, .inl (cJ, n2, .inr (.inl v2)))]) (va_A ([(q1, .inl (cJ, n1, .inr (.inl v1)))] ++ [(q2, .inl (cJ, n2, .inr (.inl v2)))]) sz)) 0 0 (va_A ([(q1, .inl (cJ, n1, .inr (.inl v1)))] ++ [(q2, .inl (cJ, n2, .inr (.inl v2)))]) sz) := by
  refine Met.ofW (cc := cX3_added) (maxL := 8) (ret := (some .long)) (by decide) rfl ?_
  intro p e s m args below meth c s₁ B hml hv
  obtain ⟨rfl, hsz, hP, hK, hD0, hG⟩ := hv
  have hx := B.exec
  have hb := B.bytes
  have hr := B.returns
  have hts := atoms_spec (ws := wsX3_added) B.pre
  have hown : s.vm.findClass RX3 = some m.cls := findClass_of_methodNamed B.named
  have hlocks := B.notSynchronized
  subst hsz
  have hD := hD0.self (sz := s.heap.size)
  generalize hAe : va_A ([(q1, .inl (cJ, n1, .inr (.inl v1)))] ++ [(q2, .inl (cJ, n2, .inr (.inl v2)))]) s.heap.size = A at hD ⊢
  have hA : ∀ q : Nat, s.heap.size ≤ q → A q := fun q h => by rw [← hAe]; exact Or.inr h
  have hS : va_S A s.heap s.heap [] := va_S.rf
  clear hAe
  have hw0 := hts (.constantLong RX3 243 (31)) (List.mem_cons_of_mem _ kw_1475)
  have hl := lv_entry ([.ref b0, .long p0, .ref q1, .ref q2, .int p3]) (n := 8) (Nat.le_of_ble_eq_true rfl)
  rw [lg_entry_eq]
  generalize (lg_sl ([.ref b0, .long p0, .ref q1, .ref q2, .int p3]) ++ List.replicate (8 - (lg_sl ([.ref b0, .long p0, .ref q1, .ref q2, .int p3])).length) Slot.unset).toArray = ls at hl ⊢
  have hl : lv_has ls 8 [(0, .ref b0), (1, .long p0), (3, .ref q1), (4, .ref q2), (5, .int p3)] := hl
  have h := f_X3_added_e.symm.trans hf
  refine lv_lload_n hx hb dX3_added_0 rfl (lv_at hl 1 rfl) ?_
  refine lv_ldc2 (v := (31)) hx hb hown hw0 dX3_added_1 ?_
  refine lv_lmul hx hb dX3_added_4 ?_
  refine lv_aload_n hx hb dX3_added_5 rfl (lv_at hl 2 rfl) ?_
  refine lv_iload hx hb dX3_added_6 (lv_at hl 4 rfl) ?_
  obtain ⟨z0, h⟩ := g_if h
  refine va_lald hx hb hK hP 0 2 rfl rfl (ix_in z0) dX3_added_8 ?_
  obtain ⟨r2, g2, h⟩ := g_b h
  refine kcall_i ([(q1, .inl (cJ, n1, .inr (.inl v1)))] ++ [(q2, .inl (cJ, n2, .inr (.inl v2)))]) (va_runS (As := [.long (v1 p3.toNatClampNeg)]) (rest := [.long (p0 * 31)]) ⟨hx, hb, hml, hown, hts⟩ (c_X3_secondOf l dC dI cB cI cJ cZ  _  (v1 p3.toNatClampNeg) r2 g2) (kcwS hts kw_1144 kv_X3_secondOf rfl rfl ⟨(Nat.le_of_ble_eq_true rfl), (Nat.le_of_ble_eq_true rfl)⟩) (kpS (A := A) (kPnil) hK ((kDnil (A := A))) hG) rfl rfl hl.1 rfl (lv_room (Nat.le_of_ble_eq_true rfl)) dX3_added_9 ⟨(Nat.le_of_ble_eq_true rfl), (Nat.le_of_ble_eq_true rfl)⟩) hP hD hS hA (kIT mk_0 0) (kIT mk_1 0) (km_T (m := mk_0) rfl rfl) (km_T (m := mk_0) rfl rfl) [(q1, .inl (cJ, n1, .inr (.inl v1))), (q2, .inl (cJ, n2, .inr (.inl v2)))] (km_T (m := mk_1) rfl rfl) (km_T (m := mk_1) rfl rfl) (km_cov (m := mk_0) (n := mk_1) rfl rfl) (km_dis (m := mk_0) (n := mk_1) rfl) rfl (fun H locs hP hD hS br2 => ?_)
  refine lv_i2l (v := r2.toInt64) hx hb dX3_added_12 rfl ?_
  refine lv_ladd hx hb dX3_added_13 ?_
  refine lv_ldc2 (v := (31)) hx hb hown hw0 dX3_added_14 ?_
  refine lv_lmul hx hb dX3_added_17 ?_
  refine lv_aload_n hx hb dX3_added_18 rfl (lv_at hl 2 rfl) ?_
  refine lv_iload hx hb dX3_added_19 (lv_at hl 4 rfl) ?_
  refine va_lald hx hb hK hP 0 2 rfl rfl (ix_in z0) dX3_added_21 ?_
  obtain ⟨r3, g3, h⟩ := g_b h
  refine kcall_i ([(q1, .inl (cJ, n1, .inr (.inl v1)))] ++ [(q2, .inl (cJ, n2, .inr (.inl v2)))]) (va_runS (As := [.long (v1 p3.toNatClampNeg)]) (rest := [.long (((p0 * 31) + r2.toInt64) * 31)]) ⟨hx, hb, hml, hown, hts⟩ (c_X3_nanoOf l dC dI cB cI cJ cZ  _  (v1 p3.toNatClampNeg) r3 g3) (kcwS hts kw_1279 kv_X3_nanoOf rfl rfl ⟨(Nat.le_of_ble_eq_true rfl), (Nat.le_of_ble_eq_true rfl)⟩) (kpS (A := A) (kPnil) hK ((kDnil (A := A))) hG) rfl rfl hl.1 rfl (lv_room (Nat.le_of_ble_eq_true rfl)) dX3_added_22 ⟨(Nat.le_of_ble_eq_true rfl), (Nat.le_of_ble_eq_true rfl)⟩) hP hD hS hA (kIT mk_0 0) (kIT mk_1 0) (km_T (m := mk_0) rfl rfl) (km_T (m := mk_0) rfl rfl) [(q1, .inl (cJ, n1, .inr (.inl v1))), (q2, .inl (cJ, n2, .inr (.inl v2)))] (km_T (m := mk_1) rfl rfl) (km_T (m := mk_1) rfl rfl) (km_cov (m := mk_0) (n := mk_1) rfl rfl) (km_dis (m := mk_0) (n := mk_1) rfl) rfl (fun H locs hP hD hS br3 => ?_)
  refine lv_i2l (v := r3.toInt64) hx hb dX3_added_25 rfl ?_
  refine lv_ladd hx hb dX3_added_26 ?_
  refine lv_lstore (lv' := [(6, .long ((((p0 * 31) + r2.toInt64) * 31) + r3.toInt64)), (0, .ref b0), (1, .long p0), (3, .ref q1), (4, .ref q2), (5, .int p3)]) hx hb dX3_added_27 hl (by decide) rfl (fun ls hl => ?_)
  refine lv_lload hx hb dX3_added_29 (lv_at hl 0 rfl) ?_
  refine lv_ldc2 (v := (31)) hx hb hown hw0 dX3_added_31 ?_
  refine lv_lmul hx hb dX3_added_34 ?_
  refine lv_aload hx hb dX3_added_35 (lv_at hl 4 rfl) ?_
  refine lv_iload hx hb dX3_added_37 (lv_at hl 5 rfl) ?_
  obtain ⟨z3, h⟩ := g_if h
  refine va_lald hx hb hK hP 1 2 rfl rfl (ix_in z3) dX3_added_39 ?_
  obtain ⟨r5, g5, h⟩ := g_b h
  refine kcall_i ([(q1, .inl (cJ, n1, .inr (.inl v1)))] ++ [(q2, .inl (cJ, n2, .inr (.inl v2)))]) (va_runS (As := [.long (v2 p3.toNatClampNeg)]) (rest := [.long (((((p0 * 31) + r2.toInt64) * 31) + r3.toInt64) * 31)]) ⟨hx, hb, hml, hown, hts⟩ (c_X3_secondOf l dC dI cB cI cJ cZ  _  (v2 p3.toNatClampNeg) r5 g5) (kcwS hts kw_1144 kv_X3_secondOf rfl rfl ⟨(Nat.le_of_ble_eq_true rfl), (Nat.le_of_ble_eq_true rfl)⟩) (kpS (A := A) (kPnil) hK ((kDnil (A := A))) hG) rfl rfl hl.1 rfl (lv_room (Nat.le_of_ble_eq_true rfl)) dX3_added_40 ⟨(Nat.le_of_ble_eq_true rfl), (Nat.le_of_ble_eq_true rfl)⟩) hP hD hS hA (kIT mk_0 0) (kIT mk_1 0) (km_T (m := mk_0) rfl rfl) (km_T (m := mk_0) rfl rfl) [(q1, .inl (cJ, n1, .inr (.inl v1))), (q2, .inl (cJ, n2, .inr (.inl v2)))] (km_T (m := mk_1) rfl rfl) (km_T (m := mk_1) rfl rfl) (km_cov (m := mk_0) (n := mk_1) rfl rfl) (km_dis (m := mk_0) (n := mk_1) rfl) rfl (fun H locs hP hD hS br5 => ?_)
  refine lv_i2l (v := r5.toInt64) hx hb dX3_added_43 rfl ?_
  refine lv_ladd hx hb dX3_added_44 ?_
  refine lv_ldc2 (v := (31)) hx hb hown hw0 dX3_added_45 ?_
  refine lv_lmul hx hb dX3_added_48 ?_
  refine lv_aload hx hb dX3_added_49 (lv_at hl 4 rfl) ?_
  refine lv_iload hx hb dX3_added_51 (lv_at hl 5 rfl) ?_
  refine va_lald hx hb hK hP 1 2 rfl rfl (ix_in z3) dX3_added_53 ?_
  obtain ⟨r6, g6, h⟩ := g_b h
  refine kcall_i ([(q1, .inl (cJ, n1, .inr (.inl v1)))] ++ [(q2, .inl (cJ, n2, .inr (.inl v2)))]) (va_runS (As := [.long (v2 p3.toNatClampNeg)]) (rest := [.long (((((((p0 * 31) + r2.toInt64) * 31) + r3.toInt64) * 31) + r5.toInt64) * 31)]) ⟨hx, hb, hml, hown, hts⟩ (c_X3_nanoOf l dC dI cB cI cJ cZ  _  (v2 p3.toNatClampNeg) r6 g6) (kcwS hts kw_1279 kv_X3_nanoOf rfl rfl ⟨(Nat.le_of_ble_eq_true rfl), (Nat.le_of_ble_eq_true rfl)⟩) (kpS (A := A) (kPnil) hK ((kDnil (A := A))) hG) rfl rfl hl.1 rfl (lv_room (Nat.le_of_ble_eq_true rfl)) dX3_added_54 ⟨(Nat.le_of_ble_eq_true rfl), (Nat.le_of_ble_eq_true rfl)⟩) hP hD hS hA (kIT mk_0 0) (kIT mk_1 0) (km_T (m := mk_0) rfl rfl) (km_T (m := mk_0) rfl rfl) [(q1, .inl (cJ, n1, .inr (.inl v1))), (q2, .inl (cJ, n2, .inr (.inl v2)))] (km_T (m := mk_1) rfl rfl) (km_T (m := mk_1) rfl rfl) (km_cov (m := mk_0) (n := mk_1) rfl rfl) (km_dis (m := mk_0) (n := mk_1) rfl) rfl (fun H locs hP hD hS br6 => ?_)
  refine lv_i2l (v := r6.toInt64) hx hb dX3_added_57 rfl ?_
  refine lv_ladd hx hb dX3_added_58 ?_
  have h := Option.some.inj h
  subst h
  exact kret_l (v := (((((((p0 * 31) + r2.toInt64) * 31) + r3.toInt64) * 31) + r5.toInt64) * 31) + r6.toInt64) hx hb hr hlocks hS hP dX3_added_59
abbrev wsX3_digest : List Cond := kWs yX3_digest cX3_digest 5 (some .long)
def f_X3_digest_279 : Nat → (Int64) → (Int64) → (Nat → Int64) → (Nat → Int64) → (Nat → Int32) → (Int32) → (Nat → Int64) → (Nat → Int64) → (Int32) → (Int32) → (Int32) → (Int32) → (Nat → Int32) → (Int64) → (Int32) → Option ((Int64) × (Int32))
  | 0, _, _, _, _, _, _, _, _, _, _, _, _, _, _, _ => none
  | n + 1, mfr, mun, mbe, men, mov, msp, mwb, mwe, mwi, mac, mre, mkn, ext0, x1, x4 =>
    if mwi ≤ x4 then
      (f_X3_chosenNow mwb mwe mwi).bind fun r2 =>
      (f_X3_mostOfAll mwb mwe mwi).bind fun r3 =>
      (f_X3_crowd mwb mwe mwi).bind fun r4 =>
      (f_X3_house mac mre mkn 0).bind fun r5 =>
      (f_X3_house mac mre mkn 1).bind fun r6 =>
      (f_X3_house mac mre mkn 2).bind fun r7 =>
      (f_X3_isSound mfr mun mbe men mov msp mwb mwe mwi).bind fun r8 =>
      if r8.1 = 0 then
        some ((((((((((((((x1 * 31) + r2.toInt64) * 31) + r3.toInt64) * 31) + r4.1.toInt64) * 31) + r5.1.toInt64) * 31) + r6.1.toInt64) * 31) + r7.1.toInt64) * 31) + ((0 : Int32).toInt64), 0)
      else
        some ((((((((((((((x1 * 31) + r2.toInt64) * 31) + r3.toInt64) * 31) + r4.1.toInt64) * 31) + r5.1.toInt64) * 31) + r6.1.toInt64) * 31) + r7.1.toInt64) * 31) + ((1 : Int32).toInt64), 0)
    else
      (f_X3_added 8 8 mwb mwe x1 x4).bind fun r2 =>
      if ix x4 mwi.toNatClampNeg then
        f_X3_digest_279 n mfr mun mbe men mov msp mwb mwe mwi mac mre mkn ext0 ((r2 * 31) + ((ext0 x4.toNatClampNeg).toInt64)) (x4 + 1)
      else none
theorem f_X3_digest_279_0 {mfr : Int64} {mun : Int64} {mbe : Nat → Int64} {men : Nat → Int64} {mov : Nat → Int32} {msp : Int32} {mwb : Nat → Int64} {mwe : Nat → Int64} {mwi : Int32} {mac : Int32} {mre : Int32} {mkn : Int32} {ext0 : Nat → Int32} {x1 : Int64} {x4 : Int32} : f_X3_digest_279 0 mfr mun mbe men mov msp mwb mwe mwi mac mre mkn ext0 x1 x4 = none := rfl
theorem f_X3_digest_279_s {n : Nat} {mfr : Int64} {mun : Int64} {mbe : Nat → Int64} {men : Nat → Int64} {mov : Nat → Int32} {msp : Int32} {mwb : Nat → Int64} {mwe : Nat → Int64} {mwi : Int32} {mac : Int32} {mre : Int32} {mkn : Int32} {ext0 : Nat → Int32} {x1 : Int64} {x4 : Int32} : f_X3_digest_279 (n + 1) mfr mun mbe men mov msp mwb mwe mwi mac mre mkn ext0 x1 x4 =
  if mwi ≤ x4 then
    (f_X3_chosenNow mwb mwe mwi).bind fun r2 =>
    (f_X3_mostOfAll mwb mwe mwi).bind fun r3 =>
    (f_X3_crowd mwb mwe mwi).bind fun r4 =>
    (f_X3_house mac mre mkn 0).bind fun r5 =>
    (f_X3_house mac mre mkn 1).bind fun r6 =>
    (f_X3_house mac mre mkn 2).bind fun r7 =>
    (f_X3_isSound mfr mun mbe men mov msp mwb mwe mwi).bind fun r8 =>
    if r8.1 = 0 then
      some ((((((((((((((x1 * 31) + r2.toInt64) * 31) + r3.toInt64) * 31) + r4.1.toInt64) * 31) + r5.1.toInt64) * 31) + r6.1.toInt64) * 31) + r7.1.toInt64) * 31) + ((0 : Int32).toInt64), 0)
    else
      some ((((((((((((((x1 * 31) + r2.toInt64) * 31) + r3.toInt64) * 31) + r4.1.toInt64) * 31) + r5.1.toInt64) * 31) + r6.1.toInt64) * 31) + r7.1.toInt64) * 31) + ((1 : Int32).toInt64), 0)
  else
    (f_X3_added 8 8 mwb mwe x1 x4).bind fun r2 =>
    if ix x4 mwi.toNatClampNeg then
      f_X3_digest_279 n mfr mun mbe men mov msp mwb mwe mwi mac mre mkn ext0 ((r2 * 31) + ((ext0 x4.toNatClampNeg).toInt64)) (x4 + 1)
    else none := rfl
def f_X3_digest_188 : Nat → (Int64) → (Int64) → (Nat → Int64) → (Nat → Int64) → (Nat → Int32) → (Int32) → (Nat → Int64) → (Nat → Int64) → (Int32) → (Int32) → (Int32) → (Int32) → (Int64) → (Int32) → Option ((Int64) × (Int32))
  | 0, _, _, _, _, _, _, _, _, _, _, _, _, _, _ => none
  | n + 1, mfr, mun, mbe, men, mov, msp, mwb, mwe, mwi, mac, mre, mkn, x1, x3 =>
    (f_X3_frees mfr mun mbe men msp).bind fun r1 =>
    if r1.1 ≤ x3 then
      (f_X3_length mfr mun mbe men msp 0).bind fun r3 =>
      (f_X3_length mfr mun mbe men msp 1).bind fun r4 =>
      (f_X3_length mfr mun mbe men msp 2).bind fun r5 =>
      (f_X3_length mfr mun mbe men msp 3).bind fun r6 =>
      (f_X3_length mfr mun mbe men msp 4).bind fun r7 =>
      (f_X3_length mfr mun mbe men msp 5).bind fun r8 =>
      (f_X3_roomsNow mwb mwe mwi).bind fun r9 =>
      f_X3_digest_279 24 mfr mun mbe men mov msp mwb mwe mwi mac mre mkn r9 ((((((((((((((x1 * 31) + r3.1.toInt64) * 31) + r4.1.toInt64) * 31) + r5.1.toInt64) * 31) + r6.1.toInt64) * 31) + r7.1.toInt64) * 31) + r8.1.toInt64) * 31) + mwi.toInt64) 0
    else
      (f_X3_ofFree mfr mun mbe men msp x3 0).bind fun r3 =>
      (f_X3_ofFree mfr mun mbe men msp x3 1).bind fun r4 =>
      (f_X3_ofFree mfr mun mbe men msp x3 2).bind fun r5 =>
      (f_X3_ofFree mfr mun mbe men msp x3 3).bind fun r6 =>
      f_X3_digest_188 n mfr mun mbe men mov msp mwb mwe mwi mac mre mkn ((((((((x1 * 31) + r3.1.toInt64) * 31) + r4.1.toInt64) * 31) + r5.1.toInt64) * 31) + r6.1.toInt64) (x3 + 1)
theorem f_X3_digest_188_0 {mfr : Int64} {mun : Int64} {mbe : Nat → Int64} {men : Nat → Int64} {mov : Nat → Int32} {msp : Int32} {mwb : Nat → Int64} {mwe : Nat → Int64} {mwi : Int32} {mac : Int32} {mre : Int32} {mkn : Int32} {x1 : Int64} {x3 : Int32} : f_X3_digest_188 0 mfr mun mbe men mov msp mwb mwe mwi mac mre mkn x1 x3 = none := rfl
theorem f_X3_digest_188_s {n : Nat} {mfr : Int64} {mun : Int64} {mbe : Nat → Int64} {men : Nat → Int64} {mov : Nat → Int32} {msp : Int32} {mwb : Nat → Int64} {mwe : Nat → Int64} {mwi : Int32} {mac : Int32} {mre : Int32} {mkn : Int32} {x1 : Int64} {x3 : Int32} : f_X3_digest_188 (n + 1) mfr mun mbe men mov msp mwb mwe mwi mac mre mkn x1 x3 =
  (f_X3_frees mfr mun mbe men msp).bind fun r1 =>
  if r1.1 ≤ x3 then
    (f_X3_length mfr mun mbe men msp 0).bind fun r3 =>
    (f_X3_length mfr mun mbe men msp 1).bind fun r4 =>
    (f_X3_length mfr mun mbe men msp 2).bind fun r5 =>
    (f_X3_length mfr mun mbe men msp 3).bind fun r6 =>
    (f_X3_length mfr mun mbe men msp 4).bind fun r7 =>
    (f_X3_length mfr mun mbe men msp 5).bind fun r8 =>
    (f_X3_roomsNow mwb mwe mwi).bind fun r9 =>
    f_X3_digest_279 24 mfr mun mbe men mov msp mwb mwe mwi mac mre mkn r9 ((((((((((((((x1 * 31) + r3.1.toInt64) * 31) + r4.1.toInt64) * 31) + r5.1.toInt64) * 31) + r6.1.toInt64) * 31) + r7.1.toInt64) * 31) + r8.1.toInt64) * 31) + mwi.toInt64) 0
  else
    (f_X3_ofFree mfr mun mbe men msp x3 0).bind fun r3 =>
    (f_X3_ofFree mfr mun mbe men msp x3 1).bind fun r4 =>
    (f_X3_ofFree mfr mun mbe men msp x3 2).bind fun r5 =>
    (f_X3_ofFree mfr mun mbe men msp x3 3).bind fun r6 =>
    f_X3_digest_188 n mfr mun mbe men mov msp mwb mwe mwi mac mre mkn ((((((((x1 * 31) + r3.1.toInt64) * 31) + r4.1.toInt64) * 31) + r5.1.toInt64) * 31) + r6.1.toInt64) (x3 + 1) := rfl
def f_X3_digest_105 : Nat → (Int64) → (Int64) → (Nat → Int64) → (Nat → Int64) → (Nat → Int32) → (Int32) → (Nat → Int64) → (Nat → Int64) → (Int32) → (Int32) → (Int32) → (Int32) → (Int64) → (Int32) → Option ((Int64) × (Int32))
  | 0, _, _, _, _, _, _, _, _, _, _, _, _, _, _ => none
  | n + 1, mfr, mun, mbe, men, mov, msp, mwb, mwe, mwi, mac, mre, mkn, x1, x3 =>
    if msp ≤ x3 then
      (f_X3_clashes mbe men msp).bind fun r2 =>
      (f_X3_deepest_ mbe men msp).bind fun r3 =>
      (f_X3_frees mfr mun mbe men msp).bind fun r4 =>
      f_X3_digest_188 14 mfr mun mbe men mov msp mwb mwe mwi mac mre mkn ((((((x1 * 31) + r2.1.toInt64) * 31) + r3.1.toInt64) * 31) + r4.1.toInt64) 0
    else
      (f_X3_added 10 10 mbe men x1 x3).bind fun r2 =>
      if ix x3 10 then
        if (mov x3.toNatClampNeg) = 0 then
          f_X3_digest_105 n mfr mun mbe men mov msp mwb mwe mwi mac mre mkn ((r2 * 31) + ((0 : Int32).toInt64)) (x3 + 1)
        else
          f_X3_digest_105 n mfr mun mbe men mov msp mwb mwe mwi mac mre mkn ((r2 * 31) + ((1 : Int32).toInt64)) (x3 + 1)
      else none
theorem f_X3_digest_105_0 {mfr : Int64} {mun : Int64} {mbe : Nat → Int64} {men : Nat → Int64} {mov : Nat → Int32} {msp : Int32} {mwb : Nat → Int64} {mwe : Nat → Int64} {mwi : Int32} {mac : Int32} {mre : Int32} {mkn : Int32} {x1 : Int64} {x3 : Int32} : f_X3_digest_105 0 mfr mun mbe men mov msp mwb mwe mwi mac mre mkn x1 x3 = none := rfl
theorem f_X3_digest_105_s {n : Nat} {mfr : Int64} {mun : Int64} {mbe : Nat → Int64} {men : Nat → Int64} {mov : Nat → Int32} {msp : Int32} {mwb : Nat → Int64} {mwe : Nat → Int64} {mwi : Int32} {mac : Int32} {mre : Int32} {mkn : Int32} {x1 : Int64} {x3 : Int32} : f_X3_digest_105 (n + 1) mfr mun mbe men mov msp mwb mwe mwi mac mre mkn x1 x3 =
  if msp ≤ x3 then
    (f_X3_clashes mbe men msp).bind fun r2 =>
    (f_X3_deepest_ mbe men msp).bind fun r3 =>
    (f_X3_frees mfr mun mbe men msp).bind fun r4 =>
    f_X3_digest_188 14 mfr mun mbe men mov msp mwb mwe mwi mac mre mkn ((((((x1 * 31) + r2.1.toInt64) * 31) + r3.1.toInt64) * 31) + r4.1.toInt64) 0
  else
    (f_X3_added 10 10 mbe men x1 x3).bind fun r2 =>
    if ix x3 10 then
      if (mov x3.toNatClampNeg) = 0 then
        f_X3_digest_105 n mfr mun mbe men mov msp mwb mwe mwi mac mre mkn ((r2 * 31) + ((0 : Int32).toInt64)) (x3 + 1)
      else
        f_X3_digest_105 n mfr mun mbe men mov msp mwb mwe mwi mac mre mkn ((r2 * 31) + ((1 : Int32).toInt64)) (x3 + 1)
    else none := rfl
def f_X3_digest (mce : Nat → Int64) (mfr : Int64) (mun : Int64) (mbe : Nat → Int64) (men : Nat → Int64) (mov : Nat → Int32) (msp : Int32) (mwb : Nat → Int64) (mwe : Nat → Int64) (mwi : Int32) (mac : Int32) (mre : Int32) (mkn : Int32) : Option ((Int64) × (Int32)) :=
  (f_X3_second mce 0).bind fun r1 =>
  (f_X3_nano mce 0).bind fun r2 =>
  (f_X3_at mce mbe men msp 0).bind fun r3 =>
  (f_X3_freeAt mce mfr mun mbe men msp 0).bind fun r4 =>
  (f_X3_second mce 1).bind fun r5 =>
  (f_X3_nano mce 1).bind fun r6 =>
  (f_X3_at mce mbe men msp 1).bind fun r7 =>
  (f_X3_freeAt mce mfr mun mbe men msp 1).bind fun r8 =>
  (f_X3_second mce 2).bind fun r9 =>
  (f_X3_nano mce 2).bind fun r10 =>
  (f_X3_at mce mbe men msp 2).bind fun r11 =>
  (f_X3_freeAt mce mfr mun mbe men msp 2).bind fun r12 =>
  (f_X3_second mce 3).bind fun r13 =>
  (f_X3_nano mce 3).bind fun r14 =>
  (f_X3_at mce mbe men msp 3).bind fun r15 =>
  (f_X3_freeAt mce mfr mun mbe men msp 3).bind fun r16 =>
  (f_X3_calendar mfr mun 0).bind fun r17 =>
  (f_X3_calendar mfr mun 1).bind fun r18 =>
  (f_X3_calendar mfr mun 2).bind fun r19 =>
  (f_X3_calendar mfr mun 3).bind fun r20 =>
  f_X3_digest_105 24 mfr mun mbe men mov msp mwb mwe mwi mac mre mkn ((((((((((((((((((((((((((((((((((((((((((8009 * 31) + r1.1.toInt64) * 31) + r2.1.toInt64) * 31) + r3.1.toInt64) * 31) + r4.1.toInt64) * 31) + r5.1.toInt64) * 31) + r6.1.toInt64) * 31) + r7.1.toInt64) * 31) + r8.1.toInt64) * 31) + r9.1.toInt64) * 31) + r10.1.toInt64) * 31) + r11.1.toInt64) * 31) + r12.1.toInt64) * 31) + r13.1.toInt64) * 31) + r14.1.toInt64) * 31) + r15.1.toInt64) * 31) + r16.1.toInt64) * 31) + r17.1.toInt64) * 31) + r18.1.toInt64) * 31) + r19.1.toInt64) * 31) + r20.1.toInt64) * 31) + msp.toInt64) 0
theorem f_X3_digest_e {mce : Nat → Int64} {mfr : Int64} {mun : Int64} {mbe : Nat → Int64} {men : Nat → Int64} {mov : Nat → Int32} {msp : Int32} {mwb : Nat → Int64} {mwe : Nat → Int64} {mwi : Int32} {mac : Int32} {mre : Int32} {mkn : Int32} : f_X3_digest mce mfr mun mbe men mov msp mwb mwe mwi mac mre mkn = 
  (f_X3_second mce 0).bind fun r1 =>
  (f_X3_nano mce 0).bind fun r2 =>
  (f_X3_at mce mbe men msp 0).bind fun r3 =>
  (f_X3_freeAt mce mfr mun mbe men msp 0).bind fun r4 =>
  (f_X3_second mce 1).bind fun r5 =>
  (f_X3_nano mce 1).bind fun r6 =>
  (f_X3_at mce mbe men msp 1).bind fun r7 =>
  (f_X3_freeAt mce mfr mun mbe men msp 1).bind fun r8 =>
  (f_X3_second mce 2).bind fun r9 =>
  (f_X3_nano mce 2).bind fun r10 =>
  (f_X3_at mce mbe men msp 2).bind fun r11 =>
  (f_X3_freeAt mce mfr mun mbe men msp 2).bind fun r12 =>
  (f_X3_second mce 3).bind fun r13 =>
  (f_X3_nano mce 3).bind fun r14 =>
  (f_X3_at mce mbe men msp 3).bind fun r15 =>
  (f_X3_freeAt mce mfr mun mbe men msp 3).bind fun r16 =>
  (f_X3_calendar mfr mun 0).bind fun r17 =>
  (f_X3_calendar mfr mun 1).bind fun r18 =>
  (f_X3_calendar mfr mun 2).bind fun r19 =>
  (f_X3_calendar mfr mun 3).bind fun r20 =>
  f_X3_digest_105 24 mfr mun mbe men mov msp mwb mwe mwi mac mre mkn ((((((((((((((((((((((((((((((((((((((((((8009 * 31) + r1.1.toInt64) * 31) + r2.1.toInt64) * 31) + r3.1.toInt64) * 31) + r4.1.toInt64) * 31) + r5.1.toInt64) * 31) + r6.1.toInt64) * 31) + r7.1.toInt64) * 31) + r8.1.toInt64) * 31) + r9.1.toInt64) * 31) + r10.1.toInt64) * 31) + r11.1.toInt64) * 31) + r12.1.toInt64) * 31) + r13.1.toInt64) * 31) + r14.1.toInt64) * 31) + r15.1.toInt64) * 31) + r16.1.toInt64) * 31) + r17.1.toInt64) * 31) + r18.1.toInt64) * 31) + r19.1.toInt64) * 31) + r20.1.toInt64) * 31) + msp.toInt64) 0 := rfl
set_option maxHeartbeats 4000000 in
set_option maxRecDepth 100000 in
theorem c_X3_digest (l : Launch) (dC : Nat → ClassId) (dI : Nat → Nat → Nat) (cB cI cJ cZ : ClassId) (b : Nat → Nat) (sz : Nat) (mce : Nat → Int64) (mfr : Int64) (mun : Int64) (mbe : Nat → Int64) (men : Nat → Int64) (mov : Nat → Int32) (msp : Int32) (mwb : Nat → Int64) (mwe : Nat → Int64) (mwi : Int32) (mac : Int32) (mre : Int32) (mkn : Int32) (mth : Int32) (res : (Int64) × (Int32)) (hf : f_X3_digest mce mfr mun mbe men mov msp mwb mwe mwi mac mre mkn = some res) : Met l yX3_digest wsX3_digest ({ frames := 5, cells := 86, slots := 1880, locals := 119 } : Room) (kPre (dC, dI) (kTy cB cI cJ cZ) [.ref (b 0)] sz (wMo cJ cZ b mce mfr mun mbe men mov msp mwb mwe mwi mac mre mkn mth)) (kL (dC, dI) (res.1) (wMo cJ cZ b mce mfr mun mbe men mov msp mwb mwe mwi mac mre mkn (res.2)) (va_A (wMo cJ cZ b mce mfr mun mbe men mov msp mwb mwe mwi mac mre mkn mth) sz)) 86 1880 (va_A (wMo cJ cZ b mce mfr mun mbe men mov msp mwb mwe mwi mac mre mkn mth) sz) := by
  refine Met.ofW (cc := cX3_digest) (maxL := 5) (ret := (some .long)) (by decide) rfl ?_
  intro p e s m args below meth c s₁ B hml hv
  obtain ⟨rfl, hsz, hP, hK, hD0, hG⟩ := hv
  have hx := B.exec
  have hb := B.bytes
  have hr := B.returns
  have hts := atoms_spec (ws := wsX3_digest) B.pre
  have hown : s.vm.findClass RX3 = some m.cls := findClass_of_methodNamed B.named
  have hlocks := B.notSynchronized
  subst hsz
  have hD := hD0.self (sz := s.heap.size)
  generalize hAe : va_A (wMo cJ cZ b mce mfr mun mbe men mov msp mwb mwe mwi mac mre mkn mth) s.heap.size = A at hD ⊢
  have hA : ∀ q : Nat, s.heap.size ≤ q → A q := fun q h => by rw [← hAe]; exact Or.inr h
  have hS : va_S A s.heap s.heap [] := va_S.rf
  clear hAe
  have hw0 := hts (.constantLong RX3 245 (8009)) (List.mem_cons_of_mem _ kw_1474)
  have hw1 := hts (.constantLong RX3 243 (31)) (List.mem_cons_of_mem _ kw_1475)
  have hw2 := hts (.fieldLink RX3 56 "SpanbookerModel" "spans" "I") (List.mem_cons_of_mem _ kw_1078)
  have hw3 := hts (.fieldLink RX3 88 "SpanbookerModel" "wishes" "I") (List.mem_cons_of_mem _ kw_1081)
  have hw4 := hts (.fieldLink RX3 35 "SpanbookerModel" "thrown" "I") (List.mem_cons_of_mem _ kw_1085)
  have hw5 := hts (.fieldLink RX3 29 "SpanbookerModel" "wishBegins" "[J") (List.mem_cons_of_mem _ kw_1079)
  have hw6 := hts (.fieldLink RX3 32 "SpanbookerModel" "wishEnds" "[J") (List.mem_cons_of_mem _ kw_1080)
  have hw7 := hts (.fieldLink RX3 19 "SpanbookerModel" "begins" "[J") (List.mem_cons_of_mem _ kw_1075)
  have hw8 := hts (.fieldLink RX3 22 "SpanbookerModel" "ends" "[J") (List.mem_cons_of_mem _ kw_1076)
  have hw9 := hts (.fieldLink RX3 25 "SpanbookerModel" "over" "[Z") (List.mem_cons_of_mem _ kw_1077)
  have hiX3 : ∀ w ∈ u_ws RX3 TX3 14, w ∈ wsX3_digest := fun w h => List.mem_cons_of_mem _ (ku_X3 w h)
  have J279 : ∀ (n : Nat), ∀ (mce : Nat → Int64) (mfr : Int64) (mun : Int64) (mbe : Nat → Int64) (men : Nat → Int64) (mov : Nat → Int32) (msp : Int32) (mwb : Nat → Int64) (mwe : Nat → Int64) (mwi : Int32) (mac : Int32) (mre : Int32) (mkn : Int32) (mth : Int32) (ext0 : Nat → Int32) (x1 : Int64) (x4 : Int32) (qn0 : Nat) (H : Heap) (locs : List Loc) (kc ks : Nat), kc + (n * 0 + 3) ≤ 86 → ks + (n * 0 + 60) ≤ 1880 → va_P (dC, dI) vwCl ((wMo cJ cZ b mce mfr mun mbe men mov msp mwb mwe mwi mac mre mkn mth) ++ [(qn0, .inl (cI, mwi.toNatClampNeg, .inl ext0))]) H → va_D A ((wMo cJ cZ b mce mfr mun mbe men mov msp mwb mwe mwi mac mre mkn mth) ++ [(qn0, .inl (cI, mwi.toNatClampNeg, .inl ext0))]) → va_S A s.heap H locs → ∀ (ls : Array Slot), lv_has ls 5 [(0, .ref (b 0)), (1, .long x1), (3, .ref qn0), (4, .int x4)] → f_X3_digest_279 n mfr mun mbe men mov msp mwb mwe mwi mac mre mkn ext0 x1 x4 = some res → W p l e (headSpec wsX3_digest ({ frames := 5, cells := 86, slots := 1880, locals := 119 } : Room)).room s m ([.ref (b 0)] : List Value).toArray below meth c H locs kc ks (MQ below (kL (dC, dI) (res.1) (wMo cJ cZ b mce mfr mun mbe men mov msp mwb mwe mwi mac mre mkn (res.2)) A) ([.ref (b 0)] : List Value).toArray s 86 1880 A) (F0 m 279 ls []) := by
    intro n
    induction n with
    | zero =>
      intro mce mfr mun mbe men mov msp mwb mwe mwi mac mre mkn mth ext0 x1 x4 qn0 H locs kc ks hkc hks hP hD hS ls hl h
      have h := f_X3_digest_279_0.symm.trans h
      cases h
    | succ n ih =>
      intro mce mfr mun mbe men mov msp mwb mwe mwi mac mre mkn mth ext0 x1 x4 qn0 H locs kc ks hkc hks hP hD hS ls hl h
      have h := f_X3_digest_279_s.symm.trans h
      refine lv_iload hx hb dX3_digest_279 (lv_at hl 3 rfl) ?_
      refine lv_aload_n hx hb dX3_digest_281 rfl (lv_at hl 0 rfl) ?_
      refine va_get (D := (dC, dI)) (ci := 5) (v := .int mwi) (C := RX3) (T := TX3) (N := 14) hx hb hts hiX3 hown hK hP 0 rfl rfl 9 (by decide) hw3 (fun _ h9 => h9) rfl dX3_digest_282 ?_
      refine lv_icmp_ge (tgt := 320) hx hb dX3_digest_285 (by decide) (fun c1 => ?_) (fun c1 => ?_)
      · have h := g_t c1 h
        refine lv_lload_n hx hb dX3_digest_320 rfl (lv_at hl 1 rfl) ?_
        refine lv_ldc2 (v := (31)) hx hb hown hw1 dX3_digest_321 ?_
        refine lv_lmul hx hb dX3_digest_324 ?_
        refine lv_aload_n hx hb dX3_digest_325 rfl (lv_at hl 0 rfl) ?_
        obtain ⟨r2, g2, h⟩ := g_b h
        refine kcall_i ((wMo cJ cZ b mce mfr mun mbe men mov msp mwb mwe mwi mac mre mkn mth) ++ [(qn0, .inl (cI, mwi.toNatClampNeg, .inl ext0))]) (va_runV (As := []) (rest := [.long (x1 * 31)]) ⟨hx, hb, hml, hown, hts⟩ (c_X3_chosenNow l dC dI cB cI cJ cZ b _ mce mfr mun mbe men mov msp mwb mwe mwi mac mre mkn mth  r2 g2) (kcwV hts kw_1415 kv_X3_chosenNow rfl rfl ⟨(Nat.le_of_ble_eq_true rfl), (Nat.le_of_ble_eq_true rfl)⟩) (kpV (A := A) (hP.sub (kIT mk_27 0) (km_f (m := mk_27) rfl rfl)) hK (hD.sub (kIT mk_27 0) (km_nd mk_27) (km_T (m := mk_27) rfl rfl)) hG (va_recv hK hP (ci := 5) (q0 := 0) rfl rfl)) rfl rfl hl.1 rfl (lv_room (Nat.le_of_ble_eq_true rfl)) dX3_digest_326 ⟨by show _ ≤ (86 : Nat); omega, by show _ ≤ (1880 : Nat); omega⟩) hP hD hS hA (kIT mk_27 0) (kIT mk_28 0) (km_T (m := mk_27) rfl rfl) (km_T (m := mk_27) rfl rfl) [(qn0, .inl (cI, mwi.toNatClampNeg, .inl ext0))] (km_T (m := mk_28) rfl rfl) (km_T (m := mk_28) rfl rfl) (km_cov (m := mk_27) (n := mk_28) rfl rfl) (km_dis (m := mk_27) (n := mk_28) rfl) rfl (fun H locs hP hD hS br2 => ?_)
        refine lv_i2l (v := r2.toInt64) hx hb dX3_digest_329 rfl ?_
        refine lv_ladd hx hb dX3_digest_330 ?_
        refine lv_ldc2 (v := (31)) hx hb hown hw1 dX3_digest_331 ?_
        refine lv_lmul hx hb dX3_digest_334 ?_
        refine lv_aload_n hx hb dX3_digest_335 rfl (lv_at hl 0 rfl) ?_
        obtain ⟨r3, g3, h⟩ := g_b h
        refine kcall_i ((wMo cJ cZ b mce mfr mun mbe men mov msp mwb mwe mwi mac mre mkn mth) ++ [(qn0, .inl (cI, mwi.toNatClampNeg, .inl ext0))]) (va_runV (As := []) (rest := [.long (((x1 * 31) + r2.toInt64) * 31)]) ⟨hx, hb, hml, hown, hts⟩ (c_X3_mostOfAll l dC dI cB cI cJ cZ b _ mce mfr mun mbe men mov msp mwb mwe mwi mac mre mkn mth  r3 g3) (kcwV hts kw_1426 kv_X3_mostOfAll rfl rfl ⟨(Nat.le_of_ble_eq_true rfl), (Nat.le_of_ble_eq_true rfl)⟩) (kpV (A := A) (hP.sub (kIT mk_27 0) (km_f (m := mk_27) rfl rfl)) hK (hD.sub (kIT mk_27 0) (km_nd mk_27) (km_T (m := mk_27) rfl rfl)) hG (va_recv hK hP (ci := 5) (q0 := 0) rfl rfl)) rfl rfl hl.1 rfl (lv_room (Nat.le_of_ble_eq_true rfl)) dX3_digest_336 ⟨by show _ ≤ (86 : Nat); omega, by show _ ≤ (1880 : Nat); omega⟩) hP hD hS hA (kIT mk_27 0) (kIT mk_28 0) (km_T (m := mk_27) rfl rfl) (km_T (m := mk_27) rfl rfl) [(qn0, .inl (cI, mwi.toNatClampNeg, .inl ext0))] (km_T (m := mk_28) rfl rfl) (km_T (m := mk_28) rfl rfl) (km_cov (m := mk_27) (n := mk_28) rfl rfl) (km_dis (m := mk_27) (n := mk_28) rfl) rfl (fun H locs hP hD hS br3 => ?_)
        refine lv_i2l (v := r3.toInt64) hx hb dX3_digest_339 rfl ?_
        refine lv_ladd hx hb dX3_digest_340 ?_
        refine lv_ldc2 (v := (31)) hx hb hown hw1 dX3_digest_341 ?_
        refine lv_lmul hx hb dX3_digest_344 ?_
        refine lv_aload_n hx hb dX3_digest_345 rfl (lv_at hl 0 rfl) ?_
        obtain ⟨r4, g4, h⟩ := g_b h
        refine kcall_i ((wMo cJ cZ b mce mfr mun mbe men mov msp mwb mwe mwi mac mre mkn r4.2) ++ [(qn0, .inl (cI, mwi.toNatClampNeg, .inl ext0))]) (va_runV (As := []) (rest := [.long (((((x1 * 31) + r2.toInt64) * 31) + r3.toInt64) * 31)]) ⟨hx, hb, hml, hown, hts⟩ (c_X3_crowd l dC dI cB cI cJ cZ b _ mce mfr mun mbe men mov msp mwb mwe mwi mac mre mkn mth  r4 g4) (kcwV hts kw_1490 kv_X3_crowd rfl rfl ⟨(Nat.le_of_ble_eq_true rfl), (Nat.le_of_ble_eq_true rfl)⟩) (kpV (A := A) (hP.sub (kIT mk_27 0) (km_f (m := mk_27) rfl rfl)) hK (hD.sub (kIT mk_27 0) (km_nd mk_27) (km_T (m := mk_27) rfl rfl)) hG (va_recv hK hP (ci := 5) (q0 := 0) rfl rfl)) rfl rfl hl.1 rfl (lv_room (Nat.le_of_ble_eq_true rfl)) dX3_digest_346 ⟨by show _ ≤ (86 : Nat); omega, by show _ ≤ (1880 : Nat); omega⟩) hP hD hS hA (kIT mk_27 0) (kIT mk_28 0) (km_T (m := mk_27) rfl rfl) (km_T (m := mk_27) rfl rfl) [(qn0, .inl (cI, mwi.toNatClampNeg, .inl ext0))] (km_T (m := mk_28) rfl rfl) (km_T (m := mk_28) rfl rfl) (km_cov (m := mk_27) (n := mk_28) rfl rfl) (km_dis (m := mk_27) (n := mk_28) rfl) rfl (fun H locs hP hD hS br4 => ?_)
        refine lv_i2l (v := r4.1.toInt64) hx hb dX3_digest_349 rfl ?_
        refine lv_ladd hx hb dX3_digest_350 ?_
        refine lv_lstore_n (lv' := [(1, .long ((((((x1 * 31) + r2.toInt64) * 31) + r3.toInt64) * 31) + r4.1.toInt64)), (0, .ref (b 0)), (3, .ref qn0), (4, .int x4)]) hx hb dX3_digest_351 rfl hl (by decide) rfl (fun ls hl => ?_)
        refine lv_iconst (v := 0) hx hb dX3_digest_352 (by decide) ?_
        refine lv_istore (lv' := [(4, .int 0), (1, .long ((((((x1 * 31) + r2.toInt64) * 31) + r3.toInt64) * 31) + r4.1.toInt64)), (0, .ref (b 0)), (3, .ref qn0)]) hx hb dX3_digest_353 hl (by decide) rfl (fun ls hl => ?_)
        refine lv_iload hx hb dX3_digest_355 (lv_at hl 0 rfl) ?_
        refine lv_iconst (v := 3) hx hb dX3_digest_357 (by decide) ?_
        refine lv_icmp_ge (tgt := 381) hx hb dX3_digest_358 (by decide) (fun c9 => absurd c9 (by decide)) (fun _ => ?_)
        refine lv_lload_n hx hb dX3_digest_361 rfl (lv_at hl 1 rfl) ?_
        refine lv_ldc2 (v := (31)) hx hb hown hw1 dX3_digest_362 ?_
        refine lv_lmul hx hb dX3_digest_365 ?_
        refine lv_aload_n hx hb dX3_digest_366 rfl (lv_at hl 2 rfl) ?_
        refine lv_iload hx hb dX3_digest_367 (lv_at hl 0 rfl) ?_
        obtain ⟨r5, g5, h⟩ := g_b h
        refine kcall_i ((wMo cJ cZ b mce mfr mun mbe men mov msp mwb mwe mwi mac mre mkn r5.2) ++ [(qn0, .inl (cI, mwi.toNatClampNeg, .inl ext0))]) (va_runV (As := [.int 0]) (rest := [.long (((((((x1 * 31) + r2.toInt64) * 31) + r3.toInt64) * 31) + r4.1.toInt64) * 31)]) ⟨hx, hb, hml, hown, hts⟩ (c_X3_house l dC dI cB cI cJ cZ b _ mce mfr mun mbe men mov msp mwb mwe mwi mac mre mkn r4.2 0 r5 g5) (kcwV hts kw_1491 kv_X3_house rfl rfl ⟨(Nat.le_of_ble_eq_true rfl), (Nat.le_of_ble_eq_true rfl)⟩) (kpV (A := A) (hP.sub (kIT mk_27 0) (km_f (m := mk_27) rfl rfl)) hK (hD.sub (kIT mk_27 0) (km_nd mk_27) (km_T (m := mk_27) rfl rfl)) hG (va_recv hK hP (ci := 5) (q0 := 0) rfl rfl)) rfl rfl hl.1 rfl (lv_room (Nat.le_of_ble_eq_true rfl)) dX3_digest_369 ⟨by show _ ≤ (86 : Nat); omega, by show _ ≤ (1880 : Nat); omega⟩) hP hD hS hA (kIT mk_27 0) (kIT mk_28 0) (km_T (m := mk_27) rfl rfl) (km_T (m := mk_27) rfl rfl) [(qn0, .inl (cI, mwi.toNatClampNeg, .inl ext0))] (km_T (m := mk_28) rfl rfl) (km_T (m := mk_28) rfl rfl) (km_cov (m := mk_27) (n := mk_28) rfl rfl) (km_dis (m := mk_27) (n := mk_28) rfl) rfl (fun H locs hP hD hS br5 => ?_)
        refine lv_i2l (v := r5.1.toInt64) hx hb dX3_digest_372 rfl ?_
        refine lv_ladd hx hb dX3_digest_373 ?_
        refine lv_lstore_n (lv' := [(1, .long ((((((((x1 * 31) + r2.toInt64) * 31) + r3.toInt64) * 31) + r4.1.toInt64) * 31) + r5.1.toInt64)), (4, .int 0), (0, .ref (b 0)), (3, .ref qn0)]) hx hb dX3_digest_374 rfl hl (by decide) rfl (fun ls hl => ?_)
        refine lv_iinc (v := 1) (lv' := [(4, .int 1), (1, .long ((((((((x1 * 31) + r2.toInt64) * 31) + r3.toInt64) * 31) + r4.1.toInt64) * 31) + r5.1.toInt64)), (0, .ref (b 0)), (3, .ref qn0)]) hx hb dX3_digest_375 hl (k := 1) rfl (by decide) (by decide) rfl (fun ls hl => ?_)
        refine lv_goto (tgt := 355) hx hb dX3_digest_378 (by decide) ?_
        refine lv_iload hx hb dX3_digest_355 (lv_at hl 0 rfl) ?_
        refine lv_iconst (v := 3) hx hb dX3_digest_357 (by decide) ?_
        refine lv_icmp_ge (tgt := 381) hx hb dX3_digest_358 (by decide) (fun c9 => absurd c9 (by decide)) (fun _ => ?_)
        refine lv_lload_n hx hb dX3_digest_361 rfl (lv_at hl 1 rfl) ?_
        refine lv_ldc2 (v := (31)) hx hb hown hw1 dX3_digest_362 ?_
        refine lv_lmul hx hb dX3_digest_365 ?_
        refine lv_aload_n hx hb dX3_digest_366 rfl (lv_at hl 2 rfl) ?_
        refine lv_iload hx hb dX3_digest_367 (lv_at hl 0 rfl) ?_
        obtain ⟨r6, g6, h⟩ := g_b h
        refine kcall_i ((wMo cJ cZ b mce mfr mun mbe men mov msp mwb mwe mwi mac mre mkn r6.2) ++ [(qn0, .inl (cI, mwi.toNatClampNeg, .inl ext0))]) (va_runV (As := [.int 1]) (rest := [.long (((((((((x1 * 31) + r2.toInt64) * 31) + r3.toInt64) * 31) + r4.1.toInt64) * 31) + r5.1.toInt64) * 31)]) ⟨hx, hb, hml, hown, hts⟩ (c_X3_house l dC dI cB cI cJ cZ b _ mce mfr mun mbe men mov msp mwb mwe mwi mac mre mkn r5.2 1 r6 g6) (kcwV hts kw_1491 kv_X3_house rfl rfl ⟨(Nat.le_of_ble_eq_true rfl), (Nat.le_of_ble_eq_true rfl)⟩) (kpV (A := A) (hP.sub (kIT mk_27 0) (km_f (m := mk_27) rfl rfl)) hK (hD.sub (kIT mk_27 0) (km_nd mk_27) (km_T (m := mk_27) rfl rfl)) hG (va_recv hK hP (ci := 5) (q0 := 0) rfl rfl)) rfl rfl hl.1 rfl (lv_room (Nat.le_of_ble_eq_true rfl)) dX3_digest_369 ⟨by show _ ≤ (86 : Nat); omega, by show _ ≤ (1880 : Nat); omega⟩) hP hD hS hA (kIT mk_27 0) (kIT mk_28 0) (km_T (m := mk_27) rfl rfl) (km_T (m := mk_27) rfl rfl) [(qn0, .inl (cI, mwi.toNatClampNeg, .inl ext0))] (km_T (m := mk_28) rfl rfl) (km_T (m := mk_28) rfl rfl) (km_cov (m := mk_27) (n := mk_28) rfl rfl) (km_dis (m := mk_27) (n := mk_28) rfl) rfl (fun H locs hP hD hS br6 => ?_)
        refine lv_i2l (v := r6.1.toInt64) hx hb dX3_digest_372 rfl ?_
        refine lv_ladd hx hb dX3_digest_373 ?_
        refine lv_lstore_n (lv' := [(1, .long ((((((((((x1 * 31) + r2.toInt64) * 31) + r3.toInt64) * 31) + r4.1.toInt64) * 31) + r5.1.toInt64) * 31) + r6.1.toInt64)), (4, .int 1), (0, .ref (b 0)), (3, .ref qn0)]) hx hb dX3_digest_374 rfl hl (by decide) rfl (fun ls hl => ?_)
        refine lv_iinc (v := 2) (lv' := [(4, .int 2), (1, .long ((((((((((x1 * 31) + r2.toInt64) * 31) + r3.toInt64) * 31) + r4.1.toInt64) * 31) + r5.1.toInt64) * 31) + r6.1.toInt64)), (0, .ref (b 0)), (3, .ref qn0)]) hx hb dX3_digest_375 hl (k := 1) rfl (by decide) (by decide) rfl (fun ls hl => ?_)
        refine lv_goto (tgt := 355) hx hb dX3_digest_378 (by decide) ?_
        refine lv_iload hx hb dX3_digest_355 (lv_at hl 0 rfl) ?_
        refine lv_iconst (v := 3) hx hb dX3_digest_357 (by decide) ?_
        refine lv_icmp_ge (tgt := 381) hx hb dX3_digest_358 (by decide) (fun c9 => absurd c9 (by decide)) (fun _ => ?_)
        refine lv_lload_n hx hb dX3_digest_361 rfl (lv_at hl 1 rfl) ?_
        refine lv_ldc2 (v := (31)) hx hb hown hw1 dX3_digest_362 ?_
        refine lv_lmul hx hb dX3_digest_365 ?_
        refine lv_aload_n hx hb dX3_digest_366 rfl (lv_at hl 2 rfl) ?_
        refine lv_iload hx hb dX3_digest_367 (lv_at hl 0 rfl) ?_
        obtain ⟨r7, g7, h⟩ := g_b h
        refine kcall_i ((wMo cJ cZ b mce mfr mun mbe men mov msp mwb mwe mwi mac mre mkn r7.2) ++ [(qn0, .inl (cI, mwi.toNatClampNeg, .inl ext0))]) (va_runV (As := [.int 2]) (rest := [.long (((((((((((x1 * 31) + r2.toInt64) * 31) + r3.toInt64) * 31) + r4.1.toInt64) * 31) + r5.1.toInt64) * 31) + r6.1.toInt64) * 31)]) ⟨hx, hb, hml, hown, hts⟩ (c_X3_house l dC dI cB cI cJ cZ b _ mce mfr mun mbe men mov msp mwb mwe mwi mac mre mkn r6.2 2 r7 g7) (kcwV hts kw_1491 kv_X3_house rfl rfl ⟨(Nat.le_of_ble_eq_true rfl), (Nat.le_of_ble_eq_true rfl)⟩) (kpV (A := A) (hP.sub (kIT mk_27 0) (km_f (m := mk_27) rfl rfl)) hK (hD.sub (kIT mk_27 0) (km_nd mk_27) (km_T (m := mk_27) rfl rfl)) hG (va_recv hK hP (ci := 5) (q0 := 0) rfl rfl)) rfl rfl hl.1 rfl (lv_room (Nat.le_of_ble_eq_true rfl)) dX3_digest_369 ⟨by show _ ≤ (86 : Nat); omega, by show _ ≤ (1880 : Nat); omega⟩) hP hD hS hA (kIT mk_27 0) (kIT mk_28 0) (km_T (m := mk_27) rfl rfl) (km_T (m := mk_27) rfl rfl) [(qn0, .inl (cI, mwi.toNatClampNeg, .inl ext0))] (km_T (m := mk_28) rfl rfl) (km_T (m := mk_28) rfl rfl) (km_cov (m := mk_27) (n := mk_28) rfl rfl) (km_dis (m := mk_27) (n := mk_28) rfl) rfl (fun H locs hP hD hS br7 => ?_)
        refine lv_i2l (v := r7.1.toInt64) hx hb dX3_digest_372 rfl ?_
        refine lv_ladd hx hb dX3_digest_373 ?_
        refine lv_lstore_n (lv' := [(1, .long ((((((((((((x1 * 31) + r2.toInt64) * 31) + r3.toInt64) * 31) + r4.1.toInt64) * 31) + r5.1.toInt64) * 31) + r6.1.toInt64) * 31) + r7.1.toInt64)), (4, .int 2), (0, .ref (b 0)), (3, .ref qn0)]) hx hb dX3_digest_374 rfl hl (by decide) rfl (fun ls hl => ?_)
        refine lv_iinc (v := 3) (lv' := [(4, .int 3), (1, .long ((((((((((((x1 * 31) + r2.toInt64) * 31) + r3.toInt64) * 31) + r4.1.toInt64) * 31) + r5.1.toInt64) * 31) + r6.1.toInt64) * 31) + r7.1.toInt64)), (0, .ref (b 0)), (3, .ref qn0)]) hx hb dX3_digest_375 hl (k := 1) rfl (by decide) (by decide) rfl (fun ls hl => ?_)
        refine lv_goto (tgt := 355) hx hb dX3_digest_378 (by decide) ?_
        refine lv_iload hx hb dX3_digest_355 (lv_at hl 0 rfl) ?_
        refine lv_iconst (v := 3) hx hb dX3_digest_357 (by decide) ?_
        refine lv_icmp_ge (tgt := 381) hx hb dX3_digest_358 (by decide) (fun _ => ?_) (fun c9 => absurd (by decide) c9)
        refine lv_lload_n hx hb dX3_digest_381 rfl (lv_at hl 1 rfl) ?_
        refine lv_ldc2 (v := (31)) hx hb hown hw1 dX3_digest_382 ?_
        refine lv_lmul hx hb dX3_digest_385 ?_
        refine lv_aload_n hx hb dX3_digest_386 rfl (lv_at hl 2 rfl) ?_
        obtain ⟨r8, g8, h⟩ := g_b h
        refine kcall_i ((wMo cJ cZ b mce mfr mun mbe men mov msp mwb mwe mwi mac mre mkn r8.2) ++ [(qn0, .inl (cI, mwi.toNatClampNeg, .inl ext0))]) (va_runV (As := []) (rest := [.long (((((((((((((x1 * 31) + r2.toInt64) * 31) + r3.toInt64) * 31) + r4.1.toInt64) * 31) + r5.1.toInt64) * 31) + r6.1.toInt64) * 31) + r7.1.toInt64) * 31)]) ⟨hx, hb, hml, hown, hts⟩ (c_X3_isSound l dC dI cB cI cJ cZ b _ mce mfr mun mbe men mov msp mwb mwe mwi mac mre mkn r7.2  r8 g8) (kcwV hts kw_1492 kv_X3_isSound rfl rfl ⟨(Nat.le_of_ble_eq_true rfl), (Nat.le_of_ble_eq_true rfl)⟩) (kpV (A := A) (hP.sub (kIT mk_27 0) (km_f (m := mk_27) rfl rfl)) hK (hD.sub (kIT mk_27 0) (km_nd mk_27) (km_T (m := mk_27) rfl rfl)) hG (va_recv hK hP (ci := 5) (q0 := 0) rfl rfl)) rfl rfl hl.1 rfl (lv_room (Nat.le_of_ble_eq_true rfl)) dX3_digest_387 ⟨by show _ ≤ (86 : Nat); omega, by show _ ≤ (1880 : Nat); omega⟩) hP hD hS hA (kIT mk_27 0) (kIT mk_28 0) (km_T (m := mk_27) rfl rfl) (km_T (m := mk_27) rfl rfl) [(qn0, .inl (cI, mwi.toNatClampNeg, .inl ext0))] (km_T (m := mk_28) rfl rfl) (km_T (m := mk_28) rfl rfl) (km_cov (m := mk_27) (n := mk_28) rfl rfl) (km_dis (m := mk_27) (n := mk_28) rfl) rfl (fun H locs hP hD hS br8 => ?_)
        refine lv_if_eq (tgt := 397) hx hb dX3_digest_390 (by decide) (fun c9 => ?_) (fun c9 => ?_)
        · have h := g_t c9 h
          refine lv_iconst (v := 0) hx hb dX3_digest_397 (by decide) ?_
          refine lv_i2l (v := (0 : Int32).toInt64) hx hb dX3_digest_398 rfl ?_
          refine lv_ladd hx hb dX3_digest_399 ?_
          refine lv_lstore_n (lv' := [(1, .long ((((((((((((((x1 * 31) + r2.toInt64) * 31) + r3.toInt64) * 31) + r4.1.toInt64) * 31) + r5.1.toInt64) * 31) + r6.1.toInt64) * 31) + r7.1.toInt64) * 31) + ((0 : Int32).toInt64))), (4, .int 3), (0, .ref (b 0)), (3, .ref qn0)]) hx hb dX3_digest_400 rfl hl (by decide) rfl (fun ls hl => ?_)
          refine lv_aload_n hx hb dX3_digest_401 rfl (lv_at hl 2 rfl) ?_
          refine lv_iconst (v := 0) hx hb dX3_digest_402 (by decide) ?_
          refine va_put (D := (dC, dI)) (ci := 5) (v := .int 0) (ty := .int) (C := RX3) (T := TX3) (N := 14) hx hb hts hiX3 tyX3 tyX3_ok nmX3 hown hK hP hD hS 0 rfl rfl 13 (by decide) hw4 (fun _ h9 => h9) rfl (by decide +kernel) rfl rfl (Nat.le_of_ble_eq_true rfl) dX3_digest_403 (fun H locs hP hD hS => ?_)
          have hP : va_P (dC, dI) vwCl ((wMo cJ cZ b mce mfr mun mbe men mov msp mwb mwe mwi mac mre mkn 0) ++ [(qn0, .inl (cI, mwi.toNatClampNeg, .inl ext0))]) H := hP
          have hD : va_D A ((wMo cJ cZ b mce mfr mun mbe men mov msp mwb mwe mwi mac mre mkn 0) ++ [(qn0, .inl (cI, mwi.toNatClampNeg, .inl ext0))]) := hD
          refine lv_lload_n hx hb dX3_digest_406 rfl (lv_at hl 0 rfl) ?_
          have hP := hP.sub (ws' := (wMo cJ cZ b mce mfr mun mbe men mov msp mwb mwe mwi mac mre mkn 0)) [0, 1, 2, 3, 4, 5, 6] rfl
          have h := Option.some.inj h
          subst h
          refine W.widen (k := 86) (n := 1880) (by omega) (by omega) ?_
          exact kret_l (v := (((((((((((((x1 * 31) + r2.toInt64) * 31) + r3.toInt64) * 31) + r4.1.toInt64) * 31) + r5.1.toInt64) * 31) + r6.1.toInt64) * 31) + r7.1.toInt64) * 31) + ((0 : Int32).toInt64)) hx hb hr hlocks hS hP dX3_digest_407
        · have h := g_f c9 h
          refine lv_iconst (v := 1) hx hb dX3_digest_393 (by decide) ?_
          refine lv_goto (tgt := 398) hx hb dX3_digest_394 (by decide) ?_
          refine lv_i2l (v := (1 : Int32).toInt64) hx hb dX3_digest_398 rfl ?_
          refine lv_ladd hx hb dX3_digest_399 ?_
          refine lv_lstore_n (lv' := [(1, .long ((((((((((((((x1 * 31) + r2.toInt64) * 31) + r3.toInt64) * 31) + r4.1.toInt64) * 31) + r5.1.toInt64) * 31) + r6.1.toInt64) * 31) + r7.1.toInt64) * 31) + ((1 : Int32).toInt64))), (4, .int 3), (0, .ref (b 0)), (3, .ref qn0)]) hx hb dX3_digest_400 rfl hl (by decide) rfl (fun ls hl => ?_)
          refine lv_aload_n hx hb dX3_digest_401 rfl (lv_at hl 2 rfl) ?_
          refine lv_iconst (v := 0) hx hb dX3_digest_402 (by decide) ?_
          refine va_put (D := (dC, dI)) (ci := 5) (v := .int 0) (ty := .int) (C := RX3) (T := TX3) (N := 14) hx hb hts hiX3 tyX3 tyX3_ok nmX3 hown hK hP hD hS 0 rfl rfl 13 (by decide) hw4 (fun _ h9 => h9) rfl (by decide +kernel) rfl rfl (Nat.le_of_ble_eq_true rfl) dX3_digest_403 (fun H locs hP hD hS => ?_)
          have hP : va_P (dC, dI) vwCl ((wMo cJ cZ b mce mfr mun mbe men mov msp mwb mwe mwi mac mre mkn 0) ++ [(qn0, .inl (cI, mwi.toNatClampNeg, .inl ext0))]) H := hP
          have hD : va_D A ((wMo cJ cZ b mce mfr mun mbe men mov msp mwb mwe mwi mac mre mkn 0) ++ [(qn0, .inl (cI, mwi.toNatClampNeg, .inl ext0))]) := hD
          refine lv_lload_n hx hb dX3_digest_406 rfl (lv_at hl 0 rfl) ?_
          have hP := hP.sub (ws' := (wMo cJ cZ b mce mfr mun mbe men mov msp mwb mwe mwi mac mre mkn 0)) [0, 1, 2, 3, 4, 5, 6] rfl
          have h := Option.some.inj h
          subst h
          refine W.widen (k := 86) (n := 1880) (by omega) (by omega) ?_
          exact kret_l (v := (((((((((((((x1 * 31) + r2.toInt64) * 31) + r3.toInt64) * 31) + r4.1.toInt64) * 31) + r5.1.toInt64) * 31) + r6.1.toInt64) * 31) + r7.1.toInt64) * 31) + ((1 : Int32).toInt64)) hx hb hr hlocks hS hP dX3_digest_407
      · have h := g_f c1 h
        refine lv_aload_n hx hb dX3_digest_288 rfl (lv_at hl 0 rfl) ?_
        refine lv_lload_n hx hb dX3_digest_289 rfl (lv_at hl 1 rfl) ?_
        refine lv_aload_n hx hb dX3_digest_290 rfl (lv_at hl 0 rfl) ?_
        refine va_get (D := (dC, dI)) (ci := 5) (v := .ref (b 5)) (C := RX3) (T := TX3) (N := 14) hx hb hts hiX3 hown hK hP 0 rfl rfl 7 (by decide) hw5 (fun _ h9 => h9) rfl dX3_digest_291 ?_
        refine lv_aload_n hx hb dX3_digest_294 rfl (lv_at hl 0 rfl) ?_
        refine va_get (D := (dC, dI)) (ci := 5) (v := .ref (b 6)) (C := RX3) (T := TX3) (N := 14) hx hb hts hiX3 hown hK hP 0 rfl rfl 8 (by decide) hw6 (fun _ h9 => h9) rfl dX3_digest_295 ?_
        refine lv_iload hx hb dX3_digest_298 (lv_at hl 3 rfl) ?_
        obtain ⟨r2, g2, h⟩ := g_b h
        refine kcall_l ((wMo cJ cZ b mce mfr mun mbe men mov msp mwb mwe mwi mac mre mkn mth) ++ [(qn0, .inl (cI, mwi.toNatClampNeg, .inl ext0))]) (va_runV (As := [.long x1, .ref (b 5), .ref (b 6), .int x4]) (rest := []) ⟨hx, hb, hml, hown, hts⟩ (c_X3_added l dC dI cB cI cJ cZ (b 0) (b 5) 8 (b 6) 8 _ mwb mwe x1 x4 r2 g2) (kcwV hts kw_1481 kv_X3_added rfl rfl ⟨(Nat.le_of_ble_eq_true rfl), (Nat.le_of_ble_eq_true rfl)⟩) (kpV (A := A) (hP.sub (kIT mk_53 0) (km_f (m := mk_53) rfl rfl)) hK (hD.sub (kIT mk_53 0) (km_nd mk_53) (km_T (m := mk_53) rfl rfl)) hG (va_recv hK hP (ci := 5) (q0 := 0) rfl rfl)) rfl rfl hl.1 rfl (lv_room (Nat.le_of_ble_eq_true rfl)) dX3_digest_300 ⟨by show _ ≤ (86 : Nat); omega, by show _ ≤ (1880 : Nat); omega⟩) hP hD hS hA (kIT mk_53 0) (kIT mk_54 0) (km_T (m := mk_53) rfl rfl) (km_T (m := mk_53) rfl rfl) [((b 0), .inr (5, [.ref (b 1), .long mfr, .long mun, .ref (b 2), .ref (b 3), .ref (b 4), .int msp, .ref (b 5), .ref (b 6), .int mwi, .int mac, .int mre, .int mkn, .int mth])), ((b 1), .inl (cJ, 4, .inr (.inl mce))), ((b 2), .inl (cJ, 10, .inr (.inl mbe))), ((b 3), .inl (cJ, 10, .inr (.inl men))), ((b 4), .inl (cZ, 10, .inl mov)), (qn0, .inl (cI, mwi.toNatClampNeg, .inl ext0))] (km_T (m := mk_54) rfl rfl) (km_T (m := mk_54) rfl rfl) (km_cov (m := mk_53) (n := mk_54) rfl rfl) (km_dis (m := mk_53) (n := mk_54) rfl) rfl (fun H locs hP hD hS => ?_)
        refine lv_ldc2 (v := (31)) hx hb hown hw1 dX3_digest_303 ?_
        refine lv_lmul hx hb dX3_digest_306 ?_
        refine lv_aload_n hx hb dX3_digest_307 rfl (lv_at hl 2 rfl) ?_
        refine lv_iload hx hb dX3_digest_308 (lv_at hl 3 rfl) ?_
        obtain ⟨z2, h⟩ := g_if h
        refine va_iald hx hb hK hP 7 1 rfl rfl (ix_in z2) dX3_digest_310 ?_
        refine lv_i2l (v := (ext0 x4.toNatClampNeg).toInt64) hx hb dX3_digest_311 rfl ?_
        refine lv_ladd hx hb dX3_digest_312 ?_
        refine lv_lstore_n (lv' := [(1, .long ((r2 * 31) + ((ext0 x4.toNatClampNeg).toInt64))), (0, .ref (b 0)), (3, .ref qn0), (4, .int x4)]) hx hb dX3_digest_313 rfl hl (by decide) rfl (fun ls hl => ?_)
        refine lv_iinc (v := x4 + 1) (lv' := [(4, .int (x4 + 1)), (1, .long ((r2 * 31) + ((ext0 x4.toNatClampNeg).toInt64))), (0, .ref (b 0)), (3, .ref qn0)]) hx hb dX3_digest_314 hl (k := 3) rfl rfl (by decide) rfl (fun ls hl => ?_)
        refine lv_goto (tgt := 279) hx hb dX3_digest_317 (by decide) ?_
        exact ih mce mfr mun mbe men mov msp mwb mwe mwi mac mre mkn mth ext0 ((r2 * 31) + ((ext0 x4.toNatClampNeg).toInt64)) (x4 + 1) qn0 _ _ _ _ (by omega) (by omega) hP hD hS ls (lv_sub hl [2, 1, 3, 0] rfl) h
  have J188 : ∀ (n : Nat), ∀ (mce : Nat → Int64) (mfr : Int64) (mun : Int64) (mbe : Nat → Int64) (men : Nat → Int64) (mov : Nat → Int32) (msp : Int32) (mwb : Nat → Int64) (mwe : Nat → Int64) (mwi : Int32) (mac : Int32) (mre : Int32) (mkn : Int32) (mth : Int32) (x1 : Int64) (x3 : Int32) (H : Heap) (locs : List Loc) (kc ks : Nat), kc + (n * 5 + 11) ≤ 86 → ks + (n * 110 + 230) ≤ 1880 → va_P (dC, dI) vwCl (wMo cJ cZ b mce mfr mun mbe men mov msp mwb mwe mwi mac mre mkn mth) H → va_D A (wMo cJ cZ b mce mfr mun mbe men mov msp mwb mwe mwi mac mre mkn mth) → va_S A s.heap H locs → ∀ (ls : Array Slot), lv_has ls 5 [(0, .ref (b 0)), (1, .long x1), (3, .int x3)] → f_X3_digest_188 n mfr mun mbe men mov msp mwb mwe mwi mac mre mkn x1 x3 = some res → W p l e (headSpec wsX3_digest ({ frames := 5, cells := 86, slots := 1880, locals := 119 } : Room)).room s m ([.ref (b 0)] : List Value).toArray below meth c H locs kc ks (MQ below (kL (dC, dI) (res.1) (wMo cJ cZ b mce mfr mun mbe men mov msp mwb mwe mwi mac mre mkn (res.2)) A) ([.ref (b 0)] : List Value).toArray s 86 1880 A) (F0 m 188 ls []) := by
    intro n
    induction n with
    | zero =>
      intro mce mfr mun mbe men mov msp mwb mwe mwi mac mre mkn mth x1 x3 H locs kc ks hkc hks hP hD hS ls hl h
      have h := f_X3_digest_188_0.symm.trans h
      cases h
    | succ n ih =>
      intro mce mfr mun mbe men mov msp mwb mwe mwi mac mre mkn mth x1 x3 H locs kc ks hkc hks hP hD hS ls hl h
      have h := f_X3_digest_188_s.symm.trans h
      refine lv_iload_n hx hb dX3_digest_188 rfl (lv_at hl 2 rfl) ?_
      refine lv_aload_n hx hb dX3_digest_189 rfl (lv_at hl 0 rfl) ?_
      obtain ⟨r1, g1, h⟩ := g_b h
      refine kcall_i (wMo cJ cZ b mce mfr mun mbe men mov msp mwb mwe mwi mac mre mkn r1.2) (va_runV (As := []) (rest := [.int x3]) ⟨hx, hb, hml, hown, hts⟩ (c_X3_frees l dC dI cB cI cJ cZ b _ mce mfr mun mbe men mov msp mwb mwe mwi mac mre mkn mth  r1 g1) (kcwV hts kw_1487 kv_X3_frees rfl rfl ⟨(Nat.le_of_ble_eq_true rfl), (Nat.le_of_ble_eq_true rfl)⟩) (kpV (A := A) (hP.sub (kIT mk_26 0) (km_f (m := mk_26) rfl rfl)) hK (hD.sub (kIT mk_26 0) (km_nd mk_26) (km_T (m := mk_26) rfl rfl)) hG (va_recv hK hP (ci := 5) (q0 := 0) rfl rfl)) rfl rfl hl.1 rfl (lv_room (Nat.le_of_ble_eq_true rfl)) dX3_digest_190 ⟨by show _ ≤ (86 : Nat); omega, by show _ ≤ (1880 : Nat); omega⟩) hP hD hS hA (kIT mk_26 0) (kIT mk_25 0) (km_T (m := mk_26) rfl rfl) (km_T (m := mk_26) rfl rfl) [] (km_T (m := mk_25) rfl rfl) (km_T (m := mk_25) rfl rfl) (km_cov (m := mk_26) (n := mk_25) rfl rfl) (km_dis (m := mk_26) (n := mk_25) rfl) rfl (fun H locs hP hD hS br1 => ?_)
      refine lv_icmp_ge (tgt := 232) hx hb dX3_digest_193 (by decide) (fun c2 => ?_) (fun c2 => ?_)
      · have h := g_t c2 h
        refine lv_iconst (v := 0) hx hb dX3_digest_232 (by decide) ?_
        refine lv_istore_n (lv' := [(3, .int 0), (0, .ref (b 0)), (1, .long x1)]) hx hb dX3_digest_233 rfl hl (by decide) rfl (fun ls hl => ?_)
        refine lv_iload_n hx hb dX3_digest_234 rfl (lv_at hl 0 rfl) ?_
        refine lv_bipush (v := 6) hx hb dX3_digest_235 (by decide) ?_
        refine lv_icmp_ge (tgt := 259) hx hb dX3_digest_237 (by decide) (fun c9 => absurd c9 (by decide)) (fun _ => ?_)
        refine lv_lload_n hx hb dX3_digest_240 rfl (lv_at hl 2 rfl) ?_
        refine lv_ldc2 (v := (31)) hx hb hown hw1 dX3_digest_241 ?_
        refine lv_lmul hx hb dX3_digest_244 ?_
        refine lv_aload_n hx hb dX3_digest_245 rfl (lv_at hl 1 rfl) ?_
        refine lv_iload_n hx hb dX3_digest_246 rfl (lv_at hl 0 rfl) ?_
        obtain ⟨r3, g3, h⟩ := g_b h
        refine kcall_i (wMo cJ cZ b mce mfr mun mbe men mov msp mwb mwe mwi mac mre mkn r3.2) (va_runV (As := [.int 0]) (rest := [.long (x1 * 31)]) ⟨hx, hb, hml, hown, hts⟩ (c_X3_length l dC dI cB cI cJ cZ b _ mce mfr mun mbe men mov msp mwb mwe mwi mac mre mkn r1.2 0 r3 g3) (kcwV hts kw_1489 kv_X3_length rfl rfl ⟨(Nat.le_of_ble_eq_true rfl), (Nat.le_of_ble_eq_true rfl)⟩) (kpV (A := A) (hP.sub (kIT mk_26 0) (km_f (m := mk_26) rfl rfl)) hK (hD.sub (kIT mk_26 0) (km_nd mk_26) (km_T (m := mk_26) rfl rfl)) hG (va_recv hK hP (ci := 5) (q0 := 0) rfl rfl)) rfl rfl hl.1 rfl (lv_room (Nat.le_of_ble_eq_true rfl)) dX3_digest_247 ⟨by show _ ≤ (86 : Nat); omega, by show _ ≤ (1880 : Nat); omega⟩) hP hD hS hA (kIT mk_26 0) (kIT mk_25 0) (km_T (m := mk_26) rfl rfl) (km_T (m := mk_26) rfl rfl) [] (km_T (m := mk_25) rfl rfl) (km_T (m := mk_25) rfl rfl) (km_cov (m := mk_26) (n := mk_25) rfl rfl) (km_dis (m := mk_26) (n := mk_25) rfl) rfl (fun H locs hP hD hS br3 => ?_)
        refine lv_i2l (v := r3.1.toInt64) hx hb dX3_digest_250 rfl ?_
        refine lv_ladd hx hb dX3_digest_251 ?_
        refine lv_lstore_n (lv' := [(1, .long ((x1 * 31) + r3.1.toInt64)), (3, .int 0), (0, .ref (b 0))]) hx hb dX3_digest_252 rfl hl (by decide) rfl (fun ls hl => ?_)
        refine lv_iinc (v := 1) (lv' := [(3, .int 1), (1, .long ((x1 * 31) + r3.1.toInt64)), (0, .ref (b 0))]) hx hb dX3_digest_253 hl (k := 1) rfl (by decide) (by decide) rfl (fun ls hl => ?_)
        refine lv_goto (tgt := 234) hx hb dX3_digest_256 (by decide) ?_
        refine lv_iload_n hx hb dX3_digest_234 rfl (lv_at hl 0 rfl) ?_
        refine lv_bipush (v := 6) hx hb dX3_digest_235 (by decide) ?_
        refine lv_icmp_ge (tgt := 259) hx hb dX3_digest_237 (by decide) (fun c9 => absurd c9 (by decide)) (fun _ => ?_)
        refine lv_lload_n hx hb dX3_digest_240 rfl (lv_at hl 1 rfl) ?_
        refine lv_ldc2 (v := (31)) hx hb hown hw1 dX3_digest_241 ?_
        refine lv_lmul hx hb dX3_digest_244 ?_
        refine lv_aload_n hx hb dX3_digest_245 rfl (lv_at hl 2 rfl) ?_
        refine lv_iload_n hx hb dX3_digest_246 rfl (lv_at hl 0 rfl) ?_
        obtain ⟨r4, g4, h⟩ := g_b h
        refine kcall_i (wMo cJ cZ b mce mfr mun mbe men mov msp mwb mwe mwi mac mre mkn r4.2) (va_runV (As := [.int 1]) (rest := [.long (((x1 * 31) + r3.1.toInt64) * 31)]) ⟨hx, hb, hml, hown, hts⟩ (c_X3_length l dC dI cB cI cJ cZ b _ mce mfr mun mbe men mov msp mwb mwe mwi mac mre mkn r3.2 1 r4 g4) (kcwV hts kw_1489 kv_X3_length rfl rfl ⟨(Nat.le_of_ble_eq_true rfl), (Nat.le_of_ble_eq_true rfl)⟩) (kpV (A := A) (hP.sub (kIT mk_26 0) (km_f (m := mk_26) rfl rfl)) hK (hD.sub (kIT mk_26 0) (km_nd mk_26) (km_T (m := mk_26) rfl rfl)) hG (va_recv hK hP (ci := 5) (q0 := 0) rfl rfl)) rfl rfl hl.1 rfl (lv_room (Nat.le_of_ble_eq_true rfl)) dX3_digest_247 ⟨by show _ ≤ (86 : Nat); omega, by show _ ≤ (1880 : Nat); omega⟩) hP hD hS hA (kIT mk_26 0) (kIT mk_25 0) (km_T (m := mk_26) rfl rfl) (km_T (m := mk_26) rfl rfl) [] (km_T (m := mk_25) rfl rfl) (km_T (m := mk_25) rfl rfl) (km_cov (m := mk_26) (n := mk_25) rfl rfl) (km_dis (m := mk_26) (n := mk_25) rfl) rfl (fun H locs hP hD hS br4 => ?_)
        refine lv_i2l (v := r4.1.toInt64) hx hb dX3_digest_250 rfl ?_
        refine lv_ladd hx hb dX3_digest_251 ?_
        refine lv_lstore_n (lv' := [(1, .long ((((x1 * 31) + r3.1.toInt64) * 31) + r4.1.toInt64)), (3, .int 1), (0, .ref (b 0))]) hx hb dX3_digest_252 rfl hl (by decide) rfl (fun ls hl => ?_)
        refine lv_iinc (v := 2) (lv' := [(3, .int 2), (1, .long ((((x1 * 31) + r3.1.toInt64) * 31) + r4.1.toInt64)), (0, .ref (b 0))]) hx hb dX3_digest_253 hl (k := 1) rfl (by decide) (by decide) rfl (fun ls hl => ?_)
        refine lv_goto (tgt := 234) hx hb dX3_digest_256 (by decide) ?_
        refine lv_iload_n hx hb dX3_digest_234 rfl (lv_at hl 0 rfl) ?_
        refine lv_bipush (v := 6) hx hb dX3_digest_235 (by decide) ?_
        refine lv_icmp_ge (tgt := 259) hx hb dX3_digest_237 (by decide) (fun c9 => absurd c9 (by decide)) (fun _ => ?_)
        refine lv_lload_n hx hb dX3_digest_240 rfl (lv_at hl 1 rfl) ?_
        refine lv_ldc2 (v := (31)) hx hb hown hw1 dX3_digest_241 ?_
        refine lv_lmul hx hb dX3_digest_244 ?_
        refine lv_aload_n hx hb dX3_digest_245 rfl (lv_at hl 2 rfl) ?_
        refine lv_iload_n hx hb dX3_digest_246 rfl (lv_at hl 0 rfl) ?_
        obtain ⟨r5, g5, h⟩ := g_b h
        refine kcall_i (wMo cJ cZ b mce mfr mun mbe men mov msp mwb mwe mwi mac mre mkn r5.2) (va_runV (As := [.int 2]) (rest := [.long (((((x1 * 31) + r3.1.toInt64) * 31) + r4.1.toInt64) * 31)]) ⟨hx, hb, hml, hown, hts⟩ (c_X3_length l dC dI cB cI cJ cZ b _ mce mfr mun mbe men mov msp mwb mwe mwi mac mre mkn r4.2 2 r5 g5) (kcwV hts kw_1489 kv_X3_length rfl rfl ⟨(Nat.le_of_ble_eq_true rfl), (Nat.le_of_ble_eq_true rfl)⟩) (kpV (A := A) (hP.sub (kIT mk_26 0) (km_f (m := mk_26) rfl rfl)) hK (hD.sub (kIT mk_26 0) (km_nd mk_26) (km_T (m := mk_26) rfl rfl)) hG (va_recv hK hP (ci := 5) (q0 := 0) rfl rfl)) rfl rfl hl.1 rfl (lv_room (Nat.le_of_ble_eq_true rfl)) dX3_digest_247 ⟨by show _ ≤ (86 : Nat); omega, by show _ ≤ (1880 : Nat); omega⟩) hP hD hS hA (kIT mk_26 0) (kIT mk_25 0) (km_T (m := mk_26) rfl rfl) (km_T (m := mk_26) rfl rfl) [] (km_T (m := mk_25) rfl rfl) (km_T (m := mk_25) rfl rfl) (km_cov (m := mk_26) (n := mk_25) rfl rfl) (km_dis (m := mk_26) (n := mk_25) rfl) rfl (fun H locs hP hD hS br5 => ?_)
        refine lv_i2l (v := r5.1.toInt64) hx hb dX3_digest_250 rfl ?_
        refine lv_ladd hx hb dX3_digest_251 ?_
        refine lv_lstore_n (lv' := [(1, .long ((((((x1 * 31) + r3.1.toInt64) * 31) + r4.1.toInt64) * 31) + r5.1.toInt64)), (3, .int 2), (0, .ref (b 0))]) hx hb dX3_digest_252 rfl hl (by decide) rfl (fun ls hl => ?_)
        refine lv_iinc (v := 3) (lv' := [(3, .int 3), (1, .long ((((((x1 * 31) + r3.1.toInt64) * 31) + r4.1.toInt64) * 31) + r5.1.toInt64)), (0, .ref (b 0))]) hx hb dX3_digest_253 hl (k := 1) rfl (by decide) (by decide) rfl (fun ls hl => ?_)
        refine lv_goto (tgt := 234) hx hb dX3_digest_256 (by decide) ?_
        refine lv_iload_n hx hb dX3_digest_234 rfl (lv_at hl 0 rfl) ?_
        refine lv_bipush (v := 6) hx hb dX3_digest_235 (by decide) ?_
        refine lv_icmp_ge (tgt := 259) hx hb dX3_digest_237 (by decide) (fun c9 => absurd c9 (by decide)) (fun _ => ?_)
        refine lv_lload_n hx hb dX3_digest_240 rfl (lv_at hl 1 rfl) ?_
        refine lv_ldc2 (v := (31)) hx hb hown hw1 dX3_digest_241 ?_
        refine lv_lmul hx hb dX3_digest_244 ?_
        refine lv_aload_n hx hb dX3_digest_245 rfl (lv_at hl 2 rfl) ?_
        refine lv_iload_n hx hb dX3_digest_246 rfl (lv_at hl 0 rfl) ?_
        obtain ⟨r6, g6, h⟩ := g_b h
        refine kcall_i (wMo cJ cZ b mce mfr mun mbe men mov msp mwb mwe mwi mac mre mkn r6.2) (va_runV (As := [.int 3]) (rest := [.long (((((((x1 * 31) + r3.1.toInt64) * 31) + r4.1.toInt64) * 31) + r5.1.toInt64) * 31)]) ⟨hx, hb, hml, hown, hts⟩ (c_X3_length l dC dI cB cI cJ cZ b _ mce mfr mun mbe men mov msp mwb mwe mwi mac mre mkn r5.2 3 r6 g6) (kcwV hts kw_1489 kv_X3_length rfl rfl ⟨(Nat.le_of_ble_eq_true rfl), (Nat.le_of_ble_eq_true rfl)⟩) (kpV (A := A) (hP.sub (kIT mk_26 0) (km_f (m := mk_26) rfl rfl)) hK (hD.sub (kIT mk_26 0) (km_nd mk_26) (km_T (m := mk_26) rfl rfl)) hG (va_recv hK hP (ci := 5) (q0 := 0) rfl rfl)) rfl rfl hl.1 rfl (lv_room (Nat.le_of_ble_eq_true rfl)) dX3_digest_247 ⟨by show _ ≤ (86 : Nat); omega, by show _ ≤ (1880 : Nat); omega⟩) hP hD hS hA (kIT mk_26 0) (kIT mk_25 0) (km_T (m := mk_26) rfl rfl) (km_T (m := mk_26) rfl rfl) [] (km_T (m := mk_25) rfl rfl) (km_T (m := mk_25) rfl rfl) (km_cov (m := mk_26) (n := mk_25) rfl rfl) (km_dis (m := mk_26) (n := mk_25) rfl) rfl (fun H locs hP hD hS br6 => ?_)
        refine lv_i2l (v := r6.1.toInt64) hx hb dX3_digest_250 rfl ?_
        refine lv_ladd hx hb dX3_digest_251 ?_
        refine lv_lstore_n (lv' := [(1, .long ((((((((x1 * 31) + r3.1.toInt64) * 31) + r4.1.toInt64) * 31) + r5.1.toInt64) * 31) + r6.1.toInt64)), (3, .int 3), (0, .ref (b 0))]) hx hb dX3_digest_252 rfl hl (by decide) rfl (fun ls hl => ?_)
        refine lv_iinc (v := 4) (lv' := [(3, .int 4), (1, .long ((((((((x1 * 31) + r3.1.toInt64) * 31) + r4.1.toInt64) * 31) + r5.1.toInt64) * 31) + r6.1.toInt64)), (0, .ref (b 0))]) hx hb dX3_digest_253 hl (k := 1) rfl (by decide) (by decide) rfl (fun ls hl => ?_)
        refine lv_goto (tgt := 234) hx hb dX3_digest_256 (by decide) ?_
        refine lv_iload_n hx hb dX3_digest_234 rfl (lv_at hl 0 rfl) ?_
        refine lv_bipush (v := 6) hx hb dX3_digest_235 (by decide) ?_
        refine lv_icmp_ge (tgt := 259) hx hb dX3_digest_237 (by decide) (fun c9 => absurd c9 (by decide)) (fun _ => ?_)
        refine lv_lload_n hx hb dX3_digest_240 rfl (lv_at hl 1 rfl) ?_
        refine lv_ldc2 (v := (31)) hx hb hown hw1 dX3_digest_241 ?_
        refine lv_lmul hx hb dX3_digest_244 ?_
        refine lv_aload_n hx hb dX3_digest_245 rfl (lv_at hl 2 rfl) ?_
        refine lv_iload_n hx hb dX3_digest_246 rfl (lv_at hl 0 rfl) ?_
        obtain ⟨r7, g7, h⟩ := g_b h
        refine kcall_i (wMo cJ cZ b mce mfr mun mbe men mov msp mwb mwe mwi mac mre mkn r7.2) (va_runV (As := [.int 4]) (rest := [.long (((((((((x1 * 31) + r3.1.toInt64) * 31) + r4.1.toInt64) * 31) + r5.1.toInt64) * 31) + r6.1.toInt64) * 31)]) ⟨hx, hb, hml, hown, hts⟩ (c_X3_length l dC dI cB cI cJ cZ b _ mce mfr mun mbe men mov msp mwb mwe mwi mac mre mkn r6.2 4 r7 g7) (kcwV hts kw_1489 kv_X3_length rfl rfl ⟨(Nat.le_of_ble_eq_true rfl), (Nat.le_of_ble_eq_true rfl)⟩) (kpV (A := A) (hP.sub (kIT mk_26 0) (km_f (m := mk_26) rfl rfl)) hK (hD.sub (kIT mk_26 0) (km_nd mk_26) (km_T (m := mk_26) rfl rfl)) hG (va_recv hK hP (ci := 5) (q0 := 0) rfl rfl)) rfl rfl hl.1 rfl (lv_room (Nat.le_of_ble_eq_true rfl)) dX3_digest_247 ⟨by show _ ≤ (86 : Nat); omega, by show _ ≤ (1880 : Nat); omega⟩) hP hD hS hA (kIT mk_26 0) (kIT mk_25 0) (km_T (m := mk_26) rfl rfl) (km_T (m := mk_26) rfl rfl) [] (km_T (m := mk_25) rfl rfl) (km_T (m := mk_25) rfl rfl) (km_cov (m := mk_26) (n := mk_25) rfl rfl) (km_dis (m := mk_26) (n := mk_25) rfl) rfl (fun H locs hP hD hS br7 => ?_)
        refine lv_i2l (v := r7.1.toInt64) hx hb dX3_digest_250 rfl ?_
        refine lv_ladd hx hb dX3_digest_251 ?_
        refine lv_lstore_n (lv' := [(1, .long ((((((((((x1 * 31) + r3.1.toInt64) * 31) + r4.1.toInt64) * 31) + r5.1.toInt64) * 31) + r6.1.toInt64) * 31) + r7.1.toInt64)), (3, .int 4), (0, .ref (b 0))]) hx hb dX3_digest_252 rfl hl (by decide) rfl (fun ls hl => ?_)
        refine lv_iinc (v := 5) (lv' := [(3, .int 5), (1, .long ((((((((((x1 * 31) + r3.1.toInt64) * 31) + r4.1.toInt64) * 31) + r5.1.toInt64) * 31) + r6.1.toInt64) * 31) + r7.1.toInt64)), (0, .ref (b 0))]) hx hb dX3_digest_253 hl (k := 1) rfl (by decide) (by decide) rfl (fun ls hl => ?_)
        refine lv_goto (tgt := 234) hx hb dX3_digest_256 (by decide) ?_
        refine lv_iload_n hx hb dX3_digest_234 rfl (lv_at hl 0 rfl) ?_
        refine lv_bipush (v := 6) hx hb dX3_digest_235 (by decide) ?_
        refine lv_icmp_ge (tgt := 259) hx hb dX3_digest_237 (by decide) (fun c9 => absurd c9 (by decide)) (fun _ => ?_)
        refine lv_lload_n hx hb dX3_digest_240 rfl (lv_at hl 1 rfl) ?_
        refine lv_ldc2 (v := (31)) hx hb hown hw1 dX3_digest_241 ?_
        refine lv_lmul hx hb dX3_digest_244 ?_
        refine lv_aload_n hx hb dX3_digest_245 rfl (lv_at hl 2 rfl) ?_
        refine lv_iload_n hx hb dX3_digest_246 rfl (lv_at hl 0 rfl) ?_
        obtain ⟨r8, g8, h⟩ := g_b h
        refine kcall_i (wMo cJ cZ b mce mfr mun mbe men mov msp mwb mwe mwi mac mre mkn r8.2) (va_runV (As := [.int 5]) (rest := [.long (((((((((((x1 * 31) + r3.1.toInt64) * 31) + r4.1.toInt64) * 31) + r5.1.toInt64) * 31) + r6.1.toInt64) * 31) + r7.1.toInt64) * 31)]) ⟨hx, hb, hml, hown, hts⟩ (c_X3_length l dC dI cB cI cJ cZ b _ mce mfr mun mbe men mov msp mwb mwe mwi mac mre mkn r7.2 5 r8 g8) (kcwV hts kw_1489 kv_X3_length rfl rfl ⟨(Nat.le_of_ble_eq_true rfl), (Nat.le_of_ble_eq_true rfl)⟩) (kpV (A := A) (hP.sub (kIT mk_26 0) (km_f (m := mk_26) rfl rfl)) hK (hD.sub (kIT mk_26 0) (km_nd mk_26) (km_T (m := mk_26) rfl rfl)) hG (va_recv hK hP (ci := 5) (q0 := 0) rfl rfl)) rfl rfl hl.1 rfl (lv_room (Nat.le_of_ble_eq_true rfl)) dX3_digest_247 ⟨by show _ ≤ (86 : Nat); omega, by show _ ≤ (1880 : Nat); omega⟩) hP hD hS hA (kIT mk_26 0) (kIT mk_25 0) (km_T (m := mk_26) rfl rfl) (km_T (m := mk_26) rfl rfl) [] (km_T (m := mk_25) rfl rfl) (km_T (m := mk_25) rfl rfl) (km_cov (m := mk_26) (n := mk_25) rfl rfl) (km_dis (m := mk_26) (n := mk_25) rfl) rfl (fun H locs hP hD hS br8 => ?_)
        refine lv_i2l (v := r8.1.toInt64) hx hb dX3_digest_250 rfl ?_
        refine lv_ladd hx hb dX3_digest_251 ?_
        refine lv_lstore_n (lv' := [(1, .long ((((((((((((x1 * 31) + r3.1.toInt64) * 31) + r4.1.toInt64) * 31) + r5.1.toInt64) * 31) + r6.1.toInt64) * 31) + r7.1.toInt64) * 31) + r8.1.toInt64)), (3, .int 5), (0, .ref (b 0))]) hx hb dX3_digest_252 rfl hl (by decide) rfl (fun ls hl => ?_)
        refine lv_iinc (v := 6) (lv' := [(3, .int 6), (1, .long ((((((((((((x1 * 31) + r3.1.toInt64) * 31) + r4.1.toInt64) * 31) + r5.1.toInt64) * 31) + r6.1.toInt64) * 31) + r7.1.toInt64) * 31) + r8.1.toInt64)), (0, .ref (b 0))]) hx hb dX3_digest_253 hl (k := 1) rfl (by decide) (by decide) rfl (fun ls hl => ?_)
        refine lv_goto (tgt := 234) hx hb dX3_digest_256 (by decide) ?_
        refine lv_iload_n hx hb dX3_digest_234 rfl (lv_at hl 0 rfl) ?_
        refine lv_bipush (v := 6) hx hb dX3_digest_235 (by decide) ?_
        refine lv_icmp_ge (tgt := 259) hx hb dX3_digest_237 (by decide) (fun _ => ?_) (fun c9 => absurd (by decide) c9)
        refine lv_lload_n hx hb dX3_digest_259 rfl (lv_at hl 1 rfl) ?_
        refine lv_ldc2 (v := (31)) hx hb hown hw1 dX3_digest_260 ?_
        refine lv_lmul hx hb dX3_digest_263 ?_
        refine lv_aload_n hx hb dX3_digest_264 rfl (lv_at hl 2 rfl) ?_
        refine va_get (D := (dC, dI)) (ci := 5) (v := .int mwi) (C := RX3) (T := TX3) (N := 14) hx hb hts hiX3 hown hK hP 0 rfl rfl 9 (by decide) hw3 (fun _ h9 => h9) rfl dX3_digest_265 ?_
        refine lv_i2l (v := mwi.toInt64) hx hb dX3_digest_268 rfl ?_
        refine lv_ladd hx hb dX3_digest_269 ?_
        refine lv_lstore_n (lv' := [(1, .long ((((((((((((((x1 * 31) + r3.1.toInt64) * 31) + r4.1.toInt64) * 31) + r5.1.toInt64) * 31) + r6.1.toInt64) * 31) + r7.1.toInt64) * 31) + r8.1.toInt64) * 31) + mwi.toInt64)), (3, .int 6), (0, .ref (b 0))]) hx hb dX3_digest_270 rfl hl (by decide) rfl (fun ls hl => ?_)
        refine lv_aload_n hx hb dX3_digest_271 rfl (lv_at hl 2 rfl) ?_
        obtain ⟨r9, g9, h⟩ := g_b h
        refine kcall_r (wMo cJ cZ b mce mfr mun mbe men mov msp mwb mwe mwi mac mre mkn r8.2) (va_runV (As := []) (rest := []) ⟨hx, hb, hml, hown, hts⟩ (c_X3_roomsNow l dC dI cB cI cJ cZ b _ mce mfr mun mbe men mov msp mwb mwe mwi mac mre mkn r8.2  r9 g9) (kcwV hts kw_1438 kv_X3_roomsNow rfl rfl ⟨(Nat.le_of_ble_eq_true rfl), (Nat.le_of_ble_eq_true rfl)⟩) (kpV (A := A) (hP.sub [0, 1, 2, 3, 4, 5, 6] rfl) hK (hD.sub [0, 1, 2, 3, 4, 5, 6] (by decide) rfl) hG (va_recv hK hP (ci := 5) (q0 := 0) rfl rfl)) rfl rfl hl.1 rfl (lv_room (Nat.le_of_ble_eq_true rfl)) dX3_digest_272 ⟨by show _ ≤ (86 : Nat); omega, by show _ ≤ (1880 : Nat); omega⟩) hP hD hS hA [0, 1, 2, 3, 4, 5, 6] [] rfl rfl [] rfl rfl rfl (by decide) rfl rfl (fun qn0 H locs hP hD hS => ?_)
        have hP : va_P (dC, dI) vwCl ((wMo cJ cZ b mce mfr mun mbe men mov msp mwb mwe mwi mac mre mkn r8.2) ++ [(qn0, .inl (cI, mwi.toNatClampNeg, .inl r9))]) H := hP
        have hD : va_D A ((wMo cJ cZ b mce mfr mun mbe men mov msp mwb mwe mwi mac mre mkn r8.2) ++ [(qn0, .inl (cI, mwi.toNatClampNeg, .inl r9))]) := hD
        refine lv_astore_n (lv' := [(3, .ref qn0), (1, .long ((((((((((((((x1 * 31) + r3.1.toInt64) * 31) + r4.1.toInt64) * 31) + r5.1.toInt64) * 31) + r6.1.toInt64) * 31) + r7.1.toInt64) * 31) + r8.1.toInt64) * 31) + mwi.toInt64)), (0, .ref (b 0))]) hx hb dX3_digest_275 rfl hl (by decide) rfl (fun ls hl => ?_)
        refine lv_iconst (v := 0) hx hb dX3_digest_276 (by decide) ?_
        refine lv_istore (lv' := [(4, .int 0), (3, .ref qn0), (1, .long ((((((((((((((x1 * 31) + r3.1.toInt64) * 31) + r4.1.toInt64) * 31) + r5.1.toInt64) * 31) + r6.1.toInt64) * 31) + r7.1.toInt64) * 31) + r8.1.toInt64) * 31) + mwi.toInt64)), (0, .ref (b 0))]) hx hb dX3_digest_277 hl (by decide) rfl (fun ls hl => ?_)
        exact J279 24 mce mfr mun mbe men mov msp mwb mwe mwi mac mre mkn r8.2 r9 ((((((((((((((x1 * 31) + r3.1.toInt64) * 31) + r4.1.toInt64) * 31) + r5.1.toInt64) * 31) + r6.1.toInt64) * 31) + r7.1.toInt64) * 31) + r8.1.toInt64) * 31) + mwi.toInt64) 0 qn0 _ _ _ _ (by omega) (by omega) hP hD hS ls (lv_sub hl [3, 2, 1, 0] rfl) h
      · have h := g_f c2 h
        refine lv_iconst (v := 0) hx hb dX3_digest_196 (by decide) ?_
        refine lv_istore (lv' := [(4, .int 0), (0, .ref (b 0)), (1, .long x1), (3, .int x3)]) hx hb dX3_digest_197 hl (by decide) rfl (fun ls hl => ?_)
        refine lv_iload hx hb dX3_digest_199 (lv_at hl 0 rfl) ?_
        refine lv_iconst (v := 4) hx hb dX3_digest_201 (by decide) ?_
        refine lv_icmp_ge (tgt := 226) hx hb dX3_digest_202 (by decide) (fun c9 => absurd c9 (by decide)) (fun _ => ?_)
        refine lv_lload_n hx hb dX3_digest_205 rfl (lv_at hl 2 rfl) ?_
        refine lv_ldc2 (v := (31)) hx hb hown hw1 dX3_digest_206 ?_
        refine lv_lmul hx hb dX3_digest_209 ?_
        refine lv_aload_n hx hb dX3_digest_210 rfl (lv_at hl 1 rfl) ?_
        refine lv_iload_n hx hb dX3_digest_211 rfl (lv_at hl 3 rfl) ?_
        refine lv_iload hx hb dX3_digest_212 (lv_at hl 0 rfl) ?_
        obtain ⟨r3, g3, h⟩ := g_b h
        refine kcall_i (wMo cJ cZ b mce mfr mun mbe men mov msp mwb mwe mwi mac mre mkn r3.2) (va_runV (As := [.int x3, .int 0]) (rest := [.long (x1 * 31)]) ⟨hx, hb, hml, hown, hts⟩ (c_X3_ofFree l dC dI cB cI cJ cZ b _ mce mfr mun mbe men mov msp mwb mwe mwi mac mre mkn r1.2 x3 0 r3 g3) (kcwV hts kw_1488 kv_X3_ofFree rfl rfl ⟨(Nat.le_of_ble_eq_true rfl), (Nat.le_of_ble_eq_true rfl)⟩) (kpV (A := A) (hP.sub (kIT mk_26 0) (km_f (m := mk_26) rfl rfl)) hK (hD.sub (kIT mk_26 0) (km_nd mk_26) (km_T (m := mk_26) rfl rfl)) hG (va_recv hK hP (ci := 5) (q0 := 0) rfl rfl)) rfl rfl hl.1 rfl (lv_room (Nat.le_of_ble_eq_true rfl)) dX3_digest_214 ⟨by show _ ≤ (86 : Nat); omega, by show _ ≤ (1880 : Nat); omega⟩) hP hD hS hA (kIT mk_26 0) (kIT mk_25 0) (km_T (m := mk_26) rfl rfl) (km_T (m := mk_26) rfl rfl) [] (km_T (m := mk_25) rfl rfl) (km_T (m := mk_25) rfl rfl) (km_cov (m := mk_26) (n := mk_25) rfl rfl) (km_dis (m := mk_26) (n := mk_25) rfl) rfl (fun H locs hP hD hS br3 => ?_)
        refine lv_i2l (v := r3.1.toInt64) hx hb dX3_digest_217 rfl ?_
        refine lv_ladd hx hb dX3_digest_218 ?_
        refine lv_lstore_n (lv' := [(1, .long ((x1 * 31) + r3.1.toInt64)), (4, .int 0), (0, .ref (b 0)), (3, .int x3)]) hx hb dX3_digest_219 rfl hl (by decide) rfl (fun ls hl => ?_)
        refine lv_iinc (v := 1) (lv' := [(4, .int 1), (1, .long ((x1 * 31) + r3.1.toInt64)), (0, .ref (b 0)), (3, .int x3)]) hx hb dX3_digest_220 hl (k := 1) rfl (by decide) (by decide) rfl (fun ls hl => ?_)
        refine lv_goto (tgt := 199) hx hb dX3_digest_223 (by decide) ?_
        refine lv_iload hx hb dX3_digest_199 (lv_at hl 0 rfl) ?_
        refine lv_iconst (v := 4) hx hb dX3_digest_201 (by decide) ?_
        refine lv_icmp_ge (tgt := 226) hx hb dX3_digest_202 (by decide) (fun c9 => absurd c9 (by decide)) (fun _ => ?_)
        refine lv_lload_n hx hb dX3_digest_205 rfl (lv_at hl 1 rfl) ?_
        refine lv_ldc2 (v := (31)) hx hb hown hw1 dX3_digest_206 ?_
        refine lv_lmul hx hb dX3_digest_209 ?_
        refine lv_aload_n hx hb dX3_digest_210 rfl (lv_at hl 2 rfl) ?_
        refine lv_iload_n hx hb dX3_digest_211 rfl (lv_at hl 3 rfl) ?_
        refine lv_iload hx hb dX3_digest_212 (lv_at hl 0 rfl) ?_
        obtain ⟨r4, g4, h⟩ := g_b h
        refine kcall_i (wMo cJ cZ b mce mfr mun mbe men mov msp mwb mwe mwi mac mre mkn r4.2) (va_runV (As := [.int x3, .int 1]) (rest := [.long (((x1 * 31) + r3.1.toInt64) * 31)]) ⟨hx, hb, hml, hown, hts⟩ (c_X3_ofFree l dC dI cB cI cJ cZ b _ mce mfr mun mbe men mov msp mwb mwe mwi mac mre mkn r3.2 x3 1 r4 g4) (kcwV hts kw_1488 kv_X3_ofFree rfl rfl ⟨(Nat.le_of_ble_eq_true rfl), (Nat.le_of_ble_eq_true rfl)⟩) (kpV (A := A) (hP.sub (kIT mk_26 0) (km_f (m := mk_26) rfl rfl)) hK (hD.sub (kIT mk_26 0) (km_nd mk_26) (km_T (m := mk_26) rfl rfl)) hG (va_recv hK hP (ci := 5) (q0 := 0) rfl rfl)) rfl rfl hl.1 rfl (lv_room (Nat.le_of_ble_eq_true rfl)) dX3_digest_214 ⟨by show _ ≤ (86 : Nat); omega, by show _ ≤ (1880 : Nat); omega⟩) hP hD hS hA (kIT mk_26 0) (kIT mk_25 0) (km_T (m := mk_26) rfl rfl) (km_T (m := mk_26) rfl rfl) [] (km_T (m := mk_25) rfl rfl) (km_T (m := mk_25) rfl rfl) (km_cov (m := mk_26) (n := mk_25) rfl rfl) (km_dis (m := mk_26) (n := mk_25) rfl) rfl (fun H locs hP hD hS br4 => ?_)
        refine lv_i2l (v := r4.1.toInt64) hx hb dX3_digest_217 rfl ?_
        refine lv_ladd hx hb dX3_digest_218 ?_
        refine lv_lstore_n (lv' := [(1, .long ((((x1 * 31) + r3.1.toInt64) * 31) + r4.1.toInt64)), (4, .int 1), (0, .ref (b 0)), (3, .int x3)]) hx hb dX3_digest_219 rfl hl (by decide) rfl (fun ls hl => ?_)
        refine lv_iinc (v := 2) (lv' := [(4, .int 2), (1, .long ((((x1 * 31) + r3.1.toInt64) * 31) + r4.1.toInt64)), (0, .ref (b 0)), (3, .int x3)]) hx hb dX3_digest_220 hl (k := 1) rfl (by decide) (by decide) rfl (fun ls hl => ?_)
        refine lv_goto (tgt := 199) hx hb dX3_digest_223 (by decide) ?_
        refine lv_iload hx hb dX3_digest_199 (lv_at hl 0 rfl) ?_
        refine lv_iconst (v := 4) hx hb dX3_digest_201 (by decide) ?_
        refine lv_icmp_ge (tgt := 226) hx hb dX3_digest_202 (by decide) (fun c9 => absurd c9 (by decide)) (fun _ => ?_)
        refine lv_lload_n hx hb dX3_digest_205 rfl (lv_at hl 1 rfl) ?_
        refine lv_ldc2 (v := (31)) hx hb hown hw1 dX3_digest_206 ?_
        refine lv_lmul hx hb dX3_digest_209 ?_
        refine lv_aload_n hx hb dX3_digest_210 rfl (lv_at hl 2 rfl) ?_
        refine lv_iload_n hx hb dX3_digest_211 rfl (lv_at hl 3 rfl) ?_
        refine lv_iload hx hb dX3_digest_212 (lv_at hl 0 rfl) ?_
        obtain ⟨r5, g5, h⟩ := g_b h
        refine kcall_i (wMo cJ cZ b mce mfr mun mbe men mov msp mwb mwe mwi mac mre mkn r5.2) (va_runV (As := [.int x3, .int 2]) (rest := [.long (((((x1 * 31) + r3.1.toInt64) * 31) + r4.1.toInt64) * 31)]) ⟨hx, hb, hml, hown, hts⟩ (c_X3_ofFree l dC dI cB cI cJ cZ b _ mce mfr mun mbe men mov msp mwb mwe mwi mac mre mkn r4.2 x3 2 r5 g5) (kcwV hts kw_1488 kv_X3_ofFree rfl rfl ⟨(Nat.le_of_ble_eq_true rfl), (Nat.le_of_ble_eq_true rfl)⟩) (kpV (A := A) (hP.sub (kIT mk_26 0) (km_f (m := mk_26) rfl rfl)) hK (hD.sub (kIT mk_26 0) (km_nd mk_26) (km_T (m := mk_26) rfl rfl)) hG (va_recv hK hP (ci := 5) (q0 := 0) rfl rfl)) rfl rfl hl.1 rfl (lv_room (Nat.le_of_ble_eq_true rfl)) dX3_digest_214 ⟨by show _ ≤ (86 : Nat); omega, by show _ ≤ (1880 : Nat); omega⟩) hP hD hS hA (kIT mk_26 0) (kIT mk_25 0) (km_T (m := mk_26) rfl rfl) (km_T (m := mk_26) rfl rfl) [] (km_T (m := mk_25) rfl rfl) (km_T (m := mk_25) rfl rfl) (km_cov (m := mk_26) (n := mk_25) rfl rfl) (km_dis (m := mk_26) (n := mk_25) rfl) rfl (fun H locs hP hD hS br5 => ?_)
        refine lv_i2l (v := r5.1.toInt64) hx hb dX3_digest_217 rfl ?_
        refine lv_ladd hx hb dX3_digest_218 ?_
        refine lv_lstore_n (lv' := [(1, .long ((((((x1 * 31) + r3.1.toInt64) * 31) + r4.1.toInt64) * 31) + r5.1.toInt64)), (4, .int 2), (0, .ref (b 0)), (3, .int x3)]) hx hb dX3_digest_219 rfl hl (by decide) rfl (fun ls hl => ?_)
        refine lv_iinc (v := 3) (lv' := [(4, .int 3), (1, .long ((((((x1 * 31) + r3.1.toInt64) * 31) + r4.1.toInt64) * 31) + r5.1.toInt64)), (0, .ref (b 0)), (3, .int x3)]) hx hb dX3_digest_220 hl (k := 1) rfl (by decide) (by decide) rfl (fun ls hl => ?_)
        refine lv_goto (tgt := 199) hx hb dX3_digest_223 (by decide) ?_
        refine lv_iload hx hb dX3_digest_199 (lv_at hl 0 rfl) ?_
        refine lv_iconst (v := 4) hx hb dX3_digest_201 (by decide) ?_
        refine lv_icmp_ge (tgt := 226) hx hb dX3_digest_202 (by decide) (fun c9 => absurd c9 (by decide)) (fun _ => ?_)
        refine lv_lload_n hx hb dX3_digest_205 rfl (lv_at hl 1 rfl) ?_
        refine lv_ldc2 (v := (31)) hx hb hown hw1 dX3_digest_206 ?_
        refine lv_lmul hx hb dX3_digest_209 ?_
        refine lv_aload_n hx hb dX3_digest_210 rfl (lv_at hl 2 rfl) ?_
        refine lv_iload_n hx hb dX3_digest_211 rfl (lv_at hl 3 rfl) ?_
        refine lv_iload hx hb dX3_digest_212 (lv_at hl 0 rfl) ?_
        obtain ⟨r6, g6, h⟩ := g_b h
        refine kcall_i (wMo cJ cZ b mce mfr mun mbe men mov msp mwb mwe mwi mac mre mkn r6.2) (va_runV (As := [.int x3, .int 3]) (rest := [.long (((((((x1 * 31) + r3.1.toInt64) * 31) + r4.1.toInt64) * 31) + r5.1.toInt64) * 31)]) ⟨hx, hb, hml, hown, hts⟩ (c_X3_ofFree l dC dI cB cI cJ cZ b _ mce mfr mun mbe men mov msp mwb mwe mwi mac mre mkn r5.2 x3 3 r6 g6) (kcwV hts kw_1488 kv_X3_ofFree rfl rfl ⟨(Nat.le_of_ble_eq_true rfl), (Nat.le_of_ble_eq_true rfl)⟩) (kpV (A := A) (hP.sub (kIT mk_26 0) (km_f (m := mk_26) rfl rfl)) hK (hD.sub (kIT mk_26 0) (km_nd mk_26) (km_T (m := mk_26) rfl rfl)) hG (va_recv hK hP (ci := 5) (q0 := 0) rfl rfl)) rfl rfl hl.1 rfl (lv_room (Nat.le_of_ble_eq_true rfl)) dX3_digest_214 ⟨by show _ ≤ (86 : Nat); omega, by show _ ≤ (1880 : Nat); omega⟩) hP hD hS hA (kIT mk_26 0) (kIT mk_25 0) (km_T (m := mk_26) rfl rfl) (km_T (m := mk_26) rfl rfl) [] (km_T (m := mk_25) rfl rfl) (km_T (m := mk_25) rfl rfl) (km_cov (m := mk_26) (n := mk_25) rfl rfl) (km_dis (m := mk_26) (n := mk_25) rfl) rfl (fun H locs hP hD hS br6 => ?_)
        refine lv_i2l (v := r6.1.toInt64) hx hb dX3_digest_217 rfl ?_
        refine lv_ladd hx hb dX3_digest_218 ?_
        refine lv_lstore_n (lv' := [(1, .long ((((((((x1 * 31) + r3.1.toInt64) * 31) + r4.1.toInt64) * 31) + r5.1.toInt64) * 31) + r6.1.toInt64)), (4, .int 3), (0, .ref (b 0)), (3, .int x3)]) hx hb dX3_digest_219 rfl hl (by decide) rfl (fun ls hl => ?_)
        refine lv_iinc (v := 4) (lv' := [(4, .int 4), (1, .long ((((((((x1 * 31) + r3.1.toInt64) * 31) + r4.1.toInt64) * 31) + r5.1.toInt64) * 31) + r6.1.toInt64)), (0, .ref (b 0)), (3, .int x3)]) hx hb dX3_digest_220 hl (k := 1) rfl (by decide) (by decide) rfl (fun ls hl => ?_)
        refine lv_goto (tgt := 199) hx hb dX3_digest_223 (by decide) ?_
        refine lv_iload hx hb dX3_digest_199 (lv_at hl 0 rfl) ?_
        refine lv_iconst (v := 4) hx hb dX3_digest_201 (by decide) ?_
        refine lv_icmp_ge (tgt := 226) hx hb dX3_digest_202 (by decide) (fun _ => ?_) (fun c9 => absurd (by decide) c9)
        refine lv_iinc (v := x3 + 1) (lv' := [(3, .int (x3 + 1)), (4, .int 4), (1, .long ((((((((x1 * 31) + r3.1.toInt64) * 31) + r4.1.toInt64) * 31) + r5.1.toInt64) * 31) + r6.1.toInt64)), (0, .ref (b 0))]) hx hb dX3_digest_226 hl (k := 3) rfl rfl (by decide) rfl (fun ls hl => ?_)
        refine lv_goto (tgt := 188) hx hb dX3_digest_229 (by decide) ?_
        exact ih mce mfr mun mbe men mov msp mwb mwe mwi mac mre mkn r6.2 ((((((((x1 * 31) + r3.1.toInt64) * 31) + r4.1.toInt64) * 31) + r5.1.toInt64) * 31) + r6.1.toInt64) (x3 + 1) _ _ _ _ (by omega) (by omega) hP hD hS ls (lv_sub hl [3, 2, 0] rfl) h
  have J105 : ∀ (n : Nat), ∀ (mce : Nat → Int64) (mfr : Int64) (mun : Int64) (mbe : Nat → Int64) (men : Nat → Int64) (mov : Nat → Int32) (msp : Int32) (mwb : Nat → Int64) (mwe : Nat → Int64) (mwi : Int32) (mac : Int32) (mre : Int32) (mkn : Int32) (mth : Int32) (x1 : Int64) (x3 : Int32) (H : Heap) (locs : List Loc) (kc ks : Nat), kc + (n * 0 + 82) ≤ 86 → ks + (n * 0 + 1792) ≤ 1880 → va_P (dC, dI) vwCl (wMo cJ cZ b mce mfr mun mbe men mov msp mwb mwe mwi mac mre mkn mth) H → va_D A (wMo cJ cZ b mce mfr mun mbe men mov msp mwb mwe mwi mac mre mkn mth) → va_S A s.heap H locs → ∀ (ls : Array Slot), lv_has ls 5 [(0, .ref (b 0)), (1, .long x1), (3, .int x3)] → f_X3_digest_105 n mfr mun mbe men mov msp mwb mwe mwi mac mre mkn x1 x3 = some res → W p l e (headSpec wsX3_digest ({ frames := 5, cells := 86, slots := 1880, locals := 119 } : Room)).room s m ([.ref (b 0)] : List Value).toArray below meth c H locs kc ks (MQ below (kL (dC, dI) (res.1) (wMo cJ cZ b mce mfr mun mbe men mov msp mwb mwe mwi mac mre mkn (res.2)) A) ([.ref (b 0)] : List Value).toArray s 86 1880 A) (F0 m 105 ls []) := by
    intro n
    induction n with
    | zero =>
      intro mce mfr mun mbe men mov msp mwb mwe mwi mac mre mkn mth x1 x3 H locs kc ks hkc hks hP hD hS ls hl h
      have h := f_X3_digest_105_0.symm.trans h
      cases h
    | succ n ih =>
      intro mce mfr mun mbe men mov msp mwb mwe mwi mac mre mkn mth x1 x3 H locs kc ks hkc hks hP hD hS ls hl h
      have h := f_X3_digest_105_s.symm.trans h
      refine lv_iload_n hx hb dX3_digest_105 rfl (lv_at hl 2 rfl) ?_
      refine lv_aload_n hx hb dX3_digest_106 rfl (lv_at hl 0 rfl) ?_
      refine va_get (D := (dC, dI)) (ci := 5) (v := .int msp) (C := RX3) (T := TX3) (N := 14) hx hb hts hiX3 hown hK hP 0 rfl rfl 6 (by decide) hw2 (fun _ h9 => h9) rfl dX3_digest_107 ?_
      refine lv_icmp_ge (tgt := 154) hx hb dX3_digest_110 (by decide) (fun c1 => ?_) (fun c1 => ?_)
      · have h := g_t c1 h
        refine lv_lload_n hx hb dX3_digest_154 rfl (lv_at hl 1 rfl) ?_
        refine lv_ldc2 (v := (31)) hx hb hown hw1 dX3_digest_155 ?_
        refine lv_lmul hx hb dX3_digest_158 ?_
        refine lv_aload_n hx hb dX3_digest_159 rfl (lv_at hl 0 rfl) ?_
        obtain ⟨r2, g2, h⟩ := g_b h
        refine kcall_i (wMo cJ cZ b mce mfr mun mbe men mov msp mwb mwe mwi mac mre mkn r2.2) (va_runV (As := []) (rest := [.long (x1 * 31)]) ⟨hx, hb, hml, hown, hts⟩ (c_X3_clashes l dC dI cB cI cJ cZ b _ mce mfr mun mbe men mov msp mwb mwe mwi mac mre mkn mth  r2 g2) (kcwV hts kw_1485 kv_X3_clashes rfl rfl ⟨(Nat.le_of_ble_eq_true rfl), (Nat.le_of_ble_eq_true rfl)⟩) (kpV (A := A) (hP.sub (kIT mk_26 0) (km_f (m := mk_26) rfl rfl)) hK (hD.sub (kIT mk_26 0) (km_nd mk_26) (km_T (m := mk_26) rfl rfl)) hG (va_recv hK hP (ci := 5) (q0 := 0) rfl rfl)) rfl rfl hl.1 rfl (lv_room (Nat.le_of_ble_eq_true rfl)) dX3_digest_160 ⟨by show _ ≤ (86 : Nat); omega, by show _ ≤ (1880 : Nat); omega⟩) hP hD hS hA (kIT mk_26 0) (kIT mk_25 0) (km_T (m := mk_26) rfl rfl) (km_T (m := mk_26) rfl rfl) [] (km_T (m := mk_25) rfl rfl) (km_T (m := mk_25) rfl rfl) (km_cov (m := mk_26) (n := mk_25) rfl rfl) (km_dis (m := mk_26) (n := mk_25) rfl) rfl (fun H locs hP hD hS br2 => ?_)
        refine lv_i2l (v := r2.1.toInt64) hx hb dX3_digest_163 rfl ?_
        refine lv_ladd hx hb dX3_digest_164 ?_
        refine lv_ldc2 (v := (31)) hx hb hown hw1 dX3_digest_165 ?_
        refine lv_lmul hx hb dX3_digest_168 ?_
        refine lv_aload_n hx hb dX3_digest_169 rfl (lv_at hl 0 rfl) ?_
        obtain ⟨r3, g3, h⟩ := g_b h
        refine kcall_i (wMo cJ cZ b mce mfr mun mbe men mov msp mwb mwe mwi mac mre mkn r3.2) (va_runV (As := []) (rest := [.long (((x1 * 31) + r2.1.toInt64) * 31)]) ⟨hx, hb, hml, hown, hts⟩ (c_X3_deepest_ l dC dI cB cI cJ cZ b _ mce mfr mun mbe men mov msp mwb mwe mwi mac mre mkn r2.2  r3 g3) (kcwV hts kw_1486 kv_X3_deepest_ rfl rfl ⟨(Nat.le_of_ble_eq_true rfl), (Nat.le_of_ble_eq_true rfl)⟩) (kpV (A := A) (hP.sub (kIT mk_26 0) (km_f (m := mk_26) rfl rfl)) hK (hD.sub (kIT mk_26 0) (km_nd mk_26) (km_T (m := mk_26) rfl rfl)) hG (va_recv hK hP (ci := 5) (q0 := 0) rfl rfl)) rfl rfl hl.1 rfl (lv_room (Nat.le_of_ble_eq_true rfl)) dX3_digest_170 ⟨by show _ ≤ (86 : Nat); omega, by show _ ≤ (1880 : Nat); omega⟩) hP hD hS hA (kIT mk_26 0) (kIT mk_25 0) (km_T (m := mk_26) rfl rfl) (km_T (m := mk_26) rfl rfl) [] (km_T (m := mk_25) rfl rfl) (km_T (m := mk_25) rfl rfl) (km_cov (m := mk_26) (n := mk_25) rfl rfl) (km_dis (m := mk_26) (n := mk_25) rfl) rfl (fun H locs hP hD hS br3 => ?_)
        refine lv_i2l (v := r3.1.toInt64) hx hb dX3_digest_173 rfl ?_
        refine lv_ladd hx hb dX3_digest_174 ?_
        refine lv_ldc2 (v := (31)) hx hb hown hw1 dX3_digest_175 ?_
        refine lv_lmul hx hb dX3_digest_178 ?_
        refine lv_aload_n hx hb dX3_digest_179 rfl (lv_at hl 0 rfl) ?_
        obtain ⟨r4, g4, h⟩ := g_b h
        refine kcall_i (wMo cJ cZ b mce mfr mun mbe men mov msp mwb mwe mwi mac mre mkn r4.2) (va_runV (As := []) (rest := [.long (((((x1 * 31) + r2.1.toInt64) * 31) + r3.1.toInt64) * 31)]) ⟨hx, hb, hml, hown, hts⟩ (c_X3_frees l dC dI cB cI cJ cZ b _ mce mfr mun mbe men mov msp mwb mwe mwi mac mre mkn r3.2  r4 g4) (kcwV hts kw_1487 kv_X3_frees rfl rfl ⟨(Nat.le_of_ble_eq_true rfl), (Nat.le_of_ble_eq_true rfl)⟩) (kpV (A := A) (hP.sub (kIT mk_26 0) (km_f (m := mk_26) rfl rfl)) hK (hD.sub (kIT mk_26 0) (km_nd mk_26) (km_T (m := mk_26) rfl rfl)) hG (va_recv hK hP (ci := 5) (q0 := 0) rfl rfl)) rfl rfl hl.1 rfl (lv_room (Nat.le_of_ble_eq_true rfl)) dX3_digest_180 ⟨by show _ ≤ (86 : Nat); omega, by show _ ≤ (1880 : Nat); omega⟩) hP hD hS hA (kIT mk_26 0) (kIT mk_25 0) (km_T (m := mk_26) rfl rfl) (km_T (m := mk_26) rfl rfl) [] (km_T (m := mk_25) rfl rfl) (km_T (m := mk_25) rfl rfl) (km_cov (m := mk_26) (n := mk_25) rfl rfl) (km_dis (m := mk_26) (n := mk_25) rfl) rfl (fun H locs hP hD hS br4 => ?_)
        refine lv_i2l (v := r4.1.toInt64) hx hb dX3_digest_183 rfl ?_
        refine lv_ladd hx hb dX3_digest_184 ?_
        refine lv_lstore_n (lv' := [(1, .long ((((((x1 * 31) + r2.1.toInt64) * 31) + r3.1.toInt64) * 31) + r4.1.toInt64)), (0, .ref (b 0)), (3, .int x3)]) hx hb dX3_digest_185 rfl hl (by decide) rfl (fun ls hl => ?_)
        refine lv_iconst (v := 0) hx hb dX3_digest_186 (by decide) ?_
        refine lv_istore_n (lv' := [(3, .int 0), (1, .long ((((((x1 * 31) + r2.1.toInt64) * 31) + r3.1.toInt64) * 31) + r4.1.toInt64)), (0, .ref (b 0))]) hx hb dX3_digest_187 rfl hl (by decide) rfl (fun ls hl => ?_)
        exact J188 14 mce mfr mun mbe men mov msp mwb mwe mwi mac mre mkn r4.2 ((((((x1 * 31) + r2.1.toInt64) * 31) + r3.1.toInt64) * 31) + r4.1.toInt64) 0 _ _ _ _ (by omega) (by omega) hP hD hS ls (lv_sub hl [2, 1, 0] rfl) h
      · have h := g_f c1 h
        refine lv_aload_n hx hb dX3_digest_113 rfl (lv_at hl 0 rfl) ?_
        refine lv_lload_n hx hb dX3_digest_114 rfl (lv_at hl 1 rfl) ?_
        refine lv_aload_n hx hb dX3_digest_115 rfl (lv_at hl 0 rfl) ?_
        refine va_get (D := (dC, dI)) (ci := 5) (v := .ref (b 2)) (C := RX3) (T := TX3) (N := 14) hx hb hts hiX3 hown hK hP 0 rfl rfl 3 (by decide) hw7 (fun _ h9 => h9) rfl dX3_digest_116 ?_
        refine lv_aload_n hx hb dX3_digest_119 rfl (lv_at hl 0 rfl) ?_
        refine va_get (D := (dC, dI)) (ci := 5) (v := .ref (b 3)) (C := RX3) (T := TX3) (N := 14) hx hb hts hiX3 hown hK hP 0 rfl rfl 4 (by decide) hw8 (fun _ h9 => h9) rfl dX3_digest_120 ?_
        refine lv_iload_n hx hb dX3_digest_123 rfl (lv_at hl 2 rfl) ?_
        obtain ⟨r2, g2, h⟩ := g_b h
        refine kcall_l (wMo cJ cZ b mce mfr mun mbe men mov msp mwb mwe mwi mac mre mkn mth) (va_runV (As := [.long x1, .ref (b 2), .ref (b 3), .int x3]) (rest := []) ⟨hx, hb, hml, hown, hts⟩ (c_X3_added l dC dI cB cI cJ cZ (b 0) (b 2) 10 (b 3) 10 _ mbe men x1 x3 r2 g2) (kcwV hts kw_1481 kv_X3_added rfl rfl ⟨(Nat.le_of_ble_eq_true rfl), (Nat.le_of_ble_eq_true rfl)⟩) (kpV (A := A) (hP.sub (kIT mk_49 0) (km_f (m := mk_49) rfl rfl)) hK (hD.sub (kIT mk_49 0) (km_nd mk_49) (km_T (m := mk_49) rfl rfl)) hG (va_recv hK hP (ci := 5) (q0 := 0) rfl rfl)) rfl rfl hl.1 rfl (lv_room (Nat.le_of_ble_eq_true rfl)) dX3_digest_124 ⟨by show _ ≤ (86 : Nat); omega, by show _ ≤ (1880 : Nat); omega⟩) hP hD hS hA (kIT mk_49 0) (kIT mk_50 0) (km_T (m := mk_49) rfl rfl) (km_T (m := mk_49) rfl rfl) [((b 0), .inr (5, [.ref (b 1), .long mfr, .long mun, .ref (b 2), .ref (b 3), .ref (b 4), .int msp, .ref (b 5), .ref (b 6), .int mwi, .int mac, .int mre, .int mkn, .int mth])), ((b 1), .inl (cJ, 4, .inr (.inl mce))), ((b 4), .inl (cZ, 10, .inl mov)), ((b 5), .inl (cJ, 8, .inr (.inl mwb))), ((b 6), .inl (cJ, 8, .inr (.inl mwe)))] (km_T (m := mk_50) rfl rfl) (km_T (m := mk_50) rfl rfl) (km_cov (m := mk_49) (n := mk_50) rfl rfl) (km_dis (m := mk_49) (n := mk_50) rfl) rfl (fun H locs hP hD hS => ?_)
        refine lv_ldc2 (v := (31)) hx hb hown hw1 dX3_digest_127 ?_
        refine lv_lmul hx hb dX3_digest_130 ?_
        refine lv_aload_n hx hb dX3_digest_131 rfl (lv_at hl 0 rfl) ?_
        refine va_get (D := (dC, dI)) (ci := 5) (v := .ref (b 4)) (C := RX3) (T := TX3) (N := 14) hx hb hts hiX3 hown hK hP 0 rfl rfl 5 (by decide) hw9 (fun _ h9 => h9) rfl dX3_digest_132 ?_
        refine lv_iload_n hx hb dX3_digest_135 rfl (lv_at hl 2 rfl) ?_
        obtain ⟨z2, h⟩ := g_if h
        refine va_zald hx hb hK hP 4 3 rfl rfl (ix_in z2) dX3_digest_136 ?_
        refine lv_if_eq (tgt := 144) hx hb dX3_digest_137 (by decide) (fun c4 => ?_) (fun c4 => ?_)
        · have h := g_t c4 h
          refine lv_iconst (v := 0) hx hb dX3_digest_144 (by decide) ?_
          refine lv_i2l (v := (0 : Int32).toInt64) hx hb dX3_digest_145 rfl ?_
          refine lv_ladd hx hb dX3_digest_146 ?_
          refine lv_lstore_n (lv' := [(1, .long ((r2 * 31) + ((0 : Int32).toInt64))), (0, .ref (b 0)), (3, .int x3)]) hx hb dX3_digest_147 rfl hl (by decide) rfl (fun ls hl => ?_)
          refine lv_iinc (v := x3 + 1) (lv' := [(3, .int (x3 + 1)), (1, .long ((r2 * 31) + ((0 : Int32).toInt64))), (0, .ref (b 0))]) hx hb dX3_digest_148 hl (k := 2) rfl rfl (by decide) rfl (fun ls hl => ?_)
          refine lv_goto (tgt := 105) hx hb dX3_digest_151 (by decide) ?_
          exact ih mce mfr mun mbe men mov msp mwb mwe mwi mac mre mkn mth ((r2 * 31) + ((0 : Int32).toInt64)) (x3 + 1) _ _ _ _ (by omega) (by omega) hP hD hS ls (lv_sub hl [2, 1, 0] rfl) h
        · have h := g_f c4 h
          refine lv_iconst (v := 1) hx hb dX3_digest_140 (by decide) ?_
          refine lv_goto (tgt := 145) hx hb dX3_digest_141 (by decide) ?_
          refine lv_i2l (v := (1 : Int32).toInt64) hx hb dX3_digest_145 rfl ?_
          refine lv_ladd hx hb dX3_digest_146 ?_
          refine lv_lstore_n (lv' := [(1, .long ((r2 * 31) + ((1 : Int32).toInt64))), (0, .ref (b 0)), (3, .int x3)]) hx hb dX3_digest_147 rfl hl (by decide) rfl (fun ls hl => ?_)
          refine lv_iinc (v := x3 + 1) (lv' := [(3, .int (x3 + 1)), (1, .long ((r2 * 31) + ((1 : Int32).toInt64))), (0, .ref (b 0))]) hx hb dX3_digest_148 hl (k := 2) rfl rfl (by decide) rfl (fun ls hl => ?_)
          refine lv_goto (tgt := 105) hx hb dX3_digest_151 (by decide) ?_
          exact ih mce mfr mun mbe men mov msp mwb mwe mwi mac mre mkn mth ((r2 * 31) + ((1 : Int32).toInt64)) (x3 + 1) _ _ _ _ (by omega) (by omega) hP hD hS ls (lv_sub hl [2, 1, 0] rfl) h
  have hl := lv_entry ([.ref (b 0)]) (n := 5) (Nat.le_of_ble_eq_true rfl)
  rw [lg_entry_eq]
  generalize (lg_sl ([.ref (b 0)]) ++ List.replicate (5 - (lg_sl ([.ref (b 0)])).length) Slot.unset).toArray = ls at hl ⊢
  have hl : lv_has ls 5 [(0, .ref (b 0))] := hl
  have h := f_X3_digest_e.symm.trans hf
  refine lv_ldc2 (v := (8009)) hx hb hown hw0 dX3_digest_0 ?_
  refine lv_lstore_n (lv' := [(1, .long 8009), (0, .ref (b 0))]) hx hb dX3_digest_3 rfl hl (by decide) rfl (fun ls hl => ?_)
  refine lv_iconst (v := 0) hx hb dX3_digest_4 (by decide) ?_
  refine lv_istore_n (lv' := [(3, .int 0), (1, .long 8009), (0, .ref (b 0))]) hx hb dX3_digest_5 rfl hl (by decide) rfl (fun ls hl => ?_)
  refine lv_iload_n hx hb dX3_digest_6 rfl (lv_at hl 0 rfl) ?_
  refine lv_iconst (v := 4) hx hb dX3_digest_7 (by decide) ?_
  refine lv_icmp_ge (tgt := 65) hx hb dX3_digest_8 (by decide) (fun c9 => absurd c9 (by decide)) (fun _ => ?_)
  refine lv_lload_n hx hb dX3_digest_11 rfl (lv_at hl 1 rfl) ?_
  refine lv_ldc2 (v := (31)) hx hb hown hw1 dX3_digest_12 ?_
  refine lv_lmul hx hb dX3_digest_15 ?_
  refine lv_aload_n hx hb dX3_digest_16 rfl (lv_at hl 2 rfl) ?_
  refine lv_iload_n hx hb dX3_digest_17 rfl (lv_at hl 0 rfl) ?_
  obtain ⟨r1, g1, h⟩ := g_b h
  refine kcall_i (wMo cJ cZ b mce mfr mun mbe men mov msp mwb mwe mwi mac mre mkn r1.2) (va_runV (As := [.int 0]) (rest := [.long (8009 * 31)]) ⟨hx, hb, hml, hown, hts⟩ (c_X3_second l dC dI cB cI cJ cZ b _ mce mfr mun mbe men mov msp mwb mwe mwi mac mre mkn mth 0 r1 g1) (kcwV hts kw_1476 kv_X3_second rfl rfl ⟨(Nat.le_of_ble_eq_true rfl), (Nat.le_of_ble_eq_true rfl)⟩) (kpV (A := A) (hP.sub (kIT mk_26 0) (km_f (m := mk_26) rfl rfl)) hK (hD.sub (kIT mk_26 0) (km_nd mk_26) (km_T (m := mk_26) rfl rfl)) hG (va_recv hK hP (ci := 5) (q0 := 0) rfl rfl)) rfl rfl hl.1 rfl (lv_room (Nat.le_of_ble_eq_true rfl)) dX3_digest_18 ⟨by show _ ≤ (86 : Nat); omega, by show _ ≤ (1880 : Nat); omega⟩) hP hD hS hA (kIT mk_26 0) (kIT mk_25 0) (km_T (m := mk_26) rfl rfl) (km_T (m := mk_26) rfl rfl) [] (km_T (m := mk_25) rfl rfl) (km_T (m := mk_25) rfl rfl) (km_cov (m := mk_26) (n := mk_25) rfl rfl) (km_dis (m := mk_26) (n := mk_25) rfl) rfl (fun H locs hP hD hS br1 => ?_)
  refine lv_i2l (v := r1.1.toInt64) hx hb dX3_digest_21 rfl ?_
  refine lv_ladd hx hb dX3_digest_22 ?_
  refine lv_ldc2 (v := (31)) hx hb hown hw1 dX3_digest_23 ?_
  refine lv_lmul hx hb dX3_digest_26 ?_
  refine lv_aload_n hx hb dX3_digest_27 rfl (lv_at hl 2 rfl) ?_
  refine lv_iload_n hx hb dX3_digest_28 rfl (lv_at hl 0 rfl) ?_
  obtain ⟨r2, g2, h⟩ := g_b h
  refine kcall_i (wMo cJ cZ b mce mfr mun mbe men mov msp mwb mwe mwi mac mre mkn r2.2) (va_runV (As := [.int 0]) (rest := [.long (((8009 * 31) + r1.1.toInt64) * 31)]) ⟨hx, hb, hml, hown, hts⟩ (c_X3_nano l dC dI cB cI cJ cZ b _ mce mfr mun mbe men mov msp mwb mwe mwi mac mre mkn r1.2 0 r2 g2) (kcwV hts kw_1477 kv_X3_nano rfl rfl ⟨(Nat.le_of_ble_eq_true rfl), (Nat.le_of_ble_eq_true rfl)⟩) (kpV (A := A) (hP.sub (kIT mk_26 0) (km_f (m := mk_26) rfl rfl)) hK (hD.sub (kIT mk_26 0) (km_nd mk_26) (km_T (m := mk_26) rfl rfl)) hG (va_recv hK hP (ci := 5) (q0 := 0) rfl rfl)) rfl rfl hl.1 rfl (lv_room (Nat.le_of_ble_eq_true rfl)) dX3_digest_29 ⟨by show _ ≤ (86 : Nat); omega, by show _ ≤ (1880 : Nat); omega⟩) hP hD hS hA (kIT mk_26 0) (kIT mk_25 0) (km_T (m := mk_26) rfl rfl) (km_T (m := mk_26) rfl rfl) [] (km_T (m := mk_25) rfl rfl) (km_T (m := mk_25) rfl rfl) (km_cov (m := mk_26) (n := mk_25) rfl rfl) (km_dis (m := mk_26) (n := mk_25) rfl) rfl (fun H locs hP hD hS br2 => ?_)
  refine lv_i2l (v := r2.1.toInt64) hx hb dX3_digest_32 rfl ?_
  refine lv_ladd hx hb dX3_digest_33 ?_
  refine lv_lstore_n (lv' := [(1, .long ((((8009 * 31) + r1.1.toInt64) * 31) + r2.1.toInt64)), (3, .int 0), (0, .ref (b 0))]) hx hb dX3_digest_34 rfl hl (by decide) rfl (fun ls hl => ?_)
  refine lv_lload_n hx hb dX3_digest_35 rfl (lv_at hl 0 rfl) ?_
  refine lv_ldc2 (v := (31)) hx hb hown hw1 dX3_digest_36 ?_
  refine lv_lmul hx hb dX3_digest_39 ?_
  refine lv_aload_n hx hb dX3_digest_40 rfl (lv_at hl 2 rfl) ?_
  refine lv_iload_n hx hb dX3_digest_41 rfl (lv_at hl 1 rfl) ?_
  obtain ⟨r3, g3, h⟩ := g_b h
  refine kcall_i (wMo cJ cZ b mce mfr mun mbe men mov msp mwb mwe mwi mac mre mkn r3.2) (va_runV (As := [.int 0]) (rest := [.long (((((8009 * 31) + r1.1.toInt64) * 31) + r2.1.toInt64) * 31)]) ⟨hx, hb, hml, hown, hts⟩ (c_X3_at l dC dI cB cI cJ cZ b _ mce mfr mun mbe men mov msp mwb mwe mwi mac mre mkn r2.2 0 r3 g3) (kcwV hts kw_1478 kv_X3_at rfl rfl ⟨(Nat.le_of_ble_eq_true rfl), (Nat.le_of_ble_eq_true rfl)⟩) (kpV (A := A) (hP.sub (kIT mk_26 0) (km_f (m := mk_26) rfl rfl)) hK (hD.sub (kIT mk_26 0) (km_nd mk_26) (km_T (m := mk_26) rfl rfl)) hG (va_recv hK hP (ci := 5) (q0 := 0) rfl rfl)) rfl rfl hl.1 rfl (lv_room (Nat.le_of_ble_eq_true rfl)) dX3_digest_42 ⟨by show _ ≤ (86 : Nat); omega, by show _ ≤ (1880 : Nat); omega⟩) hP hD hS hA (kIT mk_26 0) (kIT mk_25 0) (km_T (m := mk_26) rfl rfl) (km_T (m := mk_26) rfl rfl) [] (km_T (m := mk_25) rfl rfl) (km_T (m := mk_25) rfl rfl) (km_cov (m := mk_26) (n := mk_25) rfl rfl) (km_dis (m := mk_26) (n := mk_25) rfl) rfl (fun H locs hP hD hS br3 => ?_)
  refine lv_i2l (v := r3.1.toInt64) hx hb dX3_digest_45 rfl ?_
  refine lv_ladd hx hb dX3_digest_46 ?_
  refine lv_ldc2 (v := (31)) hx hb hown hw1 dX3_digest_47 ?_
  refine lv_lmul hx hb dX3_digest_50 ?_
  refine lv_aload_n hx hb dX3_digest_51 rfl (lv_at hl 2 rfl) ?_
  refine lv_iload_n hx hb dX3_digest_52 rfl (lv_at hl 1 rfl) ?_
  obtain ⟨r4, g4, h⟩ := g_b h
  refine kcall_i (wMo cJ cZ b mce mfr mun mbe men mov msp mwb mwe mwi mac mre mkn r4.2) (va_runV (As := [.int 0]) (rest := [.long (((((((8009 * 31) + r1.1.toInt64) * 31) + r2.1.toInt64) * 31) + r3.1.toInt64) * 31)]) ⟨hx, hb, hml, hown, hts⟩ (c_X3_freeAt l dC dI cB cI cJ cZ b _ mce mfr mun mbe men mov msp mwb mwe mwi mac mre mkn r3.2 0 r4 g4) (kcwV hts kw_1479 kv_X3_freeAt rfl rfl ⟨(Nat.le_of_ble_eq_true rfl), (Nat.le_of_ble_eq_true rfl)⟩) (kpV (A := A) (hP.sub (kIT mk_26 0) (km_f (m := mk_26) rfl rfl)) hK (hD.sub (kIT mk_26 0) (km_nd mk_26) (km_T (m := mk_26) rfl rfl)) hG (va_recv hK hP (ci := 5) (q0 := 0) rfl rfl)) rfl rfl hl.1 rfl (lv_room (Nat.le_of_ble_eq_true rfl)) dX3_digest_53 ⟨by show _ ≤ (86 : Nat); omega, by show _ ≤ (1880 : Nat); omega⟩) hP hD hS hA (kIT mk_26 0) (kIT mk_25 0) (km_T (m := mk_26) rfl rfl) (km_T (m := mk_26) rfl rfl) [] (km_T (m := mk_25) rfl rfl) (km_T (m := mk_25) rfl rfl) (km_cov (m := mk_26) (n := mk_25) rfl rfl) (km_dis (m := mk_26) (n := mk_25) rfl) rfl (fun H locs hP hD hS br4 => ?_)
  refine lv_i2l (v := r4.1.toInt64) hx hb dX3_digest_56 rfl ?_
  refine lv_ladd hx hb dX3_digest_57 ?_
  refine lv_lstore_n (lv' := [(1, .long ((((((((8009 * 31) + r1.1.toInt64) * 31) + r2.1.toInt64) * 31) + r3.1.toInt64) * 31) + r4.1.toInt64)), (3, .int 0), (0, .ref (b 0))]) hx hb dX3_digest_58 rfl hl (by decide) rfl (fun ls hl => ?_)
  refine lv_iinc (v := 1) (lv' := [(3, .int 1), (1, .long ((((((((8009 * 31) + r1.1.toInt64) * 31) + r2.1.toInt64) * 31) + r3.1.toInt64) * 31) + r4.1.toInt64)), (0, .ref (b 0))]) hx hb dX3_digest_59 hl (k := 1) rfl (by decide) (by decide) rfl (fun ls hl => ?_)
  refine lv_goto (tgt := 6) hx hb dX3_digest_62 (by decide) ?_
  refine lv_iload_n hx hb dX3_digest_6 rfl (lv_at hl 0 rfl) ?_
  refine lv_iconst (v := 4) hx hb dX3_digest_7 (by decide) ?_
  refine lv_icmp_ge (tgt := 65) hx hb dX3_digest_8 (by decide) (fun c9 => absurd c9 (by decide)) (fun _ => ?_)
  refine lv_lload_n hx hb dX3_digest_11 rfl (lv_at hl 1 rfl) ?_
  refine lv_ldc2 (v := (31)) hx hb hown hw1 dX3_digest_12 ?_
  refine lv_lmul hx hb dX3_digest_15 ?_
  refine lv_aload_n hx hb dX3_digest_16 rfl (lv_at hl 2 rfl) ?_
  refine lv_iload_n hx hb dX3_digest_17 rfl (lv_at hl 0 rfl) ?_
  obtain ⟨r5, g5, h⟩ := g_b h
  refine kcall_i (wMo cJ cZ b mce mfr mun mbe men mov msp mwb mwe mwi mac mre mkn r5.2) (va_runV (As := [.int 1]) (rest := [.long (((((((((8009 * 31) + r1.1.toInt64) * 31) + r2.1.toInt64) * 31) + r3.1.toInt64) * 31) + r4.1.toInt64) * 31)]) ⟨hx, hb, hml, hown, hts⟩ (c_X3_second l dC dI cB cI cJ cZ b _ mce mfr mun mbe men mov msp mwb mwe mwi mac mre mkn r4.2 1 r5 g5) (kcwV hts kw_1476 kv_X3_second rfl rfl ⟨(Nat.le_of_ble_eq_true rfl), (Nat.le_of_ble_eq_true rfl)⟩) (kpV (A := A) (hP.sub (kIT mk_26 0) (km_f (m := mk_26) rfl rfl)) hK (hD.sub (kIT mk_26 0) (km_nd mk_26) (km_T (m := mk_26) rfl rfl)) hG (va_recv hK hP (ci := 5) (q0 := 0) rfl rfl)) rfl rfl hl.1 rfl (lv_room (Nat.le_of_ble_eq_true rfl)) dX3_digest_18 ⟨by show _ ≤ (86 : Nat); omega, by show _ ≤ (1880 : Nat); omega⟩) hP hD hS hA (kIT mk_26 0) (kIT mk_25 0) (km_T (m := mk_26) rfl rfl) (km_T (m := mk_26) rfl rfl) [] (km_T (m := mk_25) rfl rfl) (km_T (m := mk_25) rfl rfl) (km_cov (m := mk_26) (n := mk_25) rfl rfl) (km_dis (m := mk_26) (n := mk_25) rfl) rfl (fun H locs hP hD hS br5 => ?_)
  refine lv_i2l (v := r5.1.toInt64) hx hb dX3_digest_21 rfl ?_
  refine lv_ladd hx hb dX3_digest_22 ?_
  refine lv_ldc2 (v := (31)) hx hb hown hw1 dX3_digest_23 ?_
  refine lv_lmul hx hb dX3_digest_26 ?_
  refine lv_aload_n hx hb dX3_digest_27 rfl (lv_at hl 2 rfl) ?_
  refine lv_iload_n hx hb dX3_digest_28 rfl (lv_at hl 0 rfl) ?_
  obtain ⟨r6, g6, h⟩ := g_b h
  refine kcall_i (wMo cJ cZ b mce mfr mun mbe men mov msp mwb mwe mwi mac mre mkn r6.2) (va_runV (As := [.int 1]) (rest := [.long (((((((((((8009 * 31) + r1.1.toInt64) * 31) + r2.1.toInt64) * 31) + r3.1.toInt64) * 31) + r4.1.toInt64) * 31) + r5.1.toInt64) * 31)]) ⟨hx, hb, hml, hown, hts⟩ (c_X3_nano l dC dI cB cI cJ cZ b _ mce mfr mun mbe men mov msp mwb mwe mwi mac mre mkn r5.2 1 r6 g6) (kcwV hts kw_1477 kv_X3_nano rfl rfl ⟨(Nat.le_of_ble_eq_true rfl), (Nat.le_of_ble_eq_true rfl)⟩) (kpV (A := A) (hP.sub (kIT mk_26 0) (km_f (m := mk_26) rfl rfl)) hK (hD.sub (kIT mk_26 0) (km_nd mk_26) (km_T (m := mk_26) rfl rfl)) hG (va_recv hK hP (ci := 5) (q0 := 0) rfl rfl)) rfl rfl hl.1 rfl (lv_room (Nat.le_of_ble_eq_true rfl)) dX3_digest_29 ⟨by show _ ≤ (86 : Nat); omega, by show _ ≤ (1880 : Nat); omega⟩) hP hD hS hA (kIT mk_26 0) (kIT mk_25 0) (km_T (m := mk_26) rfl rfl) (km_T (m := mk_26) rfl rfl) [] (km_T (m := mk_25) rfl rfl) (km_T (m := mk_25) rfl rfl) (km_cov (m := mk_26) (n := mk_25) rfl rfl) (km_dis (m := mk_26) (n := mk_25) rfl) rfl (fun H locs hP hD hS br6 => ?_)
  refine lv_i2l (v := r6.1.toInt64) hx hb dX3_digest_32 rfl ?_
  refine lv_ladd hx hb dX3_digest_33 ?_
  refine lv_lstore_n (lv' := [(1, .long ((((((((((((8009 * 31) + r1.1.toInt64) * 31) + r2.1.toInt64) * 31) + r3.1.toInt64) * 31) + r4.1.toInt64) * 31) + r5.1.toInt64) * 31) + r6.1.toInt64)), (3, .int 1), (0, .ref (b 0))]) hx hb dX3_digest_34 rfl hl (by decide) rfl (fun ls hl => ?_)
  refine lv_lload_n hx hb dX3_digest_35 rfl (lv_at hl 0 rfl) ?_
  refine lv_ldc2 (v := (31)) hx hb hown hw1 dX3_digest_36 ?_
  refine lv_lmul hx hb dX3_digest_39 ?_
  refine lv_aload_n hx hb dX3_digest_40 rfl (lv_at hl 2 rfl) ?_
  refine lv_iload_n hx hb dX3_digest_41 rfl (lv_at hl 1 rfl) ?_
  obtain ⟨r7, g7, h⟩ := g_b h
  refine kcall_i (wMo cJ cZ b mce mfr mun mbe men mov msp mwb mwe mwi mac mre mkn r7.2) (va_runV (As := [.int 1]) (rest := [.long (((((((((((((8009 * 31) + r1.1.toInt64) * 31) + r2.1.toInt64) * 31) + r3.1.toInt64) * 31) + r4.1.toInt64) * 31) + r5.1.toInt64) * 31) + r6.1.toInt64) * 31)]) ⟨hx, hb, hml, hown, hts⟩ (c_X3_at l dC dI cB cI cJ cZ b _ mce mfr mun mbe men mov msp mwb mwe mwi mac mre mkn r6.2 1 r7 g7) (kcwV hts kw_1478 kv_X3_at rfl rfl ⟨(Nat.le_of_ble_eq_true rfl), (Nat.le_of_ble_eq_true rfl)⟩) (kpV (A := A) (hP.sub (kIT mk_26 0) (km_f (m := mk_26) rfl rfl)) hK (hD.sub (kIT mk_26 0) (km_nd mk_26) (km_T (m := mk_26) rfl rfl)) hG (va_recv hK hP (ci := 5) (q0 := 0) rfl rfl)) rfl rfl hl.1 rfl (lv_room (Nat.le_of_ble_eq_true rfl)) dX3_digest_42 ⟨by show _ ≤ (86 : Nat); omega, by show _ ≤ (1880 : Nat); omega⟩) hP hD hS hA (kIT mk_26 0) (kIT mk_25 0) (km_T (m := mk_26) rfl rfl) (km_T (m := mk_26) rfl rfl) [] (km_T (m := mk_25) rfl rfl) (km_T (m := mk_25) rfl rfl) (km_cov (m := mk_26) (n := mk_25) rfl rfl) (km_dis (m := mk_26) (n := mk_25) rfl) rfl (fun H locs hP hD hS br7 => ?_)
  refine lv_i2l (v := r7.1.toInt64) hx hb dX3_digest_45 rfl ?_
  refine lv_ladd hx hb dX3_digest_46 ?_
  refine lv_ldc2 (v := (31)) hx hb hown hw1 dX3_digest_47 ?_
  refine lv_lmul hx hb dX3_digest_50 ?_
  refine lv_aload_n hx hb dX3_digest_51 rfl (lv_at hl 2 rfl) ?_
  refine lv_iload_n hx hb dX3_digest_52 rfl (lv_at hl 1 rfl) ?_
  obtain ⟨r8, g8, h⟩ := g_b h
  refine kcall_i (wMo cJ cZ b mce mfr mun mbe men mov msp mwb mwe mwi mac mre mkn r8.2) (va_runV (As := [.int 1]) (rest := [.long (((((((((((((((8009 * 31) + r1.1.toInt64) * 31) + r2.1.toInt64) * 31) + r3.1.toInt64) * 31) + r4.1.toInt64) * 31) + r5.1.toInt64) * 31) + r6.1.toInt64) * 31) + r7.1.toInt64) * 31)]) ⟨hx, hb, hml, hown, hts⟩ (c_X3_freeAt l dC dI cB cI cJ cZ b _ mce mfr mun mbe men mov msp mwb mwe mwi mac mre mkn r7.2 1 r8 g8) (kcwV hts kw_1479 kv_X3_freeAt rfl rfl ⟨(Nat.le_of_ble_eq_true rfl), (Nat.le_of_ble_eq_true rfl)⟩) (kpV (A := A) (hP.sub (kIT mk_26 0) (km_f (m := mk_26) rfl rfl)) hK (hD.sub (kIT mk_26 0) (km_nd mk_26) (km_T (m := mk_26) rfl rfl)) hG (va_recv hK hP (ci := 5) (q0 := 0) rfl rfl)) rfl rfl hl.1 rfl (lv_room (Nat.le_of_ble_eq_true rfl)) dX3_digest_53 ⟨by show _ ≤ (86 : Nat); omega, by show _ ≤ (1880 : Nat); omega⟩) hP hD hS hA (kIT mk_26 0) (kIT mk_25 0) (km_T (m := mk_26) rfl rfl) (km_T (m := mk_26) rfl rfl) [] (km_T (m := mk_25) rfl rfl) (km_T (m := mk_25) rfl rfl) (km_cov (m := mk_26) (n := mk_25) rfl rfl) (km_dis (m := mk_26) (n := mk_25) rfl) rfl (fun H locs hP hD hS br8 => ?_)
  refine lv_i2l (v := r8.1.toInt64) hx hb dX3_digest_56 rfl ?_
  refine lv_ladd hx hb dX3_digest_57 ?_
  refine lv_lstore_n (lv' := [(1, .long ((((((((((((((((8009 * 31) + r1.1.toInt64) * 31) + r2.1.toInt64) * 31) + r3.1.toInt64) * 31) + r4.1.toInt64) * 31) + r5.1.toInt64) * 31) + r6.1.toInt64) * 31) + r7.1.toInt64) * 31) + r8.1.toInt64)), (3, .int 1), (0, .ref (b 0))]) hx hb dX3_digest_58 rfl hl (by decide) rfl (fun ls hl => ?_)
  refine lv_iinc (v := 2) (lv' := [(3, .int 2), (1, .long ((((((((((((((((8009 * 31) + r1.1.toInt64) * 31) + r2.1.toInt64) * 31) + r3.1.toInt64) * 31) + r4.1.toInt64) * 31) + r5.1.toInt64) * 31) + r6.1.toInt64) * 31) + r7.1.toInt64) * 31) + r8.1.toInt64)), (0, .ref (b 0))]) hx hb dX3_digest_59 hl (k := 1) rfl (by decide) (by decide) rfl (fun ls hl => ?_)
  refine lv_goto (tgt := 6) hx hb dX3_digest_62 (by decide) ?_
  refine lv_iload_n hx hb dX3_digest_6 rfl (lv_at hl 0 rfl) ?_
  refine lv_iconst (v := 4) hx hb dX3_digest_7 (by decide) ?_
  refine lv_icmp_ge (tgt := 65) hx hb dX3_digest_8 (by decide) (fun c9 => absurd c9 (by decide)) (fun _ => ?_)
  refine lv_lload_n hx hb dX3_digest_11 rfl (lv_at hl 1 rfl) ?_
  refine lv_ldc2 (v := (31)) hx hb hown hw1 dX3_digest_12 ?_
  refine lv_lmul hx hb dX3_digest_15 ?_
  refine lv_aload_n hx hb dX3_digest_16 rfl (lv_at hl 2 rfl) ?_
  refine lv_iload_n hx hb dX3_digest_17 rfl (lv_at hl 0 rfl) ?_
  obtain ⟨r9, g9, h⟩ := g_b h
  refine kcall_i (wMo cJ cZ b mce mfr mun mbe men mov msp mwb mwe mwi mac mre mkn r9.2) (va_runV (As := [.int 2]) (rest := [.long (((((((((((((((((8009 * 31) + r1.1.toInt64) * 31) + r2.1.toInt64) * 31) + r3.1.toInt64) * 31) + r4.1.toInt64) * 31) + r5.1.toInt64) * 31) + r6.1.toInt64) * 31) + r7.1.toInt64) * 31) + r8.1.toInt64) * 31)]) ⟨hx, hb, hml, hown, hts⟩ (c_X3_second l dC dI cB cI cJ cZ b _ mce mfr mun mbe men mov msp mwb mwe mwi mac mre mkn r8.2 2 r9 g9) (kcwV hts kw_1476 kv_X3_second rfl rfl ⟨(Nat.le_of_ble_eq_true rfl), (Nat.le_of_ble_eq_true rfl)⟩) (kpV (A := A) (hP.sub (kIT mk_26 0) (km_f (m := mk_26) rfl rfl)) hK (hD.sub (kIT mk_26 0) (km_nd mk_26) (km_T (m := mk_26) rfl rfl)) hG (va_recv hK hP (ci := 5) (q0 := 0) rfl rfl)) rfl rfl hl.1 rfl (lv_room (Nat.le_of_ble_eq_true rfl)) dX3_digest_18 ⟨by show _ ≤ (86 : Nat); omega, by show _ ≤ (1880 : Nat); omega⟩) hP hD hS hA (kIT mk_26 0) (kIT mk_25 0) (km_T (m := mk_26) rfl rfl) (km_T (m := mk_26) rfl rfl) [] (km_T (m := mk_25) rfl rfl) (km_T (m := mk_25) rfl rfl) (km_cov (m := mk_26) (n := mk_25) rfl rfl) (km_dis (m := mk_26) (n := mk_25) rfl) rfl (fun H locs hP hD hS br9 => ?_)
  refine lv_i2l (v := r9.1.toInt64) hx hb dX3_digest_21 rfl ?_
  refine lv_ladd hx hb dX3_digest_22 ?_
  refine lv_ldc2 (v := (31)) hx hb hown hw1 dX3_digest_23 ?_
  refine lv_lmul hx hb dX3_digest_26 ?_
  refine lv_aload_n hx hb dX3_digest_27 rfl (lv_at hl 2 rfl) ?_
  refine lv_iload_n hx hb dX3_digest_28 rfl (lv_at hl 0 rfl) ?_
  obtain ⟨r10, g10, h⟩ := g_b h
  refine kcall_i (wMo cJ cZ b mce mfr mun mbe men mov msp mwb mwe mwi mac mre mkn r10.2) (va_runV (As := [.int 2]) (rest := [.long (((((((((((((((((((8009 * 31) + r1.1.toInt64) * 31) + r2.1.toInt64) * 31) + r3.1.toInt64) * 31) + r4.1.toInt64) * 31) + r5.1.toInt64) * 31) + r6.1.toInt64) * 31) + r7.1.toInt64) * 31) + r8.1.toInt64) * 31) + r9.1.toInt64) * 31)]) ⟨hx, hb, hml, hown, hts⟩ (c_X3_nano l dC dI cB cI cJ cZ b _ mce mfr mun mbe men mov msp mwb mwe mwi mac mre mkn r9.2 2 r10 g10) (kcwV hts kw_1477 kv_X3_nano rfl rfl ⟨(Nat.le_of_ble_eq_true rfl), (Nat.le_of_ble_eq_true rfl)⟩) (kpV (A := A) (hP.sub (kIT mk_26 0) (km_f (m := mk_26) rfl rfl)) hK (hD.sub (kIT mk_26 0) (km_nd mk_26) (km_T (m := mk_26) rfl rfl)) hG (va_recv hK hP (ci := 5) (q0 := 0) rfl rfl)) rfl rfl hl.1 rfl (lv_room (Nat.le_of_ble_eq_true rfl)) dX3_digest_29 ⟨by show _ ≤ (86 : Nat); omega, by show _ ≤ (1880 : Nat); omega⟩) hP hD hS hA (kIT mk_26 0) (kIT mk_25 0) (km_T (m := mk_26) rfl rfl) (km_T (m := mk_26) rfl rfl) [] (km_T (m := mk_25) rfl rfl) (km_T (m := mk_25) rfl rfl) (km_cov (m := mk_26) (n := mk_25) rfl rfl) (km_dis (m := mk_26) (n := mk_25) rfl) rfl (fun H locs hP hD hS br10 => ?_)
  refine lv_i2l (v := r10.1.toInt64) hx hb dX3_digest_32 rfl ?_
  refine lv_ladd hx hb dX3_digest_33 ?_
  refine lv_lstore_n (lv' := [(1, .long ((((((((((((((((((((8009 * 31) + r1.1.toInt64) * 31) + r2.1.toInt64) * 31) + r3.1.toInt64) * 31) + r4.1.toInt64) * 31) + r5.1.toInt64) * 31) + r6.1.toInt64) * 31) + r7.1.toInt64) * 31) + r8.1.toInt64) * 31) + r9.1.toInt64) * 31) + r10.1.toInt64)), (3, .int 2), (0, .ref (b 0))]) hx hb dX3_digest_34 rfl hl (by decide) rfl (fun ls hl => ?_)
  refine lv_lload_n hx hb dX3_digest_35 rfl (lv_at hl 0 rfl) ?_
  refine lv_ldc2 (v := (31)) hx hb hown hw1 dX3_digest_36 ?_
  refine lv_lmul hx hb dX3_digest_39 ?_
  refine lv_aload_n hx hb dX3_digest_40 rfl (lv_at hl 2 rfl) ?_
  refine lv_iload_n hx hb dX3_digest_41 rfl (lv_at hl 1 rfl) ?_
  obtain ⟨r11, g11, h⟩ := g_b h
  refine kcall_i (wMo cJ cZ b mce mfr mun mbe men mov msp mwb mwe mwi mac mre mkn r11.2) (va_runV (As := [.int 2]) (rest := [.long (((((((((((((((((((((8009 * 31) + r1.1.toInt64) * 31) + r2.1.toInt64) * 31) + r3.1.toInt64) * 31) + r4.1.toInt64) * 31) + r5.1.toInt64) * 31) + r6.1.toInt64) * 31) + r7.1.toInt64) * 31) + r8.1.toInt64) * 31) + r9.1.toInt64) * 31) + r10.1.toInt64) * 31)]) ⟨hx, hb, hml, hown, hts⟩ (c_X3_at l dC dI cB cI cJ cZ b _ mce mfr mun mbe men mov msp mwb mwe mwi mac mre mkn r10.2 2 r11 g11) (kcwV hts kw_1478 kv_X3_at rfl rfl ⟨(Nat.le_of_ble_eq_true rfl), (Nat.le_of_ble_eq_true rfl)⟩) (kpV (A := A) (hP.sub (kIT mk_26 0) (km_f (m := mk_26) rfl rfl)) hK (hD.sub (kIT mk_26 0) (km_nd mk_26) (km_T (m := mk_26) rfl rfl)) hG (va_recv hK hP (ci := 5) (q0 := 0) rfl rfl)) rfl rfl hl.1 rfl (lv_room (Nat.le_of_ble_eq_true rfl)) dX3_digest_42 ⟨by show _ ≤ (86 : Nat); omega, by show _ ≤ (1880 : Nat); omega⟩) hP hD hS hA (kIT mk_26 0) (kIT mk_25 0) (km_T (m := mk_26) rfl rfl) (km_T (m := mk_26) rfl rfl) [] (km_T (m := mk_25) rfl rfl) (km_T (m := mk_25) rfl rfl) (km_cov (m := mk_26) (n := mk_25) rfl rfl) (km_dis (m := mk_26) (n := mk_25) rfl) rfl (fun H locs hP hD hS br11 => ?_)
  refine lv_i2l (v := r11.1.toInt64) hx hb dX3_digest_45 rfl ?_
  refine lv_ladd hx hb dX3_digest_46 ?_
  refine lv_ldc2 (v := (31)) hx hb hown hw1 dX3_digest_47 ?_
  refine lv_lmul hx hb dX3_digest_50 ?_
  refine lv_aload_n hx hb dX3_digest_51 rfl (lv_at hl 2 rfl) ?_
  refine lv_iload_n hx hb dX3_digest_52 rfl (lv_at hl 1 rfl) ?_
  obtain ⟨r12, g12, h⟩ := g_b h
  refine kcall_i (wMo cJ cZ b mce mfr mun mbe men mov msp mwb mwe mwi mac mre mkn r12.2) (va_runV (As := [.int 2]) (rest := [.long (((((((((((((((((((((((8009 * 31) + r1.1.toInt64) * 31) + r2.1.toInt64) * 31) + r3.1.toInt64) * 31) + r4.1.toInt64) * 31) + r5.1.toInt64) * 31) + r6.1.toInt64) * 31) + r7.1.toInt64) * 31) + r8.1.toInt64) * 31) + r9.1.toInt64) * 31) + r10.1.toInt64) * 31) + r11.1.toInt64) * 31)]) ⟨hx, hb, hml, hown, hts⟩ (c_X3_freeAt l dC dI cB cI cJ cZ b _ mce mfr mun mbe men mov msp mwb mwe mwi mac mre mkn r11.2 2 r12 g12) (kcwV hts kw_1479 kv_X3_freeAt rfl rfl ⟨(Nat.le_of_ble_eq_true rfl), (Nat.le_of_ble_eq_true rfl)⟩) (kpV (A := A) (hP.sub (kIT mk_26 0) (km_f (m := mk_26) rfl rfl)) hK (hD.sub (kIT mk_26 0) (km_nd mk_26) (km_T (m := mk_26) rfl rfl)) hG (va_recv hK hP (ci := 5) (q0 := 0) rfl rfl)) rfl rfl hl.1 rfl (lv_room (Nat.le_of_ble_eq_true rfl)) dX3_digest_53 ⟨by show _ ≤ (86 : Nat); omega, by show _ ≤ (1880 : Nat); omega⟩) hP hD hS hA (kIT mk_26 0) (kIT mk_25 0) (km_T (m := mk_26) rfl rfl) (km_T (m := mk_26) rfl rfl) [] (km_T (m := mk_25) rfl rfl) (km_T (m := mk_25) rfl rfl) (km_cov (m := mk_26) (n := mk_25) rfl rfl) (km_dis (m := mk_26) (n := mk_25) rfl) rfl (fun H locs hP hD hS br12 => ?_)
  refine lv_i2l (v := r12.1.toInt64) hx hb dX3_digest_56 rfl ?_
  refine lv_ladd hx hb dX3_digest_57 ?_
  refine lv_lstore_n (lv' := [(1, .long ((((((((((((((((((((((((8009 * 31) + r1.1.toInt64) * 31) + r2.1.toInt64) * 31) + r3.1.toInt64) * 31) + r4.1.toInt64) * 31) + r5.1.toInt64) * 31) + r6.1.toInt64) * 31) + r7.1.toInt64) * 31) + r8.1.toInt64) * 31) + r9.1.toInt64) * 31) + r10.1.toInt64) * 31) + r11.1.toInt64) * 31) + r12.1.toInt64)), (3, .int 2), (0, .ref (b 0))]) hx hb dX3_digest_58 rfl hl (by decide) rfl (fun ls hl => ?_)
  refine lv_iinc (v := 3) (lv' := [(3, .int 3), (1, .long ((((((((((((((((((((((((8009 * 31) + r1.1.toInt64) * 31) + r2.1.toInt64) * 31) + r3.1.toInt64) * 31) + r4.1.toInt64) * 31) + r5.1.toInt64) * 31) + r6.1.toInt64) * 31) + r7.1.toInt64) * 31) + r8.1.toInt64) * 31) + r9.1.toInt64) * 31) + r10.1.toInt64) * 31) + r11.1.toInt64) * 31) + r12.1.toInt64)), (0, .ref (b 0))]) hx hb dX3_digest_59 hl (k := 1) rfl (by decide) (by decide) rfl (fun ls hl => ?_)
  refine lv_goto (tgt := 6) hx hb dX3_digest_62 (by decide) ?_
  refine lv_iload_n hx hb dX3_digest_6 rfl (lv_at hl 0 rfl) ?_
  refine lv_iconst (v := 4) hx hb dX3_digest_7 (by decide) ?_
  refine lv_icmp_ge (tgt := 65) hx hb dX3_digest_8 (by decide) (fun c9 => absurd c9 (by decide)) (fun _ => ?_)
  refine lv_lload_n hx hb dX3_digest_11 rfl (lv_at hl 1 rfl) ?_
  refine lv_ldc2 (v := (31)) hx hb hown hw1 dX3_digest_12 ?_
  refine lv_lmul hx hb dX3_digest_15 ?_
  refine lv_aload_n hx hb dX3_digest_16 rfl (lv_at hl 2 rfl) ?_
  refine lv_iload_n hx hb dX3_digest_17 rfl (lv_at hl 0 rfl) ?_
  obtain ⟨r13, g13, h⟩ := g_b h
  refine kcall_i (wMo cJ cZ b mce mfr mun mbe men mov msp mwb mwe mwi mac mre mkn r13.2) (va_runV (As := [.int 3]) (rest := [.long (((((((((((((((((((((((((8009 * 31) + r1.1.toInt64) * 31) + r2.1.toInt64) * 31) + r3.1.toInt64) * 31) + r4.1.toInt64) * 31) + r5.1.toInt64) * 31) + r6.1.toInt64) * 31) + r7.1.toInt64) * 31) + r8.1.toInt64) * 31) + r9.1.toInt64) * 31) + r10.1.toInt64) * 31) + r11.1.toInt64) * 31) + r12.1.toInt64) * 31)]) ⟨hx, hb, hml, hown, hts⟩ (c_X3_second l dC dI cB cI cJ cZ b _ mce mfr mun mbe men mov msp mwb mwe mwi mac mre mkn r12.2 3 r13 g13) (kcwV hts kw_1476 kv_X3_second rfl rfl ⟨(Nat.le_of_ble_eq_true rfl), (Nat.le_of_ble_eq_true rfl)⟩) (kpV (A := A) (hP.sub (kIT mk_26 0) (km_f (m := mk_26) rfl rfl)) hK (hD.sub (kIT mk_26 0) (km_nd mk_26) (km_T (m := mk_26) rfl rfl)) hG (va_recv hK hP (ci := 5) (q0 := 0) rfl rfl)) rfl rfl hl.1 rfl (lv_room (Nat.le_of_ble_eq_true rfl)) dX3_digest_18 ⟨by show _ ≤ (86 : Nat); omega, by show _ ≤ (1880 : Nat); omega⟩) hP hD hS hA (kIT mk_26 0) (kIT mk_25 0) (km_T (m := mk_26) rfl rfl) (km_T (m := mk_26) rfl rfl) [] (km_T (m := mk_25) rfl rfl) (km_T (m := mk_25) rfl rfl) (km_cov (m := mk_26) (n := mk_25) rfl rfl) (km_dis (m := mk_26) (n := mk_25) rfl) rfl (fun H locs hP hD hS br13 => ?_)
  refine lv_i2l (v := r13.1.toInt64) hx hb dX3_digest_21 rfl ?_
  refine lv_ladd hx hb dX3_digest_22 ?_
  refine lv_ldc2 (v := (31)) hx hb hown hw1 dX3_digest_23 ?_
  refine lv_lmul hx hb dX3_digest_26 ?_
  refine lv_aload_n hx hb dX3_digest_27 rfl (lv_at hl 2 rfl) ?_
  refine lv_iload_n hx hb dX3_digest_28 rfl (lv_at hl 0 rfl) ?_
  obtain ⟨r14, g14, h⟩ := g_b h
  refine kcall_i (wMo cJ cZ b mce mfr mun mbe men mov msp mwb mwe mwi mac mre mkn r14.2) (va_runV (As := [.int 3]) (rest := [.long (((((((((((((((((((((((((((8009 * 31) + r1.1.toInt64) * 31) + r2.1.toInt64) * 31) + r3.1.toInt64) * 31) + r4.1.toInt64) * 31) + r5.1.toInt64) * 31) + r6.1.toInt64) * 31) + r7.1.toInt64) * 31) + r8.1.toInt64) * 31) + r9.1.toInt64) * 31) + r10.1.toInt64) * 31) + r11.1.toInt64) * 31) + r12.1.toInt64) * 31) + r13.1.toInt64) * 31)]) ⟨hx, hb, hml, hown, hts⟩ (c_X3_nano l dC dI cB cI cJ cZ b _ mce mfr mun mbe men mov msp mwb mwe mwi mac mre mkn r13.2 3 r14 g14) (kcwV hts kw_1477 kv_X3_nano rfl rfl ⟨(Nat.le_of_ble_eq_true rfl), (Nat.le_of_ble_eq_true rfl)⟩) (kpV (A := A) (hP.sub (kIT mk_26 0) (km_f (m := mk_26) rfl rfl)) hK (hD.sub (kIT mk_26 0) (km_nd mk_26) (km_T (m := mk_26) rfl rfl)) hG (va_recv hK hP (ci := 5) (q0 := 0) rfl rfl)) rfl rfl hl.1 rfl (lv_room (Nat.le_of_ble_eq_true rfl)) dX3_digest_29 ⟨by show _ ≤ (86 : Nat); omega, by show _ ≤ (1880 : Nat); omega⟩) hP hD hS hA (kIT mk_26 0) (kIT mk_25 0) (km_T (m := mk_26) rfl rfl) (km_T (m := mk_26) rfl rfl) [] (km_T (m := mk_25) rfl rfl) (km_T (m := mk_25) rfl rfl) (km_cov (m := mk_26) (n := mk_25) rfl rfl) (km_dis (m := mk_26) (n := mk_25) rfl) rfl (fun H locs hP hD hS br14 => ?_)
  refine lv_i2l (v := r14.1.toInt64) hx hb dX3_digest_32 rfl ?_
  refine lv_ladd hx hb dX3_digest_33 ?_
  refine lv_lstore_n (lv' := [(1, .long ((((((((((((((((((((((((((((8009 * 31) + r1.1.toInt64) * 31) + r2.1.toInt64) * 31) + r3.1.toInt64) * 31) + r4.1.toInt64) * 31) + r5.1.toInt64) * 31) + r6.1.toInt64) * 31) + r7.1.toInt64) * 31) + r8.1.toInt64) * 31) + r9.1.toInt64) * 31) + r10.1.toInt64) * 31) + r11.1.toInt64) * 31) + r12.1.toInt64) * 31) + r13.1.toInt64) * 31) + r14.1.toInt64)), (3, .int 3), (0, .ref (b 0))]) hx hb dX3_digest_34 rfl hl (by decide) rfl (fun ls hl => ?_)
  refine lv_lload_n hx hb dX3_digest_35 rfl (lv_at hl 0 rfl) ?_
  refine lv_ldc2 (v := (31)) hx hb hown hw1 dX3_digest_36 ?_
  refine lv_lmul hx hb dX3_digest_39 ?_
  refine lv_aload_n hx hb dX3_digest_40 rfl (lv_at hl 2 rfl) ?_
  refine lv_iload_n hx hb dX3_digest_41 rfl (lv_at hl 1 rfl) ?_
  obtain ⟨r15, g15, h⟩ := g_b h
  refine kcall_i (wMo cJ cZ b mce mfr mun mbe men mov msp mwb mwe mwi mac mre mkn r15.2) (va_runV (As := [.int 3]) (rest := [.long (((((((((((((((((((((((((((((8009 * 31) + r1.1.toInt64) * 31) + r2.1.toInt64) * 31) + r3.1.toInt64) * 31) + r4.1.toInt64) * 31) + r5.1.toInt64) * 31) + r6.1.toInt64) * 31) + r7.1.toInt64) * 31) + r8.1.toInt64) * 31) + r9.1.toInt64) * 31) + r10.1.toInt64) * 31) + r11.1.toInt64) * 31) + r12.1.toInt64) * 31) + r13.1.toInt64) * 31) + r14.1.toInt64) * 31)]) ⟨hx, hb, hml, hown, hts⟩ (c_X3_at l dC dI cB cI cJ cZ b _ mce mfr mun mbe men mov msp mwb mwe mwi mac mre mkn r14.2 3 r15 g15) (kcwV hts kw_1478 kv_X3_at rfl rfl ⟨(Nat.le_of_ble_eq_true rfl), (Nat.le_of_ble_eq_true rfl)⟩) (kpV (A := A) (hP.sub (kIT mk_26 0) (km_f (m := mk_26) rfl rfl)) hK (hD.sub (kIT mk_26 0) (km_nd mk_26) (km_T (m := mk_26) rfl rfl)) hG (va_recv hK hP (ci := 5) (q0 := 0) rfl rfl)) rfl rfl hl.1 rfl (lv_room (Nat.le_of_ble_eq_true rfl)) dX3_digest_42 ⟨by show _ ≤ (86 : Nat); omega, by show _ ≤ (1880 : Nat); omega⟩) hP hD hS hA (kIT mk_26 0) (kIT mk_25 0) (km_T (m := mk_26) rfl rfl) (km_T (m := mk_26) rfl rfl) [] (km_T (m := mk_25) rfl rfl) (km_T (m := mk_25) rfl rfl) (km_cov (m := mk_26) (n := mk_25) rfl rfl) (km_dis (m := mk_26) (n := mk_25) rfl) rfl (fun H locs hP hD hS br15 => ?_)
  refine lv_i2l (v := r15.1.toInt64) hx hb dX3_digest_45 rfl ?_
  refine lv_ladd hx hb dX3_digest_46 ?_
  refine lv_ldc2 (v := (31)) hx hb hown hw1 dX3_digest_47 ?_
  refine lv_lmul hx hb dX3_digest_50 ?_
  refine lv_aload_n hx hb dX3_digest_51 rfl (lv_at hl 2 rfl) ?_
  refine lv_iload_n hx hb dX3_digest_52 rfl (lv_at hl 1 rfl) ?_
  obtain ⟨r16, g16, h⟩ := g_b h
  refine kcall_i (wMo cJ cZ b mce mfr mun mbe men mov msp mwb mwe mwi mac mre mkn r16.2) (va_runV (As := [.int 3]) (rest := [.long (((((((((((((((((((((((((((((((8009 * 31) + r1.1.toInt64) * 31) + r2.1.toInt64) * 31) + r3.1.toInt64) * 31) + r4.1.toInt64) * 31) + r5.1.toInt64) * 31) + r6.1.toInt64) * 31) + r7.1.toInt64) * 31) + r8.1.toInt64) * 31) + r9.1.toInt64) * 31) + r10.1.toInt64) * 31) + r11.1.toInt64) * 31) + r12.1.toInt64) * 31) + r13.1.toInt64) * 31) + r14.1.toInt64) * 31) + r15.1.toInt64) * 31)]) ⟨hx, hb, hml, hown, hts⟩ (c_X3_freeAt l dC dI cB cI cJ cZ b _ mce mfr mun mbe men mov msp mwb mwe mwi mac mre mkn r15.2 3 r16 g16) (kcwV hts kw_1479 kv_X3_freeAt rfl rfl ⟨(Nat.le_of_ble_eq_true rfl), (Nat.le_of_ble_eq_true rfl)⟩) (kpV (A := A) (hP.sub (kIT mk_26 0) (km_f (m := mk_26) rfl rfl)) hK (hD.sub (kIT mk_26 0) (km_nd mk_26) (km_T (m := mk_26) rfl rfl)) hG (va_recv hK hP (ci := 5) (q0 := 0) rfl rfl)) rfl rfl hl.1 rfl (lv_room (Nat.le_of_ble_eq_true rfl)) dX3_digest_53 ⟨by show _ ≤ (86 : Nat); omega, by show _ ≤ (1880 : Nat); omega⟩) hP hD hS hA (kIT mk_26 0) (kIT mk_25 0) (km_T (m := mk_26) rfl rfl) (km_T (m := mk_26) rfl rfl) [] (km_T (m := mk_25) rfl rfl) (km_T (m := mk_25) rfl rfl) (km_cov (m := mk_26) (n := mk_25) rfl rfl) (km_dis (m := mk_26) (n := mk_25) rfl) rfl (fun H locs hP hD hS br16 => ?_)
  refine lv_i2l (v := r16.1.toInt64) hx hb dX3_digest_56 rfl ?_
  refine lv_ladd hx hb dX3_digest_57 ?_
  refine lv_lstore_n (lv' := [(1, .long ((((((((((((((((((((((((((((((((8009 * 31) + r1.1.toInt64) * 31) + r2.1.toInt64) * 31) + r3.1.toInt64) * 31) + r4.1.toInt64) * 31) + r5.1.toInt64) * 31) + r6.1.toInt64) * 31) + r7.1.toInt64) * 31) + r8.1.toInt64) * 31) + r9.1.toInt64) * 31) + r10.1.toInt64) * 31) + r11.1.toInt64) * 31) + r12.1.toInt64) * 31) + r13.1.toInt64) * 31) + r14.1.toInt64) * 31) + r15.1.toInt64) * 31) + r16.1.toInt64)), (3, .int 3), (0, .ref (b 0))]) hx hb dX3_digest_58 rfl hl (by decide) rfl (fun ls hl => ?_)
  refine lv_iinc (v := 4) (lv' := [(3, .int 4), (1, .long ((((((((((((((((((((((((((((((((8009 * 31) + r1.1.toInt64) * 31) + r2.1.toInt64) * 31) + r3.1.toInt64) * 31) + r4.1.toInt64) * 31) + r5.1.toInt64) * 31) + r6.1.toInt64) * 31) + r7.1.toInt64) * 31) + r8.1.toInt64) * 31) + r9.1.toInt64) * 31) + r10.1.toInt64) * 31) + r11.1.toInt64) * 31) + r12.1.toInt64) * 31) + r13.1.toInt64) * 31) + r14.1.toInt64) * 31) + r15.1.toInt64) * 31) + r16.1.toInt64)), (0, .ref (b 0))]) hx hb dX3_digest_59 hl (k := 1) rfl (by decide) (by decide) rfl (fun ls hl => ?_)
  refine lv_goto (tgt := 6) hx hb dX3_digest_62 (by decide) ?_
  refine lv_iload_n hx hb dX3_digest_6 rfl (lv_at hl 0 rfl) ?_
  refine lv_iconst (v := 4) hx hb dX3_digest_7 (by decide) ?_
  refine lv_icmp_ge (tgt := 65) hx hb dX3_digest_8 (by decide) (fun _ => ?_) (fun c9 => absurd (by decide) c9)
  refine lv_iconst (v := 0) hx hb dX3_digest_65 (by decide) ?_
  refine lv_istore_n (lv' := [(3, .int 0), (1, .long ((((((((((((((((((((((((((((((((8009 * 31) + r1.1.toInt64) * 31) + r2.1.toInt64) * 31) + r3.1.toInt64) * 31) + r4.1.toInt64) * 31) + r5.1.toInt64) * 31) + r6.1.toInt64) * 31) + r7.1.toInt64) * 31) + r8.1.toInt64) * 31) + r9.1.toInt64) * 31) + r10.1.toInt64) * 31) + r11.1.toInt64) * 31) + r12.1.toInt64) * 31) + r13.1.toInt64) * 31) + r14.1.toInt64) * 31) + r15.1.toInt64) * 31) + r16.1.toInt64)), (0, .ref (b 0))]) hx hb dX3_digest_66 rfl hl (by decide) rfl (fun ls hl => ?_)
  refine lv_iload_n hx hb dX3_digest_67 rfl (lv_at hl 0 rfl) ?_
  refine lv_iconst (v := 4) hx hb dX3_digest_68 (by decide) ?_
  refine lv_icmp_ge (tgt := 91) hx hb dX3_digest_69 (by decide) (fun c9 => absurd c9 (by decide)) (fun _ => ?_)
  refine lv_lload_n hx hb dX3_digest_72 rfl (lv_at hl 1 rfl) ?_
  refine lv_ldc2 (v := (31)) hx hb hown hw1 dX3_digest_73 ?_
  refine lv_lmul hx hb dX3_digest_76 ?_
  refine lv_aload_n hx hb dX3_digest_77 rfl (lv_at hl 2 rfl) ?_
  refine lv_iload_n hx hb dX3_digest_78 rfl (lv_at hl 0 rfl) ?_
  obtain ⟨r17, g17, h⟩ := g_b h
  refine kcall_i (wMo cJ cZ b mce mfr mun mbe men mov msp mwb mwe mwi mac mre mkn r17.2) (va_runV (As := [.int 0]) (rest := [.long (((((((((((((((((((((((((((((((((8009 * 31) + r1.1.toInt64) * 31) + r2.1.toInt64) * 31) + r3.1.toInt64) * 31) + r4.1.toInt64) * 31) + r5.1.toInt64) * 31) + r6.1.toInt64) * 31) + r7.1.toInt64) * 31) + r8.1.toInt64) * 31) + r9.1.toInt64) * 31) + r10.1.toInt64) * 31) + r11.1.toInt64) * 31) + r12.1.toInt64) * 31) + r13.1.toInt64) * 31) + r14.1.toInt64) * 31) + r15.1.toInt64) * 31) + r16.1.toInt64) * 31)]) ⟨hx, hb, hml, hown, hts⟩ (c_X3_calendar l dC dI cB cI cJ cZ b _ mce mfr mun mbe men mov msp mwb mwe mwi mac mre mkn r16.2 0 r17 g17) (kcwV hts kw_1480 kv_X3_calendar rfl rfl ⟨(Nat.le_of_ble_eq_true rfl), (Nat.le_of_ble_eq_true rfl)⟩) (kpV (A := A) (hP.sub (kIT mk_26 0) (km_f (m := mk_26) rfl rfl)) hK (hD.sub (kIT mk_26 0) (km_nd mk_26) (km_T (m := mk_26) rfl rfl)) hG (va_recv hK hP (ci := 5) (q0 := 0) rfl rfl)) rfl rfl hl.1 rfl (lv_room (Nat.le_of_ble_eq_true rfl)) dX3_digest_79 ⟨by show _ ≤ (86 : Nat); omega, by show _ ≤ (1880 : Nat); omega⟩) hP hD hS hA (kIT mk_26 0) (kIT mk_25 0) (km_T (m := mk_26) rfl rfl) (km_T (m := mk_26) rfl rfl) [] (km_T (m := mk_25) rfl rfl) (km_T (m := mk_25) rfl rfl) (km_cov (m := mk_26) (n := mk_25) rfl rfl) (km_dis (m := mk_26) (n := mk_25) rfl) rfl (fun H locs hP hD hS br17 => ?_)
  refine lv_i2l (v := r17.1.toInt64) hx hb dX3_digest_82 rfl ?_
  refine lv_ladd hx hb dX3_digest_83 ?_
  refine lv_lstore_n (lv' := [(1, .long ((((((((((((((((((((((((((((((((((8009 * 31) + r1.1.toInt64) * 31) + r2.1.toInt64) * 31) + r3.1.toInt64) * 31) + r4.1.toInt64) * 31) + r5.1.toInt64) * 31) + r6.1.toInt64) * 31) + r7.1.toInt64) * 31) + r8.1.toInt64) * 31) + r9.1.toInt64) * 31) + r10.1.toInt64) * 31) + r11.1.toInt64) * 31) + r12.1.toInt64) * 31) + r13.1.toInt64) * 31) + r14.1.toInt64) * 31) + r15.1.toInt64) * 31) + r16.1.toInt64) * 31) + r17.1.toInt64)), (3, .int 0), (0, .ref (b 0))]) hx hb dX3_digest_84 rfl hl (by decide) rfl (fun ls hl => ?_)
  refine lv_iinc (v := 1) (lv' := [(3, .int 1), (1, .long ((((((((((((((((((((((((((((((((((8009 * 31) + r1.1.toInt64) * 31) + r2.1.toInt64) * 31) + r3.1.toInt64) * 31) + r4.1.toInt64) * 31) + r5.1.toInt64) * 31) + r6.1.toInt64) * 31) + r7.1.toInt64) * 31) + r8.1.toInt64) * 31) + r9.1.toInt64) * 31) + r10.1.toInt64) * 31) + r11.1.toInt64) * 31) + r12.1.toInt64) * 31) + r13.1.toInt64) * 31) + r14.1.toInt64) * 31) + r15.1.toInt64) * 31) + r16.1.toInt64) * 31) + r17.1.toInt64)), (0, .ref (b 0))]) hx hb dX3_digest_85 hl (k := 1) rfl (by decide) (by decide) rfl (fun ls hl => ?_)
  refine lv_goto (tgt := 67) hx hb dX3_digest_88 (by decide) ?_
  refine lv_iload_n hx hb dX3_digest_67 rfl (lv_at hl 0 rfl) ?_
  refine lv_iconst (v := 4) hx hb dX3_digest_68 (by decide) ?_
  refine lv_icmp_ge (tgt := 91) hx hb dX3_digest_69 (by decide) (fun c9 => absurd c9 (by decide)) (fun _ => ?_)
  refine lv_lload_n hx hb dX3_digest_72 rfl (lv_at hl 1 rfl) ?_
  refine lv_ldc2 (v := (31)) hx hb hown hw1 dX3_digest_73 ?_
  refine lv_lmul hx hb dX3_digest_76 ?_
  refine lv_aload_n hx hb dX3_digest_77 rfl (lv_at hl 2 rfl) ?_
  refine lv_iload_n hx hb dX3_digest_78 rfl (lv_at hl 0 rfl) ?_
  obtain ⟨r18, g18, h⟩ := g_b h
  refine kcall_i (wMo cJ cZ b mce mfr mun mbe men mov msp mwb mwe mwi mac mre mkn r18.2) (va_runV (As := [.int 1]) (rest := [.long (((((((((((((((((((((((((((((((((((8009 * 31) + r1.1.toInt64) * 31) + r2.1.toInt64) * 31) + r3.1.toInt64) * 31) + r4.1.toInt64) * 31) + r5.1.toInt64) * 31) + r6.1.toInt64) * 31) + r7.1.toInt64) * 31) + r8.1.toInt64) * 31) + r9.1.toInt64) * 31) + r10.1.toInt64) * 31) + r11.1.toInt64) * 31) + r12.1.toInt64) * 31) + r13.1.toInt64) * 31) + r14.1.toInt64) * 31) + r15.1.toInt64) * 31) + r16.1.toInt64) * 31) + r17.1.toInt64) * 31)]) ⟨hx, hb, hml, hown, hts⟩ (c_X3_calendar l dC dI cB cI cJ cZ b _ mce mfr mun mbe men mov msp mwb mwe mwi mac mre mkn r17.2 1 r18 g18) (kcwV hts kw_1480 kv_X3_calendar rfl rfl ⟨(Nat.le_of_ble_eq_true rfl), (Nat.le_of_ble_eq_true rfl)⟩) (kpV (A := A) (hP.sub (kIT mk_26 0) (km_f (m := mk_26) rfl rfl)) hK (hD.sub (kIT mk_26 0) (km_nd mk_26) (km_T (m := mk_26) rfl rfl)) hG (va_recv hK hP (ci := 5) (q0 := 0) rfl rfl)) rfl rfl hl.1 rfl (lv_room (Nat.le_of_ble_eq_true rfl)) dX3_digest_79 ⟨by show _ ≤ (86 : Nat); omega, by show _ ≤ (1880 : Nat); omega⟩) hP hD hS hA (kIT mk_26 0) (kIT mk_25 0) (km_T (m := mk_26) rfl rfl) (km_T (m := mk_26) rfl rfl) [] (km_T (m := mk_25) rfl rfl) (km_T (m := mk_25) rfl rfl) (km_cov (m := mk_26) (n := mk_25) rfl rfl) (km_dis (m := mk_26) (n := mk_25) rfl) rfl (fun H locs hP hD hS br18 => ?_)
  refine lv_i2l (v := r18.1.toInt64) hx hb dX3_digest_82 rfl ?_
  refine lv_ladd hx hb dX3_digest_83 ?_
  refine lv_lstore_n (lv' := [(1, .long ((((((((((((((((((((((((((((((((((((8009 * 31) + r1.1.toInt64) * 31) + r2.1.toInt64) * 31) + r3.1.toInt64) * 31) + r4.1.toInt64) * 31) + r5.1.toInt64) * 31) + r6.1.toInt64) * 31) + r7.1.toInt64) * 31) + r8.1.toInt64) * 31) + r9.1.toInt64) * 31) + r10.1.toInt64) * 31) + r11.1.toInt64) * 31) + r12.1.toInt64) * 31) + r13.1.toInt64) * 31) + r14.1.toInt64) * 31) + r15.1.toInt64) * 31) + r16.1.toInt64) * 31) + r17.1.toInt64) * 31) + r18.1.toInt64)), (3, .int 1), (0, .ref (b 0))]) hx hb dX3_digest_84 rfl hl (by decide) rfl (fun ls hl => ?_)
  refine lv_iinc (v := 2) (lv' := [(3, .int 2), (1, .long ((((((((((((((((((((((((((((((((((((8009 * 31) + r1.1.toInt64) * 31) + r2.1.toInt64) * 31) + r3.1.toInt64) * 31) + r4.1.toInt64) * 31) + r5.1.toInt64) * 31) + r6.1.toInt64) * 31) + r7.1.toInt64) * 31) + r8.1.toInt64) * 31) + r9.1.toInt64) * 31) + r10.1.toInt64) * 31) + r11.1.toInt64) * 31) + r12.1.toInt64) * 31) + r13.1.toInt64) * 31) + r14.1.toInt64) * 31) + r15.1.toInt64) * 31) + r16.1.toInt64) * 31) + r17.1.toInt64) * 31) + r18.1.toInt64)), (0, .ref (b 0))]) hx hb dX3_digest_85 hl (k := 1) rfl (by decide) (by decide) rfl (fun ls hl => ?_)
  refine lv_goto (tgt := 67) hx hb dX3_digest_88 (by decide) ?_
  refine lv_iload_n hx hb dX3_digest_67 rfl (lv_at hl 0 rfl) ?_
  refine lv_iconst (v := 4) hx hb dX3_digest_68 (by decide) ?_
  refine lv_icmp_ge (tgt := 91) hx hb dX3_digest_69 (by decide) (fun c9 => absurd c9 (by decide)) (fun _ => ?_)
  refine lv_lload_n hx hb dX3_digest_72 rfl (lv_at hl 1 rfl) ?_
  refine lv_ldc2 (v := (31)) hx hb hown hw1 dX3_digest_73 ?_
  refine lv_lmul hx hb dX3_digest_76 ?_
  refine lv_aload_n hx hb dX3_digest_77 rfl (lv_at hl 2 rfl) ?_
  refine lv_iload_n hx hb dX3_digest_78 rfl (lv_at hl 0 rfl) ?_
  obtain ⟨r19, g19, h⟩ := g_b h
  refine kcall_i (wMo cJ cZ b mce mfr mun mbe men mov msp mwb mwe mwi mac mre mkn r19.2) (va_runV (As := [.int 2]) (rest := [.long (((((((((((((((((((((((((((((((((((((8009 * 31) + r1.1.toInt64) * 31) + r2.1.toInt64) * 31) + r3.1.toInt64) * 31) + r4.1.toInt64) * 31) + r5.1.toInt64) * 31) + r6.1.toInt64) * 31) + r7.1.toInt64) * 31) + r8.1.toInt64) * 31) + r9.1.toInt64) * 31) + r10.1.toInt64) * 31) + r11.1.toInt64) * 31) + r12.1.toInt64) * 31) + r13.1.toInt64) * 31) + r14.1.toInt64) * 31) + r15.1.toInt64) * 31) + r16.1.toInt64) * 31) + r17.1.toInt64) * 31) + r18.1.toInt64) * 31)]) ⟨hx, hb, hml, hown, hts⟩ (c_X3_calendar l dC dI cB cI cJ cZ b _ mce mfr mun mbe men mov msp mwb mwe mwi mac mre mkn r18.2 2 r19 g19) (kcwV hts kw_1480 kv_X3_calendar rfl rfl ⟨(Nat.le_of_ble_eq_true rfl), (Nat.le_of_ble_eq_true rfl)⟩) (kpV (A := A) (hP.sub (kIT mk_26 0) (km_f (m := mk_26) rfl rfl)) hK (hD.sub (kIT mk_26 0) (km_nd mk_26) (km_T (m := mk_26) rfl rfl)) hG (va_recv hK hP (ci := 5) (q0 := 0) rfl rfl)) rfl rfl hl.1 rfl (lv_room (Nat.le_of_ble_eq_true rfl)) dX3_digest_79 ⟨by show _ ≤ (86 : Nat); omega, by show _ ≤ (1880 : Nat); omega⟩) hP hD hS hA (kIT mk_26 0) (kIT mk_25 0) (km_T (m := mk_26) rfl rfl) (km_T (m := mk_26) rfl rfl) [] (km_T (m := mk_25) rfl rfl) (km_T (m := mk_25) rfl rfl) (km_cov (m := mk_26) (n := mk_25) rfl rfl) (km_dis (m := mk_26) (n := mk_25) rfl) rfl (fun H locs hP hD hS br19 => ?_)
  refine lv_i2l (v := r19.1.toInt64) hx hb dX3_digest_82 rfl ?_
  refine lv_ladd hx hb dX3_digest_83 ?_
  refine lv_lstore_n (lv' := [(1, .long ((((((((((((((((((((((((((((((((((((((8009 * 31) + r1.1.toInt64) * 31) + r2.1.toInt64) * 31) + r3.1.toInt64) * 31) + r4.1.toInt64) * 31) + r5.1.toInt64) * 31) + r6.1.toInt64) * 31) + r7.1.toInt64) * 31) + r8.1.toInt64) * 31) + r9.1.toInt64) * 31) + r10.1.toInt64) * 31) + r11.1.toInt64) * 31) + r12.1.toInt64) * 31) + r13.1.toInt64) * 31) + r14.1.toInt64) * 31) + r15.1.toInt64) * 31) + r16.1.toInt64) * 31) + r17.1.toInt64) * 31) + r18.1.toInt64) * 31) + r19.1.toInt64)), (3, .int 2), (0, .ref (b 0))]) hx hb dX3_digest_84 rfl hl (by decide) rfl (fun ls hl => ?_)
  refine lv_iinc (v := 3) (lv' := [(3, .int 3), (1, .long ((((((((((((((((((((((((((((((((((((((8009 * 31) + r1.1.toInt64) * 31) + r2.1.toInt64) * 31) + r3.1.toInt64) * 31) + r4.1.toInt64) * 31) + r5.1.toInt64) * 31) + r6.1.toInt64) * 31) + r7.1.toInt64) * 31) + r8.1.toInt64) * 31) + r9.1.toInt64) * 31) + r10.1.toInt64) * 31) + r11.1.toInt64) * 31) + r12.1.toInt64) * 31) + r13.1.toInt64) * 31) + r14.1.toInt64) * 31) + r15.1.toInt64) * 31) + r16.1.toInt64) * 31) + r17.1.toInt64) * 31) + r18.1.toInt64) * 31) + r19.1.toInt64)), (0, .ref (b 0))]) hx hb dX3_digest_85 hl (k := 1) rfl (by decide) (by decide) rfl (fun ls hl => ?_)
  refine lv_goto (tgt := 67) hx hb dX3_digest_88 (by decide) ?_
  refine lv_iload_n hx hb dX3_digest_67 rfl (lv_at hl 0 rfl) ?_
  refine lv_iconst (v := 4) hx hb dX3_digest_68 (by decide) ?_
  refine lv_icmp_ge (tgt := 91) hx hb dX3_digest_69 (by decide) (fun c9 => absurd c9 (by decide)) (fun _ => ?_)
  refine lv_lload_n hx hb dX3_digest_72 rfl (lv_at hl 1 rfl) ?_
  refine lv_ldc2 (v := (31)) hx hb hown hw1 dX3_digest_73 ?_
  refine lv_lmul hx hb dX3_digest_76 ?_
  refine lv_aload_n hx hb dX3_digest_77 rfl (lv_at hl 2 rfl) ?_
  refine lv_iload_n hx hb dX3_digest_78 rfl (lv_at hl 0 rfl) ?_
  obtain ⟨r20, g20, h⟩ := g_b h
  refine kcall_i (wMo cJ cZ b mce mfr mun mbe men mov msp mwb mwe mwi mac mre mkn r20.2) (va_runV (As := [.int 3]) (rest := [.long (((((((((((((((((((((((((((((((((((((((8009 * 31) + r1.1.toInt64) * 31) + r2.1.toInt64) * 31) + r3.1.toInt64) * 31) + r4.1.toInt64) * 31) + r5.1.toInt64) * 31) + r6.1.toInt64) * 31) + r7.1.toInt64) * 31) + r8.1.toInt64) * 31) + r9.1.toInt64) * 31) + r10.1.toInt64) * 31) + r11.1.toInt64) * 31) + r12.1.toInt64) * 31) + r13.1.toInt64) * 31) + r14.1.toInt64) * 31) + r15.1.toInt64) * 31) + r16.1.toInt64) * 31) + r17.1.toInt64) * 31) + r18.1.toInt64) * 31) + r19.1.toInt64) * 31)]) ⟨hx, hb, hml, hown, hts⟩ (c_X3_calendar l dC dI cB cI cJ cZ b _ mce mfr mun mbe men mov msp mwb mwe mwi mac mre mkn r19.2 3 r20 g20) (kcwV hts kw_1480 kv_X3_calendar rfl rfl ⟨(Nat.le_of_ble_eq_true rfl), (Nat.le_of_ble_eq_true rfl)⟩) (kpV (A := A) (hP.sub (kIT mk_26 0) (km_f (m := mk_26) rfl rfl)) hK (hD.sub (kIT mk_26 0) (km_nd mk_26) (km_T (m := mk_26) rfl rfl)) hG (va_recv hK hP (ci := 5) (q0 := 0) rfl rfl)) rfl rfl hl.1 rfl (lv_room (Nat.le_of_ble_eq_true rfl)) dX3_digest_79 ⟨by show _ ≤ (86 : Nat); omega, by show _ ≤ (1880 : Nat); omega⟩) hP hD hS hA (kIT mk_26 0) (kIT mk_25 0) (km_T (m := mk_26) rfl rfl) (km_T (m := mk_26) rfl rfl) [] (km_T (m := mk_25) rfl rfl) (km_T (m := mk_25) rfl rfl) (km_cov (m := mk_26) (n := mk_25) rfl rfl) (km_dis (m := mk_26) (n := mk_25) rfl) rfl (fun H locs hP hD hS br20 => ?_)
  refine lv_i2l (v := r20.1.toInt64) hx hb dX3_digest_82 rfl ?_
  refine lv_ladd hx hb dX3_digest_83 ?_
  refine lv_lstore_n (lv' := [(1, .long ((((((((((((((((((((((((((((((((((((((((8009 * 31) + r1.1.toInt64) * 31) + r2.1.toInt64) * 31) + r3.1.toInt64) * 31) + r4.1.toInt64) * 31) + r5.1.toInt64) * 31) + r6.1.toInt64) * 31) + r7.1.toInt64) * 31) + r8.1.toInt64) * 31) + r9.1.toInt64) * 31) + r10.1.toInt64) * 31) + r11.1.toInt64) * 31) + r12.1.toInt64) * 31) + r13.1.toInt64) * 31) + r14.1.toInt64) * 31) + r15.1.toInt64) * 31) + r16.1.toInt64) * 31) + r17.1.toInt64) * 31) + r18.1.toInt64) * 31) + r19.1.toInt64) * 31) + r20.1.toInt64)), (3, .int 3), (0, .ref (b 0))]) hx hb dX3_digest_84 rfl hl (by decide) rfl (fun ls hl => ?_)
  refine lv_iinc (v := 4) (lv' := [(3, .int 4), (1, .long ((((((((((((((((((((((((((((((((((((((((8009 * 31) + r1.1.toInt64) * 31) + r2.1.toInt64) * 31) + r3.1.toInt64) * 31) + r4.1.toInt64) * 31) + r5.1.toInt64) * 31) + r6.1.toInt64) * 31) + r7.1.toInt64) * 31) + r8.1.toInt64) * 31) + r9.1.toInt64) * 31) + r10.1.toInt64) * 31) + r11.1.toInt64) * 31) + r12.1.toInt64) * 31) + r13.1.toInt64) * 31) + r14.1.toInt64) * 31) + r15.1.toInt64) * 31) + r16.1.toInt64) * 31) + r17.1.toInt64) * 31) + r18.1.toInt64) * 31) + r19.1.toInt64) * 31) + r20.1.toInt64)), (0, .ref (b 0))]) hx hb dX3_digest_85 hl (k := 1) rfl (by decide) (by decide) rfl (fun ls hl => ?_)
  refine lv_goto (tgt := 67) hx hb dX3_digest_88 (by decide) ?_
  refine lv_iload_n hx hb dX3_digest_67 rfl (lv_at hl 0 rfl) ?_
  refine lv_iconst (v := 4) hx hb dX3_digest_68 (by decide) ?_
  refine lv_icmp_ge (tgt := 91) hx hb dX3_digest_69 (by decide) (fun _ => ?_) (fun c9 => absurd (by decide) c9)
  refine lv_lload_n hx hb dX3_digest_91 rfl (lv_at hl 1 rfl) ?_
  refine lv_ldc2 (v := (31)) hx hb hown hw1 dX3_digest_92 ?_
  refine lv_lmul hx hb dX3_digest_95 ?_
  refine lv_aload_n hx hb dX3_digest_96 rfl (lv_at hl 2 rfl) ?_
  refine va_get (D := (dC, dI)) (ci := 5) (v := .int msp) (C := RX3) (T := TX3) (N := 14) hx hb hts hiX3 hown hK hP 0 rfl rfl 6 (by decide) hw2 (fun _ h9 => h9) rfl dX3_digest_97 ?_
  refine lv_i2l (v := msp.toInt64) hx hb dX3_digest_100 rfl ?_
  refine lv_ladd hx hb dX3_digest_101 ?_
  refine lv_lstore_n (lv' := [(1, .long ((((((((((((((((((((((((((((((((((((((((((8009 * 31) + r1.1.toInt64) * 31) + r2.1.toInt64) * 31) + r3.1.toInt64) * 31) + r4.1.toInt64) * 31) + r5.1.toInt64) * 31) + r6.1.toInt64) * 31) + r7.1.toInt64) * 31) + r8.1.toInt64) * 31) + r9.1.toInt64) * 31) + r10.1.toInt64) * 31) + r11.1.toInt64) * 31) + r12.1.toInt64) * 31) + r13.1.toInt64) * 31) + r14.1.toInt64) * 31) + r15.1.toInt64) * 31) + r16.1.toInt64) * 31) + r17.1.toInt64) * 31) + r18.1.toInt64) * 31) + r19.1.toInt64) * 31) + r20.1.toInt64) * 31) + msp.toInt64)), (3, .int 4), (0, .ref (b 0))]) hx hb dX3_digest_102 rfl hl (by decide) rfl (fun ls hl => ?_)
  refine lv_iconst (v := 0) hx hb dX3_digest_103 (by decide) ?_
  refine lv_istore_n (lv' := [(3, .int 0), (1, .long ((((((((((((((((((((((((((((((((((((((((((8009 * 31) + r1.1.toInt64) * 31) + r2.1.toInt64) * 31) + r3.1.toInt64) * 31) + r4.1.toInt64) * 31) + r5.1.toInt64) * 31) + r6.1.toInt64) * 31) + r7.1.toInt64) * 31) + r8.1.toInt64) * 31) + r9.1.toInt64) * 31) + r10.1.toInt64) * 31) + r11.1.toInt64) * 31) + r12.1.toInt64) * 31) + r13.1.toInt64) * 31) + r14.1.toInt64) * 31) + r15.1.toInt64) * 31) + r16.1.toInt64) * 31) + r17.1.toInt64) * 31) + r18.1.toInt64) * 31) + r19.1.toInt64) * 31) + r20.1.toInt64) * 31) + msp.toInt64)), (0, .ref (b 0))]) hx hb dX3_digest_104 rfl hl (by decide) rfl (fun ls hl => ?_)
  exact J105 24 mce mfr mun mbe men mov msp mwb mwe mwi mac mre mkn r20.2 ((((((((((((((((((((((((((((((((((((((((((8009 * 31) + r1.1.toInt64) * 31) + r2.1.toInt64) * 31) + r3.1.toInt64) * 31) + r4.1.toInt64) * 31) + r5.1.toInt64) * 31) + r6.1.toInt64) * 31) + r7.1.toInt64) * 31) + r8.1.toInt64) * 31) + r9.1.toInt64) * 31) + r10.1.toInt64) * 31) + r11.1.toInt64) * 31) + r12.1.toInt64) * 31) + r13.1.toInt64) * 31) + r14.1.toInt64) * 31) + r15.1.toInt64) * 31) + r16.1.toInt64) * 31) + r17.1.toInt64) * 31) + r18.1.toInt64) * 31) + r19.1.toInt64) * 31) + r20.1.toInt64) * 31) + msp.toInt64) 0 _ _ _ _ (by omega) (by omega) hP hD hS ls (lv_sub hl [2, 1, 0] rfl) h
abbrev wsX3_thrown : List Cond := kWs yX3_thrown cX3_thrown 1 (some .int)
def f_X3_thrown (mth : Int32) : Option (Int32) :=
  some mth
theorem f_X3_thrown_e {mth : Int32} : f_X3_thrown mth = 
  some mth := rfl
set_option maxHeartbeats 4000000 in
set_option maxRecDepth 100000 in
theorem c_X3_thrown (l : Launch) (dC : Nat → ClassId) (dI : Nat → Nat → Nat) (cB cI cJ cZ : ClassId) (b : Nat → Nat) (sz : Nat) (mce : Nat → Int64) (mfr : Int64) (mun : Int64) (mbe : Nat → Int64) (men : Nat → Int64) (mov : Nat → Int32) (msp : Int32) (mwb : Nat → Int64) (mwe : Nat → Int64) (mwi : Int32) (mac : Int32) (mre : Int32) (mkn : Int32) (mth : Int32) (res : Int32) (hf : f_X3_thrown mth = some res) : Met l yX3_thrown wsX3_thrown ({ frames := 0, cells := 0, slots := 0, locals := 0 } : Room) (kPre (dC, dI) (kTy cB cI cJ cZ) [.ref (b 0)] sz (wMo cJ cZ b mce mfr mun mbe men mov msp mwb mwe mwi mac mre mkn mth)) (kI (dC, dI) .int (res) (wMo cJ cZ b mce mfr mun mbe men mov msp mwb mwe mwi mac mre mkn mth) (va_A (wMo cJ cZ b mce mfr mun mbe men mov msp mwb mwe mwi mac mre mkn mth) sz)) 0 0 (va_A (wMo cJ cZ b mce mfr mun mbe men mov msp mwb mwe mwi mac mre mkn mth) sz) := by
  refine Met.ofW (cc := cX3_thrown) (maxL := 1) (ret := (some .int)) (by decide) rfl ?_
  intro p e s m args below meth c s₁ B hml hv
  obtain ⟨rfl, hsz, hP, hK, hD0, hG⟩ := hv
  have hx := B.exec
  have hb := B.bytes
  have hr := B.returns
  have hts := atoms_spec (ws := wsX3_thrown) B.pre
  have hown : s.vm.findClass RX3 = some m.cls := findClass_of_methodNamed B.named
  have hlocks := B.notSynchronized
  subst hsz
  have hD := hD0.self (sz := s.heap.size)
  generalize hAe : va_A (wMo cJ cZ b mce mfr mun mbe men mov msp mwb mwe mwi mac mre mkn mth) s.heap.size = A at hD ⊢
  have hA : ∀ q : Nat, s.heap.size ≤ q → A q := fun q h => by rw [← hAe]; exact Or.inr h
  have hS : va_S A s.heap s.heap [] := va_S.rf
  clear hAe
  have hw0 := hts (.fieldLink RX3 35 "SpanbookerModel" "thrown" "I") (List.mem_cons_of_mem _ kw_1085)
  have hiX3 : ∀ w ∈ u_ws RX3 TX3 14, w ∈ wsX3_thrown := fun w h => List.mem_cons_of_mem _ (ku_X3 w h)
  have hl := lv_entry ([.ref (b 0)]) (n := 1) (Nat.le_of_ble_eq_true rfl)
  rw [lg_entry_eq]
  generalize (lg_sl ([.ref (b 0)]) ++ List.replicate (1 - (lg_sl ([.ref (b 0)])).length) Slot.unset).toArray = ls at hl ⊢
  have hl : lv_has ls 1 [(0, .ref (b 0))] := hl
  have h := f_X3_thrown_e.symm.trans hf
  refine lv_aload_n hx hb dX3_thrown_0 rfl (lv_at hl 0 rfl) ?_
  refine va_get (D := (dC, dI)) (ci := 5) (v := .int mth) (C := RX3) (T := TX3) (N := 14) hx hb hts hiX3 hown hK hP 0 rfl rfl 13 (by decide) hw0 (fun _ h9 => h9) rfl dX3_thrown_1 ?_
  have h := Option.some.inj h
  subst h
  exact kret_i (v := mth) hx hb hr rfl hlocks hS hP dX3_thrown_4
abbrev wsX3_text : List Cond := kWs yX3_text cX3_text 2 (some (.object "java/lang/String"))
def f_X3_text_13 (mce : Nat → Int64) (x1 : Int32) (y0 : Int32) : Option (Int32) :=
  (f_X3_isThrown_ y0).bind fun r1 =>
  if r1.1 = 0 then
    (f_J4_init_da8c8).bind fun r3 =>
    if ix x1 4 then
      (f_X3_secondOf (mce x1.toNatClampNeg)).bind fun r5 =>
      (f_J4_append_bf812 r3.1 r3.2.1 r3.2.2 r5).bind fun r6 =>
      (f_J4_append_15ec4 r6.1 r6.2.1 r6.2.2).bind fun r7 =>
      (f_X3_nanoOf (mce x1.toNatClampNeg)).bind fun r8 =>
      (f_J4_append_bf812 r7.1 r7.2.1 r7.2.2 r8).bind fun r9 =>
      (f_J4_toString_0e30d r9.1 r9.2.1 r9.2.2).bind fun r10 =>
      some r1.2
    else none
  else
    some r1.2
theorem f_X3_text_13_e {mce : Nat → Int64} {x1 : Int32} {y0 : Int32} : f_X3_text_13 mce x1 y0 =
  (f_X3_isThrown_ y0).bind fun r1 =>
  if r1.1 = 0 then
    (f_J4_init_da8c8).bind fun r3 =>
    if ix x1 4 then
      (f_X3_secondOf (mce x1.toNatClampNeg)).bind fun r5 =>
      (f_J4_append_bf812 r3.1 r3.2.1 r3.2.2 r5).bind fun r6 =>
      (f_J4_append_15ec4 r6.1 r6.2.1 r6.2.2).bind fun r7 =>
      (f_X3_nanoOf (mce x1.toNatClampNeg)).bind fun r8 =>
      (f_J4_append_bf812 r7.1 r7.2.1 r7.2.2 r8).bind fun r9 =>
      (f_J4_toString_0e30d r9.1 r9.2.1 r9.2.2).bind fun r10 =>
      some r1.2
    else none
  else
    some r1.2 := rfl
def f_X3_text (mce : Nat → Int64) (p0 : Int32) : Option (Int32) :=
  (f_X3_is p0).bind fun r1 =>
  if r1 = 0 then
    f_X3_text_13 mce p0 1
  else
    f_X3_text_13 mce p0 0
theorem f_X3_text_e {mce : Nat → Int64} {p0 : Int32} : f_X3_text mce p0 = 
  (f_X3_is p0).bind fun r1 =>
  if r1 = 0 then
    f_X3_text_13 mce p0 1
  else
    f_X3_text_13 mce p0 0 := rfl
set_option maxHeartbeats 4000000 in
set_option maxRecDepth 100000 in
theorem c_X3_text (l : Launch) (dC : Nat → ClassId) (dI : Nat → Nat → Nat) (cB cI cJ cZ : ClassId) (b : Nat → Nat) (sz : Nat) (mce : Nat → Int64) (mfr : Int64) (mun : Int64) (mbe : Nat → Int64) (men : Nat → Int64) (mov : Nat → Int32) (msp : Int32) (mwb : Nat → Int64) (mwe : Nat → Int64) (mwi : Int32) (mac : Int32) (mre : Int32) (mkn : Int32) (mth : Int32) (p0 : Int32) (res : Int32) (hf : f_X3_text mce p0 = some res) : Met l yX3_text wsX3_text ({ frames := 6, cells := 7, slots := 280, locals := 171 } : Room) (kPreX (dC, dI) (kTy cB cI cJ cZ) [.ref (b 0), .int p0] sz (wMo cJ cZ b mce mfr mun mbe men mov msp mwb mwe mwi mac mre mkn mth)) (kNq (dC, dI) (wMo cJ cZ b mce mfr mun mbe men mov msp mwb mwe mwi mac mre mkn (res)) (va_A (wMo cJ cZ b mce mfr mun mbe men mov msp mwb mwe mwi mac mre mkn mth) sz)) 7 280 (va_A (wMo cJ cZ b mce mfr mun mbe men mov msp mwb mwe mwi mac mre mkn mth) sz) := by
  refine Met.ofW (cc := cX3_text) (maxL := 2) (ret := (some (.object "java/lang/String"))) (by decide) rfl ?_
  intro p e s m args below meth c s₁ B hml hv
  obtain ⟨rfl, hsz, hP, hK, hD0, hG, hZ⟩ := hv
  have hx := B.exec
  have hb := B.bytes
  have hr := B.returns
  have hts := atoms_spec (ws := wsX3_text) B.pre
  have hown : s.vm.findClass RX3 = some m.cls := findClass_of_methodNamed B.named
  have hlocks := B.notSynchronized
  subst hsz
  have hD := hD0.self (sz := s.heap.size)
  generalize hAe : va_A (wMo cJ cZ b mce mfr mun mbe men mov msp mwb mwe mwi mac mre mkn mth) s.heap.size = A at hD hZ ⊢
  have hA : ∀ q : Nat, s.heap.size ≤ q → A q := fun q h => by rw [← hAe]; exact Or.inr h
  have hS : va_S A s.heap s.heap [] := va_S.rf
  clear hAe
  have hw0 := hts (.classLink RX3 193 RJ4) (List.mem_cons_of_mem _ kw_1287)
  have hw1 := hts (.instantiable RJ4 4) (List.mem_cons_of_mem _ kw_683)
  have hw2 := hts (.initialized RJ4) (List.mem_cons_of_mem _ kw_68)
  have hw3 := hts (.fieldLink RX3 7 "SpanbookerModel" "cells" "[J") (List.mem_cons_of_mem _ kw_1072)
  have hiJ4 : ∀ w ∈ u_ws RJ4 TJ4 4, w ∈ wsX3_text := fun w h => List.mem_cons_of_mem _ (ku_J4 w h)
  have hiX3 : ∀ w ∈ u_ws RX3 TX3 14, w ∈ wsX3_text := fun w h => List.mem_cons_of_mem _ (ku_X3 w h)
  have J13 : ∀ (mce : Nat → Int64) (mfr : Int64) (mun : Int64) (mbe : Nat → Int64) (men : Nat → Int64) (mov : Nat → Int32) (msp : Int32) (mwb : Nat → Int64) (mwe : Nat → Int64) (mwi : Int32) (mac : Int32) (mre : Int32) (mkn : Int32) (mth : Int32) (x1 : Int32) (y0 : Int32) (H : Heap) (locs : List Loc), va_P (dC, dI) vwCl (wMo cJ cZ b mce mfr mun mbe men mov msp mwb mwe mwi mac mre mkn mth) H → va_D A (wMo cJ cZ b mce mfr mun mbe men mov msp mwb mwe mwi mac mre mkn mth) → va_S A s.heap H locs → ∀ (ls : Array Slot), lv_has ls 2 [(0, .ref (b 0)), (1, .int x1)] → f_X3_text_13 mce x1 y0 = some res → W p l e (headSpec wsX3_text ({ frames := 6, cells := 7, slots := 280, locals := 171 } : Room)).room s m ([.ref (b 0), .int p0] : List Value).toArray below meth c H locs 0 0 (MQ below (kNq (dC, dI) (wMo cJ cZ b mce mfr mun mbe men mov msp mwb mwe mwi mac mre mkn (res)) A) ([.ref (b 0), .int p0] : List Value).toArray s 7 280 A) (F0 m 13 ls [.int y0, .ref (b 0)]) := by
    intro mce mfr mun mbe men mov msp mwb mwe mwi mac mre mkn mth x1 y0 H locs hP hD hS ls hl h
    have h := f_X3_text_13_e.symm.trans h
    obtain ⟨r1, g1, h⟩ := g_b h
    refine kcall_i (wMo cJ cZ b mce mfr mun mbe men mov msp mwb mwe mwi mac mre mkn r1.2) (va_runV (As := [.int y0]) (rest := []) ⟨hx, hb, hml, hown, hts⟩ (c_X3_isThrown_ l dC dI cB cI cJ cZ b _ mce mfr mun mbe men mov msp mwb mwe mwi mac mre mkn mth y0 r1 g1) (kcwV hts kw_1170 kv_X3_isThrown_ rfl rfl ⟨(Nat.le_of_ble_eq_true rfl), (Nat.le_of_ble_eq_true rfl)⟩) (kpV (A := A) (hP.sub (kIT mk_26 0) (km_f (m := mk_26) rfl rfl)) hK (hD.sub (kIT mk_26 0) (km_nd mk_26) (km_T (m := mk_26) rfl rfl)) hG (va_recv hK hP (ci := 5) (q0 := 0) rfl rfl)) rfl rfl hl.1 rfl (lv_room (Nat.le_of_ble_eq_true rfl)) dX3_text_13 ⟨(Nat.le_of_ble_eq_true rfl), (Nat.le_of_ble_eq_true rfl)⟩) hP hD hS hA (kIT mk_26 0) (kIT mk_25 0) (km_T (m := mk_26) rfl rfl) (km_T (m := mk_26) rfl rfl) [] (km_T (m := mk_25) rfl rfl) (km_T (m := mk_25) rfl rfl) (km_cov (m := mk_26) (n := mk_25) rfl rfl) (km_dis (m := mk_26) (n := mk_25) rfl) rfl (fun H locs hP hD hS br1 => ?_)
    refine lv_if_eq (tgt := 24) hx hb dX3_text_16 (by decide) (fun c2 => ?_) (fun c2 => ?_)
    · have h := g_t c2 h
      refine va_new (ci := 1) (fs := [.null, .int 0, .int 0, .int 0]) (C := RJ4) (T := TJ4) (N := 4) hx hb hts hiJ4 tyJ4 tyJ4_ok hown hw0 hw1 hw2 hK hP hD hS hA rfl (fun j hj => by rcases (show j = 0 ∨ j = 1 ∨ j = 2 ∨ j = 3 by omega) with rfl | rfl | rfl | rfl <;> rfl) (Nat.le_of_ble_eq_true rfl) (Nat.le_of_ble_eq_true rfl) dX3_text_24 (fun qn0 H hP hD hS => ?_)
      have hP : va_P (dC, dI) vwCl ((wMo cJ cZ b mce mfr mun mbe men mov msp mwb mwe mwi mac mre mkn r1.2) ++ [(qn0, .inr (1, [.null, .int 0, .int 0, .int 0]))]) H := hP
      have hD : va_D A ((wMo cJ cZ b mce mfr mun mbe men mov msp mwb mwe mwi mac mre mkn r1.2) ++ [(qn0, .inr (1, [.null, .int 0, .int 0, .int 0]))]) := hD
      refine lv_dup hx hb dX3_text_27 rfl ?_
      obtain ⟨r3, g3, h⟩ := g_b h
      refine kcall_vu (fun u3 => (wTB cB qn0 (u3 0) r3.1 r3.2.1 r3.2.2)) (va_runI (As := []) (rest := [.ref qn0]) ⟨hx, hb, hml, hown, hts⟩ (c_J4_init_da8c8 l dC dI cB cI cJ cZ qn0 _   r3 g3) (kcwI hts kw_1288 kv_J4_init_da8c8 rfl rfl ⟨(Nat.le_of_ble_eq_true rfl), (Nat.le_of_ble_eq_true rfl)⟩) (kpSX (A := A) (hP.sub [7] rfl) hK (hD.sub [7] (by decide) rfl) hG hZ hS hD hA [7] rfl) rfl rfl hl.1 rfl (lv_room (Nat.le_of_ble_eq_true rfl)) dX3_text_28 ⟨(Nat.le_of_ble_eq_true rfl), (Nat.le_of_ble_eq_true rfl)⟩) hP hD hS hA [7] [0, 1, 2, 3, 4, 5, 6] rfl [((b 0), .inr (5, [.ref (b 1), .long mfr, .long mun, .ref (b 2), .ref (b 3), .ref (b 4), .int msp, .ref (b 5), .ref (b 6), .int mwi, .int mac, .int mre, .int mkn, .int r1.2])), ((b 1), .inl (cJ, 4, .inr (.inl mce))), ((b 2), .inl (cJ, 10, .inr (.inl mbe))), ((b 3), .inl (cJ, 10, .inr (.inl men))), ((b 4), .inl (cZ, 10, .inl mov)), ((b 5), .inl (cJ, 8, .inr (.inl mwb))), ((b 6), .inl (cJ, 8, .inr (.inl mwe)))] rfl (by decide) (by decide) (fun u3 H locs hP hD hS => ?_)
      have hP := hP.sub (ws' := ((wMo cJ cZ b mce mfr mun mbe men mov msp mwb mwe mwi mac mre mkn r1.2) ++ [(qn0, .inr (1, [.ref (u3 0), .int 0, .int 0, .int r3.2.2]))] ++ [((u3 0), .inl (cB, r3.1, .inl r3.2.1))])) [0, 1, 2, 3, 4, 5, 6, 7, 8] rfl
      have hD := hD.sub (ws' := ((wMo cJ cZ b mce mfr mun mbe men mov msp mwb mwe mwi mac mre mkn r1.2) ++ [(qn0, .inr (1, [.ref (u3 0), .int 0, .int 0, .int r3.2.2]))] ++ [((u3 0), .inl (cB, r3.1, .inl r3.2.1))])) [0, 1, 2, 3, 4, 5, 6, 7, 8] (by decide) rfl
      refine lv_aload_n hx hb dX3_text_31 rfl (lv_at hl 0 rfl) ?_
      refine va_get (D := (dC, dI)) (ci := 5) (v := .ref (b 1)) (C := RX3) (T := TX3) (N := 14) hx hb hts hiX3 hown hK hP 0 rfl rfl 0 (by decide) hw3 (fun _ h9 => h9) rfl dX3_text_32 ?_
      refine lv_iload_n hx hb dX3_text_35 rfl (lv_at hl 1 rfl) ?_
      obtain ⟨z3, h⟩ := g_if h
      refine va_lald hx hb hK hP 1 2 rfl rfl (ix_in z3) dX3_text_36 ?_
      obtain ⟨r5, g5, h⟩ := g_b h
      refine kcall_i ((wMo cJ cZ b mce mfr mun mbe men mov msp mwb mwe mwi mac mre mkn r1.2) ++ [(qn0, .inr (1, [.ref (u3 0), .int 0, .int 0, .int r3.2.2]))] ++ [((u3 0), .inl (cB, r3.1, .inl r3.2.1))]) (va_runS (As := [.long (mce x1.toNatClampNeg)]) (rest := [.ref qn0]) ⟨hx, hb, hml, hown, hts⟩ (c_X3_secondOf l dC dI cB cI cJ cZ  _  (mce x1.toNatClampNeg) r5 g5) (kcwS hts kw_1144 kv_X3_secondOf rfl rfl ⟨(Nat.le_of_ble_eq_true rfl), (Nat.le_of_ble_eq_true rfl)⟩) (kpS (A := A) (kPnil) hK ((kDnil (A := A))) hG) rfl rfl hl.1 rfl (lv_room (Nat.le_of_ble_eq_true rfl)) dX3_text_37 ⟨(Nat.le_of_ble_eq_true rfl), (Nat.le_of_ble_eq_true rfl)⟩) hP hD hS hA (kIT mk_55 0) (kIT mk_56 0) (km_T (m := mk_55) rfl rfl) (km_T (m := mk_55) rfl rfl) [((b 0), .inr (5, [.ref (b 1), .long mfr, .long mun, .ref (b 2), .ref (b 3), .ref (b 4), .int msp, .ref (b 5), .ref (b 6), .int mwi, .int mac, .int mre, .int mkn, .int r1.2])), ((b 1), .inl (cJ, 4, .inr (.inl mce))), ((b 2), .inl (cJ, 10, .inr (.inl mbe))), ((b 3), .inl (cJ, 10, .inr (.inl men))), ((b 4), .inl (cZ, 10, .inl mov)), ((b 5), .inl (cJ, 8, .inr (.inl mwb))), ((b 6), .inl (cJ, 8, .inr (.inl mwe))), (qn0, .inr (1, [.ref (u3 0), .int 0, .int 0, .int r3.2.2])), ((u3 0), .inl (cB, r3.1, .inl r3.2.1))] (km_T (m := mk_56) rfl rfl) (km_T (m := mk_56) rfl rfl) (km_cov (m := mk_55) (n := mk_56) rfl rfl) (km_dis (m := mk_55) (n := mk_56) rfl) rfl (fun H locs hP hD hS br5 => ?_)
      obtain ⟨r6, g6, h⟩ := g_b h
      refine kcall_au (fun u6 => (wTB cB qn0 (u6 0) r6.1 r6.2.1 r6.2.2)) (va_runV (As := [.int r5]) (rest := []) ⟨hx, hb, hml, hown, hts⟩ (c_J4_append_bf812 l dC dI cB cI cJ cZ qn0 (u3 0) _ r3.1 r3.2.1 r3.2.2 r5 r6 g6) (kcwV hts kw_1289 kv_J4_append_bf812 rfl rfl ⟨(Nat.le_of_ble_eq_true rfl), (Nat.le_of_ble_eq_true rfl)⟩) (kpVX (A := A) (hP.sub [7, 8] rfl) hK (hD.sub [7, 8] (by decide) rfl) hG hZ hS hD hA [7, 8] rfl (va_recv hK hP (ci := 1) (q0 := 7) rfl rfl)) rfl rfl hl.1 rfl (lv_room (Nat.le_of_ble_eq_true rfl)) dX3_text_40 ⟨(Nat.le_of_ble_eq_true rfl), (Nat.le_of_ble_eq_true rfl)⟩) hP hD hS hA [7, 8] [0, 1, 2, 3, 4, 5, 6] rfl [((b 0), .inr (5, [.ref (b 1), .long mfr, .long mun, .ref (b 2), .ref (b 3), .ref (b 4), .int msp, .ref (b 5), .ref (b 6), .int mwi, .int mac, .int mre, .int mkn, .int r1.2])), ((b 1), .inl (cJ, 4, .inr (.inl mce))), ((b 2), .inl (cJ, 10, .inr (.inl mbe))), ((b 3), .inl (cJ, 10, .inr (.inl men))), ((b 4), .inl (cZ, 10, .inl mov)), ((b 5), .inl (cJ, 8, .inr (.inl mwb))), ((b 6), .inl (cJ, 8, .inr (.inl mwe)))] rfl (by decide) (by decide) (fun u6 H locs hP hD hS => ?_)
      have hP := hP.sub (ws' := ((wMo cJ cZ b mce mfr mun mbe men mov msp mwb mwe mwi mac mre mkn r1.2) ++ [(qn0, .inr (1, [.ref (u6 0), .int 0, .int 0, .int r6.2.2]))] ++ [((u6 0), .inl (cB, r6.1, .inl r6.2.1))])) [0, 1, 2, 3, 4, 5, 6, 7, 8] rfl
      have hD := hD.sub (ws' := ((wMo cJ cZ b mce mfr mun mbe men mov msp mwb mwe mwi mac mre mkn r1.2) ++ [(qn0, .inr (1, [.ref (u6 0), .int 0, .int 0, .int r6.2.2]))] ++ [((u6 0), .inl (cB, r6.1, .inl r6.2.1))])) [0, 1, 2, 3, 4, 5, 6, 7, 8] (by decide) rfl
      obtain ⟨kS, zV, hk1, hT⟩ := hZ.2.2.2.2.2.2.2.2.2
      refine va_ldcS hx hb hown hk1 dX3_text_43 ?_
      obtain ⟨r7, g7, h⟩ := g_b h
      refine kcall_au (fun u7 => (wTB cB qn0 (u7 0) r7.1 r7.2.1 r7.2.2)) (va_runV (As := [.ref kS]) (rest := []) ⟨hx, hb, hml, hown, hts⟩ (c_J4_append_15ec4 l dC dI cB cI cJ cZ kS zV qn0 (u6 0) _ r6.1 r6.2.1 r6.2.2  r7 g7) (kcwV hts kw_1291 kv_J4_append_15ec4 rfl rfl ⟨(Nat.le_of_ble_eq_true rfl), (Nat.le_of_ble_eq_true rfl)⟩) (kpVT hT (hP.sub [7, 8] rfl) hK (hD.sub [7, 8] (by decide) rfl) hG hZ hS hD hA [7, 8] rfl (va_recv hK hP (ci := 1) (q0 := 7) rfl rfl)) rfl rfl hl.1 rfl (lv_room (Nat.le_of_ble_eq_true rfl)) dX3_text_45 ⟨(Nat.le_of_ble_eq_true rfl), (Nat.le_of_ble_eq_true rfl)⟩) hP hD hS hA [7, 8] [0, 1, 2, 3, 4, 5, 6] rfl [((b 0), .inr (5, [.ref (b 1), .long mfr, .long mun, .ref (b 2), .ref (b 3), .ref (b 4), .int msp, .ref (b 5), .ref (b 6), .int mwi, .int mac, .int mre, .int mkn, .int r1.2])), ((b 1), .inl (cJ, 4, .inr (.inl mce))), ((b 2), .inl (cJ, 10, .inr (.inl mbe))), ((b 3), .inl (cJ, 10, .inr (.inl men))), ((b 4), .inl (cZ, 10, .inl mov)), ((b 5), .inl (cJ, 8, .inr (.inl mwb))), ((b 6), .inl (cJ, 8, .inr (.inl mwe)))] rfl (by decide) (by decide) (fun u7 H locs hP hD hS => ?_)
      have hP := hP.sub (ws' := ((wMo cJ cZ b mce mfr mun mbe men mov msp mwb mwe mwi mac mre mkn r1.2) ++ [(qn0, .inr (1, [.ref (u7 0), .int 0, .int 0, .int r7.2.2]))] ++ [((u7 0), .inl (cB, r7.1, .inl r7.2.1))])) [0, 1, 2, 3, 4, 5, 6, 7, 8] rfl
      have hD := hD.sub (ws' := ((wMo cJ cZ b mce mfr mun mbe men mov msp mwb mwe mwi mac mre mkn r1.2) ++ [(qn0, .inr (1, [.ref (u7 0), .int 0, .int 0, .int r7.2.2]))] ++ [((u7 0), .inl (cB, r7.1, .inl r7.2.1))])) [0, 1, 2, 3, 4, 5, 6, 7, 8] (by decide) rfl
      refine lv_aload_n hx hb dX3_text_48 rfl (lv_at hl 0 rfl) ?_
      refine va_get (D := (dC, dI)) (ci := 5) (v := .ref (b 1)) (C := RX3) (T := TX3) (N := 14) hx hb hts hiX3 hown hK hP 0 rfl rfl 0 (by decide) hw3 (fun _ h9 => h9) rfl dX3_text_49 ?_
      refine lv_iload_n hx hb dX3_text_52 rfl (lv_at hl 1 rfl) ?_
      refine va_lald hx hb hK hP 1 2 rfl rfl (ix_in z3) dX3_text_53 ?_
      obtain ⟨r8, g8, h⟩ := g_b h
      refine kcall_i ((wMo cJ cZ b mce mfr mun mbe men mov msp mwb mwe mwi mac mre mkn r1.2) ++ [(qn0, .inr (1, [.ref (u7 0), .int 0, .int 0, .int r7.2.2]))] ++ [((u7 0), .inl (cB, r7.1, .inl r7.2.1))]) (va_runS (As := [.long (mce x1.toNatClampNeg)]) (rest := [.ref qn0]) ⟨hx, hb, hml, hown, hts⟩ (c_X3_nanoOf l dC dI cB cI cJ cZ  _  (mce x1.toNatClampNeg) r8 g8) (kcwS hts kw_1279 kv_X3_nanoOf rfl rfl ⟨(Nat.le_of_ble_eq_true rfl), (Nat.le_of_ble_eq_true rfl)⟩) (kpS (A := A) (kPnil) hK ((kDnil (A := A))) hG) rfl rfl hl.1 rfl (lv_room (Nat.le_of_ble_eq_true rfl)) dX3_text_54 ⟨(Nat.le_of_ble_eq_true rfl), (Nat.le_of_ble_eq_true rfl)⟩) hP hD hS hA (kIT mk_55 0) (kIT mk_56 0) (km_T (m := mk_55) rfl rfl) (km_T (m := mk_55) rfl rfl) [((b 0), .inr (5, [.ref (b 1), .long mfr, .long mun, .ref (b 2), .ref (b 3), .ref (b 4), .int msp, .ref (b 5), .ref (b 6), .int mwi, .int mac, .int mre, .int mkn, .int r1.2])), ((b 1), .inl (cJ, 4, .inr (.inl mce))), ((b 2), .inl (cJ, 10, .inr (.inl mbe))), ((b 3), .inl (cJ, 10, .inr (.inl men))), ((b 4), .inl (cZ, 10, .inl mov)), ((b 5), .inl (cJ, 8, .inr (.inl mwb))), ((b 6), .inl (cJ, 8, .inr (.inl mwe))), (qn0, .inr (1, [.ref (u7 0), .int 0, .int 0, .int r7.2.2])), ((u7 0), .inl (cB, r7.1, .inl r7.2.1))] (km_T (m := mk_56) rfl rfl) (km_T (m := mk_56) rfl rfl) (km_cov (m := mk_55) (n := mk_56) rfl rfl) (km_dis (m := mk_55) (n := mk_56) rfl) rfl (fun H locs hP hD hS br8 => ?_)
      obtain ⟨r9, g9, h⟩ := g_b h
      refine kcall_au (fun u9 => (wTB cB qn0 (u9 0) r9.1 r9.2.1 r9.2.2)) (va_runV (As := [.int r8]) (rest := []) ⟨hx, hb, hml, hown, hts⟩ (c_J4_append_bf812 l dC dI cB cI cJ cZ qn0 (u7 0) _ r7.1 r7.2.1 r7.2.2 r8 r9 g9) (kcwV hts kw_1289 kv_J4_append_bf812 rfl rfl ⟨(Nat.le_of_ble_eq_true rfl), (Nat.le_of_ble_eq_true rfl)⟩) (kpVX (A := A) (hP.sub [7, 8] rfl) hK (hD.sub [7, 8] (by decide) rfl) hG hZ hS hD hA [7, 8] rfl (va_recv hK hP (ci := 1) (q0 := 7) rfl rfl)) rfl rfl hl.1 rfl (lv_room (Nat.le_of_ble_eq_true rfl)) dX3_text_57 ⟨(Nat.le_of_ble_eq_true rfl), (Nat.le_of_ble_eq_true rfl)⟩) hP hD hS hA [7, 8] [0, 1, 2, 3, 4, 5, 6] rfl [((b 0), .inr (5, [.ref (b 1), .long mfr, .long mun, .ref (b 2), .ref (b 3), .ref (b 4), .int msp, .ref (b 5), .ref (b 6), .int mwi, .int mac, .int mre, .int mkn, .int r1.2])), ((b 1), .inl (cJ, 4, .inr (.inl mce))), ((b 2), .inl (cJ, 10, .inr (.inl mbe))), ((b 3), .inl (cJ, 10, .inr (.inl men))), ((b 4), .inl (cZ, 10, .inl mov)), ((b 5), .inl (cJ, 8, .inr (.inl mwb))), ((b 6), .inl (cJ, 8, .inr (.inl mwe)))] rfl (by decide) (by decide) (fun u9 H locs hP hD hS => ?_)
      have hP := hP.sub (ws' := ((wMo cJ cZ b mce mfr mun mbe men mov msp mwb mwe mwi mac mre mkn r1.2) ++ [(qn0, .inr (1, [.ref (u9 0), .int 0, .int 0, .int r9.2.2]))] ++ [((u9 0), .inl (cB, r9.1, .inl r9.2.1))])) [0, 1, 2, 3, 4, 5, 6, 7, 8] rfl
      have hD := hD.sub (ws' := ((wMo cJ cZ b mce mfr mun mbe men mov msp mwb mwe mwi mac mre mkn r1.2) ++ [(qn0, .inr (1, [.ref (u9 0), .int 0, .int 0, .int r9.2.2]))] ++ [((u9 0), .inl (cB, r9.1, .inl r9.2.1))])) [0, 1, 2, 3, 4, 5, 6, 7, 8] (by decide) rfl
      obtain ⟨r10, g10, h⟩ := g_b h
      refine kcall_n ((wMo cJ cZ b mce mfr mun mbe men mov msp mwb mwe mwi mac mre mkn r1.2) ++ [(qn0, .inr (1, [.ref (u9 0), .int 0, .int 0, .int r9.2.2]))] ++ [((u9 0), .inl (cB, r9.1, .inl r9.2.1))]) (va_runV (As := []) (rest := []) ⟨hx, hb, hml, hown, hts⟩ (c_J4_toString_0e30d l dC dI cB cI cJ cZ qn0 (u9 0) _ r9.1 r9.2.1 r9.2.2  r10 g10) (kcwV hts kw_1292 kv_J4_toString_0e30d rfl rfl ⟨(Nat.le_of_ble_eq_true rfl), (Nat.le_of_ble_eq_true rfl)⟩) (kpVX (A := A) (hP.sub (kIT mk_57 0) (km_f (m := mk_57) rfl rfl)) hK (hD.sub (kIT mk_57 0) (km_nd mk_57) (km_T (m := mk_57) rfl rfl)) hG hZ hS hD hA (kIT mk_57 0) (km_T (m := mk_57) rfl rfl) (va_recv hK hP (ci := 1) (q0 := 7) rfl rfl)) rfl rfl hl.1 rfl (lv_room (Nat.le_of_ble_eq_true rfl)) dX3_text_60 ⟨(Nat.le_of_ble_eq_true rfl), (Nat.le_of_ble_eq_true rfl)⟩) hP hD hS hA (kIT mk_57 0) (kIT mk_58 0) (km_T (m := mk_57) rfl rfl) (km_T (m := mk_57) rfl rfl) [((b 0), .inr (5, [.ref (b 1), .long mfr, .long mun, .ref (b 2), .ref (b 3), .ref (b 4), .int msp, .ref (b 5), .ref (b 6), .int mwi, .int mac, .int mre, .int mkn, .int r1.2])), ((b 1), .inl (cJ, 4, .inr (.inl mce))), ((b 2), .inl (cJ, 10, .inr (.inl mbe))), ((b 3), .inl (cJ, 10, .inr (.inl men))), ((b 4), .inl (cZ, 10, .inl mov)), ((b 5), .inl (cJ, 8, .inr (.inl mwb))), ((b 6), .inl (cJ, 8, .inr (.inl mwe)))] (km_T (m := mk_58) rfl rfl) (km_T (m := mk_58) rfl rfl) (km_cov (m := mk_57) (n := mk_58) rfl rfl) (km_dis (m := mk_57) (n := mk_58) rfl) rfl (fun qa10 H locs hP hD hS => ?_)
      have hP := hP.sub (ws' := (wMo cJ cZ b mce mfr mun mbe men mov msp mwb mwe mwi mac mre mkn r1.2)) [0, 1, 2, 3, 4, 5, 6] rfl
      have h := Option.some.inj h
      subst h
      refine W.widen (k := 7) (n := 280) (Nat.le_of_ble_eq_true rfl) (Nat.le_of_ble_eq_true rfl) ?_
      exact kret_n hx hb hr (Or.inl ⟨_, rfl⟩) hlocks hS hP dX3_text_63
    · have h := g_f c2 h
      obtain ⟨sE, hE⟩ := hZ.2.2.2.2.2.2.2.2.1
      refine va_ldcS hx hb hown hE dX3_text_19 ?_
      refine lv_goto (tgt := 63) hx hb dX3_text_21 (by decide) ?_
      have h := Option.some.inj h
      subst h
      refine W.widen (k := 7) (n := 280) (Nat.le_of_ble_eq_true rfl) (Nat.le_of_ble_eq_true rfl) ?_
      exact kret_n hx hb hr (Or.inl ⟨_, rfl⟩) hlocks hS hP dX3_text_63
  have hl := lv_entry ([.ref (b 0), .int p0]) (n := 2) (Nat.le_of_ble_eq_true rfl)
  rw [lg_entry_eq]
  generalize (lg_sl ([.ref (b 0), .int p0]) ++ List.replicate (2 - (lg_sl ([.ref (b 0), .int p0])).length) Slot.unset).toArray = ls at hl ⊢
  have hl : lv_has ls 2 [(0, .ref (b 0)), (1, .int p0)] := hl
  have h := f_X3_text_e.symm.trans hf
  refine lv_aload_n hx hb dX3_text_0 rfl (lv_at hl 0 rfl) ?_
  refine lv_iload_n hx hb dX3_text_1 rfl (lv_at hl 1 rfl) ?_
  obtain ⟨r1, g1, h⟩ := g_b h
  refine kcall_i (wMo cJ cZ b mce mfr mun mbe men mov msp mwb mwe mwi mac mre mkn mth) (va_runS (As := [.int p0]) (rest := [.ref (b 0)]) ⟨hx, hb, hml, hown, hts⟩ (c_X3_is l dC dI cB cI cJ cZ  _  p0 r1 g1) (kcwS hts kw_1123 kv_X3_is rfl rfl ⟨(Nat.le_of_ble_eq_true rfl), (Nat.le_of_ble_eq_true rfl)⟩) (kpS (A := A) (kPnil) hK ((kDnil (A := A))) hG) rfl rfl hl.1 rfl (lv_room (Nat.le_of_ble_eq_true rfl)) dX3_text_2 ⟨(Nat.le_of_ble_eq_true rfl), (Nat.le_of_ble_eq_true rfl)⟩) hP hD hS hA (kIT mk_25 0) (kIT mk_26 0) (km_T (m := mk_25) rfl rfl) (km_T (m := mk_25) rfl rfl) [((b 0), .inr (5, [.ref (b 1), .long mfr, .long mun, .ref (b 2), .ref (b 3), .ref (b 4), .int msp, .ref (b 5), .ref (b 6), .int mwi, .int mac, .int mre, .int mkn, .int mth])), ((b 1), .inl (cJ, 4, .inr (.inl mce))), ((b 2), .inl (cJ, 10, .inr (.inl mbe))), ((b 3), .inl (cJ, 10, .inr (.inl men))), ((b 4), .inl (cZ, 10, .inl mov)), ((b 5), .inl (cJ, 8, .inr (.inl mwb))), ((b 6), .inl (cJ, 8, .inr (.inl mwe)))] (km_T (m := mk_26) rfl rfl) (km_T (m := mk_26) rfl rfl) (km_cov (m := mk_25) (n := mk_26) rfl rfl) (km_dis (m := mk_25) (n := mk_26) rfl) rfl (fun H locs hP hD hS br1 => ?_)
  refine lv_if_ne (tgt := 12) hx hb dX3_text_5 (by decide) (fun c2 => ?_) (fun c2 => ?_)
  · have h := g_f c2 h
    refine lv_iconst (v := 0) hx hb dX3_text_12 (by decide) ?_
    exact J13 mce mfr mun mbe men mov msp mwb mwe mwi mac mre mkn mth p0 0 _ _ hP hD hS ls (lv_sub hl [0, 1] rfl) h
  · have h := g_t c2 h
    refine lv_iconst (v := 1) hx hb dX3_text_8 (by decide) ?_
    refine lv_goto (tgt := 13) hx hb dX3_text_9 (by decide) ?_
    exact J13 mce mfr mun mbe men mov msp mwb mwe mwi mac mre mkn mth p0 1 _ _ hP hD hS ls (lv_sub hl [0, 1] rfl) h
abbrev wsX3_init : List Cond := kWs yX3_init cX3_init 1 none
def f_X3_init : Option (Unit) :=
  some ()
theorem f_X3_init_e : f_X3_init = 
  some () := rfl
set_option maxHeartbeats 4000000 in
set_option maxRecDepth 100000 in
theorem c_X3_init (l : Launch) (dC : Nat → ClassId) (dI : Nat → Nat → Nat) (cB cI cJ cZ : ClassId) (h0 : Nat) (sz : Nat) (res : Unit) (hf : f_X3_init = some res) : Met l yX3_init wsX3_init ({ frames := 1, cells := 6, slots := 50, locals := 20 } : Room) (kPre (dC, dI) (kTy cB cI cJ cZ) [.ref h0] sz [(h0, .inr (5, [.null, .long 0, .long 0, .null, .null, .null, .int 0, .null, .null, .int 0, .int 0, .int 0, .int 0, .int 0]))]) (kVu (dC, dI) (fun u => (wMo cJ cZ (kcons h0 u) (fun _ => 0) 0 86400000000000 (fun _ => 0) (fun _ => 0) (fun _ => 0) 0 (fun _ => 0) (fun _ => 0) 0 0 0 0 0)) (va_A [(h0, .inr (5, [.null, .long 0, .long 0, .null, .null, .null, .int 0, .null, .null, .int 0, .int 0, .int 0, .int 0, .int 0]))] sz)) 6 50 (va_A [(h0, .inr (5, [.null, .long 0, .long 0, .null, .null, .null, .int 0, .null, .null, .int 0, .int 0, .int 0, .int 0, .int 0]))] sz) := by
  refine Met.ofW (cc := cX3_init) (maxL := 1) (ret := none) (by decide) rfl ?_
  intro p e s m args below meth c s₁ B hml hv
  obtain ⟨rfl, hsz, hP, hK, hD0, hG⟩ := hv
  have hx := B.exec
  have hb := B.bytes
  have hr := B.returns
  have hts := atoms_spec (ws := wsX3_init) B.pre
  have hown : s.vm.findClass RX3 = some m.cls := findClass_of_methodNamed B.named
  have hlocks := B.notSynchronized
  subst hsz
  have hD := hD0.self (sz := s.heap.size)
  generalize hAe : va_A [(h0, .inr (5, [.null, .long 0, .long 0, .null, .null, .null, .int 0, .null, .null, .int 0, .int 0, .int 0, .int 0, .int 0]))] s.heap.size = A at hD ⊢
  have hA : ∀ q : Nat, s.heap.size ≤ q → A q := fun q h => by rw [← hAe]; exact Or.inr h
  have hS : va_S A s.heap s.heap [] := va_S.rf
  clear hAe
  have hin : meth.name = "<init>" := (name_of_methodNamed B.named B.method).1
  have hw0 := hts (.methodLink RX3 1 objectInit) (List.mem_cons_of_mem _ kw_1070)
  have hw1 := hts (.instanceMethod objectInit) (List.mem_cons_of_mem _ kw_83)
  have hw2 := hts (.code objectInit ⟨#[0xb1]⟩ 1 none) (List.mem_cons_of_mem _ kw_84)
  have hw3 := hts (.arrayClass .long) (List.mem_cons_of_mem _ kw_105)
  have hw4 := hts (.fieldLink RX3 7 "SpanbookerModel" "cells" "[J") (List.mem_cons_of_mem _ kw_1072)
  have hw5 := hts (.constantLong RX3 13 (86400000000000)) (List.mem_cons_of_mem _ kw_1071)
  have hw6 := hts (.fieldLink RX3 15 "SpanbookerModel" "until" "J") (List.mem_cons_of_mem _ kw_1074)
  have hw7 := hts (.fieldLink RX3 19 "SpanbookerModel" "begins" "[J") (List.mem_cons_of_mem _ kw_1075)
  have hw8 := hts (.fieldLink RX3 22 "SpanbookerModel" "ends" "[J") (List.mem_cons_of_mem _ kw_1076)
  have hw9 := hts (.arrayClass .boolean) (List.mem_cons_of_mem _ kw_106)
  have hw10 := hts (.fieldLink RX3 25 "SpanbookerModel" "over" "[Z") (List.mem_cons_of_mem _ kw_1077)
  have hw11 := hts (.fieldLink RX3 29 "SpanbookerModel" "wishBegins" "[J") (List.mem_cons_of_mem _ kw_1079)
  have hw12 := hts (.fieldLink RX3 32 "SpanbookerModel" "wishEnds" "[J") (List.mem_cons_of_mem _ kw_1080)
  have hiX3 : ∀ w ∈ u_ws RX3 TX3 14, w ∈ wsX3_init := fun w h => List.mem_cons_of_mem _ (ku_X3 w h)
  have hl := lv_entry ([.ref h0]) (n := 1) (Nat.le_of_ble_eq_true rfl)
  rw [lg_entry_eq]
  generalize (lg_sl ([.ref h0]) ++ List.replicate (1 - (lg_sl ([.ref h0])).length) Slot.unset).toArray = ls at hl ⊢
  have hl : lv_has ls 1 [(0, .ref h0)] := hl
  have h := f_X3_init_e.symm.trans hf
  refine lv_aload_n hx hb dX3_init_0 rfl (lv_at hl 0 rfl) ?_
  refine W.objInit hx hb hown hw0 hw1 hw2 rfl (by rw [hml]; exact hl.1) rfl dX3_init_1 (Nat.le_of_ble_eq_true rfl) (Nat.le_of_ble_eq_true rfl) ?_
  refine W.eq (g2 := F0 m 4 ls []) rfl ?_
  refine lv_aload_n hx hb dX3_init_4 rfl (lv_at hl 0 rfl) ?_
  refine lv_iconst (v := 4) hx hb dX3_init_5 (by decide) ?_
  refine va_newa (atype := .long) (ty := .long) (a0 := (4, .inr (.inl (fun _ => 0)))) hx hb hw3 rfl hK hP hD hS hA (fun _ => rfl) (by decide) (by decide) (Nat.le_of_ble_eq_true rfl) (Nat.le_of_ble_eq_true rfl) (Nat.le_of_ble_eq_true rfl) dX3_init_6 (fun qn0 cA H hK9 hP hD hS => ?_)
  have e9 : cA = cJ := k_cA hK9 2 rfl
  rw [e9] at hP hD
  have hP : va_P (dC, dI) vwCl [(h0, .inr (5, [.null, .long 0, .long 0, .null, .null, .null, .int 0, .null, .null, .int 0, .int 0, .int 0, .int 0, .int 0])), (qn0, .inl (cJ, 4, .inr (.inl (fun _ => 0))))] H := hP
  have hD : va_D A [(h0, .inr (5, [.null, .long 0, .long 0, .null, .null, .null, .int 0, .null, .null, .int 0, .int 0, .int 0, .int 0, .int 0])), (qn0, .inl (cJ, 4, .inr (.inl (fun _ => 0))))] := hD
  refine va_put (D := (dC, dI)) (ci := 5) (v := .ref qn0) (ty := (.array .long)) (C := RX3) (T := TX3) (N := 14) hx hb hts hiX3 tyX3 tyX3_ok nmX3 hown hK hP hD hS 0 rfl rfl 0 (by decide) hw4 (fun _ h9 => h9) rfl (by decide +kernel) rfl rfl (Nat.le_of_ble_eq_true rfl) dX3_init_8 (fun H locs hP hD hS => ?_)
  have hP : va_P (dC, dI) vwCl [(h0, .inr (5, [.ref qn0, .long 0, .long 0, .null, .null, .null, .int 0, .null, .null, .int 0, .int 0, .int 0, .int 0, .int 0])), (qn0, .inl (cJ, 4, .inr (.inl (fun _ => 0))))] H := hP
  have hD : va_D A [(h0, .inr (5, [.ref qn0, .long 0, .long 0, .null, .null, .null, .int 0, .null, .null, .int 0, .int 0, .int 0, .int 0, .int 0])), (qn0, .inl (cJ, 4, .inr (.inl (fun _ => 0))))] := hD
  refine lv_aload_n hx hb dX3_init_11 rfl (lv_at hl 0 rfl) ?_
  refine lv_ldc2 (v := (86400000000000)) hx hb hown hw5 dX3_init_12 ?_
  refine va_put (D := (dC, dI)) (ci := 5) (v := .long 86400000000000) (ty := .long) (C := RX3) (T := TX3) (N := 14) hx hb hts hiX3 tyX3 tyX3_ok nmX3 hown hK hP hD hS 0 rfl rfl 2 (by decide) hw6 (fun _ h9 => h9) rfl (by decide +kernel) rfl rfl (Nat.le_of_ble_eq_true rfl) dX3_init_15 (fun H locs hP hD hS => ?_)
  have hP : va_P (dC, dI) vwCl [(h0, .inr (5, [.ref qn0, .long 0, .long 86400000000000, .null, .null, .null, .int 0, .null, .null, .int 0, .int 0, .int 0, .int 0, .int 0])), (qn0, .inl (cJ, 4, .inr (.inl (fun _ => 0))))] H := hP
  have hD : va_D A [(h0, .inr (5, [.ref qn0, .long 0, .long 86400000000000, .null, .null, .null, .int 0, .null, .null, .int 0, .int 0, .int 0, .int 0, .int 0])), (qn0, .inl (cJ, 4, .inr (.inl (fun _ => 0))))] := hD
  refine lv_aload_n hx hb dX3_init_18 rfl (lv_at hl 0 rfl) ?_
  refine lv_bipush (v := 10) hx hb dX3_init_19 (by decide) ?_
  refine va_newa (atype := .long) (ty := .long) (a0 := (10, .inr (.inl (fun _ => 0)))) hx hb hw3 rfl hK hP hD hS hA (fun _ => rfl) (by decide) (by decide) (Nat.le_of_ble_eq_true rfl) (Nat.le_of_ble_eq_true rfl) (Nat.le_of_ble_eq_true rfl) dX3_init_21 (fun qn1 cA H hK9 hP hD hS => ?_)
  have e9 : cA = cJ := k_cA hK9 2 rfl
  rw [e9] at hP hD
  have hP : va_P (dC, dI) vwCl [(h0, .inr (5, [.ref qn0, .long 0, .long 86400000000000, .null, .null, .null, .int 0, .null, .null, .int 0, .int 0, .int 0, .int 0, .int 0])), (qn0, .inl (cJ, 4, .inr (.inl (fun _ => 0)))), (qn1, .inl (cJ, 10, .inr (.inl (fun _ => 0))))] H := hP
  have hD : va_D A [(h0, .inr (5, [.ref qn0, .long 0, .long 86400000000000, .null, .null, .null, .int 0, .null, .null, .int 0, .int 0, .int 0, .int 0, .int 0])), (qn0, .inl (cJ, 4, .inr (.inl (fun _ => 0)))), (qn1, .inl (cJ, 10, .inr (.inl (fun _ => 0))))] := hD
  refine va_put (D := (dC, dI)) (ci := 5) (v := .ref qn1) (ty := (.array .long)) (C := RX3) (T := TX3) (N := 14) hx hb hts hiX3 tyX3 tyX3_ok nmX3 hown hK hP hD hS 0 rfl rfl 3 (by decide) hw7 (fun _ h9 => h9) rfl (by decide +kernel) rfl rfl (Nat.le_of_ble_eq_true rfl) dX3_init_23 (fun H locs hP hD hS => ?_)
  have hP : va_P (dC, dI) vwCl [(h0, .inr (5, [.ref qn0, .long 0, .long 86400000000000, .ref qn1, .null, .null, .int 0, .null, .null, .int 0, .int 0, .int 0, .int 0, .int 0])), (qn0, .inl (cJ, 4, .inr (.inl (fun _ => 0)))), (qn1, .inl (cJ, 10, .inr (.inl (fun _ => 0))))] H := hP
  have hD : va_D A [(h0, .inr (5, [.ref qn0, .long 0, .long 86400000000000, .ref qn1, .null, .null, .int 0, .null, .null, .int 0, .int 0, .int 0, .int 0, .int 0])), (qn0, .inl (cJ, 4, .inr (.inl (fun _ => 0)))), (qn1, .inl (cJ, 10, .inr (.inl (fun _ => 0))))] := hD
  refine lv_aload_n hx hb dX3_init_26 rfl (lv_at hl 0 rfl) ?_
  refine lv_bipush (v := 10) hx hb dX3_init_27 (by decide) ?_
  refine va_newa (atype := .long) (ty := .long) (a0 := (10, .inr (.inl (fun _ => 0)))) hx hb hw3 rfl hK hP hD hS hA (fun _ => rfl) (by decide) (by decide) (Nat.le_of_ble_eq_true rfl) (Nat.le_of_ble_eq_true rfl) (Nat.le_of_ble_eq_true rfl) dX3_init_29 (fun qn2 cA H hK9 hP hD hS => ?_)
  have e9 : cA = cJ := k_cA hK9 2 rfl
  rw [e9] at hP hD
  have hP : va_P (dC, dI) vwCl [(h0, .inr (5, [.ref qn0, .long 0, .long 86400000000000, .ref qn1, .null, .null, .int 0, .null, .null, .int 0, .int 0, .int 0, .int 0, .int 0])), (qn0, .inl (cJ, 4, .inr (.inl (fun _ => 0)))), (qn1, .inl (cJ, 10, .inr (.inl (fun _ => 0)))), (qn2, .inl (cJ, 10, .inr (.inl (fun _ => 0))))] H := hP
  have hD : va_D A [(h0, .inr (5, [.ref qn0, .long 0, .long 86400000000000, .ref qn1, .null, .null, .int 0, .null, .null, .int 0, .int 0, .int 0, .int 0, .int 0])), (qn0, .inl (cJ, 4, .inr (.inl (fun _ => 0)))), (qn1, .inl (cJ, 10, .inr (.inl (fun _ => 0)))), (qn2, .inl (cJ, 10, .inr (.inl (fun _ => 0))))] := hD
  refine va_put (D := (dC, dI)) (ci := 5) (v := .ref qn2) (ty := (.array .long)) (C := RX3) (T := TX3) (N := 14) hx hb hts hiX3 tyX3 tyX3_ok nmX3 hown hK hP hD hS 0 rfl rfl 4 (by decide) hw8 (fun _ h9 => h9) rfl (by decide +kernel) rfl rfl (Nat.le_of_ble_eq_true rfl) dX3_init_31 (fun H locs hP hD hS => ?_)
  have hP : va_P (dC, dI) vwCl [(h0, .inr (5, [.ref qn0, .long 0, .long 86400000000000, .ref qn1, .ref qn2, .null, .int 0, .null, .null, .int 0, .int 0, .int 0, .int 0, .int 0])), (qn0, .inl (cJ, 4, .inr (.inl (fun _ => 0)))), (qn1, .inl (cJ, 10, .inr (.inl (fun _ => 0)))), (qn2, .inl (cJ, 10, .inr (.inl (fun _ => 0))))] H := hP
  have hD : va_D A [(h0, .inr (5, [.ref qn0, .long 0, .long 86400000000000, .ref qn1, .ref qn2, .null, .int 0, .null, .null, .int 0, .int 0, .int 0, .int 0, .int 0])), (qn0, .inl (cJ, 4, .inr (.inl (fun _ => 0)))), (qn1, .inl (cJ, 10, .inr (.inl (fun _ => 0)))), (qn2, .inl (cJ, 10, .inr (.inl (fun _ => 0))))] := hD
  refine lv_aload_n hx hb dX3_init_34 rfl (lv_at hl 0 rfl) ?_
  refine lv_bipush (v := 10) hx hb dX3_init_35 (by decide) ?_
  refine va_newa (atype := .boolean) (ty := .boolean) (a0 := (10, .inl (fun _ => 0))) hx hb hw9 rfl hK hP hD hS hA (fun _ => rfl) (by decide) (by decide) (Nat.le_of_ble_eq_true rfl) (Nat.le_of_ble_eq_true rfl) (Nat.le_of_ble_eq_true rfl) dX3_init_37 (fun qn3 cA H hK9 hP hD hS => ?_)
  have e9 : cA = cZ := k_cA hK9 3 rfl
  rw [e9] at hP hD
  have hP : va_P (dC, dI) vwCl [(h0, .inr (5, [.ref qn0, .long 0, .long 86400000000000, .ref qn1, .ref qn2, .null, .int 0, .null, .null, .int 0, .int 0, .int 0, .int 0, .int 0])), (qn0, .inl (cJ, 4, .inr (.inl (fun _ => 0)))), (qn1, .inl (cJ, 10, .inr (.inl (fun _ => 0)))), (qn2, .inl (cJ, 10, .inr (.inl (fun _ => 0)))), (qn3, .inl (cZ, 10, .inl (fun _ => 0)))] H := hP
  have hD : va_D A [(h0, .inr (5, [.ref qn0, .long 0, .long 86400000000000, .ref qn1, .ref qn2, .null, .int 0, .null, .null, .int 0, .int 0, .int 0, .int 0, .int 0])), (qn0, .inl (cJ, 4, .inr (.inl (fun _ => 0)))), (qn1, .inl (cJ, 10, .inr (.inl (fun _ => 0)))), (qn2, .inl (cJ, 10, .inr (.inl (fun _ => 0)))), (qn3, .inl (cZ, 10, .inl (fun _ => 0)))] := hD
  refine va_putF (D := (dC, dI)) (ci := 5) (v := .ref qn3) (ty := (.array .boolean)) (C := RX3) (T := TX3) (N := 14) hx hb hts hiX3 tyX3 tyX3_ok nmX3 hown hK hP hD hS 0 rfl rfl 5 (by decide) hw10 (fun _ h9 => h9) rfl hin rfl (by decide +kernel) rfl rfl (Nat.le_of_ble_eq_true rfl) dX3_init_39 (fun H locs hP hD hS => ?_)
  have hP : va_P (dC, dI) vwCl [(h0, .inr (5, [.ref qn0, .long 0, .long 86400000000000, .ref qn1, .ref qn2, .ref qn3, .int 0, .null, .null, .int 0, .int 0, .int 0, .int 0, .int 0])), (qn0, .inl (cJ, 4, .inr (.inl (fun _ => 0)))), (qn1, .inl (cJ, 10, .inr (.inl (fun _ => 0)))), (qn2, .inl (cJ, 10, .inr (.inl (fun _ => 0)))), (qn3, .inl (cZ, 10, .inl (fun _ => 0)))] H := hP
  have hD : va_D A [(h0, .inr (5, [.ref qn0, .long 0, .long 86400000000000, .ref qn1, .ref qn2, .ref qn3, .int 0, .null, .null, .int 0, .int 0, .int 0, .int 0, .int 0])), (qn0, .inl (cJ, 4, .inr (.inl (fun _ => 0)))), (qn1, .inl (cJ, 10, .inr (.inl (fun _ => 0)))), (qn2, .inl (cJ, 10, .inr (.inl (fun _ => 0)))), (qn3, .inl (cZ, 10, .inl (fun _ => 0)))] := hD
  refine lv_aload_n hx hb dX3_init_42 rfl (lv_at hl 0 rfl) ?_
  refine lv_bipush (v := 8) hx hb dX3_init_43 (by decide) ?_
  refine va_newa (atype := .long) (ty := .long) (a0 := (8, .inr (.inl (fun _ => 0)))) hx hb hw3 rfl hK hP hD hS hA (fun _ => rfl) (by decide) (by decide) (Nat.le_of_ble_eq_true rfl) (Nat.le_of_ble_eq_true rfl) (Nat.le_of_ble_eq_true rfl) dX3_init_45 (fun qn4 cA H hK9 hP hD hS => ?_)
  have e9 : cA = cJ := k_cA hK9 2 rfl
  rw [e9] at hP hD
  have hP : va_P (dC, dI) vwCl [(h0, .inr (5, [.ref qn0, .long 0, .long 86400000000000, .ref qn1, .ref qn2, .ref qn3, .int 0, .null, .null, .int 0, .int 0, .int 0, .int 0, .int 0])), (qn0, .inl (cJ, 4, .inr (.inl (fun _ => 0)))), (qn1, .inl (cJ, 10, .inr (.inl (fun _ => 0)))), (qn2, .inl (cJ, 10, .inr (.inl (fun _ => 0)))), (qn3, .inl (cZ, 10, .inl (fun _ => 0))), (qn4, .inl (cJ, 8, .inr (.inl (fun _ => 0))))] H := hP
  have hD : va_D A [(h0, .inr (5, [.ref qn0, .long 0, .long 86400000000000, .ref qn1, .ref qn2, .ref qn3, .int 0, .null, .null, .int 0, .int 0, .int 0, .int 0, .int 0])), (qn0, .inl (cJ, 4, .inr (.inl (fun _ => 0)))), (qn1, .inl (cJ, 10, .inr (.inl (fun _ => 0)))), (qn2, .inl (cJ, 10, .inr (.inl (fun _ => 0)))), (qn3, .inl (cZ, 10, .inl (fun _ => 0))), (qn4, .inl (cJ, 8, .inr (.inl (fun _ => 0))))] := hD
  refine va_put (D := (dC, dI)) (ci := 5) (v := .ref qn4) (ty := (.array .long)) (C := RX3) (T := TX3) (N := 14) hx hb hts hiX3 tyX3 tyX3_ok nmX3 hown hK hP hD hS 0 rfl rfl 7 (by decide) hw11 (fun _ h9 => h9) rfl (by decide +kernel) rfl rfl (Nat.le_of_ble_eq_true rfl) dX3_init_47 (fun H locs hP hD hS => ?_)
  have hP : va_P (dC, dI) vwCl [(h0, .inr (5, [.ref qn0, .long 0, .long 86400000000000, .ref qn1, .ref qn2, .ref qn3, .int 0, .ref qn4, .null, .int 0, .int 0, .int 0, .int 0, .int 0])), (qn0, .inl (cJ, 4, .inr (.inl (fun _ => 0)))), (qn1, .inl (cJ, 10, .inr (.inl (fun _ => 0)))), (qn2, .inl (cJ, 10, .inr (.inl (fun _ => 0)))), (qn3, .inl (cZ, 10, .inl (fun _ => 0))), (qn4, .inl (cJ, 8, .inr (.inl (fun _ => 0))))] H := hP
  have hD : va_D A [(h0, .inr (5, [.ref qn0, .long 0, .long 86400000000000, .ref qn1, .ref qn2, .ref qn3, .int 0, .ref qn4, .null, .int 0, .int 0, .int 0, .int 0, .int 0])), (qn0, .inl (cJ, 4, .inr (.inl (fun _ => 0)))), (qn1, .inl (cJ, 10, .inr (.inl (fun _ => 0)))), (qn2, .inl (cJ, 10, .inr (.inl (fun _ => 0)))), (qn3, .inl (cZ, 10, .inl (fun _ => 0))), (qn4, .inl (cJ, 8, .inr (.inl (fun _ => 0))))] := hD
  refine lv_aload_n hx hb dX3_init_50 rfl (lv_at hl 0 rfl) ?_
  refine lv_bipush (v := 8) hx hb dX3_init_51 (by decide) ?_
  refine va_newa (atype := .long) (ty := .long) (a0 := (8, .inr (.inl (fun _ => 0)))) hx hb hw3 rfl hK hP hD hS hA (fun _ => rfl) (by decide) (by decide) (Nat.le_of_ble_eq_true rfl) (Nat.le_of_ble_eq_true rfl) (Nat.le_of_ble_eq_true rfl) dX3_init_53 (fun qn5 cA H hK9 hP hD hS => ?_)
  have e9 : cA = cJ := k_cA hK9 2 rfl
  rw [e9] at hP hD
  have hP : va_P (dC, dI) vwCl [(h0, .inr (5, [.ref qn0, .long 0, .long 86400000000000, .ref qn1, .ref qn2, .ref qn3, .int 0, .ref qn4, .null, .int 0, .int 0, .int 0, .int 0, .int 0])), (qn0, .inl (cJ, 4, .inr (.inl (fun _ => 0)))), (qn1, .inl (cJ, 10, .inr (.inl (fun _ => 0)))), (qn2, .inl (cJ, 10, .inr (.inl (fun _ => 0)))), (qn3, .inl (cZ, 10, .inl (fun _ => 0))), (qn4, .inl (cJ, 8, .inr (.inl (fun _ => 0)))), (qn5, .inl (cJ, 8, .inr (.inl (fun _ => 0))))] H := hP
  have hD : va_D A [(h0, .inr (5, [.ref qn0, .long 0, .long 86400000000000, .ref qn1, .ref qn2, .ref qn3, .int 0, .ref qn4, .null, .int 0, .int 0, .int 0, .int 0, .int 0])), (qn0, .inl (cJ, 4, .inr (.inl (fun _ => 0)))), (qn1, .inl (cJ, 10, .inr (.inl (fun _ => 0)))), (qn2, .inl (cJ, 10, .inr (.inl (fun _ => 0)))), (qn3, .inl (cZ, 10, .inl (fun _ => 0))), (qn4, .inl (cJ, 8, .inr (.inl (fun _ => 0)))), (qn5, .inl (cJ, 8, .inr (.inl (fun _ => 0))))] := hD
  refine va_put (D := (dC, dI)) (ci := 5) (v := .ref qn5) (ty := (.array .long)) (C := RX3) (T := TX3) (N := 14) hx hb hts hiX3 tyX3 tyX3_ok nmX3 hown hK hP hD hS 0 rfl rfl 8 (by decide) hw12 (fun _ h9 => h9) rfl (by decide +kernel) rfl rfl (Nat.le_of_ble_eq_true rfl) dX3_init_55 (fun H locs hP hD hS => ?_)
  have hP : va_P (dC, dI) vwCl [(h0, .inr (5, [.ref qn0, .long 0, .long 86400000000000, .ref qn1, .ref qn2, .ref qn3, .int 0, .ref qn4, .ref qn5, .int 0, .int 0, .int 0, .int 0, .int 0])), (qn0, .inl (cJ, 4, .inr (.inl (fun _ => 0)))), (qn1, .inl (cJ, 10, .inr (.inl (fun _ => 0)))), (qn2, .inl (cJ, 10, .inr (.inl (fun _ => 0)))), (qn3, .inl (cZ, 10, .inl (fun _ => 0))), (qn4, .inl (cJ, 8, .inr (.inl (fun _ => 0)))), (qn5, .inl (cJ, 8, .inr (.inl (fun _ => 0))))] H := hP
  have hD : va_D A [(h0, .inr (5, [.ref qn0, .long 0, .long 86400000000000, .ref qn1, .ref qn2, .ref qn3, .int 0, .ref qn4, .ref qn5, .int 0, .int 0, .int 0, .int 0, .int 0])), (qn0, .inl (cJ, 4, .inr (.inl (fun _ => 0)))), (qn1, .inl (cJ, 10, .inr (.inl (fun _ => 0)))), (qn2, .inl (cJ, 10, .inr (.inl (fun _ => 0)))), (qn3, .inl (cZ, 10, .inl (fun _ => 0))), (qn4, .inl (cJ, 8, .inr (.inl (fun _ => 0)))), (qn5, .inl (cJ, 8, .inr (.inl (fun _ => 0))))] := hD
  have hP := hP.sub (ws' := (wMo cJ cZ (kcons h0 (kcons qn0 (kcons qn1 (kcons qn2 (kcons qn3 (kcons qn4 (kcons qn5 (fun _ => 0)))))))) (fun _ => 0) 0 86400000000000 (fun _ => 0) (fun _ => 0) (fun _ => 0) 0 (fun _ => 0) (fun _ => 0) 0 0 0 0 0)) [0, 1, 2, 3, 4, 5, 6] rfl
  have hD := hD.sub (ws' := (wMo cJ cZ (kcons h0 (kcons qn0 (kcons qn1 (kcons qn2 (kcons qn3 (kcons qn4 (kcons qn5 (fun _ => 0)))))))) (fun _ => 0) 0 86400000000000 (fun _ => 0) (fun _ => 0) (fun _ => 0) 0 (fun _ => 0) (fun _ => 0) 0 0 0 0 0)) [0, 1, 2, 3, 4, 5, 6] (by decide) rfl
  have h := Option.some.inj h
  subst h
  refine W.widen (k := 6) (n := 50) (Nat.le_of_ble_eq_true rfl) (Nat.le_of_ble_eq_true rfl) ?_
  exact kret_vu (u := (kcons qn0 (kcons qn1 (kcons qn2 (kcons qn3 (kcons qn4 (kcons qn5 (fun _ => 0)))))))) hx hb hr hlocks hS hP hD dX3_init_58
