noncomputable def flaw_998 (L : Nat) (xs : Nat → Int32) (K : kFT) (ce : Nat → Int64) (fr : Int64) (un : Int64) (sb : Nat → Int64) (se : Nat → Int64) (so : Nat → Int32) (sc : Int32) (wb : Nat → Int64) (we : Nat → Int64) (wo : Nat → Int32) (wc : Int32) (fb : Nat → Int64) (fe : Nat → Int64) (fo : Nat → Int32) (fc : Int32) (rm : Nat → Int32) (ac : Int32) (rf : Int32) (kn : Int32) (mce : Nat → Int64) (mfr : Int64) (mun : Int64) (mbe : Nat → Int64) (men : Nat → Int64) (mov : Nat → Int32) (msp : Int32) (mwb : Nat → Int64) (mwe : Nat → Int64) (mwi : Int32) (mac : Int32) (mre : Int32) (mkn : Int32) (mth : Int32) (on : Int64) (x4 : Int32) : Option Int32 :=
  if ix (x4 + 1) L then
    (f_L_second ce on (xs (x4 + 1).toNatClampNeg)).bind fun r2 =>
    (f_X3_second mce (xs (x4 + 1).toNatClampNeg)).bind fun r3 =>
    K ce fr un sb se so sc wb we wo wc fb fe fo fc rm ac rf kn mce mfr mun mbe men mov msp mwb mwe mwi mac mre mkn r3.2 r2.2 x4
  else none
theorem flaw_998_e {L : Nat} {xs : Nat → Int32} {K : kFT} (ce : Nat → Int64) (fr : Int64) (un : Int64) (sb : Nat → Int64) (se : Nat → Int64) (so : Nat → Int32) (sc : Int32) (wb : Nat → Int64) (we : Nat → Int64) (wo : Nat → Int32) (wc : Int32) (fb : Nat → Int64) (fe : Nat → Int64) (fo : Nat → Int32) (fc : Int32) (rm : Nat → Int32) (ac : Int32) (rf : Int32) (kn : Int32) (mce : Nat → Int64) (mfr : Int64) (mun : Int64) (mbe : Nat → Int64) (men : Nat → Int64) (mov : Nat → Int32) (msp : Int32) (mwb : Nat → Int64) (mwe : Nat → Int64) (mwi : Int32) (mac : Int32) (mre : Int32) (mkn : Int32) (mth : Int32) (on : Int64) (x4 : Int32) : flaw_998 L xs K ce fr un sb se so sc wb we wo wc fb fe fo fc rm ac rf kn mce mfr mun mbe men mov msp mwb mwe mwi mac mre mkn mth on x4 =
  if ix (x4 + 1) L then
    (f_L_second ce on (xs (x4 + 1).toNatClampNeg)).bind fun r2 =>
    (f_X3_second mce (xs (x4 + 1).toNatClampNeg)).bind fun r3 =>
    K ce fr un sb se so sc wb we wo wc fb fe fo fc rm ac rf kn mce mfr mun mbe men mov msp mwb mwe mwi mac mre mkn r3.2 r2.2 x4
  else none := rfl
set_option maxHeartbeats 8000000 in
set_option maxRecDepth 100000 in
theorem law_16 {p : Program} {l : Launch} {e : Env} {s : State} {m : MethodId} {below : List Frame} {meth : Method} {c : Code} {dC : Nat → ClassId} {dI : Nat → Nat → Nat} {cB cI cJ cZ : ClassId} {b9 L : Nat} {xs : Nat → Int32} {A : Nat → Prop} (hl9 : l.stackTraces = false) (C0 : kLw p s m c b9 L xs A) (hK : va_K (dC, dI) vwCl (kTy cB cI cJ cZ) s) {a : Nat → Nat} {o : Nat} (K : kFT) (bK sK : Nat) (hK9 : kGo p l e s m below meth c dC dI cB cI cJ cZ b9 A a o 1873 bK sK K) : kGo p l e s m below meth c dC dI cB cI cJ cZ b9 A a o 998 (1 + bK) (6 + sK) (flaw_998 L xs K) := by
  obtain ⟨hx, hb, hml, hown, hts, hX, hbl, hA, hbA, hG, hZ⟩ := C0
  intro ce fr un sb se so sc wb we wo wc fb fe fo fc rm ac rf kn mce mfr mun mbe men mov msp mwb mwe mwi mac mre mkn mth on ov x4 b H locs kc ks hkc hks hP hD hS ls hl h
  have h := (flaw_998_e ce fr un sb se so sc wb we wo wc fb fe fo fc rm ac rf kn mce mfr mun mbe men mov msp mwb mwe mwi mac mre mkn mth on x4).symm.trans h
  refine lv_aload_n hx hb (kdr dgL_law_971 1 7 rfl rfl) rfl (lv_at hl 1 rfl) ?_
  obtain ⟨z0, h⟩ := g_if h
  refine kld (v := 1) hx hb (kdr dgL_law_971 1 8 rfl rfl) rfl (lv_at hl 0 rfl) (kdr dgL_law_971 1 9 rfl rfl) (lv_at hl 4 rfl) (kdr dgL_law_971 2 0 rfl rfl) (by decide) (kdr dgL_law_971 2 1 rfl rfl) hX hbl hbA hS (ix_in z0) (kdr dgL_law_971 2 2 rfl rfl) ?_
  refine lv_aload_n hx hb (kdr dgL_law_971 2 3 rfl rfl) rfl (lv_at hl 3 rfl) ?_
  obtain ⟨r2, g2, h⟩ := g_b h
  refine kq_i ((wSB cI cJ cZ a ce fr un sb se so sc wb we wo wc fb fe fo fc rm ac rf kn) ++ (wMo cJ cZ b mce mfr mun mbe men mov msp mwb mwe mwi mac mre mkn mth) ++ (wO o r2.2 ov)) (fun qP qD qF => vx_runSW (As := [.ref (a 0), .int (xs (x4 + 1).toNatClampNeg), .ref o]) (rest := []) ⟨hx, hb, hml, hown, hts⟩ (c_L_second l hl9 dC dI cB cI cJ cZ a o _ ce fr un sb se so sc wb we wo wc fb fe fo fc rm ac rf kn on ov (xs (x4 + 1).toNatClampNeg) r2 g2) (kcwSW hts kw_661 kv_L_second rfl rfl ⟨(Nat.le_of_ble_eq_true rfl), (Nat.le_of_ble_eq_true rfl)⟩) (kpSXq (A := A) qP hK qD hG hZ hS qF) rfl rfl hl.1 rfl (lv_room (Nat.le_of_ble_eq_true rfl)) (kdr dgL_law_971 2 4 rfl rfl) ⟨by show _ ≤ (600128 : Nat); omega, by show _ ≤ (7301098 : Nat); omega⟩) hP hD hS hA (kFr_2 (kFr_l kFr_SB) kFr_o) (fun H locs hP hD hS br2 => ?_)
  refine lv_istore (lv' := (kvI 5 r2.1 (kvA 0 b9 (kvA 1 (a 0) (kvA 2 (b 0) (kvA 3 o (kvI 4 x4 kvE))))))) hx hb (kdr dgL_law_971 2 5 rfl rfl) hl (by decide) rfl (fun ls hl => ?_)
  refine lv_aload_n hx hb (kdr dgL_law_971 2 6 rfl rfl) rfl (lv_at hl 3 rfl) ?_
  refine kld (v := 1) hx hb (kdr dgL_law_971 2 7 rfl rfl) rfl (lv_at hl 1 rfl) (kdr dgL_law_971 2 8 rfl rfl) (lv_at hl 5 rfl) (kdr dgL_law_971 2 9 rfl rfl) (by decide) (kdr dgL_law_971 3 0 rfl rfl) hX hbl hbA hS (ix_in z0) (kdr dgL_law_971 3 1 rfl rfl) ?_
  obtain ⟨r3, g3, h⟩ := g_b h
  refine kq_i ((wSB cI cJ cZ a ce fr un sb se so sc wb we wo wc fb fe fo fc rm ac rf kn) ++ (wMo cJ cZ b mce mfr mun mbe men mov msp mwb mwe mwi mac mre mkn r3.2) ++ (wO o r2.2 ov)) (fun qP qD qF => va_runV (As := [.int (xs (x4 + 1).toNatClampNeg)]) (rest := []) ⟨hx, hb, hml, hown, hts⟩ (c_X3_second l dC dI cB cI cJ cZ b _ mce mfr mun mbe men mov msp mwb mwe mwi mac mre mkn mth (xs (x4 + 1).toNatClampNeg) r3 g3) (kcwV hts kw_1271 kv_X3_second rfl rfl ⟨(Nat.le_of_ble_eq_true rfl), (Nat.le_of_ble_eq_true rfl)⟩) (kpV (A := A) qP hK qD hG (krecv_5 (q0 := 15) hK hP rfl)) rfl rfl hl.1 rfl (lv_room (Nat.le_of_ble_eq_true rfl)) (kdr dgL_law_971 3 2 rfl rfl) ⟨by show _ ≤ (600128 : Nat); omega, by show _ ≤ (7301098 : Nat); omega⟩) hP hD hS hA (kFr_l (kFr_r kFr_Mo)) (fun H locs hP hD hS br3 => ?_)
  refine lv_istore (lv' := (kvI 6 r3.1 (kvI 5 r2.1 (kvA 0 b9 (kvA 1 (a 0) (kvA 2 (b 0) (kvA 3 o (kvI 4 x4 kvE)))))))) hx hb (kdr dgL_law_971 3 3 rfl rfl) hl (by decide) rfl (fun ls hl => ?_)
  refine lv_goto (tgt := 1873) hx hb (kdr dgL_law_971 3 4 rfl rfl) (by decide) ?_
  exact hK9 ce fr un sb se so sc wb we wo wc fb fe fo fc rm ac rf kn mce mfr mun mbe men mov msp mwb mwe mwi mac mre mkn r3.2 r2.2 ov x4 b _ _ _ _ (by omega) (by omega) hP hD hS ls (lv_sub hl [2, 3, 4, 5, 6] rfl) h
noncomputable def flaw_1026 (L : Nat) (xs : Nat → Int32) (K : kFT) (ce : Nat → Int64) (fr : Int64) (un : Int64) (sb : Nat → Int64) (se : Nat → Int64) (so : Nat → Int32) (sc : Int32) (wb : Nat → Int64) (we : Nat → Int64) (wo : Nat → Int32) (wc : Int32) (fb : Nat → Int64) (fe : Nat → Int64) (fo : Nat → Int32) (fc : Int32) (rm : Nat → Int32) (ac : Int32) (rf : Int32) (kn : Int32) (mce : Nat → Int64) (mfr : Int64) (mun : Int64) (mbe : Nat → Int64) (men : Nat → Int64) (mov : Nat → Int32) (msp : Int32) (mwb : Nat → Int64) (mwe : Nat → Int64) (mwi : Int32) (mac : Int32) (mre : Int32) (mkn : Int32) (mth : Int32) (on : Int64) (x4 : Int32) : Option Int32 :=
  if ix (x4 + 1) L then
    (f_L_nano ce on (xs (x4 + 1).toNatClampNeg)).bind fun r2 =>
    (f_X3_nano mce (xs (x4 + 1).toNatClampNeg)).bind fun r3 =>
    K ce fr un sb se so sc wb we wo wc fb fe fo fc rm ac rf kn mce mfr mun mbe men mov msp mwb mwe mwi mac mre mkn r3.2 r2.2 x4
  else none
theorem flaw_1026_e {L : Nat} {xs : Nat → Int32} {K : kFT} (ce : Nat → Int64) (fr : Int64) (un : Int64) (sb : Nat → Int64) (se : Nat → Int64) (so : Nat → Int32) (sc : Int32) (wb : Nat → Int64) (we : Nat → Int64) (wo : Nat → Int32) (wc : Int32) (fb : Nat → Int64) (fe : Nat → Int64) (fo : Nat → Int32) (fc : Int32) (rm : Nat → Int32) (ac : Int32) (rf : Int32) (kn : Int32) (mce : Nat → Int64) (mfr : Int64) (mun : Int64) (mbe : Nat → Int64) (men : Nat → Int64) (mov : Nat → Int32) (msp : Int32) (mwb : Nat → Int64) (mwe : Nat → Int64) (mwi : Int32) (mac : Int32) (mre : Int32) (mkn : Int32) (mth : Int32) (on : Int64) (x4 : Int32) : flaw_1026 L xs K ce fr un sb se so sc wb we wo wc fb fe fo fc rm ac rf kn mce mfr mun mbe men mov msp mwb mwe mwi mac mre mkn mth on x4 =
  if ix (x4 + 1) L then
    (f_L_nano ce on (xs (x4 + 1).toNatClampNeg)).bind fun r2 =>
    (f_X3_nano mce (xs (x4 + 1).toNatClampNeg)).bind fun r3 =>
    K ce fr un sb se so sc wb we wo wc fb fe fo fc rm ac rf kn mce mfr mun mbe men mov msp mwb mwe mwi mac mre mkn r3.2 r2.2 x4
  else none := rfl
set_option maxHeartbeats 8000000 in
set_option maxRecDepth 100000 in
theorem law_17 {p : Program} {l : Launch} {e : Env} {s : State} {m : MethodId} {below : List Frame} {meth : Method} {c : Code} {dC : Nat → ClassId} {dI : Nat → Nat → Nat} {cB cI cJ cZ : ClassId} {b9 L : Nat} {xs : Nat → Int32} {A : Nat → Prop} (hl9 : l.stackTraces = false) (C0 : kLw p s m c b9 L xs A) (hK : va_K (dC, dI) vwCl (kTy cB cI cJ cZ) s) {a : Nat → Nat} {o : Nat} (K : kFT) (bK sK : Nat) (hK9 : kGo p l e s m below meth c dC dI cB cI cJ cZ b9 A a o 1873 bK sK K) : kGo p l e s m below meth c dC dI cB cI cJ cZ b9 A a o 1026 (1 + bK) (6 + sK) (flaw_1026 L xs K) := by
  obtain ⟨hx, hb, hml, hown, hts, hX, hbl, hA, hbA, hG, hZ⟩ := C0
  intro ce fr un sb se so sc wb we wo wc fb fe fo fc rm ac rf kn mce mfr mun mbe men mov msp mwb mwe mwi mac mre mkn mth on ov x4 b H locs kc ks hkc hks hP hD hS ls hl h
  have h := (flaw_1026_e ce fr un sb se so sc wb we wo wc fb fe fo fc rm ac rf kn mce mfr mun mbe men mov msp mwb mwe mwi mac mre mkn mth on x4).symm.trans h
  refine lv_aload_n hx hb (kdr dgL_law_971 3 5 rfl rfl) rfl (lv_at hl 1 rfl) ?_
  obtain ⟨z0, h⟩ := g_if h
  refine kld (v := 1) hx hb (kdr dgL_law_971 3 6 rfl rfl) rfl (lv_at hl 0 rfl) (kdr dgL_law_971 3 7 rfl rfl) (lv_at hl 4 rfl) (kdr dgL_law_971 3 8 rfl rfl) (by decide) (kdr dgL_law_971 3 9 rfl rfl) hX hbl hbA hS (ix_in z0) (kdr dgL_law_971 4 0 rfl rfl) ?_
  refine lv_aload_n hx hb (kdr dgL_law_971 4 1 rfl rfl) rfl (lv_at hl 3 rfl) ?_
  obtain ⟨r2, g2, h⟩ := g_b h
  refine kq_i ((wSB cI cJ cZ a ce fr un sb se so sc wb we wo wc fb fe fo fc rm ac rf kn) ++ (wMo cJ cZ b mce mfr mun mbe men mov msp mwb mwe mwi mac mre mkn mth) ++ (wO o r2.2 ov)) (fun qP qD qF => vx_runSW (As := [.ref (a 0), .int (xs (x4 + 1).toNatClampNeg), .ref o]) (rest := []) ⟨hx, hb, hml, hown, hts⟩ (c_L_nano l hl9 dC dI cB cI cJ cZ a o _ ce fr un sb se so sc wb we wo wc fb fe fo fc rm ac rf kn on ov (xs (x4 + 1).toNatClampNeg) r2 g2) (kcwSW hts kw_668 kv_L_nano rfl rfl ⟨(Nat.le_of_ble_eq_true rfl), (Nat.le_of_ble_eq_true rfl)⟩) (kpSXq (A := A) qP hK qD hG hZ hS qF) rfl rfl hl.1 rfl (lv_room (Nat.le_of_ble_eq_true rfl)) (kdr dgL_law_971 4 2 rfl rfl) ⟨by show _ ≤ (600128 : Nat); omega, by show _ ≤ (7301098 : Nat); omega⟩) hP hD hS hA (kFr_2 (kFr_l kFr_SB) kFr_o) (fun H locs hP hD hS br2 => ?_)
  refine lv_istore (lv' := (kvI 5 r2.1 (kvA 0 b9 (kvA 1 (a 0) (kvA 2 (b 0) (kvA 3 o (kvI 4 x4 kvE))))))) hx hb (kdr dgL_law_971 4 3 rfl rfl) hl (by decide) rfl (fun ls hl => ?_)
  refine lv_aload_n hx hb (kdr dgL_law_971 4 4 rfl rfl) rfl (lv_at hl 3 rfl) ?_
  refine kld (v := 1) hx hb (kdr dgL_law_971 4 5 rfl rfl) rfl (lv_at hl 1 rfl) (kdr dgL_law_971 4 6 rfl rfl) (lv_at hl 5 rfl) (kdr dgL_law_971 4 7 rfl rfl) (by decide) (kdr dgL_law_971 4 8 rfl rfl) hX hbl hbA hS (ix_in z0) (kdr dgL_law_971 4 9 rfl rfl) ?_
  obtain ⟨r3, g3, h⟩ := g_b h
  refine kq_i ((wSB cI cJ cZ a ce fr un sb se so sc wb we wo wc fb fe fo fc rm ac rf kn) ++ (wMo cJ cZ b mce mfr mun mbe men mov msp mwb mwe mwi mac mre mkn r3.2) ++ (wO o r2.2 ov)) (fun qP qD qF => va_runV (As := [.int (xs (x4 + 1).toNatClampNeg)]) (rest := []) ⟨hx, hb, hml, hown, hts⟩ (c_X3_nano l dC dI cB cI cJ cZ b _ mce mfr mun mbe men mov msp mwb mwe mwi mac mre mkn mth (xs (x4 + 1).toNatClampNeg) r3 g3) (kcwV hts kw_1275 kv_X3_nano rfl rfl ⟨(Nat.le_of_ble_eq_true rfl), (Nat.le_of_ble_eq_true rfl)⟩) (kpV (A := A) qP hK qD hG (krecv_5 (q0 := 15) hK hP rfl)) rfl rfl hl.1 rfl (lv_room (Nat.le_of_ble_eq_true rfl)) (kdr dgL_law_971 5 0 rfl rfl) ⟨by show _ ≤ (600128 : Nat); omega, by show _ ≤ (7301098 : Nat); omega⟩) hP hD hS hA (kFr_l (kFr_r kFr_Mo)) (fun H locs hP hD hS br3 => ?_)
  refine lv_istore (lv' := (kvI 6 r3.1 (kvI 5 r2.1 (kvA 0 b9 (kvA 1 (a 0) (kvA 2 (b 0) (kvA 3 o (kvI 4 x4 kvE)))))))) hx hb (kdr dgL_law_971 5 1 rfl rfl) hl (by decide) rfl (fun ls hl => ?_)
  refine lv_goto (tgt := 1873) hx hb (kdr dgL_law_971 5 2 rfl rfl) (by decide) ?_
  exact hK9 ce fr un sb se so sc wb we wo wc fb fe fo fc rm ac rf kn mce mfr mun mbe men mov msp mwb mwe mwi mac mre mkn r3.2 r2.2 ov x4 b _ _ _ _ (by omega) (by omega) hP hD hS ls (lv_sub hl [2, 3, 4, 5, 6] rfl) h
noncomputable def flaw_1054 (L : Nat) (xs : Nat → Int32) (K : kFT) (ce : Nat → Int64) (fr : Int64) (un : Int64) (sb : Nat → Int64) (se : Nat → Int64) (so : Nat → Int32) (sc : Int32) (wb : Nat → Int64) (we : Nat → Int64) (wo : Nat → Int32) (wc : Int32) (fb : Nat → Int64) (fe : Nat → Int64) (fo : Nat → Int32) (fc : Int32) (rm : Nat → Int32) (ac : Int32) (rf : Int32) (kn : Int32) (mce : Nat → Int64) (mfr : Int64) (mun : Int64) (mbe : Nat → Int64) (men : Nat → Int64) (mov : Nat → Int32) (msp : Int32) (mwb : Nat → Int64) (mwe : Nat → Int64) (mwi : Int32) (mac : Int32) (mre : Int32) (mkn : Int32) (mth : Int32) (on : Int64) (x4 : Int32) : Option Int32 :=
  if ix (x4 + 1) L then
    (f_L_text ce (xs (x4 + 1).toNatClampNeg)).bind fun r2 =>
    (f_X3_text mce (xs (x4 + 1).toNatClampNeg)).bind fun r3 =>
    K ce fr un sb se so sc wb we wo wc fb fe fo fc rm ac rf kn mce mfr mun mbe men mov msp mwb mwe mwi mac mre mkn r3 on x4
  else none
theorem flaw_1054_e {L : Nat} {xs : Nat → Int32} {K : kFT} (ce : Nat → Int64) (fr : Int64) (un : Int64) (sb : Nat → Int64) (se : Nat → Int64) (so : Nat → Int32) (sc : Int32) (wb : Nat → Int64) (we : Nat → Int64) (wo : Nat → Int32) (wc : Int32) (fb : Nat → Int64) (fe : Nat → Int64) (fo : Nat → Int32) (fc : Int32) (rm : Nat → Int32) (ac : Int32) (rf : Int32) (kn : Int32) (mce : Nat → Int64) (mfr : Int64) (mun : Int64) (mbe : Nat → Int64) (men : Nat → Int64) (mov : Nat → Int32) (msp : Int32) (mwb : Nat → Int64) (mwe : Nat → Int64) (mwi : Int32) (mac : Int32) (mre : Int32) (mkn : Int32) (mth : Int32) (on : Int64) (x4 : Int32) : flaw_1054 L xs K ce fr un sb se so sc wb we wo wc fb fe fo fc rm ac rf kn mce mfr mun mbe men mov msp mwb mwe mwi mac mre mkn mth on x4 =
  if ix (x4 + 1) L then
    (f_L_text ce (xs (x4 + 1).toNatClampNeg)).bind fun r2 =>
    (f_X3_text mce (xs (x4 + 1).toNatClampNeg)).bind fun r3 =>
    K ce fr un sb se so sc wb we wo wc fb fe fo fc rm ac rf kn mce mfr mun mbe men mov msp mwb mwe mwi mac mre mkn r3 on x4
  else none := rfl
set_option maxHeartbeats 8000000 in
set_option maxRecDepth 100000 in
theorem law_18 {p : Program} {l : Launch} {e : Env} {s : State} {m : MethodId} {below : List Frame} {meth : Method} {c : Code} {dC : Nat → ClassId} {dI : Nat → Nat → Nat} {cB cI cJ cZ : ClassId} {b9 L : Nat} {xs : Nat → Int32} {A : Nat → Prop} (hl9 : l.stackTraces = false) (C0 : kLw p s m c b9 L xs A) (hK : va_K (dC, dI) vwCl (kTy cB cI cJ cZ) s) {a : Nat → Nat} {o : Nat} (K : kFT) (bK sK : Nat) (hK9 : kGo p l e s m below meth c dC dI cB cI cJ cZ b9 A a o 1873 bK sK K) : kGo p l e s m below meth c dC dI cB cI cJ cZ b9 A a o 1054 (14 + bK) (560 + sK) (flaw_1054 L xs K) := by
  obtain ⟨hx, hb, hml, hown, hts, hX, hbl, hA, hbA, hG, hZ⟩ := C0
  intro ce fr un sb se so sc wb we wo wc fb fe fo fc rm ac rf kn mce mfr mun mbe men mov msp mwb mwe mwi mac mre mkn mth on ov x4 b H locs kc ks hkc hks hP hD hS ls hl h
  have h := (flaw_1054_e ce fr un sb se so sc wb we wo wc fb fe fo fc rm ac rf kn mce mfr mun mbe men mov msp mwb mwe mwi mac mre mkn mth on x4).symm.trans h
  refine lv_aload_n hx hb (kdr dgL_law_971 5 3 rfl rfl) rfl (lv_at hl 1 rfl) ?_
  obtain ⟨z0, h⟩ := g_if h
  refine kld (v := 1) hx hb (kdr dgL_law_971 5 4 rfl rfl) rfl (lv_at hl 0 rfl) (kdr dgL_law_971 5 5 rfl rfl) (lv_at hl 4 rfl) (kdr dgL_law_971 5 6 rfl rfl) (by decide) (kdr dgL_law_971 5 7 rfl rfl) hX hbl hbA hS (ix_in z0) (kdr dgL_law_971 5 8 rfl rfl) ?_
  refine lv_aload_n hx hb (kdr dgL_law_971 5 9 rfl rfl) rfl (lv_at hl 3 rfl) ?_
  obtain ⟨r2, g2, h⟩ := g_b h
  refine kcall_iw (fun wv2 => ((wSB cI cJ cZ a ce fr un sb se so sc wb we wo wc fb fe fo fc rm ac rf kn) ++ (wMo cJ cZ b mce mfr mun mbe men mov msp mwb mwe mwi mac mre mkn mth) ++ (wO o on wv2))) (vx_runSW (As := [.ref (a 0), .int (xs (x4 + 1).toNatClampNeg), .ref o]) (rest := []) ⟨hx, hb, hml, hown, hts⟩ (c_L_text l hl9 dC dI cB cI cJ cZ a o _ ce fr un sb se so sc wb we wo wc fb fe fo fc rm ac rf kn on ov (xs (x4 + 1).toNatClampNeg) r2 g2) (kcwSW hts kw_675 kv_L_text rfl rfl ⟨(Nat.le_of_ble_eq_true rfl), (Nat.le_of_ble_eq_true rfl)⟩) (kpSX (A := A) (hP.sub [0, 1, 2, 3, 4, 5, 6, 7, 8, 9, 10, 11, 12, 13, 14, 22] rfl) hK (hD.sub [0, 1, 2, 3, 4, 5, 6, 7, 8, 9, 10, 11, 12, 13, 14, 22] (by decide) rfl) hG hZ hS hD hA [0, 1, 2, 3, 4, 5, 6, 7, 8, 9, 10, 11, 12, 13, 14, 22] rfl) rfl rfl hl.1 rfl (lv_room (Nat.le_of_ble_eq_true rfl)) (kdr dgL_law_971 6 0 rfl rfl) ⟨by show _ ≤ (600128 : Nat); omega, by show _ ≤ (7301098 : Nat); omega⟩) hP hD hS hA [0, 1, 2, 3, 4, 5, 6, 7, 8, 9, 10, 11, 12, 13, 14, 22] [15, 16, 17, 18, 19, 20, 21] rfl (fun _ => rfl) [((b 0), .inr (5, [.ref (b 1), .long mfr, .long mun, .ref (b 2), .ref (b 3), .ref (b 4), .int msp, .ref (b 5), .ref (b 6), .int mwi, .int mac, .int mre, .int mkn, .int mth])), ((b 1), .inl (cJ, 4, .inr (.inl mce))), ((b 2), .inl (cJ, 10, .inr (.inl mbe))), ((b 3), .inl (cJ, 10, .inr (.inl men))), ((b 4), .inl (cZ, 10, .inl mov)), ((b 5), .inl (cJ, 8, .inr (.inl mwb))), ((b 6), .inl (cJ, 8, .inr (.inl mwe)))] rfl (fun _ => rfl) (fun _ => rfl) (by decide) (fun _ => rfl) (fun wv2 H locs hP hD hS br2 => ?_)
  refine lv_istore (lv' := (kvI 5 r2 (kvA 0 b9 (kvA 1 (a 0) (kvA 2 (b 0) (kvA 3 o (kvI 4 x4 kvE))))))) hx hb (kdr dgL_law_971 6 1 rfl rfl) hl (by decide) rfl (fun ls hl => ?_)
  refine lv_aload_n hx hb (kdr dgL_law_971 6 2 rfl rfl) rfl (lv_at hl 3 rfl) ?_
  refine kld (v := 1) hx hb (kdr dgL_law_971 6 3 rfl rfl) rfl (lv_at hl 1 rfl) (kdr dgL_law_971 6 4 rfl rfl) (lv_at hl 5 rfl) (kdr dgL_law_971 6 5 rfl rfl) (by decide) (kdr dgL_law_971 6 6 rfl rfl) hX hbl hbA hS (ix_in z0) (kdr dgL_law_971 6 7 rfl rfl) ?_
  obtain ⟨r3, g3, h⟩ := g_b h
  refine kcall_n ((wSB cI cJ cZ a ce fr un sb se so sc wb we wo wc fb fe fo fc rm ac rf kn) ++ (wMo cJ cZ b mce mfr mun mbe men mov msp mwb mwe mwi mac mre mkn r3) ++ (wO o on wv2)) (va_runV (As := [.int (xs (x4 + 1).toNatClampNeg)]) (rest := []) ⟨hx, hb, hml, hown, hts⟩ (c_X3_text l dC dI cB cI cJ cZ b _ mce mfr mun mbe men mov msp mwb mwe mwi mac mre mkn mth (xs (x4 + 1).toNatClampNeg) r3 g3) (kcwV hts kw_1282 kv_X3_text rfl rfl ⟨(Nat.le_of_ble_eq_true rfl), (Nat.le_of_ble_eq_true rfl)⟩) (kpVX (A := A) (hP.sub (kIT mk_41 0) (km_f (m := mk_41) rfl rfl)) hK (hD.sub (kIT mk_41 0) (km_nd mk_41) (km_T (m := mk_41) rfl rfl)) hG hZ hS hD hA (kIT mk_41 0) (km_T (m := mk_41) rfl rfl) (krecv_5 (q0 := 15) hK hP rfl)) rfl rfl hl.1 rfl (lv_room (Nat.le_of_ble_eq_true rfl)) (kdr dgL_law_971 6 8 rfl rfl) ⟨by show _ ≤ (600128 : Nat); omega, by show _ ≤ (7301098 : Nat); omega⟩) hP hD hS hA (kIT mk_41 0) (kIT mk_42 0) (km_T (m := mk_41) rfl rfl) (km_T (m := mk_41) rfl rfl) [((a 0), .inr (3, [.ref (a 1), .long fr, .long un, .ref (a 2), .ref (a 6), .ref (a 10), .ref (a 14), .int ac, .int rf, .int kn])), ((a 1), .inl (cJ, 4, .inr (.inl ce))), ((a 2), .inr (2, [.ref (a 3), .ref (a 4), .ref (a 5), .int sc])), ((a 3), .inl (cJ, 11, .inr (.inl sb))), ((a 4), .inl (cJ, 11, .inr (.inl se))), ((a 5), .inl (cZ, 11, .inl so)), ((a 6), .inr (2, [.ref (a 7), .ref (a 8), .ref (a 9), .int wc])), ((a 7), .inl (cJ, 11, .inr (.inl wb))), ((a 8), .inl (cJ, 11, .inr (.inl we))), ((a 9), .inl (cZ, 11, .inl wo)), ((a 10), .inr (2, [.ref (a 11), .ref (a 12), .ref (a 13), .int fc])), ((a 11), .inl (cJ, 11, .inr (.inl fb))), ((a 12), .inl (cJ, 11, .inr (.inl fe))), ((a 13), .inl (cZ, 11, .inl fo)), ((a 14), .inl (cI, 11, .inl rm)), (o, .inr (4, [.long on, wv2]))] (km_T (m := mk_42) rfl rfl) (km_T (m := mk_42) rfl rfl) (km_cov (m := mk_41) (n := mk_42) rfl rfl) (km_dis (m := mk_41) (n := mk_42) rfl) rfl (fun qa3 H locs hP hD hS => ?_)
  refine lv_astore (lv' := (kvA 6 qa3 (kvI 5 r2 (kvA 0 b9 (kvA 1 (a 0) (kvA 2 (b 0) (kvA 3 o (kvI 4 x4 kvE)))))))) hx hb (kdr dgL_law_971 6 9 rfl rfl) hl (by decide) rfl (fun ls hl => ?_)
  refine lv_goto (tgt := 1873) hx hb (kdr dgL_law_971 7 0 rfl rfl) (by decide) ?_
  exact hK9 ce fr un sb se so sc wb we wo wc fb fe fo fc rm ac rf kn mce mfr mun mbe men mov msp mwb mwe mwi mac mre mkn r3 on wv2 x4 b _ _ _ _ (by omega) (by omega) hP hD hS ls (lv_sub hl [2, 3, 4, 5, 6] rfl) h
noncomputable def flaw_1082 (L : Nat) (xs : Nat → Int32) (K : kFT) (ce : Nat → Int64) (fr : Int64) (un : Int64) (sb : Nat → Int64) (se : Nat → Int64) (so : Nat → Int32) (sc : Int32) (wb : Nat → Int64) (we : Nat → Int64) (wo : Nat → Int32) (wc : Int32) (fb : Nat → Int64) (fe : Nat → Int64) (fo : Nat → Int32) (fc : Int32) (rm : Nat → Int32) (ac : Int32) (rf : Int32) (kn : Int32) (mce : Nat → Int64) (mfr : Int64) (mun : Int64) (mbe : Nat → Int64) (men : Nat → Int64) (mov : Nat → Int32) (msp : Int32) (mwb : Nat → Int64) (mwe : Nat → Int64) (mwi : Int32) (mac : Int32) (mre : Int32) (mkn : Int32) (mth : Int32) (on : Int64) (x4 : Int32) : Option Int32 :=
  if ix (x4 + 1) L then
    if ix (x4 + 2) L then
      (f_L_order ce on (xs (x4 + 1).toNatClampNeg) (xs (x4 + 2).toNatClampNeg)).bind fun r3 =>
      (f_X3_order mce (xs (x4 + 1).toNatClampNeg) (xs (x4 + 2).toNatClampNeg)).bind fun r4 =>
      K ce fr un sb se so sc wb we wo wc fb fe fo fc rm ac rf kn mce mfr mun mbe men mov msp mwb mwe mwi mac mre mkn r4.2 r3.2 x4
    else none
  else none
theorem flaw_1082_e {L : Nat} {xs : Nat → Int32} {K : kFT} (ce : Nat → Int64) (fr : Int64) (un : Int64) (sb : Nat → Int64) (se : Nat → Int64) (so : Nat → Int32) (sc : Int32) (wb : Nat → Int64) (we : Nat → Int64) (wo : Nat → Int32) (wc : Int32) (fb : Nat → Int64) (fe : Nat → Int64) (fo : Nat → Int32) (fc : Int32) (rm : Nat → Int32) (ac : Int32) (rf : Int32) (kn : Int32) (mce : Nat → Int64) (mfr : Int64) (mun : Int64) (mbe : Nat → Int64) (men : Nat → Int64) (mov : Nat → Int32) (msp : Int32) (mwb : Nat → Int64) (mwe : Nat → Int64) (mwi : Int32) (mac : Int32) (mre : Int32) (mkn : Int32) (mth : Int32) (on : Int64) (x4 : Int32) : flaw_1082 L xs K ce fr un sb se so sc wb we wo wc fb fe fo fc rm ac rf kn mce mfr mun mbe men mov msp mwb mwe mwi mac mre mkn mth on x4 =
  if ix (x4 + 1) L then
    if ix (x4 + 2) L then
      (f_L_order ce on (xs (x4 + 1).toNatClampNeg) (xs (x4 + 2).toNatClampNeg)).bind fun r3 =>
      (f_X3_order mce (xs (x4 + 1).toNatClampNeg) (xs (x4 + 2).toNatClampNeg)).bind fun r4 =>
      K ce fr un sb se so sc wb we wo wc fb fe fo fc rm ac rf kn mce mfr mun mbe men mov msp mwb mwe mwi mac mre mkn r4.2 r3.2 x4
    else none
  else none := rfl
set_option maxHeartbeats 8000000 in
set_option maxRecDepth 100000 in
theorem law_19 {p : Program} {l : Launch} {e : Env} {s : State} {m : MethodId} {below : List Frame} {meth : Method} {c : Code} {dC : Nat → ClassId} {dI : Nat → Nat → Nat} {cB cI cJ cZ : ClassId} {b9 L : Nat} {xs : Nat → Int32} {A : Nat → Prop} (hl9 : l.stackTraces = false) (C0 : kLw p s m c b9 L xs A) (hK : va_K (dC, dI) vwCl (kTy cB cI cJ cZ) s) {a : Nat → Nat} {o : Nat} (K : kFT) (bK sK : Nat) (hK9 : kGo p l e s m below meth c dC dI cB cI cJ cZ b9 A a o 1873 bK sK K) : kGo p l e s m below meth c dC dI cB cI cJ cZ b9 A a o 1082 (1 + bK) (6 + sK) (flaw_1082 L xs K) := by
  obtain ⟨hx, hb, hml, hown, hts, hX, hbl, hA, hbA, hG, hZ⟩ := C0
  intro ce fr un sb se so sc wb we wo wc fb fe fo fc rm ac rf kn mce mfr mun mbe men mov msp mwb mwe mwi mac mre mkn mth on ov x4 b H locs kc ks hkc hks hP hD hS ls hl h
  have h := (flaw_1082_e ce fr un sb se so sc wb we wo wc fb fe fo fc rm ac rf kn mce mfr mun mbe men mov msp mwb mwe mwi mac mre mkn mth on x4).symm.trans h
  refine lv_aload_n hx hb (kdr dgL_law_971 7 1 rfl rfl) rfl (lv_at hl 1 rfl) ?_
  obtain ⟨z0, h⟩ := g_if h
  refine kld (v := 1) hx hb (kdr dgL_law_971 7 2 rfl rfl) rfl (lv_at hl 0 rfl) (kdr dgL_law_971 7 3 rfl rfl) (lv_at hl 4 rfl) (kdr dgL_law_971 7 4 rfl rfl) (by decide) (kdr dgL_law_971 7 5 rfl rfl) hX hbl hbA hS (ix_in z0) (kdr dgL_law_971 7 6 rfl rfl) ?_
  obtain ⟨z1, h⟩ := g_if h
  refine kld (v := 2) hx hb (kdr dgL_law_971 7 7 rfl rfl) rfl (lv_at hl 0 rfl) (kdr dgL_law_971 7 8 rfl rfl) (lv_at hl 4 rfl) (kdr dgL_law_971 7 9 rfl rfl) (by decide) (kdr dgL_law_971 8 0 rfl rfl) hX hbl hbA hS (ix_in z1) (kdr dgL_law_971 8 1 rfl rfl) ?_
  refine lv_aload_n hx hb (kdr dgL_law_971 8 2 rfl rfl) rfl (lv_at hl 3 rfl) ?_
  obtain ⟨r3, g3, h⟩ := g_b h
  refine kq_i ((wSB cI cJ cZ a ce fr un sb se so sc wb we wo wc fb fe fo fc rm ac rf kn) ++ (wMo cJ cZ b mce mfr mun mbe men mov msp mwb mwe mwi mac mre mkn mth) ++ (wO o r3.2 ov)) (fun qP qD qF => vx_runSW (As := [.ref (a 0), .int (xs (x4 + 1).toNatClampNeg), .int (xs (x4 + 2).toNatClampNeg), .ref o]) (rest := []) ⟨hx, hb, hml, hown, hts⟩ (c_L_order l hl9 dC dI cB cI cJ cZ a o _ ce fr un sb se so sc wb we wo wc fb fe fo fc rm ac rf kn on ov (xs (x4 + 1).toNatClampNeg) (xs (x4 + 2).toNatClampNeg) r3 g3) (kcwSW hts kw_945 kv_L_order rfl rfl ⟨(Nat.le_of_ble_eq_true rfl), (Nat.le_of_ble_eq_true rfl)⟩) (kpSXq (A := A) qP hK qD hG hZ hS qF) rfl rfl hl.1 rfl (lv_room (Nat.le_of_ble_eq_true rfl)) (kdr dgL_law_971 8 3 rfl rfl) ⟨by show _ ≤ (600128 : Nat); omega, by show _ ≤ (7301098 : Nat); omega⟩) hP hD hS hA (kFr_2 (kFr_l kFr_SB) kFr_o) (fun H locs hP hD hS br3 => ?_)
  refine lv_istore (lv' := (kvI 5 r3.1 (kvA 0 b9 (kvA 1 (a 0) (kvA 2 (b 0) (kvA 3 o (kvI 4 x4 kvE))))))) hx hb (kdr dgL_law_971 8 4 rfl rfl) hl (by decide) rfl (fun ls hl => ?_)
  refine lv_aload_n hx hb (kdr dgL_law_971 8 5 rfl rfl) rfl (lv_at hl 3 rfl) ?_
  refine kld (v := 1) hx hb (kdr dgL_law_971 8 6 rfl rfl) rfl (lv_at hl 1 rfl) (kdr dgL_law_971 8 7 rfl rfl) (lv_at hl 5 rfl) (kdr dgL_law_971 8 8 rfl rfl) (by decide) (kdr dgL_law_971 8 9 rfl rfl) hX hbl hbA hS (ix_in z0) (kdr dgL_law_971 9 0 rfl rfl) ?_
  refine kld (v := 2) hx hb (kdr dgL_law_971 9 1 rfl rfl) rfl (lv_at hl 1 rfl) (kdr dgL_law_971 9 2 rfl rfl) (lv_at hl 5 rfl) (kdr dgL_law_971 9 3 rfl rfl) (by decide) (kdr dgL_law_971 9 4 rfl rfl) hX hbl hbA hS (ix_in z1) (kdr dgL_law_971 9 5 rfl rfl) ?_
  obtain ⟨r4, g4, h⟩ := g_b h
  refine kq_i ((wSB cI cJ cZ a ce fr un sb se so sc wb we wo wc fb fe fo fc rm ac rf kn) ++ (wMo cJ cZ b mce mfr mun mbe men mov msp mwb mwe mwi mac mre mkn r4.2) ++ (wO o r3.2 ov)) (fun qP qD qF => va_runV (As := [.int (xs (x4 + 1).toNatClampNeg), .int (xs (x4 + 2).toNatClampNeg)]) (rest := []) ⟨hx, hb, hml, hown, hts⟩ (c_X3_order l dC dI cB cI cJ cZ b _ mce mfr mun mbe men mov msp mwb mwe mwi mac mre mkn mth (xs (x4 + 1).toNatClampNeg) (xs (x4 + 2).toNatClampNeg) r4 g4) (kcwV hts kw_1293 kv_X3_order rfl rfl ⟨(Nat.le_of_ble_eq_true rfl), (Nat.le_of_ble_eq_true rfl)⟩) (kpV (A := A) qP hK qD hG (krecv_5 (q0 := 15) hK hP rfl)) rfl rfl hl.1 rfl (lv_room (Nat.le_of_ble_eq_true rfl)) (kdr dgL_law_971 9 6 rfl rfl) ⟨by show _ ≤ (600128 : Nat); omega, by show _ ≤ (7301098 : Nat); omega⟩) hP hD hS hA (kFr_l (kFr_r kFr_Mo)) (fun H locs hP hD hS br4 => ?_)
  refine lv_istore (lv' := (kvI 6 r4.1 (kvI 5 r3.1 (kvA 0 b9 (kvA 1 (a 0) (kvA 2 (b 0) (kvA 3 o (kvI 4 x4 kvE)))))))) hx hb (kdr dgL_law_971 9 7 rfl rfl) hl (by decide) rfl (fun ls hl => ?_)
  refine lv_goto (tgt := 1873) hx hb (kdr dgL_law_971 9 8 rfl rfl) (by decide) ?_
  exact hK9 ce fr un sb se so sc wb we wo wc fb fe fo fc rm ac rf kn mce mfr mun mbe men mov msp mwb mwe mwi mac mre mkn r4.2 r3.2 ov x4 b _ _ _ _ (by omega) (by omega) hP hD hS ls (lv_sub hl [2, 3, 4, 5, 6] rfl) h
noncomputable def flaw_1122 (L : Nat) (xs : Nat → Int32) (K : kFT) (ce : Nat → Int64) (fr : Int64) (un : Int64) (sb : Nat → Int64) (se : Nat → Int64) (so : Nat → Int32) (sc : Int32) (wb : Nat → Int64) (we : Nat → Int64) (wo : Nat → Int32) (wc : Int32) (fb : Nat → Int64) (fe : Nat → Int64) (fo : Nat → Int32) (fc : Int32) (rm : Nat → Int32) (ac : Int32) (rf : Int32) (kn : Int32) (mce : Nat → Int64) (mfr : Int64) (mun : Int64) (mbe : Nat → Int64) (men : Nat → Int64) (mov : Nat → Int32) (msp : Int32) (mwb : Nat → Int64) (mwe : Nat → Int64) (mwi : Int32) (mac : Int32) (mre : Int32) (mkn : Int32) (mth : Int32) (on : Int64) (x4 : Int32) : Option Int32 :=
  if ix (x4 + 1) L then
    if ix (x4 + 2) L then
      (f_L_isBefore ce on (xs (x4 + 1).toNatClampNeg) (xs (x4 + 2).toNatClampNeg)).bind fun r3 =>
      (f_X3_isBefore mce (xs (x4 + 1).toNatClampNeg) (xs (x4 + 2).toNatClampNeg)).bind fun r4 =>
      K ce fr un sb se so sc wb we wo wc fb fe fo fc rm ac rf kn mce mfr mun mbe men mov msp mwb mwe mwi mac mre mkn r4.2 r3.2 x4
    else none
  else none
theorem flaw_1122_e {L : Nat} {xs : Nat → Int32} {K : kFT} (ce : Nat → Int64) (fr : Int64) (un : Int64) (sb : Nat → Int64) (se : Nat → Int64) (so : Nat → Int32) (sc : Int32) (wb : Nat → Int64) (we : Nat → Int64) (wo : Nat → Int32) (wc : Int32) (fb : Nat → Int64) (fe : Nat → Int64) (fo : Nat → Int32) (fc : Int32) (rm : Nat → Int32) (ac : Int32) (rf : Int32) (kn : Int32) (mce : Nat → Int64) (mfr : Int64) (mun : Int64) (mbe : Nat → Int64) (men : Nat → Int64) (mov : Nat → Int32) (msp : Int32) (mwb : Nat → Int64) (mwe : Nat → Int64) (mwi : Int32) (mac : Int32) (mre : Int32) (mkn : Int32) (mth : Int32) (on : Int64) (x4 : Int32) : flaw_1122 L xs K ce fr un sb se so sc wb we wo wc fb fe fo fc rm ac rf kn mce mfr mun mbe men mov msp mwb mwe mwi mac mre mkn mth on x4 =
  if ix (x4 + 1) L then
    if ix (x4 + 2) L then
      (f_L_isBefore ce on (xs (x4 + 1).toNatClampNeg) (xs (x4 + 2).toNatClampNeg)).bind fun r3 =>
      (f_X3_isBefore mce (xs (x4 + 1).toNatClampNeg) (xs (x4 + 2).toNatClampNeg)).bind fun r4 =>
      K ce fr un sb se so sc wb we wo wc fb fe fo fc rm ac rf kn mce mfr mun mbe men mov msp mwb mwe mwi mac mre mkn r4.2 r3.2 x4
    else none
  else none := rfl
set_option maxHeartbeats 8000000 in
set_option maxRecDepth 100000 in
theorem law_20 {p : Program} {l : Launch} {e : Env} {s : State} {m : MethodId} {below : List Frame} {meth : Method} {c : Code} {dC : Nat → ClassId} {dI : Nat → Nat → Nat} {cB cI cJ cZ : ClassId} {b9 L : Nat} {xs : Nat → Int32} {A : Nat → Prop} (hl9 : l.stackTraces = false) (C0 : kLw p s m c b9 L xs A) (hK : va_K (dC, dI) vwCl (kTy cB cI cJ cZ) s) {a : Nat → Nat} {o : Nat} (K : kFT) (bK sK : Nat) (hK9 : kGo p l e s m below meth c dC dI cB cI cJ cZ b9 A a o 1873 bK sK K) : kGo p l e s m below meth c dC dI cB cI cJ cZ b9 A a o 1122 (1 + bK) (6 + sK) (flaw_1122 L xs K) := by
  obtain ⟨hx, hb, hml, hown, hts, hX, hbl, hA, hbA, hG, hZ⟩ := C0
  intro ce fr un sb se so sc wb we wo wc fb fe fo fc rm ac rf kn mce mfr mun mbe men mov msp mwb mwe mwi mac mre mkn mth on ov x4 b H locs kc ks hkc hks hP hD hS ls hl h
  have h := (flaw_1122_e ce fr un sb se so sc wb we wo wc fb fe fo fc rm ac rf kn mce mfr mun mbe men mov msp mwb mwe mwi mac mre mkn mth on x4).symm.trans h
  refine lv_aload_n hx hb (kdr dgL_law_971 9 9 rfl rfl) rfl (lv_at hl 1 rfl) ?_
  obtain ⟨z0, h⟩ := g_if h
  refine kld (v := 1) hx hb (kdr dgL_law_1123 0 0 rfl rfl) rfl (lv_at hl 0 rfl) (kdr dgL_law_1123 0 1 rfl rfl) (lv_at hl 4 rfl) (kdr dgL_law_1123 0 2 rfl rfl) (by decide) (kdr dgL_law_1123 0 3 rfl rfl) hX hbl hbA hS (ix_in z0) (kdr dgL_law_1123 0 4 rfl rfl) ?_
  obtain ⟨z1, h⟩ := g_if h
  refine kld (v := 2) hx hb (kdr dgL_law_1123 0 5 rfl rfl) rfl (lv_at hl 0 rfl) (kdr dgL_law_1123 0 6 rfl rfl) (lv_at hl 4 rfl) (kdr dgL_law_1123 0 7 rfl rfl) (by decide) (kdr dgL_law_1123 0 8 rfl rfl) hX hbl hbA hS (ix_in z1) (kdr dgL_law_1123 0 9 rfl rfl) ?_
  refine lv_aload_n hx hb (kdr dgL_law_1123 1 0 rfl rfl) rfl (lv_at hl 3 rfl) ?_
  obtain ⟨r3, g3, h⟩ := g_b h
  refine kq_i ((wSB cI cJ cZ a ce fr un sb se so sc wb we wo wc fb fe fo fc rm ac rf kn) ++ (wMo cJ cZ b mce mfr mun mbe men mov msp mwb mwe mwi mac mre mkn mth) ++ (wO o r3.2 ov)) (fun qP qD qF => vx_runSW (As := [.ref (a 0), .int (xs (x4 + 1).toNatClampNeg), .int (xs (x4 + 2).toNatClampNeg), .ref o]) (rest := []) ⟨hx, hb, hml, hown, hts⟩ (c_L_isBefore l hl9 dC dI cB cI cJ cZ a o _ ce fr un sb se so sc wb we wo wc fb fe fo fc rm ac rf kn on ov (xs (x4 + 1).toNatClampNeg) (xs (x4 + 2).toNatClampNeg) r3 g3) (kcwSW hts kw_952 kv_L_isBefore rfl rfl ⟨(Nat.le_of_ble_eq_true rfl), (Nat.le_of_ble_eq_true rfl)⟩) (kpSXq (A := A) qP hK qD hG hZ hS qF) rfl rfl hl.1 rfl (lv_room (Nat.le_of_ble_eq_true rfl)) (kdr dgL_law_1123 1 1 rfl rfl) ⟨by show _ ≤ (600128 : Nat); omega, by show _ ≤ (7301098 : Nat); omega⟩) hP hD hS hA (kFr_2 (kFr_l kFr_SB) kFr_o) (fun H locs hP hD hS br3 => ?_)
  refine lv_istore (lv' := (kvI 5 r3.1 (kvA 0 b9 (kvA 1 (a 0) (kvA 2 (b 0) (kvA 3 o (kvI 4 x4 kvE))))))) hx hb (kdr dgL_law_1123 1 2 rfl rfl) hl (by decide) rfl (fun ls hl => ?_)
  refine lv_aload_n hx hb (kdr dgL_law_1123 1 3 rfl rfl) rfl (lv_at hl 3 rfl) ?_
  refine kld (v := 1) hx hb (kdr dgL_law_1123 1 4 rfl rfl) rfl (lv_at hl 1 rfl) (kdr dgL_law_1123 1 5 rfl rfl) (lv_at hl 5 rfl) (kdr dgL_law_1123 1 6 rfl rfl) (by decide) (kdr dgL_law_1123 1 7 rfl rfl) hX hbl hbA hS (ix_in z0) (kdr dgL_law_1123 1 8 rfl rfl) ?_
  refine kld (v := 2) hx hb (kdr dgL_law_1123 1 9 rfl rfl) rfl (lv_at hl 1 rfl) (kdr dgL_law_1123 2 0 rfl rfl) (lv_at hl 5 rfl) (kdr dgL_law_1123 2 1 rfl rfl) (by decide) (kdr dgL_law_1123 2 2 rfl rfl) hX hbl hbA hS (ix_in z1) (kdr dgL_law_1123 2 3 rfl rfl) ?_
  obtain ⟨r4, g4, h⟩ := g_b h
  refine kq_i ((wSB cI cJ cZ a ce fr un sb se so sc wb we wo wc fb fe fo fc rm ac rf kn) ++ (wMo cJ cZ b mce mfr mun mbe men mov msp mwb mwe mwi mac mre mkn r4.2) ++ (wO o r3.2 ov)) (fun qP qD qF => va_runV (As := [.int (xs (x4 + 1).toNatClampNeg), .int (xs (x4 + 2).toNatClampNeg)]) (rest := []) ⟨hx, hb, hml, hown, hts⟩ (c_X3_isBefore l dC dI cB cI cJ cZ b _ mce mfr mun mbe men mov msp mwb mwe mwi mac mre mkn mth (xs (x4 + 1).toNatClampNeg) (xs (x4 + 2).toNatClampNeg) r4 g4) (kcwV hts kw_1301 kv_X3_isBefore rfl rfl ⟨(Nat.le_of_ble_eq_true rfl), (Nat.le_of_ble_eq_true rfl)⟩) (kpV (A := A) qP hK qD hG (krecv_5 (q0 := 15) hK hP rfl)) rfl rfl hl.1 rfl (lv_room (Nat.le_of_ble_eq_true rfl)) (kdr dgL_law_1123 2 4 rfl rfl) ⟨by show _ ≤ (600128 : Nat); omega, by show _ ≤ (7301098 : Nat); omega⟩) hP hD hS hA (kFr_l (kFr_r kFr_Mo)) (fun H locs hP hD hS br4 => ?_)
  refine lv_istore (lv' := (kvI 6 r4.1 (kvI 5 r3.1 (kvA 0 b9 (kvA 1 (a 0) (kvA 2 (b 0) (kvA 3 o (kvI 4 x4 kvE)))))))) hx hb (kdr dgL_law_1123 2 5 rfl rfl) hl (by decide) rfl (fun ls hl => ?_)
  refine lv_goto (tgt := 1873) hx hb (kdr dgL_law_1123 2 6 rfl rfl) (by decide) ?_
  exact hK9 ce fr un sb se so sc wb we wo wc fb fe fo fc rm ac rf kn mce mfr mun mbe men mov msp mwb mwe mwi mac mre mkn r4.2 r3.2 ov x4 b _ _ _ _ (by omega) (by omega) hP hD hS ls (lv_sub hl [2, 3, 4, 5, 6] rfl) h
noncomputable def flaw_1162 (L : Nat) (xs : Nat → Int32) (K : kFT) (ce : Nat → Int64) (fr : Int64) (un : Int64) (sb : Nat → Int64) (se : Nat → Int64) (so : Nat → Int32) (sc : Int32) (wb : Nat → Int64) (we : Nat → Int64) (wo : Nat → Int32) (wc : Int32) (fb : Nat → Int64) (fe : Nat → Int64) (fo : Nat → Int32) (fc : Int32) (rm : Nat → Int32) (ac : Int32) (rf : Int32) (kn : Int32) (mce : Nat → Int64) (mfr : Int64) (mun : Int64) (mbe : Nat → Int64) (men : Nat → Int64) (mov : Nat → Int32) (msp : Int32) (mwb : Nat → Int64) (mwe : Nat → Int64) (mwi : Int32) (mac : Int32) (mre : Int32) (mkn : Int32) (mth : Int32) (on : Int64) (x4 : Int32) : Option Int32 :=
  if ix (x4 + 1) L then
    if ix (x4 + 2) L then
      (f_L_isAfter ce on (xs (x4 + 1).toNatClampNeg) (xs (x4 + 2).toNatClampNeg)).bind fun r3 =>
      (f_X3_isAfter mce (xs (x4 + 1).toNatClampNeg) (xs (x4 + 2).toNatClampNeg)).bind fun r4 =>
      K ce fr un sb se so sc wb we wo wc fb fe fo fc rm ac rf kn mce mfr mun mbe men mov msp mwb mwe mwi mac mre mkn r4.2 r3.2 x4
    else none
  else none
theorem flaw_1162_e {L : Nat} {xs : Nat → Int32} {K : kFT} (ce : Nat → Int64) (fr : Int64) (un : Int64) (sb : Nat → Int64) (se : Nat → Int64) (so : Nat → Int32) (sc : Int32) (wb : Nat → Int64) (we : Nat → Int64) (wo : Nat → Int32) (wc : Int32) (fb : Nat → Int64) (fe : Nat → Int64) (fo : Nat → Int32) (fc : Int32) (rm : Nat → Int32) (ac : Int32) (rf : Int32) (kn : Int32) (mce : Nat → Int64) (mfr : Int64) (mun : Int64) (mbe : Nat → Int64) (men : Nat → Int64) (mov : Nat → Int32) (msp : Int32) (mwb : Nat → Int64) (mwe : Nat → Int64) (mwi : Int32) (mac : Int32) (mre : Int32) (mkn : Int32) (mth : Int32) (on : Int64) (x4 : Int32) : flaw_1162 L xs K ce fr un sb se so sc wb we wo wc fb fe fo fc rm ac rf kn mce mfr mun mbe men mov msp mwb mwe mwi mac mre mkn mth on x4 =
  if ix (x4 + 1) L then
    if ix (x4 + 2) L then
      (f_L_isAfter ce on (xs (x4 + 1).toNatClampNeg) (xs (x4 + 2).toNatClampNeg)).bind fun r3 =>
      (f_X3_isAfter mce (xs (x4 + 1).toNatClampNeg) (xs (x4 + 2).toNatClampNeg)).bind fun r4 =>
      K ce fr un sb se so sc wb we wo wc fb fe fo fc rm ac rf kn mce mfr mun mbe men mov msp mwb mwe mwi mac mre mkn r4.2 r3.2 x4
    else none
  else none := rfl
set_option maxHeartbeats 8000000 in
set_option maxRecDepth 100000 in
theorem law_21 {p : Program} {l : Launch} {e : Env} {s : State} {m : MethodId} {below : List Frame} {meth : Method} {c : Code} {dC : Nat → ClassId} {dI : Nat → Nat → Nat} {cB cI cJ cZ : ClassId} {b9 L : Nat} {xs : Nat → Int32} {A : Nat → Prop} (hl9 : l.stackTraces = false) (C0 : kLw p s m c b9 L xs A) (hK : va_K (dC, dI) vwCl (kTy cB cI cJ cZ) s) {a : Nat → Nat} {o : Nat} (K : kFT) (bK sK : Nat) (hK9 : kGo p l e s m below meth c dC dI cB cI cJ cZ b9 A a o 1873 bK sK K) : kGo p l e s m below meth c dC dI cB cI cJ cZ b9 A a o 1162 (1 + bK) (6 + sK) (flaw_1162 L xs K) := by
  obtain ⟨hx, hb, hml, hown, hts, hX, hbl, hA, hbA, hG, hZ⟩ := C0
  intro ce fr un sb se so sc wb we wo wc fb fe fo fc rm ac rf kn mce mfr mun mbe men mov msp mwb mwe mwi mac mre mkn mth on ov x4 b H locs kc ks hkc hks hP hD hS ls hl h
  have h := (flaw_1162_e ce fr un sb se so sc wb we wo wc fb fe fo fc rm ac rf kn mce mfr mun mbe men mov msp mwb mwe mwi mac mre mkn mth on x4).symm.trans h
  refine lv_aload_n hx hb (kdr dgL_law_1123 2 7 rfl rfl) rfl (lv_at hl 1 rfl) ?_
  obtain ⟨z0, h⟩ := g_if h
  refine kld (v := 1) hx hb (kdr dgL_law_1123 2 8 rfl rfl) rfl (lv_at hl 0 rfl) (kdr dgL_law_1123 2 9 rfl rfl) (lv_at hl 4 rfl) (kdr dgL_law_1123 3 0 rfl rfl) (by decide) (kdr dgL_law_1123 3 1 rfl rfl) hX hbl hbA hS (ix_in z0) (kdr dgL_law_1123 3 2 rfl rfl) ?_
  obtain ⟨z1, h⟩ := g_if h
  refine kld (v := 2) hx hb (kdr dgL_law_1123 3 3 rfl rfl) rfl (lv_at hl 0 rfl) (kdr dgL_law_1123 3 4 rfl rfl) (lv_at hl 4 rfl) (kdr dgL_law_1123 3 5 rfl rfl) (by decide) (kdr dgL_law_1123 3 6 rfl rfl) hX hbl hbA hS (ix_in z1) (kdr dgL_law_1123 3 7 rfl rfl) ?_
  refine lv_aload_n hx hb (kdr dgL_law_1123 3 8 rfl rfl) rfl (lv_at hl 3 rfl) ?_
  obtain ⟨r3, g3, h⟩ := g_b h
  refine kq_i ((wSB cI cJ cZ a ce fr un sb se so sc wb we wo wc fb fe fo fc rm ac rf kn) ++ (wMo cJ cZ b mce mfr mun mbe men mov msp mwb mwe mwi mac mre mkn mth) ++ (wO o r3.2 ov)) (fun qP qD qF => vx_runSW (As := [.ref (a 0), .int (xs (x4 + 1).toNatClampNeg), .int (xs (x4 + 2).toNatClampNeg), .ref o]) (rest := []) ⟨hx, hb, hml, hown, hts⟩ (c_L_isAfter l hl9 dC dI cB cI cJ cZ a o _ ce fr un sb se so sc wb we wo wc fb fe fo fc rm ac rf kn on ov (xs (x4 + 1).toNatClampNeg) (xs (x4 + 2).toNatClampNeg) r3 g3) (kcwSW hts kw_959 kv_L_isAfter rfl rfl ⟨(Nat.le_of_ble_eq_true rfl), (Nat.le_of_ble_eq_true rfl)⟩) (kpSXq (A := A) qP hK qD hG hZ hS qF) rfl rfl hl.1 rfl (lv_room (Nat.le_of_ble_eq_true rfl)) (kdr dgL_law_1123 3 9 rfl rfl) ⟨by show _ ≤ (600128 : Nat); omega, by show _ ≤ (7301098 : Nat); omega⟩) hP hD hS hA (kFr_2 (kFr_l kFr_SB) kFr_o) (fun H locs hP hD hS br3 => ?_)
  refine lv_istore (lv' := (kvI 5 r3.1 (kvA 0 b9 (kvA 1 (a 0) (kvA 2 (b 0) (kvA 3 o (kvI 4 x4 kvE))))))) hx hb (kdr dgL_law_1123 4 0 rfl rfl) hl (by decide) rfl (fun ls hl => ?_)
  refine lv_aload_n hx hb (kdr dgL_law_1123 4 1 rfl rfl) rfl (lv_at hl 3 rfl) ?_
  refine kld (v := 1) hx hb (kdr dgL_law_1123 4 2 rfl rfl) rfl (lv_at hl 1 rfl) (kdr dgL_law_1123 4 3 rfl rfl) (lv_at hl 5 rfl) (kdr dgL_law_1123 4 4 rfl rfl) (by decide) (kdr dgL_law_1123 4 5 rfl rfl) hX hbl hbA hS (ix_in z0) (kdr dgL_law_1123 4 6 rfl rfl) ?_
  refine kld (v := 2) hx hb (kdr dgL_law_1123 4 7 rfl rfl) rfl (lv_at hl 1 rfl) (kdr dgL_law_1123 4 8 rfl rfl) (lv_at hl 5 rfl) (kdr dgL_law_1123 4 9 rfl rfl) (by decide) (kdr dgL_law_1123 5 0 rfl rfl) hX hbl hbA hS (ix_in z1) (kdr dgL_law_1123 5 1 rfl rfl) ?_
  obtain ⟨r4, g4, h⟩ := g_b h
  refine kq_i ((wSB cI cJ cZ a ce fr un sb se so sc wb we wo wc fb fe fo fc rm ac rf kn) ++ (wMo cJ cZ b mce mfr mun mbe men mov msp mwb mwe mwi mac mre mkn r4.2) ++ (wO o r3.2 ov)) (fun qP qD qF => va_runV (As := [.int (xs (x4 + 1).toNatClampNeg), .int (xs (x4 + 2).toNatClampNeg)]) (rest := []) ⟨hx, hb, hml, hown, hts⟩ (c_X3_isAfter l dC dI cB cI cJ cZ b _ mce mfr mun mbe men mov msp mwb mwe mwi mac mre mkn mth (xs (x4 + 1).toNatClampNeg) (xs (x4 + 2).toNatClampNeg) r4 g4) (kcwV hts kw_1305 kv_X3_isAfter rfl rfl ⟨(Nat.le_of_ble_eq_true rfl), (Nat.le_of_ble_eq_true rfl)⟩) (kpV (A := A) qP hK qD hG (krecv_5 (q0 := 15) hK hP rfl)) rfl rfl hl.1 rfl (lv_room (Nat.le_of_ble_eq_true rfl)) (kdr dgL_law_1123 5 2 rfl rfl) ⟨by show _ ≤ (600128 : Nat); omega, by show _ ≤ (7301098 : Nat); omega⟩) hP hD hS hA (kFr_l (kFr_r kFr_Mo)) (fun H locs hP hD hS br4 => ?_)
  refine lv_istore (lv' := (kvI 6 r4.1 (kvI 5 r3.1 (kvA 0 b9 (kvA 1 (a 0) (kvA 2 (b 0) (kvA 3 o (kvI 4 x4 kvE)))))))) hx hb (kdr dgL_law_1123 5 3 rfl rfl) hl (by decide) rfl (fun ls hl => ?_)
  refine lv_goto (tgt := 1873) hx hb (kdr dgL_law_1123 5 4 rfl rfl) (by decide) ?_
  exact hK9 ce fr un sb se so sc wb we wo wc fb fe fo fc rm ac rf kn mce mfr mun mbe men mov msp mwb mwe mwi mac mre mkn r4.2 r3.2 ov x4 b _ _ _ _ (by omega) (by omega) hP hD hS ls (lv_sub hl [2, 3, 4, 5, 6] rfl) h
noncomputable def flaw_1202 (L : Nat) (xs : Nat → Int32) (K : kFT) (ce : Nat → Int64) (fr : Int64) (un : Int64) (sb : Nat → Int64) (se : Nat → Int64) (so : Nat → Int32) (sc : Int32) (wb : Nat → Int64) (we : Nat → Int64) (wo : Nat → Int32) (wc : Int32) (fb : Nat → Int64) (fe : Nat → Int64) (fo : Nat → Int32) (fc : Int32) (rm : Nat → Int32) (ac : Int32) (rf : Int32) (kn : Int32) (mce : Nat → Int64) (mfr : Int64) (mun : Int64) (mbe : Nat → Int64) (men : Nat → Int64) (mov : Nat → Int32) (msp : Int32) (mwb : Nat → Int64) (mwe : Nat → Int64) (mwi : Int32) (mac : Int32) (mre : Int32) (mkn : Int32) (mth : Int32) (on : Int64) (x4 : Int32) : Option Int32 :=
  if ix (x4 + 1) L then
    if ix (x4 + 2) L then
      if ix (x4 + 3) L then
        (f_L_same ce on (xs (x4 + 1).toNatClampNeg) (xs (x4 + 2).toNatClampNeg) (xs (x4 + 3).toNatClampNeg)).bind fun r4 =>
        (f_X3_same mce (xs (x4 + 1).toNatClampNeg) (xs (x4 + 2).toNatClampNeg) (xs (x4 + 3).toNatClampNeg)).bind fun r5 =>
        K ce fr un sb se so sc wb we wo wc fb fe fo fc rm ac rf kn mce mfr mun mbe men mov msp mwb mwe mwi mac mre mkn r5.2 r4.2 x4
      else none
    else none
  else none
theorem flaw_1202_e {L : Nat} {xs : Nat → Int32} {K : kFT} (ce : Nat → Int64) (fr : Int64) (un : Int64) (sb : Nat → Int64) (se : Nat → Int64) (so : Nat → Int32) (sc : Int32) (wb : Nat → Int64) (we : Nat → Int64) (wo : Nat → Int32) (wc : Int32) (fb : Nat → Int64) (fe : Nat → Int64) (fo : Nat → Int32) (fc : Int32) (rm : Nat → Int32) (ac : Int32) (rf : Int32) (kn : Int32) (mce : Nat → Int64) (mfr : Int64) (mun : Int64) (mbe : Nat → Int64) (men : Nat → Int64) (mov : Nat → Int32) (msp : Int32) (mwb : Nat → Int64) (mwe : Nat → Int64) (mwi : Int32) (mac : Int32) (mre : Int32) (mkn : Int32) (mth : Int32) (on : Int64) (x4 : Int32) : flaw_1202 L xs K ce fr un sb se so sc wb we wo wc fb fe fo fc rm ac rf kn mce mfr mun mbe men mov msp mwb mwe mwi mac mre mkn mth on x4 =
  if ix (x4 + 1) L then
    if ix (x4 + 2) L then
      if ix (x4 + 3) L then
        (f_L_same ce on (xs (x4 + 1).toNatClampNeg) (xs (x4 + 2).toNatClampNeg) (xs (x4 + 3).toNatClampNeg)).bind fun r4 =>
        (f_X3_same mce (xs (x4 + 1).toNatClampNeg) (xs (x4 + 2).toNatClampNeg) (xs (x4 + 3).toNatClampNeg)).bind fun r5 =>
        K ce fr un sb se so sc wb we wo wc fb fe fo fc rm ac rf kn mce mfr mun mbe men mov msp mwb mwe mwi mac mre mkn r5.2 r4.2 x4
      else none
    else none
  else none := rfl
set_option maxHeartbeats 8000000 in
set_option maxRecDepth 100000 in
theorem law_22 {p : Program} {l : Launch} {e : Env} {s : State} {m : MethodId} {below : List Frame} {meth : Method} {c : Code} {dC : Nat → ClassId} {dI : Nat → Nat → Nat} {cB cI cJ cZ : ClassId} {b9 L : Nat} {xs : Nat → Int32} {A : Nat → Prop} (hl9 : l.stackTraces = false) (C0 : kLw p s m c b9 L xs A) (hK : va_K (dC, dI) vwCl (kTy cB cI cJ cZ) s) {a : Nat → Nat} {o : Nat} (K : kFT) (bK sK : Nat) (hK9 : kGo p l e s m below meth c dC dI cB cI cJ cZ b9 A a o 1873 bK sK K) : kGo p l e s m below meth c dC dI cB cI cJ cZ b9 A a o 1202 (1 + bK) (6 + sK) (flaw_1202 L xs K) := by
  obtain ⟨hx, hb, hml, hown, hts, hX, hbl, hA, hbA, hG, hZ⟩ := C0
  intro ce fr un sb se so sc wb we wo wc fb fe fo fc rm ac rf kn mce mfr mun mbe men mov msp mwb mwe mwi mac mre mkn mth on ov x4 b H locs kc ks hkc hks hP hD hS ls hl h
  have h := (flaw_1202_e ce fr un sb se so sc wb we wo wc fb fe fo fc rm ac rf kn mce mfr mun mbe men mov msp mwb mwe mwi mac mre mkn mth on x4).symm.trans h
  refine lv_aload_n hx hb (kdr dgL_law_1123 5 5 rfl rfl) rfl (lv_at hl 1 rfl) ?_
  obtain ⟨z0, h⟩ := g_if h
  refine kld (v := 1) hx hb (kdr dgL_law_1123 5 6 rfl rfl) rfl (lv_at hl 0 rfl) (kdr dgL_law_1123 5 7 rfl rfl) (lv_at hl 4 rfl) (kdr dgL_law_1123 5 8 rfl rfl) (by decide) (kdr dgL_law_1123 5 9 rfl rfl) hX hbl hbA hS (ix_in z0) (kdr dgL_law_1123 6 0 rfl rfl) ?_
  obtain ⟨z1, h⟩ := g_if h
  refine kld (v := 2) hx hb (kdr dgL_law_1123 6 1 rfl rfl) rfl (lv_at hl 0 rfl) (kdr dgL_law_1123 6 2 rfl rfl) (lv_at hl 4 rfl) (kdr dgL_law_1123 6 3 rfl rfl) (by decide) (kdr dgL_law_1123 6 4 rfl rfl) hX hbl hbA hS (ix_in z1) (kdr dgL_law_1123 6 5 rfl rfl) ?_
  obtain ⟨z2, h⟩ := g_if h
  refine kld (v := 3) hx hb (kdr dgL_law_1123 6 6 rfl rfl) rfl (lv_at hl 0 rfl) (kdr dgL_law_1123 6 7 rfl rfl) (lv_at hl 4 rfl) (kdr dgL_law_1123 6 8 rfl rfl) (by decide) (kdr dgL_law_1123 6 9 rfl rfl) hX hbl hbA hS (ix_in z2) (kdr dgL_law_1123 7 0 rfl rfl) ?_
  refine lv_aload_n hx hb (kdr dgL_law_1123 7 1 rfl rfl) rfl (lv_at hl 3 rfl) ?_
  obtain ⟨r4, g4, h⟩ := g_b h
  refine kq_i ((wSB cI cJ cZ a ce fr un sb se so sc wb we wo wc fb fe fo fc rm ac rf kn) ++ (wMo cJ cZ b mce mfr mun mbe men mov msp mwb mwe mwi mac mre mkn mth) ++ (wO o r4.2 ov)) (fun qP qD qF => vx_runSW (As := [.ref (a 0), .int (xs (x4 + 1).toNatClampNeg), .int (xs (x4 + 2).toNatClampNeg), .int (xs (x4 + 3).toNatClampNeg), .ref o]) (rest := []) ⟨hx, hb, hml, hown, hts⟩ (c_L_same l hl9 dC dI cB cI cJ cZ a o _ ce fr un sb se so sc wb we wo wc fb fe fo fc rm ac rf kn on ov (xs (x4 + 1).toNatClampNeg) (xs (x4 + 2).toNatClampNeg) (xs (x4 + 3).toNatClampNeg) r4 g4) (kcwSW hts kw_966 kv_L_same rfl rfl ⟨(Nat.le_of_ble_eq_true rfl), (Nat.le_of_ble_eq_true rfl)⟩) (kpSXq (A := A) qP hK qD hG hZ hS qF) rfl rfl hl.1 rfl (lv_room (Nat.le_of_ble_eq_true rfl)) (kdr dgL_law_1123 7 2 rfl rfl) ⟨by show _ ≤ (600128 : Nat); omega, by show _ ≤ (7301098 : Nat); omega⟩) hP hD hS hA (kFr_2 (kFr_l kFr_SB) kFr_o) (fun H locs hP hD hS br4 => ?_)
  refine lv_istore (lv' := (kvI 5 r4.1 (kvA 0 b9 (kvA 1 (a 0) (kvA 2 (b 0) (kvA 3 o (kvI 4 x4 kvE))))))) hx hb (kdr dgL_law_1123 7 3 rfl rfl) hl (by decide) rfl (fun ls hl => ?_)
  refine lv_aload_n hx hb (kdr dgL_law_1123 7 4 rfl rfl) rfl (lv_at hl 3 rfl) ?_
  refine kld (v := 1) hx hb (kdr dgL_law_1123 7 5 rfl rfl) rfl (lv_at hl 1 rfl) (kdr dgL_law_1123 7 6 rfl rfl) (lv_at hl 5 rfl) (kdr dgL_law_1123 7 7 rfl rfl) (by decide) (kdr dgL_law_1123 7 8 rfl rfl) hX hbl hbA hS (ix_in z0) (kdr dgL_law_1123 7 9 rfl rfl) ?_
  refine kld (v := 2) hx hb (kdr dgL_law_1123 8 0 rfl rfl) rfl (lv_at hl 1 rfl) (kdr dgL_law_1123 8 1 rfl rfl) (lv_at hl 5 rfl) (kdr dgL_law_1123 8 2 rfl rfl) (by decide) (kdr dgL_law_1123 8 3 rfl rfl) hX hbl hbA hS (ix_in z1) (kdr dgL_law_1123 8 4 rfl rfl) ?_
  refine kld (v := 3) hx hb (kdr dgL_law_1123 8 5 rfl rfl) rfl (lv_at hl 1 rfl) (kdr dgL_law_1123 8 6 rfl rfl) (lv_at hl 5 rfl) (kdr dgL_law_1123 8 7 rfl rfl) (by decide) (kdr dgL_law_1123 8 8 rfl rfl) hX hbl hbA hS (ix_in z2) (kdr dgL_law_1123 8 9 rfl rfl) ?_
  obtain ⟨r5, g5, h⟩ := g_b h
  refine kq_i ((wSB cI cJ cZ a ce fr un sb se so sc wb we wo wc fb fe fo fc rm ac rf kn) ++ (wMo cJ cZ b mce mfr mun mbe men mov msp mwb mwe mwi mac mre mkn r5.2) ++ (wO o r4.2 ov)) (fun qP qD qF => va_runV (As := [.int (xs (x4 + 1).toNatClampNeg), .int (xs (x4 + 2).toNatClampNeg), .int (xs (x4 + 3).toNatClampNeg)]) (rest := []) ⟨hx, hb, hml, hown, hts⟩ (c_X3_same l dC dI cB cI cJ cZ b _ mce mfr mun mbe men mov msp mwb mwe mwi mac mre mkn mth (xs (x4 + 1).toNatClampNeg) (xs (x4 + 2).toNatClampNeg) (xs (x4 + 3).toNatClampNeg) r5 g5) (kcwV hts kw_1309 kv_X3_same rfl rfl ⟨(Nat.le_of_ble_eq_true rfl), (Nat.le_of_ble_eq_true rfl)⟩) (kpV (A := A) qP hK qD hG (krecv_5 (q0 := 15) hK hP rfl)) rfl rfl hl.1 rfl (lv_room (Nat.le_of_ble_eq_true rfl)) (kdr dgL_law_1123 9 0 rfl rfl) ⟨by show _ ≤ (600128 : Nat); omega, by show _ ≤ (7301098 : Nat); omega⟩) hP hD hS hA (kFr_l (kFr_r kFr_Mo)) (fun H locs hP hD hS br5 => ?_)
  refine lv_istore (lv' := (kvI 6 r5.1 (kvI 5 r4.1 (kvA 0 b9 (kvA 1 (a 0) (kvA 2 (b 0) (kvA 3 o (kvI 4 x4 kvE)))))))) hx hb (kdr dgL_law_1123 9 1 rfl rfl) hl (by decide) rfl (fun ls hl => ?_)
  refine lv_goto (tgt := 1873) hx hb (kdr dgL_law_1123 9 2 rfl rfl) (by decide) ?_
  exact hK9 ce fr un sb se so sc wb we wo wc fb fe fo fc rm ac rf kn mce mfr mun mbe men mov msp mwb mwe mwi mac mre mkn r5.2 r4.2 ov x4 b _ _ _ _ (by omega) (by omega) hP hD hS ls (lv_sub hl [2, 3, 4, 5, 6] rfl) h
noncomputable def flaw_1254 (L : Nat) (xs : Nat → Int32) (K : kFT) (ce : Nat → Int64) (fr : Int64) (un : Int64) (sb : Nat → Int64) (se : Nat → Int64) (so : Nat → Int32) (sc : Int32) (wb : Nat → Int64) (we : Nat → Int64) (wo : Nat → Int32) (wc : Int32) (fb : Nat → Int64) (fe : Nat → Int64) (fo : Nat → Int32) (fc : Int32) (rm : Nat → Int32) (ac : Int32) (rf : Int32) (kn : Int32) (mce : Nat → Int64) (mfr : Int64) (mun : Int64) (mbe : Nat → Int64) (men : Nat → Int64) (mov : Nat → Int32) (msp : Int32) (mwb : Nat → Int64) (mwe : Nat → Int64) (mwi : Int32) (mac : Int32) (mre : Int32) (mkn : Int32) (mth : Int32) (on : Int64) (x4 : Int32) : Option Int32 :=
  if ix (x4 + 1) L then
    if ix (x4 + 2) L then
      if ix (x4 + 3) L then
        (f_L_apart ce on (xs (x4 + 1).toNatClampNeg) (xs (x4 + 2).toNatClampNeg) (xs (x4 + 3).toNatClampNeg)).bind fun r4 =>
        (f_X3_apart mce (xs (x4 + 1).toNatClampNeg) (xs (x4 + 2).toNatClampNeg) (xs (x4 + 3).toNatClampNeg)).bind fun r5 =>
        K ce fr un sb se so sc wb we wo wc fb fe fo fc rm ac rf kn mce mfr mun mbe men mov msp mwb mwe mwi mac mre mkn r5.2 r4.2 x4
      else none
    else none
  else none
theorem flaw_1254_e {L : Nat} {xs : Nat → Int32} {K : kFT} (ce : Nat → Int64) (fr : Int64) (un : Int64) (sb : Nat → Int64) (se : Nat → Int64) (so : Nat → Int32) (sc : Int32) (wb : Nat → Int64) (we : Nat → Int64) (wo : Nat → Int32) (wc : Int32) (fb : Nat → Int64) (fe : Nat → Int64) (fo : Nat → Int32) (fc : Int32) (rm : Nat → Int32) (ac : Int32) (rf : Int32) (kn : Int32) (mce : Nat → Int64) (mfr : Int64) (mun : Int64) (mbe : Nat → Int64) (men : Nat → Int64) (mov : Nat → Int32) (msp : Int32) (mwb : Nat → Int64) (mwe : Nat → Int64) (mwi : Int32) (mac : Int32) (mre : Int32) (mkn : Int32) (mth : Int32) (on : Int64) (x4 : Int32) : flaw_1254 L xs K ce fr un sb se so sc wb we wo wc fb fe fo fc rm ac rf kn mce mfr mun mbe men mov msp mwb mwe mwi mac mre mkn mth on x4 =
  if ix (x4 + 1) L then
    if ix (x4 + 2) L then
      if ix (x4 + 3) L then
        (f_L_apart ce on (xs (x4 + 1).toNatClampNeg) (xs (x4 + 2).toNatClampNeg) (xs (x4 + 3).toNatClampNeg)).bind fun r4 =>
        (f_X3_apart mce (xs (x4 + 1).toNatClampNeg) (xs (x4 + 2).toNatClampNeg) (xs (x4 + 3).toNatClampNeg)).bind fun r5 =>
        K ce fr un sb se so sc wb we wo wc fb fe fo fc rm ac rf kn mce mfr mun mbe men mov msp mwb mwe mwi mac mre mkn r5.2 r4.2 x4
      else none
    else none
  else none := rfl
set_option maxHeartbeats 8000000 in
set_option maxRecDepth 100000 in
theorem law_23 {p : Program} {l : Launch} {e : Env} {s : State} {m : MethodId} {below : List Frame} {meth : Method} {c : Code} {dC : Nat → ClassId} {dI : Nat → Nat → Nat} {cB cI cJ cZ : ClassId} {b9 L : Nat} {xs : Nat → Int32} {A : Nat → Prop} (hl9 : l.stackTraces = false) (C0 : kLw p s m c b9 L xs A) (hK : va_K (dC, dI) vwCl (kTy cB cI cJ cZ) s) {a : Nat → Nat} {o : Nat} (K : kFT) (bK sK : Nat) (hK9 : kGo p l e s m below meth c dC dI cB cI cJ cZ b9 A a o 1873 bK sK K) : kGo p l e s m below meth c dC dI cB cI cJ cZ b9 A a o 1254 (1 + bK) (6 + sK) (flaw_1254 L xs K) := by
  obtain ⟨hx, hb, hml, hown, hts, hX, hbl, hA, hbA, hG, hZ⟩ := C0
  intro ce fr un sb se so sc wb we wo wc fb fe fo fc rm ac rf kn mce mfr mun mbe men mov msp mwb mwe mwi mac mre mkn mth on ov x4 b H locs kc ks hkc hks hP hD hS ls hl h
  have h := (flaw_1254_e ce fr un sb se so sc wb we wo wc fb fe fo fc rm ac rf kn mce mfr mun mbe men mov msp mwb mwe mwi mac mre mkn mth on x4).symm.trans h
  refine lv_aload_n hx hb (kdr dgL_law_1123 9 3 rfl rfl) rfl (lv_at hl 1 rfl) ?_
  obtain ⟨z0, h⟩ := g_if h
  refine kld (v := 1) hx hb (kdr dgL_law_1123 9 4 rfl rfl) rfl (lv_at hl 0 rfl) (kdr dgL_law_1123 9 5 rfl rfl) (lv_at hl 4 rfl) (kdr dgL_law_1123 9 6 rfl rfl) (by decide) (kdr dgL_law_1123 9 7 rfl rfl) hX hbl hbA hS (ix_in z0) (kdr dgL_law_1123 9 8 rfl rfl) ?_
  obtain ⟨z1, h⟩ := g_if h
  refine kld (v := 2) hx hb (kdr dgL_law_1123 9 9 rfl rfl) rfl (lv_at hl 0 rfl) (kdr dgL_law_1262 0 0 rfl rfl) (lv_at hl 4 rfl) (kdr dgL_law_1262 0 1 rfl rfl) (by decide) (kdr dgL_law_1262 0 2 rfl rfl) hX hbl hbA hS (ix_in z1) (kdr dgL_law_1262 0 3 rfl rfl) ?_
  obtain ⟨z2, h⟩ := g_if h
  refine kld (v := 3) hx hb (kdr dgL_law_1262 0 4 rfl rfl) rfl (lv_at hl 0 rfl) (kdr dgL_law_1262 0 5 rfl rfl) (lv_at hl 4 rfl) (kdr dgL_law_1262 0 6 rfl rfl) (by decide) (kdr dgL_law_1262 0 7 rfl rfl) hX hbl hbA hS (ix_in z2) (kdr dgL_law_1262 0 8 rfl rfl) ?_
  refine lv_aload_n hx hb (kdr dgL_law_1262 0 9 rfl rfl) rfl (lv_at hl 3 rfl) ?_
  obtain ⟨r4, g4, h⟩ := g_b h
  refine kq_i ((wSB cI cJ cZ a ce fr un sb se so sc wb we wo wc fb fe fo fc rm ac rf kn) ++ (wMo cJ cZ b mce mfr mun mbe men mov msp mwb mwe mwi mac mre mkn mth) ++ (wO o r4.2 ov)) (fun qP qD qF => vx_runSW (As := [.ref (a 0), .int (xs (x4 + 1).toNatClampNeg), .int (xs (x4 + 2).toNatClampNeg), .int (xs (x4 + 3).toNatClampNeg), .ref o]) (rest := []) ⟨hx, hb, hml, hown, hts⟩ (c_L_apart l hl9 dC dI cB cI cJ cZ a o _ ce fr un sb se so sc wb we wo wc fb fe fo fc rm ac rf kn on ov (xs (x4 + 1).toNatClampNeg) (xs (x4 + 2).toNatClampNeg) (xs (x4 + 3).toNatClampNeg) r4 g4) (kcwSW hts kw_973 kv_L_apart rfl rfl ⟨(Nat.le_of_ble_eq_true rfl), (Nat.le_of_ble_eq_true rfl)⟩) (kpSXq (A := A) qP hK qD hG hZ hS qF) rfl rfl hl.1 rfl (lv_room (Nat.le_of_ble_eq_true rfl)) (kdr dgL_law_1262 1 0 rfl rfl) ⟨by show _ ≤ (600128 : Nat); omega, by show _ ≤ (7301098 : Nat); omega⟩) hP hD hS hA (kFr_2 (kFr_l kFr_SB) kFr_o) (fun H locs hP hD hS br4 => ?_)
  refine lv_istore (lv' := (kvI 5 r4.1 (kvA 0 b9 (kvA 1 (a 0) (kvA 2 (b 0) (kvA 3 o (kvI 4 x4 kvE))))))) hx hb (kdr dgL_law_1262 1 1 rfl rfl) hl (by decide) rfl (fun ls hl => ?_)
  refine lv_aload_n hx hb (kdr dgL_law_1262 1 2 rfl rfl) rfl (lv_at hl 3 rfl) ?_
  refine kld (v := 1) hx hb (kdr dgL_law_1262 1 3 rfl rfl) rfl (lv_at hl 1 rfl) (kdr dgL_law_1262 1 4 rfl rfl) (lv_at hl 5 rfl) (kdr dgL_law_1262 1 5 rfl rfl) (by decide) (kdr dgL_law_1262 1 6 rfl rfl) hX hbl hbA hS (ix_in z0) (kdr dgL_law_1262 1 7 rfl rfl) ?_
  refine kld (v := 2) hx hb (kdr dgL_law_1262 1 8 rfl rfl) rfl (lv_at hl 1 rfl) (kdr dgL_law_1262 1 9 rfl rfl) (lv_at hl 5 rfl) (kdr dgL_law_1262 2 0 rfl rfl) (by decide) (kdr dgL_law_1262 2 1 rfl rfl) hX hbl hbA hS (ix_in z1) (kdr dgL_law_1262 2 2 rfl rfl) ?_
  refine kld (v := 3) hx hb (kdr dgL_law_1262 2 3 rfl rfl) rfl (lv_at hl 1 rfl) (kdr dgL_law_1262 2 4 rfl rfl) (lv_at hl 5 rfl) (kdr dgL_law_1262 2 5 rfl rfl) (by decide) (kdr dgL_law_1262 2 6 rfl rfl) hX hbl hbA hS (ix_in z2) (kdr dgL_law_1262 2 7 rfl rfl) ?_
  obtain ⟨r5, g5, h⟩ := g_b h
  refine kq_i ((wSB cI cJ cZ a ce fr un sb se so sc wb we wo wc fb fe fo fc rm ac rf kn) ++ (wMo cJ cZ b mce mfr mun mbe men mov msp mwb mwe mwi mac mre mkn r5.2) ++ (wO o r4.2 ov)) (fun qP qD qF => va_runV (As := [.int (xs (x4 + 1).toNatClampNeg), .int (xs (x4 + 2).toNatClampNeg), .int (xs (x4 + 3).toNatClampNeg)]) (rest := []) ⟨hx, hb, hml, hown, hts⟩ (c_X3_apart l dC dI cB cI cJ cZ b _ mce mfr mun mbe men mov msp mwb mwe mwi mac mre mkn mth (xs (x4 + 1).toNatClampNeg) (xs (x4 + 2).toNatClampNeg) (xs (x4 + 3).toNatClampNeg) r5 g5) (kcwV hts kw_1313 kv_X3_apart rfl rfl ⟨(Nat.le_of_ble_eq_true rfl), (Nat.le_of_ble_eq_true rfl)⟩) (kpV (A := A) qP hK qD hG (krecv_5 (q0 := 15) hK hP rfl)) rfl rfl hl.1 rfl (lv_room (Nat.le_of_ble_eq_true rfl)) (kdr dgL_law_1262 2 8 rfl rfl) ⟨by show _ ≤ (600128 : Nat); omega, by show _ ≤ (7301098 : Nat); omega⟩) hP hD hS hA (kFr_l (kFr_r kFr_Mo)) (fun H locs hP hD hS br5 => ?_)
  refine lv_istore (lv' := (kvI 6 r5.1 (kvI 5 r4.1 (kvA 0 b9 (kvA 1 (a 0) (kvA 2 (b 0) (kvA 3 o (kvI 4 x4 kvE)))))))) hx hb (kdr dgL_law_1262 2 9 rfl rfl) hl (by decide) rfl (fun ls hl => ?_)
  refine lv_goto (tgt := 1873) hx hb (kdr dgL_law_1262 3 0 rfl rfl) (by decide) ?_
  exact hK9 ce fr un sb se so sc wb we wo wc fb fe fo fc rm ac rf kn mce mfr mun mbe men mov msp mwb mwe mwi mac mre mkn r5.2 r4.2 ov x4 b _ _ _ _ (by omega) (by omega) hP hD hS ls (lv_sub hl [2, 3, 4, 5, 6] rfl) h
noncomputable def flaw_1306 (L : Nat) (xs : Nat → Int32) (K : kFT) (ce : Nat → Int64) (fr : Int64) (un : Int64) (sb : Nat → Int64) (se : Nat → Int64) (so : Nat → Int32) (sc : Int32) (wb : Nat → Int64) (we : Nat → Int64) (wo : Nat → Int32) (wc : Int32) (fb : Nat → Int64) (fe : Nat → Int64) (fo : Nat → Int32) (fc : Int32) (rm : Nat → Int32) (ac : Int32) (rf : Int32) (kn : Int32) (mce : Nat → Int64) (mfr : Int64) (mun : Int64) (mbe : Nat → Int64) (men : Nat → Int64) (mov : Nat → Int32) (msp : Int32) (mwb : Nat → Int64) (mwe : Nat → Int64) (mwi : Int32) (mac : Int32) (mre : Int32) (mkn : Int32) (mth : Int32) (on : Int64) (x4 : Int32) : Option Int32 :=
  if ix (x4 + 1) L then
    (f_L_calendar fr un on (xs (x4 + 1).toNatClampNeg)).bind fun r2 =>
    (f_X3_calendar mfr mun (xs (x4 + 1).toNatClampNeg)).bind fun r3 =>
    K ce fr un sb se so sc wb we wo wc fb fe fo fc rm ac rf kn mce mfr mun mbe men mov msp mwb mwe mwi mac mre mkn r3.2 r2.2 x4
  else none
theorem flaw_1306_e {L : Nat} {xs : Nat → Int32} {K : kFT} (ce : Nat → Int64) (fr : Int64) (un : Int64) (sb : Nat → Int64) (se : Nat → Int64) (so : Nat → Int32) (sc : Int32) (wb : Nat → Int64) (we : Nat → Int64) (wo : Nat → Int32) (wc : Int32) (fb : Nat → Int64) (fe : Nat → Int64) (fo : Nat → Int32) (fc : Int32) (rm : Nat → Int32) (ac : Int32) (rf : Int32) (kn : Int32) (mce : Nat → Int64) (mfr : Int64) (mun : Int64) (mbe : Nat → Int64) (men : Nat → Int64) (mov : Nat → Int32) (msp : Int32) (mwb : Nat → Int64) (mwe : Nat → Int64) (mwi : Int32) (mac : Int32) (mre : Int32) (mkn : Int32) (mth : Int32) (on : Int64) (x4 : Int32) : flaw_1306 L xs K ce fr un sb se so sc wb we wo wc fb fe fo fc rm ac rf kn mce mfr mun mbe men mov msp mwb mwe mwi mac mre mkn mth on x4 =
  if ix (x4 + 1) L then
    (f_L_calendar fr un on (xs (x4 + 1).toNatClampNeg)).bind fun r2 =>
    (f_X3_calendar mfr mun (xs (x4 + 1).toNatClampNeg)).bind fun r3 =>
    K ce fr un sb se so sc wb we wo wc fb fe fo fc rm ac rf kn mce mfr mun mbe men mov msp mwb mwe mwi mac mre mkn r3.2 r2.2 x4
  else none := rfl
set_option maxHeartbeats 8000000 in
set_option maxRecDepth 100000 in
theorem law_24 {p : Program} {l : Launch} {e : Env} {s : State} {m : MethodId} {below : List Frame} {meth : Method} {c : Code} {dC : Nat → ClassId} {dI : Nat → Nat → Nat} {cB cI cJ cZ : ClassId} {b9 L : Nat} {xs : Nat → Int32} {A : Nat → Prop} (hl9 : l.stackTraces = false) (C0 : kLw p s m c b9 L xs A) (hK : va_K (dC, dI) vwCl (kTy cB cI cJ cZ) s) {a : Nat → Nat} {o : Nat} (K : kFT) (bK sK : Nat) (hK9 : kGo p l e s m below meth c dC dI cB cI cJ cZ b9 A a o 1873 bK sK K) : kGo p l e s m below meth c dC dI cB cI cJ cZ b9 A a o 1306 (1 + bK) (6 + sK) (flaw_1306 L xs K) := by
  obtain ⟨hx, hb, hml, hown, hts, hX, hbl, hA, hbA, hG, hZ⟩ := C0
  intro ce fr un sb se so sc wb we wo wc fb fe fo fc rm ac rf kn mce mfr mun mbe men mov msp mwb mwe mwi mac mre mkn mth on ov x4 b H locs kc ks hkc hks hP hD hS ls hl h
  have h := (flaw_1306_e ce fr un sb se so sc wb we wo wc fb fe fo fc rm ac rf kn mce mfr mun mbe men mov msp mwb mwe mwi mac mre mkn mth on x4).symm.trans h
  refine lv_aload_n hx hb (kdr dgL_law_1262 3 1 rfl rfl) rfl (lv_at hl 1 rfl) ?_
  obtain ⟨z0, h⟩ := g_if h
  refine kld (v := 1) hx hb (kdr dgL_law_1262 3 2 rfl rfl) rfl (lv_at hl 0 rfl) (kdr dgL_law_1262 3 3 rfl rfl) (lv_at hl 4 rfl) (kdr dgL_law_1262 3 4 rfl rfl) (by decide) (kdr dgL_law_1262 3 5 rfl rfl) hX hbl hbA hS (ix_in z0) (kdr dgL_law_1262 3 6 rfl rfl) ?_
  refine lv_aload_n hx hb (kdr dgL_law_1262 3 7 rfl rfl) rfl (lv_at hl 3 rfl) ?_
  obtain ⟨r2, g2, h⟩ := g_b h
  refine kq_i ((wSB cI cJ cZ a ce fr un sb se so sc wb we wo wc fb fe fo fc rm ac rf kn) ++ (wMo cJ cZ b mce mfr mun mbe men mov msp mwb mwe mwi mac mre mkn mth) ++ (wO o r2.2 ov)) (fun qP qD qF => vx_runSW (As := [.ref (a 0), .int (xs (x4 + 1).toNatClampNeg), .ref o]) (rest := []) ⟨hx, hb, hml, hown, hts⟩ (c_L_calendar l hl9 dC dI cB cI cJ cZ a o _ ce fr un sb se so sc wb we wo wc fb fe fo fc rm ac rf kn on ov (xs (x4 + 1).toNatClampNeg) r2 g2) (kcwSW hts kw_980 kv_L_calendar rfl rfl ⟨(Nat.le_of_ble_eq_true rfl), (Nat.le_of_ble_eq_true rfl)⟩) (kpSXq (A := A) qP hK qD hG hZ hS qF) rfl rfl hl.1 rfl (lv_room (Nat.le_of_ble_eq_true rfl)) (kdr dgL_law_1262 3 8 rfl rfl) ⟨by show _ ≤ (600128 : Nat); omega, by show _ ≤ (7301098 : Nat); omega⟩) hP hD hS hA (kFr_2 (kFr_l kFr_SB) kFr_o) (fun H locs hP hD hS br2 => ?_)
  refine lv_istore (lv' := (kvI 5 r2.1 (kvA 0 b9 (kvA 1 (a 0) (kvA 2 (b 0) (kvA 3 o (kvI 4 x4 kvE))))))) hx hb (kdr dgL_law_1262 3 9 rfl rfl) hl (by decide) rfl (fun ls hl => ?_)
  refine lv_aload_n hx hb (kdr dgL_law_1262 4 0 rfl rfl) rfl (lv_at hl 3 rfl) ?_
  refine kld (v := 1) hx hb (kdr dgL_law_1262 4 1 rfl rfl) rfl (lv_at hl 1 rfl) (kdr dgL_law_1262 4 2 rfl rfl) (lv_at hl 5 rfl) (kdr dgL_law_1262 4 3 rfl rfl) (by decide) (kdr dgL_law_1262 4 4 rfl rfl) hX hbl hbA hS (ix_in z0) (kdr dgL_law_1262 4 5 rfl rfl) ?_
  obtain ⟨r3, g3, h⟩ := g_b h
  refine kq_i ((wSB cI cJ cZ a ce fr un sb se so sc wb we wo wc fb fe fo fc rm ac rf kn) ++ (wMo cJ cZ b mce mfr mun mbe men mov msp mwb mwe mwi mac mre mkn r3.2) ++ (wO o r2.2 ov)) (fun qP qD qF => va_runV (As := [.int (xs (x4 + 1).toNatClampNeg)]) (rest := []) ⟨hx, hb, hml, hown, hts⟩ (c_X3_calendar l dC dI cB cI cJ cZ b _ mce mfr mun mbe men mov msp mwb mwe mwi mac mre mkn mth (xs (x4 + 1).toNatClampNeg) r3 g3) (kcwV hts kw_1320 kv_X3_calendar rfl rfl ⟨(Nat.le_of_ble_eq_true rfl), (Nat.le_of_ble_eq_true rfl)⟩) (kpV (A := A) qP hK qD hG (krecv_5 (q0 := 15) hK hP rfl)) rfl rfl hl.1 rfl (lv_room (Nat.le_of_ble_eq_true rfl)) (kdr dgL_law_1262 4 6 rfl rfl) ⟨by show _ ≤ (600128 : Nat); omega, by show _ ≤ (7301098 : Nat); omega⟩) hP hD hS hA (kFr_l (kFr_r kFr_Mo)) (fun H locs hP hD hS br3 => ?_)
  refine lv_istore (lv' := (kvI 6 r3.1 (kvI 5 r2.1 (kvA 0 b9 (kvA 1 (a 0) (kvA 2 (b 0) (kvA 3 o (kvI 4 x4 kvE)))))))) hx hb (kdr dgL_law_1262 4 7 rfl rfl) hl (by decide) rfl (fun ls hl => ?_)
  refine lv_goto (tgt := 1873) hx hb (kdr dgL_law_1262 4 8 rfl rfl) (by decide) ?_
  exact hK9 ce fr un sb se so sc wb we wo wc fb fe fo fc rm ac rf kn mce mfr mun mbe men mov msp mwb mwe mwi mac mre mkn r3.2 r2.2 ov x4 b _ _ _ _ (by omega) (by omega) hP hD hS ls (lv_sub hl [2, 3, 4, 5, 6] rfl) h
noncomputable def flaw_1334 (L : Nat) (xs : Nat → Int32) (K : kFT) (ce : Nat → Int64) (fr : Int64) (un : Int64) (sb : Nat → Int64) (se : Nat → Int64) (so : Nat → Int32) (sc : Int32) (wb : Nat → Int64) (we : Nat → Int64) (wo : Nat → Int32) (wc : Int32) (fb : Nat → Int64) (fe : Nat → Int64) (fo : Nat → Int32) (fc : Int32) (rm : Nat → Int32) (ac : Int32) (rf : Int32) (kn : Int32) (mce : Nat → Int64) (mfr : Int64) (mun : Int64) (mbe : Nat → Int64) (men : Nat → Int64) (mov : Nat → Int32) (msp : Int32) (mwb : Nat → Int64) (mwe : Nat → Int64) (mwi : Int32) (mac : Int32) (mre : Int32) (mkn : Int32) (mth : Int32) (on : Int64) (x4 : Int32) : Option Int32 :=
  (f_X1_spans sc).bind fun r1 =>
  (f_X3_spans msp).bind fun r2 =>
  K ce fr un sb se so sc wb we wo wc fb fe fo fc rm ac rf kn mce mfr mun mbe men mov msp mwb mwe mwi mac mre mkn r2.2 on x4
theorem flaw_1334_e {L : Nat} {xs : Nat → Int32} {K : kFT} (ce : Nat → Int64) (fr : Int64) (un : Int64) (sb : Nat → Int64) (se : Nat → Int64) (so : Nat → Int32) (sc : Int32) (wb : Nat → Int64) (we : Nat → Int64) (wo : Nat → Int32) (wc : Int32) (fb : Nat → Int64) (fe : Nat → Int64) (fo : Nat → Int32) (fc : Int32) (rm : Nat → Int32) (ac : Int32) (rf : Int32) (kn : Int32) (mce : Nat → Int64) (mfr : Int64) (mun : Int64) (mbe : Nat → Int64) (men : Nat → Int64) (mov : Nat → Int32) (msp : Int32) (mwb : Nat → Int64) (mwe : Nat → Int64) (mwi : Int32) (mac : Int32) (mre : Int32) (mkn : Int32) (mth : Int32) (on : Int64) (x4 : Int32) : flaw_1334 L xs K ce fr un sb se so sc wb we wo wc fb fe fo fc rm ac rf kn mce mfr mun mbe men mov msp mwb mwe mwi mac mre mkn mth on x4 =
  (f_X1_spans sc).bind fun r1 =>
  (f_X3_spans msp).bind fun r2 =>
  K ce fr un sb se so sc wb we wo wc fb fe fo fc rm ac rf kn mce mfr mun mbe men mov msp mwb mwe mwi mac mre mkn r2.2 on x4 := rfl
set_option maxHeartbeats 8000000 in
set_option maxRecDepth 100000 in
theorem law_25 {p : Program} {l : Launch} {e : Env} {s : State} {m : MethodId} {below : List Frame} {meth : Method} {c : Code} {dC : Nat → ClassId} {dI : Nat → Nat → Nat} {cB cI cJ cZ : ClassId} {b9 L : Nat} {xs : Nat → Int32} {A : Nat → Prop} (hl9 : l.stackTraces = false) (C0 : kLw p s m c b9 L xs A) (hK : va_K (dC, dI) vwCl (kTy cB cI cJ cZ) s) {a : Nat → Nat} {o : Nat} (K : kFT) (bK sK : Nat) (hK9 : kGo p l e s m below meth c dC dI cB cI cJ cZ b9 A a o 1873 bK sK K) : kGo p l e s m below meth c dC dI cB cI cJ cZ b9 A a o 1334 (0 + bK) (0 + sK) (flaw_1334 L xs K) := by
  obtain ⟨hx, hb, hml, hown, hts, hX, hbl, hA, hbA, hG, hZ⟩ := C0
  intro ce fr un sb se so sc wb we wo wc fb fe fo fc rm ac rf kn mce mfr mun mbe men mov msp mwb mwe mwi mac mre mkn mth on ov x4 b H locs kc ks hkc hks hP hD hS ls hl h
  have h := (flaw_1334_e ce fr un sb se so sc wb we wo wc fb fe fo fc rm ac rf kn mce mfr mun mbe men mov msp mwb mwe mwi mac mre mkn mth on x4).symm.trans h
  refine lv_aload_n hx hb (kdr dgL_law_1262 4 9 rfl rfl) rfl (lv_at hl 1 rfl) ?_
  obtain ⟨r1, g1, h⟩ := g_b h
  refine kq_i ((wSB cI cJ cZ a ce fr un sb se so sc wb we wo wc fb fe fo fc rm ac rf kn) ++ (wMo cJ cZ b mce mfr mun mbe men mov msp mwb mwe mwi mac mre mkn mth) ++ (wO o on ov)) (fun qP qD qF => va_runV (As := []) (rest := []) ⟨hx, hb, hml, hown, hts⟩ (c_X1_spans l dC dI cB cI cJ cZ a _ ce fr un sb se so sc wb we wo wc fb fe fo fc rm ac rf kn  r1 g1) (kcwV hts kw_151 kv_X1_spans rfl rfl ⟨(Nat.le_of_ble_eq_true rfl), (Nat.le_of_ble_eq_true rfl)⟩) (kpV (A := A) qP hK qD hG (krecv_3 (q0 := 0) hK hP rfl)) rfl rfl hl.1 rfl (lv_room (Nat.le_of_ble_eq_true rfl)) (kdr dgL_law_1262 5 0 rfl rfl) ⟨by show _ ≤ (600128 : Nat); omega, by show _ ≤ (7301098 : Nat); omega⟩) hP hD hS hA (kFr_l (kFr_l kFr_SB)) (fun H locs hP hD hS br1 => ?_)
  refine lv_pop hx hb (kdr dgL_law_1262 5 1 rfl rfl) rfl ?_
  refine lv_aload_n hx hb (kdr dgL_law_1262 5 2 rfl rfl) rfl (lv_at hl 2 rfl) ?_
  obtain ⟨r2, g2, h⟩ := g_b h
  refine kq_i ((wSB cI cJ cZ a ce fr un sb se so sc wb we wo wc fb fe fo fc rm ac rf kn) ++ (wMo cJ cZ b mce mfr mun mbe men mov msp mwb mwe mwi mac mre mkn r2.2) ++ (wO o on ov)) (fun qP qD qF => va_runV (As := []) (rest := []) ⟨hx, hb, hml, hown, hts⟩ (c_X3_spans l dC dI cB cI cJ cZ b _ mce mfr mun mbe men mov msp mwb mwe mwi mac mre mkn mth  r2 g2) (kcwV hts kw_1324 kv_X3_spans rfl rfl ⟨(Nat.le_of_ble_eq_true rfl), (Nat.le_of_ble_eq_true rfl)⟩) (kpV (A := A) qP hK qD hG (krecv_5 (q0 := 15) hK hP rfl)) rfl rfl hl.1 rfl (lv_room (Nat.le_of_ble_eq_true rfl)) (kdr dgL_law_1262 5 3 rfl rfl) ⟨by show _ ≤ (600128 : Nat); omega, by show _ ≤ (7301098 : Nat); omega⟩) hP hD hS hA (kFr_l (kFr_r kFr_Mo)) (fun H locs hP hD hS br2 => ?_)
  refine lv_pop hx hb (kdr dgL_law_1262 5 4 rfl rfl) rfl ?_
  refine lv_goto (tgt := 1873) hx hb (kdr dgL_law_1262 5 5 rfl rfl) (by decide) ?_
  exact hK9 ce fr un sb se so sc wb we wo wc fb fe fo fc rm ac rf kn mce mfr mun mbe men mov msp mwb mwe mwi mac mre mkn r2.2 on ov x4 b _ _ _ _ (by omega) (by omega) hP hD hS ls (lv_sub hl [0, 1, 2, 3, 4] rfl) h
noncomputable def flaw_1347 (L : Nat) (xs : Nat → Int32) (K : kFT) (ce : Nat → Int64) (fr : Int64) (un : Int64) (sb : Nat → Int64) (se : Nat → Int64) (so : Nat → Int32) (sc : Int32) (wb : Nat → Int64) (we : Nat → Int64) (wo : Nat → Int32) (wc : Int32) (fb : Nat → Int64) (fe : Nat → Int64) (fo : Nat → Int32) (fc : Int32) (rm : Nat → Int32) (ac : Int32) (rf : Int32) (kn : Int32) (mce : Nat → Int64) (mfr : Int64) (mun : Int64) (mbe : Nat → Int64) (men : Nat → Int64) (mov : Nat → Int32) (msp : Int32) (mwb : Nat → Int64) (mwe : Nat → Int64) (mwi : Int32) (mac : Int32) (mre : Int32) (mkn : Int32) (mth : Int32) (on : Int64) (x4 : Int32) : Option Int32 :=
  if ix (x4 + 1) L then
    if ix (x4 + 2) L then
      (f_L_ofSpan sb se so sc on (xs (x4 + 1).toNatClampNeg) (xs (x4 + 2).toNatClampNeg)).bind fun r3 =>
      (f_X3_ofSpan mbe men mov msp (xs (x4 + 1).toNatClampNeg) (xs (x4 + 2).toNatClampNeg)).bind fun r4 =>
      K ce fr un sb se so sc wb we wo wc fb fe fo fc rm ac rf kn mce mfr mun mbe men mov msp mwb mwe mwi mac mre mkn r4.2 r3.2 x4
    else none
  else none
theorem flaw_1347_e {L : Nat} {xs : Nat → Int32} {K : kFT} (ce : Nat → Int64) (fr : Int64) (un : Int64) (sb : Nat → Int64) (se : Nat → Int64) (so : Nat → Int32) (sc : Int32) (wb : Nat → Int64) (we : Nat → Int64) (wo : Nat → Int32) (wc : Int32) (fb : Nat → Int64) (fe : Nat → Int64) (fo : Nat → Int32) (fc : Int32) (rm : Nat → Int32) (ac : Int32) (rf : Int32) (kn : Int32) (mce : Nat → Int64) (mfr : Int64) (mun : Int64) (mbe : Nat → Int64) (men : Nat → Int64) (mov : Nat → Int32) (msp : Int32) (mwb : Nat → Int64) (mwe : Nat → Int64) (mwi : Int32) (mac : Int32) (mre : Int32) (mkn : Int32) (mth : Int32) (on : Int64) (x4 : Int32) : flaw_1347 L xs K ce fr un sb se so sc wb we wo wc fb fe fo fc rm ac rf kn mce mfr mun mbe men mov msp mwb mwe mwi mac mre mkn mth on x4 =
  if ix (x4 + 1) L then
    if ix (x4 + 2) L then
      (f_L_ofSpan sb se so sc on (xs (x4 + 1).toNatClampNeg) (xs (x4 + 2).toNatClampNeg)).bind fun r3 =>
      (f_X3_ofSpan mbe men mov msp (xs (x4 + 1).toNatClampNeg) (xs (x4 + 2).toNatClampNeg)).bind fun r4 =>
      K ce fr un sb se so sc wb we wo wc fb fe fo fc rm ac rf kn mce mfr mun mbe men mov msp mwb mwe mwi mac mre mkn r4.2 r3.2 x4
    else none
  else none := rfl
set_option maxHeartbeats 8000000 in
set_option maxRecDepth 100000 in
theorem law_26 {p : Program} {l : Launch} {e : Env} {s : State} {m : MethodId} {below : List Frame} {meth : Method} {c : Code} {dC : Nat → ClassId} {dI : Nat → Nat → Nat} {cB cI cJ cZ : ClassId} {b9 L : Nat} {xs : Nat → Int32} {A : Nat → Prop} (hl9 : l.stackTraces = false) (C0 : kLw p s m c b9 L xs A) (hK : va_K (dC, dI) vwCl (kTy cB cI cJ cZ) s) {a : Nat → Nat} {o : Nat} (K : kFT) (bK sK : Nat) (hK9 : kGo p l e s m below meth c dC dI cB cI cJ cZ b9 A a o 1873 bK sK K) : kGo p l e s m below meth c dC dI cB cI cJ cZ b9 A a o 1347 (1 + bK) (6 + sK) (flaw_1347 L xs K) := by
  obtain ⟨hx, hb, hml, hown, hts, hX, hbl, hA, hbA, hG, hZ⟩ := C0
  intro ce fr un sb se so sc wb we wo wc fb fe fo fc rm ac rf kn mce mfr mun mbe men mov msp mwb mwe mwi mac mre mkn mth on ov x4 b H locs kc ks hkc hks hP hD hS ls hl h
  have h := (flaw_1347_e ce fr un sb se so sc wb we wo wc fb fe fo fc rm ac rf kn mce mfr mun mbe men mov msp mwb mwe mwi mac mre mkn mth on x4).symm.trans h
  refine lv_aload_n hx hb (kdr dgL_law_1262 5 6 rfl rfl) rfl (lv_at hl 1 rfl) ?_
  obtain ⟨z0, h⟩ := g_if h
  refine kld (v := 1) hx hb (kdr dgL_law_1262 5 7 rfl rfl) rfl (lv_at hl 0 rfl) (kdr dgL_law_1262 5 8 rfl rfl) (lv_at hl 4 rfl) (kdr dgL_law_1262 5 9 rfl rfl) (by decide) (kdr dgL_law_1262 6 0 rfl rfl) hX hbl hbA hS (ix_in z0) (kdr dgL_law_1262 6 1 rfl rfl) ?_
  obtain ⟨z1, h⟩ := g_if h
  refine kld (v := 2) hx hb (kdr dgL_law_1262 6 2 rfl rfl) rfl (lv_at hl 0 rfl) (kdr dgL_law_1262 6 3 rfl rfl) (lv_at hl 4 rfl) (kdr dgL_law_1262 6 4 rfl rfl) (by decide) (kdr dgL_law_1262 6 5 rfl rfl) hX hbl hbA hS (ix_in z1) (kdr dgL_law_1262 6 6 rfl rfl) ?_
  refine lv_aload_n hx hb (kdr dgL_law_1262 6 7 rfl rfl) rfl (lv_at hl 3 rfl) ?_
  obtain ⟨r3, g3, h⟩ := g_b h
  refine kq_i ((wSB cI cJ cZ a ce fr un sb se so sc wb we wo wc fb fe fo fc rm ac rf kn) ++ (wMo cJ cZ b mce mfr mun mbe men mov msp mwb mwe mwi mac mre mkn mth) ++ (wO o r3.2 ov)) (fun qP qD qF => vx_runSW (As := [.ref (a 0), .int (xs (x4 + 1).toNatClampNeg), .int (xs (x4 + 2).toNatClampNeg), .ref o]) (rest := []) ⟨hx, hb, hml, hown, hts⟩ (c_L_ofSpan l hl9 dC dI cB cI cJ cZ a o _ ce fr un sb se so sc wb we wo wc fb fe fo fc rm ac rf kn on ov (xs (x4 + 1).toNatClampNeg) (xs (x4 + 2).toNatClampNeg) r3 g3) (kcwSW hts kw_984 kv_L_ofSpan rfl rfl ⟨(Nat.le_of_ble_eq_true rfl), (Nat.le_of_ble_eq_true rfl)⟩) (kpSXq (A := A) qP hK qD hG hZ hS qF) rfl rfl hl.1 rfl (lv_room (Nat.le_of_ble_eq_true rfl)) (kdr dgL_law_1262 6 8 rfl rfl) ⟨by show _ ≤ (600128 : Nat); omega, by show _ ≤ (7301098 : Nat); omega⟩) hP hD hS hA (kFr_2 (kFr_l kFr_SB) kFr_o) (fun H locs hP hD hS br3 => ?_)
  refine lv_istore (lv' := (kvI 5 r3.1 (kvA 0 b9 (kvA 1 (a 0) (kvA 2 (b 0) (kvA 3 o (kvI 4 x4 kvE))))))) hx hb (kdr dgL_law_1262 6 9 rfl rfl) hl (by decide) rfl (fun ls hl => ?_)
  refine lv_aload_n hx hb (kdr dgL_law_1262 7 0 rfl rfl) rfl (lv_at hl 3 rfl) ?_
  refine kld (v := 1) hx hb (kdr dgL_law_1262 7 1 rfl rfl) rfl (lv_at hl 1 rfl) (kdr dgL_law_1262 7 2 rfl rfl) (lv_at hl 5 rfl) (kdr dgL_law_1262 7 3 rfl rfl) (by decide) (kdr dgL_law_1262 7 4 rfl rfl) hX hbl hbA hS (ix_in z0) (kdr dgL_law_1262 7 5 rfl rfl) ?_
  refine kld (v := 2) hx hb (kdr dgL_law_1262 7 6 rfl rfl) rfl (lv_at hl 1 rfl) (kdr dgL_law_1262 7 7 rfl rfl) (lv_at hl 5 rfl) (kdr dgL_law_1262 7 8 rfl rfl) (by decide) (kdr dgL_law_1262 7 9 rfl rfl) hX hbl hbA hS (ix_in z1) (kdr dgL_law_1262 8 0 rfl rfl) ?_
  obtain ⟨r4, g4, h⟩ := g_b h
  refine kq_i ((wSB cI cJ cZ a ce fr un sb se so sc wb we wo wc fb fe fo fc rm ac rf kn) ++ (wMo cJ cZ b mce mfr mun mbe men mov msp mwb mwe mwi mac mre mkn r4.2) ++ (wO o r3.2 ov)) (fun qP qD qF => va_runV (As := [.int (xs (x4 + 1).toNatClampNeg), .int (xs (x4 + 2).toNatClampNeg)]) (rest := []) ⟨hx, hb, hml, hown, hts⟩ (c_X3_ofSpan l dC dI cB cI cJ cZ b _ mce mfr mun mbe men mov msp mwb mwe mwi mac mre mkn mth (xs (x4 + 1).toNatClampNeg) (xs (x4 + 2).toNatClampNeg) r4 g4) (kcwV hts kw_1328 kv_X3_ofSpan rfl rfl ⟨(Nat.le_of_ble_eq_true rfl), (Nat.le_of_ble_eq_true rfl)⟩) (kpV (A := A) qP hK qD hG (krecv_5 (q0 := 15) hK hP rfl)) rfl rfl hl.1 rfl (lv_room (Nat.le_of_ble_eq_true rfl)) (kdr dgL_law_1262 8 1 rfl rfl) ⟨by show _ ≤ (600128 : Nat); omega, by show _ ≤ (7301098 : Nat); omega⟩) hP hD hS hA (kFr_l (kFr_r kFr_Mo)) (fun H locs hP hD hS br4 => ?_)
  refine lv_istore (lv' := (kvI 6 r4.1 (kvI 5 r3.1 (kvA 0 b9 (kvA 1 (a 0) (kvA 2 (b 0) (kvA 3 o (kvI 4 x4 kvE)))))))) hx hb (kdr dgL_law_1262 8 2 rfl rfl) hl (by decide) rfl (fun ls hl => ?_)
  refine lv_goto (tgt := 1873) hx hb (kdr dgL_law_1262 8 3 rfl rfl) (by decide) ?_
  exact hK9 ce fr un sb se so sc wb we wo wc fb fe fo fc rm ac rf kn mce mfr mun mbe men mov msp mwb mwe mwi mac mre mkn r4.2 r3.2 ov x4 b _ _ _ _ (by omega) (by omega) hP hD hS ls (lv_sub hl [2, 3, 4, 5, 6] rfl) h
noncomputable def flaw_1387 (L : Nat) (xs : Nat → Int32) (K : kFT) (ce : Nat → Int64) (fr : Int64) (un : Int64) (sb : Nat → Int64) (se : Nat → Int64) (so : Nat → Int32) (sc : Int32) (wb : Nat → Int64) (we : Nat → Int64) (wo : Nat → Int32) (wc : Int32) (fb : Nat → Int64) (fe : Nat → Int64) (fo : Nat → Int32) (fc : Int32) (rm : Nat → Int32) (ac : Int32) (rf : Int32) (kn : Int32) (mce : Nat → Int64) (mfr : Int64) (mun : Int64) (mbe : Nat → Int64) (men : Nat → Int64) (mov : Nat → Int32) (msp : Int32) (mwb : Nat → Int64) (mwe : Nat → Int64) (mwi : Int32) (mac : Int32) (mre : Int32) (mkn : Int32) (mth : Int32) (on : Int64) (x4 : Int32) : Option Int32 :=
  if ix (x4 + 1) L then
    if ix (x4 + 2) L then
      (f_L_meets sb se sc on (xs (x4 + 1).toNatClampNeg) (xs (x4 + 2).toNatClampNeg)).bind fun r3 =>
      (f_X3_meets mbe men msp (xs (x4 + 1).toNatClampNeg) (xs (x4 + 2).toNatClampNeg)).bind fun r4 =>
      K ce fr un sb se so sc wb we wo wc fb fe fo fc rm ac rf kn mce mfr mun mbe men mov msp mwb mwe mwi mac mre mkn r4.2 r3.2 x4
    else none
  else none
theorem flaw_1387_e {L : Nat} {xs : Nat → Int32} {K : kFT} (ce : Nat → Int64) (fr : Int64) (un : Int64) (sb : Nat → Int64) (se : Nat → Int64) (so : Nat → Int32) (sc : Int32) (wb : Nat → Int64) (we : Nat → Int64) (wo : Nat → Int32) (wc : Int32) (fb : Nat → Int64) (fe : Nat → Int64) (fo : Nat → Int32) (fc : Int32) (rm : Nat → Int32) (ac : Int32) (rf : Int32) (kn : Int32) (mce : Nat → Int64) (mfr : Int64) (mun : Int64) (mbe : Nat → Int64) (men : Nat → Int64) (mov : Nat → Int32) (msp : Int32) (mwb : Nat → Int64) (mwe : Nat → Int64) (mwi : Int32) (mac : Int32) (mre : Int32) (mkn : Int32) (mth : Int32) (on : Int64) (x4 : Int32) : flaw_1387 L xs K ce fr un sb se so sc wb we wo wc fb fe fo fc rm ac rf kn mce mfr mun mbe men mov msp mwb mwe mwi mac mre mkn mth on x4 =
  if ix (x4 + 1) L then
    if ix (x4 + 2) L then
      (f_L_meets sb se sc on (xs (x4 + 1).toNatClampNeg) (xs (x4 + 2).toNatClampNeg)).bind fun r3 =>
      (f_X3_meets mbe men msp (xs (x4 + 1).toNatClampNeg) (xs (x4 + 2).toNatClampNeg)).bind fun r4 =>
      K ce fr un sb se so sc wb we wo wc fb fe fo fc rm ac rf kn mce mfr mun mbe men mov msp mwb mwe mwi mac mre mkn r4.2 r3.2 x4
    else none
  else none := rfl
set_option maxHeartbeats 8000000 in
set_option maxRecDepth 100000 in
theorem law_27 {p : Program} {l : Launch} {e : Env} {s : State} {m : MethodId} {below : List Frame} {meth : Method} {c : Code} {dC : Nat → ClassId} {dI : Nat → Nat → Nat} {cB cI cJ cZ : ClassId} {b9 L : Nat} {xs : Nat → Int32} {A : Nat → Prop} (hl9 : l.stackTraces = false) (C0 : kLw p s m c b9 L xs A) (hK : va_K (dC, dI) vwCl (kTy cB cI cJ cZ) s) {a : Nat → Nat} {o : Nat} (K : kFT) (bK sK : Nat) (hK9 : kGo p l e s m below meth c dC dI cB cI cJ cZ b9 A a o 1873 bK sK K) : kGo p l e s m below meth c dC dI cB cI cJ cZ b9 A a o 1387 (1 + bK) (6 + sK) (flaw_1387 L xs K) := by
  obtain ⟨hx, hb, hml, hown, hts, hX, hbl, hA, hbA, hG, hZ⟩ := C0
  intro ce fr un sb se so sc wb we wo wc fb fe fo fc rm ac rf kn mce mfr mun mbe men mov msp mwb mwe mwi mac mre mkn mth on ov x4 b H locs kc ks hkc hks hP hD hS ls hl h
  have h := (flaw_1387_e ce fr un sb se so sc wb we wo wc fb fe fo fc rm ac rf kn mce mfr mun mbe men mov msp mwb mwe mwi mac mre mkn mth on x4).symm.trans h
  refine lv_aload_n hx hb (kdr dgL_law_1262 8 4 rfl rfl) rfl (lv_at hl 1 rfl) ?_
  obtain ⟨z0, h⟩ := g_if h
  refine kld (v := 1) hx hb (kdr dgL_law_1262 8 5 rfl rfl) rfl (lv_at hl 0 rfl) (kdr dgL_law_1262 8 6 rfl rfl) (lv_at hl 4 rfl) (kdr dgL_law_1262 8 7 rfl rfl) (by decide) (kdr dgL_law_1262 8 8 rfl rfl) hX hbl hbA hS (ix_in z0) (kdr dgL_law_1262 8 9 rfl rfl) ?_
  obtain ⟨z1, h⟩ := g_if h
  refine kld (v := 2) hx hb (kdr dgL_law_1262 9 0 rfl rfl) rfl (lv_at hl 0 rfl) (kdr dgL_law_1262 9 1 rfl rfl) (lv_at hl 4 rfl) (kdr dgL_law_1262 9 2 rfl rfl) (by decide) (kdr dgL_law_1262 9 3 rfl rfl) hX hbl hbA hS (ix_in z1) (kdr dgL_law_1262 9 4 rfl rfl) ?_
  refine lv_aload_n hx hb (kdr dgL_law_1262 9 5 rfl rfl) rfl (lv_at hl 3 rfl) ?_
  obtain ⟨r3, g3, h⟩ := g_b h
  refine kq_i ((wSB cI cJ cZ a ce fr un sb se so sc wb we wo wc fb fe fo fc rm ac rf kn) ++ (wMo cJ cZ b mce mfr mun mbe men mov msp mwb mwe mwi mac mre mkn mth) ++ (wO o r3.2 ov)) (fun qP qD qF => vx_runSW (As := [.ref (a 0), .int (xs (x4 + 1).toNatClampNeg), .int (xs (x4 + 2).toNatClampNeg), .ref o]) (rest := []) ⟨hx, hb, hml, hown, hts⟩ (c_L_meets l hl9 dC dI cB cI cJ cZ a o _ ce fr un sb se so sc wb we wo wc fb fe fo fc rm ac rf kn on ov (xs (x4 + 1).toNatClampNeg) (xs (x4 + 2).toNatClampNeg) r3 g3) (kcwSW hts kw_991 kv_L_meets rfl rfl ⟨(Nat.le_of_ble_eq_true rfl), (Nat.le_of_ble_eq_true rfl)⟩) (kpSXq (A := A) qP hK qD hG hZ hS qF) rfl rfl hl.1 rfl (lv_room (Nat.le_of_ble_eq_true rfl)) (kdr dgL_law_1262 9 6 rfl rfl) ⟨by show _ ≤ (600128 : Nat); omega, by show _ ≤ (7301098 : Nat); omega⟩) hP hD hS hA (kFr_2 (kFr_l kFr_SB) kFr_o) (fun H locs hP hD hS br3 => ?_)
  refine lv_istore (lv' := (kvI 5 r3.1 (kvA 0 b9 (kvA 1 (a 0) (kvA 2 (b 0) (kvA 3 o (kvI 4 x4 kvE))))))) hx hb (kdr dgL_law_1262 9 7 rfl rfl) hl (by decide) rfl (fun ls hl => ?_)
  refine lv_aload_n hx hb (kdr dgL_law_1262 9 8 rfl rfl) rfl (lv_at hl 3 rfl) ?_
  refine kld (v := 1) hx hb (kdr dgL_law_1262 9 9 rfl rfl) rfl (lv_at hl 1 rfl) (kdr dgL_law_1408 0 0 rfl rfl) (lv_at hl 5 rfl) (kdr dgL_law_1408 0 1 rfl rfl) (by decide) (kdr dgL_law_1408 0 2 rfl rfl) hX hbl hbA hS (ix_in z0) (kdr dgL_law_1408 0 3 rfl rfl) ?_
  refine kld (v := 2) hx hb (kdr dgL_law_1408 0 4 rfl rfl) rfl (lv_at hl 1 rfl) (kdr dgL_law_1408 0 5 rfl rfl) (lv_at hl 5 rfl) (kdr dgL_law_1408 0 6 rfl rfl) (by decide) (kdr dgL_law_1408 0 7 rfl rfl) hX hbl hbA hS (ix_in z1) (kdr dgL_law_1408 0 8 rfl rfl) ?_
  obtain ⟨r4, g4, h⟩ := g_b h
  refine kq_i ((wSB cI cJ cZ a ce fr un sb se so sc wb we wo wc fb fe fo fc rm ac rf kn) ++ (wMo cJ cZ b mce mfr mun mbe men mov msp mwb mwe mwi mac mre mkn r4.2) ++ (wO o r3.2 ov)) (fun qP qD qF => va_runV (As := [.int (xs (x4 + 1).toNatClampNeg), .int (xs (x4 + 2).toNatClampNeg)]) (rest := []) ⟨hx, hb, hml, hown, hts⟩ (c_X3_meets l dC dI cB cI cJ cZ b _ mce mfr mun mbe men mov msp mwb mwe mwi mac mre mkn mth (xs (x4 + 1).toNatClampNeg) (xs (x4 + 2).toNatClampNeg) r4 g4) (kcwV hts kw_1332 kv_X3_meets rfl rfl ⟨(Nat.le_of_ble_eq_true rfl), (Nat.le_of_ble_eq_true rfl)⟩) (kpV (A := A) qP hK qD hG (krecv_5 (q0 := 15) hK hP rfl)) rfl rfl hl.1 rfl (lv_room (Nat.le_of_ble_eq_true rfl)) (kdr dgL_law_1408 0 9 rfl rfl) ⟨by show _ ≤ (600128 : Nat); omega, by show _ ≤ (7301098 : Nat); omega⟩) hP hD hS hA (kFr_l (kFr_r kFr_Mo)) (fun H locs hP hD hS br4 => ?_)
  refine lv_istore (lv' := (kvI 6 r4.1 (kvI 5 r3.1 (kvA 0 b9 (kvA 1 (a 0) (kvA 2 (b 0) (kvA 3 o (kvI 4 x4 kvE)))))))) hx hb (kdr dgL_law_1408 1 0 rfl rfl) hl (by decide) rfl (fun ls hl => ?_)
  refine lv_goto (tgt := 1873) hx hb (kdr dgL_law_1408 1 1 rfl rfl) (by decide) ?_
  exact hK9 ce fr un sb se so sc wb we wo wc fb fe fo fc rm ac rf kn mce mfr mun mbe men mov msp mwb mwe mwi mac mre mkn r4.2 r3.2 ov x4 b _ _ _ _ (by omega) (by omega) hP hD hS ls (lv_sub hl [2, 3, 4, 5, 6] rfl) h
noncomputable def flaw_1427 (L : Nat) (xs : Nat → Int32) (K : kFT) (ce : Nat → Int64) (fr : Int64) (un : Int64) (sb : Nat → Int64) (se : Nat → Int64) (so : Nat → Int32) (sc : Int32) (wb : Nat → Int64) (we : Nat → Int64) (wo : Nat → Int32) (wc : Int32) (fb : Nat → Int64) (fe : Nat → Int64) (fo : Nat → Int32) (fc : Int32) (rm : Nat → Int32) (ac : Int32) (rf : Int32) (kn : Int32) (mce : Nat → Int64) (mfr : Int64) (mun : Int64) (mbe : Nat → Int64) (men : Nat → Int64) (mov : Nat → Int32) (msp : Int32) (mwb : Nat → Int64) (mwe : Nat → Int64) (mwi : Int32) (mac : Int32) (mre : Int32) (mkn : Int32) (mth : Int32) (on : Int64) (x4 : Int32) : Option Int32 :=
  (f_X1_clashes sb se sc).bind fun r1 =>
  (f_X3_clashes mbe men msp).bind fun r2 =>
  K ce fr un sb se so sc wb we wo wc fb fe fo fc rm ac rf kn mce mfr mun mbe men mov msp mwb mwe mwi mac mre mkn r2.2 on x4
theorem flaw_1427_e {L : Nat} {xs : Nat → Int32} {K : kFT} (ce : Nat → Int64) (fr : Int64) (un : Int64) (sb : Nat → Int64) (se : Nat → Int64) (so : Nat → Int32) (sc : Int32) (wb : Nat → Int64) (we : Nat → Int64) (wo : Nat → Int32) (wc : Int32) (fb : Nat → Int64) (fe : Nat → Int64) (fo : Nat → Int32) (fc : Int32) (rm : Nat → Int32) (ac : Int32) (rf : Int32) (kn : Int32) (mce : Nat → Int64) (mfr : Int64) (mun : Int64) (mbe : Nat → Int64) (men : Nat → Int64) (mov : Nat → Int32) (msp : Int32) (mwb : Nat → Int64) (mwe : Nat → Int64) (mwi : Int32) (mac : Int32) (mre : Int32) (mkn : Int32) (mth : Int32) (on : Int64) (x4 : Int32) : flaw_1427 L xs K ce fr un sb se so sc wb we wo wc fb fe fo fc rm ac rf kn mce mfr mun mbe men mov msp mwb mwe mwi mac mre mkn mth on x4 =
  (f_X1_clashes sb se sc).bind fun r1 =>
  (f_X3_clashes mbe men msp).bind fun r2 =>
  K ce fr un sb se so sc wb we wo wc fb fe fo fc rm ac rf kn mce mfr mun mbe men mov msp mwb mwe mwi mac mre mkn r2.2 on x4 := rfl
set_option maxHeartbeats 8000000 in
set_option maxRecDepth 100000 in
theorem law_28 {p : Program} {l : Launch} {e : Env} {s : State} {m : MethodId} {below : List Frame} {meth : Method} {c : Code} {dC : Nat → ClassId} {dI : Nat → Nat → Nat} {cB cI cJ cZ : ClassId} {b9 L : Nat} {xs : Nat → Int32} {A : Nat → Prop} (hl9 : l.stackTraces = false) (C0 : kLw p s m c b9 L xs A) (hK : va_K (dC, dI) vwCl (kTy cB cI cJ cZ) s) {a : Nat → Nat} {o : Nat} (K : kFT) (bK sK : Nat) (hK9 : kGo p l e s m below meth c dC dI cB cI cJ cZ b9 A a o 1873 bK sK K) : kGo p l e s m below meth c dC dI cB cI cJ cZ b9 A a o 1427 (0 + bK) (0 + sK) (flaw_1427 L xs K) := by
  obtain ⟨hx, hb, hml, hown, hts, hX, hbl, hA, hbA, hG, hZ⟩ := C0
  intro ce fr un sb se so sc wb we wo wc fb fe fo fc rm ac rf kn mce mfr mun mbe men mov msp mwb mwe mwi mac mre mkn mth on ov x4 b H locs kc ks hkc hks hP hD hS ls hl h
  have h := (flaw_1427_e ce fr un sb se so sc wb we wo wc fb fe fo fc rm ac rf kn mce mfr mun mbe men mov msp mwb mwe mwi mac mre mkn mth on x4).symm.trans h
  refine lv_aload_n hx hb (kdr dgL_law_1408 1 2 rfl rfl) rfl (lv_at hl 1 rfl) ?_
  obtain ⟨r1, g1, h⟩ := g_b h
  refine kq_i ((wSB cI cJ cZ a ce fr un sb se so sc wb we wo wc fb fe fo fc rm ac rf kn) ++ (wMo cJ cZ b mce mfr mun mbe men mov msp mwb mwe mwi mac mre mkn mth) ++ (wO o on ov)) (fun qP qD qF => va_runV (As := []) (rest := []) ⟨hx, hb, hml, hown, hts⟩ (c_X1_clashes l dC dI cB cI cJ cZ a _ ce fr un sb se so sc wb we wo wc fb fe fo fc rm ac rf kn  r1 g1) (kcwV hts kw_159 kv_X1_clashes rfl rfl ⟨(Nat.le_of_ble_eq_true rfl), (Nat.le_of_ble_eq_true rfl)⟩) (kpV (A := A) qP hK qD hG (krecv_3 (q0 := 0) hK hP rfl)) rfl rfl hl.1 rfl (lv_room (Nat.le_of_ble_eq_true rfl)) (kdr dgL_law_1408 1 3 rfl rfl) ⟨by show _ ≤ (600128 : Nat); omega, by show _ ≤ (7301098 : Nat); omega⟩) hP hD hS hA (kFr_l (kFr_l kFr_SB)) (fun H locs hP hD hS br1 => ?_)
  refine lv_pop hx hb (kdr dgL_law_1408 1 4 rfl rfl) rfl ?_
  refine lv_aload_n hx hb (kdr dgL_law_1408 1 5 rfl rfl) rfl (lv_at hl 2 rfl) ?_
  obtain ⟨r2, g2, h⟩ := g_b h
  refine kq_i ((wSB cI cJ cZ a ce fr un sb se so sc wb we wo wc fb fe fo fc rm ac rf kn) ++ (wMo cJ cZ b mce mfr mun mbe men mov msp mwb mwe mwi mac mre mkn r2.2) ++ (wO o on ov)) (fun qP qD qF => va_runV (As := []) (rest := []) ⟨hx, hb, hml, hown, hts⟩ (c_X3_clashes l dC dI cB cI cJ cZ b _ mce mfr mun mbe men mov msp mwb mwe mwi mac mre mkn mth  r2 g2) (kcwV hts kw_1336 kv_X3_clashes rfl rfl ⟨(Nat.le_of_ble_eq_true rfl), (Nat.le_of_ble_eq_true rfl)⟩) (kpV (A := A) qP hK qD hG (krecv_5 (q0 := 15) hK hP rfl)) rfl rfl hl.1 rfl (lv_room (Nat.le_of_ble_eq_true rfl)) (kdr dgL_law_1408 1 6 rfl rfl) ⟨by show _ ≤ (600128 : Nat); omega, by show _ ≤ (7301098 : Nat); omega⟩) hP hD hS hA (kFr_l (kFr_r kFr_Mo)) (fun H locs hP hD hS br2 => ?_)
  refine lv_pop hx hb (kdr dgL_law_1408 1 7 rfl rfl) rfl ?_
  refine lv_goto (tgt := 1873) hx hb (kdr dgL_law_1408 1 8 rfl rfl) (by decide) ?_
  exact hK9 ce fr un sb se so sc wb we wo wc fb fe fo fc rm ac rf kn mce mfr mun mbe men mov msp mwb mwe mwi mac mre mkn r2.2 on ov x4 b _ _ _ _ (by omega) (by omega) hP hD hS ls (lv_sub hl [0, 1, 2, 3, 4] rfl) h
noncomputable def flaw_1440 (L : Nat) (xs : Nat → Int32) (K : kFT) (ce : Nat → Int64) (fr : Int64) (un : Int64) (sb : Nat → Int64) (se : Nat → Int64) (so : Nat → Int32) (sc : Int32) (wb : Nat → Int64) (we : Nat → Int64) (wo : Nat → Int32) (wc : Int32) (fb : Nat → Int64) (fe : Nat → Int64) (fo : Nat → Int32) (fc : Int32) (rm : Nat → Int32) (ac : Int32) (rf : Int32) (kn : Int32) (mce : Nat → Int64) (mfr : Int64) (mun : Int64) (mbe : Nat → Int64) (men : Nat → Int64) (mov : Nat → Int32) (msp : Int32) (mwb : Nat → Int64) (mwe : Nat → Int64) (mwi : Int32) (mac : Int32) (mre : Int32) (mkn : Int32) (mth : Int32) (on : Int64) (x4 : Int32) : Option Int32 :=
  if ix (x4 + 1) L then
    (f_L_at ce sb se sc on (xs (x4 + 1).toNatClampNeg)).bind fun r2 =>
    (f_X3_at mce mbe men msp (xs (x4 + 1).toNatClampNeg)).bind fun r3 =>
    K ce fr un sb se so sc wb we wo wc fb fe fo fc rm ac rf kn mce mfr mun mbe men mov msp mwb mwe mwi mac mre mkn r3.2 r2.2 x4
  else none
theorem flaw_1440_e {L : Nat} {xs : Nat → Int32} {K : kFT} (ce : Nat → Int64) (fr : Int64) (un : Int64) (sb : Nat → Int64) (se : Nat → Int64) (so : Nat → Int32) (sc : Int32) (wb : Nat → Int64) (we : Nat → Int64) (wo : Nat → Int32) (wc : Int32) (fb : Nat → Int64) (fe : Nat → Int64) (fo : Nat → Int32) (fc : Int32) (rm : Nat → Int32) (ac : Int32) (rf : Int32) (kn : Int32) (mce : Nat → Int64) (mfr : Int64) (mun : Int64) (mbe : Nat → Int64) (men : Nat → Int64) (mov : Nat → Int32) (msp : Int32) (mwb : Nat → Int64) (mwe : Nat → Int64) (mwi : Int32) (mac : Int32) (mre : Int32) (mkn : Int32) (mth : Int32) (on : Int64) (x4 : Int32) : flaw_1440 L xs K ce fr un sb se so sc wb we wo wc fb fe fo fc rm ac rf kn mce mfr mun mbe men mov msp mwb mwe mwi mac mre mkn mth on x4 =
  if ix (x4 + 1) L then
    (f_L_at ce sb se sc on (xs (x4 + 1).toNatClampNeg)).bind fun r2 =>
    (f_X3_at mce mbe men msp (xs (x4 + 1).toNatClampNeg)).bind fun r3 =>
    K ce fr un sb se so sc wb we wo wc fb fe fo fc rm ac rf kn mce mfr mun mbe men mov msp mwb mwe mwi mac mre mkn r3.2 r2.2 x4
  else none := rfl
set_option maxHeartbeats 8000000 in
set_option maxRecDepth 100000 in
theorem law_29 {p : Program} {l : Launch} {e : Env} {s : State} {m : MethodId} {below : List Frame} {meth : Method} {c : Code} {dC : Nat → ClassId} {dI : Nat → Nat → Nat} {cB cI cJ cZ : ClassId} {b9 L : Nat} {xs : Nat → Int32} {A : Nat → Prop} (hl9 : l.stackTraces = false) (C0 : kLw p s m c b9 L xs A) (hK : va_K (dC, dI) vwCl (kTy cB cI cJ cZ) s) {a : Nat → Nat} {o : Nat} (K : kFT) (bK sK : Nat) (hK9 : kGo p l e s m below meth c dC dI cB cI cJ cZ b9 A a o 1873 bK sK K) : kGo p l e s m below meth c dC dI cB cI cJ cZ b9 A a o 1440 (1 + bK) (6 + sK) (flaw_1440 L xs K) := by
  obtain ⟨hx, hb, hml, hown, hts, hX, hbl, hA, hbA, hG, hZ⟩ := C0
  intro ce fr un sb se so sc wb we wo wc fb fe fo fc rm ac rf kn mce mfr mun mbe men mov msp mwb mwe mwi mac mre mkn mth on ov x4 b H locs kc ks hkc hks hP hD hS ls hl h
  have h := (flaw_1440_e ce fr un sb se so sc wb we wo wc fb fe fo fc rm ac rf kn mce mfr mun mbe men mov msp mwb mwe mwi mac mre mkn mth on x4).symm.trans h
  refine lv_aload_n hx hb (kdr dgL_law_1408 1 9 rfl rfl) rfl (lv_at hl 1 rfl) ?_
  obtain ⟨z0, h⟩ := g_if h
  refine kld (v := 1) hx hb (kdr dgL_law_1408 2 0 rfl rfl) rfl (lv_at hl 0 rfl) (kdr dgL_law_1408 2 1 rfl rfl) (lv_at hl 4 rfl) (kdr dgL_law_1408 2 2 rfl rfl) (by decide) (kdr dgL_law_1408 2 3 rfl rfl) hX hbl hbA hS (ix_in z0) (kdr dgL_law_1408 2 4 rfl rfl) ?_
  refine lv_aload_n hx hb (kdr dgL_law_1408 2 5 rfl rfl) rfl (lv_at hl 3 rfl) ?_
  obtain ⟨r2, g2, h⟩ := g_b h
  refine kq_i ((wSB cI cJ cZ a ce fr un sb se so sc wb we wo wc fb fe fo fc rm ac rf kn) ++ (wMo cJ cZ b mce mfr mun mbe men mov msp mwb mwe mwi mac mre mkn mth) ++ (wO o r2.2 ov)) (fun qP qD qF => vx_runSW (As := [.ref (a 0), .int (xs (x4 + 1).toNatClampNeg), .ref o]) (rest := []) ⟨hx, hb, hml, hown, hts⟩ (c_L_at l hl9 dC dI cB cI cJ cZ a o _ ce fr un sb se so sc wb we wo wc fb fe fo fc rm ac rf kn on ov (xs (x4 + 1).toNatClampNeg) r2 g2) (kcwSW hts kw_998 kv_L_at rfl rfl ⟨(Nat.le_of_ble_eq_true rfl), (Nat.le_of_ble_eq_true rfl)⟩) (kpSXq (A := A) qP hK qD hG hZ hS qF) rfl rfl hl.1 rfl (lv_room (Nat.le_of_ble_eq_true rfl)) (kdr dgL_law_1408 2 6 rfl rfl) ⟨by show _ ≤ (600128 : Nat); omega, by show _ ≤ (7301098 : Nat); omega⟩) hP hD hS hA (kFr_2 (kFr_l kFr_SB) kFr_o) (fun H locs hP hD hS br2 => ?_)
  refine lv_istore (lv' := (kvI 5 r2.1 (kvA 0 b9 (kvA 1 (a 0) (kvA 2 (b 0) (kvA 3 o (kvI 4 x4 kvE))))))) hx hb (kdr dgL_law_1408 2 7 rfl rfl) hl (by decide) rfl (fun ls hl => ?_)
  refine lv_aload_n hx hb (kdr dgL_law_1408 2 8 rfl rfl) rfl (lv_at hl 3 rfl) ?_
  refine kld (v := 1) hx hb (kdr dgL_law_1408 2 9 rfl rfl) rfl (lv_at hl 1 rfl) (kdr dgL_law_1408 3 0 rfl rfl) (lv_at hl 5 rfl) (kdr dgL_law_1408 3 1 rfl rfl) (by decide) (kdr dgL_law_1408 3 2 rfl rfl) hX hbl hbA hS (ix_in z0) (kdr dgL_law_1408 3 3 rfl rfl) ?_
  obtain ⟨r3, g3, h⟩ := g_b h
  refine kq_i ((wSB cI cJ cZ a ce fr un sb se so sc wb we wo wc fb fe fo fc rm ac rf kn) ++ (wMo cJ cZ b mce mfr mun mbe men mov msp mwb mwe mwi mac mre mkn r3.2) ++ (wO o r2.2 ov)) (fun qP qD qF => va_runV (As := [.int (xs (x4 + 1).toNatClampNeg)]) (rest := []) ⟨hx, hb, hml, hown, hts⟩ (c_X3_at l dC dI cB cI cJ cZ b _ mce mfr mun mbe men mov msp mwb mwe mwi mac mre mkn mth (xs (x4 + 1).toNatClampNeg) r3 g3) (kcwV hts kw_1340 kv_X3_at rfl rfl ⟨(Nat.le_of_ble_eq_true rfl), (Nat.le_of_ble_eq_true rfl)⟩) (kpV (A := A) qP hK qD hG (krecv_5 (q0 := 15) hK hP rfl)) rfl rfl hl.1 rfl (lv_room (Nat.le_of_ble_eq_true rfl)) (kdr dgL_law_1408 3 4 rfl rfl) ⟨by show _ ≤ (600128 : Nat); omega, by show _ ≤ (7301098 : Nat); omega⟩) hP hD hS hA (kFr_l (kFr_r kFr_Mo)) (fun H locs hP hD hS br3 => ?_)
  refine lv_istore (lv' := (kvI 6 r3.1 (kvI 5 r2.1 (kvA 0 b9 (kvA 1 (a 0) (kvA 2 (b 0) (kvA 3 o (kvI 4 x4 kvE)))))))) hx hb (kdr dgL_law_1408 3 5 rfl rfl) hl (by decide) rfl (fun ls hl => ?_)
  refine lv_goto (tgt := 1873) hx hb (kdr dgL_law_1408 3 6 rfl rfl) (by decide) ?_
  exact hK9 ce fr un sb se so sc wb we wo wc fb fe fo fc rm ac rf kn mce mfr mun mbe men mov msp mwb mwe mwi mac mre mkn r3.2 r2.2 ov x4 b _ _ _ _ (by omega) (by omega) hP hD hS ls (lv_sub hl [2, 3, 4, 5, 6] rfl) h
noncomputable def flaw_1468 (L : Nat) (xs : Nat → Int32) (K : kFT) (ce : Nat → Int64) (fr : Int64) (un : Int64) (sb : Nat → Int64) (se : Nat → Int64) (so : Nat → Int32) (sc : Int32) (wb : Nat → Int64) (we : Nat → Int64) (wo : Nat → Int32) (wc : Int32) (fb : Nat → Int64) (fe : Nat → Int64) (fo : Nat → Int32) (fc : Int32) (rm : Nat → Int32) (ac : Int32) (rf : Int32) (kn : Int32) (mce : Nat → Int64) (mfr : Int64) (mun : Int64) (mbe : Nat → Int64) (men : Nat → Int64) (mov : Nat → Int32) (msp : Int32) (mwb : Nat → Int64) (mwe : Nat → Int64) (mwi : Int32) (mac : Int32) (mre : Int32) (mkn : Int32) (mth : Int32) (on : Int64) (x4 : Int32) : Option Int32 :=
  (f_X1_deepest sb se sc).bind fun r1 =>
  (f_X3_deepest_ mbe men msp).bind fun r2 =>
  K ce fr un sb se so sc wb we wo wc fb fe fo fc rm ac rf kn mce mfr mun mbe men mov msp mwb mwe mwi mac mre mkn r2.2 on x4
theorem flaw_1468_e {L : Nat} {xs : Nat → Int32} {K : kFT} (ce : Nat → Int64) (fr : Int64) (un : Int64) (sb : Nat → Int64) (se : Nat → Int64) (so : Nat → Int32) (sc : Int32) (wb : Nat → Int64) (we : Nat → Int64) (wo : Nat → Int32) (wc : Int32) (fb : Nat → Int64) (fe : Nat → Int64) (fo : Nat → Int32) (fc : Int32) (rm : Nat → Int32) (ac : Int32) (rf : Int32) (kn : Int32) (mce : Nat → Int64) (mfr : Int64) (mun : Int64) (mbe : Nat → Int64) (men : Nat → Int64) (mov : Nat → Int32) (msp : Int32) (mwb : Nat → Int64) (mwe : Nat → Int64) (mwi : Int32) (mac : Int32) (mre : Int32) (mkn : Int32) (mth : Int32) (on : Int64) (x4 : Int32) : flaw_1468 L xs K ce fr un sb se so sc wb we wo wc fb fe fo fc rm ac rf kn mce mfr mun mbe men mov msp mwb mwe mwi mac mre mkn mth on x4 =
  (f_X1_deepest sb se sc).bind fun r1 =>
  (f_X3_deepest_ mbe men msp).bind fun r2 =>
  K ce fr un sb se so sc wb we wo wc fb fe fo fc rm ac rf kn mce mfr mun mbe men mov msp mwb mwe mwi mac mre mkn r2.2 on x4 := rfl
set_option maxHeartbeats 8000000 in
set_option maxRecDepth 100000 in
theorem law_30 {p : Program} {l : Launch} {e : Env} {s : State} {m : MethodId} {below : List Frame} {meth : Method} {c : Code} {dC : Nat → ClassId} {dI : Nat → Nat → Nat} {cB cI cJ cZ : ClassId} {b9 L : Nat} {xs : Nat → Int32} {A : Nat → Prop} (hl9 : l.stackTraces = false) (C0 : kLw p s m c b9 L xs A) (hK : va_K (dC, dI) vwCl (kTy cB cI cJ cZ) s) {a : Nat → Nat} {o : Nat} (K : kFT) (bK sK : Nat) (hK9 : kGo p l e s m below meth c dC dI cB cI cJ cZ b9 A a o 1873 bK sK K) : kGo p l e s m below meth c dC dI cB cI cJ cZ b9 A a o 1468 (0 + bK) (0 + sK) (flaw_1468 L xs K) := by
  obtain ⟨hx, hb, hml, hown, hts, hX, hbl, hA, hbA, hG, hZ⟩ := C0
  intro ce fr un sb se so sc wb we wo wc fb fe fo fc rm ac rf kn mce mfr mun mbe men mov msp mwb mwe mwi mac mre mkn mth on ov x4 b H locs kc ks hkc hks hP hD hS ls hl h
  have h := (flaw_1468_e ce fr un sb se so sc wb we wo wc fb fe fo fc rm ac rf kn mce mfr mun mbe men mov msp mwb mwe mwi mac mre mkn mth on x4).symm.trans h
  refine lv_aload_n hx hb (kdr dgL_law_1408 3 7 rfl rfl) rfl (lv_at hl 1 rfl) ?_
  obtain ⟨r1, g1, h⟩ := g_b h
  refine kq_i ((wSB cI cJ cZ a ce fr un sb se so sc wb we wo wc fb fe fo fc rm ac rf kn) ++ (wMo cJ cZ b mce mfr mun mbe men mov msp mwb mwe mwi mac mre mkn mth) ++ (wO o on ov)) (fun qP qD qF => va_runV (As := []) (rest := []) ⟨hx, hb, hml, hown, hts⟩ (c_X1_deepest l dC dI cB cI cJ cZ a _ ce fr un sb se so sc wb we wo wc fb fe fo fc rm ac rf kn  r1 g1) (kcwV hts kw_167 kv_X1_deepest rfl rfl ⟨(Nat.le_of_ble_eq_true rfl), (Nat.le_of_ble_eq_true rfl)⟩) (kpV (A := A) qP hK qD hG (krecv_3 (q0 := 0) hK hP rfl)) rfl rfl hl.1 rfl (lv_room (Nat.le_of_ble_eq_true rfl)) (kdr dgL_law_1408 3 8 rfl rfl) ⟨by show _ ≤ (600128 : Nat); omega, by show _ ≤ (7301098 : Nat); omega⟩) hP hD hS hA (kFr_l (kFr_l kFr_SB)) (fun H locs hP hD hS br1 => ?_)
  refine lv_pop hx hb (kdr dgL_law_1408 3 9 rfl rfl) rfl ?_
  refine lv_aload_n hx hb (kdr dgL_law_1408 4 0 rfl rfl) rfl (lv_at hl 2 rfl) ?_
  obtain ⟨r2, g2, h⟩ := g_b h
  refine kq_i ((wSB cI cJ cZ a ce fr un sb se so sc wb we wo wc fb fe fo fc rm ac rf kn) ++ (wMo cJ cZ b mce mfr mun mbe men mov msp mwb mwe mwi mac mre mkn r2.2) ++ (wO o on ov)) (fun qP qD qF => va_runV (As := []) (rest := []) ⟨hx, hb, hml, hown, hts⟩ (c_X3_deepest_ l dC dI cB cI cJ cZ b _ mce mfr mun mbe men mov msp mwb mwe mwi mac mre mkn mth  r2 g2) (kcwV hts kw_1348 kv_X3_deepest_ rfl rfl ⟨(Nat.le_of_ble_eq_true rfl), (Nat.le_of_ble_eq_true rfl)⟩) (kpV (A := A) qP hK qD hG (krecv_5 (q0 := 15) hK hP rfl)) rfl rfl hl.1 rfl (lv_room (Nat.le_of_ble_eq_true rfl)) (kdr dgL_law_1408 4 1 rfl rfl) ⟨by show _ ≤ (600128 : Nat); omega, by show _ ≤ (7301098 : Nat); omega⟩) hP hD hS hA (kFr_l (kFr_r kFr_Mo)) (fun H locs hP hD hS br2 => ?_)
  refine lv_pop hx hb (kdr dgL_law_1408 4 2 rfl rfl) rfl ?_
  refine lv_goto (tgt := 1873) hx hb (kdr dgL_law_1408 4 3 rfl rfl) (by decide) ?_
  exact hK9 ce fr un sb se so sc wb we wo wc fb fe fo fc rm ac rf kn mce mfr mun mbe men mov msp mwb mwe mwi mac mre mkn r2.2 on ov x4 b _ _ _ _ (by omega) (by omega) hP hD hS ls (lv_sub hl [0, 1, 2, 3, 4] rfl) h
noncomputable def flaw_1481 (L : Nat) (xs : Nat → Int32) (K : kFT) (ce : Nat → Int64) (fr : Int64) (un : Int64) (sb : Nat → Int64) (se : Nat → Int64) (so : Nat → Int32) (sc : Int32) (wb : Nat → Int64) (we : Nat → Int64) (wo : Nat → Int32) (wc : Int32) (fb : Nat → Int64) (fe : Nat → Int64) (fo : Nat → Int32) (fc : Int32) (rm : Nat → Int32) (ac : Int32) (rf : Int32) (kn : Int32) (mce : Nat → Int64) (mfr : Int64) (mun : Int64) (mbe : Nat → Int64) (men : Nat → Int64) (mov : Nat → Int32) (msp : Int32) (mwb : Nat → Int64) (mwe : Nat → Int64) (mwi : Int32) (mac : Int32) (mre : Int32) (mkn : Int32) (mth : Int32) (on : Int64) (x4 : Int32) : Option Int32 :=
  if ix (x4 + 1) L then
    if ix (x4 + 2) L then
      (f_L_isFree ce fr un sb se sc on (xs (x4 + 1).toNatClampNeg) (xs (x4 + 2).toNatClampNeg)).bind fun r3 =>
      (f_X3_isFree mce mfr mun mbe men msp (xs (x4 + 1).toNatClampNeg) (xs (x4 + 2).toNatClampNeg)).bind fun r4 =>
      K ce fr un sb se so sc wb we wo wc fb fe fo fc rm ac rf kn mce mfr mun mbe men mov msp mwb mwe mwi mac mre mkn r4.2 r3.2 x4
    else none
  else none
theorem flaw_1481_e {L : Nat} {xs : Nat → Int32} {K : kFT} (ce : Nat → Int64) (fr : Int64) (un : Int64) (sb : Nat → Int64) (se : Nat → Int64) (so : Nat → Int32) (sc : Int32) (wb : Nat → Int64) (we : Nat → Int64) (wo : Nat → Int32) (wc : Int32) (fb : Nat → Int64) (fe : Nat → Int64) (fo : Nat → Int32) (fc : Int32) (rm : Nat → Int32) (ac : Int32) (rf : Int32) (kn : Int32) (mce : Nat → Int64) (mfr : Int64) (mun : Int64) (mbe : Nat → Int64) (men : Nat → Int64) (mov : Nat → Int32) (msp : Int32) (mwb : Nat → Int64) (mwe : Nat → Int64) (mwi : Int32) (mac : Int32) (mre : Int32) (mkn : Int32) (mth : Int32) (on : Int64) (x4 : Int32) : flaw_1481 L xs K ce fr un sb se so sc wb we wo wc fb fe fo fc rm ac rf kn mce mfr mun mbe men mov msp mwb mwe mwi mac mre mkn mth on x4 =
  if ix (x4 + 1) L then
    if ix (x4 + 2) L then
      (f_L_isFree ce fr un sb se sc on (xs (x4 + 1).toNatClampNeg) (xs (x4 + 2).toNatClampNeg)).bind fun r3 =>
      (f_X3_isFree mce mfr mun mbe men msp (xs (x4 + 1).toNatClampNeg) (xs (x4 + 2).toNatClampNeg)).bind fun r4 =>
      K ce fr un sb se so sc wb we wo wc fb fe fo fc rm ac rf kn mce mfr mun mbe men mov msp mwb mwe mwi mac mre mkn r4.2 r3.2 x4
    else none
  else none := rfl
set_option maxHeartbeats 8000000 in
set_option maxRecDepth 100000 in
theorem law_31 {p : Program} {l : Launch} {e : Env} {s : State} {m : MethodId} {below : List Frame} {meth : Method} {c : Code} {dC : Nat → ClassId} {dI : Nat → Nat → Nat} {cB cI cJ cZ : ClassId} {b9 L : Nat} {xs : Nat → Int32} {A : Nat → Prop} (hl9 : l.stackTraces = false) (C0 : kLw p s m c b9 L xs A) (hK : va_K (dC, dI) vwCl (kTy cB cI cJ cZ) s) {a : Nat → Nat} {o : Nat} (K : kFT) (bK sK : Nat) (hK9 : kGo p l e s m below meth c dC dI cB cI cJ cZ b9 A a o 1873 bK sK K) : kGo p l e s m below meth c dC dI cB cI cJ cZ b9 A a o 1481 (1 + bK) (6 + sK) (flaw_1481 L xs K) := by
  obtain ⟨hx, hb, hml, hown, hts, hX, hbl, hA, hbA, hG, hZ⟩ := C0
  intro ce fr un sb se so sc wb we wo wc fb fe fo fc rm ac rf kn mce mfr mun mbe men mov msp mwb mwe mwi mac mre mkn mth on ov x4 b H locs kc ks hkc hks hP hD hS ls hl h
  have h := (flaw_1481_e ce fr un sb se so sc wb we wo wc fb fe fo fc rm ac rf kn mce mfr mun mbe men mov msp mwb mwe mwi mac mre mkn mth on x4).symm.trans h
  refine lv_aload_n hx hb (kdr dgL_law_1408 4 4 rfl rfl) rfl (lv_at hl 1 rfl) ?_
  obtain ⟨z0, h⟩ := g_if h
  refine kld (v := 1) hx hb (kdr dgL_law_1408 4 5 rfl rfl) rfl (lv_at hl 0 rfl) (kdr dgL_law_1408 4 6 rfl rfl) (lv_at hl 4 rfl) (kdr dgL_law_1408 4 7 rfl rfl) (by decide) (kdr dgL_law_1408 4 8 rfl rfl) hX hbl hbA hS (ix_in z0) (kdr dgL_law_1408 4 9 rfl rfl) ?_
  obtain ⟨z1, h⟩ := g_if h
  refine kld (v := 2) hx hb (kdr dgL_law_1408 5 0 rfl rfl) rfl (lv_at hl 0 rfl) (kdr dgL_law_1408 5 1 rfl rfl) (lv_at hl 4 rfl) (kdr dgL_law_1408 5 2 rfl rfl) (by decide) (kdr dgL_law_1408 5 3 rfl rfl) hX hbl hbA hS (ix_in z1) (kdr dgL_law_1408 5 4 rfl rfl) ?_
  refine lv_aload_n hx hb (kdr dgL_law_1408 5 5 rfl rfl) rfl (lv_at hl 3 rfl) ?_
  obtain ⟨r3, g3, h⟩ := g_b h
  refine kq_i ((wSB cI cJ cZ a ce fr un sb se so sc wb we wo wc fb fe fo fc rm ac rf kn) ++ (wMo cJ cZ b mce mfr mun mbe men mov msp mwb mwe mwi mac mre mkn mth) ++ (wO o r3.2 ov)) (fun qP qD qF => vx_runSW (As := [.ref (a 0), .int (xs (x4 + 1).toNatClampNeg), .int (xs (x4 + 2).toNatClampNeg), .ref o]) (rest := []) ⟨hx, hb, hml, hown, hts⟩ (c_L_isFree l hl9 dC dI cB cI cJ cZ a o _ ce fr un sb se so sc wb we wo wc fb fe fo fc rm ac rf kn on ov (xs (x4 + 1).toNatClampNeg) (xs (x4 + 2).toNatClampNeg) r3 g3) (kcwSW hts kw_1005 kv_L_isFree rfl rfl ⟨(Nat.le_of_ble_eq_true rfl), (Nat.le_of_ble_eq_true rfl)⟩) (kpSXq (A := A) qP hK qD hG hZ hS qF) rfl rfl hl.1 rfl (lv_room (Nat.le_of_ble_eq_true rfl)) (kdr dgL_law_1408 5 6 rfl rfl) ⟨by show _ ≤ (600128 : Nat); omega, by show _ ≤ (7301098 : Nat); omega⟩) hP hD hS hA (kFr_2 (kFr_l kFr_SB) kFr_o) (fun H locs hP hD hS br3 => ?_)
  refine lv_istore (lv' := (kvI 5 r3.1 (kvA 0 b9 (kvA 1 (a 0) (kvA 2 (b 0) (kvA 3 o (kvI 4 x4 kvE))))))) hx hb (kdr dgL_law_1408 5 7 rfl rfl) hl (by decide) rfl (fun ls hl => ?_)
  refine lv_aload_n hx hb (kdr dgL_law_1408 5 8 rfl rfl) rfl (lv_at hl 3 rfl) ?_
  refine kld (v := 1) hx hb (kdr dgL_law_1408 5 9 rfl rfl) rfl (lv_at hl 1 rfl) (kdr dgL_law_1408 6 0 rfl rfl) (lv_at hl 5 rfl) (kdr dgL_law_1408 6 1 rfl rfl) (by decide) (kdr dgL_law_1408 6 2 rfl rfl) hX hbl hbA hS (ix_in z0) (kdr dgL_law_1408 6 3 rfl rfl) ?_
  refine kld (v := 2) hx hb (kdr dgL_law_1408 6 4 rfl rfl) rfl (lv_at hl 1 rfl) (kdr dgL_law_1408 6 5 rfl rfl) (lv_at hl 5 rfl) (kdr dgL_law_1408 6 6 rfl rfl) (by decide) (kdr dgL_law_1408 6 7 rfl rfl) hX hbl hbA hS (ix_in z1) (kdr dgL_law_1408 6 8 rfl rfl) ?_
  obtain ⟨r4, g4, h⟩ := g_b h
  refine kq_i ((wSB cI cJ cZ a ce fr un sb se so sc wb we wo wc fb fe fo fc rm ac rf kn) ++ (wMo cJ cZ b mce mfr mun mbe men mov msp mwb mwe mwi mac mre mkn r4.2) ++ (wO o r3.2 ov)) (fun qP qD qF => va_runV (As := [.int (xs (x4 + 1).toNatClampNeg), .int (xs (x4 + 2).toNatClampNeg)]) (rest := []) ⟨hx, hb, hml, hown, hts⟩ (c_X3_isFree l dC dI cB cI cJ cZ b _ mce mfr mun mbe men mov msp mwb mwe mwi mac mre mkn mth (xs (x4 + 1).toNatClampNeg) (xs (x4 + 2).toNatClampNeg) r4 g4) (kcwV hts kw_1356 kv_X3_isFree rfl rfl ⟨(Nat.le_of_ble_eq_true rfl), (Nat.le_of_ble_eq_true rfl)⟩) (kpV (A := A) qP hK qD hG (krecv_5 (q0 := 15) hK hP rfl)) rfl rfl hl.1 rfl (lv_room (Nat.le_of_ble_eq_true rfl)) (kdr dgL_law_1408 6 9 rfl rfl) ⟨by show _ ≤ (600128 : Nat); omega, by show _ ≤ (7301098 : Nat); omega⟩) hP hD hS hA (kFr_l (kFr_r kFr_Mo)) (fun H locs hP hD hS br4 => ?_)
  refine lv_istore (lv' := (kvI 6 r4.1 (kvI 5 r3.1 (kvA 0 b9 (kvA 1 (a 0) (kvA 2 (b 0) (kvA 3 o (kvI 4 x4 kvE)))))))) hx hb (kdr dgL_law_1408 7 0 rfl rfl) hl (by decide) rfl (fun ls hl => ?_)
  refine lv_goto (tgt := 1873) hx hb (kdr dgL_law_1408 7 1 rfl rfl) (by decide) ?_
  exact hK9 ce fr un sb se so sc wb we wo wc fb fe fo fc rm ac rf kn mce mfr mun mbe men mov msp mwb mwe mwi mac mre mkn r4.2 r3.2 ov x4 b _ _ _ _ (by omega) (by omega) hP hD hS ls (lv_sub hl [2, 3, 4, 5, 6] rfl) h
