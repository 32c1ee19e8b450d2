/-! the law's cases: one form of statement -/
noncomputable abbrev kFT : Type := (Nat → Int64) → (Int64) → (Int64) → (Nat → Int64) → (Nat → Int64) → (Nat → Int32) → (Int32) → (Nat → Int64) → (Nat → Int64) → (Nat → Int32) → (Int32) → (Nat → Int64) → (Nat → Int64) → (Nat → Int32) → (Int32) → (Nat → Int32) → (Int32) → (Int32) → (Int32) → (Nat → Int64) → (Int64) → (Int64) → (Nat → Int64) → (Nat → Int64) → (Nat → Int32) → (Int32) → (Nat → Int64) → (Nat → Int64) → (Int32) → (Int32) → (Int32) → (Int32) → (Int32) → (Int64) → Int32 → Option Int32
noncomputable abbrev kGo (p : Program) (l : Launch) (e : Env) (s : State) (m : MethodId) (below : List Frame) (meth : Method) (c : Code) (dC : Nat → ClassId) (dI : Nat → Nat → Nat) (cB cI cJ cZ : ClassId) (b9 : Nat) (A : Nat → Prop) (a : Nat → Nat) (o : Nat) (pc k n : Nat) (F : kFT) : Prop := ∀ (ce : Nat → Int64) (fr : Int64) (un : Int64) (sb : Nat → Int64) (se : Nat → Int64) (so : Nat → Int32) (sc : Int32) (wb : Nat → Int64) (we : Nat → Int64) (wo : Nat → Int32) (wc : Int32) (fb : Nat → Int64) (fe : Nat → Int64) (fo : Nat → Int32) (fc : Int32) (rm : Nat → Int32) (ac : Int32) (rf : Int32) (kn : Int32) (mce : Nat → Int64) (mfr : Int64) (mun : Int64) (mbe : Nat → Int64) (men : Nat → Int64) (mov : Nat → Int32) (msp : Int32) (mwb : Nat → Int64) (mwe : Nat → Int64) (mwi : Int32) (mac : Int32) (mre : Int32) (mkn : Int32) (mth : Int32) (on : Int64) (ov : Value) (x4 : Int32) (b : Nat → Nat) (H : Heap) (locs : List Loc) (kc ks : Nat), kc + k ≤ 600128 → ks + n ≤ 7301098 → va_P (dC, dI) vwCl ((wSB cI cJ cZ a ce fr un sb se so sc wb we wo wc fb fe fo fc rm ac rf kn) ++ (wMo cJ cZ b mce mfr mun mbe men mov msp mwb mwe mwi mac mre mkn mth) ++ (wO o on ov)) H → va_D A ((wSB cI cJ cZ a ce fr un sb se so sc wb we wo wc fb fe fo fc rm ac rf kn) ++ (wMo cJ cZ b mce mfr mun mbe men mov msp mwb mwe mwi mac mre mkn mth) ++ (wO o on ov)) → va_S A s.heap H locs → ∀ (ls : Array Slot), lv_has ls 7 (kvA 0 b9 (kvA 1 (a 0) (kvA 2 (b 0) (kvA 3 o (kvI 4 x4 kvE))))) → F ce fr un sb se so sc wb we wo wc fb fe fo fc rm ac rf kn mce mfr mun mbe men mov msp mwb mwe mwi mac mre mkn mth on x4 = some 1 → W p l e room_1 s m #[Value.ref b9] below meth c H locs kc ks (lw_Z below #[Value.ref b9] s) (F0 m pc ls [])
noncomputable def flaw_248 (L : Nat) (xs : Nat → Int32) (K : kFT) (ce : Nat → Int64) (fr : Int64) (un : Int64) (sb : Nat → Int64) (se : Nat → Int64) (so : Nat → Int32) (sc : Int32) (wb : Nat → Int64) (we : Nat → Int64) (wo : Nat → Int32) (wc : Int32) (fb : Nat → Int64) (fe : Nat → Int64) (fo : Nat → Int32) (fc : Int32) (rm : Nat → Int32) (ac : Int32) (rf : Int32) (kn : Int32) (mce : Nat → Int64) (mfr : Int64) (mun : Int64) (mbe : Nat → Int64) (men : Nat → Int64) (mov : Nat → Int32) (msp : Int32) (mwb : Nat → Int64) (mwe : Nat → Int64) (mwi : Int32) (mac : Int32) (mre : Int32) (mkn : Int32) (mth : Int32) (on : Int64) (x4 : Int32) : Option Int32 :=
  if ix (x4 + 1) L then
    if ix (x4 + 2) L then
      if ix (x4 + 3) L then
        (f_L_set ce ac rf on (xs (x4 + 1).toNatClampNeg) (xs (x4 + 2).toNatClampNeg) (xs (x4 + 3).toNatClampNeg)).bind fun r4 =>
        (f_X3_set mce mac mre (xs (x4 + 1).toNatClampNeg) (xs (x4 + 2).toNatClampNeg) (xs (x4 + 3).toNatClampNeg)).bind fun r5 =>
        K r4.2.1 fr un sb se so sc wb we wo wc fb fe fo fc rm r4.2.2.1 r4.2.2.2.1 kn r5.2.1 mfr mun mbe men mov msp mwb mwe mwi r5.2.2.1 r5.2.2.2.1 mkn r5.2.2.2.2 r4.2.2.2.2 x4
      else none
    else none
  else none
theorem flaw_248_e {L : Nat} {xs : Nat → Int32} {K : kFT} (ce : Nat → Int64) (fr : Int64) (un : Int64) (sb : Nat → Int64) (se : Nat → Int64) (so : Nat → Int32) (sc : Int32) (wb : Nat → Int64) (we : Nat → Int64) (wo : Nat → Int32) (wc : Int32) (fb : Nat → Int64) (fe : Nat → Int64) (fo : Nat → Int32) (fc : Int32) (rm : Nat → Int32) (ac : Int32) (rf : Int32) (kn : Int32) (mce : Nat → Int64) (mfr : Int64) (mun : Int64) (mbe : Nat → Int64) (men : Nat → Int64) (mov : Nat → Int32) (msp : Int32) (mwb : Nat → Int64) (mwe : Nat → Int64) (mwi : Int32) (mac : Int32) (mre : Int32) (mkn : Int32) (mth : Int32) (on : Int64) (x4 : Int32) : flaw_248 L xs K ce fr un sb se so sc wb we wo wc fb fe fo fc rm ac rf kn mce mfr mun mbe men mov msp mwb mwe mwi mac mre mkn mth on x4 =
  if ix (x4 + 1) L then
    if ix (x4 + 2) L then
      if ix (x4 + 3) L then
        (f_L_set ce ac rf on (xs (x4 + 1).toNatClampNeg) (xs (x4 + 2).toNatClampNeg) (xs (x4 + 3).toNatClampNeg)).bind fun r4 =>
        (f_X3_set mce mac mre (xs (x4 + 1).toNatClampNeg) (xs (x4 + 2).toNatClampNeg) (xs (x4 + 3).toNatClampNeg)).bind fun r5 =>
        K r4.2.1 fr un sb se so sc wb we wo wc fb fe fo fc rm r4.2.2.1 r4.2.2.2.1 kn r5.2.1 mfr mun mbe men mov msp mwb mwe mwi r5.2.2.1 r5.2.2.2.1 mkn r5.2.2.2.2 r4.2.2.2.2 x4
      else none
    else none
  else none := rfl
set_option maxHeartbeats 8000000 in
set_option maxRecDepth 100000 in
theorem law_0 {p : Program} {l : Launch} {e : Env} {s : State} {m : MethodId} {below : List Frame} {meth : Method} {c : Code} {dC : Nat → ClassId} {dI : Nat → Nat → Nat} {cB cI cJ cZ : ClassId} {b9 L : Nat} {xs : Nat → Int32} {A : Nat → Prop} (hl9 : l.stackTraces = false) (C0 : kLw p s m c b9 L xs A) (hK : va_K (dC, dI) vwCl (kTy cB cI cJ cZ) s) {a : Nat → Nat} {o : Nat} (K : kFT) (bK sK : Nat) (hK9 : kGo p l e s m below meth c dC dI cB cI cJ cZ b9 A a o 1873 bK sK K) : kGo p l e s m below meth c dC dI cB cI cJ cZ b9 A a o 248 (1 + bK) (6 + sK) (flaw_248 L xs K) := by
  obtain ⟨hx, hb, hml, hown, hts, hX, hbl, hA, hbA, hG, hZ⟩ := C0
  intro ce fr un sb se so sc wb we wo wc fb fe fo fc rm ac rf kn mce mfr mun mbe men mov msp mwb mwe mwi mac mre mkn mth on ov x4 b H locs kc ks hkc hks hP hD hS ls hl h
  have h := (flaw_248_e ce fr un sb se so sc wb we wo wc fb fe fo fc rm ac rf kn mce mfr mun mbe men mov msp mwb mwe mwi mac mre mkn mth on x4).symm.trans h
  refine lv_aload_n hx hb (kdr dgL_law_248 0 0 rfl rfl) rfl (lv_at hl 1 rfl) ?_
  obtain ⟨z0, h⟩ := g_if h
  refine kld (v := 1) hx hb (kdr dgL_law_248 0 1 rfl rfl) rfl (lv_at hl 0 rfl) (kdr dgL_law_248 0 2 rfl rfl) (lv_at hl 4 rfl) (kdr dgL_law_248 0 3 rfl rfl) (by decide) (kdr dgL_law_248 0 4 rfl rfl) hX hbl hbA hS (ix_in z0) (kdr dgL_law_248 0 5 rfl rfl) ?_
  obtain ⟨z1, h⟩ := g_if h
  refine kld (v := 2) hx hb (kdr dgL_law_248 0 6 rfl rfl) rfl (lv_at hl 0 rfl) (kdr dgL_law_248 0 7 rfl rfl) (lv_at hl 4 rfl) (kdr dgL_law_248 0 8 rfl rfl) (by decide) (kdr dgL_law_248 0 9 rfl rfl) hX hbl hbA hS (ix_in z1) (kdr dgL_law_248 1 0 rfl rfl) ?_
  obtain ⟨z2, h⟩ := g_if h
  refine kld (v := 3) hx hb (kdr dgL_law_248 1 1 rfl rfl) rfl (lv_at hl 0 rfl) (kdr dgL_law_248 1 2 rfl rfl) (lv_at hl 4 rfl) (kdr dgL_law_248 1 3 rfl rfl) (by decide) (kdr dgL_law_248 1 4 rfl rfl) hX hbl hbA hS (ix_in z2) (kdr dgL_law_248 1 5 rfl rfl) ?_
  refine lv_aload_n hx hb (kdr dgL_law_248 1 6 rfl rfl) rfl (lv_at hl 3 rfl) ?_
  obtain ⟨r4, g4, h⟩ := g_b h
  refine kq_i ((wSB cI cJ cZ a r4.2.1 fr un sb se so sc wb we wo wc fb fe fo fc rm r4.2.2.1 r4.2.2.2.1 kn) ++ (wMo cJ cZ b mce mfr mun mbe men mov msp mwb mwe mwi mac mre mkn mth) ++ (wO o r4.2.2.2.2 ov)) (fun qP qD qF => vx_runSW (As := [.ref (a 0), .int (xs (x4 + 1).toNatClampNeg), .int (xs (x4 + 2).toNatClampNeg), .int (xs (x4 + 3).toNatClampNeg), .ref o]) (rest := []) ⟨hx, hb, hml, hown, hts⟩ (c_L_set l hl9 dC dI cB cI cJ cZ a o _ ce fr un sb se so sc wb we wo wc fb fe fo fc rm ac rf kn on ov (xs (x4 + 1).toNatClampNeg) (xs (x4 + 2).toNatClampNeg) (xs (x4 + 3).toNatClampNeg) r4 g4) (kcwSW hts kw_464 kv_L_set rfl rfl ⟨(Nat.le_of_ble_eq_true rfl), (Nat.le_of_ble_eq_true rfl)⟩) (kpSXq (A := A) qP hK qD hG hZ hS qF) rfl rfl hl.1 rfl (lv_room (Nat.le_of_ble_eq_true rfl)) (kdr dgL_law_248 1 7 rfl rfl) ⟨by show _ ≤ (600128 : Nat); omega, by show _ ≤ (7301098 : Nat); omega⟩) hP hD hS hA (kFr_2 (kFr_l kFr_SB) kFr_o) (fun H locs hP hD hS br4 => ?_)
  refine lv_istore (lv' := (kvI 5 r4.1 (kvA 0 b9 (kvA 1 (a 0) (kvA 2 (b 0) (kvA 3 o (kvI 4 x4 kvE))))))) hx hb (kdr dgL_law_248 1 8 rfl rfl) hl (by decide) rfl (fun ls hl => ?_)
  refine lv_aload_n hx hb (kdr dgL_law_248 1 9 rfl rfl) rfl (lv_at hl 3 rfl) ?_
  refine kld (v := 1) hx hb (kdr dgL_law_248 2 0 rfl rfl) rfl (lv_at hl 1 rfl) (kdr dgL_law_248 2 1 rfl rfl) (lv_at hl 5 rfl) (kdr dgL_law_248 2 2 rfl rfl) (by decide) (kdr dgL_law_248 2 3 rfl rfl) hX hbl hbA hS (ix_in z0) (kdr dgL_law_248 2 4 rfl rfl) ?_
  refine kld (v := 2) hx hb (kdr dgL_law_248 2 5 rfl rfl) rfl (lv_at hl 1 rfl) (kdr dgL_law_248 2 6 rfl rfl) (lv_at hl 5 rfl) (kdr dgL_law_248 2 7 rfl rfl) (by decide) (kdr dgL_law_248 2 8 rfl rfl) hX hbl hbA hS (ix_in z1) (kdr dgL_law_248 2 9 rfl rfl) ?_
  refine kld (v := 3) hx hb (kdr dgL_law_248 3 0 rfl rfl) rfl (lv_at hl 1 rfl) (kdr dgL_law_248 3 1 rfl rfl) (lv_at hl 5 rfl) (kdr dgL_law_248 3 2 rfl rfl) (by decide) (kdr dgL_law_248 3 3 rfl rfl) hX hbl hbA hS (ix_in z2) (kdr dgL_law_248 3 4 rfl rfl) ?_
  obtain ⟨r5, g5, h⟩ := g_b h
  refine kq_i ((wSB cI cJ cZ a r4.2.1 fr un sb se so sc wb we wo wc fb fe fo fc rm r4.2.2.1 r4.2.2.2.1 kn) ++ (wMo cJ cZ b r5.2.1 mfr mun mbe men mov msp mwb mwe mwi r5.2.2.1 r5.2.2.2.1 mkn r5.2.2.2.2) ++ (wO o r4.2.2.2.2 ov)) (fun qP qD qF => va_runV (As := [.int (xs (x4 + 1).toNatClampNeg), .int (xs (x4 + 2).toNatClampNeg), .int (xs (x4 + 3).toNatClampNeg)]) (rest := []) ⟨hx, hb, hml, hown, hts⟩ (c_X3_set l dC dI cB cI cJ cZ b _ mce mfr mun mbe men mov msp mwb mwe mwi mac mre mkn mth (xs (x4 + 1).toNatClampNeg) (xs (x4 + 2).toNatClampNeg) (xs (x4 + 3).toNatClampNeg) r5 g5) (kcwV hts kw_1119 kv_X3_set rfl rfl ⟨(Nat.le_of_ble_eq_true rfl), (Nat.le_of_ble_eq_true rfl)⟩) (kpV (A := A) qP hK qD hG (krecv_5 (q0 := 15) hK hP rfl)) rfl rfl hl.1 rfl (lv_room (Nat.le_of_ble_eq_true rfl)) (kdr dgL_law_248 3 5 rfl rfl) ⟨by show _ ≤ (600128 : Nat); omega, by show _ ≤ (7301098 : Nat); omega⟩) hP hD hS hA (kFr_l (kFr_r kFr_Mo)) (fun H locs hP hD hS br5 => ?_)
  refine lv_istore (lv' := (kvI 6 r5.1 (kvI 5 r4.1 (kvA 0 b9 (kvA 1 (a 0) (kvA 2 (b 0) (kvA 3 o (kvI 4 x4 kvE)))))))) hx hb (kdr dgL_law_248 3 6 rfl rfl) hl (by decide) rfl (fun ls hl => ?_)
  refine lv_goto (tgt := 1873) hx hb (kdr dgL_law_248 3 7 rfl rfl) (by decide) ?_
  exact hK9 r4.2.1 fr un sb se so sc wb we wo wc fb fe fo fc rm r4.2.2.1 r4.2.2.2.1 kn r5.2.1 mfr mun mbe men mov msp mwb mwe mwi r5.2.2.1 r5.2.2.2.1 mkn r5.2.2.2.2 r4.2.2.2.2 ov x4 b _ _ _ _ (by omega) (by omega) hP hD hS ls (lv_sub hl [2, 3, 4, 5, 6] rfl) h
noncomputable def flaw_372 (L : Nat) (xs : Nat → Int32) (K : kFT) (ce : Nat → Int64) (fr : Int64) (un : Int64) (sb : Nat → Int64) (se : Nat → Int64) (so : Nat → Int32) (sc : Int32) (wb : Nat → Int64) (we : Nat → Int64) (wo : Nat → Int32) (wc : Int32) (fb : Nat → Int64) (fe : Nat → Int64) (fo : Nat → Int32) (fc : Int32) (rm : Nat → Int32) (ac : Int32) (rf : Int32) (kn : Int32) (mce : Nat → Int64) (mfr : Int64) (mun : Int64) (mbe : Nat → Int64) (men : Nat → Int64) (mov : Nat → Int32) (msp : Int32) (mwb : Nat → Int64) (mwe : Nat → Int64) (mwi : Int32) (mac : Int32) (mre : Int32) (mkn : Int32) (mth : Int32) (on : Int64) (x4 : Int32) (y0 : Int32) (y1 : Int32) (y2 : Int32) (y3 : Int32) : Option Int32 :=
  (f_X3_go mce mac mre y3 y2 y1 y0).bind fun r1 =>
  K ce fr un sb se so sc wb we wo wc fb fe fo fc rm ac rf kn r1.2.1 mfr mun mbe men mov msp mwb mwe mwi r1.2.2.1 r1.2.2.2.1 mkn r1.2.2.2.2 on x4
theorem flaw_372_e {L : Nat} {xs : Nat → Int32} {K : kFT} (ce : Nat → Int64) (fr : Int64) (un : Int64) (sb : Nat → Int64) (se : Nat → Int64) (so : Nat → Int32) (sc : Int32) (wb : Nat → Int64) (we : Nat → Int64) (wo : Nat → Int32) (wc : Int32) (fb : Nat → Int64) (fe : Nat → Int64) (fo : Nat → Int32) (fc : Int32) (rm : Nat → Int32) (ac : Int32) (rf : Int32) (kn : Int32) (mce : Nat → Int64) (mfr : Int64) (mun : Int64) (mbe : Nat → Int64) (men : Nat → Int64) (mov : Nat → Int32) (msp : Int32) (mwb : Nat → Int64) (mwe : Nat → Int64) (mwi : Int32) (mac : Int32) (mre : Int32) (mkn : Int32) (mth : Int32) (on : Int64) (x4 : Int32) (y0 : Int32) (y1 : Int32) (y2 : Int32) (y3 : Int32) : flaw_372 L xs K ce fr un sb se so sc wb we wo wc fb fe fo fc rm ac rf kn mce mfr mun mbe men mov msp mwb mwe mwi mac mre mkn mth on x4 y0 y1 y2 y3 =
  (f_X3_go mce mac mre y3 y2 y1 y0).bind fun r1 =>
  K ce fr un sb se so sc wb we wo wc fb fe fo fc rm ac rf kn r1.2.1 mfr mun mbe men mov msp mwb mwe mwi r1.2.2.1 r1.2.2.2.1 mkn r1.2.2.2.2 on x4 := rfl
noncomputable def flaw_333 (L : Nat) (xs : Nat → Int32) (K : kFT) (ce : Nat → Int64) (fr : Int64) (un : Int64) (sb : Nat → Int64) (se : Nat → Int64) (so : Nat → Int32) (sc : Int32) (wb : Nat → Int64) (we : Nat → Int64) (wo : Nat → Int32) (wc : Int32) (fb : Nat → Int64) (fe : Nat → Int64) (fo : Nat → Int32) (fc : Int32) (rm : Nat → Int32) (ac : Int32) (rf : Int32) (kn : Int32) (mce : Nat → Int64) (mfr : Int64) (mun : Int64) (mbe : Nat → Int64) (men : Nat → Int64) (mov : Nat → Int32) (msp : Int32) (mwb : Nat → Int64) (mwe : Nat → Int64) (mwi : Int32) (mac : Int32) (mre : Int32) (mkn : Int32) (mth : Int32) (on : Int64) (x4 : Int32) (y0 : Int32) (y1 : Int32) (y2 : Int32) (y3 : Int32) : Option Int32 :=
  (f_L_go ce ac rf on y3 y2 y1 y0).bind fun r1 =>
  if ix (x4 + 1) L then
    if ix (x4 + 2) L then
      if ix (x4 + 3) L then
        if ix (x4 + 4) L then
          if (xs (x4 + 4).toNatClampNeg) = 0 then
            flaw_372 L xs K r1.2.1 fr un sb se so sc wb we wo wc fb fe fo fc rm r1.2.2.1 r1.2.2.2.1 kn mce mfr mun mbe men mov msp mwb mwe mwi mac mre mkn mth r1.2.2.2.2 x4 0 (xs (x4 + 3).toNatClampNeg) (xs (x4 + 2).toNatClampNeg) (xs (x4 + 1).toNatClampNeg)
          else
            flaw_372 L xs K r1.2.1 fr un sb se so sc wb we wo wc fb fe fo fc rm r1.2.2.1 r1.2.2.2.1 kn mce mfr mun mbe men mov msp mwb mwe mwi mac mre mkn mth r1.2.2.2.2 x4 1 (xs (x4 + 3).toNatClampNeg) (xs (x4 + 2).toNatClampNeg) (xs (x4 + 1).toNatClampNeg)
        else none
      else none
    else none
  else none
theorem flaw_333_e {L : Nat} {xs : Nat → Int32} {K : kFT} (ce : Nat → Int64) (fr : Int64) (un : Int64) (sb : Nat → Int64) (se : Nat → Int64) (so : Nat → Int32) (sc : Int32) (wb : Nat → Int64) (we : Nat → Int64) (wo : Nat → Int32) (wc : Int32) (fb : Nat → Int64) (fe : Nat → Int64) (fo : Nat → Int32) (fc : Int32) (rm : Nat → Int32) (ac : Int32) (rf : Int32) (kn : Int32) (mce : Nat → Int64) (mfr : Int64) (mun : Int64) (mbe : Nat → Int64) (men : Nat → Int64) (mov : Nat → Int32) (msp : Int32) (mwb : Nat → Int64) (mwe : Nat → Int64) (mwi : Int32) (mac : Int32) (mre : Int32) (mkn : Int32) (mth : Int32) (on : Int64) (x4 : Int32) (y0 : Int32) (y1 : Int32) (y2 : Int32) (y3 : Int32) : flaw_333 L xs K ce fr un sb se so sc wb we wo wc fb fe fo fc rm ac rf kn mce mfr mun mbe men mov msp mwb mwe mwi mac mre mkn mth on x4 y0 y1 y2 y3 =
  (f_L_go ce ac rf on y3 y2 y1 y0).bind fun r1 =>
  if ix (x4 + 1) L then
    if ix (x4 + 2) L then
      if ix (x4 + 3) L then
        if ix (x4 + 4) L then
          if (xs (x4 + 4).toNatClampNeg) = 0 then
            flaw_372 L xs K r1.2.1 fr un sb se so sc wb we wo wc fb fe fo fc rm r1.2.2.1 r1.2.2.2.1 kn mce mfr mun mbe men mov msp mwb mwe mwi mac mre mkn mth r1.2.2.2.2 x4 0 (xs (x4 + 3).toNatClampNeg) (xs (x4 + 2).toNatClampNeg) (xs (x4 + 1).toNatClampNeg)
          else
            flaw_372 L xs K r1.2.1 fr un sb se so sc wb we wo wc fb fe fo fc rm r1.2.2.1 r1.2.2.2.1 kn mce mfr mun mbe men mov msp mwb mwe mwi mac mre mkn mth r1.2.2.2.2 x4 1 (xs (x4 + 3).toNatClampNeg) (xs (x4 + 2).toNatClampNeg) (xs (x4 + 1).toNatClampNeg)
        else none
      else none
    else none
  else none := rfl
noncomputable def flaw_300 (L : Nat) (xs : Nat → Int32) (K : kFT) (ce : Nat → Int64) (fr : Int64) (un : Int64) (sb : Nat → Int64) (se : Nat → Int64) (so : Nat → Int32) (sc : Int32) (wb : Nat → Int64) (we : Nat → Int64) (wo : Nat → Int32) (wc : Int32) (fb : Nat → Int64) (fe : Nat → Int64) (fo : Nat → Int32) (fc : Int32) (rm : Nat → Int32) (ac : Int32) (rf : Int32) (kn : Int32) (mce : Nat → Int64) (mfr : Int64) (mun : Int64) (mbe : Nat → Int64) (men : Nat → Int64) (mov : Nat → Int32) (msp : Int32) (mwb : Nat → Int64) (mwe : Nat → Int64) (mwi : Int32) (mac : Int32) (mre : Int32) (mkn : Int32) (mth : Int32) (on : Int64) (x4 : Int32) : Option Int32 :=
  if ix (x4 + 1) L then
    if ix (x4 + 2) L then
      if ix (x4 + 3) L then
        if ix (x4 + 4) L then
          if (xs (x4 + 4).toNatClampNeg) = 0 then
            flaw_333 L xs K ce fr un sb se so sc wb we wo wc fb fe fo fc rm ac rf kn mce mfr mun mbe men mov msp mwb mwe mwi mac mre mkn mth on x4 0 (xs (x4 + 3).toNatClampNeg) (xs (x4 + 2).toNatClampNeg) (xs (x4 + 1).toNatClampNeg)
          else
            flaw_333 L xs K ce fr un sb se so sc wb we wo wc fb fe fo fc rm ac rf kn mce mfr mun mbe men mov msp mwb mwe mwi mac mre mkn mth on x4 1 (xs (x4 + 3).toNatClampNeg) (xs (x4 + 2).toNatClampNeg) (xs (x4 + 1).toNatClampNeg)
        else none
      else none
    else none
  else none
theorem flaw_300_e {L : Nat} {xs : Nat → Int32} {K : kFT} (ce : Nat → Int64) (fr : Int64) (un : Int64) (sb : Nat → Int64) (se : Nat → Int64) (so : Nat → Int32) (sc : Int32) (wb : Nat → Int64) (we : Nat → Int64) (wo : Nat → Int32) (wc : Int32) (fb : Nat → Int64) (fe : Nat → Int64) (fo : Nat → Int32) (fc : Int32) (rm : Nat → Int32) (ac : Int32) (rf : Int32) (kn : Int32) (mce : Nat → Int64) (mfr : Int64) (mun : Int64) (mbe : Nat → Int64) (men : Nat → Int64) (mov : Nat → Int32) (msp : Int32) (mwb : Nat → Int64) (mwe : Nat → Int64) (mwi : Int32) (mac : Int32) (mre : Int32) (mkn : Int32) (mth : Int32) (on : Int64) (x4 : Int32) : flaw_300 L xs K ce fr un sb se so sc wb we wo wc fb fe fo fc rm ac rf kn mce mfr mun mbe men mov msp mwb mwe mwi mac mre mkn mth on x4 =
  if ix (x4 + 1) L then
    if ix (x4 + 2) L then
      if ix (x4 + 3) L then
        if ix (x4 + 4) L then
          if (xs (x4 + 4).toNatClampNeg) = 0 then
            flaw_333 L xs K ce fr un sb se so sc wb we wo wc fb fe fo fc rm ac rf kn mce mfr mun mbe men mov msp mwb mwe mwi mac mre mkn mth on x4 0 (xs (x4 + 3).toNatClampNeg) (xs (x4 + 2).toNatClampNeg) (xs (x4 + 1).toNatClampNeg)
          else
            flaw_333 L xs K ce fr un sb se so sc wb we wo wc fb fe fo fc rm ac rf kn mce mfr mun mbe men mov msp mwb mwe mwi mac mre mkn mth on x4 1 (xs (x4 + 3).toNatClampNeg) (xs (x4 + 2).toNatClampNeg) (xs (x4 + 1).toNatClampNeg)
        else none
      else none
    else none
  else none := rfl
set_option maxHeartbeats 8000000 in
set_option maxRecDepth 100000 in
theorem law_1 {p : Program} {l : Launch} {e : Env} {s : State} {m : MethodId} {below : List Frame} {meth : Method} {c : Code} {dC : Nat → ClassId} {dI : Nat → Nat → Nat} {cB cI cJ cZ : ClassId} {b9 L : Nat} {xs : Nat → Int32} {A : Nat → Prop} (hl9 : l.stackTraces = false) (C0 : kLw p s m c b9 L xs A) (hK : va_K (dC, dI) vwCl (kTy cB cI cJ cZ) s) {a : Nat → Nat} {o : Nat} (K : kFT) (bK sK : Nat) (hK9 : kGo p l e s m below meth c dC dI cB cI cJ cZ b9 A a o 1873 bK sK K) : kGo p l e s m below meth c dC dI cB cI cJ cZ b9 A a o 300 (1 + bK) (6 + sK) (flaw_300 L xs K) := by
  obtain ⟨hx, hb, hml, hown, hts, hX, hbl, hA, hbA, hG, hZ⟩ := C0
  have J372 : ∀ (ce : Nat → Int64) (fr : Int64) (un : Int64) (sb : Nat → Int64) (se : Nat → Int64) (so : Nat → Int32) (sc : Int32) (wb : Nat → Int64) (we : Nat → Int64) (wo : Nat → Int32) (wc : Int32) (fb : Nat → Int64) (fe : Nat → Int64) (fo : Nat → Int32) (fc : Int32) (rm : Nat → Int32) (ac : Int32) (rf : Int32) (kn : Int32) (mce : Nat → Int64) (mfr : Int64) (mun : Int64) (mbe : Nat → Int64) (men : Nat → Int64) (mov : Nat → Int32) (msp : Int32) (mwb : Nat → Int64) (mwe : Nat → Int64) (mwi : Int32) (mac : Int32) (mre : Int32) (mkn : Int32) (mth : Int32) (on : Int64) (ov : Value) (x4 : Int32) (y0 : Int32) (y1 : Int32) (y2 : Int32) (y3 : Int32) (b : Nat → Nat) (H : Heap) (locs : List Loc) (kc ks : Nat), kc + (0 + bK) ≤ 600128 → ks + (0 + sK) ≤ 7301098 → va_P (dC, dI) vwCl ((wSB cI cJ cZ a ce fr un sb se so sc wb we wo wc fb fe fo fc rm ac rf kn) ++ (wMo cJ cZ b mce mfr mun mbe men mov msp mwb mwe mwi mac mre mkn mth) ++ (wO o on ov)) H → va_D A ((wSB cI cJ cZ a ce fr un sb se so sc wb we wo wc fb fe fo fc rm ac rf kn) ++ (wMo cJ cZ b mce mfr mun mbe men mov msp mwb mwe mwi mac mre mkn mth) ++ (wO o on ov)) → va_S A s.heap H locs → ∀ (ls : Array Slot), lv_has ls 7 (kvA 0 b9 (kvA 1 (a 0) (kvA 2 (b 0) (kvA 3 o (kvI 4 x4 kvE))))) → flaw_372 L xs K ce fr un sb se so sc wb we wo wc fb fe fo fc rm ac rf kn mce mfr mun mbe men mov msp mwb mwe mwi mac mre mkn mth on x4 y0 y1 y2 y3 = some 1 → W p l e room_1 s m #[Value.ref b9] below meth c H locs kc ks (lw_Z below #[Value.ref b9] s) (F0 m 372 ls [.int y0, .int y1, .int y2, .int y3, .ref (b 0)]) := by
    intro ce fr un sb se so sc wb we wo wc fb fe fo fc rm ac rf kn mce mfr mun mbe men mov msp mwb mwe mwi mac mre mkn mth on ov x4 y0 y1 y2 y3 b H locs kc ks hkc hks hP hD hS ls hl h
    have h := (flaw_372_e ce fr un sb se so sc wb we wo wc fb fe fo fc rm ac rf kn mce mfr mun mbe men mov msp mwb mwe mwi mac mre mkn mth on x4 y0 y1 y2 y3).symm.trans h
    obtain ⟨r1, g1, h⟩ := g_b h
    refine kq_i ((wSB cI cJ cZ a ce fr un sb se so sc wb we wo wc fb fe fo fc rm ac rf kn) ++ (wMo cJ cZ b r1.2.1 mfr mun mbe men mov msp mwb mwe mwi r1.2.2.1 r1.2.2.2.1 mkn r1.2.2.2.2) ++ (wO o on ov)) (fun qP qD qF => va_runV (As := [.int y3, .int y2, .int y1, .int y0]) (rest := []) ⟨hx, hb, hml, hown, hts⟩ (c_X3_go l dC dI cB cI cJ cZ b _ mce mfr mun mbe men mov msp mwb mwe mwi mac mre mkn mth y3 y2 y1 y0 r1 g1) (kcwV hts kw_1152 kv_X3_go rfl rfl ⟨(Nat.le_of_ble_eq_true rfl), (Nat.le_of_ble_eq_true rfl)⟩) (kpV (A := A) qP hK qD hG (krecv_5 (q0 := 15) hK hP rfl)) rfl rfl hl.1 rfl (lv_room (Nat.le_of_ble_eq_true rfl)) (kdr dgL_law_248 9 1 rfl rfl) ⟨by show _ ≤ (600128 : Nat); omega, by show _ ≤ (7301098 : Nat); omega⟩) hP hD hS hA (kFr_l (kFr_r kFr_Mo)) (fun H locs hP hD hS br1 => ?_)
    refine lv_istore (lv' := (kvI 6 r1.1 (kvA 0 b9 (kvA 1 (a 0) (kvA 2 (b 0) (kvA 3 o (kvI 4 x4 kvE))))))) hx hb (kdr dgL_law_248 9 2 rfl rfl) hl (by decide) rfl (fun ls hl => ?_)
    refine lv_goto (tgt := 1873) hx hb (kdr dgL_law_248 9 3 rfl rfl) (by decide) ?_
    exact hK9 ce fr un sb se so sc wb we wo wc fb fe fo fc rm ac rf kn r1.2.1 mfr mun mbe men mov msp mwb mwe mwi r1.2.2.1 r1.2.2.2.1 mkn r1.2.2.2.2 on ov x4 b _ _ _ _ (by omega) (by omega) hP hD hS ls (lv_sub hl [1, 2, 3, 4, 5] rfl) h
  have J333 : ∀ (ce : Nat → Int64) (fr : Int64) (un : Int64) (sb : Nat → Int64) (se : Nat → Int64) (so : Nat → Int32) (sc : Int32) (wb : Nat → Int64) (we : Nat → Int64) (wo : Nat → Int32) (wc : Int32) (fb : Nat → Int64) (fe : Nat → Int64) (fo : Nat → Int32) (fc : Int32) (rm : Nat → Int32) (ac : Int32) (rf : Int32) (kn : Int32) (mce : Nat → Int64) (mfr : Int64) (mun : Int64) (mbe : Nat → Int64) (men : Nat → Int64) (mov : Nat → Int32) (msp : Int32) (mwb : Nat → Int64) (mwe : Nat → Int64) (mwi : Int32) (mac : Int32) (mre : Int32) (mkn : Int32) (mth : Int32) (on : Int64) (ov : Value) (x4 : Int32) (y0 : Int32) (y1 : Int32) (y2 : Int32) (y3 : Int32) (b : Nat → Nat) (H : Heap) (locs : List Loc) (kc ks : Nat), kc + (1 + bK) ≤ 600128 → ks + (6 + sK) ≤ 7301098 → va_P (dC, dI) vwCl ((wSB cI cJ cZ a ce fr un sb se so sc wb we wo wc fb fe fo fc rm ac rf kn) ++ (wMo cJ cZ b mce mfr mun mbe men mov msp mwb mwe mwi mac mre mkn mth) ++ (wO o on ov)) H → va_D A ((wSB cI cJ cZ a ce fr un sb se so sc wb we wo wc fb fe fo fc rm ac rf kn) ++ (wMo cJ cZ b mce mfr mun mbe men mov msp mwb mwe mwi mac mre mkn mth) ++ (wO o on ov)) → va_S A s.heap H locs → ∀ (ls : Array Slot), lv_has ls 7 (kvA 0 b9 (kvA 1 (a 0) (kvA 2 (b 0) (kvA 3 o (kvI 4 x4 kvE))))) → flaw_333 L xs K ce fr un sb se so sc wb we wo wc fb fe fo fc rm ac rf kn mce mfr mun mbe men mov msp mwb mwe mwi mac mre mkn mth on x4 y0 y1 y2 y3 = some 1 → W p l e room_1 s m #[Value.ref b9] below meth c H locs kc ks (lw_Z below #[Value.ref b9] s) (F0 m 333 ls [.int y0, .int y1, .int y2, .int y3, .ref (a 0)]) := by
    intro ce fr un sb se so sc wb we wo wc fb fe fo fc rm ac rf kn mce mfr mun mbe men mov msp mwb mwe mwi mac mre mkn mth on ov x4 y0 y1 y2 y3 b H locs kc ks hkc hks hP hD hS ls hl h
    have h := (flaw_333_e ce fr un sb se so sc wb we wo wc fb fe fo fc rm ac rf kn mce mfr mun mbe men mov msp mwb mwe mwi mac mre mkn mth on x4 y0 y1 y2 y3).symm.trans h
    refine lv_aload_n hx hb (kdr dgL_law_248 6 3 rfl rfl) rfl (lv_at hl 3 rfl) ?_
    obtain ⟨r1, g1, h⟩ := g_b h
    refine kq_i ((wSB cI cJ cZ a r1.2.1 fr un sb se so sc wb we wo wc fb fe fo fc rm r1.2.2.1 r1.2.2.2.1 kn) ++ (wMo cJ cZ b mce mfr mun mbe men mov msp mwb mwe mwi mac mre mkn mth) ++ (wO o r1.2.2.2.2 ov)) (fun qP qD qF => vx_runSW (As := [.ref (a 0), .int y3, .int y2, .int y1, .int y0, .ref o]) (rest := []) ⟨hx, hb, hml, hown, hts⟩ (c_L_go l hl9 dC dI cB cI cJ cZ a o _ ce fr un sb se so sc wb we wo wc fb fe fo fc rm ac rf kn on ov y3 y2 y1 y0 r1 g1) (kcwSW hts kw_505 kv_L_go rfl rfl ⟨(Nat.le_of_ble_eq_true rfl), (Nat.le_of_ble_eq_true rfl)⟩) (kpSXq (A := A) qP hK qD hG hZ hS qF) rfl rfl hl.1 rfl (lv_room (Nat.le_of_ble_eq_true rfl)) (kdr dgL_law_248 6 4 rfl rfl) ⟨by show _ ≤ (600128 : Nat); omega, by show _ ≤ (7301098 : Nat); omega⟩) hP hD hS hA (kFr_2 (kFr_l kFr_SB) kFr_o) (fun H locs hP hD hS br1 => ?_)
    refine lv_istore (lv' := (kvI 5 r1.1 (kvA 0 b9 (kvA 1 (a 0) (kvA 2 (b 0) (kvA 3 o (kvI 4 x4 kvE))))))) hx hb (kdr dgL_law_248 6 5 rfl rfl) hl (by decide) rfl (fun ls hl => ?_)
    refine lv_aload_n hx hb (kdr dgL_law_248 6 6 rfl rfl) rfl (lv_at hl 3 rfl) ?_
    obtain ⟨z1, h⟩ := g_if h
    refine kld (v := 1) hx hb (kdr dgL_law_248 6 7 rfl rfl) rfl (lv_at hl 1 rfl) (kdr dgL_law_248 6 8 rfl rfl) (lv_at hl 5 rfl) (kdr dgL_law_248 6 9 rfl rfl) (by decide) (kdr dgL_law_248 7 0 rfl rfl) hX hbl hbA hS (ix_in z1) (kdr dgL_law_248 7 1 rfl rfl) ?_
    obtain ⟨z2, h⟩ := g_if h
    refine kld (v := 2) hx hb (kdr dgL_law_248 7 2 rfl rfl) rfl (lv_at hl 1 rfl) (kdr dgL_law_248 7 3 rfl rfl) (lv_at hl 5 rfl) (kdr dgL_law_248 7 4 rfl rfl) (by decide) (kdr dgL_law_248 7 5 rfl rfl) hX hbl hbA hS (ix_in z2) (kdr dgL_law_248 7 6 rfl rfl) ?_
    obtain ⟨z3, h⟩ := g_if h
    refine kld (v := 3) hx hb (kdr dgL_law_248 7 7 rfl rfl) rfl (lv_at hl 1 rfl) (kdr dgL_law_248 7 8 rfl rfl) (lv_at hl 5 rfl) (kdr dgL_law_248 7 9 rfl rfl) (by decide) (kdr dgL_law_248 8 0 rfl rfl) hX hbl hbA hS (ix_in z3) (kdr dgL_law_248 8 1 rfl rfl) ?_
    obtain ⟨z4, h⟩ := g_if h
    refine kld (v := 4) hx hb (kdr dgL_law_248 8 2 rfl rfl) rfl (lv_at hl 1 rfl) (kdr dgL_law_248 8 3 rfl rfl) (lv_at hl 5 rfl) (kdr dgL_law_248 8 4 rfl rfl) (by decide) (kdr dgL_law_248 8 5 rfl rfl) hX hbl hbA hS (ix_in z4) (kdr dgL_law_248 8 6 rfl rfl) ?_
    refine lv_if_eq (tgt := 371) hx hb (kdr dgL_law_248 8 7 rfl rfl) (by decide) (fun c6 => ?_) (fun c6 => ?_)
    · have h := g_t c6 h
      refine lv_iconst (v := 0) hx hb (kdr dgL_law_248 9 0 rfl rfl) (by decide) ?_
      exact J372 r1.2.1 fr un sb se so sc wb we wo wc fb fe fo fc rm r1.2.2.1 r1.2.2.2.1 kn mce mfr mun mbe men mov msp mwb mwe mwi mac mre mkn mth r1.2.2.2.2 ov x4 0 (xs (x4 + 3).toNatClampNeg) (xs (x4 + 2).toNatClampNeg) (xs (x4 + 1).toNatClampNeg) b _ _ _ _ (by omega) (by omega) hP hD hS ls (lv_sub hl [1, 2, 3, 4, 5] rfl) h
    · have h := g_f c6 h
      refine lv_iconst (v := 1) hx hb (kdr dgL_law_248 8 8 rfl rfl) (by decide) ?_
      refine lv_goto (tgt := 372) hx hb (kdr dgL_law_248 8 9 rfl rfl) (by decide) ?_
      exact J372 r1.2.1 fr un sb se so sc wb we wo wc fb fe fo fc rm r1.2.2.1 r1.2.2.2.1 kn mce mfr mun mbe men mov msp mwb mwe mwi mac mre mkn mth r1.2.2.2.2 ov x4 1 (xs (x4 + 3).toNatClampNeg) (xs (x4 + 2).toNatClampNeg) (xs (x4 + 1).toNatClampNeg) b _ _ _ _ (by omega) (by omega) hP hD hS ls (lv_sub hl [1, 2, 3, 4, 5] rfl) h
  intro ce fr un sb se so sc wb we wo wc fb fe fo fc rm ac rf kn mce mfr mun mbe men mov msp mwb mwe mwi mac mre mkn mth on ov x4 b H locs kc ks hkc hks hP hD hS ls hl h
  have h := (flaw_300_e ce fr un sb se so sc wb we wo wc fb fe fo fc rm ac rf kn mce mfr mun mbe men mov msp mwb mwe mwi mac mre mkn mth on x4).symm.trans h
  refine lv_aload_n hx hb (kdr dgL_law_248 3 8 rfl rfl) rfl (lv_at hl 1 rfl) ?_
  obtain ⟨z0, h⟩ := g_if h
  refine kld (v := 1) hx hb (kdr dgL_law_248 3 9 rfl rfl) rfl (lv_at hl 0 rfl) (kdr dgL_law_248 4 0 rfl rfl) (lv_at hl 4 rfl) (kdr dgL_law_248 4 1 rfl rfl) (by decide) (kdr dgL_law_248 4 2 rfl rfl) hX hbl hbA hS (ix_in z0) (kdr dgL_law_248 4 3 rfl rfl) ?_
  obtain ⟨z1, h⟩ := g_if h
  refine kld (v := 2) hx hb (kdr dgL_law_248 4 4 rfl rfl) rfl (lv_at hl 0 rfl) (kdr dgL_law_248 4 5 rfl rfl) (lv_at hl 4 rfl) (kdr dgL_law_248 4 6 rfl rfl) (by decide) (kdr dgL_law_248 4 7 rfl rfl) hX hbl hbA hS (ix_in z1) (kdr dgL_law_248 4 8 rfl rfl) ?_
  obtain ⟨z2, h⟩ := g_if h
  refine kld (v := 3) hx hb (kdr dgL_law_248 4 9 rfl rfl) rfl (lv_at hl 0 rfl) (kdr dgL_law_248 5 0 rfl rfl) (lv_at hl 4 rfl) (kdr dgL_law_248 5 1 rfl rfl) (by decide) (kdr dgL_law_248 5 2 rfl rfl) hX hbl hbA hS (ix_in z2) (kdr dgL_law_248 5 3 rfl rfl) ?_
  obtain ⟨z3, h⟩ := g_if h
  refine kld (v := 4) hx hb (kdr dgL_law_248 5 4 rfl rfl) rfl (lv_at hl 0 rfl) (kdr dgL_law_248 5 5 rfl rfl) (lv_at hl 4 rfl) (kdr dgL_law_248 5 6 rfl rfl) (by decide) (kdr dgL_law_248 5 7 rfl rfl) hX hbl hbA hS (ix_in z3) (kdr dgL_law_248 5 8 rfl rfl) ?_
  refine lv_if_eq (tgt := 332) hx hb (kdr dgL_law_248 5 9 rfl rfl) (by decide) (fun c5 => ?_) (fun c5 => ?_)
  · have h := g_t c5 h
    refine lv_iconst (v := 0) hx hb (kdr dgL_law_248 6 2 rfl rfl) (by decide) ?_
    exact J333 ce fr un sb se so sc wb we wo wc fb fe fo fc rm ac rf kn mce mfr mun mbe men mov msp mwb mwe mwi mac mre mkn mth on ov x4 0 (xs (x4 + 3).toNatClampNeg) (xs (x4 + 2).toNatClampNeg) (xs (x4 + 1).toNatClampNeg) b _ _ _ _ (by omega) (by omega) hP hD hS ls (lv_sub hl [0, 1, 2, 3, 4] rfl) h
  · have h := g_f c5 h
    refine lv_iconst (v := 1) hx hb (kdr dgL_law_248 6 0 rfl rfl) (by decide) ?_
    refine lv_goto (tgt := 333) hx hb (kdr dgL_law_248 6 1 rfl rfl) (by decide) ?_
    exact J333 ce fr un sb se so sc wb we wo wc fb fe fo fc rm ac rf kn mce mfr mun mbe men mov msp mwb mwe mwi mac mre mkn mth on ov x4 1 (xs (x4 + 3).toNatClampNeg) (xs (x4 + 2).toNatClampNeg) (xs (x4 + 1).toNatClampNeg) b _ _ _ _ (by omega) (by omega) hP hD hS ls (lv_sub hl [0, 1, 2, 3, 4] rfl) h
noncomputable def flaw_380 (L : Nat) (xs : Nat → Int32) (K : kFT) (ce : Nat → Int64) (fr : Int64) (un : Int64) (sb : Nat → Int64) (se : Nat → Int64) (so : Nat → Int32) (sc : Int32) (wb : Nat → Int64) (we : Nat → Int64) (wo : Nat → Int32) (wc : Int32) (fb : Nat → Int64) (fe : Nat → Int64) (fo : Nat → Int32) (fc : Int32) (rm : Nat → Int32) (ac : Int32) (rf : Int32) (kn : Int32) (mce : Nat → Int64) (mfr : Int64) (mun : Int64) (mbe : Nat → Int64) (men : Nat → Int64) (mov : Nat → Int32) (msp : Int32) (mwb : Nat → Int64) (mwe : Nat → Int64) (mwi : Int32) (mac : Int32) (mre : Int32) (mkn : Int32) (mth : Int32) (on : Int64) (x4 : Int32) : Option Int32 :=
  if ix (x4 + 1) L then
    if ix (x4 + 2) L then
      (f_L_copy ce ac on (xs (x4 + 1).toNatClampNeg) (xs (x4 + 2).toNatClampNeg)).bind fun r3 =>
      (f_X3_copy mce mac (xs (x4 + 1).toNatClampNeg) (xs (x4 + 2).toNatClampNeg)).bind fun r4 =>
      K r3.2.1 fr un sb se so sc wb we wo wc fb fe fo fc rm r3.2.2.1 rf kn r4.2.1 mfr mun mbe men mov msp mwb mwe mwi r4.2.2.1 mre mkn r4.2.2.2 r3.2.2.2 x4
    else none
  else none
theorem flaw_380_e {L : Nat} {xs : Nat → Int32} {K : kFT} (ce : Nat → Int64) (fr : Int64) (un : Int64) (sb : Nat → Int64) (se : Nat → Int64) (so : Nat → Int32) (sc : Int32) (wb : Nat → Int64) (we : Nat → Int64) (wo : Nat → Int32) (wc : Int32) (fb : Nat → Int64) (fe : Nat → Int64) (fo : Nat → Int32) (fc : Int32) (rm : Nat → Int32) (ac : Int32) (rf : Int32) (kn : Int32) (mce : Nat → Int64) (mfr : Int64) (mun : Int64) (mbe : Nat → Int64) (men : Nat → Int64) (mov : Nat → Int32) (msp : Int32) (mwb : Nat → Int64) (mwe : Nat → Int64) (mwi : Int32) (mac : Int32) (mre : Int32) (mkn : Int32) (mth : Int32) (on : Int64) (x4 : Int32) : flaw_380 L xs K ce fr un sb se so sc wb we wo wc fb fe fo fc rm ac rf kn mce mfr mun mbe men mov msp mwb mwe mwi mac mre mkn mth on x4 =
  if ix (x4 + 1) L then
    if ix (x4 + 2) L then
      (f_L_copy ce ac on (xs (x4 + 1).toNatClampNeg) (xs (x4 + 2).toNatClampNeg)).bind fun r3 =>
      (f_X3_copy mce mac (xs (x4 + 1).toNatClampNeg) (xs (x4 + 2).toNatClampNeg)).bind fun r4 =>
      K r3.2.1 fr un sb se so sc wb we wo wc fb fe fo fc rm r3.2.2.1 rf kn r4.2.1 mfr mun mbe men mov msp mwb mwe mwi r4.2.2.1 mre mkn r4.2.2.2 r3.2.2.2 x4
    else none
  else none := rfl
set_option maxHeartbeats 8000000 in
set_option maxRecDepth 100000 in
theorem law_2 {p : Program} {l : Launch} {e : Env} {s : State} {m : MethodId} {below : List Frame} {meth : Method} {c : Code} {dC : Nat → ClassId} {dI : Nat → Nat → Nat} {cB cI cJ cZ : ClassId} {b9 L : Nat} {xs : Nat → Int32} {A : Nat → Prop} (hl9 : l.stackTraces = false) (C0 : kLw p s m c b9 L xs A) (hK : va_K (dC, dI) vwCl (kTy cB cI cJ cZ) s) {a : Nat → Nat} {o : Nat} (K : kFT) (bK sK : Nat) (hK9 : kGo p l e s m below meth c dC dI cB cI cJ cZ b9 A a o 1873 bK sK K) : kGo p l e s m below meth c dC dI cB cI cJ cZ b9 A a o 380 (1 + bK) (6 + sK) (flaw_380 L xs K) := by
  obtain ⟨hx, hb, hml, hown, hts, hX, hbl, hA, hbA, hG, hZ⟩ := C0
  intro ce fr un sb se so sc wb we wo wc fb fe fo fc rm ac rf kn mce mfr mun mbe men mov msp mwb mwe mwi mac mre mkn mth on ov x4 b H locs kc ks hkc hks hP hD hS ls hl h
  have h := (flaw_380_e ce fr un sb se so sc wb we wo wc fb fe fo fc rm ac rf kn mce mfr mun mbe men mov msp mwb mwe mwi mac mre mkn mth on x4).symm.trans h
  refine lv_aload_n hx hb (kdr dgL_law_248 9 4 rfl rfl) rfl (lv_at hl 1 rfl) ?_
  obtain ⟨z0, h⟩ := g_if h
  refine kld (v := 1) hx hb (kdr dgL_law_248 9 5 rfl rfl) rfl (lv_at hl 0 rfl) (kdr dgL_law_248 9 6 rfl rfl) (lv_at hl 4 rfl) (kdr dgL_law_248 9 7 rfl rfl) (by decide) (kdr dgL_law_248 9 8 rfl rfl) hX hbl hbA hS (ix_in z0) (kdr dgL_law_248 9 9 rfl rfl) ?_
  obtain ⟨z1, h⟩ := g_if h
  refine kld (v := 2) hx hb (kdr dgL_law_387 0 0 rfl rfl) rfl (lv_at hl 0 rfl) (kdr dgL_law_387 0 1 rfl rfl) (lv_at hl 4 rfl) (kdr dgL_law_387 0 2 rfl rfl) (by decide) (kdr dgL_law_387 0 3 rfl rfl) hX hbl hbA hS (ix_in z1) (kdr dgL_law_387 0 4 rfl rfl) ?_
  refine lv_aload_n hx hb (kdr dgL_law_387 0 5 rfl rfl) rfl (lv_at hl 3 rfl) ?_
  obtain ⟨r3, g3, h⟩ := g_b h
  refine kq_i ((wSB cI cJ cZ a r3.2.1 fr un sb se so sc wb we wo wc fb fe fo fc rm r3.2.2.1 rf kn) ++ (wMo cJ cZ b mce mfr mun mbe men mov msp mwb mwe mwi mac mre mkn mth) ++ (wO o r3.2.2.2 ov)) (fun qP qD qF => vx_runSW (As := [.ref (a 0), .int (xs (x4 + 1).toNatClampNeg), .int (xs (x4 + 2).toNatClampNeg), .ref o]) (rest := []) ⟨hx, hb, hml, hown, hts⟩ (c_L_copy l hl9 dC dI cB cI cJ cZ a o _ ce fr un sb se so sc wb we wo wc fb fe fo fc rm ac rf kn on ov (xs (x4 + 1).toNatClampNeg) (xs (x4 + 2).toNatClampNeg) r3 g3) (kcwSW hts kw_522 kv_L_copy rfl rfl ⟨(Nat.le_of_ble_eq_true rfl), (Nat.le_of_ble_eq_true rfl)⟩) (kpSXq (A := A) qP hK qD hG hZ hS qF) rfl rfl hl.1 rfl (lv_room (Nat.le_of_ble_eq_true rfl)) (kdr dgL_law_387 0 6 rfl rfl) ⟨by show _ ≤ (600128 : Nat); omega, by show _ ≤ (7301098 : Nat); omega⟩) hP hD hS hA (kFr_2 (kFr_l kFr_SB) kFr_o) (fun H locs hP hD hS br3 => ?_)
  refine lv_istore (lv' := (kvI 5 r3.1 (kvA 0 b9 (kvA 1 (a 0) (kvA 2 (b 0) (kvA 3 o (kvI 4 x4 kvE))))))) hx hb (kdr dgL_law_387 0 7 rfl rfl) hl (by decide) rfl (fun ls hl => ?_)
  refine lv_aload_n hx hb (kdr dgL_law_387 0 8 rfl rfl) rfl (lv_at hl 3 rfl) ?_
  refine kld (v := 1) hx hb (kdr dgL_law_387 0 9 rfl rfl) rfl (lv_at hl 1 rfl) (kdr dgL_law_387 1 0 rfl rfl) (lv_at hl 5 rfl) (kdr dgL_law_387 1 1 rfl rfl) (by decide) (kdr dgL_law_387 1 2 rfl rfl) hX hbl hbA hS (ix_in z0) (kdr dgL_law_387 1 3 rfl rfl) ?_
  refine kld (v := 2) hx hb (kdr dgL_law_387 1 4 rfl rfl) rfl (lv_at hl 1 rfl) (kdr dgL_law_387 1 5 rfl rfl) (lv_at hl 5 rfl) (kdr dgL_law_387 1 6 rfl rfl) (by decide) (kdr dgL_law_387 1 7 rfl rfl) hX hbl hbA hS (ix_in z1) (kdr dgL_law_387 1 8 rfl rfl) ?_
  obtain ⟨r4, g4, h⟩ := g_b h
  refine kq_i ((wSB cI cJ cZ a r3.2.1 fr un sb se so sc wb we wo wc fb fe fo fc rm r3.2.2.1 rf kn) ++ (wMo cJ cZ b r4.2.1 mfr mun mbe men mov msp mwb mwe mwi r4.2.2.1 mre mkn r4.2.2.2) ++ (wO o r3.2.2.2 ov)) (fun qP qD qF => va_runV (As := [.int (xs (x4 + 1).toNatClampNeg), .int (xs (x4 + 2).toNatClampNeg)]) (rest := []) ⟨hx, hb, hml, hown, hts⟩ (c_X3_copy l dC dI cB cI cJ cZ b _ mce mfr mun mbe men mov msp mwb mwe mwi mac mre mkn mth (xs (x4 + 1).toNatClampNeg) (xs (x4 + 2).toNatClampNeg) r4 g4) (kcwV hts kw_1166 kv_X3_copy rfl rfl ⟨(Nat.le_of_ble_eq_true rfl), (Nat.le_of_ble_eq_true rfl)⟩) (kpV (A := A) qP hK qD hG (krecv_5 (q0 := 15) hK hP rfl)) rfl rfl hl.1 rfl (lv_room (Nat.le_of_ble_eq_true rfl)) (kdr dgL_law_387 1 9 rfl rfl) ⟨by show _ ≤ (600128 : Nat); omega, by show _ ≤ (7301098 : Nat); omega⟩) hP hD hS hA (kFr_l (kFr_r kFr_Mo)) (fun H locs hP hD hS br4 => ?_)
  refine lv_istore (lv' := (kvI 6 r4.1 (kvI 5 r3.1 (kvA 0 b9 (kvA 1 (a 0) (kvA 2 (b 0) (kvA 3 o (kvI 4 x4 kvE)))))))) hx hb (kdr dgL_law_387 2 0 rfl rfl) hl (by decide) rfl (fun ls hl => ?_)
  refine lv_goto (tgt := 1873) hx hb (kdr dgL_law_387 2 1 rfl rfl) (by decide) ?_
  exact hK9 r3.2.1 fr un sb se so sc wb we wo wc fb fe fo fc rm r3.2.2.1 rf kn r4.2.1 mfr mun mbe men mov msp mwb mwe mwi r4.2.2.1 mre mkn r4.2.2.2 r3.2.2.2 ov x4 b _ _ _ _ (by omega) (by omega) hP hD hS ls (lv_sub hl [2, 3, 4, 5, 6] rfl) h
noncomputable def flaw_420 (L : Nat) (xs : Nat → Int32) (K : kFT) (ce : Nat → Int64) (fr : Int64) (un : Int64) (sb : Nat → Int64) (se : Nat → Int64) (so : Nat → Int32) (sc : Int32) (wb : Nat → Int64) (we : Nat → Int64) (wo : Nat → Int32) (wc : Int32) (fb : Nat → Int64) (fe : Nat → Int64) (fo : Nat → Int32) (fc : Int32) (rm : Nat → Int32) (ac : Int32) (rf : Int32) (kn : Int32) (mce : Nat → Int64) (mfr : Int64) (mun : Int64) (mbe : Nat → Int64) (men : Nat → Int64) (mov : Nat → Int32) (msp : Int32) (mwb : Nat → Int64) (mwe : Nat → Int64) (mwi : Int32) (mac : Int32) (mre : Int32) (mkn : Int32) (mth : Int32) (on : Int64) (x4 : Int32) : Option Int32 :=
  if ix (x4 + 1) L then
    if ix (x4 + 2) L then
      (f_L_swap ce ac on (xs (x4 + 1).toNatClampNeg) (xs (x4 + 2).toNatClampNeg)).bind fun r3 =>
      (f_X3_swap mce mac (xs (x4 + 1).toNatClampNeg) (xs (x4 + 2).toNatClampNeg)).bind fun r4 =>
      K r3.2.1 fr un sb se so sc wb we wo wc fb fe fo fc rm r3.2.2.1 rf kn r4.2.1 mfr mun mbe men mov msp mwb mwe mwi r4.2.2.1 mre mkn r4.2.2.2 r3.2.2.2 x4
    else none
  else none
theorem flaw_420_e {L : Nat} {xs : Nat → Int32} {K : kFT} (ce : Nat → Int64) (fr : Int64) (un : Int64) (sb : Nat → Int64) (se : Nat → Int64) (so : Nat → Int32) (sc : Int32) (wb : Nat → Int64) (we : Nat → Int64) (wo : Nat → Int32) (wc : Int32) (fb : Nat → Int64) (fe : Nat → Int64) (fo : Nat → Int32) (fc : Int32) (rm : Nat → Int32) (ac : Int32) (rf : Int32) (kn : Int32) (mce : Nat → Int64) (mfr : Int64) (mun : Int64) (mbe : Nat → Int64) (men : Nat → Int64) (mov : Nat → Int32) (msp : Int32) (mwb : Nat → Int64) (mwe : Nat → Int64) (mwi : Int32) (mac : Int32) (mre : Int32) (mkn : Int32) (mth : Int32) (on : Int64) (x4 : Int32) : flaw_420 L xs K ce fr un sb se so sc wb we wo wc fb fe fo fc rm ac rf kn mce mfr mun mbe men mov msp mwb mwe mwi mac mre mkn mth on x4 =
  if ix (x4 + 1) L then
    if ix (x4 + 2) L then
      (f_L_swap ce ac on (xs (x4 + 1).toNatClampNeg) (xs (x4 + 2).toNatClampNeg)).bind fun r3 =>
      (f_X3_swap mce mac (xs (x4 + 1).toNatClampNeg) (xs (x4 + 2).toNatClampNeg)).bind fun r4 =>
      K r3.2.1 fr un sb se so sc wb we wo wc fb fe fo fc rm r3.2.2.1 rf kn r4.2.1 mfr mun mbe men mov msp mwb mwe mwi r4.2.2.1 mre mkn r4.2.2.2 r3.2.2.2 x4
    else none
  else none := rfl
set_option maxHeartbeats 8000000 in
set_option maxRecDepth 100000 in
theorem law_3 {p : Program} {l : Launch} {e : Env} {s : State} {m : MethodId} {below : List Frame} {meth : Method} {c : Code} {dC : Nat → ClassId} {dI : Nat → Nat → Nat} {cB cI cJ cZ : ClassId} {b9 L : Nat} {xs : Nat → Int32} {A : Nat → Prop} (hl9 : l.stackTraces = false) (C0 : kLw p s m c b9 L xs A) (hK : va_K (dC, dI) vwCl (kTy cB cI cJ cZ) s) {a : Nat → Nat} {o : Nat} (K : kFT) (bK sK : Nat) (hK9 : kGo p l e s m below meth c dC dI cB cI cJ cZ b9 A a o 1873 bK sK K) : kGo p l e s m below meth c dC dI cB cI cJ cZ b9 A a o 420 (1 + bK) (6 + sK) (flaw_420 L xs K) := by
  obtain ⟨hx, hb, hml, hown, hts, hX, hbl, hA, hbA, hG, hZ⟩ := C0
  intro ce fr un sb se so sc wb we wo wc fb fe fo fc rm ac rf kn mce mfr mun mbe men mov msp mwb mwe mwi mac mre mkn mth on ov x4 b H locs kc ks hkc hks hP hD hS ls hl h
  have h := (flaw_420_e ce fr un sb se so sc wb we wo wc fb fe fo fc rm ac rf kn mce mfr mun mbe men mov msp mwb mwe mwi mac mre mkn mth on x4).symm.trans h
  refine lv_aload_n hx hb (kdr dgL_law_387 2 2 rfl rfl) rfl (lv_at hl 1 rfl) ?_
  obtain ⟨z0, h⟩ := g_if h
  refine kld (v := 1) hx hb (kdr dgL_law_387 2 3 rfl rfl) rfl (lv_at hl 0 rfl) (kdr dgL_law_387 2 4 rfl rfl) (lv_at hl 4 rfl) (kdr dgL_law_387 2 5 rfl rfl) (by decide) (kdr dgL_law_387 2 6 rfl rfl) hX hbl hbA hS (ix_in z0) (kdr dgL_law_387 2 7 rfl rfl) ?_
  obtain ⟨z1, h⟩ := g_if h
  refine kld (v := 2) hx hb (kdr dgL_law_387 2 8 rfl rfl) rfl (lv_at hl 0 rfl) (kdr dgL_law_387 2 9 rfl rfl) (lv_at hl 4 rfl) (kdr dgL_law_387 3 0 rfl rfl) (by decide) (kdr dgL_law_387 3 1 rfl rfl) hX hbl hbA hS (ix_in z1) (kdr dgL_law_387 3 2 rfl rfl) ?_
  refine lv_aload_n hx hb (kdr dgL_law_387 3 3 rfl rfl) rfl (lv_at hl 3 rfl) ?_
  obtain ⟨r3, g3, h⟩ := g_b h
  refine kq_i ((wSB cI cJ cZ a r3.2.1 fr un sb se so sc wb we wo wc fb fe fo fc rm r3.2.2.1 rf kn) ++ (wMo cJ cZ b mce mfr mun mbe men mov msp mwb mwe mwi mac mre mkn mth) ++ (wO o r3.2.2.2 ov)) (fun qP qD qF => vx_runSW (As := [.ref (a 0), .int (xs (x4 + 1).toNatClampNeg), .int (xs (x4 + 2).toNatClampNeg), .ref o]) (rest := []) ⟨hx, hb, hml, hown, hts⟩ (c_L_swap l hl9 dC dI cB cI cJ cZ a o _ ce fr un sb se so sc wb we wo wc fb fe fo fc rm ac rf kn on ov (xs (x4 + 1).toNatClampNeg) (xs (x4 + 2).toNatClampNeg) r3 g3) (kcwSW hts kw_533 kv_L_swap rfl rfl ⟨(Nat.le_of_ble_eq_true rfl), (Nat.le_of_ble_eq_true rfl)⟩) (kpSXq (A := A) qP hK qD hG hZ hS qF) rfl rfl hl.1 rfl (lv_room (Nat.le_of_ble_eq_true rfl)) (kdr dgL_law_387 3 4 rfl rfl) ⟨by show _ ≤ (600128 : Nat); omega, by show _ ≤ (7301098 : Nat); omega⟩) hP hD hS hA (kFr_2 (kFr_l kFr_SB) kFr_o) (fun H locs hP hD hS br3 => ?_)
  refine lv_istore (lv' := (kvI 5 r3.1 (kvA 0 b9 (kvA 1 (a 0) (kvA 2 (b 0) (kvA 3 o (kvI 4 x4 kvE))))))) hx hb (kdr dgL_law_387 3 5 rfl rfl) hl (by decide) rfl (fun ls hl => ?_)
  refine lv_aload_n hx hb (kdr dgL_law_387 3 6 rfl rfl) rfl (lv_at hl 3 rfl) ?_
  refine kld (v := 1) hx hb (kdr dgL_law_387 3 7 rfl rfl) rfl (lv_at hl 1 rfl) (kdr dgL_law_387 3 8 rfl rfl) (lv_at hl 5 rfl) (kdr dgL_law_387 3 9 rfl rfl) (by decide) (kdr dgL_law_387 4 0 rfl rfl) hX hbl hbA hS (ix_in z0) (kdr dgL_law_387 4 1 rfl rfl) ?_
  refine kld (v := 2) hx hb (kdr dgL_law_387 4 2 rfl rfl) rfl (lv_at hl 1 rfl) (kdr dgL_law_387 4 3 rfl rfl) (lv_at hl 5 rfl) (kdr dgL_law_387 4 4 rfl rfl) (by decide) (kdr dgL_law_387 4 5 rfl rfl) hX hbl hbA hS (ix_in z1) (kdr dgL_law_387 4 6 rfl rfl) ?_
  obtain ⟨r4, g4, h⟩ := g_b h
  refine kq_i ((wSB cI cJ cZ a r3.2.1 fr un sb se so sc wb we wo wc fb fe fo fc rm r3.2.2.1 rf kn) ++ (wMo cJ cZ b r4.2.1 mfr mun mbe men mov msp mwb mwe mwi r4.2.2.1 mre mkn r4.2.2.2) ++ (wO o r3.2.2.2 ov)) (fun qP qD qF => va_runV (As := [.int (xs (x4 + 1).toNatClampNeg), .int (xs (x4 + 2).toNatClampNeg)]) (rest := []) ⟨hx, hb, hml, hown, hts⟩ (c_X3_swap l dC dI cB cI cJ cZ b _ mce mfr mun mbe men mov msp mwb mwe mwi mac mre mkn mth (xs (x4 + 1).toNatClampNeg) (xs (x4 + 2).toNatClampNeg) r4 g4) (kcwV hts kw_1174 kv_X3_swap rfl rfl ⟨(Nat.le_of_ble_eq_true rfl), (Nat.le_of_ble_eq_true rfl)⟩) (kpV (A := A) qP hK qD hG (krecv_5 (q0 := 15) hK hP rfl)) rfl rfl hl.1 rfl (lv_room (Nat.le_of_ble_eq_true rfl)) (kdr dgL_law_387 4 7 rfl rfl) ⟨by show _ ≤ (600128 : Nat); omega, by show _ ≤ (7301098 : Nat); omega⟩) hP hD hS hA (kFr_l (kFr_r kFr_Mo)) (fun H locs hP hD hS br4 => ?_)
  refine lv_istore (lv' := (kvI 6 r4.1 (kvI 5 r3.1 (kvA 0 b9 (kvA 1 (a 0) (kvA 2 (b 0) (kvA 3 o (kvI 4 x4 kvE)))))))) hx hb (kdr dgL_law_387 4 8 rfl rfl) hl (by decide) rfl (fun ls hl => ?_)
  refine lv_goto (tgt := 1873) hx hb (kdr dgL_law_387 4 9 rfl rfl) (by decide) ?_
  exact hK9 r3.2.1 fr un sb se so sc wb we wo wc fb fe fo fc rm r3.2.2.1 rf kn r4.2.1 mfr mun mbe men mov msp mwb mwe mwi r4.2.2.1 mre mkn r4.2.2.2 r3.2.2.2 ov x4 b _ _ _ _ (by omega) (by omega) hP hD hS ls (lv_sub hl [2, 3, 4, 5, 6] rfl) h
noncomputable def flaw_502 (L : Nat) (xs : Nat → Int32) (K : kFT) (ce : Nat → Int64) (fr : Int64) (un : Int64) (sb : Nat → Int64) (se : Nat → Int64) (so : Nat → Int32) (sc : Int32) (wb : Nat → Int64) (we : Nat → Int64) (wo : Nat → Int32) (wc : Int32) (fb : Nat → Int64) (fe : Nat → Int64) (fo : Nat → Int32) (fc : Int32) (rm : Nat → Int32) (ac : Int32) (rf : Int32) (kn : Int32) (mce : Nat → Int64) (mfr : Int64) (mun : Int64) (mbe : Nat → Int64) (men : Nat → Int64) (mov : Nat → Int32) (msp : Int32) (mwb : Nat → Int64) (mwe : Nat → Int64) (mwi : Int32) (mac : Int32) (mre : Int32) (mkn : Int32) (mth : Int32) (on : Int64) (x4 : Int32) (y0 : Int32) : Option Int32 :=
  if ix (x4 + 2) L then
    (f_X3_pick mce mac y0 (xs (x4 + 2).toNatClampNeg)).bind fun r2 =>
    K ce fr un sb se so sc wb we wo wc fb fe fo fc rm ac rf kn r2.2.1 mfr mun mbe men mov msp mwb mwe mwi r2.2.2.1 mre mkn r2.2.2.2 on x4
  else none
theorem flaw_502_e {L : Nat} {xs : Nat → Int32} {K : kFT} (ce : Nat → Int64) (fr : Int64) (un : Int64) (sb : Nat → Int64) (se : Nat → Int64) (so : Nat → Int32) (sc : Int32) (wb : Nat → Int64) (we : Nat → Int64) (wo : Nat → Int32) (wc : Int32) (fb : Nat → Int64) (fe : Nat → Int64) (fo : Nat → Int32) (fc : Int32) (rm : Nat → Int32) (ac : Int32) (rf : Int32) (kn : Int32) (mce : Nat → Int64) (mfr : Int64) (mun : Int64) (mbe : Nat → Int64) (men : Nat → Int64) (mov : Nat → Int32) (msp : Int32) (mwb : Nat → Int64) (mwe : Nat → Int64) (mwi : Int32) (mac : Int32) (mre : Int32) (mkn : Int32) (mth : Int32) (on : Int64) (x4 : Int32) (y0 : Int32) : flaw_502 L xs K ce fr un sb se so sc wb we wo wc fb fe fo fc rm ac rf kn mce mfr mun mbe men mov msp mwb mwe mwi mac mre mkn mth on x4 y0 =
  if ix (x4 + 2) L then
    (f_X3_pick mce mac y0 (xs (x4 + 2).toNatClampNeg)).bind fun r2 =>
    K ce fr un sb se so sc wb we wo wc fb fe fo fc rm ac rf kn r2.2.1 mfr mun mbe men mov msp mwb mwe mwi r2.2.2.1 mre mkn r2.2.2.2 on x4
  else none := rfl
noncomputable def flaw_475 (L : Nat) (xs : Nat → Int32) (K : kFT) (ce : Nat → Int64) (fr : Int64) (un : Int64) (sb : Nat → Int64) (se : Nat → Int64) (so : Nat → Int32) (sc : Int32) (wb : Nat → Int64) (we : Nat → Int64) (wo : Nat → Int32) (wc : Int32) (fb : Nat → Int64) (fe : Nat → Int64) (fo : Nat → Int32) (fc : Int32) (rm : Nat → Int32) (ac : Int32) (rf : Int32) (kn : Int32) (mce : Nat → Int64) (mfr : Int64) (mun : Int64) (mbe : Nat → Int64) (men : Nat → Int64) (mov : Nat → Int32) (msp : Int32) (mwb : Nat → Int64) (mwe : Nat → Int64) (mwi : Int32) (mac : Int32) (mre : Int32) (mkn : Int32) (mth : Int32) (on : Int64) (x4 : Int32) (y0 : Int32) : Option Int32 :=
  if ix (x4 + 2) L then
    (f_L_pick ce ac on y0 (xs (x4 + 2).toNatClampNeg)).bind fun r2 =>
    if ix (x4 + 1) L then
      if (xs (x4 + 1).toNatClampNeg) = 0 then
        flaw_502 L xs K r2.2.1 fr un sb se so sc wb we wo wc fb fe fo fc rm r2.2.2.1 rf kn mce mfr mun mbe men mov msp mwb mwe mwi mac mre mkn mth r2.2.2.2 x4 0
      else
        flaw_502 L xs K r2.2.1 fr un sb se so sc wb we wo wc fb fe fo fc rm r2.2.2.1 rf kn mce mfr mun mbe men mov msp mwb mwe mwi mac mre mkn mth r2.2.2.2 x4 1
    else none
  else none
theorem flaw_475_e {L : Nat} {xs : Nat → Int32} {K : kFT} (ce : Nat → Int64) (fr : Int64) (un : Int64) (sb : Nat → Int64) (se : Nat → Int64) (so : Nat → Int32) (sc : Int32) (wb : Nat → Int64) (we : Nat → Int64) (wo : Nat → Int32) (wc : Int32) (fb : Nat → Int64) (fe : Nat → Int64) (fo : Nat → Int32) (fc : Int32) (rm : Nat → Int32) (ac : Int32) (rf : Int32) (kn : Int32) (mce : Nat → Int64) (mfr : Int64) (mun : Int64) (mbe : Nat → Int64) (men : Nat → Int64) (mov : Nat → Int32) (msp : Int32) (mwb : Nat → Int64) (mwe : Nat → Int64) (mwi : Int32) (mac : Int32) (mre : Int32) (mkn : Int32) (mth : Int32) (on : Int64) (x4 : Int32) (y0 : Int32) : flaw_475 L xs K ce fr un sb se so sc wb we wo wc fb fe fo fc rm ac rf kn mce mfr mun mbe men mov msp mwb mwe mwi mac mre mkn mth on x4 y0 =
  if ix (x4 + 2) L then
    (f_L_pick ce ac on y0 (xs (x4 + 2).toNatClampNeg)).bind fun r2 =>
    if ix (x4 + 1) L then
      if (xs (x4 + 1).toNatClampNeg) = 0 then
        flaw_502 L xs K r2.2.1 fr un sb se so sc wb we wo wc fb fe fo fc rm r2.2.2.1 rf kn mce mfr mun mbe men mov msp mwb mwe mwi mac mre mkn mth r2.2.2.2 x4 0
      else
        flaw_502 L xs K r2.2.1 fr un sb se so sc wb we wo wc fb fe fo fc rm r2.2.2.1 rf kn mce mfr mun mbe men mov msp mwb mwe mwi mac mre mkn mth r2.2.2.2 x4 1
    else none
  else none := rfl
noncomputable def flaw_460 (L : Nat) (xs : Nat → Int32) (K : kFT) (ce : Nat → Int64) (fr : Int64) (un : Int64) (sb : Nat → Int64) (se : Nat → Int64) (so : Nat → Int32) (sc : Int32) (wb : Nat → Int64) (we : Nat → Int64) (wo : Nat → Int32) (wc : Int32) (fb : Nat → Int64) (fe : Nat → Int64) (fo : Nat → Int32) (fc : Int32) (rm : Nat → Int32) (ac : Int32) (rf : Int32) (kn : Int32) (mce : Nat → Int64) (mfr : Int64) (mun : Int64) (mbe : Nat → Int64) (men : Nat → Int64) (mov : Nat → Int32) (msp : Int32) (mwb : Nat → Int64) (mwe : Nat → Int64) (mwi : Int32) (mac : Int32) (mre : Int32) (mkn : Int32) (mth : Int32) (on : Int64) (x4 : Int32) : Option Int32 :=
  if ix (x4 + 1) L then
    if (xs (x4 + 1).toNatClampNeg) = 0 then
      flaw_475 L xs K ce fr un sb se so sc wb we wo wc fb fe fo fc rm ac rf kn mce mfr mun mbe men mov msp mwb mwe mwi mac mre mkn mth on x4 0
    else
      flaw_475 L xs K ce fr un sb se so sc wb we wo wc fb fe fo fc rm ac rf kn mce mfr mun mbe men mov msp mwb mwe mwi mac mre mkn mth on x4 1
  else none
theorem flaw_460_e {L : Nat} {xs : Nat → Int32} {K : kFT} (ce : Nat → Int64) (fr : Int64) (un : Int64) (sb : Nat → Int64) (se : Nat → Int64) (so : Nat → Int32) (sc : Int32) (wb : Nat → Int64) (we : Nat → Int64) (wo : Nat → Int32) (wc : Int32) (fb : Nat → Int64) (fe : Nat → Int64) (fo : Nat → Int32) (fc : Int32) (rm : Nat → Int32) (ac : Int32) (rf : Int32) (kn : Int32) (mce : Nat → Int64) (mfr : Int64) (mun : Int64) (mbe : Nat → Int64) (men : Nat → Int64) (mov : Nat → Int32) (msp : Int32) (mwb : Nat → Int64) (mwe : Nat → Int64) (mwi : Int32) (mac : Int32) (mre : Int32) (mkn : Int32) (mth : Int32) (on : Int64) (x4 : Int32) : flaw_460 L xs K ce fr un sb se so sc wb we wo wc fb fe fo fc rm ac rf kn mce mfr mun mbe men mov msp mwb mwe mwi mac mre mkn mth on x4 =
  if ix (x4 + 1) L then
    if (xs (x4 + 1).toNatClampNeg) = 0 then
      flaw_475 L xs K ce fr un sb se so sc wb we wo wc fb fe fo fc rm ac rf kn mce mfr mun mbe men mov msp mwb mwe mwi mac mre mkn mth on x4 0
    else
      flaw_475 L xs K ce fr un sb se so sc wb we wo wc fb fe fo fc rm ac rf kn mce mfr mun mbe men mov msp mwb mwe mwi mac mre mkn mth on x4 1
  else none := rfl
set_option maxHeartbeats 8000000 in
set_option maxRecDepth 100000 in
theorem law_4 {p : Program} {l : Launch} {e : Env} {s : State} {m : MethodId} {below : List Frame} {meth : Method} {c : Code} {dC : Nat → ClassId} {dI : Nat → Nat → Nat} {cB cI cJ cZ : ClassId} {b9 L : Nat} {xs : Nat → Int32} {A : Nat → Prop} (hl9 : l.stackTraces = false) (C0 : kLw p s m c b9 L xs A) (hK : va_K (dC, dI) vwCl (kTy cB cI cJ cZ) s) {a : Nat → Nat} {o : Nat} (K : kFT) (bK sK : Nat) (hK9 : kGo p l e s m below meth c dC dI cB cI cJ cZ b9 A a o 1873 bK sK K) : kGo p l e s m below meth c dC dI cB cI cJ cZ b9 A a o 460 (1 + bK) (6 + sK) (flaw_460 L xs K) := by
  obtain ⟨hx, hb, hml, hown, hts, hX, hbl, hA, hbA, hG, hZ⟩ := C0
  have J502 : ∀ (ce : Nat → Int64) (fr : Int64) (un : Int64) (sb : Nat → Int64) (se : Nat → Int64) (so : Nat → Int32) (sc : Int32) (wb : Nat → Int64) (we : Nat → Int64) (wo : Nat → Int32) (wc : Int32) (fb : Nat → Int64) (fe : Nat → Int64) (fo : Nat → Int32) (fc : Int32) (rm : Nat → Int32) (ac : Int32) (rf : Int32) (kn : Int32) (mce : Nat → Int64) (mfr : Int64) (mun : Int64) (mbe : Nat → Int64) (men : Nat → Int64) (mov : Nat → Int32) (msp : Int32) (mwb : Nat → Int64) (mwe : Nat → Int64) (mwi : Int32) (mac : Int32) (mre : Int32) (mkn : Int32) (mth : Int32) (on : Int64) (ov : Value) (x4 : Int32) (y0 : Int32) (b : Nat → Nat) (H : Heap) (locs : List Loc) (kc ks : Nat), kc + (0 + bK) ≤ 600128 → ks + (0 + sK) ≤ 7301098 → va_P (dC, dI) vwCl ((wSB cI cJ cZ a ce fr un sb se so sc wb we wo wc fb fe fo fc rm ac rf kn) ++ (wMo cJ cZ b mce mfr mun mbe men mov msp mwb mwe mwi mac mre mkn mth) ++ (wO o on ov)) H → va_D A ((wSB cI cJ cZ a ce fr un sb se so sc wb we wo wc fb fe fo fc rm ac rf kn) ++ (wMo cJ cZ b mce mfr mun mbe men mov msp mwb mwe mwi mac mre mkn mth) ++ (wO o on ov)) → va_S A s.heap H locs → ∀ (ls : Array Slot), lv_has ls 7 (kvA 0 b9 (kvA 1 (a 0) (kvA 2 (b 0) (kvA 3 o (kvI 4 x4 kvE))))) → flaw_502 L xs K ce fr un sb se so sc wb we wo wc fb fe fo fc rm ac rf kn mce mfr mun mbe men mov msp mwb mwe mwi mac mre mkn mth on x4 y0 = some 1 → W p l e room_1 s m #[Value.ref b9] below meth c H locs kc ks (lw_Z below #[Value.ref b9] s) (F0 m 502 ls [.int y0, .ref (b 0)]) := by
    intro ce fr un sb se so sc wb we wo wc fb fe fo fc rm ac rf kn mce mfr mun mbe men mov msp mwb mwe mwi mac mre mkn mth on ov x4 y0 b H locs kc ks hkc hks hP hD hS ls hl h
    have h := (flaw_502_e ce fr un sb se so sc wb we wo wc fb fe fo fc rm ac rf kn mce mfr mun mbe men mov msp mwb mwe mwi mac mre mkn mth on x4 y0).symm.trans h
    obtain ⟨z0, h⟩ := g_if h
    refine kld (v := 2) hx hb (kdr dgL_law_387 7 8 rfl rfl) rfl (lv_at hl 0 rfl) (kdr dgL_law_387 7 9 rfl rfl) (lv_at hl 4 rfl) (kdr dgL_law_387 8 0 rfl rfl) (by decide) (kdr dgL_law_387 8 1 rfl rfl) hX hbl hbA hS (ix_in z0) (kdr dgL_law_387 8 2 rfl rfl) ?_
    obtain ⟨r2, g2, h⟩ := g_b h
    refine kq_i ((wSB cI cJ cZ a ce fr un sb se so sc wb we wo wc fb fe fo fc rm ac rf kn) ++ (wMo cJ cZ b r2.2.1 mfr mun mbe men mov msp mwb mwe mwi r2.2.2.1 mre mkn r2.2.2.2) ++ (wO o on ov)) (fun qP qD qF => va_runV (As := [.int y0, .int (xs (x4 + 2).toNatClampNeg)]) (rest := []) ⟨hx, hb, hml, hown, hts⟩ (c_X3_pick l dC dI cB cI cJ cZ b _ mce mfr mun mbe men mov msp mwb mwe mwi mac mre mkn mth y0 (xs (x4 + 2).toNatClampNeg) r2 g2) (kcwV hts kw_1178 kv_X3_pick rfl rfl ⟨(Nat.le_of_ble_eq_true rfl), (Nat.le_of_ble_eq_true rfl)⟩) (kpV (A := A) qP hK qD hG (krecv_5 (q0 := 15) hK hP rfl)) rfl rfl hl.1 rfl (lv_room (Nat.le_of_ble_eq_true rfl)) (kdr dgL_law_387 8 3 rfl rfl) ⟨by show _ ≤ (600128 : Nat); omega, by show _ ≤ (7301098 : Nat); omega⟩) hP hD hS hA (kFr_l (kFr_r kFr_Mo)) (fun H locs hP hD hS br2 => ?_)
    refine lv_istore (lv' := (kvI 6 r2.1 (kvA 0 b9 (kvA 1 (a 0) (kvA 2 (b 0) (kvA 3 o (kvI 4 x4 kvE))))))) hx hb (kdr dgL_law_387 8 4 rfl rfl) hl (by decide) rfl (fun ls hl => ?_)
    refine lv_goto (tgt := 1873) hx hb (kdr dgL_law_387 8 5 rfl rfl) (by decide) ?_
    exact hK9 ce fr un sb se so sc wb we wo wc fb fe fo fc rm ac rf kn r2.2.1 mfr mun mbe men mov msp mwb mwe mwi r2.2.2.1 mre mkn r2.2.2.2 on ov x4 b _ _ _ _ (by omega) (by omega) hP hD hS ls (lv_sub hl [1, 2, 3, 4, 5] rfl) h
  have J475 : ∀ (ce : Nat → Int64) (fr : Int64) (un : Int64) (sb : Nat → Int64) (se : Nat → Int64) (so : Nat → Int32) (sc : Int32) (wb : Nat → Int64) (we : Nat → Int64) (wo : Nat → Int32) (wc : Int32) (fb : Nat → Int64) (fe : Nat → Int64) (fo : Nat → Int32) (fc : Int32) (rm : Nat → Int32) (ac : Int32) (rf : Int32) (kn : Int32) (mce : Nat → Int64) (mfr : Int64) (mun : Int64) (mbe : Nat → Int64) (men : Nat → Int64) (mov : Nat → Int32) (msp : Int32) (mwb : Nat → Int64) (mwe : Nat → Int64) (mwi : Int32) (mac : Int32) (mre : Int32) (mkn : Int32) (mth : Int32) (on : Int64) (ov : Value) (x4 : Int32) (y0 : Int32) (b : Nat → Nat) (H : Heap) (locs : List Loc) (kc ks : Nat), kc + (1 + bK) ≤ 600128 → ks + (6 + sK) ≤ 7301098 → va_P (dC, dI) vwCl ((wSB cI cJ cZ a ce fr un sb se so sc wb we wo wc fb fe fo fc rm ac rf kn) ++ (wMo cJ cZ b mce mfr mun mbe men mov msp mwb mwe mwi mac mre mkn mth) ++ (wO o on ov)) H → va_D A ((wSB cI cJ cZ a ce fr un sb se so sc wb we wo wc fb fe fo fc rm ac rf kn) ++ (wMo cJ cZ b mce mfr mun mbe men mov msp mwb mwe mwi mac mre mkn mth) ++ (wO o on ov)) → va_S A s.heap H locs → ∀ (ls : Array Slot), lv_has ls 7 (kvA 0 b9 (kvA 1 (a 0) (kvA 2 (b 0) (kvA 3 o (kvI 4 x4 kvE))))) → flaw_475 L xs K ce fr un sb se so sc wb we wo wc fb fe fo fc rm ac rf kn mce mfr mun mbe men mov msp mwb mwe mwi mac mre mkn mth on x4 y0 = some 1 → W p l e room_1 s m #[Value.ref b9] below meth c H locs kc ks (lw_Z below #[Value.ref b9] s) (F0 m 475 ls [.int y0, .ref (a 0)]) := by
    intro ce fr un sb se so sc wb we wo wc fb fe fo fc rm ac rf kn mce mfr mun mbe men mov msp mwb mwe mwi mac mre mkn mth on ov x4 y0 b H locs kc ks hkc hks hP hD hS ls hl h
    have h := (flaw_475_e ce fr un sb se so sc wb we wo wc fb fe fo fc rm ac rf kn mce mfr mun mbe men mov msp mwb mwe mwi mac mre mkn mth on x4 y0).symm.trans h
    obtain ⟨z0, h⟩ := g_if h
    refine kld (v := 2) hx hb (kdr dgL_law_387 6 0 rfl rfl) rfl (lv_at hl 0 rfl) (kdr dgL_law_387 6 1 rfl rfl) (lv_at hl 4 rfl) (kdr dgL_law_387 6 2 rfl rfl) (by decide) (kdr dgL_law_387 6 3 rfl rfl) hX hbl hbA hS (ix_in z0) (kdr dgL_law_387 6 4 rfl rfl) ?_
    refine lv_aload_n hx hb (kdr dgL_law_387 6 5 rfl rfl) rfl (lv_at hl 3 rfl) ?_
    obtain ⟨r2, g2, h⟩ := g_b h
    refine kq_i ((wSB cI cJ cZ a r2.2.1 fr un sb se so sc wb we wo wc fb fe fo fc rm r2.2.2.1 rf kn) ++ (wMo cJ cZ b mce mfr mun mbe men mov msp mwb mwe mwi mac mre mkn mth) ++ (wO o r2.2.2.2 ov)) (fun qP qD qF => vx_runSW (As := [.ref (a 0), .int y0, .int (xs (x4 + 2).toNatClampNeg), .ref o]) (rest := []) ⟨hx, hb, hml, hown, hts⟩ (c_L_pick l hl9 dC dI cB cI cJ cZ a o _ ce fr un sb se so sc wb we wo wc fb fe fo fc rm ac rf kn on ov y0 (xs (x4 + 2).toNatClampNeg) r2 g2) (kcwSW hts kw_540 kv_L_pick rfl rfl ⟨(Nat.le_of_ble_eq_true rfl), (Nat.le_of_ble_eq_true rfl)⟩) (kpSXq (A := A) qP hK qD hG hZ hS qF) rfl rfl hl.1 rfl (lv_room (Nat.le_of_ble_eq_true rfl)) (kdr dgL_law_387 6 6 rfl rfl) ⟨by show _ ≤ (600128 : Nat); omega, by show _ ≤ (7301098 : Nat); omega⟩) hP hD hS hA (kFr_2 (kFr_l kFr_SB) kFr_o) (fun H locs hP hD hS br2 => ?_)
    refine lv_istore (lv' := (kvI 5 r2.1 (kvA 0 b9 (kvA 1 (a 0) (kvA 2 (b 0) (kvA 3 o (kvI 4 x4 kvE))))))) hx hb (kdr dgL_law_387 6 7 rfl rfl) hl (by decide) rfl (fun ls hl => ?_)
    refine lv_aload_n hx hb (kdr dgL_law_387 6 8 rfl rfl) rfl (lv_at hl 3 rfl) ?_
    obtain ⟨z2, h⟩ := g_if h
    refine kld (v := 1) hx hb (kdr dgL_law_387 6 9 rfl rfl) rfl (lv_at hl 1 rfl) (kdr dgL_law_387 7 0 rfl rfl) (lv_at hl 5 rfl) (kdr dgL_law_387 7 1 rfl rfl) (by decide) (kdr dgL_law_387 7 2 rfl rfl) hX hbl hbA hS (ix_in z2) (kdr dgL_law_387 7 3 rfl rfl) ?_
    refine lv_if_eq (tgt := 501) hx hb (kdr dgL_law_387 7 4 rfl rfl) (by decide) (fun c4 => ?_) (fun c4 => ?_)
    · have h := g_t c4 h
      refine lv_iconst (v := 0) hx hb (kdr dgL_law_387 7 7 rfl rfl) (by decide) ?_
      exact J502 r2.2.1 fr un sb se so sc wb we wo wc fb fe fo fc rm r2.2.2.1 rf kn mce mfr mun mbe men mov msp mwb mwe mwi mac mre mkn mth r2.2.2.2 ov x4 0 b _ _ _ _ (by omega) (by omega) hP hD hS ls (lv_sub hl [1, 2, 3, 4, 5] rfl) h
    · have h := g_f c4 h
      refine lv_iconst (v := 1) hx hb (kdr dgL_law_387 7 5 rfl rfl) (by decide) ?_
      refine lv_goto (tgt := 502) hx hb (kdr dgL_law_387 7 6 rfl rfl) (by decide) ?_
      exact J502 r2.2.1 fr un sb se so sc wb we wo wc fb fe fo fc rm r2.2.2.1 rf kn mce mfr mun mbe men mov msp mwb mwe mwi mac mre mkn mth r2.2.2.2 ov x4 1 b _ _ _ _ (by omega) (by omega) hP hD hS ls (lv_sub hl [1, 2, 3, 4, 5] rfl) h
  intro ce fr un sb se so sc wb we wo wc fb fe fo fc rm ac rf kn mce mfr mun mbe men mov msp mwb mwe mwi mac mre mkn mth on ov x4 b H locs kc ks hkc hks hP hD hS ls hl h
  have h := (flaw_460_e ce fr un sb se so sc wb we wo wc fb fe fo fc rm ac rf kn mce mfr mun mbe men mov msp mwb mwe mwi mac mre mkn mth on x4).symm.trans h
  refine lv_aload_n hx hb (kdr dgL_law_387 5 0 rfl rfl) rfl (lv_at hl 1 rfl) ?_
  obtain ⟨z0, h⟩ := g_if h
  refine kld (v := 1) hx hb (kdr dgL_law_387 5 1 rfl rfl) rfl (lv_at hl 0 rfl) (kdr dgL_law_387 5 2 rfl rfl) (lv_at hl 4 rfl) (kdr dgL_law_387 5 3 rfl rfl) (by decide) (kdr dgL_law_387 5 4 rfl rfl) hX hbl hbA hS (ix_in z0) (kdr dgL_law_387 5 5 rfl rfl) ?_
  refine lv_if_eq (tgt := 474) hx hb (kdr dgL_law_387 5 6 rfl rfl) (by decide) (fun c2 => ?_) (fun c2 => ?_)
  · have h := g_t c2 h
    refine lv_iconst (v := 0) hx hb (kdr dgL_law_387 5 9 rfl rfl) (by decide) ?_
    exact J475 ce fr un sb se so sc wb we wo wc fb fe fo fc rm ac rf kn mce mfr mun mbe men mov msp mwb mwe mwi mac mre mkn mth on ov x4 0 b _ _ _ _ (by omega) (by omega) hP hD hS ls (lv_sub hl [0, 1, 2, 3, 4] rfl) h
  · have h := g_f c2 h
    refine lv_iconst (v := 1) hx hb (kdr dgL_law_387 5 7 rfl rfl) (by decide) ?_
    refine lv_goto (tgt := 475) hx hb (kdr dgL_law_387 5 8 rfl rfl) (by decide) ?_
    exact J475 ce fr un sb se so sc wb we wo wc fb fe fo fc rm ac rf kn mce mfr mun mbe men mov msp mwb mwe mwi mac mre mkn mth on ov x4 1 b _ _ _ _ (by omega) (by omega) hP hD hS ls (lv_sub hl [0, 1, 2, 3, 4] rfl) h
noncomputable def flaw_516 (L : Nat) (xs : Nat → Int32) (K : kFT) (ce : Nat → Int64) (fr : Int64) (un : Int64) (sb : Nat → Int64) (se : Nat → Int64) (so : Nat → Int32) (sc : Int32) (wb : Nat → Int64) (we : Nat → Int64) (wo : Nat → Int32) (wc : Int32) (fb : Nat → Int64) (fe : Nat → Int64) (fo : Nat → Int32) (fc : Int32) (rm : Nat → Int32) (ac : Int32) (rf : Int32) (kn : Int32) (mce : Nat → Int64) (mfr : Int64) (mun : Int64) (mbe : Nat → Int64) (men : Nat → Int64) (mov : Nat → Int32) (msp : Int32) (mwb : Nat → Int64) (mwe : Nat → Int64) (mwi : Int32) (mac : Int32) (mre : Int32) (mkn : Int32) (mth : Int32) (on : Int64) (x4 : Int32) : Option Int32 :=
  if ix (x4 + 1) L then
    if ix (x4 + 2) L then
      (f_L_shift ce fr un sb se sc wb we wc ac rf on (xs (x4 + 1).toNatClampNeg) (xs (x4 + 2).toNatClampNeg)).bind fun r3 =>
      (f_X3_shift mce mfr mun mbe men msp mwb mwe mwi mac mre (xs (x4 + 1).toNatClampNeg) (xs (x4 + 2).toNatClampNeg)).bind fun r4 =>
      K r3.2.1 r3.2.2.1 r3.2.2.2.1 r3.2.2.2.2.1 r3.2.2.2.2.2.1 so sc r3.2.2.2.2.2.2.1 r3.2.2.2.2.2.2.2.1 wo wc fb fe fo fc rm r3.2.2.2.2.2.2.2.2.1 r3.2.2.2.2.2.2.2.2.2.1 kn r4.2.1 r4.2.2.1 r4.2.2.2.1 r4.2.2.2.2.1 r4.2.2.2.2.2.1 mov msp r4.2.2.2.2.2.2.1 r4.2.2.2.2.2.2.2.1 mwi r4.2.2.2.2.2.2.2.2.1 r4.2.2.2.2.2.2.2.2.2.1 mkn r4.2.2.2.2.2.2.2.2.2.2 r3.2.2.2.2.2.2.2.2.2.2 x4
    else none
  else none
theorem flaw_516_e {L : Nat} {xs : Nat → Int32} {K : kFT} (ce : Nat → Int64) (fr : Int64) (un : Int64) (sb : Nat → Int64) (se : Nat → Int64) (so : Nat → Int32) (sc : Int32) (wb : Nat → Int64) (we : Nat → Int64) (wo : Nat → Int32) (wc : Int32) (fb : Nat → Int64) (fe : Nat → Int64) (fo : Nat → Int32) (fc : Int32) (rm : Nat → Int32) (ac : Int32) (rf : Int32) (kn : Int32) (mce : Nat → Int64) (mfr : Int64) (mun : Int64) (mbe : Nat → Int64) (men : Nat → Int64) (mov : Nat → Int32) (msp : Int32) (mwb : Nat → Int64) (mwe : Nat → Int64) (mwi : Int32) (mac : Int32) (mre : Int32) (mkn : Int32) (mth : Int32) (on : Int64) (x4 : Int32) : flaw_516 L xs K ce fr un sb se so sc wb we wo wc fb fe fo fc rm ac rf kn mce mfr mun mbe men mov msp mwb mwe mwi mac mre mkn mth on x4 =
  if ix (x4 + 1) L then
    if ix (x4 + 2) L then
      (f_L_shift ce fr un sb se sc wb we wc ac rf on (xs (x4 + 1).toNatClampNeg) (xs (x4 + 2).toNatClampNeg)).bind fun r3 =>
      (f_X3_shift mce mfr mun mbe men msp mwb mwe mwi mac mre (xs (x4 + 1).toNatClampNeg) (xs (x4 + 2).toNatClampNeg)).bind fun r4 =>
      K r3.2.1 r3.2.2.1 r3.2.2.2.1 r3.2.2.2.2.1 r3.2.2.2.2.2.1 so sc r3.2.2.2.2.2.2.1 r3.2.2.2.2.2.2.2.1 wo wc fb fe fo fc rm r3.2.2.2.2.2.2.2.2.1 r3.2.2.2.2.2.2.2.2.2.1 kn r4.2.1 r4.2.2.1 r4.2.2.2.1 r4.2.2.2.2.1 r4.2.2.2.2.2.1 mov msp r4.2.2.2.2.2.2.1 r4.2.2.2.2.2.2.2.1 mwi r4.2.2.2.2.2.2.2.2.1 r4.2.2.2.2.2.2.2.2.2.1 mkn r4.2.2.2.2.2.2.2.2.2.2 r3.2.2.2.2.2.2.2.2.2.2 x4
    else none
  else none := rfl
set_option maxHeartbeats 8000000 in
set_option maxRecDepth 100000 in
theorem law_5 {p : Program} {l : Launch} {e : Env} {s : State} {m : MethodId} {below : List Frame} {meth : Method} {c : Code} {dC : Nat → ClassId} {dI : Nat → Nat → Nat} {cB cI cJ cZ : ClassId} {b9 L : Nat} {xs : Nat → Int32} {A : Nat → Prop} (hl9 : l.stackTraces = false) (C0 : kLw p s m c b9 L xs A) (hK : va_K (dC, dI) vwCl (kTy cB cI cJ cZ) s) {a : Nat → Nat} {o : Nat} (K : kFT) (bK sK : Nat) (hK9 : kGo p l e s m below meth c dC dI cB cI cJ cZ b9 A a o 1873 bK sK K) : kGo p l e s m below meth c dC dI cB cI cJ cZ b9 A a o 516 (6 + bK) (86 + sK) (flaw_516 L xs K) := by
  obtain ⟨hx, hb, hml, hown, hts, hX, hbl, hA, hbA, hG, hZ⟩ := C0
  intro ce fr un sb se so sc wb we wo wc fb fe fo fc rm ac rf kn mce mfr mun mbe men mov msp mwb mwe mwi mac mre mkn mth on ov x4 b H locs kc ks hkc hks hP hD hS ls hl h
  have h := (flaw_516_e ce fr un sb se so sc wb we wo wc fb fe fo fc rm ac rf kn mce mfr mun mbe men mov msp mwb mwe mwi mac mre mkn mth on x4).symm.trans h
  refine lv_aload_n hx hb (kdr dgL_law_387 8 6 rfl rfl) rfl (lv_at hl 1 rfl) ?_
  obtain ⟨z0, h⟩ := g_if h
  refine kld (v := 1) hx hb (kdr dgL_law_387 8 7 rfl rfl) rfl (lv_at hl 0 rfl) (kdr dgL_law_387 8 8 rfl rfl) (lv_at hl 4 rfl) (kdr dgL_law_387 8 9 rfl rfl) (by decide) (kdr dgL_law_387 9 0 rfl rfl) hX hbl hbA hS (ix_in z0) (kdr dgL_law_387 9 1 rfl rfl) ?_
  obtain ⟨z1, h⟩ := g_if h
  refine kld (v := 2) hx hb (kdr dgL_law_387 9 2 rfl rfl) rfl (lv_at hl 0 rfl) (kdr dgL_law_387 9 3 rfl rfl) (lv_at hl 4 rfl) (kdr dgL_law_387 9 4 rfl rfl) (by decide) (kdr dgL_law_387 9 5 rfl rfl) hX hbl hbA hS (ix_in z1) (kdr dgL_law_387 9 6 rfl rfl) ?_
  refine lv_aload_n hx hb (kdr dgL_law_387 9 7 rfl rfl) rfl (lv_at hl 3 rfl) ?_
  obtain ⟨r3, g3, h⟩ := g_b h
  refine kq_i ((wSB cI cJ cZ a r3.2.1 r3.2.2.1 r3.2.2.2.1 r3.2.2.2.2.1 r3.2.2.2.2.2.1 so sc r3.2.2.2.2.2.2.1 r3.2.2.2.2.2.2.2.1 wo wc fb fe fo fc rm r3.2.2.2.2.2.2.2.2.1 r3.2.2.2.2.2.2.2.2.2.1 kn) ++ (wMo cJ cZ b mce mfr mun mbe men mov msp mwb mwe mwi mac mre mkn mth) ++ (wO o r3.2.2.2.2.2.2.2.2.2.2 ov)) (fun qP qD qF => vx_runSW (As := [.ref (a 0), .int (xs (x4 + 1).toNatClampNeg), .int (xs (x4 + 2).toNatClampNeg), .ref o]) (rest := []) ⟨hx, hb, hml, hown, hts⟩ (c_L_shift l hl9 dC dI cB cI cJ cZ a o _ ce fr un sb se so sc wb we wo wc fb fe fo fc rm ac rf kn on ov (xs (x4 + 1).toNatClampNeg) (xs (x4 + 2).toNatClampNeg) r3 g3) (kcwSW hts kw_547 kv_L_shift rfl rfl ⟨(Nat.le_of_ble_eq_true rfl), (Nat.le_of_ble_eq_true rfl)⟩) (kpSXq (A := A) qP hK qD hG hZ hS qF) rfl rfl hl.1 rfl (lv_room (Nat.le_of_ble_eq_true rfl)) (kdr dgL_law_387 9 8 rfl rfl) ⟨by show _ ≤ (600128 : Nat); omega, by show _ ≤ (7301098 : Nat); omega⟩) hP hD hS hA (kFr_2 (kFr_l kFr_SB) kFr_o) (fun H locs hP hD hS br3 => ?_)
  refine lv_istore (lv' := (kvI 5 r3.1 (kvA 0 b9 (kvA 1 (a 0) (kvA 2 (b 0) (kvA 3 o (kvI 4 x4 kvE))))))) hx hb (kdr dgL_law_387 9 9 rfl rfl) hl (by decide) rfl (fun ls hl => ?_)
  refine lv_aload_n hx hb (kdr dgL_law_535 0 0 rfl rfl) rfl (lv_at hl 3 rfl) ?_
  refine kld (v := 1) hx hb (kdr dgL_law_535 0 1 rfl rfl) rfl (lv_at hl 1 rfl) (kdr dgL_law_535 0 2 rfl rfl) (lv_at hl 5 rfl) (kdr dgL_law_535 0 3 rfl rfl) (by decide) (kdr dgL_law_535 0 4 rfl rfl) hX hbl hbA hS (ix_in z0) (kdr dgL_law_535 0 5 rfl rfl) ?_
  refine kld (v := 2) hx hb (kdr dgL_law_535 0 6 rfl rfl) rfl (lv_at hl 1 rfl) (kdr dgL_law_535 0 7 rfl rfl) (lv_at hl 5 rfl) (kdr dgL_law_535 0 8 rfl rfl) (by decide) (kdr dgL_law_535 0 9 rfl rfl) hX hbl hbA hS (ix_in z1) (kdr dgL_law_535 1 0 rfl rfl) ?_
  obtain ⟨r4, g4, h⟩ := g_b h
  refine kcall_sh (fun u4 => (wMo cJ cZ u4 r4.2.1 r4.2.2.1 r4.2.2.2.1 r4.2.2.2.2.1 r4.2.2.2.2.2.1 mov msp r4.2.2.2.2.2.2.1 r4.2.2.2.2.2.2.2.1 mwi r4.2.2.2.2.2.2.2.2.1 r4.2.2.2.2.2.2.2.2.2.1 mkn r4.2.2.2.2.2.2.2.2.2.2)) (va_runV (As := [.int (xs (x4 + 1).toNatClampNeg), .int (xs (x4 + 2).toNatClampNeg)]) (rest := []) ⟨hx, hb, hml, hown, hts⟩ (c_X3_shift l dC dI cB cI cJ cZ b _ mce mfr mun mbe men mov msp mwb mwe mwi mac mre mkn mth (xs (x4 + 1).toNatClampNeg) (xs (x4 + 2).toNatClampNeg) r4 g4) (kcwV hts kw_1182 kv_X3_shift rfl rfl ⟨(Nat.le_of_ble_eq_true rfl), (Nat.le_of_ble_eq_true rfl)⟩) (kpV (A := A) (hP.sub [15, 16, 17, 18, 19, 20, 21] rfl) hK (hD.sub [15, 16, 17, 18, 19, 20, 21] (by decide) rfl) hG (krecv_5 (q0 := 15) hK hP rfl)) rfl rfl hl.1 rfl (lv_room (Nat.le_of_ble_eq_true rfl)) (kdr dgL_law_535 1 1 rfl rfl) ⟨by show _ ≤ (600128 : Nat); omega, by show _ ≤ (7301098 : Nat); omega⟩) hP hD hS hA [15, 16, 17, 18, 19, 20, 21] [0, 1, 2, 3, 4, 5, 6, 7, 8, 9, 10, 11, 12, 13, 14, 22] rfl [((a 0), .inr (3, [.ref (a 1), .long r3.2.2.1, .long r3.2.2.2.1, .ref (a 2), .ref (a 6), .ref (a 10), .ref (a 14), .int r3.2.2.2.2.2.2.2.2.1, .int r3.2.2.2.2.2.2.2.2.2.1, .int kn])), ((a 1), .inl (cJ, 4, .inr (.inl r3.2.1))), ((a 2), .inr (2, [.ref (a 3), .ref (a 4), .ref (a 5), .int sc])), ((a 3), .inl (cJ, 11, .inr (.inl r3.2.2.2.2.1))), ((a 4), .inl (cJ, 11, .inr (.inl r3.2.2.2.2.2.1))), ((a 5), .inl (cZ, 11, .inl so)), ((a 6), .inr (2, [.ref (a 7), .ref (a 8), .ref (a 9), .int wc])), ((a 7), .inl (cJ, 11, .inr (.inl r3.2.2.2.2.2.2.1))), ((a 8), .inl (cJ, 11, .inr (.inl r3.2.2.2.2.2.2.2.1))), ((a 9), .inl (cZ, 11, .inl wo)), ((a 10), .inr (2, [.ref (a 11), .ref (a 12), .ref (a 13), .int fc])), ((a 11), .inl (cJ, 11, .inr (.inl fb))), ((a 12), .inl (cJ, 11, .inr (.inl fe))), ((a 13), .inl (cZ, 11, .inl fo)), ((a 14), .inl (cI, 11, .inl rm)), (o, .inr (4, [.long r3.2.2.2.2.2.2.2.2.2.2, ov]))] rfl (by decide) (by decide) (fun u4 H locs hu hP hD hS => ?_)
  have hP := hP.sub (ws' := ((wSB cI cJ cZ a r3.2.1 r3.2.2.1 r3.2.2.2.1 r3.2.2.2.2.1 r3.2.2.2.2.2.1 so sc r3.2.2.2.2.2.2.1 r3.2.2.2.2.2.2.2.1 wo wc fb fe fo fc rm r3.2.2.2.2.2.2.2.2.1 r3.2.2.2.2.2.2.2.2.2.1 kn) ++ (wMo cJ cZ u4 r4.2.1 r4.2.2.1 r4.2.2.2.1 r4.2.2.2.2.1 r4.2.2.2.2.2.1 mov msp r4.2.2.2.2.2.2.1 r4.2.2.2.2.2.2.2.1 mwi r4.2.2.2.2.2.2.2.2.1 r4.2.2.2.2.2.2.2.2.2.1 mkn r4.2.2.2.2.2.2.2.2.2.2) ++ (wO o r3.2.2.2.2.2.2.2.2.2.2 ov))) [0, 1, 2, 3, 4, 5, 6, 7, 8, 9, 10, 11, 12, 13, 14, 16, 17, 18, 19, 20, 21, 22, 15] rfl
  have hD := hD.sub (ws' := ((wSB cI cJ cZ a r3.2.1 r3.2.2.1 r3.2.2.2.1 r3.2.2.2.2.1 r3.2.2.2.2.2.1 so sc r3.2.2.2.2.2.2.1 r3.2.2.2.2.2.2.2.1 wo wc fb fe fo fc rm r3.2.2.2.2.2.2.2.2.1 r3.2.2.2.2.2.2.2.2.2.1 kn) ++ (wMo cJ cZ u4 r4.2.1 r4.2.2.1 r4.2.2.2.1 r4.2.2.2.2.1 r4.2.2.2.2.2.1 mov msp r4.2.2.2.2.2.2.1 r4.2.2.2.2.2.2.2.1 mwi r4.2.2.2.2.2.2.2.2.1 r4.2.2.2.2.2.2.2.2.2.1 mkn r4.2.2.2.2.2.2.2.2.2.2) ++ (wO o r3.2.2.2.2.2.2.2.2.2.2 ov))) [0, 1, 2, 3, 4, 5, 6, 7, 8, 9, 10, 11, 12, 13, 14, 16, 17, 18, 19, 20, 21, 22, 15] (by decide) rfl
  rw [← hu] at hl
  refine lv_istore (lv' := (kvI 6 r4.1 (kvI 5 r3.1 (kvA 0 b9 (kvA 1 (a 0) (kvA 2 (u4 0) (kvA 3 o (kvI 4 x4 kvE)))))))) hx hb (kdr dgL_law_535 1 2 rfl rfl) hl (by decide) rfl (fun ls hl => ?_)
  refine lv_goto (tgt := 1873) hx hb (kdr dgL_law_535 1 3 rfl rfl) (by decide) ?_
  exact hK9 r3.2.1 r3.2.2.1 r3.2.2.2.1 r3.2.2.2.2.1 r3.2.2.2.2.2.1 so sc r3.2.2.2.2.2.2.1 r3.2.2.2.2.2.2.2.1 wo wc fb fe fo fc rm r3.2.2.2.2.2.2.2.2.1 r3.2.2.2.2.2.2.2.2.2.1 kn r4.2.1 r4.2.2.1 r4.2.2.2.1 r4.2.2.2.2.1 r4.2.2.2.2.2.1 mov msp r4.2.2.2.2.2.2.1 r4.2.2.2.2.2.2.2.1 mwi r4.2.2.2.2.2.2.2.2.1 r4.2.2.2.2.2.2.2.2.2.1 mkn r4.2.2.2.2.2.2.2.2.2.2 r3.2.2.2.2.2.2.2.2.2.2 ov x4 u4 _ _ _ _ (by omega) (by omega) hP hD hS ls (lv_sub hl [2, 3, 4, 5, 6] rfl) h
noncomputable def flaw_556 (L : Nat) (xs : Nat → Int32) (K : kFT) (ce : Nat → Int64) (fr : Int64) (un : Int64) (sb : Nat → Int64) (se : Nat → Int64) (so : Nat → Int32) (sc : Int32) (wb : Nat → Int64) (we : Nat → Int64) (wo : Nat → Int32) (wc : Int32) (fb : Nat → Int64) (fe : Nat → Int64) (fo : Nat → Int32) (fc : Int32) (rm : Nat → Int32) (ac : Int32) (rf : Int32) (kn : Int32) (mce : Nat → Int64) (mfr : Int64) (mun : Int64) (mbe : Nat → Int64) (men : Nat → Int64) (mov : Nat → Int32) (msp : Int32) (mwb : Nat → Int64) (mwe : Nat → Int64) (mwi : Int32) (mac : Int32) (mre : Int32) (mkn : Int32) (mth : Int32) (on : Int64) (x4 : Int32) : Option Int32 :=
  if ix (x4 + 1) L then
    if ix (x4 + 2) L then
      (f_L_open ce fr un sc ac rf on (xs (x4 + 1).toNatClampNeg) (xs (x4 + 2).toNatClampNeg)).bind fun r3 =>
      (f_X3_open mce mfr mun msp mac mre (xs (x4 + 1).toNatClampNeg) (xs (x4 + 2).toNatClampNeg)).bind fun r4 =>
      K ce r3.2.1 r3.2.2.1 sb se so r3.2.2.2.1 wb we wo wc fb fe fo fc rm r3.2.2.2.2.1 r3.2.2.2.2.2.1 kn mce r4.2.1 r4.2.2.1 mbe men mov r4.2.2.2.1 mwb mwe mwi r4.2.2.2.2.1 r4.2.2.2.2.2.1 mkn r4.2.2.2.2.2.2 r3.2.2.2.2.2.2 x4
    else none
  else none
theorem flaw_556_e {L : Nat} {xs : Nat → Int32} {K : kFT} (ce : Nat → Int64) (fr : Int64) (un : Int64) (sb : Nat → Int64) (se : Nat → Int64) (so : Nat → Int32) (sc : Int32) (wb : Nat → Int64) (we : Nat → Int64) (wo : Nat → Int32) (wc : Int32) (fb : Nat → Int64) (fe : Nat → Int64) (fo : Nat → Int32) (fc : Int32) (rm : Nat → Int32) (ac : Int32) (rf : Int32) (kn : Int32) (mce : Nat → Int64) (mfr : Int64) (mun : Int64) (mbe : Nat → Int64) (men : Nat → Int64) (mov : Nat → Int32) (msp : Int32) (mwb : Nat → Int64) (mwe : Nat → Int64) (mwi : Int32) (mac : Int32) (mre : Int32) (mkn : Int32) (mth : Int32) (on : Int64) (x4 : Int32) : flaw_556 L xs K ce fr un sb se so sc wb we wo wc fb fe fo fc rm ac rf kn mce mfr mun mbe men mov msp mwb mwe mwi mac mre mkn mth on x4 =
  if ix (x4 + 1) L then
    if ix (x4 + 2) L then
      (f_L_open ce fr un sc ac rf on (xs (x4 + 1).toNatClampNeg) (xs (x4 + 2).toNatClampNeg)).bind fun r3 =>
      (f_X3_open mce mfr mun msp mac mre (xs (x4 + 1).toNatClampNeg) (xs (x4 + 2).toNatClampNeg)).bind fun r4 =>
      K ce r3.2.1 r3.2.2.1 sb se so r3.2.2.2.1 wb we wo wc fb fe fo fc rm r3.2.2.2.2.1 r3.2.2.2.2.2.1 kn mce r4.2.1 r4.2.2.1 mbe men mov r4.2.2.2.1 mwb mwe mwi r4.2.2.2.2.1 r4.2.2.2.2.2.1 mkn r4.2.2.2.2.2.2 r3.2.2.2.2.2.2 x4
    else none
  else none := rfl
set_option maxHeartbeats 8000000 in
set_option maxRecDepth 100000 in
theorem law_6 {p : Program} {l : Launch} {e : Env} {s : State} {m : MethodId} {below : List Frame} {meth : Method} {c : Code} {dC : Nat → ClassId} {dI : Nat → Nat → Nat} {cB cI cJ cZ : ClassId} {b9 L : Nat} {xs : Nat → Int32} {A : Nat → Prop} (hl9 : l.stackTraces = false) (C0 : kLw p s m c b9 L xs A) (hK : va_K (dC, dI) vwCl (kTy cB cI cJ cZ) s) {a : Nat → Nat} {o : Nat} (K : kFT) (bK sK : Nat) (hK9 : kGo p l e s m below meth c dC dI cB cI cJ cZ b9 A a o 1873 bK sK K) : kGo p l e s m below meth c dC dI cB cI cJ cZ b9 A a o 556 (1 + bK) (6 + sK) (flaw_556 L xs K) := by
  obtain ⟨hx, hb, hml, hown, hts, hX, hbl, hA, hbA, hG, hZ⟩ := C0
  intro ce fr un sb se so sc wb we wo wc fb fe fo fc rm ac rf kn mce mfr mun mbe men mov msp mwb mwe mwi mac mre mkn mth on ov x4 b H locs kc ks hkc hks hP hD hS ls hl h
  have h := (flaw_556_e ce fr un sb se so sc wb we wo wc fb fe fo fc rm ac rf kn mce mfr mun mbe men mov msp mwb mwe mwi mac mre mkn mth on x4).symm.trans h
  refine lv_aload_n hx hb (kdr dgL_law_535 1 4 rfl rfl) rfl (lv_at hl 1 rfl) ?_
  obtain ⟨z0, h⟩ := g_if h
  refine kld (v := 1) hx hb (kdr dgL_law_535 1 5 rfl rfl) rfl (lv_at hl 0 rfl) (kdr dgL_law_535 1 6 rfl rfl) (lv_at hl 4 rfl) (kdr dgL_law_535 1 7 rfl rfl) (by decide) (kdr dgL_law_535 1 8 rfl rfl) hX hbl hbA hS (ix_in z0) (kdr dgL_law_535 1 9 rfl rfl) ?_
  obtain ⟨z1, h⟩ := g_if h
  refine kld (v := 2) hx hb (kdr dgL_law_535 2 0 rfl rfl) rfl (lv_at hl 0 rfl) (kdr dgL_law_535 2 1 rfl rfl) (lv_at hl 4 rfl) (kdr dgL_law_535 2 2 rfl rfl) (by decide) (kdr dgL_law_535 2 3 rfl rfl) hX hbl hbA hS (ix_in z1) (kdr dgL_law_535 2 4 rfl rfl) ?_
  refine lv_aload_n hx hb (kdr dgL_law_535 2 5 rfl rfl) rfl (lv_at hl 3 rfl) ?_
  obtain ⟨r3, g3, h⟩ := g_b h
  refine kq_i ((wSB cI cJ cZ a ce r3.2.1 r3.2.2.1 sb se so r3.2.2.2.1 wb we wo wc fb fe fo fc rm r3.2.2.2.2.1 r3.2.2.2.2.2.1 kn) ++ (wMo cJ cZ b mce mfr mun mbe men mov msp mwb mwe mwi mac mre mkn mth) ++ (wO o r3.2.2.2.2.2.2 ov)) (fun qP qD qF => vx_runSW (As := [.ref (a 0), .int (xs (x4 + 1).toNatClampNeg), .int (xs (x4 + 2).toNatClampNeg), .ref o]) (rest := []) ⟨hx, hb, hml, hown, hts⟩ (c_L_open l hl9 dC dI cB cI cJ cZ a o _ ce fr un sb se so sc wb we wo wc fb fe fo fc rm ac rf kn on ov (xs (x4 + 1).toNatClampNeg) (xs (x4 + 2).toNatClampNeg) r3 g3) (kcwSW hts kw_567 kv_L_open rfl rfl ⟨(Nat.le_of_ble_eq_true rfl), (Nat.le_of_ble_eq_true rfl)⟩) (kpSXq (A := A) qP hK qD hG hZ hS qF) rfl rfl hl.1 rfl (lv_room (Nat.le_of_ble_eq_true rfl)) (kdr dgL_law_535 2 6 rfl rfl) ⟨by show _ ≤ (600128 : Nat); omega, by show _ ≤ (7301098 : Nat); omega⟩) hP hD hS hA (kFr_2 (kFr_l kFr_SB) kFr_o) (fun H locs hP hD hS br3 => ?_)
  refine lv_istore (lv' := (kvI 5 r3.1 (kvA 0 b9 (kvA 1 (a 0) (kvA 2 (b 0) (kvA 3 o (kvI 4 x4 kvE))))))) hx hb (kdr dgL_law_535 2 7 rfl rfl) hl (by decide) rfl (fun ls hl => ?_)
  refine lv_aload_n hx hb (kdr dgL_law_535 2 8 rfl rfl) rfl (lv_at hl 3 rfl) ?_
  refine kld (v := 1) hx hb (kdr dgL_law_535 2 9 rfl rfl) rfl (lv_at hl 1 rfl) (kdr dgL_law_535 3 0 rfl rfl) (lv_at hl 5 rfl) (kdr dgL_law_535 3 1 rfl rfl) (by decide) (kdr dgL_law_535 3 2 rfl rfl) hX hbl hbA hS (ix_in z0) (kdr dgL_law_535 3 3 rfl rfl) ?_
  refine kld (v := 2) hx hb (kdr dgL_law_535 3 4 rfl rfl) rfl (lv_at hl 1 rfl) (kdr dgL_law_535 3 5 rfl rfl) (lv_at hl 5 rfl) (kdr dgL_law_535 3 6 rfl rfl) (by decide) (kdr dgL_law_535 3 7 rfl rfl) hX hbl hbA hS (ix_in z1) (kdr dgL_law_535 3 8 rfl rfl) ?_
  obtain ⟨r4, g4, h⟩ := g_b h
  refine kq_i ((wSB cI cJ cZ a ce r3.2.1 r3.2.2.1 sb se so r3.2.2.2.1 wb we wo wc fb fe fo fc rm r3.2.2.2.2.1 r3.2.2.2.2.2.1 kn) ++ (wMo cJ cZ b mce r4.2.1 r4.2.2.1 mbe men mov r4.2.2.2.1 mwb mwe mwi r4.2.2.2.2.1 r4.2.2.2.2.2.1 mkn r4.2.2.2.2.2.2) ++ (wO o r3.2.2.2.2.2.2 ov)) (fun qP qD qF => va_runV (As := [.int (xs (x4 + 1).toNatClampNeg), .int (xs (x4 + 2).toNatClampNeg)]) (rest := []) ⟨hx, hb, hml, hown, hts⟩ (c_X3_open l dC dI cB cI cJ cZ b _ mce mfr mun mbe men mov msp mwb mwe mwi mac mre mkn mth (xs (x4 + 1).toNatClampNeg) (xs (x4 + 2).toNatClampNeg) r4 g4) (kcwV hts kw_1192 kv_X3_open rfl rfl ⟨(Nat.le_of_ble_eq_true rfl), (Nat.le_of_ble_eq_true rfl)⟩) (kpV (A := A) qP hK qD hG (krecv_5 (q0 := 15) hK hP rfl)) rfl rfl hl.1 rfl (lv_room (Nat.le_of_ble_eq_true rfl)) (kdr dgL_law_535 3 9 rfl rfl) ⟨by show _ ≤ (600128 : Nat); omega, by show _ ≤ (7301098 : Nat); omega⟩) hP hD hS hA (kFr_l (kFr_r kFr_Mo)) (fun H locs hP hD hS br4 => ?_)
  refine lv_istore (lv' := (kvI 6 r4.1 (kvI 5 r3.1 (kvA 0 b9 (kvA 1 (a 0) (kvA 2 (b 0) (kvA 3 o (kvI 4 x4 kvE)))))))) hx hb (kdr dgL_law_535 4 0 rfl rfl) hl (by decide) rfl (fun ls hl => ?_)
  refine lv_goto (tgt := 1873) hx hb (kdr dgL_law_535 4 1 rfl rfl) (by decide) ?_
  exact hK9 ce r3.2.1 r3.2.2.1 sb se so r3.2.2.2.1 wb we wo wc fb fe fo fc rm r3.2.2.2.2.1 r3.2.2.2.2.2.1 kn mce r4.2.1 r4.2.2.1 mbe men mov r4.2.2.2.1 mwb mwe mwi r4.2.2.2.2.1 r4.2.2.2.2.2.1 mkn r4.2.2.2.2.2.2 r3.2.2.2.2.2.2 ov x4 b _ _ _ _ (by omega) (by omega) hP hD hS ls (lv_sub hl [2, 3, 4, 5, 6] rfl) h
noncomputable def flaw_656 (L : Nat) (xs : Nat → Int32) (K : kFT) (ce : Nat → Int64) (fr : Int64) (un : Int64) (sb : Nat → Int64) (se : Nat → Int64) (so : Nat → Int32) (sc : Int32) (wb : Nat → Int64) (we : Nat → Int64) (wo : Nat → Int32) (wc : Int32) (fb : Nat → Int64) (fe : Nat → Int64) (fo : Nat → Int32) (fc : Int32) (rm : Nat → Int32) (ac : Int32) (rf : Int32) (kn : Int32) (mce : Nat → Int64) (mfr : Int64) (mun : Int64) (mbe : Nat → Int64) (men : Nat → Int64) (mov : Nat → Int32) (msp : Int32) (mwb : Nat → Int64) (mwe : Nat → Int64) (mwi : Int32) (mac : Int32) (mre : Int32) (mkn : Int32) (mth : Int32) (on : Int64) (x4 : Int32) (y0 : Int32) (y1 : Int32) (y2 : Int32) : Option Int32 :=
  (f_X3_book mce mfr mun mbe men mov msp mac mre y2 y1 y0).bind fun r1 =>
  K ce fr un sb se so sc wb we wo wc fb fe fo fc rm ac rf kn mce mfr mun r1.2.1 r1.2.2.1 r1.2.2.2.1 r1.2.2.2.2.1 mwb mwe mwi r1.2.2.2.2.2.1 r1.2.2.2.2.2.2.1 mkn r1.2.2.2.2.2.2.2 on x4
theorem flaw_656_e {L : Nat} {xs : Nat → Int32} {K : kFT} (ce : Nat → Int64) (fr : Int64) (un : Int64) (sb : Nat → Int64) (se : Nat → Int64) (so : Nat → Int32) (sc : Int32) (wb : Nat → Int64) (we : Nat → Int64) (wo : Nat → Int32) (wc : Int32) (fb : Nat → Int64) (fe : Nat → Int64) (fo : Nat → Int32) (fc : Int32) (rm : Nat → Int32) (ac : Int32) (rf : Int32) (kn : Int32) (mce : Nat → Int64) (mfr : Int64) (mun : Int64) (mbe : Nat → Int64) (men : Nat → Int64) (mov : Nat → Int32) (msp : Int32) (mwb : Nat → Int64) (mwe : Nat → Int64) (mwi : Int32) (mac : Int32) (mre : Int32) (mkn : Int32) (mth : Int32) (on : Int64) (x4 : Int32) (y0 : Int32) (y1 : Int32) (y2 : Int32) : flaw_656 L xs K ce fr un sb se so sc wb we wo wc fb fe fo fc rm ac rf kn mce mfr mun mbe men mov msp mwb mwe mwi mac mre mkn mth on x4 y0 y1 y2 =
  (f_X3_book mce mfr mun mbe men mov msp mac mre y2 y1 y0).bind fun r1 =>
  K ce fr un sb se so sc wb we wo wc fb fe fo fc rm ac rf kn mce mfr mun r1.2.1 r1.2.2.1 r1.2.2.2.1 r1.2.2.2.2.1 mwb mwe mwi r1.2.2.2.2.2.1 r1.2.2.2.2.2.2.1 mkn r1.2.2.2.2.2.2.2 on x4 := rfl
noncomputable def flaw_623 (L : Nat) (xs : Nat → Int32) (K : kFT) (ce : Nat → Int64) (fr : Int64) (un : Int64) (sb : Nat → Int64) (se : Nat → Int64) (so : Nat → Int32) (sc : Int32) (wb : Nat → Int64) (we : Nat → Int64) (wo : Nat → Int32) (wc : Int32) (fb : Nat → Int64) (fe : Nat → Int64) (fo : Nat → Int32) (fc : Int32) (rm : Nat → Int32) (ac : Int32) (rf : Int32) (kn : Int32) (mce : Nat → Int64) (mfr : Int64) (mun : Int64) (mbe : Nat → Int64) (men : Nat → Int64) (mov : Nat → Int32) (msp : Int32) (mwb : Nat → Int64) (mwe : Nat → Int64) (mwi : Int32) (mac : Int32) (mre : Int32) (mkn : Int32) (mth : Int32) (on : Int64) (x4 : Int32) (y0 : Int32) (y1 : Int32) (y2 : Int32) : Option Int32 :=
  (f_L_book ce fr un sb se so sc ac rf on y2 y1 y0).bind fun r1 =>
  if ix (x4 + 1) L then
    if ix (x4 + 2) L then
      if ix (x4 + 3) L then
        if (xs (x4 + 3).toNatClampNeg) = 0 then
          flaw_656 L xs K ce fr un r1.2.1 r1.2.2.1 r1.2.2.2.1 r1.2.2.2.2.1 wb we wo wc fb fe fo fc rm r1.2.2.2.2.2.1 r1.2.2.2.2.2.2.1 kn mce mfr mun mbe men mov msp mwb mwe mwi mac mre mkn mth r1.2.2.2.2.2.2.2 x4 0 (xs (x4 + 2).toNatClampNeg) (xs (x4 + 1).toNatClampNeg)
        else
          flaw_656 L xs K ce fr un r1.2.1 r1.2.2.1 r1.2.2.2.1 r1.2.2.2.2.1 wb we wo wc fb fe fo fc rm r1.2.2.2.2.2.1 r1.2.2.2.2.2.2.1 kn mce mfr mun mbe men mov msp mwb mwe mwi mac mre mkn mth r1.2.2.2.2.2.2.2 x4 1 (xs (x4 + 2).toNatClampNeg) (xs (x4 + 1).toNatClampNeg)
      else none
    else none
  else none
theorem flaw_623_e {L : Nat} {xs : Nat → Int32} {K : kFT} (ce : Nat → Int64) (fr : Int64) (un : Int64) (sb : Nat → Int64) (se : Nat → Int64) (so : Nat → Int32) (sc : Int32) (wb : Nat → Int64) (we : Nat → Int64) (wo : Nat → Int32) (wc : Int32) (fb : Nat → Int64) (fe : Nat → Int64) (fo : Nat → Int32) (fc : Int32) (rm : Nat → Int32) (ac : Int32) (rf : Int32) (kn : Int32) (mce : Nat → Int64) (mfr : Int64) (mun : Int64) (mbe : Nat → Int64) (men : Nat → Int64) (mov : Nat → Int32) (msp : Int32) (mwb : Nat → Int64) (mwe : Nat → Int64) (mwi : Int32) (mac : Int32) (mre : Int32) (mkn : Int32) (mth : Int32) (on : Int64) (x4 : Int32) (y0 : Int32) (y1 : Int32) (y2 : Int32) : flaw_623 L xs K ce fr un sb se so sc wb we wo wc fb fe fo fc rm ac rf kn mce mfr mun mbe men mov msp mwb mwe mwi mac mre mkn mth on x4 y0 y1 y2 =
  (f_L_book ce fr un sb se so sc ac rf on y2 y1 y0).bind fun r1 =>
  if ix (x4 + 1) L then
    if ix (x4 + 2) L then
      if ix (x4 + 3) L then
        if (xs (x4 + 3).toNatClampNeg) = 0 then
          flaw_656 L xs K ce fr un r1.2.1 r1.2.2.1 r1.2.2.2.1 r1.2.2.2.2.1 wb we wo wc fb fe fo fc rm r1.2.2.2.2.2.1 r1.2.2.2.2.2.2.1 kn mce mfr mun mbe men mov msp mwb mwe mwi mac mre mkn mth r1.2.2.2.2.2.2.2 x4 0 (xs (x4 + 2).toNatClampNeg) (xs (x4 + 1).toNatClampNeg)
        else
          flaw_656 L xs K ce fr un r1.2.1 r1.2.2.1 r1.2.2.2.1 r1.2.2.2.2.1 wb we wo wc fb fe fo fc rm r1.2.2.2.2.2.1 r1.2.2.2.2.2.2.1 kn mce mfr mun mbe men mov msp mwb mwe mwi mac mre mkn mth r1.2.2.2.2.2.2.2 x4 1 (xs (x4 + 2).toNatClampNeg) (xs (x4 + 1).toNatClampNeg)
      else none
    else none
  else none := rfl
noncomputable def flaw_596 (L : Nat) (xs : Nat → Int32) (K : kFT) (ce : Nat → Int64) (fr : Int64) (un : Int64) (sb : Nat → Int64) (se : Nat → Int64) (so : Nat → Int32) (sc : Int32) (wb : Nat → Int64) (we : Nat → Int64) (wo : Nat → Int32) (wc : Int32) (fb : Nat → Int64) (fe : Nat → Int64) (fo : Nat → Int32) (fc : Int32) (rm : Nat → Int32) (ac : Int32) (rf : Int32) (kn : Int32) (mce : Nat → Int64) (mfr : Int64) (mun : Int64) (mbe : Nat → Int64) (men : Nat → Int64) (mov : Nat → Int32) (msp : Int32) (mwb : Nat → Int64) (mwe : Nat → Int64) (mwi : Int32) (mac : Int32) (mre : Int32) (mkn : Int32) (mth : Int32) (on : Int64) (x4 : Int32) : Option Int32 :=
  if ix (x4 + 1) L then
    if ix (x4 + 2) L then
      if ix (x4 + 3) L then
        if (xs (x4 + 3).toNatClampNeg) = 0 then
          flaw_623 L xs K ce fr un sb se so sc wb we wo wc fb fe fo fc rm ac rf kn mce mfr mun mbe men mov msp mwb mwe mwi mac mre mkn mth on x4 0 (xs (x4 + 2).toNatClampNeg) (xs (x4 + 1).toNatClampNeg)
        else
          flaw_623 L xs K ce fr un sb se so sc wb we wo wc fb fe fo fc rm ac rf kn mce mfr mun mbe men mov msp mwb mwe mwi mac mre mkn mth on x4 1 (xs (x4 + 2).toNatClampNeg) (xs (x4 + 1).toNatClampNeg)
      else none
    else none
  else none
theorem flaw_596_e {L : Nat} {xs : Nat → Int32} {K : kFT} (ce : Nat → Int64) (fr : Int64) (un : Int64) (sb : Nat → Int64) (se : Nat → Int64) (so : Nat → Int32) (sc : Int32) (wb : Nat → Int64) (we : Nat → Int64) (wo : Nat → Int32) (wc : Int32) (fb : Nat → Int64) (fe : Nat → Int64) (fo : Nat → Int32) (fc : Int32) (rm : Nat → Int32) (ac : Int32) (rf : Int32) (kn : Int32) (mce : Nat → Int64) (mfr : Int64) (mun : Int64) (mbe : Nat → Int64) (men : Nat → Int64) (mov : Nat → Int32) (msp : Int32) (mwb : Nat → Int64) (mwe : Nat → Int64) (mwi : Int32) (mac : Int32) (mre : Int32) (mkn : Int32) (mth : Int32) (on : Int64) (x4 : Int32) : flaw_596 L xs K ce fr un sb se so sc wb we wo wc fb fe fo fc rm ac rf kn mce mfr mun mbe men mov msp mwb mwe mwi mac mre mkn mth on x4 =
  if ix (x4 + 1) L then
    if ix (x4 + 2) L then
      if ix (x4 + 3) L then
        if (xs (x4 + 3).toNatClampNeg) = 0 then
          flaw_623 L xs K ce fr un sb se so sc wb we wo wc fb fe fo fc rm ac rf kn mce mfr mun mbe men mov msp mwb mwe mwi mac mre mkn mth on x4 0 (xs (x4 + 2).toNatClampNeg) (xs (x4 + 1).toNatClampNeg)
        else
          flaw_623 L xs K ce fr un sb se so sc wb we wo wc fb fe fo fc rm ac rf kn mce mfr mun mbe men mov msp mwb mwe mwi mac mre mkn mth on x4 1 (xs (x4 + 2).toNatClampNeg) (xs (x4 + 1).toNatClampNeg)
      else none
    else none
  else none := rfl
set_option maxHeartbeats 8000000 in
set_option maxRecDepth 100000 in
theorem law_7 {p : Program} {l : Launch} {e : Env} {s : State} {m : MethodId} {below : List Frame} {meth : Method} {c : Code} {dC : Nat → ClassId} {dI : Nat → Nat → Nat} {cB cI cJ cZ : ClassId} {b9 L : Nat} {xs : Nat → Int32} {A : Nat → Prop} (hl9 : l.stackTraces = false) (C0 : kLw p s m c b9 L xs A) (hK : va_K (dC, dI) vwCl (kTy cB cI cJ cZ) s) {a : Nat → Nat} {o : Nat} (K : kFT) (bK sK : Nat) (hK9 : kGo p l e s m below meth c dC dI cB cI cJ cZ b9 A a o 1873 bK sK K) : kGo p l e s m below meth c dC dI cB cI cJ cZ b9 A a o 596 (1 + bK) (6 + sK) (flaw_596 L xs K) := by
  obtain ⟨hx, hb, hml, hown, hts, hX, hbl, hA, hbA, hG, hZ⟩ := C0
  have J656 : ∀ (ce : Nat → Int64) (fr : Int64) (un : Int64) (sb : Nat → Int64) (se : Nat → Int64) (so : Nat → Int32) (sc : Int32) (wb : Nat → Int64) (we : Nat → Int64) (wo : Nat → Int32) (wc : Int32) (fb : Nat → Int64) (fe : Nat → Int64) (fo : Nat → Int32) (fc : Int32) (rm : Nat → Int32) (ac : Int32) (rf : Int32) (kn : Int32) (mce : Nat → Int64) (mfr : Int64) (mun : Int64) (mbe : Nat → Int64) (men : Nat → Int64) (mov : Nat → Int32) (msp : Int32) (mwb : Nat → Int64) (mwe : Nat → Int64) (mwi : Int32) (mac : Int32) (mre : Int32) (mkn : Int32) (mth : Int32) (on : Int64) (ov : Value) (x4 : Int32) (y0 : Int32) (y1 : Int32) (y2 : Int32) (b : Nat → Nat) (H : Heap) (locs : List Loc) (kc ks : Nat), kc + (0 + bK) ≤ 600128 → ks + (0 + sK) ≤ 7301098 → va_P (dC, dI) vwCl ((wSB cI cJ cZ a ce fr un sb se so sc wb we wo wc fb fe fo fc rm ac rf kn) ++ (wMo cJ cZ b mce mfr mun mbe men mov msp mwb mwe mwi mac mre mkn mth) ++ (wO o on ov)) H → va_D A ((wSB cI cJ cZ a ce fr un sb se so sc wb we wo wc fb fe fo fc rm ac rf kn) ++ (wMo cJ cZ b mce mfr mun mbe men mov msp mwb mwe mwi mac mre mkn mth) ++ (wO o on ov)) → va_S A s.heap H locs → ∀ (ls : Array Slot), lv_has ls 7 (kvA 0 b9 (kvA 1 (a 0) (kvA 2 (b 0) (kvA 3 o (kvI 4 x4 kvE))))) → flaw_656 L xs K ce fr un sb se so sc wb we wo wc fb fe fo fc rm ac rf kn mce mfr mun mbe men mov msp mwb mwe mwi mac mre mkn mth on x4 y0 y1 y2 = some 1 → W p l e room_1 s m #[Value.ref b9] below meth c H locs kc ks (lw_Z below #[Value.ref b9] s) (F0 m 656 ls [.int y0, .int y1, .int y2, .ref (b 0)]) := by
    intro ce fr un sb se so sc wb we wo wc fb fe fo fc rm ac rf kn mce mfr mun mbe men mov msp mwb mwe mwi mac mre mkn mth on ov x4 y0 y1 y2 b H locs kc ks hkc hks hP hD hS ls hl h
    have h := (flaw_656_e ce fr un sb se so sc wb we wo wc fb fe fo fc rm ac rf kn mce mfr mun mbe men mov msp mwb mwe mwi mac mre mkn mth on x4 y0 y1 y2).symm.trans h
    obtain ⟨r1, g1, h⟩ := g_b h
    refine kq_i ((wSB cI cJ cZ a ce fr un sb se so sc wb we wo wc fb fe fo fc rm ac rf kn) ++ (wMo cJ cZ b mce mfr mun r1.2.1 r1.2.2.1 r1.2.2.2.1 r1.2.2.2.2.1 mwb mwe mwi r1.2.2.2.2.2.1 r1.2.2.2.2.2.2.1 mkn r1.2.2.2.2.2.2.2) ++ (wO o on ov)) (fun qP qD qF => va_runV (As := [.int y2, .int y1, .int y0]) (rest := []) ⟨hx, hb, hml, hown, hts⟩ (c_X3_book l dC dI cB cI cJ cZ b _ mce mfr mun mbe men mov msp mwb mwe mwi mac mre mkn mth y2 y1 y0 r1 g1) (kcwV hts kw_1196 kv_X3_book rfl rfl ⟨(Nat.le_of_ble_eq_true rfl), (Nat.le_of_ble_eq_true rfl)⟩) (kpV (A := A) qP hK qD hG (krecv_5 (q0 := 15) hK hP rfl)) rfl rfl hl.1 rfl (lv_room (Nat.le_of_ble_eq_true rfl)) (kdr dgL_law_535 8 5 rfl rfl) ⟨by show _ ≤ (600128 : Nat); omega, by show _ ≤ (7301098 : Nat); omega⟩) hP hD hS hA (kFr_l (kFr_r kFr_Mo)) (fun H locs hP hD hS br1 => ?_)
    refine lv_istore (lv' := (kvI 6 r1.1 (kvA 0 b9 (kvA 1 (a 0) (kvA 2 (b 0) (kvA 3 o (kvI 4 x4 kvE))))))) hx hb (kdr dgL_law_535 8 6 rfl rfl) hl (by decide) rfl (fun ls hl => ?_)
    refine lv_goto (tgt := 1873) hx hb (kdr dgL_law_535 8 7 rfl rfl) (by decide) ?_
    exact hK9 ce fr un sb se so sc wb we wo wc fb fe fo fc rm ac rf kn mce mfr mun r1.2.1 r1.2.2.1 r1.2.2.2.1 r1.2.2.2.2.1 mwb mwe mwi r1.2.2.2.2.2.1 r1.2.2.2.2.2.2.1 mkn r1.2.2.2.2.2.2.2 on ov x4 b _ _ _ _ (by omega) (by omega) hP hD hS ls (lv_sub hl [1, 2, 3, 4, 5] rfl) h
  have J623 : ∀ (ce : Nat → Int64) (fr : Int64) (un : Int64) (sb : Nat → Int64) (se : Nat → Int64) (so : Nat → Int32) (sc : Int32) (wb : Nat → Int64) (we : Nat → Int64) (wo : Nat → Int32) (wc : Int32) (fb : Nat → Int64) (fe : Nat → Int64) (fo : Nat → Int32) (fc : Int32) (rm : Nat → Int32) (ac : Int32) (rf : Int32) (kn : Int32) (mce : Nat → Int64) (mfr : Int64) (mun : Int64) (mbe : Nat → Int64) (men : Nat → Int64) (mov : Nat → Int32) (msp : Int32) (mwb : Nat → Int64) (mwe : Nat → Int64) (mwi : Int32) (mac : Int32) (mre : Int32) (mkn : Int32) (mth : Int32) (on : Int64) (ov : Value) (x4 : Int32) (y0 : Int32) (y1 : Int32) (y2 : Int32) (b : Nat → Nat) (H : Heap) (locs : List Loc) (kc ks : Nat), kc + (1 + bK) ≤ 600128 → ks + (6 + sK) ≤ 7301098 → va_P (dC, dI) vwCl ((wSB cI cJ cZ a ce fr un sb se so sc wb we wo wc fb fe fo fc rm ac rf kn) ++ (wMo cJ cZ b mce mfr mun mbe men mov msp mwb mwe mwi mac mre mkn mth) ++ (wO o on ov)) H → va_D A ((wSB cI cJ cZ a ce fr un sb se so sc wb we wo wc fb fe fo fc rm ac rf kn) ++ (wMo cJ cZ b mce mfr mun mbe men mov msp mwb mwe mwi mac mre mkn mth) ++ (wO o on ov)) → va_S A s.heap H locs → ∀ (ls : Array Slot), lv_has ls 7 (kvA 0 b9 (kvA 1 (a 0) (kvA 2 (b 0) (kvA 3 o (kvI 4 x4 kvE))))) → flaw_623 L xs K ce fr un sb se so sc wb we wo wc fb fe fo fc rm ac rf kn mce mfr mun mbe men mov msp mwb mwe mwi mac mre mkn mth on x4 y0 y1 y2 = some 1 → W p l e room_1 s m #[Value.ref b9] below meth c H locs kc ks (lw_Z below #[Value.ref b9] s) (F0 m 623 ls [.int y0, .int y1, .int y2, .ref (a 0)]) := by
    intro ce fr un sb se so sc wb we wo wc fb fe fo fc rm ac rf kn mce mfr mun mbe men mov msp mwb mwe mwi mac mre mkn mth on ov x4 y0 y1 y2 b H locs kc ks hkc hks hP hD hS ls hl h
    have h := (flaw_623_e ce fr un sb se so sc wb we wo wc fb fe fo fc rm ac rf kn mce mfr mun mbe men mov msp mwb mwe mwi mac mre mkn mth on x4 y0 y1 y2).symm.trans h
    refine lv_aload_n hx hb (kdr dgL_law_535 6 2 rfl rfl) rfl (lv_at hl 3 rfl) ?_
    obtain ⟨r1, g1, h⟩ := g_b h
    refine kq_i ((wSB cI cJ cZ a ce fr un r1.2.1 r1.2.2.1 r1.2.2.2.1 r1.2.2.2.2.1 wb we wo wc fb fe fo fc rm r1.2.2.2.2.2.1 r1.2.2.2.2.2.2.1 kn) ++ (wMo cJ cZ b mce mfr mun mbe men mov msp mwb mwe mwi mac mre mkn mth) ++ (wO o r1.2.2.2.2.2.2.2 ov)) (fun qP qD qF => vx_runSW (As := [.ref (a 0), .int y2, .int y1, .int y0, .ref o]) (rest := []) ⟨hx, hb, hml, hown, hts⟩ (c_L_book l hl9 dC dI cB cI cJ cZ a o _ ce fr un sb se so sc wb we wo wc fb fe fo fc rm ac rf kn on ov y2 y1 y0 r1 g1) (kcwSW hts kw_574 kv_L_book rfl rfl ⟨(Nat.le_of_ble_eq_true rfl), (Nat.le_of_ble_eq_true rfl)⟩) (kpSXq (A := A) qP hK qD hG hZ hS qF) rfl rfl hl.1 rfl (lv_room (Nat.le_of_ble_eq_true rfl)) (kdr dgL_law_535 6 3 rfl rfl) ⟨by show _ ≤ (600128 : Nat); omega, by show _ ≤ (7301098 : Nat); omega⟩) hP hD hS hA (kFr_2 (kFr_l kFr_SB) kFr_o) (fun H locs hP hD hS br1 => ?_)
    refine lv_istore (lv' := (kvI 5 r1.1 (kvA 0 b9 (kvA 1 (a 0) (kvA 2 (b 0) (kvA 3 o (kvI 4 x4 kvE))))))) hx hb (kdr dgL_law_535 6 4 rfl rfl) hl (by decide) rfl (fun ls hl => ?_)
    refine lv_aload_n hx hb (kdr dgL_law_535 6 5 rfl rfl) rfl (lv_at hl 3 rfl) ?_
    obtain ⟨z1, h⟩ := g_if h
    refine kld (v := 1) hx hb (kdr dgL_law_535 6 6 rfl rfl) rfl (lv_at hl 1 rfl) (kdr dgL_law_535 6 7 rfl rfl) (lv_at hl 5 rfl) (kdr dgL_law_535 6 8 rfl rfl) (by decide) (kdr dgL_law_535 6 9 rfl rfl) hX hbl hbA hS (ix_in z1) (kdr dgL_law_535 7 0 rfl rfl) ?_
    obtain ⟨z2, h⟩ := g_if h
    refine kld (v := 2) hx hb (kdr dgL_law_535 7 1 rfl rfl) rfl (lv_at hl 1 rfl) (kdr dgL_law_535 7 2 rfl rfl) (lv_at hl 5 rfl) (kdr dgL_law_535 7 3 rfl rfl) (by decide) (kdr dgL_law_535 7 4 rfl rfl) hX hbl hbA hS (ix_in z2) (kdr dgL_law_535 7 5 rfl rfl) ?_
    obtain ⟨z3, h⟩ := g_if h
    refine kld (v := 3) hx hb (kdr dgL_law_535 7 6 rfl rfl) rfl (lv_at hl 1 rfl) (kdr dgL_law_535 7 7 rfl rfl) (lv_at hl 5 rfl) (kdr dgL_law_535 7 8 rfl rfl) (by decide) (kdr dgL_law_535 7 9 rfl rfl) hX hbl hbA hS (ix_in z3) (kdr dgL_law_535 8 0 rfl rfl) ?_
    refine lv_if_eq (tgt := 655) hx hb (kdr dgL_law_535 8 1 rfl rfl) (by decide) (fun c5 => ?_) (fun c5 => ?_)
    · have h := g_t c5 h
      refine lv_iconst (v := 0) hx hb (kdr dgL_law_535 8 4 rfl rfl) (by decide) ?_
      exact J656 ce fr un r1.2.1 r1.2.2.1 r1.2.2.2.1 r1.2.2.2.2.1 wb we wo wc fb fe fo fc rm r1.2.2.2.2.2.1 r1.2.2.2.2.2.2.1 kn mce mfr mun mbe men mov msp mwb mwe mwi mac mre mkn mth r1.2.2.2.2.2.2.2 ov x4 0 (xs (x4 + 2).toNatClampNeg) (xs (x4 + 1).toNatClampNeg) b _ _ _ _ (by omega) (by omega) hP hD hS ls (lv_sub hl [1, 2, 3, 4, 5] rfl) h
    · have h := g_f c5 h
      refine lv_iconst (v := 1) hx hb (kdr dgL_law_535 8 2 rfl rfl) (by decide) ?_
      refine lv_goto (tgt := 656) hx hb (kdr dgL_law_535 8 3 rfl rfl) (by decide) ?_
      exact J656 ce fr un r1.2.1 r1.2.2.1 r1.2.2.2.1 r1.2.2.2.2.1 wb we wo wc fb fe fo fc rm r1.2.2.2.2.2.1 r1.2.2.2.2.2.2.1 kn mce mfr mun mbe men mov msp mwb mwe mwi mac mre mkn mth r1.2.2.2.2.2.2.2 ov x4 1 (xs (x4 + 2).toNatClampNeg) (xs (x4 + 1).toNatClampNeg) b _ _ _ _ (by omega) (by omega) hP hD hS ls (lv_sub hl [1, 2, 3, 4, 5] rfl) h
  intro ce fr un sb se so sc wb we wo wc fb fe fo fc rm ac rf kn mce mfr mun mbe men mov msp mwb mwe mwi mac mre mkn mth on ov x4 b H locs kc ks hkc hks hP hD hS ls hl h
  have h := (flaw_596_e ce fr un sb se so sc wb we wo wc fb fe fo fc rm ac rf kn mce mfr mun mbe men mov msp mwb mwe mwi mac mre mkn mth on x4).symm.trans h
  refine lv_aload_n hx hb (kdr dgL_law_535 4 2 rfl rfl) rfl (lv_at hl 1 rfl) ?_
  obtain ⟨z0, h⟩ := g_if h
  refine kld (v := 1) hx hb (kdr dgL_law_535 4 3 rfl rfl) rfl (lv_at hl 0 rfl) (kdr dgL_law_535 4 4 rfl rfl) (lv_at hl 4 rfl) (kdr dgL_law_535 4 5 rfl rfl) (by decide) (kdr dgL_law_535 4 6 rfl rfl) hX hbl hbA hS (ix_in z0) (kdr dgL_law_535 4 7 rfl rfl) ?_
  obtain ⟨z1, h⟩ := g_if h
  refine kld (v := 2) hx hb (kdr dgL_law_535 4 8 rfl rfl) rfl (lv_at hl 0 rfl) (kdr dgL_law_535 4 9 rfl rfl) (lv_at hl 4 rfl) (kdr dgL_law_535 5 0 rfl rfl) (by decide) (kdr dgL_law_535 5 1 rfl rfl) hX hbl hbA hS (ix_in z1) (kdr dgL_law_535 5 2 rfl rfl) ?_
  obtain ⟨z2, h⟩ := g_if h
  refine kld (v := 3) hx hb (kdr dgL_law_535 5 3 rfl rfl) rfl (lv_at hl 0 rfl) (kdr dgL_law_535 5 4 rfl rfl) (lv_at hl 4 rfl) (kdr dgL_law_535 5 5 rfl rfl) (by decide) (kdr dgL_law_535 5 6 rfl rfl) hX hbl hbA hS (ix_in z2) (kdr dgL_law_535 5 7 rfl rfl) ?_
  refine lv_if_eq (tgt := 622) hx hb (kdr dgL_law_535 5 8 rfl rfl) (by decide) (fun c4 => ?_) (fun c4 => ?_)
  · have h := g_t c4 h
    refine lv_iconst (v := 0) hx hb (kdr dgL_law_535 6 1 rfl rfl) (by decide) ?_
    exact J623 ce fr un sb se so sc wb we wo wc fb fe fo fc rm ac rf kn mce mfr mun mbe men mov msp mwb mwe mwi mac mre mkn mth on ov x4 0 (xs (x4 + 2).toNatClampNeg) (xs (x4 + 1).toNatClampNeg) b _ _ _ _ (by omega) (by omega) hP hD hS ls (lv_sub hl [0, 1, 2, 3, 4] rfl) h
  · have h := g_f c4 h
    refine lv_iconst (v := 1) hx hb (kdr dgL_law_535 5 9 rfl rfl) (by decide) ?_
    refine lv_goto (tgt := 623) hx hb (kdr dgL_law_535 6 0 rfl rfl) (by decide) ?_
    exact J623 ce fr un sb se so sc wb we wo wc fb fe fo fc rm ac rf kn mce mfr mun mbe men mov msp mwb mwe mwi mac mre mkn mth on ov x4 1 (xs (x4 + 2).toNatClampNeg) (xs (x4 + 1).toNatClampNeg) b _ _ _ _ (by omega) (by omega) hP hD hS ls (lv_sub hl [0, 1, 2, 3, 4] rfl) h
noncomputable def flaw_664 (L : Nat) (xs : Nat → Int32) (K : kFT) (ce : Nat → Int64) (fr : Int64) (un : Int64) (sb : Nat → Int64) (se : Nat → Int64) (so : Nat → Int32) (sc : Int32) (wb : Nat → Int64) (we : Nat → Int64) (wo : Nat → Int32) (wc : Int32) (fb : Nat → Int64) (fe : Nat → Int64) (fo : Nat → Int32) (fc : Int32) (rm : Nat → Int32) (ac : Int32) (rf : Int32) (kn : Int32) (mce : Nat → Int64) (mfr : Int64) (mun : Int64) (mbe : Nat → Int64) (men : Nat → Int64) (mov : Nat → Int32) (msp : Int32) (mwb : Nat → Int64) (mwe : Nat → Int64) (mwi : Int32) (mac : Int32) (mre : Int32) (mkn : Int32) (mth : Int32) (on : Int64) (x4 : Int32) : Option Int32 :=
  if ix (x4 + 1) L then
    (f_L_unbook sb se so sc ac on (xs (x4 + 1).toNatClampNeg)).bind fun r2 =>
    (f_X3_unbook mbe men mov msp mac (xs (x4 + 1).toNatClampNeg)).bind fun r3 =>
    (f_X3_thrown r3.2.2.2.2.2.2).bind fun r4 =>
    if r4 = r2.1 then
      if r2.1 = 0 then
        if r2.2.2.2.2.2.2 = r3.1.toInt64 then
          K ce fr un r2.2.1 r2.2.2.1 r2.2.2.2.1 r2.2.2.2.2.1 wb we wo wc fb fe fo fc rm r2.2.2.2.2.2.1 rf kn mce mfr mun r3.2.1 r3.2.2.1 r3.2.2.2.1 r3.2.2.2.2.1 mwb mwe mwi r3.2.2.2.2.2.1 mre mkn r3.2.2.2.2.2.2 r2.2.2.2.2.2.2 x4
        else
          some 0
      else
        K ce fr un r2.2.1 r2.2.2.1 r2.2.2.2.1 r2.2.2.2.2.1 wb we wo wc fb fe fo fc rm r2.2.2.2.2.2.1 rf kn mce mfr mun r3.2.1 r3.2.2.1 r3.2.2.2.1 r3.2.2.2.2.1 mwb mwe mwi r3.2.2.2.2.2.1 mre mkn r3.2.2.2.2.2.2 r2.2.2.2.2.2.2 x4
    else
      some 0
  else none
theorem flaw_664_e {L : Nat} {xs : Nat → Int32} {K : kFT} (ce : Nat → Int64) (fr : Int64) (un : Int64) (sb : Nat → Int64) (se : Nat → Int64) (so : Nat → Int32) (sc : Int32) (wb : Nat → Int64) (we : Nat → Int64) (wo : Nat → Int32) (wc : Int32) (fb : Nat → Int64) (fe : Nat → Int64) (fo : Nat → Int32) (fc : Int32) (rm : Nat → Int32) (ac : Int32) (rf : Int32) (kn : Int32) (mce : Nat → Int64) (mfr : Int64) (mun : Int64) (mbe : Nat → Int64) (men : Nat → Int64) (mov : Nat → Int32) (msp : Int32) (mwb : Nat → Int64) (mwe : Nat → Int64) (mwi : Int32) (mac : Int32) (mre : Int32) (mkn : Int32) (mth : Int32) (on : Int64) (x4 : Int32) : flaw_664 L xs K ce fr un sb se so sc wb we wo wc fb fe fo fc rm ac rf kn mce mfr mun mbe men mov msp mwb mwe mwi mac mre mkn mth on x4 =
  if ix (x4 + 1) L then
    (f_L_unbook sb se so sc ac on (xs (x4 + 1).toNatClampNeg)).bind fun r2 =>
    (f_X3_unbook mbe men mov msp mac (xs (x4 + 1).toNatClampNeg)).bind fun r3 =>
    (f_X3_thrown r3.2.2.2.2.2.2).bind fun r4 =>
    if r4 = r2.1 then
      if r2.1 = 0 then
        if r2.2.2.2.2.2.2 = r3.1.toInt64 then
          K ce fr un r2.2.1 r2.2.2.1 r2.2.2.2.1 r2.2.2.2.2.1 wb we wo wc fb fe fo fc rm r2.2.2.2.2.2.1 rf kn mce mfr mun r3.2.1 r3.2.2.1 r3.2.2.2.1 r3.2.2.2.2.1 mwb mwe mwi r3.2.2.2.2.2.1 mre mkn r3.2.2.2.2.2.2 r2.2.2.2.2.2.2 x4
        else
          some 0
      else
        K ce fr un r2.2.1 r2.2.2.1 r2.2.2.2.1 r2.2.2.2.2.1 wb we wo wc fb fe fo fc rm r2.2.2.2.2.2.1 rf kn mce mfr mun r3.2.1 r3.2.2.1 r3.2.2.2.1 r3.2.2.2.2.1 mwb mwe mwi r3.2.2.2.2.2.1 mre mkn r3.2.2.2.2.2.2 r2.2.2.2.2.2.2 x4
    else
      some 0
  else none := rfl
set_option maxHeartbeats 8000000 in
set_option maxRecDepth 100000 in
theorem law_8 {p : Program} {l : Launch} {e : Env} {s : State} {m : MethodId} {below : List Frame} {meth : Method} {c : Code} {dC : Nat → ClassId} {dI : Nat → Nat → Nat} {cB cI cJ cZ : ClassId} {b9 L : Nat} {xs : Nat → Int32} {A : Nat → Prop} (hl9 : l.stackTraces = false) (C0 : kLw p s m c b9 L xs A) (hK : va_K (dC, dI) vwCl (kTy cB cI cJ cZ) s) {a : Nat → Nat} {o : Nat} (K : kFT) (bK sK : Nat) (hK9 : kGo p l e s m below meth c dC dI cB cI cJ cZ b9 A a o 1873 bK sK K) : kGo p l e s m below meth c dC dI cB cI cJ cZ b9 A a o 664 (1 + bK) (6 + sK) (flaw_664 L xs K) := by
  obtain ⟨hx, hb, hml, hown, hts, hX, hbl, hA, hbA, hG, hZ⟩ := C0
  have hiX2 : ∀ w ∈ u_ws RX2 TX2 2, w ∈ (Cond.initialized RL :: kBIG) := fun w h => List.mem_cons_of_mem _ (ku_X2 w h)
  intro ce fr un sb se so sc wb we wo wc fb fe fo fc rm ac rf kn mce mfr mun mbe men mov msp mwb mwe mwi mac mre mkn mth on ov x4 b H locs kc ks hkc hks hP hD hS ls hl h
  have h := (flaw_664_e ce fr un sb se so sc wb we wo wc fb fe fo fc rm ac rf kn mce mfr mun mbe men mov msp mwb mwe mwi mac mre mkn mth on x4).symm.trans h
  refine lv_aload_n hx hb (kdr dgL_law_535 8 8 rfl rfl) rfl (lv_at hl 1 rfl) ?_
  obtain ⟨z0, h⟩ := g_if h
  refine kld (v := 1) hx hb (kdr dgL_law_535 8 9 rfl rfl) rfl (lv_at hl 0 rfl) (kdr dgL_law_535 9 0 rfl rfl) (lv_at hl 4 rfl) (kdr dgL_law_535 9 1 rfl rfl) (by decide) (kdr dgL_law_535 9 2 rfl rfl) hX hbl hbA hS (ix_in z0) (kdr dgL_law_535 9 3 rfl rfl) ?_
  refine lv_aload_n hx hb (kdr dgL_law_535 9 4 rfl rfl) rfl (lv_at hl 3 rfl) ?_
  obtain ⟨r2, g2, h⟩ := g_b h
  refine kq_i ((wSB cI cJ cZ a ce fr un r2.2.1 r2.2.2.1 r2.2.2.2.1 r2.2.2.2.2.1 wb we wo wc fb fe fo fc rm r2.2.2.2.2.2.1 rf kn) ++ (wMo cJ cZ b mce mfr mun mbe men mov msp mwb mwe mwi mac mre mkn mth) ++ (wO o r2.2.2.2.2.2.2 ov)) (fun qP qD qF => vx_runSW (As := [.ref (a 0), .int (xs (x4 + 1).toNatClampNeg), .ref o]) (rest := []) ⟨hx, hb, hml, hown, hts⟩ (c_L_unbook l hl9 dC dI cB cI cJ cZ a o _ ce fr un sb se so sc wb we wo wc fb fe fo fc rm ac rf kn on ov (xs (x4 + 1).toNatClampNeg) r2 g2) (kcwSW hts kw_585 kv_L_unbook rfl rfl ⟨(Nat.le_of_ble_eq_true rfl), (Nat.le_of_ble_eq_true rfl)⟩) (kpSXq (A := A) qP hK qD hG hZ hS qF) rfl rfl hl.1 rfl (lv_room (Nat.le_of_ble_eq_true rfl)) (kdr dgL_law_535 9 5 rfl rfl) ⟨by show _ ≤ (600128 : Nat); omega, by show _ ≤ (7301098 : Nat); omega⟩) hP hD hS hA (kFr_2 (kFr_l kFr_SB) kFr_o) (fun H locs hP hD hS br2 => ?_)
  refine lv_istore (lv' := (kvI 5 r2.1 (kvA 0 b9 (kvA 1 (a 0) (kvA 2 (b 0) (kvA 3 o (kvI 4 x4 kvE))))))) hx hb (kdr dgL_law_535 9 6 rfl rfl) hl (by decide) rfl (fun ls hl => ?_)
  refine lv_aload_n hx hb (kdr dgL_law_535 9 7 rfl rfl) rfl (lv_at hl 3 rfl) ?_
  refine kld (v := 1) hx hb (kdr dgL_law_535 9 8 rfl rfl) rfl (lv_at hl 1 rfl) (kdr dgL_law_535 9 9 rfl rfl) (lv_at hl 5 rfl) (kdr dgL_law_681 0 0 rfl rfl) (by decide) (kdr dgL_law_681 0 1 rfl rfl) hX hbl hbA hS (ix_in z0) (kdr dgL_law_681 0 2 rfl rfl) ?_
  obtain ⟨r3, g3, h⟩ := g_b h
  refine kq_i ((wSB cI cJ cZ a ce fr un r2.2.1 r2.2.2.1 r2.2.2.2.1 r2.2.2.2.2.1 wb we wo wc fb fe fo fc rm r2.2.2.2.2.2.1 rf kn) ++ (wMo cJ cZ b mce mfr mun r3.2.1 r3.2.2.1 r3.2.2.2.1 r3.2.2.2.2.1 mwb mwe mwi r3.2.2.2.2.2.1 mre mkn r3.2.2.2.2.2.2) ++ (wO o r2.2.2.2.2.2.2 ov)) (fun qP qD qF => va_runV (As := [.int (xs (x4 + 1).toNatClampNeg)]) (rest := []) ⟨hx, hb, hml, hown, hts⟩ (c_X3_unbook l dC dI cB cI cJ cZ b _ mce mfr mun mbe men mov msp mwb mwe mwi mac mre mkn mth (xs (x4 + 1).toNatClampNeg) r3 g3) (kcwV hts kw_1219 kv_X3_unbook rfl rfl ⟨(Nat.le_of_ble_eq_true rfl), (Nat.le_of_ble_eq_true rfl)⟩) (kpV (A := A) qP hK qD hG (krecv_5 (q0 := 15) hK hP rfl)) rfl rfl hl.1 rfl (lv_room (Nat.le_of_ble_eq_true rfl)) (kdr dgL_law_681 0 3 rfl rfl) ⟨by show _ ≤ (600128 : Nat); omega, by show _ ≤ (7301098 : Nat); omega⟩) hP hD hS hA (kFr_l (kFr_r kFr_Mo)) (fun H locs hP hD hS br3 => ?_)
  refine lv_istore (lv' := (kvI 6 r3.1 (kvI 5 r2.1 (kvA 0 b9 (kvA 1 (a 0) (kvA 2 (b 0) (kvA 3 o (kvI 4 x4 kvE)))))))) hx hb (kdr dgL_law_681 0 4 rfl rfl) hl (by decide) rfl (fun ls hl => ?_)
  refine lv_aload_n hx hb (kdr dgL_law_681 0 5 rfl rfl) rfl (lv_at hl 4 rfl) ?_
  obtain ⟨r4, g4, h⟩ := g_b h
  refine kq_i ((wSB cI cJ cZ a ce fr un r2.2.1 r2.2.2.1 r2.2.2.2.1 r2.2.2.2.2.1 wb we wo wc fb fe fo fc rm r2.2.2.2.2.2.1 rf kn) ++ (wMo cJ cZ b mce mfr mun r3.2.1 r3.2.2.1 r3.2.2.2.1 r3.2.2.2.2.1 mwb mwe mwi r3.2.2.2.2.2.1 mre mkn r3.2.2.2.2.2.2) ++ (wO o r2.2.2.2.2.2.2 ov)) (fun qP qD qF => va_runV (As := []) (rest := []) ⟨hx, hb, hml, hown, hts⟩ (c_X3_thrown l dC dI cB cI cJ cZ b _ mce mfr mun r3.2.1 r3.2.2.1 r3.2.2.2.1 r3.2.2.2.2.1 mwb mwe mwi r3.2.2.2.2.2.1 mre mkn r3.2.2.2.2.2.2  r4 g4) (kcwV hts kw_1115 kv_X3_thrown rfl rfl ⟨(Nat.le_of_ble_eq_true rfl), (Nat.le_of_ble_eq_true rfl)⟩) (kpV (A := A) qP hK qD hG (krecv_5 (q0 := 15) hK hP rfl)) rfl rfl hl.1 rfl (lv_room (Nat.le_of_ble_eq_true rfl)) (kdr dgL_law_681 0 6 rfl rfl) ⟨by show _ ≤ (600128 : Nat); omega, by show _ ≤ (7301098 : Nat); omega⟩) hP hD hS hA (kFr_l (kFr_r kFr_Mo)) (fun H locs hP hD hS br4 => ?_)
  refine lv_iload hx hb (kdr dgL_law_681 0 7 rfl rfl) (lv_at hl 1 rfl) ?_
  refine lv_icmp_eq (tgt := 700) hx hb (kdr dgL_law_681 0 8 rfl rfl) (by decide) (fun c5 => ?_) (fun c5 => ?_)
  · have h := g_t c5 h
    refine lv_iload hx hb (kdr dgL_law_681 1 1 rfl rfl) (lv_at hl 1 rfl) ?_
    refine lv_if_ne (tgt := 718) hx hb (kdr dgL_law_681 1 2 rfl rfl) (by decide) (fun c6 => ?_) (fun c6 => ?_)
    · have h := g_f c6 h
      refine lv_goto (tgt := 1873) hx hb (kdr dgL_law_681 2 1 rfl rfl) (by decide) ?_
      exact hK9 ce fr un r2.2.1 r2.2.2.1 r2.2.2.2.1 r2.2.2.2.2.1 wb we wo wc fb fe fo fc rm r2.2.2.2.2.2.1 rf kn mce mfr mun r3.2.1 r3.2.2.1 r3.2.2.2.1 r3.2.2.2.2.1 mwb mwe mwi r3.2.2.2.2.2.1 mre mkn r3.2.2.2.2.2.2 r2.2.2.2.2.2.2 ov x4 b _ _ _ _ (by omega) (by omega) hP hD hS ls (lv_sub hl [2, 3, 4, 5, 6] rfl) h
    · have h := g_t c6 h
      refine lv_aload_n hx hb (kdr dgL_law_681 1 3 rfl rfl) rfl (lv_at hl 5 rfl) ?_
      refine va_getN (host := RL) (D := (dC, dI)) (ci := 4) (v := .long r2.2.2.2.2.2.2) (C := RX2) (T := TX2) (N := 2) hx hb hts hiX2 hown hK hP 22 rfl rfl 0 (by decide) (va_Nw.use rfl (hG.at 7 rfl)) (fun _ h9 => h9) rfl (kdr dgL_law_681 1 4 rfl rfl) ?_
      refine lv_iload hx hb (kdr dgL_law_681 1 5 rfl rfl) (lv_at hl 0 rfl) ?_
      refine lv_i2l (v := r3.1.toInt64) hx hb (kdr dgL_law_681 1 6 rfl rfl) rfl ?_
      refine kl_eq (pc := 712) (tgt := 718) hx hb (kdr dgL_law_681 1 7 rfl rfl) (kdr dgL_law_681 1 8 rfl rfl) (by decide) (fun c7 => ?_) (fun c7 => ?_)
      · have h := g_t c7 h
        refine lv_goto (tgt := 1873) hx hb (kdr dgL_law_681 2 1 rfl rfl) (by decide) ?_
        exact hK9 ce fr un r2.2.1 r2.2.2.1 r2.2.2.2.1 r2.2.2.2.2.1 wb we wo wc fb fe fo fc rm r2.2.2.2.2.2.1 rf kn mce mfr mun r3.2.1 r3.2.2.1 r3.2.2.2.1 r3.2.2.2.2.1 mwb mwe mwi r3.2.2.2.2.2.1 mre mkn r3.2.2.2.2.2.2 r2.2.2.2.2.2.2 ov x4 b _ _ _ _ (by omega) (by omega) hP hD hS ls (lv_sub hl [2, 3, 4, 5, 6] rfl) h
      · have h := g_f c7 h
        refine lv_iconst (v := 0) hx hb (kdr dgL_law_681 1 9 rfl rfl) (by decide) ?_
        exact absurd h (by decide)
  · have h := g_f c5 h
    refine lv_iconst (v := 0) hx hb (kdr dgL_law_681 0 9 rfl rfl) (by decide) ?_
    exact absurd h (by decide)
noncomputable def flaw_721 (L : Nat) (xs : Nat → Int32) (K : kFT) (ce : Nat → Int64) (fr : Int64) (un : Int64) (sb : Nat → Int64) (se : Nat → Int64) (so : Nat → Int32) (sc : Int32) (wb : Nat → Int64) (we : Nat → Int64) (wo : Nat → Int32) (wc : Int32) (fb : Nat → Int64) (fe : Nat → Int64) (fo : Nat → Int32) (fc : Int32) (rm : Nat → Int32) (ac : Int32) (rf : Int32) (kn : Int32) (mce : Nat → Int64) (mfr : Int64) (mun : Int64) (mbe : Nat → Int64) (men : Nat → Int64) (mov : Nat → Int32) (msp : Int32) (mwb : Nat → Int64) (mwe : Nat → Int64) (mwi : Int32) (mac : Int32) (mre : Int32) (mkn : Int32) (mth : Int32) (on : Int64) (x4 : Int32) : Option Int32 :=
  (f_X1_empty sc ac).bind fun r1 =>
  (f_X3_empty msp mac).bind fun r2 =>
  K ce fr un sb se so r1.2.1 wb we wo wc fb fe fo fc rm r1.2.2 rf kn mce mfr mun mbe men mov r2.2.1 mwb mwe mwi r2.2.2.1 mre mkn r2.2.2.2 on x4
theorem flaw_721_e {L : Nat} {xs : Nat → Int32} {K : kFT} (ce : Nat → Int64) (fr : Int64) (un : Int64) (sb : Nat → Int64) (se : Nat → Int64) (so : Nat → Int32) (sc : Int32) (wb : Nat → Int64) (we : Nat → Int64) (wo : Nat → Int32) (wc : Int32) (fb : Nat → Int64) (fe : Nat → Int64) (fo : Nat → Int32) (fc : Int32) (rm : Nat → Int32) (ac : Int32) (rf : Int32) (kn : Int32) (mce : Nat → Int64) (mfr : Int64) (mun : Int64) (mbe : Nat → Int64) (men : Nat → Int64) (mov : Nat → Int32) (msp : Int32) (mwb : Nat → Int64) (mwe : Nat → Int64) (mwi : Int32) (mac : Int32) (mre : Int32) (mkn : Int32) (mth : Int32) (on : Int64) (x4 : Int32) : flaw_721 L xs K ce fr un sb se so sc wb we wo wc fb fe fo fc rm ac rf kn mce mfr mun mbe men mov msp mwb mwe mwi mac mre mkn mth on x4 =
  (f_X1_empty sc ac).bind fun r1 =>
  (f_X3_empty msp mac).bind fun r2 =>
  K ce fr un sb se so r1.2.1 wb we wo wc fb fe fo fc rm r1.2.2 rf kn mce mfr mun mbe men mov r2.2.1 mwb mwe mwi r2.2.2.1 mre mkn r2.2.2.2 on x4 := rfl
set_option maxHeartbeats 8000000 in
set_option maxRecDepth 100000 in
theorem law_9 {p : Program} {l : Launch} {e : Env} {s : State} {m : MethodId} {below : List Frame} {meth : Method} {c : Code} {dC : Nat → ClassId} {dI : Nat → Nat → Nat} {cB cI cJ cZ : ClassId} {b9 L : Nat} {xs : Nat → Int32} {A : Nat → Prop} (hl9 : l.stackTraces = false) (C0 : kLw p s m c b9 L xs A) (hK : va_K (dC, dI) vwCl (kTy cB cI cJ cZ) s) {a : Nat → Nat} {o : Nat} (K : kFT) (bK sK : Nat) (hK9 : kGo p l e s m below meth c dC dI cB cI cJ cZ b9 A a o 1873 bK sK K) : kGo p l e s m below meth c dC dI cB cI cJ cZ b9 A a o 721 (0 + bK) (0 + sK) (flaw_721 L xs K) := by
  obtain ⟨hx, hb, hml, hown, hts, hX, hbl, hA, hbA, hG, hZ⟩ := C0
  intro ce fr un sb se so sc wb we wo wc fb fe fo fc rm ac rf kn mce mfr mun mbe men mov msp mwb mwe mwi mac mre mkn mth on ov x4 b H locs kc ks hkc hks hP hD hS ls hl h
  have h := (flaw_721_e ce fr un sb se so sc wb we wo wc fb fe fo fc rm ac rf kn mce mfr mun mbe men mov msp mwb mwe mwi mac mre mkn mth on x4).symm.trans h
  refine lv_aload_n hx hb (kdr dgL_law_681 2 2 rfl rfl) rfl (lv_at hl 1 rfl) ?_
  obtain ⟨r1, g1, h⟩ := g_b h
  refine kq_i ((wSB cI cJ cZ a ce fr un sb se so r1.2.1 wb we wo wc fb fe fo fc rm r1.2.2 rf kn) ++ (wMo cJ cZ b mce mfr mun mbe men mov msp mwb mwe mwi mac mre mkn mth) ++ (wO o on ov)) (fun qP qD qF => va_runV (As := []) (rest := []) ⟨hx, hb, hml, hown, hts⟩ (c_X1_empty l dC dI cB cI cJ cZ a _ ce fr un sb se so sc wb we wo wc fb fe fo fc rm ac rf kn  r1 g1) (kcwV hts kw_139 kv_X1_empty rfl rfl ⟨(Nat.le_of_ble_eq_true rfl), (Nat.le_of_ble_eq_true rfl)⟩) (kpV (A := A) qP hK qD hG (krecv_3 (q0 := 0) hK hP rfl)) rfl rfl hl.1 rfl (lv_room (Nat.le_of_ble_eq_true rfl)) (kdr dgL_law_681 2 3 rfl rfl) ⟨by show _ ≤ (600128 : Nat); omega, by show _ ≤ (7301098 : Nat); omega⟩) hP hD hS hA (kFr_l (kFr_l kFr_SB)) (fun H locs hP hD hS br1 => ?_)
  refine lv_pop hx hb (kdr dgL_law_681 2 4 rfl rfl) rfl ?_
  refine lv_aload_n hx hb (kdr dgL_law_681 2 5 rfl rfl) rfl (lv_at hl 2 rfl) ?_
  obtain ⟨r2, g2, h⟩ := g_b h
  refine kq_i ((wSB cI cJ cZ a ce fr un sb se so r1.2.1 wb we wo wc fb fe fo fc rm r1.2.2 rf kn) ++ (wMo cJ cZ b mce mfr mun mbe men mov r2.2.1 mwb mwe mwi r2.2.2.1 mre mkn r2.2.2.2) ++ (wO o on ov)) (fun qP qD qF => va_runV (As := []) (rest := []) ⟨hx, hb, hml, hown, hts⟩ (c_X3_empty l dC dI cB cI cJ cZ b _ mce mfr mun mbe men mov msp mwb mwe mwi mac mre mkn mth  r2 g2) (kcwV hts kw_1227 kv_X3_empty rfl rfl ⟨(Nat.le_of_ble_eq_true rfl), (Nat.le_of_ble_eq_true rfl)⟩) (kpV (A := A) qP hK qD hG (krecv_5 (q0 := 15) hK hP rfl)) rfl rfl hl.1 rfl (lv_room (Nat.le_of_ble_eq_true rfl)) (kdr dgL_law_681 2 6 rfl rfl) ⟨by show _ ≤ (600128 : Nat); omega, by show _ ≤ (7301098 : Nat); omega⟩) hP hD hS hA (kFr_l (kFr_r kFr_Mo)) (fun H locs hP hD hS br2 => ?_)
  refine lv_pop hx hb (kdr dgL_law_681 2 7 rfl rfl) rfl ?_
  refine lv_goto (tgt := 1873) hx hb (kdr dgL_law_681 2 8 rfl rfl) (by decide) ?_
  exact hK9 ce fr un sb se so r1.2.1 wb we wo wc fb fe fo fc rm r1.2.2 rf kn mce mfr mun mbe men mov r2.2.1 mwb mwe mwi r2.2.2.1 mre mkn r2.2.2.2 on ov x4 b _ _ _ _ (by omega) (by omega) hP hD hS ls (lv_sub hl [0, 1, 2, 3, 4] rfl) h
noncomputable def flaw_734 (L : Nat) (xs : Nat → Int32) (K : kFT) (ce : Nat → Int64) (fr : Int64) (un : Int64) (sb : Nat → Int64) (se : Nat → Int64) (so : Nat → Int32) (sc : Int32) (wb : Nat → Int64) (we : Nat → Int64) (wo : Nat → Int32) (wc : Int32) (fb : Nat → Int64) (fe : Nat → Int64) (fo : Nat → Int32) (fc : Int32) (rm : Nat → Int32) (ac : Int32) (rf : Int32) (kn : Int32) (mce : Nat → Int64) (mfr : Int64) (mun : Int64) (mbe : Nat → Int64) (men : Nat → Int64) (mov : Nat → Int32) (msp : Int32) (mwb : Nat → Int64) (mwe : Nat → Int64) (mwi : Int32) (mac : Int32) (mre : Int32) (mkn : Int32) (mth : Int32) (on : Int64) (x4 : Int32) : Option Int32 :=
  if ix (x4 + 1) L then
    if ix (x4 + 2) L then
      if ix (x4 + 3) L then
        (f_L_move fr un sb se sc ac rf on (xs (x4 + 1).toNatClampNeg) (xs (x4 + 2).toNatClampNeg) (xs (x4 + 3).toNatClampNeg)).bind fun r4 =>
        (f_X3_move mfr mun mbe men msp mac mre (xs (x4 + 1).toNatClampNeg) (xs (x4 + 2).toNatClampNeg) (xs (x4 + 3).toNatClampNeg)).bind fun r5 =>
        K ce fr un r4.2.1 r4.2.2.1 so sc wb we wo wc fb fe fo fc rm r4.2.2.2.1 r4.2.2.2.2.1 kn mce mfr mun r5.2.1 r5.2.2.1 mov msp mwb mwe mwi r5.2.2.2.1 r5.2.2.2.2.1 mkn r5.2.2.2.2.2 r4.2.2.2.2.2 x4
      else none
    else none
  else none
theorem flaw_734_e {L : Nat} {xs : Nat → Int32} {K : kFT} (ce : Nat → Int64) (fr : Int64) (un : Int64) (sb : Nat → Int64) (se : Nat → Int64) (so : Nat → Int32) (sc : Int32) (wb : Nat → Int64) (we : Nat → Int64) (wo : Nat → Int32) (wc : Int32) (fb : Nat → Int64) (fe : Nat → Int64) (fo : Nat → Int32) (fc : Int32) (rm : Nat → Int32) (ac : Int32) (rf : Int32) (kn : Int32) (mce : Nat → Int64) (mfr : Int64) (mun : Int64) (mbe : Nat → Int64) (men : Nat → Int64) (mov : Nat → Int32) (msp : Int32) (mwb : Nat → Int64) (mwe : Nat → Int64) (mwi : Int32) (mac : Int32) (mre : Int32) (mkn : Int32) (mth : Int32) (on : Int64) (x4 : Int32) : flaw_734 L xs K ce fr un sb se so sc wb we wo wc fb fe fo fc rm ac rf kn mce mfr mun mbe men mov msp mwb mwe mwi mac mre mkn mth on x4 =
  if ix (x4 + 1) L then
    if ix (x4 + 2) L then
      if ix (x4 + 3) L then
        (f_L_move fr un sb se sc ac rf on (xs (x4 + 1).toNatClampNeg) (xs (x4 + 2).toNatClampNeg) (xs (x4 + 3).toNatClampNeg)).bind fun r4 =>
        (f_X3_move mfr mun mbe men msp mac mre (xs (x4 + 1).toNatClampNeg) (xs (x4 + 2).toNatClampNeg) (xs (x4 + 3).toNatClampNeg)).bind fun r5 =>
        K ce fr un r4.2.1 r4.2.2.1 so sc wb we wo wc fb fe fo fc rm r4.2.2.2.1 r4.2.2.2.2.1 kn mce mfr mun r5.2.1 r5.2.2.1 mov msp mwb mwe mwi r5.2.2.2.1 r5.2.2.2.2.1 mkn r5.2.2.2.2.2 r4.2.2.2.2.2 x4
      else none
    else none
  else none := rfl
set_option maxHeartbeats 8000000 in
set_option maxRecDepth 100000 in
theorem law_10 {p : Program} {l : Launch} {e : Env} {s : State} {m : MethodId} {below : List Frame} {meth : Method} {c : Code} {dC : Nat → ClassId} {dI : Nat → Nat → Nat} {cB cI cJ cZ : ClassId} {b9 L : Nat} {xs : Nat → Int32} {A : Nat → Prop} (hl9 : l.stackTraces = false) (C0 : kLw p s m c b9 L xs A) (hK : va_K (dC, dI) vwCl (kTy cB cI cJ cZ) s) {a : Nat → Nat} {o : Nat} (K : kFT) (bK sK : Nat) (hK9 : kGo p l e s m below meth c dC dI cB cI cJ cZ b9 A a o 1873 bK sK K) : kGo p l e s m below meth c dC dI cB cI cJ cZ b9 A a o 734 (1 + bK) (6 + sK) (flaw_734 L xs K) := by
  obtain ⟨hx, hb, hml, hown, hts, hX, hbl, hA, hbA, hG, hZ⟩ := C0
  intro ce fr un sb se so sc wb we wo wc fb fe fo fc rm ac rf kn mce mfr mun mbe men mov msp mwb mwe mwi mac mre mkn mth on ov x4 b H locs kc ks hkc hks hP hD hS ls hl h
  have h := (flaw_734_e ce fr un sb se so sc wb we wo wc fb fe fo fc rm ac rf kn mce mfr mun mbe men mov msp mwb mwe mwi mac mre mkn mth on x4).symm.trans h
  refine lv_aload_n hx hb (kdr dgL_law_681 2 9 rfl rfl) rfl (lv_at hl 1 rfl) ?_
  obtain ⟨z0, h⟩ := g_if h
  refine kld (v := 1) hx hb (kdr dgL_law_681 3 0 rfl rfl) rfl (lv_at hl 0 rfl) (kdr dgL_law_681 3 1 rfl rfl) (lv_at hl 4 rfl) (kdr dgL_law_681 3 2 rfl rfl) (by decide) (kdr dgL_law_681 3 3 rfl rfl) hX hbl hbA hS (ix_in z0) (kdr dgL_law_681 3 4 rfl rfl) ?_
  obtain ⟨z1, h⟩ := g_if h
  refine kld (v := 2) hx hb (kdr dgL_law_681 3 5 rfl rfl) rfl (lv_at hl 0 rfl) (kdr dgL_law_681 3 6 rfl rfl) (lv_at hl 4 rfl) (kdr dgL_law_681 3 7 rfl rfl) (by decide) (kdr dgL_law_681 3 8 rfl rfl) hX hbl hbA hS (ix_in z1) (kdr dgL_law_681 3 9 rfl rfl) ?_
  obtain ⟨z2, h⟩ := g_if h
  refine kld (v := 3) hx hb (kdr dgL_law_681 4 0 rfl rfl) rfl (lv_at hl 0 rfl) (kdr dgL_law_681 4 1 rfl rfl) (lv_at hl 4 rfl) (kdr dgL_law_681 4 2 rfl rfl) (by decide) (kdr dgL_law_681 4 3 rfl rfl) hX hbl hbA hS (ix_in z2) (kdr dgL_law_681 4 4 rfl rfl) ?_
  refine lv_aload_n hx hb (kdr dgL_law_681 4 5 rfl rfl) rfl (lv_at hl 3 rfl) ?_
  obtain ⟨r4, g4, h⟩ := g_b h
  refine kq_i ((wSB cI cJ cZ a ce fr un r4.2.1 r4.2.2.1 so sc wb we wo wc fb fe fo fc rm r4.2.2.2.1 r4.2.2.2.2.1 kn) ++ (wMo cJ cZ b mce mfr mun mbe men mov msp mwb mwe mwi mac mre mkn mth) ++ (wO o r4.2.2.2.2.2 ov)) (fun qP qD qF => vx_runSW (As := [.ref (a 0), .int (xs (x4 + 1).toNatClampNeg), .int (xs (x4 + 2).toNatClampNeg), .int (xs (x4 + 3).toNatClampNeg), .ref o]) (rest := []) ⟨hx, hb, hml, hown, hts⟩ (c_L_move l hl9 dC dI cB cI cJ cZ a o _ ce fr un sb se so sc wb we wo wc fb fe fo fc rm ac rf kn on ov (xs (x4 + 1).toNatClampNeg) (xs (x4 + 2).toNatClampNeg) (xs (x4 + 3).toNatClampNeg) r4 g4) (kcwSW hts kw_600 kv_L_move rfl rfl ⟨(Nat.le_of_ble_eq_true rfl), (Nat.le_of_ble_eq_true rfl)⟩) (kpSXq (A := A) qP hK qD hG hZ hS qF) rfl rfl hl.1 rfl (lv_room (Nat.le_of_ble_eq_true rfl)) (kdr dgL_law_681 4 6 rfl rfl) ⟨by show _ ≤ (600128 : Nat); omega, by show _ ≤ (7301098 : Nat); omega⟩) hP hD hS hA (kFr_2 (kFr_l kFr_SB) kFr_o) (fun H locs hP hD hS br4 => ?_)
  refine lv_istore (lv' := (kvI 5 r4.1 (kvA 0 b9 (kvA 1 (a 0) (kvA 2 (b 0) (kvA 3 o (kvI 4 x4 kvE))))))) hx hb (kdr dgL_law_681 4 7 rfl rfl) hl (by decide) rfl (fun ls hl => ?_)
  refine lv_aload_n hx hb (kdr dgL_law_681 4 8 rfl rfl) rfl (lv_at hl 3 rfl) ?_
  refine kld (v := 1) hx hb (kdr dgL_law_681 4 9 rfl rfl) rfl (lv_at hl 1 rfl) (kdr dgL_law_681 5 0 rfl rfl) (lv_at hl 5 rfl) (kdr dgL_law_681 5 1 rfl rfl) (by decide) (kdr dgL_law_681 5 2 rfl rfl) hX hbl hbA hS (ix_in z0) (kdr dgL_law_681 5 3 rfl rfl) ?_
  refine kld (v := 2) hx hb (kdr dgL_law_681 5 4 rfl rfl) rfl (lv_at hl 1 rfl) (kdr dgL_law_681 5 5 rfl rfl) (lv_at hl 5 rfl) (kdr dgL_law_681 5 6 rfl rfl) (by decide) (kdr dgL_law_681 5 7 rfl rfl) hX hbl hbA hS (ix_in z1) (kdr dgL_law_681 5 8 rfl rfl) ?_
  refine kld (v := 3) hx hb (kdr dgL_law_681 5 9 rfl rfl) rfl (lv_at hl 1 rfl) (kdr dgL_law_681 6 0 rfl rfl) (lv_at hl 5 rfl) (kdr dgL_law_681 6 1 rfl rfl) (by decide) (kdr dgL_law_681 6 2 rfl rfl) hX hbl hbA hS (ix_in z2) (kdr dgL_law_681 6 3 rfl rfl) ?_
  obtain ⟨r5, g5, h⟩ := g_b h
  refine kq_i ((wSB cI cJ cZ a ce fr un r4.2.1 r4.2.2.1 so sc wb we wo wc fb fe fo fc rm r4.2.2.2.1 r4.2.2.2.2.1 kn) ++ (wMo cJ cZ b mce mfr mun r5.2.1 r5.2.2.1 mov msp mwb mwe mwi r5.2.2.2.1 r5.2.2.2.2.1 mkn r5.2.2.2.2.2) ++ (wO o r4.2.2.2.2.2 ov)) (fun qP qD qF => va_runV (As := [.int (xs (x4 + 1).toNatClampNeg), .int (xs (x4 + 2).toNatClampNeg), .int (xs (x4 + 3).toNatClampNeg)]) (rest := []) ⟨hx, hb, hml, hown, hts⟩ (c_X3_move l dC dI cB cI cJ cZ b _ mce mfr mun mbe men mov msp mwb mwe mwi mac mre mkn mth (xs (x4 + 1).toNatClampNeg) (xs (x4 + 2).toNatClampNeg) (xs (x4 + 3).toNatClampNeg) r5 g5) (kcwV hts kw_1231 kv_X3_move rfl rfl ⟨(Nat.le_of_ble_eq_true rfl), (Nat.le_of_ble_eq_true rfl)⟩) (kpV (A := A) qP hK qD hG (krecv_5 (q0 := 15) hK hP rfl)) rfl rfl hl.1 rfl (lv_room (Nat.le_of_ble_eq_true rfl)) (kdr dgL_law_681 6 4 rfl rfl) ⟨by show _ ≤ (600128 : Nat); omega, by show _ ≤ (7301098 : Nat); omega⟩) hP hD hS hA (kFr_l (kFr_r kFr_Mo)) (fun H locs hP hD hS br5 => ?_)
  refine lv_istore (lv' := (kvI 6 r5.1 (kvI 5 r4.1 (kvA 0 b9 (kvA 1 (a 0) (kvA 2 (b 0) (kvA 3 o (kvI 4 x4 kvE)))))))) hx hb (kdr dgL_law_681 6 5 rfl rfl) hl (by decide) rfl (fun ls hl => ?_)
  refine lv_goto (tgt := 1873) hx hb (kdr dgL_law_681 6 6 rfl rfl) (by decide) ?_
  exact hK9 ce fr un r4.2.1 r4.2.2.1 so sc wb we wo wc fb fe fo fc rm r4.2.2.2.1 r4.2.2.2.2.1 kn mce mfr mun r5.2.1 r5.2.2.1 mov msp mwb mwe mwi r5.2.2.2.1 r5.2.2.2.2.1 mkn r5.2.2.2.2.2 r4.2.2.2.2.2 ov x4 b _ _ _ _ (by omega) (by omega) hP hD hS ls (lv_sub hl [2, 3, 4, 5, 6] rfl) h
noncomputable def flaw_786 (L : Nat) (xs : Nat → Int32) (K : kFT) (ce : Nat → Int64) (fr : Int64) (un : Int64) (sb : Nat → Int64) (se : Nat → Int64) (so : Nat → Int32) (sc : Int32) (wb : Nat → Int64) (we : Nat → Int64) (wo : Nat → Int32) (wc : Int32) (fb : Nat → Int64) (fe : Nat → Int64) (fo : Nat → Int32) (fc : Int32) (rm : Nat → Int32) (ac : Int32) (rf : Int32) (kn : Int32) (mce : Nat → Int64) (mfr : Int64) (mun : Int64) (mbe : Nat → Int64) (men : Nat → Int64) (mov : Nat → Int32) (msp : Int32) (mwb : Nat → Int64) (mwe : Nat → Int64) (mwi : Int32) (mac : Int32) (mre : Int32) (mkn : Int32) (mth : Int32) (on : Int64) (x4 : Int32) : Option Int32 :=
  if ix (x4 + 1) L then
    if ix (x4 + 2) L then
      if ix (x4 + 3) L then
        (f_L_stretch fr un sb se sc ac rf on (xs (x4 + 1).toNatClampNeg) (xs (x4 + 2).toNatClampNeg) (xs (x4 + 3).toNatClampNeg)).bind fun r4 =>
        (f_X3_stretch mfr mun mbe men msp mac mre (xs (x4 + 1).toNatClampNeg) (xs (x4 + 2).toNatClampNeg) (xs (x4 + 3).toNatClampNeg)).bind fun r5 =>
        K ce fr un r4.2.1 r4.2.2.1 so sc wb we wo wc fb fe fo fc rm r4.2.2.2.1 r4.2.2.2.2.1 kn mce mfr mun mbe r5.2.1 mov msp mwb mwe mwi r5.2.2.1 r5.2.2.2.1 mkn r5.2.2.2.2 r4.2.2.2.2.2 x4
      else none
    else none
  else none
theorem flaw_786_e {L : Nat} {xs : Nat → Int32} {K : kFT} (ce : Nat → Int64) (fr : Int64) (un : Int64) (sb : Nat → Int64) (se : Nat → Int64) (so : Nat → Int32) (sc : Int32) (wb : Nat → Int64) (we : Nat → Int64) (wo : Nat → Int32) (wc : Int32) (fb : Nat → Int64) (fe : Nat → Int64) (fo : Nat → Int32) (fc : Int32) (rm : Nat → Int32) (ac : Int32) (rf : Int32) (kn : Int32) (mce : Nat → Int64) (mfr : Int64) (mun : Int64) (mbe : Nat → Int64) (men : Nat → Int64) (mov : Nat → Int32) (msp : Int32) (mwb : Nat → Int64) (mwe : Nat → Int64) (mwi : Int32) (mac : Int32) (mre : Int32) (mkn : Int32) (mth : Int32) (on : Int64) (x4 : Int32) : flaw_786 L xs K ce fr un sb se so sc wb we wo wc fb fe fo fc rm ac rf kn mce mfr mun mbe men mov msp mwb mwe mwi mac mre mkn mth on x4 =
  if ix (x4 + 1) L then
    if ix (x4 + 2) L then
      if ix (x4 + 3) L then
        (f_L_stretch fr un sb se sc ac rf on (xs (x4 + 1).toNatClampNeg) (xs (x4 + 2).toNatClampNeg) (xs (x4 + 3).toNatClampNeg)).bind fun r4 =>
        (f_X3_stretch mfr mun mbe men msp mac mre (xs (x4 + 1).toNatClampNeg) (xs (x4 + 2).toNatClampNeg) (xs (x4 + 3).toNatClampNeg)).bind fun r5 =>
        K ce fr un r4.2.1 r4.2.2.1 so sc wb we wo wc fb fe fo fc rm r4.2.2.2.1 r4.2.2.2.2.1 kn mce mfr mun mbe r5.2.1 mov msp mwb mwe mwi r5.2.2.1 r5.2.2.2.1 mkn r5.2.2.2.2 r4.2.2.2.2.2 x4
      else none
    else none
  else none := rfl
set_option maxHeartbeats 8000000 in
set_option maxRecDepth 100000 in
theorem law_11 {p : Program} {l : Launch} {e : Env} {s : State} {m : MethodId} {below : List Frame} {meth : Method} {c : Code} {dC : Nat → ClassId} {dI : Nat → Nat → Nat} {cB cI cJ cZ : ClassId} {b9 L : Nat} {xs : Nat → Int32} {A : Nat → Prop} (hl9 : l.stackTraces = false) (C0 : kLw p s m c b9 L xs A) (hK : va_K (dC, dI) vwCl (kTy cB cI cJ cZ) s) {a : Nat → Nat} {o : Nat} (K : kFT) (bK sK : Nat) (hK9 : kGo p l e s m below meth c dC dI cB cI cJ cZ b9 A a o 1873 bK sK K) : kGo p l e s m below meth c dC dI cB cI cJ cZ b9 A a o 786 (1 + bK) (6 + sK) (flaw_786 L xs K) := by
  obtain ⟨hx, hb, hml, hown, hts, hX, hbl, hA, hbA, hG, hZ⟩ := C0
  intro ce fr un sb se so sc wb we wo wc fb fe fo fc rm ac rf kn mce mfr mun mbe men mov msp mwb mwe mwi mac mre mkn mth on ov x4 b H locs kc ks hkc hks hP hD hS ls hl h
  have h := (flaw_786_e ce fr un sb se so sc wb we wo wc fb fe fo fc rm ac rf kn mce mfr mun mbe men mov msp mwb mwe mwi mac mre mkn mth on x4).symm.trans h
  refine lv_aload_n hx hb (kdr dgL_law_681 6 7 rfl rfl) rfl (lv_at hl 1 rfl) ?_
  obtain ⟨z0, h⟩ := g_if h
  refine kld (v := 1) hx hb (kdr dgL_law_681 6 8 rfl rfl) rfl (lv_at hl 0 rfl) (kdr dgL_law_681 6 9 rfl rfl) (lv_at hl 4 rfl) (kdr dgL_law_681 7 0 rfl rfl) (by decide) (kdr dgL_law_681 7 1 rfl rfl) hX hbl hbA hS (ix_in z0) (kdr dgL_law_681 7 2 rfl rfl) ?_
  obtain ⟨z1, h⟩ := g_if h
  refine kld (v := 2) hx hb (kdr dgL_law_681 7 3 rfl rfl) rfl (lv_at hl 0 rfl) (kdr dgL_law_681 7 4 rfl rfl) (lv_at hl 4 rfl) (kdr dgL_law_681 7 5 rfl rfl) (by decide) (kdr dgL_law_681 7 6 rfl rfl) hX hbl hbA hS (ix_in z1) (kdr dgL_law_681 7 7 rfl rfl) ?_
  obtain ⟨z2, h⟩ := g_if h
  refine kld (v := 3) hx hb (kdr dgL_law_681 7 8 rfl rfl) rfl (lv_at hl 0 rfl) (kdr dgL_law_681 7 9 rfl rfl) (lv_at hl 4 rfl) (kdr dgL_law_681 8 0 rfl rfl) (by decide) (kdr dgL_law_681 8 1 rfl rfl) hX hbl hbA hS (ix_in z2) (kdr dgL_law_681 8 2 rfl rfl) ?_
  refine lv_aload_n hx hb (kdr dgL_law_681 8 3 rfl rfl) rfl (lv_at hl 3 rfl) ?_
  obtain ⟨r4, g4, h⟩ := g_b h
  refine kq_i ((wSB cI cJ cZ a ce fr un r4.2.1 r4.2.2.1 so sc wb we wo wc fb fe fo fc rm r4.2.2.2.1 r4.2.2.2.2.1 kn) ++ (wMo cJ cZ b mce mfr mun mbe men mov msp mwb mwe mwi mac mre mkn mth) ++ (wO o r4.2.2.2.2.2 ov)) (fun qP qD qF => vx_runSW (As := [.ref (a 0), .int (xs (x4 + 1).toNatClampNeg), .int (xs (x4 + 2).toNatClampNeg), .int (xs (x4 + 3).toNatClampNeg), .ref o]) (rest := []) ⟨hx, hb, hml, hown, hts⟩ (c_L_stretch l hl9 dC dI cB cI cJ cZ a o _ ce fr un sb se so sc wb we wo wc fb fe fo fc rm ac rf kn on ov (xs (x4 + 1).toNatClampNeg) (xs (x4 + 2).toNatClampNeg) (xs (x4 + 3).toNatClampNeg) r4 g4) (kcwSW hts kw_619 kv_L_stretch rfl rfl ⟨(Nat.le_of_ble_eq_true rfl), (Nat.le_of_ble_eq_true rfl)⟩) (kpSXq (A := A) qP hK qD hG hZ hS qF) rfl rfl hl.1 rfl (lv_room (Nat.le_of_ble_eq_true rfl)) (kdr dgL_law_681 8 4 rfl rfl) ⟨by show _ ≤ (600128 : Nat); omega, by show _ ≤ (7301098 : Nat); omega⟩) hP hD hS hA (kFr_2 (kFr_l kFr_SB) kFr_o) (fun H locs hP hD hS br4 => ?_)
  refine lv_istore (lv' := (kvI 5 r4.1 (kvA 0 b9 (kvA 1 (a 0) (kvA 2 (b 0) (kvA 3 o (kvI 4 x4 kvE))))))) hx hb (kdr dgL_law_681 8 5 rfl rfl) hl (by decide) rfl (fun ls hl => ?_)
  refine lv_aload_n hx hb (kdr dgL_law_681 8 6 rfl rfl) rfl (lv_at hl 3 rfl) ?_
  refine kld (v := 1) hx hb (kdr dgL_law_681 8 7 rfl rfl) rfl (lv_at hl 1 rfl) (kdr dgL_law_681 8 8 rfl rfl) (lv_at hl 5 rfl) (kdr dgL_law_681 8 9 rfl rfl) (by decide) (kdr dgL_law_681 9 0 rfl rfl) hX hbl hbA hS (ix_in z0) (kdr dgL_law_681 9 1 rfl rfl) ?_
  refine kld (v := 2) hx hb (kdr dgL_law_681 9 2 rfl rfl) rfl (lv_at hl 1 rfl) (kdr dgL_law_681 9 3 rfl rfl) (lv_at hl 5 rfl) (kdr dgL_law_681 9 4 rfl rfl) (by decide) (kdr dgL_law_681 9 5 rfl rfl) hX hbl hbA hS (ix_in z1) (kdr dgL_law_681 9 6 rfl rfl) ?_
  refine kld (v := 3) hx hb (kdr dgL_law_681 9 7 rfl rfl) rfl (lv_at hl 1 rfl) (kdr dgL_law_681 9 8 rfl rfl) (lv_at hl 5 rfl) (kdr dgL_law_681 9 9 rfl rfl) (by decide) (kdr dgL_law_828 0 0 rfl rfl) hX hbl hbA hS (ix_in z2) (kdr dgL_law_828 0 1 rfl rfl) ?_
  obtain ⟨r5, g5, h⟩ := g_b h
  refine kq_i ((wSB cI cJ cZ a ce fr un r4.2.1 r4.2.2.1 so sc wb we wo wc fb fe fo fc rm r4.2.2.2.1 r4.2.2.2.2.1 kn) ++ (wMo cJ cZ b mce mfr mun mbe r5.2.1 mov msp mwb mwe mwi r5.2.2.1 r5.2.2.2.1 mkn r5.2.2.2.2) ++ (wO o r4.2.2.2.2.2 ov)) (fun qP qD qF => va_runV (As := [.int (xs (x4 + 1).toNatClampNeg), .int (xs (x4 + 2).toNatClampNeg), .int (xs (x4 + 3).toNatClampNeg)]) (rest := []) ⟨hx, hb, hml, hown, hts⟩ (c_X3_stretch l dC dI cB cI cJ cZ b _ mce mfr mun mbe men mov msp mwb mwe mwi mac mre mkn mth (xs (x4 + 1).toNatClampNeg) (xs (x4 + 2).toNatClampNeg) (xs (x4 + 3).toNatClampNeg) r5 g5) (kcwV hts kw_1238 kv_X3_stretch rfl rfl ⟨(Nat.le_of_ble_eq_true rfl), (Nat.le_of_ble_eq_true rfl)⟩) (kpV (A := A) qP hK qD hG (krecv_5 (q0 := 15) hK hP rfl)) rfl rfl hl.1 rfl (lv_room (Nat.le_of_ble_eq_true rfl)) (kdr dgL_law_828 0 2 rfl rfl) ⟨by show _ ≤ (600128 : Nat); omega, by show _ ≤ (7301098 : Nat); omega⟩) hP hD hS hA (kFr_l (kFr_r kFr_Mo)) (fun H locs hP hD hS br5 => ?_)
  refine lv_istore (lv' := (kvI 6 r5.1 (kvI 5 r4.1 (kvA 0 b9 (kvA 1 (a 0) (kvA 2 (b 0) (kvA 3 o (kvI 4 x4 kvE)))))))) hx hb (kdr dgL_law_828 0 3 rfl rfl) hl (by decide) rfl (fun ls hl => ?_)
  refine lv_goto (tgt := 1873) hx hb (kdr dgL_law_828 0 4 rfl rfl) (by decide) ?_
  exact hK9 ce fr un r4.2.1 r4.2.2.1 so sc wb we wo wc fb fe fo fc rm r4.2.2.2.1 r4.2.2.2.2.1 kn mce mfr mun mbe r5.2.1 mov msp mwb mwe mwi r5.2.2.1 r5.2.2.2.1 mkn r5.2.2.2.2 r4.2.2.2.2.2 ov x4 b _ _ _ _ (by omega) (by omega) hP hD hS ls (lv_sub hl [2, 3, 4, 5, 6] rfl) h
noncomputable def flaw_838 (L : Nat) (xs : Nat → Int32) (K : kFT) (ce : Nat → Int64) (fr : Int64) (un : Int64) (sb : Nat → Int64) (se : Nat → Int64) (so : Nat → Int32) (sc : Int32) (wb : Nat → Int64) (we : Nat → Int64) (wo : Nat → Int32) (wc : Int32) (fb : Nat → Int64) (fe : Nat → Int64) (fo : Nat → Int32) (fc : Int32) (rm : Nat → Int32) (ac : Int32) (rf : Int32) (kn : Int32) (mce : Nat → Int64) (mfr : Int64) (mun : Int64) (mbe : Nat → Int64) (men : Nat → Int64) (mov : Nat → Int32) (msp : Int32) (mwb : Nat → Int64) (mwe : Nat → Int64) (mwi : Int32) (mac : Int32) (mre : Int32) (mkn : Int32) (mth : Int32) (on : Int64) (x4 : Int32) : Option Int32 :=
  if ix (x4 + 1) L then
    if ix (x4 + 2) L then
      if ix (x4 + 3) L then
        if ix (x4 + 4) L then
          (f_L_fit ce fr un sb se sc ac rf on (xs (x4 + 1).toNatClampNeg) (xs (x4 + 2).toNatClampNeg) (xs (x4 + 3).toNatClampNeg) (xs (x4 + 4).toNatClampNeg)).bind fun r5 =>
          (f_X3_fit mce mfr mun mbe men msp mac mre (xs (x4 + 1).toNatClampNeg) (xs (x4 + 2).toNatClampNeg) (xs (x4 + 3).toNatClampNeg) (xs (x4 + 4).toNatClampNeg)).bind fun r6 =>
          K r5.2.1 fr un sb se so sc wb we wo wc fb fe fo fc rm r5.2.2.1 r5.2.2.2.1 kn r6.2.1 mfr mun mbe men mov msp mwb mwe mwi r6.2.2.1 r6.2.2.2.1 mkn r6.2.2.2.2 r5.2.2.2.2 x4
        else none
      else none
    else none
  else none
theorem flaw_838_e {L : Nat} {xs : Nat → Int32} {K : kFT} (ce : Nat → Int64) (fr : Int64) (un : Int64) (sb : Nat → Int64) (se : Nat → Int64) (so : Nat → Int32) (sc : Int32) (wb : Nat → Int64) (we : Nat → Int64) (wo : Nat → Int32) (wc : Int32) (fb : Nat → Int64) (fe : Nat → Int64) (fo : Nat → Int32) (fc : Int32) (rm : Nat → Int32) (ac : Int32) (rf : Int32) (kn : Int32) (mce : Nat → Int64) (mfr : Int64) (mun : Int64) (mbe : Nat → Int64) (men : Nat → Int64) (mov : Nat → Int32) (msp : Int32) (mwb : Nat → Int64) (mwe : Nat → Int64) (mwi : Int32) (mac : Int32) (mre : Int32) (mkn : Int32) (mth : Int32) (on : Int64) (x4 : Int32) : flaw_838 L xs K ce fr un sb se so sc wb we wo wc fb fe fo fc rm ac rf kn mce mfr mun mbe men mov msp mwb mwe mwi mac mre mkn mth on x4 =
  if ix (x4 + 1) L then
    if ix (x4 + 2) L then
      if ix (x4 + 3) L then
        if ix (x4 + 4) L then
          (f_L_fit ce fr un sb se sc ac rf on (xs (x4 + 1).toNatClampNeg) (xs (x4 + 2).toNatClampNeg) (xs (x4 + 3).toNatClampNeg) (xs (x4 + 4).toNatClampNeg)).bind fun r5 =>
          (f_X3_fit mce mfr mun mbe men msp mac mre (xs (x4 + 1).toNatClampNeg) (xs (x4 + 2).toNatClampNeg) (xs (x4 + 3).toNatClampNeg) (xs (x4 + 4).toNatClampNeg)).bind fun r6 =>
          K r5.2.1 fr un sb se so sc wb we wo wc fb fe fo fc rm r5.2.2.1 r5.2.2.2.1 kn r6.2.1 mfr mun mbe men mov msp mwb mwe mwi r6.2.2.1 r6.2.2.2.1 mkn r6.2.2.2.2 r5.2.2.2.2 x4
        else none
      else none
    else none
  else none := rfl
set_option maxHeartbeats 8000000 in
set_option maxRecDepth 100000 in
theorem law_12 {p : Program} {l : Launch} {e : Env} {s : State} {m : MethodId} {below : List Frame} {meth : Method} {c : Code} {dC : Nat → ClassId} {dI : Nat → Nat → Nat} {cB cI cJ cZ : ClassId} {b9 L : Nat} {xs : Nat → Int32} {A : Nat → Prop} (hl9 : l.stackTraces = false) (C0 : kLw p s m c b9 L xs A) (hK : va_K (dC, dI) vwCl (kTy cB cI cJ cZ) s) {a : Nat → Nat} {o : Nat} (K : kFT) (bK sK : Nat) (hK9 : kGo p l e s m below meth c dC dI cB cI cJ cZ b9 A a o 1873 bK sK K) : kGo p l e s m below meth c dC dI cB cI cJ cZ b9 A a o 838 (1 + bK) (6 + sK) (flaw_838 L xs K) := by
  obtain ⟨hx, hb, hml, hown, hts, hX, hbl, hA, hbA, hG, hZ⟩ := C0
  intro ce fr un sb se so sc wb we wo wc fb fe fo fc rm ac rf kn mce mfr mun mbe men mov msp mwb mwe mwi mac mre mkn mth on ov x4 b H locs kc ks hkc hks hP hD hS ls hl h
  have h := (flaw_838_e ce fr un sb se so sc wb we wo wc fb fe fo fc rm ac rf kn mce mfr mun mbe men mov msp mwb mwe mwi mac mre mkn mth on x4).symm.trans h
  refine lv_aload_n hx hb (kdr dgL_law_828 0 5 rfl rfl) rfl (lv_at hl 1 rfl) ?_
  obtain ⟨z0, h⟩ := g_if h
  refine kld (v := 1) hx hb (kdr dgL_law_828 0 6 rfl rfl) rfl (lv_at hl 0 rfl) (kdr dgL_law_828 0 7 rfl rfl) (lv_at hl 4 rfl) (kdr dgL_law_828 0 8 rfl rfl) (by decide) (kdr dgL_law_828 0 9 rfl rfl) hX hbl hbA hS (ix_in z0) (kdr dgL_law_828 1 0 rfl rfl) ?_
  obtain ⟨z1, h⟩ := g_if h
  refine kld (v := 2) hx hb (kdr dgL_law_828 1 1 rfl rfl) rfl (lv_at hl 0 rfl) (kdr dgL_law_828 1 2 rfl rfl) (lv_at hl 4 rfl) (kdr dgL_law_828 1 3 rfl rfl) (by decide) (kdr dgL_law_828 1 4 rfl rfl) hX hbl hbA hS (ix_in z1) (kdr dgL_law_828 1 5 rfl rfl) ?_
  obtain ⟨z2, h⟩ := g_if h
  refine kld (v := 3) hx hb (kdr dgL_law_828 1 6 rfl rfl) rfl (lv_at hl 0 rfl) (kdr dgL_law_828 1 7 rfl rfl) (lv_at hl 4 rfl) (kdr dgL_law_828 1 8 rfl rfl) (by decide) (kdr dgL_law_828 1 9 rfl rfl) hX hbl hbA hS (ix_in z2) (kdr dgL_law_828 2 0 rfl rfl) ?_
  obtain ⟨z3, h⟩ := g_if h
  refine kld (v := 4) hx hb (kdr dgL_law_828 2 1 rfl rfl) rfl (lv_at hl 0 rfl) (kdr dgL_law_828 2 2 rfl rfl) (lv_at hl 4 rfl) (kdr dgL_law_828 2 3 rfl rfl) (by decide) (kdr dgL_law_828 2 4 rfl rfl) hX hbl hbA hS (ix_in z3) (kdr dgL_law_828 2 5 rfl rfl) ?_
  refine lv_aload_n hx hb (kdr dgL_law_828 2 6 rfl rfl) rfl (lv_at hl 3 rfl) ?_
  obtain ⟨r5, g5, h⟩ := g_b h
  refine kq_i ((wSB cI cJ cZ a r5.2.1 fr un sb se so sc wb we wo wc fb fe fo fc rm r5.2.2.1 r5.2.2.2.1 kn) ++ (wMo cJ cZ b mce mfr mun mbe men mov msp mwb mwe mwi mac mre mkn mth) ++ (wO o r5.2.2.2.2 ov)) (fun qP qD qF => vx_runSW (As := [.ref (a 0), .int (xs (x4 + 1).toNatClampNeg), .int (xs (x4 + 2).toNatClampNeg), .int (xs (x4 + 3).toNatClampNeg), .int (xs (x4 + 4).toNatClampNeg), .ref o]) (rest := []) ⟨hx, hb, hml, hown, hts⟩ (c_L_fit l hl9 dC dI cB cI cJ cZ a o _ ce fr un sb se so sc wb we wo wc fb fe fo fc rm ac rf kn on ov (xs (x4 + 1).toNatClampNeg) (xs (x4 + 2).toNatClampNeg) (xs (x4 + 3).toNatClampNeg) (xs (x4 + 4).toNatClampNeg) r5 g5) (kcwSW hts kw_630 kv_L_fit rfl rfl ⟨(Nat.le_of_ble_eq_true rfl), (Nat.le_of_ble_eq_true rfl)⟩) (kpSXq (A := A) qP hK qD hG hZ hS qF) rfl rfl hl.1 rfl (lv_room (Nat.le_of_ble_eq_true rfl)) (kdr dgL_law_828 2 7 rfl rfl) ⟨by show _ ≤ (600128 : Nat); omega, by show _ ≤ (7301098 : Nat); omega⟩) hP hD hS hA (kFr_2 (kFr_l kFr_SB) kFr_o) (fun H locs hP hD hS br5 => ?_)
  refine lv_istore (lv' := (kvI 5 r5.1 (kvA 0 b9 (kvA 1 (a 0) (kvA 2 (b 0) (kvA 3 o (kvI 4 x4 kvE))))))) hx hb (kdr dgL_law_828 2 8 rfl rfl) hl (by decide) rfl (fun ls hl => ?_)
  refine lv_aload_n hx hb (kdr dgL_law_828 2 9 rfl rfl) rfl (lv_at hl 3 rfl) ?_
  refine kld (v := 1) hx hb (kdr dgL_law_828 3 0 rfl rfl) rfl (lv_at hl 1 rfl) (kdr dgL_law_828 3 1 rfl rfl) (lv_at hl 5 rfl) (kdr dgL_law_828 3 2 rfl rfl) (by decide) (kdr dgL_law_828 3 3 rfl rfl) hX hbl hbA hS (ix_in z0) (kdr dgL_law_828 3 4 rfl rfl) ?_
  refine kld (v := 2) hx hb (kdr dgL_law_828 3 5 rfl rfl) rfl (lv_at hl 1 rfl) (kdr dgL_law_828 3 6 rfl rfl) (lv_at hl 5 rfl) (kdr dgL_law_828 3 7 rfl rfl) (by decide) (kdr dgL_law_828 3 8 rfl rfl) hX hbl hbA hS (ix_in z1) (kdr dgL_law_828 3 9 rfl rfl) ?_
  refine kld (v := 3) hx hb (kdr dgL_law_828 4 0 rfl rfl) rfl (lv_at hl 1 rfl) (kdr dgL_law_828 4 1 rfl rfl) (lv_at hl 5 rfl) (kdr dgL_law_828 4 2 rfl rfl) (by decide) (kdr dgL_law_828 4 3 rfl rfl) hX hbl hbA hS (ix_in z2) (kdr dgL_law_828 4 4 rfl rfl) ?_
  refine kld (v := 4) hx hb (kdr dgL_law_828 4 5 rfl rfl) rfl (lv_at hl 1 rfl) (kdr dgL_law_828 4 6 rfl rfl) (lv_at hl 5 rfl) (kdr dgL_law_828 4 7 rfl rfl) (by decide) (kdr dgL_law_828 4 8 rfl rfl) hX hbl hbA hS (ix_in z3) (kdr dgL_law_828 4 9 rfl rfl) ?_
  obtain ⟨r6, g6, h⟩ := g_b h
  refine kq_i ((wSB cI cJ cZ a r5.2.1 fr un sb se so sc wb we wo wc fb fe fo fc rm r5.2.2.1 r5.2.2.2.1 kn) ++ (wMo cJ cZ b r6.2.1 mfr mun mbe men mov msp mwb mwe mwi r6.2.2.1 r6.2.2.2.1 mkn r6.2.2.2.2) ++ (wO o r5.2.2.2.2 ov)) (fun qP qD qF => va_runV (As := [.int (xs (x4 + 1).toNatClampNeg), .int (xs (x4 + 2).toNatClampNeg), .int (xs (x4 + 3).toNatClampNeg), .int (xs (x4 + 4).toNatClampNeg)]) (rest := []) ⟨hx, hb, hml, hown, hts⟩ (c_X3_fit l dC dI cB cI cJ cZ b _ mce mfr mun mbe men mov msp mwb mwe mwi mac mre mkn mth (xs (x4 + 1).toNatClampNeg) (xs (x4 + 2).toNatClampNeg) (xs (x4 + 3).toNatClampNeg) (xs (x4 + 4).toNatClampNeg) r6 g6) (kcwV hts kw_1242 kv_X3_fit rfl rfl ⟨(Nat.le_of_ble_eq_true rfl), (Nat.le_of_ble_eq_true rfl)⟩) (kpV (A := A) qP hK qD hG (krecv_5 (q0 := 15) hK hP rfl)) rfl rfl hl.1 rfl (lv_room (Nat.le_of_ble_eq_true rfl)) (kdr dgL_law_828 5 0 rfl rfl) ⟨by show _ ≤ (600128 : Nat); omega, by show _ ≤ (7301098 : Nat); omega⟩) hP hD hS hA (kFr_l (kFr_r kFr_Mo)) (fun H locs hP hD hS br6 => ?_)
  refine lv_istore (lv' := (kvI 6 r6.1 (kvI 5 r5.1 (kvA 0 b9 (kvA 1 (a 0) (kvA 2 (b 0) (kvA 3 o (kvI 4 x4 kvE)))))))) hx hb (kdr dgL_law_828 5 1 rfl rfl) hl (by decide) rfl (fun ls hl => ?_)
  refine lv_goto (tgt := 1873) hx hb (kdr dgL_law_828 5 2 rfl rfl) (by decide) ?_
  exact hK9 r5.2.1 fr un sb se so sc wb we wo wc fb fe fo fc rm r5.2.2.1 r5.2.2.2.1 kn r6.2.1 mfr mun mbe men mov msp mwb mwe mwi r6.2.2.1 r6.2.2.2.1 mkn r6.2.2.2.2 r5.2.2.2.2 ov x4 b _ _ _ _ (by omega) (by omega) hP hD hS ls (lv_sub hl [2, 3, 4, 5, 6] rfl) h
noncomputable def flaw_902 (L : Nat) (xs : Nat → Int32) (K : kFT) (ce : Nat → Int64) (fr : Int64) (un : Int64) (sb : Nat → Int64) (se : Nat → Int64) (so : Nat → Int32) (sc : Int32) (wb : Nat → Int64) (we : Nat → Int64) (wo : Nat → Int32) (wc : Int32) (fb : Nat → Int64) (fe : Nat → Int64) (fo : Nat → Int32) (fc : Int32) (rm : Nat → Int32) (ac : Int32) (rf : Int32) (kn : Int32) (mce : Nat → Int64) (mfr : Int64) (mun : Int64) (mbe : Nat → Int64) (men : Nat → Int64) (mov : Nat → Int32) (msp : Int32) (mwb : Nat → Int64) (mwe : Nat → Int64) (mwi : Int32) (mac : Int32) (mre : Int32) (mkn : Int32) (mth : Int32) (on : Int64) (x4 : Int32) : Option Int32 :=
  if ix (x4 + 1) L then
    if ix (x4 + 2) L then
      (f_L_wish ce wb we wo wc ac rf on (xs (x4 + 1).toNatClampNeg) (xs (x4 + 2).toNatClampNeg)).bind fun r3 =>
      (f_X3_wish mce mwb mwe mwi mac mre (xs (x4 + 1).toNatClampNeg) (xs (x4 + 2).toNatClampNeg)).bind fun r4 =>
      K ce fr un sb se so sc r3.2.1 r3.2.2.1 r3.2.2.2.1 r3.2.2.2.2.1 fb fe fo fc rm r3.2.2.2.2.2.1 r3.2.2.2.2.2.2.1 kn mce mfr mun mbe men mov msp r4.2.1 r4.2.2.1 r4.2.2.2.1 r4.2.2.2.2.1 r4.2.2.2.2.2.1 mkn r4.2.2.2.2.2.2 r3.2.2.2.2.2.2.2 x4
    else none
  else none
theorem flaw_902_e {L : Nat} {xs : Nat → Int32} {K : kFT} (ce : Nat → Int64) (fr : Int64) (un : Int64) (sb : Nat → Int64) (se : Nat → Int64) (so : Nat → Int32) (sc : Int32) (wb : Nat → Int64) (we : Nat → Int64) (wo : Nat → Int32) (wc : Int32) (fb : Nat → Int64) (fe : Nat → Int64) (fo : Nat → Int32) (fc : Int32) (rm : Nat → Int32) (ac : Int32) (rf : Int32) (kn : Int32) (mce : Nat → Int64) (mfr : Int64) (mun : Int64) (mbe : Nat → Int64) (men : Nat → Int64) (mov : Nat → Int32) (msp : Int32) (mwb : Nat → Int64) (mwe : Nat → Int64) (mwi : Int32) (mac : Int32) (mre : Int32) (mkn : Int32) (mth : Int32) (on : Int64) (x4 : Int32) : flaw_902 L xs K ce fr un sb se so sc wb we wo wc fb fe fo fc rm ac rf kn mce mfr mun mbe men mov msp mwb mwe mwi mac mre mkn mth on x4 =
  if ix (x4 + 1) L then
    if ix (x4 + 2) L then
      (f_L_wish ce wb we wo wc ac rf on (xs (x4 + 1).toNatClampNeg) (xs (x4 + 2).toNatClampNeg)).bind fun r3 =>
      (f_X3_wish mce mwb mwe mwi mac mre (xs (x4 + 1).toNatClampNeg) (xs (x4 + 2).toNatClampNeg)).bind fun r4 =>
      K ce fr un sb se so sc r3.2.1 r3.2.2.1 r3.2.2.2.1 r3.2.2.2.2.1 fb fe fo fc rm r3.2.2.2.2.2.1 r3.2.2.2.2.2.2.1 kn mce mfr mun mbe men mov msp r4.2.1 r4.2.2.1 r4.2.2.2.1 r4.2.2.2.2.1 r4.2.2.2.2.2.1 mkn r4.2.2.2.2.2.2 r3.2.2.2.2.2.2.2 x4
    else none
  else none := rfl
set_option maxHeartbeats 8000000 in
set_option maxRecDepth 100000 in
theorem law_13 {p : Program} {l : Launch} {e : Env} {s : State} {m : MethodId} {below : List Frame} {meth : Method} {c : Code} {dC : Nat → ClassId} {dI : Nat → Nat → Nat} {cB cI cJ cZ : ClassId} {b9 L : Nat} {xs : Nat → Int32} {A : Nat → Prop} (hl9 : l.stackTraces = false) (C0 : kLw p s m c b9 L xs A) (hK : va_K (dC, dI) vwCl (kTy cB cI cJ cZ) s) {a : Nat → Nat} {o : Nat} (K : kFT) (bK sK : Nat) (hK9 : kGo p l e s m below meth c dC dI cB cI cJ cZ b9 A a o 1873 bK sK K) : kGo p l e s m below meth c dC dI cB cI cJ cZ b9 A a o 902 (1 + bK) (6 + sK) (flaw_902 L xs K) := by
  obtain ⟨hx, hb, hml, hown, hts, hX, hbl, hA, hbA, hG, hZ⟩ := C0
  intro ce fr un sb se so sc wb we wo wc fb fe fo fc rm ac rf kn mce mfr mun mbe men mov msp mwb mwe mwi mac mre mkn mth on ov x4 b H locs kc ks hkc hks hP hD hS ls hl h
  have h := (flaw_902_e ce fr un sb se so sc wb we wo wc fb fe fo fc rm ac rf kn mce mfr mun mbe men mov msp mwb mwe mwi mac mre mkn mth on x4).symm.trans h
  refine lv_aload_n hx hb (kdr dgL_law_828 5 3 rfl rfl) rfl (lv_at hl 1 rfl) ?_
  obtain ⟨z0, h⟩ := g_if h
  refine kld (v := 1) hx hb (kdr dgL_law_828 5 4 rfl rfl) rfl (lv_at hl 0 rfl) (kdr dgL_law_828 5 5 rfl rfl) (lv_at hl 4 rfl) (kdr dgL_law_828 5 6 rfl rfl) (by decide) (kdr dgL_law_828 5 7 rfl rfl) hX hbl hbA hS (ix_in z0) (kdr dgL_law_828 5 8 rfl rfl) ?_
  obtain ⟨z1, h⟩ := g_if h
  refine kld (v := 2) hx hb (kdr dgL_law_828 5 9 rfl rfl) rfl (lv_at hl 0 rfl) (kdr dgL_law_828 6 0 rfl rfl) (lv_at hl 4 rfl) (kdr dgL_law_828 6 1 rfl rfl) (by decide) (kdr dgL_law_828 6 2 rfl rfl) hX hbl hbA hS (ix_in z1) (kdr dgL_law_828 6 3 rfl rfl) ?_
  refine lv_aload_n hx hb (kdr dgL_law_828 6 4 rfl rfl) rfl (lv_at hl 3 rfl) ?_
  obtain ⟨r3, g3, h⟩ := g_b h
  refine kq_i ((wSB cI cJ cZ a ce fr un sb se so sc r3.2.1 r3.2.2.1 r3.2.2.2.1 r3.2.2.2.2.1 fb fe fo fc rm r3.2.2.2.2.2.1 r3.2.2.2.2.2.2.1 kn) ++ (wMo cJ cZ b mce mfr mun mbe men mov msp mwb mwe mwi mac mre mkn mth) ++ (wO o r3.2.2.2.2.2.2.2 ov)) (fun qP qD qF => vx_runSW (As := [.ref (a 0), .int (xs (x4 + 1).toNatClampNeg), .int (xs (x4 + 2).toNatClampNeg), .ref o]) (rest := []) ⟨hx, hb, hml, hown, hts⟩ (c_L_wish l hl9 dC dI cB cI cJ cZ a o _ ce fr un sb se so sc wb we wo wc fb fe fo fc rm ac rf kn on ov (xs (x4 + 1).toNatClampNeg) (xs (x4 + 2).toNatClampNeg) r3 g3) (kcwSW hts kw_640 kv_L_wish rfl rfl ⟨(Nat.le_of_ble_eq_true rfl), (Nat.le_of_ble_eq_true rfl)⟩) (kpSXq (A := A) qP hK qD hG hZ hS qF) rfl rfl hl.1 rfl (lv_room (Nat.le_of_ble_eq_true rfl)) (kdr dgL_law_828 6 5 rfl rfl) ⟨by show _ ≤ (600128 : Nat); omega, by show _ ≤ (7301098 : Nat); omega⟩) hP hD hS hA (kFr_2 (kFr_l kFr_SB) kFr_o) (fun H locs hP hD hS br3 => ?_)
  refine lv_istore (lv' := (kvI 5 r3.1 (kvA 0 b9 (kvA 1 (a 0) (kvA 2 (b 0) (kvA 3 o (kvI 4 x4 kvE))))))) hx hb (kdr dgL_law_828 6 6 rfl rfl) hl (by decide) rfl (fun ls hl => ?_)
  refine lv_aload_n hx hb (kdr dgL_law_828 6 7 rfl rfl) rfl (lv_at hl 3 rfl) ?_
  refine kld (v := 1) hx hb (kdr dgL_law_828 6 8 rfl rfl) rfl (lv_at hl 1 rfl) (kdr dgL_law_828 6 9 rfl rfl) (lv_at hl 5 rfl) (kdr dgL_law_828 7 0 rfl rfl) (by decide) (kdr dgL_law_828 7 1 rfl rfl) hX hbl hbA hS (ix_in z0) (kdr dgL_law_828 7 2 rfl rfl) ?_
  refine kld (v := 2) hx hb (kdr dgL_law_828 7 3 rfl rfl) rfl (lv_at hl 1 rfl) (kdr dgL_law_828 7 4 rfl rfl) (lv_at hl 5 rfl) (kdr dgL_law_828 7 5 rfl rfl) (by decide) (kdr dgL_law_828 7 6 rfl rfl) hX hbl hbA hS (ix_in z1) (kdr dgL_law_828 7 7 rfl rfl) ?_
  obtain ⟨r4, g4, h⟩ := g_b h
  refine kq_i ((wSB cI cJ cZ a ce fr un sb se so sc r3.2.1 r3.2.2.1 r3.2.2.2.1 r3.2.2.2.2.1 fb fe fo fc rm r3.2.2.2.2.2.1 r3.2.2.2.2.2.2.1 kn) ++ (wMo cJ cZ b mce mfr mun mbe men mov msp r4.2.1 r4.2.2.1 r4.2.2.2.1 r4.2.2.2.2.1 r4.2.2.2.2.2.1 mkn r4.2.2.2.2.2.2) ++ (wO o r3.2.2.2.2.2.2.2 ov)) (fun qP qD qF => va_runV (As := [.int (xs (x4 + 1).toNatClampNeg), .int (xs (x4 + 2).toNatClampNeg)]) (rest := []) ⟨hx, hb, hml, hown, hts⟩ (c_X3_wish l dC dI cB cI cJ cZ b _ mce mfr mun mbe men mov msp mwb mwe mwi mac mre mkn mth (xs (x4 + 1).toNatClampNeg) (xs (x4 + 2).toNatClampNeg) r4 g4) (kcwV hts kw_1251 kv_X3_wish rfl rfl ⟨(Nat.le_of_ble_eq_true rfl), (Nat.le_of_ble_eq_true rfl)⟩) (kpV (A := A) qP hK qD hG (krecv_5 (q0 := 15) hK hP rfl)) rfl rfl hl.1 rfl (lv_room (Nat.le_of_ble_eq_true rfl)) (kdr dgL_law_828 7 8 rfl rfl) ⟨by show _ ≤ (600128 : Nat); omega, by show _ ≤ (7301098 : Nat); omega⟩) hP hD hS hA (kFr_l (kFr_r kFr_Mo)) (fun H locs hP hD hS br4 => ?_)
  refine lv_istore (lv' := (kvI 6 r4.1 (kvI 5 r3.1 (kvA 0 b9 (kvA 1 (a 0) (kvA 2 (b 0) (kvA 3 o (kvI 4 x4 kvE)))))))) hx hb (kdr dgL_law_828 7 9 rfl rfl) hl (by decide) rfl (fun ls hl => ?_)
  refine lv_goto (tgt := 1873) hx hb (kdr dgL_law_828 8 0 rfl rfl) (by decide) ?_
  exact hK9 ce fr un sb se so sc r3.2.1 r3.2.2.1 r3.2.2.2.1 r3.2.2.2.2.1 fb fe fo fc rm r3.2.2.2.2.2.1 r3.2.2.2.2.2.2.1 kn mce mfr mun mbe men mov msp r4.2.1 r4.2.2.1 r4.2.2.2.1 r4.2.2.2.2.1 r4.2.2.2.2.2.1 mkn r4.2.2.2.2.2.2 r3.2.2.2.2.2.2.2 ov x4 b _ _ _ _ (by omega) (by omega) hP hD hS ls (lv_sub hl [2, 3, 4, 5, 6] rfl) h
noncomputable def flaw_942 (L : Nat) (xs : Nat → Int32) (K : kFT) (ce : Nat → Int64) (fr : Int64) (un : Int64) (sb : Nat → Int64) (se : Nat → Int64) (so : Nat → Int32) (sc : Int32) (wb : Nat → Int64) (we : Nat → Int64) (wo : Nat → Int32) (wc : Int32) (fb : Nat → Int64) (fe : Nat → Int64) (fo : Nat → Int32) (fc : Int32) (rm : Nat → Int32) (ac : Int32) (rf : Int32) (kn : Int32) (mce : Nat → Int64) (mfr : Int64) (mun : Int64) (mbe : Nat → Int64) (men : Nat → Int64) (mov : Nat → Int32) (msp : Int32) (mwb : Nat → Int64) (mwe : Nat → Int64) (mwi : Int32) (mac : Int32) (mre : Int32) (mkn : Int32) (mth : Int32) (on : Int64) (x4 : Int32) : Option Int32 :=
  if ix (x4 + 1) L then
    (f_L_unwish wb we wo wc ac on (xs (x4 + 1).toNatClampNeg)).bind fun r2 =>
    (f_X3_unwish mwb mwe mwi mac (xs (x4 + 1).toNatClampNeg)).bind fun r3 =>
    K ce fr un sb se so sc r2.2.1 r2.2.2.1 r2.2.2.2.1 r2.2.2.2.2.1 fb fe fo fc rm r2.2.2.2.2.2.1 rf kn mce mfr mun mbe men mov msp r3.2.1 r3.2.2.1 r3.2.2.2.1 r3.2.2.2.2.1 mre mkn r3.2.2.2.2.2 r2.2.2.2.2.2.2 x4
  else none
theorem flaw_942_e {L : Nat} {xs : Nat → Int32} {K : kFT} (ce : Nat → Int64) (fr : Int64) (un : Int64) (sb : Nat → Int64) (se : Nat → Int64) (so : Nat → Int32) (sc : Int32) (wb : Nat → Int64) (we : Nat → Int64) (wo : Nat → Int32) (wc : Int32) (fb : Nat → Int64) (fe : Nat → Int64) (fo : Nat → Int32) (fc : Int32) (rm : Nat → Int32) (ac : Int32) (rf : Int32) (kn : Int32) (mce : Nat → Int64) (mfr : Int64) (mun : Int64) (mbe : Nat → Int64) (men : Nat → Int64) (mov : Nat → Int32) (msp : Int32) (mwb : Nat → Int64) (mwe : Nat → Int64) (mwi : Int32) (mac : Int32) (mre : Int32) (mkn : Int32) (mth : Int32) (on : Int64) (x4 : Int32) : flaw_942 L xs K ce fr un sb se so sc wb we wo wc fb fe fo fc rm ac rf kn mce mfr mun mbe men mov msp mwb mwe mwi mac mre mkn mth on x4 =
  if ix (x4 + 1) L then
    (f_L_unwish wb we wo wc ac on (xs (x4 + 1).toNatClampNeg)).bind fun r2 =>
    (f_X3_unwish mwb mwe mwi mac (xs (x4 + 1).toNatClampNeg)).bind fun r3 =>
    K ce fr un sb se so sc r2.2.1 r2.2.2.1 r2.2.2.2.1 r2.2.2.2.2.1 fb fe fo fc rm r2.2.2.2.2.2.1 rf kn mce mfr mun mbe men mov msp r3.2.1 r3.2.2.1 r3.2.2.2.1 r3.2.2.2.2.1 mre mkn r3.2.2.2.2.2 r2.2.2.2.2.2.2 x4
  else none := rfl
set_option maxHeartbeats 8000000 in
set_option maxRecDepth 100000 in
theorem law_14 {p : Program} {l : Launch} {e : Env} {s : State} {m : MethodId} {below : List Frame} {meth : Method} {c : Code} {dC : Nat → ClassId} {dI : Nat → Nat → Nat} {cB cI cJ cZ : ClassId} {b9 L : Nat} {xs : Nat → Int32} {A : Nat → Prop} (hl9 : l.stackTraces = false) (C0 : kLw p s m c b9 L xs A) (hK : va_K (dC, dI) vwCl (kTy cB cI cJ cZ) s) {a : Nat → Nat} {o : Nat} (K : kFT) (bK sK : Nat) (hK9 : kGo p l e s m below meth c dC dI cB cI cJ cZ b9 A a o 1873 bK sK K) : kGo p l e s m below meth c dC dI cB cI cJ cZ b9 A a o 942 (1 + bK) (6 + sK) (flaw_942 L xs K) := by
  obtain ⟨hx, hb, hml, hown, hts, hX, hbl, hA, hbA, hG, hZ⟩ := C0
  intro ce fr un sb se so sc wb we wo wc fb fe fo fc rm ac rf kn mce mfr mun mbe men mov msp mwb mwe mwi mac mre mkn mth on ov x4 b H locs kc ks hkc hks hP hD hS ls hl h
  have h := (flaw_942_e ce fr un sb se so sc wb we wo wc fb fe fo fc rm ac rf kn mce mfr mun mbe men mov msp mwb mwe mwi mac mre mkn mth on x4).symm.trans h
  refine lv_aload_n hx hb (kdr dgL_law_828 8 1 rfl rfl) rfl (lv_at hl 1 rfl) ?_
  obtain ⟨z0, h⟩ := g_if h
  refine kld (v := 1) hx hb (kdr dgL_law_828 8 2 rfl rfl) rfl (lv_at hl 0 rfl) (kdr dgL_law_828 8 3 rfl rfl) (lv_at hl 4 rfl) (kdr dgL_law_828 8 4 rfl rfl) (by decide) (kdr dgL_law_828 8 5 rfl rfl) hX hbl hbA hS (ix_in z0) (kdr dgL_law_828 8 6 rfl rfl) ?_
  refine lv_aload_n hx hb (kdr dgL_law_828 8 7 rfl rfl) rfl (lv_at hl 3 rfl) ?_
  obtain ⟨r2, g2, h⟩ := g_b h
  refine kq_i ((wSB cI cJ cZ a ce fr un sb se so sc r2.2.1 r2.2.2.1 r2.2.2.2.1 r2.2.2.2.2.1 fb fe fo fc rm r2.2.2.2.2.2.1 rf kn) ++ (wMo cJ cZ b mce mfr mun mbe men mov msp mwb mwe mwi mac mre mkn mth) ++ (wO o r2.2.2.2.2.2.2 ov)) (fun qP qD qF => vx_runSW (As := [.ref (a 0), .int (xs (x4 + 1).toNatClampNeg), .ref o]) (rest := []) ⟨hx, hb, hml, hown, hts⟩ (c_L_unwish l hl9 dC dI cB cI cJ cZ a o _ ce fr un sb se so sc wb we wo wc fb fe fo fc rm ac rf kn on ov (xs (x4 + 1).toNatClampNeg) r2 g2) (kcwSW hts kw_647 kv_L_unwish rfl rfl ⟨(Nat.le_of_ble_eq_true rfl), (Nat.le_of_ble_eq_true rfl)⟩) (kpSXq (A := A) qP hK qD hG hZ hS qF) rfl rfl hl.1 rfl (lv_room (Nat.le_of_ble_eq_true rfl)) (kdr dgL_law_828 8 8 rfl rfl) ⟨by show _ ≤ (600128 : Nat); omega, by show _ ≤ (7301098 : Nat); omega⟩) hP hD hS hA (kFr_2 (kFr_l kFr_SB) kFr_o) (fun H locs hP hD hS br2 => ?_)
  refine lv_istore (lv' := (kvI 5 r2.1 (kvA 0 b9 (kvA 1 (a 0) (kvA 2 (b 0) (kvA 3 o (kvI 4 x4 kvE))))))) hx hb (kdr dgL_law_828 8 9 rfl rfl) hl (by decide) rfl (fun ls hl => ?_)
  refine lv_aload_n hx hb (kdr dgL_law_828 9 0 rfl rfl) rfl (lv_at hl 3 rfl) ?_
  refine kld (v := 1) hx hb (kdr dgL_law_828 9 1 rfl rfl) rfl (lv_at hl 1 rfl) (kdr dgL_law_828 9 2 rfl rfl) (lv_at hl 5 rfl) (kdr dgL_law_828 9 3 rfl rfl) (by decide) (kdr dgL_law_828 9 4 rfl rfl) hX hbl hbA hS (ix_in z0) (kdr dgL_law_828 9 5 rfl rfl) ?_
  obtain ⟨r3, g3, h⟩ := g_b h
  refine kq_i ((wSB cI cJ cZ a ce fr un sb se so sc r2.2.1 r2.2.2.1 r2.2.2.2.1 r2.2.2.2.2.1 fb fe fo fc rm r2.2.2.2.2.2.1 rf kn) ++ (wMo cJ cZ b mce mfr mun mbe men mov msp r3.2.1 r3.2.2.1 r3.2.2.2.1 r3.2.2.2.2.1 mre mkn r3.2.2.2.2.2) ++ (wO o r2.2.2.2.2.2.2 ov)) (fun qP qD qF => va_runV (As := [.int (xs (x4 + 1).toNatClampNeg)]) (rest := []) ⟨hx, hb, hml, hown, hts⟩ (c_X3_unwish l dC dI cB cI cJ cZ b _ mce mfr mun mbe men mov msp mwb mwe mwi mac mre mkn mth (xs (x4 + 1).toNatClampNeg) r3 g3) (kcwV hts kw_1255 kv_X3_unwish rfl rfl ⟨(Nat.le_of_ble_eq_true rfl), (Nat.le_of_ble_eq_true rfl)⟩) (kpV (A := A) qP hK qD hG (krecv_5 (q0 := 15) hK hP rfl)) rfl rfl hl.1 rfl (lv_room (Nat.le_of_ble_eq_true rfl)) (kdr dgL_law_828 9 6 rfl rfl) ⟨by show _ ≤ (600128 : Nat); omega, by show _ ≤ (7301098 : Nat); omega⟩) hP hD hS hA (kFr_l (kFr_r kFr_Mo)) (fun H locs hP hD hS br3 => ?_)
  refine lv_istore (lv' := (kvI 6 r3.1 (kvI 5 r2.1 (kvA 0 b9 (kvA 1 (a 0) (kvA 2 (b 0) (kvA 3 o (kvI 4 x4 kvE)))))))) hx hb (kdr dgL_law_828 9 7 rfl rfl) hl (by decide) rfl (fun ls hl => ?_)
  refine lv_goto (tgt := 1873) hx hb (kdr dgL_law_828 9 8 rfl rfl) (by decide) ?_
  exact hK9 ce fr un sb se so sc r2.2.1 r2.2.2.1 r2.2.2.2.1 r2.2.2.2.2.1 fb fe fo fc rm r2.2.2.2.2.2.1 rf kn mce mfr mun mbe men mov msp r3.2.1 r3.2.2.1 r3.2.2.2.1 r3.2.2.2.2.1 mre mkn r3.2.2.2.2.2 r2.2.2.2.2.2.2 ov x4 b _ _ _ _ (by omega) (by omega) hP hD hS ls (lv_sub hl [2, 3, 4, 5, 6] rfl) h
noncomputable def flaw_970 (L : Nat) (xs : Nat → Int32) (K : kFT) (ce : Nat → Int64) (fr : Int64) (un : Int64) (sb : Nat → Int64) (se : Nat → Int64) (so : Nat → Int32) (sc : Int32) (wb : Nat → Int64) (we : Nat → Int64) (wo : Nat → Int32) (wc : Int32) (fb : Nat → Int64) (fe : Nat → Int64) (fo : Nat → Int32) (fc : Int32) (rm : Nat → Int32) (ac : Int32) (rf : Int32) (kn : Int32) (mce : Nat → Int64) (mfr : Int64) (mun : Int64) (mbe : Nat → Int64) (men : Nat → Int64) (mov : Nat → Int32) (msp : Int32) (mwb : Nat → Int64) (mwe : Nat → Int64) (mwi : Int32) (mac : Int32) (mre : Int32) (mkn : Int32) (mth : Int32) (on : Int64) (x4 : Int32) : Option Int32 :=
  if ix (x4 + 1) L then
    (f_L_grant fr un sb se so sc wb we wo wc ac rf on (xs (x4 + 1).toNatClampNeg)).bind fun r2 =>
    (f_X3_grant mfr mun mbe men mov msp mwb mwe mwi mac mre (xs (x4 + 1).toNatClampNeg)).bind fun r3 =>
    K ce fr un r2.2.1 r2.2.2.1 r2.2.2.2.1 r2.2.2.2.2.1 r2.2.2.2.2.2.1 r2.2.2.2.2.2.2.1 r2.2.2.2.2.2.2.2.1 r2.2.2.2.2.2.2.2.2.1 fb fe fo fc rm r2.2.2.2.2.2.2.2.2.2.1 r2.2.2.2.2.2.2.2.2.2.2.1 kn mce mfr mun r3.2.1 r3.2.2.1 r3.2.2.2.1 r3.2.2.2.2.1 r3.2.2.2.2.2.1 r3.2.2.2.2.2.2.1 r3.2.2.2.2.2.2.2.1 r3.2.2.2.2.2.2.2.2.1 r3.2.2.2.2.2.2.2.2.2.1 mkn r3.2.2.2.2.2.2.2.2.2.2 r2.2.2.2.2.2.2.2.2.2.2.2 x4
  else none
theorem flaw_970_e {L : Nat} {xs : Nat → Int32} {K : kFT} (ce : Nat → Int64) (fr : Int64) (un : Int64) (sb : Nat → Int64) (se : Nat → Int64) (so : Nat → Int32) (sc : Int32) (wb : Nat → Int64) (we : Nat → Int64) (wo : Nat → Int32) (wc : Int32) (fb : Nat → Int64) (fe : Nat → Int64) (fo : Nat → Int32) (fc : Int32) (rm : Nat → Int32) (ac : Int32) (rf : Int32) (kn : Int32) (mce : Nat → Int64) (mfr : Int64) (mun : Int64) (mbe : Nat → Int64) (men : Nat → Int64) (mov : Nat → Int32) (msp : Int32) (mwb : Nat → Int64) (mwe : Nat → Int64) (mwi : Int32) (mac : Int32) (mre : Int32) (mkn : Int32) (mth : Int32) (on : Int64) (x4 : Int32) : flaw_970 L xs K ce fr un sb se so sc wb we wo wc fb fe fo fc rm ac rf kn mce mfr mun mbe men mov msp mwb mwe mwi mac mre mkn mth on x4 =
  if ix (x4 + 1) L then
    (f_L_grant fr un sb se so sc wb we wo wc ac rf on (xs (x4 + 1).toNatClampNeg)).bind fun r2 =>
    (f_X3_grant mfr mun mbe men mov msp mwb mwe mwi mac mre (xs (x4 + 1).toNatClampNeg)).bind fun r3 =>
    K ce fr un r2.2.1 r2.2.2.1 r2.2.2.2.1 r2.2.2.2.2.1 r2.2.2.2.2.2.1 r2.2.2.2.2.2.2.1 r2.2.2.2.2.2.2.2.1 r2.2.2.2.2.2.2.2.2.1 fb fe fo fc rm r2.2.2.2.2.2.2.2.2.2.1 r2.2.2.2.2.2.2.2.2.2.2.1 kn mce mfr mun r3.2.1 r3.2.2.1 r3.2.2.2.1 r3.2.2.2.2.1 r3.2.2.2.2.2.1 r3.2.2.2.2.2.2.1 r3.2.2.2.2.2.2.2.1 r3.2.2.2.2.2.2.2.2.1 r3.2.2.2.2.2.2.2.2.2.1 mkn r3.2.2.2.2.2.2.2.2.2.2 r2.2.2.2.2.2.2.2.2.2.2.2 x4
  else none := rfl
set_option maxHeartbeats 8000000 in
set_option maxRecDepth 100000 in
theorem law_15 {p : Program} {l : Launch} {e : Env} {s : State} {m : MethodId} {below : List Frame} {meth : Method} {c : Code} {dC : Nat → ClassId} {dI : Nat → Nat → Nat} {cB cI cJ cZ : ClassId} {b9 L : Nat} {xs : Nat → Int32} {A : Nat → Prop} (hl9 : l.stackTraces = false) (C0 : kLw p s m c b9 L xs A) (hK : va_K (dC, dI) vwCl (kTy cB cI cJ cZ) s) {a : Nat → Nat} {o : Nat} (K : kFT) (bK sK : Nat) (hK9 : kGo p l e s m below meth c dC dI cB cI cJ cZ b9 A a o 1873 bK sK K) : kGo p l e s m below meth c dC dI cB cI cJ cZ b9 A a o 970 (1 + bK) (6 + sK) (flaw_970 L xs K) := by
  obtain ⟨hx, hb, hml, hown, hts, hX, hbl, hA, hbA, hG, hZ⟩ := C0
  intro ce fr un sb se so sc wb we wo wc fb fe fo fc rm ac rf kn mce mfr mun mbe men mov msp mwb mwe mwi mac mre mkn mth on ov x4 b H locs kc ks hkc hks hP hD hS ls hl h
  have h := (flaw_970_e ce fr un sb se so sc wb we wo wc fb fe fo fc rm ac rf kn mce mfr mun mbe men mov msp mwb mwe mwi mac mre mkn mth on x4).symm.trans h
  refine lv_aload_n hx hb (kdr dgL_law_828 9 9 rfl rfl) rfl (lv_at hl 1 rfl) ?_
  obtain ⟨z0, h⟩ := g_if h
  refine kld (v := 1) hx hb (kdr dgL_law_971 0 0 rfl rfl) rfl (lv_at hl 0 rfl) (kdr dgL_law_971 0 1 rfl rfl) (lv_at hl 4 rfl) (kdr dgL_law_971 0 2 rfl rfl) (by decide) (kdr dgL_law_971 0 3 rfl rfl) hX hbl hbA hS (ix_in z0) (kdr dgL_law_971 0 4 rfl rfl) ?_
  refine lv_aload_n hx hb (kdr dgL_law_971 0 5 rfl rfl) rfl (lv_at hl 3 rfl) ?_
  obtain ⟨r2, g2, h⟩ := g_b h
  refine kq_i ((wSB cI cJ cZ a ce fr un r2.2.1 r2.2.2.1 r2.2.2.2.1 r2.2.2.2.2.1 r2.2.2.2.2.2.1 r2.2.2.2.2.2.2.1 r2.2.2.2.2.2.2.2.1 r2.2.2.2.2.2.2.2.2.1 fb fe fo fc rm r2.2.2.2.2.2.2.2.2.2.1 r2.2.2.2.2.2.2.2.2.2.2.1 kn) ++ (wMo cJ cZ b mce mfr mun mbe men mov msp mwb mwe mwi mac mre mkn mth) ++ (wO o r2.2.2.2.2.2.2.2.2.2.2.2 ov)) (fun qP qD qF => vx_runSW (As := [.ref (a 0), .int (xs (x4 + 1).toNatClampNeg), .ref o]) (rest := []) ⟨hx, hb, hml, hown, hts⟩ (c_L_grant l hl9 dC dI cB cI cJ cZ a o _ ce fr un sb se so sc wb we wo wc fb fe fo fc rm ac rf kn on ov (xs (x4 + 1).toNatClampNeg) r2 g2) (kcwSW hts kw_654 kv_L_grant rfl rfl ⟨(Nat.le_of_ble_eq_true rfl), (Nat.le_of_ble_eq_true rfl)⟩) (kpSXq (A := A) qP hK qD hG hZ hS qF) rfl rfl hl.1 rfl (lv_room (Nat.le_of_ble_eq_true rfl)) (kdr dgL_law_971 0 6 rfl rfl) ⟨by show _ ≤ (600128 : Nat); omega, by show _ ≤ (7301098 : Nat); omega⟩) hP hD hS hA (kFr_2 (kFr_l kFr_SB) kFr_o) (fun H locs hP hD hS br2 => ?_)
  refine lv_istore (lv' := (kvI 5 r2.1 (kvA 0 b9 (kvA 1 (a 0) (kvA 2 (b 0) (kvA 3 o (kvI 4 x4 kvE))))))) hx hb (kdr dgL_law_971 0 7 rfl rfl) hl (by decide) rfl (fun ls hl => ?_)
  refine lv_aload_n hx hb (kdr dgL_law_971 0 8 rfl rfl) rfl (lv_at hl 3 rfl) ?_
  refine kld (v := 1) hx hb (kdr dgL_law_971 0 9 rfl rfl) rfl (lv_at hl 1 rfl) (kdr dgL_law_971 1 0 rfl rfl) (lv_at hl 5 rfl) (kdr dgL_law_971 1 1 rfl rfl) (by decide) (kdr dgL_law_971 1 2 rfl rfl) hX hbl hbA hS (ix_in z0) (kdr dgL_law_971 1 3 rfl rfl) ?_
  obtain ⟨r3, g3, h⟩ := g_b h
  refine kq_i ((wSB cI cJ cZ a ce fr un r2.2.1 r2.2.2.1 r2.2.2.2.1 r2.2.2.2.2.1 r2.2.2.2.2.2.1 r2.2.2.2.2.2.2.1 r2.2.2.2.2.2.2.2.1 r2.2.2.2.2.2.2.2.2.1 fb fe fo fc rm r2.2.2.2.2.2.2.2.2.2.1 r2.2.2.2.2.2.2.2.2.2.2.1 kn) ++ (wMo cJ cZ b mce mfr mun r3.2.1 r3.2.2.1 r3.2.2.2.1 r3.2.2.2.2.1 r3.2.2.2.2.2.1 r3.2.2.2.2.2.2.1 r3.2.2.2.2.2.2.2.1 r3.2.2.2.2.2.2.2.2.1 r3.2.2.2.2.2.2.2.2.2.1 mkn r3.2.2.2.2.2.2.2.2.2.2) ++ (wO o r2.2.2.2.2.2.2.2.2.2.2.2 ov)) (fun qP qD qF => va_runV (As := [.int (xs (x4 + 1).toNatClampNeg)]) (rest := []) ⟨hx, hb, hml, hown, hts⟩ (c_X3_grant l dC dI cB cI cJ cZ b _ mce mfr mun mbe men mov msp mwb mwe mwi mac mre mkn mth (xs (x4 + 1).toNatClampNeg) r3 g3) (kcwV hts kw_1267 kv_X3_grant rfl rfl ⟨(Nat.le_of_ble_eq_true rfl), (Nat.le_of_ble_eq_true rfl)⟩) (kpV (A := A) qP hK qD hG (krecv_5 (q0 := 15) hK hP rfl)) rfl rfl hl.1 rfl (lv_room (Nat.le_of_ble_eq_true rfl)) (kdr dgL_law_971 1 4 rfl rfl) ⟨by show _ ≤ (600128 : Nat); omega, by show _ ≤ (7301098 : Nat); omega⟩) hP hD hS hA (kFr_l (kFr_r kFr_Mo)) (fun H locs hP hD hS br3 => ?_)
  refine lv_istore (lv' := (kvI 6 r3.1 (kvI 5 r2.1 (kvA 0 b9 (kvA 1 (a 0) (kvA 2 (b 0) (kvA 3 o (kvI 4 x4 kvE)))))))) hx hb (kdr dgL_law_971 1 5 rfl rfl) hl (by decide) rfl (fun ls hl => ?_)
  refine lv_goto (tgt := 1873) hx hb (kdr dgL_law_971 1 6 rfl rfl) (by decide) ?_
  exact hK9 ce fr un r2.2.1 r2.2.2.1 r2.2.2.2.1 r2.2.2.2.2.1 r2.2.2.2.2.2.1 r2.2.2.2.2.2.2.1 r2.2.2.2.2.2.2.2.1 r2.2.2.2.2.2.2.2.2.1 fb fe fo fc rm r2.2.2.2.2.2.2.2.2.2.1 r2.2.2.2.2.2.2.2.2.2.2.1 kn mce mfr mun r3.2.1 r3.2.2.1 r3.2.2.2.1 r3.2.2.2.2.1 r3.2.2.2.2.2.1 r3.2.2.2.2.2.2.1 r3.2.2.2.2.2.2.2.1 r3.2.2.2.2.2.2.2.2.1 r3.2.2.2.2.2.2.2.2.2.1 mkn r3.2.2.2.2.2.2.2.2.2.2 r2.2.2.2.2.2.2.2.2.2.2.2 ov x4 b _ _ _ _ (by omega) (by omega) hP hD hS ls (lv_sub hl [2, 3, 4, 5, 6] rfl) h
