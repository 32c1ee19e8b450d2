-- 20.casesa.lean.txt
section
/-! the law's cases: one form of statement -/
noncomputable abbrev kFT : Type := (Nat → Int64) → (Int64) → (Int64) → (Nat → Int64) → (Nat → Int64) → (Nat → Int32) → (Int32) → (Nat → Int64) → (Nat → Int64) → (Nat → Int32) → (Int32) → (Nat → Int64) → (Nat → Int64) → (Nat → Int32) → (Int32) → (Nat → Int32) → (Int32) → (Int32) → (Int32) → (Nat → Int64) → (Int64) → (Int64) → (Nat → Int64) → (Nat → Int64) → (Nat → Int32) → (Int32) → (Nat → Int64) → (Nat → Int64) → (Int32) → (Int32) → (Int32) → (Int32) → (Int32) → (Int64) → Int32 → Option Int32
noncomputable abbrev kGo (p : Program) (l : Launch) (e : Env) (s : State) (m : MethodId) (below : List Frame) (meth : Method) (c : Code) (dC : Nat → ClassId) (dI : Nat → Nat → Nat) (cB cI cJ cZ : ClassId) (b9 : Nat) (A : Nat → Prop) (a : Nat → Nat) (o : Nat) (pc k n : Nat) (F : kFT) : Prop := ∀ (ce : Nat → Int64) (fr : Int64) (un : Int64) (sb : Nat → Int64) (se : Nat → Int64) (so : Nat → Int32) (sc : Int32) (wb : Nat → Int64) (we : Nat → Int64) (wo : Nat → Int32) (wc : Int32) (fb : Nat → Int64) (fe : Nat → Int64) (fo : Nat → Int32) (fc : Int32) (rm : Nat → Int32) (ac : Int32) (rf : Int32) (kn : Int32) (mce : Nat → Int64) (mfr : Int64) (mun : Int64) (mbe : Nat → Int64) (men : Nat → Int64) (mov : Nat → Int32) (msp : Int32) (mwb : Nat → Int64) (mwe : Nat → Int64) (mwi : Int32) (mac : Int32) (mre : Int32) (mkn : Int32) (mth : Int32) (on : Int64) (ov : Value) (x4 : Int32) (b : Nat → Nat) (H : Heap) (locs : List Loc) (kc ks : Nat), kc + k ≤ 600128 → ks + n ≤ 7301098 → va_P (dC, dI) vwCl ((wSB cI cJ cZ a ce fr un sb se so sc wb we wo wc fb fe fo fc rm ac rf kn) ++ (wMo cJ cZ b mce mfr mun mbe men mov msp mwb mwe mwi mac mre mkn mth) ++ (wO o on ov)) H → va_D A ((wSB cI cJ cZ a ce fr un sb se so sc wb we wo wc fb fe fo fc rm ac rf kn) ++ (wMo cJ cZ b mce mfr mun mbe men mov msp mwb mwe mwi mac mre mkn mth) ++ (wO o on ov)) → va_S A s.heap H locs → ∀ (ls : Array Slot), lv_has ls 7 (kvA 0 b9 (kvA 1 (a 0) (kvA 2 (b 0) (kvA 3 o (kvI 4 x4 kvE))))) → F ce fr un sb se so sc wb we wo wc fb fe fo fc rm ac rf kn mce mfr mun mbe men mov msp mwb mwe mwi mac mre mkn mth on x4 = some 1 → W p l e room_1 s m #[Value.ref b9] below meth c H locs kc ks (lw_Z below #[Value.ref b9] s) (F0 m pc ls [])
noncomputable def flaw_248 (L : Nat) (xs : Nat → Int32) (K : kFT) (ce : Nat → Int64) (fr : Int64) (un : Int64) (sb : Nat → Int64) (se : Nat → Int64) (so : Nat → Int32) (sc : Int32) (wb : Nat → Int64) (we : Nat → Int64) (wo : Nat → Int32) (wc : Int32) (fb : Nat → Int64) (fe : Nat → Int64) (fo : Nat → Int32) (fc : Int32) (rm : Nat → Int32) (ac : Int32) (rf : Int32) (kn : Int32) (mce : Nat → Int64) (mfr : Int64) (mun : Int64) (mbe : Nat → Int64) (men : Nat → Int64) (mov : Nat → Int32) (msp : Int32) (mwb : Nat → Int64) (mwe : Nat → Int64) (mwi : Int32) (mac : Int32) (mre : Int32) (mkn : Int32) (mth : Int32) (on : Int64) (x4 : Int32) : Option Int32 :=
  if ix (x4 + 1) L then
    if ix (x4 + 2) L then
      if ix (x4 + 3) L then
        (f_L_set ce ac rf on (xs (x4 + 1).toNatClampNeg) (xs (x4 + 2).toNatClampNeg) (xs (x4 + 3).toNatClampNeg)).bind fun r4 =>
        (f_X3_set mce mac mre (xs (x4 + 1).toNatClampNeg) (xs (x4 + 2).toNatClampNeg) (xs (x4 + 3).toNatClampNeg)).bind fun r5 =>
        K r4.2.1 fr un sb se so sc wb we wo wc fb fe fo fc rm r4.2.2.1 r4.2.2.2.1 kn r5.2.1 mfr mun mbe men mov msp mwb mwe mwi r5.2.2.1 r5.2.2.2.1 mkn r5.2.2.2.2 r4.2.2.2.2 x4
      else none
    else none
  else none
theorem flaw_248_e {L : Nat} {xs : Nat → Int32} {K : kFT} (ce : Nat → Int64) (fr : Int64) (un : Int64) (sb : Nat → Int64) (se : Nat → Int64) (so : Nat → Int32) (sc : Int32) (wb : Nat → Int64) (we : Nat → Int64) (wo : Nat → Int32) (wc : Int32) (fb : Nat → Int64) (fe : Nat → Int64) (fo : Nat → Int32) (fc : Int32) (rm : Nat → Int32) (ac : Int32) (rf : Int32) (kn : Int32) (mce : Nat → Int64) (mfr : Int64) (mun : Int64) (mbe : Nat → Int64) (men : Nat → Int64) (mov : Nat → Int32) (msp : Int32) (mwb : Nat → Int64) (mwe : Nat → Int64) (mwi : Int32) (mac : Int32) (mre : Int32) (mkn : Int32) (mth : Int32) (on : Int64) (x4 : Int32) : flaw_248 L xs K ce fr un sb se so sc wb we wo wc fb fe fo fc rm ac rf kn mce mfr mun mbe men mov msp mwb mwe mwi mac mre mkn mth on x4 =
  if ix (x4 + 1) L then
    if ix (x4 + 2) L then
      if ix (x4 + 3) L then
        (f_L_set ce ac rf on (xs (x4 + 1).toNatClampNeg) (xs (x4 + 2).toNatClampNeg) (xs (x4 + 3).toNatClampNeg)).bind fun r4 =>
        (f_X3_set mce mac mre (xs (x4 + 1).toNatClampNeg) (xs (x4 + 2).toNatClampNeg) (xs (x4 + 3).toNatClampNeg)).bind fun r5 =>
        K r4.2.1 fr un sb se so sc wb we wo wc fb fe fo fc rm r4.2.2.1 r4.2.2.2.1 kn r5.2.1 mfr mun mbe men mov msp mwb mwe mwi r5.2.2.1 r5.2.2.2.1 mkn r5.2.2.2.2 r4.2.2.2.2 x4
      else none
    else none
  else none := rfl
set_option maxHeartbeats 8000000 in
set_option maxRecDepth 100000 in
theorem law_0 {p : Program} {l : Launch} {e : Env} {s : State} {m : MethodId} {below : List Frame} {meth : Method} {c : Code} {dC : Nat → ClassId} {dI : Nat → Nat → Nat} {cB cI cJ cZ : ClassId} {b9 L : Nat} {xs : Nat → Int32} {A : Nat → Prop} (hl9 : l.stackTraces = false) (C0 : kLw p s m c b9 L xs A) (hK : va_K (dC, dI) vwCl (kTy cB cI cJ cZ) s) {a : Nat → Nat} {o : Nat} (K : kFT) (bK sK : Nat) (hK9 : kGo p l e s m below meth c dC dI cB cI cJ cZ b9 A a o 1845 bK sK K) : kGo p l e s m below meth c dC dI cB cI cJ cZ b9 A a o 248 (1 + bK) (6 + sK) (flaw_248 L xs K) := by
  obtain ⟨hx, hb, hml, hown, hts, hX, hbl, hA, hbA, hG, hZ⟩ := C0
  intro ce fr un sb se so sc wb we wo wc fb fe fo fc rm ac rf kn mce mfr mun mbe men mov msp mwb mwe mwi mac mre mkn mth on ov x4 b H locs kc ks hkc hks hP hD hS ls hl h
  have h := (flaw_248_e ce fr un sb se so sc wb we wo wc fb fe fo fc rm ac rf kn mce mfr mun mbe men mov msp mwb mwe mwi mac mre mkn mth on x4).symm.trans h
  refine lv_aload_n hx hb (kdr dgL_law_248 0 0 rfl rfl) rfl (lv_at hl 1 rfl) ?_
  obtain ⟨z0, h⟩ := g_if h
  refine kld (v := 1) hx hb (kdr dgL_law_248 0 1 rfl rfl) rfl (lv_at hl 0 rfl) (kdr dgL_law_248 0 2 rfl rfl) (lv_at hl 4 rfl) (kdr dgL_law_248 0 3 rfl rfl) (by decide) (kdr dgL_law_248 0 4 rfl rfl) hX hbl hbA hS (ix_in z0) (kdr dgL_law_248 0 5 rfl rfl) ?_
  obtain ⟨z1, h⟩ := g_if h
  refine kld (v := 2) hx hb (kdr dgL_law_248 0 6 rfl rfl) rfl (lv_at hl 0 rfl) (kdr dgL_law_248 0 7 rfl rfl) (lv_at hl 4 rfl) (kdr dgL_law_248 0 8 rfl rfl) (by decide) (kdr dgL_law_248 0 9 rfl rfl) hX hbl hbA hS (ix_in z1) (kdr dgL_law_248 1 0 rfl rfl) ?_
  obtain ⟨z2, h⟩ := g_if h
  refine kld (v := 3) hx hb (kdr dgL_law_248 1 1 rfl rfl) rfl (lv_at hl 0 rfl) (kdr dgL_law_248 1 2 rfl rfl) (lv_at hl 4 rfl) (kdr dgL_law_248 1 3 rfl rfl) (by decide) (kdr dgL_law_248 1 4 rfl rfl) hX hbl hbA hS (ix_in z2) (kdr dgL_law_248 1 5 rfl rfl) ?_
  refine lv_aload_n hx hb (kdr dgL_law_248 1 6 rfl rfl) rfl (lv_at hl 3 rfl) ?_
  obtain ⟨r4, g4, h⟩ := g_b h
  refine kq_i ((wSB cI cJ cZ a r4.2.1 fr un sb se so sc wb we wo wc fb fe fo fc rm r4.2.2.1 r4.2.2.2.1 kn) ++ (wMo cJ cZ b mce mfr mun mbe men mov msp mwb mwe mwi mac mre mkn mth) ++ (wO o r4.2.2.2.2 ov)) (fun qP qD qF => vx_runSW (As := [.ref (a 0), .int (xs (x4 + 1).toNatClampNeg), .int (xs (x4 + 2).toNatClampNeg), .int (xs (x4 + 3).toNatClampNeg), .ref o]) (rest := []) ⟨hx, hb, hml, hown, hts⟩ (c_L_set l hl9 dC dI cB cI cJ cZ a o _ ce fr un sb se so sc wb we wo wc fb fe fo fc rm ac rf kn on ov (xs (x4 + 1).toNatClampNeg) (xs (x4 + 2).toNatClampNeg) (xs (x4 + 3).toNatClampNeg) r4 g4) (kcwSW hts kw_464 kv_L_set rfl rfl ⟨(Nat.le_of_ble_eq_true rfl), (Nat.le_of_ble_eq_true rfl)⟩) (kpSXq (A := A) qP hK qD hG hZ hS qF) rfl rfl hl.1 rfl (lv_room (Nat.le_of_ble_eq_true rfl)) (kdr dgL_law_248 1 7 rfl rfl) ⟨by show _ ≤ (600128 : Nat); omega, by show _ ≤ (7301098 : Nat); omega⟩) hP hD hS hA (kFr_2 (kFr_l kFr_SB) kFr_o) (fun H locs hP hD hS br4 => ?_)
  refine lv_istore (lv' := (kvI 5 r4.1 (kvA 0 b9 (kvA 1 (a 0) (kvA 2 (b 0) (kvA 3 o (kvI 4 x4 kvE))))))) hx hb (kdr dgL_law_248 1 8 rfl rfl) hl (by decide) rfl (fun ls hl => ?_)
  refine lv_aload_n hx hb (kdr dgL_law_248 1 9 rfl rfl) rfl (lv_at hl 3 rfl) ?_
  refine kld (v := 1) hx hb (kdr dgL_law_248 2 0 rfl rfl) rfl (lv_at hl 1 rfl) (kdr dgL_law_248 2 1 rfl rfl) (lv_at hl 5 rfl) (kdr dgL_law_248 2 2 rfl rfl) (by decide) (kdr dgL_law_248 2 3 rfl rfl) hX hbl hbA hS (ix_in z0) (kdr dgL_law_248 2 4 rfl rfl) ?_
  refine kld (v := 2) hx hb (kdr dgL_law_248 2 5 rfl rfl) rfl (lv_at hl 1 rfl) (kdr dgL_law_248 2 6 rfl rfl) (lv_at hl 5 rfl) (kdr dgL_law_248 2 7 rfl rfl) (by decide) (kdr dgL_law_248 2 8 rfl rfl) hX hbl hbA hS (ix_in z1) (kdr dgL_law_248 2 9 rfl rfl) ?_
  refine kld (v := 3) hx hb (kdr dgL_law_248 3 0 rfl rfl) rfl (lv_at hl 1 rfl) (kdr dgL_law_248 3 1 rfl rfl) (lv_at hl 5 rfl) (kdr dgL_law_248 3 2 rfl rfl) (by decide) (kdr dgL_law_248 3 3 rfl rfl) hX hbl hbA hS (ix_in z2) (kdr dgL_law_248 3 4 rfl rfl) ?_
  obtain ⟨r5, g5, h⟩ := g_b h
  refine kq_i ((wSB cI cJ cZ a r4.2.1 fr un sb se so sc wb we wo wc fb fe fo fc rm r4.2.2.1 r4.2.2.2.1 kn) ++ (wMo cJ cZ b r5.2.1 mfr mun mbe men mov msp mwb mwe mwi r5.2.2.1 r5.2.2.2.1 mkn r5.2.2.2.2) ++ (wO o r4.2.2.2.2 ov)) (fun qP qD qF => va_runV (As := [.int (xs (x4 + 1).toNatClampNeg), .int (xs (x4 + 2).toNatClampNeg), .int (xs (x4 + 3).toNatClampNeg)]) (rest := []) ⟨hx, hb, hml, hown, hts⟩ (c_X3_set l dC dI cB cI cJ cZ b _ mce mfr mun mbe men mov msp mwb mwe mwi mac mre mkn mth (xs (x4 + 1).toNatClampNeg) (xs (x4 + 2).toNatClampNeg) (xs (x4 + 3).toNatClampNeg) r5 g5) (kcwV hts kw_1115 kv_X3_set rfl rfl ⟨(Nat.le_of_ble_eq_true rfl), (Nat.le_of_ble_eq_true rfl)⟩) (kpV (A := A) qP hK qD hG (krecv_5 (q0 := 15) hK hP rfl)) rfl rfl hl.1 rfl (lv_room (Nat.le_of_ble_eq_true rfl)) (kdr dgL_law_248 3 5 rfl rfl) ⟨by show _ ≤ (600128 : Nat); omega, by show _ ≤ (7301098 : Nat); omega⟩) hP hD hS hA (kFr_l (kFr_r kFr_Mo)) (fun H locs hP hD hS br5 => ?_)
  refine lv_istore (lv' := (kvI 6 r5.1 (kvI 5 r4.1 (kvA 0 b9 (kvA 1 (a 0) (kvA 2 (b 0) (kvA 3 o (kvI 4 x4 kvE)))))))) hx hb (kdr dgL_law_248 3 6 rfl rfl) hl (by decide) rfl (fun ls hl => ?_)
  refine lv_goto (tgt := 1845) hx hb (kdr dgL_law_248 3 7 rfl rfl) (by decide) ?_
  exact hK9 r4.2.1 fr un sb se so sc wb we wo wc fb fe fo fc rm r4.2.2.1 r4.2.2.2.1 kn r5.2.1 mfr mun mbe men mov msp mwb mwe mwi r5.2.2.1 r5.2.2.2.1 mkn r5.2.2.2.2 r4.2.2.2.2 ov x4 b _ _ _ _ (by omega) (by omega) hP hD hS ls (lv_sub hl [2, 3, 4, 5, 6] rfl) h
noncomputable def flaw_372 (L : Nat) (xs : Nat → Int32) (K : kFT) (ce : Nat → Int64) (fr : Int64) (un : Int64) (sb : Nat → Int64) (se : Nat → Int64) (so : Nat → Int32) (sc : Int32) (wb : Nat → Int64) (we : Nat → Int64) (wo : Nat → Int32) (wc : Int32) (fb : Nat → Int64) (fe : Nat → Int64) (fo : Nat → Int32) (fc : Int32) (rm : Nat → Int32) (ac : Int32) (rf : Int32) (kn : Int32) (mce : Nat → Int64) (mfr : Int64) (mun : Int64) (mbe : Nat → Int64) (men : Nat → Int64) (mov : Nat → Int32) (msp : Int32) (mwb : Nat → Int64) (mwe : Nat → Int64) (mwi : Int32) (mac : Int32) (mre : Int32) (mkn : Int32) (mth : Int32) (on : Int64) (x4 : Int32) (y0 : Int32) (y1 : Int32) (y2 : Int32) (y3 : Int32) : Option Int32 :=
  (f_X3_go mce mac mre y3 y2 y1 y0).bind fun r1 =>
  K ce fr un sb se so sc wb we wo wc fb fe fo fc rm ac rf kn r1.2.1 mfr mun mbe men mov msp mwb mwe mwi r1.2.2.1 r1.2.2.2.1 mkn r1.2.2.2.2 on x4
theorem flaw_372_e {L : Nat} {xs : Nat → Int32} {K : kFT} (ce : Nat → Int64) (fr : Int64) (un : Int64) (sb : Nat → Int64) (se : Nat → Int64) (so : Nat → Int32) (sc : Int32) (wb : Nat → Int64) (we : Nat → Int64) (wo : Nat → Int32) (wc : Int32) (fb : Nat → Int64) (fe : Nat → Int64) (fo : Nat → Int32) (fc : Int32) (rm : Nat → Int32) (ac : Int32) (rf : Int32) (kn : Int32) (mce : Nat → Int64) (mfr : Int64) (mun : Int64) (mbe : Nat → Int64) (men : Nat → Int64) (mov : Nat → Int32) (msp : Int32) (mwb : Nat → Int64) (mwe : Nat → Int64) (mwi : Int32) (mac : Int32) (mre : Int32) (mkn : Int32) (mth : Int32) (on : Int64) (x4 : Int32) (y0 : Int32) (y1 : Int32) (y2 : Int32) (y3 : Int32) : flaw_372 L xs K ce fr un sb se so sc wb we wo wc fb fe fo fc rm ac rf kn mce mfr mun mbe men mov msp mwb mwe mwi mac mre mkn mth on x4 y0 y1 y2 y3 =
  (f_X3_go mce mac mre y3 y2 y1 y0).bind fun r1 =>
  K ce fr un sb se so sc wb we wo wc fb fe fo fc rm ac rf kn r1.2.1 mfr mun mbe men mov msp mwb mwe mwi r1.2.2.1 r1.2.2.2.1 mkn r1.2.2.2.2 on x4 := rfl
noncomputable def flaw_333 (L : Nat) (xs : Nat → Int32) (K : kFT) (ce : Nat → Int64) (fr : Int64) (un : Int64) (sb : Nat → Int64) (se : Nat → Int64) (so : Nat → Int32) (sc : Int32) (wb : Nat → Int64) (we : Nat → Int64) (wo : Nat → Int32) (wc : Int32) (fb : Nat → Int64) (fe : Nat → Int64) (fo : Nat → Int32) (fc : Int32) (rm : Nat → Int32) (ac : Int32) (rf : Int32) (kn : Int32) (mce : Nat → Int64) (mfr : Int64) (mun : Int64) (mbe : Nat → Int64) (men : Nat → Int64) (mov : Nat → Int32) (msp : Int32) (mwb : Nat → Int64) (mwe : Nat → Int64) (mwi : Int32) (mac : Int32) (mre : Int32) (mkn : Int32) (mth : Int32) (on : Int64) (x4 : Int32) (y0 : Int32) (y1 : Int32) (y2 : Int32) (y3 : Int32) : Option Int32 :=
  (f_L_go ce ac rf on y3 y2 y1 y0).bind fun r1 =>
  if ix (x4 + 1) L then
    if ix (x4 + 2) L then
      if ix (x4 + 3) L then
        if ix (x4 + 4) L then
          if (xs (x4 + 4).toNatClampNeg) = 0 then
            flaw_372 L xs K r1.2.1 fr un sb se so sc wb we wo wc fb fe fo fc rm r1.2.2.1 r1.2.2.2.1 kn mce mfr mun mbe men mov msp mwb mwe mwi mac mre mkn mth r1.2.2.2.2 x4 0 (xs (x4 + 3).toNatClampNeg) (xs (x4 + 2).toNatClampNeg) (xs (x4 + 1).toNatClampNeg)
          else
            flaw_372 L xs K r1.2.1 fr un sb se so sc wb we wo wc fb fe fo fc rm r1.2.2.1 r1.2.2.2.1 kn mce mfr mun mbe men mov msp mwb mwe mwi mac mre mkn mth r1.2.2.2.2 x4 1 (xs (x4 + 3).toNatClampNeg) (xs (x4 + 2).toNatClampNeg) (xs (x4 + 1).toNatClampNeg)
        else none
      else none
    else none
  else none
theorem flaw_333_e {L : Nat} {xs : Nat → Int32} {K : kFT} (ce : Nat → Int64) (fr : Int64) (un : Int64) (sb : Nat → Int64) (se : Nat → Int64) (so : Nat → Int32) (sc : Int32) (wb : Nat → Int64) (we : Nat → Int64) (wo : Nat → Int32) (wc : Int32) (fb : Nat → Int64) (fe : Nat → Int64) (fo : Nat → Int32) (fc : Int32) (rm : Nat → Int32) (ac : Int32) (rf : Int32) (kn : Int32) (mce : Nat → Int64) (mfr : Int64) (mun : Int64) (mbe : Nat → Int64) (men : Nat → Int64) (mov : Nat → Int32) (msp : Int32) (mwb : Nat → Int64) (mwe : Nat → Int64) (mwi : Int32) (mac : Int32) (mre : Int32) (mkn : Int32) (mth : Int32) (on : Int64) (x4 : Int32) (y0 : Int32) (y1 : Int32) (y2 : Int32) (y3 : Int32) : flaw_333 L xs K ce fr un sb se so sc wb we wo wc fb fe fo fc rm ac rf kn mce mfr mun mbe men mov msp mwb mwe mwi mac mre mkn mth on x4 y0 y1 y2 y3 =
  (f_L_go ce ac rf on y3 y2 y1 y0).bind fun r1 =>
  if ix (x4 + 1) L then
    if ix (x4 + 2) L then
      if ix (x4 + 3) L then
        if ix (x4 + 4) L then
          if (xs (x4 + 4).toNatClampNeg) = 0 then
            flaw_372 L xs K r1.2.1 fr un sb se so sc wb we wo wc fb fe fo fc rm r1.2.2.1 r1.2.2.2.1 kn mce mfr mun mbe men mov msp mwb mwe mwi mac mre mkn mth r1.2.2.2.2 x4 0 (xs (x4 + 3).toNatClampNeg) (xs (x4 + 2).toNatClampNeg) (xs (x4 + 1).toNatClampNeg)
          else
            flaw_372 L xs K r1.2.1 fr un sb se so sc wb we wo wc fb fe fo fc rm r1.2.2.1 r1.2.2.2.1 kn mce mfr mun mbe men mov msp mwb mwe mwi mac mre mkn mth r1.2.2.2.2 x4 1 (xs (x4 + 3).toNatClampNeg) (xs (x4 + 2).toNatClampNeg) (xs (x4 + 1).toNatClampNeg)
        else none
      else none
    else none
  else none := rfl
noncomputable def flaw_300 (L : Nat) (xs : Nat → Int32) (K : kFT) (ce : Nat → Int64) (fr : Int64) (un : Int64) (sb : Nat → Int64) (se : Nat → Int64) (so : Nat → Int32) (sc : Int32) (wb : Nat → Int64) (we : Nat → Int64) (wo : Nat → Int32) (wc : Int32) (fb : Nat → Int64) (fe : Nat → Int64) (fo : Nat → Int32) (fc : Int32) (rm : Nat → Int32) (ac : Int32) (rf : Int32) (kn : Int32) (mce : Nat → Int64) (mfr : Int64) (mun : Int64) (mbe : Nat → Int64) (men : Nat → Int64) (mov : Nat → Int32) (msp : Int32) (mwb : Nat → Int64) (mwe : Nat → Int64) (mwi : Int32) (mac : Int32) (mre : Int32) (mkn : Int32) (mth : Int32) (on : Int64) (x4 : Int32) : Option Int32 :=
  if ix (x4 + 1) L then
    if ix (x4 + 2) L then
      if ix (x4 + 3) L then
        if ix (x4 + 4) L then
          if (xs (x4 + 4).toNatClampNeg) = 0 then
            flaw_333 L xs K ce fr un sb se so sc wb we wo wc fb fe fo fc rm ac rf kn mce mfr mun mbe men mov msp mwb mwe mwi mac mre mkn mth on x4 0 (xs (x4 + 3).toNatClampNeg) (xs (x4 + 2).toNatClampNeg) (xs (x4 + 1).toNatClampNeg)
          else
            flaw_333 L xs K ce fr un sb se so sc wb we wo wc fb fe fo fc rm ac rf kn mce mfr mun mbe men mov msp mwb mwe mwi mac mre mkn mth on x4 1 (xs (x4 + 3).toNatClampNeg) (xs (x4 + 2).toNatClampNeg) (xs (x4 + 1).toNatClampNeg)
        else none
      else none
    else none
  else none
theorem flaw_300_e {L : Nat} {xs : Nat → Int32} {K : kFT} (ce : Nat → Int64) (fr : Int64) (un : Int64) (sb : Nat → Int64) (se : Nat → Int64) (so : Nat → Int32) (sc : Int32) (wb : Nat → Int64) (we : Nat → Int64) (wo : Nat → Int32) (wc : Int32) (fb : Nat → Int64) (fe : Nat → Int64) (fo : Nat → Int32) (fc : Int32) (rm : Nat → Int32) (ac : Int32) (rf : Int32) (kn : Int32) (mce : Nat → Int64) (mfr : Int64) (mun : Int64) (mbe : Nat → Int64) (men : Nat → Int64) (mov : Nat → Int32) (msp : Int32) (mwb : Nat → Int64) (mwe : Nat → Int64) (mwi : Int32) (mac : Int32) (mre : Int32) (mkn : Int32) (mth : Int32) (on : Int64) (x4 : Int32) : flaw_300 L xs K ce fr un sb se so sc wb we wo wc fb fe fo fc rm ac rf kn mce mfr mun mbe men mov msp mwb mwe mwi mac mre mkn mth on x4 =
  if ix (x4 + 1) L then
    if ix (x4 + 2) L then
      if ix (x4 + 3) L then
        if ix (x4 + 4) L then
          if (xs (x4 + 4).toNatClampNeg) = 0 then
            flaw_333 L xs K ce fr un sb se so sc wb we wo wc fb fe fo fc rm ac rf kn mce mfr mun mbe men mov msp mwb mwe mwi mac mre mkn mth on x4 0 (xs (x4 + 3).toNatClampNeg) (xs (x4 + 2).toNatClampNeg) (xs (x4 + 1).toNatClampNeg)
          else
            flaw_333 L xs K ce fr un sb se so sc wb we wo wc fb fe fo fc rm ac rf kn mce mfr mun mbe men mov msp mwb mwe mwi mac mre mkn mth on x4 1 (xs (x4 + 3).toNatClampNeg) (xs (x4 + 2).toNatClampNeg) (xs (x4 + 1).toNatClampNeg)
        else none
      else none
    else none
  else none := rfl
set_option maxHeartbeats 8000000 in
set_option maxRecDepth 100000 in
theorem law_1 {p : Program} {l : Launch} {e : Env} {s : State} {m : MethodId} {below : List Frame} {meth : Method} {c : Code} {dC : Nat → ClassId} {dI : Nat → Nat → Nat} {cB cI cJ cZ : ClassId} {b9 L : Nat} {xs : Nat → Int32} {A : Nat → Prop} (hl9 : l.stackTraces = false) (C0 : kLw p s m c b9 L xs A) (hK : va_K (dC, dI) vwCl (kTy cB cI cJ cZ) s) {a : Nat → Nat} {o : Nat} (K : kFT) (bK sK : Nat) (hK9 : kGo p l e s m below meth c dC dI cB cI cJ cZ b9 A a o 1845 bK sK K) : kGo p l e s m below meth c dC dI cB cI cJ cZ b9 A a o 300 (1 + bK) (6 + sK) (flaw_300 L xs K) := by
  obtain ⟨hx, hb, hml, hown, hts, hX, hbl, hA, hbA, hG, hZ⟩ := C0
  have J372 : ∀ (ce : Nat → Int64) (fr : Int64) (un : Int64) (sb : Nat → Int64) (se : Nat → Int64) (so : Nat → Int32) (sc : Int32) (wb : Nat → Int64) (we : Nat → Int64) (wo : Nat → Int32) (wc : Int32) (fb : Nat → Int64) (fe : Nat → Int64) (fo : Nat → Int32) (fc : Int32) (rm : Nat → Int32) (ac : Int32) (rf : Int32) (kn : Int32) (mce : Nat → Int64) (mfr : Int64) (mun : Int64) (mbe : Nat → Int64) (men : Nat → Int64) (mov : Nat → Int32) (msp : Int32) (mwb : Nat → Int64) (mwe : Nat → Int64) (mwi : Int32) (mac : Int32) (mre : Int32) (mkn : Int32) (mth : Int32) (on : Int64) (ov : Value) (x4 : Int32) (y0 : Int32) (y1 : Int32) (y2 : Int32) (y3 : Int32) (b : Nat → Nat) (H : Heap) (locs : List Loc) (kc ks : Nat), kc + (0 + bK) ≤ 600128 → ks + (0 + sK) ≤ 7301098 → va_P (dC, dI) vwCl ((wSB cI cJ cZ a ce fr un sb se so sc wb we wo wc fb fe fo fc rm ac rf kn) ++ (wMo cJ cZ b mce mfr mun mbe men mov msp mwb mwe mwi mac mre mkn mth) ++ (wO o on ov)) H → va_D A ((wSB cI cJ cZ a ce fr un sb se so sc wb we wo wc fb fe fo fc rm ac rf kn) ++ (wMo cJ cZ b mce mfr mun mbe men mov msp mwb mwe mwi mac mre mkn mth) ++ (wO o on ov)) → va_S A s.heap H locs → ∀ (ls : Array Slot), lv_has ls 7 (kvA 0 b9 (kvA 1 (a 0) (kvA 2 (b 0) (kvA 3 o (kvI 4 x4 kvE))))) → flaw_372 L xs K ce fr un sb se so sc wb we wo wc fb fe fo fc rm ac rf kn mce mfr mun mbe men mov msp mwb mwe mwi mac mre mkn mth on x4 y0 y1 y2 y3 = some 1 → W p l e room_1 s m #[Value.ref b9] below meth c H locs kc ks (lw_Z below #[Value.ref b9] s) (F0 m 372 ls [.int y0, .int y1, .int y2, .int y3, .ref (b 0)]) := by
    intro ce fr un sb se so sc wb we wo wc fb fe fo fc rm ac rf kn mce mfr mun mbe men mov msp mwb mwe mwi mac mre mkn mth on ov x4 y0 y1 y2 y3 b H locs kc ks hkc hks hP hD hS ls hl h
    have h := (flaw_372_e ce fr un sb se so sc wb we wo wc fb fe fo fc rm ac rf kn mce mfr mun mbe men mov msp mwb mwe mwi mac mre mkn mth on x4 y0 y1 y2 y3).symm.trans h
    obtain ⟨r1, g1, h⟩ := g_b h
    refine kq_i ((wSB cI cJ cZ a ce fr un sb se so sc wb we wo wc fb fe fo fc rm ac rf kn) ++ (wMo cJ cZ b r1.2.1 mfr mun mbe men mov msp mwb mwe mwi r1.2.2.1 r1.2.2.2.1 mkn r1.2.2.2.2) ++ (wO o on ov)) (fun qP qD qF => va_runV (As := [.int y3, .int y2, .int y1, .int y0]) (rest := []) ⟨hx, hb, hml, hown, hts⟩ (c_X3_go l dC dI cB cI cJ cZ b _ mce mfr mun mbe men mov msp mwb mwe mwi mac mre mkn mth y3 y2 y1 y0 r1 g1) (kcwV hts kw_1148 kv_X3_go rfl rfl ⟨(Nat.le_of_ble_eq_true rfl), (Nat.le_of_ble_eq_true rfl)⟩) (kpV (A := A) qP hK qD hG (krecv_5 (q0 := 15) hK hP rfl)) rfl rfl hl.1 rfl (lv_room (Nat.le_of_ble_eq_true rfl)) (kdr dgL_law_248 9 1 rfl rfl) ⟨by show _ ≤ (600128 : Nat); omega, by show _ ≤ (7301098 : Nat); omega⟩) hP hD hS hA (kFr_l (kFr_r kFr_Mo)) (fun H locs hP hD hS br1 => ?_)
    refine lv_istore (lv' := (kvI 6 r1.1 (kvA 0 b9 (kvA 1 (a 0) (kvA 2 (b 0) (kvA 3 o (kvI 4 x4 kvE))))))) hx hb (kdr dgL_law_248 9 2 rfl rfl) hl (by decide) rfl (fun ls hl => ?_)
    refine lv_goto (tgt := 1845) hx hb (kdr dgL_law_248 9 3 rfl rfl) (by decide) ?_
    exact hK9 ce fr un sb se so sc wb we wo wc fb fe fo fc rm ac rf kn r1.2.1 mfr mun mbe men mov msp mwb mwe mwi r1.2.2.1 r1.2.2.2.1 mkn r1.2.2.2.2 on ov x4 b _ _ _ _ (by omega) (by omega) hP hD hS ls (lv_sub hl [1, 2, 3, 4, 5] rfl) h
  have J333 : ∀ (ce : Nat → Int64) (fr : Int64) (un : Int64) (sb : Nat → Int64) (se : Nat → Int64) (so : Nat → Int32) (sc : Int32) (wb : Nat → Int64) (we : Nat → Int64) (wo : Nat → Int32) (wc : Int32) (fb : Nat → Int64) (fe : Nat → Int64) (fo : Nat → Int32) (fc : Int32) (rm : Nat → Int32) (ac : Int32) (rf : Int32) (kn : Int32) (mce : Nat → Int64) (mfr : Int64) (mun : Int64) (mbe : Nat → Int64) (men : Nat → Int64) (mov : Nat → Int32) (msp : Int32) (mwb : Nat → Int64) (mwe : Nat → Int64) (mwi : Int32) (mac : Int32) (mre : Int32) (mkn : Int32) (mth : Int32) (on : Int64) (ov : Value) (x4 : Int32) (y0 : Int32) (y1 : Int32) (y2 : Int32) (y3 : Int32) (b : Nat → Nat) (H : Heap) (locs : List Loc) (kc ks : Nat), kc + (1 + bK) ≤ 600128 → ks + (6 + sK) ≤ 7301098 → va_P (dC, dI) vwCl ((wSB cI cJ cZ a ce fr un sb se so sc wb we wo wc fb fe fo fc rm ac rf kn) ++ (wMo cJ cZ b mce mfr mun mbe men mov msp mwb mwe mwi mac mre mkn mth) ++ (wO o on ov)) H → va_D A ((wSB cI cJ cZ a ce fr un sb se so sc wb we wo wc fb fe fo fc rm ac rf kn) ++ (wMo cJ cZ b mce mfr mun mbe men mov msp mwb mwe mwi mac mre mkn mth) ++ (wO o on ov)) → va_S A s.heap H locs → ∀ (ls : Array Slot), lv_has ls 7 (kvA 0 b9 (kvA 1 (a 0) (kvA 2 (b 0) (kvA 3 o (kvI 4 x4 kvE))))) → flaw_333 L xs K ce fr un sb se so sc wb we wo wc fb fe fo fc rm ac rf kn mce mfr mun mbe men mov msp mwb mwe mwi mac mre mkn mth on x4 y0 y1 y2 y3 = some 1 → W p l e room_1 s m #[Value.ref b9] below meth c H locs kc ks (lw_Z below #[Value.ref b9] s) (F0 m 333 ls [.int y0, .int y1, .int y2, .int y3, .ref (a 0)]) := by
    intro ce fr un sb se so sc wb we wo wc fb fe fo fc rm ac rf kn mce mfr mun mbe men mov msp mwb mwe mwi mac mre mkn mth on ov x4 y0 y1 y2 y3 b H locs kc ks hkc hks hP hD hS ls hl h
    have h := (flaw_333_e ce fr un sb se so sc wb we wo wc fb fe fo fc rm ac rf kn mce mfr mun mbe men mov msp mwb mwe mwi mac mre mkn mth on x4 y0 y1 y2 y3).symm.trans h
    refine lv_aload_n hx hb (kdr dgL_law_248 6 3 rfl rfl) rfl (lv_at hl 3 rfl) ?_
    obtain ⟨r1, g1, h⟩ := g_b h
    refine kq_i ((wSB cI cJ cZ a r1.2.1 fr un sb se so sc wb we wo wc fb fe fo fc rm r1.2.2.1 r1.2.2.2.1 kn) ++ (wMo cJ cZ b mce mfr mun mbe men mov msp mwb mwe mwi mac mre mkn mth) ++ (wO o r1.2.2.2.2 ov)) (fun qP qD qF => vx_runSW (As := [.ref (a 0), .int y3, .int y2, .int y1, .int y0, .ref o]) (rest := []) ⟨hx, hb, hml, hown, hts⟩ (c_L_go l hl9 dC dI cB cI cJ cZ a o _ ce fr un sb se so sc wb we wo wc fb fe fo fc rm ac rf kn on ov y3 y2 y1 y0 r1 g1) (kcwSW hts kw_505 kv_L_go rfl rfl ⟨(Nat.le_of_ble_eq_true rfl), (Nat.le_of_ble_eq_true rfl)⟩) (kpSXq (A := A) qP hK qD hG hZ hS qF) rfl rfl hl.1 rfl (lv_room (Nat.le_of_ble_eq_true rfl)) (kdr dgL_law_248 6 4 rfl rfl) ⟨by show _ ≤ (600128 : Nat); omega, by show _ ≤ (7301098 : Nat); omega⟩) hP hD hS hA (kFr_2 (kFr_l kFr_SB) kFr_o) (fun H locs hP hD hS br1 => ?_)
    refine lv_istore (lv' := (kvI 5 r1.1 (kvA 0 b9 (kvA 1 (a 0) (kvA 2 (b 0) (kvA 3 o (kvI 4 x4 kvE))))))) hx hb (kdr dgL_law_248 6 5 rfl rfl) hl (by decide) rfl (fun ls hl => ?_)
    refine lv_aload_n hx hb (kdr dgL_law_248 6 6 rfl rfl) rfl (lv_at hl 3 rfl) ?_
    obtain ⟨z1, h⟩ := g_if h
    refine kld (v := 1) hx hb (kdr dgL_law_248 6 7 rfl rfl) rfl (lv_at hl 1 rfl) (kdr dgL_law_248 6 8 rfl rfl) (lv_at hl 5 rfl) (kdr dgL_law_248 6 9 rfl rfl) (by decide) (kdr dgL_law_248 7 0 rfl rfl) hX hbl hbA hS (ix_in z1) (kdr dgL_law_248 7 1 rfl rfl) ?_
    obtain ⟨z2, h⟩ := g_if h
    refine kld (v := 2) hx hb (kdr dgL_law_248 7 2 rfl rfl) rfl (lv_at hl 1 rfl) (kdr dgL_law_248 7 3 rfl rfl) (lv_at hl 5 rfl) (kdr dgL_law_248 7 4 rfl rfl) (by decide) (kdr dgL_law_248 7 5 rfl rfl) hX hbl hbA hS (ix_in z2) (kdr dgL_law_248 7 6 rfl rfl) ?_
    obtain ⟨z3, h⟩ := g_if h
    refine kld (v := 3) hx hb (kdr dgL_law_248 7 7 rfl rfl) rfl (lv_at hl 1 rfl) (kdr dgL_law_248 7 8 rfl rfl) (lv_at hl 5 rfl) (kdr dgL_law_248 7 9 rfl rfl) (by decide) (kdr dgL_law_248 8 0 rfl rfl) hX hbl hbA hS (ix_in z3) (kdr dgL_law_248 8 1 rfl rfl) ?_
    obtain ⟨z4, h⟩ := g_if h
    refine kld (v := 4) hx hb (kdr dgL_law_248 8 2 rfl rfl) rfl (lv_at hl 1 rfl) (kdr dgL_law_248 8 3 rfl rfl) (lv_at hl 5 rfl) (kdr dgL_law_248 8 4 rfl rfl) (by decide) (kdr dgL_law_248 8 5 rfl rfl) hX hbl hbA hS (ix_in z4) (kdr dgL_law_248 8 6 rfl rfl) ?_
    refine lv_if_eq (tgt := 371) hx hb (kdr dgL_law_248 8 7 rfl rfl) (by decide) (fun c6 => ?_) (fun c6 => ?_)
    · have h := g_t c6 h
      refine lv_iconst (v := 0) hx hb (kdr dgL_law_248 9 0 rfl rfl) (by decide) ?_
      exact J372 r1.2.1 fr un sb se so sc wb we wo wc fb fe fo fc rm r1.2.2.1 r1.2.2.2.1 kn mce mfr mun mbe men mov msp mwb mwe mwi mac mre mkn mth r1.2.2.2.2 ov x4 0 (xs (x4 + 3).toNatClampNeg) (xs (x4 + 2).toNatClampNeg) (xs (x4 + 1).toNatClampNeg) b _ _ _ _ (by omega) (by omega) hP hD hS ls (lv_sub hl [1, 2, 3, 4, 5] rfl) h
    · have h := g_f c6 h
      refine lv_iconst (v := 1) hx hb (kdr dgL_law_248 8 8 rfl rfl) (by decide) ?_
      refine lv_goto (tgt := 372) hx hb (kdr dgL_law_248 8 9 rfl rfl) (by decide) ?_
      exact J372 r1.2.1 fr un sb se so sc wb we wo wc fb fe fo fc rm r1.2.2.1 r1.2.2.2.1 kn mce mfr mun mbe men mov msp mwb mwe mwi mac mre mkn mth r1.2.2.2.2 ov x4 1 (xs (x4 + 3).toNatClampNeg) (xs (x4 + 2).toNatClampNeg) (xs (x4 + 1).toNatClampNeg) b _ _ _ _ (by omega) (by omega) hP hD hS ls (lv_sub hl [1, 2, 3, 4, 5] rfl) h
  intro ce fr un sb se so sc wb we wo wc fb fe fo fc rm ac rf kn mce mfr mun mbe men mov msp mwb mwe mwi mac mre mkn mth on ov x4 b H locs kc ks hkc hks hP hD hS ls hl h
  have h := (flaw_300_e ce fr un sb se so sc wb we wo wc fb fe fo fc rm ac rf kn mce mfr mun mbe men mov msp mwb mwe mwi mac mre mkn mth on x4).symm.trans h
  refine lv_aload_n hx hb (kdr dgL_law_248 3 8 rfl rfl) rfl (lv_at hl 1 rfl) ?_
  obtain ⟨z0, h⟩ := g_if h
  refine kld (v := 1) hx hb (kdr dgL_law_248 3 9 rfl rfl) rfl (lv_at hl 0 rfl) (kdr dgL_law_248 4 0 rfl rfl) (lv_at hl 4 rfl) (kdr dgL_law_248 4 1 rfl rfl) (by decide) (kdr dgL_law_248 4 2 rfl rfl) hX hbl hbA hS (ix_in z0) (kdr dgL_law_248 4 3 rfl rfl) ?_
  obtain ⟨z1, h⟩ := g_if h
  refine kld (v := 2) hx hb (kdr dgL_law_248 4 4 rfl rfl) rfl (lv_at hl 0 rfl) (kdr dgL_law_248 4 5 rfl rfl) (lv_at hl 4 rfl) (kdr dgL_law_248 4 6 rfl rfl) (by decide) (kdr dgL_law_248 4 7 rfl rfl) hX hbl hbA hS (ix_in z1) (kdr dgL_law_248 4 8 rfl rfl) ?_
  obtain ⟨z2, h⟩ := g_if h
  refine kld (v := 3) hx hb (kdr dgL_law_248 4 9 rfl rfl) rfl (lv_at hl 0 rfl) (kdr dgL_law_248 5 0 rfl rfl) (lv_at hl 4 rfl) (kdr dgL_law_248 5 1 rfl rfl) (by decide) (kdr dgL_law_248 5 2 rfl rfl) hX hbl hbA hS (ix_in z2) (kdr dgL_law_248 5 3 rfl rfl) ?_
  obtain ⟨z3, h⟩ := g_if h
  refine kld (v := 4) hx hb (kdr dgL_law_248 5 4 rfl rfl) rfl (lv_at hl 0 rfl) (kdr dgL_law_248 5 5 rfl rfl) (lv_at hl 4 rfl) (kdr dgL_law_248 5 6 rfl rfl) (by decide) (kdr dgL_law_248 5 7 rfl rfl) hX hbl hbA hS (ix_in z3) (kdr dgL_law_248 5 8 rfl rfl) ?_
  refine lv_if_eq (tgt := 332) hx hb (kdr dgL_law_248 5 9 rfl rfl) (by decide) (fun c5 => ?_) (fun c5 => ?_)
  · have h := g_t c5 h
    refine lv_iconst (v := 0) hx hb (kdr dgL_law_248 6 2 rfl rfl) (by decide) ?_
    exact J333 ce fr un sb se so sc wb we wo wc fb fe fo fc rm ac rf kn mce mfr mun mbe men mov msp mwb mwe mwi mac mre mkn mth on ov x4 0 (xs (x4 + 3).toNatClampNeg) (xs (x4 + 2).toNatClampNeg) (xs (x4 + 1).toNatClampNeg) b _ _ _ _ (by omega) (by omega) hP hD hS ls (lv_sub hl [0, 1, 2, 3, 4] rfl) h
  · have h := g_f c5 h
    refine lv_iconst (v := 1) hx hb (kdr dgL_law_248 6 0 rfl rfl) (by decide) ?_
    refine lv_goto (tgt := 333) hx hb (kdr dgL_law_248 6 1 rfl rfl) (by decide) ?_
    exact J333 ce fr un sb se so sc wb we wo wc fb fe fo fc rm ac rf kn mce mfr mun mbe men mov msp mwb mwe mwi mac mre mkn mth on ov x4 1 (xs (x4 + 3).toNatClampNeg) (xs (x4 + 2).toNatClampNeg) (xs (x4 + 1).toNatClampNeg) b _ _ _ _ (by omega) (by omega) hP hD hS ls (lv_sub hl [0, 1, 2, 3, 4] rfl) h
noncomputable def flaw_380 (L : Nat) (xs : Nat → Int32) (K : kFT) (ce : Nat → Int64) (fr : Int64) (un : Int64) (sb : Nat → Int64) (se : Nat → Int64) (so : Nat → Int32) (sc : Int32) (wb : Nat → Int64) (we : Nat → Int64) (wo : Nat → Int32) (wc : Int32) (fb : Nat → Int64) (fe : Nat → Int64) (fo : Nat → Int32) (fc : Int32) (rm : Nat → Int32) (ac : Int32) (rf : Int32) (kn : Int32) (mce : Nat → Int64) (mfr : Int64) (mun : Int64) (mbe : Nat → Int64) (men : Nat → Int64) (mov : Nat → Int32) (msp : Int32) (mwb : Nat → Int64) (mwe : Nat → Int64) (mwi : Int32) (mac : Int32) (mre : Int32) (mkn : Int32) (mth : Int32) (on : Int64) (x4 : Int32) : Option Int32 :=
  if ix (x4 + 1) L then
    if ix (x4 + 2) L then
      (f_L_copy ce ac on (xs (x4 + 1).toNatClampNeg) (xs (x4 + 2).toNatClampNeg)).bind fun r3 =>
      (f_X3_copy mce mac (xs (x4 + 1).toNatClampNeg) (xs (x4 + 2).toNatClampNeg)).bind fun r4 =>
      K r3.2.1 fr un sb se so sc wb we wo wc fb fe fo fc rm r3.2.2.1 rf kn r4.2.1 mfr mun mbe men mov msp mwb mwe mwi r4.2.2.1 mre mkn r4.2.2.2 r3.2.2.2 x4
    else none
  else none
theorem flaw_380_e {L : Nat} {xs : Nat → Int32} {K : kFT} (ce : Nat → Int64) (fr : Int64) (un : Int64) (sb : Nat → Int64) (se : Nat → Int64) (so : Nat → Int32) (sc : Int32) (wb : Nat → Int64) (we : Nat → Int64) (wo : Nat → Int32) (wc : Int32) (fb : Nat → Int64) (fe : Nat → Int64) (fo : Nat → Int32) (fc : Int32) (rm : Nat → Int32) (ac : Int32) (rf : Int32) (kn : Int32) (mce : Nat → Int64) (mfr : Int64) (mun : Int64) (mbe : Nat → Int64) (men : Nat → Int64) (mov : Nat → Int32) (msp : Int32) (mwb : Nat → Int64) (mwe : Nat → Int64) (mwi : Int32) (mac : Int32) (mre : Int32) (mkn : Int32) (mth : Int32) (on : Int64) (x4 : Int32) : flaw_380 L xs K ce fr un sb se so sc wb we wo wc fb fe fo fc rm ac rf kn mce mfr mun mbe men mov msp mwb mwe mwi mac mre mkn mth on x4 =
  if ix (x4 + 1) L then
    if ix (x4 + 2) L then
      (f_L_copy ce ac on (xs (x4 + 1).toNatClampNeg) (xs (x4 + 2).toNatClampNeg)).bind fun r3 =>
      (f_X3_copy mce mac (xs (x4 + 1).toNatClampNeg) (xs (x4 + 2).toNatClampNeg)).bind fun r4 =>
      K r3.2.1 fr un sb se so sc wb we wo wc fb fe fo fc rm r3.2.2.1 rf kn r4.2.1 mfr mun mbe men mov msp mwb mwe mwi r4.2.2.1 mre mkn r4.2.2.2 r3.2.2.2 x4
    else none
  else none := rfl
set_option maxHeartbeats 8000000 in
set_option maxRecDepth 100000 in
theorem law_2 {p : Program} {l : Launch} {e : Env} {s : State} {m : MethodId} {below : List Frame} {meth : Method} {c : Code} {dC : Nat → ClassId} {dI : Nat → Nat → Nat} {cB cI cJ cZ : ClassId} {b9 L : Nat} {xs : Nat → Int32} {A : Nat → Prop} (hl9 : l.stackTraces = false) (C0 : kLw p s m c b9 L xs A) (hK : va_K (dC, dI) vwCl (kTy cB cI cJ cZ) s) {a : Nat → Nat} {o : Nat} (K : kFT) (bK sK : Nat) (hK9 : kGo p l e s m below meth c dC dI cB cI cJ cZ b9 A a o 1845 bK sK K) : kGo p l e s m below meth c dC dI cB cI cJ cZ b9 A a o 380 (1 + bK) (6 + sK) (flaw_380 L xs K) := by
  obtain ⟨hx, hb, hml, hown, hts, hX, hbl, hA, hbA, hG, hZ⟩ := C0
  intro ce fr un sb se so sc wb we wo wc fb fe fo fc rm ac rf kn mce mfr mun mbe men mov msp mwb mwe mwi mac mre mkn mth on ov x4 b H locs kc ks hkc hks hP hD hS ls hl h
  have h := (flaw_380_e ce fr un sb se so sc wb we wo wc fb fe fo fc rm ac rf kn mce mfr mun mbe men mov msp mwb mwe mwi mac mre mkn mth on x4).symm.trans h
  refine lv_aload_n hx hb (kdr dgL_law_248 9 4 rfl rfl) rfl (lv_at hl 1 rfl) ?_
  obtain ⟨z0, h⟩ := g_if h
  refine kld (v := 1) hx hb (kdr dgL_law_248 9 5 rfl rfl) rfl (lv_at hl 0 rfl) (kdr dgL_law_248 9 6 rfl rfl) (lv_at hl 4 rfl) (kdr dgL_law_248 9 7 rfl rfl) (by decide) (kdr dgL_law_248 9 8 rfl rfl) hX hbl hbA hS (ix_in z0) (kdr dgL_law_248 9 9 rfl rfl) ?_
  obtain ⟨z1, h⟩ := g_if h
  refine kld (v := 2) hx hb (kdr dgL_law_387 0 0 rfl rfl) rfl (lv_at hl 0 rfl) (kdr dgL_law_387 0 1 rfl rfl) (lv_at hl 4 rfl) (kdr dgL_law_387 0 2 rfl rfl) (by decide) (kdr dgL_law_387 0 3 rfl rfl) hX hbl hbA hS (ix_in z1) (kdr dgL_law_387 0 4 rfl rfl) ?_
  refine lv_aload_n hx hb (kdr dgL_law_387 0 5 rfl rfl) rfl (lv_at hl 3 rfl) ?_
  obtain ⟨r3, g3, h⟩ := g_b h
  refine kq_i ((wSB cI cJ cZ a r3.2.1 fr un sb se so sc wb we wo wc fb fe fo fc rm r3.2.2.1 rf kn) ++ (wMo cJ cZ b mce mfr mun mbe men mov msp mwb mwe mwi mac mre mkn mth) ++ (wO o r3.2.2.2 ov)) (fun qP qD qF => vx_runSW (As := [.ref (a 0), .int (xs (x4 + 1).toNatClampNeg), .int (xs (x4 + 2).toNatClampNeg), .ref o]) (rest := []) ⟨hx, hb, hml, hown, hts⟩ (c_L_copy l hl9 dC dI cB cI cJ cZ a o _ ce fr un sb se so sc wb we wo wc fb fe fo fc rm ac rf kn on ov (xs (x4 + 1).toNatClampNeg) (xs (x4 + 2).toNatClampNeg) r3 g3) (kcwSW hts kw_522 kv_L_copy rfl rfl ⟨(Nat.le_of_ble_eq_true rfl), (Nat.le_of_ble_eq_true rfl)⟩) (kpSXq (A := A) qP hK qD hG hZ hS qF) rfl rfl hl.1 rfl (lv_room (Nat.le_of_ble_eq_true rfl)) (kdr dgL_law_387 0 6 rfl rfl) ⟨by show _ ≤ (600128 : Nat); omega, by show _ ≤ (7301098 : Nat); omega⟩) hP hD hS hA (kFr_2 (kFr_l kFr_SB) kFr_o) (fun H locs hP hD hS br3 => ?_)
  refine lv_istore (lv' := (kvI 5 r3.1 (kvA 0 b9 (kvA 1 (a 0) (kvA 2 (b 0) (kvA 3 o (kvI 4 x4 kvE))))))) hx hb (kdr dgL_law_387 0 7 rfl rfl) hl (by decide) rfl (fun ls hl => ?_)
  refine lv_aload_n hx hb (kdr dgL_law_387 0 8 rfl rfl) rfl (lv_at hl 3 rfl) ?_
  refine kld (v := 1) hx hb (kdr dgL_law_387 0 9 rfl rfl) rfl (lv_at hl 1 rfl) (kdr dgL_law_387 1 0 rfl rfl) (lv_at hl 5 rfl) (kdr dgL_law_387 1 1 rfl rfl) (by decide) (kdr dgL_law_387 1 2 rfl rfl) hX hbl hbA hS (ix_in z0) (kdr dgL_law_387 1 3 rfl rfl) ?_
  refine kld (v := 2) hx hb (kdr dgL_law_387 1 4 rfl rfl) rfl (lv_at hl 1 rfl) (kdr dgL_law_387 1 5 rfl rfl) (lv_at hl 5 rfl) (kdr dgL_law_387 1 6 rfl rfl) (by decide) (kdr dgL_law_387 1 7 rfl rfl) hX hbl hbA hS (ix_in z1) (kdr dgL_law_387 1 8 rfl rfl) ?_
  obtain ⟨r4, g4, h⟩ := g_b h
  refine kq_i ((wSB cI cJ cZ a r3.2.1 fr un sb se so sc wb we wo wc fb fe fo fc rm r3.2.2.1 rf kn) ++ (wMo cJ cZ b r4.2.1 mfr mun mbe men mov msp mwb mwe mwi r4.2.2.1 mre mkn r4.2.2.2) ++ (wO o r3.2.2.2 ov)) (fun qP qD qF => va_runV (As := [.int (xs (x4 + 1).toNatClampNeg), .int (xs (x4 + 2).toNatClampNeg)]) (rest := []) ⟨hx, hb, hml, hown, hts⟩ (c_X3_copy l dC dI cB cI cJ cZ b _ mce mfr mun mbe men mov msp mwb mwe mwi mac mre mkn mth (xs (x4 + 1).toNatClampNeg) (xs (x4 + 2).toNatClampNeg) r4 g4) (kcwV hts kw_1162 kv_X3_copy rfl rfl ⟨(Nat.le_of_ble_eq_true rfl), (Nat.le_of_ble_eq_true rfl)⟩) (kpV (A := A) qP hK qD hG (krecv_5 (q0 := 15) hK hP rfl)) rfl rfl hl.1 rfl (lv_room (Nat.le_of_ble_eq_true rfl)) (kdr dgL_law_387 1 9 rfl rfl) ⟨by show _ ≤ (600128 : Nat); omega, by show _ ≤ (7301098 : Nat); omega⟩) hP hD hS hA (kFr_l (kFr_r kFr_Mo)) (fun H locs hP hD hS br4 => ?_)
  refine lv_istore (lv' := (kvI 6 r4.1 (kvI 5 r3.1 (kvA 0 b9 (kvA 1 (a 0) (kvA 2 (b 0) (kvA 3 o (kvI 4 x4 kvE)))))))) hx hb (kdr dgL_law_387 2 0 rfl rfl) hl (by decide) rfl (fun ls hl => ?_)
  refine lv_goto (tgt := 1845) hx hb (kdr dgL_law_387 2 1 rfl rfl) (by decide) ?_
  exact hK9 r3.2.1 fr un sb se so sc wb we wo wc fb fe fo fc rm r3.2.2.1 rf kn r4.2.1 mfr mun mbe men mov msp mwb mwe mwi r4.2.2.1 mre mkn r4.2.2.2 r3.2.2.2 ov x4 b _ _ _ _ (by omega) (by omega) hP hD hS ls (lv_sub hl [2, 3, 4, 5, 6] rfl) h
noncomputable def flaw_420 (L : Nat) (xs : Nat → Int32) (K : kFT) (ce : Nat → Int64) (fr : Int64) (un : Int64) (sb : Nat → Int64) (se : Nat → Int64) (so : Nat → Int32) (sc : Int32) (wb : Nat → Int64) (we : Nat → Int64) (wo : Nat → Int32) (wc : Int32) (fb : Nat → Int64) (fe : Nat → Int64) (fo : Nat → Int32) (fc : Int32) (rm : Nat → Int32) (ac : Int32) (rf : Int32) (kn : Int32) (mce : Nat → Int64) (mfr : Int64) (mun : Int64) (mbe : Nat → Int64) (men : Nat → Int64) (mov : Nat → Int32) (msp : Int32) (mwb : Nat → Int64) (mwe : Nat → Int64) (mwi : Int32) (mac : Int32) (mre : Int32) (mkn : Int32) (mth : Int32) (on : Int64) (x4 : Int32) : Option Int32 :=
  if ix (x4 + 1) L then
    if ix (x4 + 2) L then
      (f_L_swap ce ac on (xs (x4 + 1).toNatClampNeg) (xs (x4 + 2).toNatClampNeg)).bind fun r3 =>
      (f_X3_swap mce mac (xs (x4 + 1).toNatClampNeg) (xs (x4 + 2).toNatClampNeg)).bind fun r4 =>
      K r3.2.1 fr un sb se so sc wb we wo wc fb fe fo fc rm r3.2.2.1 rf kn r4.2.1 mfr mun mbe men mov msp mwb mwe mwi r4.2.2.1 mre mkn r4.2.2.2 r3.2.2.2 x4
    else none
  else none
theorem flaw_420_e {L : Nat} {xs : Nat → Int32} {K : kFT} (ce : Nat → Int64) (fr : Int64) (un : Int64) (sb : Nat → Int64) (se : Nat → Int64) (so : Nat → Int32) (sc : Int32) (wb : Nat → Int64) (we : Nat → Int64) (wo : Nat → Int32) (wc : Int32) (fb : Nat → Int64) (fe : Nat → Int64) (fo : Nat → Int32) (fc : Int32) (rm : Nat → Int32) (ac : Int32) (rf : Int32) (kn : Int32) (mce : Nat → Int64) (mfr : Int64) (mun : Int64) (mbe : Nat → Int64) (men : Nat → Int64) (mov : Nat → Int32) (msp : Int32) (mwb : Nat → Int64) (mwe : Nat → Int64) (mwi : Int32) (mac : Int32) (mre : Int32) (mkn : Int32) (mth : Int32) (on : Int64) (x4 : Int32) : flaw_420 L xs K ce fr un sb se so sc wb we wo wc fb fe fo fc rm ac rf kn mce mfr mun mbe men mov msp mwb mwe mwi mac mre mkn mth on x4 =
  if ix (x4 + 1) L then
    if ix (x4 + 2) L then
      (f_L_swap ce ac on (xs (x4 + 1).toNatClampNeg) (xs (x4 + 2).toNatClampNeg)).bind fun r3 =>
      (f_X3_swap mce mac (xs (x4 + 1).toNatClampNeg) (xs (x4 + 2).toNatClampNeg)).bind fun r4 =>
      K r3.2.1 fr un sb se so sc wb we wo wc fb fe fo fc rm r3.2.2.1 rf kn r4.2.1 mfr mun mbe men mov msp mwb mwe mwi r4.2.2.1 mre mkn r4.2.2.2 r3.2.2.2 x4
    else none
  else none := rfl
set_option maxHeartbeats 8000000 in
set_option maxRecDepth 100000 in
theorem law_3 {p : Program} {l : Launch} {e : Env} {s : State} {m : MethodId} {below : List Frame} {meth : Method} {c : Code} {dC : Nat → ClassId} {dI : Nat → Nat → Nat} {cB cI cJ cZ : ClassId} {b9 L : Nat} {xs : Nat → Int32} {A : Nat → Prop} (hl9 : l.stackTraces = false) (C0 : kLw p s m c b9 L xs A) (hK : va_K (dC, dI) vwCl (kTy cB cI cJ cZ) s) {a : Nat → Nat} {o : Nat} (K : kFT) (bK sK : Nat) (hK9 : kGo p l e s m below meth c dC dI cB cI cJ cZ b9 A a o 1845 bK sK K) : kGo p l e s m below meth c dC dI cB cI cJ cZ b9 A a o 420 (1 + bK) (6 + sK) (flaw_420 L xs K) := by
  obtain ⟨hx, hb, hml, hown, hts, hX, hbl, hA, hbA, hG, hZ⟩ := C0
  intro ce fr un sb se so sc wb we wo wc fb fe fo fc rm ac rf kn mce mfr mun mbe men mov msp mwb mwe mwi mac mre mkn mth on ov x4 b H locs kc ks hkc hks hP hD hS ls hl h
  have h := (flaw_420_e ce fr un sb se so sc wb we wo wc fb fe fo fc rm ac rf kn mce mfr mun mbe men mov msp mwb mwe mwi mac mre mkn mth on x4).symm.trans h
  refine lv_aload_n hx hb (kdr dgL_law_387 2 2 rfl rfl) rfl (lv_at hl 1 rfl) ?_
  obtain ⟨z0, h⟩ := g_if h
  refine kld (v := 1) hx hb (kdr dgL_law_387 2 3 rfl rfl) rfl (lv_at hl 0 rfl) (kdr dgL_law_387 2 4 rfl rfl) (lv_at hl 4 rfl) (kdr dgL_law_387 2 5 rfl rfl) (by decide) (kdr dgL_law_387 2 6 rfl rfl) hX hbl hbA hS (ix_in z0) (kdr dgL_law_387 2 7 rfl rfl) ?_
  obtain ⟨z1, h⟩ := g_if h
  refine kld (v := 2) hx hb (kdr dgL_law_387 2 8 rfl rfl) rfl (lv_at hl 0 rfl) (kdr dgL_law_387 2 9 rfl rfl) (lv_at hl 4 rfl) (kdr dgL_law_387 3 0 rfl rfl) (by decide) (kdr dgL_law_387 3 1 rfl rfl) hX hbl hbA hS (ix_in z1) (kdr dgL_law_387 3 2 rfl rfl) ?_
  refine lv_aload_n hx hb (kdr dgL_law_387 3 3 rfl rfl) rfl (lv_at hl 3 rfl) ?_
  obtain ⟨r3, g3, h⟩ := g_b h
  refine kq_i ((wSB cI cJ cZ a r3.2.1 fr un sb se so sc wb we wo wc fb fe fo fc rm r3.2.2.1 rf kn) ++ (wMo cJ cZ b mce mfr mun mbe men mov msp mwb mwe mwi mac mre mkn mth) ++ (wO o r3.2.2.2 ov)) (fun qP qD qF => vx_runSW (As := [.ref (a 0), .int (xs (x4 + 1).toNatClampNeg), .int (xs (x4 + 2).toNatClampNeg), .ref o]) (rest := []) ⟨hx, hb, hml, hown, hts⟩ (c_L_swap l hl9 dC dI cB cI cJ cZ a o _ ce fr un sb se so sc wb we wo wc fb fe fo fc rm ac rf kn on ov (xs (x4 + 1).toNatClampNeg) (xs (x4 + 2).toNatClampNeg) r3 g3) (kcwSW hts kw_533 kv_L_swap rfl rfl ⟨(Nat.le_of_ble_eq_true rfl), (Nat.le_of_ble_eq_true rfl)⟩) (kpSXq (A := A) qP hK qD hG hZ hS qF) rfl rfl hl.1 rfl (lv_room (Nat.le_of_ble_eq_true rfl)) (kdr dgL_law_387 3 4 rfl rfl) ⟨by show _ ≤ (600128 : Nat); omega, by show _ ≤ (7301098 : Nat); omega⟩) hP hD hS hA (kFr_2 (kFr_l kFr_SB) kFr_o) (fun H locs hP hD hS br3 => ?_)
  refine lv_istore (lv' := (kvI 5 r3.1 (kvA 0 b9 (kvA 1 (a 0) (kvA 2 (b 0) (kvA 3 o (kvI 4 x4 kvE))))))) hx hb (kdr dgL_law_387 3 5 rfl rfl) hl (by decide) rfl (fun ls hl => ?_)
  refine lv_aload_n hx hb (kdr dgL_law_387 3 6 rfl rfl) rfl (lv_at hl 3 rfl) ?_
  refine kld (v := 1) hx hb (kdr dgL_law_387 3 7 rfl rfl) rfl (lv_at hl 1 rfl) (kdr dgL_law_387 3 8 rfl rfl) (lv_at hl 5 rfl) (kdr dgL_law_387 3 9 rfl rfl) (by decide) (kdr dgL_law_387 4 0 rfl rfl) hX hbl hbA hS (ix_in z0) (kdr dgL_law_387 4 1 rfl rfl) ?_
  refine kld (v := 2) hx hb (kdr dgL_law_387 4 2 rfl rfl) rfl (lv_at hl 1 rfl) (kdr dgL_law_387 4 3 rfl rfl) (lv_at hl 5 rfl) (kdr dgL_law_387 4 4 rfl rfl) (by decide) (kdr dgL_law_387 4 5 rfl rfl) hX hbl hbA hS (ix_in z1) (kdr dgL_law_387 4 6 rfl rfl) ?_
  obtain ⟨r4, g4, h⟩ := g_b h
  refine kq_i ((wSB cI cJ cZ a r3.2.1 fr un sb se so sc wb we wo wc fb fe fo fc rm r3.2.2.1 rf kn) ++ (wMo cJ cZ b r4.2.1 mfr mun mbe men mov msp mwb mwe mwi r4.2.2.1 mre mkn r4.2.2.2) ++ (wO o r3.2.2.2 ov)) (fun qP qD qF => va_runV (As := [.int (xs (x4 + 1).toNatClampNeg), .int (xs (x4 + 2).toNatClampNeg)]) (rest := []) ⟨hx, hb, hml, hown, hts⟩ (c_X3_swap l dC dI cB cI cJ cZ b _ mce mfr mun mbe men mov msp mwb mwe mwi mac mre mkn mth (xs (x4 + 1).toNatClampNeg) (xs (x4 + 2).toNatClampNeg) r4 g4) (kcwV hts kw_1170 kv_X3_swap rfl rfl ⟨(Nat.le_of_ble_eq_true rfl), (Nat.le_of_ble_eq_true rfl)⟩) (kpV (A := A) qP hK qD hG (krecv_5 (q0 := 15) hK hP rfl)) rfl rfl hl.1 rfl (lv_room (Nat.le_of_ble_eq_true rfl)) (kdr dgL_law_387 4 7 rfl rfl) ⟨by show _ ≤ (600128 : Nat); omega, by show _ ≤ (7301098 : Nat); omega⟩) hP hD hS hA (kFr_l (kFr_r kFr_Mo)) (fun H locs hP hD hS br4 => ?_)
  refine lv_istore (lv' := (kvI 6 r4.1 (kvI 5 r3.1 (kvA 0 b9 (kvA 1 (a 0) (kvA 2 (b 0) (kvA 3 o (kvI 4 x4 kvE)))))))) hx hb (kdr dgL_law_387 4 8 rfl rfl) hl (by decide) rfl (fun ls hl => ?_)
  refine lv_goto (tgt := 1845) hx hb (kdr dgL_law_387 4 9 rfl rfl) (by decide) ?_
  exact hK9 r3.2.1 fr un sb se so sc wb we wo wc fb fe fo fc rm r3.2.2.1 rf kn r4.2.1 mfr mun mbe men mov msp mwb mwe mwi r4.2.2.1 mre mkn r4.2.2.2 r3.2.2.2 ov x4 b _ _ _ _ (by omega) (by omega) hP hD hS ls (lv_sub hl [2, 3, 4, 5, 6] rfl) h
noncomputable def flaw_502 (L : Nat) (xs : Nat → Int32) (K : kFT) (ce : Nat → Int64) (fr : Int64) (un : Int64) (sb : Nat → Int64) (se : Nat → Int64) (so : Nat → Int32) (sc : Int32) (wb : Nat → Int64) (we : Nat → Int64) (wo : Nat → Int32) (wc : Int32) (fb : Nat → Int64) (fe : Nat → Int64) (fo : Nat → Int32) (fc : Int32) (rm : Nat → Int32) (ac : Int32) (rf : Int32) (kn : Int32) (mce : Nat → Int64) (mfr : Int64) (mun : Int64) (mbe : Nat → Int64) (men : Nat → Int64) (mov : Nat → Int32) (msp : Int32) (mwb : Nat → Int64) (mwe : Nat → Int64) (mwi : Int32) (mac : Int32) (mre : Int32) (mkn : Int32) (mth : Int32) (on : Int64) (x4 : Int32) (y0 : Int32) : Option Int32 :=
  if ix (x4 + 2) L then
    (f_X3_pick mce mac y0 (xs (x4 + 2).toNatClampNeg)).bind fun r2 =>
    K ce fr un sb se so sc wb we wo wc fb fe fo fc rm ac rf kn r2.2.1 mfr mun mbe men mov msp mwb mwe mwi r2.2.2.1 mre mkn r2.2.2.2 on x4
  else none
theorem flaw_502_e {L : Nat} {xs : Nat → Int32} {K : kFT} (ce : Nat → Int64) (fr : Int64) (un : Int64) (sb : Nat → Int64) (se : Nat → Int64) (so : Nat → Int32) (sc : Int32) (wb : Nat → Int64) (we : Nat → Int64) (wo : Nat → Int32) (wc : Int32) (fb : Nat → Int64) (fe : Nat → Int64) (fo : Nat → Int32) (fc : Int32) (rm : Nat → Int32) (ac : Int32) (rf : Int32) (kn : Int32) (mce : Nat → Int64) (mfr : Int64) (mun : Int64) (mbe : Nat → Int64) (men : Nat → Int64) (mov : Nat → Int32) (msp : Int32) (mwb : Nat → Int64) (mwe : Nat → Int64) (mwi : Int32) (mac : Int32) (mre : Int32) (mkn : Int32) (mth : Int32) (on : Int64) (x4 : Int32) (y0 : Int32) : flaw_502 L xs K ce fr un sb se so sc wb we wo wc fb fe fo fc rm ac rf kn mce mfr mun mbe men mov msp mwb mwe mwi mac mre mkn mth on x4 y0 =
  if ix (x4 + 2) L then
    (f_X3_pick mce mac y0 (xs (x4 + 2).toNatClampNeg)).bind fun r2 =>
    K ce fr un sb se so sc wb we wo wc fb fe fo fc rm ac rf kn r2.2.1 mfr mun mbe men mov msp mwb mwe mwi r2.2.2.1 mre mkn r2.2.2.2 on x4
  else none := rfl
noncomputable def flaw_475 (L : Nat) (xs : Nat → Int32) (K : kFT) (ce : Nat → Int64) (fr : Int64) (un : Int64) (sb : Nat → Int64) (se : Nat → Int64) (so : Nat → Int32) (sc : Int32) (wb : Nat → Int64) (we : Nat → Int64) (wo : Nat → Int32) (wc : Int32) (fb : Nat → Int64) (fe : Nat → Int64) (fo : Nat → Int32) (fc : Int32) (rm : Nat → Int32) (ac : Int32) (rf : Int32) (kn : Int32) (mce : Nat → Int64) (mfr : Int64) (mun : Int64) (mbe : Nat → Int64) (men : Nat → Int64) (mov : Nat → Int32) (msp : Int32) (mwb : Nat → Int64) (mwe : Nat → Int64) (mwi : Int32) (mac : Int32) (mre : Int32) (mkn : Int32) (mth : Int32) (on : Int64) (x4 : Int32) (y0 : Int32) : Option Int32 :=
  if ix (x4 + 2) L then
    (f_L_pick ce ac on y0 (xs (x4 + 2).toNatClampNeg)).bind fun r2 =>
    if ix (x4 + 1) L then
      if (xs (x4 + 1).toNatClampNeg) = 0 then
        flaw_502 L xs K r2.2.1 fr un sb se so sc wb we wo wc fb fe fo fc rm r2.2.2.1 rf kn mce mfr mun mbe men mov msp mwb mwe mwi mac mre mkn mth r2.2.2.2 x4 0
      else
        flaw_502 L xs K r2.2.1 fr un sb se so sc wb we wo wc fb fe fo fc rm r2.2.2.1 rf kn mce mfr mun mbe men mov msp mwb mwe mwi mac mre mkn mth r2.2.2.2 x4 1
    else none
  else none
theorem flaw_475_e {L : Nat} {xs : Nat → Int32} {K : kFT} (ce : Nat → Int64) (fr : Int64) (un : Int64) (sb : Nat → Int64) (se : Nat → Int64) (so : Nat → Int32) (sc : Int32) (wb : Nat → Int64) (we : Nat → Int64) (wo : Nat → Int32) (wc : Int32) (fb : Nat → Int64) (fe : Nat → Int64) (fo : Nat → Int32) (fc : Int32) (rm : Nat → Int32) (ac : Int32) (rf : Int32) (kn : Int32) (mce : Nat → Int64) (mfr : Int64) (mun : Int64) (mbe : Nat → Int64) (men : Nat → Int64) (mov : Nat → Int32) (msp : Int32) (mwb : Nat → Int64) (mwe : Nat → Int64) (mwi : Int32) (mac : Int32) (mre : Int32) (mkn : Int32) (mth : Int32) (on : Int64) (x4 : Int32) (y0 : Int32) : flaw_475 L xs K ce fr un sb se so sc wb we wo wc fb fe fo fc rm ac rf kn mce mfr mun mbe men mov msp mwb mwe mwi mac mre mkn mth on x4 y0 =
  if ix (x4 + 2) L then
    (f_L_pick ce ac on y0 (xs (x4 + 2).toNatClampNeg)).bind fun r2 =>
    if ix (x4 + 1) L then
      if (xs (x4 + 1).toNatClampNeg) = 0 then
        flaw_502 L xs K r2.2.1 fr un sb se so sc wb we wo wc fb fe fo fc rm r2.2.2.1 rf kn mce mfr mun mbe men mov msp mwb mwe mwi mac mre mkn mth r2.2.2.2 x4 0
      else
        flaw_502 L xs K r2.2.1 fr un sb se so sc wb we wo wc fb fe fo fc rm r2.2.2.1 rf kn mce mfr mun mbe men mov msp mwb mwe mwi mac mre mkn mth r2.2.2.2 x4 1
    else none
  else none := rfl
noncomputable def flaw_460 (L : Nat) (xs : Nat → Int32) (K : kFT) (ce : Nat → Int64) (fr : Int64) (un : Int64) (sb : Nat → Int64) (se : Nat → Int64) (so : Nat → Int32) (sc : Int32) (wb : Nat → Int64) (we : Nat → Int64) (wo : Nat → Int32) (wc : Int32) (fb : Nat → Int64) (fe : Nat → Int64) (fo : Nat → Int32) (fc : Int32) (rm : Nat → Int32) (ac : Int32) (rf : Int32) (kn : Int32) (mce : Nat → Int64) (mfr : Int64) (mun : Int64) (mbe : Nat → Int64) (men : Nat → Int64) (mov : Nat → Int32) (msp : Int32) (mwb : Nat → Int64) (mwe : Nat → Int64) (mwi : Int32) (mac : Int32) (mre : Int32) (mkn : Int32) (mth : Int32) (on : Int64) (x4 : Int32) : Option Int32 :=
  if ix (x4 + 1) L then
    if (xs (x4 + 1).toNatClampNeg) = 0 then
      flaw_475 L xs K ce fr un sb se so sc wb we wo wc fb fe fo fc rm ac rf kn mce mfr mun mbe men mov msp mwb mwe mwi mac mre mkn mth on x4 0
    else
      flaw_475 L xs K ce fr un sb se so sc wb we wo wc fb fe fo fc rm ac rf kn mce mfr mun mbe men mov msp mwb mwe mwi mac mre mkn mth on x4 1
  else none
theorem flaw_460_e {L : Nat} {xs : Nat → Int32} {K : kFT} (ce : Nat → Int64) (fr : Int64) (un : Int64) (sb : Nat → Int64) (se : Nat → Int64) (so : Nat → Int32) (sc : Int32) (wb : Nat → Int64) (we : Nat → Int64) (wo : Nat → Int32) (wc : Int32) (fb : Nat → Int64) (fe : Nat → Int64) (fo : Nat → Int32) (fc : Int32) (rm : Nat → Int32) (ac : Int32) (rf : Int32) (kn : Int32) (mce : Nat → Int64) (mfr : Int64) (mun : Int64) (mbe : Nat → Int64) (men : Nat → Int64) (mov : Nat → Int32) (msp : Int32) (mwb : Nat → Int64) (mwe : Nat → Int64) (mwi : Int32) (mac : Int32) (mre : Int32) (mkn : Int32) (mth : Int32) (on : Int64) (x4 : Int32) : flaw_460 L xs K ce fr un sb se so sc wb we wo wc fb fe fo fc rm ac rf kn mce mfr mun mbe men mov msp mwb mwe mwi mac mre mkn mth on x4 =
  if ix (x4 + 1) L then
    if (xs (x4 + 1).toNatClampNeg) = 0 then
      flaw_475 L xs K ce fr un sb se so sc wb we wo wc fb fe fo fc rm ac rf kn mce mfr mun mbe men mov msp mwb mwe mwi mac mre mkn mth on x4 0
    else
      flaw_475 L xs K ce fr un sb se so sc wb we wo wc fb fe fo fc rm ac rf kn mce mfr mun mbe men mov msp mwb mwe mwi mac mre mkn mth on x4 1
  else none := rfl
set_option maxHeartbeats 8000000 in
set_option maxRecDepth 100000 in
theorem law_4 {p : Program} {l : Launch} {e : Env} {s : State} {m : MethodId} {below : List Frame} {meth : Method} {c : Code} {dC : Nat → ClassId} {dI : Nat → Nat → Nat} {cB cI cJ cZ : ClassId} {b9 L : Nat} {xs : Nat → Int32} {A : Nat → Prop} (hl9 : l.stackTraces = false) (C0 : kLw p s m c b9 L xs A) (hK : va_K (dC, dI) vwCl (kTy cB cI cJ cZ) s) {a : Nat → Nat} {o : Nat} (K : kFT) (bK sK : Nat) (hK9 : kGo p l e s m below meth c dC dI cB cI cJ cZ b9 A a o 1845 bK sK K) : kGo p l e s m below meth c dC dI cB cI cJ cZ b9 A a o 460 (1 + bK) (6 + sK) (flaw_460 L xs K) := by
  obtain ⟨hx, hb, hml, hown, hts, hX, hbl, hA, hbA, hG, hZ⟩ := C0
  have J502 : ∀ (ce : Nat → Int64) (fr : Int64) (un : Int64) (sb : Nat → Int64) (se : Nat → Int64) (so : Nat → Int32) (sc : Int32) (wb : Nat → Int64) (we : Nat → Int64) (wo : Nat → Int32) (wc : Int32) (fb : Nat → Int64) (fe : Nat → Int64) (fo : Nat → Int32) (fc : Int32) (rm : Nat → Int32) (ac : Int32) (rf : Int32) (kn : Int32) (mce : Nat → Int64) (mfr : Int64) (mun : Int64) (mbe : Nat → Int64) (men : Nat → Int64) (mov : Nat → Int32) (msp : Int32) (mwb : Nat → Int64) (mwe : Nat → Int64) (mwi : Int32) (mac : Int32) (mre : Int32) (mkn : Int32) (mth : Int32) (on : Int64) (ov : Value) (x4 : Int32) (y0 : Int32) (b : Nat → Nat) (H : Heap) (locs : List Loc) (kc ks : Nat), kc + (0 + bK) ≤ 600128 → ks + (0 + sK) ≤ 7301098 → va_P (dC, dI) vwCl ((wSB cI cJ cZ a ce fr un sb se so sc wb we wo wc fb fe fo fc rm ac rf kn) ++ (wMo cJ cZ b mce mfr mun mbe men mov msp mwb mwe mwi mac mre mkn mth) ++ (wO o on ov)) H → va_D A ((wSB cI cJ cZ a ce fr un sb se so sc wb we wo wc fb fe fo fc rm ac rf kn) ++ (wMo cJ cZ b mce mfr mun mbe men mov msp mwb mwe mwi mac mre mkn mth) ++ (wO o on ov)) → va_S A s.heap H locs → ∀ (ls : Array Slot), lv_has ls 7 (kvA 0 b9 (kvA 1 (a 0) (kvA 2 (b 0) (kvA 3 o (kvI 4 x4 kvE))))) → flaw_502 L xs K ce fr un sb se so sc wb we wo wc fb fe fo fc rm ac rf kn mce mfr mun mbe men mov msp mwb mwe mwi mac mre mkn mth on x4 y0 = some 1 → W p l e room_1 s m #[Value.ref b9] below meth c H locs kc ks (lw_Z below #[Value.ref b9] s) (F0 m 502 ls [.int y0, .ref (b 0)]) := by
    intro ce fr un sb se so sc wb we wo wc fb fe fo fc rm ac rf kn mce mfr mun mbe men mov msp mwb mwe mwi mac mre mkn mth on ov x4 y0 b H locs kc ks hkc hks hP hD hS ls hl h
    have h := (flaw_502_e ce fr un sb se so sc wb we wo wc fb fe fo fc rm ac rf kn mce mfr mun mbe men mov msp mwb mwe mwi mac mre mkn mth on x4 y0).symm.trans h
    obtain ⟨z0, h⟩ := g_if h
    refine kld (v := 2) hx hb (kdr dgL_law_387 7 8 rfl rfl) rfl (lv_at hl 0 rfl) (kdr dgL_law_387 7 9 rfl rfl) (lv_at hl 4 rfl) (kdr dgL_law_387 8 0 rfl rfl) (by decide) (kdr dgL_law_387 8 1 rfl rfl) hX hbl hbA hS (ix_in z0) (kdr dgL_law_387 8 2 rfl rfl) ?_
    obtain ⟨r2, g2, h⟩ := g_b h
    refine kq_i ((wSB cI cJ cZ a ce fr un sb se so sc wb we wo wc fb fe fo fc rm ac rf kn) ++ (wMo cJ cZ b r2.2.1 mfr mun mbe men mov msp mwb mwe mwi r2.2.2.1 mre mkn r2.2.2.2) ++ (wO o on ov)) (fun qP qD qF => va_runV (As := [.int y0, .int (xs (x4 + 2).toNatClampNeg)]) (rest := []) ⟨hx, hb, hml, hown, hts⟩ (c_X3_pick l dC dI cB cI cJ cZ b _ mce mfr mun mbe men mov msp mwb mwe mwi mac mre mkn mth y0 (xs (x4 + 2).toNatClampNeg) r2 g2) (kcwV hts kw_1174 kv_X3_pick rfl rfl ⟨(Nat.le_of_ble_eq_true rfl), (Nat.le_of_ble_eq_true rfl)⟩) (kpV (A := A) qP hK qD hG (krecv_5 (q0 := 15) hK hP rfl)) rfl rfl hl.1 rfl (lv_room (Nat.le_of_ble_eq_true rfl)) (kdr dgL_law_387 8 3 rfl rfl) ⟨by show _ ≤ (600128 : Nat); omega, by show _ ≤ (7301098 : Nat); omega⟩) hP hD hS hA (kFr_l (kFr_r kFr_Mo)) (fun H locs hP hD hS br2 => ?_)
    refine lv_istore (lv' := (kvI 6 r2.1 (kvA 0 b9 (kvA 1 (a 0) (kvA 2 (b 0) (kvA 3 o (kvI 4 x4 kvE))))))) hx hb (kdr dgL_law_387 8 4 rfl rfl) hl (by decide) rfl (fun ls hl => ?_)
    refine lv_goto (tgt := 1845) hx hb (kdr dgL_law_387 8 5 rfl rfl) (by decide) ?_
    exact hK9 ce fr un sb se so sc wb we wo wc fb fe fo fc rm ac rf kn r2.2.1 mfr mun mbe men mov msp mwb mwe mwi r2.2.2.1 mre mkn r2.2.2.2 on ov x4 b _ _ _ _ (by omega) (by omega) hP hD hS ls (lv_sub hl [1, 2, 3, 4, 5] rfl) h
  have J475 : ∀ (ce : Nat → Int64) (fr : Int64) (un : Int64) (sb : Nat → Int64) (se : Nat → Int64) (so : Nat → Int32) (sc : Int32) (wb : Nat → Int64) (we : Nat → Int64) (wo : Nat → Int32) (wc : Int32) (fb : Nat → Int64) (fe : Nat → Int64) (fo : Nat → Int32) (fc : Int32) (rm : Nat → Int32) (ac : Int32) (rf : Int32) (kn : Int32) (mce : Nat → Int64) (mfr : Int64) (mun : Int64) (mbe : Nat → Int64) (men : Nat → Int64) (mov : Nat → Int32) (msp : Int32) (mwb : Nat → Int64) (mwe : Nat → Int64) (mwi : Int32) (mac : Int32) (mre : Int32) (mkn : Int32) (mth : Int32) (on : Int64) (ov : Value) (x4 : Int32) (y0 : Int32) (b : Nat → Nat) (H : Heap) (locs : List Loc) (kc ks : Nat), kc + (1 + bK) ≤ 600128 → ks + (6 + sK) ≤ 7301098 → va_P (dC, dI) vwCl ((wSB cI cJ cZ a ce fr un sb se so sc wb we wo wc fb fe fo fc rm ac rf kn) ++ (wMo cJ cZ b mce mfr mun mbe men mov msp mwb mwe mwi mac mre mkn mth) ++ (wO o on ov)) H → va_D A ((wSB cI cJ cZ a ce fr un sb se so sc wb we wo wc fb fe fo fc rm ac rf kn) ++ (wMo cJ cZ b mce mfr mun mbe men mov msp mwb mwe mwi mac mre mkn mth) ++ (wO o on ov)) → va_S A s.heap H locs → ∀ (ls : Array Slot), lv_has ls 7 (kvA 0 b9 (kvA 1 (a 0) (kvA 2 (b 0) (kvA 3 o (kvI 4 x4 kvE))))) → flaw_475 L xs K ce fr un sb se so sc wb we wo wc fb fe fo fc rm ac rf kn mce mfr mun mbe men mov msp mwb mwe mwi mac mre mkn mth on x4 y0 = some 1 → W p l e room_1 s m #[Value.ref b9] below meth c H locs kc ks (lw_Z below #[Value.ref b9] s) (F0 m 475 ls [.int y0, .ref (a 0)]) := by
    intro ce fr un sb se so sc wb we wo wc fb fe fo fc rm ac rf kn mce mfr mun mbe men mov msp mwb mwe mwi mac mre mkn mth on ov x4 y0 b H locs kc ks hkc hks hP hD hS ls hl h
    have h := (flaw_475_e ce fr un sb se so sc wb we wo wc fb fe fo fc rm ac rf kn mce mfr mun mbe men mov msp mwb mwe mwi mac mre mkn mth on x4 y0).symm.trans h
    obtain ⟨z0, h⟩ := g_if h
    refine kld (v := 2) hx hb (kdr dgL_law_387 6 0 rfl rfl) rfl (lv_at hl 0 rfl) (kdr dgL_law_387 6 1 rfl rfl) (lv_at hl 4 rfl) (kdr dgL_law_387 6 2 rfl rfl) (by decide) (kdr dgL_law_387 6 3 rfl rfl) hX hbl hbA hS (ix_in z0) (kdr dgL_law_387 6 4 rfl rfl) ?_
    refine lv_aload_n hx hb (kdr dgL_law_387 6 5 rfl rfl) rfl (lv_at hl 3 rfl) ?_
    obtain ⟨r2, g2, h⟩ := g_b h
    refine kq_i ((wSB cI cJ cZ a r2.2.1 fr un sb se so sc wb we wo wc fb fe fo fc rm r2.2.2.1 rf kn) ++ (wMo cJ cZ b mce mfr mun mbe men mov msp mwb mwe mwi mac mre mkn mth) ++ (wO o r2.2.2.2 ov)) (fun qP qD qF => vx_runSW (As := [.ref (a 0), .int y0, .int (xs (x4 + 2).toNatClampNeg), .ref o]) (rest := []) ⟨hx, hb, hml, hown, hts⟩ (c_L_pick l hl9 dC dI cB cI cJ cZ a o _ ce fr un sb se so sc wb we wo wc fb fe fo fc rm ac rf kn on ov y0 (xs (x4 + 2).toNatClampNeg) r2 g2) (kcwSW hts kw_540 kv_L_pick rfl rfl ⟨(Nat.le_of_ble_eq_true rfl), (Nat.le_of_ble_eq_true rfl)⟩) (kpSXq (A := A) qP hK qD hG hZ hS qF) rfl rfl hl.1 rfl (lv_room (Nat.le_of_ble_eq_true rfl)) (kdr dgL_law_387 6 6 rfl rfl) ⟨by show _ ≤ (600128 : Nat); omega, by show _ ≤ (7301098 : Nat); omega⟩) hP hD hS hA (kFr_2 (kFr_l kFr_SB) kFr_o) (fun H locs hP hD hS br2 => ?_)
    refine lv_istore (lv' := (kvI 5 r2.1 (kvA 0 b9 (kvA 1 (a 0) (kvA 2 (b 0) (kvA 3 o (kvI 4 x4 kvE))))))) hx hb (kdr dgL_law_387 6 7 rfl rfl) hl (by decide) rfl (fun ls hl => ?_)
    refine lv_aload_n hx hb (kdr dgL_law_387 6 8 rfl rfl) rfl (lv_at hl 3 rfl) ?_
    obtain ⟨z2, h⟩ := g_if h
    refine kld (v := 1) hx hb (kdr dgL_law_387 6 9 rfl rfl) rfl (lv_at hl 1 rfl) (kdr dgL_law_387 7 0 rfl rfl) (lv_at hl 5 rfl) (kdr dgL_law_387 7 1 rfl rfl) (by decide) (kdr dgL_law_387 7 2 rfl rfl) hX hbl hbA hS (ix_in z2) (kdr dgL_law_387 7 3 rfl rfl) ?_
    refine lv_if_eq (tgt := 501) hx hb (kdr dgL_law_387 7 4 rfl rfl) (by decide) (fun c4 => ?_) (fun c4 => ?_)
    · have h := g_t c4 h
      refine lv_iconst (v := 0) hx hb (kdr dgL_law_387 7 7 rfl rfl) (by decide) ?_
      exact J502 r2.2.1 fr un sb se so sc wb we wo wc fb fe fo fc rm r2.2.2.1 rf kn mce mfr mun mbe men mov msp mwb mwe mwi mac mre mkn mth r2.2.2.2 ov x4 0 b _ _ _ _ (by omega) (by omega) hP hD hS ls (lv_sub hl [1, 2, 3, 4, 5] rfl) h
    · have h := g_f c4 h
      refine lv_iconst (v := 1) hx hb (kdr dgL_law_387 7 5 rfl rfl) (by decide) ?_
      refine lv_goto (tgt := 502) hx hb (kdr dgL_law_387 7 6 rfl rfl) (by decide) ?_
      exact J502 r2.2.1 fr un sb se so sc wb we wo wc fb fe fo fc rm r2.2.2.1 rf kn mce mfr mun mbe men mov msp mwb mwe mwi mac mre mkn mth r2.2.2.2 ov x4 1 b _ _ _ _ (by omega) (by omega) hP hD hS ls (lv_sub hl [1, 2, 3, 4, 5] rfl) h
  intro ce fr un sb se so sc wb we wo wc fb fe fo fc rm ac rf kn mce mfr mun mbe men mov msp mwb mwe mwi mac mre mkn mth on ov x4 b H locs kc ks hkc hks hP hD hS ls hl h
  have h := (flaw_460_e ce fr un sb se so sc wb we wo wc fb fe fo fc rm ac rf kn mce mfr mun mbe men mov msp mwb mwe mwi mac mre mkn mth on x4).symm.trans h
  refine lv_aload_n hx hb (kdr dgL_law_387 5 0 rfl rfl) rfl (lv_at hl 1 rfl) ?_
  obtain ⟨z0, h⟩ := g_if h
  refine kld (v := 1) hx hb (kdr dgL_law_387 5 1 rfl rfl) rfl (lv_at hl 0 rfl) (kdr dgL_law_387 5 2 rfl rfl) (lv_at hl 4 rfl) (kdr dgL_law_387 5 3 rfl rfl) (by decide) (kdr dgL_law_387 5 4 rfl rfl) hX hbl hbA hS (ix_in z0) (kdr dgL_law_387 5 5 rfl rfl) ?_
  refine lv_if_eq (tgt := 474) hx hb (kdr dgL_law_387 5 6 rfl rfl) (by decide) (fun c2 => ?_) (fun c2 => ?_)
  · have h := g_t c2 h
    refine lv_iconst (v := 0) hx hb (kdr dgL_law_387 5 9 rfl rfl) (by decide) ?_
    exact J475 ce fr un sb se so sc wb we wo wc fb fe fo fc rm ac rf kn mce mfr mun mbe men mov msp mwb mwe mwi mac mre mkn mth on ov x4 0 b _ _ _ _ (by omega) (by omega) hP hD hS ls (lv_sub hl [0, 1, 2, 3, 4] rfl) h
  · have h := g_f c2 h
    refine lv_iconst (v := 1) hx hb (kdr dgL_law_387 5 7 rfl rfl) (by decide) ?_
    refine lv_goto (tgt := 475) hx hb (kdr dgL_law_387 5 8 rfl rfl) (by decide) ?_
    exact J475 ce fr un sb se so sc wb we wo wc fb fe fo fc rm ac rf kn mce mfr mun mbe men mov msp mwb mwe mwi mac mre mkn mth on ov x4 1 b _ _ _ _ (by omega) (by omega) hP hD hS ls (lv_sub hl [0, 1, 2, 3, 4] rfl) h
noncomputable def flaw_516 (L : Nat) (xs : Nat → Int32) (K : kFT) (ce : Nat → Int64) (fr : Int64) (un : Int64) (sb : Nat → Int64) (se : Nat → Int64) (so : Nat → Int32) (sc : Int32) (wb : Nat → Int64) (we : Nat → Int64) (wo : Nat → Int32) (wc : Int32) (fb : Nat → Int64) (fe : Nat → Int64) (fo : Nat → Int32) (fc : Int32) (rm : Nat → Int32) (ac : Int32) (rf : Int32) (kn : Int32) (mce : Nat → Int64) (mfr : Int64) (mun : Int64) (mbe : Nat → Int64) (men : Nat → Int64) (mov : Nat → Int32) (msp : Int32) (mwb : Nat → Int64) (mwe : Nat → Int64) (mwi : Int32) (mac : Int32) (mre : Int32) (mkn : Int32) (mth : Int32) (on : Int64) (x4 : Int32) : Option Int32 :=
  if ix (x4 + 1) L then
    if ix (x4 + 2) L then
      (f_L_shift ce fr un sb se sc wb we wc ac rf on (xs (x4 + 1).toNatClampNeg) (xs (x4 + 2).toNatClampNeg)).bind fun r3 =>
      (f_X3_shift mce mfr mun mbe men msp mwb mwe mwi mac mre (xs (x4 + 1).toNatClampNeg) (xs (x4 + 2).toNatClampNeg)).bind fun r4 =>
      K r3.2.1 r3.2.2.1 r3.2.2.2.1 r3.2.2.2.2.1 r3.2.2.2.2.2.1 so sc r3.2.2.2.2.2.2.1 r3.2.2.2.2.2.2.2.1 wo wc fb fe fo fc rm r3.2.2.2.2.2.2.2.2.1 r3.2.2.2.2.2.2.2.2.2.1 kn r4.2.1 r4.2.2.1 r4.2.2.2.1 r4.2.2.2.2.1 r4.2.2.2.2.2.1 mov msp r4.2.2.2.2.2.2.1 r4.2.2.2.2.2.2.2.1 mwi r4.2.2.2.2.2.2.2.2.1 r4.2.2.2.2.2.2.2.2.2.1 mkn r4.2.2.2.2.2.2.2.2.2.2 r3.2.2.2.2.2.2.2.2.2.2 x4
    else none
  else none
theorem flaw_516_e {L : Nat} {xs : Nat → Int32} {K : kFT} (ce : Nat → Int64) (fr : Int64) (un : Int64) (sb : Nat → Int64) (se : Nat → Int64) (so : Nat → Int32) (sc : Int32) (wb : Nat → Int64) (we : Nat → Int64) (wo : Nat → Int32) (wc : Int32) (fb : Nat → Int64) (fe : Nat → Int64) (fo : Nat → Int32) (fc : Int32) (rm : Nat → Int32) (ac : Int32) (rf : Int32) (kn : Int32) (mce : Nat → Int64) (mfr : Int64) (mun : Int64) (mbe : Nat → Int64) (men : Nat → Int64) (mov : Nat → Int32) (msp : Int32) (mwb : Nat → Int64) (mwe : Nat → Int64) (mwi : Int32) (mac : Int32) (mre : Int32) (mkn : Int32) (mth : Int32) (on : Int64) (x4 : Int32) : flaw_516 L xs K ce fr un sb se so sc wb we wo wc fb fe fo fc rm ac rf kn mce mfr mun mbe men mov msp mwb mwe mwi mac mre mkn mth on x4 =
  if ix (x4 + 1) L then
    if ix (x4 + 2) L then
      (f_L_shift ce fr un sb se sc wb we wc ac rf on (xs (x4 + 1).toNatClampNeg) (xs (x4 + 2).toNatClampNeg)).bind fun r3 =>
      (f_X3_shift mce mfr mun mbe men msp mwb mwe mwi mac mre (xs (x4 + 1).toNatClampNeg) (xs (x4 + 2).toNatClampNeg)).bind fun r4 =>
      K r3.2.1 r3.2.2.1 r3.2.2.2.1 r3.2.2.2.2.1 r3.2.2.2.2.2.1 so sc r3.2.2.2.2.2.2.1 r3.2.2.2.2.2.2.2.1 wo wc fb fe fo fc rm r3.2.2.2.2.2.2.2.2.1 r3.2.2.2.2.2.2.2.2.2.1 kn r4.2.1 r4.2.2.1 r4.2.2.2.1 r4.2.2.2.2.1 r4.2.2.2.2.2.1 mov msp r4.2.2.2.2.2.2.1 r4.2.2.2.2.2.2.2.1 mwi r4.2.2.2.2.2.2.2.2.1 r4.2.2.2.2.2.2.2.2.2.1 mkn r4.2.2.2.2.2.2.2.2.2.2 r3.2.2.2.2.2.2.2.2.2.2 x4
    else none
  else none := rfl
set_option maxHeartbeats 8000000 in
set_option maxRecDepth 100000 in
theorem law_5 {p : Program} {l : Launch} {e : Env} {s : State} {m : MethodId} {below : List Frame} {meth : Method} {c : Code} {dC : Nat → ClassId} {dI : Nat → Nat → Nat} {cB cI cJ cZ : ClassId} {b9 L : Nat} {xs : Nat → Int32} {A : Nat → Prop} (hl9 : l.stackTraces = false) (C0 : kLw p s m c b9 L xs A) (hK : va_K (dC, dI) vwCl (kTy cB cI cJ cZ) s) {a : Nat → Nat} {o : Nat} (K : kFT) (bK sK : Nat) (hK9 : kGo p l e s m below meth c dC dI cB cI cJ cZ b9 A a o 1845 bK sK K) : kGo p l e s m below meth c dC dI cB cI cJ cZ b9 A a o 516 (6 + bK) (86 + sK) (flaw_516 L xs K) := by
  obtain ⟨hx, hb, hml, hown, hts, hX, hbl, hA, hbA, hG, hZ⟩ := C0
  intro ce fr un sb se so sc wb we wo wc fb fe fo fc rm ac rf kn mce mfr mun mbe men mov msp mwb mwe mwi mac mre mkn mth on ov x4 b H locs kc ks hkc hks hP hD hS ls hl h
  have h := (flaw_516_e ce fr un sb se so sc wb we wo wc fb fe fo fc rm ac rf kn mce mfr mun mbe men mov msp mwb mwe mwi mac mre mkn mth on x4).symm.trans h
  refine lv_aload_n hx hb (kdr dgL_law_387 8 6 rfl rfl) rfl (lv_at hl 1 rfl) ?_
  obtain ⟨z0, h⟩ := g_if h
  refine kld (v := 1) hx hb (kdr dgL_law_387 8 7 rfl rfl) rfl (lv_at hl 0 rfl) (kdr dgL_law_387 8 8 rfl rfl) (lv_at hl 4 rfl) (kdr dgL_law_387 8 9 rfl rfl) (by decide) (kdr dgL_law_387 9 0 rfl rfl) hX hbl hbA hS (ix_in z0) (kdr dgL_law_387 9 1 rfl rfl) ?_
  obtain ⟨z1, h⟩ := g_if h
  refine kld (v := 2) hx hb (kdr dgL_law_387 9 2 rfl rfl) rfl (lv_at hl 0 rfl) (kdr dgL_law_387 9 3 rfl rfl) (lv_at hl 4 rfl) (kdr dgL_law_387 9 4 rfl rfl) (by decide) (kdr dgL_law_387 9 5 rfl rfl) hX hbl hbA hS (ix_in z1) (kdr dgL_law_387 9 6 rfl rfl) ?_
  refine lv_aload_n hx hb (kdr dgL_law_387 9 7 rfl rfl) rfl (lv_at hl 3 rfl) ?_
  obtain ⟨r3, g3, h⟩ := g_b h
  refine kq_i ((wSB cI cJ cZ a r3.2.1 r3.2.2.1 r3.2.2.2.1 r3.2.2.2.2.1 r3.2.2.2.2.2.1 so sc r3.2.2.2.2.2.2.1 r3.2.2.2.2.2.2.2.1 wo wc fb fe fo fc rm r3.2.2.2.2.2.2.2.2.1 r3.2.2.2.2.2.2.2.2.2.1 kn) ++ (wMo cJ cZ b mce mfr mun mbe men mov msp mwb mwe mwi mac mre mkn mth) ++ (wO o r3.2.2.2.2.2.2.2.2.2.2 ov)) (fun qP qD qF => vx_runSW (As := [.ref (a 0), .int (xs (x4 + 1).toNatClampNeg), .int (xs (x4 + 2).toNatClampNeg), .ref o]) (rest := []) ⟨hx, hb, hml, hown, hts⟩ (c_L_shift l hl9 dC dI cB cI cJ cZ a o _ ce fr un sb se so sc wb we wo wc fb fe fo fc rm ac rf kn on ov (xs (x4 + 1).toNatClampNeg) (xs (x4 + 2).toNatClampNeg) r3 g3) (kcwSW hts kw_547 kv_L_shift rfl rfl ⟨(Nat.le_of_ble_eq_true rfl), (Nat.le_of_ble_eq_true rfl)⟩) (kpSXq (A := A) qP hK qD hG hZ hS qF) rfl rfl hl.1 rfl (lv_room (Nat.le_of_ble_eq_true rfl)) (kdr dgL_law_387 9 8 rfl rfl) ⟨by show _ ≤ (600128 : Nat); omega, by show _ ≤ (7301098 : Nat); omega⟩) hP hD hS hA (kFr_2 (kFr_l kFr_SB) kFr_o) (fun H locs hP hD hS br3 => ?_)
  refine lv_istore (lv' := (kvI 5 r3.1 (kvA 0 b9 (kvA 1 (a 0) (kvA 2 (b 0) (kvA 3 o (kvI 4 x4 kvE))))))) hx hb (kdr dgL_law_387 9 9 rfl rfl) hl (by decide) rfl (fun ls hl => ?_)
  refine lv_aload_n hx hb (kdr dgL_law_535 0 0 rfl rfl) rfl (lv_at hl 3 rfl) ?_
  refine kld (v := 1) hx hb (kdr dgL_law_535 0 1 rfl rfl) rfl (lv_at hl 1 rfl) (kdr dgL_law_535 0 2 rfl rfl) (lv_at hl 5 rfl) (kdr dgL_law_535 0 3 rfl rfl) (by decide) (kdr dgL_law_535 0 4 rfl rfl) hX hbl hbA hS (ix_in z0) (kdr dgL_law_535 0 5 rfl rfl) ?_
  refine kld (v := 2) hx hb (kdr dgL_law_535 0 6 rfl rfl) rfl (lv_at hl 1 rfl) (kdr dgL_law_535 0 7 rfl rfl) (lv_at hl 5 rfl) (kdr dgL_law_535 0 8 rfl rfl) (by decide) (kdr dgL_law_535 0 9 rfl rfl) hX hbl hbA hS (ix_in z1) (kdr dgL_law_535 1 0 rfl rfl) ?_
  obtain ⟨r4, g4, h⟩ := g_b h
  refine kcall_sh (fun u4 => (wMo cJ cZ u4 r4.2.1 r4.2.2.1 r4.2.2.2.1 r4.2.2.2.2.1 r4.2.2.2.2.2.1 mov msp r4.2.2.2.2.2.2.1 r4.2.2.2.2.2.2.2.1 mwi r4.2.2.2.2.2.2.2.2.1 r4.2.2.2.2.2.2.2.2.2.1 mkn r4.2.2.2.2.2.2.2.2.2.2)) (va_runV (As := [.int (xs (x4 + 1).toNatClampNeg), .int (xs (x4 + 2).toNatClampNeg)]) (rest := []) ⟨hx, hb, hml, hown, hts⟩ (c_X3_shift l dC dI cB cI cJ cZ b _ mce mfr mun mbe men mov msp mwb mwe mwi mac mre mkn mth (xs (x4 + 1).toNatClampNeg) (xs (x4 + 2).toNatClampNeg) r4 g4) (kcwV hts kw_1178 kv_X3_shift rfl rfl ⟨(Nat.le_of_ble_eq_true rfl), (Nat.le_of_ble_eq_true rfl)⟩) (kpV (A := A) (hP.sub [15, 16, 17, 18, 19, 20, 21] rfl) hK (hD.sub [15, 16, 17, 18, 19, 20, 21] (by decide) rfl) hG (krecv_5 (q0 := 15) hK hP rfl)) rfl rfl hl.1 rfl (lv_room (Nat.le_of_ble_eq_true rfl)) (kdr dgL_law_535 1 1 rfl rfl) ⟨by show _ ≤ (600128 : Nat); omega, by show _ ≤ (7301098 : Nat); omega⟩) hP hD hS hA [15, 16, 17, 18, 19, 20, 21] [0, 1, 2, 3, 4, 5, 6, 7, 8, 9, 10, 11, 12, 13, 14, 22] rfl [((a 0), .inr (3, [.ref (a 1), .long r3.2.2.1, .long r3.2.2.2.1, .ref (a 2), .ref (a 6), .ref (a 10), .ref (a 14), .int r3.2.2.2.2.2.2.2.2.1, .int r3.2.2.2.2.2.2.2.2.2.1, .int kn])), ((a 1), .inl (cJ, 4, .inr (.inl r3.2.1))), ((a 2), .inr (2, [.ref (a 3), .ref (a 4), .ref (a 5), .int sc])), ((a 3), .inl (cJ, 11, .inr (.inl r3.2.2.2.2.1))), ((a 4), .inl (cJ, 11, .inr (.inl r3.2.2.2.2.2.1))), ((a 5), .inl (cZ, 11, .inl so)), ((a 6), .inr (2, [.ref (a 7), .ref (a 8), .ref (a 9), .int wc])), ((a 7), .inl (cJ, 11, .inr (.inl r3.2.2.2.2.2.2.1))), ((a 8), .inl (cJ, 11, .inr (.inl r3.2.2.2.2.2.2.2.1))), ((a 9), .inl (cZ, 11, .inl wo)), ((a 10), .inr (2, [.ref (a 11), .ref (a 12), .ref (a 13), .int fc])), ((a 11), .inl (cJ, 11, .inr (.inl fb))), ((a 12), .inl (cJ, 11, .inr (.inl fe))), ((a 13), .inl (cZ, 11, .inl fo)), ((a 14), .inl (cI, 11, .inl rm)), (o, .inr (4, [.long r3.2.2.2.2.2.2.2.2.2.2, ov]))] rfl (by decide) (by decide) (fun u4 H locs hu hP hD hS => ?_)
  have hP := hP.sub (ws' := ((wSB cI cJ cZ a r3.2.1 r3.2.2.1 r3.2.2.2.1 r3.2.2.2.2.1 r3.2.2.2.2.2.1 so sc r3.2.2.2.2.2.2.1 r3.2.2.2.2.2.2.2.1 wo wc fb fe fo fc rm r3.2.2.2.2.2.2.2.2.1 r3.2.2.2.2.2.2.2.2.2.1 kn) ++ (wMo cJ cZ u4 r4.2.1 r4.2.2.1 r4.2.2.2.1 r4.2.2.2.2.1 r4.2.2.2.2.2.1 mov msp r4.2.2.2.2.2.2.1 r4.2.2.2.2.2.2.2.1 mwi r4.2.2.2.2.2.2.2.2.1 r4.2.2.2.2.2.2.2.2.2.1 mkn r4.2.2.2.2.2.2.2.2.2.2) ++ (wO o r3.2.2.2.2.2.2.2.2.2.2 ov))) [0, 1, 2, 3, 4, 5, 6, 7, 8, 9, 10, 11, 12, 13, 14, 16, 17, 18, 19, 20, 21, 22, 15] rfl
  have hD := hD.sub (ws' := ((wSB cI cJ cZ a r3.2.1 r3.2.2.1 r3.2.2.2.1 r3.2.2.2.2.1 r3.2.2.2.2.2.1 so sc r3.2.2.2.2.2.2.1 r3.2.2.2.2.2.2.2.1 wo wc fb fe fo fc rm r3.2.2.2.2.2.2.2.2.1 r3.2.2.2.2.2.2.2.2.2.1 kn) ++ (wMo cJ cZ u4 r4.2.1 r4.2.2.1 r4.2.2.2.1 r4.2.2.2.2.1 r4.2.2.2.2.2.1 mov msp r4.2.2.2.2.2.2.1 r4.2.2.2.2.2.2.2.1 mwi r4.2.2.2.2.2.2.2.2.1 r4.2.2.2.2.2.2.2.2.2.1 mkn r4.2.2.2.2.2.2.2.2.2.2) ++ (wO o r3.2.2.2.2.2.2.2.2.2.2 ov))) [0, 1, 2, 3, 4, 5, 6, 7, 8, 9, 10, 11, 12, 13, 14, 16, 17, 18, 19, 20, 21, 22, 15] (by decide) rfl
  rw [← hu] at hl
  refine lv_istore (lv' := (kvI 6 r4.1 (kvI 5 r3.1 (kvA 0 b9 (kvA 1 (a 0) (kvA 2 (u4 0) (kvA 3 o (kvI 4 x4 kvE)))))))) hx hb (kdr dgL_law_535 1 2 rfl rfl) hl (by decide) rfl (fun ls hl => ?_)
  refine lv_goto (tgt := 1845) hx hb (kdr dgL_law_535 1 3 rfl rfl) (by decide) ?_
  exact hK9 r3.2.1 r3.2.2.1 r3.2.2.2.1 r3.2.2.2.2.1 r3.2.2.2.2.2.1 so sc r3.2.2.2.2.2.2.1 r3.2.2.2.2.2.2.2.1 wo wc fb fe fo fc rm r3.2.2.2.2.2.2.2.2.1 r3.2.2.2.2.2.2.2.2.2.1 kn r4.2.1 r4.2.2.1 r4.2.2.2.1 r4.2.2.2.2.1 r4.2.2.2.2.2.1 mov msp r4.2.2.2.2.2.2.1 r4.2.2.2.2.2.2.2.1 mwi r4.2.2.2.2.2.2.2.2.1 r4.2.2.2.2.2.2.2.2.2.1 mkn r4.2.2.2.2.2.2.2.2.2.2 r3.2.2.2.2.2.2.2.2.2.2 ov x4 u4 _ _ _ _ (by omega) (by omega) hP hD hS ls (lv_sub hl [2, 3, 4, 5, 6] rfl) h
noncomputable def flaw_556 (L : Nat) (xs : Nat → Int32) (K : kFT) (ce : Nat → Int64) (fr : Int64) (un : Int64) (sb : Nat → Int64) (se : Nat → Int64) (so : Nat → Int32) (sc : Int32) (wb : Nat → Int64) (we : Nat → Int64) (wo : Nat → Int32) (wc : Int32) (fb : Nat → Int64) (fe : Nat → Int64) (fo : Nat → Int32) (fc : Int32) (rm : Nat → Int32) (ac : Int32) (rf : Int32) (kn : Int32) (mce : Nat → Int64) (mfr : Int64) (mun : Int64) (mbe : Nat → Int64) (men : Nat → Int64) (mov : Nat → Int32) (msp : Int32) (mwb : Nat → Int64) (mwe : Nat → Int64) (mwi : Int32) (mac : Int32) (mre : Int32) (mkn : Int32) (mth : Int32) (on : Int64) (x4 : Int32) : Option Int32 :=
  if ix (x4 + 1) L then
    if ix (x4 + 2) L then
      (f_L_open ce fr un sc ac rf on (xs (x4 + 1).toNatClampNeg) (xs (x4 + 2).toNatClampNeg)).bind fun r3 =>
      (f_X3_open mce mfr mun msp mac mre (xs (x4 + 1).toNatClampNeg) (xs (x4 + 2).toNatClampNeg)).bind fun r4 =>
      K ce r3.2.1 r3.2.2.1 sb se so r3.2.2.2.1 wb we wo wc fb fe fo fc rm r3.2.2.2.2.1 r3.2.2.2.2.2.1 kn mce r4.2.1 r4.2.2.1 mbe men mov r4.2.2.2.1 mwb mwe mwi r4.2.2.2.2.1 r4.2.2.2.2.2.1 mkn r4.2.2.2.2.2.2 r3.2.2.2.2.2.2 x4
    else none
  else none
theorem flaw_556_e {L : Nat} {xs : Nat → Int32} {K : kFT} (ce : Nat → Int64) (fr : Int64) (un : Int64) (sb : Nat → Int64) (se : Nat → Int64) (so : Nat → Int32) (sc : Int32) (wb : Nat → Int64) (we : Nat → Int64) (wo : Nat → Int32) (wc : Int32) (fb : Nat → Int64) (fe : Nat → Int64) (fo : Nat → Int32) (fc : Int32) (rm : Nat → Int32) (ac : Int32) (rf : Int32) (kn : Int32) (mce : Nat → Int64) (mfr : Int64) (mun : Int64) (mbe : Nat → Int64) (men : Nat → Int64) (mov : Nat → Int32) (msp : Int32) (mwb : Nat → Int64) (mwe : Nat → Int64) (mwi : Int32) (mac : Int32) (mre : Int32) (mkn : Int32) (mth : Int32) (on : Int64) (x4 : Int32) : flaw_556 L xs K ce fr un sb se so sc wb we wo wc fb fe fo fc rm ac rf kn mce mfr mun mbe men mov msp mwb mwe mwi mac mre mkn mth on x4 =
  if ix (x4 + 1) L then
    if ix (x4 + 2) L then
      (f_L_open ce fr un sc ac rf on (xs (x4 + 1).toNatClampNeg) (xs (x4 + 2).toNatClampNeg)).bind fun r3 =>
      (f_X3_open mce mfr mun msp mac mre (xs (x4 + 1).toNatClampNeg) (xs (x4 + 2).toNatClampNeg)).bind fun r4 =>
      K ce r3.2.1 r3.2.2.1 sb se so r3.2.2.2.1 wb we wo wc fb fe fo fc rm r3.2.2.2.2.1 r3.2.2.2.2.2.1 kn mce r4.2.1 r4.2.2.1 mbe men mov r4.2.2.2.1 mwb mwe mwi r4.2.2.2.2.1 r4.2.2.2.2.2.1 mkn r4.2.2.2.2.2.2 r3.2.2.2.2.2.2 x4
    else none
  else none := rfl
set_option maxHeartbeats 8000000 in
set_option maxRecDepth 100000 in
theorem law_6 {p : Program} {l : Launch} {e : Env} {s : State} {m : MethodId} {below : List Frame} {meth : Method} {c : Code} {dC : Nat → ClassId} {dI : Nat → Nat → Nat} {cB cI cJ cZ : ClassId} {b9 L : Nat} {xs : Nat → Int32} {A : Nat → Prop} (hl9 : l.stackTraces = false) (C0 : kLw p s m c b9 L xs A) (hK : va_K (dC, dI) vwCl (kTy cB cI cJ cZ) s) {a : Nat → Nat} {o : Nat} (K : kFT) (bK sK : Nat) (hK9 : kGo p l e s m below meth c dC dI cB cI cJ cZ b9 A a o 1845 bK sK K) : kGo p l e s m below meth c dC dI cB cI cJ cZ b9 A a o 556 (1 + bK) (6 + sK) (flaw_556 L xs K) := by
  obtain ⟨hx, hb, hml, hown, hts, hX, hbl, hA, hbA, hG, hZ⟩ := C0
  intro ce fr un sb se so sc wb we wo wc fb fe fo fc rm ac rf kn mce mfr mun mbe men mov msp mwb mwe mwi mac mre mkn mth on ov x4 b H locs kc ks hkc hks hP hD hS ls hl h
  have h := (flaw_556_e ce fr un sb se so sc wb we wo wc fb fe fo fc rm ac rf kn mce mfr mun mbe men mov msp mwb mwe mwi mac mre mkn mth on x4).symm.trans h
  refine lv_aload_n hx hb (kdr dgL_law_535 1 4 rfl rfl) rfl (lv_at hl 1 rfl) ?_
  obtain ⟨z0, h⟩ := g_if h
  refine kld (v := 1) hx hb (kdr dgL_law_535 1 5 rfl rfl) rfl (lv_at hl 0 rfl) (kdr dgL_law_535 1 6 rfl rfl) (lv_at hl 4 rfl) (kdr dgL_law_535 1 7 rfl rfl) (by decide) (kdr dgL_law_535 1 8 rfl rfl) hX hbl hbA hS (ix_in z0) (kdr dgL_law_535 1 9 rfl rfl) ?_
  obtain ⟨z1, h⟩ := g_if h
  refine kld (v := 2) hx hb (kdr dgL_law_535 2 0 rfl rfl) rfl (lv_at hl 0 rfl) (kdr dgL_law_535 2 1 rfl rfl) (lv_at hl 4 rfl) (kdr dgL_law_535 2 2 rfl rfl) (by decide) (kdr dgL_law_535 2 3 rfl rfl) hX hbl hbA hS (ix_in z1) (kdr dgL_law_535 2 4 rfl rfl) ?_
  refine lv_aload_n hx hb (kdr dgL_law_535 2 5 rfl rfl) rfl (lv_at hl 3 rfl) ?_
  obtain ⟨r3, g3, h⟩ := g_b h
  refine kq_i ((wSB cI cJ cZ a ce r3.2.1 r3.2.2.1 sb se so r3.2.2.2.1 wb we wo wc fb fe fo fc rm r3.2.2.2.2.1 r3.2.2.2.2.2.1 kn) ++ (wMo cJ cZ b mce mfr mun mbe men mov msp mwb mwe mwi mac mre mkn mth) ++ (wO o r3.2.2.2.2.2.2 ov)) (fun qP qD qF => vx_runSW (As := [.ref (a 0), .int (xs (x4 + 1).toNatClampNeg), .int (xs (x4 + 2).toNatClampNeg), .ref o]) (rest := []) ⟨hx, hb, hml, hown, hts⟩ (c_L_open l hl9 dC dI cB cI cJ cZ a o _ ce fr un sb se so sc wb we wo wc fb fe fo fc rm ac rf kn on ov (xs (x4 + 1).toNatClampNeg) (xs (x4 + 2).toNatClampNeg) r3 g3) (kcwSW hts kw_567 kv_L_open rfl rfl ⟨(Nat.le_of_ble_eq_true rfl), (Nat.le_of_ble_eq_true rfl)⟩) (kpSXq (A := A) qP hK qD hG hZ hS qF) rfl rfl hl.1 rfl (lv_room (Nat.le_of_ble_eq_true rfl)) (kdr dgL_law_535 2 6 rfl rfl) ⟨by show _ ≤ (600128 : Nat); omega, by show _ ≤ (7301098 : Nat); omega⟩) hP hD hS hA (kFr_2 (kFr_l kFr_SB) kFr_o) (fun H locs hP hD hS br3 => ?_)
  refine lv_istore (lv' := (kvI 5 r3.1 (kvA 0 b9 (kvA 1 (a 0) (kvA 2 (b 0) (kvA 3 o (kvI 4 x4 kvE))))))) hx hb (kdr dgL_law_535 2 7 rfl rfl) hl (by decide) rfl (fun ls hl => ?_)
  refine lv_aload_n hx hb (kdr dgL_law_535 2 8 rfl rfl) rfl (lv_at hl 3 rfl) ?_
  refine kld (v := 1) hx hb (kdr dgL_law_535 2 9 rfl rfl) rfl (lv_at hl 1 rfl) (kdr dgL_law_535 3 0 rfl rfl) (lv_at hl 5 rfl) (kdr dgL_law_535 3 1 rfl rfl) (by decide) (kdr dgL_law_535 3 2 rfl rfl) hX hbl hbA hS (ix_in z0) (kdr dgL_law_535 3 3 rfl rfl) ?_
  refine kld (v := 2) hx hb (kdr dgL_law_535 3 4 rfl rfl) rfl (lv_at hl 1 rfl) (kdr dgL_law_535 3 5 rfl rfl) (lv_at hl 5 rfl) (kdr dgL_law_535 3 6 rfl rfl) (by decide) (kdr dgL_law_535 3 7 rfl rfl) hX hbl hbA hS (ix_in z1) (kdr dgL_law_535 3 8 rfl rfl) ?_
  obtain ⟨r4, g4, h⟩ := g_b h
  refine kq_i ((wSB cI cJ cZ a ce r3.2.1 r3.2.2.1 sb se so r3.2.2.2.1 wb we wo wc fb fe fo fc rm r3.2.2.2.2.1 r3.2.2.2.2.2.1 kn) ++ (wMo cJ cZ b mce r4.2.1 r4.2.2.1 mbe men mov r4.2.2.2.1 mwb mwe mwi r4.2.2.2.2.1 r4.2.2.2.2.2.1 mkn r4.2.2.2.2.2.2) ++ (wO o r3.2.2.2.2.2.2 ov)) (fun qP qD qF => va_runV (As := [.int (xs (x4 + 1).toNatClampNeg), .int (xs (x4 + 2).toNatClampNeg)]) (rest := []) ⟨hx, hb, hml, hown, hts⟩ (c_X3_open l dC dI cB cI cJ cZ b _ mce mfr mun mbe men mov msp mwb mwe mwi mac mre mkn mth (xs (x4 + 1).toNatClampNeg) (xs (x4 + 2).toNatClampNeg) r4 g4) (kcwV hts kw_1188 kv_X3_open rfl rfl ⟨(Nat.le_of_ble_eq_true rfl), (Nat.le_of_ble_eq_true rfl)⟩) (kpV (A := A) qP hK qD hG (krecv_5 (q0 := 15) hK hP rfl)) rfl rfl hl.1 rfl (lv_room (Nat.le_of_ble_eq_true rfl)) (kdr dgL_law_535 3 9 rfl rfl) ⟨by show _ ≤ (600128 : Nat); omega, by show _ ≤ (7301098 : Nat); omega⟩) hP hD hS hA (kFr_l (kFr_r kFr_Mo)) (fun H locs hP hD hS br4 => ?_)
  refine lv_istore (lv' := (kvI 6 r4.1 (kvI 5 r3.1 (kvA 0 b9 (kvA 1 (a 0) (kvA 2 (b 0) (kvA 3 o (kvI 4 x4 kvE)))))))) hx hb (kdr dgL_law_535 4 0 rfl rfl) hl (by decide) rfl (fun ls hl => ?_)
  refine lv_goto (tgt := 1845) hx hb (kdr dgL_law_535 4 1 rfl rfl) (by decide) ?_
  exact hK9 ce r3.2.1 r3.2.2.1 sb se so r3.2.2.2.1 wb we wo wc fb fe fo fc rm r3.2.2.2.2.1 r3.2.2.2.2.2.1 kn mce r4.2.1 r4.2.2.1 mbe men mov r4.2.2.2.1 mwb mwe mwi r4.2.2.2.2.1 r4.2.2.2.2.2.1 mkn r4.2.2.2.2.2.2 r3.2.2.2.2.2.2 ov x4 b _ _ _ _ (by omega) (by omega) hP hD hS ls (lv_sub hl [2, 3, 4, 5, 6] rfl) h
noncomputable def flaw_656 (L : Nat) (xs : Nat → Int32) (K : kFT) (ce : Nat → Int64) (fr : Int64) (un : Int64) (sb : Nat → Int64) (se : Nat → Int64) (so : Nat → Int32) (sc : Int32) (wb : Nat → Int64) (we : Nat → Int64) (wo : Nat → Int32) (wc : Int32) (fb : Nat → Int64) (fe : Nat → Int64) (fo : Nat → Int32) (fc : Int32) (rm : Nat → Int32) (ac : Int32) (rf : Int32) (kn : Int32) (mce : Nat → Int64) (mfr : Int64) (mun : Int64) (mbe : Nat → Int64) (men : Nat → Int64) (mov : Nat → Int32) (msp : Int32) (mwb : Nat → Int64) (mwe : Nat → Int64) (mwi : Int32) (mac : Int32) (mre : Int32) (mkn : Int32) (mth : Int32) (on : Int64) (x4 : Int32) (y0 : Int32) (y1 : Int32) (y2 : Int32) : Option Int32 :=
  (f_X3_book mce mfr mun mbe men mov msp mac mre y2 y1 y0).bind fun r1 =>
  K ce fr un sb se so sc wb we wo wc fb fe fo fc rm ac rf kn mce mfr mun r1.2.1 r1.2.2.1 r1.2.2.2.1 r1.2.2.2.2.1 mwb mwe mwi r1.2.2.2.2.2.1 r1.2.2.2.2.2.2.1 mkn r1.2.2.2.2.2.2.2 on x4
theorem flaw_656_e {L : Nat} {xs : Nat → Int32} {K : kFT} (ce : Nat → Int64) (fr : Int64) (un : Int64) (sb : Nat → Int64) (se : Nat → Int64) (so : Nat → Int32) (sc : Int32) (wb : Nat → Int64) (we : Nat → Int64) (wo : Nat → Int32) (wc : Int32) (fb : Nat → Int64) (fe : Nat → Int64) (fo : Nat → Int32) (fc : Int32) (rm : Nat → Int32) (ac : Int32) (rf : Int32) (kn : Int32) (mce : Nat → Int64) (mfr : Int64) (mun : Int64) (mbe : Nat → Int64) (men : Nat → Int64) (mov : Nat → Int32) (msp : Int32) (mwb : Nat → Int64) (mwe : Nat → Int64) (mwi : Int32) (mac : Int32) (mre : Int32) (mkn : Int32) (mth : Int32) (on : Int64) (x4 : Int32) (y0 : Int32) (y1 : Int32) (y2 : Int32) : flaw_656 L xs K ce fr un sb se so sc wb we wo wc fb fe fo fc rm ac rf kn mce mfr mun mbe men mov msp mwb mwe mwi mac mre mkn mth on x4 y0 y1 y2 =
  (f_X3_book mce mfr mun mbe men mov msp mac mre y2 y1 y0).bind fun r1 =>
  K ce fr un sb se so sc wb we wo wc fb fe fo fc rm ac rf kn mce mfr mun r1.2.1 r1.2.2.1 r1.2.2.2.1 r1.2.2.2.2.1 mwb mwe mwi r1.2.2.2.2.2.1 r1.2.2.2.2.2.2.1 mkn r1.2.2.2.2.2.2.2 on x4 := rfl
noncomputable def flaw_623 (L : Nat) (xs : Nat → Int32) (K : kFT) (ce : Nat → Int64) (fr : Int64) (un : Int64) (sb : Nat → Int64) (se : Nat → Int64) (so : Nat → Int32) (sc : Int32) (wb : Nat → Int64) (we : Nat → Int64) (wo : Nat → Int32) (wc : Int32) (fb : Nat → Int64) (fe : Nat → Int64) (fo : Nat → Int32) (fc : Int32) (rm : Nat → Int32) (ac : Int32) (rf : Int32) (kn : Int32) (mce : Nat → Int64) (mfr : Int64) (mun : Int64) (mbe : Nat → Int64) (men : Nat → Int64) (mov : Nat → Int32) (msp : Int32) (mwb : Nat → Int64) (mwe : Nat → Int64) (mwi : Int32) (mac : Int32) (mre : Int32) (mkn : Int32) (mth : Int32) (on : Int64) (x4 : Int32) (y0 : Int32) (y1 : Int32) (y2 : Int32) : Option Int32 :=
  (f_L_book ce fr un sb se so sc ac rf on y2 y1 y0).bind fun r1 =>
  if ix (x4 + 1) L then
    if ix (x4 + 2) L then
      if ix (x4 + 3) L then
        if (xs (x4 + 3).toNatClampNeg) = 0 then
          flaw_656 L xs K ce fr un r1.2.1 r1.2.2.1 r1.2.2.2.1 r1.2.2.2.2.1 wb we wo wc fb fe fo fc rm r1.2.2.2.2.2.1 r1.2.2.2.2.2.2.1 kn mce mfr mun mbe men mov msp mwb mwe mwi mac mre mkn mth r1.2.2.2.2.2.2.2 x4 0 (xs (x4 + 2).toNatClampNeg) (xs (x4 + 1).toNatClampNeg)
        else
          flaw_656 L xs K ce fr un r1.2.1 r1.2.2.1 r1.2.2.2.1 r1.2.2.2.2.1 wb we wo wc fb fe fo fc rm r1.2.2.2.2.2.1 r1.2.2.2.2.2.2.1 kn mce mfr mun mbe men mov msp mwb mwe mwi mac mre mkn mth r1.2.2.2.2.2.2.2 x4 1 (xs (x4 + 2).toNatClampNeg) (xs (x4 + 1).toNatClampNeg)
      else none
    else none
  else none
theorem flaw_623_e {L : Nat} {xs : Nat → Int32} {K : kFT} (ce : Nat → Int64) (fr : Int64) (un : Int64) (sb : Nat → Int64) (se : Nat → Int64) (so : Nat → Int32) (sc : Int32) (wb : Nat → Int64) (we : Nat → Int64) (wo : Nat → Int32) (wc : Int32) (fb : Nat → Int64) (fe : Nat → Int64) (fo : Nat → Int32) (fc : Int32) (rm : Nat → Int32) (ac : Int32) (rf : Int32) (kn : Int32) (mce : Nat → Int64) (mfr : Int64) (mun : Int64) (mbe : Nat → Int64) (men : Nat → Int64) (mov : Nat → Int32) (msp : Int32) (mwb : Nat → Int64) (mwe : Nat → Int64) (mwi : Int32) (mac : Int32) (mre : Int32) (mkn : Int32) (mth : Int32) (on : Int64) (x4 : Int32) (y0 : Int32) (y1 : Int32) (y2 : Int32) : flaw_623 L xs K ce fr un sb se so sc wb we wo wc fb fe fo fc rm ac rf kn mce mfr mun mbe men mov msp mwb mwe mwi mac mre mkn mth on x4 y0 y1 y2 =
  (f_L_book ce fr un sb se so sc ac rf on y2 y1 y0).bind fun r1 =>
  if ix (x4 + 1) L then
    if ix (x4 + 2) L then
      if ix (x4 + 3) L then
        if (xs (x4 + 3).toNatClampNeg) = 0 then
          flaw_656 L xs K ce fr un r1.2.1 r1.2.2.1 r1.2.2.2.1 r1.2.2.2.2.1 wb we wo wc fb fe fo fc rm r1.2.2.2.2.2.1 r1.2.2.2.2.2.2.1 kn mce mfr mun mbe men mov msp mwb mwe mwi mac mre mkn mth r1.2.2.2.2.2.2.2 x4 0 (xs (x4 + 2).toNatClampNeg) (xs (x4 + 1).toNatClampNeg)
        else
          flaw_656 L xs K ce fr un r1.2.1 r1.2.2.1 r1.2.2.2.1 r1.2.2.2.2.1 wb we wo wc fb fe fo fc rm r1.2.2.2.2.2.1 r1.2.2.2.2.2.2.1 kn mce mfr mun mbe men mov msp mwb mwe mwi mac mre mkn mth r1.2.2.2.2.2.2.2 x4 1 (xs (x4 + 2).toNatClampNeg) (xs (x4 + 1).toNatClampNeg)
      else none
    else none
  else none := rfl
noncomputable def flaw_596 (L : Nat) (xs : Nat → Int32) (K : kFT) (ce : Nat → Int64) (fr : Int64) (un : Int64) (sb : Nat → Int64) (se : Nat → Int64) (so : Nat → Int32) (sc : Int32) (wb : Nat → Int64) (we : Nat → Int64) (wo : Nat → Int32) (wc : Int32) (fb : Nat → Int64) (fe : Nat → Int64) (fo : Nat → Int32) (fc : Int32) (rm : Nat → Int32) (ac : Int32) (rf : Int32) (kn : Int32) (mce : Nat → Int64) (mfr : Int64) (mun : Int64) (mbe : Nat → Int64) (men : Nat → Int64) (mov : Nat → Int32) (msp : Int32) (mwb : Nat → Int64) (mwe : Nat → Int64) (mwi : Int32) (mac : Int32) (mre : Int32) (mkn : Int32) (mth : Int32) (on : Int64) (x4 : Int32) : Option Int32 :=
  if ix (x4 + 1) L then
    if ix (x4 + 2) L then
      if ix (x4 + 3) L then
        if (xs (x4 + 3).toNatClampNeg) = 0 then
          flaw_623 L xs K ce fr un sb se so sc wb we wo wc fb fe fo fc rm ac rf kn mce mfr mun mbe men mov msp mwb mwe mwi mac mre mkn mth on x4 0 (xs (x4 + 2).toNatClampNeg) (xs (x4 + 1).toNatClampNeg)
        else
          flaw_623 L xs K ce fr un sb se so sc wb we wo wc fb fe fo fc rm ac rf kn mce mfr mun mbe men mov msp mwb mwe mwi mac mre mkn mth on x4 1 (xs (x4 + 2).toNatClampNeg) (xs (x4 + 1).toNatClampNeg)
      else none
    else none
  else none
theorem flaw_596_e {L : Nat} {xs : Nat → Int32} {K : kFT} (ce : Nat → Int64) (fr : Int64) (un : Int64) (sb : Nat → Int64) (se : Nat → Int64) (so : Nat → Int32) (sc : Int32) (wb : Nat → Int64) (we : Nat → Int64) (wo : Nat → Int32) (wc : Int32) (fb : Nat → Int64) (fe : Nat → Int64) (fo : Nat → Int32) (fc : Int32) (rm : Nat → Int32) (ac : Int32) (rf : Int32) (kn : Int32) (mce : Nat → Int64) (mfr : Int64) (mun : Int64) (mbe : Nat → Int64) (men : Nat → Int64) (mov : Nat → Int32) (msp : Int32) (mwb : Nat → Int64) (mwe : Nat → Int64) (mwi : Int32) (mac : Int32) (mre : Int32) (mkn : Int32) (mth : Int32) (on : Int64) (x4 : Int32) : flaw_596 L xs K ce fr un sb se so sc wb we wo wc fb fe fo fc rm ac rf kn mce mfr mun mbe men mov msp mwb mwe mwi mac mre mkn mth on x4 =
  if ix (x4 + 1) L then
    if ix (x4 + 2) L then
      if ix (x4 + 3) L then
        if (xs (x4 + 3).toNatClampNeg) = 0 then
          flaw_623 L xs K ce fr un sb se so sc wb we wo wc fb fe fo fc rm ac rf kn mce mfr mun mbe men mov msp mwb mwe mwi mac mre mkn mth on x4 0 (xs (x4 + 2).toNatClampNeg) (xs (x4 + 1).toNatClampNeg)
        else
          flaw_623 L xs K ce fr un sb se so sc wb we wo wc fb fe fo fc rm ac rf kn mce mfr mun mbe men mov msp mwb mwe mwi mac mre mkn mth on x4 1 (xs (x4 + 2).toNatClampNeg) (xs (x4 + 1).toNatClampNeg)
      else none
    else none
  else none := rfl
set_option maxHeartbeats 8000000 in
set_option maxRecDepth 100000 in
theorem law_7 {p : Program} {l : Launch} {e : Env} {s : State} {m : MethodId} {below : List Frame} {meth : Method} {c : Code} {dC : Nat → ClassId} {dI : Nat → Nat → Nat} {cB cI cJ cZ : ClassId} {b9 L : Nat} {xs : Nat → Int32} {A : Nat → Prop} (hl9 : l.stackTraces = false) (C0 : kLw p s m c b9 L xs A) (hK : va_K (dC, dI) vwCl (kTy cB cI cJ cZ) s) {a : Nat → Nat} {o : Nat} (K : kFT) (bK sK : Nat) (hK9 : kGo p l e s m below meth c dC dI cB cI cJ cZ b9 A a o 1845 bK sK K) : kGo p l e s m below meth c dC dI cB cI cJ cZ b9 A a o 596 (1 + bK) (6 + sK) (flaw_596 L xs K) := by
  obtain ⟨hx, hb, hml, hown, hts, hX, hbl, hA, hbA, hG, hZ⟩ := C0
  have J656 : ∀ (ce : Nat → Int64) (fr : Int64) (un : Int64) (sb : Nat → Int64) (se : Nat → Int64) (so : Nat → Int32) (sc : Int32) (wb : Nat → Int64) (we : Nat → Int64) (wo : Nat → Int32) (wc : Int32) (fb : Nat → Int64) (fe : Nat → Int64) (fo : Nat → Int32) (fc : Int32) (rm : Nat → Int32) (ac : Int32) (rf : Int32) (kn : Int32) (mce : Nat → Int64) (mfr : Int64) (mun : Int64) (mbe : Nat → Int64) (men : Nat → Int64) (mov : Nat → Int32) (msp : Int32) (mwb : Nat → Int64) (mwe : Nat → Int64) (mwi : Int32) (mac : Int32) (mre : Int32) (mkn : Int32) (mth : Int32) (on : Int64) (ov : Value) (x4 : Int32) (y0 : Int32) (y1 : Int32) (y2 : Int32) (b : Nat → Nat) (H : Heap) (locs : List Loc) (kc ks : Nat), kc + (0 + bK) ≤ 600128 → ks + (0 + sK) ≤ 7301098 → va_P (dC, dI) vwCl ((wSB cI cJ cZ a ce fr un sb se so sc wb we wo wc fb fe fo fc rm ac rf kn) ++ (wMo cJ cZ b mce mfr mun mbe men mov msp mwb mwe mwi mac mre mkn mth) ++ (wO o on ov)) H → va_D A ((wSB cI cJ cZ a ce fr un sb se so sc wb we wo wc fb fe fo fc rm ac rf kn) ++ (wMo cJ cZ b mce mfr mun mbe men mov msp mwb mwe mwi mac mre mkn mth) ++ (wO o on ov)) → va_S A s.heap H locs → ∀ (ls : Array Slot), lv_has ls 7 (kvA 0 b9 (kvA 1 (a 0) (kvA 2 (b 0) (kvA 3 o (kvI 4 x4 kvE))))) → flaw_656 L xs K ce fr un sb se so sc wb we wo wc fb fe fo fc rm ac rf kn mce mfr mun mbe men mov msp mwb mwe mwi mac mre mkn mth on x4 y0 y1 y2 = some 1 → W p l e room_1 s m #[Value.ref b9] below meth c H locs kc ks (lw_Z below #[Value.ref b9] s) (F0 m 656 ls [.int y0, .int y1, .int y2, .ref (b 0)]) := by
    intro ce fr un sb se so sc wb we wo wc fb fe fo fc rm ac rf kn mce mfr mun mbe men mov msp mwb mwe mwi mac mre mkn mth on ov x4 y0 y1 y2 b H locs kc ks hkc hks hP hD hS ls hl h
    have h := (flaw_656_e ce fr un sb se so sc wb we wo wc fb fe fo fc rm ac rf kn mce mfr mun mbe men mov msp mwb mwe mwi mac mre mkn mth on x4 y0 y1 y2).symm.trans h
    obtain ⟨r1, g1, h⟩ := g_b h
    refine kq_i ((wSB cI cJ cZ a ce fr un sb se so sc wb we wo wc fb fe fo fc rm ac rf kn) ++ (wMo cJ cZ b mce mfr mun r1.2.1 r1.2.2.1 r1.2.2.2.1 r1.2.2.2.2.1 mwb mwe mwi r1.2.2.2.2.2.1 r1.2.2.2.2.2.2.1 mkn r1.2.2.2.2.2.2.2) ++ (wO o on ov)) (fun qP qD qF => va_runV (As := [.int y2, .int y1, .int y0]) (rest := []) ⟨hx, hb, hml, hown, hts⟩ (c_X3_book l dC dI cB cI cJ cZ b _ mce mfr mun mbe men mov msp mwb mwe mwi mac mre mkn mth y2 y1 y0 r1 g1) (kcwV hts kw_1192 kv_X3_book rfl rfl ⟨(Nat.le_of_ble_eq_true rfl), (Nat.le_of_ble_eq_true rfl)⟩) (kpV (A := A) qP hK qD hG (krecv_5 (q0 := 15) hK hP rfl)) rfl rfl hl.1 rfl (lv_room (Nat.le_of_ble_eq_true rfl)) (kdr dgL_law_535 8 5 rfl rfl) ⟨by show _ ≤ (600128 : Nat); omega, by show _ ≤ (7301098 : Nat); omega⟩) hP hD hS hA (kFr_l (kFr_r kFr_Mo)) (fun H locs hP hD hS br1 => ?_)
    refine lv_istore (lv' := (kvI 6 r1.1 (kvA 0 b9 (kvA 1 (a 0) (kvA 2 (b 0) (kvA 3 o (kvI 4 x4 kvE))))))) hx hb (kdr dgL_law_535 8 6 rfl rfl) hl (by decide) rfl (fun ls hl => ?_)
    refine lv_goto (tgt := 1845) hx hb (kdr dgL_law_535 8 7 rfl rfl) (by decide) ?_
    exact hK9 ce fr un sb se so sc wb we wo wc fb fe fo fc rm ac rf kn mce mfr mun r1.2.1 r1.2.2.1 r1.2.2.2.1 r1.2.2.2.2.1 mwb mwe mwi r1.2.2.2.2.2.1 r1.2.2.2.2.2.2.1 mkn r1.2.2.2.2.2.2.2 on ov x4 b _ _ _ _ (by omega) (by omega) hP hD hS ls (lv_sub hl [1, 2, 3, 4, 5] rfl) h
  have J623 : ∀ (ce : Nat → Int64) (fr : Int64) (un : Int64) (sb : Nat → Int64) (se : Nat → Int64) (so : Nat → Int32) (sc : Int32) (wb : Nat → Int64) (we : Nat → Int64) (wo : Nat → Int32) (wc : Int32) (fb : Nat → Int64) (fe : Nat → Int64) (fo : Nat → Int32) (fc : Int32) (rm : Nat → Int32) (ac : Int32) (rf : Int32) (kn : Int32) (mce : Nat → Int64) (mfr : Int64) (mun : Int64) (mbe : Nat → Int64) (men : Nat → Int64) (mov : Nat → Int32) (msp : Int32) (mwb : Nat → Int64) (mwe : Nat → Int64) (mwi : Int32) (mac : Int32) (mre : Int32) (mkn : Int32) (mth : Int32) (on : Int64) (ov : Value) (x4 : Int32) (y0 : Int32) (y1 : Int32) (y2 : Int32) (b : Nat → Nat) (H : Heap) (locs : List Loc) (kc ks : Nat), kc + (1 + bK) ≤ 600128 → ks + (6 + sK) ≤ 7301098 → va_P (dC, dI) vwCl ((wSB cI cJ cZ a ce fr un sb se so sc wb we wo wc fb fe fo fc rm ac rf kn) ++ (wMo cJ cZ b mce mfr mun mbe men mov msp mwb mwe mwi mac mre mkn mth) ++ (wO o on ov)) H → va_D A ((wSB cI cJ cZ a ce fr un sb se so sc wb we wo wc fb fe fo fc rm ac rf kn) ++ (wMo cJ cZ b mce mfr mun mbe men mov msp mwb mwe mwi mac mre mkn mth) ++ (wO o on ov)) → va_S A s.heap H locs → ∀ (ls : Array Slot), lv_has ls 7 (kvA 0 b9 (kvA 1 (a 0) (kvA 2 (b 0) (kvA 3 o (kvI 4 x4 kvE))))) → flaw_623 L xs K ce fr un sb se so sc wb we wo wc fb fe fo fc rm ac rf kn mce mfr mun mbe men mov msp mwb mwe mwi mac mre mkn mth on x4 y0 y1 y2 = some 1 → W p l e room_1 s m #[Value.ref b9] below meth c H locs kc ks (lw_Z below #[Value.ref b9] s) (F0 m 623 ls [.int y0, .int y1, .int y2, .ref (a 0)]) := by
    intro ce fr un sb se so sc wb we wo wc fb fe fo fc rm ac rf kn mce mfr mun mbe men mov msp mwb mwe mwi mac mre mkn mth on ov x4 y0 y1 y2 b H locs kc ks hkc hks hP hD hS ls hl h
    have h := (flaw_623_e ce fr un sb se so sc wb we wo wc fb fe fo fc rm ac rf kn mce mfr mun mbe men mov msp mwb mwe mwi mac mre mkn mth on x4 y0 y1 y2).symm.trans h
    refine lv_aload_n hx hb (kdr dgL_law_535 6 2 rfl rfl) rfl (lv_at hl 3 rfl) ?_
    obtain ⟨r1, g1, h⟩ := g_b h
    refine kq_i ((wSB cI cJ cZ a ce fr un r1.2.1 r1.2.2.1 r1.2.2.2.1 r1.2.2.2.2.1 wb we wo wc fb fe fo fc rm r1.2.2.2.2.2.1 r1.2.2.2.2.2.2.1 kn) ++ (wMo cJ cZ b mce mfr mun mbe men mov msp mwb mwe mwi mac mre mkn mth) ++ (wO o r1.2.2.2.2.2.2.2 ov)) (fun qP qD qF => vx_runSW (As := [.ref (a 0), .int y2, .int y1, .int y0, .ref o]) (rest := []) ⟨hx, hb, hml, hown, hts⟩ (c_L_book l hl9 dC dI cB cI cJ cZ a o _ ce fr un sb se so sc wb we wo wc fb fe fo fc rm ac rf kn on ov y2 y1 y0 r1 g1) (kcwSW hts kw_574 kv_L_book rfl rfl ⟨(Nat.le_of_ble_eq_true rfl), (Nat.le_of_ble_eq_true rfl)⟩) (kpSXq (A := A) qP hK qD hG hZ hS qF) rfl rfl hl.1 rfl (lv_room (Nat.le_of_ble_eq_true rfl)) (kdr dgL_law_535 6 3 rfl rfl) ⟨by show _ ≤ (600128 : Nat); omega, by show _ ≤ (7301098 : Nat); omega⟩) hP hD hS hA (kFr_2 (kFr_l kFr_SB) kFr_o) (fun H locs hP hD hS br1 => ?_)
    refine lv_istore (lv' := (kvI 5 r1.1 (kvA 0 b9 (kvA 1 (a 0) (kvA 2 (b 0) (kvA 3 o (kvI 4 x4 kvE))))))) hx hb (kdr dgL_law_535 6 4 rfl rfl) hl (by decide) rfl (fun ls hl => ?_)
    refine lv_aload_n hx hb (kdr dgL_law_535 6 5 rfl rfl) rfl (lv_at hl 3 rfl) ?_
    obtain ⟨z1, h⟩ := g_if h
    refine kld (v := 1) hx hb (kdr dgL_law_535 6 6 rfl rfl) rfl (lv_at hl 1 rfl) (kdr dgL_law_535 6 7 rfl rfl) (lv_at hl 5 rfl) (kdr dgL_law_535 6 8 rfl rfl) (by decide) (kdr dgL_law_535 6 9 rfl rfl) hX hbl hbA hS (ix_in z1) (kdr dgL_law_535 7 0 rfl rfl) ?_
    obtain ⟨z2, h⟩ := g_if h
    refine kld (v := 2) hx hb (kdr dgL_law_535 7 1 rfl rfl) rfl (lv_at hl 1 rfl) (kdr dgL_law_535 7 2 rfl rfl) (lv_at hl 5 rfl) (kdr dgL_law_535 7 3 rfl rfl) (by decide) (kdr dgL_law_535 7 4 rfl rfl) hX hbl hbA hS (ix_in z2) (kdr dgL_law_535 7 5 rfl rfl) ?_
    obtain ⟨z3, h⟩ := g_if h
    refine kld (v := 3) hx hb (kdr dgL_law_535 7 6 rfl rfl) rfl (lv_at hl 1 rfl) (kdr dgL_law_535 7 7 rfl rfl) (lv_at hl 5 rfl) (kdr dgL_law_535 7 8 rfl rfl) (by decide) (kdr dgL_law_535 7 9 rfl rfl) hX hbl hbA hS (ix_in z3) (kdr dgL_law_535 8 0 rfl rfl) ?_
    refine lv_if_eq (tgt := 655) hx hb (kdr dgL_law_535 8 1 rfl rfl) (by decide) (fun c5 => ?_) (fun c5 => ?_)
    · have h := g_t c5 h
      refine lv_iconst (v := 0) hx hb (kdr dgL_law_535 8 4 rfl rfl) (by decide) ?_
      exact J656 ce fr un r1.2.1 r1.2.2.1 r1.2.2.2.1 r1.2.2.2.2.1 wb we wo wc fb fe fo fc rm r1.2.2.2.2.2.1 r1.2.2.2.2.2.2.1 kn mce mfr mun mbe men mov msp mwb mwe mwi mac mre mkn mth r1.2.2.2.2.2.2.2 ov x4 0 (xs (x4 + 2).toNatClampNeg) (xs (x4 + 1).toNatClampNeg) b _ _ _ _ (by omega) (by omega) hP hD hS ls (lv_sub hl [1, 2, 3, 4, 5] rfl) h
    · have h := g_f c5 h
      refine lv_iconst (v := 1) hx hb (kdr dgL_law_535 8 2 rfl rfl) (by decide) ?_
      refine lv_goto (tgt := 656) hx hb (kdr dgL_law_535 8 3 rfl rfl) (by decide) ?_
      exact J656 ce fr un r1.2.1 r1.2.2.1 r1.2.2.2.1 r1.2.2.2.2.1 wb we wo wc fb fe fo fc rm r1.2.2.2.2.2.1 r1.2.2.2.2.2.2.1 kn mce mfr mun mbe men mov msp mwb mwe mwi mac mre mkn mth r1.2.2.2.2.2.2.2 ov x4 1 (xs (x4 + 2).toNatClampNeg) (xs (x4 + 1).toNatClampNeg) b _ _ _ _ (by omega) (by omega) hP hD hS ls (lv_sub hl [1, 2, 3, 4, 5] rfl) h
  intro ce fr un sb se so sc wb we wo wc fb fe fo fc rm ac rf kn mce mfr mun mbe men mov msp mwb mwe mwi mac mre mkn mth on ov x4 b H locs kc ks hkc hks hP hD hS ls hl h
  have h := (flaw_596_e ce fr un sb se so sc wb we wo wc fb fe fo fc rm ac rf kn mce mfr mun mbe men mov msp mwb mwe mwi mac mre mkn mth on x4).symm.trans h
  refine lv_aload_n hx hb (kdr dgL_law_535 4 2 rfl rfl) rfl (lv_at hl 1 rfl) ?_
  obtain ⟨z0, h⟩ := g_if h
  refine kld (v := 1) hx hb (kdr dgL_law_535 4 3 rfl rfl) rfl (lv_at hl 0 rfl) (kdr dgL_law_535 4 4 rfl rfl) (lv_at hl 4 rfl) (kdr dgL_law_535 4 5 rfl rfl) (by decide) (kdr dgL_law_535 4 6 rfl rfl) hX hbl hbA hS (ix_in z0) (kdr dgL_law_535 4 7 rfl rfl) ?_
  obtain ⟨z1, h⟩ := g_if h
  refine kld (v := 2) hx hb (kdr dgL_law_535 4 8 rfl rfl) rfl (lv_at hl 0 rfl) (kdr dgL_law_535 4 9 rfl rfl) (lv_at hl 4 rfl) (kdr dgL_law_535 5 0 rfl rfl) (by decide) (kdr dgL_law_535 5 1 rfl rfl) hX hbl hbA hS (ix_in z1) (kdr dgL_law_535 5 2 rfl rfl) ?_
  obtain ⟨z2, h⟩ := g_if h
  refine kld (v := 3) hx hb (kdr dgL_law_535 5 3 rfl rfl) rfl (lv_at hl 0 rfl) (kdr dgL_law_535 5 4 rfl rfl) (lv_at hl 4 rfl) (kdr dgL_law_535 5 5 rfl rfl) (by decide) (kdr dgL_law_535 5 6 rfl rfl) hX hbl hbA hS (ix_in z2) (kdr dgL_law_535 5 7 rfl rfl) ?_
  refine lv_if_eq (tgt := 622) hx hb (kdr dgL_law_535 5 8 rfl rfl) (by decide) (fun c4 => ?_) (fun c4 => ?_)
  · have h := g_t c4 h
    refine lv_iconst (v := 0) hx hb (kdr dgL_law_535 6 1 rfl rfl) (by decide) ?_
    exact J623 ce fr un sb se so sc wb we wo wc fb fe fo fc rm ac rf kn mce mfr mun mbe men mov msp mwb mwe mwi mac mre mkn mth on ov x4 0 (xs (x4 + 2).toNatClampNeg) (xs (x4 + 1).toNatClampNeg) b _ _ _ _ (by omega) (by omega) hP hD hS ls (lv_sub hl [0, 1, 2, 3, 4] rfl) h
  · have h := g_f c4 h
    refine lv_iconst (v := 1) hx hb (kdr dgL_law_535 5 9 rfl rfl) (by decide) ?_
    refine lv_goto (tgt := 623) hx hb (kdr dgL_law_535 6 0 rfl rfl) (by decide) ?_
    exact J623 ce fr un sb se so sc wb we wo wc fb fe fo fc rm ac rf kn mce mfr mun mbe men mov msp mwb mwe mwi mac mre mkn mth on ov x4 1 (xs (x4 + 2).toNatClampNeg) (xs (x4 + 1).toNatClampNeg) b _ _ _ _ (by omega) (by omega) hP hD hS ls (lv_sub hl [0, 1, 2, 3, 4] rfl) h
noncomputable def flaw_664 (L : Nat) (xs : Nat → Int32) (K : kFT) (ce : Nat → Int64) (fr : Int64) (un : Int64) (sb : Nat → Int64) (se : Nat → Int64) (so : Nat → Int32) (sc : Int32) (wb : Nat → Int64) (we : Nat → Int64) (wo : Nat → Int32) (wc : Int32) (fb : Nat → Int64) (fe : Nat → Int64) (fo : Nat → Int32) (fc : Int32) (rm : Nat → Int32) (ac : Int32) (rf : Int32) (kn : Int32) (mce : Nat → Int64) (mfr : Int64) (mun : Int64) (mbe : Nat → Int64) (men : Nat → Int64) (mov : Nat → Int32) (msp : Int32) (mwb : Nat → Int64) (mwe : Nat → Int64) (mwi : Int32) (mac : Int32) (mre : Int32) (mkn : Int32) (mth : Int32) (on : Int64) (x4 : Int32) : Option Int32 :=
  if ix (x4 + 1) L then
    (f_L_unbook sb se so sc ac on (xs (x4 + 1).toNatClampNeg)).bind fun r2 =>
    (f_X3_unbook mbe men mov msp mac (xs (x4 + 1).toNatClampNeg)).bind fun r3 =>
    K ce fr un r2.2.1 r2.2.2.1 r2.2.2.2.1 r2.2.2.2.2.1 wb we wo wc fb fe fo fc rm r2.2.2.2.2.2.1 rf kn mce mfr mun r3.2.1 r3.2.2.1 r3.2.2.2.1 r3.2.2.2.2.1 mwb mwe mwi r3.2.2.2.2.2.1 mre mkn r3.2.2.2.2.2.2 r2.2.2.2.2.2.2 x4
  else none
theorem flaw_664_e {L : Nat} {xs : Nat → Int32} {K : kFT} (ce : Nat → Int64) (fr : Int64) (un : Int64) (sb : Nat → Int64) (se : Nat → Int64) (so : Nat → Int32) (sc : Int32) (wb : Nat → Int64) (we : Nat → Int64) (wo : Nat → Int32) (wc : Int32) (fb : Nat → Int64) (fe : Nat → Int64) (fo : Nat → Int32) (fc : Int32) (rm : Nat → Int32) (ac : Int32) (rf : Int32) (kn : Int32) (mce : Nat → Int64) (mfr : Int64) (mun : Int64) (mbe : Nat → Int64) (men : Nat → Int64) (mov : Nat → Int32) (msp : Int32) (mwb : Nat → Int64) (mwe : Nat → Int64) (mwi : Int32) (mac : Int32) (mre : Int32) (mkn : Int32) (mth : Int32) (on : Int64) (x4 : Int32) : flaw_664 L xs K ce fr un sb se so sc wb we wo wc fb fe fo fc rm ac rf kn mce mfr mun mbe men mov msp mwb mwe mwi mac mre mkn mth on x4 =
  if ix (x4 + 1) L then
    (f_L_unbook sb se so sc ac on (xs (x4 + 1).toNatClampNeg)).bind fun r2 =>
    (f_X3_unbook mbe men mov msp mac (xs (x4 + 1).toNatClampNeg)).bind fun r3 =>
    K ce fr un r2.2.1 r2.2.2.1 r2.2.2.2.1 r2.2.2.2.2.1 wb we wo wc fb fe fo fc rm r2.2.2.2.2.2.1 rf kn mce mfr mun r3.2.1 r3.2.2.1 r3.2.2.2.1 r3.2.2.2.2.1 mwb mwe mwi r3.2.2.2.2.2.1 mre mkn r3.2.2.2.2.2.2 r2.2.2.2.2.2.2 x4
  else none := rfl
set_option maxHeartbeats 8000000 in
set_option maxRecDepth 100000 in
theorem law_8 {p : Program} {l : Launch} {e : Env} {s : State} {m : MethodId} {below : List Frame} {meth : Method} {c : Code} {dC : Nat → ClassId} {dI : Nat → Nat → Nat} {cB cI cJ cZ : ClassId} {b9 L : Nat} {xs : Nat → Int32} {A : Nat → Prop} (hl9 : l.stackTraces = false) (C0 : kLw p s m c b9 L xs A) (hK : va_K (dC, dI) vwCl (kTy cB cI cJ cZ) s) {a : Nat → Nat} {o : Nat} (K : kFT) (bK sK : Nat) (hK9 : kGo p l e s m below meth c dC dI cB cI cJ cZ b9 A a o 1845 bK sK K) : kGo p l e s m below meth c dC dI cB cI cJ cZ b9 A a o 664 (1 + bK) (6 + sK) (flaw_664 L xs K) := by
  obtain ⟨hx, hb, hml, hown, hts, hX, hbl, hA, hbA, hG, hZ⟩ := C0
  intro ce fr un sb se so sc wb we wo wc fb fe fo fc rm ac rf kn mce mfr mun mbe men mov msp mwb mwe mwi mac mre mkn mth on ov x4 b H locs kc ks hkc hks hP hD hS ls hl h
  have h := (flaw_664_e ce fr un sb se so sc wb we wo wc fb fe fo fc rm ac rf kn mce mfr mun mbe men mov msp mwb mwe mwi mac mre mkn mth on x4).symm.trans h
  refine lv_aload_n hx hb (kdr dgL_law_535 8 8 rfl rfl) rfl (lv_at hl 1 rfl) ?_
  obtain ⟨z0, h⟩ := g_if h
  refine kld (v := 1) hx hb (kdr dgL_law_535 8 9 rfl rfl) rfl (lv_at hl 0 rfl) (kdr dgL_law_535 9 0 rfl rfl) (lv_at hl 4 rfl) (kdr dgL_law_535 9 1 rfl rfl) (by decide) (kdr dgL_law_535 9 2 rfl rfl) hX hbl hbA hS (ix_in z0) (kdr dgL_law_535 9 3 rfl rfl) ?_
  refine lv_aload_n hx hb (kdr dgL_law_535 9 4 rfl rfl) rfl (lv_at hl 3 rfl) ?_
  obtain ⟨r2, g2, h⟩ := g_b h
  refine kq_i ((wSB cI cJ cZ a ce fr un r2.2.1 r2.2.2.1 r2.2.2.2.1 r2.2.2.2.2.1 wb we wo wc fb fe fo fc rm r2.2.2.2.2.2.1 rf kn) ++ (wMo cJ cZ b mce mfr mun mbe men mov msp mwb mwe mwi mac mre mkn mth) ++ (wO o r2.2.2.2.2.2.2 ov)) (fun qP qD qF => vx_runSW (As := [.ref (a 0), .int (xs (x4 + 1).toNatClampNeg), .ref o]) (rest := []) ⟨hx, hb, hml, hown, hts⟩ (c_L_unbook l hl9 dC dI cB cI cJ cZ a o _ ce fr un sb se so sc wb we wo wc fb fe fo fc rm ac rf kn on ov (xs (x4 + 1).toNatClampNeg) r2 g2) (kcwSW hts kw_585 kv_L_unbook rfl rfl ⟨(Nat.le_of_ble_eq_true rfl), (Nat.le_of_ble_eq_true rfl)⟩) (kpSXq (A := A) qP hK qD hG hZ hS qF) rfl rfl hl.1 rfl (lv_room (Nat.le_of_ble_eq_true rfl)) (kdr dgL_law_535 9 5 rfl rfl) ⟨by show _ ≤ (600128 : Nat); omega, by show _ ≤ (7301098 : Nat); omega⟩) hP hD hS hA (kFr_2 (kFr_l kFr_SB) kFr_o) (fun H locs hP hD hS br2 => ?_)
  refine lv_istore (lv' := (kvI 5 r2.1 (kvA 0 b9 (kvA 1 (a 0) (kvA 2 (b 0) (kvA 3 o (kvI 4 x4 kvE))))))) hx hb (kdr dgL_law_535 9 6 rfl rfl) hl (by decide) rfl (fun ls hl => ?_)
  refine lv_aload_n hx hb (kdr dgL_law_535 9 7 rfl rfl) rfl (lv_at hl 3 rfl) ?_
  refine kld (v := 1) hx hb (kdr dgL_law_535 9 8 rfl rfl) rfl (lv_at hl 1 rfl) (kdr dgL_law_535 9 9 rfl rfl) (lv_at hl 5 rfl) (kdr dgL_law_681 0 0 rfl rfl) (by decide) (kdr dgL_law_681 0 1 rfl rfl) hX hbl hbA hS (ix_in z0) (kdr dgL_law_681 0 2 rfl rfl) ?_
  obtain ⟨r3, g3, h⟩ := g_b h
  refine kq_i ((wSB cI cJ cZ a ce fr un r2.2.1 r2.2.2.1 r2.2.2.2.1 r2.2.2.2.2.1 wb we wo wc fb fe fo fc rm r2.2.2.2.2.2.1 rf kn) ++ (wMo cJ cZ b mce mfr mun r3.2.1 r3.2.2.1 r3.2.2.2.1 r3.2.2.2.2.1 mwb mwe mwi r3.2.2.2.2.2.1 mre mkn r3.2.2.2.2.2.2) ++ (wO o r2.2.2.2.2.2.2 ov)) (fun qP qD qF => va_runV (As := [.int (xs (x4 + 1).toNatClampNeg)]) (rest := []) ⟨hx, hb, hml, hown, hts⟩ (c_X3_unbook l dC dI cB cI cJ cZ b _ mce mfr mun mbe men mov msp mwb mwe mwi mac mre mkn mth (xs (x4 + 1).toNatClampNeg) r3 g3) (kcwV hts kw_1215 kv_X3_unbook rfl rfl ⟨(Nat.le_of_ble_eq_true rfl), (Nat.le_of_ble_eq_true rfl)⟩) (kpV (A := A) qP hK qD hG (krecv_5 (q0 := 15) hK hP rfl)) rfl rfl hl.1 rfl (lv_room (Nat.le_of_ble_eq_true rfl)) (kdr dgL_law_681 0 3 rfl rfl) ⟨by show _ ≤ (600128 : Nat); omega, by show _ ≤ (7301098 : Nat); omega⟩) hP hD hS hA (kFr_l (kFr_r kFr_Mo)) (fun H locs hP hD hS br3 => ?_)
  refine lv_istore (lv' := (kvI 6 r3.1 (kvI 5 r2.1 (kvA 0 b9 (kvA 1 (a 0) (kvA 2 (b 0) (kvA 3 o (kvI 4 x4 kvE)))))))) hx hb (kdr dgL_law_681 0 4 rfl rfl) hl (by decide) rfl (fun ls hl => ?_)
  refine lv_goto (tgt := 1845) hx hb (kdr dgL_law_681 0 5 rfl rfl) (by decide) ?_
  exact hK9 ce fr un r2.2.1 r2.2.2.1 r2.2.2.2.1 r2.2.2.2.2.1 wb we wo wc fb fe fo fc rm r2.2.2.2.2.2.1 rf kn mce mfr mun r3.2.1 r3.2.2.1 r3.2.2.2.1 r3.2.2.2.2.1 mwb mwe mwi r3.2.2.2.2.2.1 mre mkn r3.2.2.2.2.2.2 r2.2.2.2.2.2.2 ov x4 b _ _ _ _ (by omega) (by omega) hP hD hS ls (lv_sub hl [2, 3, 4, 5, 6] rfl) h
noncomputable def flaw_692 (L : Nat) (xs : Nat → Int32) (K : kFT) (ce : Nat → Int64) (fr : Int64) (un : Int64) (sb : Nat → Int64) (se : Nat → Int64) (so : Nat → Int32) (sc : Int32) (wb : Nat → Int64) (we : Nat → Int64) (wo : Nat → Int32) (wc : Int32) (fb : Nat → Int64) (fe : Nat → Int64) (fo : Nat → Int32) (fc : Int32) (rm : Nat → Int32) (ac : Int32) (rf : Int32) (kn : Int32) (mce : Nat → Int64) (mfr : Int64) (mun : Int64) (mbe : Nat → Int64) (men : Nat → Int64) (mov : Nat → Int32) (msp : Int32) (mwb : Nat → Int64) (mwe : Nat → Int64) (mwi : Int32) (mac : Int32) (mre : Int32) (mkn : Int32) (mth : Int32) (on : Int64) (x4 : Int32) : Option Int32 :=
  (f_X1_empty sc ac).bind fun r1 =>
  (f_X3_empty msp mac).bind fun r2 =>
  K ce fr un sb se so r1.2.1 wb we wo wc fb fe fo fc rm r1.2.2 rf kn mce mfr mun mbe men mov r2.2.1 mwb mwe mwi r2.2.2.1 mre mkn r2.2.2.2 on x4
theorem flaw_692_e {L : Nat} {xs : Nat → Int32} {K : kFT} (ce : Nat → Int64) (fr : Int64) (un : Int64) (sb : Nat → Int64) (se : Nat → Int64) (so : Nat → Int32) (sc : Int32) (wb : Nat → Int64) (we : Nat → Int64) (wo : Nat → Int32) (wc : Int32) (fb : Nat → Int64) (fe : Nat → Int64) (fo : Nat → Int32) (fc : Int32) (rm : Nat → Int32) (ac : Int32) (rf : Int32) (kn : Int32) (mce : Nat → Int64) (mfr : Int64) (mun : Int64) (mbe : Nat → Int64) (men : Nat → Int64) (mov : Nat → Int32) (msp : Int32) (mwb : Nat → Int64) (mwe : Nat → Int64) (mwi : Int32) (mac : Int32) (mre : Int32) (mkn : Int32) (mth : Int32) (on : Int64) (x4 : Int32) : flaw_692 L xs K ce fr un sb se so sc wb we wo wc fb fe fo fc rm ac rf kn mce mfr mun mbe men mov msp mwb mwe mwi mac mre mkn mth on x4 =
  (f_X1_empty sc ac).bind fun r1 =>
  (f_X3_empty msp mac).bind fun r2 =>
  K ce fr un sb se so r1.2.1 wb we wo wc fb fe fo fc rm r1.2.2 rf kn mce mfr mun mbe men mov r2.2.1 mwb mwe mwi r2.2.2.1 mre mkn r2.2.2.2 on x4 := rfl
set_option maxHeartbeats 8000000 in
set_option maxRecDepth 100000 in
theorem law_9 {p : Program} {l : Launch} {e : Env} {s : State} {m : MethodId} {below : List Frame} {meth : Method} {c : Code} {dC : Nat → ClassId} {dI : Nat → Nat → Nat} {cB cI cJ cZ : ClassId} {b9 L : Nat} {xs : Nat → Int32} {A : Nat → Prop} (hl9 : l.stackTraces = false) (C0 : kLw p s m c b9 L xs A) (hK : va_K (dC, dI) vwCl (kTy cB cI cJ cZ) s) {a : Nat → Nat} {o : Nat} (K : kFT) (bK sK : Nat) (hK9 : kGo p l e s m below meth c dC dI cB cI cJ cZ b9 A a o 1845 bK sK K) : kGo p l e s m below meth c dC dI cB cI cJ cZ b9 A a o 692 (0 + bK) (0 + sK) (flaw_692 L xs K) := by
  obtain ⟨hx, hb, hml, hown, hts, hX, hbl, hA, hbA, hG, hZ⟩ := C0
  intro ce fr un sb se so sc wb we wo wc fb fe fo fc rm ac rf kn mce mfr mun mbe men mov msp mwb mwe mwi mac mre mkn mth on ov x4 b H locs kc ks hkc hks hP hD hS ls hl h
  have h := (flaw_692_e ce fr un sb se so sc wb we wo wc fb fe fo fc rm ac rf kn mce mfr mun mbe men mov msp mwb mwe mwi mac mre mkn mth on x4).symm.trans h
  refine lv_aload_n hx hb (kdr dgL_law_681 0 6 rfl rfl) rfl (lv_at hl 1 rfl) ?_
  obtain ⟨r1, g1, h⟩ := g_b h
  refine kq_i ((wSB cI cJ cZ a ce fr un sb se so r1.2.1 wb we wo wc fb fe fo fc rm r1.2.2 rf kn) ++ (wMo cJ cZ b mce mfr mun mbe men mov msp mwb mwe mwi mac mre mkn mth) ++ (wO o on ov)) (fun qP qD qF => va_runV (As := []) (rest := []) ⟨hx, hb, hml, hown, hts⟩ (c_X1_empty l dC dI cB cI cJ cZ a _ ce fr un sb se so sc wb we wo wc fb fe fo fc rm ac rf kn  r1 g1) (kcwV hts kw_139 kv_X1_empty rfl rfl ⟨(Nat.le_of_ble_eq_true rfl), (Nat.le_of_ble_eq_true rfl)⟩) (kpV (A := A) qP hK qD hG (krecv_3 (q0 := 0) hK hP rfl)) rfl rfl hl.1 rfl (lv_room (Nat.le_of_ble_eq_true rfl)) (kdr dgL_law_681 0 7 rfl rfl) ⟨by show _ ≤ (600128 : Nat); omega, by show _ ≤ (7301098 : Nat); omega⟩) hP hD hS hA (kFr_l (kFr_l kFr_SB)) (fun H locs hP hD hS br1 => ?_)
  refine lv_pop hx hb (kdr dgL_law_681 0 8 rfl rfl) rfl ?_
  refine lv_aload_n hx hb (kdr dgL_law_681 0 9 rfl rfl) rfl (lv_at hl 2 rfl) ?_
  obtain ⟨r2, g2, h⟩ := g_b h
  refine kq_i ((wSB cI cJ cZ a ce fr un sb se so r1.2.1 wb we wo wc fb fe fo fc rm r1.2.2 rf kn) ++ (wMo cJ cZ b mce mfr mun mbe men mov r2.2.1 mwb mwe mwi r2.2.2.1 mre mkn r2.2.2.2) ++ (wO o on ov)) (fun qP qD qF => va_runV (As := []) (rest := []) ⟨hx, hb, hml, hown, hts⟩ (c_X3_empty l dC dI cB cI cJ cZ b _ mce mfr mun mbe men mov msp mwb mwe mwi mac mre mkn mth  r2 g2) (kcwV hts kw_1223 kv_X3_empty rfl rfl ⟨(Nat.le_of_ble_eq_true rfl), (Nat.le_of_ble_eq_true rfl)⟩) (kpV (A := A) qP hK qD hG (krecv_5 (q0 := 15) hK hP rfl)) rfl rfl hl.1 rfl (lv_room (Nat.le_of_ble_eq_true rfl)) (kdr dgL_law_681 1 0 rfl rfl) ⟨by show _ ≤ (600128 : Nat); omega, by show _ ≤ (7301098 : Nat); omega⟩) hP hD hS hA (kFr_l (kFr_r kFr_Mo)) (fun H locs hP hD hS br2 => ?_)
  refine lv_pop hx hb (kdr dgL_law_681 1 1 rfl rfl) rfl ?_
  refine lv_goto (tgt := 1845) hx hb (kdr dgL_law_681 1 2 rfl rfl) (by decide) ?_
  exact hK9 ce fr un sb se so r1.2.1 wb we wo wc fb fe fo fc rm r1.2.2 rf kn mce mfr mun mbe men mov r2.2.1 mwb mwe mwi r2.2.2.1 mre mkn r2.2.2.2 on ov x4 b _ _ _ _ (by omega) (by omega) hP hD hS ls (lv_sub hl [0, 1, 2, 3, 4] rfl) h
noncomputable def flaw_705 (L : Nat) (xs : Nat → Int32) (K : kFT) (ce : Nat → Int64) (fr : Int64) (un : Int64) (sb : Nat → Int64) (se : Nat → Int64) (so : Nat → Int32) (sc : Int32) (wb : Nat → Int64) (we : Nat → Int64) (wo : Nat → Int32) (wc : Int32) (fb : Nat → Int64) (fe : Nat → Int64) (fo : Nat → Int32) (fc : Int32) (rm : Nat → Int32) (ac : Int32) (rf : Int32) (kn : Int32) (mce : Nat → Int64) (mfr : Int64) (mun : Int64) (mbe : Nat → Int64) (men : Nat → Int64) (mov : Nat → Int32) (msp : Int32) (mwb : Nat → Int64) (mwe : Nat → Int64) (mwi : Int32) (mac : Int32) (mre : Int32) (mkn : Int32) (mth : Int32) (on : Int64) (x4 : Int32) : Option Int32 :=
  if ix (x4 + 1) L then
    if ix (x4 + 2) L then
      if ix (x4 + 3) L then
        (f_L_move fr un sb se sc ac rf on (xs (x4 + 1).toNatClampNeg) (xs (x4 + 2).toNatClampNeg) (xs (x4 + 3).toNatClampNeg)).bind fun r4 =>
        (f_X3_move mfr mun mbe men msp mac mre (xs (x4 + 1).toNatClampNeg) (xs (x4 + 2).toNatClampNeg) (xs (x4 + 3).toNatClampNeg)).bind fun r5 =>
        K ce fr un r4.2.1 r4.2.2.1 so sc wb we wo wc fb fe fo fc rm r4.2.2.2.1 r4.2.2.2.2.1 kn mce mfr mun r5.2.1 r5.2.2.1 mov msp mwb mwe mwi r5.2.2.2.1 r5.2.2.2.2.1 mkn r5.2.2.2.2.2 r4.2.2.2.2.2 x4
      else none
    else none
  else none
theorem flaw_705_e {L : Nat} {xs : Nat → Int32} {K : kFT} (ce : Nat → Int64) (fr : Int64) (un : Int64) (sb : Nat → Int64) (se : Nat → Int64) (so : Nat → Int32) (sc : Int32) (wb : Nat → Int64) (we : Nat → Int64) (wo : Nat → Int32) (wc : Int32) (fb : Nat → Int64) (fe : Nat → Int64) (fo : Nat → Int32) (fc : Int32) (rm : Nat → Int32) (ac : Int32) (rf : Int32) (kn : Int32) (mce : Nat → Int64) (mfr : Int64) (mun : Int64) (mbe : Nat → Int64) (men : Nat → Int64) (mov : Nat → Int32) (msp : Int32) (mwb : Nat → Int64) (mwe : Nat → Int64) (mwi : Int32) (mac : Int32) (mre : Int32) (mkn : Int32) (mth : Int32) (on : Int64) (x4 : Int32) : flaw_705 L xs K ce fr un sb se so sc wb we wo wc fb fe fo fc rm ac rf kn mce mfr mun mbe men mov msp mwb mwe mwi mac mre mkn mth on x4 =
  if ix (x4 + 1) L then
    if ix (x4 + 2) L then
      if ix (x4 + 3) L then
        (f_L_move fr un sb se sc ac rf on (xs (x4 + 1).toNatClampNeg) (xs (x4 + 2).toNatClampNeg) (xs (x4 + 3).toNatClampNeg)).bind fun r4 =>
        (f_X3_move mfr mun mbe men msp mac mre (xs (x4 + 1).toNatClampNeg) (xs (x4 + 2).toNatClampNeg) (xs (x4 + 3).toNatClampNeg)).bind fun r5 =>
        K ce fr un r4.2.1 r4.2.2.1 so sc wb we wo wc fb fe fo fc rm r4.2.2.2.1 r4.2.2.2.2.1 kn mce mfr mun r5.2.1 r5.2.2.1 mov msp mwb mwe mwi r5.2.2.2.1 r5.2.2.2.2.1 mkn r5.2.2.2.2.2 r4.2.2.2.2.2 x4
      else none
    else none
  else none := rfl
set_option maxHeartbeats 8000000 in
set_option maxRecDepth 100000 in
theorem law_10 {p : Program} {l : Launch} {e : Env} {s : State} {m : MethodId} {below : List Frame} {meth : Method} {c : Code} {dC : Nat → ClassId} {dI : Nat → Nat → Nat} {cB cI cJ cZ : ClassId} {b9 L : Nat} {xs : Nat → Int32} {A : Nat → Prop} (hl9 : l.stackTraces = false) (C0 : kLw p s m c b9 L xs A) (hK : va_K (dC, dI) vwCl (kTy cB cI cJ cZ) s) {a : Nat → Nat} {o : Nat} (K : kFT) (bK sK : Nat) (hK9 : kGo p l e s m below meth c dC dI cB cI cJ cZ b9 A a o 1845 bK sK K) : kGo p l e s m below meth c dC dI cB cI cJ cZ b9 A a o 705 (1 + bK) (6 + sK) (flaw_705 L xs K) := by
  obtain ⟨hx, hb, hml, hown, hts, hX, hbl, hA, hbA, hG, hZ⟩ := C0
  intro ce fr un sb se so sc wb we wo wc fb fe fo fc rm ac rf kn mce mfr mun mbe men mov msp mwb mwe mwi mac mre mkn mth on ov x4 b H locs kc ks hkc hks hP hD hS ls hl h
  have h := (flaw_705_e ce fr un sb se so sc wb we wo wc fb fe fo fc rm ac rf kn mce mfr mun mbe men mov msp mwb mwe mwi mac mre mkn mth on x4).symm.trans h
  refine lv_aload_n hx hb (kdr dgL_law_681 1 3 rfl rfl) rfl (lv_at hl 1 rfl) ?_
  obtain ⟨z0, h⟩ := g_if h
  refine kld (v := 1) hx hb (kdr dgL_law_681 1 4 rfl rfl) rfl (lv_at hl 0 rfl) (kdr dgL_law_681 1 5 rfl rfl) (lv_at hl 4 rfl) (kdr dgL_law_681 1 6 rfl rfl) (by decide) (kdr dgL_law_681 1 7 rfl rfl) hX hbl hbA hS (ix_in z0) (kdr dgL_law_681 1 8 rfl rfl) ?_
  obtain ⟨z1, h⟩ := g_if h
  refine kld (v := 2) hx hb (kdr dgL_law_681 1 9 rfl rfl) rfl (lv_at hl 0 rfl) (kdr dgL_law_681 2 0 rfl rfl) (lv_at hl 4 rfl) (kdr dgL_law_681 2 1 rfl rfl) (by decide) (kdr dgL_law_681 2 2 rfl rfl) hX hbl hbA hS (ix_in z1) (kdr dgL_law_681 2 3 rfl rfl) ?_
  obtain ⟨z2, h⟩ := g_if h
  refine kld (v := 3) hx hb (kdr dgL_law_681 2 4 rfl rfl) rfl (lv_at hl 0 rfl) (kdr dgL_law_681 2 5 rfl rfl) (lv_at hl 4 rfl) (kdr dgL_law_681 2 6 rfl rfl) (by decide) (kdr dgL_law_681 2 7 rfl rfl) hX hbl hbA hS (ix_in z2) (kdr dgL_law_681 2 8 rfl rfl) ?_
  refine lv_aload_n hx hb (kdr dgL_law_681 2 9 rfl rfl) rfl (lv_at hl 3 rfl) ?_
  obtain ⟨r4, g4, h⟩ := g_b h
  refine kq_i ((wSB cI cJ cZ a ce fr un r4.2.1 r4.2.2.1 so sc wb we wo wc fb fe fo fc rm r4.2.2.2.1 r4.2.2.2.2.1 kn) ++ (wMo cJ cZ b mce mfr mun mbe men mov msp mwb mwe mwi mac mre mkn mth) ++ (wO o r4.2.2.2.2.2 ov)) (fun qP qD qF => vx_runSW (As := [.ref (a 0), .int (xs (x4 + 1).toNatClampNeg), .int (xs (x4 + 2).toNatClampNeg), .int (xs (x4 + 3).toNatClampNeg), .ref o]) (rest := []) ⟨hx, hb, hml, hown, hts⟩ (c_L_move l hl9 dC dI cB cI cJ cZ a o _ ce fr un sb se so sc wb we wo wc fb fe fo fc rm ac rf kn on ov (xs (x4 + 1).toNatClampNeg) (xs (x4 + 2).toNatClampNeg) (xs (x4 + 3).toNatClampNeg) r4 g4) (kcwSW hts kw_600 kv_L_move rfl rfl ⟨(Nat.le_of_ble_eq_true rfl), (Nat.le_of_ble_eq_true rfl)⟩) (kpSXq (A := A) qP hK qD hG hZ hS qF) rfl rfl hl.1 rfl (lv_room (Nat.le_of_ble_eq_true rfl)) (kdr dgL_law_681 3 0 rfl rfl) ⟨by show _ ≤ (600128 : Nat); omega, by show _ ≤ (7301098 : Nat); omega⟩) hP hD hS hA (kFr_2 (kFr_l kFr_SB) kFr_o) (fun H locs hP hD hS br4 => ?_)
  refine lv_istore (lv' := (kvI 5 r4.1 (kvA 0 b9 (kvA 1 (a 0) (kvA 2 (b 0) (kvA 3 o (kvI 4 x4 kvE))))))) hx hb (kdr dgL_law_681 3 1 rfl rfl) hl (by decide) rfl (fun ls hl => ?_)
  refine lv_aload_n hx hb (kdr dgL_law_681 3 2 rfl rfl) rfl (lv_at hl 3 rfl) ?_
  refine kld (v := 1) hx hb (kdr dgL_law_681 3 3 rfl rfl) rfl (lv_at hl 1 rfl) (kdr dgL_law_681 3 4 rfl rfl) (lv_at hl 5 rfl) (kdr dgL_law_681 3 5 rfl rfl) (by decide) (kdr dgL_law_681 3 6 rfl rfl) hX hbl hbA hS (ix_in z0) (kdr dgL_law_681 3 7 rfl rfl) ?_
  refine kld (v := 2) hx hb (kdr dgL_law_681 3 8 rfl rfl) rfl (lv_at hl 1 rfl) (kdr dgL_law_681 3 9 rfl rfl) (lv_at hl 5 rfl) (kdr dgL_law_681 4 0 rfl rfl) (by decide) (kdr dgL_law_681 4 1 rfl rfl) hX hbl hbA hS (ix_in z1) (kdr dgL_law_681 4 2 rfl rfl) ?_
  refine kld (v := 3) hx hb (kdr dgL_law_681 4 3 rfl rfl) rfl (lv_at hl 1 rfl) (kdr dgL_law_681 4 4 rfl rfl) (lv_at hl 5 rfl) (kdr dgL_law_681 4 5 rfl rfl) (by decide) (kdr dgL_law_681 4 6 rfl rfl) hX hbl hbA hS (ix_in z2) (kdr dgL_law_681 4 7 rfl rfl) ?_
  obtain ⟨r5, g5, h⟩ := g_b h
  refine kq_i ((wSB cI cJ cZ a ce fr un r4.2.1 r4.2.2.1 so sc wb we wo wc fb fe fo fc rm r4.2.2.2.1 r4.2.2.2.2.1 kn) ++ (wMo cJ cZ b mce mfr mun r5.2.1 r5.2.2.1 mov msp mwb mwe mwi r5.2.2.2.1 r5.2.2.2.2.1 mkn r5.2.2.2.2.2) ++ (wO o r4.2.2.2.2.2 ov)) (fun qP qD qF => va_runV (As := [.int (xs (x4 + 1).toNatClampNeg), .int (xs (x4 + 2).toNatClampNeg), .int (xs (x4 + 3).toNatClampNeg)]) (rest := []) ⟨hx, hb, hml, hown, hts⟩ (c_X3_move l dC dI cB cI cJ cZ b _ mce mfr mun mbe men mov msp mwb mwe mwi mac mre mkn mth (xs (x4 + 1).toNatClampNeg) (xs (x4 + 2).toNatClampNeg) (xs (x4 + 3).toNatClampNeg) r5 g5) (kcwV hts kw_1227 kv_X3_move rfl rfl ⟨(Nat.le_of_ble_eq_true rfl), (Nat.le_of_ble_eq_true rfl)⟩) (kpV (A := A) qP hK qD hG (krecv_5 (q0 := 15) hK hP rfl)) rfl rfl hl.1 rfl (lv_room (Nat.le_of_ble_eq_true rfl)) (kdr dgL_law_681 4 8 rfl rfl) ⟨by show _ ≤ (600128 : Nat); omega, by show _ ≤ (7301098 : Nat); omega⟩) hP hD hS hA (kFr_l (kFr_r kFr_Mo)) (fun H locs hP hD hS br5 => ?_)
  refine lv_istore (lv' := (kvI 6 r5.1 (kvI 5 r4.1 (kvA 0 b9 (kvA 1 (a 0) (kvA 2 (b 0) (kvA 3 o (kvI 4 x4 kvE)))))))) hx hb (kdr dgL_law_681 4 9 rfl rfl) hl (by decide) rfl (fun ls hl => ?_)
  refine lv_goto (tgt := 1845) hx hb (kdr dgL_law_681 5 0 rfl rfl) (by decide) ?_
  exact hK9 ce fr un r4.2.1 r4.2.2.1 so sc wb we wo wc fb fe fo fc rm r4.2.2.2.1 r4.2.2.2.2.1 kn mce mfr mun r5.2.1 r5.2.2.1 mov msp mwb mwe mwi r5.2.2.2.1 r5.2.2.2.2.1 mkn r5.2.2.2.2.2 r4.2.2.2.2.2 ov x4 b _ _ _ _ (by omega) (by omega) hP hD hS ls (lv_sub hl [2, 3, 4, 5, 6] rfl) h
noncomputable def flaw_757 (L : Nat) (xs : Nat → Int32) (K : kFT) (ce : Nat → Int64) (fr : Int64) (un : Int64) (sb : Nat → Int64) (se : Nat → Int64) (so : Nat → Int32) (sc : Int32) (wb : Nat → Int64) (we : Nat → Int64) (wo : Nat → Int32) (wc : Int32) (fb : Nat → Int64) (fe : Nat → Int64) (fo : Nat → Int32) (fc : Int32) (rm : Nat → Int32) (ac : Int32) (rf : Int32) (kn : Int32) (mce : Nat → Int64) (mfr : Int64) (mun : Int64) (mbe : Nat → Int64) (men : Nat → Int64) (mov : Nat → Int32) (msp : Int32) (mwb : Nat → Int64) (mwe : Nat → Int64) (mwi : Int32) (mac : Int32) (mre : Int32) (mkn : Int32) (mth : Int32) (on : Int64) (x4 : Int32) : Option Int32 :=
  if ix (x4 + 1) L then
    if ix (x4 + 2) L then
      if ix (x4 + 3) L then
        (f_L_stretch fr un sb se sc ac rf on (xs (x4 + 1).toNatClampNeg) (xs (x4 + 2).toNatClampNeg) (xs (x4 + 3).toNatClampNeg)).bind fun r4 =>
        (f_X3_stretch mfr mun mbe men msp mac mre (xs (x4 + 1).toNatClampNeg) (xs (x4 + 2).toNatClampNeg) (xs (x4 + 3).toNatClampNeg)).bind fun r5 =>
        K ce fr un r4.2.1 r4.2.2.1 so sc wb we wo wc fb fe fo fc rm r4.2.2.2.1 r4.2.2.2.2.1 kn mce mfr mun mbe r5.2.1 mov msp mwb mwe mwi r5.2.2.1 r5.2.2.2.1 mkn r5.2.2.2.2 r4.2.2.2.2.2 x4
      else none
    else none
  else none
theorem flaw_757_e {L : Nat} {xs : Nat → Int32} {K : kFT} (ce : Nat → Int64) (fr : Int64) (un : Int64) (sb : Nat → Int64) (se : Nat → Int64) (so : Nat → Int32) (sc : Int32) (wb : Nat → Int64) (we : Nat → Int64) (wo : Nat → Int32) (wc : Int32) (fb : Nat → Int64) (fe : Nat → Int64) (fo : Nat → Int32) (fc : Int32) (rm : Nat → Int32) (ac : Int32) (rf : Int32) (kn : Int32) (mce : Nat → Int64) (mfr : Int64) (mun : Int64) (mbe : Nat → Int64) (men : Nat → Int64) (mov : Nat → Int32) (msp : Int32) (mwb : Nat → Int64) (mwe : Nat → Int64) (mwi : Int32) (mac : Int32) (mre : Int32) (mkn : Int32) (mth : Int32) (on : Int64) (x4 : Int32) : flaw_757 L xs K ce fr un sb se so sc wb we wo wc fb fe fo fc rm ac rf kn mce mfr mun mbe men mov msp mwb mwe mwi mac mre mkn mth on x4 =
  if ix (x4 + 1) L then
    if ix (x4 + 2) L then
      if ix (x4 + 3) L then
        (f_L_stretch fr un sb se sc ac rf on (xs (x4 + 1).toNatClampNeg) (xs (x4 + 2).toNatClampNeg) (xs (x4 + 3).toNatClampNeg)).bind fun r4 =>
        (f_X3_stretch mfr mun mbe men msp mac mre (xs (x4 + 1).toNatClampNeg) (xs (x4 + 2).toNatClampNeg) (xs (x4 + 3).toNatClampNeg)).bind fun r5 =>
        K ce fr un r4.2.1 r4.2.2.1 so sc wb we wo wc fb fe fo fc rm r4.2.2.2.1 r4.2.2.2.2.1 kn mce mfr mun mbe r5.2.1 mov msp mwb mwe mwi r5.2.2.1 r5.2.2.2.1 mkn r5.2.2.2.2 r4.2.2.2.2.2 x4
      else none
    else none
  else none := rfl
set_option maxHeartbeats 8000000 in
set_option maxRecDepth 100000 in
theorem law_11 {p : Program} {l : Launch} {e : Env} {s : State} {m : MethodId} {below : List Frame} {meth : Method} {c : Code} {dC : Nat → ClassId} {dI : Nat → Nat → Nat} {cB cI cJ cZ : ClassId} {b9 L : Nat} {xs : Nat → Int32} {A : Nat → Prop} (hl9 : l.stackTraces = false) (C0 : kLw p s m c b9 L xs A) (hK : va_K (dC, dI) vwCl (kTy cB cI cJ cZ) s) {a : Nat → Nat} {o : Nat} (K : kFT) (bK sK : Nat) (hK9 : kGo p l e s m below meth c dC dI cB cI cJ cZ b9 A a o 1845 bK sK K) : kGo p l e s m below meth c dC dI cB cI cJ cZ b9 A a o 757 (1 + bK) (6 + sK) (flaw_757 L xs K) := by
  obtain ⟨hx, hb, hml, hown, hts, hX, hbl, hA, hbA, hG, hZ⟩ := C0
  intro ce fr un sb se so sc wb we wo wc fb fe fo fc rm ac rf kn mce mfr mun mbe men mov msp mwb mwe mwi mac mre mkn mth on ov x4 b H locs kc ks hkc hks hP hD hS ls hl h
  have h := (flaw_757_e ce fr un sb se so sc wb we wo wc fb fe fo fc rm ac rf kn mce mfr mun mbe men mov msp mwb mwe mwi mac mre mkn mth on x4).symm.trans h
  refine lv_aload_n hx hb (kdr dgL_law_681 5 1 rfl rfl) rfl (lv_at hl 1 rfl) ?_
  obtain ⟨z0, h⟩ := g_if h
  refine kld (v := 1) hx hb (kdr dgL_law_681 5 2 rfl rfl) rfl (lv_at hl 0 rfl) (kdr dgL_law_681 5 3 rfl rfl) (lv_at hl 4 rfl) (kdr dgL_law_681 5 4 rfl rfl) (by decide) (kdr dgL_law_681 5 5 rfl rfl) hX hbl hbA hS (ix_in z0) (kdr dgL_law_681 5 6 rfl rfl) ?_
  obtain ⟨z1, h⟩ := g_if h
  refine kld (v := 2) hx hb (kdr dgL_law_681 5 7 rfl rfl) rfl (lv_at hl 0 rfl) (kdr dgL_law_681 5 8 rfl rfl) (lv_at hl 4 rfl) (kdr dgL_law_681 5 9 rfl rfl) (by decide) (kdr dgL_law_681 6 0 rfl rfl) hX hbl hbA hS (ix_in z1) (kdr dgL_law_681 6 1 rfl rfl) ?_
  obtain ⟨z2, h⟩ := g_if h
  refine kld (v := 3) hx hb (kdr dgL_law_681 6 2 rfl rfl) rfl (lv_at hl 0 rfl) (kdr dgL_law_681 6 3 rfl rfl) (lv_at hl 4 rfl) (kdr dgL_law_681 6 4 rfl rfl) (by decide) (kdr dgL_law_681 6 5 rfl rfl) hX hbl hbA hS (ix_in z2) (kdr dgL_law_681 6 6 rfl rfl) ?_
  refine lv_aload_n hx hb (kdr dgL_law_681 6 7 rfl rfl) rfl (lv_at hl 3 rfl) ?_
  obtain ⟨r4, g4, h⟩ := g_b h
  refine kq_i ((wSB cI cJ cZ a ce fr un r4.2.1 r4.2.2.1 so sc wb we wo wc fb fe fo fc rm r4.2.2.2.1 r4.2.2.2.2.1 kn) ++ (wMo cJ cZ b mce mfr mun mbe men mov msp mwb mwe mwi mac mre mkn mth) ++ (wO o r4.2.2.2.2.2 ov)) (fun qP qD qF => vx_runSW (As := [.ref (a 0), .int (xs (x4 + 1).toNatClampNeg), .int (xs (x4 + 2).toNatClampNeg), .int (xs (x4 + 3).toNatClampNeg), .ref o]) (rest := []) ⟨hx, hb, hml, hown, hts⟩ (c_L_stretch l hl9 dC dI cB cI cJ cZ a o _ ce fr un sb se so sc wb we wo wc fb fe fo fc rm ac rf kn on ov (xs (x4 + 1).toNatClampNeg) (xs (x4 + 2).toNatClampNeg) (xs (x4 + 3).toNatClampNeg) r4 g4) (kcwSW hts kw_619 kv_L_stretch rfl rfl ⟨(Nat.le_of_ble_eq_true rfl), (Nat.le_of_ble_eq_true rfl)⟩) (kpSXq (A := A) qP hK qD hG hZ hS qF) rfl rfl hl.1 rfl (lv_room (Nat.le_of_ble_eq_true rfl)) (kdr dgL_law_681 6 8 rfl rfl) ⟨by show _ ≤ (600128 : Nat); omega, by show _ ≤ (7301098 : Nat); omega⟩) hP hD hS hA (kFr_2 (kFr_l kFr_SB) kFr_o) (fun H locs hP hD hS br4 => ?_)
  refine lv_istore (lv' := (kvI 5 r4.1 (kvA 0 b9 (kvA 1 (a 0) (kvA 2 (b 0) (kvA 3 o (kvI 4 x4 kvE))))))) hx hb (kdr dgL_law_681 6 9 rfl rfl) hl (by decide) rfl (fun ls hl => ?_)
  refine lv_aload_n hx hb (kdr dgL_law_681 7 0 rfl rfl) rfl (lv_at hl 3 rfl) ?_
  refine kld (v := 1) hx hb (kdr dgL_law_681 7 1 rfl rfl) rfl (lv_at hl 1 rfl) (kdr dgL_law_681 7 2 rfl rfl) (lv_at hl 5 rfl) (kdr dgL_law_681 7 3 rfl rfl) (by decide) (kdr dgL_law_681 7 4 rfl rfl) hX hbl hbA hS (ix_in z0) (kdr dgL_law_681 7 5 rfl rfl) ?_
  refine kld (v := 2) hx hb (kdr dgL_law_681 7 6 rfl rfl) rfl (lv_at hl 1 rfl) (kdr dgL_law_681 7 7 rfl rfl) (lv_at hl 5 rfl) (kdr dgL_law_681 7 8 rfl rfl) (by decide) (kdr dgL_law_681 7 9 rfl rfl) hX hbl hbA hS (ix_in z1) (kdr dgL_law_681 8 0 rfl rfl) ?_
  refine kld (v := 3) hx hb (kdr dgL_law_681 8 1 rfl rfl) rfl (lv_at hl 1 rfl) (kdr dgL_law_681 8 2 rfl rfl) (lv_at hl 5 rfl) (kdr dgL_law_681 8 3 rfl rfl) (by decide) (kdr dgL_law_681 8 4 rfl rfl) hX hbl hbA hS (ix_in z2) (kdr dgL_law_681 8 5 rfl rfl) ?_
  obtain ⟨r5, g5, h⟩ := g_b h
  refine kq_i ((wSB cI cJ cZ a ce fr un r4.2.1 r4.2.2.1 so sc wb we wo wc fb fe fo fc rm r4.2.2.2.1 r4.2.2.2.2.1 kn) ++ (wMo cJ cZ b mce mfr mun mbe r5.2.1 mov msp mwb mwe mwi r5.2.2.1 r5.2.2.2.1 mkn r5.2.2.2.2) ++ (wO o r4.2.2.2.2.2 ov)) (fun qP qD qF => va_runV (As := [.int (xs (x4 + 1).toNatClampNeg), .int (xs (x4 + 2).toNatClampNeg), .int (xs (x4 + 3).toNatClampNeg)]) (rest := []) ⟨hx, hb, hml, hown, hts⟩ (c_X3_stretch l dC dI cB cI cJ cZ b _ mce mfr mun mbe men mov msp mwb mwe mwi mac mre mkn mth (xs (x4 + 1).toNatClampNeg) (xs (x4 + 2).toNatClampNeg) (xs (x4 + 3).toNatClampNeg) r5 g5) (kcwV hts kw_1234 kv_X3_stretch rfl rfl ⟨(Nat.le_of_ble_eq_true rfl), (Nat.le_of_ble_eq_true rfl)⟩) (kpV (A := A) qP hK qD hG (krecv_5 (q0 := 15) hK hP rfl)) rfl rfl hl.1 rfl (lv_room (Nat.le_of_ble_eq_true rfl)) (kdr dgL_law_681 8 6 rfl rfl) ⟨by show _ ≤ (600128 : Nat); omega, by show _ ≤ (7301098 : Nat); omega⟩) hP hD hS hA (kFr_l (kFr_r kFr_Mo)) (fun H locs hP hD hS br5 => ?_)
  refine lv_istore (lv' := (kvI 6 r5.1 (kvI 5 r4.1 (kvA 0 b9 (kvA 1 (a 0) (kvA 2 (b 0) (kvA 3 o (kvI 4 x4 kvE)))))))) hx hb (kdr dgL_law_681 8 7 rfl rfl) hl (by decide) rfl (fun ls hl => ?_)
  refine lv_goto (tgt := 1845) hx hb (kdr dgL_law_681 8 8 rfl rfl) (by decide) ?_
  exact hK9 ce fr un r4.2.1 r4.2.2.1 so sc wb we wo wc fb fe fo fc rm r4.2.2.2.1 r4.2.2.2.2.1 kn mce mfr mun mbe r5.2.1 mov msp mwb mwe mwi r5.2.2.1 r5.2.2.2.1 mkn r5.2.2.2.2 r4.2.2.2.2.2 ov x4 b _ _ _ _ (by omega) (by omega) hP hD hS ls (lv_sub hl [2, 3, 4, 5, 6] rfl) h
noncomputable def flaw_809 (L : Nat) (xs : Nat → Int32) (K : kFT) (ce : Nat → Int64) (fr : Int64) (un : Int64) (sb : Nat → Int64) (se : Nat → Int64) (so : Nat → Int32) (sc : Int32) (wb : Nat → Int64) (we : Nat → Int64) (wo : Nat → Int32) (wc : Int32) (fb : Nat → Int64) (fe : Nat → Int64) (fo : Nat → Int32) (fc : Int32) (rm : Nat → Int32) (ac : Int32) (rf : Int32) (kn : Int32) (mce : Nat → Int64) (mfr : Int64) (mun : Int64) (mbe : Nat → Int64) (men : Nat → Int64) (mov : Nat → Int32) (msp : Int32) (mwb : Nat → Int64) (mwe : Nat → Int64) (mwi : Int32) (mac : Int32) (mre : Int32) (mkn : Int32) (mth : Int32) (on : Int64) (x4 : Int32) : Option Int32 :=
  if ix (x4 + 1) L then
    if ix (x4 + 2) L then
      if ix (x4 + 3) L then
        if ix (x4 + 4) L then
          (f_L_fit ce fr un sb se sc ac rf on (xs (x4 + 1).toNatClampNeg) (xs (x4 + 2).toNatClampNeg) (xs (x4 + 3).toNatClampNeg) (xs (x4 + 4).toNatClampNeg)).bind fun r5 =>
          (f_X3_fit mce mfr mun mbe men msp mac mre (xs (x4 + 1).toNatClampNeg) (xs (x4 + 2).toNatClampNeg) (xs (x4 + 3).toNatClampNeg) (xs (x4 + 4).toNatClampNeg)).bind fun r6 =>
          K r5.2.1 fr un sb se so sc wb we wo wc fb fe fo fc rm r5.2.2.1 r5.2.2.2.1 kn r6.2.1 mfr mun mbe men mov msp mwb mwe mwi r6.2.2.1 r6.2.2.2.1 mkn r6.2.2.2.2 r5.2.2.2.2 x4
        else none
      else none
    else none
  else none
theorem flaw_809_e {L : Nat} {xs : Nat → Int32} {K : kFT} (ce : Nat → Int64) (fr : Int64) (un : Int64) (sb : Nat → Int64) (se : Nat → Int64) (so : Nat → Int32) (sc : Int32) (wb : Nat → Int64) (we : Nat → Int64) (wo : Nat → Int32) (wc : Int32) (fb : Nat → Int64) (fe : Nat → Int64) (fo : Nat → Int32) (fc : Int32) (rm : Nat → Int32) (ac : Int32) (rf : Int32) (kn : Int32) (mce : Nat → Int64) (mfr : Int64) (mun : Int64) (mbe : Nat → Int64) (men : Nat → Int64) (mov : Nat → Int32) (msp : Int32) (mwb : Nat → Int64) (mwe : Nat → Int64) (mwi : Int32) (mac : Int32) (mre : Int32) (mkn : Int32) (mth : Int32) (on : Int64) (x4 : Int32) : flaw_809 L xs K ce fr un sb se so sc wb we wo wc fb fe fo fc rm ac rf kn mce mfr mun mbe men mov msp mwb mwe mwi mac mre mkn mth on x4 =
  if ix (x4 + 1) L then
    if ix (x4 + 2) L then
      if ix (x4 + 3) L then
        if ix (x4 + 4) L then
          (f_L_fit ce fr un sb se sc ac rf on (xs (x4 + 1).toNatClampNeg) (xs (x4 + 2).toNatClampNeg) (xs (x4 + 3).toNatClampNeg) (xs (x4 + 4).toNatClampNeg)).bind fun r5 =>
          (f_X3_fit mce mfr mun mbe men msp mac mre (xs (x4 + 1).toNatClampNeg) (xs (x4 + 2).toNatClampNeg) (xs (x4 + 3).toNatClampNeg) (xs (x4 + 4).toNatClampNeg)).bind fun r6 =>
          K r5.2.1 fr un sb se so sc wb we wo wc fb fe fo fc rm r5.2.2.1 r5.2.2.2.1 kn r6.2.1 mfr mun mbe men mov msp mwb mwe mwi r6.2.2.1 r6.2.2.2.1 mkn r6.2.2.2.2 r5.2.2.2.2 x4
        else none
      else none
    else none
  else none := rfl
set_option maxHeartbeats 8000000 in
set_option maxRecDepth 100000 in
theorem law_12 {p : Program} {l : Launch} {e : Env} {s : State} {m : MethodId} {below : List Frame} {meth : Method} {c : Code} {dC : Nat → ClassId} {dI : Nat → Nat → Nat} {cB cI cJ cZ : ClassId} {b9 L : Nat} {xs : Nat → Int32} {A : Nat → Prop} (hl9 : l.stackTraces = false) (C0 : kLw p s m c b9 L xs A) (hK : va_K (dC, dI) vwCl (kTy cB cI cJ cZ) s) {a : Nat → Nat} {o : Nat} (K : kFT) (bK sK : Nat) (hK9 : kGo p l e s m below meth c dC dI cB cI cJ cZ b9 A a o 1845 bK sK K) : kGo p l e s m below meth c dC dI cB cI cJ cZ b9 A a o 809 (1 + bK) (6 + sK) (flaw_809 L xs K) := by
  obtain ⟨hx, hb, hml, hown, hts, hX, hbl, hA, hbA, hG, hZ⟩ := C0
  intro ce fr un sb se so sc wb we wo wc fb fe fo fc rm ac rf kn mce mfr mun mbe men mov msp mwb mwe mwi mac mre mkn mth on ov x4 b H locs kc ks hkc hks hP hD hS ls hl h
  have h := (flaw_809_e ce fr un sb se so sc wb we wo wc fb fe fo fc rm ac rf kn mce mfr mun mbe men mov msp mwb mwe mwi mac mre mkn mth on x4).symm.trans h
  refine lv_aload_n hx hb (kdr dgL_law_681 8 9 rfl rfl) rfl (lv_at hl 1 rfl) ?_
  obtain ⟨z0, h⟩ := g_if h
  refine kld (v := 1) hx hb (kdr dgL_law_681 9 0 rfl rfl) rfl (lv_at hl 0 rfl) (kdr dgL_law_681 9 1 rfl rfl) (lv_at hl 4 rfl) (kdr dgL_law_681 9 2 rfl rfl) (by decide) (kdr dgL_law_681 9 3 rfl rfl) hX hbl hbA hS (ix_in z0) (kdr dgL_law_681 9 4 rfl rfl) ?_
  obtain ⟨z1, h⟩ := g_if h
  refine kld (v := 2) hx hb (kdr dgL_law_681 9 5 rfl rfl) rfl (lv_at hl 0 rfl) (kdr dgL_law_681 9 6 rfl rfl) (lv_at hl 4 rfl) (kdr dgL_law_681 9 7 rfl rfl) (by decide) (kdr dgL_law_681 9 8 rfl rfl) hX hbl hbA hS (ix_in z1) (kdr dgL_law_681 9 9 rfl rfl) ?_
  obtain ⟨z2, h⟩ := g_if h
  refine kld (v := 3) hx hb (kdr dgL_law_822 0 0 rfl rfl) rfl (lv_at hl 0 rfl) (kdr dgL_law_822 0 1 rfl rfl) (lv_at hl 4 rfl) (kdr dgL_law_822 0 2 rfl rfl) (by decide) (kdr dgL_law_822 0 3 rfl rfl) hX hbl hbA hS (ix_in z2) (kdr dgL_law_822 0 4 rfl rfl) ?_
  obtain ⟨z3, h⟩ := g_if h
  refine kld (v := 4) hx hb (kdr dgL_law_822 0 5 rfl rfl) rfl (lv_at hl 0 rfl) (kdr dgL_law_822 0 6 rfl rfl) (lv_at hl 4 rfl) (kdr dgL_law_822 0 7 rfl rfl) (by decide) (kdr dgL_law_822 0 8 rfl rfl) hX hbl hbA hS (ix_in z3) (kdr dgL_law_822 0 9 rfl rfl) ?_
  refine lv_aload_n hx hb (kdr dgL_law_822 1 0 rfl rfl) rfl (lv_at hl 3 rfl) ?_
  obtain ⟨r5, g5, h⟩ := g_b h
  refine kq_i ((wSB cI cJ cZ a r5.2.1 fr un sb se so sc wb we wo wc fb fe fo fc rm r5.2.2.1 r5.2.2.2.1 kn) ++ (wMo cJ cZ b mce mfr mun mbe men mov msp mwb mwe mwi mac mre mkn mth) ++ (wO o r5.2.2.2.2 ov)) (fun qP qD qF => vx_runSW (As := [.ref (a 0), .int (xs (x4 + 1).toNatClampNeg), .int (xs (x4 + 2).toNatClampNeg), .int (xs (x4 + 3).toNatClampNeg), .int (xs (x4 + 4).toNatClampNeg), .ref o]) (rest := []) ⟨hx, hb, hml, hown, hts⟩ (c_L_fit l hl9 dC dI cB cI cJ cZ a o _ ce fr un sb se so sc wb we wo wc fb fe fo fc rm ac rf kn on ov (xs (x4 + 1).toNatClampNeg) (xs (x4 + 2).toNatClampNeg) (xs (x4 + 3).toNatClampNeg) (xs (x4 + 4).toNatClampNeg) r5 g5) (kcwSW hts kw_630 kv_L_fit rfl rfl ⟨(Nat.le_of_ble_eq_true rfl), (Nat.le_of_ble_eq_true rfl)⟩) (kpSXq (A := A) qP hK qD hG hZ hS qF) rfl rfl hl.1 rfl (lv_room (Nat.le_of_ble_eq_true rfl)) (kdr dgL_law_822 1 1 rfl rfl) ⟨by show _ ≤ (600128 : Nat); omega, by show _ ≤ (7301098 : Nat); omega⟩) hP hD hS hA (kFr_2 (kFr_l kFr_SB) kFr_o) (fun H locs hP hD hS br5 => ?_)
  refine lv_istore (lv' := (kvI 5 r5.1 (kvA 0 b9 (kvA 1 (a 0) (kvA 2 (b 0) (kvA 3 o (kvI 4 x4 kvE))))))) hx hb (kdr dgL_law_822 1 2 rfl rfl) hl (by decide) rfl (fun ls hl => ?_)
  refine lv_aload_n hx hb (kdr dgL_law_822 1 3 rfl rfl) rfl (lv_at hl 3 rfl) ?_
  refine kld (v := 1) hx hb (kdr dgL_law_822 1 4 rfl rfl) rfl (lv_at hl 1 rfl) (kdr dgL_law_822 1 5 rfl rfl) (lv_at hl 5 rfl) (kdr dgL_law_822 1 6 rfl rfl) (by decide) (kdr dgL_law_822 1 7 rfl rfl) hX hbl hbA hS (ix_in z0) (kdr dgL_law_822 1 8 rfl rfl) ?_
  refine kld (v := 2) hx hb (kdr dgL_law_822 1 9 rfl rfl) rfl (lv_at hl 1 rfl) (kdr dgL_law_822 2 0 rfl rfl) (lv_at hl 5 rfl) (kdr dgL_law_822 2 1 rfl rfl) (by decide) (kdr dgL_law_822 2 2 rfl rfl) hX hbl hbA hS (ix_in z1) (kdr dgL_law_822 2 3 rfl rfl) ?_
  refine kld (v := 3) hx hb (kdr dgL_law_822 2 4 rfl rfl) rfl (lv_at hl 1 rfl) (kdr dgL_law_822 2 5 rfl rfl) (lv_at hl 5 rfl) (kdr dgL_law_822 2 6 rfl rfl) (by decide) (kdr dgL_law_822 2 7 rfl rfl) hX hbl hbA hS (ix_in z2) (kdr dgL_law_822 2 8 rfl rfl) ?_
  refine kld (v := 4) hx hb (kdr dgL_law_822 2 9 rfl rfl) rfl (lv_at hl 1 rfl) (kdr dgL_law_822 3 0 rfl rfl) (lv_at hl 5 rfl) (kdr dgL_law_822 3 1 rfl rfl) (by decide) (kdr dgL_law_822 3 2 rfl rfl) hX hbl hbA hS (ix_in z3) (kdr dgL_law_822 3 3 rfl rfl) ?_
  obtain ⟨r6, g6, h⟩ := g_b h
  refine kq_i ((wSB cI cJ cZ a r5.2.1 fr un sb se so sc wb we wo wc fb fe fo fc rm r5.2.2.1 r5.2.2.2.1 kn) ++ (wMo cJ cZ b r6.2.1 mfr mun mbe men mov msp mwb mwe mwi r6.2.2.1 r6.2.2.2.1 mkn r6.2.2.2.2) ++ (wO o r5.2.2.2.2 ov)) (fun qP qD qF => va_runV (As := [.int (xs (x4 + 1).toNatClampNeg), .int (xs (x4 + 2).toNatClampNeg), .int (xs (x4 + 3).toNatClampNeg), .int (xs (x4 + 4).toNatClampNeg)]) (rest := []) ⟨hx, hb, hml, hown, hts⟩ (c_X3_fit l dC dI cB cI cJ cZ b _ mce mfr mun mbe men mov msp mwb mwe mwi mac mre mkn mth (xs (x4 + 1).toNatClampNeg) (xs (x4 + 2).toNatClampNeg) (xs (x4 + 3).toNatClampNeg) (xs (x4 + 4).toNatClampNeg) r6 g6) (kcwV hts kw_1238 kv_X3_fit rfl rfl ⟨(Nat.le_of_ble_eq_true rfl), (Nat.le_of_ble_eq_true rfl)⟩) (kpV (A := A) qP hK qD hG (krecv_5 (q0 := 15) hK hP rfl)) rfl rfl hl.1 rfl (lv_room (Nat.le_of_ble_eq_true rfl)) (kdr dgL_law_822 3 4 rfl rfl) ⟨by show _ ≤ (600128 : Nat); omega, by show _ ≤ (7301098 : Nat); omega⟩) hP hD hS hA (kFr_l (kFr_r kFr_Mo)) (fun H locs hP hD hS br6 => ?_)
  refine lv_istore (lv' := (kvI 6 r6.1 (kvI 5 r5.1 (kvA 0 b9 (kvA 1 (a 0) (kvA 2 (b 0) (kvA 3 o (kvI 4 x4 kvE)))))))) hx hb (kdr dgL_law_822 3 5 rfl rfl) hl (by decide) rfl (fun ls hl => ?_)
  refine lv_goto (tgt := 1845) hx hb (kdr dgL_law_822 3 6 rfl rfl) (by decide) ?_
  exact hK9 r5.2.1 fr un sb se so sc wb we wo wc fb fe fo fc rm r5.2.2.1 r5.2.2.2.1 kn r6.2.1 mfr mun mbe men mov msp mwb mwe mwi r6.2.2.1 r6.2.2.2.1 mkn r6.2.2.2.2 r5.2.2.2.2 ov x4 b _ _ _ _ (by omega) (by omega) hP hD hS ls (lv_sub hl [2, 3, 4, 5, 6] rfl) h
noncomputable def flaw_873 (L : Nat) (xs : Nat → Int32) (K : kFT) (ce : Nat → Int64) (fr : Int64) (un : Int64) (sb : Nat → Int64) (se : Nat → Int64) (so : Nat → Int32) (sc : Int32) (wb : Nat → Int64) (we : Nat → Int64) (wo : Nat → Int32) (wc : Int32) (fb : Nat → Int64) (fe : Nat → Int64) (fo : Nat → Int32) (fc : Int32) (rm : Nat → Int32) (ac : Int32) (rf : Int32) (kn : Int32) (mce : Nat → Int64) (mfr : Int64) (mun : Int64) (mbe : Nat → Int64) (men : Nat → Int64) (mov : Nat → Int32) (msp : Int32) (mwb : Nat → Int64) (mwe : Nat → Int64) (mwi : Int32) (mac : Int32) (mre : Int32) (mkn : Int32) (mth : Int32) (on : Int64) (x4 : Int32) : Option Int32 :=
  if ix (x4 + 1) L then
    if ix (x4 + 2) L then
      (f_L_wish ce wb we wo wc ac rf on (xs (x4 + 1).toNatClampNeg) (xs (x4 + 2).toNatClampNeg)).bind fun r3 =>
      (f_X3_wish mce mwb mwe mwi mac mre (xs (x4 + 1).toNatClampNeg) (xs (x4 + 2).toNatClampNeg)).bind fun r4 =>
      K ce fr un sb se so sc r3.2.1 r3.2.2.1 r3.2.2.2.1 r3.2.2.2.2.1 fb fe fo fc rm r3.2.2.2.2.2.1 r3.2.2.2.2.2.2.1 kn mce mfr mun mbe men mov msp r4.2.1 r4.2.2.1 r4.2.2.2.1 r4.2.2.2.2.1 r4.2.2.2.2.2.1 mkn r4.2.2.2.2.2.2 r3.2.2.2.2.2.2.2 x4
    else none
  else none
theorem flaw_873_e {L : Nat} {xs : Nat → Int32} {K : kFT} (ce : Nat → Int64) (fr : Int64) (un : Int64) (sb : Nat → Int64) (se : Nat → Int64) (so : Nat → Int32) (sc : Int32) (wb : Nat → Int64) (we : Nat → Int64) (wo : Nat → Int32) (wc : Int32) (fb : Nat → Int64) (fe : Nat → Int64) (fo : Nat → Int32) (fc : Int32) (rm : Nat → Int32) (ac : Int32) (rf : Int32) (kn : Int32) (mce : Nat → Int64) (mfr : Int64) (mun : Int64) (mbe : Nat → Int64) (men : Nat → Int64) (mov : Nat → Int32) (msp : Int32) (mwb : Nat → Int64) (mwe : Nat → Int64) (mwi : Int32) (mac : Int32) (mre : Int32) (mkn : Int32) (mth : Int32) (on : Int64) (x4 : Int32) : flaw_873 L xs K ce fr un sb se so sc wb we wo wc fb fe fo fc rm ac rf kn mce mfr mun mbe men mov msp mwb mwe mwi mac mre mkn mth on x4 =
  if ix (x4 + 1) L then
    if ix (x4 + 2) L then
      (f_L_wish ce wb we wo wc ac rf on (xs (x4 + 1).toNatClampNeg) (xs (x4 + 2).toNatClampNeg)).bind fun r3 =>
      (f_X3_wish mce mwb mwe mwi mac mre (xs (x4 + 1).toNatClampNeg) (xs (x4 + 2).toNatClampNeg)).bind fun r4 =>
      K ce fr un sb se so sc r3.2.1 r3.2.2.1 r3.2.2.2.1 r3.2.2.2.2.1 fb fe fo fc rm r3.2.2.2.2.2.1 r3.2.2.2.2.2.2.1 kn mce mfr mun mbe men mov msp r4.2.1 r4.2.2.1 r4.2.2.2.1 r4.2.2.2.2.1 r4.2.2.2.2.2.1 mkn r4.2.2.2.2.2.2 r3.2.2.2.2.2.2.2 x4
    else none
  else none := rfl
set_option maxHeartbeats 8000000 in
set_option maxRecDepth 100000 in
theorem law_13 {p : Program} {l : Launch} {e : Env} {s : State} {m : MethodId} {below : List Frame} {meth : Method} {c : Code} {dC : Nat → ClassId} {dI : Nat → Nat → Nat} {cB cI cJ cZ : ClassId} {b9 L : Nat} {xs : Nat → Int32} {A : Nat → Prop} (hl9 : l.stackTraces = false) (C0 : kLw p s m c b9 L xs A) (hK : va_K (dC, dI) vwCl (kTy cB cI cJ cZ) s) {a : Nat → Nat} {o : Nat} (K : kFT) (bK sK : Nat) (hK9 : kGo p l e s m below meth c dC dI cB cI cJ cZ b9 A a o 1845 bK sK K) : kGo p l e s m below meth c dC dI cB cI cJ cZ b9 A a o 873 (1 + bK) (6 + sK) (flaw_873 L xs K) := by
  obtain ⟨hx, hb, hml, hown, hts, hX, hbl, hA, hbA, hG, hZ⟩ := C0
  intro ce fr un sb se so sc wb we wo wc fb fe fo fc rm ac rf kn mce mfr mun mbe men mov msp mwb mwe mwi mac mre mkn mth on ov x4 b H locs kc ks hkc hks hP hD hS ls hl h
  have h := (flaw_873_e ce fr un sb se so sc wb we wo wc fb fe fo fc rm ac rf kn mce mfr mun mbe men mov msp mwb mwe mwi mac mre mkn mth on x4).symm.trans h
  refine lv_aload_n hx hb (kdr dgL_law_822 3 7 rfl rfl) rfl (lv_at hl 1 rfl) ?_
  obtain ⟨z0, h⟩ := g_if h
  refine kld (v := 1) hx hb (kdr dgL_law_822 3 8 rfl rfl) rfl (lv_at hl 0 rfl) (kdr dgL_law_822 3 9 rfl rfl) (lv_at hl 4 rfl) (kdr dgL_law_822 4 0 rfl rfl) (by decide) (kdr dgL_law_822 4 1 rfl rfl) hX hbl hbA hS (ix_in z0) (kdr dgL_law_822 4 2 rfl rfl) ?_
  obtain ⟨z1, h⟩ := g_if h
  refine kld (v := 2) hx hb (kdr dgL_law_822 4 3 rfl rfl) rfl (lv_at hl 0 rfl) (kdr dgL_law_822 4 4 rfl rfl) (lv_at hl 4 rfl) (kdr dgL_law_822 4 5 rfl rfl) (by decide) (kdr dgL_law_822 4 6 rfl rfl) hX hbl hbA hS (ix_in z1) (kdr dgL_law_822 4 7 rfl rfl) ?_
  refine lv_aload_n hx hb (kdr dgL_law_822 4 8 rfl rfl) rfl (lv_at hl 3 rfl) ?_
  obtain ⟨r3, g3, h⟩ := g_b h
  refine kq_i ((wSB cI cJ cZ a ce fr un sb se so sc r3.2.1 r3.2.2.1 r3.2.2.2.1 r3.2.2.2.2.1 fb fe fo fc rm r3.2.2.2.2.2.1 r3.2.2.2.2.2.2.1 kn) ++ (wMo cJ cZ b mce mfr mun mbe men mov msp mwb mwe mwi mac mre mkn mth) ++ (wO o r3.2.2.2.2.2.2.2 ov)) (fun qP qD qF => vx_runSW (As := [.ref (a 0), .int (xs (x4 + 1).toNatClampNeg), .int (xs (x4 + 2).toNatClampNeg), .ref o]) (rest := []) ⟨hx, hb, hml, hown, hts⟩ (c_L_wish l hl9 dC dI cB cI cJ cZ a o _ ce fr un sb se so sc wb we wo wc fb fe fo fc rm ac rf kn on ov (xs (x4 + 1).toNatClampNeg) (xs (x4 + 2).toNatClampNeg) r3 g3) (kcwSW hts kw_640 kv_L_wish rfl rfl ⟨(Nat.le_of_ble_eq_true rfl), (Nat.le_of_ble_eq_true rfl)⟩) (kpSXq (A := A) qP hK qD hG hZ hS qF) rfl rfl hl.1 rfl (lv_room (Nat.le_of_ble_eq_true rfl)) (kdr dgL_law_822 4 9 rfl rfl) ⟨by show _ ≤ (600128 : Nat); omega, by show _ ≤ (7301098 : Nat); omega⟩) hP hD hS hA (kFr_2 (kFr_l kFr_SB) kFr_o) (fun H locs hP hD hS br3 => ?_)
  refine lv_istore (lv' := (kvI 5 r3.1 (kvA 0 b9 (kvA 1 (a 0) (kvA 2 (b 0) (kvA 3 o (kvI 4 x4 kvE))))))) hx hb (kdr dgL_law_822 5 0 rfl rfl) hl (by decide) rfl (fun ls hl => ?_)
  refine lv_aload_n hx hb (kdr dgL_law_822 5 1 rfl rfl) rfl (lv_at hl 3 rfl) ?_
  refine kld (v := 1) hx hb (kdr dgL_law_822 5 2 rfl rfl) rfl (lv_at hl 1 rfl) (kdr dgL_law_822 5 3 rfl rfl) (lv_at hl 5 rfl) (kdr dgL_law_822 5 4 rfl rfl) (by decide) (kdr dgL_law_822 5 5 rfl rfl) hX hbl hbA hS (ix_in z0) (kdr dgL_law_822 5 6 rfl rfl) ?_
  refine kld (v := 2) hx hb (kdr dgL_law_822 5 7 rfl rfl) rfl (lv_at hl 1 rfl) (kdr dgL_law_822 5 8 rfl rfl) (lv_at hl 5 rfl) (kdr dgL_law_822 5 9 rfl rfl) (by decide) (kdr dgL_law_822 6 0 rfl rfl) hX hbl hbA hS (ix_in z1) (kdr dgL_law_822 6 1 rfl rfl) ?_
  obtain ⟨r4, g4, h⟩ := g_b h
  refine kq_i ((wSB cI cJ cZ a ce fr un sb se so sc r3.2.1 r3.2.2.1 r3.2.2.2.1 r3.2.2.2.2.1 fb fe fo fc rm r3.2.2.2.2.2.1 r3.2.2.2.2.2.2.1 kn) ++ (wMo cJ cZ b mce mfr mun mbe men mov msp r4.2.1 r4.2.2.1 r4.2.2.2.1 r4.2.2.2.2.1 r4.2.2.2.2.2.1 mkn r4.2.2.2.2.2.2) ++ (wO o r3.2.2.2.2.2.2.2 ov)) (fun qP qD qF => va_runV (As := [.int (xs (x4 + 1).toNatClampNeg), .int (xs (x4 + 2).toNatClampNeg)]) (rest := []) ⟨hx, hb, hml, hown, hts⟩ (c_X3_wish l dC dI cB cI cJ cZ b _ mce mfr mun mbe men mov msp mwb mwe mwi mac mre mkn mth (xs (x4 + 1).toNatClampNeg) (xs (x4 + 2).toNatClampNeg) r4 g4) (kcwV hts kw_1247 kv_X3_wish rfl rfl ⟨(Nat.le_of_ble_eq_true rfl), (Nat.le_of_ble_eq_true rfl)⟩) (kpV (A := A) qP hK qD hG (krecv_5 (q0 := 15) hK hP rfl)) rfl rfl hl.1 rfl (lv_room (Nat.le_of_ble_eq_true rfl)) (kdr dgL_law_822 6 2 rfl rfl) ⟨by show _ ≤ (600128 : Nat); omega, by show _ ≤ (7301098 : Nat); omega⟩) hP hD hS hA (kFr_l (kFr_r kFr_Mo)) (fun H locs hP hD hS br4 => ?_)
  refine lv_istore (lv' := (kvI 6 r4.1 (kvI 5 r3.1 (kvA 0 b9 (kvA 1 (a 0) (kvA 2 (b 0) (kvA 3 o (kvI 4 x4 kvE)))))))) hx hb (kdr dgL_law_822 6 3 rfl rfl) hl (by decide) rfl (fun ls hl => ?_)
  refine lv_goto (tgt := 1845) hx hb (kdr dgL_law_822 6 4 rfl rfl) (by decide) ?_
  exact hK9 ce fr un sb se so sc r3.2.1 r3.2.2.1 r3.2.2.2.1 r3.2.2.2.2.1 fb fe fo fc rm r3.2.2.2.2.2.1 r3.2.2.2.2.2.2.1 kn mce mfr mun mbe men mov msp r4.2.1 r4.2.2.1 r4.2.2.2.1 r4.2.2.2.2.1 r4.2.2.2.2.2.1 mkn r4.2.2.2.2.2.2 r3.2.2.2.2.2.2.2 ov x4 b _ _ _ _ (by omega) (by omega) hP hD hS ls (lv_sub hl [2, 3, 4, 5, 6] rfl) h
noncomputable def flaw_913 (L : Nat) (xs : Nat → Int32) (K : kFT) (ce : Nat → Int64) (fr : Int64) (un : Int64) (sb : Nat → Int64) (se : Nat → Int64) (so : Nat → Int32) (sc : Int32) (wb : Nat → Int64) (we : Nat → Int64) (wo : Nat → Int32) (wc : Int32) (fb : Nat → Int64) (fe : Nat → Int64) (fo : Nat → Int32) (fc : Int32) (rm : Nat → Int32) (ac : Int32) (rf : Int32) (kn : Int32) (mce : Nat → Int64) (mfr : Int64) (mun : Int64) (mbe : Nat → Int64) (men : Nat → Int64) (mov : Nat → Int32) (msp : Int32) (mwb : Nat → Int64) (mwe : Nat → Int64) (mwi : Int32) (mac : Int32) (mre : Int32) (mkn : Int32) (mth : Int32) (on : Int64) (x4 : Int32) : Option Int32 :=
  if ix (x4 + 1) L then
    (f_L_unwish wb we wo wc ac on (xs (x4 + 1).toNatClampNeg)).bind fun r2 =>
    (f_X3_unwish mwb mwe mwi mac (xs (x4 + 1).toNatClampNeg)).bind fun r3 =>
    K ce fr un sb se so sc r2.2.1 r2.2.2.1 r2.2.2.2.1 r2.2.2.2.2.1 fb fe fo fc rm r2.2.2.2.2.2.1 rf kn mce mfr mun mbe men mov msp r3.2.1 r3.2.2.1 r3.2.2.2.1 r3.2.2.2.2.1 mre mkn r3.2.2.2.2.2 r2.2.2.2.2.2.2 x4
  else none
theorem flaw_913_e {L : Nat} {xs : Nat → Int32} {K : kFT} (ce : Nat → Int64) (fr : Int64) (un : Int64) (sb : Nat → Int64) (se : Nat → Int64) (so : Nat → Int32) (sc : Int32) (wb : Nat → Int64) (we : Nat → Int64) (wo : Nat → Int32) (wc : Int32) (fb : Nat → Int64) (fe : Nat → Int64) (fo : Nat → Int32) (fc : Int32) (rm : Nat → Int32) (ac : Int32) (rf : Int32) (kn : Int32) (mce : Nat → Int64) (mfr : Int64) (mun : Int64) (mbe : Nat → Int64) (men : Nat → Int64) (mov : Nat → Int32) (msp : Int32) (mwb : Nat → Int64) (mwe : Nat → Int64) (mwi : Int32) (mac : Int32) (mre : Int32) (mkn : Int32) (mth : Int32) (on : Int64) (x4 : Int32) : flaw_913 L xs K ce fr un sb se so sc wb we wo wc fb fe fo fc rm ac rf kn mce mfr mun mbe men mov msp mwb mwe mwi mac mre mkn mth on x4 =
  if ix (x4 + 1) L then
    (f_L_unwish wb we wo wc ac on (xs (x4 + 1).toNatClampNeg)).bind fun r2 =>
    (f_X3_unwish mwb mwe mwi mac (xs (x4 + 1).toNatClampNeg)).bind fun r3 =>
    K ce fr un sb se so sc r2.2.1 r2.2.2.1 r2.2.2.2.1 r2.2.2.2.2.1 fb fe fo fc rm r2.2.2.2.2.2.1 rf kn mce mfr mun mbe men mov msp r3.2.1 r3.2.2.1 r3.2.2.2.1 r3.2.2.2.2.1 mre mkn r3.2.2.2.2.2 r2.2.2.2.2.2.2 x4
  else none := rfl
set_option maxHeartbeats 8000000 in
set_option maxRecDepth 100000 in
theorem law_14 {p : Program} {l : Launch} {e : Env} {s : State} {m : MethodId} {below : List Frame} {meth : Method} {c : Code} {dC : Nat → ClassId} {dI : Nat → Nat → Nat} {cB cI cJ cZ : ClassId} {b9 L : Nat} {xs : Nat → Int32} {A : Nat → Prop} (hl9 : l.stackTraces = false) (C0 : kLw p s m c b9 L xs A) (hK : va_K (dC, dI) vwCl (kTy cB cI cJ cZ) s) {a : Nat → Nat} {o : Nat} (K : kFT) (bK sK : Nat) (hK9 : kGo p l e s m below meth c dC dI cB cI cJ cZ b9 A a o 1845 bK sK K) : kGo p l e s m below meth c dC dI cB cI cJ cZ b9 A a o 913 (1 + bK) (6 + sK) (flaw_913 L xs K) := by
  obtain ⟨hx, hb, hml, hown, hts, hX, hbl, hA, hbA, hG, hZ⟩ := C0
  intro ce fr un sb se so sc wb we wo wc fb fe fo fc rm ac rf kn mce mfr mun mbe men mov msp mwb mwe mwi mac mre mkn mth on ov x4 b H locs kc ks hkc hks hP hD hS ls hl h
  have h := (flaw_913_e ce fr un sb se so sc wb we wo wc fb fe fo fc rm ac rf kn mce mfr mun mbe men mov msp mwb mwe mwi mac mre mkn mth on x4).symm.trans h
  refine lv_aload_n hx hb (kdr dgL_law_822 6 5 rfl rfl) rfl (lv_at hl 1 rfl) ?_
  obtain ⟨z0, h⟩ := g_if h
  refine kld (v := 1) hx hb (kdr dgL_law_822 6 6 rfl rfl) rfl (lv_at hl 0 rfl) (kdr dgL_law_822 6 7 rfl rfl) (lv_at hl 4 rfl) (kdr dgL_law_822 6 8 rfl rfl) (by decide) (kdr dgL_law_822 6 9 rfl rfl) hX hbl hbA hS (ix_in z0) (kdr dgL_law_822 7 0 rfl rfl) ?_
  refine lv_aload_n hx hb (kdr dgL_law_822 7 1 rfl rfl) rfl (lv_at hl 3 rfl) ?_
  obtain ⟨r2, g2, h⟩ := g_b h
  refine kq_i ((wSB cI cJ cZ a ce fr un sb se so sc r2.2.1 r2.2.2.1 r2.2.2.2.1 r2.2.2.2.2.1 fb fe fo fc rm r2.2.2.2.2.2.1 rf kn) ++ (wMo cJ cZ b mce mfr mun mbe men mov msp mwb mwe mwi mac mre mkn mth) ++ (wO o r2.2.2.2.2.2.2 ov)) (fun qP qD qF => vx_runSW (As := [.ref (a 0), .int (xs (x4 + 1).toNatClampNeg), .ref o]) (rest := []) ⟨hx, hb, hml, hown, hts⟩ (c_L_unwish l hl9 dC dI cB cI cJ cZ a o _ ce fr un sb se so sc wb we wo wc fb fe fo fc rm ac rf kn on ov (xs (x4 + 1).toNatClampNeg) r2 g2) (kcwSW hts kw_647 kv_L_unwish rfl rfl ⟨(Nat.le_of_ble_eq_true rfl), (Nat.le_of_ble_eq_true rfl)⟩) (kpSXq (A := A) qP hK qD hG hZ hS qF) rfl rfl hl.1 rfl (lv_room (Nat.le_of_ble_eq_true rfl)) (kdr dgL_law_822 7 2 rfl rfl) ⟨by show _ ≤ (600128 : Nat); omega, by show _ ≤ (7301098 : Nat); omega⟩) hP hD hS hA (kFr_2 (kFr_l kFr_SB) kFr_o) (fun H locs hP hD hS br2 => ?_)
  refine lv_istore (lv' := (kvI 5 r2.1 (kvA 0 b9 (kvA 1 (a 0) (kvA 2 (b 0) (kvA 3 o (kvI 4 x4 kvE))))))) hx hb (kdr dgL_law_822 7 3 rfl rfl) hl (by decide) rfl (fun ls hl => ?_)
  refine lv_aload_n hx hb (kdr dgL_law_822 7 4 rfl rfl) rfl (lv_at hl 3 rfl) ?_
  refine kld (v := 1) hx hb (kdr dgL_law_822 7 5 rfl rfl) rfl (lv_at hl 1 rfl) (kdr dgL_law_822 7 6 rfl rfl) (lv_at hl 5 rfl) (kdr dgL_law_822 7 7 rfl rfl) (by decide) (kdr dgL_law_822 7 8 rfl rfl) hX hbl hbA hS (ix_in z0) (kdr dgL_law_822 7 9 rfl rfl) ?_
  obtain ⟨r3, g3, h⟩ := g_b h
  refine kq_i ((wSB cI cJ cZ a ce fr un sb se so sc r2.2.1 r2.2.2.1 r2.2.2.2.1 r2.2.2.2.2.1 fb fe fo fc rm r2.2.2.2.2.2.1 rf kn) ++ (wMo cJ cZ b mce mfr mun mbe men mov msp r3.2.1 r3.2.2.1 r3.2.2.2.1 r3.2.2.2.2.1 mre mkn r3.2.2.2.2.2) ++ (wO o r2.2.2.2.2.2.2 ov)) (fun qP qD qF => va_runV (As := [.int (xs (x4 + 1).toNatClampNeg)]) (rest := []) ⟨hx, hb, hml, hown, hts⟩ (c_X3_unwish l dC dI cB cI cJ cZ b _ mce mfr mun mbe men mov msp mwb mwe mwi mac mre mkn mth (xs (x4 + 1).toNatClampNeg) r3 g3) (kcwV hts kw_1251 kv_X3_unwish rfl rfl ⟨(Nat.le_of_ble_eq_true rfl), (Nat.le_of_ble_eq_true rfl)⟩) (kpV (A := A) qP hK qD hG (krecv_5 (q0 := 15) hK hP rfl)) rfl rfl hl.1 rfl (lv_room (Nat.le_of_ble_eq_true rfl)) (kdr dgL_law_822 8 0 rfl rfl) ⟨by show _ ≤ (600128 : Nat); omega, by show _ ≤ (7301098 : Nat); omega⟩) hP hD hS hA (kFr_l (kFr_r kFr_Mo)) (fun H locs hP hD hS br3 => ?_)
  refine lv_istore (lv' := (kvI 6 r3.1 (kvI 5 r2.1 (kvA 0 b9 (kvA 1 (a 0) (kvA 2 (b 0) (kvA 3 o (kvI 4 x4 kvE)))))))) hx hb (kdr dgL_law_822 8 1 rfl rfl) hl (by decide) rfl (fun ls hl => ?_)
  refine lv_goto (tgt := 1845) hx hb (kdr dgL_law_822 8 2 rfl rfl) (by decide) ?_
  exact hK9 ce fr un sb se so sc r2.2.1 r2.2.2.1 r2.2.2.2.1 r2.2.2.2.2.1 fb fe fo fc rm r2.2.2.2.2.2.1 rf kn mce mfr mun mbe men mov msp r3.2.1 r3.2.2.1 r3.2.2.2.1 r3.2.2.2.2.1 mre mkn r3.2.2.2.2.2 r2.2.2.2.2.2.2 ov x4 b _ _ _ _ (by omega) (by omega) hP hD hS ls (lv_sub hl [2, 3, 4, 5, 6] rfl) h
noncomputable def flaw_941 (L : Nat) (xs : Nat → Int32) (K : kFT) (ce : Nat → Int64) (fr : Int64) (un : Int64) (sb : Nat → Int64) (se : Nat → Int64) (so : Nat → Int32) (sc : Int32) (wb : Nat → Int64) (we : Nat → Int64) (wo : Nat → Int32) (wc : Int32) (fb : Nat → Int64) (fe : Nat → Int64) (fo : Nat → Int32) (fc : Int32) (rm : Nat → Int32) (ac : Int32) (rf : Int32) (kn : Int32) (mce : Nat → Int64) (mfr : Int64) (mun : Int64) (mbe : Nat → Int64) (men : Nat → Int64) (mov : Nat → Int32) (msp : Int32) (mwb : Nat → Int64) (mwe : Nat → Int64) (mwi : Int32) (mac : Int32) (mre : Int32) (mkn : Int32) (mth : Int32) (on : Int64) (x4 : Int32) : Option Int32 :=
  if ix (x4 + 1) L then
    (f_L_grant fr un sb se so sc wb we wo wc ac rf on (xs (x4 + 1).toNatClampNeg)).bind fun r2 =>
    (f_X3_grant mfr mun mbe men mov msp mwb mwe mwi mac mre (xs (x4 + 1).toNatClampNeg)).bind fun r3 =>
    K ce fr un r2.2.1 r2.2.2.1 r2.2.2.2.1 r2.2.2.2.2.1 r2.2.2.2.2.2.1 r2.2.2.2.2.2.2.1 r2.2.2.2.2.2.2.2.1 r2.2.2.2.2.2.2.2.2.1 fb fe fo fc rm r2.2.2.2.2.2.2.2.2.2.1 r2.2.2.2.2.2.2.2.2.2.2.1 kn mce mfr mun r3.2.1 r3.2.2.1 r3.2.2.2.1 r3.2.2.2.2.1 r3.2.2.2.2.2.1 r3.2.2.2.2.2.2.1 r3.2.2.2.2.2.2.2.1 r3.2.2.2.2.2.2.2.2.1 r3.2.2.2.2.2.2.2.2.2.1 mkn r3.2.2.2.2.2.2.2.2.2.2 r2.2.2.2.2.2.2.2.2.2.2.2 x4
  else none
theorem flaw_941_e {L : Nat} {xs : Nat → Int32} {K : kFT} (ce : Nat → Int64) (fr : Int64) (un : Int64) (sb : Nat → Int64) (se : Nat → Int64) (so : Nat → Int32) (sc : Int32) (wb : Nat → Int64) (we : Nat → Int64) (wo : Nat → Int32) (wc : Int32) (fb : Nat → Int64) (fe : Nat → Int64) (fo : Nat → Int32) (fc : Int32) (rm : Nat → Int32) (ac : Int32) (rf : Int32) (kn : Int32) (mce : Nat → Int64) (mfr : Int64) (mun : Int64) (mbe : Nat → Int64) (men : Nat → Int64) (mov : Nat → Int32) (msp : Int32) (mwb : Nat → Int64) (mwe : Nat → Int64) (mwi : Int32) (mac : Int32) (mre : Int32) (mkn : Int32) (mth : Int32) (on : Int64) (x4 : Int32) : flaw_941 L xs K ce fr un sb se so sc wb we wo wc fb fe fo fc rm ac rf kn mce mfr mun mbe men mov msp mwb mwe mwi mac mre mkn mth on x4 =
  if ix (x4 + 1) L then
    (f_L_grant fr un sb se so sc wb we wo wc ac rf on (xs (x4 + 1).toNatClampNeg)).bind fun r2 =>
    (f_X3_grant mfr mun mbe men mov msp mwb mwe mwi mac mre (xs (x4 + 1).toNatClampNeg)).bind fun r3 =>
    K ce fr un r2.2.1 r2.2.2.1 r2.2.2.2.1 r2.2.2.2.2.1 r2.2.2.2.2.2.1 r2.2.2.2.2.2.2.1 r2.2.2.2.2.2.2.2.1 r2.2.2.2.2.2.2.2.2.1 fb fe fo fc rm r2.2.2.2.2.2.2.2.2.2.1 r2.2.2.2.2.2.2.2.2.2.2.1 kn mce mfr mun r3.2.1 r3.2.2.1 r3.2.2.2.1 r3.2.2.2.2.1 r3.2.2.2.2.2.1 r3.2.2.2.2.2.2.1 r3.2.2.2.2.2.2.2.1 r3.2.2.2.2.2.2.2.2.1 r3.2.2.2.2.2.2.2.2.2.1 mkn r3.2.2.2.2.2.2.2.2.2.2 r2.2.2.2.2.2.2.2.2.2.2.2 x4
  else none := rfl
set_option maxHeartbeats 8000000 in
set_option maxRecDepth 100000 in
theorem law_15 {p : Program} {l : Launch} {e : Env} {s : State} {m : MethodId} {below : List Frame} {meth : Method} {c : Code} {dC : Nat → ClassId} {dI : Nat → Nat → Nat} {cB cI cJ cZ : ClassId} {b9 L : Nat} {xs : Nat → Int32} {A : Nat → Prop} (hl9 : l.stackTraces = false) (C0 : kLw p s m c b9 L xs A) (hK : va_K (dC, dI) vwCl (kTy cB cI cJ cZ) s) {a : Nat → Nat} {o : Nat} (K : kFT) (bK sK : Nat) (hK9 : kGo p l e s m below meth c dC dI cB cI cJ cZ b9 A a o 1845 bK sK K) : kGo p l e s m below meth c dC dI cB cI cJ cZ b9 A a o 941 (1 + bK) (6 + sK) (flaw_941 L xs K) := by
  obtain ⟨hx, hb, hml, hown, hts, hX, hbl, hA, hbA, hG, hZ⟩ := C0
  intro ce fr un sb se so sc wb we wo wc fb fe fo fc rm ac rf kn mce mfr mun mbe men mov msp mwb mwe mwi mac mre mkn mth on ov x4 b H locs kc ks hkc hks hP hD hS ls hl h
  have h := (flaw_941_e ce fr un sb se so sc wb we wo wc fb fe fo fc rm ac rf kn mce mfr mun mbe men mov msp mwb mwe mwi mac mre mkn mth on x4).symm.trans h
  refine lv_aload_n hx hb (kdr dgL_law_822 8 3 rfl rfl) rfl (lv_at hl 1 rfl) ?_
  obtain ⟨z0, h⟩ := g_if h
  refine kld (v := 1) hx hb (kdr dgL_law_822 8 4 rfl rfl) rfl (lv_at hl 0 rfl) (kdr dgL_law_822 8 5 rfl rfl) (lv_at hl 4 rfl) (kdr dgL_law_822 8 6 rfl rfl) (by decide) (kdr dgL_law_822 8 7 rfl rfl) hX hbl hbA hS (ix_in z0) (kdr dgL_law_822 8 8 rfl rfl) ?_
  refine lv_aload_n hx hb (kdr dgL_law_822 8 9 rfl rfl) rfl (lv_at hl 3 rfl) ?_
  obtain ⟨r2, g2, h⟩ := g_b h
  refine kq_i ((wSB cI cJ cZ a ce fr un r2.2.1 r2.2.2.1 r2.2.2.2.1 r2.2.2.2.2.1 r2.2.2.2.2.2.1 r2.2.2.2.2.2.2.1 r2.2.2.2.2.2.2.2.1 r2.2.2.2.2.2.2.2.2.1 fb fe fo fc rm r2.2.2.2.2.2.2.2.2.2.1 r2.2.2.2.2.2.2.2.2.2.2.1 kn) ++ (wMo cJ cZ b mce mfr mun mbe men mov msp mwb mwe mwi mac mre mkn mth) ++ (wO o r2.2.2.2.2.2.2.2.2.2.2.2 ov)) (fun qP qD qF => vx_runSW (As := [.ref (a 0), .int (xs (x4 + 1).toNatClampNeg), .ref o]) (rest := []) ⟨hx, hb, hml, hown, hts⟩ (c_L_grant l hl9 dC dI cB cI cJ cZ a o _ ce fr un sb se so sc wb we wo wc fb fe fo fc rm ac rf kn on ov (xs (x4 + 1).toNatClampNeg) r2 g2) (kcwSW hts kw_654 kv_L_grant rfl rfl ⟨(Nat.le_of_ble_eq_true rfl), (Nat.le_of_ble_eq_true rfl)⟩) (kpSXq (A := A) qP hK qD hG hZ hS qF) rfl rfl hl.1 rfl (lv_room (Nat.le_of_ble_eq_true rfl)) (kdr dgL_law_822 9 0 rfl rfl) ⟨by show _ ≤ (600128 : Nat); omega, by show _ ≤ (7301098 : Nat); omega⟩) hP hD hS hA (kFr_2 (kFr_l kFr_SB) kFr_o) (fun H locs hP hD hS br2 => ?_)
  refine lv_istore (lv' := (kvI 5 r2.1 (kvA 0 b9 (kvA 1 (a 0) (kvA 2 (b 0) (kvA 3 o (kvI 4 x4 kvE))))))) hx hb (kdr dgL_law_822 9 1 rfl rfl) hl (by decide) rfl (fun ls hl => ?_)
  refine lv_aload_n hx hb (kdr dgL_law_822 9 2 rfl rfl) rfl (lv_at hl 3 rfl) ?_
  refine kld (v := 1) hx hb (kdr dgL_law_822 9 3 rfl rfl) rfl (lv_at hl 1 rfl) (kdr dgL_law_822 9 4 rfl rfl) (lv_at hl 5 rfl) (kdr dgL_law_822 9 5 rfl rfl) (by decide) (kdr dgL_law_822 9 6 rfl rfl) hX hbl hbA hS (ix_in z0) (kdr dgL_law_822 9 7 rfl rfl) ?_
  obtain ⟨r3, g3, h⟩ := g_b h
  refine kq_i ((wSB cI cJ cZ a ce fr un r2.2.1 r2.2.2.1 r2.2.2.2.1 r2.2.2.2.2.1 r2.2.2.2.2.2.1 r2.2.2.2.2.2.2.1 r2.2.2.2.2.2.2.2.1 r2.2.2.2.2.2.2.2.2.1 fb fe fo fc rm r2.2.2.2.2.2.2.2.2.2.1 r2.2.2.2.2.2.2.2.2.2.2.1 kn) ++ (wMo cJ cZ b mce mfr mun r3.2.1 r3.2.2.1 r3.2.2.2.1 r3.2.2.2.2.1 r3.2.2.2.2.2.1 r3.2.2.2.2.2.2.1 r3.2.2.2.2.2.2.2.1 r3.2.2.2.2.2.2.2.2.1 r3.2.2.2.2.2.2.2.2.2.1 mkn r3.2.2.2.2.2.2.2.2.2.2) ++ (wO o r2.2.2.2.2.2.2.2.2.2.2.2 ov)) (fun qP qD qF => va_runV (As := [.int (xs (x4 + 1).toNatClampNeg)]) (rest := []) ⟨hx, hb, hml, hown, hts⟩ (c_X3_grant l dC dI cB cI cJ cZ b _ mce mfr mun mbe men mov msp mwb mwe mwi mac mre mkn mth (xs (x4 + 1).toNatClampNeg) r3 g3) (kcwV hts kw_1263 kv_X3_grant rfl rfl ⟨(Nat.le_of_ble_eq_true rfl), (Nat.le_of_ble_eq_true rfl)⟩) (kpV (A := A) qP hK qD hG (krecv_5 (q0 := 15) hK hP rfl)) rfl rfl hl.1 rfl (lv_room (Nat.le_of_ble_eq_true rfl)) (kdr dgL_law_822 9 8 rfl rfl) ⟨by show _ ≤ (600128 : Nat); omega, by show _ ≤ (7301098 : Nat); omega⟩) hP hD hS hA (kFr_l (kFr_r kFr_Mo)) (fun H locs hP hD hS br3 => ?_)
  refine lv_istore (lv' := (kvI 6 r3.1 (kvI 5 r2.1 (kvA 0 b9 (kvA 1 (a 0) (kvA 2 (b 0) (kvA 3 o (kvI 4 x4 kvE)))))))) hx hb (kdr dgL_law_822 9 9 rfl rfl) hl (by decide) rfl (fun ls hl => ?_)
  refine lv_goto (tgt := 1845) hx hb (kdr dgL_law_966 0 0 rfl rfl) (by decide) ?_
  exact hK9 ce fr un r2.2.1 r2.2.2.1 r2.2.2.2.1 r2.2.2.2.2.1 r2.2.2.2.2.2.1 r2.2.2.2.2.2.2.1 r2.2.2.2.2.2.2.2.1 r2.2.2.2.2.2.2.2.2.1 fb fe fo fc rm r2.2.2.2.2.2.2.2.2.2.1 r2.2.2.2.2.2.2.2.2.2.2.1 kn mce mfr mun r3.2.1 r3.2.2.1 r3.2.2.2.1 r3.2.2.2.2.1 r3.2.2.2.2.2.1 r3.2.2.2.2.2.2.1 r3.2.2.2.2.2.2.2.1 r3.2.2.2.2.2.2.2.2.1 r3.2.2.2.2.2.2.2.2.2.1 mkn r3.2.2.2.2.2.2.2.2.2.2 r2.2.2.2.2.2.2.2.2.2.2.2 ov x4 b _ _ _ _ (by omega) (by omega) hP hD hS ls (lv_sub hl [2, 3, 4, 5, 6] rfl) h
end
-- 21.casesb.lean.txt
section
noncomputable def flaw_969 (L : Nat) (xs : Nat → Int32) (K : kFT) (ce : Nat → Int64) (fr : Int64) (un : Int64) (sb : Nat → Int64) (se : Nat → Int64) (so : Nat → Int32) (sc : Int32) (wb : Nat → Int64) (we : Nat → Int64) (wo : Nat → Int32) (wc : Int32) (fb : Nat → Int64) (fe : Nat → Int64) (fo : Nat → Int32) (fc : Int32) (rm : Nat → Int32) (ac : Int32) (rf : Int32) (kn : Int32) (mce : Nat → Int64) (mfr : Int64) (mun : Int64) (mbe : Nat → Int64) (men : Nat → Int64) (mov : Nat → Int32) (msp : Int32) (mwb : Nat → Int64) (mwe : Nat → Int64) (mwi : Int32) (mac : Int32) (mre : Int32) (mkn : Int32) (mth : Int32) (on : Int64) (x4 : Int32) : Option Int32 :=
  if ix (x4 + 1) L then
    (f_L_second ce on (xs (x4 + 1).toNatClampNeg)).bind fun r2 =>
    (f_X3_second mce (xs (x4 + 1).toNatClampNeg)).bind fun r3 =>
    K ce fr un sb se so sc wb we wo wc fb fe fo fc rm ac rf kn mce mfr mun mbe men mov msp mwb mwe mwi mac mre mkn r3.2 r2.2 x4
  else none
theorem flaw_969_e {L : Nat} {xs : Nat → Int32} {K : kFT} (ce : Nat → Int64) (fr : Int64) (un : Int64) (sb : Nat → Int64) (se : Nat → Int64) (so : Nat → Int32) (sc : Int32) (wb : Nat → Int64) (we : Nat → Int64) (wo : Nat → Int32) (wc : Int32) (fb : Nat → Int64) (fe : Nat → Int64) (fo : Nat → Int32) (fc : Int32) (rm : Nat → Int32) (ac : Int32) (rf : Int32) (kn : Int32) (mce : Nat → Int64) (mfr : Int64) (mun : Int64) (mbe : Nat → Int64) (men : Nat → Int64) (mov : Nat → Int32) (msp : Int32) (mwb : Nat → Int64) (mwe : Nat → Int64) (mwi : Int32) (mac : Int32) (mre : Int32) (mkn : Int32) (mth : Int32) (on : Int64) (x4 : Int32) : flaw_969 L xs K ce fr un sb se so sc wb we wo wc fb fe fo fc rm ac rf kn mce mfr mun mbe men mov msp mwb mwe mwi mac mre mkn mth on x4 =
  if ix (x4 + 1) L then
    (f_L_second ce on (xs (x4 + 1).toNatClampNeg)).bind fun r2 =>
    (f_X3_second mce (xs (x4 + 1).toNatClampNeg)).bind fun r3 =>
    K ce fr un sb se so sc wb we wo wc fb fe fo fc rm ac rf kn mce mfr mun mbe men mov msp mwb mwe mwi mac mre mkn r3.2 r2.2 x4
  else none := rfl
set_option maxHeartbeats 8000000 in
set_option maxRecDepth 100000 in
theorem law_16 {p : Program} {l : Launch} {e : Env} {s : State} {m : MethodId} {below : List Frame} {meth : Method} {c : Code} {dC : Nat → ClassId} {dI : Nat → Nat → Nat} {cB cI cJ cZ : ClassId} {b9 L : Nat} {xs : Nat → Int32} {A : Nat → Prop} (hl9 : l.stackTraces = false) (C0 : kLw p s m c b9 L xs A) (hK : va_K (dC, dI) vwCl (kTy cB cI cJ cZ) s) {a : Nat → Nat} {o : Nat} (K : kFT) (bK sK : Nat) (hK9 : kGo p l e s m below meth c dC dI cB cI cJ cZ b9 A a o 1845 bK sK K) : kGo p l e s m below meth c dC dI cB cI cJ cZ b9 A a o 969 (1 + bK) (6 + sK) (flaw_969 L xs K) := by
  obtain ⟨hx, hb, hml, hown, hts, hX, hbl, hA, hbA, hG, hZ⟩ := C0
  intro ce fr un sb se so sc wb we wo wc fb fe fo fc rm ac rf kn mce mfr mun mbe men mov msp mwb mwe mwi mac mre mkn mth on ov x4 b H locs kc ks hkc hks hP hD hS ls hl h
  have h := (flaw_969_e ce fr un sb se so sc wb we wo wc fb fe fo fc rm ac rf kn mce mfr mun mbe men mov msp mwb mwe mwi mac mre mkn mth on x4).symm.trans h
  refine lv_aload_n hx hb (kdr dgL_law_966 0 1 rfl rfl) rfl (lv_at hl 1 rfl) ?_
  obtain ⟨z0, h⟩ := g_if h
  refine kld (v := 1) hx hb (kdr dgL_law_966 0 2 rfl rfl) rfl (lv_at hl 0 rfl) (kdr dgL_law_966 0 3 rfl rfl) (lv_at hl 4 rfl) (kdr dgL_law_966 0 4 rfl rfl) (by decide) (kdr dgL_law_966 0 5 rfl rfl) hX hbl hbA hS (ix_in z0) (kdr dgL_law_966 0 6 rfl rfl) ?_
  refine lv_aload_n hx hb (kdr dgL_law_966 0 7 rfl rfl) rfl (lv_at hl 3 rfl) ?_
  obtain ⟨r2, g2, h⟩ := g_b h
  refine kq_i ((wSB cI cJ cZ a ce fr un sb se so sc wb we wo wc fb fe fo fc rm ac rf kn) ++ (wMo cJ cZ b mce mfr mun mbe men mov msp mwb mwe mwi mac mre mkn mth) ++ (wO o r2.2 ov)) (fun qP qD qF => vx_runSW (As := [.ref (a 0), .int (xs (x4 + 1).toNatClampNeg), .ref o]) (rest := []) ⟨hx, hb, hml, hown, hts⟩ (c_L_second l hl9 dC dI cB cI cJ cZ a o _ ce fr un sb se so sc wb we wo wc fb fe fo fc rm ac rf kn on ov (xs (x4 + 1).toNatClampNeg) r2 g2) (kcwSW hts kw_661 kv_L_second rfl rfl ⟨(Nat.le_of_ble_eq_true rfl), (Nat.le_of_ble_eq_true rfl)⟩) (kpSXq (A := A) qP hK qD hG hZ hS qF) rfl rfl hl.1 rfl (lv_room (Nat.le_of_ble_eq_true rfl)) (kdr dgL_law_966 0 8 rfl rfl) ⟨by show _ ≤ (600128 : Nat); omega, by show _ ≤ (7301098 : Nat); omega⟩) hP hD hS hA (kFr_2 (kFr_l kFr_SB) kFr_o) (fun H locs hP hD hS br2 => ?_)
  refine lv_istore (lv' := (kvI 5 r2.1 (kvA 0 b9 (kvA 1 (a 0) (kvA 2 (b 0) (kvA 3 o (kvI 4 x4 kvE))))))) hx hb (kdr dgL_law_966 0 9 rfl rfl) hl (by decide) rfl (fun ls hl => ?_)
  refine lv_aload_n hx hb (kdr dgL_law_966 1 0 rfl rfl) rfl (lv_at hl 3 rfl) ?_
  refine kld (v := 1) hx hb (kdr dgL_law_966 1 1 rfl rfl) rfl (lv_at hl 1 rfl) (kdr dgL_law_966 1 2 rfl rfl) (lv_at hl 5 rfl) (kdr dgL_law_966 1 3 rfl rfl) (by decide) (kdr dgL_law_966 1 4 rfl rfl) hX hbl hbA hS (ix_in z0) (kdr dgL_law_966 1 5 rfl rfl) ?_
  obtain ⟨r3, g3, h⟩ := g_b h
  refine kq_i ((wSB cI cJ cZ a ce fr un sb se so sc wb we wo wc fb fe fo fc rm ac rf kn) ++ (wMo cJ cZ b mce mfr mun mbe men mov msp mwb mwe mwi mac mre mkn r3.2) ++ (wO o r2.2 ov)) (fun qP qD qF => va_runV (As := [.int (xs (x4 + 1).toNatClampNeg)]) (rest := []) ⟨hx, hb, hml, hown, hts⟩ (c_X3_second l dC dI cB cI cJ cZ b _ mce mfr mun mbe men mov msp mwb mwe mwi mac mre mkn mth (xs (x4 + 1).toNatClampNeg) r3 g3) (kcwV hts kw_1267 kv_X3_second rfl rfl ⟨(Nat.le_of_ble_eq_true rfl), (Nat.le_of_ble_eq_true rfl)⟩) (kpV (A := A) qP hK qD hG (krecv_5 (q0 := 15) hK hP rfl)) rfl rfl hl.1 rfl (lv_room (Nat.le_of_ble_eq_true rfl)) (kdr dgL_law_966 1 6 rfl rfl) ⟨by show _ ≤ (600128 : Nat); omega, by show _ ≤ (7301098 : Nat); omega⟩) hP hD hS hA (kFr_l (kFr_r kFr_Mo)) (fun H locs hP hD hS br3 => ?_)
  refine lv_istore (lv' := (kvI 6 r3.1 (kvI 5 r2.1 (kvA 0 b9 (kvA 1 (a 0) (kvA 2 (b 0) (kvA 3 o (kvI 4 x4 kvE)))))))) hx hb (kdr dgL_law_966 1 7 rfl rfl) hl (by decide) rfl (fun ls hl => ?_)
  refine lv_goto (tgt := 1845) hx hb (kdr dgL_law_966 1 8 rfl rfl) (by decide) ?_
  exact hK9 ce fr un sb se so sc wb we wo wc fb fe fo fc rm ac rf kn mce mfr mun mbe men mov msp mwb mwe mwi mac mre mkn r3.2 r2.2 ov x4 b _ _ _ _ (by omega) (by omega) hP hD hS ls (lv_sub hl [2, 3, 4, 5, 6] rfl) h
noncomputable def flaw_997 (L : Nat) (xs : Nat → Int32) (K : kFT) (ce : Nat → Int64) (fr : Int64) (un : Int64) (sb : Nat → Int64) (se : Nat → Int64) (so : Nat → Int32) (sc : Int32) (wb : Nat → Int64) (we : Nat → Int64) (wo : Nat → Int32) (wc : Int32) (fb : Nat → Int64) (fe : Nat → Int64) (fo : Nat → Int32) (fc : Int32) (rm : Nat → Int32) (ac : Int32) (rf : Int32) (kn : Int32) (mce : Nat → Int64) (mfr : Int64) (mun : Int64) (mbe : Nat → Int64) (men : Nat → Int64) (mov : Nat → Int32) (msp : Int32) (mwb : Nat → Int64) (mwe : Nat → Int64) (mwi : Int32) (mac : Int32) (mre : Int32) (mkn : Int32) (mth : Int32) (on : Int64) (x4 : Int32) : Option Int32 :=
  if ix (x4 + 1) L then
    (f_L_nano ce on (xs (x4 + 1).toNatClampNeg)).bind fun r2 =>
    (f_X3_nano mce (xs (x4 + 1).toNatClampNeg)).bind fun r3 =>
    K ce fr un sb se so sc wb we wo wc fb fe fo fc rm ac rf kn mce mfr mun mbe men mov msp mwb mwe mwi mac mre mkn r3.2 r2.2 x4
  else none
theorem flaw_997_e {L : Nat} {xs : Nat → Int32} {K : kFT} (ce : Nat → Int64) (fr : Int64) (un : Int64) (sb : Nat → Int64) (se : Nat → Int64) (so : Nat → Int32) (sc : Int32) (wb : Nat → Int64) (we : Nat → Int64) (wo : Nat → Int32) (wc : Int32) (fb : Nat → Int64) (fe : Nat → Int64) (fo : Nat → Int32) (fc : Int32) (rm : Nat → Int32) (ac : Int32) (rf : Int32) (kn : Int32) (mce : Nat → Int64) (mfr : Int64) (mun : Int64) (mbe : Nat → Int64) (men : Nat → Int64) (mov : Nat → Int32) (msp : Int32) (mwb : Nat → Int64) (mwe : Nat → Int64) (mwi : Int32) (mac : Int32) (mre : Int32) (mkn : Int32) (mth : Int32) (on : Int64) (x4 : Int32) : flaw_997 L xs K ce fr un sb se so sc wb we wo wc fb fe fo fc rm ac rf kn mce mfr mun mbe men mov msp mwb mwe mwi mac mre mkn mth on x4 =
  if ix (x4 + 1) L then
    (f_L_nano ce on (xs (x4 + 1).toNatClampNeg)).bind fun r2 =>
    (f_X3_nano mce (xs (x4 + 1).toNatClampNeg)).bind fun r3 =>
    K ce fr un sb se so sc wb we wo wc fb fe fo fc rm ac rf kn mce mfr mun mbe men mov msp mwb mwe mwi mac mre mkn r3.2 r2.2 x4
  else none := rfl
set_option maxHeartbeats 8000000 in
set_option maxRecDepth 100000 in
theorem law_17 {p : Program} {l : Launch} {e : Env} {s : State} {m : MethodId} {below : List Frame} {meth : Method} {c : Code} {dC : Nat → ClassId} {dI : Nat → Nat → Nat} {cB cI cJ cZ : ClassId} {b9 L : Nat} {xs : Nat → Int32} {A : Nat → Prop} (hl9 : l.stackTraces = false) (C0 : kLw p s m c b9 L xs A) (hK : va_K (dC, dI) vwCl (kTy cB cI cJ cZ) s) {a : Nat → Nat} {o : Nat} (K : kFT) (bK sK : Nat) (hK9 : kGo p l e s m below meth c dC dI cB cI cJ cZ b9 A a o 1845 bK sK K) : kGo p l e s m below meth c dC dI cB cI cJ cZ b9 A a o 997 (1 + bK) (6 + sK) (flaw_997 L xs K) := by
  obtain ⟨hx, hb, hml, hown, hts, hX, hbl, hA, hbA, hG, hZ⟩ := C0
  intro ce fr un sb se so sc wb we wo wc fb fe fo fc rm ac rf kn mce mfr mun mbe men mov msp mwb mwe mwi mac mre mkn mth on ov x4 b H locs kc ks hkc hks hP hD hS ls hl h
  have h := (flaw_997_e ce fr un sb se so sc wb we wo wc fb fe fo fc rm ac rf kn mce mfr mun mbe men mov msp mwb mwe mwi mac mre mkn mth on x4).symm.trans h
  refine lv_aload_n hx hb (kdr dgL_law_966 1 9 rfl rfl) rfl (lv_at hl 1 rfl) ?_
  obtain ⟨z0, h⟩ := g_if h
  refine kld (v := 1) hx hb (kdr dgL_law_966 2 0 rfl rfl) rfl (lv_at hl 0 rfl) (kdr dgL_law_966 2 1 rfl rfl) (lv_at hl 4 rfl) (kdr dgL_law_966 2 2 rfl rfl) (by decide) (kdr dgL_law_966 2 3 rfl rfl) hX hbl hbA hS (ix_in z0) (kdr dgL_law_966 2 4 rfl rfl) ?_
  refine lv_aload_n hx hb (kdr dgL_law_966 2 5 rfl rfl) rfl (lv_at hl 3 rfl) ?_
  obtain ⟨r2, g2, h⟩ := g_b h
  refine kq_i ((wSB cI cJ cZ a ce fr un sb se so sc wb we wo wc fb fe fo fc rm ac rf kn) ++ (wMo cJ cZ b mce mfr mun mbe men mov msp mwb mwe mwi mac mre mkn mth) ++ (wO o r2.2 ov)) (fun qP qD qF => vx_runSW (As := [.ref (a 0), .int (xs (x4 + 1).toNatClampNeg), .ref o]) (rest := []) ⟨hx, hb, hml, hown, hts⟩ (c_L_nano l hl9 dC dI cB cI cJ cZ a o _ ce fr un sb se so sc wb we wo wc fb fe fo fc rm ac rf kn on ov (xs (x4 + 1).toNatClampNeg) r2 g2) (kcwSW hts kw_668 kv_L_nano rfl rfl ⟨(Nat.le_of_ble_eq_true rfl), (Nat.le_of_ble_eq_true rfl)⟩) (kpSXq (A := A) qP hK qD hG hZ hS qF) rfl rfl hl.1 rfl (lv_room (Nat.le_of_ble_eq_true rfl)) (kdr dgL_law_966 2 6 rfl rfl) ⟨by show _ ≤ (600128 : Nat); omega, by show _ ≤ (7301098 : Nat); omega⟩) hP hD hS hA (kFr_2 (kFr_l kFr_SB) kFr_o) (fun H locs hP hD hS br2 => ?_)
  refine lv_istore (lv' := (kvI 5 r2.1 (kvA 0 b9 (kvA 1 (a 0) (kvA 2 (b 0) (kvA 3 o (kvI 4 x4 kvE))))))) hx hb (kdr dgL_law_966 2 7 rfl rfl) hl (by decide) rfl (fun ls hl => ?_)
  refine lv_aload_n hx hb (kdr dgL_law_966 2 8 rfl rfl) rfl (lv_at hl 3 rfl) ?_
  refine kld (v := 1) hx hb (kdr dgL_law_966 2 9 rfl rfl) rfl (lv_at hl 1 rfl) (kdr dgL_law_966 3 0 rfl rfl) (lv_at hl 5 rfl) (kdr dgL_law_966 3 1 rfl rfl) (by decide) (kdr dgL_law_966 3 2 rfl rfl) hX hbl hbA hS (ix_in z0) (kdr dgL_law_966 3 3 rfl rfl) ?_
  obtain ⟨r3, g3, h⟩ := g_b h
  refine kq_i ((wSB cI cJ cZ a ce fr un sb se so sc wb we wo wc fb fe fo fc rm ac rf kn) ++ (wMo cJ cZ b mce mfr mun mbe men mov msp mwb mwe mwi mac mre mkn r3.2) ++ (wO o r2.2 ov)) (fun qP qD qF => va_runV (As := [.int (xs (x4 + 1).toNatClampNeg)]) (rest := []) ⟨hx, hb, hml, hown, hts⟩ (c_X3_nano l dC dI cB cI cJ cZ b _ mce mfr mun mbe men mov msp mwb mwe mwi mac mre mkn mth (xs (x4 + 1).toNatClampNeg) r3 g3) (kcwV hts kw_1271 kv_X3_nano rfl rfl ⟨(Nat.le_of_ble_eq_true rfl), (Nat.le_of_ble_eq_true rfl)⟩) (kpV (A := A) qP hK qD hG (krecv_5 (q0 := 15) hK hP rfl)) rfl rfl hl.1 rfl (lv_room (Nat.le_of_ble_eq_true rfl)) (kdr dgL_law_966 3 4 rfl rfl) ⟨by show _ ≤ (600128 : Nat); omega, by show _ ≤ (7301098 : Nat); omega⟩) hP hD hS hA (kFr_l (kFr_r kFr_Mo)) (fun H locs hP hD hS br3 => ?_)
  refine lv_istore (lv' := (kvI 6 r3.1 (kvI 5 r2.1 (kvA 0 b9 (kvA 1 (a 0) (kvA 2 (b 0) (kvA 3 o (kvI 4 x4 kvE)))))))) hx hb (kdr dgL_law_966 3 5 rfl rfl) hl (by decide) rfl (fun ls hl => ?_)
  refine lv_goto (tgt := 1845) hx hb (kdr dgL_law_966 3 6 rfl rfl) (by decide) ?_
  exact hK9 ce fr un sb se so sc wb we wo wc fb fe fo fc rm ac rf kn mce mfr mun mbe men mov msp mwb mwe mwi mac mre mkn r3.2 r2.2 ov x4 b _ _ _ _ (by omega) (by omega) hP hD hS ls (lv_sub hl [2, 3, 4, 5, 6] rfl) h
noncomputable def flaw_1025 (L : Nat) (xs : Nat → Int32) (K : kFT) (ce : Nat → Int64) (fr : Int64) (un : Int64) (sb : Nat → Int64) (se : Nat → Int64) (so : Nat → Int32) (sc : Int32) (wb : Nat → Int64) (we : Nat → Int64) (wo : Nat → Int32) (wc : Int32) (fb : Nat → Int64) (fe : Nat → Int64) (fo : Nat → Int32) (fc : Int32) (rm : Nat → Int32) (ac : Int32) (rf : Int32) (kn : Int32) (mce : Nat → Int64) (mfr : Int64) (mun : Int64) (mbe : Nat → Int64) (men : Nat → Int64) (mov : Nat → Int32) (msp : Int32) (mwb : Nat → Int64) (mwe : Nat → Int64) (mwi : Int32) (mac : Int32) (mre : Int32) (mkn : Int32) (mth : Int32) (on : Int64) (x4 : Int32) : Option Int32 :=
  if ix (x4 + 1) L then
    (f_L_text ce (xs (x4 + 1).toNatClampNeg)).bind fun r2 =>
    (f_X3_text mce (xs (x4 + 1).toNatClampNeg)).bind fun r3 =>
    K ce fr un sb se so sc wb we wo wc fb fe fo fc rm ac rf kn mce mfr mun mbe men mov msp mwb mwe mwi mac mre mkn r3 on x4
  else none
theorem flaw_1025_e {L : Nat} {xs : Nat → Int32} {K : kFT} (ce : Nat → Int64) (fr : Int64) (un : Int64) (sb : Nat → Int64) (se : Nat → Int64) (so : Nat → Int32) (sc : Int32) (wb : Nat → Int64) (we : Nat → Int64) (wo : Nat → Int32) (wc : Int32) (fb : Nat → Int64) (fe : Nat → Int64) (fo : Nat → Int32) (fc : Int32) (rm : Nat → Int32) (ac : Int32) (rf : Int32) (kn : Int32) (mce : Nat → Int64) (mfr : Int64) (mun : Int64) (mbe : Nat → Int64) (men : Nat → Int64) (mov : Nat → Int32) (msp : Int32) (mwb : Nat → Int64) (mwe : Nat → Int64) (mwi : Int32) (mac : Int32) (mre : Int32) (mkn : Int32) (mth : Int32) (on : Int64) (x4 : Int32) : flaw_1025 L xs K ce fr un sb se so sc wb we wo wc fb fe fo fc rm ac rf kn mce mfr mun mbe men mov msp mwb mwe mwi mac mre mkn mth on x4 =
  if ix (x4 + 1) L then
    (f_L_text ce (xs (x4 + 1).toNatClampNeg)).bind fun r2 =>
    (f_X3_text mce (xs (x4 + 1).toNatClampNeg)).bind fun r3 =>
    K ce fr un sb se so sc wb we wo wc fb fe fo fc rm ac rf kn mce mfr mun mbe men mov msp mwb mwe mwi mac mre mkn r3 on x4
  else none := rfl
set_option maxHeartbeats 8000000 in
set_option maxRecDepth 100000 in
theorem law_18 {p : Program} {l : Launch} {e : Env} {s : State} {m : MethodId} {below : List Frame} {meth : Method} {c : Code} {dC : Nat → ClassId} {dI : Nat → Nat → Nat} {cB cI cJ cZ : ClassId} {b9 L : Nat} {xs : Nat → Int32} {A : Nat → Prop} (hl9 : l.stackTraces = false) (C0 : kLw p s m c b9 L xs A) (hK : va_K (dC, dI) vwCl (kTy cB cI cJ cZ) s) {a : Nat → Nat} {o : Nat} (K : kFT) (bK sK : Nat) (hK9 : kGo p l e s m below meth c dC dI cB cI cJ cZ b9 A a o 1845 bK sK K) : kGo p l e s m below meth c dC dI cB cI cJ cZ b9 A a o 1025 (14 + bK) (560 + sK) (flaw_1025 L xs K) := by
  obtain ⟨hx, hb, hml, hown, hts, hX, hbl, hA, hbA, hG, hZ⟩ := C0
  intro ce fr un sb se so sc wb we wo wc fb fe fo fc rm ac rf kn mce mfr mun mbe men mov msp mwb mwe mwi mac mre mkn mth on ov x4 b H locs kc ks hkc hks hP hD hS ls hl h
  have h := (flaw_1025_e ce fr un sb se so sc wb we wo wc fb fe fo fc rm ac rf kn mce mfr mun mbe men mov msp mwb mwe mwi mac mre mkn mth on x4).symm.trans h
  refine lv_aload_n hx hb (kdr dgL_law_966 3 7 rfl rfl) rfl (lv_at hl 1 rfl) ?_
  obtain ⟨z0, h⟩ := g_if h
  refine kld (v := 1) hx hb (kdr dgL_law_966 3 8 rfl rfl) rfl (lv_at hl 0 rfl) (kdr dgL_law_966 3 9 rfl rfl) (lv_at hl 4 rfl) (kdr dgL_law_966 4 0 rfl rfl) (by decide) (kdr dgL_law_966 4 1 rfl rfl) hX hbl hbA hS (ix_in z0) (kdr dgL_law_966 4 2 rfl rfl) ?_
  refine lv_aload_n hx hb (kdr dgL_law_966 4 3 rfl rfl) rfl (lv_at hl 3 rfl) ?_
  obtain ⟨r2, g2, h⟩ := g_b h
  refine kcall_iw (fun wv2 => ((wSB cI cJ cZ a ce fr un sb se so sc wb we wo wc fb fe fo fc rm ac rf kn) ++ (wMo cJ cZ b mce mfr mun mbe men mov msp mwb mwe mwi mac mre mkn mth) ++ (wO o on wv2))) (vx_runSW (As := [.ref (a 0), .int (xs (x4 + 1).toNatClampNeg), .ref o]) (rest := []) ⟨hx, hb, hml, hown, hts⟩ (c_L_text l hl9 dC dI cB cI cJ cZ a o _ ce fr un sb se so sc wb we wo wc fb fe fo fc rm ac rf kn on ov (xs (x4 + 1).toNatClampNeg) r2 g2) (kcwSW hts kw_675 kv_L_text rfl rfl ⟨(Nat.le_of_ble_eq_true rfl), (Nat.le_of_ble_eq_true rfl)⟩) (kpSX (A := A) (hP.sub [0, 1, 2, 3, 4, 5, 6, 7, 8, 9, 10, 11, 12, 13, 14, 22] rfl) hK (hD.sub [0, 1, 2, 3, 4, 5, 6, 7, 8, 9, 10, 11, 12, 13, 14, 22] (by decide) rfl) hG hZ hS hD hA [0, 1, 2, 3, 4, 5, 6, 7, 8, 9, 10, 11, 12, 13, 14, 22] rfl) rfl rfl hl.1 rfl (lv_room (Nat.le_of_ble_eq_true rfl)) (kdr dgL_law_966 4 4 rfl rfl) ⟨by show _ ≤ (600128 : Nat); omega, by show _ ≤ (7301098 : Nat); omega⟩) hP hD hS hA [0, 1, 2, 3, 4, 5, 6, 7, 8, 9, 10, 11, 12, 13, 14, 22] [15, 16, 17, 18, 19, 20, 21] rfl (fun _ => rfl) [((b 0), .inr (5, [.ref (b 1), .long mfr, .long mun, .ref (b 2), .ref (b 3), .ref (b 4), .int msp, .ref (b 5), .ref (b 6), .int mwi, .int mac, .int mre, .int mkn, .int mth])), ((b 1), .inl (cJ, 4, .inr (.inl mce))), ((b 2), .inl (cJ, 10, .inr (.inl mbe))), ((b 3), .inl (cJ, 10, .inr (.inl men))), ((b 4), .inl (cZ, 10, .inl mov)), ((b 5), .inl (cJ, 8, .inr (.inl mwb))), ((b 6), .inl (cJ, 8, .inr (.inl mwe)))] rfl (fun _ => rfl) (fun _ => rfl) (by decide) (fun _ => rfl) (fun wv2 H locs hP hD hS br2 => ?_)
  refine lv_istore (lv' := (kvI 5 r2 (kvA 0 b9 (kvA 1 (a 0) (kvA 2 (b 0) (kvA 3 o (kvI 4 x4 kvE))))))) hx hb (kdr dgL_law_966 4 5 rfl rfl) hl (by decide) rfl (fun ls hl => ?_)
  refine lv_aload_n hx hb (kdr dgL_law_966 4 6 rfl rfl) rfl (lv_at hl 3 rfl) ?_
  refine kld (v := 1) hx hb (kdr dgL_law_966 4 7 rfl rfl) rfl (lv_at hl 1 rfl) (kdr dgL_law_966 4 8 rfl rfl) (lv_at hl 5 rfl) (kdr dgL_law_966 4 9 rfl rfl) (by decide) (kdr dgL_law_966 5 0 rfl rfl) hX hbl hbA hS (ix_in z0) (kdr dgL_law_966 5 1 rfl rfl) ?_
  obtain ⟨r3, g3, h⟩ := g_b h
  refine kcall_n ((wSB cI cJ cZ a ce fr un sb se so sc wb we wo wc fb fe fo fc rm ac rf kn) ++ (wMo cJ cZ b mce mfr mun mbe men mov msp mwb mwe mwi mac mre mkn r3) ++ (wO o on wv2)) (va_runV (As := [.int (xs (x4 + 1).toNatClampNeg)]) (rest := []) ⟨hx, hb, hml, hown, hts⟩ (c_X3_text l dC dI cB cI cJ cZ b _ mce mfr mun mbe men mov msp mwb mwe mwi mac mre mkn mth (xs (x4 + 1).toNatClampNeg) r3 g3) (kcwV hts kw_1278 kv_X3_text rfl rfl ⟨(Nat.le_of_ble_eq_true rfl), (Nat.le_of_ble_eq_true rfl)⟩) (kpVX (A := A) (hP.sub (kIT mk_41 0) (km_f (m := mk_41) rfl rfl)) hK (hD.sub (kIT mk_41 0) (km_nd mk_41) (km_T (m := mk_41) rfl rfl)) hG hZ hS hD hA (kIT mk_41 0) (km_T (m := mk_41) rfl rfl) (krecv_5 (q0 := 15) hK hP rfl)) rfl rfl hl.1 rfl (lv_room (Nat.le_of_ble_eq_true rfl)) (kdr dgL_law_966 5 2 rfl rfl) ⟨by show _ ≤ (600128 : Nat); omega, by show _ ≤ (7301098 : Nat); omega⟩) hP hD hS hA (kIT mk_41 0) (kIT mk_42 0) (km_T (m := mk_41) rfl rfl) (km_T (m := mk_41) rfl rfl) [((a 0), .inr (3, [.ref (a 1), .long fr, .long un, .ref (a 2), .ref (a 6), .ref (a 10), .ref (a 14), .int ac, .int rf, .int kn])), ((a 1), .inl (cJ, 4, .inr (.inl ce))), ((a 2), .inr (2, [.ref (a 3), .ref (a 4), .ref (a 5), .int sc])), ((a 3), .inl (cJ, 11, .inr (.inl sb))), ((a 4), .inl (cJ, 11, .inr (.inl se))), ((a 5), .inl (cZ, 11, .inl so)), ((a 6), .inr (2, [.ref (a 7), .ref (a 8), .ref (a 9), .int wc])), ((a 7), .inl (cJ, 11, .inr (.inl wb))), ((a 8), .inl (cJ, 11, .inr (.inl we))), ((a 9), .inl (cZ, 11, .inl wo)), ((a 10), .inr (2, [.ref (a 11), .ref (a 12), .ref (a 13), .int fc])), ((a 11), .inl (cJ, 11, .inr (.inl fb))), ((a 12), .inl (cJ, 11, .inr (.inl fe))), ((a 13), .inl (cZ, 11, .inl fo)), ((a 14), .inl (cI, 11, .inl rm)), (o, .inr (4, [.long on, wv2]))] (km_T (m := mk_42) rfl rfl) (km_T (m := mk_42) rfl rfl) (km_cov (m := mk_41) (n := mk_42) rfl rfl) (km_dis (m := mk_41) (n := mk_42) rfl) rfl (fun qa3 H locs hP hD hS => ?_)
  refine lv_astore (lv' := (kvA 6 qa3 (kvI 5 r2 (kvA 0 b9 (kvA 1 (a 0) (kvA 2 (b 0) (kvA 3 o (kvI 4 x4 kvE)))))))) hx hb (kdr dgL_law_966 5 3 rfl rfl) hl (by decide) rfl (fun ls hl => ?_)
  refine lv_goto (tgt := 1845) hx hb (kdr dgL_law_966 5 4 rfl rfl) (by decide) ?_
  exact hK9 ce fr un sb se so sc wb we wo wc fb fe fo fc rm ac rf kn mce mfr mun mbe men mov msp mwb mwe mwi mac mre mkn r3 on wv2 x4 b _ _ _ _ (by omega) (by omega) hP hD hS ls (lv_sub hl [2, 3, 4, 5, 6] rfl) h
noncomputable def flaw_1053 (L : Nat) (xs : Nat → Int32) (K : kFT) (ce : Nat → Int64) (fr : Int64) (un : Int64) (sb : Nat → Int64) (se : Nat → Int64) (so : Nat → Int32) (sc : Int32) (wb : Nat → Int64) (we : Nat → Int64) (wo : Nat → Int32) (wc : Int32) (fb : Nat → Int64) (fe : Nat → Int64) (fo : Nat → Int32) (fc : Int32) (rm : Nat → Int32) (ac : Int32) (rf : Int32) (kn : Int32) (mce : Nat → Int64) (mfr : Int64) (mun : Int64) (mbe : Nat → Int64) (men : Nat → Int64) (mov : Nat → Int32) (msp : Int32) (mwb : Nat → Int64) (mwe : Nat → Int64) (mwi : Int32) (mac : Int32) (mre : Int32) (mkn : Int32) (mth : Int32) (on : Int64) (x4 : Int32) : Option Int32 :=
  if ix (x4 + 1) L then
    if ix (x4 + 2) L then
      (f_L_order ce on (xs (x4 + 1).toNatClampNeg) (xs (x4 + 2).toNatClampNeg)).bind fun r3 =>
      (f_X3_order mce (xs (x4 + 1).toNatClampNeg) (xs (x4 + 2).toNatClampNeg)).bind fun r4 =>
      K ce fr un sb se so sc wb we wo wc fb fe fo fc rm ac rf kn mce mfr mun mbe men mov msp mwb mwe mwi mac mre mkn r4.2 r3.2 x4
    else none
  else none
theorem flaw_1053_e {L : Nat} {xs : Nat → Int32} {K : kFT} (ce : Nat → Int64) (fr : Int64) (un : Int64) (sb : Nat → Int64) (se : Nat → Int64) (so : Nat → Int32) (sc : Int32) (wb : Nat → Int64) (we : Nat → Int64) (wo : Nat → Int32) (wc : Int32) (fb : Nat → Int64) (fe : Nat → Int64) (fo : Nat → Int32) (fc : Int32) (rm : Nat → Int32) (ac : Int32) (rf : Int32) (kn : Int32) (mce : Nat → Int64) (mfr : Int64) (mun : Int64) (mbe : Nat → Int64) (men : Nat → Int64) (mov : Nat → Int32) (msp : Int32) (mwb : Nat → Int64) (mwe : Nat → Int64) (mwi : Int32) (mac : Int32) (mre : Int32) (mkn : Int32) (mth : Int32) (on : Int64) (x4 : Int32) : flaw_1053 L xs K ce fr un sb se so sc wb we wo wc fb fe fo fc rm ac rf kn mce mfr mun mbe men mov msp mwb mwe mwi mac mre mkn mth on x4 =
  if ix (x4 + 1) L then
    if ix (x4 + 2) L then
      (f_L_order ce on (xs (x4 + 1).toNatClampNeg) (xs (x4 + 2).toNatClampNeg)).bind fun r3 =>
      (f_X3_order mce (xs (x4 + 1).toNatClampNeg) (xs (x4 + 2).toNatClampNeg)).bind fun r4 =>
      K ce fr un sb se so sc wb we wo wc fb fe fo fc rm ac rf kn mce mfr mun mbe men mov msp mwb mwe mwi mac mre mkn r4.2 r3.2 x4
    else none
  else none := rfl
set_option maxHeartbeats 8000000 in
set_option maxRecDepth 100000 in
theorem law_19 {p : Program} {l : Launch} {e : Env} {s : State} {m : MethodId} {below : List Frame} {meth : Method} {c : Code} {dC : Nat → ClassId} {dI : Nat → Nat → Nat} {cB cI cJ cZ : ClassId} {b9 L : Nat} {xs : Nat → Int32} {A : Nat → Prop} (hl9 : l.stackTraces = false) (C0 : kLw p s m c b9 L xs A) (hK : va_K (dC, dI) vwCl (kTy cB cI cJ cZ) s) {a : Nat → Nat} {o : Nat} (K : kFT) (bK sK : Nat) (hK9 : kGo p l e s m below meth c dC dI cB cI cJ cZ b9 A a o 1845 bK sK K) : kGo p l e s m below meth c dC dI cB cI cJ cZ b9 A a o 1053 (1 + bK) (6 + sK) (flaw_1053 L xs K) := by
  obtain ⟨hx, hb, hml, hown, hts, hX, hbl, hA, hbA, hG, hZ⟩ := C0
  intro ce fr un sb se so sc wb we wo wc fb fe fo fc rm ac rf kn mce mfr mun mbe men mov msp mwb mwe mwi mac mre mkn mth on ov x4 b H locs kc ks hkc hks hP hD hS ls hl h
  have h := (flaw_1053_e ce fr un sb se so sc wb we wo wc fb fe fo fc rm ac rf kn mce mfr mun mbe men mov msp mwb mwe mwi mac mre mkn mth on x4).symm.trans h
  refine lv_aload_n hx hb (kdr dgL_law_966 5 5 rfl rfl) rfl (lv_at hl 1 rfl) ?_
  obtain ⟨z0, h⟩ := g_if h
  refine kld (v := 1) hx hb (kdr dgL_law_966 5 6 rfl rfl) rfl (lv_at hl 0 rfl) (kdr dgL_law_966 5 7 rfl rfl) (lv_at hl 4 rfl) (kdr dgL_law_966 5 8 rfl rfl) (by decide) (kdr dgL_law_966 5 9 rfl rfl) hX hbl hbA hS (ix_in z0) (kdr dgL_law_966 6 0 rfl rfl) ?_
  obtain ⟨z1, h⟩ := g_if h
  refine kld (v := 2) hx hb (kdr dgL_law_966 6 1 rfl rfl) rfl (lv_at hl 0 rfl) (kdr dgL_law_966 6 2 rfl rfl) (lv_at hl 4 rfl) (kdr dgL_law_966 6 3 rfl rfl) (by decide) (kdr dgL_law_966 6 4 rfl rfl) hX hbl hbA hS (ix_in z1) (kdr dgL_law_966 6 5 rfl rfl) ?_
  refine lv_aload_n hx hb (kdr dgL_law_966 6 6 rfl rfl) rfl (lv_at hl 3 rfl) ?_
  obtain ⟨r3, g3, h⟩ := g_b h
  refine kq_i ((wSB cI cJ cZ a ce fr un sb se so sc wb we wo wc fb fe fo fc rm ac rf kn) ++ (wMo cJ cZ b mce mfr mun mbe men mov msp mwb mwe mwi mac mre mkn mth) ++ (wO o r3.2 ov)) (fun qP qD qF => vx_runSW (As := [.ref (a 0), .int (xs (x4 + 1).toNatClampNeg), .int (xs (x4 + 2).toNatClampNeg), .ref o]) (rest := []) ⟨hx, hb, hml, hown, hts⟩ (c_L_order l hl9 dC dI cB cI cJ cZ a o _ ce fr un sb se so sc wb we wo wc fb fe fo fc rm ac rf kn on ov (xs (x4 + 1).toNatClampNeg) (xs (x4 + 2).toNatClampNeg) r3 g3) (kcwSW hts kw_945 kv_L_order rfl rfl ⟨(Nat.le_of_ble_eq_true rfl), (Nat.le_of_ble_eq_true rfl)⟩) (kpSXq (A := A) qP hK qD hG hZ hS qF) rfl rfl hl.1 rfl (lv_room (Nat.le_of_ble_eq_true rfl)) (kdr dgL_law_966 6 7 rfl rfl) ⟨by show _ ≤ (600128 : Nat); omega, by show _ ≤ (7301098 : Nat); omega⟩) hP hD hS hA (kFr_2 (kFr_l kFr_SB) kFr_o) (fun H locs hP hD hS br3 => ?_)
  refine lv_istore (lv' := (kvI 5 r3.1 (kvA 0 b9 (kvA 1 (a 0) (kvA 2 (b 0) (kvA 3 o (kvI 4 x4 kvE))))))) hx hb (kdr dgL_law_966 6 8 rfl rfl) hl (by decide) rfl (fun ls hl => ?_)
  refine lv_aload_n hx hb (kdr dgL_law_966 6 9 rfl rfl) rfl (lv_at hl 3 rfl) ?_
  refine kld (v := 1) hx hb (kdr dgL_law_966 7 0 rfl rfl) rfl (lv_at hl 1 rfl) (kdr dgL_law_966 7 1 rfl rfl) (lv_at hl 5 rfl) (kdr dgL_law_966 7 2 rfl rfl) (by decide) (kdr dgL_law_966 7 3 rfl rfl) hX hbl hbA hS (ix_in z0) (kdr dgL_law_966 7 4 rfl rfl) ?_
  refine kld (v := 2) hx hb (kdr dgL_law_966 7 5 rfl rfl) rfl (lv_at hl 1 rfl) (kdr dgL_law_966 7 6 rfl rfl) (lv_at hl 5 rfl) (kdr dgL_law_966 7 7 rfl rfl) (by decide) (kdr dgL_law_966 7 8 rfl rfl) hX hbl hbA hS (ix_in z1) (kdr dgL_law_966 7 9 rfl rfl) ?_
  obtain ⟨r4, g4, h⟩ := g_b h
  refine kq_i ((wSB cI cJ cZ a ce fr un sb se so sc wb we wo wc fb fe fo fc rm ac rf kn) ++ (wMo cJ cZ b mce mfr mun mbe men mov msp mwb mwe mwi mac mre mkn r4.2) ++ (wO o r3.2 ov)) (fun qP qD qF => va_runV (As := [.int (xs (x4 + 1).toNatClampNeg), .int (xs (x4 + 2).toNatClampNeg)]) (rest := []) ⟨hx, hb, hml, hown, hts⟩ (c_X3_order l dC dI cB cI cJ cZ b _ mce mfr mun mbe men mov msp mwb mwe mwi mac mre mkn mth (xs (x4 + 1).toNatClampNeg) (xs (x4 + 2).toNatClampNeg) r4 g4) (kcwV hts kw_1289 kv_X3_order rfl rfl ⟨(Nat.le_of_ble_eq_true rfl), (Nat.le_of_ble_eq_true rfl)⟩) (kpV (A := A) qP hK qD hG (krecv_5 (q0 := 15) hK hP rfl)) rfl rfl hl.1 rfl (lv_room (Nat.le_of_ble_eq_true rfl)) (kdr dgL_law_966 8 0 rfl rfl) ⟨by show _ ≤ (600128 : Nat); omega, by show _ ≤ (7301098 : Nat); omega⟩) hP hD hS hA (kFr_l (kFr_r kFr_Mo)) (fun H locs hP hD hS br4 => ?_)
  refine lv_istore (lv' := (kvI 6 r4.1 (kvI 5 r3.1 (kvA 0 b9 (kvA 1 (a 0) (kvA 2 (b 0) (kvA 3 o (kvI 4 x4 kvE)))))))) hx hb (kdr dgL_law_966 8 1 rfl rfl) hl (by decide) rfl (fun ls hl => ?_)
  refine lv_goto (tgt := 1845) hx hb (kdr dgL_law_966 8 2 rfl rfl) (by decide) ?_
  exact hK9 ce fr un sb se so sc wb we wo wc fb fe fo fc rm ac rf kn mce mfr mun mbe men mov msp mwb mwe mwi mac mre mkn r4.2 r3.2 ov x4 b _ _ _ _ (by omega) (by omega) hP hD hS ls (lv_sub hl [2, 3, 4, 5, 6] rfl) h
noncomputable def flaw_1093 (L : Nat) (xs : Nat → Int32) (K : kFT) (ce : Nat → Int64) (fr : Int64) (un : Int64) (sb : Nat → Int64) (se : Nat → Int64) (so : Nat → Int32) (sc : Int32) (wb : Nat → Int64) (we : Nat → Int64) (wo : Nat → Int32) (wc : Int32) (fb : Nat → Int64) (fe : Nat → Int64) (fo : Nat → Int32) (fc : Int32) (rm : Nat → Int32) (ac : Int32) (rf : Int32) (kn : Int32) (mce : Nat → Int64) (mfr : Int64) (mun : Int64) (mbe : Nat → Int64) (men : Nat → Int64) (mov : Nat → Int32) (msp : Int32) (mwb : Nat → Int64) (mwe : Nat → Int64) (mwi : Int32) (mac : Int32) (mre : Int32) (mkn : Int32) (mth : Int32) (on : Int64) (x4 : Int32) : Option Int32 :=
  if ix (x4 + 1) L then
    if ix (x4 + 2) L then
      (f_L_isBefore ce on (xs (x4 + 1).toNatClampNeg) (xs (x4 + 2).toNatClampNeg)).bind fun r3 =>
      (f_X3_isBefore mce (xs (x4 + 1).toNatClampNeg) (xs (x4 + 2).toNatClampNeg)).bind fun r4 =>
      K ce fr un sb se so sc wb we wo wc fb fe fo fc rm ac rf kn mce mfr mun mbe men mov msp mwb mwe mwi mac mre mkn r4.2 r3.2 x4
    else none
  else none
theorem flaw_1093_e {L : Nat} {xs : Nat → Int32} {K : kFT} (ce : Nat → Int64) (fr : Int64) (un : Int64) (sb : Nat → Int64) (se : Nat → Int64) (so : Nat → Int32) (sc : Int32) (wb : Nat → Int64) (we : Nat → Int64) (wo : Nat → Int32) (wc : Int32) (fb : Nat → Int64) (fe : Nat → Int64) (fo : Nat → Int32) (fc : Int32) (rm : Nat → Int32) (ac : Int32) (rf : Int32) (kn : Int32) (mce : Nat → Int64) (mfr : Int64) (mun : Int64) (mbe : Nat → Int64) (men : Nat → Int64) (mov : Nat → Int32) (msp : Int32) (mwb : Nat → Int64) (mwe : Nat → Int64) (mwi : Int32) (mac : Int32) (mre : Int32) (mkn : Int32) (mth : Int32) (on : Int64) (x4 : Int32) : flaw_1093 L xs K ce fr un sb se so sc wb we wo wc fb fe fo fc rm ac rf kn mce mfr mun mbe men mov msp mwb mwe mwi mac mre mkn mth on x4 =
  if ix (x4 + 1) L then
    if ix (x4 + 2) L then
      (f_L_isBefore ce on (xs (x4 + 1).toNatClampNeg) (xs (x4 + 2).toNatClampNeg)).bind fun r3 =>
      (f_X3_isBefore mce (xs (x4 + 1).toNatClampNeg) (xs (x4 + 2).toNatClampNeg)).bind fun r4 =>
      K ce fr un sb se so sc wb we wo wc fb fe fo fc rm ac rf kn mce mfr mun mbe men mov msp mwb mwe mwi mac mre mkn r4.2 r3.2 x4
    else none
  else none := rfl
set_option maxHeartbeats 8000000 in
set_option maxRecDepth 100000 in
theorem law_20 {p : Program} {l : Launch} {e : Env} {s : State} {m : MethodId} {below : List Frame} {meth : Method} {c : Code} {dC : Nat → ClassId} {dI : Nat → Nat → Nat} {cB cI cJ cZ : ClassId} {b9 L : Nat} {xs : Nat → Int32} {A : Nat → Prop} (hl9 : l.stackTraces = false) (C0 : kLw p s m c b9 L xs A) (hK : va_K (dC, dI) vwCl (kTy cB cI cJ cZ) s) {a : Nat → Nat} {o : Nat} (K : kFT) (bK sK : Nat) (hK9 : kGo p l e s m below meth c dC dI cB cI cJ cZ b9 A a o 1845 bK sK K) : kGo p l e s m below meth c dC dI cB cI cJ cZ b9 A a o 1093 (1 + bK) (6 + sK) (flaw_1093 L xs K) := by
  obtain ⟨hx, hb, hml, hown, hts, hX, hbl, hA, hbA, hG, hZ⟩ := C0
  intro ce fr un sb se so sc wb we wo wc fb fe fo fc rm ac rf kn mce mfr mun mbe men mov msp mwb mwe mwi mac mre mkn mth on ov x4 b H locs kc ks hkc hks hP hD hS ls hl h
  have h := (flaw_1093_e ce fr un sb se so sc wb we wo wc fb fe fo fc rm ac rf kn mce mfr mun mbe men mov msp mwb mwe mwi mac mre mkn mth on x4).symm.trans h
  refine lv_aload_n hx hb (kdr dgL_law_966 8 3 rfl rfl) rfl (lv_at hl 1 rfl) ?_
  obtain ⟨z0, h⟩ := g_if h
  refine kld (v := 1) hx hb (kdr dgL_law_966 8 4 rfl rfl) rfl (lv_at hl 0 rfl) (kdr dgL_law_966 8 5 rfl rfl) (lv_at hl 4 rfl) (kdr dgL_law_966 8 6 rfl rfl) (by decide) (kdr dgL_law_966 8 7 rfl rfl) hX hbl hbA hS (ix_in z0) (kdr dgL_law_966 8 8 rfl rfl) ?_
  obtain ⟨z1, h⟩ := g_if h
  refine kld (v := 2) hx hb (kdr dgL_law_966 8 9 rfl rfl) rfl (lv_at hl 0 rfl) (kdr dgL_law_966 9 0 rfl rfl) (lv_at hl 4 rfl) (kdr dgL_law_966 9 1 rfl rfl) (by decide) (kdr dgL_law_966 9 2 rfl rfl) hX hbl hbA hS (ix_in z1) (kdr dgL_law_966 9 3 rfl rfl) ?_
  refine lv_aload_n hx hb (kdr dgL_law_966 9 4 rfl rfl) rfl (lv_at hl 3 rfl) ?_
  obtain ⟨r3, g3, h⟩ := g_b h
  refine kq_i ((wSB cI cJ cZ a ce fr un sb se so sc wb we wo wc fb fe fo fc rm ac rf kn) ++ (wMo cJ cZ b mce mfr mun mbe men mov msp mwb mwe mwi mac mre mkn mth) ++ (wO o r3.2 ov)) (fun qP qD qF => vx_runSW (As := [.ref (a 0), .int (xs (x4 + 1).toNatClampNeg), .int (xs (x4 + 2).toNatClampNeg), .ref o]) (rest := []) ⟨hx, hb, hml, hown, hts⟩ (c_L_isBefore l hl9 dC dI cB cI cJ cZ a o _ ce fr un sb se so sc wb we wo wc fb fe fo fc rm ac rf kn on ov (xs (x4 + 1).toNatClampNeg) (xs (x4 + 2).toNatClampNeg) r3 g3) (kcwSW hts kw_952 kv_L_isBefore rfl rfl ⟨(Nat.le_of_ble_eq_true rfl), (Nat.le_of_ble_eq_true rfl)⟩) (kpSXq (A := A) qP hK qD hG hZ hS qF) rfl rfl hl.1 rfl (lv_room (Nat.le_of_ble_eq_true rfl)) (kdr dgL_law_966 9 5 rfl rfl) ⟨by show _ ≤ (600128 : Nat); omega, by show _ ≤ (7301098 : Nat); omega⟩) hP hD hS hA (kFr_2 (kFr_l kFr_SB) kFr_o) (fun H locs hP hD hS br3 => ?_)
  refine lv_istore (lv' := (kvI 5 r3.1 (kvA 0 b9 (kvA 1 (a 0) (kvA 2 (b 0) (kvA 3 o (kvI 4 x4 kvE))))))) hx hb (kdr dgL_law_966 9 6 rfl rfl) hl (by decide) rfl (fun ls hl => ?_)
  refine lv_aload_n hx hb (kdr dgL_law_966 9 7 rfl rfl) rfl (lv_at hl 3 rfl) ?_
  refine kld (v := 1) hx hb (kdr dgL_law_966 9 8 rfl rfl) rfl (lv_at hl 1 rfl) (kdr dgL_law_966 9 9 rfl rfl) (lv_at hl 5 rfl) (kdr dgL_law_1116 0 0 rfl rfl) (by decide) (kdr dgL_law_1116 0 1 rfl rfl) hX hbl hbA hS (ix_in z0) (kdr dgL_law_1116 0 2 rfl rfl) ?_
  refine kld (v := 2) hx hb (kdr dgL_law_1116 0 3 rfl rfl) rfl (lv_at hl 1 rfl) (kdr dgL_law_1116 0 4 rfl rfl) (lv_at hl 5 rfl) (kdr dgL_law_1116 0 5 rfl rfl) (by decide) (kdr dgL_law_1116 0 6 rfl rfl) hX hbl hbA hS (ix_in z1) (kdr dgL_law_1116 0 7 rfl rfl) ?_
  obtain ⟨r4, g4, h⟩ := g_b h
  refine kq_i ((wSB cI cJ cZ a ce fr un sb se so sc wb we wo wc fb fe fo fc rm ac rf kn) ++ (wMo cJ cZ b mce mfr mun mbe men mov msp mwb mwe mwi mac mre mkn r4.2) ++ (wO o r3.2 ov)) (fun qP qD qF => va_runV (As := [.int (xs (x4 + 1).toNatClampNeg), .int (xs (x4 + 2).toNatClampNeg)]) (rest := []) ⟨hx, hb, hml, hown, hts⟩ (c_X3_isBefore l dC dI cB cI cJ cZ b _ mce mfr mun mbe men mov msp mwb mwe mwi mac mre mkn mth (xs (x4 + 1).toNatClampNeg) (xs (x4 + 2).toNatClampNeg) r4 g4) (kcwV hts kw_1297 kv_X3_isBefore rfl rfl ⟨(Nat.le_of_ble_eq_true rfl), (Nat.le_of_ble_eq_true rfl)⟩) (kpV (A := A) qP hK qD hG (krecv_5 (q0 := 15) hK hP rfl)) rfl rfl hl.1 rfl (lv_room (Nat.le_of_ble_eq_true rfl)) (kdr dgL_law_1116 0 8 rfl rfl) ⟨by show _ ≤ (600128 : Nat); omega, by show _ ≤ (7301098 : Nat); omega⟩) hP hD hS hA (kFr_l (kFr_r kFr_Mo)) (fun H locs hP hD hS br4 => ?_)
  refine lv_istore (lv' := (kvI 6 r4.1 (kvI 5 r3.1 (kvA 0 b9 (kvA 1 (a 0) (kvA 2 (b 0) (kvA 3 o (kvI 4 x4 kvE)))))))) hx hb (kdr dgL_law_1116 0 9 rfl rfl) hl (by decide) rfl (fun ls hl => ?_)
  refine lv_goto (tgt := 1845) hx hb (kdr dgL_law_1116 1 0 rfl rfl) (by decide) ?_
  exact hK9 ce fr un sb se so sc wb we wo wc fb fe fo fc rm ac rf kn mce mfr mun mbe men mov msp mwb mwe mwi mac mre mkn r4.2 r3.2 ov x4 b _ _ _ _ (by omega) (by omega) hP hD hS ls (lv_sub hl [2, 3, 4, 5, 6] rfl) h
noncomputable def flaw_1133 (L : Nat) (xs : Nat → Int32) (K : kFT) (ce : Nat → Int64) (fr : Int64) (un : Int64) (sb : Nat → Int64) (se : Nat → Int64) (so : Nat → Int32) (sc : Int32) (wb : Nat → Int64) (we : Nat → Int64) (wo : Nat → Int32) (wc : Int32) (fb : Nat → Int64) (fe : Nat → Int64) (fo : Nat → Int32) (fc : Int32) (rm : Nat → Int32) (ac : Int32) (rf : Int32) (kn : Int32) (mce : Nat → Int64) (mfr : Int64) (mun : Int64) (mbe : Nat → Int64) (men : Nat → Int64) (mov : Nat → Int32) (msp : Int32) (mwb : Nat → Int64) (mwe : Nat → Int64) (mwi : Int32) (mac : Int32) (mre : Int32) (mkn : Int32) (mth : Int32) (on : Int64) (x4 : Int32) : Option Int32 :=
  if ix (x4 + 1) L then
    if ix (x4 + 2) L then
      (f_L_isAfter ce on (xs (x4 + 1).toNatClampNeg) (xs (x4 + 2).toNatClampNeg)).bind fun r3 =>
      (f_X3_isAfter mce (xs (x4 + 1).toNatClampNeg) (xs (x4 + 2).toNatClampNeg)).bind fun r4 =>
      K ce fr un sb se so sc wb we wo wc fb fe fo fc rm ac rf kn mce mfr mun mbe men mov msp mwb mwe mwi mac mre mkn r4.2 r3.2 x4
    else none
  else none
theorem flaw_1133_e {L : Nat} {xs : Nat → Int32} {K : kFT} (ce : Nat → Int64) (fr : Int64) (un : Int64) (sb : Nat → Int64) (se : Nat → Int64) (so : Nat → Int32) (sc : Int32) (wb : Nat → Int64) (we : Nat → Int64) (wo : Nat → Int32) (wc : Int32) (fb : Nat → Int64) (fe : Nat → Int64) (fo : Nat → Int32) (fc : Int32) (rm : Nat → Int32) (ac : Int32) (rf : Int32) (kn : Int32) (mce : Nat → Int64) (mfr : Int64) (mun : Int64) (mbe : Nat → Int64) (men : Nat → Int64) (mov : Nat → Int32) (msp : Int32) (mwb : Nat → Int64) (mwe : Nat → Int64) (mwi : Int32) (mac : Int32) (mre : Int32) (mkn : Int32) (mth : Int32) (on : Int64) (x4 : Int32) : flaw_1133 L xs K ce fr un sb se so sc wb we wo wc fb fe fo fc rm ac rf kn mce mfr mun mbe men mov msp mwb mwe mwi mac mre mkn mth on x4 =
  if ix (x4 + 1) L then
    if ix (x4 + 2) L then
      (f_L_isAfter ce on (xs (x4 + 1).toNatClampNeg) (xs (x4 + 2).toNatClampNeg)).bind fun r3 =>
      (f_X3_isAfter mce (xs (x4 + 1).toNatClampNeg) (xs (x4 + 2).toNatClampNeg)).bind fun r4 =>
      K ce fr un sb se so sc wb we wo wc fb fe fo fc rm ac rf kn mce mfr mun mbe men mov msp mwb mwe mwi mac mre mkn r4.2 r3.2 x4
    else none
  else none := rfl
set_option maxHeartbeats 8000000 in
set_option maxRecDepth 100000 in
theorem law_21 {p : Program} {l : Launch} {e : Env} {s : State} {m : MethodId} {below : List Frame} {meth : Method} {c : Code} {dC : Nat → ClassId} {dI : Nat → Nat → Nat} {cB cI cJ cZ : ClassId} {b9 L : Nat} {xs : Nat → Int32} {A : Nat → Prop} (hl9 : l.stackTraces = false) (C0 : kLw p s m c b9 L xs A) (hK : va_K (dC, dI) vwCl (kTy cB cI cJ cZ) s) {a : Nat → Nat} {o : Nat} (K : kFT) (bK sK : Nat) (hK9 : kGo p l e s m below meth c dC dI cB cI cJ cZ b9 A a o 1845 bK sK K) : kGo p l e s m below meth c dC dI cB cI cJ cZ b9 A a o 1133 (1 + bK) (6 + sK) (flaw_1133 L xs K) := by
  obtain ⟨hx, hb, hml, hown, hts, hX, hbl, hA, hbA, hG, hZ⟩ := C0
  intro ce fr un sb se so sc wb we wo wc fb fe fo fc rm ac rf kn mce mfr mun mbe men mov msp mwb mwe mwi mac mre mkn mth on ov x4 b H locs kc ks hkc hks hP hD hS ls hl h
  have h := (flaw_1133_e ce fr un sb se so sc wb we wo wc fb fe fo fc rm ac rf kn mce mfr mun mbe men mov msp mwb mwe mwi mac mre mkn mth on x4).symm.trans h
  refine lv_aload_n hx hb (kdr dgL_law_1116 1 1 rfl rfl) rfl (lv_at hl 1 rfl) ?_
  obtain ⟨z0, h⟩ := g_if h
  refine kld (v := 1) hx hb (kdr dgL_law_1116 1 2 rfl rfl) rfl (lv_at hl 0 rfl) (kdr dgL_law_1116 1 3 rfl rfl) (lv_at hl 4 rfl) (kdr dgL_law_1116 1 4 rfl rfl) (by decide) (kdr dgL_law_1116 1 5 rfl rfl) hX hbl hbA hS (ix_in z0) (kdr dgL_law_1116 1 6 rfl rfl) ?_
  obtain ⟨z1, h⟩ := g_if h
  refine kld (v := 2) hx hb (kdr dgL_law_1116 1 7 rfl rfl) rfl (lv_at hl 0 rfl) (kdr dgL_law_1116 1 8 rfl rfl) (lv_at hl 4 rfl) (kdr dgL_law_1116 1 9 rfl rfl) (by decide) (kdr dgL_law_1116 2 0 rfl rfl) hX hbl hbA hS (ix_in z1) (kdr dgL_law_1116 2 1 rfl rfl) ?_
  refine lv_aload_n hx hb (kdr dgL_law_1116 2 2 rfl rfl) rfl (lv_at hl 3 rfl) ?_
  obtain ⟨r3, g3, h⟩ := g_b h
  refine kq_i ((wSB cI cJ cZ a ce fr un sb se so sc wb we wo wc fb fe fo fc rm ac rf kn) ++ (wMo cJ cZ b mce mfr mun mbe men mov msp mwb mwe mwi mac mre mkn mth) ++ (wO o r3.2 ov)) (fun qP qD qF => vx_runSW (As := [.ref (a 0), .int (xs (x4 + 1).toNatClampNeg), .int (xs (x4 + 2).toNatClampNeg), .ref o]) (rest := []) ⟨hx, hb, hml, hown, hts⟩ (c_L_isAfter l hl9 dC dI cB cI cJ cZ a o _ ce fr un sb se so sc wb we wo wc fb fe fo fc rm ac rf kn on ov (xs (x4 + 1).toNatClampNeg) (xs (x4 + 2).toNatClampNeg) r3 g3) (kcwSW hts kw_959 kv_L_isAfter rfl rfl ⟨(Nat.le_of_ble_eq_true rfl), (Nat.le_of_ble_eq_true rfl)⟩) (kpSXq (A := A) qP hK qD hG hZ hS qF) rfl rfl hl.1 rfl (lv_room (Nat.le_of_ble_eq_true rfl)) (kdr dgL_law_1116 2 3 rfl rfl) ⟨by show _ ≤ (600128 : Nat); omega, by show _ ≤ (7301098 : Nat); omega⟩) hP hD hS hA (kFr_2 (kFr_l kFr_SB) kFr_o) (fun H locs hP hD hS br3 => ?_)
  refine lv_istore (lv' := (kvI 5 r3.1 (kvA 0 b9 (kvA 1 (a 0) (kvA 2 (b 0) (kvA 3 o (kvI 4 x4 kvE))))))) hx hb (kdr dgL_law_1116 2 4 rfl rfl) hl (by decide) rfl (fun ls hl => ?_)
  refine lv_aload_n hx hb (kdr dgL_law_1116 2 5 rfl rfl) rfl (lv_at hl 3 rfl) ?_
  refine kld (v := 1) hx hb (kdr dgL_law_1116 2 6 rfl rfl) rfl (lv_at hl 1 rfl) (kdr dgL_law_1116 2 7 rfl rfl) (lv_at hl 5 rfl) (kdr dgL_law_1116 2 8 rfl rfl) (by decide) (kdr dgL_law_1116 2 9 rfl rfl) hX hbl hbA hS (ix_in z0) (kdr dgL_law_1116 3 0 rfl rfl) ?_
  refine kld (v := 2) hx hb (kdr dgL_law_1116 3 1 rfl rfl) rfl (lv_at hl 1 rfl) (kdr dgL_law_1116 3 2 rfl rfl) (lv_at hl 5 rfl) (kdr dgL_law_1116 3 3 rfl rfl) (by decide) (kdr dgL_law_1116 3 4 rfl rfl) hX hbl hbA hS (ix_in z1) (kdr dgL_law_1116 3 5 rfl rfl) ?_
  obtain ⟨r4, g4, h⟩ := g_b h
  refine kq_i ((wSB cI cJ cZ a ce fr un sb se so sc wb we wo wc fb fe fo fc rm ac rf kn) ++ (wMo cJ cZ b mce mfr mun mbe men mov msp mwb mwe mwi mac mre mkn r4.2) ++ (wO o r3.2 ov)) (fun qP qD qF => va_runV (As := [.int (xs (x4 + 1).toNatClampNeg), .int (xs (x4 + 2).toNatClampNeg)]) (rest := []) ⟨hx, hb, hml, hown, hts⟩ (c_X3_isAfter l dC dI cB cI cJ cZ b _ mce mfr mun mbe men mov msp mwb mwe mwi mac mre mkn mth (xs (x4 + 1).toNatClampNeg) (xs (x4 + 2).toNatClampNeg) r4 g4) (kcwV hts kw_1301 kv_X3_isAfter rfl rfl ⟨(Nat.le_of_ble_eq_true rfl), (Nat.le_of_ble_eq_true rfl)⟩) (kpV (A := A) qP hK qD hG (krecv_5 (q0 := 15) hK hP rfl)) rfl rfl hl.1 rfl (lv_room (Nat.le_of_ble_eq_true rfl)) (kdr dgL_law_1116 3 6 rfl rfl) ⟨by show _ ≤ (600128 : Nat); omega, by show _ ≤ (7301098 : Nat); omega⟩) hP hD hS hA (kFr_l (kFr_r kFr_Mo)) (fun H locs hP hD hS br4 => ?_)
  refine lv_istore (lv' := (kvI 6 r4.1 (kvI 5 r3.1 (kvA 0 b9 (kvA 1 (a 0) (kvA 2 (b 0) (kvA 3 o (kvI 4 x4 kvE)))))))) hx hb (kdr dgL_law_1116 3 7 rfl rfl) hl (by decide) rfl (fun ls hl => ?_)
  refine lv_goto (tgt := 1845) hx hb (kdr dgL_law_1116 3 8 rfl rfl) (by decide) ?_
  exact hK9 ce fr un sb se so sc wb we wo wc fb fe fo fc rm ac rf kn mce mfr mun mbe men mov msp mwb mwe mwi mac mre mkn r4.2 r3.2 ov x4 b _ _ _ _ (by omega) (by omega) hP hD hS ls (lv_sub hl [2, 3, 4, 5, 6] rfl) h
noncomputable def flaw_1173 (L : Nat) (xs : Nat → Int32) (K : kFT) (ce : Nat → Int64) (fr : Int64) (un : Int64) (sb : Nat → Int64) (se : Nat → Int64) (so : Nat → Int32) (sc : Int32) (wb : Nat → Int64) (we : Nat → Int64) (wo : Nat → Int32) (wc : Int32) (fb : Nat → Int64) (fe : Nat → Int64) (fo : Nat → Int32) (fc : Int32) (rm : Nat → Int32) (ac : Int32) (rf : Int32) (kn : Int32) (mce : Nat → Int64) (mfr : Int64) (mun : Int64) (mbe : Nat → Int64) (men : Nat → Int64) (mov : Nat → Int32) (msp : Int32) (mwb : Nat → Int64) (mwe : Nat → Int64) (mwi : Int32) (mac : Int32) (mre : Int32) (mkn : Int32) (mth : Int32) (on : Int64) (x4 : Int32) : Option Int32 :=
  if ix (x4 + 1) L then
    if ix (x4 + 2) L then
      if ix (x4 + 3) L then
        (f_L_same ce on (xs (x4 + 1).toNatClampNeg) (xs (x4 + 2).toNatClampNeg) (xs (x4 + 3).toNatClampNeg)).bind fun r4 =>
        (f_X3_same mce (xs (x4 + 1).toNatClampNeg) (xs (x4 + 2).toNatClampNeg) (xs (x4 + 3).toNatClampNeg)).bind fun r5 =>
        K ce fr un sb se so sc wb we wo wc fb fe fo fc rm ac rf kn mce mfr mun mbe men mov msp mwb mwe mwi mac mre mkn r5.2 r4.2 x4
      else none
    else none
  else none
theorem flaw_1173_e {L : Nat} {xs : Nat → Int32} {K : kFT} (ce : Nat → Int64) (fr : Int64) (un : Int64) (sb : Nat → Int64) (se : Nat → Int64) (so : Nat → Int32) (sc : Int32) (wb : Nat → Int64) (we : Nat → Int64) (wo : Nat → Int32) (wc : Int32) (fb : Nat → Int64) (fe : Nat → Int64) (fo : Nat → Int32) (fc : Int32) (rm : Nat → Int32) (ac : Int32) (rf : Int32) (kn : Int32) (mce : Nat → Int64) (mfr : Int64) (mun : Int64) (mbe : Nat → Int64) (men : Nat → Int64) (mov : Nat → Int32) (msp : Int32) (mwb : Nat → Int64) (mwe : Nat → Int64) (mwi : Int32) (mac : Int32) (mre : Int32) (mkn : Int32) (mth : Int32) (on : Int64) (x4 : Int32) : flaw_1173 L xs K ce fr un sb se so sc wb we wo wc fb fe fo fc rm ac rf kn mce mfr mun mbe men mov msp mwb mwe mwi mac mre mkn mth on x4 =
  if ix (x4 + 1) L then
    if ix (x4 + 2) L then
      if ix (x4 + 3) L then
        (f_L_same ce on (xs (x4 + 1).toNatClampNeg) (xs (x4 + 2).toNatClampNeg) (xs (x4 + 3).toNatClampNeg)).bind fun r4 =>
        (f_X3_same mce (xs (x4 + 1).toNatClampNeg) (xs (x4 + 2).toNatClampNeg) (xs (x4 + 3).toNatClampNeg)).bind fun r5 =>
        K ce fr un sb se so sc wb we wo wc fb fe fo fc rm ac rf kn mce mfr mun mbe men mov msp mwb mwe mwi mac mre mkn r5.2 r4.2 x4
      else none
    else none
  else none := rfl
set_option maxHeartbeats 8000000 in
set_option maxRecDepth 100000 in
theorem law_22 {p : Program} {l : Launch} {e : Env} {s : State} {m : MethodId} {below : List Frame} {meth : Method} {c : Code} {dC : Nat → ClassId} {dI : Nat → Nat → Nat} {cB cI cJ cZ : ClassId} {b9 L : Nat} {xs : Nat → Int32} {A : Nat → Prop} (hl9 : l.stackTraces = false) (C0 : kLw p s m c b9 L xs A) (hK : va_K (dC, dI) vwCl (kTy cB cI cJ cZ) s) {a : Nat → Nat} {o : Nat} (K : kFT) (bK sK : Nat) (hK9 : kGo p l e s m below meth c dC dI cB cI cJ cZ b9 A a o 1845 bK sK K) : kGo p l e s m below meth c dC dI cB cI cJ cZ b9 A a o 1173 (1 + bK) (6 + sK) (flaw_1173 L xs K) := by
  obtain ⟨hx, hb, hml, hown, hts, hX, hbl, hA, hbA, hG, hZ⟩ := C0
  intro ce fr un sb se so sc wb we wo wc fb fe fo fc rm ac rf kn mce mfr mun mbe men mov msp mwb mwe mwi mac mre mkn mth on ov x4 b H locs kc ks hkc hks hP hD hS ls hl h
  have h := (flaw_1173_e ce fr un sb se so sc wb we wo wc fb fe fo fc rm ac rf kn mce mfr mun mbe men mov msp mwb mwe mwi mac mre mkn mth on x4).symm.trans h
  refine lv_aload_n hx hb (kdr dgL_law_1116 3 9 rfl rfl) rfl (lv_at hl 1 rfl) ?_
  obtain ⟨z0, h⟩ := g_if h
  refine kld (v := 1) hx hb (kdr dgL_law_1116 4 0 rfl rfl) rfl (lv_at hl 0 rfl) (kdr dgL_law_1116 4 1 rfl rfl) (lv_at hl 4 rfl) (kdr dgL_law_1116 4 2 rfl rfl) (by decide) (kdr dgL_law_1116 4 3 rfl rfl) hX hbl hbA hS (ix_in z0) (kdr dgL_law_1116 4 4 rfl rfl) ?_
  obtain ⟨z1, h⟩ := g_if h
  refine kld (v := 2) hx hb (kdr dgL_law_1116 4 5 rfl rfl) rfl (lv_at hl 0 rfl) (kdr dgL_law_1116 4 6 rfl rfl) (lv_at hl 4 rfl) (kdr dgL_law_1116 4 7 rfl rfl) (by decide) (kdr dgL_law_1116 4 8 rfl rfl) hX hbl hbA hS (ix_in z1) (kdr dgL_law_1116 4 9 rfl rfl) ?_
  obtain ⟨z2, h⟩ := g_if h
  refine kld (v := 3) hx hb (kdr dgL_law_1116 5 0 rfl rfl) rfl (lv_at hl 0 rfl) (kdr dgL_law_1116 5 1 rfl rfl) (lv_at hl 4 rfl) (kdr dgL_law_1116 5 2 rfl rfl) (by decide) (kdr dgL_law_1116 5 3 rfl rfl) hX hbl hbA hS (ix_in z2) (kdr dgL_law_1116 5 4 rfl rfl) ?_
  refine lv_aload_n hx hb (kdr dgL_law_1116 5 5 rfl rfl) rfl (lv_at hl 3 rfl) ?_
  obtain ⟨r4, g4, h⟩ := g_b h
  refine kq_i ((wSB cI cJ cZ a ce fr un sb se so sc wb we wo wc fb fe fo fc rm ac rf kn) ++ (wMo cJ cZ b mce mfr mun mbe men mov msp mwb mwe mwi mac mre mkn mth) ++ (wO o r4.2 ov)) (fun qP qD qF => vx_runSW (As := [.ref (a 0), .int (xs (x4 + 1).toNatClampNeg), .int (xs (x4 + 2).toNatClampNeg), .int (xs (x4 + 3).toNatClampNeg), .ref o]) (rest := []) ⟨hx, hb, hml, hown, hts⟩ (c_L_same l hl9 dC dI cB cI cJ cZ a o _ ce fr un sb se so sc wb we wo wc fb fe fo fc rm ac rf kn on ov (xs (x4 + 1).toNatClampNeg) (xs (x4 + 2).toNatClampNeg) (xs (x4 + 3).toNatClampNeg) r4 g4) (kcwSW hts kw_966 kv_L_same rfl rfl ⟨(Nat.le_of_ble_eq_true rfl), (Nat.le_of_ble_eq_true rfl)⟩) (kpSXq (A := A) qP hK qD hG hZ hS qF) rfl rfl hl.1 rfl (lv_room (Nat.le_of_ble_eq_true rfl)) (kdr dgL_law_1116 5 6 rfl rfl) ⟨by show _ ≤ (600128 : Nat); omega, by show _ ≤ (7301098 : Nat); omega⟩) hP hD hS hA (kFr_2 (kFr_l kFr_SB) kFr_o) (fun H locs hP hD hS br4 => ?_)
  refine lv_istore (lv' := (kvI 5 r4.1 (kvA 0 b9 (kvA 1 (a 0) (kvA 2 (b 0) (kvA 3 o (kvI 4 x4 kvE))))))) hx hb (kdr dgL_law_1116 5 7 rfl rfl) hl (by decide) rfl (fun ls hl => ?_)
  refine lv_aload_n hx hb (kdr dgL_law_1116 5 8 rfl rfl) rfl (lv_at hl 3 rfl) ?_
  refine kld (v := 1) hx hb (kdr dgL_law_1116 5 9 rfl rfl) rfl (lv_at hl 1 rfl) (kdr dgL_law_1116 6 0 rfl rfl) (lv_at hl 5 rfl) (kdr dgL_law_1116 6 1 rfl rfl) (by decide) (kdr dgL_law_1116 6 2 rfl rfl) hX hbl hbA hS (ix_in z0) (kdr dgL_law_1116 6 3 rfl rfl) ?_
  refine kld (v := 2) hx hb (kdr dgL_law_1116 6 4 rfl rfl) rfl (lv_at hl 1 rfl) (kdr dgL_law_1116 6 5 rfl rfl) (lv_at hl 5 rfl) (kdr dgL_law_1116 6 6 rfl rfl) (by decide) (kdr dgL_law_1116 6 7 rfl rfl) hX hbl hbA hS (ix_in z1) (kdr dgL_law_1116 6 8 rfl rfl) ?_
  refine kld (v := 3) hx hb (kdr dgL_law_1116 6 9 rfl rfl) rfl (lv_at hl 1 rfl) (kdr dgL_law_1116 7 0 rfl rfl) (lv_at hl 5 rfl) (kdr dgL_law_1116 7 1 rfl rfl) (by decide) (kdr dgL_law_1116 7 2 rfl rfl) hX hbl hbA hS (ix_in z2) (kdr dgL_law_1116 7 3 rfl rfl) ?_
  obtain ⟨r5, g5, h⟩ := g_b h
  refine kq_i ((wSB cI cJ cZ a ce fr un sb se so sc wb we wo wc fb fe fo fc rm ac rf kn) ++ (wMo cJ cZ b mce mfr mun mbe men mov msp mwb mwe mwi mac mre mkn r5.2) ++ (wO o r4.2 ov)) (fun qP qD qF => va_runV (As := [.int (xs (x4 + 1).toNatClampNeg), .int (xs (x4 + 2).toNatClampNeg), .int (xs (x4 + 3).toNatClampNeg)]) (rest := []) ⟨hx, hb, hml, hown, hts⟩ (c_X3_same l dC dI cB cI cJ cZ b _ mce mfr mun mbe men mov msp mwb mwe mwi mac mre mkn mth (xs (x4 + 1).toNatClampNeg) (xs (x4 + 2).toNatClampNeg) (xs (x4 + 3).toNatClampNeg) r5 g5) (kcwV hts kw_1305 kv_X3_same rfl rfl ⟨(Nat.le_of_ble_eq_true rfl), (Nat.le_of_ble_eq_true rfl)⟩) (kpV (A := A) qP hK qD hG (krecv_5 (q0 := 15) hK hP rfl)) rfl rfl hl.1 rfl (lv_room (Nat.le_of_ble_eq_true rfl)) (kdr dgL_law_1116 7 4 rfl rfl) ⟨by show _ ≤ (600128 : Nat); omega, by show _ ≤ (7301098 : Nat); omega⟩) hP hD hS hA (kFr_l (kFr_r kFr_Mo)) (fun H locs hP hD hS br5 => ?_)
  refine lv_istore (lv' := (kvI 6 r5.1 (kvI 5 r4.1 (kvA 0 b9 (kvA 1 (a 0) (kvA 2 (b 0) (kvA 3 o (kvI 4 x4 kvE)))))))) hx hb (kdr dgL_law_1116 7 5 rfl rfl) hl (by decide) rfl (fun ls hl => ?_)
  refine lv_goto (tgt := 1845) hx hb (kdr dgL_law_1116 7 6 rfl rfl) (by decide) ?_
  exact hK9 ce fr un sb se so sc wb we wo wc fb fe fo fc rm ac rf kn mce mfr mun mbe men mov msp mwb mwe mwi mac mre mkn r5.2 r4.2 ov x4 b _ _ _ _ (by omega) (by omega) hP hD hS ls (lv_sub hl [2, 3, 4, 5, 6] rfl) h
noncomputable def flaw_1225 (L : Nat) (xs : Nat → Int32) (K : kFT) (ce : Nat → Int64) (fr : Int64) (un : Int64) (sb : Nat → Int64) (se : Nat → Int64) (so : Nat → Int32) (sc : Int32) (wb : Nat → Int64) (we : Nat → Int64) (wo : Nat → Int32) (wc : Int32) (fb : Nat → Int64) (fe : Nat → Int64) (fo : Nat → Int32) (fc : Int32) (rm : Nat → Int32) (ac : Int32) (rf : Int32) (kn : Int32) (mce : Nat → Int64) (mfr : Int64) (mun : Int64) (mbe : Nat → Int64) (men : Nat → Int64) (mov : Nat → Int32) (msp : Int32) (mwb : Nat → Int64) (mwe : Nat → Int64) (mwi : Int32) (mac : Int32) (mre : Int32) (mkn : Int32) (mth : Int32) (on : Int64) (x4 : Int32) : Option Int32 :=
  if ix (x4 + 1) L then
    if ix (x4 + 2) L then
      if ix (x4 + 3) L then
        (f_L_apart ce on (xs (x4 + 1).toNatClampNeg) (xs (x4 + 2).toNatClampNeg) (xs (x4 + 3).toNatClampNeg)).bind fun r4 =>
        (f_X3_apart mce (xs (x4 + 1).toNatClampNeg) (xs (x4 + 2).toNatClampNeg) (xs (x4 + 3).toNatClampNeg)).bind fun r5 =>
        K ce fr un sb se so sc wb we wo wc fb fe fo fc rm ac rf kn mce mfr mun mbe men mov msp mwb mwe mwi mac mre mkn r5.2 r4.2 x4
      else none
    else none
  else none
theorem flaw_1225_e {L : Nat} {xs : Nat → Int32} {K : kFT} (ce : Nat → Int64) (fr : Int64) (un : Int64) (sb : Nat → Int64) (se : Nat → Int64) (so : Nat → Int32) (sc : Int32) (wb : Nat → Int64) (we : Nat → Int64) (wo : Nat → Int32) (wc : Int32) (fb : Nat → Int64) (fe : Nat → Int64) (fo : Nat → Int32) (fc : Int32) (rm : Nat → Int32) (ac : Int32) (rf : Int32) (kn : Int32) (mce : Nat → Int64) (mfr : Int64) (mun : Int64) (mbe : Nat → Int64) (men : Nat → Int64) (mov : Nat → Int32) (msp : Int32) (mwb : Nat → Int64) (mwe : Nat → Int64) (mwi : Int32) (mac : Int32) (mre : Int32) (mkn : Int32) (mth : Int32) (on : Int64) (x4 : Int32) : flaw_1225 L xs K ce fr un sb se so sc wb we wo wc fb fe fo fc rm ac rf kn mce mfr mun mbe men mov msp mwb mwe mwi mac mre mkn mth on x4 =
  if ix (x4 + 1) L then
    if ix (x4 + 2) L then
      if ix (x4 + 3) L then
        (f_L_apart ce on (xs (x4 + 1).toNatClampNeg) (xs (x4 + 2).toNatClampNeg) (xs (x4 + 3).toNatClampNeg)).bind fun r4 =>
        (f_X3_apart mce (xs (x4 + 1).toNatClampNeg) (xs (x4 + 2).toNatClampNeg) (xs (x4 + 3).toNatClampNeg)).bind fun r5 =>
        K ce fr un sb se so sc wb we wo wc fb fe fo fc rm ac rf kn mce mfr mun mbe men mov msp mwb mwe mwi mac mre mkn r5.2 r4.2 x4
      else none
    else none
  else none := rfl
set_option maxHeartbeats 8000000 in
set_option maxRecDepth 100000 in
theorem law_23 {p : Program} {l : Launch} {e : Env} {s : State} {m : MethodId} {below : List Frame} {meth : Method} {c : Code} {dC : Nat → ClassId} {dI : Nat → Nat → Nat} {cB cI cJ cZ : ClassId} {b9 L : Nat} {xs : Nat → Int32} {A : Nat → Prop} (hl9 : l.stackTraces = false) (C0 : kLw p s m c b9 L xs A) (hK : va_K (dC, dI) vwCl (kTy cB cI cJ cZ) s) {a : Nat → Nat} {o : Nat} (K : kFT) (bK sK : Nat) (hK9 : kGo p l e s m below meth c dC dI cB cI cJ cZ b9 A a o 1845 bK sK K) : kGo p l e s m below meth c dC dI cB cI cJ cZ b9 A a o 1225 (1 + bK) (6 + sK) (flaw_1225 L xs K) := by
  obtain ⟨hx, hb, hml, hown, hts, hX, hbl, hA, hbA, hG, hZ⟩ := C0
  intro ce fr un sb se so sc wb we wo wc fb fe fo fc rm ac rf kn mce mfr mun mbe men mov msp mwb mwe mwi mac mre mkn mth on ov x4 b H locs kc ks hkc hks hP hD hS ls hl h
  have h := (flaw_1225_e ce fr un sb se so sc wb we wo wc fb fe fo fc rm ac rf kn mce mfr mun mbe men mov msp mwb mwe mwi mac mre mkn mth on x4).symm.trans h
  refine lv_aload_n hx hb (kdr dgL_law_1116 7 7 rfl rfl) rfl (lv_at hl 1 rfl) ?_
  obtain ⟨z0, h⟩ := g_if h
  refine kld (v := 1) hx hb (kdr dgL_law_1116 7 8 rfl rfl) rfl (lv_at hl 0 rfl) (kdr dgL_law_1116 7 9 rfl rfl) (lv_at hl 4 rfl) (kdr dgL_law_1116 8 0 rfl rfl) (by decide) (kdr dgL_law_1116 8 1 rfl rfl) hX hbl hbA hS (ix_in z0) (kdr dgL_law_1116 8 2 rfl rfl) ?_
  obtain ⟨z1, h⟩ := g_if h
  refine kld (v := 2) hx hb (kdr dgL_law_1116 8 3 rfl rfl) rfl (lv_at hl 0 rfl) (kdr dgL_law_1116 8 4 rfl rfl) (lv_at hl 4 rfl) (kdr dgL_law_1116 8 5 rfl rfl) (by decide) (kdr dgL_law_1116 8 6 rfl rfl) hX hbl hbA hS (ix_in z1) (kdr dgL_law_1116 8 7 rfl rfl) ?_
  obtain ⟨z2, h⟩ := g_if h
  refine kld (v := 3) hx hb (kdr dgL_law_1116 8 8 rfl rfl) rfl (lv_at hl 0 rfl) (kdr dgL_law_1116 8 9 rfl rfl) (lv_at hl 4 rfl) (kdr dgL_law_1116 9 0 rfl rfl) (by decide) (kdr dgL_law_1116 9 1 rfl rfl) hX hbl hbA hS (ix_in z2) (kdr dgL_law_1116 9 2 rfl rfl) ?_
  refine lv_aload_n hx hb (kdr dgL_law_1116 9 3 rfl rfl) rfl (lv_at hl 3 rfl) ?_
  obtain ⟨r4, g4, h⟩ := g_b h
  refine kq_i ((wSB cI cJ cZ a ce fr un sb se so sc wb we wo wc fb fe fo fc rm ac rf kn) ++ (wMo cJ cZ b mce mfr mun mbe men mov msp mwb mwe mwi mac mre mkn mth) ++ (wO o r4.2 ov)) (fun qP qD qF => vx_runSW (As := [.ref (a 0), .int (xs (x4 + 1).toNatClampNeg), .int (xs (x4 + 2).toNatClampNeg), .int (xs (x4 + 3).toNatClampNeg), .ref o]) (rest := []) ⟨hx, hb, hml, hown, hts⟩ (c_L_apart l hl9 dC dI cB cI cJ cZ a o _ ce fr un sb se so sc wb we wo wc fb fe fo fc rm ac rf kn on ov (xs (x4 + 1).toNatClampNeg) (xs (x4 + 2).toNatClampNeg) (xs (x4 + 3).toNatClampNeg) r4 g4) (kcwSW hts kw_973 kv_L_apart rfl rfl ⟨(Nat.le_of_ble_eq_true rfl), (Nat.le_of_ble_eq_true rfl)⟩) (kpSXq (A := A) qP hK qD hG hZ hS qF) rfl rfl hl.1 rfl (lv_room (Nat.le_of_ble_eq_true rfl)) (kdr dgL_law_1116 9 4 rfl rfl) ⟨by show _ ≤ (600128 : Nat); omega, by show _ ≤ (7301098 : Nat); omega⟩) hP hD hS hA (kFr_2 (kFr_l kFr_SB) kFr_o) (fun H locs hP hD hS br4 => ?_)
  refine lv_istore (lv' := (kvI 5 r4.1 (kvA 0 b9 (kvA 1 (a 0) (kvA 2 (b 0) (kvA 3 o (kvI 4 x4 kvE))))))) hx hb (kdr dgL_law_1116 9 5 rfl rfl) hl (by decide) rfl (fun ls hl => ?_)
  refine lv_aload_n hx hb (kdr dgL_law_1116 9 6 rfl rfl) rfl (lv_at hl 3 rfl) ?_
  refine kld (v := 1) hx hb (kdr dgL_law_1116 9 7 rfl rfl) rfl (lv_at hl 1 rfl) (kdr dgL_law_1116 9 8 rfl rfl) (lv_at hl 5 rfl) (kdr dgL_law_1116 9 9 rfl rfl) (by decide) (kdr dgL_law_1255 0 0 rfl rfl) hX hbl hbA hS (ix_in z0) (kdr dgL_law_1255 0 1 rfl rfl) ?_
  refine kld (v := 2) hx hb (kdr dgL_law_1255 0 2 rfl rfl) rfl (lv_at hl 1 rfl) (kdr dgL_law_1255 0 3 rfl rfl) (lv_at hl 5 rfl) (kdr dgL_law_1255 0 4 rfl rfl) (by decide) (kdr dgL_law_1255 0 5 rfl rfl) hX hbl hbA hS (ix_in z1) (kdr dgL_law_1255 0 6 rfl rfl) ?_
  refine kld (v := 3) hx hb (kdr dgL_law_1255 0 7 rfl rfl) rfl (lv_at hl 1 rfl) (kdr dgL_law_1255 0 8 rfl rfl) (lv_at hl 5 rfl) (kdr dgL_law_1255 0 9 rfl rfl) (by decide) (kdr dgL_law_1255 1 0 rfl rfl) hX hbl hbA hS (ix_in z2) (kdr dgL_law_1255 1 1 rfl rfl) ?_
  obtain ⟨r5, g5, h⟩ := g_b h
  refine kq_i ((wSB cI cJ cZ a ce fr un sb se so sc wb we wo wc fb fe fo fc rm ac rf kn) ++ (wMo cJ cZ b mce mfr mun mbe men mov msp mwb mwe mwi mac mre mkn r5.2) ++ (wO o r4.2 ov)) (fun qP qD qF => va_runV (As := [.int (xs (x4 + 1).toNatClampNeg), .int (xs (x4 + 2).toNatClampNeg), .int (xs (x4 + 3).toNatClampNeg)]) (rest := []) ⟨hx, hb, hml, hown, hts⟩ (c_X3_apart l dC dI cB cI cJ cZ b _ mce mfr mun mbe men mov msp mwb mwe mwi mac mre mkn mth (xs (x4 + 1).toNatClampNeg) (xs (x4 + 2).toNatClampNeg) (xs (x4 + 3).toNatClampNeg) r5 g5) (kcwV hts kw_1309 kv_X3_apart rfl rfl ⟨(Nat.le_of_ble_eq_true rfl), (Nat.le_of_ble_eq_true rfl)⟩) (kpV (A := A) qP hK qD hG (krecv_5 (q0 := 15) hK hP rfl)) rfl rfl hl.1 rfl (lv_room (Nat.le_of_ble_eq_true rfl)) (kdr dgL_law_1255 1 2 rfl rfl) ⟨by show _ ≤ (600128 : Nat); omega, by show _ ≤ (7301098 : Nat); omega⟩) hP hD hS hA (kFr_l (kFr_r kFr_Mo)) (fun H locs hP hD hS br5 => ?_)
  refine lv_istore (lv' := (kvI 6 r5.1 (kvI 5 r4.1 (kvA 0 b9 (kvA 1 (a 0) (kvA 2 (b 0) (kvA 3 o (kvI 4 x4 kvE)))))))) hx hb (kdr dgL_law_1255 1 3 rfl rfl) hl (by decide) rfl (fun ls hl => ?_)
  refine lv_goto (tgt := 1845) hx hb (kdr dgL_law_1255 1 4 rfl rfl) (by decide) ?_
  exact hK9 ce fr un sb se so sc wb we wo wc fb fe fo fc rm ac rf kn mce mfr mun mbe men mov msp mwb mwe mwi mac mre mkn r5.2 r4.2 ov x4 b _ _ _ _ (by omega) (by omega) hP hD hS ls (lv_sub hl [2, 3, 4, 5, 6] rfl) h
noncomputable def flaw_1277 (L : Nat) (xs : Nat → Int32) (K : kFT) (ce : Nat → Int64) (fr : Int64) (un : Int64) (sb : Nat → Int64) (se : Nat → Int64) (so : Nat → Int32) (sc : Int32) (wb : Nat → Int64) (we : Nat → Int64) (wo : Nat → Int32) (wc : Int32) (fb : Nat → Int64) (fe : Nat → Int64) (fo : Nat → Int32) (fc : Int32) (rm : Nat → Int32) (ac : Int32) (rf : Int32) (kn : Int32) (mce : Nat → Int64) (mfr : Int64) (mun : Int64) (mbe : Nat → Int64) (men : Nat → Int64) (mov : Nat → Int32) (msp : Int32) (mwb : Nat → Int64) (mwe : Nat → Int64) (mwi : Int32) (mac : Int32) (mre : Int32) (mkn : Int32) (mth : Int32) (on : Int64) (x4 : Int32) : Option Int32 :=
  if ix (x4 + 1) L then
    (f_L_calendar fr un on (xs (x4 + 1).toNatClampNeg)).bind fun r2 =>
    (f_X3_calendar mfr mun (xs (x4 + 1).toNatClampNeg)).bind fun r3 =>
    K ce fr un sb se so sc wb we wo wc fb fe fo fc rm ac rf kn mce mfr mun mbe men mov msp mwb mwe mwi mac mre mkn r3.2 r2.2 x4
  else none
theorem flaw_1277_e {L : Nat} {xs : Nat → Int32} {K : kFT} (ce : Nat → Int64) (fr : Int64) (un : Int64) (sb : Nat → Int64) (se : Nat → Int64) (so : Nat → Int32) (sc : Int32) (wb : Nat → Int64) (we : Nat → Int64) (wo : Nat → Int32) (wc : Int32) (fb : Nat → Int64) (fe : Nat → Int64) (fo : Nat → Int32) (fc : Int32) (rm : Nat → Int32) (ac : Int32) (rf : Int32) (kn : Int32) (mce : Nat → Int64) (mfr : Int64) (mun : Int64) (mbe : Nat → Int64) (men : Nat → Int64) (mov : Nat → Int32) (msp : Int32) (mwb : Nat → Int64) (mwe : Nat → Int64) (mwi : Int32) (mac : Int32) (mre : Int32) (mkn : Int32) (mth : Int32) (on : Int64) (x4 : Int32) : flaw_1277 L xs K ce fr un sb se so sc wb we wo wc fb fe fo fc rm ac rf kn mce mfr mun mbe men mov msp mwb mwe mwi mac mre mkn mth on x4 =
  if ix (x4 + 1) L then
    (f_L_calendar fr un on (xs (x4 + 1).toNatClampNeg)).bind fun r2 =>
    (f_X3_calendar mfr mun (xs (x4 + 1).toNatClampNeg)).bind fun r3 =>
    K ce fr un sb se so sc wb we wo wc fb fe fo fc rm ac rf kn mce mfr mun mbe men mov msp mwb mwe mwi mac mre mkn r3.2 r2.2 x4
  else none := rfl
set_option maxHeartbeats 8000000 in
set_option maxRecDepth 100000 in
theorem law_24 {p : Program} {l : Launch} {e : Env} {s : State} {m : MethodId} {below : List Frame} {meth : Method} {c : Code} {dC : Nat → ClassId} {dI : Nat → Nat → Nat} {cB cI cJ cZ : ClassId} {b9 L : Nat} {xs : Nat → Int32} {A : Nat → Prop} (hl9 : l.stackTraces = false) (C0 : kLw p s m c b9 L xs A) (hK : va_K (dC, dI) vwCl (kTy cB cI cJ cZ) s) {a : Nat → Nat} {o : Nat} (K : kFT) (bK sK : Nat) (hK9 : kGo p l e s m below meth c dC dI cB cI cJ cZ b9 A a o 1845 bK sK K) : kGo p l e s m below meth c dC dI cB cI cJ cZ b9 A a o 1277 (1 + bK) (6 + sK) (flaw_1277 L xs K) := by
  obtain ⟨hx, hb, hml, hown, hts, hX, hbl, hA, hbA, hG, hZ⟩ := C0
  intro ce fr un sb se so sc wb we wo wc fb fe fo fc rm ac rf kn mce mfr mun mbe men mov msp mwb mwe mwi mac mre mkn mth on ov x4 b H locs kc ks hkc hks hP hD hS ls hl h
  have h := (flaw_1277_e ce fr un sb se so sc wb we wo wc fb fe fo fc rm ac rf kn mce mfr mun mbe men mov msp mwb mwe mwi mac mre mkn mth on x4).symm.trans h
  refine lv_aload_n hx hb (kdr dgL_law_1255 1 5 rfl rfl) rfl (lv_at hl 1 rfl) ?_
  obtain ⟨z0, h⟩ := g_if h
  refine kld (v := 1) hx hb (kdr dgL_law_1255 1 6 rfl rfl) rfl (lv_at hl 0 rfl) (kdr dgL_law_1255 1 7 rfl rfl) (lv_at hl 4 rfl) (kdr dgL_law_1255 1 8 rfl rfl) (by decide) (kdr dgL_law_1255 1 9 rfl rfl) hX hbl hbA hS (ix_in z0) (kdr dgL_law_1255 2 0 rfl rfl) ?_
  refine lv_aload_n hx hb (kdr dgL_law_1255 2 1 rfl rfl) rfl (lv_at hl 3 rfl) ?_
  obtain ⟨r2, g2, h⟩ := g_b h
  refine kq_i ((wSB cI cJ cZ a ce fr un sb se so sc wb we wo wc fb fe fo fc rm ac rf kn) ++ (wMo cJ cZ b mce mfr mun mbe men mov msp mwb mwe mwi mac mre mkn mth) ++ (wO o r2.2 ov)) (fun qP qD qF => vx_runSW (As := [.ref (a 0), .int (xs (x4 + 1).toNatClampNeg), .ref o]) (rest := []) ⟨hx, hb, hml, hown, hts⟩ (c_L_calendar l hl9 dC dI cB cI cJ cZ a o _ ce fr un sb se so sc wb we wo wc fb fe fo fc rm ac rf kn on ov (xs (x4 + 1).toNatClampNeg) r2 g2) (kcwSW hts kw_980 kv_L_calendar rfl rfl ⟨(Nat.le_of_ble_eq_true rfl), (Nat.le_of_ble_eq_true rfl)⟩) (kpSXq (A := A) qP hK qD hG hZ hS qF) rfl rfl hl.1 rfl (lv_room (Nat.le_of_ble_eq_true rfl)) (kdr dgL_law_1255 2 2 rfl rfl) ⟨by show _ ≤ (600128 : Nat); omega, by show _ ≤ (7301098 : Nat); omega⟩) hP hD hS hA (kFr_2 (kFr_l kFr_SB) kFr_o) (fun H locs hP hD hS br2 => ?_)
  refine lv_istore (lv' := (kvI 5 r2.1 (kvA 0 b9 (kvA 1 (a 0) (kvA 2 (b 0) (kvA 3 o (kvI 4 x4 kvE))))))) hx hb (kdr dgL_law_1255 2 3 rfl rfl) hl (by decide) rfl (fun ls hl => ?_)
  refine lv_aload_n hx hb (kdr dgL_law_1255 2 4 rfl rfl) rfl (lv_at hl 3 rfl) ?_
  refine kld (v := 1) hx hb (kdr dgL_law_1255 2 5 rfl rfl) rfl (lv_at hl 1 rfl) (kdr dgL_law_1255 2 6 rfl rfl) (lv_at hl 5 rfl) (kdr dgL_law_1255 2 7 rfl rfl) (by decide) (kdr dgL_law_1255 2 8 rfl rfl) hX hbl hbA hS (ix_in z0) (kdr dgL_law_1255 2 9 rfl rfl) ?_
  obtain ⟨r3, g3, h⟩ := g_b h
  refine kq_i ((wSB cI cJ cZ a ce fr un sb se so sc wb we wo wc fb fe fo fc rm ac rf kn) ++ (wMo cJ cZ b mce mfr mun mbe men mov msp mwb mwe mwi mac mre mkn r3.2) ++ (wO o r2.2 ov)) (fun qP qD qF => va_runV (As := [.int (xs (x4 + 1).toNatClampNeg)]) (rest := []) ⟨hx, hb, hml, hown, hts⟩ (c_X3_calendar l dC dI cB cI cJ cZ b _ mce mfr mun mbe men mov msp mwb mwe mwi mac mre mkn mth (xs (x4 + 1).toNatClampNeg) r3 g3) (kcwV hts kw_1316 kv_X3_calendar rfl rfl ⟨(Nat.le_of_ble_eq_true rfl), (Nat.le_of_ble_eq_true rfl)⟩) (kpV (A := A) qP hK qD hG (krecv_5 (q0 := 15) hK hP rfl)) rfl rfl hl.1 rfl (lv_room (Nat.le_of_ble_eq_true rfl)) (kdr dgL_law_1255 3 0 rfl rfl) ⟨by show _ ≤ (600128 : Nat); omega, by show _ ≤ (7301098 : Nat); omega⟩) hP hD hS hA (kFr_l (kFr_r kFr_Mo)) (fun H locs hP hD hS br3 => ?_)
  refine lv_istore (lv' := (kvI 6 r3.1 (kvI 5 r2.1 (kvA 0 b9 (kvA 1 (a 0) (kvA 2 (b 0) (kvA 3 o (kvI 4 x4 kvE)))))))) hx hb (kdr dgL_law_1255 3 1 rfl rfl) hl (by decide) rfl (fun ls hl => ?_)
  refine lv_goto (tgt := 1845) hx hb (kdr dgL_law_1255 3 2 rfl rfl) (by decide) ?_
  exact hK9 ce fr un sb se so sc wb we wo wc fb fe fo fc rm ac rf kn mce mfr mun mbe men mov msp mwb mwe mwi mac mre mkn r3.2 r2.2 ov x4 b _ _ _ _ (by omega) (by omega) hP hD hS ls (lv_sub hl [2, 3, 4, 5, 6] rfl) h
noncomputable def flaw_1305 (L : Nat) (xs : Nat → Int32) (K : kFT) (ce : Nat → Int64) (fr : Int64) (un : Int64) (sb : Nat → Int64) (se : Nat → Int64) (so : Nat → Int32) (sc : Int32) (wb : Nat → Int64) (we : Nat → Int64) (wo : Nat → Int32) (wc : Int32) (fb : Nat → Int64) (fe : Nat → Int64) (fo : Nat → Int32) (fc : Int32) (rm : Nat → Int32) (ac : Int32) (rf : Int32) (kn : Int32) (mce : Nat → Int64) (mfr : Int64) (mun : Int64) (mbe : Nat → Int64) (men : Nat → Int64) (mov : Nat → Int32) (msp : Int32) (mwb : Nat → Int64) (mwe : Nat → Int64) (mwi : Int32) (mac : Int32) (mre : Int32) (mkn : Int32) (mth : Int32) (on : Int64) (x4 : Int32) : Option Int32 :=
  (f_X1_spans sc).bind fun r1 =>
  (f_X3_spans msp).bind fun r2 =>
  K ce fr un sb se so sc wb we wo wc fb fe fo fc rm ac rf kn mce mfr mun mbe men mov msp mwb mwe mwi mac mre mkn r2.2 on x4
theorem flaw_1305_e {L : Nat} {xs : Nat → Int32} {K : kFT} (ce : Nat → Int64) (fr : Int64) (un : Int64) (sb : Nat → Int64) (se : Nat → Int64) (so : Nat → Int32) (sc : Int32) (wb : Nat → Int64) (we : Nat → Int64) (wo : Nat → Int32) (wc : Int32) (fb : Nat → Int64) (fe : Nat → Int64) (fo : Nat → Int32) (fc : Int32) (rm : Nat → Int32) (ac : Int32) (rf : Int32) (kn : Int32) (mce : Nat → Int64) (mfr : Int64) (mun : Int64) (mbe : Nat → Int64) (men : Nat → Int64) (mov : Nat → Int32) (msp : Int32) (mwb : Nat → Int64) (mwe : Nat → Int64) (mwi : Int32) (mac : Int32) (mre : Int32) (mkn : Int32) (mth : Int32) (on : Int64) (x4 : Int32) : flaw_1305 L xs K ce fr un sb se so sc wb we wo wc fb fe fo fc rm ac rf kn mce mfr mun mbe men mov msp mwb mwe mwi mac mre mkn mth on x4 =
  (f_X1_spans sc).bind fun r1 =>
  (f_X3_spans msp).bind fun r2 =>
  K ce fr un sb se so sc wb we wo wc fb fe fo fc rm ac rf kn mce mfr mun mbe men mov msp mwb mwe mwi mac mre mkn r2.2 on x4 := rfl
set_option maxHeartbeats 8000000 in
set_option maxRecDepth 100000 in
theorem law_25 {p : Program} {l : Launch} {e : Env} {s : State} {m : MethodId} {below : List Frame} {meth : Method} {c : Code} {dC : Nat → ClassId} {dI : Nat → Nat → Nat} {cB cI cJ cZ : ClassId} {b9 L : Nat} {xs : Nat → Int32} {A : Nat → Prop} (hl9 : l.stackTraces = false) (C0 : kLw p s m c b9 L xs A) (hK : va_K (dC, dI) vwCl (kTy cB cI cJ cZ) s) {a : Nat → Nat} {o : Nat} (K : kFT) (bK sK : Nat) (hK9 : kGo p l e s m below meth c dC dI cB cI cJ cZ b9 A a o 1845 bK sK K) : kGo p l e s m below meth c dC dI cB cI cJ cZ b9 A a o 1305 (0 + bK) (0 + sK) (flaw_1305 L xs K) := by
  obtain ⟨hx, hb, hml, hown, hts, hX, hbl, hA, hbA, hG, hZ⟩ := C0
  intro ce fr un sb se so sc wb we wo wc fb fe fo fc rm ac rf kn mce mfr mun mbe men mov msp mwb mwe mwi mac mre mkn mth on ov x4 b H locs kc ks hkc hks hP hD hS ls hl h
  have h := (flaw_1305_e ce fr un sb se so sc wb we wo wc fb fe fo fc rm ac rf kn mce mfr mun mbe men mov msp mwb mwe mwi mac mre mkn mth on x4).symm.trans h
  refine lv_aload_n hx hb (kdr dgL_law_1255 3 3 rfl rfl) rfl (lv_at hl 1 rfl) ?_
  obtain ⟨r1, g1, h⟩ := g_b h
  refine kq_i ((wSB cI cJ cZ a ce fr un sb se so sc wb we wo wc fb fe fo fc rm ac rf kn) ++ (wMo cJ cZ b mce mfr mun mbe men mov msp mwb mwe mwi mac mre mkn mth) ++ (wO o on ov)) (fun qP qD qF => va_runV (As := []) (rest := []) ⟨hx, hb, hml, hown, hts⟩ (c_X1_spans l dC dI cB cI cJ cZ a _ ce fr un sb se so sc wb we wo wc fb fe fo fc rm ac rf kn  r1 g1) (kcwV hts kw_151 kv_X1_spans rfl rfl ⟨(Nat.le_of_ble_eq_true rfl), (Nat.le_of_ble_eq_true rfl)⟩) (kpV (A := A) qP hK qD hG (krecv_3 (q0 := 0) hK hP rfl)) rfl rfl hl.1 rfl (lv_room (Nat.le_of_ble_eq_true rfl)) (kdr dgL_law_1255 3 4 rfl rfl) ⟨by show _ ≤ (600128 : Nat); omega, by show _ ≤ (7301098 : Nat); omega⟩) hP hD hS hA (kFr_l (kFr_l kFr_SB)) (fun H locs hP hD hS br1 => ?_)
  refine lv_pop hx hb (kdr dgL_law_1255 3 5 rfl rfl) rfl ?_
  refine lv_aload_n hx hb (kdr dgL_law_1255 3 6 rfl rfl) rfl (lv_at hl 2 rfl) ?_
  obtain ⟨r2, g2, h⟩ := g_b h
  refine kq_i ((wSB cI cJ cZ a ce fr un sb se so sc wb we wo wc fb fe fo fc rm ac rf kn) ++ (wMo cJ cZ b mce mfr mun mbe men mov msp mwb mwe mwi mac mre mkn r2.2) ++ (wO o on ov)) (fun qP qD qF => va_runV (As := []) (rest := []) ⟨hx, hb, hml, hown, hts⟩ (c_X3_spans l dC dI cB cI cJ cZ b _ mce mfr mun mbe men mov msp mwb mwe mwi mac mre mkn mth  r2 g2) (kcwV hts kw_1320 kv_X3_spans rfl rfl ⟨(Nat.le_of_ble_eq_true rfl), (Nat.le_of_ble_eq_true rfl)⟩) (kpV (A := A) qP hK qD hG (krecv_5 (q0 := 15) hK hP rfl)) rfl rfl hl.1 rfl (lv_room (Nat.le_of_ble_eq_true rfl)) (kdr dgL_law_1255 3 7 rfl rfl) ⟨by show _ ≤ (600128 : Nat); omega, by show _ ≤ (7301098 : Nat); omega⟩) hP hD hS hA (kFr_l (kFr_r kFr_Mo)) (fun H locs hP hD hS br2 => ?_)
  refine lv_pop hx hb (kdr dgL_law_1255 3 8 rfl rfl) rfl ?_
  refine lv_goto (tgt := 1845) hx hb (kdr dgL_law_1255 3 9 rfl rfl) (by decide) ?_
  exact hK9 ce fr un sb se so sc wb we wo wc fb fe fo fc rm ac rf kn mce mfr mun mbe men mov msp mwb mwe mwi mac mre mkn r2.2 on ov x4 b _ _ _ _ (by omega) (by omega) hP hD hS ls (lv_sub hl [0, 1, 2, 3, 4] rfl) h
noncomputable def flaw_1318 (L : Nat) (xs : Nat → Int32) (K : kFT) (ce : Nat → Int64) (fr : Int64) (un : Int64) (sb : Nat → Int64) (se : Nat → Int64) (so : Nat → Int32) (sc : Int32) (wb : Nat → Int64) (we : Nat → Int64) (wo : Nat → Int32) (wc : Int32) (fb : Nat → Int64) (fe : Nat → Int64) (fo : Nat → Int32) (fc : Int32) (rm : Nat → Int32) (ac : Int32) (rf : Int32) (kn : Int32) (mce : Nat → Int64) (mfr : Int64) (mun : Int64) (mbe : Nat → Int64) (men : Nat → Int64) (mov : Nat → Int32) (msp : Int32) (mwb : Nat → Int64) (mwe : Nat → Int64) (mwi : Int32) (mac : Int32) (mre : Int32) (mkn : Int32) (mth : Int32) (on : Int64) (x4 : Int32) : Option Int32 :=
  if ix (x4 + 1) L then
    if ix (x4 + 2) L then
      (f_L_ofSpan sb se so sc on (xs (x4 + 1).toNatClampNeg) (xs (x4 + 2).toNatClampNeg)).bind fun r3 =>
      (f_X3_ofSpan mbe men mov msp (xs (x4 + 1).toNatClampNeg) (xs (x4 + 2).toNatClampNeg)).bind fun r4 =>
      K ce fr un sb se so sc wb we wo wc fb fe fo fc rm ac rf kn mce mfr mun mbe men mov msp mwb mwe mwi mac mre mkn r4.2 r3.2 x4
    else none
  else none
theorem flaw_1318_e {L : Nat} {xs : Nat → Int32} {K : kFT} (ce : Nat → Int64) (fr : Int64) (un : Int64) (sb : Nat → Int64) (se : Nat → Int64) (so : Nat → Int32) (sc : Int32) (wb : Nat → Int64) (we : Nat → Int64) (wo : Nat → Int32) (wc : Int32) (fb : Nat → Int64) (fe : Nat → Int64) (fo : Nat → Int32) (fc : Int32) (rm : Nat → Int32) (ac : Int32) (rf : Int32) (kn : Int32) (mce : Nat → Int64) (mfr : Int64) (mun : Int64) (mbe : Nat → Int64) (men : Nat → Int64) (mov : Nat → Int32) (msp : Int32) (mwb : Nat → Int64) (mwe : Nat → Int64) (mwi : Int32) (mac : Int32) (mre : Int32) (mkn : Int32) (mth : Int32) (on : Int64) (x4 : Int32) : flaw_1318 L xs K ce fr un sb se so sc wb we wo wc fb fe fo fc rm ac rf kn mce mfr mun mbe men mov msp mwb mwe mwi mac mre mkn mth on x4 =
  if ix (x4 + 1) L then
    if ix (x4 + 2) L then
      (f_L_ofSpan sb se so sc on (xs (x4 + 1).toNatClampNeg) (xs (x4 + 2).toNatClampNeg)).bind fun r3 =>
      (f_X3_ofSpan mbe men mov msp (xs (x4 + 1).toNatClampNeg) (xs (x4 + 2).toNatClampNeg)).bind fun r4 =>
      K ce fr un sb se so sc wb we wo wc fb fe fo fc rm ac rf kn mce mfr mun mbe men mov msp mwb mwe mwi mac mre mkn r4.2 r3.2 x4
    else none
  else none := rfl
set_option maxHeartbeats 8000000 in
set_option maxRecDepth 100000 in
theorem law_26 {p : Program} {l : Launch} {e : Env} {s : State} {m : MethodId} {below : List Frame} {meth : Method} {c : Code} {dC : Nat → ClassId} {dI : Nat → Nat → Nat} {cB cI cJ cZ : ClassId} {b9 L : Nat} {xs : Nat → Int32} {A : Nat → Prop} (hl9 : l.stackTraces = false) (C0 : kLw p s m c b9 L xs A) (hK : va_K (dC, dI) vwCl (kTy cB cI cJ cZ) s) {a : Nat → Nat} {o : Nat} (K : kFT) (bK sK : Nat) (hK9 : kGo p l e s m below meth c dC dI cB cI cJ cZ b9 A a o 1845 bK sK K) : kGo p l e s m below meth c dC dI cB cI cJ cZ b9 A a o 1318 (1 + bK) (6 + sK) (flaw_1318 L xs K) := by
  obtain ⟨hx, hb, hml, hown, hts, hX, hbl, hA, hbA, hG, hZ⟩ := C0
  intro ce fr un sb se so sc wb we wo wc fb fe fo fc rm ac rf kn mce mfr mun mbe men mov msp mwb mwe mwi mac mre mkn mth on ov x4 b H locs kc ks hkc hks hP hD hS ls hl h
  have h := (flaw_1318_e ce fr un sb se so sc wb we wo wc fb fe fo fc rm ac rf kn mce mfr mun mbe men mov msp mwb mwe mwi mac mre mkn mth on x4).symm.trans h
  refine lv_aload_n hx hb (kdr dgL_law_1255 4 0 rfl rfl) rfl (lv_at hl 1 rfl) ?_
  obtain ⟨z0, h⟩ := g_if h
  refine kld (v := 1) hx hb (kdr dgL_law_1255 4 1 rfl rfl) rfl (lv_at hl 0 rfl) (kdr dgL_law_1255 4 2 rfl rfl) (lv_at hl 4 rfl) (kdr dgL_law_1255 4 3 rfl rfl) (by decide) (kdr dgL_law_1255 4 4 rfl rfl) hX hbl hbA hS (ix_in z0) (kdr dgL_law_1255 4 5 rfl rfl) ?_
  obtain ⟨z1, h⟩ := g_if h
  refine kld (v := 2) hx hb (kdr dgL_law_1255 4 6 rfl rfl) rfl (lv_at hl 0 rfl) (kdr dgL_law_1255 4 7 rfl rfl) (lv_at hl 4 rfl) (kdr dgL_law_1255 4 8 rfl rfl) (by decide) (kdr dgL_law_1255 4 9 rfl rfl) hX hbl hbA hS (ix_in z1) (kdr dgL_law_1255 5 0 rfl rfl) ?_
  refine lv_aload_n hx hb (kdr dgL_law_1255 5 1 rfl rfl) rfl (lv_at hl 3 rfl) ?_
  obtain ⟨r3, g3, h⟩ := g_b h
  refine kq_i ((wSB cI cJ cZ a ce fr un sb se so sc wb we wo wc fb fe fo fc rm ac rf kn) ++ (wMo cJ cZ b mce mfr mun mbe men mov msp mwb mwe mwi mac mre mkn mth) ++ (wO o r3.2 ov)) (fun qP qD qF => vx_runSW (As := [.ref (a 0), .int (xs (x4 + 1).toNatClampNeg), .int (xs (x4 + 2).toNatClampNeg), .ref o]) (rest := []) ⟨hx, hb, hml, hown, hts⟩ (c_L_ofSpan l hl9 dC dI cB cI cJ cZ a o _ ce fr un sb se so sc wb we wo wc fb fe fo fc rm ac rf kn on ov (xs (x4 + 1).toNatClampNeg) (xs (x4 + 2).toNatClampNeg) r3 g3) (kcwSW hts kw_984 kv_L_ofSpan rfl rfl ⟨(Nat.le_of_ble_eq_true rfl), (Nat.le_of_ble_eq_true rfl)⟩) (kpSXq (A := A) qP hK qD hG hZ hS qF) rfl rfl hl.1 rfl (lv_room (Nat.le_of_ble_eq_true rfl)) (kdr dgL_law_1255 5 2 rfl rfl) ⟨by show _ ≤ (600128 : Nat); omega, by show _ ≤ (7301098 : Nat); omega⟩) hP hD hS hA (kFr_2 (kFr_l kFr_SB) kFr_o) (fun H locs hP hD hS br3 => ?_)
  refine lv_istore (lv' := (kvI 5 r3.1 (kvA 0 b9 (kvA 1 (a 0) (kvA 2 (b 0) (kvA 3 o (kvI 4 x4 kvE))))))) hx hb (kdr dgL_law_1255 5 3 rfl rfl) hl (by decide) rfl (fun ls hl => ?_)
  refine lv_aload_n hx hb (kdr dgL_law_1255 5 4 rfl rfl) rfl (lv_at hl 3 rfl) ?_
  refine kld (v := 1) hx hb (kdr dgL_law_1255 5 5 rfl rfl) rfl (lv_at hl 1 rfl) (kdr dgL_law_1255 5 6 rfl rfl) (lv_at hl 5 rfl) (kdr dgL_law_1255 5 7 rfl rfl) (by decide) (kdr dgL_law_1255 5 8 rfl rfl) hX hbl hbA hS (ix_in z0) (kdr dgL_law_1255 5 9 rfl rfl) ?_
  refine kld (v := 2) hx hb (kdr dgL_law_1255 6 0 rfl rfl) rfl (lv_at hl 1 rfl) (kdr dgL_law_1255 6 1 rfl rfl) (lv_at hl 5 rfl) (kdr dgL_law_1255 6 2 rfl rfl) (by decide) (kdr dgL_law_1255 6 3 rfl rfl) hX hbl hbA hS (ix_in z1) (kdr dgL_law_1255 6 4 rfl rfl) ?_
  obtain ⟨r4, g4, h⟩ := g_b h
  refine kq_i ((wSB cI cJ cZ a ce fr un sb se so sc wb we wo wc fb fe fo fc rm ac rf kn) ++ (wMo cJ cZ b mce mfr mun mbe men mov msp mwb mwe mwi mac mre mkn r4.2) ++ (wO o r3.2 ov)) (fun qP qD qF => va_runV (As := [.int (xs (x4 + 1).toNatClampNeg), .int (xs (x4 + 2).toNatClampNeg)]) (rest := []) ⟨hx, hb, hml, hown, hts⟩ (c_X3_ofSpan l dC dI cB cI cJ cZ b _ mce mfr mun mbe men mov msp mwb mwe mwi mac mre mkn mth (xs (x4 + 1).toNatClampNeg) (xs (x4 + 2).toNatClampNeg) r4 g4) (kcwV hts kw_1324 kv_X3_ofSpan rfl rfl ⟨(Nat.le_of_ble_eq_true rfl), (Nat.le_of_ble_eq_true rfl)⟩) (kpV (A := A) qP hK qD hG (krecv_5 (q0 := 15) hK hP rfl)) rfl rfl hl.1 rfl (lv_room (Nat.le_of_ble_eq_true rfl)) (kdr dgL_law_1255 6 5 rfl rfl) ⟨by show _ ≤ (600128 : Nat); omega, by show _ ≤ (7301098 : Nat); omega⟩) hP hD hS hA (kFr_l (kFr_r kFr_Mo)) (fun H locs hP hD hS br4 => ?_)
  refine lv_istore (lv' := (kvI 6 r4.1 (kvI 5 r3.1 (kvA 0 b9 (kvA 1 (a 0) (kvA 2 (b 0) (kvA 3 o (kvI 4 x4 kvE)))))))) hx hb (kdr dgL_law_1255 6 6 rfl rfl) hl (by decide) rfl (fun ls hl => ?_)
  refine lv_goto (tgt := 1845) hx hb (kdr dgL_law_1255 6 7 rfl rfl) (by decide) ?_
  exact hK9 ce fr un sb se so sc wb we wo wc fb fe fo fc rm ac rf kn mce mfr mun mbe men mov msp mwb mwe mwi mac mre mkn r4.2 r3.2 ov x4 b _ _ _ _ (by omega) (by omega) hP hD hS ls (lv_sub hl [2, 3, 4, 5, 6] rfl) h
noncomputable def flaw_1358 (L : Nat) (xs : Nat → Int32) (K : kFT) (ce : Nat → Int64) (fr : Int64) (un : Int64) (sb : Nat → Int64) (se : Nat → Int64) (so : Nat → Int32) (sc : Int32) (wb : Nat → Int64) (we : Nat → Int64) (wo : Nat → Int32) (wc : Int32) (fb : Nat → Int64) (fe : Nat → Int64) (fo : Nat → Int32) (fc : Int32) (rm : Nat → Int32) (ac : Int32) (rf : Int32) (kn : Int32) (mce : Nat → Int64) (mfr : Int64) (mun : Int64) (mbe : Nat → Int64) (men : Nat → Int64) (mov : Nat → Int32) (msp : Int32) (mwb : Nat → Int64) (mwe : Nat → Int64) (mwi : Int32) (mac : Int32) (mre : Int32) (mkn : Int32) (mth : Int32) (on : Int64) (x4 : Int32) : Option Int32 :=
  if ix (x4 + 1) L then
    if ix (x4 + 2) L then
      (f_L_meets sb se sc on (xs (x4 + 1).toNatClampNeg) (xs (x4 + 2).toNatClampNeg)).bind fun r3 =>
      (f_X3_meets mbe men msp (xs (x4 + 1).toNatClampNeg) (xs (x4 + 2).toNatClampNeg)).bind fun r4 =>
      K ce fr un sb se so sc wb we wo wc fb fe fo fc rm ac rf kn mce mfr mun mbe men mov msp mwb mwe mwi mac mre mkn r4.2 r3.2 x4
    else none
  else none
theorem flaw_1358_e {L : Nat} {xs : Nat → Int32} {K : kFT} (ce : Nat → Int64) (fr : Int64) (un : Int64) (sb : Nat → Int64) (se : Nat → Int64) (so : Nat → Int32) (sc : Int32) (wb : Nat → Int64) (we : Nat → Int64) (wo : Nat → Int32) (wc : Int32) (fb : Nat → Int64) (fe : Nat → Int64) (fo : Nat → Int32) (fc : Int32) (rm : Nat → Int32) (ac : Int32) (rf : Int32) (kn : Int32) (mce : Nat → Int64) (mfr : Int64) (mun : Int64) (mbe : Nat → Int64) (men : Nat → Int64) (mov : Nat → Int32) (msp : Int32) (mwb : Nat → Int64) (mwe : Nat → Int64) (mwi : Int32) (mac : Int32) (mre : Int32) (mkn : Int32) (mth : Int32) (on : Int64) (x4 : Int32) : flaw_1358 L xs K ce fr un sb se so sc wb we wo wc fb fe fo fc rm ac rf kn mce mfr mun mbe men mov msp mwb mwe mwi mac mre mkn mth on x4 =
  if ix (x4 + 1) L then
    if ix (x4 + 2) L then
      (f_L_meets sb se sc on (xs (x4 + 1).toNatClampNeg) (xs (x4 + 2).toNatClampNeg)).bind fun r3 =>
      (f_X3_meets mbe men msp (xs (x4 + 1).toNatClampNeg) (xs (x4 + 2).toNatClampNeg)).bind fun r4 =>
      K ce fr un sb se so sc wb we wo wc fb fe fo fc rm ac rf kn mce mfr mun mbe men mov msp mwb mwe mwi mac mre mkn r4.2 r3.2 x4
    else none
  else none := rfl
set_option maxHeartbeats 8000000 in
set_option maxRecDepth 100000 in
theorem law_27 {p : Program} {l : Launch} {e : Env} {s : State} {m : MethodId} {below : List Frame} {meth : Method} {c : Code} {dC : Nat → ClassId} {dI : Nat → Nat → Nat} {cB cI cJ cZ : ClassId} {b9 L : Nat} {xs : Nat → Int32} {A : Nat → Prop} (hl9 : l.stackTraces = false) (C0 : kLw p s m c b9 L xs A) (hK : va_K (dC, dI) vwCl (kTy cB cI cJ cZ) s) {a : Nat → Nat} {o : Nat} (K : kFT) (bK sK : Nat) (hK9 : kGo p l e s m below meth c dC dI cB cI cJ cZ b9 A a o 1845 bK sK K) : kGo p l e s m below meth c dC dI cB cI cJ cZ b9 A a o 1358 (1 + bK) (6 + sK) (flaw_1358 L xs K) := by
  obtain ⟨hx, hb, hml, hown, hts, hX, hbl, hA, hbA, hG, hZ⟩ := C0
  intro ce fr un sb se so sc wb we wo wc fb fe fo fc rm ac rf kn mce mfr mun mbe men mov msp mwb mwe mwi mac mre mkn mth on ov x4 b H locs kc ks hkc hks hP hD hS ls hl h
  have h := (flaw_1358_e ce fr un sb se so sc wb we wo wc fb fe fo fc rm ac rf kn mce mfr mun mbe men mov msp mwb mwe mwi mac mre mkn mth on x4).symm.trans h
  refine lv_aload_n hx hb (kdr dgL_law_1255 6 8 rfl rfl) rfl (lv_at hl 1 rfl) ?_
  obtain ⟨z0, h⟩ := g_if h
  refine kld (v := 1) hx hb (kdr dgL_law_1255 6 9 rfl rfl) rfl (lv_at hl 0 rfl) (kdr dgL_law_1255 7 0 rfl rfl) (lv_at hl 4 rfl) (kdr dgL_law_1255 7 1 rfl rfl) (by decide) (kdr dgL_law_1255 7 2 rfl rfl) hX hbl hbA hS (ix_in z0) (kdr dgL_law_1255 7 3 rfl rfl) ?_
  obtain ⟨z1, h⟩ := g_if h
  refine kld (v := 2) hx hb (kdr dgL_law_1255 7 4 rfl rfl) rfl (lv_at hl 0 rfl) (kdr dgL_law_1255 7 5 rfl rfl) (lv_at hl 4 rfl) (kdr dgL_law_1255 7 6 rfl rfl) (by decide) (kdr dgL_law_1255 7 7 rfl rfl) hX hbl hbA hS (ix_in z1) (kdr dgL_law_1255 7 8 rfl rfl) ?_
  refine lv_aload_n hx hb (kdr dgL_law_1255 7 9 rfl rfl) rfl (lv_at hl 3 rfl) ?_
  obtain ⟨r3, g3, h⟩ := g_b h
  refine kq_i ((wSB cI cJ cZ a ce fr un sb se so sc wb we wo wc fb fe fo fc rm ac rf kn) ++ (wMo cJ cZ b mce mfr mun mbe men mov msp mwb mwe mwi mac mre mkn mth) ++ (wO o r3.2 ov)) (fun qP qD qF => vx_runSW (As := [.ref (a 0), .int (xs (x4 + 1).toNatClampNeg), .int (xs (x4 + 2).toNatClampNeg), .ref o]) (rest := []) ⟨hx, hb, hml, hown, hts⟩ (c_L_meets l hl9 dC dI cB cI cJ cZ a o _ ce fr un sb se so sc wb we wo wc fb fe fo fc rm ac rf kn on ov (xs (x4 + 1).toNatClampNeg) (xs (x4 + 2).toNatClampNeg) r3 g3) (kcwSW hts kw_991 kv_L_meets rfl rfl ⟨(Nat.le_of_ble_eq_true rfl), (Nat.le_of_ble_eq_true rfl)⟩) (kpSXq (A := A) qP hK qD hG hZ hS qF) rfl rfl hl.1 rfl (lv_room (Nat.le_of_ble_eq_true rfl)) (kdr dgL_law_1255 8 0 rfl rfl) ⟨by show _ ≤ (600128 : Nat); omega, by show _ ≤ (7301098 : Nat); omega⟩) hP hD hS hA (kFr_2 (kFr_l kFr_SB) kFr_o) (fun H locs hP hD hS br3 => ?_)
  refine lv_istore (lv' := (kvI 5 r3.1 (kvA 0 b9 (kvA 1 (a 0) (kvA 2 (b 0) (kvA 3 o (kvI 4 x4 kvE))))))) hx hb (kdr dgL_law_1255 8 1 rfl rfl) hl (by decide) rfl (fun ls hl => ?_)
  refine lv_aload_n hx hb (kdr dgL_law_1255 8 2 rfl rfl) rfl (lv_at hl 3 rfl) ?_
  refine kld (v := 1) hx hb (kdr dgL_law_1255 8 3 rfl rfl) rfl (lv_at hl 1 rfl) (kdr dgL_law_1255 8 4 rfl rfl) (lv_at hl 5 rfl) (kdr dgL_law_1255 8 5 rfl rfl) (by decide) (kdr dgL_law_1255 8 6 rfl rfl) hX hbl hbA hS (ix_in z0) (kdr dgL_law_1255 8 7 rfl rfl) ?_
  refine kld (v := 2) hx hb (kdr dgL_law_1255 8 8 rfl rfl) rfl (lv_at hl 1 rfl) (kdr dgL_law_1255 8 9 rfl rfl) (lv_at hl 5 rfl) (kdr dgL_law_1255 9 0 rfl rfl) (by decide) (kdr dgL_law_1255 9 1 rfl rfl) hX hbl hbA hS (ix_in z1) (kdr dgL_law_1255 9 2 rfl rfl) ?_
  obtain ⟨r4, g4, h⟩ := g_b h
  refine kq_i ((wSB cI cJ cZ a ce fr un sb se so sc wb we wo wc fb fe fo fc rm ac rf kn) ++ (wMo cJ cZ b mce mfr mun mbe men mov msp mwb mwe mwi mac mre mkn r4.2) ++ (wO o r3.2 ov)) (fun qP qD qF => va_runV (As := [.int (xs (x4 + 1).toNatClampNeg), .int (xs (x4 + 2).toNatClampNeg)]) (rest := []) ⟨hx, hb, hml, hown, hts⟩ (c_X3_meets l dC dI cB cI cJ cZ b _ mce mfr mun mbe men mov msp mwb mwe mwi mac mre mkn mth (xs (x4 + 1).toNatClampNeg) (xs (x4 + 2).toNatClampNeg) r4 g4) (kcwV hts kw_1328 kv_X3_meets rfl rfl ⟨(Nat.le_of_ble_eq_true rfl), (Nat.le_of_ble_eq_true rfl)⟩) (kpV (A := A) qP hK qD hG (krecv_5 (q0 := 15) hK hP rfl)) rfl rfl hl.1 rfl (lv_room (Nat.le_of_ble_eq_true rfl)) (kdr dgL_law_1255 9 3 rfl rfl) ⟨by show _ ≤ (600128 : Nat); omega, by show _ ≤ (7301098 : Nat); omega⟩) hP hD hS hA (kFr_l (kFr_r kFr_Mo)) (fun H locs hP hD hS br4 => ?_)
  refine lv_istore (lv' := (kvI 6 r4.1 (kvI 5 r3.1 (kvA 0 b9 (kvA 1 (a 0) (kvA 2 (b 0) (kvA 3 o (kvI 4 x4 kvE)))))))) hx hb (kdr dgL_law_1255 9 4 rfl rfl) hl (by decide) rfl (fun ls hl => ?_)
  refine lv_goto (tgt := 1845) hx hb (kdr dgL_law_1255 9 5 rfl rfl) (by decide) ?_
  exact hK9 ce fr un sb se so sc wb we wo wc fb fe fo fc rm ac rf kn mce mfr mun mbe men mov msp mwb mwe mwi mac mre mkn r4.2 r3.2 ov x4 b _ _ _ _ (by omega) (by omega) hP hD hS ls (lv_sub hl [2, 3, 4, 5, 6] rfl) h
noncomputable def flaw_1398 (L : Nat) (xs : Nat → Int32) (K : kFT) (ce : Nat → Int64) (fr : Int64) (un : Int64) (sb : Nat → Int64) (se : Nat → Int64) (so : Nat → Int32) (sc : Int32) (wb : Nat → Int64) (we : Nat → Int64) (wo : Nat → Int32) (wc : Int32) (fb : Nat → Int64) (fe : Nat → Int64) (fo : Nat → Int32) (fc : Int32) (rm : Nat → Int32) (ac : Int32) (rf : Int32) (kn : Int32) (mce : Nat → Int64) (mfr : Int64) (mun : Int64) (mbe : Nat → Int64) (men : Nat → Int64) (mov : Nat → Int32) (msp : Int32) (mwb : Nat → Int64) (mwe : Nat → Int64) (mwi : Int32) (mac : Int32) (mre : Int32) (mkn : Int32) (mth : Int32) (on : Int64) (x4 : Int32) : Option Int32 :=
  (f_X1_clashes sb se sc).bind fun r1 =>
  (f_X3_clashes mbe men msp).bind fun r2 =>
  K ce fr un sb se so sc wb we wo wc fb fe fo fc rm ac rf kn mce mfr mun mbe men mov msp mwb mwe mwi mac mre mkn r2.2 on x4
theorem flaw_1398_e {L : Nat} {xs : Nat → Int32} {K : kFT} (ce : Nat → Int64) (fr : Int64) (un : Int64) (sb : Nat → Int64) (se : Nat → Int64) (so : Nat → Int32) (sc : Int32) (wb : Nat → Int64) (we : Nat → Int64) (wo : Nat → Int32) (wc : Int32) (fb : Nat → Int64) (fe : Nat → Int64) (fo : Nat → Int32) (fc : Int32) (rm : Nat → Int32) (ac : Int32) (rf : Int32) (kn : Int32) (mce : Nat → Int64) (mfr : Int64) (mun : Int64) (mbe : Nat → Int64) (men : Nat → Int64) (mov : Nat → Int32) (msp : Int32) (mwb : Nat → Int64) (mwe : Nat → Int64) (mwi : Int32) (mac : Int32) (mre : Int32) (mkn : Int32) (mth : Int32) (on : Int64) (x4 : Int32) : flaw_1398 L xs K ce fr un sb se so sc wb we wo wc fb fe fo fc rm ac rf kn mce mfr mun mbe men mov msp mwb mwe mwi mac mre mkn mth on x4 =
  (f_X1_clashes sb se sc).bind fun r1 =>
  (f_X3_clashes mbe men msp).bind fun r2 =>
  K ce fr un sb se so sc wb we wo wc fb fe fo fc rm ac rf kn mce mfr mun mbe men mov msp mwb mwe mwi mac mre mkn r2.2 on x4 := rfl
set_option maxHeartbeats 8000000 in
set_option maxRecDepth 100000 in
theorem law_28 {p : Program} {l : Launch} {e : Env} {s : State} {m : MethodId} {below : List Frame} {meth : Method} {c : Code} {dC : Nat → ClassId} {dI : Nat → Nat → Nat} {cB cI cJ cZ : ClassId} {b9 L : Nat} {xs : Nat → Int32} {A : Nat → Prop} (hl9 : l.stackTraces = false) (C0 : kLw p s m c b9 L xs A) (hK : va_K (dC, dI) vwCl (kTy cB cI cJ cZ) s) {a : Nat → Nat} {o : Nat} (K : kFT) (bK sK : Nat) (hK9 : kGo p l e s m below meth c dC dI cB cI cJ cZ b9 A a o 1845 bK sK K) : kGo p l e s m below meth c dC dI cB cI cJ cZ b9 A a o 1398 (0 + bK) (0 + sK) (flaw_1398 L xs K) := by
  obtain ⟨hx, hb, hml, hown, hts, hX, hbl, hA, hbA, hG, hZ⟩ := C0
  intro ce fr un sb se so sc wb we wo wc fb fe fo fc rm ac rf kn mce mfr mun mbe men mov msp mwb mwe mwi mac mre mkn mth on ov x4 b H locs kc ks hkc hks hP hD hS ls hl h
  have h := (flaw_1398_e ce fr un sb se so sc wb we wo wc fb fe fo fc rm ac rf kn mce mfr mun mbe men mov msp mwb mwe mwi mac mre mkn mth on x4).symm.trans h
  refine lv_aload_n hx hb (kdr dgL_law_1255 9 6 rfl rfl) rfl (lv_at hl 1 rfl) ?_
  obtain ⟨r1, g1, h⟩ := g_b h
  refine kq_i ((wSB cI cJ cZ a ce fr un sb se so sc wb we wo wc fb fe fo fc rm ac rf kn) ++ (wMo cJ cZ b mce mfr mun mbe men mov msp mwb mwe mwi mac mre mkn mth) ++ (wO o on ov)) (fun qP qD qF => va_runV (As := []) (rest := []) ⟨hx, hb, hml, hown, hts⟩ (c_X1_clashes l dC dI cB cI cJ cZ a _ ce fr un sb se so sc wb we wo wc fb fe fo fc rm ac rf kn  r1 g1) (kcwV hts kw_159 kv_X1_clashes rfl rfl ⟨(Nat.le_of_ble_eq_true rfl), (Nat.le_of_ble_eq_true rfl)⟩) (kpV (A := A) qP hK qD hG (krecv_3 (q0 := 0) hK hP rfl)) rfl rfl hl.1 rfl (lv_room (Nat.le_of_ble_eq_true rfl)) (kdr dgL_law_1255 9 7 rfl rfl) ⟨by show _ ≤ (600128 : Nat); omega, by show _ ≤ (7301098 : Nat); omega⟩) hP hD hS hA (kFr_l (kFr_l kFr_SB)) (fun H locs hP hD hS br1 => ?_)
  refine lv_pop hx hb (kdr dgL_law_1255 9 8 rfl rfl) rfl ?_
  refine lv_aload_n hx hb (kdr dgL_law_1255 9 9 rfl rfl) rfl (lv_at hl 2 rfl) ?_
  obtain ⟨r2, g2, h⟩ := g_b h
  refine kq_i ((wSB cI cJ cZ a ce fr un sb se so sc wb we wo wc fb fe fo fc rm ac rf kn) ++ (wMo cJ cZ b mce mfr mun mbe men mov msp mwb mwe mwi mac mre mkn r2.2) ++ (wO o on ov)) (fun qP qD qF => va_runV (As := []) (rest := []) ⟨hx, hb, hml, hown, hts⟩ (c_X3_clashes l dC dI cB cI cJ cZ b _ mce mfr mun mbe men mov msp mwb mwe mwi mac mre mkn mth  r2 g2) (kcwV hts kw_1332 kv_X3_clashes rfl rfl ⟨(Nat.le_of_ble_eq_true rfl), (Nat.le_of_ble_eq_true rfl)⟩) (kpV (A := A) qP hK qD hG (krecv_5 (q0 := 15) hK hP rfl)) rfl rfl hl.1 rfl (lv_room (Nat.le_of_ble_eq_true rfl)) (kdr dgL_law_1404 0 0 rfl rfl) ⟨by show _ ≤ (600128 : Nat); omega, by show _ ≤ (7301098 : Nat); omega⟩) hP hD hS hA (kFr_l (kFr_r kFr_Mo)) (fun H locs hP hD hS br2 => ?_)
  refine lv_pop hx hb (kdr dgL_law_1404 0 1 rfl rfl) rfl ?_
  refine lv_goto (tgt := 1845) hx hb (kdr dgL_law_1404 0 2 rfl rfl) (by decide) ?_
  exact hK9 ce fr un sb se so sc wb we wo wc fb fe fo fc rm ac rf kn mce mfr mun mbe men mov msp mwb mwe mwi mac mre mkn r2.2 on ov x4 b _ _ _ _ (by omega) (by omega) hP hD hS ls (lv_sub hl [0, 1, 2, 3, 4] rfl) h
noncomputable def flaw_1411 (L : Nat) (xs : Nat → Int32) (K : kFT) (ce : Nat → Int64) (fr : Int64) (un : Int64) (sb : Nat → Int64) (se : Nat → Int64) (so : Nat → Int32) (sc : Int32) (wb : Nat → Int64) (we : Nat → Int64) (wo : Nat → Int32) (wc : Int32) (fb : Nat → Int64) (fe : Nat → Int64) (fo : Nat → Int32) (fc : Int32) (rm : Nat → Int32) (ac : Int32) (rf : Int32) (kn : Int32) (mce : Nat → Int64) (mfr : Int64) (mun : Int64) (mbe : Nat → Int64) (men : Nat → Int64) (mov : Nat → Int32) (msp : Int32) (mwb : Nat → Int64) (mwe : Nat → Int64) (mwi : Int32) (mac : Int32) (mre : Int32) (mkn : Int32) (mth : Int32) (on : Int64) (x4 : Int32) : Option Int32 :=
  if ix (x4 + 1) L then
    (f_L_at ce sb se sc on (xs (x4 + 1).toNatClampNeg)).bind fun r2 =>
    (f_X3_at mce mbe men msp (xs (x4 + 1).toNatClampNeg)).bind fun r3 =>
    K ce fr un sb se so sc wb we wo wc fb fe fo fc rm ac rf kn mce mfr mun mbe men mov msp mwb mwe mwi mac mre mkn r3.2 r2.2 x4
  else none
theorem flaw_1411_e {L : Nat} {xs : Nat → Int32} {K : kFT} (ce : Nat → Int64) (fr : Int64) (un : Int64) (sb : Nat → Int64) (se : Nat → Int64) (so : Nat → Int32) (sc : Int32) (wb : Nat → Int64) (we : Nat → Int64) (wo : Nat → Int32) (wc : Int32) (fb : Nat → Int64) (fe : Nat → Int64) (fo : Nat → Int32) (fc : Int32) (rm : Nat → Int32) (ac : Int32) (rf : Int32) (kn : Int32) (mce : Nat → Int64) (mfr : Int64) (mun : Int64) (mbe : Nat → Int64) (men : Nat → Int64) (mov : Nat → Int32) (msp : Int32) (mwb : Nat → Int64) (mwe : Nat → Int64) (mwi : Int32) (mac : Int32) (mre : Int32) (mkn : Int32) (mth : Int32) (on : Int64) (x4 : Int32) : flaw_1411 L xs K ce fr un sb se so sc wb we wo wc fb fe fo fc rm ac rf kn mce mfr mun mbe men mov msp mwb mwe mwi mac mre mkn mth on x4 =
  if ix (x4 + 1) L then
    (f_L_at ce sb se sc on (xs (x4 + 1).toNatClampNeg)).bind fun r2 =>
    (f_X3_at mce mbe men msp (xs (x4 + 1).toNatClampNeg)).bind fun r3 =>
    K ce fr un sb se so sc wb we wo wc fb fe fo fc rm ac rf kn mce mfr mun mbe men mov msp mwb mwe mwi mac mre mkn r3.2 r2.2 x4
  else none := rfl
set_option maxHeartbeats 8000000 in
set_option maxRecDepth 100000 in
theorem law_29 {p : Program} {l : Launch} {e : Env} {s : State} {m : MethodId} {below : List Frame} {meth : Method} {c : Code} {dC : Nat → ClassId} {dI : Nat → Nat → Nat} {cB cI cJ cZ : ClassId} {b9 L : Nat} {xs : Nat → Int32} {A : Nat → Prop} (hl9 : l.stackTraces = false) (C0 : kLw p s m c b9 L xs A) (hK : va_K (dC, dI) vwCl (kTy cB cI cJ cZ) s) {a : Nat → Nat} {o : Nat} (K : kFT) (bK sK : Nat) (hK9 : kGo p l e s m below meth c dC dI cB cI cJ cZ b9 A a o 1845 bK sK K) : kGo p l e s m below meth c dC dI cB cI cJ cZ b9 A a o 1411 (1 + bK) (6 + sK) (flaw_1411 L xs K) := by
  obtain ⟨hx, hb, hml, hown, hts, hX, hbl, hA, hbA, hG, hZ⟩ := C0
  intro ce fr un sb se so sc wb we wo wc fb fe fo fc rm ac rf kn mce mfr mun mbe men mov msp mwb mwe mwi mac mre mkn mth on ov x4 b H locs kc ks hkc hks hP hD hS ls hl h
  have h := (flaw_1411_e ce fr un sb se so sc wb we wo wc fb fe fo fc rm ac rf kn mce mfr mun mbe men mov msp mwb mwe mwi mac mre mkn mth on x4).symm.trans h
  refine lv_aload_n hx hb (kdr dgL_law_1404 0 3 rfl rfl) rfl (lv_at hl 1 rfl) ?_
  obtain ⟨z0, h⟩ := g_if h
  refine kld (v := 1) hx hb (kdr dgL_law_1404 0 4 rfl rfl) rfl (lv_at hl 0 rfl) (kdr dgL_law_1404 0 5 rfl rfl) (lv_at hl 4 rfl) (kdr dgL_law_1404 0 6 rfl rfl) (by decide) (kdr dgL_law_1404 0 7 rfl rfl) hX hbl hbA hS (ix_in z0) (kdr dgL_law_1404 0 8 rfl rfl) ?_
  refine lv_aload_n hx hb (kdr dgL_law_1404 0 9 rfl rfl) rfl (lv_at hl 3 rfl) ?_
  obtain ⟨r2, g2, h⟩ := g_b h
  refine kq_i ((wSB cI cJ cZ a ce fr un sb se so sc wb we wo wc fb fe fo fc rm ac rf kn) ++ (wMo cJ cZ b mce mfr mun mbe men mov msp mwb mwe mwi mac mre mkn mth) ++ (wO o r2.2 ov)) (fun qP qD qF => vx_runSW (As := [.ref (a 0), .int (xs (x4 + 1).toNatClampNeg), .ref o]) (rest := []) ⟨hx, hb, hml, hown, hts⟩ (c_L_at l hl9 dC dI cB cI cJ cZ a o _ ce fr un sb se so sc wb we wo wc fb fe fo fc rm ac rf kn on ov (xs (x4 + 1).toNatClampNeg) r2 g2) (kcwSW hts kw_998 kv_L_at rfl rfl ⟨(Nat.le_of_ble_eq_true rfl), (Nat.le_of_ble_eq_true rfl)⟩) (kpSXq (A := A) qP hK qD hG hZ hS qF) rfl rfl hl.1 rfl (lv_room (Nat.le_of_ble_eq_true rfl)) (kdr dgL_law_1404 1 0 rfl rfl) ⟨by show _ ≤ (600128 : Nat); omega, by show _ ≤ (7301098 : Nat); omega⟩) hP hD hS hA (kFr_2 (kFr_l kFr_SB) kFr_o) (fun H locs hP hD hS br2 => ?_)
  refine lv_istore (lv' := (kvI 5 r2.1 (kvA 0 b9 (kvA 1 (a 0) (kvA 2 (b 0) (kvA 3 o (kvI 4 x4 kvE))))))) hx hb (kdr dgL_law_1404 1 1 rfl rfl) hl (by decide) rfl (fun ls hl => ?_)
  refine lv_aload_n hx hb (kdr dgL_law_1404 1 2 rfl rfl) rfl (lv_at hl 3 rfl) ?_
  refine kld (v := 1) hx hb (kdr dgL_law_1404 1 3 rfl rfl) rfl (lv_at hl 1 rfl) (kdr dgL_law_1404 1 4 rfl rfl) (lv_at hl 5 rfl) (kdr dgL_law_1404 1 5 rfl rfl) (by decide) (kdr dgL_law_1404 1 6 rfl rfl) hX hbl hbA hS (ix_in z0) (kdr dgL_law_1404 1 7 rfl rfl) ?_
  obtain ⟨r3, g3, h⟩ := g_b h
  refine kq_i ((wSB cI cJ cZ a ce fr un sb se so sc wb we wo wc fb fe fo fc rm ac rf kn) ++ (wMo cJ cZ b mce mfr mun mbe men mov msp mwb mwe mwi mac mre mkn r3.2) ++ (wO o r2.2 ov)) (fun qP qD qF => va_runV (As := [.int (xs (x4 + 1).toNatClampNeg)]) (rest := []) ⟨hx, hb, hml, hown, hts⟩ (c_X3_at l dC dI cB cI cJ cZ b _ mce mfr mun mbe men mov msp mwb mwe mwi mac mre mkn mth (xs (x4 + 1).toNatClampNeg) r3 g3) (kcwV hts kw_1336 kv_X3_at rfl rfl ⟨(Nat.le_of_ble_eq_true rfl), (Nat.le_of_ble_eq_true rfl)⟩) (kpV (A := A) qP hK qD hG (krecv_5 (q0 := 15) hK hP rfl)) rfl rfl hl.1 rfl (lv_room (Nat.le_of_ble_eq_true rfl)) (kdr dgL_law_1404 1 8 rfl rfl) ⟨by show _ ≤ (600128 : Nat); omega, by show _ ≤ (7301098 : Nat); omega⟩) hP hD hS hA (kFr_l (kFr_r kFr_Mo)) (fun H locs hP hD hS br3 => ?_)
  refine lv_istore (lv' := (kvI 6 r3.1 (kvI 5 r2.1 (kvA 0 b9 (kvA 1 (a 0) (kvA 2 (b 0) (kvA 3 o (kvI 4 x4 kvE)))))))) hx hb (kdr dgL_law_1404 1 9 rfl rfl) hl (by decide) rfl (fun ls hl => ?_)
  refine lv_goto (tgt := 1845) hx hb (kdr dgL_law_1404 2 0 rfl rfl) (by decide) ?_
  exact hK9 ce fr un sb se so sc wb we wo wc fb fe fo fc rm ac rf kn mce mfr mun mbe men mov msp mwb mwe mwi mac mre mkn r3.2 r2.2 ov x4 b _ _ _ _ (by omega) (by omega) hP hD hS ls (lv_sub hl [2, 3, 4, 5, 6] rfl) h
noncomputable def flaw_1439 (L : Nat) (xs : Nat → Int32) (K : kFT) (ce : Nat → Int64) (fr : Int64) (un : Int64) (sb : Nat → Int64) (se : Nat → Int64) (so : Nat → Int32) (sc : Int32) (wb : Nat → Int64) (we : Nat → Int64) (wo : Nat → Int32) (wc : Int32) (fb : Nat → Int64) (fe : Nat → Int64) (fo : Nat → Int32) (fc : Int32) (rm : Nat → Int32) (ac : Int32) (rf : Int32) (kn : Int32) (mce : Nat → Int64) (mfr : Int64) (mun : Int64) (mbe : Nat → Int64) (men : Nat → Int64) (mov : Nat → Int32) (msp : Int32) (mwb : Nat → Int64) (mwe : Nat → Int64) (mwi : Int32) (mac : Int32) (mre : Int32) (mkn : Int32) (mth : Int32) (on : Int64) (x4 : Int32) : Option Int32 :=
  (f_X1_deepest sb se sc).bind fun r1 =>
  (f_X3_deepest_ mbe men msp).bind fun r2 =>
  K ce fr un sb se so sc wb we wo wc fb fe fo fc rm ac rf kn mce mfr mun mbe men mov msp mwb mwe mwi mac mre mkn r2.2 on x4
theorem flaw_1439_e {L : Nat} {xs : Nat → Int32} {K : kFT} (ce : Nat → Int64) (fr : Int64) (un : Int64) (sb : Nat → Int64) (se : Nat → Int64) (so : Nat → Int32) (sc : Int32) (wb : Nat → Int64) (we : Nat → Int64) (wo : Nat → Int32) (wc : Int32) (fb : Nat → Int64) (fe : Nat → Int64) (fo : Nat → Int32) (fc : Int32) (rm : Nat → Int32) (ac : Int32) (rf : Int32) (kn : Int32) (mce : Nat → Int64) (mfr : Int64) (mun : Int64) (mbe : Nat → Int64) (men : Nat → Int64) (mov : Nat → Int32) (msp : Int32) (mwb : Nat → Int64) (mwe : Nat → Int64) (mwi : Int32) (mac : Int32) (mre : Int32) (mkn : Int32) (mth : Int32) (on : Int64) (x4 : Int32) : flaw_1439 L xs K ce fr un sb se so sc wb we wo wc fb fe fo fc rm ac rf kn mce mfr mun mbe men mov msp mwb mwe mwi mac mre mkn mth on x4 =
  (f_X1_deepest sb se sc).bind fun r1 =>
  (f_X3_deepest_ mbe men msp).bind fun r2 =>
  K ce fr un sb se so sc wb we wo wc fb fe fo fc rm ac rf kn mce mfr mun mbe men mov msp mwb mwe mwi mac mre mkn r2.2 on x4 := rfl
set_option maxHeartbeats 8000000 in
set_option maxRecDepth 100000 in
theorem law_30 {p : Program} {l : Launch} {e : Env} {s : State} {m : MethodId} {below : List Frame} {meth : Method} {c : Code} {dC : Nat → ClassId} {dI : Nat → Nat → Nat} {cB cI cJ cZ : ClassId} {b9 L : Nat} {xs : Nat → Int32} {A : Nat → Prop} (hl9 : l.stackTraces = false) (C0 : kLw p s m c b9 L xs A) (hK : va_K (dC, dI) vwCl (kTy cB cI cJ cZ) s) {a : Nat → Nat} {o : Nat} (K : kFT) (bK sK : Nat) (hK9 : kGo p l e s m below meth c dC dI cB cI cJ cZ b9 A a o 1845 bK sK K) : kGo p l e s m below meth c dC dI cB cI cJ cZ b9 A a o 1439 (0 + bK) (0 + sK) (flaw_1439 L xs K) := by
  obtain ⟨hx, hb, hml, hown, hts, hX, hbl, hA, hbA, hG, hZ⟩ := C0
  intro ce fr un sb se so sc wb we wo wc fb fe fo fc rm ac rf kn mce mfr mun mbe men mov msp mwb mwe mwi mac mre mkn mth on ov x4 b H locs kc ks hkc hks hP hD hS ls hl h
  have h := (flaw_1439_e ce fr un sb se so sc wb we wo wc fb fe fo fc rm ac rf kn mce mfr mun mbe men mov msp mwb mwe mwi mac mre mkn mth on x4).symm.trans h
  refine lv_aload_n hx hb (kdr dgL_law_1404 2 1 rfl rfl) rfl (lv_at hl 1 rfl) ?_
  obtain ⟨r1, g1, h⟩ := g_b h
  refine kq_i ((wSB cI cJ cZ a ce fr un sb se so sc wb we wo wc fb fe fo fc rm ac rf kn) ++ (wMo cJ cZ b mce mfr mun mbe men mov msp mwb mwe mwi mac mre mkn mth) ++ (wO o on ov)) (fun qP qD qF => va_runV (As := []) (rest := []) ⟨hx, hb, hml, hown, hts⟩ (c_X1_deepest l dC dI cB cI cJ cZ a _ ce fr un sb se so sc wb we wo wc fb fe fo fc rm ac rf kn  r1 g1) (kcwV hts kw_167 kv_X1_deepest rfl rfl ⟨(Nat.le_of_ble_eq_true rfl), (Nat.le_of_ble_eq_true rfl)⟩) (kpV (A := A) qP hK qD hG (krecv_3 (q0 := 0) hK hP rfl)) rfl rfl hl.1 rfl (lv_room (Nat.le_of_ble_eq_true rfl)) (kdr dgL_law_1404 2 2 rfl rfl) ⟨by show _ ≤ (600128 : Nat); omega, by show _ ≤ (7301098 : Nat); omega⟩) hP hD hS hA (kFr_l (kFr_l kFr_SB)) (fun H locs hP hD hS br1 => ?_)
  refine lv_pop hx hb (kdr dgL_law_1404 2 3 rfl rfl) rfl ?_
  refine lv_aload_n hx hb (kdr dgL_law_1404 2 4 rfl rfl) rfl (lv_at hl 2 rfl) ?_
  obtain ⟨r2, g2, h⟩ := g_b h
  refine kq_i ((wSB cI cJ cZ a ce fr un sb se so sc wb we wo wc fb fe fo fc rm ac rf kn) ++ (wMo cJ cZ b mce mfr mun mbe men mov msp mwb mwe mwi mac mre mkn r2.2) ++ (wO o on ov)) (fun qP qD qF => va_runV (As := []) (rest := []) ⟨hx, hb, hml, hown, hts⟩ (c_X3_deepest_ l dC dI cB cI cJ cZ b _ mce mfr mun mbe men mov msp mwb mwe mwi mac mre mkn mth  r2 g2) (kcwV hts kw_1344 kv_X3_deepest_ rfl rfl ⟨(Nat.le_of_ble_eq_true rfl), (Nat.le_of_ble_eq_true rfl)⟩) (kpV (A := A) qP hK qD hG (krecv_5 (q0 := 15) hK hP rfl)) rfl rfl hl.1 rfl (lv_room (Nat.le_of_ble_eq_true rfl)) (kdr dgL_law_1404 2 5 rfl rfl) ⟨by show _ ≤ (600128 : Nat); omega, by show _ ≤ (7301098 : Nat); omega⟩) hP hD hS hA (kFr_l (kFr_r kFr_Mo)) (fun H locs hP hD hS br2 => ?_)
  refine lv_pop hx hb (kdr dgL_law_1404 2 6 rfl rfl) rfl ?_
  refine lv_goto (tgt := 1845) hx hb (kdr dgL_law_1404 2 7 rfl rfl) (by decide) ?_
  exact hK9 ce fr un sb se so sc wb we wo wc fb fe fo fc rm ac rf kn mce mfr mun mbe men mov msp mwb mwe mwi mac mre mkn r2.2 on ov x4 b _ _ _ _ (by omega) (by omega) hP hD hS ls (lv_sub hl [0, 1, 2, 3, 4] rfl) h
noncomputable def flaw_1452 (L : Nat) (xs : Nat → Int32) (K : kFT) (ce : Nat → Int64) (fr : Int64) (un : Int64) (sb : Nat → Int64) (se : Nat → Int64) (so : Nat → Int32) (sc : Int32) (wb : Nat → Int64) (we : Nat → Int64) (wo : Nat → Int32) (wc : Int32) (fb : Nat → Int64) (fe : Nat → Int64) (fo : Nat → Int32) (fc : Int32) (rm : Nat → Int32) (ac : Int32) (rf : Int32) (kn : Int32) (mce : Nat → Int64) (mfr : Int64) (mun : Int64) (mbe : Nat → Int64) (men : Nat → Int64) (mov : Nat → Int32) (msp : Int32) (mwb : Nat → Int64) (mwe : Nat → Int64) (mwi : Int32) (mac : Int32) (mre : Int32) (mkn : Int32) (mth : Int32) (on : Int64) (x4 : Int32) : Option Int32 :=
  if ix (x4 + 1) L then
    if ix (x4 + 2) L then
      (f_L_isFree ce fr un sb se sc on (xs (x4 + 1).toNatClampNeg) (xs (x4 + 2).toNatClampNeg)).bind fun r3 =>
      (f_X3_isFree mce mfr mun mbe men msp (xs (x4 + 1).toNatClampNeg) (xs (x4 + 2).toNatClampNeg)).bind fun r4 =>
      K ce fr un sb se so sc wb we wo wc fb fe fo fc rm ac rf kn mce mfr mun mbe men mov msp mwb mwe mwi mac mre mkn r4.2 r3.2 x4
    else none
  else none
theorem flaw_1452_e {L : Nat} {xs : Nat → Int32} {K : kFT} (ce : Nat → Int64) (fr : Int64) (un : Int64) (sb : Nat → Int64) (se : Nat → Int64) (so : Nat → Int32) (sc : Int32) (wb : Nat → Int64) (we : Nat → Int64) (wo : Nat → Int32) (wc : Int32) (fb : Nat → Int64) (fe : Nat → Int64) (fo : Nat → Int32) (fc : Int32) (rm : Nat → Int32) (ac : Int32) (rf : Int32) (kn : Int32) (mce : Nat → Int64) (mfr : Int64) (mun : Int64) (mbe : Nat → Int64) (men : Nat → Int64) (mov : Nat → Int32) (msp : Int32) (mwb : Nat → Int64) (mwe : Nat → Int64) (mwi : Int32) (mac : Int32) (mre : Int32) (mkn : Int32) (mth : Int32) (on : Int64) (x4 : Int32) : flaw_1452 L xs K ce fr un sb se so sc wb we wo wc fb fe fo fc rm ac rf kn mce mfr mun mbe men mov msp mwb mwe mwi mac mre mkn mth on x4 =
  if ix (x4 + 1) L then
    if ix (x4 + 2) L then
      (f_L_isFree ce fr un sb se sc on (xs (x4 + 1).toNatClampNeg) (xs (x4 + 2).toNatClampNeg)).bind fun r3 =>
      (f_X3_isFree mce mfr mun mbe men msp (xs (x4 + 1).toNatClampNeg) (xs (x4 + 2).toNatClampNeg)).bind fun r4 =>
      K ce fr un sb se so sc wb we wo wc fb fe fo fc rm ac rf kn mce mfr mun mbe men mov msp mwb mwe mwi mac mre mkn r4.2 r3.2 x4
    else none
  else none := rfl
set_option maxHeartbeats 8000000 in
set_option maxRecDepth 100000 in
theorem law_31 {p : Program} {l : Launch} {e : Env} {s : State} {m : MethodId} {below : List Frame} {meth : Method} {c : Code} {dC : Nat → ClassId} {dI : Nat → Nat → Nat} {cB cI cJ cZ : ClassId} {b9 L : Nat} {xs : Nat → Int32} {A : Nat → Prop} (hl9 : l.stackTraces = false) (C0 : kLw p s m c b9 L xs A) (hK : va_K (dC, dI) vwCl (kTy cB cI cJ cZ) s) {a : Nat → Nat} {o : Nat} (K : kFT) (bK sK : Nat) (hK9 : kGo p l e s m below meth c dC dI cB cI cJ cZ b9 A a o 1845 bK sK K) : kGo p l e s m below meth c dC dI cB cI cJ cZ b9 A a o 1452 (1 + bK) (6 + sK) (flaw_1452 L xs K) := by
  obtain ⟨hx, hb, hml, hown, hts, hX, hbl, hA, hbA, hG, hZ⟩ := C0
  intro ce fr un sb se so sc wb we wo wc fb fe fo fc rm ac rf kn mce mfr mun mbe men mov msp mwb mwe mwi mac mre mkn mth on ov x4 b H locs kc ks hkc hks hP hD hS ls hl h
  have h := (flaw_1452_e ce fr un sb se so sc wb we wo wc fb fe fo fc rm ac rf kn mce mfr mun mbe men mov msp mwb mwe mwi mac mre mkn mth on x4).symm.trans h
  refine lv_aload_n hx hb (kdr dgL_law_1404 2 8 rfl rfl) rfl (lv_at hl 1 rfl) ?_
  obtain ⟨z0, h⟩ := g_if h
  refine kld (v := 1) hx hb (kdr dgL_law_1404 2 9 rfl rfl) rfl (lv_at hl 0 rfl) (kdr dgL_law_1404 3 0 rfl rfl) (lv_at hl 4 rfl) (kdr dgL_law_1404 3 1 rfl rfl) (by decide) (kdr dgL_law_1404 3 2 rfl rfl) hX hbl hbA hS (ix_in z0) (kdr dgL_law_1404 3 3 rfl rfl) ?_
  obtain ⟨z1, h⟩ := g_if h
  refine kld (v := 2) hx hb (kdr dgL_law_1404 3 4 rfl rfl) rfl (lv_at hl 0 rfl) (kdr dgL_law_1404 3 5 rfl rfl) (lv_at hl 4 rfl) (kdr dgL_law_1404 3 6 rfl rfl) (by decide) (kdr dgL_law_1404 3 7 rfl rfl) hX hbl hbA hS (ix_in z1) (kdr dgL_law_1404 3 8 rfl rfl) ?_
  refine lv_aload_n hx hb (kdr dgL_law_1404 3 9 rfl rfl) rfl (lv_at hl 3 rfl) ?_
  obtain ⟨r3, g3, h⟩ := g_b h
  refine kq_i ((wSB cI cJ cZ a ce fr un sb se so sc wb we wo wc fb fe fo fc rm ac rf kn) ++ (wMo cJ cZ b mce mfr mun mbe men mov msp mwb mwe mwi mac mre mkn mth) ++ (wO o r3.2 ov)) (fun qP qD qF => vx_runSW (As := [.ref (a 0), .int (xs (x4 + 1).toNatClampNeg), .int (xs (x4 + 2).toNatClampNeg), .ref o]) (rest := []) ⟨hx, hb, hml, hown, hts⟩ (c_L_isFree l hl9 dC dI cB cI cJ cZ a o _ ce fr un sb se so sc wb we wo wc fb fe fo fc rm ac rf kn on ov (xs (x4 + 1).toNatClampNeg) (xs (x4 + 2).toNatClampNeg) r3 g3) (kcwSW hts kw_1005 kv_L_isFree rfl rfl ⟨(Nat.le_of_ble_eq_true rfl), (Nat.le_of_ble_eq_true rfl)⟩) (kpSXq (A := A) qP hK qD hG hZ hS qF) rfl rfl hl.1 rfl (lv_room (Nat.le_of_ble_eq_true rfl)) (kdr dgL_law_1404 4 0 rfl rfl) ⟨by show _ ≤ (600128 : Nat); omega, by show _ ≤ (7301098 : Nat); omega⟩) hP hD hS hA (kFr_2 (kFr_l kFr_SB) kFr_o) (fun H locs hP hD hS br3 => ?_)
  refine lv_istore (lv' := (kvI 5 r3.1 (kvA 0 b9 (kvA 1 (a 0) (kvA 2 (b 0) (kvA 3 o (kvI 4 x4 kvE))))))) hx hb (kdr dgL_law_1404 4 1 rfl rfl) hl (by decide) rfl (fun ls hl => ?_)
  refine lv_aload_n hx hb (kdr dgL_law_1404 4 2 rfl rfl) rfl (lv_at hl 3 rfl) ?_
  refine kld (v := 1) hx hb (kdr dgL_law_1404 4 3 rfl rfl) rfl (lv_at hl 1 rfl) (kdr dgL_law_1404 4 4 rfl rfl) (lv_at hl 5 rfl) (kdr dgL_law_1404 4 5 rfl rfl) (by decide) (kdr dgL_law_1404 4 6 rfl rfl) hX hbl hbA hS (ix_in z0) (kdr dgL_law_1404 4 7 rfl rfl) ?_
  refine kld (v := 2) hx hb (kdr dgL_law_1404 4 8 rfl rfl) rfl (lv_at hl 1 rfl) (kdr dgL_law_1404 4 9 rfl rfl) (lv_at hl 5 rfl) (kdr dgL_law_1404 5 0 rfl rfl) (by decide) (kdr dgL_law_1404 5 1 rfl rfl) hX hbl hbA hS (ix_in z1) (kdr dgL_law_1404 5 2 rfl rfl) ?_
  obtain ⟨r4, g4, h⟩ := g_b h
  refine kq_i ((wSB cI cJ cZ a ce fr un sb se so sc wb we wo wc fb fe fo fc rm ac rf kn) ++ (wMo cJ cZ b mce mfr mun mbe men mov msp mwb mwe mwi mac mre mkn r4.2) ++ (wO o r3.2 ov)) (fun qP qD qF => va_runV (As := [.int (xs (x4 + 1).toNatClampNeg), .int (xs (x4 + 2).toNatClampNeg)]) (rest := []) ⟨hx, hb, hml, hown, hts⟩ (c_X3_isFree l dC dI cB cI cJ cZ b _ mce mfr mun mbe men mov msp mwb mwe mwi mac mre mkn mth (xs (x4 + 1).toNatClampNeg) (xs (x4 + 2).toNatClampNeg) r4 g4) (kcwV hts kw_1352 kv_X3_isFree rfl rfl ⟨(Nat.le_of_ble_eq_true rfl), (Nat.le_of_ble_eq_true rfl)⟩) (kpV (A := A) qP hK qD hG (krecv_5 (q0 := 15) hK hP rfl)) rfl rfl hl.1 rfl (lv_room (Nat.le_of_ble_eq_true rfl)) (kdr dgL_law_1404 5 3 rfl rfl) ⟨by show _ ≤ (600128 : Nat); omega, by show _ ≤ (7301098 : Nat); omega⟩) hP hD hS hA (kFr_l (kFr_r kFr_Mo)) (fun H locs hP hD hS br4 => ?_)
  refine lv_istore (lv' := (kvI 6 r4.1 (kvI 5 r3.1 (kvA 0 b9 (kvA 1 (a 0) (kvA 2 (b 0) (kvA 3 o (kvI 4 x4 kvE)))))))) hx hb (kdr dgL_law_1404 5 4 rfl rfl) hl (by decide) rfl (fun ls hl => ?_)
  refine lv_goto (tgt := 1845) hx hb (kdr dgL_law_1404 5 5 rfl rfl) (by decide) ?_
  exact hK9 ce fr un sb se so sc wb we wo wc fb fe fo fc rm ac rf kn mce mfr mun mbe men mov msp mwb mwe mwi mac mre mkn r4.2 r3.2 ov x4 b _ _ _ _ (by omega) (by omega) hP hD hS ls (lv_sub hl [2, 3, 4, 5, 6] rfl) h
end
-- 22.casesc.lean.txt
section
noncomputable def flaw_1492 (L : Nat) (xs : Nat → Int32) (K : kFT) (ce : Nat → Int64) (fr : Int64) (un : Int64) (sb : Nat → Int64) (se : Nat → Int64) (so : Nat → Int32) (sc : Int32) (wb : Nat → Int64) (we : Nat → Int64) (wo : Nat → Int32) (wc : Int32) (fb : Nat → Int64) (fe : Nat → Int64) (fo : Nat → Int32) (fc : Int32) (rm : Nat → Int32) (ac : Int32) (rf : Int32) (kn : Int32) (mce : Nat → Int64) (mfr : Int64) (mun : Int64) (mbe : Nat → Int64) (men : Nat → Int64) (mov : Nat → Int32) (msp : Int32) (mwb : Nat → Int64) (mwe : Nat → Int64) (mwi : Int32) (mac : Int32) (mre : Int32) (mkn : Int32) (mth : Int32) (on : Int64) (x4 : Int32) : Option Int32 :=
  (f_X1_frees fr un sb se sc fb fe fo fc).bind fun r1 =>
  (f_X3_frees mfr mun mbe men msp).bind fun r2 =>
  K ce fr un sb se so sc wb we wo wc r1.2.1 r1.2.2.1 r1.2.2.2.1 r1.2.2.2.2 rm ac rf kn mce mfr mun mbe men mov msp mwb mwe mwi mac mre mkn r2.2 on x4
theorem flaw_1492_e {L : Nat} {xs : Nat → Int32} {K : kFT} (ce : Nat → Int64) (fr : Int64) (un : Int64) (sb : Nat → Int64) (se : Nat → Int64) (so : Nat → Int32) (sc : Int32) (wb : Nat → Int64) (we : Nat → Int64) (wo : Nat → Int32) (wc : Int32) (fb : Nat → Int64) (fe : Nat → Int64) (fo : Nat → Int32) (fc : Int32) (rm : Nat → Int32) (ac : Int32) (rf : Int32) (kn : Int32) (mce : Nat → Int64) (mfr : Int64) (mun : Int64) (mbe : Nat → Int64) (men : Nat → Int64) (mov : Nat → Int32) (msp : Int32) (mwb : Nat → Int64) (mwe : Nat → Int64) (mwi : Int32) (mac : Int32) (mre : Int32) (mkn : Int32) (mth : Int32) (on : Int64) (x4 : Int32) : flaw_1492 L xs K ce fr un sb se so sc wb we wo wc fb fe fo fc rm ac rf kn mce mfr mun mbe men mov msp mwb mwe mwi mac mre mkn mth on x4 =
  (f_X1_frees fr un sb se sc fb fe fo fc).bind fun r1 =>
  (f_X3_frees mfr mun mbe men msp).bind fun r2 =>
  K ce fr un sb se so sc wb we wo wc r1.2.1 r1.2.2.1 r1.2.2.2.1 r1.2.2.2.2 rm ac rf kn mce mfr mun mbe men mov msp mwb mwe mwi mac mre mkn r2.2 on x4 := rfl
set_option maxHeartbeats 8000000 in
set_option maxRecDepth 100000 in
theorem law_32 {p : Program} {l : Launch} {e : Env} {s : State} {m : MethodId} {below : List Frame} {meth : Method} {c : Code} {dC : Nat → ClassId} {dI : Nat → Nat → Nat} {cB cI cJ cZ : ClassId} {b9 L : Nat} {xs : Nat → Int32} {A : Nat → Prop} (hl9 : l.stackTraces = false) (C0 : kLw p s m c b9 L xs A) (hK : va_K (dC, dI) vwCl (kTy cB cI cJ cZ) s) {a : Nat → Nat} {o : Nat} (K : kFT) (bK sK : Nat) (hK9 : kGo p l e s m below meth c dC dI cB cI cJ cZ b9 A a o 1845 bK sK K) : kGo p l e s m below meth c dC dI cB cI cJ cZ b9 A a o 1492 (1 + bK) (22 + sK) (flaw_1492 L xs K) := by
  obtain ⟨hx, hb, hml, hown, hts, hX, hbl, hA, hbA, hG, hZ⟩ := C0
  intro ce fr un sb se so sc wb we wo wc fb fe fo fc rm ac rf kn mce mfr mun mbe men mov msp mwb mwe mwi mac mre mkn mth on ov x4 b H locs kc ks hkc hks hP hD hS ls hl h
  have h := (flaw_1492_e ce fr un sb se so sc wb we wo wc fb fe fo fc rm ac rf kn mce mfr mun mbe men mov msp mwb mwe mwi mac mre mkn mth on x4).symm.trans h
  refine lv_aload_n hx hb (kdr dgL_law_1404 5 6 rfl rfl) rfl (lv_at hl 1 rfl) ?_
  obtain ⟨r1, g1, h⟩ := g_b h
  refine kq_i ((wSB cI cJ cZ a ce fr un sb se so sc wb we wo wc r1.2.1 r1.2.2.1 r1.2.2.2.1 r1.2.2.2.2 rm ac rf kn) ++ (wMo cJ cZ b mce mfr mun mbe men mov msp mwb mwe mwi mac mre mkn mth) ++ (wO o on ov)) (fun qP qD qF => va_runV (As := []) (rest := []) ⟨hx, hb, hml, hown, hts⟩ (c_X1_frees l dC dI cB cI cJ cZ a _ ce fr un sb se so sc wb we wo wc fb fe fo fc rm ac rf kn  r1 g1) (kcwV hts kw_178 kv_X1_frees rfl rfl ⟨(Nat.le_of_ble_eq_true rfl), (Nat.le_of_ble_eq_true rfl)⟩) (kpV (A := A) qP hK qD hG (krecv_3 (q0 := 0) hK hP rfl)) rfl rfl hl.1 rfl (lv_room (Nat.le_of_ble_eq_true rfl)) (kdr dgL_law_1404 5 7 rfl rfl) ⟨by show _ ≤ (600128 : Nat); omega, by show _ ≤ (7301098 : Nat); omega⟩) hP hD hS hA (kFr_l (kFr_l kFr_SB)) (fun H locs hP hD hS br1 => ?_)
  refine lv_pop hx hb (kdr dgL_law_1404 5 8 rfl rfl) rfl ?_
  refine lv_aload_n hx hb (kdr dgL_law_1404 5 9 rfl rfl) rfl (lv_at hl 2 rfl) ?_
  obtain ⟨r2, g2, h⟩ := g_b h
  refine kq_i ((wSB cI cJ cZ a ce fr un sb se so sc wb we wo wc r1.2.1 r1.2.2.1 r1.2.2.2.1 r1.2.2.2.2 rm ac rf kn) ++ (wMo cJ cZ b mce mfr mun mbe men mov msp mwb mwe mwi mac mre mkn r2.2) ++ (wO o on ov)) (fun qP qD qF => va_runV (As := []) (rest := []) ⟨hx, hb, hml, hown, hts⟩ (c_X3_frees l dC dI cB cI cJ cZ b _ mce mfr mun mbe men mov msp mwb mwe mwi mac mre mkn mth  r2 g2) (kcwV hts kw_1356 kv_X3_frees rfl rfl ⟨(Nat.le_of_ble_eq_true rfl), (Nat.le_of_ble_eq_true rfl)⟩) (kpV (A := A) qP hK qD hG (krecv_5 (q0 := 15) hK hP rfl)) rfl rfl hl.1 rfl (lv_room (Nat.le_of_ble_eq_true rfl)) (kdr dgL_law_1404 6 0 rfl rfl) ⟨by show _ ≤ (600128 : Nat); omega, by show _ ≤ (7301098 : Nat); omega⟩) hP hD hS hA (kFr_l (kFr_r kFr_Mo)) (fun H locs hP hD hS br2 => ?_)
  refine lv_pop hx hb (kdr dgL_law_1404 6 1 rfl rfl) rfl ?_
  refine lv_goto (tgt := 1845) hx hb (kdr dgL_law_1404 6 2 rfl rfl) (by decide) ?_
  exact hK9 ce fr un sb se so sc wb we wo wc r1.2.1 r1.2.2.1 r1.2.2.2.1 r1.2.2.2.2 rm ac rf kn mce mfr mun mbe men mov msp mwb mwe mwi mac mre mkn r2.2 on ov x4 b _ _ _ _ (by omega) (by omega) hP hD hS ls (lv_sub hl [0, 1, 2, 3, 4] rfl) h
noncomputable def flaw_1505 (L : Nat) (xs : Nat → Int32) (K : kFT) (ce : Nat → Int64) (fr : Int64) (un : Int64) (sb : Nat → Int64) (se : Nat → Int64) (so : Nat → Int32) (sc : Int32) (wb : Nat → Int64) (we : Nat → Int64) (wo : Nat → Int32) (wc : Int32) (fb : Nat → Int64) (fe : Nat → Int64) (fo : Nat → Int32) (fc : Int32) (rm : Nat → Int32) (ac : Int32) (rf : Int32) (kn : Int32) (mce : Nat → Int64) (mfr : Int64) (mun : Int64) (mbe : Nat → Int64) (men : Nat → Int64) (mov : Nat → Int32) (msp : Int32) (mwb : Nat → Int64) (mwe : Nat → Int64) (mwi : Int32) (mac : Int32) (mre : Int32) (mkn : Int32) (mth : Int32) (on : Int64) (x4 : Int32) : Option Int32 :=
  if ix (x4 + 1) L then
    if ix (x4 + 2) L then
      (f_L_ofFree fr un sb se sc fb fe fo fc on (xs (x4 + 1).toNatClampNeg) (xs (x4 + 2).toNatClampNeg)).bind fun r3 =>
      (f_X3_ofFree mfr mun mbe men msp (xs (x4 + 1).toNatClampNeg) (xs (x4 + 2).toNatClampNeg)).bind fun r4 =>
      K ce fr un sb se so sc wb we wo wc r3.2.1 r3.2.2.1 r3.2.2.2.1 r3.2.2.2.2.1 rm ac rf kn mce mfr mun mbe men mov msp mwb mwe mwi mac mre mkn r4.2 r3.2.2.2.2.2 x4
    else none
  else none
theorem flaw_1505_e {L : Nat} {xs : Nat → Int32} {K : kFT} (ce : Nat → Int64) (fr : Int64) (un : Int64) (sb : Nat → Int64) (se : Nat → Int64) (so : Nat → Int32) (sc : Int32) (wb : Nat → Int64) (we : Nat → Int64) (wo : Nat → Int32) (wc : Int32) (fb : Nat → Int64) (fe : Nat → Int64) (fo : Nat → Int32) (fc : Int32) (rm : Nat → Int32) (ac : Int32) (rf : Int32) (kn : Int32) (mce : Nat → Int64) (mfr : Int64) (mun : Int64) (mbe : Nat → Int64) (men : Nat → Int64) (mov : Nat → Int32) (msp : Int32) (mwb : Nat → Int64) (mwe : Nat → Int64) (mwi : Int32) (mac : Int32) (mre : Int32) (mkn : Int32) (mth : Int32) (on : Int64) (x4 : Int32) : flaw_1505 L xs K ce fr un sb se so sc wb we wo wc fb fe fo fc rm ac rf kn mce mfr mun mbe men mov msp mwb mwe mwi mac mre mkn mth on x4 =
  if ix (x4 + 1) L then
    if ix (x4 + 2) L then
      (f_L_ofFree fr un sb se sc fb fe fo fc on (xs (x4 + 1).toNatClampNeg) (xs (x4 + 2).toNatClampNeg)).bind fun r3 =>
      (f_X3_ofFree mfr mun mbe men msp (xs (x4 + 1).toNatClampNeg) (xs (x4 + 2).toNatClampNeg)).bind fun r4 =>
      K ce fr un sb se so sc wb we wo wc r3.2.1 r3.2.2.1 r3.2.2.2.1 r3.2.2.2.2.1 rm ac rf kn mce mfr mun mbe men mov msp mwb mwe mwi mac mre mkn r4.2 r3.2.2.2.2.2 x4
    else none
  else none := rfl
set_option maxHeartbeats 8000000 in
set_option maxRecDepth 100000 in
theorem law_33 {p : Program} {l : Launch} {e : Env} {s : State} {m : MethodId} {below : List Frame} {meth : Method} {c : Code} {dC : Nat → ClassId} {dI : Nat → Nat → Nat} {cB cI cJ cZ : ClassId} {b9 L : Nat} {xs : Nat → Int32} {A : Nat → Prop} (hl9 : l.stackTraces = false) (C0 : kLw p s m c b9 L xs A) (hK : va_K (dC, dI) vwCl (kTy cB cI cJ cZ) s) {a : Nat → Nat} {o : Nat} (K : kFT) (bK sK : Nat) (hK9 : kGo p l e s m below meth c dC dI cB cI cJ cZ b9 A a o 1845 bK sK K) : kGo p l e s m below meth c dC dI cB cI cJ cZ b9 A a o 1505 (2 + bK) (28 + sK) (flaw_1505 L xs K) := by
  obtain ⟨hx, hb, hml, hown, hts, hX, hbl, hA, hbA, hG, hZ⟩ := C0
  intro ce fr un sb se so sc wb we wo wc fb fe fo fc rm ac rf kn mce mfr mun mbe men mov msp mwb mwe mwi mac mre mkn mth on ov x4 b H locs kc ks hkc hks hP hD hS ls hl h
  have h := (flaw_1505_e ce fr un sb se so sc wb we wo wc fb fe fo fc rm ac rf kn mce mfr mun mbe men mov msp mwb mwe mwi mac mre mkn mth on x4).symm.trans h
  refine lv_aload_n hx hb (kdr dgL_law_1404 6 3 rfl rfl) rfl (lv_at hl 1 rfl) ?_
  obtain ⟨z0, h⟩ := g_if h
  refine kld (v := 1) hx hb (kdr dgL_law_1404 6 4 rfl rfl) rfl (lv_at hl 0 rfl) (kdr dgL_law_1404 6 5 rfl rfl) (lv_at hl 4 rfl) (kdr dgL_law_1404 6 6 rfl rfl) (by decide) (kdr dgL_law_1404 6 7 rfl rfl) hX hbl hbA hS (ix_in z0) (kdr dgL_law_1404 6 8 rfl rfl) ?_
  obtain ⟨z1, h⟩ := g_if h
  refine kld (v := 2) hx hb (kdr dgL_law_1404 6 9 rfl rfl) rfl (lv_at hl 0 rfl) (kdr dgL_law_1404 7 0 rfl rfl) (lv_at hl 4 rfl) (kdr dgL_law_1404 7 1 rfl rfl) (by decide) (kdr dgL_law_1404 7 2 rfl rfl) hX hbl hbA hS (ix_in z1) (kdr dgL_law_1404 7 3 rfl rfl) ?_
  refine lv_aload_n hx hb (kdr dgL_law_1404 7 4 rfl rfl) rfl (lv_at hl 3 rfl) ?_
  obtain ⟨r3, g3, h⟩ := g_b h
  refine kq_i ((wSB cI cJ cZ a ce fr un sb se so sc wb we wo wc r3.2.1 r3.2.2.1 r3.2.2.2.1 r3.2.2.2.2.1 rm ac rf kn) ++ (wMo cJ cZ b mce mfr mun mbe men mov msp mwb mwe mwi mac mre mkn mth) ++ (wO o r3.2.2.2.2.2 ov)) (fun qP qD qF => vx_runSW (As := [.ref (a 0), .int (xs (x4 + 1).toNatClampNeg), .int (xs (x4 + 2).toNatClampNeg), .ref o]) (rest := []) ⟨hx, hb, hml, hown, hts⟩ (c_L_ofFree l hl9 dC dI cB cI cJ cZ a o _ ce fr un sb se so sc wb we wo wc fb fe fo fc rm ac rf kn on ov (xs (x4 + 1).toNatClampNeg) (xs (x4 + 2).toNatClampNeg) r3 g3) (kcwSW hts kw_1012 kv_L_ofFree rfl rfl ⟨(Nat.le_of_ble_eq_true rfl), (Nat.le_of_ble_eq_true rfl)⟩) (kpSXq (A := A) qP hK qD hG hZ hS qF) rfl rfl hl.1 rfl (lv_room (Nat.le_of_ble_eq_true rfl)) (kdr dgL_law_1404 7 5 rfl rfl) ⟨by show _ ≤ (600128 : Nat); omega, by show _ ≤ (7301098 : Nat); omega⟩) hP hD hS hA (kFr_2 (kFr_l kFr_SB) kFr_o) (fun H locs hP hD hS br3 => ?_)
  refine lv_istore (lv' := (kvI 5 r3.1 (kvA 0 b9 (kvA 1 (a 0) (kvA 2 (b 0) (kvA 3 o (kvI 4 x4 kvE))))))) hx hb (kdr dgL_law_1404 7 6 rfl rfl) hl (by decide) rfl (fun ls hl => ?_)
  refine lv_aload_n hx hb (kdr dgL_law_1404 7 7 rfl rfl) rfl (lv_at hl 3 rfl) ?_
  refine kld (v := 1) hx hb (kdr dgL_law_1404 7 8 rfl rfl) rfl (lv_at hl 1 rfl) (kdr dgL_law_1404 7 9 rfl rfl) (lv_at hl 5 rfl) (kdr dgL_law_1404 8 0 rfl rfl) (by decide) (kdr dgL_law_1404 8 1 rfl rfl) hX hbl hbA hS (ix_in z0) (kdr dgL_law_1404 8 2 rfl rfl) ?_
  refine kld (v := 2) hx hb (kdr dgL_law_1404 8 3 rfl rfl) rfl (lv_at hl 1 rfl) (kdr dgL_law_1404 8 4 rfl rfl) (lv_at hl 5 rfl) (kdr dgL_law_1404 8 5 rfl rfl) (by decide) (kdr dgL_law_1404 8 6 rfl rfl) hX hbl hbA hS (ix_in z1) (kdr dgL_law_1404 8 7 rfl rfl) ?_
  obtain ⟨r4, g4, h⟩ := g_b h
  refine kq_i ((wSB cI cJ cZ a ce fr un sb se so sc wb we wo wc r3.2.1 r3.2.2.1 r3.2.2.2.1 r3.2.2.2.2.1 rm ac rf kn) ++ (wMo cJ cZ b mce mfr mun mbe men mov msp mwb mwe mwi mac mre mkn r4.2) ++ (wO o r3.2.2.2.2.2 ov)) (fun qP qD qF => va_runV (As := [.int (xs (x4 + 1).toNatClampNeg), .int (xs (x4 + 2).toNatClampNeg)]) (rest := []) ⟨hx, hb, hml, hown, hts⟩ (c_X3_ofFree l dC dI cB cI cJ cZ b _ mce mfr mun mbe men mov msp mwb mwe mwi mac mre mkn mth (xs (x4 + 1).toNatClampNeg) (xs (x4 + 2).toNatClampNeg) r4 g4) (kcwV hts kw_1367 kv_X3_ofFree rfl rfl ⟨(Nat.le_of_ble_eq_true rfl), (Nat.le_of_ble_eq_true rfl)⟩) (kpV (A := A) qP hK qD hG (krecv_5 (q0 := 15) hK hP rfl)) rfl rfl hl.1 rfl (lv_room (Nat.le_of_ble_eq_true rfl)) (kdr dgL_law_1404 8 8 rfl rfl) ⟨by show _ ≤ (600128 : Nat); omega, by show _ ≤ (7301098 : Nat); omega⟩) hP hD hS hA (kFr_l (kFr_r kFr_Mo)) (fun H locs hP hD hS br4 => ?_)
  refine lv_istore (lv' := (kvI 6 r4.1 (kvI 5 r3.1 (kvA 0 b9 (kvA 1 (a 0) (kvA 2 (b 0) (kvA 3 o (kvI 4 x4 kvE)))))))) hx hb (kdr dgL_law_1404 8 9 rfl rfl) hl (by decide) rfl (fun ls hl => ?_)
  refine lv_goto (tgt := 1845) hx hb (kdr dgL_law_1404 9 0 rfl rfl) (by decide) ?_
  exact hK9 ce fr un sb se so sc wb we wo wc r3.2.1 r3.2.2.1 r3.2.2.2.1 r3.2.2.2.2.1 rm ac rf kn mce mfr mun mbe men mov msp mwb mwe mwi mac mre mkn r4.2 r3.2.2.2.2.2 ov x4 b _ _ _ _ (by omega) (by omega) hP hD hS ls (lv_sub hl [2, 3, 4, 5, 6] rfl) h
noncomputable def flaw_1545 (L : Nat) (xs : Nat → Int32) (K : kFT) (ce : Nat → Int64) (fr : Int64) (un : Int64) (sb : Nat → Int64) (se : Nat → Int64) (so : Nat → Int32) (sc : Int32) (wb : Nat → Int64) (we : Nat → Int64) (wo : Nat → Int32) (wc : Int32) (fb : Nat → Int64) (fe : Nat → Int64) (fo : Nat → Int32) (fc : Int32) (rm : Nat → Int32) (ac : Int32) (rf : Int32) (kn : Int32) (mce : Nat → Int64) (mfr : Int64) (mun : Int64) (mbe : Nat → Int64) (men : Nat → Int64) (mov : Nat → Int32) (msp : Int32) (mwb : Nat → Int64) (mwe : Nat → Int64) (mwi : Int32) (mac : Int32) (mre : Int32) (mkn : Int32) (mth : Int32) (on : Int64) (x4 : Int32) : Option Int32 :=
  if ix (x4 + 1) L then
    (f_L_freeAt ce fr un sb se sc fb fe fo fc on (xs (x4 + 1).toNatClampNeg)).bind fun r2 =>
    (f_X3_freeAt mce mfr mun mbe men msp (xs (x4 + 1).toNatClampNeg)).bind fun r3 =>
    K ce fr un sb se so sc wb we wo wc r2.2.1 r2.2.2.1 r2.2.2.2.1 r2.2.2.2.2.1 rm ac rf kn mce mfr mun mbe men mov msp mwb mwe mwi mac mre mkn r3.2 r2.2.2.2.2.2 x4
  else none
theorem flaw_1545_e {L : Nat} {xs : Nat → Int32} {K : kFT} (ce : Nat → Int64) (fr : Int64) (un : Int64) (sb : Nat → Int64) (se : Nat → Int64) (so : Nat → Int32) (sc : Int32) (wb : Nat → Int64) (we : Nat → Int64) (wo : Nat → Int32) (wc : Int32) (fb : Nat → Int64) (fe : Nat → Int64) (fo : Nat → Int32) (fc : Int32) (rm : Nat → Int32) (ac : Int32) (rf : Int32) (kn : Int32) (mce : Nat → Int64) (mfr : Int64) (mun : Int64) (mbe : Nat → Int64) (men : Nat → Int64) (mov : Nat → Int32) (msp : Int32) (mwb : Nat → Int64) (mwe : Nat → Int64) (mwi : Int32) (mac : Int32) (mre : Int32) (mkn : Int32) (mth : Int32) (on : Int64) (x4 : Int32) : flaw_1545 L xs K ce fr un sb se so sc wb we wo wc fb fe fo fc rm ac rf kn mce mfr mun mbe men mov msp mwb mwe mwi mac mre mkn mth on x4 =
  if ix (x4 + 1) L then
    (f_L_freeAt ce fr un sb se sc fb fe fo fc on (xs (x4 + 1).toNatClampNeg)).bind fun r2 =>
    (f_X3_freeAt mce mfr mun mbe men msp (xs (x4 + 1).toNatClampNeg)).bind fun r3 =>
    K ce fr un sb se so sc wb we wo wc r2.2.1 r2.2.2.1 r2.2.2.2.1 r2.2.2.2.2.1 rm ac rf kn mce mfr mun mbe men mov msp mwb mwe mwi mac mre mkn r3.2 r2.2.2.2.2.2 x4
  else none := rfl
set_option maxHeartbeats 8000000 in
set_option maxRecDepth 100000 in
theorem law_34 {p : Program} {l : Launch} {e : Env} {s : State} {m : MethodId} {below : List Frame} {meth : Method} {c : Code} {dC : Nat → ClassId} {dI : Nat → Nat → Nat} {cB cI cJ cZ : ClassId} {b9 L : Nat} {xs : Nat → Int32} {A : Nat → Prop} (hl9 : l.stackTraces = false) (C0 : kLw p s m c b9 L xs A) (hK : va_K (dC, dI) vwCl (kTy cB cI cJ cZ) s) {a : Nat → Nat} {o : Nat} (K : kFT) (bK sK : Nat) (hK9 : kGo p l e s m below meth c dC dI cB cI cJ cZ b9 A a o 1845 bK sK K) : kGo p l e s m below meth c dC dI cB cI cJ cZ b9 A a o 1545 (2 + bK) (28 + sK) (flaw_1545 L xs K) := by
  obtain ⟨hx, hb, hml, hown, hts, hX, hbl, hA, hbA, hG, hZ⟩ := C0
  intro ce fr un sb se so sc wb we wo wc fb fe fo fc rm ac rf kn mce mfr mun mbe men mov msp mwb mwe mwi mac mre mkn mth on ov x4 b H locs kc ks hkc hks hP hD hS ls hl h
  have h := (flaw_1545_e ce fr un sb se so sc wb we wo wc fb fe fo fc rm ac rf kn mce mfr mun mbe men mov msp mwb mwe mwi mac mre mkn mth on x4).symm.trans h
  refine lv_aload_n hx hb (kdr dgL_law_1404 9 1 rfl rfl) rfl (lv_at hl 1 rfl) ?_
  obtain ⟨z0, h⟩ := g_if h
  refine kld (v := 1) hx hb (kdr dgL_law_1404 9 2 rfl rfl) rfl (lv_at hl 0 rfl) (kdr dgL_law_1404 9 3 rfl rfl) (lv_at hl 4 rfl) (kdr dgL_law_1404 9 4 rfl rfl) (by decide) (kdr dgL_law_1404 9 5 rfl rfl) hX hbl hbA hS (ix_in z0) (kdr dgL_law_1404 9 6 rfl rfl) ?_
  refine lv_aload_n hx hb (kdr dgL_law_1404 9 7 rfl rfl) rfl (lv_at hl 3 rfl) ?_
  obtain ⟨r2, g2, h⟩ := g_b h
  refine kq_i ((wSB cI cJ cZ a ce fr un sb se so sc wb we wo wc r2.2.1 r2.2.2.1 r2.2.2.2.1 r2.2.2.2.2.1 rm ac rf kn) ++ (wMo cJ cZ b mce mfr mun mbe men mov msp mwb mwe mwi mac mre mkn mth) ++ (wO o r2.2.2.2.2.2 ov)) (fun qP qD qF => vx_runSW (As := [.ref (a 0), .int (xs (x4 + 1).toNatClampNeg), .ref o]) (rest := []) ⟨hx, hb, hml, hown, hts⟩ (c_L_freeAt l hl9 dC dI cB cI cJ cZ a o _ ce fr un sb se so sc wb we wo wc fb fe fo fc rm ac rf kn on ov (xs (x4 + 1).toNatClampNeg) r2 g2) (kcwSW hts kw_1019 kv_L_freeAt rfl rfl ⟨(Nat.le_of_ble_eq_true rfl), (Nat.le_of_ble_eq_true rfl)⟩) (kpSXq (A := A) qP hK qD hG hZ hS qF) rfl rfl hl.1 rfl (lv_room (Nat.le_of_ble_eq_true rfl)) (kdr dgL_law_1404 9 8 rfl rfl) ⟨by show _ ≤ (600128 : Nat); omega, by show _ ≤ (7301098 : Nat); omega⟩) hP hD hS hA (kFr_2 (kFr_l kFr_SB) kFr_o) (fun H locs hP hD hS br2 => ?_)
  refine lv_istore (lv' := (kvI 5 r2.1 (kvA 0 b9 (kvA 1 (a 0) (kvA 2 (b 0) (kvA 3 o (kvI 4 x4 kvE))))))) hx hb (kdr dgL_law_1404 9 9 rfl rfl) hl (by decide) rfl (fun ls hl => ?_)
  refine lv_aload_n hx hb (kdr dgL_law_1558 0 0 rfl rfl) rfl (lv_at hl 3 rfl) ?_
  refine kld (v := 1) hx hb (kdr dgL_law_1558 0 1 rfl rfl) rfl (lv_at hl 1 rfl) (kdr dgL_law_1558 0 2 rfl rfl) (lv_at hl 5 rfl) (kdr dgL_law_1558 0 3 rfl rfl) (by decide) (kdr dgL_law_1558 0 4 rfl rfl) hX hbl hbA hS (ix_in z0) (kdr dgL_law_1558 0 5 rfl rfl) ?_
  obtain ⟨r3, g3, h⟩ := g_b h
  refine kq_i ((wSB cI cJ cZ a ce fr un sb se so sc wb we wo wc r2.2.1 r2.2.2.1 r2.2.2.2.1 r2.2.2.2.2.1 rm ac rf kn) ++ (wMo cJ cZ b mce mfr mun mbe men mov msp mwb mwe mwi mac mre mkn r3.2) ++ (wO o r2.2.2.2.2.2 ov)) (fun qP qD qF => va_runV (As := [.int (xs (x4 + 1).toNatClampNeg)]) (rest := []) ⟨hx, hb, hml, hown, hts⟩ (c_X3_freeAt l dC dI cB cI cJ cZ b _ mce mfr mun mbe men mov msp mwb mwe mwi mac mre mkn mth (xs (x4 + 1).toNatClampNeg) r3 g3) (kcwV hts kw_1371 kv_X3_freeAt rfl rfl ⟨(Nat.le_of_ble_eq_true rfl), (Nat.le_of_ble_eq_true rfl)⟩) (kpV (A := A) qP hK qD hG (krecv_5 (q0 := 15) hK hP rfl)) rfl rfl hl.1 rfl (lv_room (Nat.le_of_ble_eq_true rfl)) (kdr dgL_law_1558 0 6 rfl rfl) ⟨by show _ ≤ (600128 : Nat); omega, by show _ ≤ (7301098 : Nat); omega⟩) hP hD hS hA (kFr_l (kFr_r kFr_Mo)) (fun H locs hP hD hS br3 => ?_)
  refine lv_istore (lv' := (kvI 6 r3.1 (kvI 5 r2.1 (kvA 0 b9 (kvA 1 (a 0) (kvA 2 (b 0) (kvA 3 o (kvI 4 x4 kvE)))))))) hx hb (kdr dgL_law_1558 0 7 rfl rfl) hl (by decide) rfl (fun ls hl => ?_)
  refine lv_goto (tgt := 1845) hx hb (kdr dgL_law_1558 0 8 rfl rfl) (by decide) ?_
  exact hK9 ce fr un sb se so sc wb we wo wc r2.2.1 r2.2.2.1 r2.2.2.2.1 r2.2.2.2.2.1 rm ac rf kn mce mfr mun mbe men mov msp mwb mwe mwi mac mre mkn r3.2 r2.2.2.2.2.2 ov x4 b _ _ _ _ (by omega) (by omega) hP hD hS ls (lv_sub hl [2, 3, 4, 5, 6] rfl) h
noncomputable def flaw_1573 (L : Nat) (xs : Nat → Int32) (K : kFT) (ce : Nat → Int64) (fr : Int64) (un : Int64) (sb : Nat → Int64) (se : Nat → Int64) (so : Nat → Int32) (sc : Int32) (wb : Nat → Int64) (we : Nat → Int64) (wo : Nat → Int32) (wc : Int32) (fb : Nat → Int64) (fe : Nat → Int64) (fo : Nat → Int32) (fc : Int32) (rm : Nat → Int32) (ac : Int32) (rf : Int32) (kn : Int32) (mce : Nat → Int64) (mfr : Int64) (mun : Int64) (mbe : Nat → Int64) (men : Nat → Int64) (mov : Nat → Int32) (msp : Int32) (mwb : Nat → Int64) (mwe : Nat → Int64) (mwi : Int32) (mac : Int32) (mre : Int32) (mkn : Int32) (mth : Int32) (on : Int64) (x4 : Int32) : Option Int32 :=
  if ix (x4 + 1) L then
    (f_L_length fr un sb se sc fb fe fo fc on (xs (x4 + 1).toNatClampNeg)).bind fun r2 =>
    (f_X3_length mfr mun mbe men msp (xs (x4 + 1).toNatClampNeg)).bind fun r3 =>
    K ce fr un sb se so sc wb we wo wc r2.2.1 r2.2.2.1 r2.2.2.2.1 r2.2.2.2.2.1 rm ac rf kn mce mfr mun mbe men mov msp mwb mwe mwi mac mre mkn r3.2 r2.2.2.2.2.2 x4
  else none
theorem flaw_1573_e {L : Nat} {xs : Nat → Int32} {K : kFT} (ce : Nat → Int64) (fr : Int64) (un : Int64) (sb : Nat → Int64) (se : Nat → Int64) (so : Nat → Int32) (sc : Int32) (wb : Nat → Int64) (we : Nat → Int64) (wo : Nat → Int32) (wc : Int32) (fb : Nat → Int64) (fe : Nat → Int64) (fo : Nat → Int32) (fc : Int32) (rm : Nat → Int32) (ac : Int32) (rf : Int32) (kn : Int32) (mce : Nat → Int64) (mfr : Int64) (mun : Int64) (mbe : Nat → Int64) (men : Nat → Int64) (mov : Nat → Int32) (msp : Int32) (mwb : Nat → Int64) (mwe : Nat → Int64) (mwi : Int32) (mac : Int32) (mre : Int32) (mkn : Int32) (mth : Int32) (on : Int64) (x4 : Int32) : flaw_1573 L xs K ce fr un sb se so sc wb we wo wc fb fe fo fc rm ac rf kn mce mfr mun mbe men mov msp mwb mwe mwi mac mre mkn mth on x4 =
  if ix (x4 + 1) L then
    (f_L_length fr un sb se sc fb fe fo fc on (xs (x4 + 1).toNatClampNeg)).bind fun r2 =>
    (f_X3_length mfr mun mbe men msp (xs (x4 + 1).toNatClampNeg)).bind fun r3 =>
    K ce fr un sb se so sc wb we wo wc r2.2.1 r2.2.2.1 r2.2.2.2.1 r2.2.2.2.2.1 rm ac rf kn mce mfr mun mbe men mov msp mwb mwe mwi mac mre mkn r3.2 r2.2.2.2.2.2 x4
  else none := rfl
set_option maxHeartbeats 8000000 in
set_option maxRecDepth 100000 in
theorem law_35 {p : Program} {l : Launch} {e : Env} {s : State} {m : MethodId} {below : List Frame} {meth : Method} {c : Code} {dC : Nat → ClassId} {dI : Nat → Nat → Nat} {cB cI cJ cZ : ClassId} {b9 L : Nat} {xs : Nat → Int32} {A : Nat → Prop} (hl9 : l.stackTraces = false) (C0 : kLw p s m c b9 L xs A) (hK : va_K (dC, dI) vwCl (kTy cB cI cJ cZ) s) {a : Nat → Nat} {o : Nat} (K : kFT) (bK sK : Nat) (hK9 : kGo p l e s m below meth c dC dI cB cI cJ cZ b9 A a o 1845 bK sK K) : kGo p l e s m below meth c dC dI cB cI cJ cZ b9 A a o 1573 (2 + bK) (28 + sK) (flaw_1573 L xs K) := by
  obtain ⟨hx, hb, hml, hown, hts, hX, hbl, hA, hbA, hG, hZ⟩ := C0
  intro ce fr un sb se so sc wb we wo wc fb fe fo fc rm ac rf kn mce mfr mun mbe men mov msp mwb mwe mwi mac mre mkn mth on ov x4 b H locs kc ks hkc hks hP hD hS ls hl h
  have h := (flaw_1573_e ce fr un sb se so sc wb we wo wc fb fe fo fc rm ac rf kn mce mfr mun mbe men mov msp mwb mwe mwi mac mre mkn mth on x4).symm.trans h
  refine lv_aload_n hx hb (kdr dgL_law_1558 0 9 rfl rfl) rfl (lv_at hl 1 rfl) ?_
  obtain ⟨z0, h⟩ := g_if h
  refine kld (v := 1) hx hb (kdr dgL_law_1558 1 0 rfl rfl) rfl (lv_at hl 0 rfl) (kdr dgL_law_1558 1 1 rfl rfl) (lv_at hl 4 rfl) (kdr dgL_law_1558 1 2 rfl rfl) (by decide) (kdr dgL_law_1558 1 3 rfl rfl) hX hbl hbA hS (ix_in z0) (kdr dgL_law_1558 1 4 rfl rfl) ?_
  refine lv_aload_n hx hb (kdr dgL_law_1558 1 5 rfl rfl) rfl (lv_at hl 3 rfl) ?_
  obtain ⟨r2, g2, h⟩ := g_b h
  refine kq_i ((wSB cI cJ cZ a ce fr un sb se so sc wb we wo wc r2.2.1 r2.2.2.1 r2.2.2.2.1 r2.2.2.2.2.1 rm ac rf kn) ++ (wMo cJ cZ b mce mfr mun mbe men mov msp mwb mwe mwi mac mre mkn mth) ++ (wO o r2.2.2.2.2.2 ov)) (fun qP qD qF => vx_runSW (As := [.ref (a 0), .int (xs (x4 + 1).toNatClampNeg), .ref o]) (rest := []) ⟨hx, hb, hml, hown, hts⟩ (c_L_length l hl9 dC dI cB cI cJ cZ a o _ ce fr un sb se so sc wb we wo wc fb fe fo fc rm ac rf kn on ov (xs (x4 + 1).toNatClampNeg) r2 g2) (kcwSW hts kw_1026 kv_L_length rfl rfl ⟨(Nat.le_of_ble_eq_true rfl), (Nat.le_of_ble_eq_true rfl)⟩) (kpSXq (A := A) qP hK qD hG hZ hS qF) rfl rfl hl.1 rfl (lv_room (Nat.le_of_ble_eq_true rfl)) (kdr dgL_law_1558 1 6 rfl rfl) ⟨by show _ ≤ (600128 : Nat); omega, by show _ ≤ (7301098 : Nat); omega⟩) hP hD hS hA (kFr_2 (kFr_l kFr_SB) kFr_o) (fun H locs hP hD hS br2 => ?_)
  refine lv_istore (lv' := (kvI 5 r2.1 (kvA 0 b9 (kvA 1 (a 0) (kvA 2 (b 0) (kvA 3 o (kvI 4 x4 kvE))))))) hx hb (kdr dgL_law_1558 1 7 rfl rfl) hl (by decide) rfl (fun ls hl => ?_)
  refine lv_aload_n hx hb (kdr dgL_law_1558 1 8 rfl rfl) rfl (lv_at hl 3 rfl) ?_
  refine kld (v := 1) hx hb (kdr dgL_law_1558 1 9 rfl rfl) rfl (lv_at hl 1 rfl) (kdr dgL_law_1558 2 0 rfl rfl) (lv_at hl 5 rfl) (kdr dgL_law_1558 2 1 rfl rfl) (by decide) (kdr dgL_law_1558 2 2 rfl rfl) hX hbl hbA hS (ix_in z0) (kdr dgL_law_1558 2 3 rfl rfl) ?_
  obtain ⟨r3, g3, h⟩ := g_b h
  refine kq_i ((wSB cI cJ cZ a ce fr un sb se so sc wb we wo wc r2.2.1 r2.2.2.1 r2.2.2.2.1 r2.2.2.2.2.1 rm ac rf kn) ++ (wMo cJ cZ b mce mfr mun mbe men mov msp mwb mwe mwi mac mre mkn r3.2) ++ (wO o r2.2.2.2.2.2 ov)) (fun qP qD qF => va_runV (As := [.int (xs (x4 + 1).toNatClampNeg)]) (rest := []) ⟨hx, hb, hml, hown, hts⟩ (c_X3_length l dC dI cB cI cJ cZ b _ mce mfr mun mbe men mov msp mwb mwe mwi mac mre mkn mth (xs (x4 + 1).toNatClampNeg) r3 g3) (kcwV hts kw_1375 kv_X3_length rfl rfl ⟨(Nat.le_of_ble_eq_true rfl), (Nat.le_of_ble_eq_true rfl)⟩) (kpV (A := A) qP hK qD hG (krecv_5 (q0 := 15) hK hP rfl)) rfl rfl hl.1 rfl (lv_room (Nat.le_of_ble_eq_true rfl)) (kdr dgL_law_1558 2 4 rfl rfl) ⟨by show _ ≤ (600128 : Nat); omega, by show _ ≤ (7301098 : Nat); omega⟩) hP hD hS hA (kFr_l (kFr_r kFr_Mo)) (fun H locs hP hD hS br3 => ?_)
  refine lv_istore (lv' := (kvI 6 r3.1 (kvI 5 r2.1 (kvA 0 b9 (kvA 1 (a 0) (kvA 2 (b 0) (kvA 3 o (kvI 4 x4 kvE)))))))) hx hb (kdr dgL_law_1558 2 5 rfl rfl) hl (by decide) rfl (fun ls hl => ?_)
  refine lv_goto (tgt := 1845) hx hb (kdr dgL_law_1558 2 6 rfl rfl) (by decide) ?_
  exact hK9 ce fr un sb se so sc wb we wo wc r2.2.1 r2.2.2.1 r2.2.2.2.1 r2.2.2.2.2.1 rm ac rf kn mce mfr mun mbe men mov msp mwb mwe mwi mac mre mkn r3.2 r2.2.2.2.2.2 ov x4 b _ _ _ _ (by omega) (by omega) hP hD hS ls (lv_sub hl [2, 3, 4, 5, 6] rfl) h
noncomputable def flaw_1601 (L : Nat) (xs : Nat → Int32) (K : kFT) (ce : Nat → Int64) (fr : Int64) (un : Int64) (sb : Nat → Int64) (se : Nat → Int64) (so : Nat → Int32) (sc : Int32) (wb : Nat → Int64) (we : Nat → Int64) (wo : Nat → Int32) (wc : Int32) (fb : Nat → Int64) (fe : Nat → Int64) (fo : Nat → Int32) (fc : Int32) (rm : Nat → Int32) (ac : Int32) (rf : Int32) (kn : Int32) (mce : Nat → Int64) (mfr : Int64) (mun : Int64) (mbe : Nat → Int64) (men : Nat → Int64) (mov : Nat → Int32) (msp : Int32) (mwb : Nat → Int64) (mwe : Nat → Int64) (mwi : Int32) (mac : Int32) (mre : Int32) (mkn : Int32) (mth : Int32) (on : Int64) (x4 : Int32) : Option Int32 :=
  (f_X1_wishes wc).bind fun r1 =>
  (f_X3_wishes mwi).bind fun r2 =>
  K ce fr un sb se so sc wb we wo wc fb fe fo fc rm ac rf kn mce mfr mun mbe men mov msp mwb mwe mwi mac mre mkn r2.2 on x4
theorem flaw_1601_e {L : Nat} {xs : Nat → Int32} {K : kFT} (ce : Nat → Int64) (fr : Int64) (un : Int64) (sb : Nat → Int64) (se : Nat → Int64) (so : Nat → Int32) (sc : Int32) (wb : Nat → Int64) (we : Nat → Int64) (wo : Nat → Int32) (wc : Int32) (fb : Nat → Int64) (fe : Nat → Int64) (fo : Nat → Int32) (fc : Int32) (rm : Nat → Int32) (ac : Int32) (rf : Int32) (kn : Int32) (mce : Nat → Int64) (mfr : Int64) (mun : Int64) (mbe : Nat → Int64) (men : Nat → Int64) (mov : Nat → Int32) (msp : Int32) (mwb : Nat → Int64) (mwe : Nat → Int64) (mwi : Int32) (mac : Int32) (mre : Int32) (mkn : Int32) (mth : Int32) (on : Int64) (x4 : Int32) : flaw_1601 L xs K ce fr un sb se so sc wb we wo wc fb fe fo fc rm ac rf kn mce mfr mun mbe men mov msp mwb mwe mwi mac mre mkn mth on x4 =
  (f_X1_wishes wc).bind fun r1 =>
  (f_X3_wishes mwi).bind fun r2 =>
  K ce fr un sb se so sc wb we wo wc fb fe fo fc rm ac rf kn mce mfr mun mbe men mov msp mwb mwe mwi mac mre mkn r2.2 on x4 := rfl
set_option maxHeartbeats 8000000 in
set_option maxRecDepth 100000 in
theorem law_36 {p : Program} {l : Launch} {e : Env} {s : State} {m : MethodId} {below : List Frame} {meth : Method} {c : Code} {dC : Nat → ClassId} {dI : Nat → Nat → Nat} {cB cI cJ cZ : ClassId} {b9 L : Nat} {xs : Nat → Int32} {A : Nat → Prop} (hl9 : l.stackTraces = false) (C0 : kLw p s m c b9 L xs A) (hK : va_K (dC, dI) vwCl (kTy cB cI cJ cZ) s) {a : Nat → Nat} {o : Nat} (K : kFT) (bK sK : Nat) (hK9 : kGo p l e s m below meth c dC dI cB cI cJ cZ b9 A a o 1845 bK sK K) : kGo p l e s m below meth c dC dI cB cI cJ cZ b9 A a o 1601 (0 + bK) (0 + sK) (flaw_1601 L xs K) := by
  obtain ⟨hx, hb, hml, hown, hts, hX, hbl, hA, hbA, hG, hZ⟩ := C0
  intro ce fr un sb se so sc wb we wo wc fb fe fo fc rm ac rf kn mce mfr mun mbe men mov msp mwb mwe mwi mac mre mkn mth on ov x4 b H locs kc ks hkc hks hP hD hS ls hl h
  have h := (flaw_1601_e ce fr un sb se so sc wb we wo wc fb fe fo fc rm ac rf kn mce mfr mun mbe men mov msp mwb mwe mwi mac mre mkn mth on x4).symm.trans h
  refine lv_aload_n hx hb (kdr dgL_law_1558 2 7 rfl rfl) rfl (lv_at hl 1 rfl) ?_
  obtain ⟨r1, g1, h⟩ := g_b h
  refine kq_i ((wSB cI cJ cZ a ce fr un sb se so sc wb we wo wc fb fe fo fc rm ac rf kn) ++ (wMo cJ cZ b mce mfr mun mbe men mov msp mwb mwe mwi mac mre mkn mth) ++ (wO o on ov)) (fun qP qD qF => va_runV (As := []) (rest := []) ⟨hx, hb, hml, hown, hts⟩ (c_X1_wishes l dC dI cB cI cJ cZ a _ ce fr un sb se so sc wb we wo wc fb fe fo fc rm ac rf kn  r1 g1) (kcwV hts kw_219 kv_X1_wishes rfl rfl ⟨(Nat.le_of_ble_eq_true rfl), (Nat.le_of_ble_eq_true rfl)⟩) (kpV (A := A) qP hK qD hG (krecv_3 (q0 := 0) hK hP rfl)) rfl rfl hl.1 rfl (lv_room (Nat.le_of_ble_eq_true rfl)) (kdr dgL_law_1558 2 8 rfl rfl) ⟨by show _ ≤ (600128 : Nat); omega, by show _ ≤ (7301098 : Nat); omega⟩) hP hD hS hA (kFr_l (kFr_l kFr_SB)) (fun H locs hP hD hS br1 => ?_)
  refine lv_pop hx hb (kdr dgL_law_1558 2 9 rfl rfl) rfl ?_
  refine lv_aload_n hx hb (kdr dgL_law_1558 3 0 rfl rfl) rfl (lv_at hl 2 rfl) ?_
  obtain ⟨r2, g2, h⟩ := g_b h
  refine kq_i ((wSB cI cJ cZ a ce fr un sb se so sc wb we wo wc fb fe fo fc rm ac rf kn) ++ (wMo cJ cZ b mce mfr mun mbe men mov msp mwb mwe mwi mac mre mkn r2.2) ++ (wO o on ov)) (fun qP qD qF => va_runV (As := []) (rest := []) ⟨hx, hb, hml, hown, hts⟩ (c_X3_wishes l dC dI cB cI cJ cZ b _ mce mfr mun mbe men mov msp mwb mwe mwi mac mre mkn mth  r2 g2) (kcwV hts kw_1387 kv_X3_wishes rfl rfl ⟨(Nat.le_of_ble_eq_true rfl), (Nat.le_of_ble_eq_true rfl)⟩) (kpV (A := A) qP hK qD hG (krecv_5 (q0 := 15) hK hP rfl)) rfl rfl hl.1 rfl (lv_room (Nat.le_of_ble_eq_true rfl)) (kdr dgL_law_1558 3 1 rfl rfl) ⟨by show _ ≤ (600128 : Nat); omega, by show _ ≤ (7301098 : Nat); omega⟩) hP hD hS hA (kFr_l (kFr_r kFr_Mo)) (fun H locs hP hD hS br2 => ?_)
  refine lv_pop hx hb (kdr dgL_law_1558 3 2 rfl rfl) rfl ?_
  refine lv_goto (tgt := 1845) hx hb (kdr dgL_law_1558 3 3 rfl rfl) (by decide) ?_
  exact hK9 ce fr un sb se so sc wb we wo wc fb fe fo fc rm ac rf kn mce mfr mun mbe men mov msp mwb mwe mwi mac mre mkn r2.2 on ov x4 b _ _ _ _ (by omega) (by omega) hP hD hS ls (lv_sub hl [0, 1, 2, 3, 4] rfl) h
noncomputable def flaw_1614 (L : Nat) (xs : Nat → Int32) (K : kFT) (ce : Nat → Int64) (fr : Int64) (un : Int64) (sb : Nat → Int64) (se : Nat → Int64) (so : Nat → Int32) (sc : Int32) (wb : Nat → Int64) (we : Nat → Int64) (wo : Nat → Int32) (wc : Int32) (fb : Nat → Int64) (fe : Nat → Int64) (fo : Nat → Int32) (fc : Int32) (rm : Nat → Int32) (ac : Int32) (rf : Int32) (kn : Int32) (mce : Nat → Int64) (mfr : Int64) (mun : Int64) (mbe : Nat → Int64) (men : Nat → Int64) (mov : Nat → Int32) (msp : Int32) (mwb : Nat → Int64) (mwe : Nat → Int64) (mwi : Int32) (mac : Int32) (mre : Int32) (mkn : Int32) (mth : Int32) (on : Int64) (x4 : Int32) : Option Int32 :=
  if ix (x4 + 1) L then
    if ix (x4 + 2) L then
      (f_L_ofWish wb we wc on (xs (x4 + 1).toNatClampNeg) (xs (x4 + 2).toNatClampNeg)).bind fun r3 =>
      (f_X3_ofWish mwb mwe mwi (xs (x4 + 1).toNatClampNeg) (xs (x4 + 2).toNatClampNeg)).bind fun r4 =>
      K ce fr un sb se so sc wb we wo wc fb fe fo fc rm ac rf kn mce mfr mun mbe men mov msp mwb mwe mwi mac mre mkn r4.2 r3.2 x4
    else none
  else none
theorem flaw_1614_e {L : Nat} {xs : Nat → Int32} {K : kFT} (ce : Nat → Int64) (fr : Int64) (un : Int64) (sb : Nat → Int64) (se : Nat → Int64) (so : Nat → Int32) (sc : Int32) (wb : Nat → Int64) (we : Nat → Int64) (wo : Nat → Int32) (wc : Int32) (fb : Nat → Int64) (fe : Nat → Int64) (fo : Nat → Int32) (fc : Int32) (rm : Nat → Int32) (ac : Int32) (rf : Int32) (kn : Int32) (mce : Nat → Int64) (mfr : Int64) (mun : Int64) (mbe : Nat → Int64) (men : Nat → Int64) (mov : Nat → Int32) (msp : Int32) (mwb : Nat → Int64) (mwe : Nat → Int64) (mwi : Int32) (mac : Int32) (mre : Int32) (mkn : Int32) (mth : Int32) (on : Int64) (x4 : Int32) : flaw_1614 L xs K ce fr un sb se so sc wb we wo wc fb fe fo fc rm ac rf kn mce mfr mun mbe men mov msp mwb mwe mwi mac mre mkn mth on x4 =
  if ix (x4 + 1) L then
    if ix (x4 + 2) L then
      (f_L_ofWish wb we wc on (xs (x4 + 1).toNatClampNeg) (xs (x4 + 2).toNatClampNeg)).bind fun r3 =>
      (f_X3_ofWish mwb mwe mwi (xs (x4 + 1).toNatClampNeg) (xs (x4 + 2).toNatClampNeg)).bind fun r4 =>
      K ce fr un sb se so sc wb we wo wc fb fe fo fc rm ac rf kn mce mfr mun mbe men mov msp mwb mwe mwi mac mre mkn r4.2 r3.2 x4
    else none
  else none := rfl
set_option maxHeartbeats 8000000 in
set_option maxRecDepth 100000 in
theorem law_37 {p : Program} {l : Launch} {e : Env} {s : State} {m : MethodId} {below : List Frame} {meth : Method} {c : Code} {dC : Nat → ClassId} {dI : Nat → Nat → Nat} {cB cI cJ cZ : ClassId} {b9 L : Nat} {xs : Nat → Int32} {A : Nat → Prop} (hl9 : l.stackTraces = false) (C0 : kLw p s m c b9 L xs A) (hK : va_K (dC, dI) vwCl (kTy cB cI cJ cZ) s) {a : Nat → Nat} {o : Nat} (K : kFT) (bK sK : Nat) (hK9 : kGo p l e s m below meth c dC dI cB cI cJ cZ b9 A a o 1845 bK sK K) : kGo p l e s m below meth c dC dI cB cI cJ cZ b9 A a o 1614 (1 + bK) (6 + sK) (flaw_1614 L xs K) := by
  obtain ⟨hx, hb, hml, hown, hts, hX, hbl, hA, hbA, hG, hZ⟩ := C0
  intro ce fr un sb se so sc wb we wo wc fb fe fo fc rm ac rf kn mce mfr mun mbe men mov msp mwb mwe mwi mac mre mkn mth on ov x4 b H locs kc ks hkc hks hP hD hS ls hl h
  have h := (flaw_1614_e ce fr un sb se so sc wb we wo wc fb fe fo fc rm ac rf kn mce mfr mun mbe men mov msp mwb mwe mwi mac mre mkn mth on x4).symm.trans h
  refine lv_aload_n hx hb (kdr dgL_law_1558 3 4 rfl rfl) rfl (lv_at hl 1 rfl) ?_
  obtain ⟨z0, h⟩ := g_if h
  refine kld (v := 1) hx hb (kdr dgL_law_1558 3 5 rfl rfl) rfl (lv_at hl 0 rfl) (kdr dgL_law_1558 3 6 rfl rfl) (lv_at hl 4 rfl) (kdr dgL_law_1558 3 7 rfl rfl) (by decide) (kdr dgL_law_1558 3 8 rfl rfl) hX hbl hbA hS (ix_in z0) (kdr dgL_law_1558 3 9 rfl rfl) ?_
  obtain ⟨z1, h⟩ := g_if h
  refine kld (v := 2) hx hb (kdr dgL_law_1558 4 0 rfl rfl) rfl (lv_at hl 0 rfl) (kdr dgL_law_1558 4 1 rfl rfl) (lv_at hl 4 rfl) (kdr dgL_law_1558 4 2 rfl rfl) (by decide) (kdr dgL_law_1558 4 3 rfl rfl) hX hbl hbA hS (ix_in z1) (kdr dgL_law_1558 4 4 rfl rfl) ?_
  refine lv_aload_n hx hb (kdr dgL_law_1558 4 5 rfl rfl) rfl (lv_at hl 3 rfl) ?_
  obtain ⟨r3, g3, h⟩ := g_b h
  refine kq_i ((wSB cI cJ cZ a ce fr un sb se so sc wb we wo wc fb fe fo fc rm ac rf kn) ++ (wMo cJ cZ b mce mfr mun mbe men mov msp mwb mwe mwi mac mre mkn mth) ++ (wO o r3.2 ov)) (fun qP qD qF => vx_runSW (As := [.ref (a 0), .int (xs (x4 + 1).toNatClampNeg), .int (xs (x4 + 2).toNatClampNeg), .ref o]) (rest := []) ⟨hx, hb, hml, hown, hts⟩ (c_L_ofWish l hl9 dC dI cB cI cJ cZ a o _ ce fr un sb se so sc wb we wo wc fb fe fo fc rm ac rf kn on ov (xs (x4 + 1).toNatClampNeg) (xs (x4 + 2).toNatClampNeg) r3 g3) (kcwSW hts kw_1030 kv_L_ofWish rfl rfl ⟨(Nat.le_of_ble_eq_true rfl), (Nat.le_of_ble_eq_true rfl)⟩) (kpSXq (A := A) qP hK qD hG hZ hS qF) rfl rfl hl.1 rfl (lv_room (Nat.le_of_ble_eq_true rfl)) (kdr dgL_law_1558 4 6 rfl rfl) ⟨by show _ ≤ (600128 : Nat); omega, by show _ ≤ (7301098 : Nat); omega⟩) hP hD hS hA (kFr_2 (kFr_l kFr_SB) kFr_o) (fun H locs hP hD hS br3 => ?_)
  refine lv_istore (lv' := (kvI 5 r3.1 (kvA 0 b9 (kvA 1 (a 0) (kvA 2 (b 0) (kvA 3 o (kvI 4 x4 kvE))))))) hx hb (kdr dgL_law_1558 4 7 rfl rfl) hl (by decide) rfl (fun ls hl => ?_)
  refine lv_aload_n hx hb (kdr dgL_law_1558 4 8 rfl rfl) rfl (lv_at hl 3 rfl) ?_
  refine kld (v := 1) hx hb (kdr dgL_law_1558 4 9 rfl rfl) rfl (lv_at hl 1 rfl) (kdr dgL_law_1558 5 0 rfl rfl) (lv_at hl 5 rfl) (kdr dgL_law_1558 5 1 rfl rfl) (by decide) (kdr dgL_law_1558 5 2 rfl rfl) hX hbl hbA hS (ix_in z0) (kdr dgL_law_1558 5 3 rfl rfl) ?_
  refine kld (v := 2) hx hb (kdr dgL_law_1558 5 4 rfl rfl) rfl (lv_at hl 1 rfl) (kdr dgL_law_1558 5 5 rfl rfl) (lv_at hl 5 rfl) (kdr dgL_law_1558 5 6 rfl rfl) (by decide) (kdr dgL_law_1558 5 7 rfl rfl) hX hbl hbA hS (ix_in z1) (kdr dgL_law_1558 5 8 rfl rfl) ?_
  obtain ⟨r4, g4, h⟩ := g_b h
  refine kq_i ((wSB cI cJ cZ a ce fr un sb se so sc wb we wo wc fb fe fo fc rm ac rf kn) ++ (wMo cJ cZ b mce mfr mun mbe men mov msp mwb mwe mwi mac mre mkn r4.2) ++ (wO o r3.2 ov)) (fun qP qD qF => va_runV (As := [.int (xs (x4 + 1).toNatClampNeg), .int (xs (x4 + 2).toNatClampNeg)]) (rest := []) ⟨hx, hb, hml, hown, hts⟩ (c_X3_ofWish l dC dI cB cI cJ cZ b _ mce mfr mun mbe men mov msp mwb mwe mwi mac mre mkn mth (xs (x4 + 1).toNatClampNeg) (xs (x4 + 2).toNatClampNeg) r4 g4) (kcwV hts kw_1391 kv_X3_ofWish rfl rfl ⟨(Nat.le_of_ble_eq_true rfl), (Nat.le_of_ble_eq_true rfl)⟩) (kpV (A := A) qP hK qD hG (krecv_5 (q0 := 15) hK hP rfl)) rfl rfl hl.1 rfl (lv_room (Nat.le_of_ble_eq_true rfl)) (kdr dgL_law_1558 5 9 rfl rfl) ⟨by show _ ≤ (600128 : Nat); omega, by show _ ≤ (7301098 : Nat); omega⟩) hP hD hS hA (kFr_l (kFr_r kFr_Mo)) (fun H locs hP hD hS br4 => ?_)
  refine lv_istore (lv' := (kvI 6 r4.1 (kvI 5 r3.1 (kvA 0 b9 (kvA 1 (a 0) (kvA 2 (b 0) (kvA 3 o (kvI 4 x4 kvE)))))))) hx hb (kdr dgL_law_1558 6 0 rfl rfl) hl (by decide) rfl (fun ls hl => ?_)
  refine lv_goto (tgt := 1845) hx hb (kdr dgL_law_1558 6 1 rfl rfl) (by decide) ?_
  exact hK9 ce fr un sb se so sc wb we wo wc fb fe fo fc rm ac rf kn mce mfr mun mbe men mov msp mwb mwe mwi mac mre mkn r4.2 r3.2 ov x4 b _ _ _ _ (by omega) (by omega) hP hD hS ls (lv_sub hl [2, 3, 4, 5, 6] rfl) h
noncomputable def flaw_1654 (L : Nat) (xs : Nat → Int32) (K : kFT) (ce : Nat → Int64) (fr : Int64) (un : Int64) (sb : Nat → Int64) (se : Nat → Int64) (so : Nat → Int32) (sc : Int32) (wb : Nat → Int64) (we : Nat → Int64) (wo : Nat → Int32) (wc : Int32) (fb : Nat → Int64) (fe : Nat → Int64) (fo : Nat → Int32) (fc : Int32) (rm : Nat → Int32) (ac : Int32) (rf : Int32) (kn : Int32) (mce : Nat → Int64) (mfr : Int64) (mun : Int64) (mbe : Nat → Int64) (men : Nat → Int64) (mov : Nat → Int32) (msp : Int32) (mwb : Nat → Int64) (mwe : Nat → Int64) (mwi : Int32) (mac : Int32) (mre : Int32) (mkn : Int32) (mth : Int32) (on : Int64) (x4 : Int32) : Option Int32 :=
  if ix (x4 + 1) L then
    (f_L_isApart wb we wc on (xs (x4 + 1).toNatClampNeg)).bind fun r2 =>
    (f_X3_isApart mwb mwe mwi (xs (x4 + 1).toNatClampNeg)).bind fun r3 =>
    K ce fr un sb se so sc wb we wo wc fb fe fo fc rm ac rf kn mce mfr mun mbe men mov msp mwb mwe mwi mac mre mkn r3.2 r2.2 x4
  else none
theorem flaw_1654_e {L : Nat} {xs : Nat → Int32} {K : kFT} (ce : Nat → Int64) (fr : Int64) (un : Int64) (sb : Nat → Int64) (se : Nat → Int64) (so : Nat → Int32) (sc : Int32) (wb : Nat → Int64) (we : Nat → Int64) (wo : Nat → Int32) (wc : Int32) (fb : Nat → Int64) (fe : Nat → Int64) (fo : Nat → Int32) (fc : Int32) (rm : Nat → Int32) (ac : Int32) (rf : Int32) (kn : Int32) (mce : Nat → Int64) (mfr : Int64) (mun : Int64) (mbe : Nat → Int64) (men : Nat → Int64) (mov : Nat → Int32) (msp : Int32) (mwb : Nat → Int64) (mwe : Nat → Int64) (mwi : Int32) (mac : Int32) (mre : Int32) (mkn : Int32) (mth : Int32) (on : Int64) (x4 : Int32) : flaw_1654 L xs K ce fr un sb se so sc wb we wo wc fb fe fo fc rm ac rf kn mce mfr mun mbe men mov msp mwb mwe mwi mac mre mkn mth on x4 =
  if ix (x4 + 1) L then
    (f_L_isApart wb we wc on (xs (x4 + 1).toNatClampNeg)).bind fun r2 =>
    (f_X3_isApart mwb mwe mwi (xs (x4 + 1).toNatClampNeg)).bind fun r3 =>
    K ce fr un sb se so sc wb we wo wc fb fe fo fc rm ac rf kn mce mfr mun mbe men mov msp mwb mwe mwi mac mre mkn r3.2 r2.2 x4
  else none := rfl
set_option maxHeartbeats 8000000 in
set_option maxRecDepth 100000 in
theorem law_38 {p : Program} {l : Launch} {e : Env} {s : State} {m : MethodId} {below : List Frame} {meth : Method} {c : Code} {dC : Nat → ClassId} {dI : Nat → Nat → Nat} {cB cI cJ cZ : ClassId} {b9 L : Nat} {xs : Nat → Int32} {A : Nat → Prop} (hl9 : l.stackTraces = false) (C0 : kLw p s m c b9 L xs A) (hK : va_K (dC, dI) vwCl (kTy cB cI cJ cZ) s) {a : Nat → Nat} {o : Nat} (K : kFT) (bK sK : Nat) (hK9 : kGo p l e s m below meth c dC dI cB cI cJ cZ b9 A a o 1845 bK sK K) : kGo p l e s m below meth c dC dI cB cI cJ cZ b9 A a o 1654 (1 + bK) (6 + sK) (flaw_1654 L xs K) := by
  obtain ⟨hx, hb, hml, hown, hts, hX, hbl, hA, hbA, hG, hZ⟩ := C0
  intro ce fr un sb se so sc wb we wo wc fb fe fo fc rm ac rf kn mce mfr mun mbe men mov msp mwb mwe mwi mac mre mkn mth on ov x4 b H locs kc ks hkc hks hP hD hS ls hl h
  have h := (flaw_1654_e ce fr un sb se so sc wb we wo wc fb fe fo fc rm ac rf kn mce mfr mun mbe men mov msp mwb mwe mwi mac mre mkn mth on x4).symm.trans h
  refine lv_aload_n hx hb (kdr dgL_law_1558 6 2 rfl rfl) rfl (lv_at hl 1 rfl) ?_
  obtain ⟨z0, h⟩ := g_if h
  refine kld (v := 1) hx hb (kdr dgL_law_1558 6 3 rfl rfl) rfl (lv_at hl 0 rfl) (kdr dgL_law_1558 6 4 rfl rfl) (lv_at hl 4 rfl) (kdr dgL_law_1558 6 5 rfl rfl) (by decide) (kdr dgL_law_1558 6 6 rfl rfl) hX hbl hbA hS (ix_in z0) (kdr dgL_law_1558 6 7 rfl rfl) ?_
  refine lv_aload_n hx hb (kdr dgL_law_1558 6 8 rfl rfl) rfl (lv_at hl 3 rfl) ?_
  obtain ⟨r2, g2, h⟩ := g_b h
  refine kq_i ((wSB cI cJ cZ a ce fr un sb se so sc wb we wo wc fb fe fo fc rm ac rf kn) ++ (wMo cJ cZ b mce mfr mun mbe men mov msp mwb mwe mwi mac mre mkn mth) ++ (wO o r2.2 ov)) (fun qP qD qF => vx_runSW (As := [.ref (a 0), .int (xs (x4 + 1).toNatClampNeg), .ref o]) (rest := []) ⟨hx, hb, hml, hown, hts⟩ (c_L_isApart l hl9 dC dI cB cI cJ cZ a o _ ce fr un sb se so sc wb we wo wc fb fe fo fc rm ac rf kn on ov (xs (x4 + 1).toNatClampNeg) r2 g2) (kcwSW hts kw_1037 kv_L_isApart rfl rfl ⟨(Nat.le_of_ble_eq_true rfl), (Nat.le_of_ble_eq_true rfl)⟩) (kpSXq (A := A) qP hK qD hG hZ hS qF) rfl rfl hl.1 rfl (lv_room (Nat.le_of_ble_eq_true rfl)) (kdr dgL_law_1558 6 9 rfl rfl) ⟨by show _ ≤ (600128 : Nat); omega, by show _ ≤ (7301098 : Nat); omega⟩) hP hD hS hA (kFr_2 (kFr_l kFr_SB) kFr_o) (fun H locs hP hD hS br2 => ?_)
  refine lv_istore (lv' := (kvI 5 r2.1 (kvA 0 b9 (kvA 1 (a 0) (kvA 2 (b 0) (kvA 3 o (kvI 4 x4 kvE))))))) hx hb (kdr dgL_law_1558 7 0 rfl rfl) hl (by decide) rfl (fun ls hl => ?_)
  refine lv_aload_n hx hb (kdr dgL_law_1558 7 1 rfl rfl) rfl (lv_at hl 3 rfl) ?_
  refine kld (v := 1) hx hb (kdr dgL_law_1558 7 2 rfl rfl) rfl (lv_at hl 1 rfl) (kdr dgL_law_1558 7 3 rfl rfl) (lv_at hl 5 rfl) (kdr dgL_law_1558 7 4 rfl rfl) (by decide) (kdr dgL_law_1558 7 5 rfl rfl) hX hbl hbA hS (ix_in z0) (kdr dgL_law_1558 7 6 rfl rfl) ?_
  obtain ⟨r3, g3, h⟩ := g_b h
  refine kq_i ((wSB cI cJ cZ a ce fr un sb se so sc wb we wo wc fb fe fo fc rm ac rf kn) ++ (wMo cJ cZ b mce mfr mun mbe men mov msp mwb mwe mwi mac mre mkn r3.2) ++ (wO o r2.2 ov)) (fun qP qD qF => va_runV (As := [.int (xs (x4 + 1).toNatClampNeg)]) (rest := []) ⟨hx, hb, hml, hown, hts⟩ (c_X3_isApart l dC dI cB cI cJ cZ b _ mce mfr mun mbe men mov msp mwb mwe mwi mac mre mkn mth (xs (x4 + 1).toNatClampNeg) r3 g3) (kcwV hts kw_1395 kv_X3_isApart rfl rfl ⟨(Nat.le_of_ble_eq_true rfl), (Nat.le_of_ble_eq_true rfl)⟩) (kpV (A := A) qP hK qD hG (krecv_5 (q0 := 15) hK hP rfl)) rfl rfl hl.1 rfl (lv_room (Nat.le_of_ble_eq_true rfl)) (kdr dgL_law_1558 7 7 rfl rfl) ⟨by show _ ≤ (600128 : Nat); omega, by show _ ≤ (7301098 : Nat); omega⟩) hP hD hS hA (kFr_l (kFr_r kFr_Mo)) (fun H locs hP hD hS br3 => ?_)
  refine lv_istore (lv' := (kvI 6 r3.1 (kvI 5 r2.1 (kvA 0 b9 (kvA 1 (a 0) (kvA 2 (b 0) (kvA 3 o (kvI 4 x4 kvE)))))))) hx hb (kdr dgL_law_1558 7 8 rfl rfl) hl (by decide) rfl (fun ls hl => ?_)
  refine lv_goto (tgt := 1845) hx hb (kdr dgL_law_1558 7 9 rfl rfl) (by decide) ?_
  exact hK9 ce fr un sb se so sc wb we wo wc fb fe fo fc rm ac rf kn mce mfr mun mbe men mov msp mwb mwe mwi mac mre mkn r3.2 r2.2 ov x4 b _ _ _ _ (by omega) (by omega) hP hD hS ls (lv_sub hl [2, 3, 4, 5, 6] rfl) h
noncomputable def flaw_1682 (L : Nat) (xs : Nat → Int32) (K : kFT) (ce : Nat → Int64) (fr : Int64) (un : Int64) (sb : Nat → Int64) (se : Nat → Int64) (so : Nat → Int32) (sc : Int32) (wb : Nat → Int64) (we : Nat → Int64) (wo : Nat → Int32) (wc : Int32) (fb : Nat → Int64) (fe : Nat → Int64) (fo : Nat → Int32) (fc : Int32) (rm : Nat → Int32) (ac : Int32) (rf : Int32) (kn : Int32) (mce : Nat → Int64) (mfr : Int64) (mun : Int64) (mbe : Nat → Int64) (men : Nat → Int64) (mov : Nat → Int32) (msp : Int32) (mwb : Nat → Int64) (mwe : Nat → Int64) (mwi : Int32) (mac : Int32) (mre : Int32) (mkn : Int32) (mth : Int32) (on : Int64) (x4 : Int32) : Option Int32 :=
  (f_X1_chosen wb we wc).bind fun r1 =>
  (f_X3_chosen mwb mwe mwi).bind fun r2 =>
  K ce fr un sb se so sc wb we wo wc fb fe fo fc rm ac rf kn mce mfr mun mbe men mov msp mwb mwe mwi mac mre mkn r2.2 on x4
theorem flaw_1682_e {L : Nat} {xs : Nat → Int32} {K : kFT} (ce : Nat → Int64) (fr : Int64) (un : Int64) (sb : Nat → Int64) (se : Nat → Int64) (so : Nat → Int32) (sc : Int32) (wb : Nat → Int64) (we : Nat → Int64) (wo : Nat → Int32) (wc : Int32) (fb : Nat → Int64) (fe : Nat → Int64) (fo : Nat → Int32) (fc : Int32) (rm : Nat → Int32) (ac : Int32) (rf : Int32) (kn : Int32) (mce : Nat → Int64) (mfr : Int64) (mun : Int64) (mbe : Nat → Int64) (men : Nat → Int64) (mov : Nat → Int32) (msp : Int32) (mwb : Nat → Int64) (mwe : Nat → Int64) (mwi : Int32) (mac : Int32) (mre : Int32) (mkn : Int32) (mth : Int32) (on : Int64) (x4 : Int32) : flaw_1682 L xs K ce fr un sb se so sc wb we wo wc fb fe fo fc rm ac rf kn mce mfr mun mbe men mov msp mwb mwe mwi mac mre mkn mth on x4 =
  (f_X1_chosen wb we wc).bind fun r1 =>
  (f_X3_chosen mwb mwe mwi).bind fun r2 =>
  K ce fr un sb se so sc wb we wo wc fb fe fo fc rm ac rf kn mce mfr mun mbe men mov msp mwb mwe mwi mac mre mkn r2.2 on x4 := rfl
set_option maxHeartbeats 8000000 in
set_option maxRecDepth 100000 in
theorem law_39 {p : Program} {l : Launch} {e : Env} {s : State} {m : MethodId} {below : List Frame} {meth : Method} {c : Code} {dC : Nat → ClassId} {dI : Nat → Nat → Nat} {cB cI cJ cZ : ClassId} {b9 L : Nat} {xs : Nat → Int32} {A : Nat → Prop} (hl9 : l.stackTraces = false) (C0 : kLw p s m c b9 L xs A) (hK : va_K (dC, dI) vwCl (kTy cB cI cJ cZ) s) {a : Nat → Nat} {o : Nat} (K : kFT) (bK sK : Nat) (hK9 : kGo p l e s m below meth c dC dI cB cI cJ cZ b9 A a o 1845 bK sK K) : kGo p l e s m below meth c dC dI cB cI cJ cZ b9 A a o 1682 (0 + bK) (0 + sK) (flaw_1682 L xs K) := by
  obtain ⟨hx, hb, hml, hown, hts, hX, hbl, hA, hbA, hG, hZ⟩ := C0
  intro ce fr un sb se so sc wb we wo wc fb fe fo fc rm ac rf kn mce mfr mun mbe men mov msp mwb mwe mwi mac mre mkn mth on ov x4 b H locs kc ks hkc hks hP hD hS ls hl h
  have h := (flaw_1682_e ce fr un sb se so sc wb we wo wc fb fe fo fc rm ac rf kn mce mfr mun mbe men mov msp mwb mwe mwi mac mre mkn mth on x4).symm.trans h
  refine lv_aload_n hx hb (kdr dgL_law_1558 8 0 rfl rfl) rfl (lv_at hl 1 rfl) ?_
  obtain ⟨r1, g1, h⟩ := g_b h
  refine kq_i ((wSB cI cJ cZ a ce fr un sb se so sc wb we wo wc fb fe fo fc rm ac rf kn) ++ (wMo cJ cZ b mce mfr mun mbe men mov msp mwb mwe mwi mac mre mkn mth) ++ (wO o on ov)) (fun qP qD qF => va_runV (As := []) (rest := []) ⟨hx, hb, hml, hown, hts⟩ (c_X1_chosen l dC dI cB cI cJ cZ a _ ce fr un sb se so sc wb we wo wc fb fe fo fc rm ac rf kn  r1 g1) (kcwV hts kw_223 kv_X1_chosen rfl rfl ⟨(Nat.le_of_ble_eq_true rfl), (Nat.le_of_ble_eq_true rfl)⟩) (kpV (A := A) qP hK qD hG (krecv_3 (q0 := 0) hK hP rfl)) rfl rfl hl.1 rfl (lv_room (Nat.le_of_ble_eq_true rfl)) (kdr dgL_law_1558 8 1 rfl rfl) ⟨by show _ ≤ (600128 : Nat); omega, by show _ ≤ (7301098 : Nat); omega⟩) hP hD hS hA (kFr_l (kFr_l kFr_SB)) (fun H locs hP hD hS br1 => ?_)
  refine lv_pop hx hb (kdr dgL_law_1558 8 2 rfl rfl) rfl ?_
  refine lv_aload_n hx hb (kdr dgL_law_1558 8 3 rfl rfl) rfl (lv_at hl 2 rfl) ?_
  obtain ⟨r2, g2, h⟩ := g_b h
  refine kq_i ((wSB cI cJ cZ a ce fr un sb se so sc wb we wo wc fb fe fo fc rm ac rf kn) ++ (wMo cJ cZ b mce mfr mun mbe men mov msp mwb mwe mwi mac mre mkn r2.2) ++ (wO o on ov)) (fun qP qD qF => va_runV (As := []) (rest := []) ⟨hx, hb, hml, hown, hts⟩ (c_X3_chosen l dC dI cB cI cJ cZ b _ mce mfr mun mbe men mov msp mwb mwe mwi mac mre mkn mth  r2 g2) (kcwV hts kw_1407 kv_X3_chosen rfl rfl ⟨(Nat.le_of_ble_eq_true rfl), (Nat.le_of_ble_eq_true rfl)⟩) (kpV (A := A) qP hK qD hG (krecv_5 (q0 := 15) hK hP rfl)) rfl rfl hl.1 rfl (lv_room (Nat.le_of_ble_eq_true rfl)) (kdr dgL_law_1558 8 4 rfl rfl) ⟨by show _ ≤ (600128 : Nat); omega, by show _ ≤ (7301098 : Nat); omega⟩) hP hD hS hA (kFr_l (kFr_r kFr_Mo)) (fun H locs hP hD hS br2 => ?_)
  refine lv_pop hx hb (kdr dgL_law_1558 8 5 rfl rfl) rfl ?_
  refine lv_goto (tgt := 1845) hx hb (kdr dgL_law_1558 8 6 rfl rfl) (by decide) ?_
  exact hK9 ce fr un sb se so sc wb we wo wc fb fe fo fc rm ac rf kn mce mfr mun mbe men mov msp mwb mwe mwi mac mre mkn r2.2 on ov x4 b _ _ _ _ (by omega) (by omega) hP hD hS ls (lv_sub hl [0, 1, 2, 3, 4] rfl) h
noncomputable def flaw_1695 (L : Nat) (xs : Nat → Int32) (K : kFT) (ce : Nat → Int64) (fr : Int64) (un : Int64) (sb : Nat → Int64) (se : Nat → Int64) (so : Nat → Int32) (sc : Int32) (wb : Nat → Int64) (we : Nat → Int64) (wo : Nat → Int32) (wc : Int32) (fb : Nat → Int64) (fe : Nat → Int64) (fo : Nat → Int32) (fc : Int32) (rm : Nat → Int32) (ac : Int32) (rf : Int32) (kn : Int32) (mce : Nat → Int64) (mfr : Int64) (mun : Int64) (mbe : Nat → Int64) (men : Nat → Int64) (mov : Nat → Int32) (msp : Int32) (mwb : Nat → Int64) (mwe : Nat → Int64) (mwi : Int32) (mac : Int32) (mre : Int32) (mkn : Int32) (mth : Int32) (on : Int64) (x4 : Int32) : Option Int32 :=
  if ix (x4 + 1) L then
    (f_L_most wb we wc on (xs (x4 + 1).toNatClampNeg)).bind fun r2 =>
    (f_X3_most mwb mwe mwi (xs (x4 + 1).toNatClampNeg)).bind fun r3 =>
    K ce fr un sb se so sc wb we wo wc fb fe fo fc rm ac rf kn mce mfr mun mbe men mov msp mwb mwe mwi mac mre mkn r3.2 r2.2 x4
  else none
theorem flaw_1695_e {L : Nat} {xs : Nat → Int32} {K : kFT} (ce : Nat → Int64) (fr : Int64) (un : Int64) (sb : Nat → Int64) (se : Nat → Int64) (so : Nat → Int32) (sc : Int32) (wb : Nat → Int64) (we : Nat → Int64) (wo : Nat → Int32) (wc : Int32) (fb : Nat → Int64) (fe : Nat → Int64) (fo : Nat → Int32) (fc : Int32) (rm : Nat → Int32) (ac : Int32) (rf : Int32) (kn : Int32) (mce : Nat → Int64) (mfr : Int64) (mun : Int64) (mbe : Nat → Int64) (men : Nat → Int64) (mov : Nat → Int32) (msp : Int32) (mwb : Nat → Int64) (mwe : Nat → Int64) (mwi : Int32) (mac : Int32) (mre : Int32) (mkn : Int32) (mth : Int32) (on : Int64) (x4 : Int32) : flaw_1695 L xs K ce fr un sb se so sc wb we wo wc fb fe fo fc rm ac rf kn mce mfr mun mbe men mov msp mwb mwe mwi mac mre mkn mth on x4 =
  if ix (x4 + 1) L then
    (f_L_most wb we wc on (xs (x4 + 1).toNatClampNeg)).bind fun r2 =>
    (f_X3_most mwb mwe mwi (xs (x4 + 1).toNatClampNeg)).bind fun r3 =>
    K ce fr un sb se so sc wb we wo wc fb fe fo fc rm ac rf kn mce mfr mun mbe men mov msp mwb mwe mwi mac mre mkn r3.2 r2.2 x4
  else none := rfl
set_option maxHeartbeats 8000000 in
set_option maxRecDepth 100000 in
theorem law_40 {p : Program} {l : Launch} {e : Env} {s : State} {m : MethodId} {below : List Frame} {meth : Method} {c : Code} {dC : Nat → ClassId} {dI : Nat → Nat → Nat} {cB cI cJ cZ : ClassId} {b9 L : Nat} {xs : Nat → Int32} {A : Nat → Prop} (hl9 : l.stackTraces = false) (C0 : kLw p s m c b9 L xs A) (hK : va_K (dC, dI) vwCl (kTy cB cI cJ cZ) s) {a : Nat → Nat} {o : Nat} (K : kFT) (bK sK : Nat) (hK9 : kGo p l e s m below meth c dC dI cB cI cJ cZ b9 A a o 1845 bK sK K) : kGo p l e s m below meth c dC dI cB cI cJ cZ b9 A a o 1695 (1 + bK) (6 + sK) (flaw_1695 L xs K) := by
  obtain ⟨hx, hb, hml, hown, hts, hX, hbl, hA, hbA, hG, hZ⟩ := C0
  intro ce fr un sb se so sc wb we wo wc fb fe fo fc rm ac rf kn mce mfr mun mbe men mov msp mwb mwe mwi mac mre mkn mth on ov x4 b H locs kc ks hkc hks hP hD hS ls hl h
  have h := (flaw_1695_e ce fr un sb se so sc wb we wo wc fb fe fo fc rm ac rf kn mce mfr mun mbe men mov msp mwb mwe mwi mac mre mkn mth on x4).symm.trans h
  refine lv_aload_n hx hb (kdr dgL_law_1558 8 7 rfl rfl) rfl (lv_at hl 1 rfl) ?_
  obtain ⟨z0, h⟩ := g_if h
  refine kld (v := 1) hx hb (kdr dgL_law_1558 8 8 rfl rfl) rfl (lv_at hl 0 rfl) (kdr dgL_law_1558 8 9 rfl rfl) (lv_at hl 4 rfl) (kdr dgL_law_1558 9 0 rfl rfl) (by decide) (kdr dgL_law_1558 9 1 rfl rfl) hX hbl hbA hS (ix_in z0) (kdr dgL_law_1558 9 2 rfl rfl) ?_
  refine lv_aload_n hx hb (kdr dgL_law_1558 9 3 rfl rfl) rfl (lv_at hl 3 rfl) ?_
  obtain ⟨r2, g2, h⟩ := g_b h
  refine kq_i ((wSB cI cJ cZ a ce fr un sb se so sc wb we wo wc fb fe fo fc rm ac rf kn) ++ (wMo cJ cZ b mce mfr mun mbe men mov msp mwb mwe mwi mac mre mkn mth) ++ (wO o r2.2 ov)) (fun qP qD qF => vx_runSW (As := [.ref (a 0), .int (xs (x4 + 1).toNatClampNeg), .ref o]) (rest := []) ⟨hx, hb, hml, hown, hts⟩ (c_L_most l hl9 dC dI cB cI cJ cZ a o _ ce fr un sb se so sc wb we wo wc fb fe fo fc rm ac rf kn on ov (xs (x4 + 1).toNatClampNeg) r2 g2) (kcwSW hts kw_1044 kv_L_most rfl rfl ⟨(Nat.le_of_ble_eq_true rfl), (Nat.le_of_ble_eq_true rfl)⟩) (kpSXq (A := A) qP hK qD hG hZ hS qF) rfl rfl hl.1 rfl (lv_room (Nat.le_of_ble_eq_true rfl)) (kdr dgL_law_1558 9 4 rfl rfl) ⟨by show _ ≤ (600128 : Nat); omega, by show _ ≤ (7301098 : Nat); omega⟩) hP hD hS hA (kFr_2 (kFr_l kFr_SB) kFr_o) (fun H locs hP hD hS br2 => ?_)
  refine lv_istore (lv' := (kvI 5 r2.1 (kvA 0 b9 (kvA 1 (a 0) (kvA 2 (b 0) (kvA 3 o (kvI 4 x4 kvE))))))) hx hb (kdr dgL_law_1558 9 5 rfl rfl) hl (by decide) rfl (fun ls hl => ?_)
  refine lv_aload_n hx hb (kdr dgL_law_1558 9 6 rfl rfl) rfl (lv_at hl 3 rfl) ?_
  refine kld (v := 1) hx hb (kdr dgL_law_1558 9 7 rfl rfl) rfl (lv_at hl 1 rfl) (kdr dgL_law_1558 9 8 rfl rfl) (lv_at hl 5 rfl) (kdr dgL_law_1558 9 9 rfl rfl) (by decide) (kdr dgL_law_1713 0 0 rfl rfl) hX hbl hbA hS (ix_in z0) (kdr dgL_law_1713 0 1 rfl rfl) ?_
  obtain ⟨r3, g3, h⟩ := g_b h
  refine kq_i ((wSB cI cJ cZ a ce fr un sb se so sc wb we wo wc fb fe fo fc rm ac rf kn) ++ (wMo cJ cZ b mce mfr mun mbe men mov msp mwb mwe mwi mac mre mkn r3.2) ++ (wO o r2.2 ov)) (fun qP qD qF => va_runV (As := [.int (xs (x4 + 1).toNatClampNeg)]) (rest := []) ⟨hx, hb, hml, hown, hts⟩ (c_X3_most l dC dI cB cI cJ cZ b _ mce mfr mun mbe men mov msp mwb mwe mwi mac mre mkn mth (xs (x4 + 1).toNatClampNeg) r3 g3) (kcwV hts kw_1415 kv_X3_most rfl rfl ⟨(Nat.le_of_ble_eq_true rfl), (Nat.le_of_ble_eq_true rfl)⟩) (kpV (A := A) qP hK qD hG (krecv_5 (q0 := 15) hK hP rfl)) rfl rfl hl.1 rfl (lv_room (Nat.le_of_ble_eq_true rfl)) (kdr dgL_law_1713 0 2 rfl rfl) ⟨by show _ ≤ (600128 : Nat); omega, by show _ ≤ (7301098 : Nat); omega⟩) hP hD hS hA (kFr_l (kFr_r kFr_Mo)) (fun H locs hP hD hS br3 => ?_)
  refine lv_istore (lv' := (kvI 6 r3.1 (kvI 5 r2.1 (kvA 0 b9 (kvA 1 (a 0) (kvA 2 (b 0) (kvA 3 o (kvI 4 x4 kvE)))))))) hx hb (kdr dgL_law_1713 0 3 rfl rfl) hl (by decide) rfl (fun ls hl => ?_)
  refine lv_goto (tgt := 1845) hx hb (kdr dgL_law_1713 0 4 rfl rfl) (by decide) ?_
  exact hK9 ce fr un sb se so sc wb we wo wc fb fe fo fc rm ac rf kn mce mfr mun mbe men mov msp mwb mwe mwi mac mre mkn r3.2 r2.2 ov x4 b _ _ _ _ (by omega) (by omega) hP hD hS ls (lv_sub hl [2, 3, 4, 5, 6] rfl) h
noncomputable def flaw_1723 (L : Nat) (xs : Nat → Int32) (K : kFT) (ce : Nat → Int64) (fr : Int64) (un : Int64) (sb : Nat → Int64) (se : Nat → Int64) (so : Nat → Int32) (sc : Int32) (wb : Nat → Int64) (we : Nat → Int64) (wo : Nat → Int32) (wc : Int32) (fb : Nat → Int64) (fe : Nat → Int64) (fo : Nat → Int32) (fc : Int32) (rm : Nat → Int32) (ac : Int32) (rf : Int32) (kn : Int32) (mce : Nat → Int64) (mfr : Int64) (mun : Int64) (mbe : Nat → Int64) (men : Nat → Int64) (mov : Nat → Int32) (msp : Int32) (mwb : Nat → Int64) (mwe : Nat → Int64) (mwi : Int32) (mac : Int32) (mre : Int32) (mkn : Int32) (mth : Int32) (on : Int64) (x4 : Int32) : Option Int32 :=
  (f_X1_crowd wb we wc).bind fun r1 =>
  (f_X3_crowd mwb mwe mwi).bind fun r2 =>
  K ce fr un sb se so sc wb we wo wc fb fe fo fc rm ac rf kn mce mfr mun mbe men mov msp mwb mwe mwi mac mre mkn r2.2 on x4
theorem flaw_1723_e {L : Nat} {xs : Nat → Int32} {K : kFT} (ce : Nat → Int64) (fr : Int64) (un : Int64) (sb : Nat → Int64) (se : Nat → Int64) (so : Nat → Int32) (sc : Int32) (wb : Nat → Int64) (we : Nat → Int64) (wo : Nat → Int32) (wc : Int32) (fb : Nat → Int64) (fe : Nat → Int64) (fo : Nat → Int32) (fc : Int32) (rm : Nat → Int32) (ac : Int32) (rf : Int32) (kn : Int32) (mce : Nat → Int64) (mfr : Int64) (mun : Int64) (mbe : Nat → Int64) (men : Nat → Int64) (mov : Nat → Int32) (msp : Int32) (mwb : Nat → Int64) (mwe : Nat → Int64) (mwi : Int32) (mac : Int32) (mre : Int32) (mkn : Int32) (mth : Int32) (on : Int64) (x4 : Int32) : flaw_1723 L xs K ce fr un sb se so sc wb we wo wc fb fe fo fc rm ac rf kn mce mfr mun mbe men mov msp mwb mwe mwi mac mre mkn mth on x4 =
  (f_X1_crowd wb we wc).bind fun r1 =>
  (f_X3_crowd mwb mwe mwi).bind fun r2 =>
  K ce fr un sb se so sc wb we wo wc fb fe fo fc rm ac rf kn mce mfr mun mbe men mov msp mwb mwe mwi mac mre mkn r2.2 on x4 := rfl
set_option maxHeartbeats 8000000 in
set_option maxRecDepth 100000 in
theorem law_41 {p : Program} {l : Launch} {e : Env} {s : State} {m : MethodId} {below : List Frame} {meth : Method} {c : Code} {dC : Nat → ClassId} {dI : Nat → Nat → Nat} {cB cI cJ cZ : ClassId} {b9 L : Nat} {xs : Nat → Int32} {A : Nat → Prop} (hl9 : l.stackTraces = false) (C0 : kLw p s m c b9 L xs A) (hK : va_K (dC, dI) vwCl (kTy cB cI cJ cZ) s) {a : Nat → Nat} {o : Nat} (K : kFT) (bK sK : Nat) (hK9 : kGo p l e s m below meth c dC dI cB cI cJ cZ b9 A a o 1845 bK sK K) : kGo p l e s m below meth c dC dI cB cI cJ cZ b9 A a o 1723 (0 + bK) (0 + sK) (flaw_1723 L xs K) := by
  obtain ⟨hx, hb, hml, hown, hts, hX, hbl, hA, hbA, hG, hZ⟩ := C0
  intro ce fr un sb se so sc wb we wo wc fb fe fo fc rm ac rf kn mce mfr mun mbe men mov msp mwb mwe mwi mac mre mkn mth on ov x4 b H locs kc ks hkc hks hP hD hS ls hl h
  have h := (flaw_1723_e ce fr un sb se so sc wb we wo wc fb fe fo fc rm ac rf kn mce mfr mun mbe men mov msp mwb mwe mwi mac mre mkn mth on x4).symm.trans h
  refine lv_aload_n hx hb (kdr dgL_law_1713 0 5 rfl rfl) rfl (lv_at hl 1 rfl) ?_
  obtain ⟨r1, g1, h⟩ := g_b h
  refine kq_i ((wSB cI cJ cZ a ce fr un sb se so sc wb we wo wc fb fe fo fc rm ac rf kn) ++ (wMo cJ cZ b mce mfr mun mbe men mov msp mwb mwe mwi mac mre mkn mth) ++ (wO o on ov)) (fun qP qD qF => va_runV (As := []) (rest := []) ⟨hx, hb, hml, hown, hts⟩ (c_X1_crowd l dC dI cB cI cJ cZ a _ ce fr un sb se so sc wb we wo wc fb fe fo fc rm ac rf kn  r1 g1) (kcwV hts kw_235 kv_X1_crowd rfl rfl ⟨(Nat.le_of_ble_eq_true rfl), (Nat.le_of_ble_eq_true rfl)⟩) (kpV (A := A) qP hK qD hG (krecv_3 (q0 := 0) hK hP rfl)) rfl rfl hl.1 rfl (lv_room (Nat.le_of_ble_eq_true rfl)) (kdr dgL_law_1713 0 6 rfl rfl) ⟨by show _ ≤ (600128 : Nat); omega, by show _ ≤ (7301098 : Nat); omega⟩) hP hD hS hA (kFr_l (kFr_l kFr_SB)) (fun H locs hP hD hS br1 => ?_)
  refine lv_pop hx hb (kdr dgL_law_1713 0 7 rfl rfl) rfl ?_
  refine lv_aload_n hx hb (kdr dgL_law_1713 0 8 rfl rfl) rfl (lv_at hl 2 rfl) ?_
  obtain ⟨r2, g2, h⟩ := g_b h
  refine kq_i ((wSB cI cJ cZ a ce fr un sb se so sc wb we wo wc fb fe fo fc rm ac rf kn) ++ (wMo cJ cZ b mce mfr mun mbe men mov msp mwb mwe mwi mac mre mkn r2.2) ++ (wO o on ov)) (fun qP qD qF => va_runV (As := []) (rest := []) ⟨hx, hb, hml, hown, hts⟩ (c_X3_crowd l dC dI cB cI cJ cZ b _ mce mfr mun mbe men mov msp mwb mwe mwi mac mre mkn mth  r2 g2) (kcwV hts kw_1426 kv_X3_crowd rfl rfl ⟨(Nat.le_of_ble_eq_true rfl), (Nat.le_of_ble_eq_true rfl)⟩) (kpV (A := A) qP hK qD hG (krecv_5 (q0 := 15) hK hP rfl)) rfl rfl hl.1 rfl (lv_room (Nat.le_of_ble_eq_true rfl)) (kdr dgL_law_1713 0 9 rfl rfl) ⟨by show _ ≤ (600128 : Nat); omega, by show _ ≤ (7301098 : Nat); omega⟩) hP hD hS hA (kFr_l (kFr_r kFr_Mo)) (fun H locs hP hD hS br2 => ?_)
  refine lv_pop hx hb (kdr dgL_law_1713 1 0 rfl rfl) rfl ?_
  refine lv_goto (tgt := 1845) hx hb (kdr dgL_law_1713 1 1 rfl rfl) (by decide) ?_
  exact hK9 ce fr un sb se so sc wb we wo wc fb fe fo fc rm ac rf kn mce mfr mun mbe men mov msp mwb mwe mwi mac mre mkn r2.2 on ov x4 b _ _ _ _ (by omega) (by omega) hP hD hS ls (lv_sub hl [0, 1, 2, 3, 4] rfl) h
noncomputable def flaw_1736 (L : Nat) (xs : Nat → Int32) (K : kFT) (ce : Nat → Int64) (fr : Int64) (un : Int64) (sb : Nat → Int64) (se : Nat → Int64) (so : Nat → Int32) (sc : Int32) (wb : Nat → Int64) (we : Nat → Int64) (wo : Nat → Int32) (wc : Int32) (fb : Nat → Int64) (fe : Nat → Int64) (fo : Nat → Int32) (fc : Int32) (rm : Nat → Int32) (ac : Int32) (rf : Int32) (kn : Int32) (mce : Nat → Int64) (mfr : Int64) (mun : Int64) (mbe : Nat → Int64) (men : Nat → Int64) (mov : Nat → Int32) (msp : Int32) (mwb : Nat → Int64) (mwe : Nat → Int64) (mwi : Int32) (mac : Int32) (mre : Int32) (mkn : Int32) (mth : Int32) (on : Int64) (x4 : Int32) : Option Int32 :=
  if ix (x4 + 1) L then
    (f_L_room wb we wc rm on (xs (x4 + 1).toNatClampNeg)).bind fun r2 =>
    (f_X3_room mwb mwe mwi (xs (x4 + 1).toNatClampNeg)).bind fun r3 =>
    K ce fr un sb se so sc wb we wo wc fb fe fo fc r2.2.1 ac rf kn mce mfr mun mbe men mov msp mwb mwe mwi mac mre mkn r3.2 r2.2.2 x4
  else none
theorem flaw_1736_e {L : Nat} {xs : Nat → Int32} {K : kFT} (ce : Nat → Int64) (fr : Int64) (un : Int64) (sb : Nat → Int64) (se : Nat → Int64) (so : Nat → Int32) (sc : Int32) (wb : Nat → Int64) (we : Nat → Int64) (wo : Nat → Int32) (wc : Int32) (fb : Nat → Int64) (fe : Nat → Int64) (fo : Nat → Int32) (fc : Int32) (rm : Nat → Int32) (ac : Int32) (rf : Int32) (kn : Int32) (mce : Nat → Int64) (mfr : Int64) (mun : Int64) (mbe : Nat → Int64) (men : Nat → Int64) (mov : Nat → Int32) (msp : Int32) (mwb : Nat → Int64) (mwe : Nat → Int64) (mwi : Int32) (mac : Int32) (mre : Int32) (mkn : Int32) (mth : Int32) (on : Int64) (x4 : Int32) : flaw_1736 L xs K ce fr un sb se so sc wb we wo wc fb fe fo fc rm ac rf kn mce mfr mun mbe men mov msp mwb mwe mwi mac mre mkn mth on x4 =
  if ix (x4 + 1) L then
    (f_L_room wb we wc rm on (xs (x4 + 1).toNatClampNeg)).bind fun r2 =>
    (f_X3_room mwb mwe mwi (xs (x4 + 1).toNatClampNeg)).bind fun r3 =>
    K ce fr un sb se so sc wb we wo wc fb fe fo fc r2.2.1 ac rf kn mce mfr mun mbe men mov msp mwb mwe mwi mac mre mkn r3.2 r2.2.2 x4
  else none := rfl
set_option maxHeartbeats 8000000 in
set_option maxRecDepth 100000 in
theorem law_42 {p : Program} {l : Launch} {e : Env} {s : State} {m : MethodId} {below : List Frame} {meth : Method} {c : Code} {dC : Nat → ClassId} {dI : Nat → Nat → Nat} {cB cI cJ cZ : ClassId} {b9 L : Nat} {xs : Nat → Int32} {A : Nat → Prop} (hl9 : l.stackTraces = false) (C0 : kLw p s m c b9 L xs A) (hK : va_K (dC, dI) vwCl (kTy cB cI cJ cZ) s) {a : Nat → Nat} {o : Nat} (K : kFT) (bK sK : Nat) (hK9 : kGo p l e s m below meth c dC dI cB cI cJ cZ b9 A a o 1845 bK sK K) : kGo p l e s m below meth c dC dI cB cI cJ cZ b9 A a o 1736 (2 + bK) (22 + sK) (flaw_1736 L xs K) := by
  obtain ⟨hx, hb, hml, hown, hts, hX, hbl, hA, hbA, hG, hZ⟩ := C0
  intro ce fr un sb se so sc wb we wo wc fb fe fo fc rm ac rf kn mce mfr mun mbe men mov msp mwb mwe mwi mac mre mkn mth on ov x4 b H locs kc ks hkc hks hP hD hS ls hl h
  have h := (flaw_1736_e ce fr un sb se so sc wb we wo wc fb fe fo fc rm ac rf kn mce mfr mun mbe men mov msp mwb mwe mwi mac mre mkn mth on x4).symm.trans h
  refine lv_aload_n hx hb (kdr dgL_law_1713 1 2 rfl rfl) rfl (lv_at hl 1 rfl) ?_
  obtain ⟨z0, h⟩ := g_if h
  refine kld (v := 1) hx hb (kdr dgL_law_1713 1 3 rfl rfl) rfl (lv_at hl 0 rfl) (kdr dgL_law_1713 1 4 rfl rfl) (lv_at hl 4 rfl) (kdr dgL_law_1713 1 5 rfl rfl) (by decide) (kdr dgL_law_1713 1 6 rfl rfl) hX hbl hbA hS (ix_in z0) (kdr dgL_law_1713 1 7 rfl rfl) ?_
  refine lv_aload_n hx hb (kdr dgL_law_1713 1 8 rfl rfl) rfl (lv_at hl 3 rfl) ?_
  obtain ⟨r2, g2, h⟩ := g_b h
  refine kq_i ((wSB cI cJ cZ a ce fr un sb se so sc wb we wo wc fb fe fo fc r2.2.1 ac rf kn) ++ (wMo cJ cZ b mce mfr mun mbe men mov msp mwb mwe mwi mac mre mkn mth) ++ (wO o r2.2.2 ov)) (fun qP qD qF => vx_runSW (As := [.ref (a 0), .int (xs (x4 + 1).toNatClampNeg), .ref o]) (rest := []) ⟨hx, hb, hml, hown, hts⟩ (c_L_room l hl9 dC dI cB cI cJ cZ a o _ ce fr un sb se so sc wb we wo wc fb fe fo fc rm ac rf kn on ov (xs (x4 + 1).toNatClampNeg) r2 g2) (kcwSW hts kw_1051 kv_L_room rfl rfl ⟨(Nat.le_of_ble_eq_true rfl), (Nat.le_of_ble_eq_true rfl)⟩) (kpSXq (A := A) qP hK qD hG hZ hS qF) rfl rfl hl.1 rfl (lv_room (Nat.le_of_ble_eq_true rfl)) (kdr dgL_law_1713 1 9 rfl rfl) ⟨by show _ ≤ (600128 : Nat); omega, by show _ ≤ (7301098 : Nat); omega⟩) hP hD hS hA (kFr_2 (kFr_l kFr_SB) kFr_o) (fun H locs hP hD hS br2 => ?_)
  refine lv_istore (lv' := (kvI 5 r2.1 (kvA 0 b9 (kvA 1 (a 0) (kvA 2 (b 0) (kvA 3 o (kvI 4 x4 kvE))))))) hx hb (kdr dgL_law_1713 2 0 rfl rfl) hl (by decide) rfl (fun ls hl => ?_)
  refine lv_aload_n hx hb (kdr dgL_law_1713 2 1 rfl rfl) rfl (lv_at hl 3 rfl) ?_
  refine kld (v := 1) hx hb (kdr dgL_law_1713 2 2 rfl rfl) rfl (lv_at hl 1 rfl) (kdr dgL_law_1713 2 3 rfl rfl) (lv_at hl 5 rfl) (kdr dgL_law_1713 2 4 rfl rfl) (by decide) (kdr dgL_law_1713 2 5 rfl rfl) hX hbl hbA hS (ix_in z0) (kdr dgL_law_1713 2 6 rfl rfl) ?_
  obtain ⟨r3, g3, h⟩ := g_b h
  refine kq_i ((wSB cI cJ cZ a ce fr un sb se so sc wb we wo wc fb fe fo fc r2.2.1 ac rf kn) ++ (wMo cJ cZ b mce mfr mun mbe men mov msp mwb mwe mwi mac mre mkn r3.2) ++ (wO o r2.2.2 ov)) (fun qP qD qF => va_runV (As := [.int (xs (x4 + 1).toNatClampNeg)]) (rest := []) ⟨hx, hb, hml, hown, hts⟩ (c_X3_room l dC dI cB cI cJ cZ b _ mce mfr mun mbe men mov msp mwb mwe mwi mac mre mkn mth (xs (x4 + 1).toNatClampNeg) r3 g3) (kcwV hts kw_1430 kv_X3_room rfl rfl ⟨(Nat.le_of_ble_eq_true rfl), (Nat.le_of_ble_eq_true rfl)⟩) (kpV (A := A) qP hK qD hG (krecv_5 (q0 := 15) hK hP rfl)) rfl rfl hl.1 rfl (lv_room (Nat.le_of_ble_eq_true rfl)) (kdr dgL_law_1713 2 7 rfl rfl) ⟨by show _ ≤ (600128 : Nat); omega, by show _ ≤ (7301098 : Nat); omega⟩) hP hD hS hA (kFr_l (kFr_r kFr_Mo)) (fun H locs hP hD hS br3 => ?_)
  refine lv_istore (lv' := (kvI 6 r3.1 (kvI 5 r2.1 (kvA 0 b9 (kvA 1 (a 0) (kvA 2 (b 0) (kvA 3 o (kvI 4 x4 kvE)))))))) hx hb (kdr dgL_law_1713 2 8 rfl rfl) hl (by decide) rfl (fun ls hl => ?_)
  refine lv_goto (tgt := 1845) hx hb (kdr dgL_law_1713 2 9 rfl rfl) (by decide) ?_
  exact hK9 ce fr un sb se so sc wb we wo wc fb fe fo fc r2.2.1 ac rf kn mce mfr mun mbe men mov msp mwb mwe mwi mac mre mkn r3.2 r2.2.2 ov x4 b _ _ _ _ (by omega) (by omega) hP hD hS ls (lv_sub hl [2, 3, 4, 5, 6] rfl) h
noncomputable def flaw_1764 (L : Nat) (xs : Nat → Int32) (K : kFT) (ce : Nat → Int64) (fr : Int64) (un : Int64) (sb : Nat → Int64) (se : Nat → Int64) (so : Nat → Int32) (sc : Int32) (wb : Nat → Int64) (we : Nat → Int64) (wo : Nat → Int32) (wc : Int32) (fb : Nat → Int64) (fe : Nat → Int64) (fo : Nat → Int32) (fc : Int32) (rm : Nat → Int32) (ac : Int32) (rf : Int32) (kn : Int32) (mce : Nat → Int64) (mfr : Int64) (mun : Int64) (mbe : Nat → Int64) (men : Nat → Int64) (mov : Nat → Int32) (msp : Int32) (mwb : Nat → Int64) (mwe : Nat → Int64) (mwi : Int32) (mac : Int32) (mre : Int32) (mkn : Int32) (mth : Int32) (on : Int64) (x4 : Int32) : Option Int32 :=
  (f_X1_rooms wb we wc rm).bind fun r1 =>
  (f_X3_rooms mwb mwe mwi).bind fun r2 =>
  K ce fr un sb se so sc wb we wo wc fb fe fo fc r1.2 ac rf kn mce mfr mun mbe men mov msp mwb mwe mwi mac mre mkn r2.2 on x4
theorem flaw_1764_e {L : Nat} {xs : Nat → Int32} {K : kFT} (ce : Nat → Int64) (fr : Int64) (un : Int64) (sb : Nat → Int64) (se : Nat → Int64) (so : Nat → Int32) (sc : Int32) (wb : Nat → Int64) (we : Nat → Int64) (wo : Nat → Int32) (wc : Int32) (fb : Nat → Int64) (fe : Nat → Int64) (fo : Nat → Int32) (fc : Int32) (rm : Nat → Int32) (ac : Int32) (rf : Int32) (kn : Int32) (mce : Nat → Int64) (mfr : Int64) (mun : Int64) (mbe : Nat → Int64) (men : Nat → Int64) (mov : Nat → Int32) (msp : Int32) (mwb : Nat → Int64) (mwe : Nat → Int64) (mwi : Int32) (mac : Int32) (mre : Int32) (mkn : Int32) (mth : Int32) (on : Int64) (x4 : Int32) : flaw_1764 L xs K ce fr un sb se so sc wb we wo wc fb fe fo fc rm ac rf kn mce mfr mun mbe men mov msp mwb mwe mwi mac mre mkn mth on x4 =
  (f_X1_rooms wb we wc rm).bind fun r1 =>
  (f_X3_rooms mwb mwe mwi).bind fun r2 =>
  K ce fr un sb se so sc wb we wo wc fb fe fo fc r1.2 ac rf kn mce mfr mun mbe men mov msp mwb mwe mwi mac mre mkn r2.2 on x4 := rfl
set_option maxHeartbeats 8000000 in
set_option maxRecDepth 100000 in
theorem law_43 {p : Program} {l : Launch} {e : Env} {s : State} {m : MethodId} {below : List Frame} {meth : Method} {c : Code} {dC : Nat → ClassId} {dI : Nat → Nat → Nat} {cB cI cJ cZ : ClassId} {b9 L : Nat} {xs : Nat → Int32} {A : Nat → Prop} (hl9 : l.stackTraces = false) (C0 : kLw p s m c b9 L xs A) (hK : va_K (dC, dI) vwCl (kTy cB cI cJ cZ) s) {a : Nat → Nat} {o : Nat} (K : kFT) (bK sK : Nat) (hK9 : kGo p l e s m below meth c dC dI cB cI cJ cZ b9 A a o 1845 bK sK K) : kGo p l e s m below meth c dC dI cB cI cJ cZ b9 A a o 1764 (1 + bK) (16 + sK) (flaw_1764 L xs K) := by
  obtain ⟨hx, hb, hml, hown, hts, hX, hbl, hA, hbA, hG, hZ⟩ := C0
  intro ce fr un sb se so sc wb we wo wc fb fe fo fc rm ac rf kn mce mfr mun mbe men mov msp mwb mwe mwi mac mre mkn mth on ov x4 b H locs kc ks hkc hks hP hD hS ls hl h
  have h := (flaw_1764_e ce fr un sb se so sc wb we wo wc fb fe fo fc rm ac rf kn mce mfr mun mbe men mov msp mwb mwe mwi mac mre mkn mth on x4).symm.trans h
  refine lv_aload_n hx hb (kdr dgL_law_1713 3 0 rfl rfl) rfl (lv_at hl 1 rfl) ?_
  obtain ⟨r1, g1, h⟩ := g_b h
  refine kq_i ((wSB cI cJ cZ a ce fr un sb se so sc wb we wo wc fb fe fo fc r1.2 ac rf kn) ++ (wMo cJ cZ b mce mfr mun mbe men mov msp mwb mwe mwi mac mre mkn mth) ++ (wO o on ov)) (fun qP qD qF => va_runV (As := []) (rest := []) ⟨hx, hb, hml, hown, hts⟩ (c_X1_rooms l dC dI cB cI cJ cZ a _ ce fr un sb se so sc wb we wo wc fb fe fo fc rm ac rf kn  r1 g1) (kcwV hts kw_239 kv_X1_rooms rfl rfl ⟨(Nat.le_of_ble_eq_true rfl), (Nat.le_of_ble_eq_true rfl)⟩) (kpV (A := A) qP hK qD hG (krecv_3 (q0 := 0) hK hP rfl)) rfl rfl hl.1 rfl (lv_room (Nat.le_of_ble_eq_true rfl)) (kdr dgL_law_1713 3 1 rfl rfl) ⟨by show _ ≤ (600128 : Nat); omega, by show _ ≤ (7301098 : Nat); omega⟩) hP hD hS hA (kFr_l (kFr_l kFr_SB)) (fun H locs hP hD hS br1 => ?_)
  refine lv_pop hx hb (kdr dgL_law_1713 3 2 rfl rfl) rfl ?_
  refine lv_aload_n hx hb (kdr dgL_law_1713 3 3 rfl rfl) rfl (lv_at hl 2 rfl) ?_
  obtain ⟨r2, g2, h⟩ := g_b h
  refine kq_i ((wSB cI cJ cZ a ce fr un sb se so sc wb we wo wc fb fe fo fc r1.2 ac rf kn) ++ (wMo cJ cZ b mce mfr mun mbe men mov msp mwb mwe mwi mac mre mkn r2.2) ++ (wO o on ov)) (fun qP qD qF => va_runV (As := []) (rest := []) ⟨hx, hb, hml, hown, hts⟩ (c_X3_rooms l dC dI cB cI cJ cZ b _ mce mfr mun mbe men mov msp mwb mwe mwi mac mre mkn mth  r2 g2) (kcwV hts kw_1442 kv_X3_rooms rfl rfl ⟨(Nat.le_of_ble_eq_true rfl), (Nat.le_of_ble_eq_true rfl)⟩) (kpV (A := A) qP hK qD hG (krecv_5 (q0 := 15) hK hP rfl)) rfl rfl hl.1 rfl (lv_room (Nat.le_of_ble_eq_true rfl)) (kdr dgL_law_1713 3 4 rfl rfl) ⟨by show _ ≤ (600128 : Nat); omega, by show _ ≤ (7301098 : Nat); omega⟩) hP hD hS hA (kFr_l (kFr_r kFr_Mo)) (fun H locs hP hD hS br2 => ?_)
  refine lv_pop hx hb (kdr dgL_law_1713 3 5 rfl rfl) rfl ?_
  refine lv_goto (tgt := 1845) hx hb (kdr dgL_law_1713 3 6 rfl rfl) (by decide) ?_
  exact hK9 ce fr un sb se so sc wb we wo wc fb fe fo fc r1.2 ac rf kn mce mfr mun mbe men mov msp mwb mwe mwi mac mre mkn r2.2 on ov x4 b _ _ _ _ (by omega) (by omega) hP hD hS ls (lv_sub hl [0, 1, 2, 3, 4] rfl) h
noncomputable def flaw_1777 (L : Nat) (xs : Nat → Int32) (K : kFT) (ce : Nat → Int64) (fr : Int64) (un : Int64) (sb : Nat → Int64) (se : Nat → Int64) (so : Nat → Int32) (sc : Int32) (wb : Nat → Int64) (we : Nat → Int64) (wo : Nat → Int32) (wc : Int32) (fb : Nat → Int64) (fe : Nat → Int64) (fo : Nat → Int32) (fc : Int32) (rm : Nat → Int32) (ac : Int32) (rf : Int32) (kn : Int32) (mce : Nat → Int64) (mfr : Int64) (mun : Int64) (mbe : Nat → Int64) (men : Nat → Int64) (mov : Nat → Int32) (msp : Int32) (mwb : Nat → Int64) (mwe : Nat → Int64) (mwi : Int32) (mac : Int32) (mre : Int32) (mkn : Int32) (mth : Int32) (on : Int64) (x4 : Int32) : Option Int32 :=
  if ix (x4 + 1) L then
    (f_L_house ac rf kn on (xs (x4 + 1).toNatClampNeg)).bind fun r2 =>
    (f_X3_house mac mre mkn (xs (x4 + 1).toNatClampNeg)).bind fun r3 =>
    K ce fr un sb se so sc wb we wo wc fb fe fo fc rm ac rf kn mce mfr mun mbe men mov msp mwb mwe mwi mac mre mkn r3.2 r2.2 x4
  else none
theorem flaw_1777_e {L : Nat} {xs : Nat → Int32} {K : kFT} (ce : Nat → Int64) (fr : Int64) (un : Int64) (sb : Nat → Int64) (se : Nat → Int64) (so : Nat → Int32) (sc : Int32) (wb : Nat → Int64) (we : Nat → Int64) (wo : Nat → Int32) (wc : Int32) (fb : Nat → Int64) (fe : Nat → Int64) (fo : Nat → Int32) (fc : Int32) (rm : Nat → Int32) (ac : Int32) (rf : Int32) (kn : Int32) (mce : Nat → Int64) (mfr : Int64) (mun : Int64) (mbe : Nat → Int64) (men : Nat → Int64) (mov : Nat → Int32) (msp : Int32) (mwb : Nat → Int64) (mwe : Nat → Int64) (mwi : Int32) (mac : Int32) (mre : Int32) (mkn : Int32) (mth : Int32) (on : Int64) (x4 : Int32) : flaw_1777 L xs K ce fr un sb se so sc wb we wo wc fb fe fo fc rm ac rf kn mce mfr mun mbe men mov msp mwb mwe mwi mac mre mkn mth on x4 =
  if ix (x4 + 1) L then
    (f_L_house ac rf kn on (xs (x4 + 1).toNatClampNeg)).bind fun r2 =>
    (f_X3_house mac mre mkn (xs (x4 + 1).toNatClampNeg)).bind fun r3 =>
    K ce fr un sb se so sc wb we wo wc fb fe fo fc rm ac rf kn mce mfr mun mbe men mov msp mwb mwe mwi mac mre mkn r3.2 r2.2 x4
  else none := rfl
set_option maxHeartbeats 8000000 in
set_option maxRecDepth 100000 in
theorem law_44 {p : Program} {l : Launch} {e : Env} {s : State} {m : MethodId} {below : List Frame} {meth : Method} {c : Code} {dC : Nat → ClassId} {dI : Nat → Nat → Nat} {cB cI cJ cZ : ClassId} {b9 L : Nat} {xs : Nat → Int32} {A : Nat → Prop} (hl9 : l.stackTraces = false) (C0 : kLw p s m c b9 L xs A) (hK : va_K (dC, dI) vwCl (kTy cB cI cJ cZ) s) {a : Nat → Nat} {o : Nat} (K : kFT) (bK sK : Nat) (hK9 : kGo p l e s m below meth c dC dI cB cI cJ cZ b9 A a o 1845 bK sK K) : kGo p l e s m below meth c dC dI cB cI cJ cZ b9 A a o 1777 (1 + bK) (6 + sK) (flaw_1777 L xs K) := by
  obtain ⟨hx, hb, hml, hown, hts, hX, hbl, hA, hbA, hG, hZ⟩ := C0
  intro ce fr un sb se so sc wb we wo wc fb fe fo fc rm ac rf kn mce mfr mun mbe men mov msp mwb mwe mwi mac mre mkn mth on ov x4 b H locs kc ks hkc hks hP hD hS ls hl h
  have h := (flaw_1777_e ce fr un sb se so sc wb we wo wc fb fe fo fc rm ac rf kn mce mfr mun mbe men mov msp mwb mwe mwi mac mre mkn mth on x4).symm.trans h
  refine lv_aload_n hx hb (kdr dgL_law_1713 3 7 rfl rfl) rfl (lv_at hl 1 rfl) ?_
  obtain ⟨z0, h⟩ := g_if h
  refine kld (v := 1) hx hb (kdr dgL_law_1713 3 8 rfl rfl) rfl (lv_at hl 0 rfl) (kdr dgL_law_1713 3 9 rfl rfl) (lv_at hl 4 rfl) (kdr dgL_law_1713 4 0 rfl rfl) (by decide) (kdr dgL_law_1713 4 1 rfl rfl) hX hbl hbA hS (ix_in z0) (kdr dgL_law_1713 4 2 rfl rfl) ?_
  refine lv_aload_n hx hb (kdr dgL_law_1713 4 3 rfl rfl) rfl (lv_at hl 3 rfl) ?_
  obtain ⟨r2, g2, h⟩ := g_b h
  refine kq_i ((wSB cI cJ cZ a ce fr un sb se so sc wb we wo wc fb fe fo fc rm ac rf kn) ++ (wMo cJ cZ b mce mfr mun mbe men mov msp mwb mwe mwi mac mre mkn mth) ++ (wO o r2.2 ov)) (fun qP qD qF => vx_runSW (As := [.ref (a 0), .int (xs (x4 + 1).toNatClampNeg), .ref o]) (rest := []) ⟨hx, hb, hml, hown, hts⟩ (c_L_house l hl9 dC dI cB cI cJ cZ a o _ ce fr un sb se so sc wb we wo wc fb fe fo fc rm ac rf kn on ov (xs (x4 + 1).toNatClampNeg) r2 g2) (kcwSW hts kw_1058 kv_L_house rfl rfl ⟨(Nat.le_of_ble_eq_true rfl), (Nat.le_of_ble_eq_true rfl)⟩) (kpSXq (A := A) qP hK qD hG hZ hS qF) rfl rfl hl.1 rfl (lv_room (Nat.le_of_ble_eq_true rfl)) (kdr dgL_law_1713 4 4 rfl rfl) ⟨by show _ ≤ (600128 : Nat); omega, by show _ ≤ (7301098 : Nat); omega⟩) hP hD hS hA (kFr_2 (kFr_l kFr_SB) kFr_o) (fun H locs hP hD hS br2 => ?_)
  refine lv_istore (lv' := (kvI 5 r2.1 (kvA 0 b9 (kvA 1 (a 0) (kvA 2 (b 0) (kvA 3 o (kvI 4 x4 kvE))))))) hx hb (kdr dgL_law_1713 4 5 rfl rfl) hl (by decide) rfl (fun ls hl => ?_)
  refine lv_aload_n hx hb (kdr dgL_law_1713 4 6 rfl rfl) rfl (lv_at hl 3 rfl) ?_
  refine kld (v := 1) hx hb (kdr dgL_law_1713 4 7 rfl rfl) rfl (lv_at hl 1 rfl) (kdr dgL_law_1713 4 8 rfl rfl) (lv_at hl 5 rfl) (kdr dgL_law_1713 4 9 rfl rfl) (by decide) (kdr dgL_law_1713 5 0 rfl rfl) hX hbl hbA hS (ix_in z0) (kdr dgL_law_1713 5 1 rfl rfl) ?_
  obtain ⟨r3, g3, h⟩ := g_b h
  refine kq_i ((wSB cI cJ cZ a ce fr un sb se so sc wb we wo wc fb fe fo fc rm ac rf kn) ++ (wMo cJ cZ b mce mfr mun mbe men mov msp mwb mwe mwi mac mre mkn r3.2) ++ (wO o r2.2 ov)) (fun qP qD qF => va_runV (As := [.int (xs (x4 + 1).toNatClampNeg)]) (rest := []) ⟨hx, hb, hml, hown, hts⟩ (c_X3_house l dC dI cB cI cJ cZ b _ mce mfr mun mbe men mov msp mwb mwe mwi mac mre mkn mth (xs (x4 + 1).toNatClampNeg) r3 g3) (kcwV hts kw_1450 kv_X3_house rfl rfl ⟨(Nat.le_of_ble_eq_true rfl), (Nat.le_of_ble_eq_true rfl)⟩) (kpV (A := A) qP hK qD hG (krecv_5 (q0 := 15) hK hP rfl)) rfl rfl hl.1 rfl (lv_room (Nat.le_of_ble_eq_true rfl)) (kdr dgL_law_1713 5 2 rfl rfl) ⟨by show _ ≤ (600128 : Nat); omega, by show _ ≤ (7301098 : Nat); omega⟩) hP hD hS hA (kFr_l (kFr_r kFr_Mo)) (fun H locs hP hD hS br3 => ?_)
  refine lv_istore (lv' := (kvI 6 r3.1 (kvI 5 r2.1 (kvA 0 b9 (kvA 1 (a 0) (kvA 2 (b 0) (kvA 3 o (kvI 4 x4 kvE)))))))) hx hb (kdr dgL_law_1713 5 3 rfl rfl) hl (by decide) rfl (fun ls hl => ?_)
  refine lv_goto (tgt := 1845) hx hb (kdr dgL_law_1713 5 4 rfl rfl) (by decide) ?_
  exact hK9 ce fr un sb se so sc wb we wo wc fb fe fo fc rm ac rf kn mce mfr mun mbe men mov msp mwb mwe mwi mac mre mkn r3.2 r2.2 ov x4 b _ _ _ _ (by omega) (by omega) hP hD hS ls (lv_sub hl [2, 3, 4, 5, 6] rfl) h
noncomputable def flaw_1805 (L : Nat) (xs : Nat → Int32) (K : kFT) (ce : Nat → Int64) (fr : Int64) (un : Int64) (sb : Nat → Int64) (se : Nat → Int64) (so : Nat → Int32) (sc : Int32) (wb : Nat → Int64) (we : Nat → Int64) (wo : Nat → Int32) (wc : Int32) (fb : Nat → Int64) (fe : Nat → Int64) (fo : Nat → Int32) (fc : Int32) (rm : Nat → Int32) (ac : Int32) (rf : Int32) (kn : Int32) (mce : Nat → Int64) (mfr : Int64) (mun : Int64) (mbe : Nat → Int64) (men : Nat → Int64) (mov : Nat → Int32) (msp : Int32) (mwb : Nat → Int64) (mwe : Nat → Int64) (mwi : Int32) (mac : Int32) (mre : Int32) (mkn : Int32) (mth : Int32) (on : Int64) (x4 : Int32) : Option Int32 :=
  (f_X1_knock kn).bind fun r1 =>
  (f_X3_knock mkn).bind fun r2 =>
  K ce fr un sb se so sc wb we wo wc fb fe fo fc rm ac rf r1.2 mce mfr mun mbe men mov msp mwb mwe mwi mac mre r2.2.1 r2.2.2 on x4
theorem flaw_1805_e {L : Nat} {xs : Nat → Int32} {K : kFT} (ce : Nat → Int64) (fr : Int64) (un : Int64) (sb : Nat → Int64) (se : Nat → Int64) (so : Nat → Int32) (sc : Int32) (wb : Nat → Int64) (we : Nat → Int64) (wo : Nat → Int32) (wc : Int32) (fb : Nat → Int64) (fe : Nat → Int64) (fo : Nat → Int32) (fc : Int32) (rm : Nat → Int32) (ac : Int32) (rf : Int32) (kn : Int32) (mce : Nat → Int64) (mfr : Int64) (mun : Int64) (mbe : Nat → Int64) (men : Nat → Int64) (mov : Nat → Int32) (msp : Int32) (mwb : Nat → Int64) (mwe : Nat → Int64) (mwi : Int32) (mac : Int32) (mre : Int32) (mkn : Int32) (mth : Int32) (on : Int64) (x4 : Int32) : flaw_1805 L xs K ce fr un sb se so sc wb we wo wc fb fe fo fc rm ac rf kn mce mfr mun mbe men mov msp mwb mwe mwi mac mre mkn mth on x4 =
  (f_X1_knock kn).bind fun r1 =>
  (f_X3_knock mkn).bind fun r2 =>
  K ce fr un sb se so sc wb we wo wc fb fe fo fc rm ac rf r1.2 mce mfr mun mbe men mov msp mwb mwe mwi mac mre r2.2.1 r2.2.2 on x4 := rfl
set_option maxHeartbeats 8000000 in
set_option maxRecDepth 100000 in
theorem law_45 {p : Program} {l : Launch} {e : Env} {s : State} {m : MethodId} {below : List Frame} {meth : Method} {c : Code} {dC : Nat → ClassId} {dI : Nat → Nat → Nat} {cB cI cJ cZ : ClassId} {b9 L : Nat} {xs : Nat → Int32} {A : Nat → Prop} (hl9 : l.stackTraces = false) (C0 : kLw p s m c b9 L xs A) (hK : va_K (dC, dI) vwCl (kTy cB cI cJ cZ) s) {a : Nat → Nat} {o : Nat} (K : kFT) (bK sK : Nat) (hK9 : kGo p l e s m below meth c dC dI cB cI cJ cZ b9 A a o 1845 bK sK K) : kGo p l e s m below meth c dC dI cB cI cJ cZ b9 A a o 1805 (0 + bK) (0 + sK) (flaw_1805 L xs K) := by
  obtain ⟨hx, hb, hml, hown, hts, hX, hbl, hA, hbA, hG, hZ⟩ := C0
  intro ce fr un sb se so sc wb we wo wc fb fe fo fc rm ac rf kn mce mfr mun mbe men mov msp mwb mwe mwi mac mre mkn mth on ov x4 b H locs kc ks hkc hks hP hD hS ls hl h
  have h := (flaw_1805_e ce fr un sb se so sc wb we wo wc fb fe fo fc rm ac rf kn mce mfr mun mbe men mov msp mwb mwe mwi mac mre mkn mth on x4).symm.trans h
  refine lv_aload_n hx hb (kdr dgL_law_1713 5 5 rfl rfl) rfl (lv_at hl 1 rfl) ?_
  obtain ⟨r1, g1, h⟩ := g_b h
  refine kq_i ((wSB cI cJ cZ a ce fr un sb se so sc wb we wo wc fb fe fo fc rm ac rf r1.2) ++ (wMo cJ cZ b mce mfr mun mbe men mov msp mwb mwe mwi mac mre mkn mth) ++ (wO o on ov)) (fun qP qD qF => va_runV (As := []) (rest := []) ⟨hx, hb, hml, hown, hts⟩ (c_X1_knock l dC dI cB cI cJ cZ a _ ce fr un sb se so sc wb we wo wc fb fe fo fc rm ac rf kn  r1 g1) (kcwV hts kw_264 kv_X1_knock rfl rfl ⟨(Nat.le_of_ble_eq_true rfl), (Nat.le_of_ble_eq_true rfl)⟩) (kpV (A := A) qP hK qD hG (krecv_3 (q0 := 0) hK hP rfl)) rfl rfl hl.1 rfl (lv_room (Nat.le_of_ble_eq_true rfl)) (kdr dgL_law_1713 5 6 rfl rfl) ⟨by show _ ≤ (600128 : Nat); omega, by show _ ≤ (7301098 : Nat); omega⟩) hP hD hS hA (kFr_l (kFr_l kFr_SB)) (fun H locs hP hD hS br1 => ?_)
  refine lv_pop hx hb (kdr dgL_law_1713 5 7 rfl rfl) rfl ?_
  refine lv_aload_n hx hb (kdr dgL_law_1713 5 8 rfl rfl) rfl (lv_at hl 2 rfl) ?_
  obtain ⟨r2, g2, h⟩ := g_b h
  refine kq_i ((wSB cI cJ cZ a ce fr un sb se so sc wb we wo wc fb fe fo fc rm ac rf r1.2) ++ (wMo cJ cZ b mce mfr mun mbe men mov msp mwb mwe mwi mac mre r2.2.1 r2.2.2) ++ (wO o on ov)) (fun qP qD qF => va_runV (As := []) (rest := []) ⟨hx, hb, hml, hown, hts⟩ (c_X3_knock l dC dI cB cI cJ cZ b _ mce mfr mun mbe men mov msp mwb mwe mwi mac mre mkn mth  r2 g2) (kcwV hts kw_1454 kv_X3_knock rfl rfl ⟨(Nat.le_of_ble_eq_true rfl), (Nat.le_of_ble_eq_true rfl)⟩) (kpV (A := A) qP hK qD hG (krecv_5 (q0 := 15) hK hP rfl)) rfl rfl hl.1 rfl (lv_room (Nat.le_of_ble_eq_true rfl)) (kdr dgL_law_1713 5 9 rfl rfl) ⟨by show _ ≤ (600128 : Nat); omega, by show _ ≤ (7301098 : Nat); omega⟩) hP hD hS hA (kFr_l (kFr_r kFr_Mo)) (fun H locs hP hD hS br2 => ?_)
  refine lv_pop hx hb (kdr dgL_law_1713 6 0 rfl rfl) rfl ?_
  refine lv_goto (tgt := 1845) hx hb (kdr dgL_law_1713 6 1 rfl rfl) (by decide) ?_
  exact hK9 ce fr un sb se so sc wb we wo wc fb fe fo fc rm ac rf r1.2 mce mfr mun mbe men mov msp mwb mwe mwi mac mre r2.2.1 r2.2.2 on ov x4 b _ _ _ _ (by omega) (by omega) hP hD hS ls (lv_sub hl [0, 1, 2, 3, 4] rfl) h
noncomputable def flaw_1818 (L : Nat) (xs : Nat → Int32) (K : kFT) (ce : Nat → Int64) (fr : Int64) (un : Int64) (sb : Nat → Int64) (se : Nat → Int64) (so : Nat → Int32) (sc : Int32) (wb : Nat → Int64) (we : Nat → Int64) (wo : Nat → Int32) (wc : Int32) (fb : Nat → Int64) (fe : Nat → Int64) (fo : Nat → Int32) (fc : Int32) (rm : Nat → Int32) (ac : Int32) (rf : Int32) (kn : Int32) (mce : Nat → Int64) (mfr : Int64) (mun : Int64) (mbe : Nat → Int64) (men : Nat → Int64) (mov : Nat → Int32) (msp : Int32) (mwb : Nat → Int64) (mwe : Nat → Int64) (mwi : Int32) (mac : Int32) (mre : Int32) (mkn : Int32) (mth : Int32) (on : Int64) (x4 : Int32) : Option Int32 :=
  (f_X1_isSound fr un sb se so sc wb we wc fb fe fo fc rm).bind fun r1 =>
  (f_X3_isSound mfr mun mbe men mov msp mwb mwe mwi).bind fun r2 =>
  K ce fr un sb se so sc wb we wo wc r1.2.1 r1.2.2.1 r1.2.2.2.1 r1.2.2.2.2.1 r1.2.2.2.2.2 ac rf kn mce mfr mun mbe men mov msp mwb mwe mwi mac mre mkn r2.2 on x4
theorem flaw_1818_e {L : Nat} {xs : Nat → Int32} {K : kFT} (ce : Nat → Int64) (fr : Int64) (un : Int64) (sb : Nat → Int64) (se : Nat → Int64) (so : Nat → Int32) (sc : Int32) (wb : Nat → Int64) (we : Nat → Int64) (wo : Nat → Int32) (wc : Int32) (fb : Nat → Int64) (fe : Nat → Int64) (fo : Nat → Int32) (fc : Int32) (rm : Nat → Int32) (ac : Int32) (rf : Int32) (kn : Int32) (mce : Nat → Int64) (mfr : Int64) (mun : Int64) (mbe : Nat → Int64) (men : Nat → Int64) (mov : Nat → Int32) (msp : Int32) (mwb : Nat → Int64) (mwe : Nat → Int64) (mwi : Int32) (mac : Int32) (mre : Int32) (mkn : Int32) (mth : Int32) (on : Int64) (x4 : Int32) : flaw_1818 L xs K ce fr un sb se so sc wb we wo wc fb fe fo fc rm ac rf kn mce mfr mun mbe men mov msp mwb mwe mwi mac mre mkn mth on x4 =
  (f_X1_isSound fr un sb se so sc wb we wc fb fe fo fc rm).bind fun r1 =>
  (f_X3_isSound mfr mun mbe men mov msp mwb mwe mwi).bind fun r2 =>
  K ce fr un sb se so sc wb we wo wc r1.2.1 r1.2.2.1 r1.2.2.2.1 r1.2.2.2.2.1 r1.2.2.2.2.2 ac rf kn mce mfr mun mbe men mov msp mwb mwe mwi mac mre mkn r2.2 on x4 := rfl
set_option maxHeartbeats 8000000 in
set_option maxRecDepth 100000 in
theorem law_46 {p : Program} {l : Launch} {e : Env} {s : State} {m : MethodId} {below : List Frame} {meth : Method} {c : Code} {dC : Nat → ClassId} {dI : Nat → Nat → Nat} {cB cI cJ cZ : ClassId} {b9 L : Nat} {xs : Nat → Int32} {A : Nat → Prop} (hl9 : l.stackTraces = false) (C0 : kLw p s m c b9 L xs A) (hK : va_K (dC, dI) vwCl (kTy cB cI cJ cZ) s) {a : Nat → Nat} {o : Nat} (K : kFT) (bK sK : Nat) (hK9 : kGo p l e s m below meth c dC dI cB cI cJ cZ b9 A a o 1845 bK sK K) : kGo p l e s m below meth c dC dI cB cI cJ cZ b9 A a o 1818 (3 + bK) (60 + sK) (flaw_1818 L xs K) := by
  obtain ⟨hx, hb, hml, hown, hts, hX, hbl, hA, hbA, hG, hZ⟩ := C0
  intro ce fr un sb se so sc wb we wo wc fb fe fo fc rm ac rf kn mce mfr mun mbe men mov msp mwb mwe mwi mac mre mkn mth on ov x4 b H locs kc ks hkc hks hP hD hS ls hl h
  have h := (flaw_1818_e ce fr un sb se so sc wb we wo wc fb fe fo fc rm ac rf kn mce mfr mun mbe men mov msp mwb mwe mwi mac mre mkn mth on x4).symm.trans h
  refine lv_aload_n hx hb (kdr dgL_law_1713 6 2 rfl rfl) rfl (lv_at hl 1 rfl) ?_
  obtain ⟨r1, g1, h⟩ := g_b h
  refine kq_i ((wSB cI cJ cZ a ce fr un sb se so sc wb we wo wc r1.2.1 r1.2.2.1 r1.2.2.2.1 r1.2.2.2.2.1 r1.2.2.2.2.2 ac rf kn) ++ (wMo cJ cZ b mce mfr mun mbe men mov msp mwb mwe mwi mac mre mkn mth) ++ (wO o on ov)) (fun qP qD qF => va_runV (As := []) (rest := []) ⟨hx, hb, hml, hown, hts⟩ (c_X1_isSound l dC dI cB cI cJ cZ a _ ce fr un sb se so sc wb we wo wc fb fe fo fc rm ac rf kn  r1 g1) (kcwV hts kw_268 kv_X1_isSound rfl rfl ⟨(Nat.le_of_ble_eq_true rfl), (Nat.le_of_ble_eq_true rfl)⟩) (kpV (A := A) qP hK qD hG (krecv_3 (q0 := 0) hK hP rfl)) rfl rfl hl.1 rfl (lv_room (Nat.le_of_ble_eq_true rfl)) (kdr dgL_law_1713 6 3 rfl rfl) ⟨by show _ ≤ (600128 : Nat); omega, by show _ ≤ (7301098 : Nat); omega⟩) hP hD hS hA (kFr_l (kFr_l kFr_SB)) (fun H locs hP hD hS br1 => ?_)
  refine lv_pop hx hb (kdr dgL_law_1713 6 4 rfl rfl) rfl ?_
  refine lv_aload_n hx hb (kdr dgL_law_1713 6 5 rfl rfl) rfl (lv_at hl 2 rfl) ?_
  obtain ⟨r2, g2, h⟩ := g_b h
  refine kq_i ((wSB cI cJ cZ a ce fr un sb se so sc wb we wo wc r1.2.1 r1.2.2.1 r1.2.2.2.1 r1.2.2.2.2.1 r1.2.2.2.2.2 ac rf kn) ++ (wMo cJ cZ b mce mfr mun mbe men mov msp mwb mwe mwi mac mre mkn r2.2) ++ (wO o on ov)) (fun qP qD qF => va_runV (As := []) (rest := []) ⟨hx, hb, hml, hown, hts⟩ (c_X3_isSound l dC dI cB cI cJ cZ b _ mce mfr mun mbe men mov msp mwb mwe mwi mac mre mkn mth  r2 g2) (kcwV hts kw_1458 kv_X3_isSound rfl rfl ⟨(Nat.le_of_ble_eq_true rfl), (Nat.le_of_ble_eq_true rfl)⟩) (kpV (A := A) qP hK qD hG (krecv_5 (q0 := 15) hK hP rfl)) rfl rfl hl.1 rfl (lv_room (Nat.le_of_ble_eq_true rfl)) (kdr dgL_law_1713 6 6 rfl rfl) ⟨by show _ ≤ (600128 : Nat); omega, by show _ ≤ (7301098 : Nat); omega⟩) hP hD hS hA (kFr_l (kFr_r kFr_Mo)) (fun H locs hP hD hS br2 => ?_)
  refine lv_pop hx hb (kdr dgL_law_1713 6 7 rfl rfl) rfl ?_
  refine lv_goto (tgt := 1845) hx hb (kdr dgL_law_1713 6 8 rfl rfl) (by decide) ?_
  exact hK9 ce fr un sb se so sc wb we wo wc r1.2.1 r1.2.2.1 r1.2.2.2.1 r1.2.2.2.2.1 r1.2.2.2.2.2 ac rf kn mce mfr mun mbe men mov msp mwb mwe mwi mac mre mkn r2.2 on ov x4 b _ _ _ _ (by omega) (by omega) hP hD hS ls (lv_sub hl [0, 1, 2, 3, 4] rfl) h
noncomputable def flaw_1831 (L : Nat) (xs : Nat → Int32) (K : kFT) (ce : Nat → Int64) (fr : Int64) (un : Int64) (sb : Nat → Int64) (se : Nat → Int64) (so : Nat → Int32) (sc : Int32) (wb : Nat → Int64) (we : Nat → Int64) (wo : Nat → Int32) (wc : Int32) (fb : Nat → Int64) (fe : Nat → Int64) (fo : Nat → Int32) (fc : Int32) (rm : Nat → Int32) (ac : Int32) (rf : Int32) (kn : Int32) (mce : Nat → Int64) (mfr : Int64) (mun : Int64) (mbe : Nat → Int64) (men : Nat → Int64) (mov : Nat → Int32) (msp : Int32) (mwb : Nat → Int64) (mwe : Nat → Int64) (mwi : Int32) (mac : Int32) (mre : Int32) (mkn : Int32) (mth : Int32) (on : Int64) (x4 : Int32) : Option Int32 :=
  (f_X1_digest ce fr un sb se so sc wb we wc fb fe fo fc rm ac rf kn).bind fun r1 =>
  (f_X3_digest mce mfr mun mbe men mov msp mwb mwe mwi mac mre mkn).bind fun r2 =>
  if r1.1 = r2.1 then
    K ce fr un sb se so sc wb we wo wc r1.2.1 r1.2.2.1 r1.2.2.2.1 r1.2.2.2.2.1 r1.2.2.2.2.2 ac rf kn mce mfr mun mbe men mov msp mwb mwe mwi mac mre mkn r2.2 on x4
  else
    some 0
theorem flaw_1831_e {L : Nat} {xs : Nat → Int32} {K : kFT} (ce : Nat → Int64) (fr : Int64) (un : Int64) (sb : Nat → Int64) (se : Nat → Int64) (so : Nat → Int32) (sc : Int32) (wb : Nat → Int64) (we : Nat → Int64) (wo : Nat → Int32) (wc : Int32) (fb : Nat → Int64) (fe : Nat → Int64) (fo : Nat → Int32) (fc : Int32) (rm : Nat → Int32) (ac : Int32) (rf : Int32) (kn : Int32) (mce : Nat → Int64) (mfr : Int64) (mun : Int64) (mbe : Nat → Int64) (men : Nat → Int64) (mov : Nat → Int32) (msp : Int32) (mwb : Nat → Int64) (mwe : Nat → Int64) (mwi : Int32) (mac : Int32) (mre : Int32) (mkn : Int32) (mth : Int32) (on : Int64) (x4 : Int32) : flaw_1831 L xs K ce fr un sb se so sc wb we wo wc fb fe fo fc rm ac rf kn mce mfr mun mbe men mov msp mwb mwe mwi mac mre mkn mth on x4 =
  (f_X1_digest ce fr un sb se so sc wb we wc fb fe fo fc rm ac rf kn).bind fun r1 =>
  (f_X3_digest mce mfr mun mbe men mov msp mwb mwe mwi mac mre mkn).bind fun r2 =>
  if r1.1 = r2.1 then
    K ce fr un sb se so sc wb we wo wc r1.2.1 r1.2.2.1 r1.2.2.2.1 r1.2.2.2.2.1 r1.2.2.2.2.2 ac rf kn mce mfr mun mbe men mov msp mwb mwe mwi mac mre mkn r2.2 on x4
  else
    some 0 := rfl
set_option maxHeartbeats 8000000 in
set_option maxRecDepth 100000 in
theorem law_47 {p : Program} {l : Launch} {e : Env} {s : State} {m : MethodId} {below : List Frame} {meth : Method} {c : Code} {dC : Nat → ClassId} {dI : Nat → Nat → Nat} {cB cI cJ cZ : ClassId} {b9 L : Nat} {xs : Nat → Int32} {A : Nat → Prop} (hl9 : l.stackTraces = false) (C0 : kLw p s m c b9 L xs A) (hK : va_K (dC, dI) vwCl (kTy cB cI cJ cZ) s) {a : Nat → Nat} {o : Nat} (K : kFT) (bK sK : Nat) (hK9 : kGo p l e s m below meth c dC dI cB cI cJ cZ b9 A a o 1845 bK sK K) : kGo p l e s m below meth c dC dI cB cI cJ cZ b9 A a o 1831 (86 + bK) (1880 + sK) (flaw_1831 L xs K) := by
  obtain ⟨hx, hb, hml, hown, hts, hX, hbl, hA, hbA, hG, hZ⟩ := C0
  intro ce fr un sb se so sc wb we wo wc fb fe fo fc rm ac rf kn mce mfr mun mbe men mov msp mwb mwe mwi mac mre mkn mth on ov x4 b H locs kc ks hkc hks hP hD hS ls hl h
  have h := (flaw_1831_e ce fr un sb se so sc wb we wo wc fb fe fo fc rm ac rf kn mce mfr mun mbe men mov msp mwb mwe mwi mac mre mkn mth on x4).symm.trans h
  refine lv_aload_n hx hb (kdr dgL_law_1713 6 9 rfl rfl) rfl (lv_at hl 1 rfl) ?_
  obtain ⟨r1, g1, h⟩ := g_b h
  refine kq_l ((wSB cI cJ cZ a ce fr un sb se so sc wb we wo wc r1.2.1 r1.2.2.1 r1.2.2.2.1 r1.2.2.2.2.1 r1.2.2.2.2.2 ac rf kn) ++ (wMo cJ cZ b mce mfr mun mbe men mov msp mwb mwe mwi mac mre mkn mth) ++ (wO o on ov)) (fun qP qD qF => va_runV (As := []) (rest := []) ⟨hx, hb, hml, hown, hts⟩ (c_X1_digest l dC dI cB cI cJ cZ a _ ce fr un sb se so sc wb we wo wc fb fe fo fc rm ac rf kn  r1 g1) (kcwV hts kw_320 kv_X1_digest rfl rfl ⟨(Nat.le_of_ble_eq_true rfl), (Nat.le_of_ble_eq_true rfl)⟩) (kpV (A := A) qP hK qD hG (krecv_3 (q0 := 0) hK hP rfl)) rfl rfl hl.1 rfl (lv_room (Nat.le_of_ble_eq_true rfl)) (kdr dgL_law_1713 7 0 rfl rfl) ⟨by show _ ≤ (600128 : Nat); omega, by show _ ≤ (7301098 : Nat); omega⟩) hP hD hS hA (kFr_l (kFr_l kFr_SB)) (fun H locs hP hD hS => ?_)
  refine lv_aload_n hx hb (kdr dgL_law_1713 7 1 rfl rfl) rfl (lv_at hl 2 rfl) ?_
  obtain ⟨r2, g2, h⟩ := g_b h
  refine kq_l ((wSB cI cJ cZ a ce fr un sb se so sc wb we wo wc r1.2.1 r1.2.2.1 r1.2.2.2.1 r1.2.2.2.2.1 r1.2.2.2.2.2 ac rf kn) ++ (wMo cJ cZ b mce mfr mun mbe men mov msp mwb mwe mwi mac mre mkn r2.2) ++ (wO o on ov)) (fun qP qD qF => va_runV (As := []) (rest := [.long r1.1]) ⟨hx, hb, hml, hown, hts⟩ (c_X3_digest l dC dI cB cI cJ cZ b _ mce mfr mun mbe men mov msp mwb mwe mwi mac mre mkn mth  r2 g2) (kcwV hts kw_1466 kv_X3_digest rfl rfl ⟨(Nat.le_of_ble_eq_true rfl), (Nat.le_of_ble_eq_true rfl)⟩) (kpV (A := A) qP hK qD hG (krecv_5 (q0 := 15) hK hP rfl)) rfl rfl hl.1 rfl (lv_room (Nat.le_of_ble_eq_true rfl)) (kdr dgL_law_1713 7 2 rfl rfl) ⟨by show _ ≤ (600128 : Nat); omega, by show _ ≤ (7301098 : Nat); omega⟩) hP hD hS hA (kFr_l (kFr_r kFr_Mo)) (fun H locs hP hD hS => ?_)
  refine kl_eq (pc := 1839) (tgt := 1845) hx hb (kdr dgL_law_1713 7 3 rfl rfl) (kdr dgL_law_1713 7 4 rfl rfl) (by decide) (fun c3 => ?_) (fun c3 => ?_)
  · have h := g_t c3 h
    exact hK9 ce fr un sb se so sc wb we wo wc r1.2.1 r1.2.2.1 r1.2.2.2.1 r1.2.2.2.2.1 r1.2.2.2.2.2 ac rf kn mce mfr mun mbe men mov msp mwb mwe mwi mac mre mkn r2.2 on ov x4 b _ _ _ _ (by omega) (by omega) hP hD hS ls (lv_sub hl [0, 1, 2, 3, 4] rfl) h
  · have h := g_f c3 h
    refine lv_iconst (v := 0) hx hb (kdr dgL_law_1713 7 5 rfl rfl) (by decide) ?_
    exact absurd h (by decide)
end
-- 23.start.lean.txt
section
theorem kstart_w {args : Array Value} {s : State} (hts : ∀ w ∈ lw_tbl, w.before args s = true) : ∀ w ∈ kBIG, w.before args s = true := fun w hw => by
  rcases List.mem_append.mp hw with h | h
  · exact hts w (List.mem_filter.mp h).1
  · have hsb : (Cond.selects "java/lang/StringBuilder" ⟨"java/lang/AbstractStringBuilder", "isLatin1", "()Z"⟩ ⟨"java/lang/AbstractStringBuilder", "isLatin1", "()Z"⟩).before args s = true := hts _ (List.mem_of_getElem? (i := 759) (by decide +kernel))
    simp only [kPV, List.mem_cons, List.not_mem_nil, or_false] at h
    rcases h with rfl | rfl | rfl | rfl
    · exact ksel hsb rfl (by decide +kernel) (hts _ (List.mem_of_getElem? (i := 724) (by decide +kernel))) (hts _ (List.mem_of_getElem? (i := 725) (by decide +kernel)))
    · exact ksel hsb rfl (by decide +kernel) (hts _ (List.mem_of_getElem? (i := 728) (by decide +kernel))) (hts _ (List.mem_of_getElem? (i := 729) (by decide +kernel)))
    · exact ksel hsb rfl (by decide +kernel) (hts _ (List.mem_of_getElem? (i := 905) (by decide +kernel))) (hts _ (List.mem_of_getElem? (i := 906) (by decide +kernel)))
    · exact ksel hsb rfl (by decide +kernel) (hts _ (List.mem_of_getElem? (i := 909) (by decide +kernel))) (hts _ (List.mem_of_getElem? (i := 910) (by decide +kernel)))
theorem karr {s : State} {args : Array Value} {ty : FieldType} (h : (Cond.arrayClass ty).before args s = true) : ∃ cA : ClassId, ArrOfT s cA ty ∧ s.vm.findClass ("[" ++ ty.toString) = some cA := by
  obtain ⟨c, k, comp, h1, h2, h3⟩ := Cond.arrayClass_spec h
  exact ⟨c, fun n z => ⟨fun k h => (by cases h), k, h2, comp, h3⟩, h1⟩
theorem kstr {own tx : String} {k : Nat} {args : Array Value} {s : State} (h1 : (Cond.stringRef own k tx).before args s = true) (h2 : (Cond.exactly (.string own k) "java/lang/String").before args s = true) : ∃ a, vk_R own k tx a s := by
  obtain ⟨a, c, cell, kA, q1, -⟩ := Cond.exactly_spec (args := args) (first := s) (o := none) (s := s) (idx := []) h2
  exact ⟨a, vk_R.of h1 q1⟩
theorem kDigitOnes : ∀ j, j < 100 → (flatC (given_1.and narrow_1))[10 + j]? = some (Cond.eq (.elem (.static "java/lang/Integer" "DigitOnes" "[B") (.int (Int32.ofNat j))) (.int (kOnes j))) := by decide +kernel
theorem kDigitTens : ∀ j, j < 100 → (flatC (given_1.and narrow_1))[113 + j]? = some (Cond.eq (.elem (.static "java/lang/Integer" "DigitTens" "[B") (.int (Int32.ofNat j))) (.int (kTens j))) := by decide +kernel
theorem kblank {own tx : String} {k : Nat} {args : Array Value} {s : State} {A : Nat → Prop} (h0 : (Cond.stringRef own k tx).before args s = true) (h1 : (Cond.exactly (.string own k) "java/lang/String").before args s = true) (h2 : (Cond.eq (.field (.string own k) "java/lang/String" "coder" "B") (.int 0)).before args s = true) (h3 : (Cond.arrayOf (.field (.string own k) "java/lang/String" "value" "[B") .byte).before args s = true) (h4 : (Cond.eq (.length (.field (.string own k) "java/lang/String" "value" "[B")) (.int 1)).before args s = true) (h5 : (Cond.eq (.elem (.field (.string own k) "java/lang/String" "value" "[B") (.int 0)) (.int 32)).before args s = true) (hA : ∀ a : Nat, a < s.heap.size → ¬ A a) : ∃ a b, vk_R own k tx a s ∧ kSp A s s.heap a b := by
  obtain ⟨adK, adV, q1, q2⟩ := vk_Sof (tm := fun _ => .string own k) (N := 1) (len := [1]) (byt := [[32]]) (A := A) (fun i hi => by rcases Nat.lt_one_iff.mp hi with rfl; decide) (fun i hi => h1) (fun i hi => h2) (fun i hi => h3) (fun i hi => by rcases Nat.lt_one_iff.mp hi with rfl; exact h4) (fun i hi j hj => by rcases Nat.lt_one_iff.mp hi with rfl; rcases Nat.lt_one_iff.mp (show j < 1 from hj) with rfl; exact h5) (fun i j hi hj hn => absurd (by omega) hn) hA
  obtain ⟨y1, y2, y3, y4⟩ := q1.1 0 (by decide)
  refine ⟨adK 0, adV 0, vk_R.of h0 (q2 0 (by decide)), y1, y2, y3, ?_⟩
  obtain ⟨cell, x1, x2, x3, x4, x5, x6, x7⟩ := y4
  exact ⟨cell, x1, x2, x3, x4, x5, fun j hj => by rcases Nat.lt_one_iff.mp hj with rfl; exact x6 0 hj, x7⟩
set_option maxHeartbeats 8000000 in
set_option maxRecDepth 100000 in
theorem kstart {p : Program} {s : State} {m : MethodId} {meth : Method} {c : Code} {b L : Nat} {xs : Nat → Int32} (C0 : lw_At p s m meth c b L xs) : ∃ (dC : Nat → ClassId) (dI : Nat → Nat → Nat) (cB cI cJ cZ : ClassId), va_K (dC, dI) vwCl (kTy cB cI cJ cZ) s ∧ kG s ∧ kZ (fun q => s.heap.size ≤ q) s s.heap := by
  obtain ⟨-, -, -, -, -, hts, -, -, -, hgv⟩ := C0
  have hk := kstart_w hts
  have hs := flat_of_before _ hgv
  have hA : ∀ a : Nat, a < s.heap.size → ¬ (fun q => s.heap.size ≤ q) a := fun a h => Nat.not_le.mpr h
  obtain ⟨c0, i0, hK0⟩ := u_known (C := RJ0) (T := TJ0) (N := 4) (n := 4) hk ku_J0 (hk _ (kb_d4 69 (by decide +kernel)))
  obtain ⟨c1, i1, hK1⟩ := u_known (C := RJ4) (T := TJ4) (N := 4) (n := 4) hk ku_J4 (hk _ (kb_d3 147 (by decide +kernel)))
  obtain ⟨c2, i2, hK2⟩ := u_known (C := RX0) (T := TX0) (N := 4) (n := 4) hk ku_X0 (hk _ (kb_d1 31 (by decide +kernel)))
  obtain ⟨c3, i3, hK3⟩ := u_known (C := RX1) (T := TX1) (N := 10) (n := 10) hk ku_X1 (hk _ (kb_d1 22 (by decide +kernel)))
  obtain ⟨c4, i4, hK4⟩ := u_known (C := RX2) (T := TX2) (N := 2) (n := 2) hk ku_X2 (hk _ (kb_d2 156 (by decide +kernel)))
  obtain ⟨c5, i5, hK5⟩ := u_known (C := RX3) (T := TX3) (N := 14) (n := 14) hk ku_X3 (hk _ (kb_d5 50 (by decide +kernel)))
  obtain ⟨dC, dI, hKc⟩ : ∃ (dC : Nat → ClassId) (dI : Nat → Nat → Nat), ∀ (k : Nat) (q : vw_C), vwCl[k]? = some q → u_Kn s q.1 q.2.1 q.2.2 (dC k) (dI k) := by
    refine ⟨fun k => match k with | 0 => c0 | 1 => c1 | 2 => c2 | 3 => c3 | 4 => c4 | _ => c5, fun k => match k with | 0 => i0 | 1 => i1 | 2 => i2 | 3 => i3 | 4 => i4 | _ => i5, ?_⟩
    intro k q hq
    match k, hq with
    | 0, hq => cases hq; exact hK0
    | 1, hq => cases hq; exact hK1
    | 2, hq => cases hq; exact hK2
    | 3, hq => cases hq; exact hK3
    | 4, hq => cases hq; exact hK4
    | 5, hq => cases hq; exact hK5
    | k + 6, hq => simp [vwCl] at hq
  obtain ⟨cB, haB, hbB⟩ := karr (ty := .byte) (hk _ (kb_d2 130 (by decide +kernel)))
  obtain ⟨cI, haI, hbI⟩ := karr (ty := .int) (hk _ (kb_d1 82 (by decide +kernel)))
  obtain ⟨cJ, haJ, hbJ⟩ := karr (ty := .long) (hk _ (kb_d1 49 (by decide +kernel)))
  obtain ⟨cZ, haZ, hbZ⟩ := karr (ty := .boolean) (hk _ (kb_d1 50 (by decide +kernel)))
  refine ⟨dC, dI, cB, cI, cJ, cZ, ⟨hKc, fun k q hq => ?_⟩, ⟨fun w hw => ?_, va_Nc.of (hs _ (List.mem_of_getElem? (i := 221) (by decide +kernel)))⟩, ?_⟩
  · match k, hq with
    | 0, hq => cases hq; exact ⟨haB, hbB⟩
    | 1, hq => cases hq; exact ⟨haI, hbI⟩
    | 2, hq => cases hq; exact ⟨haJ, hbJ⟩
    | 3, hq => cases hq; exact ⟨haZ, hbZ⟩
    | k + 4, hq => simp [kTy] at hq
  · refine va_Nw.of (kGw_tab w hw) (A := #[Value.ref b]) ?_
    simp only [kGw, List.mem_cons, List.not_mem_nil, or_false] at hw
    rcases hw with rfl | rfl | rfl | rfl | rfl | rfl | rfl | rfl | rfl | rfl
    · exact hts _ (List.mem_of_getElem? (i := 562) (by decide +kernel))
    · exact hts _ (List.mem_of_getElem? (i := 364) (by decide +kernel))
    · exact hts _ (List.mem_of_getElem? (i := 366) (by decide +kernel))
    · exact hts _ (List.mem_of_getElem? (i := 368) (by decide +kernel))
    · exact hts _ (List.mem_of_getElem? (i := 478) (by decide +kernel))
    · exact hts _ (List.mem_of_getElem? (i := 362) (by decide +kernel))
    · exact hts _ (List.mem_of_getElem? (i := 453) (by decide +kernel))
    · exact hts _ (List.mem_of_getElem? (i := 457) (by decide +kernel))
    · exact hts _ (List.mem_of_getElem? (i := 458) (by decide +kernel))
    · exact hts _ (List.mem_of_getElem? (i := 748) (by decide +kernel))
  · refine ⟨vx_Zqof (hts _ (List.mem_of_getElem? (i := 387) (by decide +kernel))) (hts _ (List.mem_of_getElem? (i := 61) (by decide +kernel))) (hs _ (List.mem_of_getElem? (i := 4) (by decide +kernel))) hA, vx_Zqof (hts _ (List.mem_of_getElem? (i := 389) (by decide +kernel))) (hts _ (List.mem_of_getElem? (i := 61) (by decide +kernel))) (hs _ (List.mem_of_getElem? (i := 5) (by decide +kernel))) hA, ?_, ?_, ?_, ?_⟩
    · exact kstr (hts _ (List.mem_of_getElem? (i := 485) (by decide +kernel))) (hs _ (List.mem_of_getElem? (i := 283) (by decide +kernel)))
    · exact kstr (hts _ (List.mem_of_getElem? (i := 595) (by decide +kernel))) (hs _ (List.mem_of_getElem? (i := 309) (by decide +kernel)))
    · exact kstr (hts _ (List.mem_of_getElem? (i := 400) (by decide +kernel))) (hs _ (List.mem_of_getElem? (i := 231) (by decide +kernel)))
    · refine ⟨va_Zof (hts _ (List.mem_of_getElem? (i := 692) (by decide +kernel))) (hts _ (List.mem_of_getElem? (i := 69) (by decide +kernel))) (va_eqi (hs _ (List.mem_of_getElem? (i := 6) (by decide +kernel)))) hA, ?_, ?_, ?_, ?_⟩
      · obtain ⟨t, ht, hT⟩ := va_Tof (tm := .static "java/lang/Integer" "DigitOnes" "[B") (N := 100) (ty := .byte) (f := fun j => .int (kOnes j)) (by decide) (hs _ (List.mem_of_getElem? (i := 8) (by decide +kernel))) (va_eqt (hs _ (List.mem_of_getElem? (i := 9) (by decide +kernel)))) (fun j hj => va_eqt (hs _ (List.mem_of_getElem? (kDigitOnes j hj)))) hA
        exact ⟨t, va_Zof (hts _ (List.mem_of_getElem? (i := 765) (by decide +kernel))) (hts _ (List.mem_of_getElem? (i := 71) (by decide +kernel))) ht hA, hT⟩
      · obtain ⟨t, ht, hT⟩ := va_Tof (tm := .static "java/lang/Integer" "DigitTens" "[B") (N := 100) (ty := .byte) (f := fun j => .int (kTens j)) (by decide) (hs _ (List.mem_of_getElem? (i := 111) (by decide +kernel))) (va_eqt (hs _ (List.mem_of_getElem? (i := 112) (by decide +kernel)))) (fun j hj => va_eqt (hs _ (List.mem_of_getElem? (kDigitTens j hj)))) hA
        exact ⟨t, va_Zof (hts _ (List.mem_of_getElem? (i := 767) (by decide +kernel))) (hts _ (List.mem_of_getElem? (i := 71) (by decide +kernel))) ht hA, hT⟩
      · exact kstr (hts _ (List.mem_of_getElem? (i := 1282) (by decide +kernel))) (hs _ (List.mem_of_getElem? (i := 348) (by decide +kernel)))
      · exact kblank (own := "SpanbookerModel") (tx := " ") (k := 200) (hts _ (List.mem_of_getElem? (i := 1286) (by decide +kernel))) (hs _ (List.mem_of_getElem? (i := 356) (by decide +kernel))) (hs _ (List.mem_of_getElem? (i := 357) (by decide +kernel))) (hs _ (List.mem_of_getElem? (i := 358) (by decide +kernel))) (hs _ (List.mem_of_getElem? (i := 359) (by decide +kernel))) (hs _ (List.mem_of_getElem? (i := 360) (by decide +kernel))) hA
end
-- 24.loop.lean.txt
section
set_option maxRecDepth 100000 in
theorem kS24_1 : kPg (gpC 1 (gpC 1 (gpC 0 (gpC 16 (gpC 0 (gpC 0 gpE)))))) tables_1_1 = List.flatten (wpL (wpC (Cond.initialized RX1) (wpC (Cond.initialized RX3) (wpC (Cond.initialized RX2) (wpC (Cond.classLink RL 8 RX1) (wpC (Cond.instantiable RX1 10) (wpC (Cond.methodLink RL 142 yX1_init) wpE)))))) wpN) := rfl
theorem kS24_1g : (kPg (gpC 1 (gpC 1 (gpC 0 (gpC 16 (gpC 0 (gpC 0 gpE)))))) tables_1_1).all goodWord = true := by decide +kernel
set_option maxRecDepth 100000 in
theorem kS24_2 : kPg (gpC 155 (gpC 0 gpE)) tables_1_2 = List.flatten (wpL (wpC (Cond.classLink RL 14 RX2) (wpC (Cond.instantiable RX2 2) wpE)) wpN) := rfl
theorem kS24_2g : (kPg (gpC 155 (gpC 0 gpE)) tables_1_2).all goodWord = true := by decide +kernel
set_option maxRecDepth 100000 in
theorem kS24_5 : kPg (gpC 49 (gpC 0 (gpC 0 gpE))) tables_1_5 = List.flatten (wpL (wpC (Cond.classLink RL 143 RX3) (wpC (Cond.instantiable RX3 14) (wpC (Cond.methodLink RL 145 yX3_init) wpE))) wpN) := rfl
theorem kS24_5g : (kPg (gpC 49 (gpC 0 (gpC 0 gpE))) tables_1_5).all goodWord = true := by decide +kernel
theorem kw_57 : Cond.initialized RX1 ∈ kBIG := (kb_g1 kS24_1 kS24_1g 0 0 rfl rfl)
theorem kw_59 : Cond.initialized RX3 ∈ kBIG := (kb_g1 kS24_1 kS24_1g 0 1 rfl rfl)
theorem kw_60 : Cond.initialized RX2 ∈ kBIG := (kb_g1 kS24_1 kS24_1g 0 2 rfl rfl)
theorem kw_77 : Cond.classLink RL 8 RX1 ∈ kBIG := (kb_g1 kS24_1 kS24_1g 0 3 rfl rfl)
theorem kw_78 : Cond.instantiable RX1 10 ∈ kBIG := (kb_g1 kS24_1 kS24_1g 0 4 rfl rfl)
theorem kw_79 : Cond.methodLink RL 142 yX1_init ∈ kBIG := (kb_g1 kS24_1 kS24_1g 0 5 rfl rfl)
theorem kw_451 : Cond.classLink RL 14 RX2 ∈ kBIG := (kb_g2 kS24_2 kS24_2g 0 0 rfl rfl)
theorem kw_452 : Cond.instantiable RX2 2 ∈ kBIG := (kb_g2 kS24_2 kS24_2g 0 1 rfl rfl)
theorem kw_1065 : Cond.classLink RL 143 RX3 ∈ kBIG := (kb_g5 kS24_5 kS24_5g 0 0 rfl rfl)
theorem kw_1066 : Cond.instantiable RX3 14 ∈ kBIG := (kb_g5 kS24_5 kS24_5g 0 1 rfl rfl)
theorem kw_1067 : Cond.methodLink RL 145 yX3_init ∈ kBIG := (kb_g5 kS24_5 kS24_5g 0 2 rfl rfl)
theorem kv_X1_init : kIt yX1_init cX1_init 1 0 := ⟨kb_c1 25 rfl (by decide +kernel), kb_c1 24 rfl (by decide +kernel), kb_c1 1 rfl (by decide +kernel), by decide +kernel⟩
theorem kv_X2_init : kIt yX2_init cX2_init 1 0 := ⟨kb_c2 159 rfl (by decide +kernel), kb_c2 158 rfl (by decide +kernel), kb_c1 4 rfl (by decide +kernel), by decide +kernel⟩
theorem kv_X3_init : kIt yX3_init cX3_init 1 0 := ⟨kb_c5 53 rfl (by decide +kernel), kb_c5 52 rfl (by decide +kernel), kb_c1 3 rfl (by decide +kernel), by decide +kernel⟩
theorem kix {a n : Nat} (h : a < n) (hn : a < 2 ^ 31) : ix (nI a) n := by
  have e := nI_toInt hn
  exact ⟨by omega, by omega⟩
theorem kplus5 (j : Nat) : nI (5 * j) + 5 = nI (5 * (j + 1)) := by
  rw [show 5 * (j + 1) = 5 * j + 5 by omega]
  exact nI_add (5 * j) 5
theorem ksub5 {L : Nat} (hL : L ≤ 320) : (Int32.ofNat L - 5).toInt = (L : Int) - 5 := by
  have e : (Int32.ofNat L).toInt = (L : Int) := nI_toInt (n := L) (by omega)
  have e5 : (5 : Int32).toInt = 5 := by decide
  rw [Int32.toInt_sub, e, e5]
  exact Int.bmod_eq_of_le (by omega) (by omega)
theorem k320 {L j : Nat} {x4 : Int32} (hL : L ≤ 320) (hj : 64 < j) (hj2 : j ≤ 65) (e : x4 = nI (5 * j)) : Int32.ofNat L - 5 < x4 := by
  rw [e, Int32.lt_iff_toInt_lt, ksub5 hL, nI_toInt (by omega)]
  omega
theorem k320n {L j : Nat} {x4 : Int32} (hL : L ≤ 320) (hj : j ≤ 65) (e : x4 = nI (5 * j)) (h : ¬ Int32.ofNat L - 5 < x4) : 5 * j + 5 ≤ L := by
  rw [e, Int32.lt_iff_toInt_lt, ksub5 hL, nI_toInt (by omega)] at h
  omega
theorem k63 (x : Int32) : ∃ k, k < 64 ∧ x &&& 63 = nI k := by
  refine ⟨(x &&& 63).toBitVec.toNat, ?_, ?_⟩
  · rw [Int32.toBitVec_and]
    have : (x.toBitVec &&& (63 : Int32).toBitVec).toNat ≤ 63 := by
      rw [BitVec.toNat_and]
      exact Nat.and_le_right
    omega
  · apply Int32.toBitVec.inj
    show _ = (Int32.ofNat _).toBitVec
    rw [Int32.toBitVec_ofNat']
    simp
theorem k48 {k : Nat} (h : 48 ≤ k) (hk : k < 64) : (47 : Int) < (nI k).toInt := by
  rw [nI_toInt (by omega)]
  omega
noncomputable abbrev kInvT : Type := (Nat → Int64) → (Int64) → (Int64) → (Nat → Int64) → (Nat → Int64) → (Nat → Int32) → (Int32) → (Nat → Int64) → (Nat → Int64) → (Nat → Int32) → (Int32) → (Nat → Int64) → (Nat → Int64) → (Nat → Int32) → (Int32) → (Nat → Int32) → (Int32) → (Int32) → (Int32) → (Nat → Int64) → (Int64) → (Int64) → (Nat → Int64) → (Nat → Int64) → (Nat → Int32) → (Int32) → (Nat → Int64) → (Nat → Int64) → (Int32) → (Int32) → (Int32) → (Int32) → (Int32) → (Int64) → Prop
noncomputable def KInv (Inv : kInvT) (x4 : Int32) : (Nat → Int64) → (Int64) → (Int64) → (Nat → Int64) → (Nat → Int64) → (Nat → Int32) → (Int32) → (Nat → Int64) → (Nat → Int64) → (Nat → Int32) → (Int32) → (Nat → Int64) → (Nat → Int64) → (Nat → Int32) → (Int32) → (Nat → Int32) → (Int32) → (Int32) → (Int32) → (Nat → Int64) → (Int64) → (Int64) → (Nat → Int64) → (Nat → Int64) → (Nat → Int32) → (Int32) → (Nat → Int64) → (Nat → Int64) → (Int32) → (Int32) → (Int32) → (Int32) → (Int32) → (Int64) → Int32 → Option Int32 := fun ce fr un sb se so sc wb we wo wc fb fe fo fc rm ac rf kn mce mfr mun mbe men mov msp mwb mwe mwi mac mre mkn mth on x4' => @ite _ (Inv ce fr un sb se so sc wb we wo wc fb fe fo fc rm ac rf kn mce mfr mun mbe men mov msp mwb mwe mwi mac mre mkn mth on ∧ x4' = x4) (Classical.propDecidable _) (some 1) none
theorem KInv_yes {Inv : kInvT} {x4 : Int32} {ce : Nat → Int64} {fr : Int64} {un : Int64} {sb : Nat → Int64} {se : Nat → Int64} {so : Nat → Int32} {sc : Int32} {wb : Nat → Int64} {we : Nat → Int64} {wo : Nat → Int32} {wc : Int32} {fb : Nat → Int64} {fe : Nat → Int64} {fo : Nat → Int32} {fc : Int32} {rm : Nat → Int32} {ac : Int32} {rf : Int32} {kn : Int32} {mce : Nat → Int64} {mfr : Int64} {mun : Int64} {mbe : Nat → Int64} {men : Nat → Int64} {mov : Nat → Int32} {msp : Int32} {mwb : Nat → Int64} {mwe : Nat → Int64} {mwi : Int32} {mac : Int32} {mre : Int32} {mkn : Int32} {mth : Int32} {on : Int64} (h : Inv ce fr un sb se so sc wb we wo wc fb fe fo fc rm ac rf kn mce mfr mun mbe men mov msp mwb mwe mwi mac mre mkn mth on) : KInv Inv x4 ce fr un sb se so sc wb we wo wc fb fe fo fc rm ac rf kn mce mfr mun mbe men mov msp mwb mwe mwi mac mre mkn mth on x4 = some 1 := by unfold KInv; rw [if_pos ⟨h, rfl⟩]
theorem KInv_of {Inv : kInvT} {x4 x4' : Int32} {ce : Nat → Int64} {fr : Int64} {un : Int64} {sb : Nat → Int64} {se : Nat → Int64} {so : Nat → Int32} {sc : Int32} {wb : Nat → Int64} {we : Nat → Int64} {wo : Nat → Int32} {wc : Int32} {fb : Nat → Int64} {fe : Nat → Int64} {fo : Nat → Int32} {fc : Int32} {rm : Nat → Int32} {ac : Int32} {rf : Int32} {kn : Int32} {mce : Nat → Int64} {mfr : Int64} {mun : Int64} {mbe : Nat → Int64} {men : Nat → Int64} {mov : Nat → Int32} {msp : Int32} {mwb : Nat → Int64} {mwe : Nat → Int64} {mwi : Int32} {mac : Int32} {mre : Int32} {mkn : Int32} {mth : Int32} {on : Int64} (h : KInv Inv x4 ce fr un sb se so sc wb we wo wc fb fe fo fc rm ac rf kn mce mfr mun mbe men mov msp mwb mwe mwi mac mre mkn mth on x4' = some 1) : Inv ce fr un sb se so sc wb we wo wc fb fe fo fc rm ac rf kn mce mfr mun mbe men mov msp mwb mwe mwi mac mre mkn mth on ∧ x4' = x4 := by
  unfold KInv at h
  by_cases hc : Inv ce fr un sb se so sc wb we wo wc fb fe fo fc rm ac rf kn mce mfr mun mbe men mov msp mwb mwe mwi mac mre mkn mth on ∧ x4' = x4
  · exact hc
  · rw [if_neg hc] at h; cases h
noncomputable def flawAt (k : Nat) (L : Nat) (xs : Nat → Int32) (K : (Nat → Int64) → (Int64) → (Int64) → (Nat → Int64) → (Nat → Int64) → (Nat → Int32) → (Int32) → (Nat → Int64) → (Nat → Int64) → (Nat → Int32) → (Int32) → (Nat → Int64) → (Nat → Int64) → (Nat → Int32) → (Int32) → (Nat → Int32) → (Int32) → (Int32) → (Int32) → (Nat → Int64) → (Int64) → (Int64) → (Nat → Int64) → (Nat → Int64) → (Nat → Int32) → (Int32) → (Nat → Int64) → (Nat → Int64) → (Int32) → (Int32) → (Int32) → (Int32) → (Int32) → (Int64) → Int32 → Option Int32) (ce : Nat → Int64) (fr : Int64) (un : Int64) (sb : Nat → Int64) (se : Nat → Int64) (so : Nat → Int32) (sc : Int32) (wb : Nat → Int64) (we : Nat → Int64) (wo : Nat → Int32) (wc : Int32) (fb : Nat → Int64) (fe : Nat → Int64) (fo : Nat → Int32) (fc : Int32) (rm : Nat → Int32) (ac : Int32) (rf : Int32) (kn : Int32) (mce : Nat → Int64) (mfr : Int64) (mun : Int64) (mbe : Nat → Int64) (men : Nat → Int64) (mov : Nat → Int32) (msp : Int32) (mwb : Nat → Int64) (mwe : Nat → Int64) (mwi : Int32) (mac : Int32) (mre : Int32) (mkn : Int32) (mth : Int32) (on : Int64) (x4 : Int32) : Option Int32 := match k with
  | 0 => flaw_248 L xs K ce fr un sb se so sc wb we wo wc fb fe fo fc rm ac rf kn mce mfr mun mbe men mov msp mwb mwe mwi mac mre mkn mth on x4
  | 1 => flaw_300 L xs K ce fr un sb se so sc wb we wo wc fb fe fo fc rm ac rf kn mce mfr mun mbe men mov msp mwb mwe mwi mac mre mkn mth on x4
  | 2 => flaw_380 L xs K ce fr un sb se so sc wb we wo wc fb fe fo fc rm ac rf kn mce mfr mun mbe men mov msp mwb mwe mwi mac mre mkn mth on x4
  | 3 => flaw_420 L xs K ce fr un sb se so sc wb we wo wc fb fe fo fc rm ac rf kn mce mfr mun mbe men mov msp mwb mwe mwi mac mre mkn mth on x4
  | 4 => flaw_460 L xs K ce fr un sb se so sc wb we wo wc fb fe fo fc rm ac rf kn mce mfr mun mbe men mov msp mwb mwe mwi mac mre mkn mth on x4
  | 5 => flaw_516 L xs K ce fr un sb se so sc wb we wo wc fb fe fo fc rm ac rf kn mce mfr mun mbe men mov msp mwb mwe mwi mac mre mkn mth on x4
  | 6 => flaw_556 L xs K ce fr un sb se so sc wb we wo wc fb fe fo fc rm ac rf kn mce mfr mun mbe men mov msp mwb mwe mwi mac mre mkn mth on x4
  | 7 => flaw_596 L xs K ce fr un sb se so sc wb we wo wc fb fe fo fc rm ac rf kn mce mfr mun mbe men mov msp mwb mwe mwi mac mre mkn mth on x4
  | 8 => flaw_664 L xs K ce fr un sb se so sc wb we wo wc fb fe fo fc rm ac rf kn mce mfr mun mbe men mov msp mwb mwe mwi mac mre mkn mth on x4
  | 9 => flaw_692 L xs K ce fr un sb se so sc wb we wo wc fb fe fo fc rm ac rf kn mce mfr mun mbe men mov msp mwb mwe mwi mac mre mkn mth on x4
  | 10 => flaw_705 L xs K ce fr un sb se so sc wb we wo wc fb fe fo fc rm ac rf kn mce mfr mun mbe men mov msp mwb mwe mwi mac mre mkn mth on x4
  | 11 => flaw_757 L xs K ce fr un sb se so sc wb we wo wc fb fe fo fc rm ac rf kn mce mfr mun mbe men mov msp mwb mwe mwi mac mre mkn mth on x4
  | 12 => flaw_809 L xs K ce fr un sb se so sc wb we wo wc fb fe fo fc rm ac rf kn mce mfr mun mbe men mov msp mwb mwe mwi mac mre mkn mth on x4
  | 13 => flaw_873 L xs K ce fr un sb se so sc wb we wo wc fb fe fo fc rm ac rf kn mce mfr mun mbe men mov msp mwb mwe mwi mac mre mkn mth on x4
  | 14 => flaw_913 L xs K ce fr un sb se so sc wb we wo wc fb fe fo fc rm ac rf kn mce mfr mun mbe men mov msp mwb mwe mwi mac mre mkn mth on x4
  | 15 => flaw_941 L xs K ce fr un sb se so sc wb we wo wc fb fe fo fc rm ac rf kn mce mfr mun mbe men mov msp mwb mwe mwi mac mre mkn mth on x4
  | 16 => flaw_969 L xs K ce fr un sb se so sc wb we wo wc fb fe fo fc rm ac rf kn mce mfr mun mbe men mov msp mwb mwe mwi mac mre mkn mth on x4
  | 17 => flaw_997 L xs K ce fr un sb se so sc wb we wo wc fb fe fo fc rm ac rf kn mce mfr mun mbe men mov msp mwb mwe mwi mac mre mkn mth on x4
  | 18 => flaw_1025 L xs K ce fr un sb se so sc wb we wo wc fb fe fo fc rm ac rf kn mce mfr mun mbe men mov msp mwb mwe mwi mac mre mkn mth on x4
  | 19 => flaw_1053 L xs K ce fr un sb se so sc wb we wo wc fb fe fo fc rm ac rf kn mce mfr mun mbe men mov msp mwb mwe mwi mac mre mkn mth on x4
  | 20 => flaw_1093 L xs K ce fr un sb se so sc wb we wo wc fb fe fo fc rm ac rf kn mce mfr mun mbe men mov msp mwb mwe mwi mac mre mkn mth on x4
  | 21 => flaw_1133 L xs K ce fr un sb se so sc wb we wo wc fb fe fo fc rm ac rf kn mce mfr mun mbe men mov msp mwb mwe mwi mac mre mkn mth on x4
  | 22 => flaw_1173 L xs K ce fr un sb se so sc wb we wo wc fb fe fo fc rm ac rf kn mce mfr mun mbe men mov msp mwb mwe mwi mac mre mkn mth on x4
  | 23 => flaw_1225 L xs K ce fr un sb se so sc wb we wo wc fb fe fo fc rm ac rf kn mce mfr mun mbe men mov msp mwb mwe mwi mac mre mkn mth on x4
  | 24 => flaw_1277 L xs K ce fr un sb se so sc wb we wo wc fb fe fo fc rm ac rf kn mce mfr mun mbe men mov msp mwb mwe mwi mac mre mkn mth on x4
  | 25 => flaw_1305 L xs K ce fr un sb se so sc wb we wo wc fb fe fo fc rm ac rf kn mce mfr mun mbe men mov msp mwb mwe mwi mac mre mkn mth on x4
  | 26 => flaw_1318 L xs K ce fr un sb se so sc wb we wo wc fb fe fo fc rm ac rf kn mce mfr mun mbe men mov msp mwb mwe mwi mac mre mkn mth on x4
  | 27 => flaw_1358 L xs K ce fr un sb se so sc wb we wo wc fb fe fo fc rm ac rf kn mce mfr mun mbe men mov msp mwb mwe mwi mac mre mkn mth on x4
  | 28 => flaw_1398 L xs K ce fr un sb se so sc wb we wo wc fb fe fo fc rm ac rf kn mce mfr mun mbe men mov msp mwb mwe mwi mac mre mkn mth on x4
  | 29 => flaw_1411 L xs K ce fr un sb se so sc wb we wo wc fb fe fo fc rm ac rf kn mce mfr mun mbe men mov msp mwb mwe mwi mac mre mkn mth on x4
  | 30 => flaw_1439 L xs K ce fr un sb se so sc wb we wo wc fb fe fo fc rm ac rf kn mce mfr mun mbe men mov msp mwb mwe mwi mac mre mkn mth on x4
  | 31 => flaw_1452 L xs K ce fr un sb se so sc wb we wo wc fb fe fo fc rm ac rf kn mce mfr mun mbe men mov msp mwb mwe mwi mac mre mkn mth on x4
  | 32 => flaw_1492 L xs K ce fr un sb se so sc wb we wo wc fb fe fo fc rm ac rf kn mce mfr mun mbe men mov msp mwb mwe mwi mac mre mkn mth on x4
  | 33 => flaw_1505 L xs K ce fr un sb se so sc wb we wo wc fb fe fo fc rm ac rf kn mce mfr mun mbe men mov msp mwb mwe mwi mac mre mkn mth on x4
  | 34 => flaw_1545 L xs K ce fr un sb se so sc wb we wo wc fb fe fo fc rm ac rf kn mce mfr mun mbe men mov msp mwb mwe mwi mac mre mkn mth on x4
  | 35 => flaw_1573 L xs K ce fr un sb se so sc wb we wo wc fb fe fo fc rm ac rf kn mce mfr mun mbe men mov msp mwb mwe mwi mac mre mkn mth on x4
  | 36 => flaw_1601 L xs K ce fr un sb se so sc wb we wo wc fb fe fo fc rm ac rf kn mce mfr mun mbe men mov msp mwb mwe mwi mac mre mkn mth on x4
  | 37 => flaw_1614 L xs K ce fr un sb se so sc wb we wo wc fb fe fo fc rm ac rf kn mce mfr mun mbe men mov msp mwb mwe mwi mac mre mkn mth on x4
  | 38 => flaw_1654 L xs K ce fr un sb se so sc wb we wo wc fb fe fo fc rm ac rf kn mce mfr mun mbe men mov msp mwb mwe mwi mac mre mkn mth on x4
  | 39 => flaw_1682 L xs K ce fr un sb se so sc wb we wo wc fb fe fo fc rm ac rf kn mce mfr mun mbe men mov msp mwb mwe mwi mac mre mkn mth on x4
  | 40 => flaw_1695 L xs K ce fr un sb se so sc wb we wo wc fb fe fo fc rm ac rf kn mce mfr mun mbe men mov msp mwb mwe mwi mac mre mkn mth on x4
  | 41 => flaw_1723 L xs K ce fr un sb se so sc wb we wo wc fb fe fo fc rm ac rf kn mce mfr mun mbe men mov msp mwb mwe mwi mac mre mkn mth on x4
  | 42 => flaw_1736 L xs K ce fr un sb se so sc wb we wo wc fb fe fo fc rm ac rf kn mce mfr mun mbe men mov msp mwb mwe mwi mac mre mkn mth on x4
  | 43 => flaw_1764 L xs K ce fr un sb se so sc wb we wo wc fb fe fo fc rm ac rf kn mce mfr mun mbe men mov msp mwb mwe mwi mac mre mkn mth on x4
  | 44 => flaw_1777 L xs K ce fr un sb se so sc wb we wo wc fb fe fo fc rm ac rf kn mce mfr mun mbe men mov msp mwb mwe mwi mac mre mkn mth on x4
  | 45 => flaw_1805 L xs K ce fr un sb se so sc wb we wo wc fb fe fo fc rm ac rf kn mce mfr mun mbe men mov msp mwb mwe mwi mac mre mkn mth on x4
  | 46 => flaw_1818 L xs K ce fr un sb se so sc wb we wo wc fb fe fo fc rm ac rf kn mce mfr mun mbe men mov msp mwb mwe mwi mac mre mkn mth on x4
  | 47 => flaw_1831 L xs K ce fr un sb se so sc wb we wo wc fb fe fo fc rm ac rf kn mce mfr mun mbe men mov msp mwb mwe mwi mac mre mkn mth on x4
  | _ => K ce fr un sb se so sc wb we wo wc fb fe fo fc rm ac rf kn mce mfr mun mbe men mov msp mwb mwe mwi mac mre mkn mth on x4
set_option maxHeartbeats 16000000 in
set_option maxRecDepth 100000 in
theorem law_loop {p : Program} {l : Launch} {e : Env} {s : State} {m : MethodId} {below : List Frame} {meth : Method} {c : Code} {dC : Nat → ClassId} {dI : Nat → Nat → Nat} {cB cI cJ cZ : ClassId} {b9 L : Nat} {xs : Nat → Int32} (hl9 : l.stackTraces = false) (hL : L ≤ 320) (C0 : kLw p s m c b9 L xs (fun q => s.heap.size ≤ q)) (hret : meth.sig.returnType = ret) (hlk : meth.locks = false) (hK : va_K (dC, dI) vwCl (kTy cB cI cJ cZ) s) (Inv : kInvT) (hC : ∀ (k j : Nat) (ce : Nat → Int64) (fr : Int64) (un : Int64) (sb : Nat → Int64) (se : Nat → Int64) (so : Nat → Int32) (sc : Int32) (wb : Nat → Int64) (we : Nat → Int64) (wo : Nat → Int32) (wc : Int32) (fb : Nat → Int64) (fe : Nat → Int64) (fo : Nat → Int32) (fc : Int32) (rm : Nat → Int32) (ac : Int32) (rf : Int32) (kn : Int32) (mce : Nat → Int64) (mfr : Int64) (mun : Int64) (mbe : Nat → Int64) (men : Nat → Int64) (mov : Nat → Int32) (msp : Int32) (mwb : Nat → Int64) (mwe : Nat → Int64) (mwi : Int32) (mac : Int32) (mre : Int32) (mkn : Int32) (mth : Int32) (on : Int64), 5 * j + 5 ≤ L → Inv ce fr un sb se so sc wb we wo wc fb fe fo fc rm ac rf kn mce mfr mun mbe men mov msp mwb mwe mwi mac mre mkn mth on → flawAt k L xs (KInv Inv (nI (5 * j))) ce fr un sb se so sc wb we wo wc fb fe fo fc rm ac rf kn mce mfr mun mbe men mov msp mwb mwe mwi mac mre mkn mth on (nI (5 * j)) = some 1) (a : Nat → Nat) (o : Nat) : ∀ (n j : Nat) (ce : Nat → Int64) (fr : Int64) (un : Int64) (sb : Nat → Int64) (se : Nat → Int64) (so : Nat → Int32) (sc : Int32) (wb : Nat → Int64) (we : Nat → Int64) (wo : Nat → Int32) (wc : Int32) (fb : Nat → Int64) (fe : Nat → Int64) (fo : Nat → Int32) (fc : Int32) (rm : Nat → Int32) (ac : Int32) (rf : Int32) (kn : Int32) (mce : Nat → Int64) (mfr : Int64) (mun : Int64) (mbe : Nat → Int64) (men : Nat → Int64) (mov : Nat → Int32) (msp : Int32) (mwb : Nat → Int64) (mwe : Nat → Int64) (mwi : Int32) (mac : Int32) (mre : Int32) (mkn : Int32) (mth : Int32) (on : Int64) (ov : Value) (x4 : Int32) (b : Nat → Nat) (H : Heap) (locs : List Loc) (kc ks : Nat), j + n = 65 → x4 = nI (5 * j) → kc + n * 86 ≤ 600128 → ks + n * 1880 ≤ 7301098 → va_P (dC, dI) vwCl ((wSB cI cJ cZ a ce fr un sb se so sc wb we wo wc fb fe fo fc rm ac rf kn) ++ (wMo cJ cZ b mce mfr mun mbe men mov msp mwb mwe mwi mac mre mkn mth) ++ (wO o on ov)) H → va_D (fun q => s.heap.size ≤ q) ((wSB cI cJ cZ a ce fr un sb se so sc wb we wo wc fb fe fo fc rm ac rf kn) ++ (wMo cJ cZ b mce mfr mun mbe men mov msp mwb mwe mwi mac mre mkn mth) ++ (wO o on ov)) → va_S (fun q => s.heap.size ≤ q) s.heap H locs → ∀ (ls : Array Slot), lv_has ls 7 (kvA 0 b9 (kvA 1 (a 0) (kvA 2 (b 0) (kvA 3 o (kvI 4 x4 kvE))))) → Inv ce fr un sb se so sc wb we wo wc fb fe fo fc rm ac rf kn mce mfr mun mbe men mov msp mwb mwe mwi mac mre mkn mth on → W p l e room_1 s m #[Value.ref b9] below meth c H locs kc ks (lw_Z below #[Value.ref b9] s) (F0 m 27 ls []) := by
  obtain ⟨hx, hb, hml, hown, hts, hX, hbl, hA, hbA, hG, hZ⟩ := id C0
  intro n
  induction n with
  | zero =>
    intro j ce fr un sb se so sc wb we wo wc fb fe fo fc rm ac rf kn mce mfr mun mbe men mov msp mwb mwe mwi mac mre mkn mth on ov x4 b H locs kc ks hj e4 hkc hks hP hD hS ls hl hI
    refine lv_iload hx hb (kdr dgL_law_0 1 4 rfl rfl) (lv_at hl 4 rfl) ?_
    refine lv_aload_n hx hb (kdr dgL_law_0 1 5 rfl rfl) rfl (lv_at hl 0 rfl) ?_
    refine va_slen hx hb hX hbl hbA hS (kdr dgL_law_0 1 6 rfl rfl) ?_
    refine lv_iconst (v := 5) hx hb (kdr dgL_law_0 1 7 rfl rfl) (by decide) ?_
    refine lv_isub hx hb (kdr dgL_law_0 1 8 rfl rfl) ?_
    refine lv_icmp_gt (tgt := 1851) hx hb (kdr dgL_law_0 1 9 rfl rfl) (by decide) (fun c9 => ?_) (fun c9 => ?_)
    · refine lv_iconst (v := 1) hx hb (kdr dgL_law_1713 7 9 rfl rfl) (by decide) ?_
      refine va_forget (fun q hq => hS.2.2 q hq) ?_
      refine W.widen (k := 600128) (n := 7301098) (by omega) (by omega) ?_
      exact lw_ret hx hb hret hlk (kdr dgL_law_1713 8 0 rfl rfl)
    · exfalso
      exact c9 (k320 hL (by omega) (by omega) e4)
  | succ n ih =>
    intro j ce fr un sb se so sc wb we wo wc fb fe fo fc rm ac rf kn mce mfr mun mbe men mov msp mwb mwe mwi mac mre mkn mth on ov x4 b H locs kc ks hj e4 hkc hks hP hD hS ls hl hI
    refine lv_iload hx hb (kdr dgL_law_0 1 4 rfl rfl) (lv_at hl 4 rfl) ?_
    refine lv_aload_n hx hb (kdr dgL_law_0 1 5 rfl rfl) rfl (lv_at hl 0 rfl) ?_
    refine va_slen hx hb hX hbl hbA hS (kdr dgL_law_0 1 6 rfl rfl) ?_
    refine lv_iconst (v := 5) hx hb (kdr dgL_law_0 1 7 rfl rfl) (by decide) ?_
    refine lv_isub hx hb (kdr dgL_law_0 1 8 rfl rfl) ?_
    refine lv_icmp_gt (tgt := 1851) hx hb (kdr dgL_law_0 1 9 rfl rfl) (by decide) (fun c9 => ?_) (fun c9 => ?_)
    · refine lv_iconst (v := 1) hx hb (kdr dgL_law_1713 7 9 rfl rfl) (by decide) ?_
      refine va_forget (fun q hq => hS.2.2 q hq) ?_
      refine W.widen (k := 600128) (n := 7301098) (by omega) (by omega) ?_
      exact lw_ret hx hb hret hlk (kdr dgL_law_1713 8 0 rfl rfl)
    · have hjL : 5 * j + 5 ≤ L := k320n hL (by omega) e4 c9
      refine lv_aload_n hx hb (kdr dgL_law_0 2 0 rfl rfl) rfl (lv_at hl 0 rfl) ?_
      refine lv_iload hx hb (kdr dgL_law_0 2 1 rfl rfl) (lv_at hl 4 rfl) ?_
      refine va_sld hx hb hX hbl hbA hS (ix_in (by rw [e4]; exact kix (by omega) (by omega))) (kdr dgL_law_0 2 2 rfl rfl) ?_
      refine lv_bipush (v := 63) hx hb (kdr dgL_law_0 2 3 rfl rfl) (by decide) ?_
      refine lv_iand hx hb (kdr dgL_law_0 2 4 rfl rfl) ?_
      obtain ⟨k, hk, hv⟩ := k63 (xs x4.toNatClampNeg)
      generalize (xs x4.toNatClampNeg &&& 63) = v at hv ⊢
      subst hv
      have hK9 : ∀ (ce : Nat → Int64) (fr : Int64) (un : Int64) (sb : Nat → Int64) (se : Nat → Int64) (so : Nat → Int32) (sc : Int32) (wb : Nat → Int64) (we : Nat → Int64) (wo : Nat → Int32) (wc : Int32) (fb : Nat → Int64) (fe : Nat → Int64) (fo : Nat → Int32) (fc : Int32) (rm : Nat → Int32) (ac : Int32) (rf : Int32) (kn : Int32) (mce : Nat → Int64) (mfr : Int64) (mun : Int64) (mbe : Nat → Int64) (men : Nat → Int64) (mov : Nat → Int32) (msp : Int32) (mwb : Nat → Int64) (mwe : Nat → Int64) (mwi : Int32) (mac : Int32) (mre : Int32) (mkn : Int32) (mth : Int32) (on : Int64) (ov : Value) (x4' : Int32) (b : Nat → Nat) (H : Heap) (locs : List Loc) (kc ks : Nat), kc + n * 86 ≤ 600128 → ks + n * 1880 ≤ 7301098 → va_P (dC, dI) vwCl ((wSB cI cJ cZ a ce fr un sb se so sc wb we wo wc fb fe fo fc rm ac rf kn) ++ (wMo cJ cZ b mce mfr mun mbe men mov msp mwb mwe mwi mac mre mkn mth) ++ (wO o on ov)) H → va_D (fun q => s.heap.size ≤ q) ((wSB cI cJ cZ a ce fr un sb se so sc wb we wo wc fb fe fo fc rm ac rf kn) ++ (wMo cJ cZ b mce mfr mun mbe men mov msp mwb mwe mwi mac mre mkn mth) ++ (wO o on ov)) → va_S (fun q => s.heap.size ≤ q) s.heap H locs → ∀ (ls : Array Slot), lv_has ls 7 (kvA 0 b9 (kvA 1 (a 0) (kvA 2 (b 0) (kvA 3 o (kvI 4 x4' kvE))))) → KInv Inv x4 ce fr un sb se so sc wb we wo wc fb fe fo fc rm ac rf kn mce mfr mun mbe men mov msp mwb mwe mwi mac mre mkn mth on x4' = some 1 → W p l e room_1 s m #[Value.ref b9] below meth c H locs kc ks (lw_Z below #[Value.ref b9] s) (F0 m 1845 ls []) := by
        intro ce fr un sb se so sc wb we wo wc fb fe fo fc rm ac rf kn mce mfr mun mbe men mov msp mwb mwe mwi mac mre mkn mth on ov x4' b H locs kc ks hkc hks hP hD hS ls hl h
        obtain ⟨hI, e9⟩ := KInv_of h
        rw [e9] at hl
        refine lv_iinc (v := x4 + 5) (lv' := (kvI 4 (x4 + 5) (kvA 0 b9 (kvA 1 (a 0) (kvA 2 (b 0) (kvA 3 o kvE)))))) hx hb (kdr dgL_law_1713 7 7 rfl rfl) hl (k := 4) rfl rfl (by decide) rfl (fun ls hl => ?_)
        refine lv_goto (tgt := 27) hx hb (kdr dgL_law_1713 7 8 rfl rfl) (by decide) ?_
        exact ih (j + 1) ce fr un sb se so sc wb we wo wc fb fe fo fc rm ac rf kn mce mfr mun mbe men mov msp mwb mwe mwi mac mre mkn mth on ov (x4 + 5) b H locs kc ks (by omega) (by rw [e4]; exact kplus5 j) hkc hks hP hD hS ls (lv_sub hl [1, 2, 3, 4, 0] rfl) hI
      have hc := fun k => hC k j ce fr un sb se so sc wb we wo wc fb fe fo fc rm ac rf kn mce mfr mun mbe men mov msp mwb mwe mwi mac mre mkn mth on hjL hI
      rw [← e4] at hc
      rcases (show k = 0 ∨ k = 1 ∨ k = 2 ∨ k = 3 ∨ k = 4 ∨ k = 5 ∨ k = 6 ∨ k = 7 ∨ k = 8 ∨ k = 9 ∨ k = 10 ∨ k = 11 ∨ k = 12 ∨ k = 13 ∨ k = 14 ∨ k = 15 ∨ k = 16 ∨ k = 17 ∨ k = 18 ∨ k = 19 ∨ k = 20 ∨ k = 21 ∨ k = 22 ∨ k = 23 ∨ k = 24 ∨ k = 25 ∨ k = 26 ∨ k = 27 ∨ k = 28 ∨ k = 29 ∨ k = 30 ∨ k = 31 ∨ k = 32 ∨ k = 33 ∨ k = 34 ∨ k = 35 ∨ k = 36 ∨ k = 37 ∨ k = 38 ∨ k = 39 ∨ k = 40 ∨ k = 41 ∨ k = 42 ∨ k = 43 ∨ k = 44 ∨ k = 45 ∨ k = 46 ∨ k = 47 ∨ 48 ≤ k by omega) with rfl | rfl | rfl | rfl | rfl | rfl | rfl | rfl | rfl | rfl | rfl | rfl | rfl | rfl | rfl | rfl | rfl | rfl | rfl | rfl | rfl | rfl | rfl | rfl | rfl | rfl | rfl | rfl | rfl | rfl | rfl | rfl | rfl | rfl | rfl | rfl | rfl | rfl | rfl | rfl | rfl | rfl | rfl | rfl | rfl | rfl | rfl | rfl | h9
      · refine lv_tableIn (off := 205) (tgt := 248) hx hb dL_law_43 (by decide) (by decide) (by rfl) (by decide) ?_
        exact law_0 hl9 C0 hK (KInv Inv x4) (n * 86) (n * 1880) hK9 ce fr un sb se so sc wb we wo wc fb fe fo fc rm ac rf kn mce mfr mun mbe men mov msp mwb mwe mwi mac mre mkn mth on ov x4 b H locs kc ks (by omega) (by omega) hP hD hS ls hl (hc 0)
      · refine lv_tableIn (off := 257) (tgt := 300) hx hb dL_law_43 (by decide) (by decide) (by rfl) (by decide) ?_
        exact law_1 hl9 C0 hK (KInv Inv x4) (n * 86) (n * 1880) hK9 ce fr un sb se so sc wb we wo wc fb fe fo fc rm ac rf kn mce mfr mun mbe men mov msp mwb mwe mwi mac mre mkn mth on ov x4 b H locs kc ks (by omega) (by omega) hP hD hS ls hl (hc 1)
      · refine lv_tableIn (off := 337) (tgt := 380) hx hb dL_law_43 (by decide) (by decide) (by rfl) (by decide) ?_
        exact law_2 hl9 C0 hK (KInv Inv x4) (n * 86) (n * 1880) hK9 ce fr un sb se so sc wb we wo wc fb fe fo fc rm ac rf kn mce mfr mun mbe men mov msp mwb mwe mwi mac mre mkn mth on ov x4 b H locs kc ks (by omega) (by omega) hP hD hS ls hl (hc 2)
      · refine lv_tableIn (off := 377) (tgt := 420) hx hb dL_law_43 (by decide) (by decide) (by rfl) (by decide) ?_
        exact law_3 hl9 C0 hK (KInv Inv x4) (n * 86) (n * 1880) hK9 ce fr un sb se so sc wb we wo wc fb fe fo fc rm ac rf kn mce mfr mun mbe men mov msp mwb mwe mwi mac mre mkn mth on ov x4 b H locs kc ks (by omega) (by omega) hP hD hS ls hl (hc 3)
      · refine lv_tableIn (off := 417) (tgt := 460) hx hb dL_law_43 (by decide) (by decide) (by rfl) (by decide) ?_
        exact law_4 hl9 C0 hK (KInv Inv x4) (n * 86) (n * 1880) hK9 ce fr un sb se so sc wb we wo wc fb fe fo fc rm ac rf kn mce mfr mun mbe men mov msp mwb mwe mwi mac mre mkn mth on ov x4 b H locs kc ks (by omega) (by omega) hP hD hS ls hl (hc 4)
      · refine lv_tableIn (off := 473) (tgt := 516) hx hb dL_law_43 (by decide) (by decide) (by rfl) (by decide) ?_
        exact law_5 hl9 C0 hK (KInv Inv x4) (n * 86) (n * 1880) hK9 ce fr un sb se so sc wb we wo wc fb fe fo fc rm ac rf kn mce mfr mun mbe men mov msp mwb mwe mwi mac mre mkn mth on ov x4 b H locs kc ks (by omega) (by omega) hP hD hS ls hl (hc 5)
      · refine lv_tableIn (off := 513) (tgt := 556) hx hb dL_law_43 (by decide) (by decide) (by rfl) (by decide) ?_
        exact law_6 hl9 C0 hK (KInv Inv x4) (n * 86) (n * 1880) hK9 ce fr un sb se so sc wb we wo wc fb fe fo fc rm ac rf kn mce mfr mun mbe men mov msp mwb mwe mwi mac mre mkn mth on ov x4 b H locs kc ks (by omega) (by omega) hP hD hS ls hl (hc 6)
      · refine lv_tableIn (off := 553) (tgt := 596) hx hb dL_law_43 (by decide) (by decide) (by rfl) (by decide) ?_
        exact law_7 hl9 C0 hK (KInv Inv x4) (n * 86) (n * 1880) hK9 ce fr un sb se so sc wb we wo wc fb fe fo fc rm ac rf kn mce mfr mun mbe men mov msp mwb mwe mwi mac mre mkn mth on ov x4 b H locs kc ks (by omega) (by omega) hP hD hS ls hl (hc 7)
      · refine lv_tableIn (off := 621) (tgt := 664) hx hb dL_law_43 (by decide) (by decide) (by rfl) (by decide) ?_
        exact law_8 hl9 C0 hK (KInv Inv x4) (n * 86) (n * 1880) hK9 ce fr un sb se so sc wb we wo wc fb fe fo fc rm ac rf kn mce mfr mun mbe men mov msp mwb mwe mwi mac mre mkn mth on ov x4 b H locs kc ks (by omega) (by omega) hP hD hS ls hl (hc 8)
      · refine lv_tableIn (off := 649) (tgt := 692) hx hb dL_law_43 (by decide) (by decide) (by rfl) (by decide) ?_
        exact law_9 hl9 C0 hK (KInv Inv x4) (n * 86) (n * 1880) hK9 ce fr un sb se so sc wb we wo wc fb fe fo fc rm ac rf kn mce mfr mun mbe men mov msp mwb mwe mwi mac mre mkn mth on ov x4 b H locs kc ks (by omega) (by omega) hP hD hS ls hl (hc 9)
      · refine lv_tableIn (off := 662) (tgt := 705) hx hb dL_law_43 (by decide) (by decide) (by rfl) (by decide) ?_
        exact law_10 hl9 C0 hK (KInv Inv x4) (n * 86) (n * 1880) hK9 ce fr un sb se so sc wb we wo wc fb fe fo fc rm ac rf kn mce mfr mun mbe men mov msp mwb mwe mwi mac mre mkn mth on ov x4 b H locs kc ks (by omega) (by omega) hP hD hS ls hl (hc 10)
      · refine lv_tableIn (off := 714) (tgt := 757) hx hb dL_law_43 (by decide) (by decide) (by rfl) (by decide) ?_
        exact law_11 hl9 C0 hK (KInv Inv x4) (n * 86) (n * 1880) hK9 ce fr un sb se so sc wb we wo wc fb fe fo fc rm ac rf kn mce mfr mun mbe men mov msp mwb mwe mwi mac mre mkn mth on ov x4 b H locs kc ks (by omega) (by omega) hP hD hS ls hl (hc 11)
      · refine lv_tableIn (off := 766) (tgt := 809) hx hb dL_law_43 (by decide) (by decide) (by rfl) (by decide) ?_
        exact law_12 hl9 C0 hK (KInv Inv x4) (n * 86) (n * 1880) hK9 ce fr un sb se so sc wb we wo wc fb fe fo fc rm ac rf kn mce mfr mun mbe men mov msp mwb mwe mwi mac mre mkn mth on ov x4 b H locs kc ks (by omega) (by omega) hP hD hS ls hl (hc 12)
      · refine lv_tableIn (off := 830) (tgt := 873) hx hb dL_law_43 (by decide) (by decide) (by rfl) (by decide) ?_
        exact law_13 hl9 C0 hK (KInv Inv x4) (n * 86) (n * 1880) hK9 ce fr un sb se so sc wb we wo wc fb fe fo fc rm ac rf kn mce mfr mun mbe men mov msp mwb mwe mwi mac mre mkn mth on ov x4 b H locs kc ks (by omega) (by omega) hP hD hS ls hl (hc 13)
      · refine lv_tableIn (off := 870) (tgt := 913) hx hb dL_law_43 (by decide) (by decide) (by rfl) (by decide) ?_
        exact law_14 hl9 C0 hK (KInv Inv x4) (n * 86) (n * 1880) hK9 ce fr un sb se so sc wb we wo wc fb fe fo fc rm ac rf kn mce mfr mun mbe men mov msp mwb mwe mwi mac mre mkn mth on ov x4 b H locs kc ks (by omega) (by omega) hP hD hS ls hl (hc 14)
      · refine lv_tableIn (off := 898) (tgt := 941) hx hb dL_law_43 (by decide) (by decide) (by rfl) (by decide) ?_
        exact law_15 hl9 C0 hK (KInv Inv x4) (n * 86) (n * 1880) hK9 ce fr un sb se so sc wb we wo wc fb fe fo fc rm ac rf kn mce mfr mun mbe men mov msp mwb mwe mwi mac mre mkn mth on ov x4 b H locs kc ks (by omega) (by omega) hP hD hS ls hl (hc 15)
      · refine lv_tableIn (off := 926) (tgt := 969) hx hb dL_law_43 (by decide) (by decide) (by rfl) (by decide) ?_
        exact law_16 hl9 C0 hK (KInv Inv x4) (n * 86) (n * 1880) hK9 ce fr un sb se so sc wb we wo wc fb fe fo fc rm ac rf kn mce mfr mun mbe men mov msp mwb mwe mwi mac mre mkn mth on ov x4 b H locs kc ks (by omega) (by omega) hP hD hS ls hl (hc 16)
      · refine lv_tableIn (off := 954) (tgt := 997) hx hb dL_law_43 (by decide) (by decide) (by rfl) (by decide) ?_
        exact law_17 hl9 C0 hK (KInv Inv x4) (n * 86) (n * 1880) hK9 ce fr un sb se so sc wb we wo wc fb fe fo fc rm ac rf kn mce mfr mun mbe men mov msp mwb mwe mwi mac mre mkn mth on ov x4 b H locs kc ks (by omega) (by omega) hP hD hS ls hl (hc 17)
      · refine lv_tableIn (off := 982) (tgt := 1025) hx hb dL_law_43 (by decide) (by decide) (by rfl) (by decide) ?_
        exact law_18 hl9 C0 hK (KInv Inv x4) (n * 86) (n * 1880) hK9 ce fr un sb se so sc wb we wo wc fb fe fo fc rm ac rf kn mce mfr mun mbe men mov msp mwb mwe mwi mac mre mkn mth on ov x4 b H locs kc ks (by omega) (by omega) hP hD hS ls hl (hc 18)
      · refine lv_tableIn (off := 1010) (tgt := 1053) hx hb dL_law_43 (by decide) (by decide) (by rfl) (by decide) ?_
        exact law_19 hl9 C0 hK (KInv Inv x4) (n * 86) (n * 1880) hK9 ce fr un sb se so sc wb we wo wc fb fe fo fc rm ac rf kn mce mfr mun mbe men mov msp mwb mwe mwi mac mre mkn mth on ov x4 b H locs kc ks (by omega) (by omega) hP hD hS ls hl (hc 19)
      · refine lv_tableIn (off := 1050) (tgt := 1093) hx hb dL_law_43 (by decide) (by decide) (by rfl) (by decide) ?_
        exact law_20 hl9 C0 hK (KInv Inv x4) (n * 86) (n * 1880) hK9 ce fr un sb se so sc wb we wo wc fb fe fo fc rm ac rf kn mce mfr mun mbe men mov msp mwb mwe mwi mac mre mkn mth on ov x4 b H locs kc ks (by omega) (by omega) hP hD hS ls hl (hc 20)
      · refine lv_tableIn (off := 1090) (tgt := 1133) hx hb dL_law_43 (by decide) (by decide) (by rfl) (by decide) ?_
        exact law_21 hl9 C0 hK (KInv Inv x4) (n * 86) (n * 1880) hK9 ce fr un sb se so sc wb we wo wc fb fe fo fc rm ac rf kn mce mfr mun mbe men mov msp mwb mwe mwi mac mre mkn mth on ov x4 b H locs kc ks (by omega) (by omega) hP hD hS ls hl (hc 21)
      · refine lv_tableIn (off := 1130) (tgt := 1173) hx hb dL_law_43 (by decide) (by decide) (by rfl) (by decide) ?_
        exact law_22 hl9 C0 hK (KInv Inv x4) (n * 86) (n * 1880) hK9 ce fr un sb se so sc wb we wo wc fb fe fo fc rm ac rf kn mce mfr mun mbe men mov msp mwb mwe mwi mac mre mkn mth on ov x4 b H locs kc ks (by omega) (by omega) hP hD hS ls hl (hc 22)
      · refine lv_tableIn (off := 1182) (tgt := 1225) hx hb dL_law_43 (by decide) (by decide) (by rfl) (by decide) ?_
        exact law_23 hl9 C0 hK (KInv Inv x4) (n * 86) (n * 1880) hK9 ce fr un sb se so sc wb we wo wc fb fe fo fc rm ac rf kn mce mfr mun mbe men mov msp mwb mwe mwi mac mre mkn mth on ov x4 b H locs kc ks (by omega) (by omega) hP hD hS ls hl (hc 23)
      · refine lv_tableIn (off := 1234) (tgt := 1277) hx hb dL_law_43 (by decide) (by decide) (by rfl) (by decide) ?_
        exact law_24 hl9 C0 hK (KInv Inv x4) (n * 86) (n * 1880) hK9 ce fr un sb se so sc wb we wo wc fb fe fo fc rm ac rf kn mce mfr mun mbe men mov msp mwb mwe mwi mac mre mkn mth on ov x4 b H locs kc ks (by omega) (by omega) hP hD hS ls hl (hc 24)
      · refine lv_tableIn (off := 1262) (tgt := 1305) hx hb dL_law_43 (by decide) (by decide) (by rfl) (by decide) ?_
        exact law_25 hl9 C0 hK (KInv Inv x4) (n * 86) (n * 1880) hK9 ce fr un sb se so sc wb we wo wc fb fe fo fc rm ac rf kn mce mfr mun mbe men mov msp mwb mwe mwi mac mre mkn mth on ov x4 b H locs kc ks (by omega) (by omega) hP hD hS ls hl (hc 25)
      · refine lv_tableIn (off := 1275) (tgt := 1318) hx hb dL_law_43 (by decide) (by decide) (by rfl) (by decide) ?_
        exact law_26 hl9 C0 hK (KInv Inv x4) (n * 86) (n * 1880) hK9 ce fr un sb se so sc wb we wo wc fb fe fo fc rm ac rf kn mce mfr mun mbe men mov msp mwb mwe mwi mac mre mkn mth on ov x4 b H locs kc ks (by omega) (by omega) hP hD hS ls hl (hc 26)
      · refine lv_tableIn (off := 1315) (tgt := 1358) hx hb dL_law_43 (by decide) (by decide) (by rfl) (by decide) ?_
        exact law_27 hl9 C0 hK (KInv Inv x4) (n * 86) (n * 1880) hK9 ce fr un sb se so sc wb we wo wc fb fe fo fc rm ac rf kn mce mfr mun mbe men mov msp mwb mwe mwi mac mre mkn mth on ov x4 b H locs kc ks (by omega) (by omega) hP hD hS ls hl (hc 27)
      · refine lv_tableIn (off := 1355) (tgt := 1398) hx hb dL_law_43 (by decide) (by decide) (by rfl) (by decide) ?_
        exact law_28 hl9 C0 hK (KInv Inv x4) (n * 86) (n * 1880) hK9 ce fr un sb se so sc wb we wo wc fb fe fo fc rm ac rf kn mce mfr mun mbe men mov msp mwb mwe mwi mac mre mkn mth on ov x4 b H locs kc ks (by omega) (by omega) hP hD hS ls hl (hc 28)
      · refine lv_tableIn (off := 1368) (tgt := 1411) hx hb dL_law_43 (by decide) (by decide) (by rfl) (by decide) ?_
        exact law_29 hl9 C0 hK (KInv Inv x4) (n * 86) (n * 1880) hK9 ce fr un sb se so sc wb we wo wc fb fe fo fc rm ac rf kn mce mfr mun mbe men mov msp mwb mwe mwi mac mre mkn mth on ov x4 b H locs kc ks (by omega) (by omega) hP hD hS ls hl (hc 29)
      · refine lv_tableIn (off := 1396) (tgt := 1439) hx hb dL_law_43 (by decide) (by decide) (by rfl) (by decide) ?_
        exact law_30 hl9 C0 hK (KInv Inv x4) (n * 86) (n * 1880) hK9 ce fr un sb se so sc wb we wo wc fb fe fo fc rm ac rf kn mce mfr mun mbe men mov msp mwb mwe mwi mac mre mkn mth on ov x4 b H locs kc ks (by omega) (by omega) hP hD hS ls hl (hc 30)
      · refine lv_tableIn (off := 1409) (tgt := 1452) hx hb dL_law_43 (by decide) (by decide) (by rfl) (by decide) ?_
        exact law_31 hl9 C0 hK (KInv Inv x4) (n * 86) (n * 1880) hK9 ce fr un sb se so sc wb we wo wc fb fe fo fc rm ac rf kn mce mfr mun mbe men mov msp mwb mwe mwi mac mre mkn mth on ov x4 b H locs kc ks (by omega) (by omega) hP hD hS ls hl (hc 31)
      · refine lv_tableIn (off := 1449) (tgt := 1492) hx hb dL_law_43 (by decide) (by decide) (by rfl) (by decide) ?_
        exact law_32 hl9 C0 hK (KInv Inv x4) (n * 86) (n * 1880) hK9 ce fr un sb se so sc wb we wo wc fb fe fo fc rm ac rf kn mce mfr mun mbe men mov msp mwb mwe mwi mac mre mkn mth on ov x4 b H locs kc ks (by omega) (by omega) hP hD hS ls hl (hc 32)
      · refine lv_tableIn (off := 1462) (tgt := 1505) hx hb dL_law_43 (by decide) (by decide) (by rfl) (by decide) ?_
        exact law_33 hl9 C0 hK (KInv Inv x4) (n * 86) (n * 1880) hK9 ce fr un sb se so sc wb we wo wc fb fe fo fc rm ac rf kn mce mfr mun mbe men mov msp mwb mwe mwi mac mre mkn mth on ov x4 b H locs kc ks (by omega) (by omega) hP hD hS ls hl (hc 33)
      · refine lv_tableIn (off := 1502) (tgt := 1545) hx hb dL_law_43 (by decide) (by decide) (by rfl) (by decide) ?_
        exact law_34 hl9 C0 hK (KInv Inv x4) (n * 86) (n * 1880) hK9 ce fr un sb se so sc wb we wo wc fb fe fo fc rm ac rf kn mce mfr mun mbe men mov msp mwb mwe mwi mac mre mkn mth on ov x4 b H locs kc ks (by omega) (by omega) hP hD hS ls hl (hc 34)
      · refine lv_tableIn (off := 1530) (tgt := 1573) hx hb dL_law_43 (by decide) (by decide) (by rfl) (by decide) ?_
        exact law_35 hl9 C0 hK (KInv Inv x4) (n * 86) (n * 1880) hK9 ce fr un sb se so sc wb we wo wc fb fe fo fc rm ac rf kn mce mfr mun mbe men mov msp mwb mwe mwi mac mre mkn mth on ov x4 b H locs kc ks (by omega) (by omega) hP hD hS ls hl (hc 35)
      · refine lv_tableIn (off := 1558) (tgt := 1601) hx hb dL_law_43 (by decide) (by decide) (by rfl) (by decide) ?_
        exact law_36 hl9 C0 hK (KInv Inv x4) (n * 86) (n * 1880) hK9 ce fr un sb se so sc wb we wo wc fb fe fo fc rm ac rf kn mce mfr mun mbe men mov msp mwb mwe mwi mac mre mkn mth on ov x4 b H locs kc ks (by omega) (by omega) hP hD hS ls hl (hc 36)
      · refine lv_tableIn (off := 1571) (tgt := 1614) hx hb dL_law_43 (by decide) (by decide) (by rfl) (by decide) ?_
        exact law_37 hl9 C0 hK (KInv Inv x4) (n * 86) (n * 1880) hK9 ce fr un sb se so sc wb we wo wc fb fe fo fc rm ac rf kn mce mfr mun mbe men mov msp mwb mwe mwi mac mre mkn mth on ov x4 b H locs kc ks (by omega) (by omega) hP hD hS ls hl (hc 37)
      · refine lv_tableIn (off := 1611) (tgt := 1654) hx hb dL_law_43 (by decide) (by decide) (by rfl) (by decide) ?_
        exact law_38 hl9 C0 hK (KInv Inv x4) (n * 86) (n * 1880) hK9 ce fr un sb se so sc wb we wo wc fb fe fo fc rm ac rf kn mce mfr mun mbe men mov msp mwb mwe mwi mac mre mkn mth on ov x4 b H locs kc ks (by omega) (by omega) hP hD hS ls hl (hc 38)
      · refine lv_tableIn (off := 1639) (tgt := 1682) hx hb dL_law_43 (by decide) (by decide) (by rfl) (by decide) ?_
        exact law_39 hl9 C0 hK (KInv Inv x4) (n * 86) (n * 1880) hK9 ce fr un sb se so sc wb we wo wc fb fe fo fc rm ac rf kn mce mfr mun mbe men mov msp mwb mwe mwi mac mre mkn mth on ov x4 b H locs kc ks (by omega) (by omega) hP hD hS ls hl (hc 39)
      · refine lv_tableIn (off := 1652) (tgt := 1695) hx hb dL_law_43 (by decide) (by decide) (by rfl) (by decide) ?_
        exact law_40 hl9 C0 hK (KInv Inv x4) (n * 86) (n * 1880) hK9 ce fr un sb se so sc wb we wo wc fb fe fo fc rm ac rf kn mce mfr mun mbe men mov msp mwb mwe mwi mac mre mkn mth on ov x4 b H locs kc ks (by omega) (by omega) hP hD hS ls hl (hc 40)
      · refine lv_tableIn (off := 1680) (tgt := 1723) hx hb dL_law_43 (by decide) (by decide) (by rfl) (by decide) ?_
        exact law_41 hl9 C0 hK (KInv Inv x4) (n * 86) (n * 1880) hK9 ce fr un sb se so sc wb we wo wc fb fe fo fc rm ac rf kn mce mfr mun mbe men mov msp mwb mwe mwi mac mre mkn mth on ov x4 b H locs kc ks (by omega) (by omega) hP hD hS ls hl (hc 41)
      · refine lv_tableIn (off := 1693) (tgt := 1736) hx hb dL_law_43 (by decide) (by decide) (by rfl) (by decide) ?_
        exact law_42 hl9 C0 hK (KInv Inv x4) (n * 86) (n * 1880) hK9 ce fr un sb se so sc wb we wo wc fb fe fo fc rm ac rf kn mce mfr mun mbe men mov msp mwb mwe mwi mac mre mkn mth on ov x4 b H locs kc ks (by omega) (by omega) hP hD hS ls hl (hc 42)
      · refine lv_tableIn (off := 1721) (tgt := 1764) hx hb dL_law_43 (by decide) (by decide) (by rfl) (by decide) ?_
        exact law_43 hl9 C0 hK (KInv Inv x4) (n * 86) (n * 1880) hK9 ce fr un sb se so sc wb we wo wc fb fe fo fc rm ac rf kn mce mfr mun mbe men mov msp mwb mwe mwi mac mre mkn mth on ov x4 b H locs kc ks (by omega) (by omega) hP hD hS ls hl (hc 43)
      · refine lv_tableIn (off := 1734) (tgt := 1777) hx hb dL_law_43 (by decide) (by decide) (by rfl) (by decide) ?_
        exact law_44 hl9 C0 hK (KInv Inv x4) (n * 86) (n * 1880) hK9 ce fr un sb se so sc wb we wo wc fb fe fo fc rm ac rf kn mce mfr mun mbe men mov msp mwb mwe mwi mac mre mkn mth on ov x4 b H locs kc ks (by omega) (by omega) hP hD hS ls hl (hc 44)
      · refine lv_tableIn (off := 1762) (tgt := 1805) hx hb dL_law_43 (by decide) (by decide) (by rfl) (by decide) ?_
        exact law_45 hl9 C0 hK (KInv Inv x4) (n * 86) (n * 1880) hK9 ce fr un sb se so sc wb we wo wc fb fe fo fc rm ac rf kn mce mfr mun mbe men mov msp mwb mwe mwi mac mre mkn mth on ov x4 b H locs kc ks (by omega) (by omega) hP hD hS ls hl (hc 45)
      · refine lv_tableIn (off := 1775) (tgt := 1818) hx hb dL_law_43 (by decide) (by decide) (by rfl) (by decide) ?_
        exact law_46 hl9 C0 hK (KInv Inv x4) (n * 86) (n * 1880) hK9 ce fr un sb se so sc wb we wo wc fb fe fo fc rm ac rf kn mce mfr mun mbe men mov msp mwb mwe mwi mac mre mkn mth on ov x4 b H locs kc ks (by omega) (by omega) hP hD hS ls hl (hc 46)
      · refine lv_tableIn (off := 1788) (tgt := 1831) hx hb dL_law_43 (by decide) (by decide) (by rfl) (by decide) ?_
        exact law_47 hl9 C0 hK (KInv Inv x4) (n * 86) (n * 1880) hK9 ce fr un sb se so sc wb we wo wc fb fe fo fc rm ac rf kn mce mfr mun mbe men mov msp mwb mwe mwi mac mre mkn mth on ov x4 b H locs kc ks (by omega) (by omega) hP hD hS ls hl (hc 47)
      · refine lv_tableOut (tgt := 1845) hx hb dL_law_43 (Or.inr (k48 h9 hk)) (by decide) ?_
        exact hK9 ce fr un sb se so sc wb we wo wc fb fe fo fc rm ac rf kn mce mfr mun mbe men mov msp mwb mwe mwi mac mre mkn mth on ov x4 b H locs kc ks (by omega) (by omega) hP hD hS ls hl (KInv_yes hI)
set_option maxHeartbeats 16000000 in
set_option maxRecDepth 100000 in
theorem law_entry {p : Program} {l : Launch} {e : Env} {s : State} {m : MethodId} {below : List Frame} {meth : Method} {c : Code} {dC : Nat → ClassId} {dI : Nat → Nat → Nat} {cB cI cJ cZ : ClassId} {b9 L : Nat} {xs : Nat → Int32} (C0 : kLw p s m c b9 L xs (fun q => s.heap.size ≤ q)) (hK : va_K (dC, dI) vwCl (kTy cB cI cJ cZ) s) (kk : ∀ (a : Nat → Nat) (b : Nat → Nat) (o : Nat) (H : Heap) (locs : List Loc), va_P (dC, dI) vwCl ((wSB cI cJ cZ a (fun _ => 0) 0 86400000000000 (fun _ => 0) (fun _ => 0) (fun _ => 0) 0 (fun _ => 0) (fun _ => 0) (fun _ => 0) 0 (fun _ => 0) (fun _ => 0) (fun _ => 0) 0 (fun _ => 0) 0 0 0) ++ (wMo cJ cZ b (fun _ => 0) 0 86400000000000 (fun _ => 0) (fun _ => 0) (fun _ => 0) 0 (fun _ => 0) (fun _ => 0) 0 0 0 0 0) ++ (wO o 0 .null)) H → va_D (fun q => s.heap.size ≤ q) ((wSB cI cJ cZ a (fun _ => 0) 0 86400000000000 (fun _ => 0) (fun _ => 0) (fun _ => 0) 0 (fun _ => 0) (fun _ => 0) (fun _ => 0) 0 (fun _ => 0) (fun _ => 0) (fun _ => 0) 0 (fun _ => 0) 0 0 0) ++ (wMo cJ cZ b (fun _ => 0) 0 86400000000000 (fun _ => 0) (fun _ => 0) (fun _ => 0) 0 (fun _ => 0) (fun _ => 0) 0 0 0 0 0) ++ (wO o 0 .null)) → va_S (fun q => s.heap.size ≤ q) s.heap H locs → ∀ (ls : Array Slot), lv_has ls 7 (kvA 0 b9 (kvA 1 (a 0) (kvA 2 (b 0) (kvA 3 o (kvI 4 0 kvE))))) → W p l e room_1 s m #[Value.ref b9] below meth c H locs 23 202 (lw_Z below #[Value.ref b9] s) (F0 m 27 ls [])) : W p l e room_1 s m #[Value.ref b9] below meth c s.heap [] 0 0 (lw_Z below #[Value.ref b9] s) (entryFrame m ([Value.ref b9] : List Value).toArray 7) := by
  obtain ⟨hx, hb, hml, hown, hts, hX, hbl, hA, hbA, hG, hZ⟩ := id C0
  have hw0 := hts (.classLink RL 8 RX1) (List.mem_cons_of_mem _ kw_77)
  have hw1 := hts (.instantiable RX1 10) (List.mem_cons_of_mem _ kw_78)
  have hw2 := hts (.initialized RX1) (List.mem_cons_of_mem _ kw_57)
  have hw3 := hts (.classLink RL 143 RX3) (List.mem_cons_of_mem _ kw_1065)
  have hw4 := hts (.instantiable RX3 14) (List.mem_cons_of_mem _ kw_1066)
  have hw5 := hts (.initialized RX3) (List.mem_cons_of_mem _ kw_59)
  have hw6 := hts (.classLink RL 14 RX2) (List.mem_cons_of_mem _ kw_451)
  have hw7 := hts (.instantiable RX2 2) (List.mem_cons_of_mem _ kw_452)
  have hw8 := hts (.initialized RX2) (List.mem_cons_of_mem _ kw_60)
  have hiX1 : ∀ w ∈ u_ws RX1 TX1 10, w ∈ (Cond.initialized RL :: kBIG) := fun w h => List.mem_cons_of_mem _ (ku_X1 w h)
  have hiX2 : ∀ w ∈ u_ws RX2 TX2 2, w ∈ (Cond.initialized RL :: kBIG) := fun w h => List.mem_cons_of_mem _ (ku_X2 w h)
  have hiX3 : ∀ w ∈ u_ws RX3 TX3 14, w ∈ (Cond.initialized RL :: kBIG) := fun w h => List.mem_cons_of_mem _ (ku_X3 w h)
  have hP : va_P (dC, dI) vwCl [] s.heap := kPnil
  have hD : va_D (fun q => s.heap.size ≤ q) [] := kDnil
  have hS : va_S (fun q : Nat => s.heap.size ≤ q) s.heap s.heap [] := va_S.rf
  have hl := lv_entry ([.ref b9]) (n := 7) (Nat.le_of_ble_eq_true rfl)
  rw [lg_entry_eq]
  generalize (lg_sl ([.ref b9]) ++ List.replicate (7 - (lg_sl ([.ref b9])).length) Slot.unset).toArray = ls at hl ⊢
  have hl : lv_has ls 7 (kvA 0 b9 kvE) := hl
  refine va_new (ci := 3) (fs := [.null, .long 0, .long 0, .null, .null, .null, .null, .int 0, .int 0, .int 0]) (C := RX1) (T := TX1) (N := 10) hx hb hts hiX1 tyX1 tyX1_ok hown hw0 hw1 hw2 hK hP hD hS hA rfl (fun j hj => by rcases (show j = 0 ∨ j = 1 ∨ j = 2 ∨ j = 3 ∨ j = 4 ∨ j = 5 ∨ j = 6 ∨ j = 7 ∨ j = 8 ∨ j = 9 by omega) with rfl | rfl | rfl | rfl | rfl | rfl | rfl | rfl | rfl | rfl <;> rfl) (Nat.le_of_ble_eq_true rfl) (Nat.le_of_ble_eq_true rfl) (kdr dgL_law_0 0 0 rfl rfl) (fun qn0 H hP hD hS => ?_)
  have hP : va_P (dC, dI) vwCl [(qn0, .inr (3, [.null, .long 0, .long 0, .null, .null, .null, .null, .int 0, .int 0, .int 0]))] H := hP
  have hD : va_D (fun q => s.heap.size ≤ q) [(qn0, .inr (3, [.null, .long 0, .long 0, .null, .null, .null, .null, .int 0, .int 0, .int 0]))] := hD
  refine lv_dup hx hb (kdr dgL_law_0 0 1 rfl rfl) rfl ?_
  obtain ⟨r1, g1⟩ : ∃ r, f_X1_init = some r := ⟨(), rfl⟩
  refine kcall_vu (fun u1 => (wSB cI cJ cZ (kcons qn0 u1) (fun _ => 0) 0 86400000000000 (fun _ => 0) (fun _ => 0) (fun _ => 0) 0 (fun _ => 0) (fun _ => 0) (fun _ => 0) 0 (fun _ => 0) (fun _ => 0) (fun _ => 0) 0 (fun _ => 0) 0 0 0)) (va_runI (As := []) (rest := [.ref qn0]) ⟨hx, hb, hml, hown, hts⟩ (c_X1_init l dC dI cB cI cJ cZ qn0 _   r1 g1) (kcwI hts kw_79 kv_X1_init rfl rfl ⟨(Nat.le_of_ble_eq_true rfl), (Nat.le_of_ble_eq_true rfl)⟩) (kpS (A := fun q => s.heap.size ≤ q) (hP.sub [0] rfl) hK (hD.sub [0] (by decide) rfl) hG) rfl rfl hl.1 rfl (lv_room (Nat.le_of_ble_eq_true rfl)) (kdr dgL_law_0 0 2 rfl rfl) ⟨by show _ ≤ (600128 : Nat); omega, by show _ ≤ (7301098 : Nat); omega⟩) hP hD hS hA [0] [] rfl [] rfl (by decide) (by decide) (fun u1 H locs hP hD hS => ?_)
  have hP := hP.sub (ws' := [(qn0, .inr (3, [.ref ((kcons qn0 u1) 1), .long 0, .long 86400000000000, .ref ((kcons qn0 u1) 2), .ref ((kcons qn0 u1) 6), .ref ((kcons qn0 u1) 10), .ref ((kcons qn0 u1) 14), .int 0, .int 0, .int 0])), (((kcons qn0 u1) 1), .inl (cJ, 4, .inr (.inl (fun _ => 0)))), (((kcons qn0 u1) 2), .inr (2, [.ref ((kcons qn0 u1) 3), .ref ((kcons qn0 u1) 4), .ref ((kcons qn0 u1) 5), .int 0])), (((kcons qn0 u1) 3), .inl (cJ, 11, .inr (.inl (fun _ => 0)))), (((kcons qn0 u1) 4), .inl (cJ, 11, .inr (.inl (fun _ => 0)))), (((kcons qn0 u1) 5), .inl (cZ, 11, .inl (fun _ => 0))), (((kcons qn0 u1) 6), .inr (2, [.ref ((kcons qn0 u1) 7), .ref ((kcons qn0 u1) 8), .ref ((kcons qn0 u1) 9), .int 0])), (((kcons qn0 u1) 7), .inl (cJ, 11, .inr (.inl (fun _ => 0)))), (((kcons qn0 u1) 8), .inl (cJ, 11, .inr (.inl (fun _ => 0)))), (((kcons qn0 u1) 9), .inl (cZ, 11, .inl (fun _ => 0))), (((kcons qn0 u1) 10), .inr (2, [.ref ((kcons qn0 u1) 11), .ref ((kcons qn0 u1) 12), .ref ((kcons qn0 u1) 13), .int 0])), (((kcons qn0 u1) 11), .inl (cJ, 11, .inr (.inl (fun _ => 0)))), (((kcons qn0 u1) 12), .inl (cJ, 11, .inr (.inl (fun _ => 0)))), (((kcons qn0 u1) 13), .inl (cZ, 11, .inl (fun _ => 0))), (((kcons qn0 u1) 14), .inl (cI, 11, .inl (fun _ => 0)))]) [0, 1, 2, 3, 4, 5, 6, 7, 8, 9, 10, 11, 12, 13, 14] rfl
  have hD := hD.sub (ws' := [(qn0, .inr (3, [.ref ((kcons qn0 u1) 1), .long 0, .long 86400000000000, .ref ((kcons qn0 u1) 2), .ref ((kcons qn0 u1) 6), .ref ((kcons qn0 u1) 10), .ref ((kcons qn0 u1) 14), .int 0, .int 0, .int 0])), (((kcons qn0 u1) 1), .inl (cJ, 4, .inr (.inl (fun _ => 0)))), (((kcons qn0 u1) 2), .inr (2, [.ref ((kcons qn0 u1) 3), .ref ((kcons qn0 u1) 4), .ref ((kcons qn0 u1) 5), .int 0])), (((kcons qn0 u1) 3), .inl (cJ, 11, .inr (.inl (fun _ => 0)))), (((kcons qn0 u1) 4), .inl (cJ, 11, .inr (.inl (fun _ => 0)))), (((kcons qn0 u1) 5), .inl (cZ, 11, .inl (fun _ => 0))), (((kcons qn0 u1) 6), .inr (2, [.ref ((kcons qn0 u1) 7), .ref ((kcons qn0 u1) 8), .ref ((kcons qn0 u1) 9), .int 0])), (((kcons qn0 u1) 7), .inl (cJ, 11, .inr (.inl (fun _ => 0)))), (((kcons qn0 u1) 8), .inl (cJ, 11, .inr (.inl (fun _ => 0)))), (((kcons qn0 u1) 9), .inl (cZ, 11, .inl (fun _ => 0))), (((kcons qn0 u1) 10), .inr (2, [.ref ((kcons qn0 u1) 11), .ref ((kcons qn0 u1) 12), .ref ((kcons qn0 u1) 13), .int 0])), (((kcons qn0 u1) 11), .inl (cJ, 11, .inr (.inl (fun _ => 0)))), (((kcons qn0 u1) 12), .inl (cJ, 11, .inr (.inl (fun _ => 0)))), (((kcons qn0 u1) 13), .inl (cZ, 11, .inl (fun _ => 0))), (((kcons qn0 u1) 14), .inl (cI, 11, .inl (fun _ => 0)))]) [0, 1, 2, 3, 4, 5, 6, 7, 8, 9, 10, 11, 12, 13, 14] (by decide) rfl
  refine lv_astore_n (lv' := (kvA 1 qn0 (kvA 0 b9 kvE))) hx hb (kdr dgL_law_0 0 3 rfl rfl) rfl hl (by decide) rfl (fun ls hl => ?_)
  refine va_new (ci := 5) (fs := [.null, .long 0, .long 0, .null, .null, .null, .int 0, .null, .null, .int 0, .int 0, .int 0, .int 0, .int 0]) (C := RX3) (T := TX3) (N := 14) hx hb hts hiX3 tyX3 tyX3_ok hown hw3 hw4 hw5 hK hP hD hS hA rfl (fun j hj => by rcases (show j = 0 ∨ j = 1 ∨ j = 2 ∨ j = 3 ∨ j = 4 ∨ j = 5 ∨ j = 6 ∨ j = 7 ∨ j = 8 ∨ j = 9 ∨ j = 10 ∨ j = 11 ∨ j = 12 ∨ j = 13 by omega) with rfl | rfl | rfl | rfl | rfl | rfl | rfl | rfl | rfl | rfl | rfl | rfl | rfl | rfl <;> rfl) (Nat.le_of_ble_eq_true rfl) (Nat.le_of_ble_eq_true rfl) (kdr dgL_law_0 0 4 rfl rfl) (fun qn1 H hP hD hS => ?_)
  have hP : va_P (dC, dI) vwCl [(qn0, .inr (3, [.ref ((kcons qn0 u1) 1), .long 0, .long 86400000000000, .ref ((kcons qn0 u1) 2), .ref ((kcons qn0 u1) 6), .ref ((kcons qn0 u1) 10), .ref ((kcons qn0 u1) 14), .int 0, .int 0, .int 0])), (((kcons qn0 u1) 1), .inl (cJ, 4, .inr (.inl (fun _ => 0)))), (((kcons qn0 u1) 2), .inr (2, [.ref ((kcons qn0 u1) 3), .ref ((kcons qn0 u1) 4), .ref ((kcons qn0 u1) 5), .int 0])), (((kcons qn0 u1) 3), .inl (cJ, 11, .inr (.inl (fun _ => 0)))), (((kcons qn0 u1) 4), .inl (cJ, 11, .inr (.inl (fun _ => 0)))), (((kcons qn0 u1) 5), .inl (cZ, 11, .inl (fun _ => 0))), (((kcons qn0 u1) 6), .inr (2, [.ref ((kcons qn0 u1) 7), .ref ((kcons qn0 u1) 8), .ref ((kcons qn0 u1) 9), .int 0])), (((kcons qn0 u1) 7), .inl (cJ, 11, .inr (.inl (fun _ => 0)))), (((kcons qn0 u1) 8), .inl (cJ, 11, .inr (.inl (fun _ => 0)))), (((kcons qn0 u1) 9), .inl (cZ, 11, .inl (fun _ => 0))), (((kcons qn0 u1) 10), .inr (2, [.ref ((kcons qn0 u1) 11), .ref ((kcons qn0 u1) 12), .ref ((kcons qn0 u1) 13), .int 0])), (((kcons qn0 u1) 11), .inl (cJ, 11, .inr (.inl (fun _ => 0)))), (((kcons qn0 u1) 12), .inl (cJ, 11, .inr (.inl (fun _ => 0)))), (((kcons qn0 u1) 13), .inl (cZ, 11, .inl (fun _ => 0))), (((kcons qn0 u1) 14), .inl (cI, 11, .inl (fun _ => 0))), (qn1, .inr (5, [.null, .long 0, .long 0, .null, .null, .null, .int 0, .null, .null, .int 0, .int 0, .int 0, .int 0, .int 0]))] H := hP
  have hD : va_D (fun q => s.heap.size ≤ q) [(qn0, .inr (3, [.ref ((kcons qn0 u1) 1), .long 0, .long 86400000000000, .ref ((kcons qn0 u1) 2), .ref ((kcons qn0 u1) 6), .ref ((kcons qn0 u1) 10), .ref ((kcons qn0 u1) 14), .int 0, .int 0, .int 0])), (((kcons qn0 u1) 1), .inl (cJ, 4, .inr (.inl (fun _ => 0)))), (((kcons qn0 u1) 2), .inr (2, [.ref ((kcons qn0 u1) 3), .ref ((kcons qn0 u1) 4), .ref ((kcons qn0 u1) 5), .int 0])), (((kcons qn0 u1) 3), .inl (cJ, 11, .inr (.inl (fun _ => 0)))), (((kcons qn0 u1) 4), .inl (cJ, 11, .inr (.inl (fun _ => 0)))), (((kcons qn0 u1) 5), .inl (cZ, 11, .inl (fun _ => 0))), (((kcons qn0 u1) 6), .inr (2, [.ref ((kcons qn0 u1) 7), .ref ((kcons qn0 u1) 8), .ref ((kcons qn0 u1) 9), .int 0])), (((kcons qn0 u1) 7), .inl (cJ, 11, .inr (.inl (fun _ => 0)))), (((kcons qn0 u1) 8), .inl (cJ, 11, .inr (.inl (fun _ => 0)))), (((kcons qn0 u1) 9), .inl (cZ, 11, .inl (fun _ => 0))), (((kcons qn0 u1) 10), .inr (2, [.ref ((kcons qn0 u1) 11), .ref ((kcons qn0 u1) 12), .ref ((kcons qn0 u1) 13), .int 0])), (((kcons qn0 u1) 11), .inl (cJ, 11, .inr (.inl (fun _ => 0)))), (((kcons qn0 u1) 12), .inl (cJ, 11, .inr (.inl (fun _ => 0)))), (((kcons qn0 u1) 13), .inl (cZ, 11, .inl (fun _ => 0))), (((kcons qn0 u1) 14), .inl (cI, 11, .inl (fun _ => 0))), (qn1, .inr (5, [.null, .long 0, .long 0, .null, .null, .null, .int 0, .null, .null, .int 0, .int 0, .int 0, .int 0, .int 0]))] := hD
  refine lv_dup hx hb (kdr dgL_law_0 0 5 rfl rfl) rfl ?_
  obtain ⟨r2, g2⟩ : ∃ r, f_X3_init = some r := ⟨(), rfl⟩
  refine kcall_vu (fun u2 => (wMo cJ cZ (kcons qn1 u2) (fun _ => 0) 0 86400000000000 (fun _ => 0) (fun _ => 0) (fun _ => 0) 0 (fun _ => 0) (fun _ => 0) 0 0 0 0 0)) (va_runI (As := []) (rest := [.ref qn1]) ⟨hx, hb, hml, hown, hts⟩ (c_X3_init l dC dI cB cI cJ cZ qn1 _   r2 g2) (kcwI hts kw_1067 kv_X3_init rfl rfl ⟨(Nat.le_of_ble_eq_true rfl), (Nat.le_of_ble_eq_true rfl)⟩) (kpS (A := fun q => s.heap.size ≤ q) (hP.sub [15] rfl) hK (hD.sub [15] (by decide) rfl) hG) rfl rfl hl.1 rfl (lv_room (Nat.le_of_ble_eq_true rfl)) (kdr dgL_law_0 0 6 rfl rfl) ⟨by show _ ≤ (600128 : Nat); omega, by show _ ≤ (7301098 : Nat); omega⟩) hP hD hS hA [15] [0, 1, 2, 3, 4, 5, 6, 7, 8, 9, 10, 11, 12, 13, 14] rfl [(qn0, .inr (3, [.ref ((kcons qn0 u1) 1), .long 0, .long 86400000000000, .ref ((kcons qn0 u1) 2), .ref ((kcons qn0 u1) 6), .ref ((kcons qn0 u1) 10), .ref ((kcons qn0 u1) 14), .int 0, .int 0, .int 0])), (((kcons qn0 u1) 1), .inl (cJ, 4, .inr (.inl (fun _ => 0)))), (((kcons qn0 u1) 2), .inr (2, [.ref ((kcons qn0 u1) 3), .ref ((kcons qn0 u1) 4), .ref ((kcons qn0 u1) 5), .int 0])), (((kcons qn0 u1) 3), .inl (cJ, 11, .inr (.inl (fun _ => 0)))), (((kcons qn0 u1) 4), .inl (cJ, 11, .inr (.inl (fun _ => 0)))), (((kcons qn0 u1) 5), .inl (cZ, 11, .inl (fun _ => 0))), (((kcons qn0 u1) 6), .inr (2, [.ref ((kcons qn0 u1) 7), .ref ((kcons qn0 u1) 8), .ref ((kcons qn0 u1) 9), .int 0])), (((kcons qn0 u1) 7), .inl (cJ, 11, .inr (.inl (fun _ => 0)))), (((kcons qn0 u1) 8), .inl (cJ, 11, .inr (.inl (fun _ => 0)))), (((kcons qn0 u1) 9), .inl (cZ, 11, .inl (fun _ => 0))), (((kcons qn0 u1) 10), .inr (2, [.ref ((kcons qn0 u1) 11), .ref ((kcons qn0 u1) 12), .ref ((kcons qn0 u1) 13), .int 0])), (((kcons qn0 u1) 11), .inl (cJ, 11, .inr (.inl (fun _ => 0)))), (((kcons qn0 u1) 12), .inl (cJ, 11, .inr (.inl (fun _ => 0)))), (((kcons qn0 u1) 13), .inl (cZ, 11, .inl (fun _ => 0))), (((kcons qn0 u1) 14), .inl (cI, 11, .inl (fun _ => 0)))] rfl (by decide) (by decide) (fun u2 H locs hP hD hS => ?_)
  have hP := hP.sub (ws' := [(qn0, .inr (3, [.ref ((kcons qn0 u1) 1), .long 0, .long 86400000000000, .ref ((kcons qn0 u1) 2), .ref ((kcons qn0 u1) 6), .ref ((kcons qn0 u1) 10), .ref ((kcons qn0 u1) 14), .int 0, .int 0, .int 0])), (((kcons qn0 u1) 1), .inl (cJ, 4, .inr (.inl (fun _ => 0)))), (((kcons qn0 u1) 2), .inr (2, [.ref ((kcons qn0 u1) 3), .ref ((kcons qn0 u1) 4), .ref ((kcons qn0 u1) 5), .int 0])), (((kcons qn0 u1) 3), .inl (cJ, 11, .inr (.inl (fun _ => 0)))), (((kcons qn0 u1) 4), .inl (cJ, 11, .inr (.inl (fun _ => 0)))), (((kcons qn0 u1) 5), .inl (cZ, 11, .inl (fun _ => 0))), (((kcons qn0 u1) 6), .inr (2, [.ref ((kcons qn0 u1) 7), .ref ((kcons qn0 u1) 8), .ref ((kcons qn0 u1) 9), .int 0])), (((kcons qn0 u1) 7), .inl (cJ, 11, .inr (.inl (fun _ => 0)))), (((kcons qn0 u1) 8), .inl (cJ, 11, .inr (.inl (fun _ => 0)))), (((kcons qn0 u1) 9), .inl (cZ, 11, .inl (fun _ => 0))), (((kcons qn0 u1) 10), .inr (2, [.ref ((kcons qn0 u1) 11), .ref ((kcons qn0 u1) 12), .ref ((kcons qn0 u1) 13), .int 0])), (((kcons qn0 u1) 11), .inl (cJ, 11, .inr (.inl (fun _ => 0)))), (((kcons qn0 u1) 12), .inl (cJ, 11, .inr (.inl (fun _ => 0)))), (((kcons qn0 u1) 13), .inl (cZ, 11, .inl (fun _ => 0))), (((kcons qn0 u1) 14), .inl (cI, 11, .inl (fun _ => 0))), (qn1, .inr (5, [.ref ((kcons qn1 u2) 1), .long 0, .long 86400000000000, .ref ((kcons qn1 u2) 2), .ref ((kcons qn1 u2) 3), .ref ((kcons qn1 u2) 4), .int 0, .ref ((kcons qn1 u2) 5), .ref ((kcons qn1 u2) 6), .int 0, .int 0, .int 0, .int 0, .int 0])), (((kcons qn1 u2) 1), .inl (cJ, 4, .inr (.inl (fun _ => 0)))), (((kcons qn1 u2) 2), .inl (cJ, 10, .inr (.inl (fun _ => 0)))), (((kcons qn1 u2) 3), .inl (cJ, 10, .inr (.inl (fun _ => 0)))), (((kcons qn1 u2) 4), .inl (cZ, 10, .inl (fun _ => 0))), (((kcons qn1 u2) 5), .inl (cJ, 8, .inr (.inl (fun _ => 0)))), (((kcons qn1 u2) 6), .inl (cJ, 8, .inr (.inl (fun _ => 0))))]) [0, 1, 2, 3, 4, 5, 6, 7, 8, 9, 10, 11, 12, 13, 14, 15, 16, 17, 18, 19, 20, 21] rfl
  have hD := hD.sub (ws' := [(qn0, .inr (3, [.ref ((kcons qn0 u1) 1), .long 0, .long 86400000000000, .ref ((kcons qn0 u1) 2), .ref ((kcons qn0 u1) 6), .ref ((kcons qn0 u1) 10), .ref ((kcons qn0 u1) 14), .int 0, .int 0, .int 0])), (((kcons qn0 u1) 1), .inl (cJ, 4, .inr (.inl (fun _ => 0)))), (((kcons qn0 u1) 2), .inr (2, [.ref ((kcons qn0 u1) 3), .ref ((kcons qn0 u1) 4), .ref ((kcons qn0 u1) 5), .int 0])), (((kcons qn0 u1) 3), .inl (cJ, 11, .inr (.inl (fun _ => 0)))), (((kcons qn0 u1) 4), .inl (cJ, 11, .inr (.inl (fun _ => 0)))), (((kcons qn0 u1) 5), .inl (cZ, 11, .inl (fun _ => 0))), (((kcons qn0 u1) 6), .inr (2, [.ref ((kcons qn0 u1) 7), .ref ((kcons qn0 u1) 8), .ref ((kcons qn0 u1) 9), .int 0])), (((kcons qn0 u1) 7), .inl (cJ, 11, .inr (.inl (fun _ => 0)))), (((kcons qn0 u1) 8), .inl (cJ, 11, .inr (.inl (fun _ => 0)))), (((kcons qn0 u1) 9), .inl (cZ, 11, .inl (fun _ => 0))), (((kcons qn0 u1) 10), .inr (2, [.ref ((kcons qn0 u1) 11), .ref ((kcons qn0 u1) 12), .ref ((kcons qn0 u1) 13), .int 0])), (((kcons qn0 u1) 11), .inl (cJ, 11, .inr (.inl (fun _ => 0)))), (((kcons qn0 u1) 12), .inl (cJ, 11, .inr (.inl (fun _ => 0)))), (((kcons qn0 u1) 13), .inl (cZ, 11, .inl (fun _ => 0))), (((kcons qn0 u1) 14), .inl (cI, 11, .inl (fun _ => 0))), (qn1, .inr (5, [.ref ((kcons qn1 u2) 1), .long 0, .long 86400000000000, .ref ((kcons qn1 u2) 2), .ref ((kcons qn1 u2) 3), .ref ((kcons qn1 u2) 4), .int 0, .ref ((kcons qn1 u2) 5), .ref ((kcons qn1 u2) 6), .int 0, .int 0, .int 0, .int 0, .int 0])), (((kcons qn1 u2) 1), .inl (cJ, 4, .inr (.inl (fun _ => 0)))), (((kcons qn1 u2) 2), .inl (cJ, 10, .inr (.inl (fun _ => 0)))), (((kcons qn1 u2) 3), .inl (cJ, 10, .inr (.inl (fun _ => 0)))), (((kcons qn1 u2) 4), .inl (cZ, 10, .inl (fun _ => 0))), (((kcons qn1 u2) 5), .inl (cJ, 8, .inr (.inl (fun _ => 0)))), (((kcons qn1 u2) 6), .inl (cJ, 8, .inr (.inl (fun _ => 0))))]) [0, 1, 2, 3, 4, 5, 6, 7, 8, 9, 10, 11, 12, 13, 14, 15, 16, 17, 18, 19, 20, 21] (by decide) rfl
  refine lv_astore_n (lv' := (kvA 2 qn1 (kvA 1 qn0 (kvA 0 b9 kvE)))) hx hb (kdr dgL_law_0 0 7 rfl rfl) rfl hl (by decide) rfl (fun ls hl => ?_)
  refine va_new (ci := 4) (fs := [.long 0, .null]) (C := RX2) (T := TX2) (N := 2) hx hb hts hiX2 tyX2 tyX2_ok hown hw6 hw7 hw8 hK hP hD hS hA rfl (fun j hj => by rcases (show j = 0 ∨ j = 1 by omega) with rfl | rfl <;> rfl) (Nat.le_of_ble_eq_true rfl) (Nat.le_of_ble_eq_true rfl) (kdr dgL_law_0 0 8 rfl rfl) (fun qn2 H hP hD hS => ?_)
  have hP : va_P (dC, dI) vwCl [(qn0, .inr (3, [.ref ((kcons qn0 u1) 1), .long 0, .long 86400000000000, .ref ((kcons qn0 u1) 2), .ref ((kcons qn0 u1) 6), .ref ((kcons qn0 u1) 10), .ref ((kcons qn0 u1) 14), .int 0, .int 0, .int 0])), (((kcons qn0 u1) 1), .inl (cJ, 4, .inr (.inl (fun _ => 0)))), (((kcons qn0 u1) 2), .inr (2, [.ref ((kcons qn0 u1) 3), .ref ((kcons qn0 u1) 4), .ref ((kcons qn0 u1) 5), .int 0])), (((kcons qn0 u1) 3), .inl (cJ, 11, .inr (.inl (fun _ => 0)))), (((kcons qn0 u1) 4), .inl (cJ, 11, .inr (.inl (fun _ => 0)))), (((kcons qn0 u1) 5), .inl (cZ, 11, .inl (fun _ => 0))), (((kcons qn0 u1) 6), .inr (2, [.ref ((kcons qn0 u1) 7), .ref ((kcons qn0 u1) 8), .ref ((kcons qn0 u1) 9), .int 0])), (((kcons qn0 u1) 7), .inl (cJ, 11, .inr (.inl (fun _ => 0)))), (((kcons qn0 u1) 8), .inl (cJ, 11, .inr (.inl (fun _ => 0)))), (((kcons qn0 u1) 9), .inl (cZ, 11, .inl (fun _ => 0))), (((kcons qn0 u1) 10), .inr (2, [.ref ((kcons qn0 u1) 11), .ref ((kcons qn0 u1) 12), .ref ((kcons qn0 u1) 13), .int 0])), (((kcons qn0 u1) 11), .inl (cJ, 11, .inr (.inl (fun _ => 0)))), (((kcons qn0 u1) 12), .inl (cJ, 11, .inr (.inl (fun _ => 0)))), (((kcons qn0 u1) 13), .inl (cZ, 11, .inl (fun _ => 0))), (((kcons qn0 u1) 14), .inl (cI, 11, .inl (fun _ => 0))), (qn1, .inr (5, [.ref ((kcons qn1 u2) 1), .long 0, .long 86400000000000, .ref ((kcons qn1 u2) 2), .ref ((kcons qn1 u2) 3), .ref ((kcons qn1 u2) 4), .int 0, .ref ((kcons qn1 u2) 5), .ref ((kcons qn1 u2) 6), .int 0, .int 0, .int 0, .int 0, .int 0])), (((kcons qn1 u2) 1), .inl (cJ, 4, .inr (.inl (fun _ => 0)))), (((kcons qn1 u2) 2), .inl (cJ, 10, .inr (.inl (fun _ => 0)))), (((kcons qn1 u2) 3), .inl (cJ, 10, .inr (.inl (fun _ => 0)))), (((kcons qn1 u2) 4), .inl (cZ, 10, .inl (fun _ => 0))), (((kcons qn1 u2) 5), .inl (cJ, 8, .inr (.inl (fun _ => 0)))), (((kcons qn1 u2) 6), .inl (cJ, 8, .inr (.inl (fun _ => 0)))), (qn2, .inr (4, [.long 0, .null]))] H := hP
  have hD : va_D (fun q => s.heap.size ≤ q) [(qn0, .inr (3, [.ref ((kcons qn0 u1) 1), .long 0, .long 86400000000000, .ref ((kcons qn0 u1) 2), .ref ((kcons qn0 u1) 6), .ref ((kcons qn0 u1) 10), .ref ((kcons qn0 u1) 14), .int 0, .int 0, .int 0])), (((kcons qn0 u1) 1), .inl (cJ, 4, .inr (.inl (fun _ => 0)))), (((kcons qn0 u1) 2), .inr (2, [.ref ((kcons qn0 u1) 3), .ref ((kcons qn0 u1) 4), .ref ((kcons qn0 u1) 5), .int 0])), (((kcons qn0 u1) 3), .inl (cJ, 11, .inr (.inl (fun _ => 0)))), (((kcons qn0 u1) 4), .inl (cJ, 11, .inr (.inl (fun _ => 0)))), (((kcons qn0 u1) 5), .inl (cZ, 11, .inl (fun _ => 0))), (((kcons qn0 u1) 6), .inr (2, [.ref ((kcons qn0 u1) 7), .ref ((kcons qn0 u1) 8), .ref ((kcons qn0 u1) 9), .int 0])), (((kcons qn0 u1) 7), .inl (cJ, 11, .inr (.inl (fun _ => 0)))), (((kcons qn0 u1) 8), .inl (cJ, 11, .inr (.inl (fun _ => 0)))), (((kcons qn0 u1) 9), .inl (cZ, 11, .inl (fun _ => 0))), (((kcons qn0 u1) 10), .inr (2, [.ref ((kcons qn0 u1) 11), .ref ((kcons qn0 u1) 12), .ref ((kcons qn0 u1) 13), .int 0])), (((kcons qn0 u1) 11), .inl (cJ, 11, .inr (.inl (fun _ => 0)))), (((kcons qn0 u1) 12), .inl (cJ, 11, .inr (.inl (fun _ => 0)))), (((kcons qn0 u1) 13), .inl (cZ, 11, .inl (fun _ => 0))), (((kcons qn0 u1) 14), .inl (cI, 11, .inl (fun _ => 0))), (qn1, .inr (5, [.ref ((kcons qn1 u2) 1), .long 0, .long 86400000000000, .ref ((kcons qn1 u2) 2), .ref ((kcons qn1 u2) 3), .ref ((kcons qn1 u2) 4), .int 0, .ref ((kcons qn1 u2) 5), .ref ((kcons qn1 u2) 6), .int 0, .int 0, .int 0, .int 0, .int 0])), (((kcons qn1 u2) 1), .inl (cJ, 4, .inr (.inl (fun _ => 0)))), (((kcons qn1 u2) 2), .inl (cJ, 10, .inr (.inl (fun _ => 0)))), (((kcons qn1 u2) 3), .inl (cJ, 10, .inr (.inl (fun _ => 0)))), (((kcons qn1 u2) 4), .inl (cZ, 10, .inl (fun _ => 0))), (((kcons qn1 u2) 5), .inl (cJ, 8, .inr (.inl (fun _ => 0)))), (((kcons qn1 u2) 6), .inl (cJ, 8, .inr (.inl (fun _ => 0)))), (qn2, .inr (4, [.long 0, .null]))] := hD
  refine lv_dup hx hb (kdr dgL_law_0 0 9 rfl rfl) rfl ?_
  obtain ⟨r3, g3⟩ : ∃ r, f_X2_init = some r := ⟨(), rfl⟩
  refine kcall_vu (fun u3 => [(qn2, .inr (4, [.long 0, .null]))]) (va_runIN (host := RL) (As := []) (rest := [.ref qn2]) ⟨hx, hb, hml, hown, hts⟩ (c_X2_init l dC dI cB cI cJ cZ qn2 _   r3 g3) (kcwIN hts (hG.at 6 rfl) kv_X2_init rfl rfl ⟨(Nat.le_of_ble_eq_true rfl), (Nat.le_of_ble_eq_true rfl)⟩) (kpS (A := fun q => s.heap.size ≤ q) (hP.sub [22] rfl) hK (hD.sub [22] (by decide) rfl) hG) rfl rfl hl.1 rfl (lv_room (Nat.le_of_ble_eq_true rfl)) (kdr dgL_law_0 1 0 rfl rfl) ⟨by show _ ≤ (600128 : Nat); omega, by show _ ≤ (7301098 : Nat); omega⟩) hP hD hS hA [22] [0, 1, 2, 3, 4, 5, 6, 7, 8, 9, 10, 11, 12, 13, 14, 15, 16, 17, 18, 19, 20, 21] rfl [(qn0, .inr (3, [.ref ((kcons qn0 u1) 1), .long 0, .long 86400000000000, .ref ((kcons qn0 u1) 2), .ref ((kcons qn0 u1) 6), .ref ((kcons qn0 u1) 10), .ref ((kcons qn0 u1) 14), .int 0, .int 0, .int 0])), (((kcons qn0 u1) 1), .inl (cJ, 4, .inr (.inl (fun _ => 0)))), (((kcons qn0 u1) 2), .inr (2, [.ref ((kcons qn0 u1) 3), .ref ((kcons qn0 u1) 4), .ref ((kcons qn0 u1) 5), .int 0])), (((kcons qn0 u1) 3), .inl (cJ, 11, .inr (.inl (fun _ => 0)))), (((kcons qn0 u1) 4), .inl (cJ, 11, .inr (.inl (fun _ => 0)))), (((kcons qn0 u1) 5), .inl (cZ, 11, .inl (fun _ => 0))), (((kcons qn0 u1) 6), .inr (2, [.ref ((kcons qn0 u1) 7), .ref ((kcons qn0 u1) 8), .ref ((kcons qn0 u1) 9), .int 0])), (((kcons qn0 u1) 7), .inl (cJ, 11, .inr (.inl (fun _ => 0)))), (((kcons qn0 u1) 8), .inl (cJ, 11, .inr (.inl (fun _ => 0)))), (((kcons qn0 u1) 9), .inl (cZ, 11, .inl (fun _ => 0))), (((kcons qn0 u1) 10), .inr (2, [.ref ((kcons qn0 u1) 11), .ref ((kcons qn0 u1) 12), .ref ((kcons qn0 u1) 13), .int 0])), (((kcons qn0 u1) 11), .inl (cJ, 11, .inr (.inl (fun _ => 0)))), (((kcons qn0 u1) 12), .inl (cJ, 11, .inr (.inl (fun _ => 0)))), (((kcons qn0 u1) 13), .inl (cZ, 11, .inl (fun _ => 0))), (((kcons qn0 u1) 14), .inl (cI, 11, .inl (fun _ => 0))), (qn1, .inr (5, [.ref ((kcons qn1 u2) 1), .long 0, .long 86400000000000, .ref ((kcons qn1 u2) 2), .ref ((kcons qn1 u2) 3), .ref ((kcons qn1 u2) 4), .int 0, .ref ((kcons qn1 u2) 5), .ref ((kcons qn1 u2) 6), .int 0, .int 0, .int 0, .int 0, .int 0])), (((kcons qn1 u2) 1), .inl (cJ, 4, .inr (.inl (fun _ => 0)))), (((kcons qn1 u2) 2), .inl (cJ, 10, .inr (.inl (fun _ => 0)))), (((kcons qn1 u2) 3), .inl (cJ, 10, .inr (.inl (fun _ => 0)))), (((kcons qn1 u2) 4), .inl (cZ, 10, .inl (fun _ => 0))), (((kcons qn1 u2) 5), .inl (cJ, 8, .inr (.inl (fun _ => 0)))), (((kcons qn1 u2) 6), .inl (cJ, 8, .inr (.inl (fun _ => 0))))] rfl (by decide) (by decide) (fun u3 H locs hP hD hS => ?_)
  have hP := hP.sub (ws' := [(qn0, .inr (3, [.ref ((kcons qn0 u1) 1), .long 0, .long 86400000000000, .ref ((kcons qn0 u1) 2), .ref ((kcons qn0 u1) 6), .ref ((kcons qn0 u1) 10), .ref ((kcons qn0 u1) 14), .int 0, .int 0, .int 0])), (((kcons qn0 u1) 1), .inl (cJ, 4, .inr (.inl (fun _ => 0)))), (((kcons qn0 u1) 2), .inr (2, [.ref ((kcons qn0 u1) 3), .ref ((kcons qn0 u1) 4), .ref ((kcons qn0 u1) 5), .int 0])), (((kcons qn0 u1) 3), .inl (cJ, 11, .inr (.inl (fun _ => 0)))), (((kcons qn0 u1) 4), .inl (cJ, 11, .inr (.inl (fun _ => 0)))), (((kcons qn0 u1) 5), .inl (cZ, 11, .inl (fun _ => 0))), (((kcons qn0 u1) 6), .inr (2, [.ref ((kcons qn0 u1) 7), .ref ((kcons qn0 u1) 8), .ref ((kcons qn0 u1) 9), .int 0])), (((kcons qn0 u1) 7), .inl (cJ, 11, .inr (.inl (fun _ => 0)))), (((kcons qn0 u1) 8), .inl (cJ, 11, .inr (.inl (fun _ => 0)))), (((kcons qn0 u1) 9), .inl (cZ, 11, .inl (fun _ => 0))), (((kcons qn0 u1) 10), .inr (2, [.ref ((kcons qn0 u1) 11), .ref ((kcons qn0 u1) 12), .ref ((kcons qn0 u1) 13), .int 0])), (((kcons qn0 u1) 11), .inl (cJ, 11, .inr (.inl (fun _ => 0)))), (((kcons qn0 u1) 12), .inl (cJ, 11, .inr (.inl (fun _ => 0)))), (((kcons qn0 u1) 13), .inl (cZ, 11, .inl (fun _ => 0))), (((kcons qn0 u1) 14), .inl (cI, 11, .inl (fun _ => 0))), (qn1, .inr (5, [.ref ((kcons qn1 u2) 1), .long 0, .long 86400000000000, .ref ((kcons qn1 u2) 2), .ref ((kcons qn1 u2) 3), .ref ((kcons qn1 u2) 4), .int 0, .ref ((kcons qn1 u2) 5), .ref ((kcons qn1 u2) 6), .int 0, .int 0, .int 0, .int 0, .int 0])), (((kcons qn1 u2) 1), .inl (cJ, 4, .inr (.inl (fun _ => 0)))), (((kcons qn1 u2) 2), .inl (cJ, 10, .inr (.inl (fun _ => 0)))), (((kcons qn1 u2) 3), .inl (cJ, 10, .inr (.inl (fun _ => 0)))), (((kcons qn1 u2) 4), .inl (cZ, 10, .inl (fun _ => 0))), (((kcons qn1 u2) 5), .inl (cJ, 8, .inr (.inl (fun _ => 0)))), (((kcons qn1 u2) 6), .inl (cJ, 8, .inr (.inl (fun _ => 0)))), (qn2, .inr (4, [.long 0, .null]))]) [0, 1, 2, 3, 4, 5, 6, 7, 8, 9, 10, 11, 12, 13, 14, 15, 16, 17, 18, 19, 20, 21, 22] rfl
  have hD := hD.sub (ws' := [(qn0, .inr (3, [.ref ((kcons qn0 u1) 1), .long 0, .long 86400000000000, .ref ((kcons qn0 u1) 2), .ref ((kcons qn0 u1) 6), .ref ((kcons qn0 u1) 10), .ref ((kcons qn0 u1) 14), .int 0, .int 0, .int 0])), (((kcons qn0 u1) 1), .inl (cJ, 4, .inr (.inl (fun _ => 0)))), (((kcons qn0 u1) 2), .inr (2, [.ref ((kcons qn0 u1) 3), .ref ((kcons qn0 u1) 4), .ref ((kcons qn0 u1) 5), .int 0])), (((kcons qn0 u1) 3), .inl (cJ, 11, .inr (.inl (fun _ => 0)))), (((kcons qn0 u1) 4), .inl (cJ, 11, .inr (.inl (fun _ => 0)))), (((kcons qn0 u1) 5), .inl (cZ, 11, .inl (fun _ => 0))), (((kcons qn0 u1) 6), .inr (2, [.ref ((kcons qn0 u1) 7), .ref ((kcons qn0 u1) 8), .ref ((kcons qn0 u1) 9), .int 0])), (((kcons qn0 u1) 7), .inl (cJ, 11, .inr (.inl (fun _ => 0)))), (((kcons qn0 u1) 8), .inl (cJ, 11, .inr (.inl (fun _ => 0)))), (((kcons qn0 u1) 9), .inl (cZ, 11, .inl (fun _ => 0))), (((kcons qn0 u1) 10), .inr (2, [.ref ((kcons qn0 u1) 11), .ref ((kcons qn0 u1) 12), .ref ((kcons qn0 u1) 13), .int 0])), (((kcons qn0 u1) 11), .inl (cJ, 11, .inr (.inl (fun _ => 0)))), (((kcons qn0 u1) 12), .inl (cJ, 11, .inr (.inl (fun _ => 0)))), (((kcons qn0 u1) 13), .inl (cZ, 11, .inl (fun _ => 0))), (((kcons qn0 u1) 14), .inl (cI, 11, .inl (fun _ => 0))), (qn1, .inr (5, [.ref ((kcons qn1 u2) 1), .long 0, .long 86400000000000, .ref ((kcons qn1 u2) 2), .ref ((kcons qn1 u2) 3), .ref ((kcons qn1 u2) 4), .int 0, .ref ((kcons qn1 u2) 5), .ref ((kcons qn1 u2) 6), .int 0, .int 0, .int 0, .int 0, .int 0])), (((kcons qn1 u2) 1), .inl (cJ, 4, .inr (.inl (fun _ => 0)))), (((kcons qn1 u2) 2), .inl (cJ, 10, .inr (.inl (fun _ => 0)))), (((kcons qn1 u2) 3), .inl (cJ, 10, .inr (.inl (fun _ => 0)))), (((kcons qn1 u2) 4), .inl (cZ, 10, .inl (fun _ => 0))), (((kcons qn1 u2) 5), .inl (cJ, 8, .inr (.inl (fun _ => 0)))), (((kcons qn1 u2) 6), .inl (cJ, 8, .inr (.inl (fun _ => 0)))), (qn2, .inr (4, [.long 0, .null]))]) [0, 1, 2, 3, 4, 5, 6, 7, 8, 9, 10, 11, 12, 13, 14, 15, 16, 17, 18, 19, 20, 21, 22] (by decide) rfl
  refine lv_astore_n (lv' := (kvA 3 qn2 (kvA 2 qn1 (kvA 1 qn0 (kvA 0 b9 kvE))))) hx hb (kdr dgL_law_0 1 1 rfl rfl) rfl hl (by decide) rfl (fun ls hl => ?_)
  refine lv_iconst (v := 0) hx hb (kdr dgL_law_0 1 2 rfl rfl) (by decide) ?_
  refine lv_istore (lv' := (kvI 4 0 (kvA 3 qn2 (kvA 2 qn1 (kvA 1 qn0 (kvA 0 b9 kvE)))))) hx hb (kdr dgL_law_0 1 3 rfl rfl) hl (by decide) rfl (fun ls hl => ?_)
  exact kk ((kcons qn0 u1)) ((kcons qn1 u2)) qn2 _ _ hP hD hS ls (lv_sub hl [4, 3, 2, 1, 0] rfl)
theorem whole_start0 {p : Program} {e : Env} {s : State} {m : MethodId} {below : List Frame} {meth : Method} {c : Code} (l : Launch) (hflags : l.flags = flags0) {b L : Nat} {xs : Nat → Int32} (hL : L ≤ 320) (C0 : lw_At p s m meth c b L xs) (Inv : kInvT) (h0 : Inv (fun _ => 0) 0 86400000000000 (fun _ => 0) (fun _ => 0) (fun _ => 0) 0 (fun _ => 0) (fun _ => 0) (fun _ => 0) 0 (fun _ => 0) (fun _ => 0) (fun _ => 0) 0 (fun _ => 0) 0 0 0 (fun _ => 0) 0 86400000000000 (fun _ => 0) (fun _ => 0) (fun _ => 0) 0 (fun _ => 0) (fun _ => 0) 0 0 0 0 0 0) (hC : ∀ (L : Nat) (xs : Nat → Int32) (k j : Nat) (ce : Nat → Int64) (fr : Int64) (un : Int64) (sb : Nat → Int64) (se : Nat → Int64) (so : Nat → Int32) (sc : Int32) (wb : Nat → Int64) (we : Nat → Int64) (wo : Nat → Int32) (wc : Int32) (fb : Nat → Int64) (fe : Nat → Int64) (fo : Nat → Int32) (fc : Int32) (rm : Nat → Int32) (ac : Int32) (rf : Int32) (kn : Int32) (mce : Nat → Int64) (mfr : Int64) (mun : Int64) (mbe : Nat → Int64) (men : Nat → Int64) (mov : Nat → Int32) (msp : Int32) (mwb : Nat → Int64) (mwe : Nat → Int64) (mwi : Int32) (mac : Int32) (mre : Int32) (mkn : Int32) (mth : Int32) (on : Int64), 5 * j + 5 ≤ L → L ≤ 320 → Inv ce fr un sb se so sc wb we wo wc fb fe fo fc rm ac rf kn mce mfr mun mbe men mov msp mwb mwe mwi mac mre mkn mth on → flawAt k L xs (KInv Inv (nI (5 * j))) ce fr un sb se so sc wb we wo wc fb fe fo fc rm ac rf kn mce mfr mun mbe men mov msp mwb mwe mwi mac mre mkn mth on (nI (5 * j)) = some 1) : W p l e room_1 s m #[Value.ref b] below meth c s.heap [] 0 0 (lw_Z below #[Value.ref b] s) (entryFrame m ([Value.ref b] : List Value).toArray 7) := by
  obtain ⟨dC, dI, cB, cI, cJ, cZ, hK, hG, hZ⟩ := kstart C0
  obtain ⟨hx, hb, hr, hml, hown, hts, hX, hbl, hlocks, hgv⟩ := id C0
  have hl9 : l.stackTraces = false := by unfold Launch.stackTraces; rw [hflags]; decide +kernel
  have hk := kstart_w hts
  have CL : kLw p s m c b L xs (fun q => s.heap.size ≤ q) := by
    refine ⟨hx, hb, hml, hown, fun w hw => ?_, hX, hbl, fun q h => h, Nat.not_le.mpr hbl, hG, hZ⟩
    rcases List.mem_cons.mp hw with e | hw
    · rw [e]; exact hts _ (List.mem_of_getElem? (i := 56) (by decide +kernel))
    · exact hk w hw
  exact law_entry CL hK (fun a b9 o H locs hP hD hS ls hl => law_loop hl9 hL CL hr hlocks hK Inv (fun k j ce fr un sb se so sc wb we wo wc fb fe fo fc rm ac rf kn mce mfr mun mbe men mov msp mwb mwe mwi mac mre mkn mth on h5 hI => hC L xs k j ce fr un sb se so sc wb we wo wc fb fe fo fc rm ac rf kn mce mfr mun mbe men mov msp mwb mwe mwi mac mre mkn mth on h5 hL hI) a o 65 0 (fun _ => 0) 0 86400000000000 (fun _ => 0) (fun _ => 0) (fun _ => 0) 0 (fun _ => 0) (fun _ => 0) (fun _ => 0) 0 (fun _ => 0) (fun _ => 0) (fun _ => 0) 0 (fun _ => 0) 0 0 0 (fun _ => 0) 0 86400000000000 (fun _ => 0) (fun _ => 0) (fun _ => 0) 0 (fun _ => 0) (fun _ => 0) 0 0 0 0 0 0 .null 0 b9 H locs _ _ rfl rfl (by omega) (by omega) hP hD hS ls hl h0)
end
