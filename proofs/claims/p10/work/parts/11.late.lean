noncomputable abbrev wsX1_isSoundInSpans : List Cond := kWs yX1_isSoundInSpans cX1_isSoundInSpans 3 (some .boolean)
noncomputable def f_X1_isSoundInSpans_40 (K2 : (Int64) → (Int64) → (Nat → Int64) → (Nat → Int64) → (Nat → Int32) → (Int32) → (Int32) → Option (Int32)) : Nat → (Int64) → (Int64) → (Nat → Int64) → (Nat → Int64) → (Nat → Int32) → (Int32) → (Int32) → (Int32) → Option (Int32)
  | 0, _, _, _, _, _, _, _, _ => none
  | n + 1, fr, un, sb, se, so, sc, x1, x2 =>
    if x1 ≤ x2 then
      K2 fr un sb se so sc (x1 + 1)
    else
      (f_X0_doMeet sb se sc x1 x2).bind fun r2 =>
      if r2 = 0 then
        f_X1_isSoundInSpans_40 K2 n fr un sb se so sc x1 (x2 + 1)
      else
        (f_X0_isOver so sc x1).bind fun r4 =>
        if r4 = 0 then
          (f_X0_isOver so sc x2).bind fun r6 =>
          if r6 = 0 then
            some 0
          else
            f_X1_isSoundInSpans_40 K2 n fr un sb se so sc x1 (x2 + 1)
        else
          f_X1_isSoundInSpans_40 K2 n fr un sb se so sc x1 (x2 + 1)
theorem f_X1_isSoundInSpans_40_0 {K2 : (Int64) → (Int64) → (Nat → Int64) → (Nat → Int64) → (Nat → Int32) → (Int32) → (Int32) → Option (Int32)} {fr : Int64} {un : Int64} {sb : Nat → Int64} {se : Nat → Int64} {so : Nat → Int32} {sc : Int32} {x1 : Int32} {x2 : Int32} : f_X1_isSoundInSpans_40 K2 0 fr un sb se so sc x1 x2 = none := rfl
theorem f_X1_isSoundInSpans_40_s {K2 : (Int64) → (Int64) → (Nat → Int64) → (Nat → Int64) → (Nat → Int32) → (Int32) → (Int32) → Option (Int32)} {n : Nat} {fr : Int64} {un : Int64} {sb : Nat → Int64} {se : Nat → Int64} {so : Nat → Int32} {sc : Int32} {x1 : Int32} {x2 : Int32} : f_X1_isSoundInSpans_40 K2 (n + 1) fr un sb se so sc x1 x2 =
  if x1 ≤ x2 then
    K2 fr un sb se so sc (x1 + 1)
  else
    (f_X0_doMeet sb se sc x1 x2).bind fun r2 =>
    if r2 = 0 then
      f_X1_isSoundInSpans_40 K2 n fr un sb se so sc x1 (x2 + 1)
    else
      (f_X0_isOver so sc x1).bind fun r4 =>
      if r4 = 0 then
        (f_X0_isOver so sc x2).bind fun r6 =>
        if r6 = 0 then
          some 0
        else
          f_X1_isSoundInSpans_40 K2 n fr un sb se so sc x1 (x2 + 1)
      else
        f_X1_isSoundInSpans_40 K2 n fr un sb se so sc x1 (x2 + 1) := rfl
noncomputable def f_X1_isSoundInSpans_2 : Nat → (Int64) → (Int64) → (Nat → Int64) → (Nat → Int64) → (Nat → Int32) → (Int32) → (Int32) → Option (Int32)
  | 0, _, _, _, _, _, _, _ => none
  | n + 1, fr, un, sb, se, so, sc, x1 =>
    (f_X0_count sc).bind fun r1 =>
    if r1 ≤ x1 then
      some 1
    else
      (f_X0_begin sb sc x1).bind fun r3 =>
      (f_X0_end se sc x1).bind fun r4 =>
      (f_X1_isInCalendar fr un r3 r4).bind fun r5 =>
      if r5 = 0 then
        some 0
      else
        f_X1_isSoundInSpans_40 (f_X1_isSoundInSpans_2 n) 24 fr un sb se so sc x1 0
theorem f_X1_isSoundInSpans_2_0 {fr : Int64} {un : Int64} {sb : Nat → Int64} {se : Nat → Int64} {so : Nat → Int32} {sc : Int32} {x1 : Int32} : f_X1_isSoundInSpans_2 0 fr un sb se so sc x1 = none := rfl
theorem f_X1_isSoundInSpans_2_s {n : Nat} {fr : Int64} {un : Int64} {sb : Nat → Int64} {se : Nat → Int64} {so : Nat → Int32} {sc : Int32} {x1 : Int32} : f_X1_isSoundInSpans_2 (n + 1) fr un sb se so sc x1 =
  (f_X0_count sc).bind fun r1 =>
  if r1 ≤ x1 then
    some 1
  else
    (f_X0_begin sb sc x1).bind fun r3 =>
    (f_X0_end se sc x1).bind fun r4 =>
    (f_X1_isInCalendar fr un r3 r4).bind fun r5 =>
    if r5 = 0 then
      some 0
    else
      f_X1_isSoundInSpans_40 (f_X1_isSoundInSpans_2 n) 24 fr un sb se so sc x1 0 := rfl
noncomputable def f_X1_isSoundInSpans (fr : Int64) (un : Int64) (sb : Nat → Int64) (se : Nat → Int64) (so : Nat → Int32) (sc : Int32) : Option (Int32) :=
  f_X1_isSoundInSpans_2 24 fr un sb se so sc 0
theorem f_X1_isSoundInSpans_e {fr : Int64} {un : Int64} {sb : Nat → Int64} {se : Nat → Int64} {so : Nat → Int32} {sc : Int32} : f_X1_isSoundInSpans fr un sb se so sc = 
  f_X1_isSoundInSpans_2 24 fr un sb se so sc 0 := rfl
set_option maxHeartbeats 4000000 in
set_option maxRecDepth 100000 in
theorem c_X1_isSoundInSpans (l : Launch) (dC : Nat → ClassId) (dI : Nat → Nat → Nat) (cB cI cJ cZ : ClassId) (a : Nat → Nat) (sz : Nat) (ce : Nat → Int64) (fr : Int64) (un : Int64) (sb : Nat → Int64) (se : Nat → Int64) (so : Nat → Int32) (sc : Int32) (wb : Nat → Int64) (we : Nat → Int64) (wo : Nat → Int32) (wc : Int32) (fb : Nat → Int64) (fe : Nat → Int64) (fo : Nat → Int32) (fc : Int32) (rm : Nat → Int32) (ac : Int32) (rf : Int32) (kn : Int32) (res : Int32) (hf : f_X1_isSoundInSpans fr un sb se so sc = some res) : kMi l yX1_isSoundInSpans wsX1_isSoundInSpans (kRm 2 0 0 42) dC dI cB cI cJ cZ [.ref (a 0)] sz (wSB cI cJ cZ a ce fr un sb se so sc wb we wo wc fb fe fo fc rm ac rf kn) .boolean (res) (wSB cI cJ cZ a ce fr un sb se so sc wb we wo wc fb fe fo fc rm ac rf kn) 0 0 := by
  refine kmet_i (y := yX1_isSoundInSpans) (cc := cX1_isSoundInSpans) (maxL := 3) (ret := (some .boolean)) RX1 (kvA 0 (a 0) kvE) kpl_X1 rfl rfl (Nat.le_of_ble_eq_true rfl) rfl (fun p e s m below meth c A ls hx hb hr hml hts hown hlocks hP hK hG hD hA hS hl => ?_)
  have hw0 := hts (.fieldLink RX1 25 "Spanbooker" "spanRow" "LSpanbooker$Row;") (List.mem_cons_of_mem _ kw_110)
  have hiX1 : ∀ w ∈ u_ws RX1 TX1 10, w ∈ wsX1_isSoundInSpans := fun w h => List.mem_cons_of_mem _ (ku_X1 w h)
  have J40 : ∀ (K2 : (Int64) → (Int64) → (Nat → Int64) → (Nat → Int64) → (Nat → Int32) → (Int32) → (Int32) → Option (Int32)), (∀ (ce : Nat → Int64) (fr : Int64) (un : Int64) (sb : Nat → Int64) (se : Nat → Int64) (so : Nat → Int32) (sc : Int32) (wb : Nat → Int64) (we : Nat → Int64) (wo : Nat → Int32) (wc : Int32) (fb : Nat → Int64) (fe : Nat → Int64) (fo : Nat → Int32) (fc : Int32) (rm : Nat → Int32) (ac : Int32) (rf : Int32) (kn : Int32) (x1 : Int32) (H : Heap) (locs : List Loc), va_P (dC, dI) vwCl (wSB cI cJ cZ a ce fr un sb se so sc wb we wo wc fb fe fo fc rm ac rf kn) H → va_D A (wSB cI cJ cZ a ce fr un sb se so sc wb we wo wc fb fe fo fc rm ac rf kn) → va_S A s.heap H locs → ∀ (ls : Array Slot), lv_has ls 3 (kvA 0 (a 0) (kvI 1 x1 kvE)) → K2 fr un sb se so sc x1 = some res → W p l e (headSpec wsX1_isSoundInSpans (kRm 2 0 0 42)).room s m ([.ref (a 0)] : List Value).toArray below meth c H locs 0 0 (MQ below (kI (dC, dI) .boolean (res) (wSB cI cJ cZ a ce fr un sb se so sc wb we wo wc fb fe fo fc rm ac rf kn) A) ([.ref (a 0)] : List Value).toArray s 0 0 A) (F0 m 2 ls [])) → ∀ (n : Nat), ∀ (ce : Nat → Int64) (fr : Int64) (un : Int64) (sb : Nat → Int64) (se : Nat → Int64) (so : Nat → Int32) (sc : Int32) (wb : Nat → Int64) (we : Nat → Int64) (wo : Nat → Int32) (wc : Int32) (fb : Nat → Int64) (fe : Nat → Int64) (fo : Nat → Int32) (fc : Int32) (rm : Nat → Int32) (ac : Int32) (rf : Int32) (kn : Int32) (x1 : Int32) (x2 : Int32) (H : Heap) (locs : List Loc), va_P (dC, dI) vwCl (wSB cI cJ cZ a ce fr un sb se so sc wb we wo wc fb fe fo fc rm ac rf kn) H → va_D A (wSB cI cJ cZ a ce fr un sb se so sc wb we wo wc fb fe fo fc rm ac rf kn) → va_S A s.heap H locs → ∀ (ls : Array Slot), lv_has ls 3 (kvA 0 (a 0) (kvI 1 x1 (kvI 2 x2 kvE))) → f_X1_isSoundInSpans_40 K2 n fr un sb se so sc x1 x2 = some res → W p l e (headSpec wsX1_isSoundInSpans (kRm 2 0 0 42)).room s m ([.ref (a 0)] : List Value).toArray below meth c H locs 0 0 (MQ below (kI (dC, dI) .boolean (res) (wSB cI cJ cZ a ce fr un sb se so sc wb we wo wc fb fe fo fc rm ac rf kn) A) ([.ref (a 0)] : List Value).toArray s 0 0 A) (F0 m 40 ls []) := by
    intro K2 hK2 n
    induction n with
    | zero =>
      intro ce fr un sb se so sc wb we wo wc fb fe fo fc rm ac rf kn x1 x2 H locs hP hD hS ls hl h
      have h := f_X1_isSoundInSpans_40_0.symm.trans h
      cases h
    | succ n ih =>
      intro ce fr un sb se so sc wb we wo wc fb fe fo fc rm ac rf kn x1 x2 H locs hP hD hS ls hl h
      have h := f_X1_isSoundInSpans_40_s.symm.trans h
      refine lv_iload_n hx hb (kdr dgX1_isSoundInSpans_0 2 2 rfl rfl) rfl (lv_at hl 2 rfl) ?_
      refine lv_iload_n hx hb (kdr dgX1_isSoundInSpans_0 2 3 rfl rfl) rfl (lv_at hl 1 rfl) ?_
      refine lv_icmp_ge (tgt := 87) hx hb (kdr dgX1_isSoundInSpans_0 2 4 rfl rfl) (by decide) (fun c1 => ?_) (fun c1 => ?_)
      · have h := g_t c1 h
        refine lv_iinc (v := x1 + 1) (lv' := (kvI 1 (x1 + 1) (kvA 0 (a 0) (kvI 2 x2 kvE)))) hx hb (kdr dgX1_isSoundInSpans_0 4 5 rfl rfl) hl (k := 1) rfl rfl (by decide) rfl (fun ls hl => ?_)
        refine lv_goto (tgt := 2) hx hb (kdr dgX1_isSoundInSpans_0 4 6 rfl rfl) (by decide) ?_
        exact hK2 ce fr un sb se so sc wb we wo wc fb fe fo fc rm ac rf kn (x1 + 1) _ _ hP hD hS ls (lv_sub hl [1, 0] rfl) h
      · have h := g_f c1 h
        refine lv_aload_n hx hb (kdr dgX1_isSoundInSpans_0 2 5 rfl rfl) rfl (lv_at hl 0 rfl) ?_
        refine va_get (D := (dC, dI)) (ci := 3) (v := .ref (a 2)) (C := RX1) (T := TX1) (N := 10) hx hb hts hiX1 hown hK hP 0 rfl rfl 3 (by decide) hw0 (fun _ h9 => h9) rfl (kdr dgX1_isSoundInSpans_0 2 6 rfl rfl) ?_
        refine lv_iload_n hx hb (kdr dgX1_isSoundInSpans_0 2 7 rfl rfl) rfl (lv_at hl 1 rfl) ?_
        refine lv_iload_n hx hb (kdr dgX1_isSoundInSpans_0 2 8 rfl rfl) rfl (lv_at hl 2 rfl) ?_
        obtain ⟨r2, g2, h⟩ := g_b h
        refine kq_i (wSB cI cJ cZ a ce fr un sb se so sc wb we wo wc fb fe fo fc rm ac rf kn) (fun qP qD qF => va_runV (As := [.int x1, .int x2]) (rest := []) ⟨hx, hb, hml, hown, hts⟩ (c_X0_doMeet l dC dI cB cI cJ cZ (a 2) (a 3) (a 4) (a 5) _ sb se so sc x1 x2 r2 g2) (kcwV hts kw_163 kv_X0_doMeet rfl rfl ⟨(Nat.le_of_ble_eq_true rfl), (Nat.le_of_ble_eq_true rfl)⟩) (kpV (A := A) qP hK qD hG (krecv_2 (q0 := 2) hK hP rfl)) rfl rfl hl.1 rfl (lv_room (Nat.le_of_ble_eq_true rfl)) (kdr dgX1_isSoundInSpans_0 2 9 rfl rfl) ⟨(Nat.le_of_ble_eq_true rfl), (Nat.le_of_ble_eq_true rfl)⟩) hP hD hS hA kFr_SBs (fun H locs hP hD hS br2 => ?_)
        refine lv_if_eq (tgt := 81) hx hb (kdr dgX1_isSoundInSpans_0 3 0 rfl rfl) (by decide) (fun c3 => ?_) (fun c3 => ?_)
        · have h := g_t c3 h
          refine lv_iinc (v := x2 + 1) (lv' := (kvI 2 (x2 + 1) (kvA 0 (a 0) (kvI 1 x1 kvE)))) hx hb (kdr dgX1_isSoundInSpans_0 4 3 rfl rfl) hl (k := 2) rfl rfl (by decide) rfl (fun ls hl => ?_)
          refine lv_goto (tgt := 40) hx hb (kdr dgX1_isSoundInSpans_0 4 4 rfl rfl) (by decide) ?_
          exact ih ce fr un sb se so sc wb we wo wc fb fe fo fc rm ac rf kn x1 (x2 + 1) _ _ hP hD hS ls (lv_sub hl [1, 2, 0] rfl) h
        · have h := g_f c3 h
          refine lv_aload_n hx hb (kdr dgX1_isSoundInSpans_0 3 1 rfl rfl) rfl (lv_at hl 0 rfl) ?_
          refine va_get (D := (dC, dI)) (ci := 3) (v := .ref (a 2)) (C := RX1) (T := TX1) (N := 10) hx hb hts hiX1 hown hK hP 0 rfl rfl 3 (by decide) hw0 (fun _ h9 => h9) rfl (kdr dgX1_isSoundInSpans_0 3 2 rfl rfl) ?_
          refine lv_iload_n hx hb (kdr dgX1_isSoundInSpans_0 3 3 rfl rfl) rfl (lv_at hl 1 rfl) ?_
          obtain ⟨r4, g4, h⟩ := g_b h
          refine kq_i (wSB cI cJ cZ a ce fr un sb se so sc wb we wo wc fb fe fo fc rm ac rf kn) (fun qP qD qF => va_runV (As := [.int x1]) (rest := []) ⟨hx, hb, hml, hown, hts⟩ (c_X0_isOver l dC dI cB cI cJ cZ (a 2) (a 3) (a 4) (a 5) _ sb se so sc x1 r4 g4) (kcwV hts kw_280 kv_X0_isOver rfl rfl ⟨(Nat.le_of_ble_eq_true rfl), (Nat.le_of_ble_eq_true rfl)⟩) (kpV (A := A) qP hK qD hG (krecv_2 (q0 := 2) hK hP rfl)) rfl rfl hl.1 rfl (lv_room (Nat.le_of_ble_eq_true rfl)) (kdr dgX1_isSoundInSpans_0 3 4 rfl rfl) ⟨(Nat.le_of_ble_eq_true rfl), (Nat.le_of_ble_eq_true rfl)⟩) hP hD hS hA kFr_SBs (fun H locs hP hD hS br4 => ?_)
          refine lv_if_ne (tgt := 81) hx hb (kdr dgX1_isSoundInSpans_0 3 5 rfl rfl) (by decide) (fun c5 => ?_) (fun c5 => ?_)
          · have h := g_f c5 h
            refine lv_iinc (v := x2 + 1) (lv' := (kvI 2 (x2 + 1) (kvA 0 (a 0) (kvI 1 x1 kvE)))) hx hb (kdr dgX1_isSoundInSpans_0 4 3 rfl rfl) hl (k := 2) rfl rfl (by decide) rfl (fun ls hl => ?_)
            refine lv_goto (tgt := 40) hx hb (kdr dgX1_isSoundInSpans_0 4 4 rfl rfl) (by decide) ?_
            exact ih ce fr un sb se so sc wb we wo wc fb fe fo fc rm ac rf kn x1 (x2 + 1) _ _ hP hD hS ls (lv_sub hl [1, 2, 0] rfl) h
          · have h := g_t c5 h
            refine lv_aload_n hx hb (kdr dgX1_isSoundInSpans_0 3 6 rfl rfl) rfl (lv_at hl 0 rfl) ?_
            refine va_get (D := (dC, dI)) (ci := 3) (v := .ref (a 2)) (C := RX1) (T := TX1) (N := 10) hx hb hts hiX1 hown hK hP 0 rfl rfl 3 (by decide) hw0 (fun _ h9 => h9) rfl (kdr dgX1_isSoundInSpans_0 3 7 rfl rfl) ?_
            refine lv_iload_n hx hb (kdr dgX1_isSoundInSpans_0 3 8 rfl rfl) rfl (lv_at hl 2 rfl) ?_
            obtain ⟨r6, g6, h⟩ := g_b h
            refine kq_i (wSB cI cJ cZ a ce fr un sb se so sc wb we wo wc fb fe fo fc rm ac rf kn) (fun qP qD qF => va_runV (As := [.int x2]) (rest := []) ⟨hx, hb, hml, hown, hts⟩ (c_X0_isOver l dC dI cB cI cJ cZ (a 2) (a 3) (a 4) (a 5) _ sb se so sc x2 r6 g6) (kcwV hts kw_280 kv_X0_isOver rfl rfl ⟨(Nat.le_of_ble_eq_true rfl), (Nat.le_of_ble_eq_true rfl)⟩) (kpV (A := A) qP hK qD hG (krecv_2 (q0 := 2) hK hP rfl)) rfl rfl hl.1 rfl (lv_room (Nat.le_of_ble_eq_true rfl)) (kdr dgX1_isSoundInSpans_0 3 9 rfl rfl) ⟨(Nat.le_of_ble_eq_true rfl), (Nat.le_of_ble_eq_true rfl)⟩) hP hD hS hA kFr_SBs (fun H locs hP hD hS br6 => ?_)
            refine lv_if_ne (tgt := 81) hx hb (kdr dgX1_isSoundInSpans_0 4 0 rfl rfl) (by decide) (fun c7 => ?_) (fun c7 => ?_)
            · have h := g_f c7 h
              refine lv_iinc (v := x2 + 1) (lv' := (kvI 2 (x2 + 1) (kvA 0 (a 0) (kvI 1 x1 kvE)))) hx hb (kdr dgX1_isSoundInSpans_0 4 3 rfl rfl) hl (k := 2) rfl rfl (by decide) rfl (fun ls hl => ?_)
              refine lv_goto (tgt := 40) hx hb (kdr dgX1_isSoundInSpans_0 4 4 rfl rfl) (by decide) ?_
              exact ih ce fr un sb se so sc wb we wo wc fb fe fo fc rm ac rf kn x1 (x2 + 1) _ _ hP hD hS ls (lv_sub hl [1, 2, 0] rfl) h
            · have h := g_t c7 h
              refine lv_iconst (v := 0) hx hb (kdr dgX1_isSoundInSpans_0 4 1 rfl rfl) (by decide) ?_
              have h := Option.some.inj h
              subst h
              exact kret_i (v := 0) hx hb hr rfl hlocks hS hP (kdr dgX1_isSoundInSpans_0 4 2 rfl rfl)
  have J2 : ∀ (n : Nat), ∀ (ce : Nat → Int64) (fr : Int64) (un : Int64) (sb : Nat → Int64) (se : Nat → Int64) (so : Nat → Int32) (sc : Int32) (wb : Nat → Int64) (we : Nat → Int64) (wo : Nat → Int32) (wc : Int32) (fb : Nat → Int64) (fe : Nat → Int64) (fo : Nat → Int32) (fc : Int32) (rm : Nat → Int32) (ac : Int32) (rf : Int32) (kn : Int32) (x1 : Int32) (H : Heap) (locs : List Loc), va_P (dC, dI) vwCl (wSB cI cJ cZ a ce fr un sb se so sc wb we wo wc fb fe fo fc rm ac rf kn) H → va_D A (wSB cI cJ cZ a ce fr un sb se so sc wb we wo wc fb fe fo fc rm ac rf kn) → va_S A s.heap H locs → ∀ (ls : Array Slot), lv_has ls 3 (kvA 0 (a 0) (kvI 1 x1 kvE)) → f_X1_isSoundInSpans_2 n fr un sb se so sc x1 = some res → W p l e (headSpec wsX1_isSoundInSpans (kRm 2 0 0 42)).room s m ([.ref (a 0)] : List Value).toArray below meth c H locs 0 0 (MQ below (kI (dC, dI) .boolean (res) (wSB cI cJ cZ a ce fr un sb se so sc wb we wo wc fb fe fo fc rm ac rf kn) A) ([.ref (a 0)] : List Value).toArray s 0 0 A) (F0 m 2 ls []) := by
    intro n
    induction n with
    | zero =>
      intro ce fr un sb se so sc wb we wo wc fb fe fo fc rm ac rf kn x1 H locs hP hD hS ls hl h
      have h := f_X1_isSoundInSpans_2_0.symm.trans h
      cases h
    | succ n ih =>
      intro ce fr un sb se so sc wb we wo wc fb fe fo fc rm ac rf kn x1 H locs hP hD hS ls hl h
      have h := f_X1_isSoundInSpans_2_s.symm.trans h
      refine lv_iload_n hx hb (kdr dgX1_isSoundInSpans_0 0 2 rfl rfl) rfl (lv_at hl 1 rfl) ?_
      refine lv_aload_n hx hb (kdr dgX1_isSoundInSpans_0 0 3 rfl rfl) rfl (lv_at hl 0 rfl) ?_
      refine va_get (D := (dC, dI)) (ci := 3) (v := .ref (a 2)) (C := RX1) (T := TX1) (N := 10) hx hb hts hiX1 hown hK hP 0 rfl rfl 3 (by decide) hw0 (fun _ h9 => h9) rfl (kdr dgX1_isSoundInSpans_0 0 4 rfl rfl) ?_
      obtain ⟨r1, g1, h⟩ := g_b h
      refine kq_i (wSB cI cJ cZ a ce fr un sb se so sc wb we wo wc fb fe fo fc rm ac rf kn) (fun qP qD qF => va_runV (As := []) (rest := [.int x1]) ⟨hx, hb, hml, hown, hts⟩ (c_X0_count l dC dI cB cI cJ cZ (a 2) (a 3) (a 4) (a 5) _ sb se so sc  r1 g1) (kcwV hts kw_155 kv_X0_count rfl rfl ⟨(Nat.le_of_ble_eq_true rfl), (Nat.le_of_ble_eq_true rfl)⟩) (kpV (A := A) qP hK qD hG (krecv_2 (q0 := 2) hK hP rfl)) rfl rfl hl.1 rfl (lv_room (Nat.le_of_ble_eq_true rfl)) (kdr dgX1_isSoundInSpans_0 0 5 rfl rfl) ⟨(Nat.le_of_ble_eq_true rfl), (Nat.le_of_ble_eq_true rfl)⟩) hP hD hS hA kFr_SBs (fun H locs hP hD hS br1 => ?_)
      refine lv_icmp_ge (tgt := 93) hx hb (kdr dgX1_isSoundInSpans_0 0 6 rfl rfl) (by decide) (fun c2 => ?_) (fun c2 => ?_)
      · have h := g_t c2 h
        refine lv_iconst (v := 1) hx hb (kdr dgX1_isSoundInSpans_0 4 7 rfl rfl) (by decide) ?_
        have h := Option.some.inj h
        subst h
        exact kret_i (v := 1) hx hb hr rfl hlocks hS hP (kdr dgX1_isSoundInSpans_0 4 8 rfl rfl)
      · have h := g_f c2 h
        refine lv_aload_n hx hb (kdr dgX1_isSoundInSpans_0 0 7 rfl rfl) rfl (lv_at hl 0 rfl) ?_
        refine lv_aload_n hx hb (kdr dgX1_isSoundInSpans_0 0 8 rfl rfl) rfl (lv_at hl 0 rfl) ?_
        refine va_get (D := (dC, dI)) (ci := 3) (v := .ref (a 2)) (C := RX1) (T := TX1) (N := 10) hx hb hts hiX1 hown hK hP 0 rfl rfl 3 (by decide) hw0 (fun _ h9 => h9) rfl (kdr dgX1_isSoundInSpans_0 0 9 rfl rfl) ?_
        refine lv_iload_n hx hb (kdr dgX1_isSoundInSpans_0 1 0 rfl rfl) rfl (lv_at hl 1 rfl) ?_
        obtain ⟨r3, g3, h⟩ := g_b h
        refine kq_l (wSB cI cJ cZ a ce fr un sb se so sc wb we wo wc fb fe fo fc rm ac rf kn) (fun qP qD qF => va_runV (As := [.int x1]) (rest := [.ref (a 0)]) ⟨hx, hb, hml, hown, hts⟩ (c_X0_begin l dC dI cB cI cJ cZ (a 2) (a 3) (a 4) (a 5) _ sb se so sc x1 r3 g3) (kcwV hts kw_251 kv_X0_begin rfl rfl ⟨(Nat.le_of_ble_eq_true rfl), (Nat.le_of_ble_eq_true rfl)⟩) (kpV (A := A) qP hK qD hG (krecv_2 (q0 := 2) hK hP rfl)) rfl rfl hl.1 rfl (lv_room (Nat.le_of_ble_eq_true rfl)) (kdr dgX1_isSoundInSpans_0 1 1 rfl rfl) ⟨(Nat.le_of_ble_eq_true rfl), (Nat.le_of_ble_eq_true rfl)⟩) hP hD hS hA kFr_SBs (fun H locs hP hD hS => ?_)
        refine lv_aload_n hx hb (kdr dgX1_isSoundInSpans_0 1 2 rfl rfl) rfl (lv_at hl 0 rfl) ?_
        refine va_get (D := (dC, dI)) (ci := 3) (v := .ref (a 2)) (C := RX1) (T := TX1) (N := 10) hx hb hts hiX1 hown hK hP 0 rfl rfl 3 (by decide) hw0 (fun _ h9 => h9) rfl (kdr dgX1_isSoundInSpans_0 1 3 rfl rfl) ?_
        refine lv_iload_n hx hb (kdr dgX1_isSoundInSpans_0 1 4 rfl rfl) rfl (lv_at hl 1 rfl) ?_
        obtain ⟨r4, g4, h⟩ := g_b h
        refine kq_l (wSB cI cJ cZ a ce fr un sb se so sc wb we wo wc fb fe fo fc rm ac rf kn) (fun qP qD qF => va_runV (As := [.int x1]) (rest := [.long r3, .ref (a 0)]) ⟨hx, hb, hml, hown, hts⟩ (c_X0_end l dC dI cB cI cJ cZ (a 2) (a 3) (a 4) (a 5) _ sb se so sc x1 r4 g4) (kcwV hts kw_194 kv_X0_end rfl rfl ⟨(Nat.le_of_ble_eq_true rfl), (Nat.le_of_ble_eq_true rfl)⟩) (kpV (A := A) qP hK qD hG (krecv_2 (q0 := 2) hK hP rfl)) rfl rfl hl.1 rfl (lv_room (Nat.le_of_ble_eq_true rfl)) (kdr dgX1_isSoundInSpans_0 1 5 rfl rfl) ⟨(Nat.le_of_ble_eq_true rfl), (Nat.le_of_ble_eq_true rfl)⟩) hP hD hS hA kFr_SBs (fun H locs hP hD hS => ?_)
        obtain ⟨r5, g5, h⟩ := g_b h
        refine kq_i (wSB cI cJ cZ a ce fr un sb se so sc wb we wo wc fb fe fo fc rm ac rf kn) (fun qP qD qF => va_runV (As := [.long r3, .long r4]) (rest := []) ⟨hx, hb, hml, hown, hts⟩ (c_X1_isInCalendar l dC dI cB cI cJ cZ a _ ce fr un sb se so sc wb we wo wc fb fe fo fc rm ac rf kn r3 r4 r5 g5) (kcwV hts kw_276 kv_X1_isInCalendar rfl rfl ⟨(Nat.le_of_ble_eq_true rfl), (Nat.le_of_ble_eq_true rfl)⟩) (kpV (A := A) qP hK qD hG (krecv_3 (q0 := 0) hK hP rfl)) rfl rfl hl.1 rfl (lv_room (Nat.le_of_ble_eq_true rfl)) (kdr dgX1_isSoundInSpans_0 1 6 rfl rfl) ⟨(Nat.le_of_ble_eq_true rfl), (Nat.le_of_ble_eq_true rfl)⟩) hP hD hS hA kFr_SB (fun H locs hP hD hS br5 => ?_)
        refine lv_if_ne (tgt := 38) hx hb (kdr dgX1_isSoundInSpans_0 1 7 rfl rfl) (by decide) (fun c6 => ?_) (fun c6 => ?_)
        · have h := g_f c6 h
          refine lv_iconst (v := 0) hx hb (kdr dgX1_isSoundInSpans_0 2 0 rfl rfl) (by decide) ?_
          refine lv_istore_n (lv' := (kvI 2 0 (kvA 0 (a 0) (kvI 1 x1 kvE)))) hx hb (kdr dgX1_isSoundInSpans_0 2 1 rfl rfl) rfl hl (by decide) rfl (fun ls hl => ?_)
          exact J40 (f_X1_isSoundInSpans_2 n) ih 24 ce fr un sb se so sc wb we wo wc fb fe fo fc rm ac rf kn x1 0 _ _ hP hD hS ls (lv_sub hl [1, 2, 0] rfl) h
        · have h := g_t c6 h
          refine lv_iconst (v := 0) hx hb (kdr dgX1_isSoundInSpans_0 1 8 rfl rfl) (by decide) ?_
          have h := Option.some.inj h
          subst h
          exact kret_i (v := 0) hx hb hr rfl hlocks hS hP (kdr dgX1_isSoundInSpans_0 1 9 rfl rfl)
  have h := f_X1_isSoundInSpans_e.symm.trans hf
  refine lv_iconst (v := 0) hx hb (kdr dgX1_isSoundInSpans_0 0 0 rfl rfl) (by decide) ?_
  refine lv_istore_n (lv' := (kvI 1 0 (kvA 0 (a 0) kvE))) hx hb (kdr dgX1_isSoundInSpans_0 0 1 rfl rfl) rfl hl (by decide) rfl (fun ls hl => ?_)
  exact J2 24 ce fr un sb se so sc wb we wo wc fb fe fo fc rm ac rf kn 0 _ _ hP hD hS ls (lv_sub hl [1, 0] rfl) h
noncomputable abbrev wsX1_isSoundInFrees : List Cond := kWs yX1_isSoundInFrees cX1_isSoundInFrees 2 (some .boolean)
noncomputable def f_X1_isSoundInFrees_6 : Nat → (Int64) → (Int64) → (Nat → Int64) → (Nat → Int64) → (Int32) → (Nat → Int64) → (Nat → Int64) → (Nat → Int32) → (Int32) → (Int32) → Option ((Int32) × (Nat → Int64) × (Nat → Int64) × (Nat → Int32) × (Int32))
  | 0, _, _, _, _, _, _, _, _, _, _ => none
  | n + 1, fr, un, sb, se, sc, fb, fe, fo, fc, x1 =>
    (f_X0_count fc).bind fun r1 =>
    if r1 ≤ x1 then
      (f_X1_takenLength fr un sb se sc).bind fun r3 =>
      (f_X1_freeLength fb fe fc).bind fun r4 =>
      if (r3 + r4) = (un - fr) then
        some (1, fb, fe, fo, fc)
      else
        some (0, fb, fe, fo, fc)
    else
      (f_X0_begin fb fc x1).bind fun r3 =>
      (f_X0_end fe fc x1).bind fun r4 =>
      (f_X0_firstMeeting sb se sc r3 r4 (-1)).bind fun r5 =>
      if r5 = (-1) then
        f_X1_isSoundInFrees_6 n fr un sb se sc fb fe fo fc (x1 + 1)
      else
        some (0, fb, fe, fo, fc)
theorem f_X1_isSoundInFrees_6_0 {fr : Int64} {un : Int64} {sb : Nat → Int64} {se : Nat → Int64} {sc : Int32} {fb : Nat → Int64} {fe : Nat → Int64} {fo : Nat → Int32} {fc : Int32} {x1 : Int32} : f_X1_isSoundInFrees_6 0 fr un sb se sc fb fe fo fc x1 = none := rfl
theorem f_X1_isSoundInFrees_6_s {n : Nat} {fr : Int64} {un : Int64} {sb : Nat → Int64} {se : Nat → Int64} {sc : Int32} {fb : Nat → Int64} {fe : Nat → Int64} {fo : Nat → Int32} {fc : Int32} {x1 : Int32} : f_X1_isSoundInFrees_6 (n + 1) fr un sb se sc fb fe fo fc x1 =
  (f_X0_count fc).bind fun r1 =>
  if r1 ≤ x1 then
    (f_X1_takenLength fr un sb se sc).bind fun r3 =>
    (f_X1_freeLength fb fe fc).bind fun r4 =>
    if (r3 + r4) = (un - fr) then
      some (1, fb, fe, fo, fc)
    else
      some (0, fb, fe, fo, fc)
  else
    (f_X0_begin fb fc x1).bind fun r3 =>
    (f_X0_end fe fc x1).bind fun r4 =>
    (f_X0_firstMeeting sb se sc r3 r4 (-1)).bind fun r5 =>
    if r5 = (-1) then
      f_X1_isSoundInFrees_6 n fr un sb se sc fb fe fo fc (x1 + 1)
    else
      some (0, fb, fe, fo, fc) := rfl
noncomputable def f_X1_isSoundInFrees (fr : Int64) (un : Int64) (sb : Nat → Int64) (se : Nat → Int64) (sc : Int32) (fb : Nat → Int64) (fe : Nat → Int64) (fo : Nat → Int32) (fc : Int32) : Option ((Int32) × (Nat → Int64) × (Nat → Int64) × (Nat → Int32) × (Int32)) :=
  (f_X1_findFrees fr un sb se sc fb fe fo fc).bind fun r1 =>
  f_X1_isSoundInFrees_6 24 fr un sb se sc r1.1 r1.2.1 r1.2.2.1 r1.2.2.2 0
theorem f_X1_isSoundInFrees_e {fr : Int64} {un : Int64} {sb : Nat → Int64} {se : Nat → Int64} {sc : Int32} {fb : Nat → Int64} {fe : Nat → Int64} {fo : Nat → Int32} {fc : Int32} : f_X1_isSoundInFrees fr un sb se sc fb fe fo fc = 
  (f_X1_findFrees fr un sb se sc fb fe fo fc).bind fun r1 =>
  f_X1_isSoundInFrees_6 24 fr un sb se sc r1.1 r1.2.1 r1.2.2.1 r1.2.2.2 0 := rfl
set_option maxHeartbeats 4000000 in
set_option maxRecDepth 100000 in
theorem c_X1_isSoundInFrees (l : Launch) (dC : Nat → ClassId) (dI : Nat → Nat → Nat) (cB cI cJ cZ : ClassId) (a : Nat → Nat) (sz : Nat) (ce : Nat → Int64) (fr : Int64) (un : Int64) (sb : Nat → Int64) (se : Nat → Int64) (so : Nat → Int32) (sc : Int32) (wb : Nat → Int64) (we : Nat → Int64) (wo : Nat → Int32) (wc : Int32) (fb : Nat → Int64) (fe : Nat → Int64) (fo : Nat → Int32) (fc : Int32) (rm : Nat → Int32) (ac : Int32) (rf : Int32) (kn : Int32) (res : (Int32) × (Nat → Int64) × (Nat → Int64) × (Nat → Int32) × (Int32)) (hf : f_X1_isSoundInFrees fr un sb se sc fb fe fo fc = some res) : kMi l yX1_isSoundInFrees wsX1_isSoundInFrees (kRm 4 0 0 97) dC dI cB cI cJ cZ [.ref (a 0)] sz (wSB cI cJ cZ a ce fr un sb se so sc wb we wo wc fb fe fo fc rm ac rf kn) .boolean (res.1) (wSB cI cJ cZ a ce fr un sb se so sc wb we wo wc (res.2.1) (res.2.2.1) (res.2.2.2.1) (res.2.2.2.2) rm ac rf kn) 0 0 := by
  refine kmet_i (y := yX1_isSoundInFrees) (cc := cX1_isSoundInFrees) (maxL := 2) (ret := (some .boolean)) RX1 (kvA 0 (a 0) kvE) kpl_X1 rfl rfl (Nat.le_of_ble_eq_true rfl) rfl (fun p e s m below meth c A ls hx hb hr hml hts hown hlocks hP hK hG hD hA hS hl => ?_)
  have hw0 := hts (.fieldLink RX1 32 "Spanbooker" "freeRow" "LSpanbooker$Row;") (List.mem_cons_of_mem _ kw_112)
  have hw1 := hts (.fieldLink RX1 19 "Spanbooker" "until" "J") (List.mem_cons_of_mem _ kw_109)
  have hw2 := hts (.fieldLink RX1 13 "Spanbooker" "from" "J") (List.mem_cons_of_mem _ kw_108)
  have hw3 := hts (.fieldLink RX1 25 "Spanbooker" "spanRow" "LSpanbooker$Row;") (List.mem_cons_of_mem _ kw_110)
  have hiX1 : ∀ w ∈ u_ws RX1 TX1 10, w ∈ wsX1_isSoundInFrees := fun w h => List.mem_cons_of_mem _ (ku_X1 w h)
  have J6 : ∀ (n : Nat), ∀ (ce : Nat → Int64) (fr : Int64) (un : Int64) (sb : Nat → Int64) (se : Nat → Int64) (so : Nat → Int32) (sc : Int32) (wb : Nat → Int64) (we : Nat → Int64) (wo : Nat → Int32) (wc : Int32) (fb : Nat → Int64) (fe : Nat → Int64) (fo : Nat → Int32) (fc : Int32) (rm : Nat → Int32) (ac : Int32) (rf : Int32) (kn : Int32) (x1 : Int32) (H : Heap) (locs : List Loc), va_P (dC, dI) vwCl (wSB cI cJ cZ a ce fr un sb se so sc wb we wo wc fb fe fo fc rm ac rf kn) H → va_D A (wSB cI cJ cZ a ce fr un sb se so sc wb we wo wc fb fe fo fc rm ac rf kn) → va_S A s.heap H locs → ∀ (ls : Array Slot), lv_has ls 2 (kvA 0 (a 0) (kvI 1 x1 kvE)) → f_X1_isSoundInFrees_6 n fr un sb se sc fb fe fo fc x1 = some res → W p l e (headSpec wsX1_isSoundInFrees (kRm 4 0 0 97)).room s m ([.ref (a 0)] : List Value).toArray below meth c H locs 0 0 (MQ below (kI (dC, dI) .boolean (res.1) (wSB cI cJ cZ a ce fr un sb se so sc wb we wo wc (res.2.1) (res.2.2.1) (res.2.2.2.1) (res.2.2.2.2) rm ac rf kn) A) ([.ref (a 0)] : List Value).toArray s 0 0 A) (F0 m 6 ls []) := by
    intro n
    induction n with
    | zero =>
      intro ce fr un sb se so sc wb we wo wc fb fe fo fc rm ac rf kn x1 H locs hP hD hS ls hl h
      have h := f_X1_isSoundInFrees_6_0.symm.trans h
      cases h
    | succ n ih =>
      intro ce fr un sb se so sc wb we wo wc fb fe fo fc rm ac rf kn x1 H locs hP hD hS ls hl h
      have h := f_X1_isSoundInFrees_6_s.symm.trans h
      refine lv_iload_n hx hb (kdr dgX1_isSoundInFrees_0 0 4 rfl rfl) rfl (lv_at hl 1 rfl) ?_
      refine lv_aload_n hx hb (kdr dgX1_isSoundInFrees_0 0 5 rfl rfl) rfl (lv_at hl 0 rfl) ?_
      refine va_get (D := (dC, dI)) (ci := 3) (v := .ref (a 10)) (C := RX1) (T := TX1) (N := 10) hx hb hts hiX1 hown hK hP 0 rfl rfl 5 (by decide) hw0 (fun _ h9 => h9) rfl (kdr dgX1_isSoundInFrees_0 0 6 rfl rfl) ?_
      obtain ⟨r1, g1, h⟩ := g_b h
      refine kq_i (wSB cI cJ cZ a ce fr un sb se so sc wb we wo wc fb fe fo fc rm ac rf kn) (fun qP qD qF => va_runV (As := []) (rest := [.int x1]) ⟨hx, hb, hml, hown, hts⟩ (c_X0_count l dC dI cB cI cJ cZ (a 10) (a 11) (a 12) (a 13) _ fb fe fo fc  r1 g1) (kcwV hts kw_155 kv_X0_count rfl rfl ⟨(Nat.le_of_ble_eq_true rfl), (Nat.le_of_ble_eq_true rfl)⟩) (kpV (A := A) qP hK qD hG (krecv_2 (q0 := 10) hK hP rfl)) rfl rfl hl.1 rfl (lv_room (Nat.le_of_ble_eq_true rfl)) (kdr dgX1_isSoundInFrees_0 0 7 rfl rfl) ⟨(Nat.le_of_ble_eq_true rfl), (Nat.le_of_ble_eq_true rfl)⟩) hP hD hS hA kFr_SBf (fun H locs hP hD hS br1 => ?_)
      refine lv_icmp_ge (tgt := 53) hx hb (kdr dgX1_isSoundInFrees_0 0 8 rfl rfl) (by decide) (fun c2 => ?_) (fun c2 => ?_)
      · have h := g_t c2 h
        refine lv_aload_n hx hb (kdr dgX1_isSoundInFrees_0 2 7 rfl rfl) rfl (lv_at hl 0 rfl) ?_
        obtain ⟨r3, g3, h⟩ := g_b h
        refine kq_l (wSB cI cJ cZ a ce fr un sb se so sc wb we wo wc fb fe fo fc rm ac rf kn) (fun qP qD qF => va_runV (As := []) (rest := []) ⟨hx, hb, hml, hown, hts⟩ (c_X1_takenLength l dC dI cB cI cJ cZ a _ ce fr un sb se so sc wb we wo wc fb fe fo fc rm ac rf kn  r3 g3) (kcwV hts kw_288 kv_X1_takenLength rfl rfl ⟨(Nat.le_of_ble_eq_true rfl), (Nat.le_of_ble_eq_true rfl)⟩) (kpV (A := A) qP hK qD hG (krecv_3 (q0 := 0) hK hP rfl)) rfl rfl hl.1 rfl (lv_room (Nat.le_of_ble_eq_true rfl)) (kdr dgX1_isSoundInFrees_0 2 8 rfl rfl) ⟨(Nat.le_of_ble_eq_true rfl), (Nat.le_of_ble_eq_true rfl)⟩) hP hD hS hA kFr_SB (fun H locs hP hD hS => ?_)
        refine lv_aload_n hx hb (kdr dgX1_isSoundInFrees_0 2 9 rfl rfl) rfl (lv_at hl 0 rfl) ?_
        obtain ⟨r4, g4, h⟩ := g_b h
        refine kq_l (wSB cI cJ cZ a ce fr un sb se so sc wb we wo wc fb fe fo fc rm ac rf kn) (fun qP qD qF => va_runV (As := []) (rest := [.long r3]) ⟨hx, hb, hml, hown, hts⟩ (c_X1_freeLength l dC dI cB cI cJ cZ a _ ce fr un sb se so sc wb we wo wc fb fe fo fc rm ac rf kn  r4 g4) (kcwV hts kw_292 kv_X1_freeLength rfl rfl ⟨(Nat.le_of_ble_eq_true rfl), (Nat.le_of_ble_eq_true rfl)⟩) (kpV (A := A) qP hK qD hG (krecv_3 (q0 := 0) hK hP rfl)) rfl rfl hl.1 rfl (lv_room (Nat.le_of_ble_eq_true rfl)) (kdr dgX1_isSoundInFrees_0 3 0 rfl rfl) ⟨(Nat.le_of_ble_eq_true rfl), (Nat.le_of_ble_eq_true rfl)⟩) hP hD hS hA kFr_SB (fun H locs hP hD hS => ?_)
        refine lv_ladd hx hb (kdr dgX1_isSoundInFrees_0 3 1 rfl rfl) ?_
        refine lv_aload_n hx hb (kdr dgX1_isSoundInFrees_0 3 2 rfl rfl) rfl (lv_at hl 0 rfl) ?_
        refine va_get (D := (dC, dI)) (ci := 3) (v := .long un) (C := RX1) (T := TX1) (N := 10) hx hb hts hiX1 hown hK hP 0 rfl rfl 2 (by decide) hw1 (fun _ h9 => h9) rfl (kdr dgX1_isSoundInFrees_0 3 3 rfl rfl) ?_
        refine lv_aload_n hx hb (kdr dgX1_isSoundInFrees_0 3 4 rfl rfl) rfl (lv_at hl 0 rfl) ?_
        refine va_get (D := (dC, dI)) (ci := 3) (v := .long fr) (C := RX1) (T := TX1) (N := 10) hx hb hts hiX1 hown hK hP 0 rfl rfl 1 (by decide) hw2 (fun _ h9 => h9) rfl (kdr dgX1_isSoundInFrees_0 3 5 rfl rfl) ?_
        refine lv_lsub hx hb (kdr dgX1_isSoundInFrees_0 3 6 rfl rfl) ?_
        refine kl_ne (pc := 71) (tgt := 79) hx hb (kdr dgX1_isSoundInFrees_0 3 7 rfl rfl) (kdr dgX1_isSoundInFrees_0 3 8 rfl rfl) (by decide) (fun c5 => ?_) (fun c5 => ?_)
        · have h := g_f c5 h
          refine lv_iconst (v := 0) hx hb (kdr dgX1_isSoundInFrees_0 4 1 rfl rfl) (by decide) ?_
          have h := Option.some.inj h
          subst h
          exact kret_i (v := 0) hx hb hr rfl hlocks hS hP (kdr dgX1_isSoundInFrees_0 4 2 rfl rfl)
        · have h := g_t c5 h
          refine lv_iconst (v := 1) hx hb (kdr dgX1_isSoundInFrees_0 3 9 rfl rfl) (by decide) ?_
          refine lv_goto (tgt := 80) hx hb (kdr dgX1_isSoundInFrees_0 4 0 rfl rfl) (by decide) ?_
          have h := Option.some.inj h
          subst h
          exact kret_i (v := 1) hx hb hr rfl hlocks hS hP (kdr dgX1_isSoundInFrees_0 4 2 rfl rfl)
      · have h := g_f c2 h
        refine lv_aload_n hx hb (kdr dgX1_isSoundInFrees_0 0 9 rfl rfl) rfl (lv_at hl 0 rfl) ?_
        refine va_get (D := (dC, dI)) (ci := 3) (v := .ref (a 2)) (C := RX1) (T := TX1) (N := 10) hx hb hts hiX1 hown hK hP 0 rfl rfl 3 (by decide) hw3 (fun _ h9 => h9) rfl (kdr dgX1_isSoundInFrees_0 1 0 rfl rfl) ?_
        refine lv_aload_n hx hb (kdr dgX1_isSoundInFrees_0 1 1 rfl rfl) rfl (lv_at hl 0 rfl) ?_
        refine va_get (D := (dC, dI)) (ci := 3) (v := .ref (a 10)) (C := RX1) (T := TX1) (N := 10) hx hb hts hiX1 hown hK hP 0 rfl rfl 5 (by decide) hw0 (fun _ h9 => h9) rfl (kdr dgX1_isSoundInFrees_0 1 2 rfl rfl) ?_
        refine lv_iload_n hx hb (kdr dgX1_isSoundInFrees_0 1 3 rfl rfl) rfl (lv_at hl 1 rfl) ?_
        obtain ⟨r3, g3, h⟩ := g_b h
        refine kq_l (wSB cI cJ cZ a ce fr un sb se so sc wb we wo wc fb fe fo fc rm ac rf kn) (fun qP qD qF => va_runV (As := [.int x1]) (rest := [.ref (a 2)]) ⟨hx, hb, hml, hown, hts⟩ (c_X0_begin l dC dI cB cI cJ cZ (a 10) (a 11) (a 12) (a 13) _ fb fe fo fc x1 r3 g3) (kcwV hts kw_251 kv_X0_begin rfl rfl ⟨(Nat.le_of_ble_eq_true rfl), (Nat.le_of_ble_eq_true rfl)⟩) (kpV (A := A) qP hK qD hG (krecv_2 (q0 := 10) hK hP rfl)) rfl rfl hl.1 rfl (lv_room (Nat.le_of_ble_eq_true rfl)) (kdr dgX1_isSoundInFrees_0 1 4 rfl rfl) ⟨(Nat.le_of_ble_eq_true rfl), (Nat.le_of_ble_eq_true rfl)⟩) hP hD hS hA kFr_SBf (fun H locs hP hD hS => ?_)
        refine lv_aload_n hx hb (kdr dgX1_isSoundInFrees_0 1 5 rfl rfl) rfl (lv_at hl 0 rfl) ?_
        refine va_get (D := (dC, dI)) (ci := 3) (v := .ref (a 10)) (C := RX1) (T := TX1) (N := 10) hx hb hts hiX1 hown hK hP 0 rfl rfl 5 (by decide) hw0 (fun _ h9 => h9) rfl (kdr dgX1_isSoundInFrees_0 1 6 rfl rfl) ?_
        refine lv_iload_n hx hb (kdr dgX1_isSoundInFrees_0 1 7 rfl rfl) rfl (lv_at hl 1 rfl) ?_
        obtain ⟨r4, g4, h⟩ := g_b h
        refine kq_l (wSB cI cJ cZ a ce fr un sb se so sc wb we wo wc fb fe fo fc rm ac rf kn) (fun qP qD qF => va_runV (As := [.int x1]) (rest := [.long r3, .ref (a 2)]) ⟨hx, hb, hml, hown, hts⟩ (c_X0_end l dC dI cB cI cJ cZ (a 10) (a 11) (a 12) (a 13) _ fb fe fo fc x1 r4 g4) (kcwV hts kw_194 kv_X0_end rfl rfl ⟨(Nat.le_of_ble_eq_true rfl), (Nat.le_of_ble_eq_true rfl)⟩) (kpV (A := A) qP hK qD hG (krecv_2 (q0 := 10) hK hP rfl)) rfl rfl hl.1 rfl (lv_room (Nat.le_of_ble_eq_true rfl)) (kdr dgX1_isSoundInFrees_0 1 8 rfl rfl) ⟨(Nat.le_of_ble_eq_true rfl), (Nat.le_of_ble_eq_true rfl)⟩) hP hD hS hA kFr_SBf (fun H locs hP hD hS => ?_)
        refine lv_iconst (v := (-1)) hx hb (kdr dgX1_isSoundInFrees_0 1 9 rfl rfl) (by decide) ?_
        obtain ⟨r5, g5, h⟩ := g_b h
        refine kq_i (wSB cI cJ cZ a ce fr un sb se so sc wb we wo wc fb fe fo fc rm ac rf kn) (fun qP qD qF => va_runV (As := [.long r3, .long r4, .int (-1)]) (rest := []) ⟨hx, hb, hml, hown, hts⟩ (c_X0_firstMeeting l dC dI cB cI cJ cZ (a 2) (a 3) (a 4) (a 5) _ sb se so sc r3 r4 (-1) r5 g5) (kcwV hts kw_190 kv_X0_firstMeeting rfl rfl ⟨(Nat.le_of_ble_eq_true rfl), (Nat.le_of_ble_eq_true rfl)⟩) (kpV (A := A) qP hK qD hG (krecv_2 (q0 := 2) hK hP rfl)) rfl rfl hl.1 rfl (lv_room (Nat.le_of_ble_eq_true rfl)) (kdr dgX1_isSoundInFrees_0 2 0 rfl rfl) ⟨(Nat.le_of_ble_eq_true rfl), (Nat.le_of_ble_eq_true rfl)⟩) hP hD hS hA kFr_SBs (fun H locs hP hD hS br5 => ?_)
        refine lv_iconst (v := (-1)) hx hb (kdr dgX1_isSoundInFrees_0 2 1 rfl rfl) (by decide) ?_
        refine lv_icmp_eq (tgt := 47) hx hb (kdr dgX1_isSoundInFrees_0 2 2 rfl rfl) (by decide) (fun c6 => ?_) (fun c6 => ?_)
        · have h := g_t c6 h
          refine lv_iinc (v := x1 + 1) (lv' := (kvI 1 (x1 + 1) (kvA 0 (a 0) kvE))) hx hb (kdr dgX1_isSoundInFrees_0 2 5 rfl rfl) hl (k := 1) rfl rfl (by decide) rfl (fun ls hl => ?_)
          refine lv_goto (tgt := 6) hx hb (kdr dgX1_isSoundInFrees_0 2 6 rfl rfl) (by decide) ?_
          exact ih ce fr un sb se so sc wb we wo wc fb fe fo fc rm ac rf kn (x1 + 1) _ _ hP hD hS ls (lv_sub hl [1, 0] rfl) h
        · have h := g_f c6 h
          refine lv_iconst (v := 0) hx hb (kdr dgX1_isSoundInFrees_0 2 3 rfl rfl) (by decide) ?_
          have h := Option.some.inj h
          subst h
          exact kret_i (v := 0) hx hb hr rfl hlocks hS hP (kdr dgX1_isSoundInFrees_0 2 4 rfl rfl)
  have h := f_X1_isSoundInFrees_e.symm.trans hf
  refine lv_aload_n hx hb (kdr dgX1_isSoundInFrees_0 0 0 rfl rfl) rfl (lv_at hl 0 rfl) ?_
  obtain ⟨r1, g1, h⟩ := g_b h
  refine kq_v (wSB cI cJ cZ a ce fr un sb se so sc wb we wo wc r1.1 r1.2.1 r1.2.2.1 r1.2.2.2 rm ac rf kn) (fun qP qD qF => va_runV (As := []) (rest := []) ⟨hx, hb, hml, hown, hts⟩ (c_X1_findFrees l dC dI cB cI cJ cZ a _ ce fr un sb se so sc wb we wo wc fb fe fo fc rm ac rf kn  r1 g1) (kcwV hts kw_182 kv_X1_findFrees rfl rfl ⟨(Nat.le_of_ble_eq_true rfl), (Nat.le_of_ble_eq_true rfl)⟩) (kpV (A := A) qP hK qD hG (krecv_3 (q0 := 0) hK hP rfl)) rfl rfl hl.1 rfl (lv_room (Nat.le_of_ble_eq_true rfl)) (kdr dgX1_isSoundInFrees_0 0 1 rfl rfl) ⟨(Nat.le_of_ble_eq_true rfl), (Nat.le_of_ble_eq_true rfl)⟩) hP hD hS hA kFr_SB (fun H locs hP hD hS => ?_)
  refine lv_iconst (v := 0) hx hb (kdr dgX1_isSoundInFrees_0 0 2 rfl rfl) (by decide) ?_
  refine lv_istore_n (lv' := (kvI 1 0 (kvA 0 (a 0) kvE))) hx hb (kdr dgX1_isSoundInFrees_0 0 3 rfl rfl) rfl hl (by decide) rfl (fun ls hl => ?_)
  exact J6 24 ce fr un sb se so sc wb we wo wc r1.1 r1.2.1 r1.2.2.1 r1.2.2.2 rm ac rf kn 0 _ _ hP hD hS ls (lv_sub hl [1, 0] rfl) h
noncomputable abbrev wsX1_isSoundInWishes : List Cond := kWs yX1_isSoundInWishes cX1_isSoundInWishes 2 (some .boolean)
noncomputable def f_X1_isSoundInWishes (wb : Nat → Int64) (we : Nat → Int64) (wc : Int32) (rm : Nat → Int32) : Option ((Int32) × (Nat → Int32)) :=
  (f_X1_findRooms wb we wc rm).bind fun r1 =>
  (f_X1_chosen wb we wc).bind fun r2 =>
  (f_X1_isWithoutMeeting wb we wc r2).bind fun r3 =>
  if r3 = 0 then
    some (0, r1)
  else
    (f_J6_bitCount_0f7a4 r2).bind fun r5 =>
    (f_X1_mostOfAllSets wb we wc).bind fun r6 =>
    if r5 = r6 then
      (f_X1_roomCount wc r1).bind fun r8 =>
      (f_X1_crowd wb we wc).bind fun r9 =>
      if r8 = r9 then
        some (1, r1)
      else
        some (0, r1)
    else
      some (0, r1)
theorem f_X1_isSoundInWishes_e {wb : Nat → Int64} {we : Nat → Int64} {wc : Int32} {rm : Nat → Int32} : f_X1_isSoundInWishes wb we wc rm = 
  (f_X1_findRooms wb we wc rm).bind fun r1 =>
  (f_X1_chosen wb we wc).bind fun r2 =>
  (f_X1_isWithoutMeeting wb we wc r2).bind fun r3 =>
  if r3 = 0 then
    some (0, r1)
  else
    (f_J6_bitCount_0f7a4 r2).bind fun r5 =>
    (f_X1_mostOfAllSets wb we wc).bind fun r6 =>
    if r5 = r6 then
      (f_X1_roomCount wc r1).bind fun r8 =>
      (f_X1_crowd wb we wc).bind fun r9 =>
      if r8 = r9 then
        some (1, r1)
      else
        some (0, r1)
    else
      some (0, r1) := rfl
set_option maxHeartbeats 4000000 in
set_option maxRecDepth 100000 in
theorem c_X1_isSoundInWishes (l : Launch) (dC : Nat → ClassId) (dI : Nat → Nat → Nat) (cB cI cJ cZ : ClassId) (a : Nat → Nat) (sz : Nat) (ce : Nat → Int64) (fr : Int64) (un : Int64) (sb : Nat → Int64) (se : Nat → Int64) (so : Nat → Int32) (sc : Int32) (wb : Nat → Int64) (we : Nat → Int64) (wo : Nat → Int32) (wc : Int32) (fb : Nat → Int64) (fe : Nat → Int64) (fo : Nat → Int32) (fc : Int32) (rm : Nat → Int32) (ac : Int32) (rf : Int32) (kn : Int32) (res : (Int32) × (Nat → Int32)) (hf : f_X1_isSoundInWishes wb we wc rm = some res) : kMi l yX1_isSoundInWishes wsX1_isSoundInWishes (kRm 4 0 0 92) dC dI cB cI cJ cZ [.ref (a 0)] sz (wSB cI cJ cZ a ce fr un sb se so sc wb we wo wc fb fe fo fc rm ac rf kn) .boolean (res.1) (wSB cI cJ cZ a ce fr un sb se so sc wb we wo wc fb fe fo fc (res.2) ac rf kn) 0 0 := by
  refine kmet_i (y := yX1_isSoundInWishes) (cc := cX1_isSoundInWishes) (maxL := 2) (ret := (some .boolean)) RX1 (kvA 0 (a 0) kvE) kpl_X1 rfl rfl (Nat.le_of_ble_eq_true rfl) rfl (fun p e s m below meth c A ls hx hb hr hml hts hown hlocks hP hK hG hD hA hS hl => ?_)
  have h := f_X1_isSoundInWishes_e.symm.trans hf
  refine lv_aload_n hx hb (kdr dgX1_isSoundInWishes_0 0 0 rfl rfl) rfl (lv_at hl 0 rfl) ?_
  obtain ⟨r1, g1, h⟩ := g_b h
  refine kq_v (wSB cI cJ cZ a ce fr un sb se so sc wb we wo wc fb fe fo fc r1 ac rf kn) (fun qP qD qF => va_runV (As := []) (rest := []) ⟨hx, hb, hml, hown, hts⟩ (c_X1_findRooms l dC dI cB cI cJ cZ a _ ce fr un sb se so sc wb we wo wc fb fe fo fc rm ac rf kn  r1 g1) (kcwV hts kw_243 kv_X1_findRooms rfl rfl ⟨(Nat.le_of_ble_eq_true rfl), (Nat.le_of_ble_eq_true rfl)⟩) (kpV (A := A) qP hK qD hG (krecv_3 (q0 := 0) hK hP rfl)) rfl rfl hl.1 rfl (lv_room (Nat.le_of_ble_eq_true rfl)) (kdr dgX1_isSoundInWishes_0 0 1 rfl rfl) ⟨(Nat.le_of_ble_eq_true rfl), (Nat.le_of_ble_eq_true rfl)⟩) hP hD hS hA kFr_SB (fun H locs hP hD hS => ?_)
  refine lv_aload_n hx hb (kdr dgX1_isSoundInWishes_0 0 2 rfl rfl) rfl (lv_at hl 0 rfl) ?_
  obtain ⟨r2, g2, h⟩ := g_b h
  refine kq_i (wSB cI cJ cZ a ce fr un sb se so sc wb we wo wc fb fe fo fc r1 ac rf kn) (fun qP qD qF => va_runV (As := []) (rest := []) ⟨hx, hb, hml, hown, hts⟩ (c_X1_chosen l dC dI cB cI cJ cZ a _ ce fr un sb se so sc wb we wo wc fb fe fo fc r1 ac rf kn  r2 g2) (kcwV hts kw_300 kv_X1_chosen rfl rfl ⟨(Nat.le_of_ble_eq_true rfl), (Nat.le_of_ble_eq_true rfl)⟩) (kpV (A := A) qP hK qD hG (krecv_3 (q0 := 0) hK hP rfl)) rfl rfl hl.1 rfl (lv_room (Nat.le_of_ble_eq_true rfl)) (kdr dgX1_isSoundInWishes_0 0 3 rfl rfl) ⟨(Nat.le_of_ble_eq_true rfl), (Nat.le_of_ble_eq_true rfl)⟩) hP hD hS hA kFr_SB (fun H locs hP hD hS br2 => ?_)
  refine lv_istore_n (lv' := (kvI 1 r2 (kvA 0 (a 0) kvE))) hx hb (kdr dgX1_isSoundInWishes_0 0 4 rfl rfl) rfl hl (by decide) rfl (fun ls hl => ?_)
  refine lv_aload_n hx hb (kdr dgX1_isSoundInWishes_0 0 5 rfl rfl) rfl (lv_at hl 1 rfl) ?_
  refine lv_iload_n hx hb (kdr dgX1_isSoundInWishes_0 0 6 rfl rfl) rfl (lv_at hl 0 rfl) ?_
  obtain ⟨r3, g3, h⟩ := g_b h
  refine kq_i (wSB cI cJ cZ a ce fr un sb se so sc wb we wo wc fb fe fo fc r1 ac rf kn) (fun qP qD qF => va_runV (As := [.int r2]) (rest := []) ⟨hx, hb, hml, hown, hts⟩ (c_X1_isWithoutMeeting l dC dI cB cI cJ cZ a _ ce fr un sb se so sc wb we wo wc fb fe fo fc r1 ac rf kn r2 r3 g3) (kcwV hts kw_301 kv_X1_isWithoutMeeting rfl rfl ⟨(Nat.le_of_ble_eq_true rfl), (Nat.le_of_ble_eq_true rfl)⟩) (kpV (A := A) qP hK qD hG (krecv_3 (q0 := 0) hK hP rfl)) rfl rfl hl.1 rfl (lv_room (Nat.le_of_ble_eq_true rfl)) (kdr dgX1_isSoundInWishes_0 0 7 rfl rfl) ⟨(Nat.le_of_ble_eq_true rfl), (Nat.le_of_ble_eq_true rfl)⟩) hP hD hS hA kFr_SB (fun H locs hP hD hS br3 => ?_)
  refine lv_if_eq (tgt := 43) hx hb (kdr dgX1_isSoundInWishes_0 0 8 rfl rfl) (by decide) (fun c4 => ?_) (fun c4 => ?_)
  · have h := g_t c4 h
    refine lv_iconst (v := 0) hx hb (kdr dgX1_isSoundInWishes_0 2 1 rfl rfl) (by decide) ?_
    have h := Option.some.inj h
    subst h
    exact kret_i (v := 0) hx hb hr rfl hlocks hS hP (kdr dgX1_isSoundInWishes_0 2 2 rfl rfl)
  · have h := g_f c4 h
    refine lv_iload_n hx hb (kdr dgX1_isSoundInWishes_0 0 9 rfl rfl) rfl (lv_at hl 0 rfl) ?_
    obtain ⟨r5, g5, h⟩ := g_b h
    refine kq_i (wSB cI cJ cZ a ce fr un sb se so sc wb we wo wc fb fe fo fc r1 ac rf kn) (fun qP qD qF => va_runS (As := [.int r2]) (rest := []) ⟨hx, hb, hml, hown, hts⟩ (c_J6_bitCount_0f7a4 l dC dI cB cI cJ cZ  _  r2 r5 g5) (kcwS hts kw_305 kv_J6_bitCount_0f7a4 rfl rfl ⟨(Nat.le_of_ble_eq_true rfl), (Nat.le_of_ble_eq_true rfl)⟩) (kpS (A := A) (kPnil) hK ((kDnil (A := A))) hG) rfl rfl hl.1 rfl (lv_room (Nat.le_of_ble_eq_true rfl)) (kdr dgX1_isSoundInWishes_0 1 0 rfl rfl) ⟨(Nat.le_of_ble_eq_true rfl), (Nat.le_of_ble_eq_true rfl)⟩) hP hD hS hA kFr_n (fun H locs hP hD hS br5 => ?_)
    refine lv_aload_n hx hb (kdr dgX1_isSoundInWishes_0 1 1 rfl rfl) rfl (lv_at hl 1 rfl) ?_
    obtain ⟨r6, g6, h⟩ := g_b h
    refine kq_i (wSB cI cJ cZ a ce fr un sb se so sc wb we wo wc fb fe fo fc r1 ac rf kn) (fun qP qD qF => va_runV (As := []) (rest := [.int r5]) ⟨hx, hb, hml, hown, hts⟩ (c_X1_mostOfAllSets l dC dI cB cI cJ cZ a _ ce fr un sb se so sc wb we wo wc fb fe fo fc r1 ac rf kn  r6 g6) (kcwV hts kw_311 kv_X1_mostOfAllSets rfl rfl ⟨(Nat.le_of_ble_eq_true rfl), (Nat.le_of_ble_eq_true rfl)⟩) (kpV (A := A) qP hK qD hG (krecv_3 (q0 := 0) hK hP rfl)) rfl rfl hl.1 rfl (lv_room (Nat.le_of_ble_eq_true rfl)) (kdr dgX1_isSoundInWishes_0 1 2 rfl rfl) ⟨(Nat.le_of_ble_eq_true rfl), (Nat.le_of_ble_eq_true rfl)⟩) hP hD hS hA kFr_SB (fun H locs hP hD hS br6 => ?_)
    refine lv_icmp_ne (tgt := 43) hx hb (kdr dgX1_isSoundInWishes_0 1 3 rfl rfl) (by decide) (fun c7 => ?_) (fun c7 => ?_)
    · have h := g_f c7 h
      refine lv_iconst (v := 0) hx hb (kdr dgX1_isSoundInWishes_0 2 1 rfl rfl) (by decide) ?_
      have h := Option.some.inj h
      subst h
      exact kret_i (v := 0) hx hb hr rfl hlocks hS hP (kdr dgX1_isSoundInWishes_0 2 2 rfl rfl)
    · have h := g_t c7 h
      refine lv_aload_n hx hb (kdr dgX1_isSoundInWishes_0 1 4 rfl rfl) rfl (lv_at hl 1 rfl) ?_
      obtain ⟨r8, g8, h⟩ := g_b h
      refine kq_i (wSB cI cJ cZ a ce fr un sb se so sc wb we wo wc fb fe fo fc r1 ac rf kn) (fun qP qD qF => va_runV (As := []) (rest := []) ⟨hx, hb, hml, hown, hts⟩ (c_X1_roomCount l dC dI cB cI cJ cZ a _ ce fr un sb se so sc wb we wo wc fb fe fo fc r1 ac rf kn  r8 g8) (kcwV hts kw_259 kv_X1_roomCount rfl rfl ⟨(Nat.le_of_ble_eq_true rfl), (Nat.le_of_ble_eq_true rfl)⟩) (kpV (A := A) qP hK qD hG (krecv_3 (q0 := 0) hK hP rfl)) rfl rfl hl.1 rfl (lv_room (Nat.le_of_ble_eq_true rfl)) (kdr dgX1_isSoundInWishes_0 1 5 rfl rfl) ⟨(Nat.le_of_ble_eq_true rfl), (Nat.le_of_ble_eq_true rfl)⟩) hP hD hS hA kFr_SB (fun H locs hP hD hS br8 => ?_)
      refine lv_aload_n hx hb (kdr dgX1_isSoundInWishes_0 1 6 rfl rfl) rfl (lv_at hl 1 rfl) ?_
      obtain ⟨r9, g9, h⟩ := g_b h
      refine kq_i (wSB cI cJ cZ a ce fr un sb se so sc wb we wo wc fb fe fo fc r1 ac rf kn) (fun qP qD qF => va_runV (As := []) (rest := [.int r8]) ⟨hx, hb, hml, hown, hts⟩ (c_X1_crowd l dC dI cB cI cJ cZ a _ ce fr un sb se so sc wb we wo wc fb fe fo fc r1 ac rf kn  r9 g9) (kcwV hts kw_319 kv_X1_crowd rfl rfl ⟨(Nat.le_of_ble_eq_true rfl), (Nat.le_of_ble_eq_true rfl)⟩) (kpV (A := A) qP hK qD hG (krecv_3 (q0 := 0) hK hP rfl)) rfl rfl hl.1 rfl (lv_room (Nat.le_of_ble_eq_true rfl)) (kdr dgX1_isSoundInWishes_0 1 7 rfl rfl) ⟨(Nat.le_of_ble_eq_true rfl), (Nat.le_of_ble_eq_true rfl)⟩) hP hD hS hA kFr_SB (fun H locs hP hD hS br9 => ?_)
      refine lv_icmp_ne (tgt := 43) hx hb (kdr dgX1_isSoundInWishes_0 1 8 rfl rfl) (by decide) (fun c10 => ?_) (fun c10 => ?_)
      · have h := g_f c10 h
        refine lv_iconst (v := 0) hx hb (kdr dgX1_isSoundInWishes_0 2 1 rfl rfl) (by decide) ?_
        have h := Option.some.inj h
        subst h
        exact kret_i (v := 0) hx hb hr rfl hlocks hS hP (kdr dgX1_isSoundInWishes_0 2 2 rfl rfl)
      · have h := g_t c10 h
        refine lv_iconst (v := 1) hx hb (kdr dgX1_isSoundInWishes_0 1 9 rfl rfl) (by decide) ?_
        refine lv_goto (tgt := 44) hx hb (kdr dgX1_isSoundInWishes_0 2 0 rfl rfl) (by decide) ?_
        have h := Option.some.inj h
        subst h
        exact kret_i (v := 1) hx hb hr rfl hlocks hS hP (kdr dgX1_isSoundInWishes_0 2 2 rfl rfl)
noncomputable abbrev wsX1_isSound : List Cond := kWs yX1_isSound cX1_isSound 1 (some .boolean)
noncomputable def f_X1_isSound (fr : Int64) (un : Int64) (sb : Nat → Int64) (se : Nat → Int64) (so : Nat → Int32) (sc : Int32) (wb : Nat → Int64) (we : Nat → Int64) (wc : Int32) (fb : Nat → Int64) (fe : Nat → Int64) (fo : Nat → Int32) (fc : Int32) (rm : Nat → Int32) : Option ((Int32) × (Nat → Int64) × (Nat → Int64) × (Nat → Int32) × (Int32) × (Nat → Int32)) :=
  if un ≤ fr then
    some (0, fb, fe, fo, fc, rm)
  else
    (f_X1_isSoundInSpans fr un sb se so sc).bind fun r2 =>
    if r2 = 0 then
      some (0, fb, fe, fo, fc, rm)
    else
      (f_X1_isSoundInFrees fr un sb se sc fb fe fo fc).bind fun r4 =>
      if r4.1 = 0 then
        some (0, r4.2.1, r4.2.2.1, r4.2.2.2.1, r4.2.2.2.2, rm)
      else
        (f_X1_isSoundInWishes wb we wc rm).bind fun r6 =>
        if r6.1 = 0 then
          some (0, r4.2.1, r4.2.2.1, r4.2.2.2.1, r4.2.2.2.2, r6.2)
        else
          some (1, r4.2.1, r4.2.2.1, r4.2.2.2.1, r4.2.2.2.2, r6.2)
theorem f_X1_isSound_e {fr : Int64} {un : Int64} {sb : Nat → Int64} {se : Nat → Int64} {so : Nat → Int32} {sc : Int32} {wb : Nat → Int64} {we : Nat → Int64} {wc : Int32} {fb : Nat → Int64} {fe : Nat → Int64} {fo : Nat → Int32} {fc : Int32} {rm : Nat → Int32} : f_X1_isSound fr un sb se so sc wb we wc fb fe fo fc rm = 
  if un ≤ fr then
    some (0, fb, fe, fo, fc, rm)
  else
    (f_X1_isSoundInSpans fr un sb se so sc).bind fun r2 =>
    if r2 = 0 then
      some (0, fb, fe, fo, fc, rm)
    else
      (f_X1_isSoundInFrees fr un sb se sc fb fe fo fc).bind fun r4 =>
      if r4.1 = 0 then
        some (0, r4.2.1, r4.2.2.1, r4.2.2.2.1, r4.2.2.2.2, rm)
      else
        (f_X1_isSoundInWishes wb we wc rm).bind fun r6 =>
        if r6.1 = 0 then
          some (0, r4.2.1, r4.2.2.1, r4.2.2.2.1, r4.2.2.2.2, r6.2)
        else
          some (1, r4.2.1, r4.2.2.1, r4.2.2.2.1, r4.2.2.2.2, r6.2) := rfl
set_option maxHeartbeats 4000000 in
set_option maxRecDepth 100000 in
theorem c_X1_isSound (l : Launch) (dC : Nat → ClassId) (dI : Nat → Nat → Nat) (cB cI cJ cZ : ClassId) (a : Nat → Nat) (sz : Nat) (ce : Nat → Int64) (fr : Int64) (un : Int64) (sb : Nat → Int64) (se : Nat → Int64) (so : Nat → Int32) (sc : Int32) (wb : Nat → Int64) (we : Nat → Int64) (wo : Nat → Int32) (wc : Int32) (fb : Nat → Int64) (fe : Nat → Int64) (fo : Nat → Int32) (fc : Int32) (rm : Nat → Int32) (ac : Int32) (rf : Int32) (kn : Int32) (res : (Int32) × (Nat → Int64) × (Nat → Int64) × (Nat → Int32) × (Int32) × (Nat → Int32)) (hf : f_X1_isSound fr un sb se so sc wb we wc fb fe fo fc rm = some res) : kMi l yX1_isSound wsX1_isSound (kRm 5 0 0 118) dC dI cB cI cJ cZ [.ref (a 0)] sz (wSB cI cJ cZ a ce fr un sb se so sc wb we wo wc fb fe fo fc rm ac rf kn) .boolean (res.1) (wSB cI cJ cZ a ce fr un sb se so sc wb we wo wc (res.2.1) (res.2.2.1) (res.2.2.2.1) (res.2.2.2.2.1) (res.2.2.2.2.2) ac rf kn) 0 0 := by
  refine kmet_i (y := yX1_isSound) (cc := cX1_isSound) (maxL := 1) (ret := (some .boolean)) RX1 (kvA 0 (a 0) kvE) kpl_X1 rfl rfl (Nat.le_of_ble_eq_true rfl) rfl (fun p e s m below meth c A ls hx hb hr hml hts hown hlocks hP hK hG hD hA hS hl => ?_)
  have hw0 := hts (.fieldLink RX1 13 "Spanbooker" "from" "J") (List.mem_cons_of_mem _ kw_108)
  have hw1 := hts (.fieldLink RX1 19 "Spanbooker" "until" "J") (List.mem_cons_of_mem _ kw_109)
  have hiX1 : ∀ w ∈ u_ws RX1 TX1 10, w ∈ wsX1_isSound := fun w h => List.mem_cons_of_mem _ (ku_X1 w h)
  have h := f_X1_isSound_e.symm.trans hf
  refine lv_aload_n hx hb (kdr dgX1_isSound_0 0 0 rfl rfl) rfl (lv_at hl 0 rfl) ?_
  refine va_get (D := (dC, dI)) (ci := 3) (v := .long fr) (C := RX1) (T := TX1) (N := 10) hx hb hts hiX1 hown hK hP 0 rfl rfl 1 (by decide) hw0 (fun _ h9 => h9) rfl (kdr dgX1_isSound_0 0 1 rfl rfl) ?_
  refine lv_aload_n hx hb (kdr dgX1_isSound_0 0 2 rfl rfl) rfl (lv_at hl 0 rfl) ?_
  refine va_get (D := (dC, dI)) (ci := 3) (v := .long un) (C := RX1) (T := TX1) (N := 10) hx hb hts hiX1 hown hK hP 0 rfl rfl 2 (by decide) hw1 (fun _ h9 => h9) rfl (kdr dgX1_isSound_0 0 3 rfl rfl) ?_
  refine kl_ge (pc := 8) (tgt := 37) hx hb (kdr dgX1_isSound_0 0 4 rfl rfl) (kdr dgX1_isSound_0 0 5 rfl rfl) (by decide) (fun c1 => ?_) (fun c1 => ?_)
  · have h := g_t c1 h
    refine lv_iconst (v := 0) hx hb (kdr dgX1_isSound_0 1 7 rfl rfl) (by decide) ?_
    have h := Option.some.inj h
    subst h
    exact kret_i (v := 0) hx hb hr rfl hlocks hS hP (kdr dgX1_isSound_0 1 8 rfl rfl)
  · have h := g_f c1 h
    refine lv_aload_n hx hb (kdr dgX1_isSound_0 0 6 rfl rfl) rfl (lv_at hl 0 rfl) ?_
    obtain ⟨r2, g2, h⟩ := g_b h
    refine kq_i (wSB cI cJ cZ a ce fr un sb se so sc wb we wo wc fb fe fo fc rm ac rf kn) (fun qP qD qF => va_runV (As := []) (rest := []) ⟨hx, hb, hml, hown, hts⟩ (c_X1_isSoundInSpans l dC dI cB cI cJ cZ a _ ce fr un sb se so sc wb we wo wc fb fe fo fc rm ac rf kn  r2 g2) (kcwV hts kw_272 kv_X1_isSoundInSpans rfl rfl ⟨(Nat.le_of_ble_eq_true rfl), (Nat.le_of_ble_eq_true rfl)⟩) (kpV (A := A) qP hK qD hG (krecv_3 (q0 := 0) hK hP rfl)) rfl rfl hl.1 rfl (lv_room (Nat.le_of_ble_eq_true rfl)) (kdr dgX1_isSound_0 0 7 rfl rfl) ⟨(Nat.le_of_ble_eq_true rfl), (Nat.le_of_ble_eq_true rfl)⟩) hP hD hS hA kFr_SB (fun H locs hP hD hS br2 => ?_)
    refine lv_if_eq (tgt := 37) hx hb (kdr dgX1_isSound_0 0 8 rfl rfl) (by decide) (fun c3 => ?_) (fun c3 => ?_)
    · have h := g_t c3 h
      refine lv_iconst (v := 0) hx hb (kdr dgX1_isSound_0 1 7 rfl rfl) (by decide) ?_
      have h := Option.some.inj h
      subst h
      exact kret_i (v := 0) hx hb hr rfl hlocks hS hP (kdr dgX1_isSound_0 1 8 rfl rfl)
    · have h := g_f c3 h
      refine lv_aload_n hx hb (kdr dgX1_isSound_0 0 9 rfl rfl) rfl (lv_at hl 0 rfl) ?_
      obtain ⟨r4, g4, h⟩ := g_b h
      refine kq_i (wSB cI cJ cZ a ce fr un sb se so sc wb we wo wc r4.2.1 r4.2.2.1 r4.2.2.2.1 r4.2.2.2.2 rm ac rf kn) (fun qP qD qF => va_runV (As := []) (rest := []) ⟨hx, hb, hml, hown, hts⟩ (c_X1_isSoundInFrees l dC dI cB cI cJ cZ a _ ce fr un sb se so sc wb we wo wc fb fe fo fc rm ac rf kn  r4 g4) (kcwV hts kw_284 kv_X1_isSoundInFrees rfl rfl ⟨(Nat.le_of_ble_eq_true rfl), (Nat.le_of_ble_eq_true rfl)⟩) (kpV (A := A) qP hK qD hG (krecv_3 (q0 := 0) hK hP rfl)) rfl rfl hl.1 rfl (lv_room (Nat.le_of_ble_eq_true rfl)) (kdr dgX1_isSound_0 1 0 rfl rfl) ⟨(Nat.le_of_ble_eq_true rfl), (Nat.le_of_ble_eq_true rfl)⟩) hP hD hS hA kFr_SB (fun H locs hP hD hS br4 => ?_)
      refine lv_if_eq (tgt := 37) hx hb (kdr dgX1_isSound_0 1 1 rfl rfl) (by decide) (fun c5 => ?_) (fun c5 => ?_)
      · have h := g_t c5 h
        refine lv_iconst (v := 0) hx hb (kdr dgX1_isSound_0 1 7 rfl rfl) (by decide) ?_
        have h := Option.some.inj h
        subst h
        exact kret_i (v := 0) hx hb hr rfl hlocks hS hP (kdr dgX1_isSound_0 1 8 rfl rfl)
      · have h := g_f c5 h
        refine lv_aload_n hx hb (kdr dgX1_isSound_0 1 2 rfl rfl) rfl (lv_at hl 0 rfl) ?_
        obtain ⟨r6, g6, h⟩ := g_b h
        refine kq_i (wSB cI cJ cZ a ce fr un sb se so sc wb we wo wc r4.2.1 r4.2.2.1 r4.2.2.2.1 r4.2.2.2.2 r6.2 ac rf kn) (fun qP qD qF => va_runV (As := []) (rest := []) ⟨hx, hb, hml, hown, hts⟩ (c_X1_isSoundInWishes l dC dI cB cI cJ cZ a _ ce fr un sb se so sc wb we wo wc r4.2.1 r4.2.2.1 r4.2.2.2.1 r4.2.2.2.2 rm ac rf kn  r6 g6) (kcwV hts kw_296 kv_X1_isSoundInWishes rfl rfl ⟨(Nat.le_of_ble_eq_true rfl), (Nat.le_of_ble_eq_true rfl)⟩) (kpV (A := A) qP hK qD hG (krecv_3 (q0 := 0) hK hP rfl)) rfl rfl hl.1 rfl (lv_room (Nat.le_of_ble_eq_true rfl)) (kdr dgX1_isSound_0 1 3 rfl rfl) ⟨(Nat.le_of_ble_eq_true rfl), (Nat.le_of_ble_eq_true rfl)⟩) hP hD hS hA kFr_SB (fun H locs hP hD hS br6 => ?_)
        refine lv_if_eq (tgt := 37) hx hb (kdr dgX1_isSound_0 1 4 rfl rfl) (by decide) (fun c7 => ?_) (fun c7 => ?_)
        · have h := g_t c7 h
          refine lv_iconst (v := 0) hx hb (kdr dgX1_isSound_0 1 7 rfl rfl) (by decide) ?_
          have h := Option.some.inj h
          subst h
          exact kret_i (v := 0) hx hb hr rfl hlocks hS hP (kdr dgX1_isSound_0 1 8 rfl rfl)
        · have h := g_f c7 h
          refine lv_iconst (v := 1) hx hb (kdr dgX1_isSound_0 1 5 rfl rfl) (by decide) ?_
          refine lv_goto (tgt := 38) hx hb (kdr dgX1_isSound_0 1 6 rfl rfl) (by decide) ?_
          have h := Option.some.inj h
          subst h
          exact kret_i (v := 1) hx hb hr rfl hlocks hS hP (kdr dgX1_isSound_0 1 8 rfl rfl)
noncomputable abbrev wsX1_mix : List Cond := kWs yX1_mix cX1_mix 3 (some .long)
noncomputable def f_X1_mix (p0 : Int64) (p1 : Int32) : Option (Int64) :=
  some ((p0 * 31) + p1.toInt64)
theorem f_X1_mix_e {p0 : Int64} {p1 : Int32} : f_X1_mix p0 p1 = 
  some ((p0 * 31) + p1.toInt64) := rfl
set_option maxHeartbeats 4000000 in
set_option maxRecDepth 100000 in
theorem c_X1_mix (l : Launch) (dC : Nat → ClassId) (dI : Nat → Nat → Nat) (cB cI cJ cZ : ClassId) (sz : Nat) (p0 : Int64) (p1 : Int32) (res : Int64) (hf : f_X1_mix p0 p1 = some res) : kMl l yX1_mix wsX1_mix (kRm 0 0 0 0) dC dI cB cI cJ cZ [.long p0, .int p1] sz [] (res) [] 0 0 := by
  refine kmet_l (y := yX1_mix) (cc := cX1_mix) (maxL := 3) (ret := (some .long)) RX1 (kvJ 0 p0 (kvI 2 p1 kvE)) kpl_X1 rfl rfl (Nat.le_of_ble_eq_true rfl) rfl (fun p e s m below meth c A ls hx hb hr hml hts hown hlocks hP hK hG hD hA hS hl => ?_)
  have hw0 := hts (.constantLong RX1 320 (31)) (List.mem_cons_of_mem _ kw_339)
  have h := f_X1_mix_e.symm.trans hf
  refine lv_lload_n hx hb (kdr dgX1_mix_0 0 0 rfl rfl) rfl (lv_at hl 0 rfl) ?_
  refine lv_ldc2 (v := (31)) hx hb hown hw0 (kdr dgX1_mix_0 0 1 rfl rfl) ?_
  refine lv_lmul hx hb (kdr dgX1_mix_0 0 2 rfl rfl) ?_
  refine lv_iload_n hx hb (kdr dgX1_mix_0 0 3 rfl rfl) rfl (lv_at hl 1 rfl) ?_
  refine lv_i2l (v := p1.toInt64) hx hb (kdr dgX1_mix_0 0 4 rfl rfl) rfl ?_
  refine lv_ladd hx hb (kdr dgX1_mix_0 0 5 rfl rfl) ?_
  have h := Option.some.inj h
  subst h
  exact kret_l (v := (p0 * 31) + p1.toInt64) hx hb hr hlocks hS hP (kdr dgX1_mix_0 0 6 rfl rfl)
noncomputable abbrev wsX1_mixParts : List Cond := kWs yX1_mixParts cX1_mixParts 7 (some .long)
noncomputable def f_X1_mixParts_6 : Nat → (Nat → Int64) → (Nat → Int64) → (Int32) → (Int32) → (Int64) → (Int32) → Option (Int64)
  | 0, _, _, _, _, _, _ => none
  | n + 1, rb, re, rc, x3, x4, x6 =>
    if 4 ≤ x6 then
      some x4
    else
      (f_X1_partIn rb re rc x3 x6).bind fun r2 =>
      (f_X1_mix x4 r2).bind fun r3 =>
      f_X1_mixParts_6 n rb re rc x3 r3 (x6 + 1)
theorem f_X1_mixParts_6_0 {rb : Nat → Int64} {re : Nat → Int64} {rc : Int32} {x3 : Int32} {x4 : Int64} {x6 : Int32} : f_X1_mixParts_6 0 rb re rc x3 x4 x6 = none := rfl
theorem f_X1_mixParts_6_s {n : Nat} {rb : Nat → Int64} {re : Nat → Int64} {rc : Int32} {x3 : Int32} {x4 : Int64} {x6 : Int32} : f_X1_mixParts_6 (n + 1) rb re rc x3 x4 x6 =
  if 4 ≤ x6 then
    some x4
  else
    (f_X1_partIn rb re rc x3 x6).bind fun r2 =>
    (f_X1_mix x4 r2).bind fun r3 =>
    f_X1_mixParts_6 n rb re rc x3 r3 (x6 + 1) := rfl
noncomputable def f_X1_mixParts (rb : Nat → Int64) (re : Nat → Int64) (rc : Int32) (p0 : Int64) (p2 : Int32) : Option (Int64) :=
  f_X1_mixParts_6 24 rb re rc p2 p0 0
theorem f_X1_mixParts_e {rb : Nat → Int64} {re : Nat → Int64} {rc : Int32} {p0 : Int64} {p2 : Int32} : f_X1_mixParts rb re rc p0 p2 = 
  f_X1_mixParts_6 24 rb re rc p2 p0 0 := rfl
set_option maxHeartbeats 4000000 in
set_option maxRecDepth 100000 in
theorem c_X1_mixParts (l : Launch) (dC : Nat → ClassId) (dI : Nat → Nat → Nat) (cB cI cJ cZ : ClassId) (h0 : Nat) (h1 : Nat) (h2 : Nat) (h3 : Nat) (sz : Nat) (rb : Nat → Int64) (re : Nat → Int64) (ro : Nat → Int32) (rc : Int32) (p0 : Int64) (p2 : Int32) (res : Int64) (hf : f_X1_mixParts rb re rc p0 p2 = some res) : kMl l yX1_mixParts wsX1_mixParts (kRm 4 0 0 90) dC dI cB cI cJ cZ [.long p0, .ref h0, .int p2] sz (wRow cJ cZ h0 h1 h2 h3 rb re ro rc) (res) (wRow cJ cZ h0 h1 h2 h3 rb re ro rc) 0 0 := by
  refine kmet_l (y := yX1_mixParts) (cc := cX1_mixParts) (maxL := 7) (ret := (some .long)) RX1 (kvJ 0 p0 (kvA 2 h0 (kvI 3 p2 kvE))) kpl_X1 rfl rfl (Nat.le_of_ble_eq_true rfl) rfl (fun p e s m below meth c A ls hx hb hr hml hts hown hlocks hP hK hG hD hA hS hl => ?_)
  have J6 : ∀ (n : Nat), ∀ (rb : Nat → Int64) (re : Nat → Int64) (ro : Nat → Int32) (rc : Int32) (x3 : Int32) (x4 : Int64) (x6 : Int32) (H : Heap) (locs : List Loc), va_P (dC, dI) vwCl (wRow cJ cZ h0 h1 h2 h3 rb re ro rc) H → va_D A (wRow cJ cZ h0 h1 h2 h3 rb re ro rc) → va_S A s.heap H locs → ∀ (ls : Array Slot), lv_has ls 7 (kvA 2 h0 (kvI 3 x3 (kvJ 4 x4 (kvI 6 x6 kvE)))) → f_X1_mixParts_6 n rb re rc x3 x4 x6 = some res → W p l e (headSpec wsX1_mixParts (kRm 4 0 0 90)).room s m ([.long p0, .ref h0, .int p2] : List Value).toArray below meth c H locs 0 0 (MQ below (kL (dC, dI) (res) (wRow cJ cZ h0 h1 h2 h3 rb re ro rc) A) ([.long p0, .ref h0, .int p2] : List Value).toArray s 0 0 A) (F0 m 6 ls []) := by
    intro n
    induction n with
    | zero =>
      intro rb re ro rc x3 x4 x6 H locs hP hD hS ls hl h
      have h := f_X1_mixParts_6_0.symm.trans h
      cases h
    | succ n ih =>
      intro rb re ro rc x3 x4 x6 H locs hP hD hS ls hl h
      have h := f_X1_mixParts_6_s.symm.trans h
      refine lv_iload hx hb (kdr dgX1_mixParts_0 0 4 rfl rfl) (lv_at hl 3 rfl) ?_
      refine lv_iconst (v := 4) hx hb (kdr dgX1_mixParts_0 0 5 rfl rfl) (by decide) ?_
      refine lv_icmp_ge (tgt := 32) hx hb (kdr dgX1_mixParts_0 0 6 rfl rfl) (by decide) (fun c1 => ?_) (fun c1 => ?_)
      · have h := g_t c1 h
        refine lv_lload hx hb (kdr dgX1_mixParts_0 1 6 rfl rfl) (lv_at hl 2 rfl) ?_
        have h := Option.some.inj h
        subst h
        exact kret_l (v := x4) hx hb hr hlocks hS hP (kdr dgX1_mixParts_0 1 7 rfl rfl)
      · have h := g_f c1 h
        refine lv_lload hx hb (kdr dgX1_mixParts_0 0 7 rfl rfl) (lv_at hl 2 rfl) ?_
        refine lv_aload_n hx hb (kdr dgX1_mixParts_0 0 8 rfl rfl) rfl (lv_at hl 0 rfl) ?_
        refine lv_iload_n hx hb (kdr dgX1_mixParts_0 0 9 rfl rfl) rfl (lv_at hl 1 rfl) ?_
        refine lv_iload hx hb (kdr dgX1_mixParts_0 1 0 rfl rfl) (lv_at hl 3 rfl) ?_
        obtain ⟨r2, g2, h⟩ := g_b h
        refine kq_i (wRow cJ cZ h0 h1 h2 h3 rb re ro rc) (fun qP qD qF => va_runS (As := [.ref h0, .int x3, .int x6]) (rest := [.long x4]) ⟨hx, hb, hml, hown, hts⟩ (c_X1_partIn l dC dI cB cI cJ cZ h0 h1 h2 h3 _ rb re ro rc x3 x6 r2 g2) (kcwS hts kw_433 kv_X1_partIn rfl rfl ⟨(Nat.le_of_ble_eq_true rfl), (Nat.le_of_ble_eq_true rfl)⟩) (kpS (A := A) qP hK qD hG) rfl rfl hl.1 rfl (lv_room (Nat.le_of_ble_eq_true rfl)) (kdr dgX1_mixParts_0 1 1 rfl rfl) ⟨(Nat.le_of_ble_eq_true rfl), (Nat.le_of_ble_eq_true rfl)⟩) hP hD hS hA kFr_Row (fun H locs hP hD hS br2 => ?_)
        obtain ⟨r3, g3, h⟩ := g_b h
        refine kq_l (wRow cJ cZ h0 h1 h2 h3 rb re ro rc) (fun qP qD qF => va_runS (As := [.long x4, .int r2]) (rest := []) ⟨hx, hb, hml, hown, hts⟩ (c_X1_mix l dC dI cB cI cJ cZ  _  x4 r2 r3 g3) (kcwS hts kw_336 kv_X1_mix rfl rfl ⟨(Nat.le_of_ble_eq_true rfl), (Nat.le_of_ble_eq_true rfl)⟩) (kpS (A := A) (kPnil) hK ((kDnil (A := A))) hG) rfl rfl hl.1 rfl (lv_room (Nat.le_of_ble_eq_true rfl)) (kdr dgX1_mixParts_0 1 2 rfl rfl) ⟨(Nat.le_of_ble_eq_true rfl), (Nat.le_of_ble_eq_true rfl)⟩) hP hD hS hA kFr_n (fun H locs hP hD hS => ?_)
        refine lv_lstore (lv' := (kvJ 4 r3 (kvA 2 h0 (kvI 3 x3 (kvI 6 x6 kvE))))) hx hb (kdr dgX1_mixParts_0 1 3 rfl rfl) hl (by decide) rfl (fun ls hl => ?_)
        refine lv_iinc (v := x6 + 1) (lv' := (kvI 6 (x6 + 1) (kvJ 4 r3 (kvA 2 h0 (kvI 3 x3 kvE))))) hx hb (kdr dgX1_mixParts_0 1 4 rfl rfl) hl (k := 3) rfl rfl (by decide) rfl (fun ls hl => ?_)
        refine lv_goto (tgt := 6) hx hb (kdr dgX1_mixParts_0 1 5 rfl rfl) (by decide) ?_
        exact ih rb re ro rc x3 r3 (x6 + 1) _ _ hP hD hS ls (lv_sub hl [2, 3, 1, 0] rfl) h
  have h := f_X1_mixParts_e.symm.trans hf
  refine lv_lload_n hx hb (kdr dgX1_mixParts_0 0 0 rfl rfl) rfl (lv_at hl 0 rfl) ?_
  refine lv_lstore (lv' := (kvJ 4 p0 (kvJ 0 p0 (kvA 2 h0 (kvI 3 p2 kvE))))) hx hb (kdr dgX1_mixParts_0 0 1 rfl rfl) hl (by decide) rfl (fun ls hl => ?_)
  refine lv_iconst (v := 0) hx hb (kdr dgX1_mixParts_0 0 2 rfl rfl) (by decide) ?_
  refine lv_istore (lv' := (kvI 6 0 (kvJ 4 p0 (kvJ 0 p0 (kvA 2 h0 (kvI 3 p2 kvE)))))) hx hb (kdr dgX1_mixParts_0 0 3 rfl rfl) hl (by decide) rfl (fun ls hl => ?_)
  exact J6 24 rb re ro rc p2 p0 0 _ _ hP hD hS ls (lv_sub hl [3, 4, 1, 0] rfl) h
noncomputable abbrev wsX1_mixCells : List Cond := kWs yX1_mixCells cX1_mixCells 6 (some .long)
noncomputable def f_X1_mixCells_5 : Nat → (Nat → Int64) → (Nat → Int64) → (Nat → Int64) → (Int32) → (Nat → Int64) → (Nat → Int64) → (Int32) → (Int64) → (Int32) → Option (Int64)
  | 0, _, _, _, _, _, _, _, _, _ => none
  | n + 1, ce, sb, se, sc, fb, fe, fc, x3, x5 =>
    if 4 ≤ x5 then
      some x3
    else
      if ix x5 4 then
        (f_X1_secondOf (ce x5.toNatClampNeg)).bind fun r3 =>
        (f_X1_mix x3 r3).bind fun r4 =>
        (f_X1_nanoOf (ce x5.toNatClampNeg)).bind fun r5 =>
        (f_X1_mix r4 r5).bind fun r6 =>
        (f_X0_firstWith sb se sc (ce x5.toNatClampNeg)).bind fun r7 =>
        (f_X1_mix r6 r7).bind fun r8 =>
        (f_X0_firstWith fb fe fc (ce x5.toNatClampNeg)).bind fun r9 =>
        (f_X1_mix r8 r9).bind fun r10 =>
        f_X1_mixCells_5 n ce sb se sc fb fe fc r10 (x5 + 1)
      else none
theorem f_X1_mixCells_5_0 {ce : Nat → Int64} {sb : Nat → Int64} {se : Nat → Int64} {sc : Int32} {fb : Nat → Int64} {fe : Nat → Int64} {fc : Int32} {x3 : Int64} {x5 : Int32} : f_X1_mixCells_5 0 ce sb se sc fb fe fc x3 x5 = none := rfl
theorem f_X1_mixCells_5_s {n : Nat} {ce : Nat → Int64} {sb : Nat → Int64} {se : Nat → Int64} {sc : Int32} {fb : Nat → Int64} {fe : Nat → Int64} {fc : Int32} {x3 : Int64} {x5 : Int32} : f_X1_mixCells_5 (n + 1) ce sb se sc fb fe fc x3 x5 =
  if 4 ≤ x5 then
    some x3
  else
    if ix x5 4 then
      (f_X1_secondOf (ce x5.toNatClampNeg)).bind fun r3 =>
      (f_X1_mix x3 r3).bind fun r4 =>
      (f_X1_nanoOf (ce x5.toNatClampNeg)).bind fun r5 =>
      (f_X1_mix r4 r5).bind fun r6 =>
      (f_X0_firstWith sb se sc (ce x5.toNatClampNeg)).bind fun r7 =>
      (f_X1_mix r6 r7).bind fun r8 =>
      (f_X0_firstWith fb fe fc (ce x5.toNatClampNeg)).bind fun r9 =>
      (f_X1_mix r8 r9).bind fun r10 =>
      f_X1_mixCells_5 n ce sb se sc fb fe fc r10 (x5 + 1)
    else none := rfl
noncomputable def f_X1_mixCells (ce : Nat → Int64) (sb : Nat → Int64) (se : Nat → Int64) (sc : Int32) (fb : Nat → Int64) (fe : Nat → Int64) (fc : Int32) (p0 : Int64) : Option (Int64) :=
  f_X1_mixCells_5 24 ce sb se sc fb fe fc p0 0
theorem f_X1_mixCells_e {ce : Nat → Int64} {sb : Nat → Int64} {se : Nat → Int64} {sc : Int32} {fb : Nat → Int64} {fe : Nat → Int64} {fc : Int32} {p0 : Int64} : f_X1_mixCells ce sb se sc fb fe fc p0 = 
  f_X1_mixCells_5 24 ce sb se sc fb fe fc p0 0 := rfl
set_option maxHeartbeats 4000000 in
set_option maxRecDepth 100000 in
theorem c_X1_mixCells (l : Launch) (dC : Nat → ClassId) (dI : Nat → Nat → Nat) (cB cI cJ cZ : ClassId) (a : Nat → Nat) (sz : Nat) (ce : Nat → Int64) (fr : Int64) (un : Int64) (sb : Nat → Int64) (se : Nat → Int64) (so : Nat → Int32) (sc : Int32) (wb : Nat → Int64) (we : Nat → Int64) (wo : Nat → Int32) (wc : Int32) (fb : Nat → Int64) (fe : Nat → Int64) (fo : Nat → Int32) (fc : Int32) (rm : Nat → Int32) (ac : Int32) (rf : Int32) (kn : Int32) (p0 : Int64) (res : Int64) (hf : f_X1_mixCells ce sb se sc fb fe fc p0 = some res) : kMl l yX1_mixCells wsX1_mixCells (kRm 2 0 0 48) dC dI cB cI cJ cZ [.ref (a 0), .long p0] sz (wSB cI cJ cZ a ce fr un sb se so sc wb we wo wc fb fe fo fc rm ac rf kn) (res) (wSB cI cJ cZ a ce fr un sb se so sc wb we wo wc fb fe fo fc rm ac rf kn) 0 0 := by
  refine kmet_l (y := yX1_mixCells) (cc := cX1_mixCells) (maxL := 6) (ret := (some .long)) RX1 (kvA 0 (a 0) (kvJ 1 p0 kvE)) kpl_X1 rfl rfl (Nat.le_of_ble_eq_true rfl) rfl (fun p e s m below meth c A ls hx hb hr hml hts hown hlocks hP hK hG hD hA hS hl => ?_)
  have hw0 := hts (.fieldLink RX1 9 "Spanbooker" "cells" "[J") (List.mem_cons_of_mem _ kw_107)
  have hw1 := hts (.fieldLink RX1 25 "Spanbooker" "spanRow" "LSpanbooker$Row;") (List.mem_cons_of_mem _ kw_110)
  have hw2 := hts (.fieldLink RX1 32 "Spanbooker" "freeRow" "LSpanbooker$Row;") (List.mem_cons_of_mem _ kw_112)
  have hiX1 : ∀ w ∈ u_ws RX1 TX1 10, w ∈ wsX1_mixCells := fun w h => List.mem_cons_of_mem _ (ku_X1 w h)
  have J5 : ∀ (n : Nat), ∀ (ce : Nat → Int64) (fr : Int64) (un : Int64) (sb : Nat → Int64) (se : Nat → Int64) (so : Nat → Int32) (sc : Int32) (wb : Nat → Int64) (we : Nat → Int64) (wo : Nat → Int32) (wc : Int32) (fb : Nat → Int64) (fe : Nat → Int64) (fo : Nat → Int32) (fc : Int32) (rm : Nat → Int32) (ac : Int32) (rf : Int32) (kn : Int32) (x3 : Int64) (x5 : Int32) (H : Heap) (locs : List Loc), va_P (dC, dI) vwCl (wSB cI cJ cZ a ce fr un sb se so sc wb we wo wc fb fe fo fc rm ac rf kn) H → va_D A (wSB cI cJ cZ a ce fr un sb se so sc wb we wo wc fb fe fo fc rm ac rf kn) → va_S A s.heap H locs → ∀ (ls : Array Slot), lv_has ls 6 (kvA 0 (a 0) (kvJ 3 x3 (kvI 5 x5 kvE))) → f_X1_mixCells_5 n ce sb se sc fb fe fc x3 x5 = some res → W p l e (headSpec wsX1_mixCells (kRm 2 0 0 48)).room s m ([.ref (a 0), .long p0] : List Value).toArray below meth c H locs 0 0 (MQ below (kL (dC, dI) (res) (wSB cI cJ cZ a ce fr un sb se so sc wb we wo wc fb fe fo fc rm ac rf kn) A) ([.ref (a 0), .long p0] : List Value).toArray s 0 0 A) (F0 m 5 ls []) := by
    intro n
    induction n with
    | zero =>
      intro ce fr un sb se so sc wb we wo wc fb fe fo fc rm ac rf kn x3 x5 H locs hP hD hS ls hl h
      have h := f_X1_mixCells_5_0.symm.trans h
      cases h
    | succ n ih =>
      intro ce fr un sb se so sc wb we wo wc fb fe fo fc rm ac rf kn x3 x5 H locs hP hD hS ls hl h
      have h := f_X1_mixCells_5_s.symm.trans h
      refine lv_iload hx hb (kdr dgX1_mixCells_0 0 4 rfl rfl) (lv_at hl 2 rfl) ?_
      refine lv_iconst (v := 4) hx hb (kdr dgX1_mixCells_0 0 5 rfl rfl) (by decide) ?_
      refine lv_icmp_ge (tgt := 85) hx hb (kdr dgX1_mixCells_0 0 6 rfl rfl) (by decide) (fun c1 => ?_) (fun c1 => ?_)
      · have h := g_t c1 h
        refine lv_lload_n hx hb (kdr dgX1_mixCells_0 4 5 rfl rfl) rfl (lv_at hl 1 rfl) ?_
        have h := Option.some.inj h
        subst h
        exact kret_l (v := x3) hx hb hr hlocks hS hP (kdr dgX1_mixCells_0 4 6 rfl rfl)
      · have h := g_f c1 h
        refine lv_lload_n hx hb (kdr dgX1_mixCells_0 0 7 rfl rfl) rfl (lv_at hl 1 rfl) ?_
        refine lv_aload_n hx hb (kdr dgX1_mixCells_0 0 8 rfl rfl) rfl (lv_at hl 0 rfl) ?_
        refine va_get (D := (dC, dI)) (ci := 3) (v := .ref (a 1)) (C := RX1) (T := TX1) (N := 10) hx hb hts hiX1 hown hK hP 0 rfl rfl 0 (by decide) hw0 (fun _ h9 => h9) rfl (kdr dgX1_mixCells_0 0 9 rfl rfl) ?_
        refine lv_iload hx hb (kdr dgX1_mixCells_0 1 0 rfl rfl) (lv_at hl 2 rfl) ?_
        obtain ⟨z1, h⟩ := g_if h
        refine va_lald hx hb hK hP 1 2 rfl rfl (ix_in z1) (kdr dgX1_mixCells_0 1 1 rfl rfl) ?_
        obtain ⟨r3, g3, h⟩ := g_b h
        refine kq_i (wSB cI cJ cZ a ce fr un sb se so sc wb we wo wc fb fe fo fc rm ac rf kn) (fun qP qD qF => va_runS (As := [.long (ce x5.toNatClampNeg)]) (rest := [.long x3]) ⟨hx, hb, hml, hown, hts⟩ (c_X1_secondOf l dC dI cB cI cJ cZ  _  (ce x5.toNatClampNeg) r3 g3) (kcwS hts kw_329 kv_X1_secondOf rfl rfl ⟨(Nat.le_of_ble_eq_true rfl), (Nat.le_of_ble_eq_true rfl)⟩) (kpS (A := A) (kPnil) hK ((kDnil (A := A))) hG) rfl rfl hl.1 rfl (lv_room (Nat.le_of_ble_eq_true rfl)) (kdr dgX1_mixCells_0 1 2 rfl rfl) ⟨(Nat.le_of_ble_eq_true rfl), (Nat.le_of_ble_eq_true rfl)⟩) hP hD hS hA kFr_n (fun H locs hP hD hS br3 => ?_)
        obtain ⟨r4, g4, h⟩ := g_b h
        refine kq_l (wSB cI cJ cZ a ce fr un sb se so sc wb we wo wc fb fe fo fc rm ac rf kn) (fun qP qD qF => va_runS (As := [.long x3, .int r3]) (rest := []) ⟨hx, hb, hml, hown, hts⟩ (c_X1_mix l dC dI cB cI cJ cZ  _  x3 r3 r4 g4) (kcwS hts kw_336 kv_X1_mix rfl rfl ⟨(Nat.le_of_ble_eq_true rfl), (Nat.le_of_ble_eq_true rfl)⟩) (kpS (A := A) (kPnil) hK ((kDnil (A := A))) hG) rfl rfl hl.1 rfl (lv_room (Nat.le_of_ble_eq_true rfl)) (kdr dgX1_mixCells_0 1 3 rfl rfl) ⟨(Nat.le_of_ble_eq_true rfl), (Nat.le_of_ble_eq_true rfl)⟩) hP hD hS hA kFr_n (fun H locs hP hD hS => ?_)
        refine lv_lstore_n (lv' := (kvJ 3 r4 (kvA 0 (a 0) (kvI 5 x5 kvE)))) hx hb (kdr dgX1_mixCells_0 1 4 rfl rfl) rfl hl (by decide) rfl (fun ls hl => ?_)
        refine lv_lload_n hx hb (kdr dgX1_mixCells_0 1 5 rfl rfl) rfl (lv_at hl 0 rfl) ?_
        refine lv_aload_n hx hb (kdr dgX1_mixCells_0 1 6 rfl rfl) rfl (lv_at hl 1 rfl) ?_
        refine va_get (D := (dC, dI)) (ci := 3) (v := .ref (a 1)) (C := RX1) (T := TX1) (N := 10) hx hb hts hiX1 hown hK hP 0 rfl rfl 0 (by decide) hw0 (fun _ h9 => h9) rfl (kdr dgX1_mixCells_0 1 7 rfl rfl) ?_
        refine lv_iload hx hb (kdr dgX1_mixCells_0 1 8 rfl rfl) (lv_at hl 2 rfl) ?_
        refine va_lald hx hb hK hP 1 2 rfl rfl (ix_in z1) (kdr dgX1_mixCells_0 1 9 rfl rfl) ?_
        obtain ⟨r5, g5, h⟩ := g_b h
        refine kq_i (wSB cI cJ cZ a ce fr un sb se so sc wb we wo wc fb fe fo fc rm ac rf kn) (fun qP qD qF => va_runS (As := [.long (ce x5.toNatClampNeg)]) (rest := [.long r4]) ⟨hx, hb, hml, hown, hts⟩ (c_X1_nanoOf l dC dI cB cI cJ cZ  _  (ce x5.toNatClampNeg) r5 g5) (kcwS hts kw_340 kv_X1_nanoOf rfl rfl ⟨(Nat.le_of_ble_eq_true rfl), (Nat.le_of_ble_eq_true rfl)⟩) (kpS (A := A) (kPnil) hK ((kDnil (A := A))) hG) rfl rfl hl.1 rfl (lv_room (Nat.le_of_ble_eq_true rfl)) (kdr dgX1_mixCells_0 2 0 rfl rfl) ⟨(Nat.le_of_ble_eq_true rfl), (Nat.le_of_ble_eq_true rfl)⟩) hP hD hS hA kFr_n (fun H locs hP hD hS br5 => ?_)
        obtain ⟨r6, g6, h⟩ := g_b h
        refine kq_l (wSB cI cJ cZ a ce fr un sb se so sc wb we wo wc fb fe fo fc rm ac rf kn) (fun qP qD qF => va_runS (As := [.long r4, .int r5]) (rest := []) ⟨hx, hb, hml, hown, hts⟩ (c_X1_mix l dC dI cB cI cJ cZ  _  r4 r5 r6 g6) (kcwS hts kw_336 kv_X1_mix rfl rfl ⟨(Nat.le_of_ble_eq_true rfl), (Nat.le_of_ble_eq_true rfl)⟩) (kpS (A := A) (kPnil) hK ((kDnil (A := A))) hG) rfl rfl hl.1 rfl (lv_room (Nat.le_of_ble_eq_true rfl)) (kdr dgX1_mixCells_0 2 1 rfl rfl) ⟨(Nat.le_of_ble_eq_true rfl), (Nat.le_of_ble_eq_true rfl)⟩) hP hD hS hA kFr_n (fun H locs hP hD hS => ?_)
        refine lv_lstore_n (lv' := (kvJ 3 r6 (kvA 0 (a 0) (kvI 5 x5 kvE)))) hx hb (kdr dgX1_mixCells_0 2 2 rfl rfl) rfl hl (by decide) rfl (fun ls hl => ?_)
        refine lv_lload_n hx hb (kdr dgX1_mixCells_0 2 3 rfl rfl) rfl (lv_at hl 0 rfl) ?_
        refine lv_aload_n hx hb (kdr dgX1_mixCells_0 2 4 rfl rfl) rfl (lv_at hl 1 rfl) ?_
        refine va_get (D := (dC, dI)) (ci := 3) (v := .ref (a 2)) (C := RX1) (T := TX1) (N := 10) hx hb hts hiX1 hown hK hP 0 rfl rfl 3 (by decide) hw1 (fun _ h9 => h9) rfl (kdr dgX1_mixCells_0 2 5 rfl rfl) ?_
        refine lv_aload_n hx hb (kdr dgX1_mixCells_0 2 6 rfl rfl) rfl (lv_at hl 1 rfl) ?_
        refine va_get (D := (dC, dI)) (ci := 3) (v := .ref (a 1)) (C := RX1) (T := TX1) (N := 10) hx hb hts hiX1 hown hK hP 0 rfl rfl 0 (by decide) hw0 (fun _ h9 => h9) rfl (kdr dgX1_mixCells_0 2 7 rfl rfl) ?_
        refine lv_iload hx hb (kdr dgX1_mixCells_0 2 8 rfl rfl) (lv_at hl 2 rfl) ?_
        refine va_lald hx hb hK hP 1 2 rfl rfl (ix_in z1) (kdr dgX1_mixCells_0 2 9 rfl rfl) ?_
        obtain ⟨r7, g7, h⟩ := g_b h
        refine kq_i (wSB cI cJ cZ a ce fr un sb se so sc wb we wo wc fb fe fo fc rm ac rf kn) (fun qP qD qF => va_runV (As := [.long (ce x5.toNatClampNeg)]) (rest := [.long r6]) ⟨hx, hb, hml, hown, hts⟩ (c_X0_firstWith l dC dI cB cI cJ cZ (a 2) (a 3) (a 4) (a 5) _ sb se so sc (ce x5.toNatClampNeg) r7 g7) (kcwV hts kw_206 kv_X0_firstWith rfl rfl ⟨(Nat.le_of_ble_eq_true rfl), (Nat.le_of_ble_eq_true rfl)⟩) (kpV (A := A) qP hK qD hG (krecv_2 (q0 := 2) hK hP rfl)) rfl rfl hl.1 rfl (lv_room (Nat.le_of_ble_eq_true rfl)) (kdr dgX1_mixCells_0 3 0 rfl rfl) ⟨(Nat.le_of_ble_eq_true rfl), (Nat.le_of_ble_eq_true rfl)⟩) hP hD hS hA kFr_SBs (fun H locs hP hD hS br7 => ?_)
        obtain ⟨r8, g8, h⟩ := g_b h
        refine kq_l (wSB cI cJ cZ a ce fr un sb se so sc wb we wo wc fb fe fo fc rm ac rf kn) (fun qP qD qF => va_runS (As := [.long r6, .int r7]) (rest := []) ⟨hx, hb, hml, hown, hts⟩ (c_X1_mix l dC dI cB cI cJ cZ  _  r6 r7 r8 g8) (kcwS hts kw_336 kv_X1_mix rfl rfl ⟨(Nat.le_of_ble_eq_true rfl), (Nat.le_of_ble_eq_true rfl)⟩) (kpS (A := A) (kPnil) hK ((kDnil (A := A))) hG) rfl rfl hl.1 rfl (lv_room (Nat.le_of_ble_eq_true rfl)) (kdr dgX1_mixCells_0 3 1 rfl rfl) ⟨(Nat.le_of_ble_eq_true rfl), (Nat.le_of_ble_eq_true rfl)⟩) hP hD hS hA kFr_n (fun H locs hP hD hS => ?_)
        refine lv_lstore_n (lv' := (kvJ 3 r8 (kvA 0 (a 0) (kvI 5 x5 kvE)))) hx hb (kdr dgX1_mixCells_0 3 2 rfl rfl) rfl hl (by decide) rfl (fun ls hl => ?_)
        refine lv_lload_n hx hb (kdr dgX1_mixCells_0 3 3 rfl rfl) rfl (lv_at hl 0 rfl) ?_
        refine lv_aload_n hx hb (kdr dgX1_mixCells_0 3 4 rfl rfl) rfl (lv_at hl 1 rfl) ?_
        refine va_get (D := (dC, dI)) (ci := 3) (v := .ref (a 10)) (C := RX1) (T := TX1) (N := 10) hx hb hts hiX1 hown hK hP 0 rfl rfl 5 (by decide) hw2 (fun _ h9 => h9) rfl (kdr dgX1_mixCells_0 3 5 rfl rfl) ?_
        refine lv_aload_n hx hb (kdr dgX1_mixCells_0 3 6 rfl rfl) rfl (lv_at hl 1 rfl) ?_
        refine va_get (D := (dC, dI)) (ci := 3) (v := .ref (a 1)) (C := RX1) (T := TX1) (N := 10) hx hb hts hiX1 hown hK hP 0 rfl rfl 0 (by decide) hw0 (fun _ h9 => h9) rfl (kdr dgX1_mixCells_0 3 7 rfl rfl) ?_
        refine lv_iload hx hb (kdr dgX1_mixCells_0 3 8 rfl rfl) (lv_at hl 2 rfl) ?_
        refine va_lald hx hb hK hP 1 2 rfl rfl (ix_in z1) (kdr dgX1_mixCells_0 3 9 rfl rfl) ?_
        obtain ⟨r9, g9, h⟩ := g_b h
        refine kq_i (wSB cI cJ cZ a ce fr un sb se so sc wb we wo wc fb fe fo fc rm ac rf kn) (fun qP qD qF => va_runV (As := [.long (ce x5.toNatClampNeg)]) (rest := [.long r8]) ⟨hx, hb, hml, hown, hts⟩ (c_X0_firstWith l dC dI cB cI cJ cZ (a 10) (a 11) (a 12) (a 13) _ fb fe fo fc (ce x5.toNatClampNeg) r9 g9) (kcwV hts kw_206 kv_X0_firstWith rfl rfl ⟨(Nat.le_of_ble_eq_true rfl), (Nat.le_of_ble_eq_true rfl)⟩) (kpV (A := A) qP hK qD hG (krecv_2 (q0 := 10) hK hP rfl)) rfl rfl hl.1 rfl (lv_room (Nat.le_of_ble_eq_true rfl)) (kdr dgX1_mixCells_0 4 0 rfl rfl) ⟨(Nat.le_of_ble_eq_true rfl), (Nat.le_of_ble_eq_true rfl)⟩) hP hD hS hA kFr_SBf (fun H locs hP hD hS br9 => ?_)
        obtain ⟨r10, g10, h⟩ := g_b h
        refine kq_l (wSB cI cJ cZ a ce fr un sb se so sc wb we wo wc fb fe fo fc rm ac rf kn) (fun qP qD qF => va_runS (As := [.long r8, .int r9]) (rest := []) ⟨hx, hb, hml, hown, hts⟩ (c_X1_mix l dC dI cB cI cJ cZ  _  r8 r9 r10 g10) (kcwS hts kw_336 kv_X1_mix rfl rfl ⟨(Nat.le_of_ble_eq_true rfl), (Nat.le_of_ble_eq_true rfl)⟩) (kpS (A := A) (kPnil) hK ((kDnil (A := A))) hG) rfl rfl hl.1 rfl (lv_room (Nat.le_of_ble_eq_true rfl)) (kdr dgX1_mixCells_0 4 1 rfl rfl) ⟨(Nat.le_of_ble_eq_true rfl), (Nat.le_of_ble_eq_true rfl)⟩) hP hD hS hA kFr_n (fun H locs hP hD hS => ?_)
        refine lv_lstore_n (lv' := (kvJ 3 r10 (kvA 0 (a 0) (kvI 5 x5 kvE)))) hx hb (kdr dgX1_mixCells_0 4 2 rfl rfl) rfl hl (by decide) rfl (fun ls hl => ?_)
        refine lv_iinc (v := x5 + 1) (lv' := (kvI 5 (x5 + 1) (kvJ 3 r10 (kvA 0 (a 0) kvE)))) hx hb (kdr dgX1_mixCells_0 4 3 rfl rfl) hl (k := 2) rfl rfl (by decide) rfl (fun ls hl => ?_)
        refine lv_goto (tgt := 5) hx hb (kdr dgX1_mixCells_0 4 4 rfl rfl) (by decide) ?_
        exact ih ce fr un sb se so sc wb we wo wc fb fe fo fc rm ac rf kn r10 (x5 + 1) _ _ hP hD hS ls (lv_sub hl [2, 1, 0] rfl) h
  have h := f_X1_mixCells_e.symm.trans hf
  refine lv_lload_n hx hb (kdr dgX1_mixCells_0 0 0 rfl rfl) rfl (lv_at hl 1 rfl) ?_
  refine lv_lstore_n (lv' := (kvJ 3 p0 (kvA 0 (a 0) (kvJ 1 p0 kvE)))) hx hb (kdr dgX1_mixCells_0 0 1 rfl rfl) rfl hl (by decide) rfl (fun ls hl => ?_)
  refine lv_iconst (v := 0) hx hb (kdr dgX1_mixCells_0 0 2 rfl rfl) (by decide) ?_
  refine lv_istore (lv' := (kvI 5 0 (kvJ 3 p0 (kvA 0 (a 0) (kvJ 1 p0 kvE))))) hx hb (kdr dgX1_mixCells_0 0 3 rfl rfl) hl (by decide) rfl (fun ls hl => ?_)
  exact J5 24 ce fr un sb se so sc wb we wo wc fb fe fo fc rm ac rf kn p0 0 _ _ hP hD hS ls (lv_sub hl [2, 1, 0] rfl) h
noncomputable abbrev wsX1_mixSpans : List Cond := kWs yX1_mixSpans cX1_mixSpans 6 (some .long)
noncomputable def f_X1_mixSpans_84 (K43 : (Nat → Int64) → (Nat → Int64) → (Nat → Int32) → (Int32) → (Int64) → (Int32) → Option (Int64)) (sb : Nat → Int64) (se : Nat → Int64) (so : Nat → Int32) (sc : Int32) (x5 : Int32) (y0 : Int32) (y1 : Int64) : Option (Int64) :=
  (f_X1_mix y1 y0).bind fun r1 =>
  K43 sb se so sc r1 (x5 + 1)
theorem f_X1_mixSpans_84_e {K43 : (Nat → Int64) → (Nat → Int64) → (Nat → Int32) → (Int32) → (Int64) → (Int32) → Option (Int64)} {sb : Nat → Int64} {se : Nat → Int64} {so : Nat → Int32} {sc : Int32} {x5 : Int32} {y0 : Int32} {y1 : Int64} : f_X1_mixSpans_84 K43 sb se so sc x5 y0 y1 =
  (f_X1_mix y1 y0).bind fun r1 =>
  K43 sb se so sc r1 (x5 + 1) := rfl
noncomputable def f_X1_mixSpans_43 : Nat → (Nat → Int64) → (Nat → Int64) → (Nat → Int32) → (Int32) → (Int64) → (Int32) → Option (Int64)
  | 0, _, _, _, _, _, _ => none
  | n + 1, sb, se, so, sc, x3, x5 =>
    (f_X0_count sc).bind fun r1 =>
    if r1 ≤ x5 then
      (f_X1_clashes sb se sc).bind fun r3 =>
      (f_X1_mix x3 r3).bind fun r4 =>
      (f_X1_deepest sb se sc).bind fun r5 =>
      (f_X1_mix r4 r5).bind fun r6 =>
      some r6
    else
      (f_X1_mixParts sb se sc x3 x5).bind fun r3 =>
      (f_X0_isOver so sc x5).bind fun r4 =>
      if r4 = 0 then
        f_X1_mixSpans_84 (f_X1_mixSpans_43 n) sb se so sc x5 0 r3
      else
        f_X1_mixSpans_84 (f_X1_mixSpans_43 n) sb se so sc x5 1 r3
theorem f_X1_mixSpans_43_0 {sb : Nat → Int64} {se : Nat → Int64} {so : Nat → Int32} {sc : Int32} {x3 : Int64} {x5 : Int32} : f_X1_mixSpans_43 0 sb se so sc x3 x5 = none := rfl
theorem f_X1_mixSpans_43_s {n : Nat} {sb : Nat → Int64} {se : Nat → Int64} {so : Nat → Int32} {sc : Int32} {x3 : Int64} {x5 : Int32} : f_X1_mixSpans_43 (n + 1) sb se so sc x3 x5 =
  (f_X0_count sc).bind fun r1 =>
  if r1 ≤ x5 then
    (f_X1_clashes sb se sc).bind fun r3 =>
    (f_X1_mix x3 r3).bind fun r4 =>
    (f_X1_deepest sb se sc).bind fun r5 =>
    (f_X1_mix r4 r5).bind fun r6 =>
    some r6
  else
    (f_X1_mixParts sb se sc x3 x5).bind fun r3 =>
    (f_X0_isOver so sc x5).bind fun r4 =>
    if r4 = 0 then
      f_X1_mixSpans_84 (f_X1_mixSpans_43 n) sb se so sc x5 0 r3
    else
      f_X1_mixSpans_84 (f_X1_mixSpans_43 n) sb se so sc x5 1 r3 := rfl
noncomputable def f_X1_mixSpans_5 : Nat → (Int64) → (Int64) → (Nat → Int64) → (Nat → Int64) → (Nat → Int32) → (Int32) → (Int64) → (Int32) → Option (Int64)
  | 0, _, _, _, _, _, _, _, _ => none
  | n + 1, fr, un, sb, se, so, sc, x3, x5 =>
    if 4 ≤ x5 then
      (f_X0_count sc).bind fun r2 =>
      (f_X1_mix x3 r2).bind fun r3 =>
      f_X1_mixSpans_43 24 sb se so sc r3 0
    else
      (f_X1_calendar fr un x5).bind fun r2 =>
      (f_X1_mix x3 r2).bind fun r3 =>
      f_X1_mixSpans_5 n fr un sb se so sc r3 (x5 + 1)
theorem f_X1_mixSpans_5_0 {fr : Int64} {un : Int64} {sb : Nat → Int64} {se : Nat → Int64} {so : Nat → Int32} {sc : Int32} {x3 : Int64} {x5 : Int32} : f_X1_mixSpans_5 0 fr un sb se so sc x3 x5 = none := rfl
theorem f_X1_mixSpans_5_s {n : Nat} {fr : Int64} {un : Int64} {sb : Nat → Int64} {se : Nat → Int64} {so : Nat → Int32} {sc : Int32} {x3 : Int64} {x5 : Int32} : f_X1_mixSpans_5 (n + 1) fr un sb se so sc x3 x5 =
  if 4 ≤ x5 then
    (f_X0_count sc).bind fun r2 =>
    (f_X1_mix x3 r2).bind fun r3 =>
    f_X1_mixSpans_43 24 sb se so sc r3 0
  else
    (f_X1_calendar fr un x5).bind fun r2 =>
    (f_X1_mix x3 r2).bind fun r3 =>
    f_X1_mixSpans_5 n fr un sb se so sc r3 (x5 + 1) := rfl
noncomputable def f_X1_mixSpans (fr : Int64) (un : Int64) (sb : Nat → Int64) (se : Nat → Int64) (so : Nat → Int32) (sc : Int32) (p0 : Int64) : Option (Int64) :=
  f_X1_mixSpans_5 24 fr un sb se so sc p0 0
theorem f_X1_mixSpans_e {fr : Int64} {un : Int64} {sb : Nat → Int64} {se : Nat → Int64} {so : Nat → Int32} {sc : Int32} {p0 : Int64} : f_X1_mixSpans fr un sb se so sc p0 = 
  f_X1_mixSpans_5 24 fr un sb se so sc p0 0 := rfl
set_option maxHeartbeats 4000000 in
set_option maxRecDepth 100000 in
theorem c_X1_mixSpans (l : Launch) (dC : Nat → ClassId) (dI : Nat → Nat → Nat) (cB cI cJ cZ : ClassId) (a : Nat → Nat) (sz : Nat) (ce : Nat → Int64) (fr : Int64) (un : Int64) (sb : Nat → Int64) (se : Nat → Int64) (so : Nat → Int32) (sc : Int32) (wb : Nat → Int64) (we : Nat → Int64) (wo : Nat → Int32) (wc : Int32) (fb : Nat → Int64) (fe : Nat → Int64) (fo : Nat → Int32) (fc : Int32) (rm : Nat → Int32) (ac : Int32) (rf : Int32) (kn : Int32) (p0 : Int64) (res : Int64) (hf : f_X1_mixSpans fr un sb se so sc p0 = some res) : kMl l yX1_mixSpans wsX1_mixSpans (kRm 5 0 0 116) dC dI cB cI cJ cZ [.ref (a 0), .long p0] sz (wSB cI cJ cZ a ce fr un sb se so sc wb we wo wc fb fe fo fc rm ac rf kn) (res) (wSB cI cJ cZ a ce fr un sb se so sc wb we wo wc fb fe fo fc rm ac rf kn) 0 0 := by
  refine kmet_l (y := yX1_mixSpans) (cc := cX1_mixSpans) (maxL := 6) (ret := (some .long)) RX1 (kvA 0 (a 0) (kvJ 1 p0 kvE)) kpl_X1 rfl rfl (Nat.le_of_ble_eq_true rfl) rfl (fun p e s m below meth c A ls hx hb hr hml hts hown hlocks hP hK hG hD hA hS hl => ?_)
  have hw0 := hts (.fieldLink RX1 25 "Spanbooker" "spanRow" "LSpanbooker$Row;") (List.mem_cons_of_mem _ kw_110)
  have hiX1 : ∀ w ∈ u_ws RX1 TX1 10, w ∈ wsX1_mixSpans := fun w h => List.mem_cons_of_mem _ (ku_X1 w h)
  have J84 : ∀ (K43 : (Nat → Int64) → (Nat → Int64) → (Nat → Int32) → (Int32) → (Int64) → (Int32) → Option (Int64)), (∀ (ce : Nat → Int64) (fr : Int64) (un : Int64) (sb : Nat → Int64) (se : Nat → Int64) (so : Nat → Int32) (sc : Int32) (wb : Nat → Int64) (we : Nat → Int64) (wo : Nat → Int32) (wc : Int32) (fb : Nat → Int64) (fe : Nat → Int64) (fo : Nat → Int32) (fc : Int32) (rm : Nat → Int32) (ac : Int32) (rf : Int32) (kn : Int32) (x3 : Int64) (x5 : Int32) (H : Heap) (locs : List Loc), va_P (dC, dI) vwCl (wSB cI cJ cZ a ce fr un sb se so sc wb we wo wc fb fe fo fc rm ac rf kn) H → va_D A (wSB cI cJ cZ a ce fr un sb se so sc wb we wo wc fb fe fo fc rm ac rf kn) → va_S A s.heap H locs → ∀ (ls : Array Slot), lv_has ls 6 (kvA 0 (a 0) (kvJ 3 x3 (kvI 5 x5 kvE))) → K43 sb se so sc x3 x5 = some res → W p l e (headSpec wsX1_mixSpans (kRm 5 0 0 116)).room s m ([.ref (a 0), .long p0] : List Value).toArray below meth c H locs 0 0 (MQ below (kL (dC, dI) (res) (wSB cI cJ cZ a ce fr un sb se so sc wb we wo wc fb fe fo fc rm ac rf kn) A) ([.ref (a 0), .long p0] : List Value).toArray s 0 0 A) (F0 m 43 ls [])) → ∀ (ce : Nat → Int64) (fr : Int64) (un : Int64) (sb : Nat → Int64) (se : Nat → Int64) (so : Nat → Int32) (sc : Int32) (wb : Nat → Int64) (we : Nat → Int64) (wo : Nat → Int32) (wc : Int32) (fb : Nat → Int64) (fe : Nat → Int64) (fo : Nat → Int32) (fc : Int32) (rm : Nat → Int32) (ac : Int32) (rf : Int32) (kn : Int32) (x5 : Int32) (y0 : Int32) (y1 : Int64) (H : Heap) (locs : List Loc), va_P (dC, dI) vwCl (wSB cI cJ cZ a ce fr un sb se so sc wb we wo wc fb fe fo fc rm ac rf kn) H → va_D A (wSB cI cJ cZ a ce fr un sb se so sc wb we wo wc fb fe fo fc rm ac rf kn) → va_S A s.heap H locs → ∀ (ls : Array Slot), lv_has ls 6 (kvA 0 (a 0) (kvI 5 x5 kvE)) → f_X1_mixSpans_84 K43 sb se so sc x5 y0 y1 = some res → W p l e (headSpec wsX1_mixSpans (kRm 5 0 0 116)).room s m ([.ref (a 0), .long p0] : List Value).toArray below meth c H locs 0 0 (MQ below (kL (dC, dI) (res) (wSB cI cJ cZ a ce fr un sb se so sc wb we wo wc fb fe fo fc rm ac rf kn) A) ([.ref (a 0), .long p0] : List Value).toArray s 0 0 A) (F0 m 84 ls [.int y0, .long y1]) := by
    intro K43 hK43 ce fr un sb se so sc wb we wo wc fb fe fo fc rm ac rf kn x5 y0 y1 H locs hP hD hS ls hl h
    have h := f_X1_mixSpans_84_e.symm.trans h
    obtain ⟨r1, g1, h⟩ := g_b h
    refine kq_l (wSB cI cJ cZ a ce fr un sb se so sc wb we wo wc fb fe fo fc rm ac rf kn) (fun qP qD qF => va_runS (As := [.long y1, .int y0]) (rest := []) ⟨hx, hb, hml, hown, hts⟩ (c_X1_mix l dC dI cB cI cJ cZ  _  y1 y0 r1 g1) (kcwS hts kw_336 kv_X1_mix rfl rfl ⟨(Nat.le_of_ble_eq_true rfl), (Nat.le_of_ble_eq_true rfl)⟩) (kpS (A := A) (kPnil) hK ((kDnil (A := A))) hG) rfl rfl hl.1 rfl (lv_room (Nat.le_of_ble_eq_true rfl)) (kdr dgX1_mixSpans_0 4 3 rfl rfl) ⟨(Nat.le_of_ble_eq_true rfl), (Nat.le_of_ble_eq_true rfl)⟩) hP hD hS hA kFr_n (fun H locs hP hD hS => ?_)
    refine lv_lstore_n (lv' := (kvJ 3 r1 (kvA 0 (a 0) (kvI 5 x5 kvE)))) hx hb (kdr dgX1_mixSpans_0 4 4 rfl rfl) rfl hl (by decide) rfl (fun ls hl => ?_)
    refine lv_iinc (v := x5 + 1) (lv' := (kvI 5 (x5 + 1) (kvJ 3 r1 (kvA 0 (a 0) kvE)))) hx hb (kdr dgX1_mixSpans_0 4 5 rfl rfl) hl (k := 2) rfl rfl (by decide) rfl (fun ls hl => ?_)
    refine lv_goto (tgt := 43) hx hb (kdr dgX1_mixSpans_0 4 6 rfl rfl) (by decide) ?_
    exact hK43 ce fr un sb se so sc wb we wo wc fb fe fo fc rm ac rf kn r1 (x5 + 1) _ _ hP hD hS ls (lv_sub hl [2, 1, 0] rfl) h
  have J43 : ∀ (n : Nat), ∀ (ce : Nat → Int64) (fr : Int64) (un : Int64) (sb : Nat → Int64) (se : Nat → Int64) (so : Nat → Int32) (sc : Int32) (wb : Nat → Int64) (we : Nat → Int64) (wo : Nat → Int32) (wc : Int32) (fb : Nat → Int64) (fe : Nat → Int64) (fo : Nat → Int32) (fc : Int32) (rm : Nat → Int32) (ac : Int32) (rf : Int32) (kn : Int32) (x3 : Int64) (x5 : Int32) (H : Heap) (locs : List Loc), va_P (dC, dI) vwCl (wSB cI cJ cZ a ce fr un sb se so sc wb we wo wc fb fe fo fc rm ac rf kn) H → va_D A (wSB cI cJ cZ a ce fr un sb se so sc wb we wo wc fb fe fo fc rm ac rf kn) → va_S A s.heap H locs → ∀ (ls : Array Slot), lv_has ls 6 (kvA 0 (a 0) (kvJ 3 x3 (kvI 5 x5 kvE))) → f_X1_mixSpans_43 n sb se so sc x3 x5 = some res → W p l e (headSpec wsX1_mixSpans (kRm 5 0 0 116)).room s m ([.ref (a 0), .long p0] : List Value).toArray below meth c H locs 0 0 (MQ below (kL (dC, dI) (res) (wSB cI cJ cZ a ce fr un sb se so sc wb we wo wc fb fe fo fc rm ac rf kn) A) ([.ref (a 0), .long p0] : List Value).toArray s 0 0 A) (F0 m 43 ls []) := by
    intro n
    induction n with
    | zero =>
      intro ce fr un sb se so sc wb we wo wc fb fe fo fc rm ac rf kn x3 x5 H locs hP hD hS ls hl h
      have h := f_X1_mixSpans_43_0.symm.trans h
      cases h
    | succ n ih =>
      intro ce fr un sb se so sc wb we wo wc fb fe fo fc rm ac rf kn x3 x5 H locs hP hD hS ls hl h
      have h := f_X1_mixSpans_43_s.symm.trans h
      refine lv_iload hx hb (kdr dgX1_mixSpans_0 2 3 rfl rfl) (lv_at hl 2 rfl) ?_
      refine lv_aload_n hx hb (kdr dgX1_mixSpans_0 2 4 rfl rfl) rfl (lv_at hl 0 rfl) ?_
      refine va_get (D := (dC, dI)) (ci := 3) (v := .ref (a 2)) (C := RX1) (T := TX1) (N := 10) hx hb hts hiX1 hown hK hP 0 rfl rfl 3 (by decide) hw0 (fun _ h9 => h9) rfl (kdr dgX1_mixSpans_0 2 5 rfl rfl) ?_
      obtain ⟨r1, g1, h⟩ := g_b h
      refine kq_i (wSB cI cJ cZ a ce fr un sb se so sc wb we wo wc fb fe fo fc rm ac rf kn) (fun qP qD qF => va_runV (As := []) (rest := [.int x5]) ⟨hx, hb, hml, hown, hts⟩ (c_X0_count l dC dI cB cI cJ cZ (a 2) (a 3) (a 4) (a 5) _ sb se so sc  r1 g1) (kcwV hts kw_155 kv_X0_count rfl rfl ⟨(Nat.le_of_ble_eq_true rfl), (Nat.le_of_ble_eq_true rfl)⟩) (kpV (A := A) qP hK qD hG (krecv_2 (q0 := 2) hK hP rfl)) rfl rfl hl.1 rfl (lv_room (Nat.le_of_ble_eq_true rfl)) (kdr dgX1_mixSpans_0 2 6 rfl rfl) ⟨(Nat.le_of_ble_eq_true rfl), (Nat.le_of_ble_eq_true rfl)⟩) hP hD hS hA kFr_SBs (fun H locs hP hD hS br1 => ?_)
      refine lv_icmp_ge (tgt := 94) hx hb (kdr dgX1_mixSpans_0 2 7 rfl rfl) (by decide) (fun c2 => ?_) (fun c2 => ?_)
      · have h := g_t c2 h
        refine lv_lload_n hx hb (kdr dgX1_mixSpans_0 4 7 rfl rfl) rfl (lv_at hl 1 rfl) ?_
        refine lv_aload_n hx hb (kdr dgX1_mixSpans_0 4 8 rfl rfl) rfl (lv_at hl 0 rfl) ?_
        obtain ⟨r3, g3, h⟩ := g_b h
        refine kq_i (wSB cI cJ cZ a ce fr un sb se so sc wb we wo wc fb fe fo fc rm ac rf kn) (fun qP qD qF => va_runV (As := []) (rest := [.long x3]) ⟨hx, hb, hml, hown, hts⟩ (c_X1_clashes l dC dI cB cI cJ cZ a _ ce fr un sb se so sc wb we wo wc fb fe fo fc rm ac rf kn  r3 g3) (kcwV hts kw_436 kv_X1_clashes rfl rfl ⟨(Nat.le_of_ble_eq_true rfl), (Nat.le_of_ble_eq_true rfl)⟩) (kpV (A := A) qP hK qD hG (krecv_3 (q0 := 0) hK hP rfl)) rfl rfl hl.1 rfl (lv_room (Nat.le_of_ble_eq_true rfl)) (kdr dgX1_mixSpans_0 4 9 rfl rfl) ⟨(Nat.le_of_ble_eq_true rfl), (Nat.le_of_ble_eq_true rfl)⟩) hP hD hS hA kFr_SB (fun H locs hP hD hS br3 => ?_)
        obtain ⟨r4, g4, h⟩ := g_b h
        refine kq_l (wSB cI cJ cZ a ce fr un sb se so sc wb we wo wc fb fe fo fc rm ac rf kn) (fun qP qD qF => va_runS (As := [.long x3, .int r3]) (rest := []) ⟨hx, hb, hml, hown, hts⟩ (c_X1_mix l dC dI cB cI cJ cZ  _  x3 r3 r4 g4) (kcwS hts kw_336 kv_X1_mix rfl rfl ⟨(Nat.le_of_ble_eq_true rfl), (Nat.le_of_ble_eq_true rfl)⟩) (kpS (A := A) (kPnil) hK ((kDnil (A := A))) hG) rfl rfl hl.1 rfl (lv_room (Nat.le_of_ble_eq_true rfl)) (kdr dgX1_mixSpans_0 5 0 rfl rfl) ⟨(Nat.le_of_ble_eq_true rfl), (Nat.le_of_ble_eq_true rfl)⟩) hP hD hS hA kFr_n (fun H locs hP hD hS => ?_)
        refine lv_lstore_n (lv' := (kvJ 3 r4 (kvA 0 (a 0) (kvI 5 x5 kvE)))) hx hb (kdr dgX1_mixSpans_0 5 1 rfl rfl) rfl hl (by decide) rfl (fun ls hl => ?_)
        refine lv_lload_n hx hb (kdr dgX1_mixSpans_0 5 2 rfl rfl) rfl (lv_at hl 0 rfl) ?_
        refine lv_aload_n hx hb (kdr dgX1_mixSpans_0 5 3 rfl rfl) rfl (lv_at hl 1 rfl) ?_
        obtain ⟨r5, g5, h⟩ := g_b h
        refine kq_i (wSB cI cJ cZ a ce fr un sb se so sc wb we wo wc fb fe fo fc rm ac rf kn) (fun qP qD qF => va_runV (As := []) (rest := [.long r4]) ⟨hx, hb, hml, hown, hts⟩ (c_X1_deepest l dC dI cB cI cJ cZ a _ ce fr un sb se so sc wb we wo wc fb fe fo fc rm ac rf kn  r5 g5) (kcwV hts kw_437 kv_X1_deepest rfl rfl ⟨(Nat.le_of_ble_eq_true rfl), (Nat.le_of_ble_eq_true rfl)⟩) (kpV (A := A) qP hK qD hG (krecv_3 (q0 := 0) hK hP rfl)) rfl rfl hl.1 rfl (lv_room (Nat.le_of_ble_eq_true rfl)) (kdr dgX1_mixSpans_0 5 4 rfl rfl) ⟨(Nat.le_of_ble_eq_true rfl), (Nat.le_of_ble_eq_true rfl)⟩) hP hD hS hA kFr_SB (fun H locs hP hD hS br5 => ?_)
        obtain ⟨r6, g6, h⟩ := g_b h
        refine kq_l (wSB cI cJ cZ a ce fr un sb se so sc wb we wo wc fb fe fo fc rm ac rf kn) (fun qP qD qF => va_runS (As := [.long r4, .int r5]) (rest := []) ⟨hx, hb, hml, hown, hts⟩ (c_X1_mix l dC dI cB cI cJ cZ  _  r4 r5 r6 g6) (kcwS hts kw_336 kv_X1_mix rfl rfl ⟨(Nat.le_of_ble_eq_true rfl), (Nat.le_of_ble_eq_true rfl)⟩) (kpS (A := A) (kPnil) hK ((kDnil (A := A))) hG) rfl rfl hl.1 rfl (lv_room (Nat.le_of_ble_eq_true rfl)) (kdr dgX1_mixSpans_0 5 5 rfl rfl) ⟨(Nat.le_of_ble_eq_true rfl), (Nat.le_of_ble_eq_true rfl)⟩) hP hD hS hA kFr_n (fun H locs hP hD hS => ?_)
        have h := Option.some.inj h
        subst h
        exact kret_l (v := r6) hx hb hr hlocks hS hP (kdr dgX1_mixSpans_0 5 6 rfl rfl)
      · have h := g_f c2 h
        refine lv_lload_n hx hb (kdr dgX1_mixSpans_0 2 8 rfl rfl) rfl (lv_at hl 1 rfl) ?_
        refine lv_aload_n hx hb (kdr dgX1_mixSpans_0 2 9 rfl rfl) rfl (lv_at hl 0 rfl) ?_
        refine va_get (D := (dC, dI)) (ci := 3) (v := .ref (a 2)) (C := RX1) (T := TX1) (N := 10) hx hb hts hiX1 hown hK hP 0 rfl rfl 3 (by decide) hw0 (fun _ h9 => h9) rfl (kdr dgX1_mixSpans_0 3 0 rfl rfl) ?_
        refine lv_iload hx hb (kdr dgX1_mixSpans_0 3 1 rfl rfl) (lv_at hl 2 rfl) ?_
        obtain ⟨r3, g3, h⟩ := g_b h
        refine kq_l (wSB cI cJ cZ a ce fr un sb se so sc wb we wo wc fb fe fo fc rm ac rf kn) (fun qP qD qF => va_runS (As := [.long x3, .ref (a 2), .int x5]) (rest := []) ⟨hx, hb, hml, hown, hts⟩ (c_X1_mixParts l dC dI cB cI cJ cZ (a 2) (a 3) (a 4) (a 5) _ sb se so sc x3 x5 r3 g3) (kcwS hts kw_430 kv_X1_mixParts rfl rfl ⟨(Nat.le_of_ble_eq_true rfl), (Nat.le_of_ble_eq_true rfl)⟩) (kpS (A := A) qP hK qD hG) rfl rfl hl.1 rfl (lv_room (Nat.le_of_ble_eq_true rfl)) (kdr dgX1_mixSpans_0 3 2 rfl rfl) ⟨(Nat.le_of_ble_eq_true rfl), (Nat.le_of_ble_eq_true rfl)⟩) hP hD hS hA kFr_SBs (fun H locs hP hD hS => ?_)
        refine lv_lstore_n (lv' := (kvJ 3 r3 (kvA 0 (a 0) (kvI 5 x5 kvE)))) hx hb (kdr dgX1_mixSpans_0 3 3 rfl rfl) rfl hl (by decide) rfl (fun ls hl => ?_)
        refine lv_lload_n hx hb (kdr dgX1_mixSpans_0 3 4 rfl rfl) rfl (lv_at hl 0 rfl) ?_
        refine lv_aload_n hx hb (kdr dgX1_mixSpans_0 3 5 rfl rfl) rfl (lv_at hl 1 rfl) ?_
        refine va_get (D := (dC, dI)) (ci := 3) (v := .ref (a 2)) (C := RX1) (T := TX1) (N := 10) hx hb hts hiX1 hown hK hP 0 rfl rfl 3 (by decide) hw0 (fun _ h9 => h9) rfl (kdr dgX1_mixSpans_0 3 6 rfl rfl) ?_
        refine lv_iload hx hb (kdr dgX1_mixSpans_0 3 7 rfl rfl) (lv_at hl 2 rfl) ?_
        obtain ⟨r4, g4, h⟩ := g_b h
        refine kq_i (wSB cI cJ cZ a ce fr un sb se so sc wb we wo wc fb fe fo fc rm ac rf kn) (fun qP qD qF => va_runV (As := [.int x5]) (rest := [.long r3]) ⟨hx, hb, hml, hown, hts⟩ (c_X0_isOver l dC dI cB cI cJ cZ (a 2) (a 3) (a 4) (a 5) _ sb se so sc x5 r4 g4) (kcwV hts kw_280 kv_X0_isOver rfl rfl ⟨(Nat.le_of_ble_eq_true rfl), (Nat.le_of_ble_eq_true rfl)⟩) (kpV (A := A) qP hK qD hG (krecv_2 (q0 := 2) hK hP rfl)) rfl rfl hl.1 rfl (lv_room (Nat.le_of_ble_eq_true rfl)) (kdr dgX1_mixSpans_0 3 8 rfl rfl) ⟨(Nat.le_of_ble_eq_true rfl), (Nat.le_of_ble_eq_true rfl)⟩) hP hD hS hA kFr_SBs (fun H locs hP hD hS br4 => ?_)
        refine lv_if_eq (tgt := 83) hx hb (kdr dgX1_mixSpans_0 3 9 rfl rfl) (by decide) (fun c5 => ?_) (fun c5 => ?_)
        · have h := g_t c5 h
          refine lv_iconst (v := 0) hx hb (kdr dgX1_mixSpans_0 4 2 rfl rfl) (by decide) ?_
          exact J84 (f_X1_mixSpans_43 n) ih ce fr un sb se so sc wb we wo wc fb fe fo fc rm ac rf kn x5 0 r3 _ _ hP hD hS ls (lv_sub hl [1, 2] rfl) h
        · have h := g_f c5 h
          refine lv_iconst (v := 1) hx hb (kdr dgX1_mixSpans_0 4 0 rfl rfl) (by decide) ?_
          refine lv_goto (tgt := 84) hx hb (kdr dgX1_mixSpans_0 4 1 rfl rfl) (by decide) ?_
          exact J84 (f_X1_mixSpans_43 n) ih ce fr un sb se so sc wb we wo wc fb fe fo fc rm ac rf kn x5 1 r3 _ _ hP hD hS ls (lv_sub hl [1, 2] rfl) h
  have J5 : ∀ (n : Nat), ∀ (ce : Nat → Int64) (fr : Int64) (un : Int64) (sb : Nat → Int64) (se : Nat → Int64) (so : Nat → Int32) (sc : Int32) (wb : Nat → Int64) (we : Nat → Int64) (wo : Nat → Int32) (wc : Int32) (fb : Nat → Int64) (fe : Nat → Int64) (fo : Nat → Int32) (fc : Int32) (rm : Nat → Int32) (ac : Int32) (rf : Int32) (kn : Int32) (x3 : Int64) (x5 : Int32) (H : Heap) (locs : List Loc), va_P (dC, dI) vwCl (wSB cI cJ cZ a ce fr un sb se so sc wb we wo wc fb fe fo fc rm ac rf kn) H → va_D A (wSB cI cJ cZ a ce fr un sb se so sc wb we wo wc fb fe fo fc rm ac rf kn) → va_S A s.heap H locs → ∀ (ls : Array Slot), lv_has ls 6 (kvA 0 (a 0) (kvJ 3 x3 (kvI 5 x5 kvE))) → f_X1_mixSpans_5 n fr un sb se so sc x3 x5 = some res → W p l e (headSpec wsX1_mixSpans (kRm 5 0 0 116)).room s m ([.ref (a 0), .long p0] : List Value).toArray below meth c H locs 0 0 (MQ below (kL (dC, dI) (res) (wSB cI cJ cZ a ce fr un sb se so sc wb we wo wc fb fe fo fc rm ac rf kn) A) ([.ref (a 0), .long p0] : List Value).toArray s 0 0 A) (F0 m 5 ls []) := by
    intro n
    induction n with
    | zero =>
      intro ce fr un sb se so sc wb we wo wc fb fe fo fc rm ac rf kn x3 x5 H locs hP hD hS ls hl h
      have h := f_X1_mixSpans_5_0.symm.trans h
      cases h
    | succ n ih =>
      intro ce fr un sb se so sc wb we wo wc fb fe fo fc rm ac rf kn x3 x5 H locs hP hD hS ls hl h
      have h := f_X1_mixSpans_5_s.symm.trans h
      refine lv_iload hx hb (kdr dgX1_mixSpans_0 0 4 rfl rfl) (lv_at hl 2 rfl) ?_
      refine lv_iconst (v := 4) hx hb (kdr dgX1_mixSpans_0 0 5 rfl rfl) (by decide) ?_
      refine lv_icmp_ge (tgt := 28) hx hb (kdr dgX1_mixSpans_0 0 6 rfl rfl) (by decide) (fun c1 => ?_) (fun c1 => ?_)
      · have h := g_t c1 h
        refine lv_lload_n hx hb (kdr dgX1_mixSpans_0 1 5 rfl rfl) rfl (lv_at hl 1 rfl) ?_
        refine lv_aload_n hx hb (kdr dgX1_mixSpans_0 1 6 rfl rfl) rfl (lv_at hl 0 rfl) ?_
        refine va_get (D := (dC, dI)) (ci := 3) (v := .ref (a 2)) (C := RX1) (T := TX1) (N := 10) hx hb hts hiX1 hown hK hP 0 rfl rfl 3 (by decide) hw0 (fun _ h9 => h9) rfl (kdr dgX1_mixSpans_0 1 7 rfl rfl) ?_
        obtain ⟨r2, g2, h⟩ := g_b h
        refine kq_i (wSB cI cJ cZ a ce fr un sb se so sc wb we wo wc fb fe fo fc rm ac rf kn) (fun qP qD qF => va_runV (As := []) (rest := [.long x3]) ⟨hx, hb, hml, hown, hts⟩ (c_X0_count l dC dI cB cI cJ cZ (a 2) (a 3) (a 4) (a 5) _ sb se so sc  r2 g2) (kcwV hts kw_155 kv_X0_count rfl rfl ⟨(Nat.le_of_ble_eq_true rfl), (Nat.le_of_ble_eq_true rfl)⟩) (kpV (A := A) qP hK qD hG (krecv_2 (q0 := 2) hK hP rfl)) rfl rfl hl.1 rfl (lv_room (Nat.le_of_ble_eq_true rfl)) (kdr dgX1_mixSpans_0 1 8 rfl rfl) ⟨(Nat.le_of_ble_eq_true rfl), (Nat.le_of_ble_eq_true rfl)⟩) hP hD hS hA kFr_SBs (fun H locs hP hD hS br2 => ?_)
        obtain ⟨r3, g3, h⟩ := g_b h
        refine kq_l (wSB cI cJ cZ a ce fr un sb se so sc wb we wo wc fb fe fo fc rm ac rf kn) (fun qP qD qF => va_runS (As := [.long x3, .int r2]) (rest := []) ⟨hx, hb, hml, hown, hts⟩ (c_X1_mix l dC dI cB cI cJ cZ  _  x3 r2 r3 g3) (kcwS hts kw_336 kv_X1_mix rfl rfl ⟨(Nat.le_of_ble_eq_true rfl), (Nat.le_of_ble_eq_true rfl)⟩) (kpS (A := A) (kPnil) hK ((kDnil (A := A))) hG) rfl rfl hl.1 rfl (lv_room (Nat.le_of_ble_eq_true rfl)) (kdr dgX1_mixSpans_0 1 9 rfl rfl) ⟨(Nat.le_of_ble_eq_true rfl), (Nat.le_of_ble_eq_true rfl)⟩) hP hD hS hA kFr_n (fun H locs hP hD hS => ?_)
        refine lv_lstore_n (lv' := (kvJ 3 r3 (kvA 0 (a 0) (kvI 5 x5 kvE)))) hx hb (kdr dgX1_mixSpans_0 2 0 rfl rfl) rfl hl (by decide) rfl (fun ls hl => ?_)
        refine lv_iconst (v := 0) hx hb (kdr dgX1_mixSpans_0 2 1 rfl rfl) (by decide) ?_
        refine lv_istore (lv' := (kvI 5 0 (kvJ 3 r3 (kvA 0 (a 0) kvE)))) hx hb (kdr dgX1_mixSpans_0 2 2 rfl rfl) hl (by decide) rfl (fun ls hl => ?_)
        exact J43 24 ce fr un sb se so sc wb we wo wc fb fe fo fc rm ac rf kn r3 0 _ _ hP hD hS ls (lv_sub hl [2, 1, 0] rfl) h
      · have h := g_f c1 h
        refine lv_lload_n hx hb (kdr dgX1_mixSpans_0 0 7 rfl rfl) rfl (lv_at hl 1 rfl) ?_
        refine lv_aload_n hx hb (kdr dgX1_mixSpans_0 0 8 rfl rfl) rfl (lv_at hl 0 rfl) ?_
        refine lv_iload hx hb (kdr dgX1_mixSpans_0 0 9 rfl rfl) (lv_at hl 2 rfl) ?_
        obtain ⟨r2, g2, h⟩ := g_b h
        refine kq_i (wSB cI cJ cZ a ce fr un sb se so sc wb we wo wc fb fe fo fc rm ac rf kn) (fun qP qD qF => va_runV (As := [.int x5]) (rest := [.long x3]) ⟨hx, hb, hml, hown, hts⟩ (c_X1_calendar l dC dI cB cI cJ cZ a _ ce fr un sb se so sc wb we wo wc fb fe fo fc rm ac rf kn x5 r2 g2) (kcwV hts kw_350 kv_X1_calendar rfl rfl ⟨(Nat.le_of_ble_eq_true rfl), (Nat.le_of_ble_eq_true rfl)⟩) (kpV (A := A) qP hK qD hG (krecv_3 (q0 := 0) hK hP rfl)) rfl rfl hl.1 rfl (lv_room (Nat.le_of_ble_eq_true rfl)) (kdr dgX1_mixSpans_0 1 0 rfl rfl) ⟨(Nat.le_of_ble_eq_true rfl), (Nat.le_of_ble_eq_true rfl)⟩) hP hD hS hA kFr_SB (fun H locs hP hD hS br2 => ?_)
        obtain ⟨r3, g3, h⟩ := g_b h
        refine kq_l (wSB cI cJ cZ a ce fr un sb se so sc wb we wo wc fb fe fo fc rm ac rf kn) (fun qP qD qF => va_runS (As := [.long x3, .int r2]) (rest := []) ⟨hx, hb, hml, hown, hts⟩ (c_X1_mix l dC dI cB cI cJ cZ  _  x3 r2 r3 g3) (kcwS hts kw_336 kv_X1_mix rfl rfl ⟨(Nat.le_of_ble_eq_true rfl), (Nat.le_of_ble_eq_true rfl)⟩) (kpS (A := A) (kPnil) hK ((kDnil (A := A))) hG) rfl rfl hl.1 rfl (lv_room (Nat.le_of_ble_eq_true rfl)) (kdr dgX1_mixSpans_0 1 1 rfl rfl) ⟨(Nat.le_of_ble_eq_true rfl), (Nat.le_of_ble_eq_true rfl)⟩) hP hD hS hA kFr_n (fun H locs hP hD hS => ?_)
        refine lv_lstore_n (lv' := (kvJ 3 r3 (kvA 0 (a 0) (kvI 5 x5 kvE)))) hx hb (kdr dgX1_mixSpans_0 1 2 rfl rfl) rfl hl (by decide) rfl (fun ls hl => ?_)
        refine lv_iinc (v := x5 + 1) (lv' := (kvI 5 (x5 + 1) (kvJ 3 r3 (kvA 0 (a 0) kvE)))) hx hb (kdr dgX1_mixSpans_0 1 3 rfl rfl) hl (k := 2) rfl rfl (by decide) rfl (fun ls hl => ?_)
        refine lv_goto (tgt := 5) hx hb (kdr dgX1_mixSpans_0 1 4 rfl rfl) (by decide) ?_
        exact ih ce fr un sb se so sc wb we wo wc fb fe fo fc rm ac rf kn r3 (x5 + 1) _ _ hP hD hS ls (lv_sub hl [2, 1, 0] rfl) h
  have h := f_X1_mixSpans_e.symm.trans hf
  refine lv_lload_n hx hb (kdr dgX1_mixSpans_0 0 0 rfl rfl) rfl (lv_at hl 1 rfl) ?_
  refine lv_lstore_n (lv' := (kvJ 3 p0 (kvA 0 (a 0) (kvJ 1 p0 kvE)))) hx hb (kdr dgX1_mixSpans_0 0 1 rfl rfl) rfl hl (by decide) rfl (fun ls hl => ?_)
  refine lv_iconst (v := 0) hx hb (kdr dgX1_mixSpans_0 0 2 rfl rfl) (by decide) ?_
  refine lv_istore (lv' := (kvI 5 0 (kvJ 3 p0 (kvA 0 (a 0) (kvJ 1 p0 kvE))))) hx hb (kdr dgX1_mixSpans_0 0 3 rfl rfl) hl (by decide) rfl (fun ls hl => ?_)
  exact J5 24 ce fr un sb se so sc wb we wo wc fb fe fo fc rm ac rf kn p0 0 _ _ hP hD hS ls (lv_sub hl [2, 1, 0] rfl) h
noncomputable abbrev wsX1_mixFrees : List Cond := kWs yX1_mixFrees cX1_mixFrees 6 (some .long)
noncomputable def f_X1_mixFrees_47 : Nat → (Int64) → (Int64) → (Nat → Int64) → (Nat → Int64) → (Int32) → (Nat → Int64) → (Nat → Int64) → (Nat → Int32) → (Int32) → (Int64) → (Int32) → Option ((Int64) × (Nat → Int64) × (Nat → Int64) × (Nat → Int32) × (Int32))
  | 0, _, _, _, _, _, _, _, _, _, _, _ => none
  | n + 1, fr, un, sb, se, sc, fb, fe, fo, fc, x3, x5 =>
    if 6 ≤ x5 then
      some (x3, fb, fe, fo, fc)
    else
      (f_X1_length fr un sb se sc fb fe fo fc x5).bind fun r2 =>
      (f_X1_mix x3 r2.1).bind fun r3 =>
      f_X1_mixFrees_47 n fr un sb se sc r2.2.1 r2.2.2.1 r2.2.2.2.1 r2.2.2.2.2 r3 (x5 + 1)
theorem f_X1_mixFrees_47_0 {fr : Int64} {un : Int64} {sb : Nat → Int64} {se : Nat → Int64} {sc : Int32} {fb : Nat → Int64} {fe : Nat → Int64} {fo : Nat → Int32} {fc : Int32} {x3 : Int64} {x5 : Int32} : f_X1_mixFrees_47 0 fr un sb se sc fb fe fo fc x3 x5 = none := rfl
theorem f_X1_mixFrees_47_s {n : Nat} {fr : Int64} {un : Int64} {sb : Nat → Int64} {se : Nat → Int64} {sc : Int32} {fb : Nat → Int64} {fe : Nat → Int64} {fo : Nat → Int32} {fc : Int32} {x3 : Int64} {x5 : Int32} : f_X1_mixFrees_47 (n + 1) fr un sb se sc fb fe fo fc x3 x5 =
  if 6 ≤ x5 then
    some (x3, fb, fe, fo, fc)
  else
    (f_X1_length fr un sb se sc fb fe fo fc x5).bind fun r2 =>
    (f_X1_mix x3 r2.1).bind fun r3 =>
    f_X1_mixFrees_47 n fr un sb se sc r2.2.1 r2.2.2.1 r2.2.2.2.1 r2.2.2.2.2 r3 (x5 + 1) := rfl
noncomputable def f_X1_mixFrees_15 : Nat → (Int64) → (Int64) → (Nat → Int64) → (Nat → Int64) → (Int32) → (Nat → Int64) → (Nat → Int64) → (Nat → Int32) → (Int32) → (Int64) → (Int32) → Option ((Int64) × (Nat → Int64) × (Nat → Int64) × (Nat → Int32) × (Int32))
  | 0, _, _, _, _, _, _, _, _, _, _, _ => none
  | n + 1, fr, un, sb, se, sc, fb, fe, fo, fc, x3, x5 =>
    (f_X0_count fc).bind fun r1 =>
    if r1 ≤ x5 then
      f_X1_mixFrees_47 24 fr un sb se sc fb fe fo fc x3 0
    else
      (f_X1_mixParts fb fe fc x3 x5).bind fun r3 =>
      f_X1_mixFrees_15 n fr un sb se sc fb fe fo fc r3 (x5 + 1)
theorem f_X1_mixFrees_15_0 {fr : Int64} {un : Int64} {sb : Nat → Int64} {se : Nat → Int64} {sc : Int32} {fb : Nat → Int64} {fe : Nat → Int64} {fo : Nat → Int32} {fc : Int32} {x3 : Int64} {x5 : Int32} : f_X1_mixFrees_15 0 fr un sb se sc fb fe fo fc x3 x5 = none := rfl
theorem f_X1_mixFrees_15_s {n : Nat} {fr : Int64} {un : Int64} {sb : Nat → Int64} {se : Nat → Int64} {sc : Int32} {fb : Nat → Int64} {fe : Nat → Int64} {fo : Nat → Int32} {fc : Int32} {x3 : Int64} {x5 : Int32} : f_X1_mixFrees_15 (n + 1) fr un sb se sc fb fe fo fc x3 x5 =
  (f_X0_count fc).bind fun r1 =>
  if r1 ≤ x5 then
    f_X1_mixFrees_47 24 fr un sb se sc fb fe fo fc x3 0
  else
    (f_X1_mixParts fb fe fc x3 x5).bind fun r3 =>
    f_X1_mixFrees_15 n fr un sb se sc fb fe fo fc r3 (x5 + 1) := rfl
noncomputable def f_X1_mixFrees (fr : Int64) (un : Int64) (sb : Nat → Int64) (se : Nat → Int64) (sc : Int32) (fb : Nat → Int64) (fe : Nat → Int64) (fo : Nat → Int32) (fc : Int32) (p0 : Int64) : Option ((Int64) × (Nat → Int64) × (Nat → Int64) × (Nat → Int32) × (Int32)) :=
  (f_X0_count fc).bind fun r1 =>
  (f_X1_mix p0 r1).bind fun r2 =>
  f_X1_mixFrees_15 24 fr un sb se sc fb fe fo fc r2 0
theorem f_X1_mixFrees_e {fr : Int64} {un : Int64} {sb : Nat → Int64} {se : Nat → Int64} {sc : Int32} {fb : Nat → Int64} {fe : Nat → Int64} {fo : Nat → Int32} {fc : Int32} {p0 : Int64} : f_X1_mixFrees fr un sb se sc fb fe fo fc p0 = 
  (f_X0_count fc).bind fun r1 =>
  (f_X1_mix p0 r1).bind fun r2 =>
  f_X1_mixFrees_15 24 fr un sb se sc fb fe fo fc r2 0 := rfl
set_option maxHeartbeats 4000000 in
set_option maxRecDepth 100000 in
theorem c_X1_mixFrees (l : Launch) (dC : Nat → ClassId) (dI : Nat → Nat → Nat) (cB cI cJ cZ : ClassId) (a : Nat → Nat) (sz : Nat) (ce : Nat → Int64) (fr : Int64) (un : Int64) (sb : Nat → Int64) (se : Nat → Int64) (so : Nat → Int32) (sc : Int32) (wb : Nat → Int64) (we : Nat → Int64) (wo : Nat → Int32) (wc : Int32) (fb : Nat → Int64) (fe : Nat → Int64) (fo : Nat → Int32) (fc : Int32) (rm : Nat → Int32) (ac : Int32) (rf : Int32) (kn : Int32) (p0 : Int64) (res : (Int64) × (Nat → Int64) × (Nat → Int64) × (Nat → Int32) × (Int32)) (hf : f_X1_mixFrees fr un sb se sc fb fe fo fc p0 = some res) : kMl l yX1_mixFrees wsX1_mixFrees (kRm 5 0 0 118) dC dI cB cI cJ cZ [.ref (a 0), .long p0] sz (wSB cI cJ cZ a ce fr un sb se so sc wb we wo wc fb fe fo fc rm ac rf kn) (res.1) (wSB cI cJ cZ a ce fr un sb se so sc wb we wo wc (res.2.1) (res.2.2.1) (res.2.2.2.1) (res.2.2.2.2) rm ac rf kn) 0 0 := by
  refine kmet_l (y := yX1_mixFrees) (cc := cX1_mixFrees) (maxL := 6) (ret := (some .long)) RX1 (kvA 0 (a 0) (kvJ 1 p0 kvE)) kpl_X1 rfl rfl (Nat.le_of_ble_eq_true rfl) rfl (fun p e s m below meth c A ls hx hb hr hml hts hown hlocks hP hK hG hD hA hS hl => ?_)
  have hw0 := hts (.fieldLink RX1 32 "Spanbooker" "freeRow" "LSpanbooker$Row;") (List.mem_cons_of_mem _ kw_112)
  have hiX1 : ∀ w ∈ u_ws RX1 TX1 10, w ∈ wsX1_mixFrees := fun w h => List.mem_cons_of_mem _ (ku_X1 w h)
  have J47 : ∀ (n : Nat), ∀ (ce : Nat → Int64) (fr : Int64) (un : Int64) (sb : Nat → Int64) (se : Nat → Int64) (so : Nat → Int32) (sc : Int32) (wb : Nat → Int64) (we : Nat → Int64) (wo : Nat → Int32) (wc : Int32) (fb : Nat → Int64) (fe : Nat → Int64) (fo : Nat → Int32) (fc : Int32) (rm : Nat → Int32) (ac : Int32) (rf : Int32) (kn : Int32) (x3 : Int64) (x5 : Int32) (H : Heap) (locs : List Loc), va_P (dC, dI) vwCl (wSB cI cJ cZ a ce fr un sb se so sc wb we wo wc fb fe fo fc rm ac rf kn) H → va_D A (wSB cI cJ cZ a ce fr un sb se so sc wb we wo wc fb fe fo fc rm ac rf kn) → va_S A s.heap H locs → ∀ (ls : Array Slot), lv_has ls 6 (kvA 0 (a 0) (kvJ 3 x3 (kvI 5 x5 kvE))) → f_X1_mixFrees_47 n fr un sb se sc fb fe fo fc x3 x5 = some res → W p l e (headSpec wsX1_mixFrees (kRm 5 0 0 118)).room s m ([.ref (a 0), .long p0] : List Value).toArray below meth c H locs 0 0 (MQ below (kL (dC, dI) (res.1) (wSB cI cJ cZ a ce fr un sb se so sc wb we wo wc (res.2.1) (res.2.2.1) (res.2.2.2.1) (res.2.2.2.2) rm ac rf kn) A) ([.ref (a 0), .long p0] : List Value).toArray s 0 0 A) (F0 m 47 ls []) := by
    intro n
    induction n with
    | zero =>
      intro ce fr un sb se so sc wb we wo wc fb fe fo fc rm ac rf kn x3 x5 H locs hP hD hS ls hl h
      have h := f_X1_mixFrees_47_0.symm.trans h
      cases h
    | succ n ih =>
      intro ce fr un sb se so sc wb we wo wc fb fe fo fc rm ac rf kn x3 x5 H locs hP hD hS ls hl h
      have h := f_X1_mixFrees_47_s.symm.trans h
      refine lv_iload hx hb (kdr dgX1_mixFrees_0 2 3 rfl rfl) (lv_at hl 2 rfl) ?_
      refine lv_bipush (v := 6) hx hb (kdr dgX1_mixFrees_0 2 4 rfl rfl) (by decide) ?_
      refine lv_icmp_ge (tgt := 71) hx hb (kdr dgX1_mixFrees_0 2 5 rfl rfl) (by decide) (fun c1 => ?_) (fun c1 => ?_)
      · have h := g_t c1 h
        refine lv_lload_n hx hb (kdr dgX1_mixFrees_0 3 4 rfl rfl) rfl (lv_at hl 1 rfl) ?_
        have h := Option.some.inj h
        subst h
        exact kret_l (v := x3) hx hb hr hlocks hS hP (kdr dgX1_mixFrees_0 3 5 rfl rfl)
      · have h := g_f c1 h
        refine lv_lload_n hx hb (kdr dgX1_mixFrees_0 2 6 rfl rfl) rfl (lv_at hl 1 rfl) ?_
        refine lv_aload_n hx hb (kdr dgX1_mixFrees_0 2 7 rfl rfl) rfl (lv_at hl 0 rfl) ?_
        refine lv_iload hx hb (kdr dgX1_mixFrees_0 2 8 rfl rfl) (lv_at hl 2 rfl) ?_
        obtain ⟨r2, g2, h⟩ := g_b h
        refine kq_i (wSB cI cJ cZ a ce fr un sb se so sc wb we wo wc r2.2.1 r2.2.2.1 r2.2.2.2.1 r2.2.2.2.2 rm ac rf kn) (fun qP qD qF => va_runV (As := [.int x5]) (rest := [.long x3]) ⟨hx, hb, hml, hown, hts⟩ (c_X1_length l dC dI cB cI cJ cZ a _ ce fr un sb se so sc wb we wo wc fb fe fo fc rm ac rf kn x5 r2 g2) (kcwV hts kw_442 kv_X1_length rfl rfl ⟨(Nat.le_of_ble_eq_true rfl), (Nat.le_of_ble_eq_true rfl)⟩) (kpV (A := A) qP hK qD hG (krecv_3 (q0 := 0) hK hP rfl)) rfl rfl hl.1 rfl (lv_room (Nat.le_of_ble_eq_true rfl)) (kdr dgX1_mixFrees_0 2 9 rfl rfl) ⟨(Nat.le_of_ble_eq_true rfl), (Nat.le_of_ble_eq_true rfl)⟩) hP hD hS hA kFr_SB (fun H locs hP hD hS br2 => ?_)
        obtain ⟨r3, g3, h⟩ := g_b h
        refine kq_l (wSB cI cJ cZ a ce fr un sb se so sc wb we wo wc r2.2.1 r2.2.2.1 r2.2.2.2.1 r2.2.2.2.2 rm ac rf kn) (fun qP qD qF => va_runS (As := [.long x3, .int r2.1]) (rest := []) ⟨hx, hb, hml, hown, hts⟩ (c_X1_mix l dC dI cB cI cJ cZ  _  x3 r2.1 r3 g3) (kcwS hts kw_336 kv_X1_mix rfl rfl ⟨(Nat.le_of_ble_eq_true rfl), (Nat.le_of_ble_eq_true rfl)⟩) (kpS (A := A) (kPnil) hK ((kDnil (A := A))) hG) rfl rfl hl.1 rfl (lv_room (Nat.le_of_ble_eq_true rfl)) (kdr dgX1_mixFrees_0 3 0 rfl rfl) ⟨(Nat.le_of_ble_eq_true rfl), (Nat.le_of_ble_eq_true rfl)⟩) hP hD hS hA kFr_n (fun H locs hP hD hS => ?_)
        refine lv_lstore_n (lv' := (kvJ 3 r3 (kvA 0 (a 0) (kvI 5 x5 kvE)))) hx hb (kdr dgX1_mixFrees_0 3 1 rfl rfl) rfl hl (by decide) rfl (fun ls hl => ?_)
        refine lv_iinc (v := x5 + 1) (lv' := (kvI 5 (x5 + 1) (kvJ 3 r3 (kvA 0 (a 0) kvE)))) hx hb (kdr dgX1_mixFrees_0 3 2 rfl rfl) hl (k := 2) rfl rfl (by decide) rfl (fun ls hl => ?_)
        refine lv_goto (tgt := 47) hx hb (kdr dgX1_mixFrees_0 3 3 rfl rfl) (by decide) ?_
        exact ih ce fr un sb se so sc wb we wo wc r2.2.1 r2.2.2.1 r2.2.2.2.1 r2.2.2.2.2 rm ac rf kn r3 (x5 + 1) _ _ hP hD hS ls (lv_sub hl [2, 1, 0] rfl) h
  have J15 : ∀ (n : Nat), ∀ (ce : Nat → Int64) (fr : Int64) (un : Int64) (sb : Nat → Int64) (se : Nat → Int64) (so : Nat → Int32) (sc : Int32) (wb : Nat → Int64) (we : Nat → Int64) (wo : Nat → Int32) (wc : Int32) (fb : Nat → Int64) (fe : Nat → Int64) (fo : Nat → Int32) (fc : Int32) (rm : Nat → Int32) (ac : Int32) (rf : Int32) (kn : Int32) (x3 : Int64) (x5 : Int32) (H : Heap) (locs : List Loc), va_P (dC, dI) vwCl (wSB cI cJ cZ a ce fr un sb se so sc wb we wo wc fb fe fo fc rm ac rf kn) H → va_D A (wSB cI cJ cZ a ce fr un sb se so sc wb we wo wc fb fe fo fc rm ac rf kn) → va_S A s.heap H locs → ∀ (ls : Array Slot), lv_has ls 6 (kvA 0 (a 0) (kvJ 3 x3 (kvI 5 x5 kvE))) → f_X1_mixFrees_15 n fr un sb se sc fb fe fo fc x3 x5 = some res → W p l e (headSpec wsX1_mixFrees (kRm 5 0 0 118)).room s m ([.ref (a 0), .long p0] : List Value).toArray below meth c H locs 0 0 (MQ below (kL (dC, dI) (res.1) (wSB cI cJ cZ a ce fr un sb se so sc wb we wo wc (res.2.1) (res.2.2.1) (res.2.2.2.1) (res.2.2.2.2) rm ac rf kn) A) ([.ref (a 0), .long p0] : List Value).toArray s 0 0 A) (F0 m 15 ls []) := by
    intro n
    induction n with
    | zero =>
      intro ce fr un sb se so sc wb we wo wc fb fe fo fc rm ac rf kn x3 x5 H locs hP hD hS ls hl h
      have h := f_X1_mixFrees_15_0.symm.trans h
      cases h
    | succ n ih =>
      intro ce fr un sb se so sc wb we wo wc fb fe fo fc rm ac rf kn x3 x5 H locs hP hD hS ls hl h
      have h := f_X1_mixFrees_15_s.symm.trans h
      refine lv_iload hx hb (kdr dgX1_mixFrees_0 0 8 rfl rfl) (lv_at hl 2 rfl) ?_
      refine lv_aload_n hx hb (kdr dgX1_mixFrees_0 0 9 rfl rfl) rfl (lv_at hl 0 rfl) ?_
      refine va_get (D := (dC, dI)) (ci := 3) (v := .ref (a 10)) (C := RX1) (T := TX1) (N := 10) hx hb hts hiX1 hown hK hP 0 rfl rfl 5 (by decide) hw0 (fun _ h9 => h9) rfl (kdr dgX1_mixFrees_0 1 0 rfl rfl) ?_
      obtain ⟨r1, g1, h⟩ := g_b h
      refine kq_i (wSB cI cJ cZ a ce fr un sb se so sc wb we wo wc fb fe fo fc rm ac rf kn) (fun qP qD qF => va_runV (As := []) (rest := [.int x5]) ⟨hx, hb, hml, hown, hts⟩ (c_X0_count l dC dI cB cI cJ cZ (a 10) (a 11) (a 12) (a 13) _ fb fe fo fc  r1 g1) (kcwV hts kw_155 kv_X0_count rfl rfl ⟨(Nat.le_of_ble_eq_true rfl), (Nat.le_of_ble_eq_true rfl)⟩) (kpV (A := A) qP hK qD hG (krecv_2 (q0 := 10) hK hP rfl)) rfl rfl hl.1 rfl (lv_room (Nat.le_of_ble_eq_true rfl)) (kdr dgX1_mixFrees_0 1 1 rfl rfl) ⟨(Nat.le_of_ble_eq_true rfl), (Nat.le_of_ble_eq_true rfl)⟩) hP hD hS hA kFr_SBf (fun H locs hP hD hS br1 => ?_)
      refine lv_icmp_ge (tgt := 44) hx hb (kdr dgX1_mixFrees_0 1 2 rfl rfl) (by decide) (fun c2 => ?_) (fun c2 => ?_)
      · have h := g_t c2 h
        refine lv_iconst (v := 0) hx hb (kdr dgX1_mixFrees_0 2 1 rfl rfl) (by decide) ?_
        refine lv_istore (lv' := (kvI 5 0 (kvA 0 (a 0) (kvJ 3 x3 kvE)))) hx hb (kdr dgX1_mixFrees_0 2 2 rfl rfl) hl (by decide) rfl (fun ls hl => ?_)
        exact J47 24 ce fr un sb se so sc wb we wo wc fb fe fo fc rm ac rf kn x3 0 _ _ hP hD hS ls (lv_sub hl [1, 2, 0] rfl) h
      · have h := g_f c2 h
        refine lv_lload_n hx hb (kdr dgX1_mixFrees_0 1 3 rfl rfl) rfl (lv_at hl 1 rfl) ?_
        refine lv_aload_n hx hb (kdr dgX1_mixFrees_0 1 4 rfl rfl) rfl (lv_at hl 0 rfl) ?_
        refine va_get (D := (dC, dI)) (ci := 3) (v := .ref (a 10)) (C := RX1) (T := TX1) (N := 10) hx hb hts hiX1 hown hK hP 0 rfl rfl 5 (by decide) hw0 (fun _ h9 => h9) rfl (kdr dgX1_mixFrees_0 1 5 rfl rfl) ?_
        refine lv_iload hx hb (kdr dgX1_mixFrees_0 1 6 rfl rfl) (lv_at hl 2 rfl) ?_
        obtain ⟨r3, g3, h⟩ := g_b h
        refine kq_l (wSB cI cJ cZ a ce fr un sb se so sc wb we wo wc fb fe fo fc rm ac rf kn) (fun qP qD qF => va_runS (As := [.long x3, .ref (a 10), .int x5]) (rest := []) ⟨hx, hb, hml, hown, hts⟩ (c_X1_mixParts l dC dI cB cI cJ cZ (a 10) (a 11) (a 12) (a 13) _ fb fe fo fc x3 x5 r3 g3) (kcwS hts kw_430 kv_X1_mixParts rfl rfl ⟨(Nat.le_of_ble_eq_true rfl), (Nat.le_of_ble_eq_true rfl)⟩) (kpS (A := A) qP hK qD hG) rfl rfl hl.1 rfl (lv_room (Nat.le_of_ble_eq_true rfl)) (kdr dgX1_mixFrees_0 1 7 rfl rfl) ⟨(Nat.le_of_ble_eq_true rfl), (Nat.le_of_ble_eq_true rfl)⟩) hP hD hS hA kFr_SBf (fun H locs hP hD hS => ?_)
        refine lv_lstore_n (lv' := (kvJ 3 r3 (kvA 0 (a 0) (kvI 5 x5 kvE)))) hx hb (kdr dgX1_mixFrees_0 1 8 rfl rfl) rfl hl (by decide) rfl (fun ls hl => ?_)
        refine lv_iinc (v := x5 + 1) (lv' := (kvI 5 (x5 + 1) (kvJ 3 r3 (kvA 0 (a 0) kvE)))) hx hb (kdr dgX1_mixFrees_0 1 9 rfl rfl) hl (k := 2) rfl rfl (by decide) rfl (fun ls hl => ?_)
        refine lv_goto (tgt := 15) hx hb (kdr dgX1_mixFrees_0 2 0 rfl rfl) (by decide) ?_
        exact ih ce fr un sb se so sc wb we wo wc fb fe fo fc rm ac rf kn r3 (x5 + 1) _ _ hP hD hS ls (lv_sub hl [2, 1, 0] rfl) h
  have h := f_X1_mixFrees_e.symm.trans hf
  refine lv_lload_n hx hb (kdr dgX1_mixFrees_0 0 0 rfl rfl) rfl (lv_at hl 1 rfl) ?_
  refine lv_aload_n hx hb (kdr dgX1_mixFrees_0 0 1 rfl rfl) rfl (lv_at hl 0 rfl) ?_
  refine va_get (D := (dC, dI)) (ci := 3) (v := .ref (a 10)) (C := RX1) (T := TX1) (N := 10) hx hb hts hiX1 hown hK hP 0 rfl rfl 5 (by decide) hw0 (fun _ h9 => h9) rfl (kdr dgX1_mixFrees_0 0 2 rfl rfl) ?_
  obtain ⟨r1, g1, h⟩ := g_b h
  refine kq_i (wSB cI cJ cZ a ce fr un sb se so sc wb we wo wc fb fe fo fc rm ac rf kn) (fun qP qD qF => va_runV (As := []) (rest := [.long p0]) ⟨hx, hb, hml, hown, hts⟩ (c_X0_count l dC dI cB cI cJ cZ (a 10) (a 11) (a 12) (a 13) _ fb fe fo fc  r1 g1) (kcwV hts kw_155 kv_X0_count rfl rfl ⟨(Nat.le_of_ble_eq_true rfl), (Nat.le_of_ble_eq_true rfl)⟩) (kpV (A := A) qP hK qD hG (krecv_2 (q0 := 10) hK hP rfl)) rfl rfl hl.1 rfl (lv_room (Nat.le_of_ble_eq_true rfl)) (kdr dgX1_mixFrees_0 0 3 rfl rfl) ⟨(Nat.le_of_ble_eq_true rfl), (Nat.le_of_ble_eq_true rfl)⟩) hP hD hS hA kFr_SBf (fun H locs hP hD hS br1 => ?_)
  obtain ⟨r2, g2, h⟩ := g_b h
  refine kq_l (wSB cI cJ cZ a ce fr un sb se so sc wb we wo wc fb fe fo fc rm ac rf kn) (fun qP qD qF => va_runS (As := [.long p0, .int r1]) (rest := []) ⟨hx, hb, hml, hown, hts⟩ (c_X1_mix l dC dI cB cI cJ cZ  _  p0 r1 r2 g2) (kcwS hts kw_336 kv_X1_mix rfl rfl ⟨(Nat.le_of_ble_eq_true rfl), (Nat.le_of_ble_eq_true rfl)⟩) (kpS (A := A) (kPnil) hK ((kDnil (A := A))) hG) rfl rfl hl.1 rfl (lv_room (Nat.le_of_ble_eq_true rfl)) (kdr dgX1_mixFrees_0 0 4 rfl rfl) ⟨(Nat.le_of_ble_eq_true rfl), (Nat.le_of_ble_eq_true rfl)⟩) hP hD hS hA kFr_n (fun H locs hP hD hS => ?_)
  refine lv_lstore_n (lv' := (kvJ 3 r2 (kvA 0 (a 0) (kvJ 1 p0 kvE)))) hx hb (kdr dgX1_mixFrees_0 0 5 rfl rfl) rfl hl (by decide) rfl (fun ls hl => ?_)
  refine lv_iconst (v := 0) hx hb (kdr dgX1_mixFrees_0 0 6 rfl rfl) (by decide) ?_
  refine lv_istore (lv' := (kvI 5 0 (kvJ 3 r2 (kvA 0 (a 0) (kvJ 1 p0 kvE))))) hx hb (kdr dgX1_mixFrees_0 0 7 rfl rfl) hl (by decide) rfl (fun ls hl => ?_)
  exact J15 24 ce fr un sb se so sc wb we wo wc fb fe fo fc rm ac rf kn r2 0 _ _ hP hD hS ls (lv_sub hl [2, 1, 0] rfl) h
noncomputable abbrev wsX1_mixWishes : List Cond := kWs yX1_mixWishes cX1_mixWishes 6 (some .long)
noncomputable def f_X1_mixWishes_15 : Nat → (Nat → Int64) → (Nat → Int64) → (Int32) → (Nat → Int32) → (Int64) → (Int32) → Option (Int64)
  | 0, _, _, _, _, _, _ => none
  | n + 1, wb, we, wc, rm, x3, x5 =>
    (f_X0_count wc).bind fun r1 =>
    if r1 ≤ x5 then
      (f_X1_chosen wb we wc).bind fun r3 =>
      (f_X1_mix x3 r3).bind fun r4 =>
      (f_X1_mostOfAllSets wb we wc).bind fun r5 =>
      (f_X1_mix r4 r5).bind fun r6 =>
      (f_X1_crowd wb we wc).bind fun r7 =>
      (f_X1_mix r6 r7).bind fun r8 =>
      some r8
    else
      (f_X1_mixParts wb we wc x3 x5).bind fun r3 =>
      if ix x5 11 then
        (f_X1_mix r3 (rm x5.toNatClampNeg)).bind fun r5 =>
        f_X1_mixWishes_15 n wb we wc rm r5 (x5 + 1)
      else none
theorem f_X1_mixWishes_15_0 {wb : Nat → Int64} {we : Nat → Int64} {wc : Int32} {rm : Nat → Int32} {x3 : Int64} {x5 : Int32} : f_X1_mixWishes_15 0 wb we wc rm x3 x5 = none := rfl
theorem f_X1_mixWishes_15_s {n : Nat} {wb : Nat → Int64} {we : Nat → Int64} {wc : Int32} {rm : Nat → Int32} {x3 : Int64} {x5 : Int32} : f_X1_mixWishes_15 (n + 1) wb we wc rm x3 x5 =
  (f_X0_count wc).bind fun r1 =>
  if r1 ≤ x5 then
    (f_X1_chosen wb we wc).bind fun r3 =>
    (f_X1_mix x3 r3).bind fun r4 =>
    (f_X1_mostOfAllSets wb we wc).bind fun r5 =>
    (f_X1_mix r4 r5).bind fun r6 =>
    (f_X1_crowd wb we wc).bind fun r7 =>
    (f_X1_mix r6 r7).bind fun r8 =>
    some r8
  else
    (f_X1_mixParts wb we wc x3 x5).bind fun r3 =>
    if ix x5 11 then
      (f_X1_mix r3 (rm x5.toNatClampNeg)).bind fun r5 =>
      f_X1_mixWishes_15 n wb we wc rm r5 (x5 + 1)
    else none := rfl
noncomputable def f_X1_mixWishes (wb : Nat → Int64) (we : Nat → Int64) (wc : Int32) (rm : Nat → Int32) (p0 : Int64) : Option (Int64) :=
  (f_X0_count wc).bind fun r1 =>
  (f_X1_mix p0 r1).bind fun r2 =>
  f_X1_mixWishes_15 24 wb we wc rm r2 0
theorem f_X1_mixWishes_e {wb : Nat → Int64} {we : Nat → Int64} {wc : Int32} {rm : Nat → Int32} {p0 : Int64} : f_X1_mixWishes wb we wc rm p0 = 
  (f_X0_count wc).bind fun r1 =>
  (f_X1_mix p0 r1).bind fun r2 =>
  f_X1_mixWishes_15 24 wb we wc rm r2 0 := rfl
set_option maxHeartbeats 4000000 in
set_option maxRecDepth 100000 in
theorem c_X1_mixWishes (l : Launch) (dC : Nat → ClassId) (dI : Nat → Nat → Nat) (cB cI cJ cZ : ClassId) (a : Nat → Nat) (sz : Nat) (ce : Nat → Int64) (fr : Int64) (un : Int64) (sb : Nat → Int64) (se : Nat → Int64) (so : Nat → Int32) (sc : Int32) (wb : Nat → Int64) (we : Nat → Int64) (wo : Nat → Int32) (wc : Int32) (fb : Nat → Int64) (fe : Nat → Int64) (fo : Nat → Int32) (fc : Int32) (rm : Nat → Int32) (ac : Int32) (rf : Int32) (kn : Int32) (p0 : Int64) (res : Int64) (hf : f_X1_mixWishes wb we wc rm p0 = some res) : kMl l yX1_mixWishes wsX1_mixWishes (kRm 5 0 0 116) dC dI cB cI cJ cZ [.ref (a 0), .long p0] sz (wSB cI cJ cZ a ce fr un sb se so sc wb we wo wc fb fe fo fc rm ac rf kn) (res) (wSB cI cJ cZ a ce fr un sb se so sc wb we wo wc fb fe fo fc rm ac rf kn) 0 0 := by
  refine kmet_l (y := yX1_mixWishes) (cc := cX1_mixWishes) (maxL := 6) (ret := (some .long)) RX1 (kvA 0 (a 0) (kvJ 1 p0 kvE)) kpl_X1 rfl rfl (Nat.le_of_ble_eq_true rfl) rfl (fun p e s m below meth c A ls hx hb hr hml hts hown hlocks hP hK hG hD hA hS hl => ?_)
  have hw0 := hts (.fieldLink RX1 29 "Spanbooker" "wishRow" "LSpanbooker$Row;") (List.mem_cons_of_mem _ kw_111)
  have hw1 := hts (.fieldLink RX1 35 "Spanbooker" "roomOf" "[I") (List.mem_cons_of_mem _ kw_113)
  have hiX1 : ∀ w ∈ u_ws RX1 TX1 10, w ∈ wsX1_mixWishes := fun w h => List.mem_cons_of_mem _ (ku_X1 w h)
  have J15 : ∀ (n : Nat), ∀ (ce : Nat → Int64) (fr : Int64) (un : Int64) (sb : Nat → Int64) (se : Nat → Int64) (so : Nat → Int32) (sc : Int32) (wb : Nat → Int64) (we : Nat → Int64) (wo : Nat → Int32) (wc : Int32) (fb : Nat → Int64) (fe : Nat → Int64) (fo : Nat → Int32) (fc : Int32) (rm : Nat → Int32) (ac : Int32) (rf : Int32) (kn : Int32) (x3 : Int64) (x5 : Int32) (H : Heap) (locs : List Loc), va_P (dC, dI) vwCl (wSB cI cJ cZ a ce fr un sb se so sc wb we wo wc fb fe fo fc rm ac rf kn) H → va_D A (wSB cI cJ cZ a ce fr un sb se so sc wb we wo wc fb fe fo fc rm ac rf kn) → va_S A s.heap H locs → ∀ (ls : Array Slot), lv_has ls 6 (kvA 0 (a 0) (kvJ 3 x3 (kvI 5 x5 kvE))) → f_X1_mixWishes_15 n wb we wc rm x3 x5 = some res → W p l e (headSpec wsX1_mixWishes (kRm 5 0 0 116)).room s m ([.ref (a 0), .long p0] : List Value).toArray below meth c H locs 0 0 (MQ below (kL (dC, dI) (res) (wSB cI cJ cZ a ce fr un sb se so sc wb we wo wc fb fe fo fc rm ac rf kn) A) ([.ref (a 0), .long p0] : List Value).toArray s 0 0 A) (F0 m 15 ls []) := by
    intro n
    induction n with
    | zero =>
      intro ce fr un sb se so sc wb we wo wc fb fe fo fc rm ac rf kn x3 x5 H locs hP hD hS ls hl h
      have h := f_X1_mixWishes_15_0.symm.trans h
      cases h
    | succ n ih =>
      intro ce fr un sb se so sc wb we wo wc fb fe fo fc rm ac rf kn x3 x5 H locs hP hD hS ls hl h
      have h := f_X1_mixWishes_15_s.symm.trans h
      refine lv_iload hx hb (kdr dgX1_mixWishes_0 0 8 rfl rfl) (lv_at hl 2 rfl) ?_
      refine lv_aload_n hx hb (kdr dgX1_mixWishes_0 0 9 rfl rfl) rfl (lv_at hl 0 rfl) ?_
      refine va_get (D := (dC, dI)) (ci := 3) (v := .ref (a 6)) (C := RX1) (T := TX1) (N := 10) hx hb hts hiX1 hown hK hP 0 rfl rfl 4 (by decide) hw0 (fun _ h9 => h9) rfl (kdr dgX1_mixWishes_0 1 0 rfl rfl) ?_
      obtain ⟨r1, g1, h⟩ := g_b h
      refine kq_i (wSB cI cJ cZ a ce fr un sb se so sc wb we wo wc fb fe fo fc rm ac rf kn) (fun qP qD qF => va_runV (As := []) (rest := [.int x5]) ⟨hx, hb, hml, hown, hts⟩ (c_X0_count l dC dI cB cI cJ cZ (a 6) (a 7) (a 8) (a 9) _ wb we wo wc  r1 g1) (kcwV hts kw_155 kv_X0_count rfl rfl ⟨(Nat.le_of_ble_eq_true rfl), (Nat.le_of_ble_eq_true rfl)⟩) (kpV (A := A) qP hK qD hG (krecv_2 (q0 := 6) hK hP rfl)) rfl rfl hl.1 rfl (lv_room (Nat.le_of_ble_eq_true rfl)) (kdr dgX1_mixWishes_0 1 1 rfl rfl) ⟨(Nat.le_of_ble_eq_true rfl), (Nat.le_of_ble_eq_true rfl)⟩) hP hD hS hA kFr_SBw (fun H locs hP hD hS br1 => ?_)
      refine lv_icmp_ge (tgt := 56) hx hb (kdr dgX1_mixWishes_0 1 2 rfl rfl) (by decide) (fun c2 => ?_) (fun c2 => ?_)
      · have h := g_t c2 h
        refine lv_lload_n hx hb (kdr dgX1_mixWishes_0 2 8 rfl rfl) rfl (lv_at hl 1 rfl) ?_
        refine lv_aload_n hx hb (kdr dgX1_mixWishes_0 2 9 rfl rfl) rfl (lv_at hl 0 rfl) ?_
        obtain ⟨r3, g3, h⟩ := g_b h
        refine kq_i (wSB cI cJ cZ a ce fr un sb se so sc wb we wo wc fb fe fo fc rm ac rf kn) (fun qP qD qF => va_runV (As := []) (rest := [.long x3]) ⟨hx, hb, hml, hown, hts⟩ (c_X1_chosen l dC dI cB cI cJ cZ a _ ce fr un sb se so sc wb we wo wc fb fe fo fc rm ac rf kn  r3 g3) (kcwV hts kw_300 kv_X1_chosen rfl rfl ⟨(Nat.le_of_ble_eq_true rfl), (Nat.le_of_ble_eq_true rfl)⟩) (kpV (A := A) qP hK qD hG (krecv_3 (q0 := 0) hK hP rfl)) rfl rfl hl.1 rfl (lv_room (Nat.le_of_ble_eq_true rfl)) (kdr dgX1_mixWishes_0 3 0 rfl rfl) ⟨(Nat.le_of_ble_eq_true rfl), (Nat.le_of_ble_eq_true rfl)⟩) hP hD hS hA kFr_SB (fun H locs hP hD hS br3 => ?_)
        obtain ⟨r4, g4, h⟩ := g_b h
        refine kq_l (wSB cI cJ cZ a ce fr un sb se so sc wb we wo wc fb fe fo fc rm ac rf kn) (fun qP qD qF => va_runS (As := [.long x3, .int r3]) (rest := []) ⟨hx, hb, hml, hown, hts⟩ (c_X1_mix l dC dI cB cI cJ cZ  _  x3 r3 r4 g4) (kcwS hts kw_336 kv_X1_mix rfl rfl ⟨(Nat.le_of_ble_eq_true rfl), (Nat.le_of_ble_eq_true rfl)⟩) (kpS (A := A) (kPnil) hK ((kDnil (A := A))) hG) rfl rfl hl.1 rfl (lv_room (Nat.le_of_ble_eq_true rfl)) (kdr dgX1_mixWishes_0 3 1 rfl rfl) ⟨(Nat.le_of_ble_eq_true rfl), (Nat.le_of_ble_eq_true rfl)⟩) hP hD hS hA kFr_n (fun H locs hP hD hS => ?_)
        refine lv_lstore_n (lv' := (kvJ 3 r4 (kvA 0 (a 0) (kvI 5 x5 kvE)))) hx hb (kdr dgX1_mixWishes_0 3 2 rfl rfl) rfl hl (by decide) rfl (fun ls hl => ?_)
        refine lv_lload_n hx hb (kdr dgX1_mixWishes_0 3 3 rfl rfl) rfl (lv_at hl 0 rfl) ?_
        refine lv_aload_n hx hb (kdr dgX1_mixWishes_0 3 4 rfl rfl) rfl (lv_at hl 1 rfl) ?_
        obtain ⟨r5, g5, h⟩ := g_b h
        refine kq_i (wSB cI cJ cZ a ce fr un sb se so sc wb we wo wc fb fe fo fc rm ac rf kn) (fun qP qD qF => va_runV (As := []) (rest := [.long r4]) ⟨hx, hb, hml, hown, hts⟩ (c_X1_mostOfAllSets l dC dI cB cI cJ cZ a _ ce fr un sb se so sc wb we wo wc fb fe fo fc rm ac rf kn  r5 g5) (kcwV hts kw_311 kv_X1_mostOfAllSets rfl rfl ⟨(Nat.le_of_ble_eq_true rfl), (Nat.le_of_ble_eq_true rfl)⟩) (kpV (A := A) qP hK qD hG (krecv_3 (q0 := 0) hK hP rfl)) rfl rfl hl.1 rfl (lv_room (Nat.le_of_ble_eq_true rfl)) (kdr dgX1_mixWishes_0 3 5 rfl rfl) ⟨(Nat.le_of_ble_eq_true rfl), (Nat.le_of_ble_eq_true rfl)⟩) hP hD hS hA kFr_SB (fun H locs hP hD hS br5 => ?_)
        obtain ⟨r6, g6, h⟩ := g_b h
        refine kq_l (wSB cI cJ cZ a ce fr un sb se so sc wb we wo wc fb fe fo fc rm ac rf kn) (fun qP qD qF => va_runS (As := [.long r4, .int r5]) (rest := []) ⟨hx, hb, hml, hown, hts⟩ (c_X1_mix l dC dI cB cI cJ cZ  _  r4 r5 r6 g6) (kcwS hts kw_336 kv_X1_mix rfl rfl ⟨(Nat.le_of_ble_eq_true rfl), (Nat.le_of_ble_eq_true rfl)⟩) (kpS (A := A) (kPnil) hK ((kDnil (A := A))) hG) rfl rfl hl.1 rfl (lv_room (Nat.le_of_ble_eq_true rfl)) (kdr dgX1_mixWishes_0 3 6 rfl rfl) ⟨(Nat.le_of_ble_eq_true rfl), (Nat.le_of_ble_eq_true rfl)⟩) hP hD hS hA kFr_n (fun H locs hP hD hS => ?_)
        refine lv_lstore_n (lv' := (kvJ 3 r6 (kvA 0 (a 0) (kvI 5 x5 kvE)))) hx hb (kdr dgX1_mixWishes_0 3 7 rfl rfl) rfl hl (by decide) rfl (fun ls hl => ?_)
        refine lv_lload_n hx hb (kdr dgX1_mixWishes_0 3 8 rfl rfl) rfl (lv_at hl 0 rfl) ?_
        refine lv_aload_n hx hb (kdr dgX1_mixWishes_0 3 9 rfl rfl) rfl (lv_at hl 1 rfl) ?_
        obtain ⟨r7, g7, h⟩ := g_b h
        refine kq_i (wSB cI cJ cZ a ce fr un sb se so sc wb we wo wc fb fe fo fc rm ac rf kn) (fun qP qD qF => va_runV (As := []) (rest := [.long r6]) ⟨hx, hb, hml, hown, hts⟩ (c_X1_crowd l dC dI cB cI cJ cZ a _ ce fr un sb se so sc wb we wo wc fb fe fo fc rm ac rf kn  r7 g7) (kcwV hts kw_319 kv_X1_crowd rfl rfl ⟨(Nat.le_of_ble_eq_true rfl), (Nat.le_of_ble_eq_true rfl)⟩) (kpV (A := A) qP hK qD hG (krecv_3 (q0 := 0) hK hP rfl)) rfl rfl hl.1 rfl (lv_room (Nat.le_of_ble_eq_true rfl)) (kdr dgX1_mixWishes_0 4 0 rfl rfl) ⟨(Nat.le_of_ble_eq_true rfl), (Nat.le_of_ble_eq_true rfl)⟩) hP hD hS hA kFr_SB (fun H locs hP hD hS br7 => ?_)
        obtain ⟨r8, g8, h⟩ := g_b h
        refine kq_l (wSB cI cJ cZ a ce fr un sb se so sc wb we wo wc fb fe fo fc rm ac rf kn) (fun qP qD qF => va_runS (As := [.long r6, .int r7]) (rest := []) ⟨hx, hb, hml, hown, hts⟩ (c_X1_mix l dC dI cB cI cJ cZ  _  r6 r7 r8 g8) (kcwS hts kw_336 kv_X1_mix rfl rfl ⟨(Nat.le_of_ble_eq_true rfl), (Nat.le_of_ble_eq_true rfl)⟩) (kpS (A := A) (kPnil) hK ((kDnil (A := A))) hG) rfl rfl hl.1 rfl (lv_room (Nat.le_of_ble_eq_true rfl)) (kdr dgX1_mixWishes_0 4 1 rfl rfl) ⟨(Nat.le_of_ble_eq_true rfl), (Nat.le_of_ble_eq_true rfl)⟩) hP hD hS hA kFr_n (fun H locs hP hD hS => ?_)
        have h := Option.some.inj h
        subst h
        exact kret_l (v := r8) hx hb hr hlocks hS hP (kdr dgX1_mixWishes_0 4 2 rfl rfl)
      · have h := g_f c2 h
        refine lv_lload_n hx hb (kdr dgX1_mixWishes_0 1 3 rfl rfl) rfl (lv_at hl 1 rfl) ?_
        refine lv_aload_n hx hb (kdr dgX1_mixWishes_0 1 4 rfl rfl) rfl (lv_at hl 0 rfl) ?_
        refine va_get (D := (dC, dI)) (ci := 3) (v := .ref (a 6)) (C := RX1) (T := TX1) (N := 10) hx hb hts hiX1 hown hK hP 0 rfl rfl 4 (by decide) hw0 (fun _ h9 => h9) rfl (kdr dgX1_mixWishes_0 1 5 rfl rfl) ?_
        refine lv_iload hx hb (kdr dgX1_mixWishes_0 1 6 rfl rfl) (lv_at hl 2 rfl) ?_
        obtain ⟨r3, g3, h⟩ := g_b h
        refine kq_l (wSB cI cJ cZ a ce fr un sb se so sc wb we wo wc fb fe fo fc rm ac rf kn) (fun qP qD qF => va_runS (As := [.long x3, .ref (a 6), .int x5]) (rest := []) ⟨hx, hb, hml, hown, hts⟩ (c_X1_mixParts l dC dI cB cI cJ cZ (a 6) (a 7) (a 8) (a 9) _ wb we wo wc x3 x5 r3 g3) (kcwS hts kw_430 kv_X1_mixParts rfl rfl ⟨(Nat.le_of_ble_eq_true rfl), (Nat.le_of_ble_eq_true rfl)⟩) (kpS (A := A) qP hK qD hG) rfl rfl hl.1 rfl (lv_room (Nat.le_of_ble_eq_true rfl)) (kdr dgX1_mixWishes_0 1 7 rfl rfl) ⟨(Nat.le_of_ble_eq_true rfl), (Nat.le_of_ble_eq_true rfl)⟩) hP hD hS hA kFr_SBw (fun H locs hP hD hS => ?_)
        refine lv_lstore_n (lv' := (kvJ 3 r3 (kvA 0 (a 0) (kvI 5 x5 kvE)))) hx hb (kdr dgX1_mixWishes_0 1 8 rfl rfl) rfl hl (by decide) rfl (fun ls hl => ?_)
        refine lv_lload_n hx hb (kdr dgX1_mixWishes_0 1 9 rfl rfl) rfl (lv_at hl 0 rfl) ?_
        refine lv_aload_n hx hb (kdr dgX1_mixWishes_0 2 0 rfl rfl) rfl (lv_at hl 1 rfl) ?_
        refine va_get (D := (dC, dI)) (ci := 3) (v := .ref (a 14)) (C := RX1) (T := TX1) (N := 10) hx hb hts hiX1 hown hK hP 0 rfl rfl 6 (by decide) hw1 (fun _ h9 => h9) rfl (kdr dgX1_mixWishes_0 2 1 rfl rfl) ?_
        refine lv_iload hx hb (kdr dgX1_mixWishes_0 2 2 rfl rfl) (lv_at hl 2 rfl) ?_
        obtain ⟨z3, h⟩ := g_if h
        refine va_iald hx hb hK hP 14 1 rfl rfl (ix_in z3) (kdr dgX1_mixWishes_0 2 3 rfl rfl) ?_
        obtain ⟨r5, g5, h⟩ := g_b h
        refine kq_l (wSB cI cJ cZ a ce fr un sb se so sc wb we wo wc fb fe fo fc rm ac rf kn) (fun qP qD qF => va_runS (As := [.long r3, .int (rm x5.toNatClampNeg)]) (rest := []) ⟨hx, hb, hml, hown, hts⟩ (c_X1_mix l dC dI cB cI cJ cZ  _  r3 (rm x5.toNatClampNeg) r5 g5) (kcwS hts kw_336 kv_X1_mix rfl rfl ⟨(Nat.le_of_ble_eq_true rfl), (Nat.le_of_ble_eq_true rfl)⟩) (kpS (A := A) (kPnil) hK ((kDnil (A := A))) hG) rfl rfl hl.1 rfl (lv_room (Nat.le_of_ble_eq_true rfl)) (kdr dgX1_mixWishes_0 2 4 rfl rfl) ⟨(Nat.le_of_ble_eq_true rfl), (Nat.le_of_ble_eq_true rfl)⟩) hP hD hS hA kFr_n (fun H locs hP hD hS => ?_)
        refine lv_lstore_n (lv' := (kvJ 3 r5 (kvA 0 (a 0) (kvI 5 x5 kvE)))) hx hb (kdr dgX1_mixWishes_0 2 5 rfl rfl) rfl hl (by decide) rfl (fun ls hl => ?_)
        refine lv_iinc (v := x5 + 1) (lv' := (kvI 5 (x5 + 1) (kvJ 3 r5 (kvA 0 (a 0) kvE)))) hx hb (kdr dgX1_mixWishes_0 2 6 rfl rfl) hl (k := 2) rfl rfl (by decide) rfl (fun ls hl => ?_)
        refine lv_goto (tgt := 15) hx hb (kdr dgX1_mixWishes_0 2 7 rfl rfl) (by decide) ?_
        exact ih ce fr un sb se so sc wb we wo wc fb fe fo fc rm ac rf kn r5 (x5 + 1) _ _ hP hD hS ls (lv_sub hl [2, 1, 0] rfl) h
  have h := f_X1_mixWishes_e.symm.trans hf
  refine lv_lload_n hx hb (kdr dgX1_mixWishes_0 0 0 rfl rfl) rfl (lv_at hl 1 rfl) ?_
  refine lv_aload_n hx hb (kdr dgX1_mixWishes_0 0 1 rfl rfl) rfl (lv_at hl 0 rfl) ?_
  refine va_get (D := (dC, dI)) (ci := 3) (v := .ref (a 6)) (C := RX1) (T := TX1) (N := 10) hx hb hts hiX1 hown hK hP 0 rfl rfl 4 (by decide) hw0 (fun _ h9 => h9) rfl (kdr dgX1_mixWishes_0 0 2 rfl rfl) ?_
  obtain ⟨r1, g1, h⟩ := g_b h
  refine kq_i (wSB cI cJ cZ a ce fr un sb se so sc wb we wo wc fb fe fo fc rm ac rf kn) (fun qP qD qF => va_runV (As := []) (rest := [.long p0]) ⟨hx, hb, hml, hown, hts⟩ (c_X0_count l dC dI cB cI cJ cZ (a 6) (a 7) (a 8) (a 9) _ wb we wo wc  r1 g1) (kcwV hts kw_155 kv_X0_count rfl rfl ⟨(Nat.le_of_ble_eq_true rfl), (Nat.le_of_ble_eq_true rfl)⟩) (kpV (A := A) qP hK qD hG (krecv_2 (q0 := 6) hK hP rfl)) rfl rfl hl.1 rfl (lv_room (Nat.le_of_ble_eq_true rfl)) (kdr dgX1_mixWishes_0 0 3 rfl rfl) ⟨(Nat.le_of_ble_eq_true rfl), (Nat.le_of_ble_eq_true rfl)⟩) hP hD hS hA kFr_SBw (fun H locs hP hD hS br1 => ?_)
  obtain ⟨r2, g2, h⟩ := g_b h
  refine kq_l (wSB cI cJ cZ a ce fr un sb se so sc wb we wo wc fb fe fo fc rm ac rf kn) (fun qP qD qF => va_runS (As := [.long p0, .int r1]) (rest := []) ⟨hx, hb, hml, hown, hts⟩ (c_X1_mix l dC dI cB cI cJ cZ  _  p0 r1 r2 g2) (kcwS hts kw_336 kv_X1_mix rfl rfl ⟨(Nat.le_of_ble_eq_true rfl), (Nat.le_of_ble_eq_true rfl)⟩) (kpS (A := A) (kPnil) hK ((kDnil (A := A))) hG) rfl rfl hl.1 rfl (lv_room (Nat.le_of_ble_eq_true rfl)) (kdr dgX1_mixWishes_0 0 4 rfl rfl) ⟨(Nat.le_of_ble_eq_true rfl), (Nat.le_of_ble_eq_true rfl)⟩) hP hD hS hA kFr_n (fun H locs hP hD hS => ?_)
  refine lv_lstore_n (lv' := (kvJ 3 r2 (kvA 0 (a 0) (kvJ 1 p0 kvE)))) hx hb (kdr dgX1_mixWishes_0 0 5 rfl rfl) rfl hl (by decide) rfl (fun ls hl => ?_)
  refine lv_iconst (v := 0) hx hb (kdr dgX1_mixWishes_0 0 6 rfl rfl) (by decide) ?_
  refine lv_istore (lv' := (kvI 5 0 (kvJ 3 r2 (kvA 0 (a 0) (kvJ 1 p0 kvE))))) hx hb (kdr dgX1_mixWishes_0 0 7 rfl rfl) hl (by decide) rfl (fun ls hl => ?_)
  exact J15 24 ce fr un sb se so sc wb we wo wc fb fe fo fc rm ac rf kn r2 0 _ _ hP hD hS ls (lv_sub hl [2, 1, 0] rfl) h
noncomputable abbrev wsX1_digest : List Cond := kWs yX1_digest cX1_digest 3 (some .long)
noncomputable def f_X1_digest_76 (fb : Nat → Int64) (fe : Nat → Int64) (fo : Nat → Int32) (fc : Int32) (rm : Nat → Int32) (y0 : Int32) (y1 : Int64) : Option ((Int64) × (Nat → Int64) × (Nat → Int64) × (Nat → Int32) × (Int32) × (Nat → Int32)) :=
  (f_X1_mix y1 y0).bind fun r1 =>
  some (r1, fb, fe, fo, fc, rm)
theorem f_X1_digest_76_e {fb : Nat → Int64} {fe : Nat → Int64} {fo : Nat → Int32} {fc : Int32} {rm : Nat → Int32} {y0 : Int32} {y1 : Int64} : f_X1_digest_76 fb fe fo fc rm y0 y1 =
  (f_X1_mix y1 y0).bind fun r1 =>
  some (r1, fb, fe, fo, fc, rm) := rfl
noncomputable def f_X1_digest (ce : Nat → Int64) (fr : Int64) (un : Int64) (sb : Nat → Int64) (se : Nat → Int64) (so : Nat → Int32) (sc : Int32) (wb : Nat → Int64) (we : Nat → Int64) (wc : Int32) (fb : Nat → Int64) (fe : Nat → Int64) (fo : Nat → Int32) (fc : Int32) (rm : Nat → Int32) (ac : Int32) (rf : Int32) (kn : Int32) : Option ((Int64) × (Nat → Int64) × (Nat → Int64) × (Nat → Int32) × (Int32) × (Nat → Int32)) :=
  (f_X1_findFrees fr un sb se sc fb fe fo fc).bind fun r1 =>
  (f_X1_findRooms wb we wc rm).bind fun r2 =>
  (f_X1_mixCells ce sb se sc r1.1 r1.2.1 r1.2.2.2 8009).bind fun r3 =>
  (f_X1_mixSpans fr un sb se so sc r3).bind fun r4 =>
  (f_X1_mixFrees fr un sb se sc r1.1 r1.2.1 r1.2.2.1 r1.2.2.2 r4).bind fun r5 =>
  (f_X1_mixWishes wb we wc r2 r5.1).bind fun r6 =>
  (f_X1_mix r6 ac).bind fun r7 =>
  (f_X1_mix r7 rf).bind fun r8 =>
  (f_X1_mix r8 kn).bind fun r9 =>
  (f_X1_isSound fr un sb se so sc wb we wc r5.2.1 r5.2.2.1 r5.2.2.2.1 r5.2.2.2.2 r2).bind fun r10 =>
  if r10.1 = 0 then
    f_X1_digest_76 r10.2.1 r10.2.2.1 r10.2.2.2.1 r10.2.2.2.2.1 r10.2.2.2.2.2 0 r9
  else
    f_X1_digest_76 r10.2.1 r10.2.2.1 r10.2.2.2.1 r10.2.2.2.2.1 r10.2.2.2.2.2 1 r9
theorem f_X1_digest_e {ce : Nat → Int64} {fr : Int64} {un : Int64} {sb : Nat → Int64} {se : Nat → Int64} {so : Nat → Int32} {sc : Int32} {wb : Nat → Int64} {we : Nat → Int64} {wc : Int32} {fb : Nat → Int64} {fe : Nat → Int64} {fo : Nat → Int32} {fc : Int32} {rm : Nat → Int32} {ac : Int32} {rf : Int32} {kn : Int32} : f_X1_digest ce fr un sb se so sc wb we wc fb fe fo fc rm ac rf kn = 
  (f_X1_findFrees fr un sb se sc fb fe fo fc).bind fun r1 =>
  (f_X1_findRooms wb we wc rm).bind fun r2 =>
  (f_X1_mixCells ce sb se sc r1.1 r1.2.1 r1.2.2.2 8009).bind fun r3 =>
  (f_X1_mixSpans fr un sb se so sc r3).bind fun r4 =>
  (f_X1_mixFrees fr un sb se sc r1.1 r1.2.1 r1.2.2.1 r1.2.2.2 r4).bind fun r5 =>
  (f_X1_mixWishes wb we wc r2 r5.1).bind fun r6 =>
  (f_X1_mix r6 ac).bind fun r7 =>
  (f_X1_mix r7 rf).bind fun r8 =>
  (f_X1_mix r8 kn).bind fun r9 =>
  (f_X1_isSound fr un sb se so sc wb we wc r5.2.1 r5.2.2.1 r5.2.2.2.1 r5.2.2.2.2 r2).bind fun r10 =>
  if r10.1 = 0 then
    f_X1_digest_76 r10.2.1 r10.2.2.1 r10.2.2.2.1 r10.2.2.2.2.1 r10.2.2.2.2.2 0 r9
  else
    f_X1_digest_76 r10.2.1 r10.2.2.1 r10.2.2.2.1 r10.2.2.2.2.1 r10.2.2.2.2.2 1 r9 := rfl
set_option maxHeartbeats 4000000 in
set_option maxRecDepth 100000 in
theorem c_X1_digest (l : Launch) (dC : Nat → ClassId) (dI : Nat → Nat → Nat) (cB cI cJ cZ : ClassId) (a : Nat → Nat) (sz : Nat) (ce : Nat → Int64) (fr : Int64) (un : Int64) (sb : Nat → Int64) (se : Nat → Int64) (so : Nat → Int32) (sc : Int32) (wb : Nat → Int64) (we : Nat → Int64) (wo : Nat → Int32) (wc : Int32) (fb : Nat → Int64) (fe : Nat → Int64) (fo : Nat → Int32) (fc : Int32) (rm : Nat → Int32) (ac : Int32) (rf : Int32) (kn : Int32) (res : (Int64) × (Nat → Int64) × (Nat → Int64) × (Nat → Int32) × (Int32) × (Nat → Int32)) (hf : f_X1_digest ce fr un sb se so sc wb we wc fb fe fo fc rm ac rf kn = some res) : kMl l yX1_digest wsX1_digest (kRm 6 0 0 143) dC dI cB cI cJ cZ [.ref (a 0)] sz (wSB cI cJ cZ a ce fr un sb se so sc wb we wo wc fb fe fo fc rm ac rf kn) (res.1) (wSB cI cJ cZ a ce fr un sb se so sc wb we wo wc (res.2.1) (res.2.2.1) (res.2.2.2.1) (res.2.2.2.2.1) (res.2.2.2.2.2) ac rf kn) 0 0 := by
  refine kmet_l (y := yX1_digest) (cc := cX1_digest) (maxL := 3) (ret := (some .long)) RX1 (kvA 0 (a 0) kvE) kpl_X1 rfl rfl (Nat.le_of_ble_eq_true rfl) rfl (fun p e s m below meth c A ls hx hb hr hml hts hown hlocks hP hK hG hD hA hS hl => ?_)
  have hw0 := hts (.constantLong RX1 244 (8009)) (List.mem_cons_of_mem _ kw_324)
  have hw1 := hts (.fieldLink RX1 224 "Spanbooker" "acts" "I") (List.mem_cons_of_mem _ kw_114)
  have hw2 := hts (.fieldLink RX1 228 "Spanbooker" "refusals" "I") (List.mem_cons_of_mem _ kw_115)
  have hw3 := hts (.fieldLink RX1 231 "Spanbooker" "knocks" "I") (List.mem_cons_of_mem _ kw_116)
  have hiX1 : ∀ w ∈ u_ws RX1 TX1 10, w ∈ wsX1_digest := fun w h => List.mem_cons_of_mem _ (ku_X1 w h)
  have J76 : ∀ (ce : Nat → Int64) (fr : Int64) (un : Int64) (sb : Nat → Int64) (se : Nat → Int64) (so : Nat → Int32) (sc : Int32) (wb : Nat → Int64) (we : Nat → Int64) (wo : Nat → Int32) (wc : Int32) (fb : Nat → Int64) (fe : Nat → Int64) (fo : Nat → Int32) (fc : Int32) (rm : Nat → Int32) (ac : Int32) (rf : Int32) (kn : Int32) (y0 : Int32) (y1 : Int64) (H : Heap) (locs : List Loc), va_P (dC, dI) vwCl (wSB cI cJ cZ a ce fr un sb se so sc wb we wo wc fb fe fo fc rm ac rf kn) H → va_D A (wSB cI cJ cZ a ce fr un sb se so sc wb we wo wc fb fe fo fc rm ac rf kn) → va_S A s.heap H locs → ∀ (ls : Array Slot), lv_has ls 3 kvE → f_X1_digest_76 fb fe fo fc rm y0 y1 = some res → W p l e (headSpec wsX1_digest (kRm 6 0 0 143)).room s m ([.ref (a 0)] : List Value).toArray below meth c H locs 0 0 (MQ below (kL (dC, dI) (res.1) (wSB cI cJ cZ a ce fr un sb se so sc wb we wo wc (res.2.1) (res.2.2.1) (res.2.2.2.1) (res.2.2.2.2.1) (res.2.2.2.2.2) ac rf kn) A) ([.ref (a 0)] : List Value).toArray s 0 0 A) (F0 m 76 ls [.int y0, .long y1]) := by
    intro ce fr un sb se so sc wb we wo wc fb fe fo fc rm ac rf kn y0 y1 H locs hP hD hS ls hl h
    have h := f_X1_digest_76_e.symm.trans h
    obtain ⟨r1, g1, h⟩ := g_b h
    refine kq_l (wSB cI cJ cZ a ce fr un sb se so sc wb we wo wc fb fe fo fc rm ac rf kn) (fun qP qD qF => va_runS (As := [.long y1, .int y0]) (rest := []) ⟨hx, hb, hml, hown, hts⟩ (c_X1_mix l dC dI cB cI cJ cZ  _  y1 y0 r1 g1) (kcwS hts kw_336 kv_X1_mix rfl rfl ⟨(Nat.le_of_ble_eq_true rfl), (Nat.le_of_ble_eq_true rfl)⟩) (kpS (A := A) (kPnil) hK ((kDnil (A := A))) hG) rfl rfl hl.1 rfl (lv_room (Nat.le_of_ble_eq_true rfl)) (kdr dgX1_digest_0 4 4 rfl rfl) ⟨(Nat.le_of_ble_eq_true rfl), (Nat.le_of_ble_eq_true rfl)⟩) hP hD hS hA kFr_n (fun H locs hP hD hS => ?_)
    have h := Option.some.inj h
    subst h
    exact kret_l (v := r1) hx hb hr hlocks hS hP (kdr dgX1_digest_0 4 5 rfl rfl)
  have h := f_X1_digest_e.symm.trans hf
  refine lv_aload_n hx hb (kdr dgX1_digest_0 0 0 rfl rfl) rfl (lv_at hl 0 rfl) ?_
  obtain ⟨r1, g1, h⟩ := g_b h
  refine kq_v (wSB cI cJ cZ a ce fr un sb se so sc wb we wo wc r1.1 r1.2.1 r1.2.2.1 r1.2.2.2 rm ac rf kn) (fun qP qD qF => va_runV (As := []) (rest := []) ⟨hx, hb, hml, hown, hts⟩ (c_X1_findFrees l dC dI cB cI cJ cZ a _ ce fr un sb se so sc wb we wo wc fb fe fo fc rm ac rf kn  r1 g1) (kcwV hts kw_182 kv_X1_findFrees rfl rfl ⟨(Nat.le_of_ble_eq_true rfl), (Nat.le_of_ble_eq_true rfl)⟩) (kpV (A := A) qP hK qD hG (krecv_3 (q0 := 0) hK hP rfl)) rfl rfl hl.1 rfl (lv_room (Nat.le_of_ble_eq_true rfl)) (kdr dgX1_digest_0 0 1 rfl rfl) ⟨(Nat.le_of_ble_eq_true rfl), (Nat.le_of_ble_eq_true rfl)⟩) hP hD hS hA kFr_SB (fun H locs hP hD hS => ?_)
  refine lv_aload_n hx hb (kdr dgX1_digest_0 0 2 rfl rfl) rfl (lv_at hl 0 rfl) ?_
  obtain ⟨r2, g2, h⟩ := g_b h
  refine kq_v (wSB cI cJ cZ a ce fr un sb se so sc wb we wo wc r1.1 r1.2.1 r1.2.2.1 r1.2.2.2 r2 ac rf kn) (fun qP qD qF => va_runV (As := []) (rest := []) ⟨hx, hb, hml, hown, hts⟩ (c_X1_findRooms l dC dI cB cI cJ cZ a _ ce fr un sb se so sc wb we wo wc r1.1 r1.2.1 r1.2.2.1 r1.2.2.2 rm ac rf kn  r2 g2) (kcwV hts kw_243 kv_X1_findRooms rfl rfl ⟨(Nat.le_of_ble_eq_true rfl), (Nat.le_of_ble_eq_true rfl)⟩) (kpV (A := A) qP hK qD hG (krecv_3 (q0 := 0) hK hP rfl)) rfl rfl hl.1 rfl (lv_room (Nat.le_of_ble_eq_true rfl)) (kdr dgX1_digest_0 0 3 rfl rfl) ⟨(Nat.le_of_ble_eq_true rfl), (Nat.le_of_ble_eq_true rfl)⟩) hP hD hS hA kFr_SB (fun H locs hP hD hS => ?_)
  refine lv_ldc2 (v := (8009)) hx hb hown hw0 (kdr dgX1_digest_0 0 4 rfl rfl) ?_
  refine lv_lstore_n (lv' := (kvJ 1 8009 (kvA 0 (a 0) kvE))) hx hb (kdr dgX1_digest_0 0 5 rfl rfl) rfl hl (by decide) rfl (fun ls hl => ?_)
  refine lv_aload_n hx hb (kdr dgX1_digest_0 0 6 rfl rfl) rfl (lv_at hl 1 rfl) ?_
  refine lv_lload_n hx hb (kdr dgX1_digest_0 0 7 rfl rfl) rfl (lv_at hl 0 rfl) ?_
  obtain ⟨r3, g3, h⟩ := g_b h
  refine kq_l (wSB cI cJ cZ a ce fr un sb se so sc wb we wo wc r1.1 r1.2.1 r1.2.2.1 r1.2.2.2 r2 ac rf kn) (fun qP qD qF => va_runV (As := [.long 8009]) (rest := []) ⟨hx, hb, hml, hown, hts⟩ (c_X1_mixCells l dC dI cB cI cJ cZ a _ ce fr un sb se so sc wb we wo wc r1.1 r1.2.1 r1.2.2.1 r1.2.2.2 r2 ac rf kn 8009 r3 g3) (kcwV hts kw_325 kv_X1_mixCells rfl rfl ⟨(Nat.le_of_ble_eq_true rfl), (Nat.le_of_ble_eq_true rfl)⟩) (kpV (A := A) qP hK qD hG (krecv_3 (q0 := 0) hK hP rfl)) rfl rfl hl.1 rfl (lv_room (Nat.le_of_ble_eq_true rfl)) (kdr dgX1_digest_0 0 8 rfl rfl) ⟨(Nat.le_of_ble_eq_true rfl), (Nat.le_of_ble_eq_true rfl)⟩) hP hD hS hA kFr_SB (fun H locs hP hD hS => ?_)
  refine lv_lstore_n (lv' := (kvJ 1 r3 (kvA 0 (a 0) kvE))) hx hb (kdr dgX1_digest_0 0 9 rfl rfl) rfl hl (by decide) rfl (fun ls hl => ?_)
  refine lv_aload_n hx hb (kdr dgX1_digest_0 1 0 rfl rfl) rfl (lv_at hl 1 rfl) ?_
  refine lv_lload_n hx hb (kdr dgX1_digest_0 1 1 rfl rfl) rfl (lv_at hl 0 rfl) ?_
  obtain ⟨r4, g4, h⟩ := g_b h
  refine kq_l (wSB cI cJ cZ a ce fr un sb se so sc wb we wo wc r1.1 r1.2.1 r1.2.2.1 r1.2.2.2 r2 ac rf kn) (fun qP qD qF => va_runV (As := [.long r3]) (rest := []) ⟨hx, hb, hml, hown, hts⟩ (c_X1_mixSpans l dC dI cB cI cJ cZ a _ ce fr un sb se so sc wb we wo wc r1.1 r1.2.1 r1.2.2.1 r1.2.2.2 r2 ac rf kn r3 r4 g4) (kcwV hts kw_346 kv_X1_mixSpans rfl rfl ⟨(Nat.le_of_ble_eq_true rfl), (Nat.le_of_ble_eq_true rfl)⟩) (kpV (A := A) qP hK qD hG (krecv_3 (q0 := 0) hK hP rfl)) rfl rfl hl.1 rfl (lv_room (Nat.le_of_ble_eq_true rfl)) (kdr dgX1_digest_0 1 2 rfl rfl) ⟨(Nat.le_of_ble_eq_true rfl), (Nat.le_of_ble_eq_true rfl)⟩) hP hD hS hA kFr_SB (fun H locs hP hD hS => ?_)
  refine lv_lstore_n (lv' := (kvJ 1 r4 (kvA 0 (a 0) kvE))) hx hb (kdr dgX1_digest_0 1 3 rfl rfl) rfl hl (by decide) rfl (fun ls hl => ?_)
  refine lv_aload_n hx hb (kdr dgX1_digest_0 1 4 rfl rfl) rfl (lv_at hl 1 rfl) ?_
  refine lv_lload_n hx hb (kdr dgX1_digest_0 1 5 rfl rfl) rfl (lv_at hl 0 rfl) ?_
  obtain ⟨r5, g5, h⟩ := g_b h
  refine kq_l (wSB cI cJ cZ a ce fr un sb se so sc wb we wo wc r5.2.1 r5.2.2.1 r5.2.2.2.1 r5.2.2.2.2 r2 ac rf kn) (fun qP qD qF => va_runV (As := [.long r4]) (rest := []) ⟨hx, hb, hml, hown, hts⟩ (c_X1_mixFrees l dC dI cB cI cJ cZ a _ ce fr un sb se so sc wb we wo wc r1.1 r1.2.1 r1.2.2.1 r1.2.2.2 r2 ac rf kn r4 r5 g5) (kcwV hts kw_438 kv_X1_mixFrees rfl rfl ⟨(Nat.le_of_ble_eq_true rfl), (Nat.le_of_ble_eq_true rfl)⟩) (kpV (A := A) qP hK qD hG (krecv_3 (q0 := 0) hK hP rfl)) rfl rfl hl.1 rfl (lv_room (Nat.le_of_ble_eq_true rfl)) (kdr dgX1_digest_0 1 6 rfl rfl) ⟨(Nat.le_of_ble_eq_true rfl), (Nat.le_of_ble_eq_true rfl)⟩) hP hD hS hA kFr_SB (fun H locs hP hD hS => ?_)
  refine lv_lstore_n (lv' := (kvJ 1 r5.1 (kvA 0 (a 0) kvE))) hx hb (kdr dgX1_digest_0 1 7 rfl rfl) rfl hl (by decide) rfl (fun ls hl => ?_)
  refine lv_aload_n hx hb (kdr dgX1_digest_0 1 8 rfl rfl) rfl (lv_at hl 1 rfl) ?_
  refine lv_lload_n hx hb (kdr dgX1_digest_0 1 9 rfl rfl) rfl (lv_at hl 0 rfl) ?_
  obtain ⟨r6, g6, h⟩ := g_b h
  refine kq_l (wSB cI cJ cZ a ce fr un sb se so sc wb we wo wc r5.2.1 r5.2.2.1 r5.2.2.2.1 r5.2.2.2.2 r2 ac rf kn) (fun qP qD qF => va_runV (As := [.long r5.1]) (rest := []) ⟨hx, hb, hml, hown, hts⟩ (c_X1_mixWishes l dC dI cB cI cJ cZ a _ ce fr un sb se so sc wb we wo wc r5.2.1 r5.2.2.1 r5.2.2.2.1 r5.2.2.2.2 r2 ac rf kn r5.1 r6 g6) (kcwV hts kw_446 kv_X1_mixWishes rfl rfl ⟨(Nat.le_of_ble_eq_true rfl), (Nat.le_of_ble_eq_true rfl)⟩) (kpV (A := A) qP hK qD hG (krecv_3 (q0 := 0) hK hP rfl)) rfl rfl hl.1 rfl (lv_room (Nat.le_of_ble_eq_true rfl)) (kdr dgX1_digest_0 2 0 rfl rfl) ⟨(Nat.le_of_ble_eq_true rfl), (Nat.le_of_ble_eq_true rfl)⟩) hP hD hS hA kFr_SB (fun H locs hP hD hS => ?_)
  refine lv_lstore_n (lv' := (kvJ 1 r6 (kvA 0 (a 0) kvE))) hx hb (kdr dgX1_digest_0 2 1 rfl rfl) rfl hl (by decide) rfl (fun ls hl => ?_)
  refine lv_lload_n hx hb (kdr dgX1_digest_0 2 2 rfl rfl) rfl (lv_at hl 0 rfl) ?_
  refine lv_aload_n hx hb (kdr dgX1_digest_0 2 3 rfl rfl) rfl (lv_at hl 1 rfl) ?_
  refine va_get (D := (dC, dI)) (ci := 3) (v := .int ac) (C := RX1) (T := TX1) (N := 10) hx hb hts hiX1 hown hK hP 0 rfl rfl 7 (by decide) hw1 (fun _ h9 => h9) rfl (kdr dgX1_digest_0 2 4 rfl rfl) ?_
  obtain ⟨r7, g7, h⟩ := g_b h
  refine kq_l (wSB cI cJ cZ a ce fr un sb se so sc wb we wo wc r5.2.1 r5.2.2.1 r5.2.2.2.1 r5.2.2.2.2 r2 ac rf kn) (fun qP qD qF => va_runS (As := [.long r6, .int ac]) (rest := []) ⟨hx, hb, hml, hown, hts⟩ (c_X1_mix l dC dI cB cI cJ cZ  _  r6 ac r7 g7) (kcwS hts kw_336 kv_X1_mix rfl rfl ⟨(Nat.le_of_ble_eq_true rfl), (Nat.le_of_ble_eq_true rfl)⟩) (kpS (A := A) (kPnil) hK ((kDnil (A := A))) hG) rfl rfl hl.1 rfl (lv_room (Nat.le_of_ble_eq_true rfl)) (kdr dgX1_digest_0 2 5 rfl rfl) ⟨(Nat.le_of_ble_eq_true rfl), (Nat.le_of_ble_eq_true rfl)⟩) hP hD hS hA kFr_n (fun H locs hP hD hS => ?_)
  refine lv_lstore_n (lv' := (kvJ 1 r7 (kvA 0 (a 0) kvE))) hx hb (kdr dgX1_digest_0 2 6 rfl rfl) rfl hl (by decide) rfl (fun ls hl => ?_)
  refine lv_lload_n hx hb (kdr dgX1_digest_0 2 7 rfl rfl) rfl (lv_at hl 0 rfl) ?_
  refine lv_aload_n hx hb (kdr dgX1_digest_0 2 8 rfl rfl) rfl (lv_at hl 1 rfl) ?_
  refine va_get (D := (dC, dI)) (ci := 3) (v := .int rf) (C := RX1) (T := TX1) (N := 10) hx hb hts hiX1 hown hK hP 0 rfl rfl 8 (by decide) hw2 (fun _ h9 => h9) rfl (kdr dgX1_digest_0 2 9 rfl rfl) ?_
  obtain ⟨r8, g8, h⟩ := g_b h
  refine kq_l (wSB cI cJ cZ a ce fr un sb se so sc wb we wo wc r5.2.1 r5.2.2.1 r5.2.2.2.1 r5.2.2.2.2 r2 ac rf kn) (fun qP qD qF => va_runS (As := [.long r7, .int rf]) (rest := []) ⟨hx, hb, hml, hown, hts⟩ (c_X1_mix l dC dI cB cI cJ cZ  _  r7 rf r8 g8) (kcwS hts kw_336 kv_X1_mix rfl rfl ⟨(Nat.le_of_ble_eq_true rfl), (Nat.le_of_ble_eq_true rfl)⟩) (kpS (A := A) (kPnil) hK ((kDnil (A := A))) hG) rfl rfl hl.1 rfl (lv_room (Nat.le_of_ble_eq_true rfl)) (kdr dgX1_digest_0 3 0 rfl rfl) ⟨(Nat.le_of_ble_eq_true rfl), (Nat.le_of_ble_eq_true rfl)⟩) hP hD hS hA kFr_n (fun H locs hP hD hS => ?_)
  refine lv_lstore_n (lv' := (kvJ 1 r8 (kvA 0 (a 0) kvE))) hx hb (kdr dgX1_digest_0 3 1 rfl rfl) rfl hl (by decide) rfl (fun ls hl => ?_)
  refine lv_lload_n hx hb (kdr dgX1_digest_0 3 2 rfl rfl) rfl (lv_at hl 0 rfl) ?_
  refine lv_aload_n hx hb (kdr dgX1_digest_0 3 3 rfl rfl) rfl (lv_at hl 1 rfl) ?_
  refine va_get (D := (dC, dI)) (ci := 3) (v := .int kn) (C := RX1) (T := TX1) (N := 10) hx hb hts hiX1 hown hK hP 0 rfl rfl 9 (by decide) hw3 (fun _ h9 => h9) rfl (kdr dgX1_digest_0 3 4 rfl rfl) ?_
  obtain ⟨r9, g9, h⟩ := g_b h
  refine kq_l (wSB cI cJ cZ a ce fr un sb se so sc wb we wo wc r5.2.1 r5.2.2.1 r5.2.2.2.1 r5.2.2.2.2 r2 ac rf kn) (fun qP qD qF => va_runS (As := [.long r8, .int kn]) (rest := []) ⟨hx, hb, hml, hown, hts⟩ (c_X1_mix l dC dI cB cI cJ cZ  _  r8 kn r9 g9) (kcwS hts kw_336 kv_X1_mix rfl rfl ⟨(Nat.le_of_ble_eq_true rfl), (Nat.le_of_ble_eq_true rfl)⟩) (kpS (A := A) (kPnil) hK ((kDnil (A := A))) hG) rfl rfl hl.1 rfl (lv_room (Nat.le_of_ble_eq_true rfl)) (kdr dgX1_digest_0 3 5 rfl rfl) ⟨(Nat.le_of_ble_eq_true rfl), (Nat.le_of_ble_eq_true rfl)⟩) hP hD hS hA kFr_n (fun H locs hP hD hS => ?_)
  refine lv_lstore_n (lv' := (kvJ 1 r9 (kvA 0 (a 0) kvE))) hx hb (kdr dgX1_digest_0 3 6 rfl rfl) rfl hl (by decide) rfl (fun ls hl => ?_)
  refine lv_lload_n hx hb (kdr dgX1_digest_0 3 7 rfl rfl) rfl (lv_at hl 0 rfl) ?_
  refine lv_aload_n hx hb (kdr dgX1_digest_0 3 8 rfl rfl) rfl (lv_at hl 1 rfl) ?_
  obtain ⟨r10, g10, h⟩ := g_b h
  refine kq_i (wSB cI cJ cZ a ce fr un sb se so sc wb we wo wc r10.2.1 r10.2.2.1 r10.2.2.2.1 r10.2.2.2.2.1 r10.2.2.2.2.2 ac rf kn) (fun qP qD qF => va_runV (As := []) (rest := [.long r9]) ⟨hx, hb, hml, hown, hts⟩ (c_X1_isSound l dC dI cB cI cJ cZ a _ ce fr un sb se so sc wb we wo wc r5.2.1 r5.2.2.1 r5.2.2.2.1 r5.2.2.2.2 r2 ac rf kn  r10 g10) (kcwV hts kw_450 kv_X1_isSound rfl rfl ⟨(Nat.le_of_ble_eq_true rfl), (Nat.le_of_ble_eq_true rfl)⟩) (kpV (A := A) qP hK qD hG (krecv_3 (q0 := 0) hK hP rfl)) rfl rfl hl.1 rfl (lv_room (Nat.le_of_ble_eq_true rfl)) (kdr dgX1_digest_0 3 9 rfl rfl) ⟨(Nat.le_of_ble_eq_true rfl), (Nat.le_of_ble_eq_true rfl)⟩) hP hD hS hA kFr_SB (fun H locs hP hD hS br10 => ?_)
  refine lv_if_eq (tgt := 75) hx hb (kdr dgX1_digest_0 4 0 rfl rfl) (by decide) (fun c11 => ?_) (fun c11 => ?_)
  · have h := g_t c11 h
    refine lv_iconst (v := 0) hx hb (kdr dgX1_digest_0 4 3 rfl rfl) (by decide) ?_
    exact J76 ce fr un sb se so sc wb we wo wc r10.2.1 r10.2.2.1 r10.2.2.2.1 r10.2.2.2.2.1 r10.2.2.2.2.2 ac rf kn 0 r9 _ _ hP hD hS ls (lv_sub hl [] rfl) h
  · have h := g_f c11 h
    refine lv_iconst (v := 1) hx hb (kdr dgX1_digest_0 4 1 rfl rfl) (by decide) ?_
    refine lv_goto (tgt := 76) hx hb (kdr dgX1_digest_0 4 2 rfl rfl) (by decide) ?_
    exact J76 ce fr un sb se so sc wb we wo wc r10.2.1 r10.2.2.1 r10.2.2.2.1 r10.2.2.2.2.1 r10.2.2.2.2.2 ac rf kn 1 r9 _ _ hP hD hS ls (lv_sub hl [] rfl) h
