abbrev wsX1_isSoundInSpans : List Cond := kWs yX1_isSoundInSpans cX1_isSoundInSpans 3 (some .boolean)
def f_X1_isSoundInSpans_40 (K2 : (Int64) → (Int64) → (Nat → Int64) → (Nat → Int64) → (Nat → Int32) → (Int32) → (Int32) → Option (Int32)) : Nat → (Int64) → (Int64) → (Nat → Int64) → (Nat → Int64) → (Nat → Int32) → (Int32) → (Int32) → (Int32) → Option (Int32)
  | 0, _, _, _, _, _, _, _, _ => none
  | n + 1, fr, un, sb, se, so, sc, x1, x2 =>
    if x1 ≤ x2 then
      K2 fr un sb se so sc (x1 + 1)
    else
      (f_X0_doMeet sb se sc x1 x2).bind fun r2 =>
      if r2 = 0 then
        f_X1_isSoundInSpans_40 K2 n fr un sb se so sc x1 (x2 + 1)
      else
        (f_X0_isOver so sc x1).bind fun r4 =>
        if r4 = 0 then
          (f_X0_isOver so sc x2).bind fun r6 =>
          if r6 = 0 then
            some 0
          else
            f_X1_isSoundInSpans_40 K2 n fr un sb se so sc x1 (x2 + 1)
        else
          f_X1_isSoundInSpans_40 K2 n fr un sb se so sc x1 (x2 + 1)
theorem f_X1_isSoundInSpans_40_0 {K2 : (Int64) → (Int64) → (Nat → Int64) → (Nat → Int64) → (Nat → Int32) → (Int32) → (Int32) → Option (Int32)} {fr : Int64} {un : Int64} {sb : Nat → Int64} {se : Nat → Int64} {so : Nat → Int32} {sc : Int32} {x1 : Int32} {x2 : Int32} : f_X1_isSoundInSpans_40 K2 0 fr un sb se so sc x1 x2 = none := rfl
theorem f_X1_isSoundInSpans_40_s {K2 : (Int64) → (Int64) → (Nat → Int64) → (Nat → Int64) → (Nat → Int32) → (Int32) → (Int32) → Option (Int32)} {n : Nat} {fr : Int64} {un : Int64} {sb : Nat → Int64} {se : Nat → Int64} {so : Nat → Int32} {sc : Int32} {x1 : Int32} {x2 : Int32} : f_X1_isSoundInSpans_40 K2 (n + 1) fr un sb se so sc x1 x2 =
  if x1 ≤ x2 then
    K2 fr un sb se so sc (x1 + 1)
  else
    (f_X0_doMeet sb se sc x1 x2).bind fun r2 =>
    if r2 = 0 then
      f_X1_isSoundInSpans_40 K2 n fr un sb se so sc x1 (x2 + 1)
    else
      (f_X0_isOver so sc x1).bind fun r4 =>
      if r4 = 0 then
        (f_X0_isOver so sc x2).bind fun r6 =>
        if r6 = 0 then
          some 0
        else
          f_X1_isSoundInSpans_40 K2 n fr un sb se so sc x1 (x2 + 1)
      else
        f_X1_isSoundInSpans_40 K2 n fr un sb se so sc x1 (x2 + 1) := rfl
def f_X1_isSoundInSpans_2 : Nat → (Int64) → (Int64) → (Nat → Int64) → (Nat → Int64) → (Nat → Int32) → (Int32) → (Int32) → Option (Int32)
  | 0, _, _, _, _, _, _, _ => none
  | n + 1, fr, un, sb, se, so, sc, x1 =>
    (f_X0_count sc).bind fun r1 =>
    if r1 ≤ x1 then
      some 1
    else
      (f_X0_begin sb sc x1).bind fun r3 =>
      (f_X0_end se sc x1).bind fun r4 =>
      (f_X1_isInCalendar fr un r3 r4).bind fun r5 =>
      if r5 = 0 then
        some 0
      else
        f_X1_isSoundInSpans_40 (f_X1_isSoundInSpans_2 n) 24 fr un sb se so sc x1 0
theorem f_X1_isSoundInSpans_2_0 {fr : Int64} {un : Int64} {sb : Nat → Int64} {se : Nat → Int64} {so : Nat → Int32} {sc : Int32} {x1 : Int32} : f_X1_isSoundInSpans_2 0 fr un sb se so sc x1 = none := rfl
theorem f_X1_isSoundInSpans_2_s {n : Nat} {fr : Int64} {un : Int64} {sb : Nat → Int64} {se : Nat → Int64} {so : Nat → Int32} {sc : Int32} {x1 : Int32} : f_X1_isSoundInSpans_2 (n + 1) fr un sb se so sc x1 =
  (f_X0_count sc).bind fun r1 =>
  if r1 ≤ x1 then
    some 1
  else
    (f_X0_begin sb sc x1).bind fun r3 =>
    (f_X0_end se sc x1).bind fun r4 =>
    (f_X1_isInCalendar fr un r3 r4).bind fun r5 =>
    if r5 = 0 then
      some 0
    else
      f_X1_isSoundInSpans_40 (f_X1_isSoundInSpans_2 n) 24 fr un sb se so sc x1 0 := rfl
def f_X1_isSoundInSpans (fr : Int64) (un : Int64) (sb : Nat → Int64) (se : Nat → Int64) (so : Nat → Int32) (sc : Int32) : Option (Int32) :=
  f_X1_isSoundInSpans_2 24 fr un sb se so sc 0
theorem f_X1_isSoundInSpans_e {fr : Int64} {un : Int64} {sb : Nat → Int64} {se : Nat → Int64} {so : Nat → Int32} {sc : Int32} : f_X1_isSoundInSpans fr un sb se so sc = 
  f_X1_isSoundInSpans_2 24 fr un sb se so sc 0 := rfl
set_option maxHeartbeats 4000000 in
set_option maxRecDepth 100000 in
theorem c_X1_isSoundInSpans (l : Launch) (dC : Nat → ClassId) (dI : Nat → Nat → Nat) (cB cI cJ cZ : ClassId) (a : Nat → Nat) (sz : Nat) (ce : Nat → Int64) (fr : Int64) (un : Int64) (sb : Nat → Int64) (se : Nat → Int64) (so : Nat → Int32) (sc : Int32) (wb : Nat → Int64) (we : Nat → Int64) (wo : Nat → Int32) (wc : Int32) (fb : Nat → Int64) (fe : Nat → Int64) (fo : Nat → Int32) (fc : Int32) (rm : Nat → Int32) (ac : Int32) (rf : Int32) (kn : Int32) (res : Int32) (hf : f_X1_isSoundInSpans fr un sb se so sc = some res) : Met l yX1_isSoundInSpans wsX1_isSoundInSpans ({ frames := 2, cells := 0, slots := 0, locals := 42 } : Room) (kPre (dC, dI) (kTy cB cI cJ cZ) [.ref (a 0)] sz (wSB cI cJ cZ a ce fr un sb se so sc wb we wo wc fb fe fo fc rm ac rf kn)) (kI (dC, dI) .boolean (res) (wSB cI cJ cZ a ce fr un sb se so sc wb we wo wc fb fe fo fc rm ac rf kn) (va_A (wSB cI cJ cZ a ce fr un sb se so sc wb we wo wc fb fe fo fc rm ac rf kn) sz)) 0 0 (va_A (wSB cI cJ cZ a ce fr un sb se so sc wb we wo wc fb fe fo fc rm ac rf kn) sz) := by
  refine Met.ofW (cc := cX1_isSoundInSpans) (maxL := 3) (ret := (some .boolean)) (by decide) rfl ?_
  intro p e s m args below meth c s₁ B hml hv
  obtain ⟨rfl, hsz, hP, hK, hD0, hG⟩ := hv
  have hx := B.exec
  have hb := B.bytes
  have hr := B.returns
  have hts := atoms_spec (ws := wsX1_isSoundInSpans) B.pre
  have hown : s.vm.findClass RX1 = some m.cls := findClass_of_methodNamed B.named
  have hlocks := B.notSynchronized
  subst hsz
  have hD := hD0.self (sz := s.heap.size)
  generalize hAe : va_A (wSB cI cJ cZ a ce fr un sb se so sc wb we wo wc fb fe fo fc rm ac rf kn) s.heap.size = A at hD ⊢
  have hA : ∀ q : Nat, s.heap.size ≤ q → A q := fun q h => by rw [← hAe]; exact Or.inr h
  have hS : va_S A s.heap s.heap [] := va_S.rf
  clear hAe
  have hw0 := hts (.fieldLink RX1 25 "Spanbooker" "spanRow" "LSpanbooker$Row;") (List.mem_cons_of_mem _ kw_110)
  have hiX1 : ∀ w ∈ u_ws RX1 TX1 10, w ∈ wsX1_isSoundInSpans := fun w h => List.mem_cons_of_mem _ (ku_X1 w h)
  have J40 : ∀ (K2 : (Int64) → (Int64) → (Nat → Int64) → (Nat → Int64) → (Nat → Int32) → (Int32) → (Int32) → Option (Int32)), (∀ (ce : Nat → Int64) (fr : Int64) (un : Int64) (sb : Nat → Int64) (se : Nat → Int64) (so : Nat → Int32) (sc : Int32) (wb : Nat → Int64) (we : Nat → Int64) (wo : Nat → Int32) (wc : Int32) (fb : Nat → Int64) (fe : Nat → Int64) (fo : Nat → Int32) (fc : Int32) (rm : Nat → Int32) (ac : Int32) (rf : Int32) (kn : Int32) (x1 : Int32) (H : Heap) (locs : List Loc), va_P (dC, dI) vwCl (wSB cI cJ cZ a ce fr un sb se so sc wb we wo wc fb fe fo fc rm ac rf kn) H → va_D A (wSB cI cJ cZ a ce fr un sb se so sc wb we wo wc fb fe fo fc rm ac rf kn) → va_S A s.heap H locs → ∀ (ls : Array Slot), lv_has ls 3 [(0, .ref (a 0)), (1, .int x1)] → K2 fr un sb se so sc x1 = some res → W p l e (headSpec wsX1_isSoundInSpans ({ frames := 2, cells := 0, slots := 0, locals := 42 } : Room)).room s m ([.ref (a 0)] : List Value).toArray below meth c H locs 0 0 (MQ below (kI (dC, dI) .boolean (res) (wSB cI cJ cZ a ce fr un sb se so sc wb we wo wc fb fe fo fc rm ac rf kn) A) ([.ref (a 0)] : List Value).toArray s 0 0 A) (F0 m 2 ls [])) → ∀ (n : Nat), ∀ (ce : Nat → Int64) (fr : Int64) (un : Int64) (sb : Nat → Int64) (se : Nat → Int64) (so : Nat → Int32) (sc : Int32) (wb : Nat → Int64) (we : Nat → Int64) (wo : Nat → Int32) (wc : Int32) (fb : Nat → Int64) (fe : Nat → Int64) (fo : Nat → Int32) (fc : Int32) (rm : Nat → Int32) (ac : Int32) (rf : Int32) (kn : Int32) (x1 : Int32) (x2 : Int32) (H : Heap) (locs : List Loc), va_P (dC, dI) vwCl (wSB cI cJ cZ a ce fr un sb se so sc wb we wo wc fb fe fo fc rm ac rf kn) H → va_D A (wSB cI cJ cZ a ce fr un sb se so sc wb we wo wc fb fe fo fc rm ac rf kn) → va_S A s.heap H locs → ∀ (ls : Array Slot), lv_has ls 3 [(0, .ref (a 0)), (1, .int x1), (2, .int x2)] → f_X1_isSoundInSpans_40 K2 n fr un sb se so sc x1 x2 = some res → W p l e (headSpec wsX1_isSoundInSpans ({ frames := 2, cells := 0, slots := 0, locals := 42 } : Room)).room s m ([.ref (a 0)] : List Value).toArray below meth c H locs 0 0 (MQ below (kI (dC, dI) .boolean (res) (wSB cI cJ cZ a ce fr un sb se so sc wb we wo wc fb fe fo fc rm ac rf kn) A) ([.ref (a 0)] : List Value).toArray s 0 0 A) (F0 m 40 ls []) := by
    intro K2 hK2 n
    induction n with
    | zero =>
      intro ce fr un sb se so sc wb we wo wc fb fe fo fc rm ac rf kn x1 x2 H locs hP hD hS ls hl h
      have h := f_X1_isSoundInSpans_40_0.symm.trans h
      cases h
    | succ n ih =>
      intro ce fr un sb se so sc wb we wo wc fb fe fo fc rm ac rf kn x1 x2 H locs hP hD hS ls hl h
      have h := f_X1_isSoundInSpans_40_s.symm.trans h
      refine lv_iload_n hx hb dX1_isSoundInSpans_40 rfl (lv_at hl 2 rfl) ?_
      refine lv_iload_n hx hb dX1_isSoundInSpans_41 rfl (lv_at hl 1 rfl) ?_
      refine lv_icmp_ge (tgt := 87) hx hb dX1_isSoundInSpans_42 (by decide) (fun c1 => ?_) (fun c1 => ?_)
      · have h := g_t c1 h
        refine lv_iinc (v := x1 + 1) (lv' := [(1, .int (x1 + 1)), (0, .ref (a 0)), (2, .int x2)]) hx hb dX1_isSoundInSpans_87 hl (k := 1) rfl rfl (by decide) rfl (fun ls hl => ?_)
        refine lv_goto (tgt := 2) hx hb dX1_isSoundInSpans_90 (by decide) ?_
        exact hK2 ce fr un sb se so sc wb we wo wc fb fe fo fc rm ac rf kn (x1 + 1) _ _ hP hD hS ls (lv_sub hl [1, 0] rfl) h
      · have h := g_f c1 h
        refine lv_aload_n hx hb dX1_isSoundInSpans_45 rfl (lv_at hl 0 rfl) ?_
        refine va_get (D := (dC, dI)) (ci := 3) (v := .ref (a 2)) (C := RX1) (T := TX1) (N := 10) hx hb hts hiX1 hown hK hP 0 rfl rfl 3 (by decide) hw0 (fun _ h9 => h9) rfl dX1_isSoundInSpans_46 ?_
        refine lv_iload_n hx hb dX1_isSoundInSpans_49 rfl (lv_at hl 1 rfl) ?_
        refine lv_iload_n hx hb dX1_isSoundInSpans_50 rfl (lv_at hl 2 rfl) ?_
        obtain ⟨r2, g2, h⟩ := g_b h
        refine kcall_i (wSB cI cJ cZ a ce fr un sb se so sc wb we wo wc fb fe fo fc rm ac rf kn) (va_runV (As := [.int x1, .int x2]) (rest := []) ⟨hx, hb, hml, hown, hts⟩ (c_X0_doMeet l dC dI cB cI cJ cZ (a 2) (a 3) (a 4) (a 5) _ sb se so sc x1 x2 r2 g2) (kcwV hts kw_163 kv_X0_doMeet rfl rfl ⟨(Nat.le_of_ble_eq_true rfl), (Nat.le_of_ble_eq_true rfl)⟩) (kpV (A := A) (hP.sub (kIT mk_15 0) (km_f (m := mk_15) rfl rfl)) hK (hD.sub (kIT mk_15 0) (km_nd mk_15) (km_T (m := mk_15) rfl rfl)) hG (va_recv hK hP (ci := 2) (q0 := 2) rfl rfl)) rfl rfl hl.1 rfl (lv_room (Nat.le_of_ble_eq_true rfl)) dX1_isSoundInSpans_51 ⟨(Nat.le_of_ble_eq_true rfl), (Nat.le_of_ble_eq_true rfl)⟩) hP hD hS hA (kIT mk_15 0) (kIT mk_16 0) (km_T (m := mk_15) rfl rfl) (km_T (m := mk_15) rfl rfl) [((a 0), .inr (3, [.ref (a 1), .long fr, .long un, .ref (a 2), .ref (a 6), .ref (a 10), .ref (a 14), .int ac, .int rf, .int kn])), ((a 1), .inl (cJ, 4, .inr (.inl ce))), ((a 6), .inr (2, [.ref (a 7), .ref (a 8), .ref (a 9), .int wc])), ((a 7), .inl (cJ, 11, .inr (.inl wb))), ((a 8), .inl (cJ, 11, .inr (.inl we))), ((a 9), .inl (cZ, 11, .inl wo)), ((a 10), .inr (2, [.ref (a 11), .ref (a 12), .ref (a 13), .int fc])), ((a 11), .inl (cJ, 11, .inr (.inl fb))), ((a 12), .inl (cJ, 11, .inr (.inl fe))), ((a 13), .inl (cZ, 11, .inl fo)), ((a 14), .inl (cI, 11, .inl rm))] (km_T (m := mk_16) rfl rfl) (km_T (m := mk_16) rfl rfl) (km_cov (m := mk_15) (n := mk_16) rfl rfl) (km_dis (m := mk_15) (n := mk_16) rfl) rfl (fun H locs hP hD hS br2 => ?_)
        refine lv_if_eq (tgt := 81) hx hb dX1_isSoundInSpans_54 (by decide) (fun c3 => ?_) (fun c3 => ?_)
        · have h := g_t c3 h
          refine lv_iinc (v := x2 + 1) (lv' := [(2, .int (x2 + 1)), (0, .ref (a 0)), (1, .int x1)]) hx hb dX1_isSoundInSpans_81 hl (k := 2) rfl rfl (by decide) rfl (fun ls hl => ?_)
          refine lv_goto (tgt := 40) hx hb dX1_isSoundInSpans_84 (by decide) ?_
          exact ih ce fr un sb se so sc wb we wo wc fb fe fo fc rm ac rf kn x1 (x2 + 1) _ _ hP hD hS ls (lv_sub hl [1, 2, 0] rfl) h
        · have h := g_f c3 h
          refine lv_aload_n hx hb dX1_isSoundInSpans_57 rfl (lv_at hl 0 rfl) ?_
          refine va_get (D := (dC, dI)) (ci := 3) (v := .ref (a 2)) (C := RX1) (T := TX1) (N := 10) hx hb hts hiX1 hown hK hP 0 rfl rfl 3 (by decide) hw0 (fun _ h9 => h9) rfl dX1_isSoundInSpans_58 ?_
          refine lv_iload_n hx hb dX1_isSoundInSpans_61 rfl (lv_at hl 1 rfl) ?_
          obtain ⟨r4, g4, h⟩ := g_b h
          refine kcall_i (wSB cI cJ cZ a ce fr un sb se so sc wb we wo wc fb fe fo fc rm ac rf kn) (va_runV (As := [.int x1]) (rest := []) ⟨hx, hb, hml, hown, hts⟩ (c_X0_isOver l dC dI cB cI cJ cZ (a 2) (a 3) (a 4) (a 5) _ sb se so sc x1 r4 g4) (kcwV hts kw_280 kv_X0_isOver rfl rfl ⟨(Nat.le_of_ble_eq_true rfl), (Nat.le_of_ble_eq_true rfl)⟩) (kpV (A := A) (hP.sub (kIT mk_15 0) (km_f (m := mk_15) rfl rfl)) hK (hD.sub (kIT mk_15 0) (km_nd mk_15) (km_T (m := mk_15) rfl rfl)) hG (va_recv hK hP (ci := 2) (q0 := 2) rfl rfl)) rfl rfl hl.1 rfl (lv_room (Nat.le_of_ble_eq_true rfl)) dX1_isSoundInSpans_62 ⟨(Nat.le_of_ble_eq_true rfl), (Nat.le_of_ble_eq_true rfl)⟩) hP hD hS hA (kIT mk_15 0) (kIT mk_16 0) (km_T (m := mk_15) rfl rfl) (km_T (m := mk_15) rfl rfl) [((a 0), .inr (3, [.ref (a 1), .long fr, .long un, .ref (a 2), .ref (a 6), .ref (a 10), .ref (a 14), .int ac, .int rf, .int kn])), ((a 1), .inl (cJ, 4, .inr (.inl ce))), ((a 6), .inr (2, [.ref (a 7), .ref (a 8), .ref (a 9), .int wc])), ((a 7), .inl (cJ, 11, .inr (.inl wb))), ((a 8), .inl (cJ, 11, .inr (.inl we))), ((a 9), .inl (cZ, 11, .inl wo)), ((a 10), .inr (2, [.ref (a 11), .ref (a 12), .ref (a 13), .int fc])), ((a 11), .inl (cJ, 11, .inr (.inl fb))), ((a 12), .inl (cJ, 11, .inr (.inl fe))), ((a 13), .inl (cZ, 11, .inl fo)), ((a 14), .inl (cI, 11, .inl rm))] (km_T (m := mk_16) rfl rfl) (km_T (m := mk_16) rfl rfl) (km_cov (m := mk_15) (n := mk_16) rfl rfl) (km_dis (m := mk_15) (n := mk_16) rfl) rfl (fun H locs hP hD hS br4 => ?_)
          refine lv_if_ne (tgt := 81) hx hb dX1_isSoundInSpans_65 (by decide) (fun c5 => ?_) (fun c5 => ?_)
          · have h := g_f c5 h
            refine lv_iinc (v := x2 + 1) (lv' := [(2, .int (x2 + 1)), (0, .ref (a 0)), (1, .int x1)]) hx hb dX1_isSoundInSpans_81 hl (k := 2) rfl rfl (by decide) rfl (fun ls hl => ?_)
            refine lv_goto (tgt := 40) hx hb dX1_isSoundInSpans_84 (by decide) ?_
            exact ih ce fr un sb se so sc wb we wo wc fb fe fo fc rm ac rf kn x1 (x2 + 1) _ _ hP hD hS ls (lv_sub hl [1, 2, 0] rfl) h
          · have h := g_t c5 h
            refine lv_aload_n hx hb dX1_isSoundInSpans_68 rfl (lv_at hl 0 rfl) ?_
            refine va_get (D := (dC, dI)) (ci := 3) (v := .ref (a 2)) (C := RX1) (T := TX1) (N := 10) hx hb hts hiX1 hown hK hP 0 rfl rfl 3 (by decide) hw0 (fun _ h9 => h9) rfl dX1_isSoundInSpans_69 ?_
            refine lv_iload_n hx hb dX1_isSoundInSpans_72 rfl (lv_at hl 2 rfl) ?_
            obtain ⟨r6, g6, h⟩ := g_b h
            refine kcall_i (wSB cI cJ cZ a ce fr un sb se so sc wb we wo wc fb fe fo fc rm ac rf kn) (va_runV (As := [.int x2]) (rest := []) ⟨hx, hb, hml, hown, hts⟩ (c_X0_isOver l dC dI cB cI cJ cZ (a 2) (a 3) (a 4) (a 5) _ sb se so sc x2 r6 g6) (kcwV hts kw_280 kv_X0_isOver rfl rfl ⟨(Nat.le_of_ble_eq_true rfl), (Nat.le_of_ble_eq_true rfl)⟩) (kpV (A := A) (hP.sub (kIT mk_15 0) (km_f (m := mk_15) rfl rfl)) hK (hD.sub (kIT mk_15 0) (km_nd mk_15) (km_T (m := mk_15) rfl rfl)) hG (va_recv hK hP (ci := 2) (q0 := 2) rfl rfl)) rfl rfl hl.1 rfl (lv_room (Nat.le_of_ble_eq_true rfl)) dX1_isSoundInSpans_73 ⟨(Nat.le_of_ble_eq_true rfl), (Nat.le_of_ble_eq_true rfl)⟩) hP hD hS hA (kIT mk_15 0) (kIT mk_16 0) (km_T (m := mk_15) rfl rfl) (km_T (m := mk_15) rfl rfl) [((a 0), .inr (3, [.ref (a 1), .long fr, .long un, .ref (a 2), .ref (a 6), .ref (a 10), .ref (a 14), .int ac, .int rf, .int kn])), ((a 1), .inl (cJ, 4, .inr (.inl ce))), ((a 6), .inr (2, [.ref (a 7), .ref (a 8), .ref (a 9), .int wc])), ((a 7), .inl (cJ, 11, .inr (.inl wb))), ((a 8), .inl (cJ, 11, .inr (.inl we))), ((a 9), .inl (cZ, 11, .inl wo)), ((a 10), .inr (2, [.ref (a 11), .ref (a 12), .ref (a 13), .int fc])), ((a 11), .inl (cJ, 11, .inr (.inl fb))), ((a 12), .inl (cJ, 11, .inr (.inl fe))), ((a 13), .inl (cZ, 11, .inl fo)), ((a 14), .inl (cI, 11, .inl rm))] (km_T (m := mk_16) rfl rfl) (km_T (m := mk_16) rfl rfl) (km_cov (m := mk_15) (n := mk_16) rfl rfl) (km_dis (m := mk_15) (n := mk_16) rfl) rfl (fun H locs hP hD hS br6 => ?_)
            refine lv_if_ne (tgt := 81) hx hb dX1_isSoundInSpans_76 (by decide) (fun c7 => ?_) (fun c7 => ?_)
            · have h := g_f c7 h
              refine lv_iinc (v := x2 + 1) (lv' := [(2, .int (x2 + 1)), (0, .ref (a 0)), (1, .int x1)]) hx hb dX1_isSoundInSpans_81 hl (k := 2) rfl rfl (by decide) rfl (fun ls hl => ?_)
              refine lv_goto (tgt := 40) hx hb dX1_isSoundInSpans_84 (by decide) ?_
              exact ih ce fr un sb se so sc wb we wo wc fb fe fo fc rm ac rf kn x1 (x2 + 1) _ _ hP hD hS ls (lv_sub hl [1, 2, 0] rfl) h
            · have h := g_t c7 h
              refine lv_iconst (v := 0) hx hb dX1_isSoundInSpans_79 (by decide) ?_
              have h := Option.some.inj h
              subst h
              exact kret_i (v := 0) hx hb hr rfl hlocks hS hP dX1_isSoundInSpans_80
  have J2 : ∀ (n : Nat), ∀ (ce : Nat → Int64) (fr : Int64) (un : Int64) (sb : Nat → Int64) (se : Nat → Int64) (so : Nat → Int32) (sc : Int32) (wb : Nat → Int64) (we : Nat → Int64) (wo : Nat → Int32) (wc : Int32) (fb : Nat → Int64) (fe : Nat → Int64) (fo : Nat → Int32) (fc : Int32) (rm : Nat → Int32) (ac : Int32) (rf : Int32) (kn : Int32) (x1 : Int32) (H : Heap) (locs : List Loc), va_P (dC, dI) vwCl (wSB cI cJ cZ a ce fr un sb se so sc wb we wo wc fb fe fo fc rm ac rf kn) H → va_D A (wSB cI cJ cZ a ce fr un sb se so sc wb we wo wc fb fe fo fc rm ac rf kn) → va_S A s.heap H locs → ∀ (ls : Array Slot), lv_has ls 3 [(0, .ref (a 0)), (1, .int x1)] → f_X1_isSoundInSpans_2 n fr un sb se so sc x1 = some res → W p l e (headSpec wsX1_isSoundInSpans ({ frames := 2, cells := 0, slots := 0, locals := 42 } : Room)).room s m ([.ref (a 0)] : List Value).toArray below meth c H locs 0 0 (MQ below (kI (dC, dI) .boolean (res) (wSB cI cJ cZ a ce fr un sb se so sc wb we wo wc fb fe fo fc rm ac rf kn) A) ([.ref (a 0)] : List Value).toArray s 0 0 A) (F0 m 2 ls []) := by
    intro n
    induction n with
    | zero =>
      intro ce fr un sb se so sc wb we wo wc fb fe fo fc rm ac rf kn x1 H locs hP hD hS ls hl h
      have h := f_X1_isSoundInSpans_2_0.symm.trans h
      cases h
    | succ n ih =>
      intro ce fr un sb se so sc wb we wo wc fb fe fo fc rm ac rf kn x1 H locs hP hD hS ls hl h
      have h := f_X1_isSoundInSpans_2_s.symm.trans h
      refine lv_iload_n hx hb dX1_isSoundInSpans_2 rfl (lv_at hl 1 rfl) ?_
      refine lv_aload_n hx hb dX1_isSoundInSpans_3 rfl (lv_at hl 0 rfl) ?_
      refine va_get (D := (dC, dI)) (ci := 3) (v := .ref (a 2)) (C := RX1) (T := TX1) (N := 10) hx hb hts hiX1 hown hK hP 0 rfl rfl 3 (by decide) hw0 (fun _ h9 => h9) rfl dX1_isSoundInSpans_4 ?_
      obtain ⟨r1, g1, h⟩ := g_b h
      refine kcall_i (wSB cI cJ cZ a ce fr un sb se so sc wb we wo wc fb fe fo fc rm ac rf kn) (va_runV (As := []) (rest := [.int x1]) ⟨hx, hb, hml, hown, hts⟩ (c_X0_count l dC dI cB cI cJ cZ (a 2) (a 3) (a 4) (a 5) _ sb se so sc  r1 g1) (kcwV hts kw_155 kv_X0_count rfl rfl ⟨(Nat.le_of_ble_eq_true rfl), (Nat.le_of_ble_eq_true rfl)⟩) (kpV (A := A) (hP.sub (kIT mk_15 0) (km_f (m := mk_15) rfl rfl)) hK (hD.sub (kIT mk_15 0) (km_nd mk_15) (km_T (m := mk_15) rfl rfl)) hG (va_recv hK hP (ci := 2) (q0 := 2) rfl rfl)) rfl rfl hl.1 rfl (lv_room (Nat.le_of_ble_eq_true rfl)) dX1_isSoundInSpans_7 ⟨(Nat.le_of_ble_eq_true rfl), (Nat.le_of_ble_eq_true rfl)⟩) hP hD hS hA (kIT mk_15 0) (kIT mk_16 0) (km_T (m := mk_15) rfl rfl) (km_T (m := mk_15) rfl rfl) [((a 0), .inr (3, [.ref (a 1), .long fr, .long un, .ref (a 2), .ref (a 6), .ref (a 10), .ref (a 14), .int ac, .int rf, .int kn])), ((a 1), .inl (cJ, 4, .inr (.inl ce))), ((a 6), .inr (2, [.ref (a 7), .ref (a 8), .ref (a 9), .int wc])), ((a 7), .inl (cJ, 11, .inr (.inl wb))), ((a 8), .inl (cJ, 11, .inr (.inl we))), ((a 9), .inl (cZ, 11, .inl wo)), ((a 10), .inr (2, [.ref (a 11), .ref (a 12), .ref (a 13), .int fc])), ((a 11), .inl (cJ, 11, .inr (.inl fb))), ((a 12), .inl (cJ, 11, .inr (.inl fe))), ((a 13), .inl (cZ, 11, .inl fo)), ((a 14), .inl (cI, 11, .inl rm))] (km_T (m := mk_16) rfl rfl) (km_T (m := mk_16) rfl rfl) (km_cov (m := mk_15) (n := mk_16) rfl rfl) (km_dis (m := mk_15) (n := mk_16) rfl) rfl (fun H locs hP hD hS br1 => ?_)
      refine lv_icmp_ge (tgt := 93) hx hb dX1_isSoundInSpans_10 (by decide) (fun c2 => ?_) (fun c2 => ?_)
      · have h := g_t c2 h
        refine lv_iconst (v := 1) hx hb dX1_isSoundInSpans_93 (by decide) ?_
        have h := Option.some.inj h
        subst h
        exact kret_i (v := 1) hx hb hr rfl hlocks hS hP dX1_isSoundInSpans_94
      · have h := g_f c2 h
        refine lv_aload_n hx hb dX1_isSoundInSpans_13 rfl (lv_at hl 0 rfl) ?_
        refine lv_aload_n hx hb dX1_isSoundInSpans_14 rfl (lv_at hl 0 rfl) ?_
        refine va_get (D := (dC, dI)) (ci := 3) (v := .ref (a 2)) (C := RX1) (T := TX1) (N := 10) hx hb hts hiX1 hown hK hP 0 rfl rfl 3 (by decide) hw0 (fun _ h9 => h9) rfl dX1_isSoundInSpans_15 ?_
        refine lv_iload_n hx hb dX1_isSoundInSpans_18 rfl (lv_at hl 1 rfl) ?_
        obtain ⟨r3, g3, h⟩ := g_b h
        refine kcall_l (wSB cI cJ cZ a ce fr un sb se so sc wb we wo wc fb fe fo fc rm ac rf kn) (va_runV (As := [.int x1]) (rest := [.ref (a 0)]) ⟨hx, hb, hml, hown, hts⟩ (c_X0_begin l dC dI cB cI cJ cZ (a 2) (a 3) (a 4) (a 5) _ sb se so sc x1 r3 g3) (kcwV hts kw_251 kv_X0_begin rfl rfl ⟨(Nat.le_of_ble_eq_true rfl), (Nat.le_of_ble_eq_true rfl)⟩) (kpV (A := A) (hP.sub (kIT mk_15 0) (km_f (m := mk_15) rfl rfl)) hK (hD.sub (kIT mk_15 0) (km_nd mk_15) (km_T (m := mk_15) rfl rfl)) hG (va_recv hK hP (ci := 2) (q0 := 2) rfl rfl)) rfl rfl hl.1 rfl (lv_room (Nat.le_of_ble_eq_true rfl)) dX1_isSoundInSpans_19 ⟨(Nat.le_of_ble_eq_true rfl), (Nat.le_of_ble_eq_true rfl)⟩) hP hD hS hA (kIT mk_15 0) (kIT mk_16 0) (km_T (m := mk_15) rfl rfl) (km_T (m := mk_15) rfl rfl) [((a 0), .inr (3, [.ref (a 1), .long fr, .long un, .ref (a 2), .ref (a 6), .ref (a 10), .ref (a 14), .int ac, .int rf, .int kn])), ((a 1), .inl (cJ, 4, .inr (.inl ce))), ((a 6), .inr (2, [.ref (a 7), .ref (a 8), .ref (a 9), .int wc])), ((a 7), .inl (cJ, 11, .inr (.inl wb))), ((a 8), .inl (cJ, 11, .inr (.inl we))), ((a 9), .inl (cZ, 11, .inl wo)), ((a 10), .inr (2, [.ref (a 11), .ref (a 12), .ref (a 13), .int fc])), ((a 11), .inl (cJ, 11, .inr (.inl fb))), ((a 12), .inl (cJ, 11, .inr (.inl fe))), ((a 13), .inl (cZ, 11, .inl fo)), ((a 14), .inl (cI, 11, .inl rm))] (km_T (m := mk_16) rfl rfl) (km_T (m := mk_16) rfl rfl) (km_cov (m := mk_15) (n := mk_16) rfl rfl) (km_dis (m := mk_15) (n := mk_16) rfl) rfl (fun H locs hP hD hS => ?_)
        refine lv_aload_n hx hb dX1_isSoundInSpans_22 rfl (lv_at hl 0 rfl) ?_
        refine va_get (D := (dC, dI)) (ci := 3) (v := .ref (a 2)) (C := RX1) (T := TX1) (N := 10) hx hb hts hiX1 hown hK hP 0 rfl rfl 3 (by decide) hw0 (fun _ h9 => h9) rfl dX1_isSoundInSpans_23 ?_
        refine lv_iload_n hx hb dX1_isSoundInSpans_26 rfl (lv_at hl 1 rfl) ?_
        obtain ⟨r4, g4, h⟩ := g_b h
        refine kcall_l (wSB cI cJ cZ a ce fr un sb se so sc wb we wo wc fb fe fo fc rm ac rf kn) (va_runV (As := [.int x1]) (rest := [.long r3, .ref (a 0)]) ⟨hx, hb, hml, hown, hts⟩ (c_X0_end l dC dI cB cI cJ cZ (a 2) (a 3) (a 4) (a 5) _ sb se so sc x1 r4 g4) (kcwV hts kw_194 kv_X0_end rfl rfl ⟨(Nat.le_of_ble_eq_true rfl), (Nat.le_of_ble_eq_true rfl)⟩) (kpV (A := A) (hP.sub (kIT mk_15 0) (km_f (m := mk_15) rfl rfl)) hK (hD.sub (kIT mk_15 0) (km_nd mk_15) (km_T (m := mk_15) rfl rfl)) hG (va_recv hK hP (ci := 2) (q0 := 2) rfl rfl)) rfl rfl hl.1 rfl (lv_room (Nat.le_of_ble_eq_true rfl)) dX1_isSoundInSpans_27 ⟨(Nat.le_of_ble_eq_true rfl), (Nat.le_of_ble_eq_true rfl)⟩) hP hD hS hA (kIT mk_15 0) (kIT mk_16 0) (km_T (m := mk_15) rfl rfl) (km_T (m := mk_15) rfl rfl) [((a 0), .inr (3, [.ref (a 1), .long fr, .long un, .ref (a 2), .ref (a 6), .ref (a 10), .ref (a 14), .int ac, .int rf, .int kn])), ((a 1), .inl (cJ, 4, .inr (.inl ce))), ((a 6), .inr (2, [.ref (a 7), .ref (a 8), .ref (a 9), .int wc])), ((a 7), .inl (cJ, 11, .inr (.inl wb))), ((a 8), .inl (cJ, 11, .inr (.inl we))), ((a 9), .inl (cZ, 11, .inl wo)), ((a 10), .inr (2, [.ref (a 11), .ref (a 12), .ref (a 13), .int fc])), ((a 11), .inl (cJ, 11, .inr (.inl fb))), ((a 12), .inl (cJ, 11, .inr (.inl fe))), ((a 13), .inl (cZ, 11, .inl fo)), ((a 14), .inl (cI, 11, .inl rm))] (km_T (m := mk_16) rfl rfl) (km_T (m := mk_16) rfl rfl) (km_cov (m := mk_15) (n := mk_16) rfl rfl) (km_dis (m := mk_15) (n := mk_16) rfl) rfl (fun H locs hP hD hS => ?_)
        obtain ⟨r5, g5, h⟩ := g_b h
        refine kcall_i (wSB cI cJ cZ a ce fr un sb se so sc wb we wo wc fb fe fo fc rm ac rf kn) (va_runV (As := [.long r3, .long r4]) (rest := []) ⟨hx, hb, hml, hown, hts⟩ (c_X1_isInCalendar l dC dI cB cI cJ cZ a _ ce fr un sb se so sc wb we wo wc fb fe fo fc rm ac rf kn r3 r4 r5 g5) (kcwV hts kw_276 kv_X1_isInCalendar rfl rfl ⟨(Nat.le_of_ble_eq_true rfl), (Nat.le_of_ble_eq_true rfl)⟩) (kpV (A := A) (hP.sub (kIT mk_14 0) (km_f (m := mk_14) rfl rfl)) hK (hD.sub (kIT mk_14 0) (km_nd mk_14) (km_T (m := mk_14) rfl rfl)) hG (va_recv hK hP (ci := 3) (q0 := 0) rfl rfl)) rfl rfl hl.1 rfl (lv_room (Nat.le_of_ble_eq_true rfl)) dX1_isSoundInSpans_30 ⟨(Nat.le_of_ble_eq_true rfl), (Nat.le_of_ble_eq_true rfl)⟩) hP hD hS hA (kIT mk_14 0) (kIT mk_13 0) (km_T (m := mk_14) rfl rfl) (km_T (m := mk_14) rfl rfl) [] (km_T (m := mk_13) rfl rfl) (km_T (m := mk_13) rfl rfl) (km_cov (m := mk_14) (n := mk_13) rfl rfl) (km_dis (m := mk_14) (n := mk_13) rfl) rfl (fun H locs hP hD hS br5 => ?_)
        refine lv_if_ne (tgt := 38) hx hb dX1_isSoundInSpans_33 (by decide) (fun c6 => ?_) (fun c6 => ?_)
        · have h := g_f c6 h
          refine lv_iconst (v := 0) hx hb dX1_isSoundInSpans_38 (by decide) ?_
          refine lv_istore_n (lv' := [(2, .int 0), (0, .ref (a 0)), (1, .int x1)]) hx hb dX1_isSoundInSpans_39 rfl hl (by decide) rfl (fun ls hl => ?_)
          exact J40 (f_X1_isSoundInSpans_2 n) ih 24 ce fr un sb se so sc wb we wo wc fb fe fo fc rm ac rf kn x1 0 _ _ hP hD hS ls (lv_sub hl [1, 2, 0] rfl) h
        · have h := g_t c6 h
          refine lv_iconst (v := 0) hx hb dX1_isSoundInSpans_36 (by decide) ?_
          have h := Option.some.inj h
          subst h
          exact kret_i (v := 0) hx hb hr rfl hlocks hS hP dX1_isSoundInSpans_37
  have hl := lv_entry ([.ref (a 0)]) (n := 3) (Nat.le_of_ble_eq_true rfl)
  rw [lg_entry_eq]
  generalize (lg_sl ([.ref (a 0)]) ++ List.replicate (3 - (lg_sl ([.ref (a 0)])).length) Slot.unset).toArray = ls at hl ⊢
  have hl : lv_has ls 3 [(0, .ref (a 0))] := hl
  have h := f_X1_isSoundInSpans_e.symm.trans hf
  refine lv_iconst (v := 0) hx hb dX1_isSoundInSpans_0 (by decide) ?_
  refine lv_istore_n (lv' := [(1, .int 0), (0, .ref (a 0))]) hx hb dX1_isSoundInSpans_1 rfl hl (by decide) rfl (fun ls hl => ?_)
  exact J2 24 ce fr un sb se so sc wb we wo wc fb fe fo fc rm ac rf kn 0 _ _ hP hD hS ls (lv_sub hl [1, 0] rfl) h
abbrev wsX1_isSoundInFrees : List Cond := kWs yX1_isSoundInFrees cX1_isSoundInFrees 2 (some .boolean)
def f_X1_isSoundInFrees_6 : Nat → (Int64) → (Int64) → (Nat → Int64) → (Nat → Int64) → (Int32) → (Nat → Int64) → (Nat → Int64) → (Nat → Int32) → (Int32) → (Int32) → Option ((Int32) × (Nat → Int64) × (Nat → Int64) × (Nat → Int32) × (Int32))
  | 0, _, _, _, _, _, _, _, _, _, _ => none
  | n + 1, fr, un, sb, se, sc, fb, fe, fo, fc, x1 =>
    (f_X0_count fc).bind fun r1 =>
    if r1 ≤ x1 then
      (f_X1_takenLength fr un sb se sc).bind fun r3 =>
      (f_X1_freeLength fb fe fc).bind fun r4 =>
      if (r3 + r4) = (un - fr) then
        some (1, fb, fe, fo, fc)
      else
        some (0, fb, fe, fo, fc)
    else
      (f_X0_begin fb fc x1).bind fun r3 =>
      (f_X0_end fe fc x1).bind fun r4 =>
      (f_X0_firstMeeting sb se sc r3 r4 (-1)).bind fun r5 =>
      if r5 = (-1) then
        f_X1_isSoundInFrees_6 n fr un sb se sc fb fe fo fc (x1 + 1)
      else
        some (0, fb, fe, fo, fc)
theorem f_X1_isSoundInFrees_6_0 {fr : Int64} {un : Int64} {sb : Nat → Int64} {se : Nat → Int64} {sc : Int32} {fb : Nat → Int64} {fe : Nat → Int64} {fo : Nat → Int32} {fc : Int32} {x1 : Int32} : f_X1_isSoundInFrees_6 0 fr un sb se sc fb fe fo fc x1 = none := rfl
theorem f_X1_isSoundInFrees_6_s {n : Nat} {fr : Int64} {un : Int64} {sb : Nat → Int64} {se : Nat → Int64} {sc : Int32} {fb : Nat → Int64} {fe : Nat → Int64} {fo : Nat → Int32} {fc : Int32} {x1 : Int32} : f_X1_isSoundInFrees_6 (n + 1) fr un sb se sc fb fe fo fc x1 =
  (f_X0_count fc).bind fun r1 =>
  if r1 ≤ x1 then
    (f_X1_takenLength fr un sb se sc).bind fun r3 =>
    (f_X1_freeLength fb fe fc).bind fun r4 =>
    if (r3 + r4) = (un - fr) then
      some (1, fb, fe, fo, fc)
    else
      some (0, fb, fe, fo, fc)
  else
    (f_X0_begin fb fc x1).bind fun r3 =>
    (f_X0_end fe fc x1).bind fun r4 =>
    (f_X0_firstMeeting sb se sc r3 r4 (-1)).bind fun r5 =>
    if r5 = (-1) then
      f_X1_isSoundInFrees_6 n fr un sb se sc fb fe fo fc (x1 + 1)
    else
      some (0, fb, fe, fo, fc) := rfl
def f_X1_isSoundInFrees (fr : Int64) (un : Int64) (sb : Nat → Int64) (se : Nat → Int64) (sc : Int32) (fb : Nat → Int64) (fe : Nat → Int64) (fo : Nat → Int32) (fc : Int32) : Option ((Int32) × (Nat → Int64) × (Nat → Int64) × (Nat → Int32) × (Int32)) :=
  (f_X1_findFrees fr un sb se sc fb fe fo fc).bind fun r1 =>
  f_X1_isSoundInFrees_6 24 fr un sb se sc r1.1 r1.2.1 r1.2.2.1 r1.2.2.2 0
theorem f_X1_isSoundInFrees_e {fr : Int64} {un : Int64} {sb : Nat → Int64} {se : Nat → Int64} {sc : Int32} {fb : Nat → Int64} {fe : Nat → Int64} {fo : Nat → Int32} {fc : Int32} : f_X1_isSoundInFrees fr un sb se sc fb fe fo fc = 
  (f_X1_findFrees fr un sb se sc fb fe fo fc).bind fun r1 =>
  f_X1_isSoundInFrees_6 24 fr un sb se sc r1.1 r1.2.1 r1.2.2.1 r1.2.2.2 0 := rfl
set_option maxHeartbeats 4000000 in
set_option maxRecDepth 100000 in
theorem c_X1_isSoundInFrees (l : Launch) (dC : Nat → ClassId) (dI : Nat → Nat → Nat) (cB cI cJ cZ : ClassId) (a : Nat → Nat) (sz : Nat) (ce : Nat → Int64) (fr : Int64) (un : Int64) (sb : Nat → Int64) (se : Nat → Int64) (so : Nat → Int32) (sc : Int32) (wb : Nat → Int64) (we : Nat → Int64) (wo : Nat → Int32) (wc : Int32) (fb : Nat → Int64) (fe : Nat → Int64) (fo : Nat → Int32) (fc : Int32) (rm : Nat → Int32) (ac : Int32) (rf : Int32) (kn : Int32) (res : (Int32) × (Nat → Int64) × (Nat → Int64) × (Nat → Int32) × (Int32)) (hf : f_X1_isSoundInFrees fr un sb se sc fb fe fo fc = some res) : Met l yX1_isSoundInFrees wsX1_isSoundInFrees ({ frames := 4, cells := 0, slots := 0, locals := 97 } : Room) (kPre (dC, dI) (kTy cB cI cJ cZ) [.ref (a 0)] sz (wSB cI cJ cZ a ce fr un sb se so sc wb we wo wc fb fe fo fc rm ac rf kn)) (kI (dC, dI) .boolean (res.1) (wSB cI cJ cZ a ce fr un sb se so sc wb we wo wc (res.2.1) (res.2.2.1) (res.2.2.2.1) (res.2.2.2.2) rm ac rf kn) (va_A (wSB cI cJ cZ a ce fr un sb se so sc wb we wo wc fb fe fo fc rm ac rf kn) sz)) 0 0 (va_A (wSB cI cJ cZ a ce fr un sb se so sc wb we wo wc fb fe fo fc rm ac rf kn) sz) := by
  refine Met.ofW (cc := cX1_isSoundInFrees) (maxL := 2) (ret := (some .boolean)) (by decide) rfl ?_
  intro p e s m args below meth c s₁ B hml hv
  obtain ⟨rfl, hsz, hP, hK, hD0, hG⟩ := hv
  have hx := B.exec
  have hb := B.bytes
  have hr := B.returns
  have hts := atoms_spec (ws := wsX1_isSoundInFrees) B.pre
  have hown : s.vm.findClass RX1 = some m.cls := findClass_of_methodNamed B.named
  have hlocks := B.notSynchronized
  subst hsz
  have hD := hD0.self (sz := s.heap.size)
  generalize hAe : va_A (wSB cI cJ cZ a ce fr un sb se so sc wb we wo wc fb fe fo fc rm ac rf kn) s.heap.size = A at hD ⊢
  have hA : ∀ q : Nat, s.heap.size ≤ q → A q := fun q h => by rw [← hAe]; exact Or.inr h
  have hS : va_S A s.heap s.heap [] := va_S.rf
  clear hAe
  have hw0 := hts (.fieldLink RX1 32 "Spanbooker" "freeRow" "LSpanbooker$Row;") (List.mem_cons_of_mem _ kw_112)
  have hw1 := hts (.fieldLink RX1 19 "Spanbooker" "until" "J") (List.mem_cons_of_mem _ kw_109)
  have hw2 := hts (.fieldLink RX1 13 "Spanbooker" "from" "J") (List.mem_cons_of_mem _ kw_108)
  have hw3 := hts (.fieldLink RX1 25 "Spanbooker" "spanRow" "LSpanbooker$Row;") (List.mem_cons_of_mem _ kw_110)
  have hiX1 : ∀ w ∈ u_ws RX1 TX1 10, w ∈ wsX1_isSoundInFrees := fun w h => List.mem_cons_of_mem _ (ku_X1 w h)
  have J6 : ∀ (n : Nat), ∀ (ce : Nat → Int64) (fr : Int64) (un : Int64) (sb : Nat → Int64) (se : Nat → Int64) (so : Nat → Int32) (sc : Int32) (wb : Nat → Int64) (we : Nat → Int64) (wo : Nat → Int32) (wc : Int32) (fb : Nat → Int64) (fe : Nat → Int64) (fo : Nat → Int32) (fc : Int32) (rm : Nat → Int32) (ac : Int32) (rf : Int32) (kn : Int32) (x1 : Int32) (H : Heap) (locs : List Loc), va_P (dC, dI) vwCl (wSB cI cJ cZ a ce fr un sb se so sc wb we wo wc fb fe fo fc rm ac rf kn) H → va_D A (wSB cI cJ cZ a ce fr un sb se so sc wb we wo wc fb fe fo fc rm ac rf kn) → va_S A s.heap H locs → ∀ (ls : Array Slot), lv_has ls 2 [(0, .ref (a 0)), (1, .int x1)] → f_X1_isSoundInFrees_6 n fr un sb se sc fb fe fo fc x1 = some res → W p l e (headSpec wsX1_isSoundInFrees ({ frames := 4, cells := 0, slots := 0, locals := 97 } : Room)).room s m ([.ref (a 0)] : List Value).toArray below meth c H locs 0 0 (MQ below (kI (dC, dI) .boolean (res.1) (wSB cI cJ cZ a ce fr un sb se so sc wb we wo wc (res.2.1) (res.2.2.1) (res.2.2.2.1) (res.2.2.2.2) rm ac rf kn) A) ([.ref (a 0)] : List Value).toArray s 0 0 A) (F0 m 6 ls []) := by
    intro n
    induction n with
    | zero =>
      intro ce fr un sb se so sc wb we wo wc fb fe fo fc rm ac rf kn x1 H locs hP hD hS ls hl h
      have h := f_X1_isSoundInFrees_6_0.symm.trans h
      cases h
    | succ n ih =>
      intro ce fr un sb se so sc wb we wo wc fb fe fo fc rm ac rf kn x1 H locs hP hD hS ls hl h
      have h := f_X1_isSoundInFrees_6_s.symm.trans h
      refine lv_iload_n hx hb dX1_isSoundInFrees_6 rfl (lv_at hl 1 rfl) ?_
      refine lv_aload_n hx hb dX1_isSoundInFrees_7 rfl (lv_at hl 0 rfl) ?_
      refine va_get (D := (dC, dI)) (ci := 3) (v := .ref (a 10)) (C := RX1) (T := TX1) (N := 10) hx hb hts hiX1 hown hK hP 0 rfl rfl 5 (by decide) hw0 (fun _ h9 => h9) rfl dX1_isSoundInFrees_8 ?_
      obtain ⟨r1, g1, h⟩ := g_b h
      refine kcall_i (wSB cI cJ cZ a ce fr un sb se so sc wb we wo wc fb fe fo fc rm ac rf kn) (va_runV (As := []) (rest := [.int x1]) ⟨hx, hb, hml, hown, hts⟩ (c_X0_count l dC dI cB cI cJ cZ (a 10) (a 11) (a 12) (a 13) _ fb fe fo fc  r1 g1) (kcwV hts kw_155 kv_X0_count rfl rfl ⟨(Nat.le_of_ble_eq_true rfl), (Nat.le_of_ble_eq_true rfl)⟩) (kpV (A := A) (hP.sub (kIT mk_19 0) (km_f (m := mk_19) rfl rfl)) hK (hD.sub (kIT mk_19 0) (km_nd mk_19) (km_T (m := mk_19) rfl rfl)) hG (va_recv hK hP (ci := 2) (q0 := 10) rfl rfl)) rfl rfl hl.1 rfl (lv_room (Nat.le_of_ble_eq_true rfl)) dX1_isSoundInFrees_11 ⟨(Nat.le_of_ble_eq_true rfl), (Nat.le_of_ble_eq_true rfl)⟩) hP hD hS hA (kIT mk_19 0) (kIT mk_20 0) (km_T (m := mk_19) rfl rfl) (km_T (m := mk_19) rfl rfl) [((a 0), .inr (3, [.ref (a 1), .long fr, .long un, .ref (a 2), .ref (a 6), .ref (a 10), .ref (a 14), .int ac, .int rf, .int kn])), ((a 1), .inl (cJ, 4, .inr (.inl ce))), ((a 2), .inr (2, [.ref (a 3), .ref (a 4), .ref (a 5), .int sc])), ((a 3), .inl (cJ, 11, .inr (.inl sb))), ((a 4), .inl (cJ, 11, .inr (.inl se))), ((a 5), .inl (cZ, 11, .inl so)), ((a 6), .inr (2, [.ref (a 7), .ref (a 8), .ref (a 9), .int wc])), ((a 7), .inl (cJ, 11, .inr (.inl wb))), ((a 8), .inl (cJ, 11, .inr (.inl we))), ((a 9), .inl (cZ, 11, .inl wo)), ((a 14), .inl (cI, 11, .inl rm))] (km_T (m := mk_20) rfl rfl) (km_T (m := mk_20) rfl rfl) (km_cov (m := mk_19) (n := mk_20) rfl rfl) (km_dis (m := mk_19) (n := mk_20) rfl) rfl (fun H locs hP hD hS br1 => ?_)
      refine lv_icmp_ge (tgt := 53) hx hb dX1_isSoundInFrees_14 (by decide) (fun c2 => ?_) (fun c2 => ?_)
      · have h := g_t c2 h
        refine lv_aload_n hx hb dX1_isSoundInFrees_53 rfl (lv_at hl 0 rfl) ?_
        obtain ⟨r3, g3, h⟩ := g_b h
        refine kcall_l (wSB cI cJ cZ a ce fr un sb se so sc wb we wo wc fb fe fo fc rm ac rf kn) (va_runV (As := []) (rest := []) ⟨hx, hb, hml, hown, hts⟩ (c_X1_takenLength l dC dI cB cI cJ cZ a _ ce fr un sb se so sc wb we wo wc fb fe fo fc rm ac rf kn  r3 g3) (kcwV hts kw_288 kv_X1_takenLength rfl rfl ⟨(Nat.le_of_ble_eq_true rfl), (Nat.le_of_ble_eq_true rfl)⟩) (kpV (A := A) (hP.sub (kIT mk_14 0) (km_f (m := mk_14) rfl rfl)) hK (hD.sub (kIT mk_14 0) (km_nd mk_14) (km_T (m := mk_14) rfl rfl)) hG (va_recv hK hP (ci := 3) (q0 := 0) rfl rfl)) rfl rfl hl.1 rfl (lv_room (Nat.le_of_ble_eq_true rfl)) dX1_isSoundInFrees_54 ⟨(Nat.le_of_ble_eq_true rfl), (Nat.le_of_ble_eq_true rfl)⟩) hP hD hS hA (kIT mk_14 0) (kIT mk_13 0) (km_T (m := mk_14) rfl rfl) (km_T (m := mk_14) rfl rfl) [] (km_T (m := mk_13) rfl rfl) (km_T (m := mk_13) rfl rfl) (km_cov (m := mk_14) (n := mk_13) rfl rfl) (km_dis (m := mk_14) (n := mk_13) rfl) rfl (fun H locs hP hD hS => ?_)
        refine lv_aload_n hx hb dX1_isSoundInFrees_57 rfl (lv_at hl 0 rfl) ?_
        obtain ⟨r4, g4, h⟩ := g_b h
        refine kcall_l (wSB cI cJ cZ a ce fr un sb se so sc wb we wo wc fb fe fo fc rm ac rf kn) (va_runV (As := []) (rest := [.long r3]) ⟨hx, hb, hml, hown, hts⟩ (c_X1_freeLength l dC dI cB cI cJ cZ a _ ce fr un sb se so sc wb we wo wc fb fe fo fc rm ac rf kn  r4 g4) (kcwV hts kw_292 kv_X1_freeLength rfl rfl ⟨(Nat.le_of_ble_eq_true rfl), (Nat.le_of_ble_eq_true rfl)⟩) (kpV (A := A) (hP.sub (kIT mk_14 0) (km_f (m := mk_14) rfl rfl)) hK (hD.sub (kIT mk_14 0) (km_nd mk_14) (km_T (m := mk_14) rfl rfl)) hG (va_recv hK hP (ci := 3) (q0 := 0) rfl rfl)) rfl rfl hl.1 rfl (lv_room (Nat.le_of_ble_eq_true rfl)) dX1_isSoundInFrees_58 ⟨(Nat.le_of_ble_eq_true rfl), (Nat.le_of_ble_eq_true rfl)⟩) hP hD hS hA (kIT mk_14 0) (kIT mk_13 0) (km_T (m := mk_14) rfl rfl) (km_T (m := mk_14) rfl rfl) [] (km_T (m := mk_13) rfl rfl) (km_T (m := mk_13) rfl rfl) (km_cov (m := mk_14) (n := mk_13) rfl rfl) (km_dis (m := mk_14) (n := mk_13) rfl) rfl (fun H locs hP hD hS => ?_)
        refine lv_ladd hx hb dX1_isSoundInFrees_61 ?_
        refine lv_aload_n hx hb dX1_isSoundInFrees_62 rfl (lv_at hl 0 rfl) ?_
        refine va_get (D := (dC, dI)) (ci := 3) (v := .long un) (C := RX1) (T := TX1) (N := 10) hx hb hts hiX1 hown hK hP 0 rfl rfl 2 (by decide) hw1 (fun _ h9 => h9) rfl dX1_isSoundInFrees_63 ?_
        refine lv_aload_n hx hb dX1_isSoundInFrees_66 rfl (lv_at hl 0 rfl) ?_
        refine va_get (D := (dC, dI)) (ci := 3) (v := .long fr) (C := RX1) (T := TX1) (N := 10) hx hb hts hiX1 hown hK hP 0 rfl rfl 1 (by decide) hw2 (fun _ h9 => h9) rfl dX1_isSoundInFrees_67 ?_
        refine lv_lsub hx hb dX1_isSoundInFrees_70 ?_
        refine kl_ne (pc := 71) (tgt := 79) hx hb dX1_isSoundInFrees_71 dX1_isSoundInFrees_72 (by decide) (fun c5 => ?_) (fun c5 => ?_)
        · have h := g_f c5 h
          refine lv_iconst (v := 0) hx hb dX1_isSoundInFrees_79 (by decide) ?_
          have h := Option.some.inj h
          subst h
          exact kret_i (v := 0) hx hb hr rfl hlocks hS hP dX1_isSoundInFrees_80
        · have h := g_t c5 h
          refine lv_iconst (v := 1) hx hb dX1_isSoundInFrees_75 (by decide) ?_
          refine lv_goto (tgt := 80) hx hb dX1_isSoundInFrees_76 (by decide) ?_
          have h := Option.some.inj h
          subst h
          exact kret_i (v := 1) hx hb hr rfl hlocks hS hP dX1_isSoundInFrees_80
      · have h := g_f c2 h
        refine lv_aload_n hx hb dX1_isSoundInFrees_17 rfl (lv_at hl 0 rfl) ?_
        refine va_get (D := (dC, dI)) (ci := 3) (v := .ref (a 2)) (C := RX1) (T := TX1) (N := 10) hx hb hts hiX1 hown hK hP 0 rfl rfl 3 (by decide) hw3 (fun _ h9 => h9) rfl dX1_isSoundInFrees_18 ?_
        refine lv_aload_n hx hb dX1_isSoundInFrees_21 rfl (lv_at hl 0 rfl) ?_
        refine va_get (D := (dC, dI)) (ci := 3) (v := .ref (a 10)) (C := RX1) (T := TX1) (N := 10) hx hb hts hiX1 hown hK hP 0 rfl rfl 5 (by decide) hw0 (fun _ h9 => h9) rfl dX1_isSoundInFrees_22 ?_
        refine lv_iload_n hx hb dX1_isSoundInFrees_25 rfl (lv_at hl 1 rfl) ?_
        obtain ⟨r3, g3, h⟩ := g_b h
        refine kcall_l (wSB cI cJ cZ a ce fr un sb se so sc wb we wo wc fb fe fo fc rm ac rf kn) (va_runV (As := [.int x1]) (rest := [.ref (a 2)]) ⟨hx, hb, hml, hown, hts⟩ (c_X0_begin l dC dI cB cI cJ cZ (a 10) (a 11) (a 12) (a 13) _ fb fe fo fc x1 r3 g3) (kcwV hts kw_251 kv_X0_begin rfl rfl ⟨(Nat.le_of_ble_eq_true rfl), (Nat.le_of_ble_eq_true rfl)⟩) (kpV (A := A) (hP.sub (kIT mk_19 0) (km_f (m := mk_19) rfl rfl)) hK (hD.sub (kIT mk_19 0) (km_nd mk_19) (km_T (m := mk_19) rfl rfl)) hG (va_recv hK hP (ci := 2) (q0 := 10) rfl rfl)) rfl rfl hl.1 rfl (lv_room (Nat.le_of_ble_eq_true rfl)) dX1_isSoundInFrees_26 ⟨(Nat.le_of_ble_eq_true rfl), (Nat.le_of_ble_eq_true rfl)⟩) hP hD hS hA (kIT mk_19 0) (kIT mk_20 0) (km_T (m := mk_19) rfl rfl) (km_T (m := mk_19) rfl rfl) [((a 0), .inr (3, [.ref (a 1), .long fr, .long un, .ref (a 2), .ref (a 6), .ref (a 10), .ref (a 14), .int ac, .int rf, .int kn])), ((a 1), .inl (cJ, 4, .inr (.inl ce))), ((a 2), .inr (2, [.ref (a 3), .ref (a 4), .ref (a 5), .int sc])), ((a 3), .inl (cJ, 11, .inr (.inl sb))), ((a 4), .inl (cJ, 11, .inr (.inl se))), ((a 5), .inl (cZ, 11, .inl so)), ((a 6), .inr (2, [.ref (a 7), .ref (a 8), .ref (a 9), .int wc])), ((a 7), .inl (cJ, 11, .inr (.inl wb))), ((a 8), .inl (cJ, 11, .inr (.inl we))), ((a 9), .inl (cZ, 11, .inl wo)), ((a 14), .inl (cI, 11, .inl rm))] (km_T (m := mk_20) rfl rfl) (km_T (m := mk_20) rfl rfl) (km_cov (m := mk_19) (n := mk_20) rfl rfl) (km_dis (m := mk_19) (n := mk_20) rfl) rfl (fun H locs hP hD hS => ?_)
        refine lv_aload_n hx hb dX1_isSoundInFrees_29 rfl (lv_at hl 0 rfl) ?_
        refine va_get (D := (dC, dI)) (ci := 3) (v := .ref (a 10)) (C := RX1) (T := TX1) (N := 10) hx hb hts hiX1 hown hK hP 0 rfl rfl 5 (by decide) hw0 (fun _ h9 => h9) rfl dX1_isSoundInFrees_30 ?_
        refine lv_iload_n hx hb dX1_isSoundInFrees_33 rfl (lv_at hl 1 rfl) ?_
        obtain ⟨r4, g4, h⟩ := g_b h
        refine kcall_l (wSB cI cJ cZ a ce fr un sb se so sc wb we wo wc fb fe fo fc rm ac rf kn) (va_runV (As := [.int x1]) (rest := [.long r3, .ref (a 2)]) ⟨hx, hb, hml, hown, hts⟩ (c_X0_end l dC dI cB cI cJ cZ (a 10) (a 11) (a 12) (a 13) _ fb fe fo fc x1 r4 g4) (kcwV hts kw_194 kv_X0_end rfl rfl ⟨(Nat.le_of_ble_eq_true rfl), (Nat.le_of_ble_eq_true rfl)⟩) (kpV (A := A) (hP.sub (kIT mk_19 0) (km_f (m := mk_19) rfl rfl)) hK (hD.sub (kIT mk_19 0) (km_nd mk_19) (km_T (m := mk_19) rfl rfl)) hG (va_recv hK hP (ci := 2) (q0 := 10) rfl rfl)) rfl rfl hl.1 rfl (lv_room (Nat.le_of_ble_eq_true rfl)) dX1_isSoundInFrees_34 ⟨(Nat.le_of_ble_eq_true rfl), (Nat.le_of_ble_eq_true rfl)⟩) hP hD hS hA (kIT mk_19 0) (kIT mk_20 0) (km_T (m := mk_19) rfl rfl) (km_T (m := mk_19) rfl rfl) [((a 0), .inr (3, [.ref (a 1), .long fr, .long un, .ref (a 2), .ref (a 6), .ref (a 10), .ref (a 14), .int ac, .int rf, .int kn])), ((a 1), .inl (cJ, 4, .inr (.inl ce))), ((a 2), .inr (2, [.ref (a 3), .ref (a 4), .ref (a 5), .int sc])), ((a 3), .inl (cJ, 11, .inr (.inl sb))), ((a 4), .inl (cJ, 11, .inr (.inl se))), ((a 5), .inl (cZ, 11, .inl so)), ((a 6), .inr (2, [.ref (a 7), .ref (a 8), .ref (a 9), .int wc])), ((a 7), .inl (cJ, 11, .inr (.inl wb))), ((a 8), .inl (cJ, 11, .inr (.inl we))), ((a 9), .inl (cZ, 11, .inl wo)), ((a 14), .inl (cI, 11, .inl rm))] (km_T (m := mk_20) rfl rfl) (km_T (m := mk_20) rfl rfl) (km_cov (m := mk_19) (n := mk_20) rfl rfl) (km_dis (m := mk_19) (n := mk_20) rfl) rfl (fun H locs hP hD hS => ?_)
        refine lv_iconst (v := (-1)) hx hb dX1_isSoundInFrees_37 (by decide) ?_
        obtain ⟨r5, g5, h⟩ := g_b h
        refine kcall_i (wSB cI cJ cZ a ce fr un sb se so sc wb we wo wc fb fe fo fc rm ac rf kn) (va_runV (As := [.long r3, .long r4, .int (-1)]) (rest := []) ⟨hx, hb, hml, hown, hts⟩ (c_X0_firstMeeting l dC dI cB cI cJ cZ (a 2) (a 3) (a 4) (a 5) _ sb se so sc r3 r4 (-1) r5 g5) (kcwV hts kw_190 kv_X0_firstMeeting rfl rfl ⟨(Nat.le_of_ble_eq_true rfl), (Nat.le_of_ble_eq_true rfl)⟩) (kpV (A := A) (hP.sub (kIT mk_15 0) (km_f (m := mk_15) rfl rfl)) hK (hD.sub (kIT mk_15 0) (km_nd mk_15) (km_T (m := mk_15) rfl rfl)) hG (va_recv hK hP (ci := 2) (q0 := 2) rfl rfl)) rfl rfl hl.1 rfl (lv_room (Nat.le_of_ble_eq_true rfl)) dX1_isSoundInFrees_38 ⟨(Nat.le_of_ble_eq_true rfl), (Nat.le_of_ble_eq_true rfl)⟩) hP hD hS hA (kIT mk_15 0) (kIT mk_16 0) (km_T (m := mk_15) rfl rfl) (km_T (m := mk_15) rfl rfl) [((a 0), .inr (3, [.ref (a 1), .long fr, .long un, .ref (a 2), .ref (a 6), .ref (a 10), .ref (a 14), .int ac, .int rf, .int kn])), ((a 1), .inl (cJ, 4, .inr (.inl ce))), ((a 6), .inr (2, [.ref (a 7), .ref (a 8), .ref (a 9), .int wc])), ((a 7), .inl (cJ, 11, .inr (.inl wb))), ((a 8), .inl (cJ, 11, .inr (.inl we))), ((a 9), .inl (cZ, 11, .inl wo)), ((a 10), .inr (2, [.ref (a 11), .ref (a 12), .ref (a 13), .int fc])), ((a 11), .inl (cJ, 11, .inr (.inl fb))), ((a 12), .inl (cJ, 11, .inr (.inl fe))), ((a 13), .inl (cZ, 11, .inl fo)), ((a 14), .inl (cI, 11, .inl rm))] (km_T (m := mk_16) rfl rfl) (km_T (m := mk_16) rfl rfl) (km_cov (m := mk_15) (n := mk_16) rfl rfl) (km_dis (m := mk_15) (n := mk_16) rfl) rfl (fun H locs hP hD hS br5 => ?_)
        refine lv_iconst (v := (-1)) hx hb dX1_isSoundInFrees_41 (by decide) ?_
        refine lv_icmp_eq (tgt := 47) hx hb dX1_isSoundInFrees_42 (by decide) (fun c6 => ?_) (fun c6 => ?_)
        · have h := g_t c6 h
          refine lv_iinc (v := x1 + 1) (lv' := [(1, .int (x1 + 1)), (0, .ref (a 0))]) hx hb dX1_isSoundInFrees_47 hl (k := 1) rfl rfl (by decide) rfl (fun ls hl => ?_)
          refine lv_goto (tgt := 6) hx hb dX1_isSoundInFrees_50 (by decide) ?_
          exact ih ce fr un sb se so sc wb we wo wc fb fe fo fc rm ac rf kn (x1 + 1) _ _ hP hD hS ls (lv_sub hl [1, 0] rfl) h
        · have h := g_f c6 h
          refine lv_iconst (v := 0) hx hb dX1_isSoundInFrees_45 (by decide) ?_
          have h := Option.some.inj h
          subst h
          exact kret_i (v := 0) hx hb hr rfl hlocks hS hP dX1_isSoundInFrees_46
  have hl := lv_entry ([.ref (a 0)]) (n := 2) (Nat.le_of_ble_eq_true rfl)
  rw [lg_entry_eq]
  generalize (lg_sl ([.ref (a 0)]) ++ List.replicate (2 - (lg_sl ([.ref (a 0)])).length) Slot.unset).toArray = ls at hl ⊢
  have hl : lv_has ls 2 [(0, .ref (a 0))] := hl
  have h := f_X1_isSoundInFrees_e.symm.trans hf
  refine lv_aload_n hx hb dX1_isSoundInFrees_0 rfl (lv_at hl 0 rfl) ?_
  obtain ⟨r1, g1, h⟩ := g_b h
  refine kcall_v (wSB cI cJ cZ a ce fr un sb se so sc wb we wo wc r1.1 r1.2.1 r1.2.2.1 r1.2.2.2 rm ac rf kn) (va_runV (As := []) (rest := []) ⟨hx, hb, hml, hown, hts⟩ (c_X1_findFrees l dC dI cB cI cJ cZ a _ ce fr un sb se so sc wb we wo wc fb fe fo fc rm ac rf kn  r1 g1) (kcwV hts kw_182 kv_X1_findFrees rfl rfl ⟨(Nat.le_of_ble_eq_true rfl), (Nat.le_of_ble_eq_true rfl)⟩) (kpV (A := A) (hP.sub (kIT mk_14 0) (km_f (m := mk_14) rfl rfl)) hK (hD.sub (kIT mk_14 0) (km_nd mk_14) (km_T (m := mk_14) rfl rfl)) hG (va_recv hK hP (ci := 3) (q0 := 0) rfl rfl)) rfl rfl hl.1 rfl (lv_room (Nat.le_of_ble_eq_true rfl)) dX1_isSoundInFrees_1 ⟨(Nat.le_of_ble_eq_true rfl), (Nat.le_of_ble_eq_true rfl)⟩) hP hD hS hA (kIT mk_14 0) (kIT mk_13 0) (km_T (m := mk_14) rfl rfl) (km_T (m := mk_14) rfl rfl) [] (km_T (m := mk_13) rfl rfl) (km_T (m := mk_13) rfl rfl) (km_cov (m := mk_14) (n := mk_13) rfl rfl) (km_dis (m := mk_14) (n := mk_13) rfl) rfl (fun H locs hP hD hS => ?_)
  refine lv_iconst (v := 0) hx hb dX1_isSoundInFrees_4 (by decide) ?_
  refine lv_istore_n (lv' := [(1, .int 0), (0, .ref (a 0))]) hx hb dX1_isSoundInFrees_5 rfl hl (by decide) rfl (fun ls hl => ?_)
  exact J6 24 ce fr un sb se so sc wb we wo wc r1.1 r1.2.1 r1.2.2.1 r1.2.2.2 rm ac rf kn 0 _ _ hP hD hS ls (lv_sub hl [1, 0] rfl) h
abbrev wsX1_isSoundInWishes : List Cond := kWs yX1_isSoundInWishes cX1_isSoundInWishes 2 (some .boolean)
def f_X1_isSoundInWishes (wb : Nat → Int64) (we : Nat → Int64) (wc : Int32) (rm : Nat → Int32) : Option ((Int32) × (Nat → Int32)) :=
  (f_X1_findRooms wb we wc rm).bind fun r1 =>
  (f_X1_chosen wb we wc).bind fun r2 =>
  (f_X1_isWithoutMeeting wb we wc r2).bind fun r3 =>
  if r3 = 0 then
    some (0, r1)
  else
    (f_J6_bitCount_0f7a4 r2).bind fun r5 =>
    (f_X1_mostOfAllSets wb we wc).bind fun r6 =>
    if r5 = r6 then
      (f_X1_roomCount wc r1).bind fun r8 =>
      (f_X1_crowd wb we wc).bind fun r9 =>
      if r8 = r9 then
        some (1, r1)
      else
        some (0, r1)
    else
      some (0, r1)
theorem f_X1_isSoundInWishes_e {wb : Nat → Int64} {we : Nat → Int64} {wc : Int32} {rm : Nat → Int32} : f_X1_isSoundInWishes wb we wc rm = 
  (f_X1_findRooms wb we wc rm).bind fun r1 =>
  (f_X1_chosen wb we wc).bind fun r2 =>
  (f_X1_isWithoutMeeting wb we wc r2).bind fun r3 =>
  if r3 = 0 then
    some (0, r1)
  else
    (f_J6_bitCount_0f7a4 r2).bind fun r5 =>
    (f_X1_mostOfAllSets wb we wc).bind fun r6 =>
    if r5 = r6 then
      (f_X1_roomCount wc r1).bind fun r8 =>
      (f_X1_crowd wb we wc).bind fun r9 =>
      if r8 = r9 then
        some (1, r1)
      else
        some (0, r1)
    else
      some (0, r1) := rfl
set_option maxHeartbeats 4000000 in
set_option maxRecDepth 100000 in
theorem c_X1_isSoundInWishes (l : Launch) (dC : Nat → ClassId) (dI : Nat → Nat → Nat) (cB cI cJ cZ : ClassId) (a : Nat → Nat) (sz : Nat) (ce : Nat → Int64) (fr : Int64) (un : Int64) (sb : Nat → Int64) (se : Nat → Int64) (so : Nat → Int32) (sc : Int32) (wb : Nat → Int64) (we : Nat → Int64) (wo : Nat → Int32) (wc : Int32) (fb : Nat → Int64) (fe : Nat → Int64) (fo : Nat → Int32) (fc : Int32) (rm : Nat → Int32) (ac : Int32) (rf : Int32) (kn : Int32) (res : (Int32) × (Nat → Int32)) (hf : f_X1_isSoundInWishes wb we wc rm = some res) : Met l yX1_isSoundInWishes wsX1_isSoundInWishes ({ frames := 4, cells := 0, slots := 0, locals := 92 } : Room) (kPre (dC, dI) (kTy cB cI cJ cZ) [.ref (a 0)] sz (wSB cI cJ cZ a ce fr un sb se so sc wb we wo wc fb fe fo fc rm ac rf kn)) (kI (dC, dI) .boolean (res.1) (wSB cI cJ cZ a ce fr un sb se so sc wb we wo wc fb fe fo fc (res.2) ac rf kn) (va_A (wSB cI cJ cZ a ce fr un sb se so sc wb we wo wc fb fe fo fc rm ac rf kn) sz)) 0 0 (va_A (wSB cI cJ cZ a ce fr un sb se so sc wb we wo wc fb fe fo fc rm ac rf kn) sz) := by
  refine Met.ofW (cc := cX1_isSoundInWishes) (maxL := 2) (ret := (some .boolean)) (by decide) rfl ?_
  intro p e s m args below meth c s₁ B hml hv
  obtain ⟨rfl, hsz, hP, hK, hD0, hG⟩ := hv
  have hx := B.exec
  have hb := B.bytes
  have hr := B.returns
  have hts := atoms_spec (ws := wsX1_isSoundInWishes) B.pre
  have hown : s.vm.findClass RX1 = some m.cls := findClass_of_methodNamed B.named
  have hlocks := B.notSynchronized
  subst hsz
  have hD := hD0.self (sz := s.heap.size)
  generalize hAe : va_A (wSB cI cJ cZ a ce fr un sb se so sc wb we wo wc fb fe fo fc rm ac rf kn) s.heap.size = A at hD ⊢
  have hA : ∀ q : Nat, s.heap.size ≤ q → A q := fun q h => by rw [← hAe]; exact Or.inr h
  have hS : va_S A s.heap s.heap [] := va_S.rf
  clear hAe
  have hl := lv_entry ([.ref (a 0)]) (n := 2) (Nat.le_of_ble_eq_true rfl)
  rw [lg_entry_eq]
  generalize (lg_sl ([.ref (a 0)]) ++ List.replicate (2 - (lg_sl ([.ref (a 0)])).length) Slot.unset).toArray = ls at hl ⊢
  have hl : lv_has ls 2 [(0, .ref (a 0))] := hl
  have h := f_X1_isSoundInWishes_e.symm.trans hf
  refine lv_aload_n hx hb dX1_isSoundInWishes_0 rfl (lv_at hl 0 rfl) ?_
  obtain ⟨r1, g1, h⟩ := g_b h
  refine kcall_v (wSB cI cJ cZ a ce fr un sb se so sc wb we wo wc fb fe fo fc r1 ac rf kn) (va_runV (As := []) (rest := []) ⟨hx, hb, hml, hown, hts⟩ (c_X1_findRooms l dC dI cB cI cJ cZ a _ ce fr un sb se so sc wb we wo wc fb fe fo fc rm ac rf kn  r1 g1) (kcwV hts kw_243 kv_X1_findRooms rfl rfl ⟨(Nat.le_of_ble_eq_true rfl), (Nat.le_of_ble_eq_true rfl)⟩) (kpV (A := A) (hP.sub (kIT mk_14 0) (km_f (m := mk_14) rfl rfl)) hK (hD.sub (kIT mk_14 0) (km_nd mk_14) (km_T (m := mk_14) rfl rfl)) hG (va_recv hK hP (ci := 3) (q0 := 0) rfl rfl)) rfl rfl hl.1 rfl (lv_room (Nat.le_of_ble_eq_true rfl)) dX1_isSoundInWishes_1 ⟨(Nat.le_of_ble_eq_true rfl), (Nat.le_of_ble_eq_true rfl)⟩) hP hD hS hA (kIT mk_14 0) (kIT mk_13 0) (km_T (m := mk_14) rfl rfl) (km_T (m := mk_14) rfl rfl) [] (km_T (m := mk_13) rfl rfl) (km_T (m := mk_13) rfl rfl) (km_cov (m := mk_14) (n := mk_13) rfl rfl) (km_dis (m := mk_14) (n := mk_13) rfl) rfl (fun H locs hP hD hS => ?_)
  refine lv_aload_n hx hb dX1_isSoundInWishes_4 rfl (lv_at hl 0 rfl) ?_
  obtain ⟨r2, g2, h⟩ := g_b h
  refine kcall_i (wSB cI cJ cZ a ce fr un sb se so sc wb we wo wc fb fe fo fc r1 ac rf kn) (va_runV (As := []) (rest := []) ⟨hx, hb, hml, hown, hts⟩ (c_X1_chosen l dC dI cB cI cJ cZ a _ ce fr un sb se so sc wb we wo wc fb fe fo fc r1 ac rf kn  r2 g2) (kcwV hts kw_300 kv_X1_chosen rfl rfl ⟨(Nat.le_of_ble_eq_true rfl), (Nat.le_of_ble_eq_true rfl)⟩) (kpV (A := A) (hP.sub (kIT mk_14 0) (km_f (m := mk_14) rfl rfl)) hK (hD.sub (kIT mk_14 0) (km_nd mk_14) (km_T (m := mk_14) rfl rfl)) hG (va_recv hK hP (ci := 3) (q0 := 0) rfl rfl)) rfl rfl hl.1 rfl (lv_room (Nat.le_of_ble_eq_true rfl)) dX1_isSoundInWishes_5 ⟨(Nat.le_of_ble_eq_true rfl), (Nat.le_of_ble_eq_true rfl)⟩) hP hD hS hA (kIT mk_14 0) (kIT mk_13 0) (km_T (m := mk_14) rfl rfl) (km_T (m := mk_14) rfl rfl) [] (km_T (m := mk_13) rfl rfl) (km_T (m := mk_13) rfl rfl) (km_cov (m := mk_14) (n := mk_13) rfl rfl) (km_dis (m := mk_14) (n := mk_13) rfl) rfl (fun H locs hP hD hS br2 => ?_)
  refine lv_istore_n (lv' := [(1, .int r2), (0, .ref (a 0))]) hx hb dX1_isSoundInWishes_8 rfl hl (by decide) rfl (fun ls hl => ?_)
  refine lv_aload_n hx hb dX1_isSoundInWishes_9 rfl (lv_at hl 1 rfl) ?_
  refine lv_iload_n hx hb dX1_isSoundInWishes_10 rfl (lv_at hl 0 rfl) ?_
  obtain ⟨r3, g3, h⟩ := g_b h
  refine kcall_i (wSB cI cJ cZ a ce fr un sb se so sc wb we wo wc fb fe fo fc r1 ac rf kn) (va_runV (As := [.int r2]) (rest := []) ⟨hx, hb, hml, hown, hts⟩ (c_X1_isWithoutMeeting l dC dI cB cI cJ cZ a _ ce fr un sb se so sc wb we wo wc fb fe fo fc r1 ac rf kn r2 r3 g3) (kcwV hts kw_301 kv_X1_isWithoutMeeting rfl rfl ⟨(Nat.le_of_ble_eq_true rfl), (Nat.le_of_ble_eq_true rfl)⟩) (kpV (A := A) (hP.sub (kIT mk_14 0) (km_f (m := mk_14) rfl rfl)) hK (hD.sub (kIT mk_14 0) (km_nd mk_14) (km_T (m := mk_14) rfl rfl)) hG (va_recv hK hP (ci := 3) (q0 := 0) rfl rfl)) rfl rfl hl.1 rfl (lv_room (Nat.le_of_ble_eq_true rfl)) dX1_isSoundInWishes_11 ⟨(Nat.le_of_ble_eq_true rfl), (Nat.le_of_ble_eq_true rfl)⟩) hP hD hS hA (kIT mk_14 0) (kIT mk_13 0) (km_T (m := mk_14) rfl rfl) (km_T (m := mk_14) rfl rfl) [] (km_T (m := mk_13) rfl rfl) (km_T (m := mk_13) rfl rfl) (km_cov (m := mk_14) (n := mk_13) rfl rfl) (km_dis (m := mk_14) (n := mk_13) rfl) rfl (fun H locs hP hD hS br3 => ?_)
  refine lv_if_eq (tgt := 43) hx hb dX1_isSoundInWishes_14 (by decide) (fun c4 => ?_) (fun c4 => ?_)
  · have h := g_t c4 h
    refine lv_iconst (v := 0) hx hb dX1_isSoundInWishes_43 (by decide) ?_
    have h := Option.some.inj h
    subst h
    exact kret_i (v := 0) hx hb hr rfl hlocks hS hP dX1_isSoundInWishes_44
  · have h := g_f c4 h
    refine lv_iload_n hx hb dX1_isSoundInWishes_17 rfl (lv_at hl 0 rfl) ?_
    obtain ⟨r5, g5, h⟩ := g_b h
    refine kcall_i (wSB cI cJ cZ a ce fr un sb se so sc wb we wo wc fb fe fo fc r1 ac rf kn) (va_runS (As := [.int r2]) (rest := []) ⟨hx, hb, hml, hown, hts⟩ (c_J6_bitCount_0f7a4 l dC dI cB cI cJ cZ  _  r2 r5 g5) (kcwS hts kw_305 kv_J6_bitCount_0f7a4 rfl rfl ⟨(Nat.le_of_ble_eq_true rfl), (Nat.le_of_ble_eq_true rfl)⟩) (kpS (A := A) (kPnil) hK ((kDnil (A := A))) hG) rfl rfl hl.1 rfl (lv_room (Nat.le_of_ble_eq_true rfl)) dX1_isSoundInWishes_18 ⟨(Nat.le_of_ble_eq_true rfl), (Nat.le_of_ble_eq_true rfl)⟩) hP hD hS hA (kIT mk_13 0) (kIT mk_14 0) (km_T (m := mk_13) rfl rfl) (km_T (m := mk_13) rfl rfl) [((a 0), .inr (3, [.ref (a 1), .long fr, .long un, .ref (a 2), .ref (a 6), .ref (a 10), .ref (a 14), .int ac, .int rf, .int kn])), ((a 1), .inl (cJ, 4, .inr (.inl ce))), ((a 2), .inr (2, [.ref (a 3), .ref (a 4), .ref (a 5), .int sc])), ((a 3), .inl (cJ, 11, .inr (.inl sb))), ((a 4), .inl (cJ, 11, .inr (.inl se))), ((a 5), .inl (cZ, 11, .inl so)), ((a 6), .inr (2, [.ref (a 7), .ref (a 8), .ref (a 9), .int wc])), ((a 7), .inl (cJ, 11, .inr (.inl wb))), ((a 8), .inl (cJ, 11, .inr (.inl we))), ((a 9), .inl (cZ, 11, .inl wo)), ((a 10), .inr (2, [.ref (a 11), .ref (a 12), .ref (a 13), .int fc])), ((a 11), .inl (cJ, 11, .inr (.inl fb))), ((a 12), .inl (cJ, 11, .inr (.inl fe))), ((a 13), .inl (cZ, 11, .inl fo)), ((a 14), .inl (cI, 11, .inl r1))] (km_T (m := mk_14) rfl rfl) (km_T (m := mk_14) rfl rfl) (km_cov (m := mk_13) (n := mk_14) rfl rfl) (km_dis (m := mk_13) (n := mk_14) rfl) rfl (fun H locs hP hD hS br5 => ?_)
    refine lv_aload_n hx hb dX1_isSoundInWishes_21 rfl (lv_at hl 1 rfl) ?_
    obtain ⟨r6, g6, h⟩ := g_b h
    refine kcall_i (wSB cI cJ cZ a ce fr un sb se so sc wb we wo wc fb fe fo fc r1 ac rf kn) (va_runV (As := []) (rest := [.int r5]) ⟨hx, hb, hml, hown, hts⟩ (c_X1_mostOfAllSets l dC dI cB cI cJ cZ a _ ce fr un sb se so sc wb we wo wc fb fe fo fc r1 ac rf kn  r6 g6) (kcwV hts kw_311 kv_X1_mostOfAllSets rfl rfl ⟨(Nat.le_of_ble_eq_true rfl), (Nat.le_of_ble_eq_true rfl)⟩) (kpV (A := A) (hP.sub (kIT mk_14 0) (km_f (m := mk_14) rfl rfl)) hK (hD.sub (kIT mk_14 0) (km_nd mk_14) (km_T (m := mk_14) rfl rfl)) hG (va_recv hK hP (ci := 3) (q0 := 0) rfl rfl)) rfl rfl hl.1 rfl (lv_room (Nat.le_of_ble_eq_true rfl)) dX1_isSoundInWishes_22 ⟨(Nat.le_of_ble_eq_true rfl), (Nat.le_of_ble_eq_true rfl)⟩) hP hD hS hA (kIT mk_14 0) (kIT mk_13 0) (km_T (m := mk_14) rfl rfl) (km_T (m := mk_14) rfl rfl) [] (km_T (m := mk_13) rfl rfl) (km_T (m := mk_13) rfl rfl) (km_cov (m := mk_14) (n := mk_13) rfl rfl) (km_dis (m := mk_14) (n := mk_13) rfl) rfl (fun H locs hP hD hS br6 => ?_)
    refine lv_icmp_ne (tgt := 43) hx hb dX1_isSoundInWishes_25 (by decide) (fun c7 => ?_) (fun c7 => ?_)
    · have h := g_f c7 h
      refine lv_iconst (v := 0) hx hb dX1_isSoundInWishes_43 (by decide) ?_
      have h := Option.some.inj h
      subst h
      exact kret_i (v := 0) hx hb hr rfl hlocks hS hP dX1_isSoundInWishes_44
    · have h := g_t c7 h
      refine lv_aload_n hx hb dX1_isSoundInWishes_28 rfl (lv_at hl 1 rfl) ?_
      obtain ⟨r8, g8, h⟩ := g_b h
      refine kcall_i (wSB cI cJ cZ a ce fr un sb se so sc wb we wo wc fb fe fo fc r1 ac rf kn) (va_runV (As := []) (rest := []) ⟨hx, hb, hml, hown, hts⟩ (c_X1_roomCount l dC dI cB cI cJ cZ a _ ce fr un sb se so sc wb we wo wc fb fe fo fc r1 ac rf kn  r8 g8) (kcwV hts kw_259 kv_X1_roomCount rfl rfl ⟨(Nat.le_of_ble_eq_true rfl), (Nat.le_of_ble_eq_true rfl)⟩) (kpV (A := A) (hP.sub (kIT mk_14 0) (km_f (m := mk_14) rfl rfl)) hK (hD.sub (kIT mk_14 0) (km_nd mk_14) (km_T (m := mk_14) rfl rfl)) hG (va_recv hK hP (ci := 3) (q0 := 0) rfl rfl)) rfl rfl hl.1 rfl (lv_room (Nat.le_of_ble_eq_true rfl)) dX1_isSoundInWishes_29 ⟨(Nat.le_of_ble_eq_true rfl), (Nat.le_of_ble_eq_true rfl)⟩) hP hD hS hA (kIT mk_14 0) (kIT mk_13 0) (km_T (m := mk_14) rfl rfl) (km_T (m := mk_14) rfl rfl) [] (km_T (m := mk_13) rfl rfl) (km_T (m := mk_13) rfl rfl) (km_cov (m := mk_14) (n := mk_13) rfl rfl) (km_dis (m := mk_14) (n := mk_13) rfl) rfl (fun H locs hP hD hS br8 => ?_)
      refine lv_aload_n hx hb dX1_isSoundInWishes_32 rfl (lv_at hl 1 rfl) ?_
      obtain ⟨r9, g9, h⟩ := g_b h
      refine kcall_i (wSB cI cJ cZ a ce fr un sb se so sc wb we wo wc fb fe fo fc r1 ac rf kn) (va_runV (As := []) (rest := [.int r8]) ⟨hx, hb, hml, hown, hts⟩ (c_X1_crowd l dC dI cB cI cJ cZ a _ ce fr un sb se so sc wb we wo wc fb fe fo fc r1 ac rf kn  r9 g9) (kcwV hts kw_319 kv_X1_crowd rfl rfl ⟨(Nat.le_of_ble_eq_true rfl), (Nat.le_of_ble_eq_true rfl)⟩) (kpV (A := A) (hP.sub (kIT mk_14 0) (km_f (m := mk_14) rfl rfl)) hK (hD.sub (kIT mk_14 0) (km_nd mk_14) (km_T (m := mk_14) rfl rfl)) hG (va_recv hK hP (ci := 3) (q0 := 0) rfl rfl)) rfl rfl hl.1 rfl (lv_room (Nat.le_of_ble_eq_true rfl)) dX1_isSoundInWishes_33 ⟨(Nat.le_of_ble_eq_true rfl), (Nat.le_of_ble_eq_true rfl)⟩) hP hD hS hA (kIT mk_14 0) (kIT mk_13 0) (km_T (m := mk_14) rfl rfl) (km_T (m := mk_14) rfl rfl) [] (km_T (m := mk_13) rfl rfl) (km_T (m := mk_13) rfl rfl) (km_cov (m := mk_14) (n := mk_13) rfl rfl) (km_dis (m := mk_14) (n := mk_13) rfl) rfl (fun H locs hP hD hS br9 => ?_)
      refine lv_icmp_ne (tgt := 43) hx hb dX1_isSoundInWishes_36 (by decide) (fun c10 => ?_) (fun c10 => ?_)
      · have h := g_f c10 h
        refine lv_iconst (v := 0) hx hb dX1_isSoundInWishes_43 (by decide) ?_
        have h := Option.some.inj h
        subst h
        exact kret_i (v := 0) hx hb hr rfl hlocks hS hP dX1_isSoundInWishes_44
      · have h := g_t c10 h
        refine lv_iconst (v := 1) hx hb dX1_isSoundInWishes_39 (by decide) ?_
        refine lv_goto (tgt := 44) hx hb dX1_isSoundInWishes_40 (by decide) ?_
        have h := Option.some.inj h
        subst h
        exact kret_i (v := 1) hx hb hr rfl hlocks hS hP dX1_isSoundInWishes_44
abbrev wsX1_isSound : List Cond := kWs yX1_isSound cX1_isSound 1 (some .boolean)
def f_X1_isSound (fr : Int64) (un : Int64) (sb : Nat → Int64) (se : Nat → Int64) (so : Nat → Int32) (sc : Int32) (wb : Nat → Int64) (we : Nat → Int64) (wc : Int32) (fb : Nat → Int64) (fe : Nat → Int64) (fo : Nat → Int32) (fc : Int32) (rm : Nat → Int32) : Option ((Int32) × (Nat → Int64) × (Nat → Int64) × (Nat → Int32) × (Int32) × (Nat → Int32)) :=
  if un ≤ fr then
    some (0, fb, fe, fo, fc, rm)
  else
    (f_X1_isSoundInSpans fr un sb se so sc).bind fun r2 =>
    if r2 = 0 then
      some (0, fb, fe, fo, fc, rm)
    else
      (f_X1_isSoundInFrees fr un sb se sc fb fe fo fc).bind fun r4 =>
      if r4.1 = 0 then
        some (0, r4.2.1, r4.2.2.1, r4.2.2.2.1, r4.2.2.2.2, rm)
      else
        (f_X1_isSoundInWishes wb we wc rm).bind fun r6 =>
        if r6.1 = 0 then
          some (0, r4.2.1, r4.2.2.1, r4.2.2.2.1, r4.2.2.2.2, r6.2)
        else
          some (1, r4.2.1, r4.2.2.1, r4.2.2.2.1, r4.2.2.2.2, r6.2)
theorem f_X1_isSound_e {fr : Int64} {un : Int64} {sb : Nat → Int64} {se : Nat → Int64} {so : Nat → Int32} {sc : Int32} {wb : Nat → Int64} {we : Nat → Int64} {wc : Int32} {fb : Nat → Int64} {fe : Nat → Int64} {fo : Nat → Int32} {fc : Int32} {rm : Nat → Int32} : f_X1_isSound fr un sb se so sc wb we wc fb fe fo fc rm = 
  if un ≤ fr then
    some (0, fb, fe, fo, fc, rm)
  else
    (f_X1_isSoundInSpans fr un sb se so sc).bind fun r2 =>
    if r2 = 0 then
      some (0, fb, fe, fo, fc, rm)
    else
      (f_X1_isSoundInFrees fr un sb se sc fb fe fo fc).bind fun r4 =>
      if r4.1 = 0 then
        some (0, r4.2.1, r4.2.2.1, r4.2.2.2.1, r4.2.2.2.2, rm)
      else
        (f_X1_isSoundInWishes wb we wc rm).bind fun r6 =>
        if r6.1 = 0 then
          some (0, r4.2.1, r4.2.2.1, r4.2.2.2.1, r4.2.2.2.2, r6.2)
        else
          some (1, r4.2.1, r4.2.2.1, r4.2.2.2.1, r4.2.2.2.2, r6.2) := rfl
set_option maxHeartbeats 4000000 in
set_option maxRecDepth 100000 in
theorem c_X1_isSound (l : Launch) (dC : Nat → ClassId) (dI : Nat → Nat → Nat) (cB cI cJ cZ : ClassId) (a : Nat → Nat) (sz : Nat) (ce : Nat → Int64) (fr : Int64) (un : Int64) (sb : Nat → Int64) (se : Nat → Int64) (so : Nat → Int32) (sc : Int32) (wb : Nat → Int64) (we : Nat → Int64) (wo : Nat → Int32) (wc : Int32) (fb : Nat → Int64) (fe : Nat → Int64) (fo : Nat → Int32) (fc : Int32) (rm : Nat → Int32) (ac : Int32) (rf : Int32) (kn : Int32) (res : (Int32) × (Nat → Int64) × (Nat → Int64) × (Nat → Int32) × (Int32) × (Nat → Int32)) (hf : f_X1_isSound fr un sb se so sc wb we wc fb fe fo fc rm = some res) : Met l yX1_isSound wsX1_isSound ({ frames := 5, cells := 0, slots := 0, locals := 118 } : Room) (kPre (dC, dI) (kTy cB cI cJ cZ) [.ref (a 0)] sz (wSB cI cJ cZ a ce fr un sb se so sc wb we wo wc fb fe fo fc rm ac rf kn)) (kI (dC, dI) .boolean (res.1) (wSB cI cJ cZ a ce fr un sb se so sc wb we wo wc (res.2.1) (res.2.2.1) (res.2.2.2.1) (res.2.2.2.2.1) (res.2.2.2.2.2) ac rf kn) (va_A (wSB cI cJ cZ a ce fr un sb se so sc wb we wo wc fb fe fo fc rm ac rf kn) sz)) 0 0 (va_A (wSB cI cJ cZ a ce fr un sb se so sc wb we wo wc fb fe fo fc rm ac rf kn) sz) := by
  refine Met.ofW (cc := cX1_isSound) (maxL := 1) (ret := (some .boolean)) (by decide) rfl ?_
  intro p e s m args below meth c s₁ B hml hv
  obtain ⟨rfl, hsz, hP, hK, hD0, hG⟩ := hv
  have hx := B.exec
  have hb := B.bytes
  have hr := B.returns
  have hts := atoms_spec (ws := wsX1_isSound) B.pre
  have hown : s.vm.findClass RX1 = some m.cls := findClass_of_methodNamed B.named
  have hlocks := B.notSynchronized
  subst hsz
  have hD := hD0.self (sz := s.heap.size)
  generalize hAe : va_A (wSB cI cJ cZ a ce fr un sb se so sc wb we wo wc fb fe fo fc rm ac rf kn) s.heap.size = A at hD ⊢
  have hA : ∀ q : Nat, s.heap.size ≤ q → A q := fun q h => by rw [← hAe]; exact Or.inr h
  have hS : va_S A s.heap s.heap [] := va_S.rf
  clear hAe
  have hw0 := hts (.fieldLink RX1 13 "Spanbooker" "from" "J") (List.mem_cons_of_mem _ kw_108)
  have hw1 := hts (.fieldLink RX1 19 "Spanbooker" "until" "J") (List.mem_cons_of_mem _ kw_109)
  have hiX1 : ∀ w ∈ u_ws RX1 TX1 10, w ∈ wsX1_isSound := fun w h => List.mem_cons_of_mem _ (ku_X1 w h)
  have hl := lv_entry ([.ref (a 0)]) (n := 1) (Nat.le_of_ble_eq_true rfl)
  rw [lg_entry_eq]
  generalize (lg_sl ([.ref (a 0)]) ++ List.replicate (1 - (lg_sl ([.ref (a 0)])).length) Slot.unset).toArray = ls at hl ⊢
  have hl : lv_has ls 1 [(0, .ref (a 0))] := hl
  have h := f_X1_isSound_e.symm.trans hf
  refine lv_aload_n hx hb dX1_isSound_0 rfl (lv_at hl 0 rfl) ?_
  refine va_get (D := (dC, dI)) (ci := 3) (v := .long fr) (C := RX1) (T := TX1) (N := 10) hx hb hts hiX1 hown hK hP 0 rfl rfl 1 (by decide) hw0 (fun _ h9 => h9) rfl dX1_isSound_1 ?_
  refine lv_aload_n hx hb dX1_isSound_4 rfl (lv_at hl 0 rfl) ?_
  refine va_get (D := (dC, dI)) (ci := 3) (v := .long un) (C := RX1) (T := TX1) (N := 10) hx hb hts hiX1 hown hK hP 0 rfl rfl 2 (by decide) hw1 (fun _ h9 => h9) rfl dX1_isSound_5 ?_
  refine kl_ge (pc := 8) (tgt := 37) hx hb dX1_isSound_8 dX1_isSound_9 (by decide) (fun c1 => ?_) (fun c1 => ?_)
  · have h := g_t c1 h
    refine lv_iconst (v := 0) hx hb dX1_isSound_37 (by decide) ?_
    have h := Option.some.inj h
    subst h
    exact kret_i (v := 0) hx hb hr rfl hlocks hS hP dX1_isSound_38
  · have h := g_f c1 h
    refine lv_aload_n hx hb dX1_isSound_12 rfl (lv_at hl 0 rfl) ?_
    obtain ⟨r2, g2, h⟩ := g_b h
    refine kcall_i (wSB cI cJ cZ a ce fr un sb se so sc wb we wo wc fb fe fo fc rm ac rf kn) (va_runV (As := []) (rest := []) ⟨hx, hb, hml, hown, hts⟩ (c_X1_isSoundInSpans l dC dI cB cI cJ cZ a _ ce fr un sb se so sc wb we wo wc fb fe fo fc rm ac rf kn  r2 g2) (kcwV hts kw_272 kv_X1_isSoundInSpans rfl rfl ⟨(Nat.le_of_ble_eq_true rfl), (Nat.le_of_ble_eq_true rfl)⟩) (kpV (A := A) (hP.sub (kIT mk_14 0) (km_f (m := mk_14) rfl rfl)) hK (hD.sub (kIT mk_14 0) (km_nd mk_14) (km_T (m := mk_14) rfl rfl)) hG (va_recv hK hP (ci := 3) (q0 := 0) rfl rfl)) rfl rfl hl.1 rfl (lv_room (Nat.le_of_ble_eq_true rfl)) dX1_isSound_13 ⟨(Nat.le_of_ble_eq_true rfl), (Nat.le_of_ble_eq_true rfl)⟩) hP hD hS hA (kIT mk_14 0) (kIT mk_13 0) (km_T (m := mk_14) rfl rfl) (km_T (m := mk_14) rfl rfl) [] (km_T (m := mk_13) rfl rfl) (km_T (m := mk_13) rfl rfl) (km_cov (m := mk_14) (n := mk_13) rfl rfl) (km_dis (m := mk_14) (n := mk_13) rfl) rfl (fun H locs hP hD hS br2 => ?_)
    refine lv_if_eq (tgt := 37) hx hb dX1_isSound_16 (by decide) (fun c3 => ?_) (fun c3 => ?_)
    · have h := g_t c3 h
      refine lv_iconst (v := 0) hx hb dX1_isSound_37 (by decide) ?_
      have h := Option.some.inj h
      subst h
      exact kret_i (v := 0) hx hb hr rfl hlocks hS hP dX1_isSound_38
    · have h := g_f c3 h
      refine lv_aload_n hx hb dX1_isSound_19 rfl (lv_at hl 0 rfl) ?_
      obtain ⟨r4, g4, h⟩ := g_b h
      refine kcall_i (wSB cI cJ cZ a ce fr un sb se so sc wb we wo wc r4.2.1 r4.2.2.1 r4.2.2.2.1 r4.2.2.2.2 rm ac rf kn) (va_runV (As := []) (rest := []) ⟨hx, hb, hml, hown, hts⟩ (c_X1_isSoundInFrees l dC dI cB cI cJ cZ a _ ce fr un sb se so sc wb we wo wc fb fe fo fc rm ac rf kn  r4 g4) (kcwV hts kw_284 kv_X1_isSoundInFrees rfl rfl ⟨(Nat.le_of_ble_eq_true rfl), (Nat.le_of_ble_eq_true rfl)⟩) (kpV (A := A) (hP.sub (kIT mk_14 0) (km_f (m := mk_14) rfl rfl)) hK (hD.sub (kIT mk_14 0) (km_nd mk_14) (km_T (m := mk_14) rfl rfl)) hG (va_recv hK hP (ci := 3) (q0 := 0) rfl rfl)) rfl rfl hl.1 rfl (lv_room (Nat.le_of_ble_eq_true rfl)) dX1_isSound_20 ⟨(Nat.le_of_ble_eq_true rfl), (Nat.le_of_ble_eq_true rfl)⟩) hP hD hS hA (kIT mk_14 0) (kIT mk_13 0) (km_T (m := mk_14) rfl rfl) (km_T (m := mk_14) rfl rfl) [] (km_T (m := mk_13) rfl rfl) (km_T (m := mk_13) rfl rfl) (km_cov (m := mk_14) (n := mk_13) rfl rfl) (km_dis (m := mk_14) (n := mk_13) rfl) rfl (fun H locs hP hD hS br4 => ?_)
      refine lv_if_eq (tgt := 37) hx hb dX1_isSound_23 (by decide) (fun c5 => ?_) (fun c5 => ?_)
      · have h := g_t c5 h
        refine lv_iconst (v := 0) hx hb dX1_isSound_37 (by decide) ?_
        have h := Option.some.inj h
        subst h
        exact kret_i (v := 0) hx hb hr rfl hlocks hS hP dX1_isSound_38
      · have h := g_f c5 h
        refine lv_aload_n hx hb dX1_isSound_26 rfl (lv_at hl 0 rfl) ?_
        obtain ⟨r6, g6, h⟩ := g_b h
        refine kcall_i (wSB cI cJ cZ a ce fr un sb se so sc wb we wo wc r4.2.1 r4.2.2.1 r4.2.2.2.1 r4.2.2.2.2 r6.2 ac rf kn) (va_runV (As := []) (rest := []) ⟨hx, hb, hml, hown, hts⟩ (c_X1_isSoundInWishes l dC dI cB cI cJ cZ a _ ce fr un sb se so sc wb we wo wc r4.2.1 r4.2.2.1 r4.2.2.2.1 r4.2.2.2.2 rm ac rf kn  r6 g6) (kcwV hts kw_296 kv_X1_isSoundInWishes rfl rfl ⟨(Nat.le_of_ble_eq_true rfl), (Nat.le_of_ble_eq_true rfl)⟩) (kpV (A := A) (hP.sub (kIT mk_14 0) (km_f (m := mk_14) rfl rfl)) hK (hD.sub (kIT mk_14 0) (km_nd mk_14) (km_T (m := mk_14) rfl rfl)) hG (va_recv hK hP (ci := 3) (q0 := 0) rfl rfl)) rfl rfl hl.1 rfl (lv_room (Nat.le_of_ble_eq_true rfl)) dX1_isSound_27 ⟨(Nat.le_of_ble_eq_true rfl), (Nat.le_of_ble_eq_true rfl)⟩) hP hD hS hA (kIT mk_14 0) (kIT mk_13 0) (km_T (m := mk_14) rfl rfl) (km_T (m := mk_14) rfl rfl) [] (km_T (m := mk_13) rfl rfl) (km_T (m := mk_13) rfl rfl) (km_cov (m := mk_14) (n := mk_13) rfl rfl) (km_dis (m := mk_14) (n := mk_13) rfl) rfl (fun H locs hP hD hS br6 => ?_)
        refine lv_if_eq (tgt := 37) hx hb dX1_isSound_30 (by decide) (fun c7 => ?_) (fun c7 => ?_)
        · have h := g_t c7 h
          refine lv_iconst (v := 0) hx hb dX1_isSound_37 (by decide) ?_
          have h := Option.some.inj h
          subst h
          exact kret_i (v := 0) hx hb hr rfl hlocks hS hP dX1_isSound_38
        · have h := g_f c7 h
          refine lv_iconst (v := 1) hx hb dX1_isSound_33 (by decide) ?_
          refine lv_goto (tgt := 38) hx hb dX1_isSound_34 (by decide) ?_
          have h := Option.some.inj h
          subst h
          exact kret_i (v := 1) hx hb hr rfl hlocks hS hP dX1_isSound_38
abbrev wsX1_mix : List Cond := kWs yX1_mix cX1_mix 3 (some .long)
def f_X1_mix (p0 : Int64) (p1 : Int32) : Option (Int64) :=
  some ((p0 * 31) + p1.toInt64)
theorem f_X1_mix_e {p0 : Int64} {p1 : Int32} : f_X1_mix p0 p1 = 
  some ((p0 * 31) + p1.toInt64) := rfl
set_option maxHeartbeats 4000000 in
set_option maxRecDepth 100000 in
theorem c_X1_mix (l : Launch) (dC : Nat → ClassId) (dI : Nat → Nat → Nat) (cB cI cJ cZ : ClassId) (sz : Nat) (p0 : Int64) (p1 : Int32) (res : Int64) (hf : f_X1_mix p0 p1 = some res) : Met l yX1_mix wsX1_mix ({ frames := 0, cells := 0, slots := 0, locals := 0 } : Room) (kPre (dC, dI) (kTy cB cI cJ cZ) [.long p0, .int p1] sz []) (kL (dC, dI) (res) [] (va_A [] sz)) 0 0 (va_A [] sz) := by
  refine Met.ofW (cc := cX1_mix) (maxL := 3) (ret := (some .long)) (by decide) rfl ?_
  intro p e s m args below meth c s₁ B hml hv
  obtain ⟨rfl, hsz, hP, hK, hD0, hG⟩ := hv
  have hx := B.exec
  have hb := B.bytes
  have hr := B.returns
  have hts := atoms_spec (ws := wsX1_mix) B.pre
  have hown : s.vm.findClass RX1 = some m.cls := findClass_of_methodNamed B.named
  have hlocks := B.notSynchronized
  subst hsz
  have hD := hD0.self (sz := s.heap.size)
  generalize hAe : va_A [] s.heap.size = A at hD ⊢
  have hA : ∀ q : Nat, s.heap.size ≤ q → A q := fun q h => by rw [← hAe]; exact Or.inr h
  have hS : va_S A s.heap s.heap [] := va_S.rf
  clear hAe
  have hw0 := hts (.constantLong RX1 320 (31)) (List.mem_cons_of_mem _ kw_339)
  have hl := lv_entry ([.long p0, .int p1]) (n := 3) (Nat.le_of_ble_eq_true rfl)
  rw [lg_entry_eq]
  generalize (lg_sl ([.long p0, .int p1]) ++ List.replicate (3 - (lg_sl ([.long p0, .int p1])).length) Slot.unset).toArray = ls at hl ⊢
  have hl : lv_has ls 3 [(0, .long p0), (2, .int p1)] := hl
  have h := f_X1_mix_e.symm.trans hf
  refine lv_lload_n hx hb dX1_mix_0 rfl (lv_at hl 0 rfl) ?_
  refine lv_ldc2 (v := (31)) hx hb hown hw0 dX1_mix_1 ?_
  refine lv_lmul hx hb dX1_mix_4 ?_
  refine lv_iload_n hx hb dX1_mix_5 rfl (lv_at hl 1 rfl) ?_
  refine lv_i2l (v := p1.toInt64) hx hb dX1_mix_6 rfl ?_
  refine lv_ladd hx hb dX1_mix_7 ?_
  have h := Option.some.inj h
  subst h
  exact kret_l (v := (p0 * 31) + p1.toInt64) hx hb hr hlocks hS hP dX1_mix_8
abbrev wsX1_mixParts : List Cond := kWs yX1_mixParts cX1_mixParts 7 (some .long)
def f_X1_mixParts_6 : Nat → (Nat → Int64) → (Nat → Int64) → (Int32) → (Int32) → (Int64) → (Int32) → Option (Int64)
  | 0, _, _, _, _, _, _ => none
  | n + 1, rb, re, rc, x3, x4, x6 =>
    if 4 ≤ x6 then
      some x4
    else
      (f_X1_partIn rb re rc x3 x6).bind fun r2 =>
      (f_X1_mix x4 r2).bind fun r3 =>
      f_X1_mixParts_6 n rb re rc x3 r3 (x6 + 1)
theorem f_X1_mixParts_6_0 {rb : Nat → Int64} {re : Nat → Int64} {rc : Int32} {x3 : Int32} {x4 : Int64} {x6 : Int32} : f_X1_mixParts_6 0 rb re rc x3 x4 x6 = none := rfl
theorem f_X1_mixParts_6_s {n : Nat} {rb : Nat → Int64} {re : Nat → Int64} {rc : Int32} {x3 : Int32} {x4 : Int64} {x6 : Int32} : f_X1_mixParts_6 (n + 1) rb re rc x3 x4 x6 =
  if 4 ≤ x6 then
    some x4
  else
    (f_X1_partIn rb re rc x3 x6).bind fun r2 =>
    (f_X1_mix x4 r2).bind fun r3 =>
    f_X1_mixParts_6 n rb re rc x3 r3 (x6 + 1) := rfl
def f_X1_mixParts (rb : Nat → Int64) (re : Nat → Int64) (rc : Int32) (p0 : Int64) (p2 : Int32) : Option (Int64) :=
  f_X1_mixParts_6 24 rb re rc p2 p0 0
theorem f_X1_mixParts_e {rb : Nat → Int64} {re : Nat → Int64} {rc : Int32} {p0 : Int64} {p2 : Int32} : f_X1_mixParts rb re rc p0 p2 = 
  f_X1_mixParts_6 24 rb re rc p2 p0 0 := rfl
set_option maxHeartbeats 4000000 in
set_option maxRecDepth 100000 in
theorem c_X1_mixParts (l : Launch) (dC : Nat → ClassId) (dI : Nat → Nat → Nat) (cB cI cJ cZ : ClassId) (h0 : Nat) (h1 : Nat) (h2 : Nat) (h3 : Nat) (sz : Nat) (rb : Nat → Int64) (re : Nat → Int64) (ro : Nat → Int32) (rc : Int32) (p0 : Int64) (p2 : Int32) (res : Int64) (hf : f_X1_mixParts rb re rc p0 p2 = some res) : Met l yX1_mixParts wsX1_mixParts ({ frames := 4, cells := 0, slots := 0, locals := 90 } : Room) (kPre (dC, dI) (kTy cB cI cJ cZ) [.long p0, .ref h0, .int p2] sz (wRow cJ cZ h0 h1 h2 h3 rb re ro rc)) (kL (dC, dI) (res) (wRow cJ cZ h0 h1 h2 h3 rb re ro rc) (va_A (wRow cJ cZ h0 h1 h2 h3 rb re ro rc) sz)) 0 0 (va_A (wRow cJ cZ h0 h1 h2 h3 rb re ro rc) sz) := by
  refine Met.ofW (cc := cX1_mixParts) (maxL := 7) (ret := (some .long)) (by decide) rfl ?_
  intro p e s m args below meth c s₁ B hml hv
  obtain ⟨rfl, hsz, hP, hK, hD0, hG⟩ := hv
  have hx := B.exec
  have hb := B.bytes
  have hr := B.returns
  have hts := atoms_spec (ws := wsX1_mixParts) B.pre
  have hown : s.vm.findClass RX1 = some m.cls := findClass_of_methodNamed B.named
  have hlocks := B.notSynchronized
  subst hsz
  have hD := hD0.self (sz := s.heap.size)
  generalize hAe : va_A (wRow cJ cZ h0 h1 h2 h3 rb re ro rc) s.heap.size = A at hD ⊢
  have hA : ∀ q : Nat, s.heap.size ≤ q → A q := fun q h => by rw [← hAe]; exact Or.inr h
  have hS : va_S A s.heap s.heap [] := va_S.rf
  clear hAe
  have J6 : ∀ (n : Nat), ∀ (rb : Nat → Int64) (re : Nat → Int64) (ro : Nat → Int32) (rc : Int32) (x3 : Int32) (x4 : Int64) (x6 : Int32) (H : Heap) (locs : List Loc), va_P (dC, dI) vwCl (wRow cJ cZ h0 h1 h2 h3 rb re ro rc) H → va_D A (wRow cJ cZ h0 h1 h2 h3 rb re ro rc) → va_S A s.heap H locs → ∀ (ls : Array Slot), lv_has ls 7 [(2, .ref h0), (3, .int x3), (4, .long x4), (6, .int x6)] → f_X1_mixParts_6 n rb re rc x3 x4 x6 = some res → W p l e (headSpec wsX1_mixParts ({ frames := 4, cells := 0, slots := 0, locals := 90 } : Room)).room s m ([.long p0, .ref h0, .int p2] : List Value).toArray below meth c H locs 0 0 (MQ below (kL (dC, dI) (res) (wRow cJ cZ h0 h1 h2 h3 rb re ro rc) A) ([.long p0, .ref h0, .int p2] : List Value).toArray s 0 0 A) (F0 m 6 ls []) := by
    intro n
    induction n with
    | zero =>
      intro rb re ro rc x3 x4 x6 H locs hP hD hS ls hl h
      have h := f_X1_mixParts_6_0.symm.trans h
      cases h
    | succ n ih =>
      intro rb re ro rc x3 x4 x6 H locs hP hD hS ls hl h
      have h := f_X1_mixParts_6_s.symm.trans h
      refine lv_iload hx hb dX1_mixParts_6 (lv_at hl 3 rfl) ?_
      refine lv_iconst (v := 4) hx hb dX1_mixParts_8 (by decide) ?_
      refine lv_icmp_ge (tgt := 32) hx hb dX1_mixParts_9 (by decide) (fun c1 => ?_) (fun c1 => ?_)
      · have h := g_t c1 h
        refine lv_lload hx hb dX1_mixParts_32 (lv_at hl 2 rfl) ?_
        have h := Option.some.inj h
        subst h
        exact kret_l (v := x4) hx hb hr hlocks hS hP dX1_mixParts_34
      · have h := g_f c1 h
        refine lv_lload hx hb dX1_mixParts_12 (lv_at hl 2 rfl) ?_
        refine lv_aload_n hx hb dX1_mixParts_14 rfl (lv_at hl 0 rfl) ?_
        refine lv_iload_n hx hb dX1_mixParts_15 rfl (lv_at hl 1 rfl) ?_
        refine lv_iload hx hb dX1_mixParts_16 (lv_at hl 3 rfl) ?_
        obtain ⟨r2, g2, h⟩ := g_b h
        refine kcall_i (wRow cJ cZ h0 h1 h2 h3 rb re ro rc) (va_runS (As := [.ref h0, .int x3, .int x6]) (rest := [.long x4]) ⟨hx, hb, hml, hown, hts⟩ (c_X1_partIn l dC dI cB cI cJ cZ h0 h1 h2 h3 _ rb re ro rc x3 x6 r2 g2) (kcwS hts kw_433 kv_X1_partIn rfl rfl ⟨(Nat.le_of_ble_eq_true rfl), (Nat.le_of_ble_eq_true rfl)⟩) (kpS (A := A) (hP.sub (kIT mk_11 0) (km_f (m := mk_11) rfl rfl)) hK (hD.sub (kIT mk_11 0) (km_nd mk_11) (km_T (m := mk_11) rfl rfl)) hG) rfl rfl hl.1 rfl (lv_room (Nat.le_of_ble_eq_true rfl)) dX1_mixParts_18 ⟨(Nat.le_of_ble_eq_true rfl), (Nat.le_of_ble_eq_true rfl)⟩) hP hD hS hA (kIT mk_11 0) (kIT mk_12 0) (km_T (m := mk_11) rfl rfl) (km_T (m := mk_11) rfl rfl) [] (km_T (m := mk_12) rfl rfl) (km_T (m := mk_12) rfl rfl) (km_cov (m := mk_11) (n := mk_12) rfl rfl) (km_dis (m := mk_11) (n := mk_12) rfl) rfl (fun H locs hP hD hS br2 => ?_)
        obtain ⟨r3, g3, h⟩ := g_b h
        refine kcall_l (wRow cJ cZ h0 h1 h2 h3 rb re ro rc) (va_runS (As := [.long x4, .int r2]) (rest := []) ⟨hx, hb, hml, hown, hts⟩ (c_X1_mix l dC dI cB cI cJ cZ  _  x4 r2 r3 g3) (kcwS hts kw_336 kv_X1_mix rfl rfl ⟨(Nat.le_of_ble_eq_true rfl), (Nat.le_of_ble_eq_true rfl)⟩) (kpS (A := A) (kPnil) hK ((kDnil (A := A))) hG) rfl rfl hl.1 rfl (lv_room (Nat.le_of_ble_eq_true rfl)) dX1_mixParts_21 ⟨(Nat.le_of_ble_eq_true rfl), (Nat.le_of_ble_eq_true rfl)⟩) hP hD hS hA (kIT mk_12 0) (kIT mk_11 0) (km_T (m := mk_12) rfl rfl) (km_T (m := mk_12) rfl rfl) [(h0, .inr (2, [.ref h1, .ref h2, .ref h3, .int rc])), (h1, .inl (cJ, 11, .inr (.inl rb))), (h2, .inl (cJ, 11, .inr (.inl re))), (h3, .inl (cZ, 11, .inl ro))] (km_T (m := mk_11) rfl rfl) (km_T (m := mk_11) rfl rfl) (km_cov (m := mk_12) (n := mk_11) rfl rfl) (km_dis (m := mk_12) (n := mk_11) rfl) rfl (fun H locs hP hD hS => ?_)
        refine lv_lstore (lv' := [(4, .long r3), (2, .ref h0), (3, .int x3), (6, .int x6)]) hx hb dX1_mixParts_24 hl (by decide) rfl (fun ls hl => ?_)
        refine lv_iinc (v := x6 + 1) (lv' := [(6, .int (x6 + 1)), (4, .long r3), (2, .ref h0), (3, .int x3)]) hx hb dX1_mixParts_26 hl (k := 3) rfl rfl (by decide) rfl (fun ls hl => ?_)
        refine lv_goto (tgt := 6) hx hb dX1_mixParts_29 (by decide) ?_
        exact ih rb re ro rc x3 r3 (x6 + 1) _ _ hP hD hS ls (lv_sub hl [2, 3, 1, 0] rfl) h
  have hl := lv_entry ([.long p0, .ref h0, .int p2]) (n := 7) (Nat.le_of_ble_eq_true rfl)
  rw [lg_entry_eq]
  generalize (lg_sl ([.long p0, .ref h0, .int p2]) ++ List.replicate (7 - (lg_sl ([.long p0, .ref h0, .int p2])).length) Slot.unset).toArray = ls at hl ⊢
  have hl : lv_has ls 7 [(0, .long p0), (2, .ref h0), (3, .int p2)] := hl
  have h := f_X1_mixParts_e.symm.trans hf
  refine lv_lload_n hx hb dX1_mixParts_0 rfl (lv_at hl 0 rfl) ?_
  refine lv_lstore (lv' := [(4, .long p0), (0, .long p0), (2, .ref h0), (3, .int p2)]) hx hb dX1_mixParts_1 hl (by decide) rfl (fun ls hl => ?_)
  refine lv_iconst (v := 0) hx hb dX1_mixParts_3 (by decide) ?_
  refine lv_istore (lv' := [(6, .int 0), (4, .long p0), (0, .long p0), (2, .ref h0), (3, .int p2)]) hx hb dX1_mixParts_4 hl (by decide) rfl (fun ls hl => ?_)
  exact J6 24 rb re ro rc p2 p0 0 _ _ hP hD hS ls (lv_sub hl [3, 4, 1, 0] rfl) h
abbrev wsX1_mixCells : List Cond := kWs yX1_mixCells cX1_mixCells 6 (some .long)
def f_X1_mixCells_5 : Nat → (Nat → Int64) → (Nat → Int64) → (Nat → Int64) → (Int32) → (Nat → Int64) → (Nat → Int64) → (Int32) → (Int64) → (Int32) → Option (Int64)
  | 0, _, _, _, _, _, _, _, _, _ => none
  | n + 1, ce, sb, se, sc, fb, fe, fc, x3, x5 =>
    if 4 ≤ x5 then
      some x3
    else
      if ix x5 4 then
        (f_X1_secondOf (ce x5.toNatClampNeg)).bind fun r3 =>
        (f_X1_mix x3 r3).bind fun r4 =>
        (f_X1_nanoOf (ce x5.toNatClampNeg)).bind fun r5 =>
        (f_X1_mix r4 r5).bind fun r6 =>
        (f_X0_firstWith sb se sc (ce x5.toNatClampNeg)).bind fun r7 =>
        (f_X1_mix r6 r7).bind fun r8 =>
        (f_X0_firstWith fb fe fc (ce x5.toNatClampNeg)).bind fun r9 =>
        (f_X1_mix r8 r9).bind fun r10 =>
        f_X1_mixCells_5 n ce sb se sc fb fe fc r10 (x5 + 1)
      else none
theorem f_X1_mixCells_5_0 {ce : Nat → Int64} {sb : Nat → Int64} {se : Nat → Int64} {sc : Int32} {fb : Nat → Int64} {fe : Nat → Int64} {fc : Int32} {x3 : Int64} {x5 : Int32} : f_X1_mixCells_5 0 ce sb se sc fb fe fc x3 x5 = none := rfl
theorem f_X1_mixCells_5_s {n : Nat} {ce : Nat → Int64} {sb : Nat → Int64} {se : Nat → Int64} {sc : Int32} {fb : Nat → Int64} {fe : Nat → Int64} {fc : Int32} {x3 : Int64} {x5 : Int32} : f_X1_mixCells_5 (n + 1) ce sb se sc fb fe fc x3 x5 =
  if 4 ≤ x5 then
    some x3
  else
    if ix x5 4 then
      (f_X1_secondOf (ce x5.toNatClampNeg)).bind fun r3 =>
      (f_X1_mix x3 r3).bind fun r4 =>
      (f_X1_nanoOf (ce x5.toNatClampNeg)).bind fun r5 =>
      (f_X1_mix r4 r5).bind fun r6 =>
      (f_X0_firstWith sb se sc (ce x5.toNatClampNeg)).bind fun r7 =>
      (f_X1_mix r6 r7).bind fun r8 =>
      (f_X0_firstWith fb fe fc (ce x5.toNatClampNeg)).bind fun r9 =>
      (f_X1_mix r8 r9).bind fun r10 =>
      f_X1_mixCells_5 n ce sb se sc fb fe fc r10 (x5 + 1)
    else none := rfl
def f_X1_mixCells (ce : Nat → Int64) (sb : Nat → Int64) (se : Nat → Int64) (sc : Int32) (fb : Nat → Int64) (fe : Nat → Int64) (fc : Int32) (p0 : Int64) : Option (Int64) :=
  f_X1_mixCells_5 24 ce sb se sc fb fe fc p0 0
theorem f_X1_mixCells_e {ce : Nat → Int64} {sb : Nat → Int64} {se : Nat → Int64} {sc : Int32} {fb : Nat → Int64} {fe : Nat → Int64} {fc : Int32} {p0 : Int64} : f_X1_mixCells ce sb se sc fb fe fc p0 = 
  f_X1_mixCells_5 24 ce sb se sc fb fe fc p0 0 := rfl
set_option maxHeartbeats 4000000 in
set_option maxRecDepth 100000 in
theorem c_X1_mixCells (l : Launch) (dC : Nat → ClassId) (dI : Nat → Nat → Nat) (cB cI cJ cZ : ClassId) (a : Nat → Nat) (sz : Nat) (ce : Nat → Int64) (fr : Int64) (un : Int64) (sb : Nat → Int64) (se : Nat → Int64) (so : Nat → Int32) (sc : Int32) (wb : Nat → Int64) (we : Nat → Int64) (wo : Nat → Int32) (wc : Int32) (fb : Nat → Int64) (fe : Nat → Int64) (fo : Nat → Int32) (fc : Int32) (rm : Nat → Int32) (ac : Int32) (rf : Int32) (kn : Int32) (p0 : Int64) (res : Int64) (hf : f_X1_mixCells ce sb se sc fb fe fc p0 = some res) : Met l yX1_mixCells wsX1_mixCells ({ frames := 2, cells := 0, slots := 0, locals := 48 } : Room) (kPre (dC, dI) (kTy cB cI cJ cZ) [.ref (a 0), .long p0] sz (wSB cI cJ cZ a ce fr un sb se so sc wb we wo wc fb fe fo fc rm ac rf kn)) (kL (dC, dI) (res) (wSB cI cJ cZ a ce fr un sb se so sc wb we wo wc fb fe fo fc rm ac rf kn) (va_A (wSB cI cJ cZ a ce fr un sb se so sc wb we wo wc fb fe fo fc rm ac rf kn) sz)) 0 0 (va_A (wSB cI cJ cZ a ce fr un sb se so sc wb we wo wc fb fe fo fc rm ac rf kn) sz) := by
  refine Met.ofW (cc := cX1_mixCells) (maxL := 6) (ret := (some .long)) (by decide) rfl ?_
  intro p e s m args below meth c s₁ B hml hv
  obtain ⟨rfl, hsz, hP, hK, hD0, hG⟩ := hv
  have hx := B.exec
  have hb := B.bytes
  have hr := B.returns
  have hts := atoms_spec (ws := wsX1_mixCells) B.pre
  have hown : s.vm.findClass RX1 = some m.cls := findClass_of_methodNamed B.named
  have hlocks := B.notSynchronized
  subst hsz
  have hD := hD0.self (sz := s.heap.size)
  generalize hAe : va_A (wSB cI cJ cZ a ce fr un sb se so sc wb we wo wc fb fe fo fc rm ac rf kn) s.heap.size = A at hD ⊢
  have hA : ∀ q : Nat, s.heap.size ≤ q → A q := fun q h => by rw [← hAe]; exact Or.inr h
  have hS : va_S A s.heap s.heap [] := va_S.rf
  clear hAe
  have hw0 := hts (.fieldLink RX1 9 "Spanbooker" "cells" "[J") (List.mem_cons_of_mem _ kw_107)
  have hw1 := hts (.fieldLink RX1 25 "Spanbooker" "spanRow" "LSpanbooker$Row;") (List.mem_cons_of_mem _ kw_110)
  have hw2 := hts (.fieldLink RX1 32 "Spanbooker" "freeRow" "LSpanbooker$Row;") (List.mem_cons_of_mem _ kw_112)
  have hiX1 : ∀ w ∈ u_ws RX1 TX1 10, w ∈ wsX1_mixCells := fun w h => List.mem_cons_of_mem _ (ku_X1 w h)
  have J5 : ∀ (n : Nat), ∀ (ce : Nat → Int64) (fr : Int64) (un : Int64) (sb : Nat → Int64) (se : Nat → Int64) (so : Nat → Int32) (sc : Int32) (wb : Nat → Int64) (we : Nat → Int64) (wo : Nat → Int32) (wc : Int32) (fb : Nat → Int64) (fe : Nat → Int64) (fo : Nat → Int32) (fc : Int32) (rm : Nat → Int32) (ac : Int32) (rf : Int32) (kn : Int32) (x3 : Int64) (x5 : Int32) (H : Heap) (locs : List Loc), va_P (dC, dI) vwCl (wSB cI cJ cZ a ce fr un sb se so sc wb we wo wc fb fe fo fc rm ac rf kn) H → va_D A (wSB cI cJ cZ a ce fr un sb se so sc wb we wo wc fb fe fo fc rm ac rf kn) → va_S A s.heap H locs → ∀ (ls : Array Slot), lv_has ls 6 [(0, .ref (a 0)), (3, .long x3), (5, .int x5)] → f_X1_mixCells_5 n ce sb se sc fb fe fc x3 x5 = some res → W p l e (headSpec wsX1_mixCells ({ frames := 2, cells := 0, slots := 0, locals := 48 } : Room)).room s m ([.ref (a 0), .long p0] : List Value).toArray below meth c H locs 0 0 (MQ below (kL (dC, dI) (res) (wSB cI cJ cZ a ce fr un sb se so sc wb we wo wc fb fe fo fc rm ac rf kn) A) ([.ref (a 0), .long p0] : List Value).toArray s 0 0 A) (F0 m 5 ls []) := by
    intro n
    induction n with
    | zero =>
      intro ce fr un sb se so sc wb we wo wc fb fe fo fc rm ac rf kn x3 x5 H locs hP hD hS ls hl h
      have h := f_X1_mixCells_5_0.symm.trans h
      cases h
    | succ n ih =>
      intro ce fr un sb se so sc wb we wo wc fb fe fo fc rm ac rf kn x3 x5 H locs hP hD hS ls hl h
      have h := f_X1_mixCells_5_s.symm.trans h
      refine lv_iload hx hb dX1_mixCells_5 (lv_at hl 2 rfl) ?_
      refine lv_iconst (v := 4) hx hb dX1_mixCells_7 (by decide) ?_
      refine lv_icmp_ge (tgt := 85) hx hb dX1_mixCells_8 (by decide) (fun c1 => ?_) (fun c1 => ?_)
      · have h := g_t c1 h
        refine lv_lload_n hx hb dX1_mixCells_85 rfl (lv_at hl 1 rfl) ?_
        have h := Option.some.inj h
        subst h
        exact kret_l (v := x3) hx hb hr hlocks hS hP dX1_mixCells_86
      · have h := g_f c1 h
        refine lv_lload_n hx hb dX1_mixCells_11 rfl (lv_at hl 1 rfl) ?_
        refine lv_aload_n hx hb dX1_mixCells_12 rfl (lv_at hl 0 rfl) ?_
        refine va_get (D := (dC, dI)) (ci := 3) (v := .ref (a 1)) (C := RX1) (T := TX1) (N := 10) hx hb hts hiX1 hown hK hP 0 rfl rfl 0 (by decide) hw0 (fun _ h9 => h9) rfl dX1_mixCells_13 ?_
        refine lv_iload hx hb dX1_mixCells_16 (lv_at hl 2 rfl) ?_
        obtain ⟨z1, h⟩ := g_if h
        refine va_lald hx hb hK hP 1 2 rfl rfl (ix_in z1) dX1_mixCells_18 ?_
        obtain ⟨r3, g3, h⟩ := g_b h
        refine kcall_i (wSB cI cJ cZ a ce fr un sb se so sc wb we wo wc fb fe fo fc rm ac rf kn) (va_runS (As := [.long (ce x5.toNatClampNeg)]) (rest := [.long x3]) ⟨hx, hb, hml, hown, hts⟩ (c_X1_secondOf l dC dI cB cI cJ cZ  _  (ce x5.toNatClampNeg) r3 g3) (kcwS hts kw_329 kv_X1_secondOf rfl rfl ⟨(Nat.le_of_ble_eq_true rfl), (Nat.le_of_ble_eq_true rfl)⟩) (kpS (A := A) (kPnil) hK ((kDnil (A := A))) hG) rfl rfl hl.1 rfl (lv_room (Nat.le_of_ble_eq_true rfl)) dX1_mixCells_19 ⟨(Nat.le_of_ble_eq_true rfl), (Nat.le_of_ble_eq_true rfl)⟩) hP hD hS hA (kIT mk_13 0) (kIT mk_14 0) (km_T (m := mk_13) rfl rfl) (km_T (m := mk_13) rfl rfl) [((a 0), .inr (3, [.ref (a 1), .long fr, .long un, .ref (a 2), .ref (a 6), .ref (a 10), .ref (a 14), .int ac, .int rf, .int kn])), ((a 1), .inl (cJ, 4, .inr (.inl ce))), ((a 2), .inr (2, [.ref (a 3), .ref (a 4), .ref (a 5), .int sc])), ((a 3), .inl (cJ, 11, .inr (.inl sb))), ((a 4), .inl (cJ, 11, .inr (.inl se))), ((a 5), .inl (cZ, 11, .inl so)), ((a 6), .inr (2, [.ref (a 7), .ref (a 8), .ref (a 9), .int wc])), ((a 7), .inl (cJ, 11, .inr (.inl wb))), ((a 8), .inl (cJ, 11, .inr (.inl we))), ((a 9), .inl (cZ, 11, .inl wo)), ((a 10), .inr (2, [.ref (a 11), .ref (a 12), .ref (a 13), .int fc])), ((a 11), .inl (cJ, 11, .inr (.inl fb))), ((a 12), .inl (cJ, 11, .inr (.inl fe))), ((a 13), .inl (cZ, 11, .inl fo)), ((a 14), .inl (cI, 11, .inl rm))] (km_T (m := mk_14) rfl rfl) (km_T (m := mk_14) rfl rfl) (km_cov (m := mk_13) (n := mk_14) rfl rfl) (km_dis (m := mk_13) (n := mk_14) rfl) rfl (fun H locs hP hD hS br3 => ?_)
        obtain ⟨r4, g4, h⟩ := g_b h
        refine kcall_l (wSB cI cJ cZ a ce fr un sb se so sc wb we wo wc fb fe fo fc rm ac rf kn) (va_runS (As := [.long x3, .int r3]) (rest := []) ⟨hx, hb, hml, hown, hts⟩ (c_X1_mix l dC dI cB cI cJ cZ  _  x3 r3 r4 g4) (kcwS hts kw_336 kv_X1_mix rfl rfl ⟨(Nat.le_of_ble_eq_true rfl), (Nat.le_of_ble_eq_true rfl)⟩) (kpS (A := A) (kPnil) hK ((kDnil (A := A))) hG) rfl rfl hl.1 rfl (lv_room (Nat.le_of_ble_eq_true rfl)) dX1_mixCells_22 ⟨(Nat.le_of_ble_eq_true rfl), (Nat.le_of_ble_eq_true rfl)⟩) hP hD hS hA (kIT mk_13 0) (kIT mk_14 0) (km_T (m := mk_13) rfl rfl) (km_T (m := mk_13) rfl rfl) [((a 0), .inr (3, [.ref (a 1), .long fr, .long un, .ref (a 2), .ref (a 6), .ref (a 10), .ref (a 14), .int ac, .int rf, .int kn])), ((a 1), .inl (cJ, 4, .inr (.inl ce))), ((a 2), .inr (2, [.ref (a 3), .ref (a 4), .ref (a 5), .int sc])), ((a 3), .inl (cJ, 11, .inr (.inl sb))), ((a 4), .inl (cJ, 11, .inr (.inl se))), ((a 5), .inl (cZ, 11, .inl so)), ((a 6), .inr (2, [.ref (a 7), .ref (a 8), .ref (a 9), .int wc])), ((a 7), .inl (cJ, 11, .inr (.inl wb))), ((a 8), .inl (cJ, 11, .inr (.inl we))), ((a 9), .inl (cZ, 11, .inl wo)), ((a 10), .inr (2, [.ref (a 11), .ref (a 12), .ref (a 13), .int fc])), ((a 11), .inl (cJ, 11, .inr (.inl fb))), ((a 12), .inl (cJ, 11, .inr (.inl fe))), ((a 13), .inl (cZ, 11, .inl fo)), ((a 14), .inl (cI, 11, .inl rm))] (km_T (m := mk_14) rfl rfl) (km_T (m := mk_14) rfl rfl) (km_cov (m := mk_13) (n := mk_14) rfl rfl) (km_dis (m := mk_13) (n := mk_14) rfl) rfl (fun H locs hP hD hS => ?_)
        refine lv_lstore_n (lv' := [(3, .long r4), (0, .ref (a 0)), (5, .int x5)]) hx hb dX1_mixCells_25 rfl hl (by decide) rfl (fun ls hl => ?_)
        refine lv_lload_n hx hb dX1_mixCells_26 rfl (lv_at hl 0 rfl) ?_
        refine lv_aload_n hx hb dX1_mixCells_27 rfl (lv_at hl 1 rfl) ?_
        refine va_get (D := (dC, dI)) (ci := 3) (v := .ref (a 1)) (C := RX1) (T := TX1) (N := 10) hx hb hts hiX1 hown hK hP 0 rfl rfl 0 (by decide) hw0 (fun _ h9 => h9) rfl dX1_mixCells_28 ?_
        refine lv_iload hx hb dX1_mixCells_31 (lv_at hl 2 rfl) ?_
        refine va_lald hx hb hK hP 1 2 rfl rfl (ix_in z1) dX1_mixCells_33 ?_
        obtain ⟨r5, g5, h⟩ := g_b h
        refine kcall_i (wSB cI cJ cZ a ce fr un sb se so sc wb we wo wc fb fe fo fc rm ac rf kn) (va_runS (As := [.long (ce x5.toNatClampNeg)]) (rest := [.long r4]) ⟨hx, hb, hml, hown, hts⟩ (c_X1_nanoOf l dC dI cB cI cJ cZ  _  (ce x5.toNatClampNeg) r5 g5) (kcwS hts kw_340 kv_X1_nanoOf rfl rfl ⟨(Nat.le_of_ble_eq_true rfl), (Nat.le_of_ble_eq_true rfl)⟩) (kpS (A := A) (kPnil) hK ((kDnil (A := A))) hG) rfl rfl hl.1 rfl (lv_room (Nat.le_of_ble_eq_true rfl)) dX1_mixCells_34 ⟨(Nat.le_of_ble_eq_true rfl), (Nat.le_of_ble_eq_true rfl)⟩) hP hD hS hA (kIT mk_13 0) (kIT mk_14 0) (km_T (m := mk_13) rfl rfl) (km_T (m := mk_13) rfl rfl) [((a 0), .inr (3, [.ref (a 1), .long fr, .long un, .ref (a 2), .ref (a 6), .ref (a 10), .ref (a 14), .int ac, .int rf, .int kn])), ((a 1), .inl (cJ, 4, .inr (.inl ce))), ((a 2), .inr (2, [.ref (a 3), .ref (a 4), .ref (a 5), .int sc])), ((a 3), .inl (cJ, 11, .inr (.inl sb))), ((a 4), .inl (cJ, 11, .inr (.inl se))), ((a 5), .inl (cZ, 11, .inl so)), ((a 6), .inr (2, [.ref (a 7), .ref (a 8), .ref (a 9), .int wc])), ((a 7), .inl (cJ, 11, .inr (.inl wb))), ((a 8), .inl (cJ, 11, .inr (.inl we))), ((a 9), .inl (cZ, 11, .inl wo)), ((a 10), .inr (2, [.ref (a 11), .ref (a 12), .ref (a 13), .int fc])), ((a 11), .inl (cJ, 11, .inr (.inl fb))), ((a 12), .inl (cJ, 11, .inr (.inl fe))), ((a 13), .inl (cZ, 11, .inl fo)), ((a 14), .inl (cI, 11, .inl rm))] (km_T (m := mk_14) rfl rfl) (km_T (m := mk_14) rfl rfl) (km_cov (m := mk_13) (n := mk_14) rfl rfl) (km_dis (m := mk_13) (n := mk_14) rfl) rfl (fun H locs hP hD hS br5 => ?_)
        obtain ⟨r6, g6, h⟩ := g_b h
        refine kcall_l (wSB cI cJ cZ a ce fr un sb se so sc wb we wo wc fb fe fo fc rm ac rf kn) (va_runS (As := [.long r4, .int r5]) (rest := []) ⟨hx, hb, hml, hown, hts⟩ (c_X1_mix l dC dI cB cI cJ cZ  _  r4 r5 r6 g6) (kcwS hts kw_336 kv_X1_mix rfl rfl ⟨(Nat.le_of_ble_eq_true rfl), (Nat.le_of_ble_eq_true rfl)⟩) (kpS (A := A) (kPnil) hK ((kDnil (A := A))) hG) rfl rfl hl.1 rfl (lv_room (Nat.le_of_ble_eq_true rfl)) dX1_mixCells_37 ⟨(Nat.le_of_ble_eq_true rfl), (Nat.le_of_ble_eq_true rfl)⟩) hP hD hS hA (kIT mk_13 0) (kIT mk_14 0) (km_T (m := mk_13) rfl rfl) (km_T (m := mk_13) rfl rfl) [((a 0), .inr (3, [.ref (a 1), .long fr, .long un, .ref (a 2), .ref (a 6), .ref (a 10), .ref (a 14), .int ac, .int rf, .int kn])), ((a 1), .inl (cJ, 4, .inr (.inl ce))), ((a 2), .inr (2, [.ref (a 3), .ref (a 4), .ref (a 5), .int sc])), ((a 3), .inl (cJ, 11, .inr (.inl sb))), ((a 4), .inl (cJ, 11, .inr (.inl se))), ((a 5), .inl (cZ, 11, .inl so)), ((a 6), .inr (2, [.ref (a 7), .ref (a 8), .ref (a 9), .int wc])), ((a 7), .inl (cJ, 11, .inr (.inl wb))), ((a 8), .inl (cJ, 11, .inr (.inl we))), ((a 9), .inl (cZ, 11, .inl wo)), ((a 10), .inr (2, [.ref (a 11), .ref (a 12), .ref (a 13), .int fc])), ((a 11), .inl (cJ, 11, .inr (.inl fb))), ((a 12), .inl (cJ, 11, .inr (.inl fe))), ((a 13), .inl (cZ, 11, .inl fo)), ((a 14), .inl (cI, 11, .inl rm))] (km_T (m := mk_14) rfl rfl) (km_T (m := mk_14) rfl rfl) (km_cov (m := mk_13) (n := mk_14) rfl rfl) (km_dis (m := mk_13) (n := mk_14) rfl) rfl (fun H locs hP hD hS => ?_)
        refine lv_lstore_n (lv' := [(3, .long r6), (0, .ref (a 0)), (5, .int x5)]) hx hb dX1_mixCells_40 rfl hl (by decide) rfl (fun ls hl => ?_)
        refine lv_lload_n hx hb dX1_mixCells_41 rfl (lv_at hl 0 rfl) ?_
        refine lv_aload_n hx hb dX1_mixCells_42 rfl (lv_at hl 1 rfl) ?_
        refine va_get (D := (dC, dI)) (ci := 3) (v := .ref (a 2)) (C := RX1) (T := TX1) (N := 10) hx hb hts hiX1 hown hK hP 0 rfl rfl 3 (by decide) hw1 (fun _ h9 => h9) rfl dX1_mixCells_43 ?_
        refine lv_aload_n hx hb dX1_mixCells_46 rfl (lv_at hl 1 rfl) ?_
        refine va_get (D := (dC, dI)) (ci := 3) (v := .ref (a 1)) (C := RX1) (T := TX1) (N := 10) hx hb hts hiX1 hown hK hP 0 rfl rfl 0 (by decide) hw0 (fun _ h9 => h9) rfl dX1_mixCells_47 ?_
        refine lv_iload hx hb dX1_mixCells_50 (lv_at hl 2 rfl) ?_
        refine va_lald hx hb hK hP 1 2 rfl rfl (ix_in z1) dX1_mixCells_52 ?_
        obtain ⟨r7, g7, h⟩ := g_b h
        refine kcall_i (wSB cI cJ cZ a ce fr un sb se so sc wb we wo wc fb fe fo fc rm ac rf kn) (va_runV (As := [.long (ce x5.toNatClampNeg)]) (rest := [.long r6]) ⟨hx, hb, hml, hown, hts⟩ (c_X0_firstWith l dC dI cB cI cJ cZ (a 2) (a 3) (a 4) (a 5) _ sb se so sc (ce x5.toNatClampNeg) r7 g7) (kcwV hts kw_206 kv_X0_firstWith rfl rfl ⟨(Nat.le_of_ble_eq_true rfl), (Nat.le_of_ble_eq_true rfl)⟩) (kpV (A := A) (hP.sub (kIT mk_15 0) (km_f (m := mk_15) rfl rfl)) hK (hD.sub (kIT mk_15 0) (km_nd mk_15) (km_T (m := mk_15) rfl rfl)) hG (va_recv hK hP (ci := 2) (q0 := 2) rfl rfl)) rfl rfl hl.1 rfl (lv_room (Nat.le_of_ble_eq_true rfl)) dX1_mixCells_53 ⟨(Nat.le_of_ble_eq_true rfl), (Nat.le_of_ble_eq_true rfl)⟩) hP hD hS hA (kIT mk_15 0) (kIT mk_16 0) (km_T (m := mk_15) rfl rfl) (km_T (m := mk_15) rfl rfl) [((a 0), .inr (3, [.ref (a 1), .long fr, .long un, .ref (a 2), .ref (a 6), .ref (a 10), .ref (a 14), .int ac, .int rf, .int kn])), ((a 1), .inl (cJ, 4, .inr (.inl ce))), ((a 6), .inr (2, [.ref (a 7), .ref (a 8), .ref (a 9), .int wc])), ((a 7), .inl (cJ, 11, .inr (.inl wb))), ((a 8), .inl (cJ, 11, .inr (.inl we))), ((a 9), .inl (cZ, 11, .inl wo)), ((a 10), .inr (2, [.ref (a 11), .ref (a 12), .ref (a 13), .int fc])), ((a 11), .inl (cJ, 11, .inr (.inl fb))), ((a 12), .inl (cJ, 11, .inr (.inl fe))), ((a 13), .inl (cZ, 11, .inl fo)), ((a 14), .inl (cI, 11, .inl rm))] (km_T (m := mk_16) rfl rfl) (km_T (m := mk_16) rfl rfl) (km_cov (m := mk_15) (n := mk_16) rfl rfl) (km_dis (m := mk_15) (n := mk_16) rfl) rfl (fun H locs hP hD hS br7 => ?_)
        obtain ⟨r8, g8, h⟩ := g_b h
        refine kcall_l (wSB cI cJ cZ a ce fr un sb se so sc wb we wo wc fb fe fo fc rm ac rf kn) (va_runS (As := [.long r6, .int r7]) (rest := []) ⟨hx, hb, hml, hown, hts⟩ (c_X1_mix l dC dI cB cI cJ cZ  _  r6 r7 r8 g8) (kcwS hts kw_336 kv_X1_mix rfl rfl ⟨(Nat.le_of_ble_eq_true rfl), (Nat.le_of_ble_eq_true rfl)⟩) (kpS (A := A) (kPnil) hK ((kDnil (A := A))) hG) rfl rfl hl.1 rfl (lv_room (Nat.le_of_ble_eq_true rfl)) dX1_mixCells_56 ⟨(Nat.le_of_ble_eq_true rfl), (Nat.le_of_ble_eq_true rfl)⟩) hP hD hS hA (kIT mk_13 0) (kIT mk_14 0) (km_T (m := mk_13) rfl rfl) (km_T (m := mk_13) rfl rfl) [((a 0), .inr (3, [.ref (a 1), .long fr, .long un, .ref (a 2), .ref (a 6), .ref (a 10), .ref (a 14), .int ac, .int rf, .int kn])), ((a 1), .inl (cJ, 4, .inr (.inl ce))), ((a 2), .inr (2, [.ref (a 3), .ref (a 4), .ref (a 5), .int sc])), ((a 3), .inl (cJ, 11, .inr (.inl sb))), ((a 4), .inl (cJ, 11, .inr (.inl se))), ((a 5), .inl (cZ, 11, .inl so)), ((a 6), .inr (2, [.ref (a 7), .ref (a 8), .ref (a 9), .int wc])), ((a 7), .inl (cJ, 11, .inr (.inl wb))), ((a 8), .inl (cJ, 11, .inr (.inl we))), ((a 9), .inl (cZ, 11, .inl wo)), ((a 10), .inr (2, [.ref (a 11), .ref (a 12), .ref (a 13), .int fc])), ((a 11), .inl (cJ, 11, .inr (.inl fb))), ((a 12), .inl (cJ, 11, .inr (.inl fe))), ((a 13), .inl (cZ, 11, .inl fo)), ((a 14), .inl (cI, 11, .inl rm))] (km_T (m := mk_14) rfl rfl) (km_T (m := mk_14) rfl rfl) (km_cov (m := mk_13) (n := mk_14) rfl rfl) (km_dis (m := mk_13) (n := mk_14) rfl) rfl (fun H locs hP hD hS => ?_)
        refine lv_lstore_n (lv' := [(3, .long r8), (0, .ref (a 0)), (5, .int x5)]) hx hb dX1_mixCells_59 rfl hl (by decide) rfl (fun ls hl => ?_)
        refine lv_lload_n hx hb dX1_mixCells_60 rfl (lv_at hl 0 rfl) ?_
        refine lv_aload_n hx hb dX1_mixCells_61 rfl (lv_at hl 1 rfl) ?_
        refine va_get (D := (dC, dI)) (ci := 3) (v := .ref (a 10)) (C := RX1) (T := TX1) (N := 10) hx hb hts hiX1 hown hK hP 0 rfl rfl 5 (by decide) hw2 (fun _ h9 => h9) rfl dX1_mixCells_62 ?_
        refine lv_aload_n hx hb dX1_mixCells_65 rfl (lv_at hl 1 rfl) ?_
        refine va_get (D := (dC, dI)) (ci := 3) (v := .ref (a 1)) (C := RX1) (T := TX1) (N := 10) hx hb hts hiX1 hown hK hP 0 rfl rfl 0 (by decide) hw0 (fun _ h9 => h9) rfl dX1_mixCells_66 ?_
        refine lv_iload hx hb dX1_mixCells_69 (lv_at hl 2 rfl) ?_
        refine va_lald hx hb hK hP 1 2 rfl rfl (ix_in z1) dX1_mixCells_71 ?_
        obtain ⟨r9, g9, h⟩ := g_b h
        refine kcall_i (wSB cI cJ cZ a ce fr un sb se so sc wb we wo wc fb fe fo fc rm ac rf kn) (va_runV (As := [.long (ce x5.toNatClampNeg)]) (rest := [.long r8]) ⟨hx, hb, hml, hown, hts⟩ (c_X0_firstWith l dC dI cB cI cJ cZ (a 10) (a 11) (a 12) (a 13) _ fb fe fo fc (ce x5.toNatClampNeg) r9 g9) (kcwV hts kw_206 kv_X0_firstWith rfl rfl ⟨(Nat.le_of_ble_eq_true rfl), (Nat.le_of_ble_eq_true rfl)⟩) (kpV (A := A) (hP.sub (kIT mk_19 0) (km_f (m := mk_19) rfl rfl)) hK (hD.sub (kIT mk_19 0) (km_nd mk_19) (km_T (m := mk_19) rfl rfl)) hG (va_recv hK hP (ci := 2) (q0 := 10) rfl rfl)) rfl rfl hl.1 rfl (lv_room (Nat.le_of_ble_eq_true rfl)) dX1_mixCells_72 ⟨(Nat.le_of_ble_eq_true rfl), (Nat.le_of_ble_eq_true rfl)⟩) hP hD hS hA (kIT mk_19 0) (kIT mk_20 0) (km_T (m := mk_19) rfl rfl) (km_T (m := mk_19) rfl rfl) [((a 0), .inr (3, [.ref (a 1), .long fr, .long un, .ref (a 2), .ref (a 6), .ref (a 10), .ref (a 14), .int ac, .int rf, .int kn])), ((a 1), .inl (cJ, 4, .inr (.inl ce))), ((a 2), .inr (2, [.ref (a 3), .ref (a 4), .ref (a 5), .int sc])), ((a 3), .inl (cJ, 11, .inr (.inl sb))), ((a 4), .inl (cJ, 11, .inr (.inl se))), ((a 5), .inl (cZ, 11, .inl so)), ((a 6), .inr (2, [.ref (a 7), .ref (a 8), .ref (a 9), .int wc])), ((a 7), .inl (cJ, 11, .inr (.inl wb))), ((a 8), .inl (cJ, 11, .inr (.inl we))), ((a 9), .inl (cZ, 11, .inl wo)), ((a 14), .inl (cI, 11, .inl rm))] (km_T (m := mk_20) rfl rfl) (km_T (m := mk_20) rfl rfl) (km_cov (m := mk_19) (n := mk_20) rfl rfl) (km_dis (m := mk_19) (n := mk_20) rfl) rfl (fun H locs hP hD hS br9 => ?_)
        obtain ⟨r10, g10, h⟩ := g_b h
        refine kcall_l (wSB cI cJ cZ a ce fr un sb se so sc wb we wo wc fb fe fo fc rm ac rf kn) (va_runS (As := [.long r8, .int r9]) (rest := []) ⟨hx, hb, hml, hown, hts⟩ (c_X1_mix l dC dI cB cI cJ cZ  _  r8 r9 r10 g10) (kcwS hts kw_336 kv_X1_mix rfl rfl ⟨(Nat.le_of_ble_eq_true rfl), (Nat.le_of_ble_eq_true rfl)⟩) (kpS (A := A) (kPnil) hK ((kDnil (A := A))) hG) rfl rfl hl.1 rfl (lv_room (Nat.le_of_ble_eq_true rfl)) dX1_mixCells_75 ⟨(Nat.le_of_ble_eq_true rfl), (Nat.le_of_ble_eq_true rfl)⟩) hP hD hS hA (kIT mk_13 0) (kIT mk_14 0) (km_T (m := mk_13) rfl rfl) (km_T (m := mk_13) rfl rfl) [((a 0), .inr (3, [.ref (a 1), .long fr, .long un, .ref (a 2), .ref (a 6), .ref (a 10), .ref (a 14), .int ac, .int rf, .int kn])), ((a 1), .inl (cJ, 4, .inr (.inl ce))), ((a 2), .inr (2, [.ref (a 3), .ref (a 4), .ref (a 5), .int sc])), ((a 3), .inl (cJ, 11, .inr (.inl sb))), ((a 4), .inl (cJ, 11, .inr (.inl se))), ((a 5), .inl (cZ, 11, .inl so)), ((a 6), .inr (2, [.ref (a 7), .ref (a 8), .ref (a 9), .int wc])), ((a 7), .inl (cJ, 11, .inr (.inl wb))), ((a 8), .inl (cJ, 11, .inr (.inl we))), ((a 9), .inl (cZ, 11, .inl wo)), ((a 10), .inr (2, [.ref (a 11), .ref (a 12), .ref (a 13), .int fc])), ((a 11), .inl (cJ, 11, .inr (.inl fb))), ((a 12), .inl (cJ, 11, .inr (.inl fe))), ((a 13), .inl (cZ, 11, .inl fo)), ((a 14), .inl (cI, 11, .inl rm))] (km_T (m := mk_14) rfl rfl) (km_T (m := mk_14) rfl rfl) (km_cov (m := mk_13) (n := mk_14) rfl rfl) (km_dis (m := mk_13) (n := mk_14) rfl) rfl (fun H locs hP hD hS => ?_)
        refine lv_lstore_n (lv' := [(3, .long r10), (0, .ref (a 0)), (5, .int x5)]) hx hb dX1_mixCells_78 rfl hl (by decide) rfl (fun ls hl => ?_)
        refine lv_iinc (v := x5 + 1) (lv' := [(5, .int (x5 + 1)), (3, .long r10), (0, .ref (a 0))]) hx hb dX1_mixCells_79 hl (k := 2) rfl rfl (by decide) rfl (fun ls hl => ?_)
        refine lv_goto (tgt := 5) hx hb dX1_mixCells_82 (by decide) ?_
        exact ih ce fr un sb se so sc wb we wo wc fb fe fo fc rm ac rf kn r10 (x5 + 1) _ _ hP hD hS ls (lv_sub hl [2, 1, 0] rfl) h
  have hl := lv_entry ([.ref (a 0), .long p0]) (n := 6) (Nat.le_of_ble_eq_true rfl)
  rw [lg_entry_eq]
  generalize (lg_sl ([.ref (a 0), .long p0]) ++ List.replicate (6 - (lg_sl ([.ref (a 0), .long p0])).length) Slot.unset).toArray = ls at hl ⊢
  have hl : lv_has ls 6 [(0, .ref (a 0)), (1, .long p0)] := hl
  have h := f_X1_mixCells_e.symm.trans hf
  refine lv_lload_n hx hb dX1_mixCells_0 rfl (lv_at hl 1 rfl) ?_
  refine lv_lstore_n (lv' := [(3, .long p0), (0, .ref (a 0)), (1, .long p0)]) hx hb dX1_mixCells_1 rfl hl (by decide) rfl (fun ls hl => ?_)
  refine lv_iconst (v := 0) hx hb dX1_mixCells_2 (by decide) ?_
  refine lv_istore (lv' := [(5, .int 0), (3, .long p0), (0, .ref (a 0)), (1, .long p0)]) hx hb dX1_mixCells_3 hl (by decide) rfl (fun ls hl => ?_)
  exact J5 24 ce fr un sb se so sc wb we wo wc fb fe fo fc rm ac rf kn p0 0 _ _ hP hD hS ls (lv_sub hl [2, 1, 0] rfl) h
abbrev wsX1_mixSpans : List Cond := kWs yX1_mixSpans cX1_mixSpans 6 (some .long)
def f_X1_mixSpans_84 (K43 : (Nat → Int64) → (Nat → Int64) → (Nat → Int32) → (Int32) → (Int64) → (Int32) → Option (Int64)) (sb : Nat → Int64) (se : Nat → Int64) (so : Nat → Int32) (sc : Int32) (x5 : Int32) (y0 : Int32) (y1 : Int64) : Option (Int64) :=
  (f_X1_mix y1 y0).bind fun r1 =>
  K43 sb se so sc r1 (x5 + 1)
theorem f_X1_mixSpans_84_e {K43 : (Nat → Int64) → (Nat → Int64) → (Nat → Int32) → (Int32) → (Int64) → (Int32) → Option (Int64)} {sb : Nat → Int64} {se : Nat → Int64} {so : Nat → Int32} {sc : Int32} {x5 : Int32} {y0 : Int32} {y1 : Int64} : f_X1_mixSpans_84 K43 sb se so sc x5 y0 y1 =
  (f_X1_mix y1 y0).bind fun r1 =>
  K43 sb se so sc r1 (x5 + 1) := rfl
def f_X1_mixSpans_43 : Nat → (Nat → Int64) → (Nat → Int64) → (Nat → Int32) → (Int32) → (Int64) → (Int32) → Option (Int64)
  | 0, _, _, _, _, _, _ => none
  | n + 1, sb, se, so, sc, x3, x5 =>
    (f_X0_count sc).bind fun r1 =>
    if r1 ≤ x5 then
      (f_X1_clashes sb se sc).bind fun r3 =>
      (f_X1_mix x3 r3).bind fun r4 =>
      (f_X1_deepest sb se sc).bind fun r5 =>
      (f_X1_mix r4 r5).bind fun r6 =>
      some r6
    else
      (f_X1_mixParts sb se sc x3 x5).bind fun r3 =>
      (f_X0_isOver so sc x5).bind fun r4 =>
      if r4 = 0 then
        f_X1_mixSpans_84 (f_X1_mixSpans_43 n) sb se so sc x5 0 r3
      else
        f_X1_mixSpans_84 (f_X1_mixSpans_43 n) sb se so sc x5 1 r3
theorem f_X1_mixSpans_43_0 {sb : Nat → Int64} {se : Nat → Int64} {so : Nat → Int32} {sc : Int32} {x3 : Int64} {x5 : Int32} : f_X1_mixSpans_43 0 sb se so sc x3 x5 = none := rfl
theorem f_X1_mixSpans_43_s {n : Nat} {sb : Nat → Int64} {se : Nat → Int64} {so : Nat → Int32} {sc : Int32} {x3 : Int64} {x5 : Int32} : f_X1_mixSpans_43 (n + 1) sb se so sc x3 x5 =
  (f_X0_count sc).bind fun r1 =>
  if r1 ≤ x5 then
    (f_X1_clashes sb se sc).bind fun r3 =>
    (f_X1_mix x3 r3).bind fun r4 =>
    (f_X1_deepest sb se sc).bind fun r5 =>
    (f_X1_mix r4 r5).bind fun r6 =>
    some r6
  else
    (f_X1_mixParts sb se sc x3 x5).bind fun r3 =>
    (f_X0_isOver so sc x5).bind fun r4 =>
    if r4 = 0 then
      f_X1_mixSpans_84 (f_X1_mixSpans_43 n) sb se so sc x5 0 r3
    else
      f_X1_mixSpans_84 (f_X1_mixSpans_43 n) sb se so sc x5 1 r3 := rfl
def f_X1_mixSpans_5 : Nat → (Int64) → (Int64) → (Nat → Int64) → (Nat → Int64) → (Nat → Int32) → (Int32) → (Int64) → (Int32) → Option (Int64)
  | 0, _, _, _, _, _, _, _, _ => none
  | n + 1, fr, un, sb, se, so, sc, x3, x5 =>
    if 4 ≤ x5 then
      (f_X0_count sc).bind fun r2 =>
      (f_X1_mix x3 r2).bind fun r3 =>
      f_X1_mixSpans_43 24 sb se so sc r3 0
    else
      (f_X1_calendar fr un x5).bind fun r2 =>
      (f_X1_mix x3 r2).bind fun r3 =>
      f_X1_mixSpans_5 n fr un sb se so sc r3 (x5 + 1)
theorem f_X1_mixSpans_5_0 {fr : Int64} {un : Int64} {sb : Nat → Int64} {se : Nat → Int64} {so : Nat → Int32} {sc : Int32} {x3 : Int64} {x5 : Int32} : f_X1_mixSpans_5 0 fr un sb se so sc x3 x5 = none := rfl
theorem f_X1_mixSpans_5_s {n : Nat} {fr : Int64} {un : Int64} {sb : Nat → Int64} {se : Nat → Int64} {so : Nat → Int32} {sc : Int32} {x3 : Int64} {x5 : Int32} : f_X1_mixSpans_5 (n + 1) fr un sb se so sc x3 x5 =
  if 4 ≤ x5 then
    (f_X0_count sc).bind fun r2 =>
    (f_X1_mix x3 r2).bind fun r3 =>
    f_X1_mixSpans_43 24 sb se so sc r3 0
  else
    (f_X1_calendar fr un x5).bind fun r2 =>
    (f_X1_mix x3 r2).bind fun r3 =>
    f_X1_mixSpans_5 n fr un sb se so sc r3 (x5 + 1) := rfl
def f_X1_mixSpans (fr : Int64) (un : Int64) (sb : Nat → Int64) (se : Nat → Int64) (so : Nat → Int32) (sc : Int32) (p0 : Int64) : Option (Int64) :=
  f_X1_mixSpans_5 24 fr un sb se so sc p0 0
theorem f_X1_mixSpans_e {fr : Int64} {un : Int64} {sb : Nat → Int64} {se : Nat → Int64} {so : Nat → Int32} {sc : Int32} {p0 : Int64} : f_X1_mixSpans fr un sb se so sc p0 = 
  f_X1_mixSpans_5 24 fr un sb se so sc p0 0 := rfl
set_option maxHeartbeats 4000000 in
set_option maxRecDepth 100000 in
theorem c_X1_mixSpans (l : Launch) (dC : Nat → ClassId) (dI : Nat → Nat → Nat) (cB cI cJ cZ : ClassId) (a : Nat → Nat) (sz : Nat) (ce : Nat → Int64) (fr : Int64) (un : Int64) (sb : Nat → Int64) (se : Nat → Int64) (so : Nat → Int32) (sc : Int32) (wb : Nat → Int64) (we : Nat → Int64) (wo : Nat → Int32) (wc : Int32) (fb : Nat → Int64) (fe : Nat → Int64) (fo : Nat → Int32) (fc : Int32) (rm : Nat → Int32) (ac : Int32) (rf : Int32) (kn : Int32) (p0 : Int64) (res : Int64) (hf : f_X1_mixSpans fr un sb se so sc p0 = some res) : Met l yX1_mixSpans wsX1_mixSpans ({ frames := 5, cells := 0, slots := 0, locals := 116 } : Room) (kPre (dC, dI) (kTy cB cI cJ cZ) [.ref (a 0), .long p0] sz (wSB cI cJ cZ a ce fr un sb se so sc wb we wo wc fb fe fo fc rm ac rf kn)) (kL (dC, dI) (res) (wSB cI cJ cZ a ce fr un sb se so sc wb we wo wc fb fe fo fc rm ac rf kn) (va_A (wSB cI cJ cZ a ce fr un sb se so sc wb we wo wc fb fe fo fc rm ac rf kn) sz)) 0 0 (va_A (wSB cI cJ cZ a ce fr un sb se so sc wb we wo wc fb fe fo fc rm ac rf kn) sz) := by
  refine Met.ofW (cc := cX1_mixSpans) (maxL := 6) (ret := (some .long)) (by decide) rfl ?_
  intro p e s m args below meth c s₁ B hml hv
  obtain ⟨rfl, hsz, hP, hK, hD0, hG⟩ := hv
  have hx := B.exec
  have hb := B.bytes
  have hr := B.returns
  have hts := atoms_spec (ws := wsX1_mixSpans) B.pre
  have hown : s.vm.findClass RX1 = some m.cls := findClass_of_methodNamed B.named
  have hlocks := B.notSynchronized
  subst hsz
  have hD := hD0.self (sz := s.heap.size)
  generalize hAe : va_A (wSB cI cJ cZ a ce fr un sb se so sc wb we wo wc fb fe fo fc rm ac rf kn) s.heap.size = A at hD ⊢
  have hA : ∀ q : Nat, s.heap.size ≤ q → A q := fun q h => by rw [← hAe]; exact Or.inr h
  have hS : va_S A s.heap s.heap [] := va_S.rf
  clear hAe
  have hw0 := hts (.fieldLink RX1 25 "Spanbooker" "spanRow" "LSpanbooker$Row;") (List.mem_cons_of_mem _ kw_110)
  have hiX1 : ∀ w ∈ u_ws RX1 TX1 10, w ∈ wsX1_mixSpans := fun w h => List.mem_cons_of_mem _ (ku_X1 w h)
  have J84 : ∀ (K43 : (Nat → Int64) → (Nat → Int64) → (Nat → Int32) → (Int32) → (Int64) → (Int32) → Option (Int64)), (∀ (ce : Nat → Int64) (fr : Int64) (un : Int64) (sb : Nat → Int64) (se : Nat → Int64) (so : Nat → Int32) (sc : Int32) (wb : Nat → Int64) (we : Nat → Int64) (wo : Nat → Int32) (wc : Int32) (fb : Nat → Int64) (fe : Nat → Int64) (fo : Nat → Int32) (fc : Int32) (rm : Nat → Int32) (ac : Int32) (rf : Int32) (kn : Int32) (x3 : Int64) (x5 : Int32) (H : Heap) (locs : List Loc), va_P (dC, dI) vwCl (wSB cI cJ cZ a ce fr un sb se so sc wb we wo wc fb fe fo fc rm ac rf kn) H → va_D A (wSB cI cJ cZ a ce fr un sb se so sc wb we wo wc fb fe fo fc rm ac rf kn) → va_S A s.heap H locs → ∀ (ls : Array Slot), lv_has ls 6 [(0, .ref (a 0)), (3, .long x3), (5, .int x5)] → K43 sb se so sc x3 x5 = some res → W p l e (headSpec wsX1_mixSpans ({ frames := 5, cells := 0, slots := 0, locals := 116 } : Room)).room s m ([.ref (a 0), .long p0] : List Value).toArray below meth c H locs 0 0 (MQ below (kL (dC, dI) (res) (wSB cI cJ cZ a ce fr un sb se so sc wb we wo wc fb fe fo fc rm ac rf kn) A) ([.ref (a 0), .long p0] : List Value).toArray s 0 0 A) (F0 m 43 ls [])) → ∀ (ce : Nat → Int64) (fr : Int64) (un : Int64) (sb : Nat → Int64) (se : Nat → Int64) (so : Nat → Int32) (sc : Int32) (wb : Nat → Int64) (we : Nat → Int64) (wo : Nat → Int32) (wc : Int32) (fb : Nat → Int64) (fe : Nat → Int64) (fo : Nat → Int32) (fc : Int32) (rm : Nat → Int32) (ac : Int32) (rf : Int32) (kn : Int32) (x5 : Int32) (y0 : Int32) (y1 : Int64) (H : Heap) (locs : List Loc), va_P (dC, dI) vwCl (wSB cI cJ cZ a ce fr un sb se so sc wb we wo wc fb fe fo fc rm ac rf kn) H → va_D A (wSB cI cJ cZ a ce fr un sb se so sc wb we wo wc fb fe fo fc rm ac rf kn) → va_S A s.heap H locs → ∀ (ls : Array Slot), lv_has ls 6 [(0, .ref (a 0)), (5, .int x5)] → f_X1_mixSpans_84 K43 sb se so sc x5 y0 y1 = some res → W p l e (headSpec wsX1_mixSpans ({ frames := 5, cells := 0, slots := 0, locals := 116 } : Room)).room s m ([.ref (a 0), .long p0] : List Value).toArray below meth c H locs 0 0 (MQ below (kL (dC, dI) (res) (wSB cI cJ cZ a ce fr un sb se so sc wb we wo wc fb fe fo fc rm ac rf kn) A) ([.ref (a 0), .long p0] : List Value).toArray s 0 0 A) (F0 m 84 ls [.int y0, .long y1]) := by
    intro K43 hK43 ce fr un sb se so sc wb we wo wc fb fe fo fc rm ac rf kn x5 y0 y1 H locs hP hD hS ls hl h
    have h := f_X1_mixSpans_84_e.symm.trans h
    obtain ⟨r1, g1, h⟩ := g_b h
    refine kcall_l (wSB cI cJ cZ a ce fr un sb se so sc wb we wo wc fb fe fo fc rm ac rf kn) (va_runS (As := [.long y1, .int y0]) (rest := []) ⟨hx, hb, hml, hown, hts⟩ (c_X1_mix l dC dI cB cI cJ cZ  _  y1 y0 r1 g1) (kcwS hts kw_336 kv_X1_mix rfl rfl ⟨(Nat.le_of_ble_eq_true rfl), (Nat.le_of_ble_eq_true rfl)⟩) (kpS (A := A) (kPnil) hK ((kDnil (A := A))) hG) rfl rfl hl.1 rfl (lv_room (Nat.le_of_ble_eq_true rfl)) dX1_mixSpans_84 ⟨(Nat.le_of_ble_eq_true rfl), (Nat.le_of_ble_eq_true rfl)⟩) hP hD hS hA (kIT mk_13 0) (kIT mk_14 0) (km_T (m := mk_13) rfl rfl) (km_T (m := mk_13) rfl rfl) [((a 0), .inr (3, [.ref (a 1), .long fr, .long un, .ref (a 2), .ref (a 6), .ref (a 10), .ref (a 14), .int ac, .int rf, .int kn])), ((a 1), .inl (cJ, 4, .inr (.inl ce))), ((a 2), .inr (2, [.ref (a 3), .ref (a 4), .ref (a 5), .int sc])), ((a 3), .inl (cJ, 11, .inr (.inl sb))), ((a 4), .inl (cJ, 11, .inr (.inl se))), ((a 5), .inl (cZ, 11, .inl so)), ((a 6), .inr (2, [.ref (a 7), .ref (a 8), .ref (a 9), .int wc])), ((a 7), .inl (cJ, 11, .inr (.inl wb))), ((a 8), .inl (cJ, 11, .inr (.inl we))), ((a 9), .inl (cZ, 11, .inl wo)), ((a 10), .inr (2, [.ref (a 11), .ref (a 12), .ref (a 13), .int fc])), ((a 11), .inl (cJ, 11, .inr (.inl fb))), ((a 12), .inl (cJ, 11, .inr (.inl fe))), ((a 13), .inl (cZ, 11, .inl fo)), ((a 14), .inl (cI, 11, .inl rm))] (km_T (m := mk_14) rfl rfl) (km_T (m := mk_14) rfl rfl) (km_cov (m := mk_13) (n := mk_14) rfl rfl) (km_dis (m := mk_13) (n := mk_14) rfl) rfl (fun H locs hP hD hS => ?_)
    refine lv_lstore_n (lv' := [(3, .long r1), (0, .ref (a 0)), (5, .int x5)]) hx hb dX1_mixSpans_87 rfl hl (by decide) rfl (fun ls hl => ?_)
    refine lv_iinc (v := x5 + 1) (lv' := [(5, .int (x5 + 1)), (3, .long r1), (0, .ref (a 0))]) hx hb dX1_mixSpans_88 hl (k := 2) rfl rfl (by decide) rfl (fun ls hl => ?_)
    refine lv_goto (tgt := 43) hx hb dX1_mixSpans_91 (by decide) ?_
    exact hK43 ce fr un sb se so sc wb we wo wc fb fe fo fc rm ac rf kn r1 (x5 + 1) _ _ hP hD hS ls (lv_sub hl [2, 1, 0] rfl) h
  have J43 : ∀ (n : Nat), ∀ (ce : Nat → Int64) (fr : Int64) (un : Int64) (sb : Nat → Int64) (se : Nat → Int64) (so : Nat → Int32) (sc : Int32) (wb : Nat → Int64) (we : Nat → Int64) (wo : Nat → Int32) (wc : Int32) (fb : Nat → Int64) (fe : Nat → Int64) (fo : Nat → Int32) (fc : Int32) (rm : Nat → Int32) (ac : Int32) (rf : Int32) (kn : Int32) (x3 : Int64) (x5 : Int32) (H : Heap) (locs : List Loc), va_P (dC, dI) vwCl (wSB cI cJ cZ a ce fr un sb se so sc wb we wo wc fb fe fo fc rm ac rf kn) H → va_D A (wSB cI cJ cZ a ce fr un sb se so sc wb we wo wc fb fe fo fc rm ac rf kn) → va_S A s.heap H locs → ∀ (ls : Array Slot), lv_has ls 6 [(0, .ref (a 0)), (3, .long x3), (5, .int x5)] → f_X1_mixSpans_43 n sb se so sc x3 x5 = some res → W p l e (headSpec wsX1_mixSpans ({ frames := 5, cells := 0, slots := 0, locals := 116 } : Room)).room s m ([.ref (a 0), .long p0] : List Value).toArray below meth c H locs 0 0 (MQ below (kL (dC, dI) (res) (wSB cI cJ cZ a ce fr un sb se so sc wb we wo wc fb fe fo fc rm ac rf kn) A) ([.ref (a 0), .long p0] : List Value).toArray s 0 0 A) (F0 m 43 ls []) := by
    intro n
    induction n with
    | zero =>
      intro ce fr un sb se so sc wb we wo wc fb fe fo fc rm ac rf kn x3 x5 H locs hP hD hS ls hl h
      have h := f_X1_mixSpans_43_0.symm.trans h
      cases h
    | succ n ih =>
      intro ce fr un sb se so sc wb we wo wc fb fe fo fc rm ac rf kn x3 x5 H locs hP hD hS ls hl h
      have h := f_X1_mixSpans_43_s.symm.trans h
      refine lv_iload hx hb dX1_mixSpans_43 (lv_at hl 2 rfl) ?_
      refine lv_aload_n hx hb dX1_mixSpans_45 rfl (lv_at hl 0 rfl) ?_
      refine va_get (D := (dC, dI)) (ci := 3) (v := .ref (a 2)) (C := RX1) (T := TX1) (N := 10) hx hb hts hiX1 hown hK hP 0 rfl rfl 3 (by decide) hw0 (fun _ h9 => h9) rfl dX1_mixSpans_46 ?_
      obtain ⟨r1, g1, h⟩ := g_b h
      refine kcall_i (wSB cI cJ cZ a ce fr un sb se so sc wb we wo wc fb fe fo fc rm ac rf kn) (va_runV (As := []) (rest := [.int x5]) ⟨hx, hb, hml, hown, hts⟩ (c_X0_count l dC dI cB cI cJ cZ (a 2) (a 3) (a 4) (a 5) _ sb se so sc  r1 g1) (kcwV hts kw_155 kv_X0_count rfl rfl ⟨(Nat.le_of_ble_eq_true rfl), (Nat.le_of_ble_eq_true rfl)⟩) (kpV (A := A) (hP.sub (kIT mk_15 0) (km_f (m := mk_15) rfl rfl)) hK (hD.sub (kIT mk_15 0) (km_nd mk_15) (km_T (m := mk_15) rfl rfl)) hG (va_recv hK hP (ci := 2) (q0 := 2) rfl rfl)) rfl rfl hl.1 rfl (lv_room (Nat.le_of_ble_eq_true rfl)) dX1_mixSpans_49 ⟨(Nat.le_of_ble_eq_true rfl), (Nat.le_of_ble_eq_true rfl)⟩) hP hD hS hA (kIT mk_15 0) (kIT mk_16 0) (km_T (m := mk_15) rfl rfl) (km_T (m := mk_15) rfl rfl) [((a 0), .inr (3, [.ref (a 1), .long fr, .long un, .ref (a 2), .ref (a 6), .ref (a 10), .ref (a 14), .int ac, .int rf, .int kn])), ((a 1), .inl (cJ, 4, .inr (.inl ce))), ((a 6), .inr (2, [.ref (a 7), .ref (a 8), .ref (a 9), .int wc])), ((a 7), .inl (cJ, 11, .inr (.inl wb))), ((a 8), .inl (cJ, 11, .inr (.inl we))), ((a 9), .inl (cZ, 11, .inl wo)), ((a 10), .inr (2, [.ref (a 11), .ref (a 12), .ref (a 13), .int fc])), ((a 11), .inl (cJ, 11, .inr (.inl fb))), ((a 12), .inl (cJ, 11, .inr (.inl fe))), ((a 13), .inl (cZ, 11, .inl fo)), ((a 14), .inl (cI, 11, .inl rm))] (km_T (m := mk_16) rfl rfl) (km_T (m := mk_16) rfl rfl) (km_cov (m := mk_15) (n := mk_16) rfl rfl) (km_dis (m := mk_15) (n := mk_16) rfl) rfl (fun H locs hP hD hS br1 => ?_)
      refine lv_icmp_ge (tgt := 94) hx hb dX1_mixSpans_52 (by decide) (fun c2 => ?_) (fun c2 => ?_)
      · have h := g_t c2 h
        refine lv_lload_n hx hb dX1_mixSpans_94 rfl (lv_at hl 1 rfl) ?_
        refine lv_aload_n hx hb dX1_mixSpans_95 rfl (lv_at hl 0 rfl) ?_
        obtain ⟨r3, g3, h⟩ := g_b h
        refine kcall_i (wSB cI cJ cZ a ce fr un sb se so sc wb we wo wc fb fe fo fc rm ac rf kn) (va_runV (As := []) (rest := [.long x3]) ⟨hx, hb, hml, hown, hts⟩ (c_X1_clashes l dC dI cB cI cJ cZ a _ ce fr un sb se so sc wb we wo wc fb fe fo fc rm ac rf kn  r3 g3) (kcwV hts kw_436 kv_X1_clashes rfl rfl ⟨(Nat.le_of_ble_eq_true rfl), (Nat.le_of_ble_eq_true rfl)⟩) (kpV (A := A) (hP.sub (kIT mk_14 0) (km_f (m := mk_14) rfl rfl)) hK (hD.sub (kIT mk_14 0) (km_nd mk_14) (km_T (m := mk_14) rfl rfl)) hG (va_recv hK hP (ci := 3) (q0 := 0) rfl rfl)) rfl rfl hl.1 rfl (lv_room (Nat.le_of_ble_eq_true rfl)) dX1_mixSpans_96 ⟨(Nat.le_of_ble_eq_true rfl), (Nat.le_of_ble_eq_true rfl)⟩) hP hD hS hA (kIT mk_14 0) (kIT mk_13 0) (km_T (m := mk_14) rfl rfl) (km_T (m := mk_14) rfl rfl) [] (km_T (m := mk_13) rfl rfl) (km_T (m := mk_13) rfl rfl) (km_cov (m := mk_14) (n := mk_13) rfl rfl) (km_dis (m := mk_14) (n := mk_13) rfl) rfl (fun H locs hP hD hS br3 => ?_)
        obtain ⟨r4, g4, h⟩ := g_b h
        refine kcall_l (wSB cI cJ cZ a ce fr un sb se so sc wb we wo wc fb fe fo fc rm ac rf kn) (va_runS (As := [.long x3, .int r3]) (rest := []) ⟨hx, hb, hml, hown, hts⟩ (c_X1_mix l dC dI cB cI cJ cZ  _  x3 r3 r4 g4) (kcwS hts kw_336 kv_X1_mix rfl rfl ⟨(Nat.le_of_ble_eq_true rfl), (Nat.le_of_ble_eq_true rfl)⟩) (kpS (A := A) (kPnil) hK ((kDnil (A := A))) hG) rfl rfl hl.1 rfl (lv_room (Nat.le_of_ble_eq_true rfl)) dX1_mixSpans_99 ⟨(Nat.le_of_ble_eq_true rfl), (Nat.le_of_ble_eq_true rfl)⟩) hP hD hS hA (kIT mk_13 0) (kIT mk_14 0) (km_T (m := mk_13) rfl rfl) (km_T (m := mk_13) rfl rfl) [((a 0), .inr (3, [.ref (a 1), .long fr, .long un, .ref (a 2), .ref (a 6), .ref (a 10), .ref (a 14), .int ac, .int rf, .int kn])), ((a 1), .inl (cJ, 4, .inr (.inl ce))), ((a 2), .inr (2, [.ref (a 3), .ref (a 4), .ref (a 5), .int sc])), ((a 3), .inl (cJ, 11, .inr (.inl sb))), ((a 4), .inl (cJ, 11, .inr (.inl se))), ((a 5), .inl (cZ, 11, .inl so)), ((a 6), .inr (2, [.ref (a 7), .ref (a 8), .ref (a 9), .int wc])), ((a 7), .inl (cJ, 11, .inr (.inl wb))), ((a 8), .inl (cJ, 11, .inr (.inl we))), ((a 9), .inl (cZ, 11, .inl wo)), ((a 10), .inr (2, [.ref (a 11), .ref (a 12), .ref (a 13), .int fc])), ((a 11), .inl (cJ, 11, .inr (.inl fb))), ((a 12), .inl (cJ, 11, .inr (.inl fe))), ((a 13), .inl (cZ, 11, .inl fo)), ((a 14), .inl (cI, 11, .inl rm))] (km_T (m := mk_14) rfl rfl) (km_T (m := mk_14) rfl rfl) (km_cov (m := mk_13) (n := mk_14) rfl rfl) (km_dis (m := mk_13) (n := mk_14) rfl) rfl (fun H locs hP hD hS => ?_)
        refine lv_lstore_n (lv' := [(3, .long r4), (0, .ref (a 0)), (5, .int x5)]) hx hb dX1_mixSpans_102 rfl hl (by decide) rfl (fun ls hl => ?_)
        refine lv_lload_n hx hb dX1_mixSpans_103 rfl (lv_at hl 0 rfl) ?_
        refine lv_aload_n hx hb dX1_mixSpans_104 rfl (lv_at hl 1 rfl) ?_
        obtain ⟨r5, g5, h⟩ := g_b h
        refine kcall_i (wSB cI cJ cZ a ce fr un sb se so sc wb we wo wc fb fe fo fc rm ac rf kn) (va_runV (As := []) (rest := [.long r4]) ⟨hx, hb, hml, hown, hts⟩ (c_X1_deepest l dC dI cB cI cJ cZ a _ ce fr un sb se so sc wb we wo wc fb fe fo fc rm ac rf kn  r5 g5) (kcwV hts kw_437 kv_X1_deepest rfl rfl ⟨(Nat.le_of_ble_eq_true rfl), (Nat.le_of_ble_eq_true rfl)⟩) (kpV (A := A) (hP.sub (kIT mk_14 0) (km_f (m := mk_14) rfl rfl)) hK (hD.sub (kIT mk_14 0) (km_nd mk_14) (km_T (m := mk_14) rfl rfl)) hG (va_recv hK hP (ci := 3) (q0 := 0) rfl rfl)) rfl rfl hl.1 rfl (lv_room (Nat.le_of_ble_eq_true rfl)) dX1_mixSpans_105 ⟨(Nat.le_of_ble_eq_true rfl), (Nat.le_of_ble_eq_true rfl)⟩) hP hD hS hA (kIT mk_14 0) (kIT mk_13 0) (km_T (m := mk_14) rfl rfl) (km_T (m := mk_14) rfl rfl) [] (km_T (m := mk_13) rfl rfl) (km_T (m := mk_13) rfl rfl) (km_cov (m := mk_14) (n := mk_13) rfl rfl) (km_dis (m := mk_14) (n := mk_13) rfl) rfl (fun H locs hP hD hS br5 => ?_)
        obtain ⟨r6, g6, h⟩ := g_b h
        refine kcall_l (wSB cI cJ cZ a ce fr un sb se so sc wb we wo wc fb fe fo fc rm ac rf kn) (va_runS (As := [.long r4, .int r5]) (rest := []) ⟨hx, hb, hml, hown, hts⟩ (c_X1_mix l dC dI cB cI cJ cZ  _  r4 r5 r6 g6) (kcwS hts kw_336 kv_X1_mix rfl rfl ⟨(Nat.le_of_ble_eq_true rfl), (Nat.le_of_ble_eq_true rfl)⟩) (kpS (A := A) (kPnil) hK ((kDnil (A := A))) hG) rfl rfl hl.1 rfl (lv_room (Nat.le_of_ble_eq_true rfl)) dX1_mixSpans_108 ⟨(Nat.le_of_ble_eq_true rfl), (Nat.le_of_ble_eq_true rfl)⟩) hP hD hS hA (kIT mk_13 0) (kIT mk_14 0) (km_T (m := mk_13) rfl rfl) (km_T (m := mk_13) rfl rfl) [((a 0), .inr (3, [.ref (a 1), .long fr, .long un, .ref (a 2), .ref (a 6), .ref (a 10), .ref (a 14), .int ac, .int rf, .int kn])), ((a 1), .inl (cJ, 4, .inr (.inl ce))), ((a 2), .inr (2, [.ref (a 3), .ref (a 4), .ref (a 5), .int sc])), ((a 3), .inl (cJ, 11, .inr (.inl sb))), ((a 4), .inl (cJ, 11, .inr (.inl se))), ((a 5), .inl (cZ, 11, .inl so)), ((a 6), .inr (2, [.ref (a 7), .ref (a 8), .ref (a 9), .int wc])), ((a 7), .inl (cJ, 11, .inr (.inl wb))), ((a 8), .inl (cJ, 11, .inr (.inl we))), ((a 9), .inl (cZ, 11, .inl wo)), ((a 10), .inr (2, [.ref (a 11), .ref (a 12), .ref (a 13), .int fc])), ((a 11), .inl (cJ, 11, .inr (.inl fb))), ((a 12), .inl (cJ, 11, .inr (.inl fe))), ((a 13), .inl (cZ, 11, .inl fo)), ((a 14), .inl (cI, 11, .inl rm))] (km_T (m := mk_14) rfl rfl) (km_T (m := mk_14) rfl rfl) (km_cov (m := mk_13) (n := mk_14) rfl rfl) (km_dis (m := mk_13) (n := mk_14) rfl) rfl (fun H locs hP hD hS => ?_)
        have h := Option.some.inj h
        subst h
        exact kret_l (v := r6) hx hb hr hlocks hS hP dX1_mixSpans_111
      · have h := g_f c2 h
        refine lv_lload_n hx hb dX1_mixSpans_55 rfl (lv_at hl 1 rfl) ?_
        refine lv_aload_n hx hb dX1_mixSpans_56 rfl (lv_at hl 0 rfl) ?_
        refine va_get (D := (dC, dI)) (ci := 3) (v := .ref (a 2)) (C := RX1) (T := TX1) (N := 10) hx hb hts hiX1 hown hK hP 0 rfl rfl 3 (by decide) hw0 (fun _ h9 => h9) rfl dX1_mixSpans_57 ?_
        refine lv_iload hx hb dX1_mixSpans_60 (lv_at hl 2 rfl) ?_
        obtain ⟨r3, g3, h⟩ := g_b h
        refine kcall_l (wSB cI cJ cZ a ce fr un sb se so sc wb we wo wc fb fe fo fc rm ac rf kn) (va_runS (As := [.long x3, .ref (a 2), .int x5]) (rest := []) ⟨hx, hb, hml, hown, hts⟩ (c_X1_mixParts l dC dI cB cI cJ cZ (a 2) (a 3) (a 4) (a 5) _ sb se so sc x3 x5 r3 g3) (kcwS hts kw_430 kv_X1_mixParts rfl rfl ⟨(Nat.le_of_ble_eq_true rfl), (Nat.le_of_ble_eq_true rfl)⟩) (kpS (A := A) (hP.sub (kIT mk_15 0) (km_f (m := mk_15) rfl rfl)) hK (hD.sub (kIT mk_15 0) (km_nd mk_15) (km_T (m := mk_15) rfl rfl)) hG) rfl rfl hl.1 rfl (lv_room (Nat.le_of_ble_eq_true rfl)) dX1_mixSpans_62 ⟨(Nat.le_of_ble_eq_true rfl), (Nat.le_of_ble_eq_true rfl)⟩) hP hD hS hA (kIT mk_15 0) (kIT mk_16 0) (km_T (m := mk_15) rfl rfl) (km_T (m := mk_15) rfl rfl) [((a 0), .inr (3, [.ref (a 1), .long fr, .long un, .ref (a 2), .ref (a 6), .ref (a 10), .ref (a 14), .int ac, .int rf, .int kn])), ((a 1), .inl (cJ, 4, .inr (.inl ce))), ((a 6), .inr (2, [.ref (a 7), .ref (a 8), .ref (a 9), .int wc])), ((a 7), .inl (cJ, 11, .inr (.inl wb))), ((a 8), .inl (cJ, 11, .inr (.inl we))), ((a 9), .inl (cZ, 11, .inl wo)), ((a 10), .inr (2, [.ref (a 11), .ref (a 12), .ref (a 13), .int fc])), ((a 11), .inl (cJ, 11, .inr (.inl fb))), ((a 12), .inl (cJ, 11, .inr (.inl fe))), ((a 13), .inl (cZ, 11, .inl fo)), ((a 14), .inl (cI, 11, .inl rm))] (km_T (m := mk_16) rfl rfl) (km_T (m := mk_16) rfl rfl) (km_cov (m := mk_15) (n := mk_16) rfl rfl) (km_dis (m := mk_15) (n := mk_16) rfl) rfl (fun H locs hP hD hS => ?_)
        refine lv_lstore_n (lv' := [(3, .long r3), (0, .ref (a 0)), (5, .int x5)]) hx hb dX1_mixSpans_65 rfl hl (by decide) rfl (fun ls hl => ?_)
        refine lv_lload_n hx hb dX1_mixSpans_66 rfl (lv_at hl 0 rfl) ?_
        refine lv_aload_n hx hb dX1_mixSpans_67 rfl (lv_at hl 1 rfl) ?_
        refine va_get (D := (dC, dI)) (ci := 3) (v := .ref (a 2)) (C := RX1) (T := TX1) (N := 10) hx hb hts hiX1 hown hK hP 0 rfl rfl 3 (by decide) hw0 (fun _ h9 => h9) rfl dX1_mixSpans_68 ?_
        refine lv_iload hx hb dX1_mixSpans_71 (lv_at hl 2 rfl) ?_
        obtain ⟨r4, g4, h⟩ := g_b h
        refine kcall_i (wSB cI cJ cZ a ce fr un sb se so sc wb we wo wc fb fe fo fc rm ac rf kn) (va_runV (As := [.int x5]) (rest := [.long r3]) ⟨hx, hb, hml, hown, hts⟩ (c_X0_isOver l dC dI cB cI cJ cZ (a 2) (a 3) (a 4) (a 5) _ sb se so sc x5 r4 g4) (kcwV hts kw_280 kv_X0_isOver rfl rfl ⟨(Nat.le_of_ble_eq_true rfl), (Nat.le_of_ble_eq_true rfl)⟩) (kpV (A := A) (hP.sub (kIT mk_15 0) (km_f (m := mk_15) rfl rfl)) hK (hD.sub (kIT mk_15 0) (km_nd mk_15) (km_T (m := mk_15) rfl rfl)) hG (va_recv hK hP (ci := 2) (q0 := 2) rfl rfl)) rfl rfl hl.1 rfl (lv_room (Nat.le_of_ble_eq_true rfl)) dX1_mixSpans_73 ⟨(Nat.le_of_ble_eq_true rfl), (Nat.le_of_ble_eq_true rfl)⟩) hP hD hS hA (kIT mk_15 0) (kIT mk_16 0) (km_T (m := mk_15) rfl rfl) (km_T (m := mk_15) rfl rfl) [((a 0), .inr (3, [.ref (a 1), .long fr, .long un, .ref (a 2), .ref (a 6), .ref (a 10), .ref (a 14), .int ac, .int rf, .int kn])), ((a 1), .inl (cJ, 4, .inr (.inl ce))), ((a 6), .inr (2, [.ref (a 7), .ref (a 8), .ref (a 9), .int wc])), ((a 7), .inl (cJ, 11, .inr (.inl wb))), ((a 8), .inl (cJ, 11, .inr (.inl we))), ((a 9), .inl (cZ, 11, .inl wo)), ((a 10), .inr (2, [.ref (a 11), .ref (a 12), .ref (a 13), .int fc])), ((a 11), .inl (cJ, 11, .inr (.inl fb))), ((a 12), .inl (cJ, 11, .inr (.inl fe))), ((a 13), .inl (cZ, 11, .inl fo)), ((a 14), .inl (cI, 11, .inl rm))] (km_T (m := mk_16) rfl rfl) (km_T (m := mk_16) rfl rfl) (km_cov (m := mk_15) (n := mk_16) rfl rfl) (km_dis (m := mk_15) (n := mk_16) rfl) rfl (fun H locs hP hD hS br4 => ?_)
        refine lv_if_eq (tgt := 83) hx hb dX1_mixSpans_76 (by decide) (fun c5 => ?_) (fun c5 => ?_)
        · have h := g_t c5 h
          refine lv_iconst (v := 0) hx hb dX1_mixSpans_83 (by decide) ?_
          exact J84 (f_X1_mixSpans_43 n) ih ce fr un sb se so sc wb we wo wc fb fe fo fc rm ac rf kn x5 0 r3 _ _ hP hD hS ls (lv_sub hl [1, 2] rfl) h
        · have h := g_f c5 h
          refine lv_iconst (v := 1) hx hb dX1_mixSpans_79 (by decide) ?_
          refine lv_goto (tgt := 84) hx hb dX1_mixSpans_80 (by decide) ?_
          exact J84 (f_X1_mixSpans_43 n) ih ce fr un sb se so sc wb we wo wc fb fe fo fc rm ac rf kn x5 1 r3 _ _ hP hD hS ls (lv_sub hl [1, 2] rfl) h
  have J5 : ∀ (n : Nat), ∀ (ce : Nat → Int64) (fr : Int64) (un : Int64) (sb : Nat → Int64) (se : Nat → Int64) (so : Nat → Int32) (sc : Int32) (wb : Nat → Int64) (we : Nat → Int64) (wo : Nat → Int32) (wc : Int32) (fb : Nat → Int64) (fe : Nat → Int64) (fo : Nat → Int32) (fc : Int32) (rm : Nat → Int32) (ac : Int32) (rf : Int32) (kn : Int32) (x3 : Int64) (x5 : Int32) (H : Heap) (locs : List Loc), va_P (dC, dI) vwCl (wSB cI cJ cZ a ce fr un sb se so sc wb we wo wc fb fe fo fc rm ac rf kn) H → va_D A (wSB cI cJ cZ a ce fr un sb se so sc wb we wo wc fb fe fo fc rm ac rf kn) → va_S A s.heap H locs → ∀ (ls : Array Slot), lv_has ls 6 [(0, .ref (a 0)), (3, .long x3), (5, .int x5)] → f_X1_mixSpans_5 n fr un sb se so sc x3 x5 = some res → W p l e (headSpec wsX1_mixSpans ({ frames := 5, cells := 0, slots := 0, locals := 116 } : Room)).room s m ([.ref (a 0), .long p0] : List Value).toArray below meth c H locs 0 0 (MQ below (kL (dC, dI) (res) (wSB cI cJ cZ a ce fr un sb se so sc wb we wo wc fb fe fo fc rm ac rf kn) A) ([.ref (a 0), .long p0] : List Value).toArray s 0 0 A) (F0 m 5 ls []) := by
    intro n
    induction n with
    | zero =>
      intro ce fr un sb se so sc wb we wo wc fb fe fo fc rm ac rf kn x3 x5 H locs hP hD hS ls hl h
      have h := f_X1_mixSpans_5_0.symm.trans h
      cases h
    | succ n ih =>
      intro ce fr un sb se so sc wb we wo wc fb fe fo fc rm ac rf kn x3 x5 H locs hP hD hS ls hl h
      have h := f_X1_mixSpans_5_s.symm.trans h
      refine lv_iload hx hb dX1_mixSpans_5 (lv_at hl 2 rfl) ?_
      refine lv_iconst (v := 4) hx hb dX1_mixSpans_7 (by decide) ?_
      refine lv_icmp_ge (tgt := 28) hx hb dX1_mixSpans_8 (by decide) (fun c1 => ?_) (fun c1 => ?_)
      · have h := g_t c1 h
        refine lv_lload_n hx hb dX1_mixSpans_28 rfl (lv_at hl 1 rfl) ?_
        refine lv_aload_n hx hb dX1_mixSpans_29 rfl (lv_at hl 0 rfl) ?_
        refine va_get (D := (dC, dI)) (ci := 3) (v := .ref (a 2)) (C := RX1) (T := TX1) (N := 10) hx hb hts hiX1 hown hK hP 0 rfl rfl 3 (by decide) hw0 (fun _ h9 => h9) rfl dX1_mixSpans_30 ?_
        obtain ⟨r2, g2, h⟩ := g_b h
        refine kcall_i (wSB cI cJ cZ a ce fr un sb se so sc wb we wo wc fb fe fo fc rm ac rf kn) (va_runV (As := []) (rest := [.long x3]) ⟨hx, hb, hml, hown, hts⟩ (c_X0_count l dC dI cB cI cJ cZ (a 2) (a 3) (a 4) (a 5) _ sb se so sc  r2 g2) (kcwV hts kw_155 kv_X0_count rfl rfl ⟨(Nat.le_of_ble_eq_true rfl), (Nat.le_of_ble_eq_true rfl)⟩) (kpV (A := A) (hP.sub (kIT mk_15 0) (km_f (m := mk_15) rfl rfl)) hK (hD.sub (kIT mk_15 0) (km_nd mk_15) (km_T (m := mk_15) rfl rfl)) hG (va_recv hK hP (ci := 2) (q0 := 2) rfl rfl)) rfl rfl hl.1 rfl (lv_room (Nat.le_of_ble_eq_true rfl)) dX1_mixSpans_33 ⟨(Nat.le_of_ble_eq_true rfl), (Nat.le_of_ble_eq_true rfl)⟩) hP hD hS hA (kIT mk_15 0) (kIT mk_16 0) (km_T (m := mk_15) rfl rfl) (km_T (m := mk_15) rfl rfl) [((a 0), .inr (3, [.ref (a 1), .long fr, .long un, .ref (a 2), .ref (a 6), .ref (a 10), .ref (a 14), .int ac, .int rf, .int kn])), ((a 1), .inl (cJ, 4, .inr (.inl ce))), ((a 6), .inr (2, [.ref (a 7), .ref (a 8), .ref (a 9), .int wc])), ((a 7), .inl (cJ, 11, .inr (.inl wb))), ((a 8), .inl (cJ, 11, .inr (.inl we))), ((a 9), .inl (cZ, 11, .inl wo)), ((a 10), .inr (2, [.ref (a 11), .ref (a 12), .ref (a 13), .int fc])), ((a 11), .inl (cJ, 11, .inr (.inl fb))), ((a 12), .inl (cJ, 11, .inr (.inl fe))), ((a 13), .inl (cZ, 11, .inl fo)), ((a 14), .inl (cI, 11, .inl rm))] (km_T (m := mk_16) rfl rfl) (km_T (m := mk_16) rfl rfl) (km_cov (m := mk_15) (n := mk_16) rfl rfl) (km_dis (m := mk_15) (n := mk_16) rfl) rfl (fun H locs hP hD hS br2 => ?_)
        obtain ⟨r3, g3, h⟩ := g_b h
        refine kcall_l (wSB cI cJ cZ a ce fr un sb se so sc wb we wo wc fb fe fo fc rm ac rf kn) (va_runS (As := [.long x3, .int r2]) (rest := []) ⟨hx, hb, hml, hown, hts⟩ (c_X1_mix l dC dI cB cI cJ cZ  _  x3 r2 r3 g3) (kcwS hts kw_336 kv_X1_mix rfl rfl ⟨(Nat.le_of_ble_eq_true rfl), (Nat.le_of_ble_eq_true rfl)⟩) (kpS (A := A) (kPnil) hK ((kDnil (A := A))) hG) rfl rfl hl.1 rfl (lv_room (Nat.le_of_ble_eq_true rfl)) dX1_mixSpans_36 ⟨(Nat.le_of_ble_eq_true rfl), (Nat.le_of_ble_eq_true rfl)⟩) hP hD hS hA (kIT mk_13 0) (kIT mk_14 0) (km_T (m := mk_13) rfl rfl) (km_T (m := mk_13) rfl rfl) [((a 0), .inr (3, [.ref (a 1), .long fr, .long un, .ref (a 2), .ref (a 6), .ref (a 10), .ref (a 14), .int ac, .int rf, .int kn])), ((a 1), .inl (cJ, 4, .inr (.inl ce))), ((a 2), .inr (2, [.ref (a 3), .ref (a 4), .ref (a 5), .int sc])), ((a 3), .inl (cJ, 11, .inr (.inl sb))), ((a 4), .inl (cJ, 11, .inr (.inl se))), ((a 5), .inl (cZ, 11, .inl so)), ((a 6), .inr (2, [.ref (a 7), .ref (a 8), .ref (a 9), .int wc])), ((a 7), .inl (cJ, 11, .inr (.inl wb))), ((a 8), .inl (cJ, 11, .inr (.inl we))), ((a 9), .inl (cZ, 11, .inl wo)), ((a 10), .inr (2, [.ref (a 11), .ref (a 12), .ref (a 13), .int fc])), ((a 11), .inl (cJ, 11, .inr (.inl fb))), ((a 12), .inl (cJ, 11, .inr (.inl fe))), ((a 13), .inl (cZ, 11, .inl fo)), ((a 14), .inl (cI, 11, .inl rm))] (km_T (m := mk_14) rfl rfl) (km_T (m := mk_14) rfl rfl) (km_cov (m := mk_13) (n := mk_14) rfl rfl) (km_dis (m := mk_13) (n := mk_14) rfl) rfl (fun H locs hP hD hS => ?_)
        refine lv_lstore_n (lv' := [(3, .long r3), (0, .ref (a 0)), (5, .int x5)]) hx hb dX1_mixSpans_39 rfl hl (by decide) rfl (fun ls hl => ?_)
        refine lv_iconst (v := 0) hx hb dX1_mixSpans_40 (by decide) ?_
        refine lv_istore (lv' := [(5, .int 0), (3, .long r3), (0, .ref (a 0))]) hx hb dX1_mixSpans_41 hl (by decide) rfl (fun ls hl => ?_)
        exact J43 24 ce fr un sb se so sc wb we wo wc fb fe fo fc rm ac rf kn r3 0 _ _ hP hD hS ls (lv_sub hl [2, 1, 0] rfl) h
      · have h := g_f c1 h
        refine lv_lload_n hx hb dX1_mixSpans_11 rfl (lv_at hl 1 rfl) ?_
        refine lv_aload_n hx hb dX1_mixSpans_12 rfl (lv_at hl 0 rfl) ?_
        refine lv_iload hx hb dX1_mixSpans_13 (lv_at hl 2 rfl) ?_
        obtain ⟨r2, g2, h⟩ := g_b h
        refine kcall_i (wSB cI cJ cZ a ce fr un sb se so sc wb we wo wc fb fe fo fc rm ac rf kn) (va_runV (As := [.int x5]) (rest := [.long x3]) ⟨hx, hb, hml, hown, hts⟩ (c_X1_calendar l dC dI cB cI cJ cZ a _ ce fr un sb se so sc wb we wo wc fb fe fo fc rm ac rf kn x5 r2 g2) (kcwV hts kw_350 kv_X1_calendar rfl rfl ⟨(Nat.le_of_ble_eq_true rfl), (Nat.le_of_ble_eq_true rfl)⟩) (kpV (A := A) (hP.sub (kIT mk_14 0) (km_f (m := mk_14) rfl rfl)) hK (hD.sub (kIT mk_14 0) (km_nd mk_14) (km_T (m := mk_14) rfl rfl)) hG (va_recv hK hP (ci := 3) (q0 := 0) rfl rfl)) rfl rfl hl.1 rfl (lv_room (Nat.le_of_ble_eq_true rfl)) dX1_mixSpans_15 ⟨(Nat.le_of_ble_eq_true rfl), (Nat.le_of_ble_eq_true rfl)⟩) hP hD hS hA (kIT mk_14 0) (kIT mk_13 0) (km_T (m := mk_14) rfl rfl) (km_T (m := mk_14) rfl rfl) [] (km_T (m := mk_13) rfl rfl) (km_T (m := mk_13) rfl rfl) (km_cov (m := mk_14) (n := mk_13) rfl rfl) (km_dis (m := mk_14) (n := mk_13) rfl) rfl (fun H locs hP hD hS br2 => ?_)
        obtain ⟨r3, g3, h⟩ := g_b h
        refine kcall_l (wSB cI cJ cZ a ce fr un sb se so sc wb we wo wc fb fe fo fc rm ac rf kn) (va_runS (As := [.long x3, .int r2]) (rest := []) ⟨hx, hb, hml, hown, hts⟩ (c_X1_mix l dC dI cB cI cJ cZ  _  x3 r2 r3 g3) (kcwS hts kw_336 kv_X1_mix rfl rfl ⟨(Nat.le_of_ble_eq_true rfl), (Nat.le_of_ble_eq_true rfl)⟩) (kpS (A := A) (kPnil) hK ((kDnil (A := A))) hG) rfl rfl hl.1 rfl (lv_room (Nat.le_of_ble_eq_true rfl)) dX1_mixSpans_18 ⟨(Nat.le_of_ble_eq_true rfl), (Nat.le_of_ble_eq_true rfl)⟩) hP hD hS hA (kIT mk_13 0) (kIT mk_14 0) (km_T (m := mk_13) rfl rfl) (km_T (m := mk_13) rfl rfl) [((a 0), .inr (3, [.ref (a 1), .long fr, .long un, .ref (a 2), .ref (a 6), .ref (a 10), .ref (a 14), .int ac, .int rf, .int kn])), ((a 1), .inl (cJ, 4, .inr (.inl ce))), ((a 2), .inr (2, [.ref (a 3), .ref (a 4), .ref (a 5), .int sc])), ((a 3), .inl (cJ, 11, .inr (.inl sb))), ((a 4), .inl (cJ, 11, .inr (.inl se))), ((a 5), .inl (cZ, 11, .inl so)), ((a 6), .inr (2, [.ref (a 7), .ref (a 8), .ref (a 9), .int wc])), ((a 7), .inl (cJ, 11, .inr (.inl wb))), ((a 8), .inl (cJ, 11, .inr (.inl we))), ((a 9), .inl (cZ, 11, .inl wo)), ((a 10), .inr (2, [.ref (a 11), .ref (a 12), .ref (a 13), .int fc])), ((a 11), .inl (cJ, 11, .inr (.inl fb))), ((a 12), .inl (cJ, 11, .inr (.inl fe))), ((a 13), .inl (cZ, 11, .inl fo)), ((a 14), .inl (cI, 11, .inl rm))] (km_T (m := mk_14) rfl rfl) (km_T (m := mk_14) rfl rfl) (km_cov (m := mk_13) (n := mk_14) rfl rfl) (km_dis (m := mk_13) (n := mk_14) rfl) rfl (fun H locs hP hD hS => ?_)
        refine lv_lstore_n (lv' := [(3, .long r3), (0, .ref (a 0)), (5, .int x5)]) hx hb dX1_mixSpans_21 rfl hl (by decide) rfl (fun ls hl => ?_)
        refine lv_iinc (v := x5 + 1) (lv' := [(5, .int (x5 + 1)), (3, .long r3), (0, .ref (a 0))]) hx hb dX1_mixSpans_22 hl (k := 2) rfl rfl (by decide) rfl (fun ls hl => ?_)
        refine lv_goto (tgt := 5) hx hb dX1_mixSpans_25 (by decide) ?_
        exact ih ce fr un sb se so sc wb we wo wc fb fe fo fc rm ac rf kn r3 (x5 + 1) _ _ hP hD hS ls (lv_sub hl [2, 1, 0] rfl) h
  have hl := lv_entry ([.ref (a 0), .long p0]) (n := 6) (Nat.le_of_ble_eq_true rfl)
  rw [lg_entry_eq]
  generalize (lg_sl ([.ref (a 0), .long p0]) ++ List.replicate (6 - (lg_sl ([.ref (a 0), .long p0])).length) Slot.unset).toArray = ls at hl ⊢
  have hl : lv_has ls 6 [(0, .ref (a 0)), (1, .long p0)] := hl
  have h := f_X1_mixSpans_e.symm.trans hf
  refine lv_lload_n hx hb dX1_mixSpans_0 rfl (lv_at hl 1 rfl) ?_
  refine lv_lstore_n (lv' := [(3, .long p0), (0, .ref (a 0)), (1, .long p0)]) hx hb dX1_mixSpans_1 rfl hl (by decide) rfl (fun ls hl => ?_)
  refine lv_iconst (v := 0) hx hb dX1_mixSpans_2 (by decide) ?_
  refine lv_istore (lv' := [(5, .int 0), (3, .long p0), (0, .ref (a 0)), (1, .long p0)]) hx hb dX1_mixSpans_3 hl (by decide) rfl (fun ls hl => ?_)
  exact J5 24 ce fr un sb se so sc wb we wo wc fb fe fo fc rm ac rf kn p0 0 _ _ hP hD hS ls (lv_sub hl [2, 1, 0] rfl) h
abbrev wsX1_mixFrees : List Cond := kWs yX1_mixFrees cX1_mixFrees 6 (some .long)
def f_X1_mixFrees_47 : Nat → (Int64) → (Int64) → (Nat → Int64) → (Nat → Int64) → (Int32) → (Nat → Int64) → (Nat → Int64) → (Nat → Int32) → (Int32) → (Int64) → (Int32) → Option ((Int64) × (Nat → Int64) × (Nat → Int64) × (Nat → Int32) × (Int32))
  | 0, _, _, _, _, _, _, _, _, _, _, _ => none
  | n + 1, fr, un, sb, se, sc, fb, fe, fo, fc, x3, x5 =>
    if 6 ≤ x5 then
      some (x3, fb, fe, fo, fc)
    else
      (f_X1_length fr un sb se sc fb fe fo fc x5).bind fun r2 =>
      (f_X1_mix x3 r2.1).bind fun r3 =>
      f_X1_mixFrees_47 n fr un sb se sc r2.2.1 r2.2.2.1 r2.2.2.2.1 r2.2.2.2.2 r3 (x5 + 1)
theorem f_X1_mixFrees_47_0 {fr : Int64} {un : Int64} {sb : Nat → Int64} {se : Nat → Int64} {sc : Int32} {fb : Nat → Int64} {fe : Nat → Int64} {fo : Nat → Int32} {fc : Int32} {x3 : Int64} {x5 : Int32} : f_X1_mixFrees_47 0 fr un sb se sc fb fe fo fc x3 x5 = none := rfl
theorem f_X1_mixFrees_47_s {n : Nat} {fr : Int64} {un : Int64} {sb : Nat → Int64} {se : Nat → Int64} {sc : Int32} {fb : Nat → Int64} {fe : Nat → Int64} {fo : Nat → Int32} {fc : Int32} {x3 : Int64} {x5 : Int32} : f_X1_mixFrees_47 (n + 1) fr un sb se sc fb fe fo fc x3 x5 =
  if 6 ≤ x5 then
    some (x3, fb, fe, fo, fc)
  else
    (f_X1_length fr un sb se sc fb fe fo fc x5).bind fun r2 =>
    (f_X1_mix x3 r2.1).bind fun r3 =>
    f_X1_mixFrees_47 n fr un sb se sc r2.2.1 r2.2.2.1 r2.2.2.2.1 r2.2.2.2.2 r3 (x5 + 1) := rfl
def f_X1_mixFrees_15 : Nat → (Int64) → (Int64) → (Nat → Int64) → (Nat → Int64) → (Int32) → (Nat → Int64) → (Nat → Int64) → (Nat → Int32) → (Int32) → (Int64) → (Int32) → Option ((Int64) × (Nat → Int64) × (Nat → Int64) × (Nat → Int32) × (Int32))
  | 0, _, _, _, _, _, _, _, _, _, _, _ => none
  | n + 1, fr, un, sb, se, sc, fb, fe, fo, fc, x3, x5 =>
    (f_X0_count fc).bind fun r1 =>
    if r1 ≤ x5 then
      f_X1_mixFrees_47 24 fr un sb se sc fb fe fo fc x3 0
    else
      (f_X1_mixParts fb fe fc x3 x5).bind fun r3 =>
      f_X1_mixFrees_15 n fr un sb se sc fb fe fo fc r3 (x5 + 1)
theorem f_X1_mixFrees_15_0 {fr : Int64} {un : Int64} {sb : Nat → Int64} {se : Nat → Int64} {sc : Int32} {fb : Nat → Int64} {fe : Nat → Int64} {fo : Nat → Int32} {fc : Int32} {x3 : Int64} {x5 : Int32} : f_X1_mixFrees_15 0 fr un sb se sc fb fe fo fc x3 x5 = none := rfl
theorem f_X1_mixFrees_15_s {n : Nat} {fr : Int64} {un : Int64} {sb : Nat → Int64} {se : Nat → Int64} {sc : Int32} {fb : Nat → Int64} {fe : Nat → Int64} {fo : Nat → Int32} {fc : Int32} {x3 : Int64} {x5 : Int32} : f_X1_mixFrees_15 (n + 1) fr un sb se sc fb fe fo fc x3 x5 =
  (f_X0_count fc).bind fun r1 =>
  if r1 ≤ x5 then
    f_X1_mixFrees_47 24 fr un sb se sc fb fe fo fc x3 0
  else
    (f_X1_mixParts fb fe fc x3 x5).bind fun r3 =>
    f_X1_mixFrees_15 n fr un sb se sc fb fe fo fc r3 (x5 + 1) := rfl
def f_X1_mixFrees (fr : Int64) (un : Int64) (sb : Nat → Int64) (se : Nat → Int64) (sc : Int32) (fb : Nat → Int64) (fe : Nat → Int64) (fo : Nat → Int32) (fc : Int32) (p0 : Int64) : Option ((Int64) × (Nat → Int64) × (Nat → Int64) × (Nat → Int32) × (Int32)) :=
  (f_X0_count fc).bind fun r1 =>
  (f_X1_mix p0 r1).bind fun r2 =>
  f_X1_mixFrees_15 24 fr un sb se sc fb fe fo fc r2 0
theorem f_X1_mixFrees_e {fr : Int64} {un : Int64} {sb : Nat → Int64} {se : Nat → Int64} {sc : Int32} {fb : Nat → Int64} {fe : Nat → Int64} {fo : Nat → Int32} {fc : Int32} {p0 : Int64} : f_X1_mixFrees fr un sb se sc fb fe fo fc p0 = 
  (f_X0_count fc).bind fun r1 =>
  (f_X1_mix p0 r1).bind fun r2 =>
  f_X1_mixFrees_15 24 fr un sb se sc fb fe fo fc r2 0 := rfl
set_option maxHeartbeats 4000000 in
set_option maxRecDepth 100000 in
theorem c_X1_mixFrees (l : Launch) (dC : Nat → ClassId) (dI : Nat → Nat → Nat) (cB cI cJ cZ : ClassId) (a : Nat → Nat) (sz : Nat) (ce : Nat → Int64) (fr : Int64) (un : Int64) (sb : Nat → Int64) (se : Nat → Int64) (so : Nat → Int32) (sc : Int32) (wb : Nat → Int64) (we : Nat → Int64) (wo : Nat → Int32) (wc : Int32) (fb : Nat → Int64) (fe : Nat → Int64) (fo : Nat → Int32) (fc : Int32) (rm : Nat → Int32) (ac : Int32) (rf : Int32) (kn : Int32) (p0 : Int64) (res : (Int64) × (Nat → Int64) × (Nat → Int64) × (Nat → Int32) × (Int32)) (hf : f_X1_mixFrees fr un sb se sc fb fe fo fc p0 = some res) : Met l yX1_mixFrees wsX1_mixFrees ({ frames := 5, cells := 0, slots := 0, locals := 118 } : Room) (kPre (dC, dI) (kTy cB cI cJ cZ) [.ref (a 0), .long p0] sz (wSB cI cJ cZ a ce fr un sb se so sc wb we wo wc fb fe fo fc rm ac rf kn)) (kL (dC, dI) (res.1) (wSB cI cJ cZ a ce fr un sb se so sc wb we wo wc (res.2.1) (res.2.2.1) (res.2.2.2.1) (res.2.2.2.2) rm ac rf kn) (va_A (wSB cI cJ cZ a ce fr un sb se so sc wb we wo wc fb fe fo fc rm ac rf kn) sz)) 0 0 (va_A (wSB cI cJ cZ a ce fr un sb se so sc wb we wo wc fb fe fo fc rm ac rf kn) sz) := by
  refine Met.ofW (cc := cX1_mixFrees) (maxL := 6) (ret := (some .long)) (by decide) rfl ?_
  intro p e s m args below meth c s₁ B hml hv
  obtain ⟨rfl, hsz, hP, hK, hD0, hG⟩ := hv
  have hx := B.exec
  have hb := B.bytes
  have hr := B.returns
  have hts := atoms_spec (ws := wsX1_mixFrees) B.pre
  have hown : s.vm.findClass RX1 = some m.cls := findClass_of_methodNamed B.named
  have hlocks := B.notSynchronized
  subst hsz
  have hD := hD0.self (sz := s.heap.size)
  generalize hAe : va_A (wSB cI cJ cZ a ce fr un sb se so sc wb we wo wc fb fe fo fc rm ac rf kn) s.heap.size = A at hD ⊢
  have hA : ∀ q : Nat, s.heap.size ≤ q → A q := fun q h => by rw [← hAe]; exact Or.inr h
  have hS : va_S A s.heap s.heap [] := va_S.rf
  clear hAe
  have hw0 := hts (.fieldLink RX1 32 "Spanbooker" "freeRow" "LSpanbooker$Row;") (List.mem_cons_of_mem _ kw_112)
  have hiX1 : ∀ w ∈ u_ws RX1 TX1 10, w ∈ wsX1_mixFrees := fun w h => List.mem_cons_of_mem _ (ku_X1 w h)
  have J47 : ∀ (n : Nat), ∀ (ce : Nat → Int64) (fr : Int64) (un : Int64) (sb : Nat → Int64) (se : Nat → Int64) (so : Nat → Int32) (sc : Int32) (wb : Nat → Int64) (we : Nat → Int64) (wo : Nat → Int32) (wc : Int32) (fb : Nat → Int64) (fe : Nat → Int64) (fo : Nat → Int32) (fc : Int32) (rm : Nat → Int32) (ac : Int32) (rf : Int32) (kn : Int32) (x3 : Int64) (x5 : Int32) (H : Heap) (locs : List Loc), va_P (dC, dI) vwCl (wSB cI cJ cZ a ce fr un sb se so sc wb we wo wc fb fe fo fc rm ac rf kn) H → va_D A (wSB cI cJ cZ a ce fr un sb se so sc wb we wo wc fb fe fo fc rm ac rf kn) → va_S A s.heap H locs → ∀ (ls : Array Slot), lv_has ls 6 [(0, .ref (a 0)), (3, .long x3), (5, .int x5)] → f_X1_mixFrees_47 n fr un sb se sc fb fe fo fc x3 x5 = some res → W p l e (headSpec wsX1_mixFrees ({ frames := 5, cells := 0, slots := 0, locals := 118 } : Room)).room s m ([.ref (a 0), .long p0] : List Value).toArray below meth c H locs 0 0 (MQ below (kL (dC, dI) (res.1) (wSB cI cJ cZ a ce fr un sb se so sc wb we wo wc (res.2.1) (res.2.2.1) (res.2.2.2.1) (res.2.2.2.2) rm ac rf kn) A) ([.ref (a 0), .long p0] : List Value).toArray s 0 0 A) (F0 m 47 ls []) := by
    intro n
    induction n with
    | zero =>
      intro ce fr un sb se so sc wb we wo wc fb fe fo fc rm ac rf kn x3 x5 H locs hP hD hS ls hl h
      have h := f_X1_mixFrees_47_0.symm.trans h
      cases h
    | succ n ih =>
      intro ce fr un sb se so sc wb we wo wc fb fe fo fc rm ac rf kn x3 x5 H locs hP hD hS ls hl h
      have h := f_X1_mixFrees_47_s.symm.trans h
      refine lv_iload hx hb dX1_mixFrees_47 (lv_at hl 2 rfl) ?_
      refine lv_bipush (v := 6) hx hb dX1_mixFrees_49 (by decide) ?_
      refine lv_icmp_ge (tgt := 71) hx hb dX1_mixFrees_51 (by decide) (fun c1 => ?_) (fun c1 => ?_)
      · have h := g_t c1 h
        refine lv_lload_n hx hb dX1_mixFrees_71 rfl (lv_at hl 1 rfl) ?_
        have h := Option.some.inj h
        subst h
        exact kret_l (v := x3) hx hb hr hlocks hS hP dX1_mixFrees_72
      · have h := g_f c1 h
        refine lv_lload_n hx hb dX1_mixFrees_54 rfl (lv_at hl 1 rfl) ?_
        refine lv_aload_n hx hb dX1_mixFrees_55 rfl (lv_at hl 0 rfl) ?_
        refine lv_iload hx hb dX1_mixFrees_56 (lv_at hl 2 rfl) ?_
        obtain ⟨r2, g2, h⟩ := g_b h
        refine kcall_i (wSB cI cJ cZ a ce fr un sb se so sc wb we wo wc r2.2.1 r2.2.2.1 r2.2.2.2.1 r2.2.2.2.2 rm ac rf kn) (va_runV (As := [.int x5]) (rest := [.long x3]) ⟨hx, hb, hml, hown, hts⟩ (c_X1_length l dC dI cB cI cJ cZ a _ ce fr un sb se so sc wb we wo wc fb fe fo fc rm ac rf kn x5 r2 g2) (kcwV hts kw_442 kv_X1_length rfl rfl ⟨(Nat.le_of_ble_eq_true rfl), (Nat.le_of_ble_eq_true rfl)⟩) (kpV (A := A) (hP.sub (kIT mk_14 0) (km_f (m := mk_14) rfl rfl)) hK (hD.sub (kIT mk_14 0) (km_nd mk_14) (km_T (m := mk_14) rfl rfl)) hG (va_recv hK hP (ci := 3) (q0 := 0) rfl rfl)) rfl rfl hl.1 rfl (lv_room (Nat.le_of_ble_eq_true rfl)) dX1_mixFrees_58 ⟨(Nat.le_of_ble_eq_true rfl), (Nat.le_of_ble_eq_true rfl)⟩) hP hD hS hA (kIT mk_14 0) (kIT mk_13 0) (km_T (m := mk_14) rfl rfl) (km_T (m := mk_14) rfl rfl) [] (km_T (m := mk_13) rfl rfl) (km_T (m := mk_13) rfl rfl) (km_cov (m := mk_14) (n := mk_13) rfl rfl) (km_dis (m := mk_14) (n := mk_13) rfl) rfl (fun H locs hP hD hS br2 => ?_)
        obtain ⟨r3, g3, h⟩ := g_b h
        refine kcall_l (wSB cI cJ cZ a ce fr un sb se so sc wb we wo wc r2.2.1 r2.2.2.1 r2.2.2.2.1 r2.2.2.2.2 rm ac rf kn) (va_runS (As := [.long x3, .int r2.1]) (rest := []) ⟨hx, hb, hml, hown, hts⟩ (c_X1_mix l dC dI cB cI cJ cZ  _  x3 r2.1 r3 g3) (kcwS hts kw_336 kv_X1_mix rfl rfl ⟨(Nat.le_of_ble_eq_true rfl), (Nat.le_of_ble_eq_true rfl)⟩) (kpS (A := A) (kPnil) hK ((kDnil (A := A))) hG) rfl rfl hl.1 rfl (lv_room (Nat.le_of_ble_eq_true rfl)) dX1_mixFrees_61 ⟨(Nat.le_of_ble_eq_true rfl), (Nat.le_of_ble_eq_true rfl)⟩) hP hD hS hA (kIT mk_13 0) (kIT mk_14 0) (km_T (m := mk_13) rfl rfl) (km_T (m := mk_13) rfl rfl) [((a 0), .inr (3, [.ref (a 1), .long fr, .long un, .ref (a 2), .ref (a 6), .ref (a 10), .ref (a 14), .int ac, .int rf, .int kn])), ((a 1), .inl (cJ, 4, .inr (.inl ce))), ((a 2), .inr (2, [.ref (a 3), .ref (a 4), .ref (a 5), .int sc])), ((a 3), .inl (cJ, 11, .inr (.inl sb))), ((a 4), .inl (cJ, 11, .inr (.inl se))), ((a 5), .inl (cZ, 11, .inl so)), ((a 6), .inr (2, [.ref (a 7), .ref (a 8), .ref (a 9), .int wc])), ((a 7), .inl (cJ, 11, .inr (.inl wb))), ((a 8), .inl (cJ, 11, .inr (.inl we))), ((a 9), .inl (cZ, 11, .inl wo)), ((a 10), .inr (2, [.ref (a 11), .ref (a 12), .ref (a 13), .int r2.2.2.2.2])), ((a 11), .inl (cJ, 11, .inr (.inl r2.2.1))), ((a 12), .inl (cJ, 11, .inr (.inl r2.2.2.1))), ((a 13), .inl (cZ, 11, .inl r2.2.2.2.1)), ((a 14), .inl (cI, 11, .inl rm))] (km_T (m := mk_14) rfl rfl) (km_T (m := mk_14) rfl rfl) (km_cov (m := mk_13) (n := mk_14) rfl rfl) (km_dis (m := mk_13) (n := mk_14) rfl) rfl (fun H locs hP hD hS => ?_)
        refine lv_lstore_n (lv' := [(3, .long r3), (0, .ref (a 0)), (5, .int x5)]) hx hb dX1_mixFrees_64 rfl hl (by decide) rfl (fun ls hl => ?_)
        refine lv_iinc (v := x5 + 1) (lv' := [(5, .int (x5 + 1)), (3, .long r3), (0, .ref (a 0))]) hx hb dX1_mixFrees_65 hl (k := 2) rfl rfl (by decide) rfl (fun ls hl => ?_)
        refine lv_goto (tgt := 47) hx hb dX1_mixFrees_68 (by decide) ?_
        exact ih ce fr un sb se so sc wb we wo wc r2.2.1 r2.2.2.1 r2.2.2.2.1 r2.2.2.2.2 rm ac rf kn r3 (x5 + 1) _ _ hP hD hS ls (lv_sub hl [2, 1, 0] rfl) h
  have J15 : ∀ (n : Nat), ∀ (ce : Nat → Int64) (fr : Int64) (un : Int64) (sb : Nat → Int64) (se : Nat → Int64) (so : Nat → Int32) (sc : Int32) (wb : Nat → Int64) (we : Nat → Int64) (wo : Nat → Int32) (wc : Int32) (fb : Nat → Int64) (fe : Nat → Int64) (fo : Nat → Int32) (fc : Int32) (rm : Nat → Int32) (ac : Int32) (rf : Int32) (kn : Int32) (x3 : Int64) (x5 : Int32) (H : Heap) (locs : List Loc), va_P (dC, dI) vwCl (wSB cI cJ cZ a ce fr un sb se so sc wb we wo wc fb fe fo fc rm ac rf kn) H → va_D A (wSB cI cJ cZ a ce fr un sb se so sc wb we wo wc fb fe fo fc rm ac rf kn) → va_S A s.heap H locs → ∀ (ls : Array Slot), lv_has ls 6 [(0, .ref (a 0)), (3, .long x3), (5, .int x5)] → f_X1_mixFrees_15 n fr un sb se sc fb fe fo fc x3 x5 = some res → W p l e (headSpec wsX1_mixFrees ({ frames := 5, cells := 0, slots := 0, locals := 118 } : Room)).room s m ([.ref (a 0), .long p0] : List Value).toArray below meth c H locs 0 0 (MQ below (kL (dC, dI) (res.1) (wSB cI cJ cZ a ce fr un sb se so sc wb we wo wc (res.2.1) (res.2.2.1) (res.2.2.2.1) (res.2.2.2.2) rm ac rf kn) A) ([.ref (a 0), .long p0] : List Value).toArray s 0 0 A) (F0 m 15 ls []) := by
    intro n
    induction n with
    | zero =>
      intro ce fr un sb se so sc wb we wo wc fb fe fo fc rm ac rf kn x3 x5 H locs hP hD hS ls hl h
      have h := f_X1_mixFrees_15_0.symm.trans h
      cases h
    | succ n ih =>
      intro ce fr un sb se so sc wb we wo wc fb fe fo fc rm ac rf kn x3 x5 H locs hP hD hS ls hl h
      have h := f_X1_mixFrees_15_s.symm.trans h
      refine lv_iload hx hb dX1_mixFrees_15 (lv_at hl 2 rfl) ?_
      refine lv_aload_n hx hb dX1_mixFrees_17 rfl (lv_at hl 0 rfl) ?_
      refine va_get (D := (dC, dI)) (ci := 3) (v := .ref (a 10)) (C := RX1) (T := TX1) (N := 10) hx hb hts hiX1 hown hK hP 0 rfl rfl 5 (by decide) hw0 (fun _ h9 => h9) rfl dX1_mixFrees_18 ?_
      obtain ⟨r1, g1, h⟩ := g_b h
      refine kcall_i (wSB cI cJ cZ a ce fr un sb se so sc wb we wo wc fb fe fo fc rm ac rf kn) (va_runV (As := []) (rest := [.int x5]) ⟨hx, hb, hml, hown, hts⟩ (c_X0_count l dC dI cB cI cJ cZ (a 10) (a 11) (a 12) (a 13) _ fb fe fo fc  r1 g1) (kcwV hts kw_155 kv_X0_count rfl rfl ⟨(Nat.le_of_ble_eq_true rfl), (Nat.le_of_ble_eq_true rfl)⟩) (kpV (A := A) (hP.sub (kIT mk_19 0) (km_f (m := mk_19) rfl rfl)) hK (hD.sub (kIT mk_19 0) (km_nd mk_19) (km_T (m := mk_19) rfl rfl)) hG (va_recv hK hP (ci := 2) (q0 := 10) rfl rfl)) rfl rfl hl.1 rfl (lv_room (Nat.le_of_ble_eq_true rfl)) dX1_mixFrees_21 ⟨(Nat.le_of_ble_eq_true rfl), (Nat.le_of_ble_eq_true rfl)⟩) hP hD hS hA (kIT mk_19 0) (kIT mk_20 0) (km_T (m := mk_19) rfl rfl) (km_T (m := mk_19) rfl rfl) [((a 0), .inr (3, [.ref (a 1), .long fr, .long un, .ref (a 2), .ref (a 6), .ref (a 10), .ref (a 14), .int ac, .int rf, .int kn])), ((a 1), .inl (cJ, 4, .inr (.inl ce))), ((a 2), .inr (2, [.ref (a 3), .ref (a 4), .ref (a 5), .int sc])), ((a 3), .inl (cJ, 11, .inr (.inl sb))), ((a 4), .inl (cJ, 11, .inr (.inl se))), ((a 5), .inl (cZ, 11, .inl so)), ((a 6), .inr (2, [.ref (a 7), .ref (a 8), .ref (a 9), .int wc])), ((a 7), .inl (cJ, 11, .inr (.inl wb))), ((a 8), .inl (cJ, 11, .inr (.inl we))), ((a 9), .inl (cZ, 11, .inl wo)), ((a 14), .inl (cI, 11, .inl rm))] (km_T (m := mk_20) rfl rfl) (km_T (m := mk_20) rfl rfl) (km_cov (m := mk_19) (n := mk_20) rfl rfl) (km_dis (m := mk_19) (n := mk_20) rfl) rfl (fun H locs hP hD hS br1 => ?_)
      refine lv_icmp_ge (tgt := 44) hx hb dX1_mixFrees_24 (by decide) (fun c2 => ?_) (fun c2 => ?_)
      · have h := g_t c2 h
        refine lv_iconst (v := 0) hx hb dX1_mixFrees_44 (by decide) ?_
        refine lv_istore (lv' := [(5, .int 0), (0, .ref (a 0)), (3, .long x3)]) hx hb dX1_mixFrees_45 hl (by decide) rfl (fun ls hl => ?_)
        exact J47 24 ce fr un sb se so sc wb we wo wc fb fe fo fc rm ac rf kn x3 0 _ _ hP hD hS ls (lv_sub hl [1, 2, 0] rfl) h
      · have h := g_f c2 h
        refine lv_lload_n hx hb dX1_mixFrees_27 rfl (lv_at hl 1 rfl) ?_
        refine lv_aload_n hx hb dX1_mixFrees_28 rfl (lv_at hl 0 rfl) ?_
        refine va_get (D := (dC, dI)) (ci := 3) (v := .ref (a 10)) (C := RX1) (T := TX1) (N := 10) hx hb hts hiX1 hown hK hP 0 rfl rfl 5 (by decide) hw0 (fun _ h9 => h9) rfl dX1_mixFrees_29 ?_
        refine lv_iload hx hb dX1_mixFrees_32 (lv_at hl 2 rfl) ?_
        obtain ⟨r3, g3, h⟩ := g_b h
        refine kcall_l (wSB cI cJ cZ a ce fr un sb se so sc wb we wo wc fb fe fo fc rm ac rf kn) (va_runS (As := [.long x3, .ref (a 10), .int x5]) (rest := []) ⟨hx, hb, hml, hown, hts⟩ (c_X1_mixParts l dC dI cB cI cJ cZ (a 10) (a 11) (a 12) (a 13) _ fb fe fo fc x3 x5 r3 g3) (kcwS hts kw_430 kv_X1_mixParts rfl rfl ⟨(Nat.le_of_ble_eq_true rfl), (Nat.le_of_ble_eq_true rfl)⟩) (kpS (A := A) (hP.sub (kIT mk_19 0) (km_f (m := mk_19) rfl rfl)) hK (hD.sub (kIT mk_19 0) (km_nd mk_19) (km_T (m := mk_19) rfl rfl)) hG) rfl rfl hl.1 rfl (lv_room (Nat.le_of_ble_eq_true rfl)) dX1_mixFrees_34 ⟨(Nat.le_of_ble_eq_true rfl), (Nat.le_of_ble_eq_true rfl)⟩) hP hD hS hA (kIT mk_19 0) (kIT mk_20 0) (km_T (m := mk_19) rfl rfl) (km_T (m := mk_19) rfl rfl) [((a 0), .inr (3, [.ref (a 1), .long fr, .long un, .ref (a 2), .ref (a 6), .ref (a 10), .ref (a 14), .int ac, .int rf, .int kn])), ((a 1), .inl (cJ, 4, .inr (.inl ce))), ((a 2), .inr (2, [.ref (a 3), .ref (a 4), .ref (a 5), .int sc])), ((a 3), .inl (cJ, 11, .inr (.inl sb))), ((a 4), .inl (cJ, 11, .inr (.inl se))), ((a 5), .inl (cZ, 11, .inl so)), ((a 6), .inr (2, [.ref (a 7), .ref (a 8), .ref (a 9), .int wc])), ((a 7), .inl (cJ, 11, .inr (.inl wb))), ((a 8), .inl (cJ, 11, .inr (.inl we))), ((a 9), .inl (cZ, 11, .inl wo)), ((a 14), .inl (cI, 11, .inl rm))] (km_T (m := mk_20) rfl rfl) (km_T (m := mk_20) rfl rfl) (km_cov (m := mk_19) (n := mk_20) rfl rfl) (km_dis (m := mk_19) (n := mk_20) rfl) rfl (fun H locs hP hD hS => ?_)
        refine lv_lstore_n (lv' := [(3, .long r3), (0, .ref (a 0)), (5, .int x5)]) hx hb dX1_mixFrees_37 rfl hl (by decide) rfl (fun ls hl => ?_)
        refine lv_iinc (v := x5 + 1) (lv' := [(5, .int (x5 + 1)), (3, .long r3), (0, .ref (a 0))]) hx hb dX1_mixFrees_38 hl (k := 2) rfl rfl (by decide) rfl (fun ls hl => ?_)
        refine lv_goto (tgt := 15) hx hb dX1_mixFrees_41 (by decide) ?_
        exact ih ce fr un sb se so sc wb we wo wc fb fe fo fc rm ac rf kn r3 (x5 + 1) _ _ hP hD hS ls (lv_sub hl [2, 1, 0] rfl) h
  have hl := lv_entry ([.ref (a 0), .long p0]) (n := 6) (Nat.le_of_ble_eq_true rfl)
  rw [lg_entry_eq]
  generalize (lg_sl ([.ref (a 0), .long p0]) ++ List.replicate (6 - (lg_sl ([.ref (a 0), .long p0])).length) Slot.unset).toArray = ls at hl ⊢
  have hl : lv_has ls 6 [(0, .ref (a 0)), (1, .long p0)] := hl
  have h := f_X1_mixFrees_e.symm.trans hf
  refine lv_lload_n hx hb dX1_mixFrees_0 rfl (lv_at hl 1 rfl) ?_
  refine lv_aload_n hx hb dX1_mixFrees_1 rfl (lv_at hl 0 rfl) ?_
  refine va_get (D := (dC, dI)) (ci := 3) (v := .ref (a 10)) (C := RX1) (T := TX1) (N := 10) hx hb hts hiX1 hown hK hP 0 rfl rfl 5 (by decide) hw0 (fun _ h9 => h9) rfl dX1_mixFrees_2 ?_
  obtain ⟨r1, g1, h⟩ := g_b h
  refine kcall_i (wSB cI cJ cZ a ce fr un sb se so sc wb we wo wc fb fe fo fc rm ac rf kn) (va_runV (As := []) (rest := [.long p0]) ⟨hx, hb, hml, hown, hts⟩ (c_X0_count l dC dI cB cI cJ cZ (a 10) (a 11) (a 12) (a 13) _ fb fe fo fc  r1 g1) (kcwV hts kw_155 kv_X0_count rfl rfl ⟨(Nat.le_of_ble_eq_true rfl), (Nat.le_of_ble_eq_true rfl)⟩) (kpV (A := A) (hP.sub (kIT mk_19 0) (km_f (m := mk_19) rfl rfl)) hK (hD.sub (kIT mk_19 0) (km_nd mk_19) (km_T (m := mk_19) rfl rfl)) hG (va_recv hK hP (ci := 2) (q0 := 10) rfl rfl)) rfl rfl hl.1 rfl (lv_room (Nat.le_of_ble_eq_true rfl)) dX1_mixFrees_5 ⟨(Nat.le_of_ble_eq_true rfl), (Nat.le_of_ble_eq_true rfl)⟩) hP hD hS hA (kIT mk_19 0) (kIT mk_20 0) (km_T (m := mk_19) rfl rfl) (km_T (m := mk_19) rfl rfl) [((a 0), .inr (3, [.ref (a 1), .long fr, .long un, .ref (a 2), .ref (a 6), .ref (a 10), .ref (a 14), .int ac, .int rf, .int kn])), ((a 1), .inl (cJ, 4, .inr (.inl ce))), ((a 2), .inr (2, [.ref (a 3), .ref (a 4), .ref (a 5), .int sc])), ((a 3), .inl (cJ, 11, .inr (.inl sb))), ((a 4), .inl (cJ, 11, .inr (.inl se))), ((a 5), .inl (cZ, 11, .inl so)), ((a 6), .inr (2, [.ref (a 7), .ref (a 8), .ref (a 9), .int wc])), ((a 7), .inl (cJ, 11, .inr (.inl wb))), ((a 8), .inl (cJ, 11, .inr (.inl we))), ((a 9), .inl (cZ, 11, .inl wo)), ((a 14), .inl (cI, 11, .inl rm))] (km_T (m := mk_20) rfl rfl) (km_T (m := mk_20) rfl rfl) (km_cov (m := mk_19) (n := mk_20) rfl rfl) (km_dis (m := mk_19) (n := mk_20) rfl) rfl (fun H locs hP hD hS br1 => ?_)
  obtain ⟨r2, g2, h⟩ := g_b h
  refine kcall_l (wSB cI cJ cZ a ce fr un sb se so sc wb we wo wc fb fe fo fc rm ac rf kn) (va_runS (As := [.long p0, .int r1]) (rest := []) ⟨hx, hb, hml, hown, hts⟩ (c_X1_mix l dC dI cB cI cJ cZ  _  p0 r1 r2 g2) (kcwS hts kw_336 kv_X1_mix rfl rfl ⟨(Nat.le_of_ble_eq_true rfl), (Nat.le_of_ble_eq_true rfl)⟩) (kpS (A := A) (kPnil) hK ((kDnil (A := A))) hG) rfl rfl hl.1 rfl (lv_room (Nat.le_of_ble_eq_true rfl)) dX1_mixFrees_8 ⟨(Nat.le_of_ble_eq_true rfl), (Nat.le_of_ble_eq_true rfl)⟩) hP hD hS hA (kIT mk_13 0) (kIT mk_14 0) (km_T (m := mk_13) rfl rfl) (km_T (m := mk_13) rfl rfl) [((a 0), .inr (3, [.ref (a 1), .long fr, .long un, .ref (a 2), .ref (a 6), .ref (a 10), .ref (a 14), .int ac, .int rf, .int kn])), ((a 1), .inl (cJ, 4, .inr (.inl ce))), ((a 2), .inr (2, [.ref (a 3), .ref (a 4), .ref (a 5), .int sc])), ((a 3), .inl (cJ, 11, .inr (.inl sb))), ((a 4), .inl (cJ, 11, .inr (.inl se))), ((a 5), .inl (cZ, 11, .inl so)), ((a 6), .inr (2, [.ref (a 7), .ref (a 8), .ref (a 9), .int wc])), ((a 7), .inl (cJ, 11, .inr (.inl wb))), ((a 8), .inl (cJ, 11, .inr (.inl we))), ((a 9), .inl (cZ, 11, .inl wo)), ((a 10), .inr (2, [.ref (a 11), .ref (a 12), .ref (a 13), .int fc])), ((a 11), .inl (cJ, 11, .inr (.inl fb))), ((a 12), .inl (cJ, 11, .inr (.inl fe))), ((a 13), .inl (cZ, 11, .inl fo)), ((a 14), .inl (cI, 11, .inl rm))] (km_T (m := mk_14) rfl rfl) (km_T (m := mk_14) rfl rfl) (km_cov (m := mk_13) (n := mk_14) rfl rfl) (km_dis (m := mk_13) (n := mk_14) rfl) rfl (fun H locs hP hD hS => ?_)
  refine lv_lstore_n (lv' := [(3, .long r2), (0, .ref (a 0)), (1, .long p0)]) hx hb dX1_mixFrees_11 rfl hl (by decide) rfl (fun ls hl => ?_)
  refine lv_iconst (v := 0) hx hb dX1_mixFrees_12 (by decide) ?_
  refine lv_istore (lv' := [(5, .int 0), (3, .long r2), (0, .ref (a 0)), (1, .long p0)]) hx hb dX1_mixFrees_13 hl (by decide) rfl (fun ls hl => ?_)
  exact J15 24 ce fr un sb se so sc wb we wo wc fb fe fo fc rm ac rf kn r2 0 _ _ hP hD hS ls (lv_sub hl [2, 1, 0] rfl) h
abbrev wsX1_mixWishes : List Cond := kWs yX1_mixWishes cX1_mixWishes 6 (some .long)
def f_X1_mixWishes_15 : Nat → (Nat → Int64) → (Nat → Int64) → (Int32) → (Nat → Int32) → (Int64) → (Int32) → Option (Int64)
  | 0, _, _, _, _, _, _ => none
  | n + 1, wb, we, wc, rm, x3, x5 =>
    (f_X0_count wc).bind fun r1 =>
    if r1 ≤ x5 then
      (f_X1_chosen wb we wc).bind fun r3 =>
      (f_X1_mix x3 r3).bind fun r4 =>
      (f_X1_mostOfAllSets wb we wc).bind fun r5 =>
      (f_X1_mix r4 r5).bind fun r6 =>
      (f_X1_crowd wb we wc).bind fun r7 =>
      (f_X1_mix r6 r7).bind fun r8 =>
      some r8
    else
      (f_X1_mixParts wb we wc x3 x5).bind fun r3 =>
      if ix x5 11 then
        (f_X1_mix r3 (rm x5.toNatClampNeg)).bind fun r5 =>
        f_X1_mixWishes_15 n wb we wc rm r5 (x5 + 1)
      else none
theorem f_X1_mixWishes_15_0 {wb : Nat → Int64} {we : Nat → Int64} {wc : Int32} {rm : Nat → Int32} {x3 : Int64} {x5 : Int32} : f_X1_mixWishes_15 0 wb we wc rm x3 x5 = none := rfl
theorem f_X1_mixWishes_15_s {n : Nat} {wb : Nat → Int64} {we : Nat → Int64} {wc : Int32} {rm : Nat → Int32} {x3 : Int64} {x5 : Int32} : f_X1_mixWishes_15 (n + 1) wb we wc rm x3 x5 =
  (f_X0_count wc).bind fun r1 =>
  if r1 ≤ x5 then
    (f_X1_chosen wb we wc).bind fun r3 =>
    (f_X1_mix x3 r3).bind fun r4 =>
    (f_X1_mostOfAllSets wb we wc).bind fun r5 =>
    (f_X1_mix r4 r5).bind fun r6 =>
    (f_X1_crowd wb we wc).bind fun r7 =>
    (f_X1_mix r6 r7).bind fun r8 =>
    some r8
  else
    (f_X1_mixParts wb we wc x3 x5).bind fun r3 =>
    if ix x5 11 then
      (f_X1_mix r3 (rm x5.toNatClampNeg)).bind fun r5 =>
      f_X1_mixWishes_15 n wb we wc rm r5 (x5 + 1)
    else none := rfl
def f_X1_mixWishes (wb : Nat → Int64) (we : Nat → Int64) (wc : Int32) (rm : Nat → Int32) (p0 : Int64) : Option (Int64) :=
  (f_X0_count wc).bind fun r1 =>
  (f_X1_mix p0 r1).bind fun r2 =>
  f_X1_mixWishes_15 24 wb we wc rm r2 0
theorem f_X1_mixWishes_e {wb : Nat → Int64} {we : Nat → Int64} {wc : Int32} {rm : Nat → Int32} {p0 : Int64} : f_X1_mixWishes wb we wc rm p0 = 
  (f_X0_count wc).bind fun r1 =>
  (f_X1_mix p0 r1).bind fun r2 =>
  f_X1_mixWishes_15 24 wb we wc rm r2 0 := rfl
set_option maxHeartbeats 4000000 in
set_option maxRecDepth 100000 in
theorem c_X1_mixWishes (l : Launch) (dC : Nat → ClassId) (dI : Nat → Nat → Nat) (cB cI cJ cZ : ClassId) (a : Nat → Nat) (sz : Nat) (ce : Nat → Int64) (fr : Int64) (un : Int64) (sb : Nat → Int64) (se : Nat → Int64) (so : Nat → Int32) (sc : Int32) (wb : Nat → Int64) (we : Nat → Int64) (wo : Nat → Int32) (wc : Int32) (fb : Nat → Int64) (fe : Nat → Int64) (fo : Nat → Int32) (fc : Int32) (rm : Nat → Int32) (ac : Int32) (rf : Int32) (kn : Int32) (p0 : Int64) (res : Int64) (hf : f_X1_mixWishes wb we wc rm p0 = some res) : Met l yX1_mixWishes wsX1_mixWishes ({ frames := 5, cells := 0, slots := 0, locals := 116 } : Room) (kPre (dC, dI) (kTy cB cI cJ cZ) [.ref (a 0), .long p0] sz (wSB cI cJ cZ a ce fr un sb se so sc wb we wo wc fb fe fo fc rm ac rf kn)) (kL (dC, dI) (res) (wSB cI cJ cZ a ce fr un sb se so sc wb we wo wc fb fe fo fc rm ac rf kn) (va_A (wSB cI cJ cZ a ce fr un sb se so sc wb we wo wc fb fe fo fc rm ac rf kn) sz)) 0 0 (va_A (wSB cI cJ cZ a ce fr un sb se so sc wb we wo wc fb fe fo fc rm ac rf kn) sz) := by
  refine Met.ofW (cc := cX1_mixWishes) (maxL := 6) (ret := (some .long)) (by decide) rfl ?_
  intro p e s m args below meth c s₁ B hml hv
  obtain ⟨rfl, hsz, hP, hK, hD0, hG⟩ := hv
  have hx := B.exec
  have hb := B.bytes
  have hr := B.returns
  have hts := atoms_spec (ws := wsX1_mixWishes) B.pre
  have hown : s.vm.findClass RX1 = some m.cls := findClass_of_methodNamed B.named
  have hlocks := B.notSynchronized
  subst hsz
  have hD := hD0.self (sz := s.heap.size)
  generalize hAe : va_A (wSB cI cJ cZ a ce fr un sb se so sc wb we wo wc fb fe fo fc rm ac rf kn) s.heap.size = A at hD ⊢
  have hA : ∀ q : Nat, s.heap.size ≤ q → A q := fun q h => by rw [← hAe]; exact Or.inr h
  have hS : va_S A s.heap s.heap [] := va_S.rf
  clear hAe
  have hw0 := hts (.fieldLink RX1 29 "Spanbooker" "wishRow" "LSpanbooker$Row;") (List.mem_cons_of_mem _ kw_111)
  have hw1 := hts (.fieldLink RX1 35 "Spanbooker" "roomOf" "[I") (List.mem_cons_of_mem _ kw_113)
  have hiX1 : ∀ w ∈ u_ws RX1 TX1 10, w ∈ wsX1_mixWishes := fun w h => List.mem_cons_of_mem _ (ku_X1 w h)
  have J15 : ∀ (n : Nat), ∀ (ce : Nat → Int64) (fr : Int64) (un : Int64) (sb : Nat → Int64) (se : Nat → Int64) (so : Nat → Int32) (sc : Int32) (wb : Nat → Int64) (we : Nat → Int64) (wo : Nat → Int32) (wc : Int32) (fb : Nat → Int64) (fe : Nat → Int64) (fo : Nat → Int32) (fc : Int32) (rm : Nat → Int32) (ac : Int32) (rf : Int32) (kn : Int32) (x3 : Int64) (x5 : Int32) (H : Heap) (locs : List Loc), va_P (dC, dI) vwCl (wSB cI cJ cZ a ce fr un sb se so sc wb we wo wc fb fe fo fc rm ac rf kn) H → va_D A (wSB cI cJ cZ a ce fr un sb se so sc wb we wo wc fb fe fo fc rm ac rf kn) → va_S A s.heap H locs → ∀ (ls : Array Slot), lv_has ls 6 [(0, .ref (a 0)), (3, .long x3), (5, .int x5)] → f_X1_mixWishes_15 n wb we wc rm x3 x5 = some res → W p l e (headSpec wsX1_mixWishes ({ frames := 5, cells := 0, slots := 0, locals := 116 } : Room)).room s m ([.ref (a 0), .long p0] : List Value).toArray below meth c H locs 0 0 (MQ below (kL (dC, dI) (res) (wSB cI cJ cZ a ce fr un sb se so sc wb we wo wc fb fe fo fc rm ac rf kn) A) ([.ref (a 0), .long p0] : List Value).toArray s 0 0 A) (F0 m 15 ls []) := by
    intro n
    induction n with
    | zero =>
      intro ce fr un sb se so sc wb we wo wc fb fe fo fc rm ac rf kn x3 x5 H locs hP hD hS ls hl h
      have h := f_X1_mixWishes_15_0.symm.trans h
      cases h
    | succ n ih =>
      intro ce fr un sb se so sc wb we wo wc fb fe fo fc rm ac rf kn x3 x5 H locs hP hD hS ls hl h
      have h := f_X1_mixWishes_15_s.symm.trans h
      refine lv_iload hx hb dX1_mixWishes_15 (lv_at hl 2 rfl) ?_
      refine lv_aload_n hx hb dX1_mixWishes_17 rfl (lv_at hl 0 rfl) ?_
      refine va_get (D := (dC, dI)) (ci := 3) (v := .ref (a 6)) (C := RX1) (T := TX1) (N := 10) hx hb hts hiX1 hown hK hP 0 rfl rfl 4 (by decide) hw0 (fun _ h9 => h9) rfl dX1_mixWishes_18 ?_
      obtain ⟨r1, g1, h⟩ := g_b h
      refine kcall_i (wSB cI cJ cZ a ce fr un sb se so sc wb we wo wc fb fe fo fc rm ac rf kn) (va_runV (As := []) (rest := [.int x5]) ⟨hx, hb, hml, hown, hts⟩ (c_X0_count l dC dI cB cI cJ cZ (a 6) (a 7) (a 8) (a 9) _ wb we wo wc  r1 g1) (kcwV hts kw_155 kv_X0_count rfl rfl ⟨(Nat.le_of_ble_eq_true rfl), (Nat.le_of_ble_eq_true rfl)⟩) (kpV (A := A) (hP.sub (kIT mk_17 0) (km_f (m := mk_17) rfl rfl)) hK (hD.sub (kIT mk_17 0) (km_nd mk_17) (km_T (m := mk_17) rfl rfl)) hG (va_recv hK hP (ci := 2) (q0 := 6) rfl rfl)) rfl rfl hl.1 rfl (lv_room (Nat.le_of_ble_eq_true rfl)) dX1_mixWishes_21 ⟨(Nat.le_of_ble_eq_true rfl), (Nat.le_of_ble_eq_true rfl)⟩) hP hD hS hA (kIT mk_17 0) (kIT mk_18 0) (km_T (m := mk_17) rfl rfl) (km_T (m := mk_17) rfl rfl) [((a 0), .inr (3, [.ref (a 1), .long fr, .long un, .ref (a 2), .ref (a 6), .ref (a 10), .ref (a 14), .int ac, .int rf, .int kn])), ((a 1), .inl (cJ, 4, .inr (.inl ce))), ((a 2), .inr (2, [.ref (a 3), .ref (a 4), .ref (a 5), .int sc])), ((a 3), .inl (cJ, 11, .inr (.inl sb))), ((a 4), .inl (cJ, 11, .inr (.inl se))), ((a 5), .inl (cZ, 11, .inl so)), ((a 10), .inr (2, [.ref (a 11), .ref (a 12), .ref (a 13), .int fc])), ((a 11), .inl (cJ, 11, .inr (.inl fb))), ((a 12), .inl (cJ, 11, .inr (.inl fe))), ((a 13), .inl (cZ, 11, .inl fo)), ((a 14), .inl (cI, 11, .inl rm))] (km_T (m := mk_18) rfl rfl) (km_T (m := mk_18) rfl rfl) (km_cov (m := mk_17) (n := mk_18) rfl rfl) (km_dis (m := mk_17) (n := mk_18) rfl) rfl (fun H locs hP hD hS br1 => ?_)
      refine lv_icmp_ge (tgt := 56) hx hb dX1_mixWishes_24 (by decide) (fun c2 => ?_) (fun c2 => ?_)
      · have h := g_t c2 h
        refine lv_lload_n hx hb dX1_mixWishes_56 rfl (lv_at hl 1 rfl) ?_
        refine lv_aload_n hx hb dX1_mixWishes_57 rfl (lv_at hl 0 rfl) ?_
        obtain ⟨r3, g3, h⟩ := g_b h
        refine kcall_i (wSB cI cJ cZ a ce fr un sb se so sc wb we wo wc fb fe fo fc rm ac rf kn) (va_runV (As := []) (rest := [.long x3]) ⟨hx, hb, hml, hown, hts⟩ (c_X1_chosen l dC dI cB cI cJ cZ a _ ce fr un sb se so sc wb we wo wc fb fe fo fc rm ac rf kn  r3 g3) (kcwV hts kw_300 kv_X1_chosen rfl rfl ⟨(Nat.le_of_ble_eq_true rfl), (Nat.le_of_ble_eq_true rfl)⟩) (kpV (A := A) (hP.sub (kIT mk_14 0) (km_f (m := mk_14) rfl rfl)) hK (hD.sub (kIT mk_14 0) (km_nd mk_14) (km_T (m := mk_14) rfl rfl)) hG (va_recv hK hP (ci := 3) (q0 := 0) rfl rfl)) rfl rfl hl.1 rfl (lv_room (Nat.le_of_ble_eq_true rfl)) dX1_mixWishes_58 ⟨(Nat.le_of_ble_eq_true rfl), (Nat.le_of_ble_eq_true rfl)⟩) hP hD hS hA (kIT mk_14 0) (kIT mk_13 0) (km_T (m := mk_14) rfl rfl) (km_T (m := mk_14) rfl rfl) [] (km_T (m := mk_13) rfl rfl) (km_T (m := mk_13) rfl rfl) (km_cov (m := mk_14) (n := mk_13) rfl rfl) (km_dis (m := mk_14) (n := mk_13) rfl) rfl (fun H locs hP hD hS br3 => ?_)
        obtain ⟨r4, g4, h⟩ := g_b h
        refine kcall_l (wSB cI cJ cZ a ce fr un sb se so sc wb we wo wc fb fe fo fc rm ac rf kn) (va_runS (As := [.long x3, .int r3]) (rest := []) ⟨hx, hb, hml, hown, hts⟩ (c_X1_mix l dC dI cB cI cJ cZ  _  x3 r3 r4 g4) (kcwS hts kw_336 kv_X1_mix rfl rfl ⟨(Nat.le_of_ble_eq_true rfl), (Nat.le_of_ble_eq_true rfl)⟩) (kpS (A := A) (kPnil) hK ((kDnil (A := A))) hG) rfl rfl hl.1 rfl (lv_room (Nat.le_of_ble_eq_true rfl)) dX1_mixWishes_61 ⟨(Nat.le_of_ble_eq_true rfl), (Nat.le_of_ble_eq_true rfl)⟩) hP hD hS hA (kIT mk_13 0) (kIT mk_14 0) (km_T (m := mk_13) rfl rfl) (km_T (m := mk_13) rfl rfl) [((a 0), .inr (3, [.ref (a 1), .long fr, .long un, .ref (a 2), .ref (a 6), .ref (a 10), .ref (a 14), .int ac, .int rf, .int kn])), ((a 1), .inl (cJ, 4, .inr (.inl ce))), ((a 2), .inr (2, [.ref (a 3), .ref (a 4), .ref (a 5), .int sc])), ((a 3), .inl (cJ, 11, .inr (.inl sb))), ((a 4), .inl (cJ, 11, .inr (.inl se))), ((a 5), .inl (cZ, 11, .inl so)), ((a 6), .inr (2, [.ref (a 7), .ref (a 8), .ref (a 9), .int wc])), ((a 7), .inl (cJ, 11, .inr (.inl wb))), ((a 8), .inl (cJ, 11, .inr (.inl we))), ((a 9), .inl (cZ, 11, .inl wo)), ((a 10), .inr (2, [.ref (a 11), .ref (a 12), .ref (a 13), .int fc])), ((a 11), .inl (cJ, 11, .inr (.inl fb))), ((a 12), .inl (cJ, 11, .inr (.inl fe))), ((a 13), .inl (cZ, 11, .inl fo)), ((a 14), .inl (cI, 11, .inl rm))] (km_T (m := mk_14) rfl rfl) (km_T (m := mk_14) rfl rfl) (km_cov (m := mk_13) (n := mk_14) rfl rfl) (km_dis (m := mk_13) (n := mk_14) rfl) rfl (fun H locs hP hD hS => ?_)
        refine lv_lstore_n (lv' := [(3, .long r4), (0, .ref (a 0)), (5, .int x5)]) hx hb dX1_mixWishes_64 rfl hl (by decide) rfl (fun ls hl => ?_)
        refine lv_lload_n hx hb dX1_mixWishes_65 rfl (lv_at hl 0 rfl) ?_
        refine lv_aload_n hx hb dX1_mixWishes_66 rfl (lv_at hl 1 rfl) ?_
        obtain ⟨r5, g5, h⟩ := g_b h
        refine kcall_i (wSB cI cJ cZ a ce fr un sb se so sc wb we wo wc fb fe fo fc rm ac rf kn) (va_runV (As := []) (rest := [.long r4]) ⟨hx, hb, hml, hown, hts⟩ (c_X1_mostOfAllSets l dC dI cB cI cJ cZ a _ ce fr un sb se so sc wb we wo wc fb fe fo fc rm ac rf kn  r5 g5) (kcwV hts kw_311 kv_X1_mostOfAllSets rfl rfl ⟨(Nat.le_of_ble_eq_true rfl), (Nat.le_of_ble_eq_true rfl)⟩) (kpV (A := A) (hP.sub (kIT mk_14 0) (km_f (m := mk_14) rfl rfl)) hK (hD.sub (kIT mk_14 0) (km_nd mk_14) (km_T (m := mk_14) rfl rfl)) hG (va_recv hK hP (ci := 3) (q0 := 0) rfl rfl)) rfl rfl hl.1 rfl (lv_room (Nat.le_of_ble_eq_true rfl)) dX1_mixWishes_67 ⟨(Nat.le_of_ble_eq_true rfl), (Nat.le_of_ble_eq_true rfl)⟩) hP hD hS hA (kIT mk_14 0) (kIT mk_13 0) (km_T (m := mk_14) rfl rfl) (km_T (m := mk_14) rfl rfl) [] (km_T (m := mk_13) rfl rfl) (km_T (m := mk_13) rfl rfl) (km_cov (m := mk_14) (n := mk_13) rfl rfl) (km_dis (m := mk_14) (n := mk_13) rfl) rfl (fun H locs hP hD hS br5 => ?_)
        obtain ⟨r6, g6, h⟩ := g_b h
        refine kcall_l (wSB cI cJ cZ a ce fr un sb se so sc wb we wo wc fb fe fo fc rm ac rf kn) (va_runS (As := [.long r4, .int r5]) (rest := []) ⟨hx, hb, hml, hown, hts⟩ (c_X1_mix l dC dI cB cI cJ cZ  _  r4 r5 r6 g6) (kcwS hts kw_336 kv_X1_mix rfl rfl ⟨(Nat.le_of_ble_eq_true rfl), (Nat.le_of_ble_eq_true rfl)⟩) (kpS (A := A) (kPnil) hK ((kDnil (A := A))) hG) rfl rfl hl.1 rfl (lv_room (Nat.le_of_ble_eq_true rfl)) dX1_mixWishes_70 ⟨(Nat.le_of_ble_eq_true rfl), (Nat.le_of_ble_eq_true rfl)⟩) hP hD hS hA (kIT mk_13 0) (kIT mk_14 0) (km_T (m := mk_13) rfl rfl) (km_T (m := mk_13) rfl rfl) [((a 0), .inr (3, [.ref (a 1), .long fr, .long un, .ref (a 2), .ref (a 6), .ref (a 10), .ref (a 14), .int ac, .int rf, .int kn])), ((a 1), .inl (cJ, 4, .inr (.inl ce))), ((a 2), .inr (2, [.ref (a 3), .ref (a 4), .ref (a 5), .int sc])), ((a 3), .inl (cJ, 11, .inr (.inl sb))), ((a 4), .inl (cJ, 11, .inr (.inl se))), ((a 5), .inl (cZ, 11, .inl so)), ((a 6), .inr (2, [.ref (a 7), .ref (a 8), .ref (a 9), .int wc])), ((a 7), .inl (cJ, 11, .inr (.inl wb))), ((a 8), .inl (cJ, 11, .inr (.inl we))), ((a 9), .inl (cZ, 11, .inl wo)), ((a 10), .inr (2, [.ref (a 11), .ref (a 12), .ref (a 13), .int fc])), ((a 11), .inl (cJ, 11, .inr (.inl fb))), ((a 12), .inl (cJ, 11, .inr (.inl fe))), ((a 13), .inl (cZ, 11, .inl fo)), ((a 14), .inl (cI, 11, .inl rm))] (km_T (m := mk_14) rfl rfl) (km_T (m := mk_14) rfl rfl) (km_cov (m := mk_13) (n := mk_14) rfl rfl) (km_dis (m := mk_13) (n := mk_14) rfl) rfl (fun H locs hP hD hS => ?_)
        refine lv_lstore_n (lv' := [(3, .long r6), (0, .ref (a 0)), (5, .int x5)]) hx hb dX1_mixWishes_73 rfl hl (by decide) rfl (fun ls hl => ?_)
        refine lv_lload_n hx hb dX1_mixWishes_74 rfl (lv_at hl 0 rfl) ?_
        refine lv_aload_n hx hb dX1_mixWishes_75 rfl (lv_at hl 1 rfl) ?_
        obtain ⟨r7, g7, h⟩ := g_b h
        refine kcall_i (wSB cI cJ cZ a ce fr un sb se so sc wb we wo wc fb fe fo fc rm ac rf kn) (va_runV (As := []) (rest := [.long r6]) ⟨hx, hb, hml, hown, hts⟩ (c_X1_crowd l dC dI cB cI cJ cZ a _ ce fr un sb se so sc wb we wo wc fb fe fo fc rm ac rf kn  r7 g7) (kcwV hts kw_319 kv_X1_crowd rfl rfl ⟨(Nat.le_of_ble_eq_true rfl), (Nat.le_of_ble_eq_true rfl)⟩) (kpV (A := A) (hP.sub (kIT mk_14 0) (km_f (m := mk_14) rfl rfl)) hK (hD.sub (kIT mk_14 0) (km_nd mk_14) (km_T (m := mk_14) rfl rfl)) hG (va_recv hK hP (ci := 3) (q0 := 0) rfl rfl)) rfl rfl hl.1 rfl (lv_room (Nat.le_of_ble_eq_true rfl)) dX1_mixWishes_76 ⟨(Nat.le_of_ble_eq_true rfl), (Nat.le_of_ble_eq_true rfl)⟩) hP hD hS hA (kIT mk_14 0) (kIT mk_13 0) (km_T (m := mk_14) rfl rfl) (km_T (m := mk_14) rfl rfl) [] (km_T (m := mk_13) rfl rfl) (km_T (m := mk_13) rfl rfl) (km_cov (m := mk_14) (n := mk_13) rfl rfl) (km_dis (m := mk_14) (n := mk_13) rfl) rfl (fun H locs hP hD hS br7 => ?_)
        obtain ⟨r8, g8, h⟩ := g_b h
        refine kcall_l (wSB cI cJ cZ a ce fr un sb se so sc wb we wo wc fb fe fo fc rm ac rf kn) (va_runS (As := [.long r6, .int r7]) (rest := []) ⟨hx, hb, hml, hown, hts⟩ (c_X1_mix l dC dI cB cI cJ cZ  _  r6 r7 r8 g8) (kcwS hts kw_336 kv_X1_mix rfl rfl ⟨(Nat.le_of_ble_eq_true rfl), (Nat.le_of_ble_eq_true rfl)⟩) (kpS (A := A) (kPnil) hK ((kDnil (A := A))) hG) rfl rfl hl.1 rfl (lv_room (Nat.le_of_ble_eq_true rfl)) dX1_mixWishes_79 ⟨(Nat.le_of_ble_eq_true rfl), (Nat.le_of_ble_eq_true rfl)⟩) hP hD hS hA (kIT mk_13 0) (kIT mk_14 0) (km_T (m := mk_13) rfl rfl) (km_T (m := mk_13) rfl rfl) [((a 0), .inr (3, [.ref (a 1), .long fr, .long un, .ref (a 2), .ref (a 6), .ref (a 10), .ref (a 14), .int ac, .int rf, .int kn])), ((a 1), .inl (cJ, 4, .inr (.inl ce))), ((a 2), .inr (2, [.ref (a 3), .ref (a 4), .ref (a 5), .int sc])), ((a 3), .inl (cJ, 11, .inr (.inl sb))), ((a 4), .inl (cJ, 11, .inr (.inl se))), ((a 5), .inl (cZ, 11, .inl so)), ((a 6), .inr (2, [.ref (a 7), .ref (a 8), .ref (a 9), .int wc])), ((a 7), .inl (cJ, 11, .inr (.inl wb))), ((a 8), .inl (cJ, 11, .inr (.inl we))), ((a 9), .inl (cZ, 11, .inl wo)), ((a 10), .inr (2, [.ref (a 11), .ref (a 12), .ref (a 13), .int fc])), ((a 11), .inl (cJ, 11, .inr (.inl fb))), ((a 12), .inl (cJ, 11, .inr (.inl fe))), ((a 13), .inl (cZ, 11, .inl fo)), ((a 14), .inl (cI, 11, .inl rm))] (km_T (m := mk_14) rfl rfl) (km_T (m := mk_14) rfl rfl) (km_cov (m := mk_13) (n := mk_14) rfl rfl) (km_dis (m := mk_13) (n := mk_14) rfl) rfl (fun H locs hP hD hS => ?_)
        have h := Option.some.inj h
        subst h
        exact kret_l (v := r8) hx hb hr hlocks hS hP dX1_mixWishes_82
      · have h := g_f c2 h
        refine lv_lload_n hx hb dX1_mixWishes_27 rfl (lv_at hl 1 rfl) ?_
        refine lv_aload_n hx hb dX1_mixWishes_28 rfl (lv_at hl 0 rfl) ?_
        refine va_get (D := (dC, dI)) (ci := 3) (v := .ref (a 6)) (C := RX1) (T := TX1) (N := 10) hx hb hts hiX1 hown hK hP 0 rfl rfl 4 (by decide) hw0 (fun _ h9 => h9) rfl dX1_mixWishes_29 ?_
        refine lv_iload hx hb dX1_mixWishes_32 (lv_at hl 2 rfl) ?_
        obtain ⟨r3, g3, h⟩ := g_b h
        refine kcall_l (wSB cI cJ cZ a ce fr un sb se so sc wb we wo wc fb fe fo fc rm ac rf kn) (va_runS (As := [.long x3, .ref (a 6), .int x5]) (rest := []) ⟨hx, hb, hml, hown, hts⟩ (c_X1_mixParts l dC dI cB cI cJ cZ (a 6) (a 7) (a 8) (a 9) _ wb we wo wc x3 x5 r3 g3) (kcwS hts kw_430 kv_X1_mixParts rfl rfl ⟨(Nat.le_of_ble_eq_true rfl), (Nat.le_of_ble_eq_true rfl)⟩) (kpS (A := A) (hP.sub (kIT mk_17 0) (km_f (m := mk_17) rfl rfl)) hK (hD.sub (kIT mk_17 0) (km_nd mk_17) (km_T (m := mk_17) rfl rfl)) hG) rfl rfl hl.1 rfl (lv_room (Nat.le_of_ble_eq_true rfl)) dX1_mixWishes_34 ⟨(Nat.le_of_ble_eq_true rfl), (Nat.le_of_ble_eq_true rfl)⟩) hP hD hS hA (kIT mk_17 0) (kIT mk_18 0) (km_T (m := mk_17) rfl rfl) (km_T (m := mk_17) rfl rfl) [((a 0), .inr (3, [.ref (a 1), .long fr, .long un, .ref (a 2), .ref (a 6), .ref (a 10), .ref (a 14), .int ac, .int rf, .int kn])), ((a 1), .inl (cJ, 4, .inr (.inl ce))), ((a 2), .inr (2, [.ref (a 3), .ref (a 4), .ref (a 5), .int sc])), ((a 3), .inl (cJ, 11, .inr (.inl sb))), ((a 4), .inl (cJ, 11, .inr (.inl se))), ((a 5), .inl (cZ, 11, .inl so)), ((a 10), .inr (2, [.ref (a 11), .ref (a 12), .ref (a 13), .int fc])), ((a 11), .inl (cJ, 11, .inr (.inl fb))), ((a 12), .inl (cJ, 11, .inr (.inl fe))), ((a 13), .inl (cZ, 11, .inl fo)), ((a 14), .inl (cI, 11, .inl rm))] (km_T (m := mk_18) rfl rfl) (km_T (m := mk_18) rfl rfl) (km_cov (m := mk_17) (n := mk_18) rfl rfl) (km_dis (m := mk_17) (n := mk_18) rfl) rfl (fun H locs hP hD hS => ?_)
        refine lv_lstore_n (lv' := [(3, .long r3), (0, .ref (a 0)), (5, .int x5)]) hx hb dX1_mixWishes_37 rfl hl (by decide) rfl (fun ls hl => ?_)
        refine lv_lload_n hx hb dX1_mixWishes_38 rfl (lv_at hl 0 rfl) ?_
        refine lv_aload_n hx hb dX1_mixWishes_39 rfl (lv_at hl 1 rfl) ?_
        refine va_get (D := (dC, dI)) (ci := 3) (v := .ref (a 14)) (C := RX1) (T := TX1) (N := 10) hx hb hts hiX1 hown hK hP 0 rfl rfl 6 (by decide) hw1 (fun _ h9 => h9) rfl dX1_mixWishes_40 ?_
        refine lv_iload hx hb dX1_mixWishes_43 (lv_at hl 2 rfl) ?_
        obtain ⟨z3, h⟩ := g_if h
        refine va_iald hx hb hK hP 14 1 rfl rfl (ix_in z3) dX1_mixWishes_45 ?_
        obtain ⟨r5, g5, h⟩ := g_b h
        refine kcall_l (wSB cI cJ cZ a ce fr un sb se so sc wb we wo wc fb fe fo fc rm ac rf kn) (va_runS (As := [.long r3, .int (rm x5.toNatClampNeg)]) (rest := []) ⟨hx, hb, hml, hown, hts⟩ (c_X1_mix l dC dI cB cI cJ cZ  _  r3 (rm x5.toNatClampNeg) r5 g5) (kcwS hts kw_336 kv_X1_mix rfl rfl ⟨(Nat.le_of_ble_eq_true rfl), (Nat.le_of_ble_eq_true rfl)⟩) (kpS (A := A) (kPnil) hK ((kDnil (A := A))) hG) rfl rfl hl.1 rfl (lv_room (Nat.le_of_ble_eq_true rfl)) dX1_mixWishes_46 ⟨(Nat.le_of_ble_eq_true rfl), (Nat.le_of_ble_eq_true rfl)⟩) hP hD hS hA (kIT mk_13 0) (kIT mk_14 0) (km_T (m := mk_13) rfl rfl) (km_T (m := mk_13) rfl rfl) [((a 0), .inr (3, [.ref (a 1), .long fr, .long un, .ref (a 2), .ref (a 6), .ref (a 10), .ref (a 14), .int ac, .int rf, .int kn])), ((a 1), .inl (cJ, 4, .inr (.inl ce))), ((a 2), .inr (2, [.ref (a 3), .ref (a 4), .ref (a 5), .int sc])), ((a 3), .inl (cJ, 11, .inr (.inl sb))), ((a 4), .inl (cJ, 11, .inr (.inl se))), ((a 5), .inl (cZ, 11, .inl so)), ((a 6), .inr (2, [.ref (a 7), .ref (a 8), .ref (a 9), .int wc])), ((a 7), .inl (cJ, 11, .inr (.inl wb))), ((a 8), .inl (cJ, 11, .inr (.inl we))), ((a 9), .inl (cZ, 11, .inl wo)), ((a 10), .inr (2, [.ref (a 11), .ref (a 12), .ref (a 13), .int fc])), ((a 11), .inl (cJ, 11, .inr (.inl fb))), ((a 12), .inl (cJ, 11, .inr (.inl fe))), ((a 13), .inl (cZ, 11, .inl fo)), ((a 14), .inl (cI, 11, .inl rm))] (km_T (m := mk_14) rfl rfl) (km_T (m := mk_14) rfl rfl) (km_cov (m := mk_13) (n := mk_14) rfl rfl) (km_dis (m := mk_13) (n := mk_14) rfl) rfl (fun H locs hP hD hS => ?_)
        refine lv_lstore_n (lv' := [(3, .long r5), (0, .ref (a 0)), (5, .int x5)]) hx hb dX1_mixWishes_49 rfl hl (by decide) rfl (fun ls hl => ?_)
        refine lv_iinc (v := x5 + 1) (lv' := [(5, .int (x5 + 1)), (3, .long r5), (0, .ref (a 0))]) hx hb dX1_mixWishes_50 hl (k := 2) rfl rfl (by decide) rfl (fun ls hl => ?_)
        refine lv_goto (tgt := 15) hx hb dX1_mixWishes_53 (by decide) ?_
        exact ih ce fr un sb se so sc wb we wo wc fb fe fo fc rm ac rf kn r5 (x5 + 1) _ _ hP hD hS ls (lv_sub hl [2, 1, 0] rfl) h
  have hl := lv_entry ([.ref (a 0), .long p0]) (n := 6) (Nat.le_of_ble_eq_true rfl)
  rw [lg_entry_eq]
  generalize (lg_sl ([.ref (a 0), .long p0]) ++ List.replicate (6 - (lg_sl ([.ref (a 0), .long p0])).length) Slot.unset).toArray = ls at hl ⊢
  have hl : lv_has ls 6 [(0, .ref (a 0)), (1, .long p0)] := hl
  have h := f_X1_mixWishes_e.symm.trans hf
  refine lv_lload_n hx hb dX1_mixWishes_0 rfl (lv_at hl 1 rfl) ?_
  refine lv_aload_n hx hb dX1_mixWishes_1 rfl (lv_at hl 0 rfl) ?_
  refine va_get (D := (dC, dI)) (ci := 3) (v := .ref (a 6)) (C := RX1) (T := TX1) (N := 10) hx hb hts hiX1 hown hK hP 0 rfl rfl 4 (by decide) hw0 (fun _ h9 => h9) rfl dX1_mixWishes_2 ?_
  obtain ⟨r1, g1, h⟩ := g_b h
  refine kcall_i (wSB cI cJ cZ a ce fr un sb se so sc wb we wo wc fb fe fo fc rm ac rf kn) (va_runV (As := []) (rest := [.long p0]) ⟨hx, hb, hml, hown, hts⟩ (c_X0_count l dC dI cB cI cJ cZ (a 6) (a 7) (a 8) (a 9) _ wb we wo wc  r1 g1) (kcwV hts kw_155 kv_X0_count rfl rfl ⟨(Nat.le_of_ble_eq_true rfl), (Nat.le_of_ble_eq_true rfl)⟩) (kpV (A := A) (hP.sub (kIT mk_17 0) (km_f (m := mk_17) rfl rfl)) hK (hD.sub (kIT mk_17 0) (km_nd mk_17) (km_T (m := mk_17) rfl rfl)) hG (va_recv hK hP (ci := 2) (q0 := 6) rfl rfl)) rfl rfl hl.1 rfl (lv_room (Nat.le_of_ble_eq_true rfl)) dX1_mixWishes_5 ⟨(Nat.le_of_ble_eq_true rfl), (Nat.le_of_ble_eq_true rfl)⟩) hP hD hS hA (kIT mk_17 0) (kIT mk_18 0) (km_T (m := mk_17) rfl rfl) (km_T (m := mk_17) rfl rfl) [((a 0), .inr (3, [.ref (a 1), .long fr, .long un, .ref (a 2), .ref (a 6), .ref (a 10), .ref (a 14), .int ac, .int rf, .int kn])), ((a 1), .inl (cJ, 4, .inr (.inl ce))), ((a 2), .inr (2, [.ref (a 3), .ref (a 4), .ref (a 5), .int sc])), ((a 3), .inl (cJ, 11, .inr (.inl sb))), ((a 4), .inl (cJ, 11, .inr (.inl se))), ((a 5), .inl (cZ, 11, .inl so)), ((a 10), .inr (2, [.ref (a 11), .ref (a 12), .ref (a 13), .int fc])), ((a 11), .inl (cJ, 11, .inr (.inl fb))), ((a 12), .inl (cJ, 11, .inr (.inl fe))), ((a 13), .inl (cZ, 11, .inl fo)), ((a 14), .inl (cI, 11, .inl rm))] (km_T (m := mk_18) rfl rfl) (km_T (m := mk_18) rfl rfl) (km_cov (m := mk_17) (n := mk_18) rfl rfl) (km_dis (m := mk_17) (n := mk_18) rfl) rfl (fun H locs hP hD hS br1 => ?_)
  obtain ⟨r2, g2, h⟩ := g_b h
  refine kcall_l (wSB cI cJ cZ a ce fr un sb se so sc wb we wo wc fb fe fo fc rm ac rf kn) (va_runS (As := [.long p0, .int r1]) (rest := []) ⟨hx, hb, hml, hown, hts⟩ (c_X1_mix l dC dI cB cI cJ cZ  _  p0 r1 r2 g2) (kcwS hts kw_336 kv_X1_mix rfl rfl ⟨(Nat.le_of_ble_eq_true rfl), (Nat.le_of_ble_eq_true rfl)⟩) (kpS (A := A) (kPnil) hK ((kDnil (A := A))) hG) rfl rfl hl.1 rfl (lv_room (Nat.le_of_ble_eq_true rfl)) dX1_mixWishes_8 ⟨(Nat.le_of_ble_eq_true rfl), (Nat.le_of_ble_eq_true rfl)⟩) hP hD hS hA (kIT mk_13 0) (kIT mk_14 0) (km_T (m := mk_13) rfl rfl) (km_T (m := mk_13) rfl rfl) [((a 0), .inr (3, [.ref (a 1), .long fr, .long un, .ref (a 2), .ref (a 6), .ref (a 10), .ref (a 14), .int ac, .int rf, .int kn])), ((a 1), .inl (cJ, 4, .inr (.inl ce))), ((a 2), .inr (2, [.ref (a 3), .ref (a 4), .ref (a 5), .int sc])), ((a 3), .inl (cJ, 11, .inr (.inl sb))), ((a 4), .inl (cJ, 11, .inr (.inl se))), ((a 5), .inl (cZ, 11, .inl so)), ((a 6), .inr (2, [.ref (a 7), .ref (a 8), .ref (a 9), .int wc])), ((a 7), .inl (cJ, 11, .inr (.inl wb))), ((a 8), .inl (cJ, 11, .inr (.inl we))), ((a 9), .inl (cZ, 11, .inl wo)), ((a 10), .inr (2, [.ref (a 11), .ref (a 12), .ref (a 13), .int fc])), ((a 11), .inl (cJ, 11, .inr (.inl fb))), ((a 12), .inl (cJ, 11, .inr (.inl fe))), ((a 13), .inl (cZ, 11, .inl fo)), ((a 14), .inl (cI, 11, .inl rm))] (km_T (m := mk_14) rfl rfl) (km_T (m := mk_14) rfl rfl) (km_cov (m := mk_13) (n := mk_14) rfl rfl) (km_dis (m := mk_13) (n := mk_14) rfl) rfl (fun H locs hP hD hS => ?_)
  refine lv_lstore_n (lv' := [(3, .long r2), (0, .ref (a 0)), (1, .long p0)]) hx hb dX1_mixWishes_11 rfl hl (by decide) rfl (fun ls hl => ?_)
  refine lv_iconst (v := 0) hx hb dX1_mixWishes_12 (by decide) ?_
  refine lv_istore (lv' := [(5, .int 0), (3, .long r2), (0, .ref (a 0)), (1, .long p0)]) hx hb dX1_mixWishes_13 hl (by decide) rfl (fun ls hl => ?_)
  exact J15 24 ce fr un sb se so sc wb we wo wc fb fe fo fc rm ac rf kn r2 0 _ _ hP hD hS ls (lv_sub hl [2, 1, 0] rfl) h
abbrev wsX1_digest : List Cond := kWs yX1_digest cX1_digest 3 (some .long)
def f_X1_digest_76 (fb : Nat → Int64) (fe : Nat → Int64) (fo : Nat → Int32) (fc : Int32) (rm : Nat → Int32) (y0 : Int32) (y1 : Int64) : Option ((Int64) × (Nat → Int64) × (Nat → Int64) × (Nat → Int32) × (Int32) × (Nat → Int32)) :=
  (f_X1_mix y1 y0).bind fun r1 =>
  some (r1, fb, fe, fo, fc, rm)
theorem f_X1_digest_76_e {fb : Nat → Int64} {fe : Nat → Int64} {fo : Nat → Int32} {fc : Int32} {rm : Nat → Int32} {y0 : Int32} {y1 : Int64} : f_X1_digest_76 fb fe fo fc rm y0 y1 =
  (f_X1_mix y1 y0).bind fun r1 =>
  some (r1, fb, fe, fo, fc, rm) := rfl
def f_X1_digest (ce : Nat → Int64) (fr : Int64) (un : Int64) (sb : Nat → Int64) (se : Nat → Int64) (so : Nat → Int32) (sc : Int32) (wb : Nat → Int64) (we : Nat → Int64) (wc : Int32) (fb : Nat → Int64) (fe : Nat → Int64) (fo : Nat → Int32) (fc : Int32) (rm : Nat → Int32) (ac : Int32) (rf : Int32) (kn : Int32) : Option ((Int64) × (Nat → Int64) × (Nat → Int64) × (Nat → Int32) × (Int32) × (Nat → Int32)) :=
  (f_X1_findFrees fr un sb se sc fb fe fo fc).bind fun r1 =>
  (f_X1_findRooms wb we wc rm).bind fun r2 =>
  (f_X1_mixCells ce sb se sc r1.1 r1.2.1 r1.2.2.2 8009).bind fun r3 =>
  (f_X1_mixSpans fr un sb se so sc r3).bind fun r4 =>
  (f_X1_mixFrees fr un sb se sc r1.1 r1.2.1 r1.2.2.1 r1.2.2.2 r4).bind fun r5 =>
  (f_X1_mixWishes wb we wc r2 r5.1).bind fun r6 =>
  (f_X1_mix r6 ac).bind fun r7 =>
  (f_X1_mix r7 rf).bind fun r8 =>
  (f_X1_mix r8 kn).bind fun r9 =>
  (f_X1_isSound fr un sb se so sc wb we wc r5.2.1 r5.2.2.1 r5.2.2.2.1 r5.2.2.2.2 r2).bind fun r10 =>
  if r10.1 = 0 then
    f_X1_digest_76 r10.2.1 r10.2.2.1 r10.2.2.2.1 r10.2.2.2.2.1 r10.2.2.2.2.2 0 r9
  else
    f_X1_digest_76 r10.2.1 r10.2.2.1 r10.2.2.2.1 r10.2.2.2.2.1 r10.2.2.2.2.2 1 r9
theorem f_X1_digest_e {ce : Nat → Int64} {fr : Int64} {un : Int64} {sb : Nat → Int64} {se : Nat → Int64} {so : Nat → Int32} {sc : Int32} {wb : Nat → Int64} {we : Nat → Int64} {wc : Int32} {fb : Nat → Int64} {fe : Nat → Int64} {fo : Nat → Int32} {fc : Int32} {rm : Nat → Int32} {ac : Int32} {rf : Int32} {kn : Int32} : f_X1_digest ce fr un sb se so sc wb we wc fb fe fo fc rm ac rf kn = 
  (f_X1_findFrees fr un sb se sc fb fe fo fc).bind fun r1 =>
  (f_X1_findRooms wb we wc rm).bind fun r2 =>
  (f_X1_mixCells ce sb se sc r1.1 r1.2.1 r1.2.2.2 8009).bind fun r3 =>
  (f_X1_mixSpans fr un sb se so sc r3).bind fun r4 =>
  (f_X1_mixFrees fr un sb se sc r1.1 r1.2.1 r1.2.2.1 r1.2.2.2 r4).bind fun r5 =>
  (f_X1_mixWishes wb we wc r2 r5.1).bind fun r6 =>
  (f_X1_mix r6 ac).bind fun r7 =>
  (f_X1_mix r7 rf).bind fun r8 =>
  (f_X1_mix r8 kn).bind fun r9 =>
  (f_X1_isSound fr un sb se so sc wb we wc r5.2.1 r5.2.2.1 r5.2.2.2.1 r5.2.2.2.2 r2).bind fun r10 =>
  if r10.1 = 0 then
    f_X1_digest_76 r10.2.1 r10.2.2.1 r10.2.2.2.1 r10.2.2.2.2.1 r10.2.2.2.2.2 0 r9
  else
    f_X1_digest_76 r10.2.1 r10.2.2.1 r10.2.2.2.1 r10.2.2.2.2.1 r10.2.2.2.2.2 1 r9 := rfl
set_option maxHeartbeats 4000000 in
set_option maxRecDepth 100000 in
theorem c_X1_digest (l : Launch) (dC : Nat → ClassId) (dI : Nat → Nat → Nat) (cB cI cJ cZ : ClassId) (a : Nat → Nat) (sz : Nat) (ce : Nat → Int64) (fr : Int64) (un : Int64) (sb : Nat → Int64) (se : Nat → Int64) (so : Nat → Int32) (sc : Int32) (wb : Nat → Int64) (we : Nat → Int64) (wo : Nat → Int32) (wc : Int32) (fb : Nat → Int64) (fe : Nat → Int64) (fo : Nat → Int32) (fc : Int32) (rm : Nat → Int32) (ac : Int32) (rf : Int32) (kn : Int32) (res : (Int64) × (Nat → Int64) × (Nat → Int64) × (Nat → Int32) × (Int32) × (Nat → Int32)) (hf : f_X1_digest ce fr un sb se so sc wb we wc fb fe fo fc rm ac rf kn = some res) : Met l yX1_digest wsX1_digest ({ frames := 6, cells := 0, slots := 0, locals := 143 } : Room) (kPre (dC, dI) (kTy cB cI cJ cZ) [.ref (a 0)] sz (wSB cI cJ cZ a ce fr un sb se so sc wb we wo wc fb fe fo fc rm ac rf kn)) (kL (dC, dI) (res.1) (wSB cI cJ cZ a ce fr un sb se so sc wb we wo wc (res.2.1) (res.2.2.1) (res.2.2.2.1) (res.2.2.2.2.1) (res.2.2.2.2.2) ac rf kn) (va_A (wSB cI cJ cZ a ce fr un sb se so sc wb we wo wc fb fe fo fc rm ac rf kn) sz)) 0 0 (va_A (wSB cI cJ cZ a ce fr un sb se so sc wb we wo wc fb fe fo fc rm ac rf kn) sz) := by
  refine Met.ofW (cc := cX1_digest) (maxL := 3) (ret := (some .long)) (by decide) rfl ?_
  intro p e s m args below meth c s₁ B hml hv
  obtain ⟨rfl, hsz, hP, hK, hD0, hG⟩ := hv
  have hx := B.exec
  have hb := B.bytes
  have hr := B.returns
  have hts := atoms_spec (ws := wsX1_digest) B.pre
  have hown : s.vm.findClass RX1 = some m.cls := findClass_of_methodNamed B.named
  have hlocks := B.notSynchronized
  subst hsz
  have hD := hD0.self (sz := s.heap.size)
  generalize hAe : va_A (wSB cI cJ cZ a ce fr un sb se so sc wb we wo wc fb fe fo fc rm ac rf kn) s.heap.size = A at hD ⊢
  have hA : ∀ q : Nat, s.heap.size ≤ q → A q := fun q h => by rw [← hAe]; exact Or.inr h
  have hS : va_S A s.heap s.heap [] := va_S.rf
  clear hAe
  have hw0 := hts (.constantLong RX1 244 (8009)) (List.mem_cons_of_mem _ kw_324)
  have hw1 := hts (.fieldLink RX1 224 "Spanbooker" "acts" "I") (List.mem_cons_of_mem _ kw_114)
  have hw2 := hts (.fieldLink RX1 228 "Spanbooker" "refusals" "I") (List.mem_cons_of_mem _ kw_115)
  have hw3 := hts (.fieldLink RX1 231 "Spanbooker" "knocks" "I") (List.mem_cons_of_mem _ kw_116)
  have hiX1 : ∀ w ∈ u_ws RX1 TX1 10, w ∈ wsX1_digest := fun w h => List.mem_cons_of_mem _ (ku_X1 w h)
  have J76 : ∀ (ce : Nat → Int64) (fr : Int64) (un : Int64) (sb : Nat → Int64) (se : Nat → Int64) (so : Nat → Int32) (sc : Int32) (wb : Nat → Int64) (we : Nat → Int64) (wo : Nat → Int32) (wc : Int32) (fb : Nat → Int64) (fe : Nat → Int64) (fo : Nat → Int32) (fc : Int32) (rm : Nat → Int32) (ac : Int32) (rf : Int32) (kn : Int32) (y0 : Int32) (y1 : Int64) (H : Heap) (locs : List Loc), va_P (dC, dI) vwCl (wSB cI cJ cZ a ce fr un sb se so sc wb we wo wc fb fe fo fc rm ac rf kn) H → va_D A (wSB cI cJ cZ a ce fr un sb se so sc wb we wo wc fb fe fo fc rm ac rf kn) → va_S A s.heap H locs → ∀ (ls : Array Slot), lv_has ls 3 [] → f_X1_digest_76 fb fe fo fc rm y0 y1 = some res → W p l e (headSpec wsX1_digest ({ frames := 6, cells := 0, slots := 0, locals := 143 } : Room)).room s m ([.ref (a 0)] : List Value).toArray below meth c H locs 0 0 (MQ below (kL (dC, dI) (res.1) (wSB cI cJ cZ a ce fr un sb se so sc wb we wo wc (res.2.1) (res.2.2.1) (res.2.2.2.1) (res.2.2.2.2.1) (res.2.2.2.2.2) ac rf kn) A) ([.ref (a 0)] : List Value).toArray s 0 0 A) (F0 m 76 ls [.int y0, .long y1]) := by
    intro ce fr un sb se so sc wb we wo wc fb fe fo fc rm ac rf kn y0 y1 H locs hP hD hS ls hl h
    have h := f_X1_digest_76_e.symm.trans h
    obtain ⟨r1, g1, h⟩ := g_b h
    refine kcall_l (wSB cI cJ cZ a ce fr un sb se so sc wb we wo wc fb fe fo fc rm ac rf kn) (va_runS (As := [.long y1, .int y0]) (rest := []) ⟨hx, hb, hml, hown, hts⟩ (c_X1_mix l dC dI cB cI cJ cZ  _  y1 y0 r1 g1) (kcwS hts kw_336 kv_X1_mix rfl rfl ⟨(Nat.le_of_ble_eq_true rfl), (Nat.le_of_ble_eq_true rfl)⟩) (kpS (A := A) (kPnil) hK ((kDnil (A := A))) hG) rfl rfl hl.1 rfl (lv_room (Nat.le_of_ble_eq_true rfl)) dX1_digest_76 ⟨(Nat.le_of_ble_eq_true rfl), (Nat.le_of_ble_eq_true rfl)⟩) hP hD hS hA (kIT mk_13 0) (kIT mk_14 0) (km_T (m := mk_13) rfl rfl) (km_T (m := mk_13) rfl rfl) [((a 0), .inr (3, [.ref (a 1), .long fr, .long un, .ref (a 2), .ref (a 6), .ref (a 10), .ref (a 14), .int ac, .int rf, .int kn])), ((a 1), .inl (cJ, 4, .inr (.inl ce))), ((a 2), .inr (2, [.ref (a 3), .ref (a 4), .ref (a 5), .int sc])), ((a 3), .inl (cJ, 11, .inr (.inl sb))), ((a 4), .inl (cJ, 11, .inr (.inl se))), ((a 5), .inl (cZ, 11, .inl so)), ((a 6), .inr (2, [.ref (a 7), .ref (a 8), .ref (a 9), .int wc])), ((a 7), .inl (cJ, 11, .inr (.inl wb))), ((a 8), .inl (cJ, 11, .inr (.inl we))), ((a 9), .inl (cZ, 11, .inl wo)), ((a 10), .inr (2, [.ref (a 11), .ref (a 12), .ref (a 13), .int fc])), ((a 11), .inl (cJ, 11, .inr (.inl fb))), ((a 12), .inl (cJ, 11, .inr (.inl fe))), ((a 13), .inl (cZ, 11, .inl fo)), ((a 14), .inl (cI, 11, .inl rm))] (km_T (m := mk_14) rfl rfl) (km_T (m := mk_14) rfl rfl) (km_cov (m := mk_13) (n := mk_14) rfl rfl) (km_dis (m := mk_13) (n := mk_14) rfl) rfl (fun H locs hP hD hS => ?_)
    have h := Option.some.inj h
    subst h
    exact kret_l (v := r1) hx hb hr hlocks hS hP dX1_digest_79
  have hl := lv_entry ([.ref (a 0)]) (n := 3) (Nat.le_of_ble_eq_true rfl)
  rw [lg_entry_eq]
  generalize (lg_sl ([.ref (a 0)]) ++ List.replicate (3 - (lg_sl ([.ref (a 0)])).length) Slot.unset).toArray = ls at hl ⊢
  have hl : lv_has ls 3 [(0, .ref (a 0))] := hl
  have h := f_X1_digest_e.symm.trans hf
  refine lv_aload_n hx hb dX1_digest_0 rfl (lv_at hl 0 rfl) ?_
  obtain ⟨r1, g1, h⟩ := g_b h
  refine kcall_v (wSB cI cJ cZ a ce fr un sb se so sc wb we wo wc r1.1 r1.2.1 r1.2.2.1 r1.2.2.2 rm ac rf kn) (va_runV (As := []) (rest := []) ⟨hx, hb, hml, hown, hts⟩ (c_X1_findFrees l dC dI cB cI cJ cZ a _ ce fr un sb se so sc wb we wo wc fb fe fo fc rm ac rf kn  r1 g1) (kcwV hts kw_182 kv_X1_findFrees rfl rfl ⟨(Nat.le_of_ble_eq_true rfl), (Nat.le_of_ble_eq_true rfl)⟩) (kpV (A := A) (hP.sub (kIT mk_14 0) (km_f (m := mk_14) rfl rfl)) hK (hD.sub (kIT mk_14 0) (km_nd mk_14) (km_T (m := mk_14) rfl rfl)) hG (va_recv hK hP (ci := 3) (q0 := 0) rfl rfl)) rfl rfl hl.1 rfl (lv_room (Nat.le_of_ble_eq_true rfl)) dX1_digest_1 ⟨(Nat.le_of_ble_eq_true rfl), (Nat.le_of_ble_eq_true rfl)⟩) hP hD hS hA (kIT mk_14 0) (kIT mk_13 0) (km_T (m := mk_14) rfl rfl) (km_T (m := mk_14) rfl rfl) [] (km_T (m := mk_13) rfl rfl) (km_T (m := mk_13) rfl rfl) (km_cov (m := mk_14) (n := mk_13) rfl rfl) (km_dis (m := mk_14) (n := mk_13) rfl) rfl (fun H locs hP hD hS => ?_)
  refine lv_aload_n hx hb dX1_digest_4 rfl (lv_at hl 0 rfl) ?_
  obtain ⟨r2, g2, h⟩ := g_b h
  refine kcall_v (wSB cI cJ cZ a ce fr un sb se so sc wb we wo wc r1.1 r1.2.1 r1.2.2.1 r1.2.2.2 r2 ac rf kn) (va_runV (As := []) (rest := []) ⟨hx, hb, hml, hown, hts⟩ (c_X1_findRooms l dC dI cB cI cJ cZ a _ ce fr un sb se so sc wb we wo wc r1.1 r1.2.1 r1.2.2.1 r1.2.2.2 rm ac rf kn  r2 g2) (kcwV hts kw_243 kv_X1_findRooms rfl rfl ⟨(Nat.le_of_ble_eq_true rfl), (Nat.le_of_ble_eq_true rfl)⟩) (kpV (A := A) (hP.sub (kIT mk_14 0) (km_f (m := mk_14) rfl rfl)) hK (hD.sub (kIT mk_14 0) (km_nd mk_14) (km_T (m := mk_14) rfl rfl)) hG (va_recv hK hP (ci := 3) (q0 := 0) rfl rfl)) rfl rfl hl.1 rfl (lv_room (Nat.le_of_ble_eq_true rfl)) dX1_digest_5 ⟨(Nat.le_of_ble_eq_true rfl), (Nat.le_of_ble_eq_true rfl)⟩) hP hD hS hA (kIT mk_14 0) (kIT mk_13 0) (km_T (m := mk_14) rfl rfl) (km_T (m := mk_14) rfl rfl) [] (km_T (m := mk_13) rfl rfl) (km_T (m := mk_13) rfl rfl) (km_cov (m := mk_14) (n := mk_13) rfl rfl) (km_dis (m := mk_14) (n := mk_13) rfl) rfl (fun H locs hP hD hS => ?_)
  refine lv_ldc2 (v := (8009)) hx hb hown hw0 dX1_digest_8 ?_
  refine lv_lstore_n (lv' := [(1, .long 8009), (0, .ref (a 0))]) hx hb dX1_digest_11 rfl hl (by decide) rfl (fun ls hl => ?_)
  refine lv_aload_n hx hb dX1_digest_12 rfl (lv_at hl 1 rfl) ?_
  refine lv_lload_n hx hb dX1_digest_13 rfl (lv_at hl 0 rfl) ?_
  obtain ⟨r3, g3, h⟩ := g_b h
  refine kcall_l (wSB cI cJ cZ a ce fr un sb se so sc wb we wo wc r1.1 r1.2.1 r1.2.2.1 r1.2.2.2 r2 ac rf kn) (va_runV (As := [.long 8009]) (rest := []) ⟨hx, hb, hml, hown, hts⟩ (c_X1_mixCells l dC dI cB cI cJ cZ a _ ce fr un sb se so sc wb we wo wc r1.1 r1.2.1 r1.2.2.1 r1.2.2.2 r2 ac rf kn 8009 r3 g3) (kcwV hts kw_325 kv_X1_mixCells rfl rfl ⟨(Nat.le_of_ble_eq_true rfl), (Nat.le_of_ble_eq_true rfl)⟩) (kpV (A := A) (hP.sub (kIT mk_14 0) (km_f (m := mk_14) rfl rfl)) hK (hD.sub (kIT mk_14 0) (km_nd mk_14) (km_T (m := mk_14) rfl rfl)) hG (va_recv hK hP (ci := 3) (q0 := 0) rfl rfl)) rfl rfl hl.1 rfl (lv_room (Nat.le_of_ble_eq_true rfl)) dX1_digest_14 ⟨(Nat.le_of_ble_eq_true rfl), (Nat.le_of_ble_eq_true rfl)⟩) hP hD hS hA (kIT mk_14 0) (kIT mk_13 0) (km_T (m := mk_14) rfl rfl) (km_T (m := mk_14) rfl rfl) [] (km_T (m := mk_13) rfl rfl) (km_T (m := mk_13) rfl rfl) (km_cov (m := mk_14) (n := mk_13) rfl rfl) (km_dis (m := mk_14) (n := mk_13) rfl) rfl (fun H locs hP hD hS => ?_)
  refine lv_lstore_n (lv' := [(1, .long r3), (0, .ref (a 0))]) hx hb dX1_digest_17 rfl hl (by decide) rfl (fun ls hl => ?_)
  refine lv_aload_n hx hb dX1_digest_18 rfl (lv_at hl 1 rfl) ?_
  refine lv_lload_n hx hb dX1_digest_19 rfl (lv_at hl 0 rfl) ?_
  obtain ⟨r4, g4, h⟩ := g_b h
  refine kcall_l (wSB cI cJ cZ a ce fr un sb se so sc wb we wo wc r1.1 r1.2.1 r1.2.2.1 r1.2.2.2 r2 ac rf kn) (va_runV (As := [.long r3]) (rest := []) ⟨hx, hb, hml, hown, hts⟩ (c_X1_mixSpans l dC dI cB cI cJ cZ a _ ce fr un sb se so sc wb we wo wc r1.1 r1.2.1 r1.2.2.1 r1.2.2.2 r2 ac rf kn r3 r4 g4) (kcwV hts kw_346 kv_X1_mixSpans rfl rfl ⟨(Nat.le_of_ble_eq_true rfl), (Nat.le_of_ble_eq_true rfl)⟩) (kpV (A := A) (hP.sub (kIT mk_14 0) (km_f (m := mk_14) rfl rfl)) hK (hD.sub (kIT mk_14 0) (km_nd mk_14) (km_T (m := mk_14) rfl rfl)) hG (va_recv hK hP (ci := 3) (q0 := 0) rfl rfl)) rfl rfl hl.1 rfl (lv_room (Nat.le_of_ble_eq_true rfl)) dX1_digest_20 ⟨(Nat.le_of_ble_eq_true rfl), (Nat.le_of_ble_eq_true rfl)⟩) hP hD hS hA (kIT mk_14 0) (kIT mk_13 0) (km_T (m := mk_14) rfl rfl) (km_T (m := mk_14) rfl rfl) [] (km_T (m := mk_13) rfl rfl) (km_T (m := mk_13) rfl rfl) (km_cov (m := mk_14) (n := mk_13) rfl rfl) (km_dis (m := mk_14) (n := mk_13) rfl) rfl (fun H locs hP hD hS => ?_)
  refine lv_lstore_n (lv' := [(1, .long r4), (0, .ref (a 0))]) hx hb dX1_digest_23 rfl hl (by decide) rfl (fun ls hl => ?_)
  refine lv_aload_n hx hb dX1_digest_24 rfl (lv_at hl 1 rfl) ?_
  refine lv_lload_n hx hb dX1_digest_25 rfl (lv_at hl 0 rfl) ?_
  obtain ⟨r5, g5, h⟩ := g_b h
  refine kcall_l (wSB cI cJ cZ a ce fr un sb se so sc wb we wo wc r5.2.1 r5.2.2.1 r5.2.2.2.1 r5.2.2.2.2 r2 ac rf kn) (va_runV (As := [.long r4]) (rest := []) ⟨hx, hb, hml, hown, hts⟩ (c_X1_mixFrees l dC dI cB cI cJ cZ a _ ce fr un sb se so sc wb we wo wc r1.1 r1.2.1 r1.2.2.1 r1.2.2.2 r2 ac rf kn r4 r5 g5) (kcwV hts kw_438 kv_X1_mixFrees rfl rfl ⟨(Nat.le_of_ble_eq_true rfl), (Nat.le_of_ble_eq_true rfl)⟩) (kpV (A := A) (hP.sub (kIT mk_14 0) (km_f (m := mk_14) rfl rfl)) hK (hD.sub (kIT mk_14 0) (km_nd mk_14) (km_T (m := mk_14) rfl rfl)) hG (va_recv hK hP (ci := 3) (q0 := 0) rfl rfl)) rfl rfl hl.1 rfl (lv_room (Nat.le_of_ble_eq_true rfl)) dX1_digest_26 ⟨(Nat.le_of_ble_eq_true rfl), (Nat.le_of_ble_eq_true rfl)⟩) hP hD hS hA (kIT mk_14 0) (kIT mk_13 0) (km_T (m := mk_14) rfl rfl) (km_T (m := mk_14) rfl rfl) [] (km_T (m := mk_13) rfl rfl) (km_T (m := mk_13) rfl rfl) (km_cov (m := mk_14) (n := mk_13) rfl rfl) (km_dis (m := mk_14) (n := mk_13) rfl) rfl (fun H locs hP hD hS => ?_)
  refine lv_lstore_n (lv' := [(1, .long r5.1), (0, .ref (a 0))]) hx hb dX1_digest_29 rfl hl (by decide) rfl (fun ls hl => ?_)
  refine lv_aload_n hx hb dX1_digest_30 rfl (lv_at hl 1 rfl) ?_
  refine lv_lload_n hx hb dX1_digest_31 rfl (lv_at hl 0 rfl) ?_
  obtain ⟨r6, g6, h⟩ := g_b h
  refine kcall_l (wSB cI cJ cZ a ce fr un sb se so sc wb we wo wc r5.2.1 r5.2.2.1 r5.2.2.2.1 r5.2.2.2.2 r2 ac rf kn) (va_runV (As := [.long r5.1]) (rest := []) ⟨hx, hb, hml, hown, hts⟩ (c_X1_mixWishes l dC dI cB cI cJ cZ a _ ce fr un sb se so sc wb we wo wc r5.2.1 r5.2.2.1 r5.2.2.2.1 r5.2.2.2.2 r2 ac rf kn r5.1 r6 g6) (kcwV hts kw_446 kv_X1_mixWishes rfl rfl ⟨(Nat.le_of_ble_eq_true rfl), (Nat.le_of_ble_eq_true rfl)⟩) (kpV (A := A) (hP.sub (kIT mk_14 0) (km_f (m := mk_14) rfl rfl)) hK (hD.sub (kIT mk_14 0) (km_nd mk_14) (km_T (m := mk_14) rfl rfl)) hG (va_recv hK hP (ci := 3) (q0 := 0) rfl rfl)) rfl rfl hl.1 rfl (lv_room (Nat.le_of_ble_eq_true rfl)) dX1_digest_32 ⟨(Nat.le_of_ble_eq_true rfl), (Nat.le_of_ble_eq_true rfl)⟩) hP hD hS hA (kIT mk_14 0) (kIT mk_13 0) (km_T (m := mk_14) rfl rfl) (km_T (m := mk_14) rfl rfl) [] (km_T (m := mk_13) rfl rfl) (km_T (m := mk_13) rfl rfl) (km_cov (m := mk_14) (n := mk_13) rfl rfl) (km_dis (m := mk_14) (n := mk_13) rfl) rfl (fun H locs hP hD hS => ?_)
  refine lv_lstore_n (lv' := [(1, .long r6), (0, .ref (a 0))]) hx hb dX1_digest_35 rfl hl (by decide) rfl (fun ls hl => ?_)
  refine lv_lload_n hx hb dX1_digest_36 rfl (lv_at hl 0 rfl) ?_
  refine lv_aload_n hx hb dX1_digest_37 rfl (lv_at hl 1 rfl) ?_
  refine va_get (D := (dC, dI)) (ci := 3) (v := .int ac) (C := RX1) (T := TX1) (N := 10) hx hb hts hiX1 hown hK hP 0 rfl rfl 7 (by decide) hw1 (fun _ h9 => h9) rfl dX1_digest_38 ?_
  obtain ⟨r7, g7, h⟩ := g_b h
  refine kcall_l (wSB cI cJ cZ a ce fr un sb se so sc wb we wo wc r5.2.1 r5.2.2.1 r5.2.2.2.1 r5.2.2.2.2 r2 ac rf kn) (va_runS (As := [.long r6, .int ac]) (rest := []) ⟨hx, hb, hml, hown, hts⟩ (c_X1_mix l dC dI cB cI cJ cZ  _  r6 ac r7 g7) (kcwS hts kw_336 kv_X1_mix rfl rfl ⟨(Nat.le_of_ble_eq_true rfl), (Nat.le_of_ble_eq_true rfl)⟩) (kpS (A := A) (kPnil) hK ((kDnil (A := A))) hG) rfl rfl hl.1 rfl (lv_room (Nat.le_of_ble_eq_true rfl)) dX1_digest_41 ⟨(Nat.le_of_ble_eq_true rfl), (Nat.le_of_ble_eq_true rfl)⟩) hP hD hS hA (kIT mk_13 0) (kIT mk_14 0) (km_T (m := mk_13) rfl rfl) (km_T (m := mk_13) rfl rfl) [((a 0), .inr (3, [.ref (a 1), .long fr, .long un, .ref (a 2), .ref (a 6), .ref (a 10), .ref (a 14), .int ac, .int rf, .int kn])), ((a 1), .inl (cJ, 4, .inr (.inl ce))), ((a 2), .inr (2, [.ref (a 3), .ref (a 4), .ref (a 5), .int sc])), ((a 3), .inl (cJ, 11, .inr (.inl sb))), ((a 4), .inl (cJ, 11, .inr (.inl se))), ((a 5), .inl (cZ, 11, .inl so)), ((a 6), .inr (2, [.ref (a 7), .ref (a 8), .ref (a 9), .int wc])), ((a 7), .inl (cJ, 11, .inr (.inl wb))), ((a 8), .inl (cJ, 11, .inr (.inl we))), ((a 9), .inl (cZ, 11, .inl wo)), ((a 10), .inr (2, [.ref (a 11), .ref (a 12), .ref (a 13), .int r5.2.2.2.2])), ((a 11), .inl (cJ, 11, .inr (.inl r5.2.1))), ((a 12), .inl (cJ, 11, .inr (.inl r5.2.2.1))), ((a 13), .inl (cZ, 11, .inl r5.2.2.2.1)), ((a 14), .inl (cI, 11, .inl r2))] (km_T (m := mk_14) rfl rfl) (km_T (m := mk_14) rfl rfl) (km_cov (m := mk_13) (n := mk_14) rfl rfl) (km_dis (m := mk_13) (n := mk_14) rfl) rfl (fun H locs hP hD hS => ?_)
  refine lv_lstore_n (lv' := [(1, .long r7), (0, .ref (a 0))]) hx hb dX1_digest_44 rfl hl (by decide) rfl (fun ls hl => ?_)
  refine lv_lload_n hx hb dX1_digest_45 rfl (lv_at hl 0 rfl) ?_
  refine lv_aload_n hx hb dX1_digest_46 rfl (lv_at hl 1 rfl) ?_
  refine va_get (D := (dC, dI)) (ci := 3) (v := .int rf) (C := RX1) (T := TX1) (N := 10) hx hb hts hiX1 hown hK hP 0 rfl rfl 8 (by decide) hw2 (fun _ h9 => h9) rfl dX1_digest_47 ?_
  obtain ⟨r8, g8, h⟩ := g_b h
  refine kcall_l (wSB cI cJ cZ a ce fr un sb se so sc wb we wo wc r5.2.1 r5.2.2.1 r5.2.2.2.1 r5.2.2.2.2 r2 ac rf kn) (va_runS (As := [.long r7, .int rf]) (rest := []) ⟨hx, hb, hml, hown, hts⟩ (c_X1_mix l dC dI cB cI cJ cZ  _  r7 rf r8 g8) (kcwS hts kw_336 kv_X1_mix rfl rfl ⟨(Nat.le_of_ble_eq_true rfl), (Nat.le_of_ble_eq_true rfl)⟩) (kpS (A := A) (kPnil) hK ((kDnil (A := A))) hG) rfl rfl hl.1 rfl (lv_room (Nat.le_of_ble_eq_true rfl)) dX1_digest_50 ⟨(Nat.le_of_ble_eq_true rfl), (Nat.le_of_ble_eq_true rfl)⟩) hP hD hS hA (kIT mk_13 0) (kIT mk_14 0) (km_T (m := mk_13) rfl rfl) (km_T (m := mk_13) rfl rfl) [((a 0), .inr (3, [.ref (a 1), .long fr, .long un, .ref (a 2), .ref (a 6), .ref (a 10), .ref (a 14), .int ac, .int rf, .int kn])), ((a 1), .inl (cJ, 4, .inr (.inl ce))), ((a 2), .inr (2, [.ref (a 3), .ref (a 4), .ref (a 5), .int sc])), ((a 3), .inl (cJ, 11, .inr (.inl sb))), ((a 4), .inl (cJ, 11, .inr (.inl se))), ((a 5), .inl (cZ, 11, .inl so)), ((a 6), .inr (2, [.ref (a 7), .ref (a 8), .ref (a 9), .int wc])), ((a 7), .inl (cJ, 11, .inr (.inl wb))), ((a 8), .inl (cJ, 11, .inr (.inl we))), ((a 9), .inl (cZ, 11, .inl wo)), ((a 10), .inr (2, [.ref (a 11), .ref (a 12), .ref (a 13), .int r5.2.2.2.2])), ((a 11), .inl (cJ, 11, .inr (.inl r5.2.1))), ((a 12), .inl (cJ, 11, .inr (.inl r5.2.2.1))), ((a 13), .inl (cZ, 11, .inl r5.2.2.2.1)), ((a 14), .inl (cI, 11, .inl r2))] (km_T (m := mk_14) rfl rfl) (km_T (m := mk_14) rfl rfl) (km_cov (m := mk_13) (n := mk_14) rfl rfl) (km_dis (m := mk_13) (n := mk_14) rfl) rfl (fun H locs hP hD hS => ?_)
  refine lv_lstore_n (lv' := [(1, .long r8), (0, .ref (a 0))]) hx hb dX1_digest_53 rfl hl (by decide) rfl (fun ls hl => ?_)
  refine lv_lload_n hx hb dX1_digest_54 rfl (lv_at hl 0 rfl) ?_
  refine lv_aload_n hx hb dX1_digest_55 rfl (lv_at hl 1 rfl) ?_
  refine va_get (D := (dC, dI)) (ci := 3) (v := .int kn) (C := RX1) (T := TX1) (N := 10) hx hb hts hiX1 hown hK hP 0 rfl rfl 9 (by decide) hw3 (fun _ h9 => h9) rfl dX1_digest_56 ?_
  obtain ⟨r9, g9, h⟩ := g_b h
  refine kcall_l (wSB cI cJ cZ a ce fr un sb se so sc wb we wo wc r5.2.1 r5.2.2.1 r5.2.2.2.1 r5.2.2.2.2 r2 ac rf kn) (va_runS (As := [.long r8, .int kn]) (rest := []) ⟨hx, hb, hml, hown, hts⟩ (c_X1_mix l dC dI cB cI cJ cZ  _  r8 kn r9 g9) (kcwS hts kw_336 kv_X1_mix rfl rfl ⟨(Nat.le_of_ble_eq_true rfl), (Nat.le_of_ble_eq_true rfl)⟩) (kpS (A := A) (kPnil) hK ((kDnil (A := A))) hG) rfl rfl hl.1 rfl (lv_room (Nat.le_of_ble_eq_true rfl)) dX1_digest_59 ⟨(Nat.le_of_ble_eq_true rfl), (Nat.le_of_ble_eq_true rfl)⟩) hP hD hS hA (kIT mk_13 0) (kIT mk_14 0) (km_T (m := mk_13) rfl rfl) (km_T (m := mk_13) rfl rfl) [((a 0), .inr (3, [.ref (a 1), .long fr, .long un, .ref (a 2), .ref (a 6), .ref (a 10), .ref (a 14), .int ac, .int rf, .int kn])), ((a 1), .inl (cJ, 4, .inr (.inl ce))), ((a 2), .inr (2, [.ref (a 3), .ref (a 4), .ref (a 5), .int sc])), ((a 3), .inl (cJ, 11, .inr (.inl sb))), ((a 4), .inl (cJ, 11, .inr (.inl se))), ((a 5), .inl (cZ, 11, .inl so)), ((a 6), .inr (2, [.ref (a 7), .ref (a 8), .ref (a 9), .int wc])), ((a 7), .inl (cJ, 11, .inr (.inl wb))), ((a 8), .inl (cJ, 11, .inr (.inl we))), ((a 9), .inl (cZ, 11, .inl wo)), ((a 10), .inr (2, [.ref (a 11), .ref (a 12), .ref (a 13), .int r5.2.2.2.2])), ((a 11), .inl (cJ, 11, .inr (.inl r5.2.1))), ((a 12), .inl (cJ, 11, .inr (.inl r5.2.2.1))), ((a 13), .inl (cZ, 11, .inl r5.2.2.2.1)), ((a 14), .inl (cI, 11, .inl r2))] (km_T (m := mk_14) rfl rfl) (km_T (m := mk_14) rfl rfl) (km_cov (m := mk_13) (n := mk_14) rfl rfl) (km_dis (m := mk_13) (n := mk_14) rfl) rfl (fun H locs hP hD hS => ?_)
  refine lv_lstore_n (lv' := [(1, .long r9), (0, .ref (a 0))]) hx hb dX1_digest_62 rfl hl (by decide) rfl (fun ls hl => ?_)
  refine lv_lload_n hx hb dX1_digest_63 rfl (lv_at hl 0 rfl) ?_
  refine lv_aload_n hx hb dX1_digest_64 rfl (lv_at hl 1 rfl) ?_
  obtain ⟨r10, g10, h⟩ := g_b h
  refine kcall_i (wSB cI cJ cZ a ce fr un sb se so sc wb we wo wc r10.2.1 r10.2.2.1 r10.2.2.2.1 r10.2.2.2.2.1 r10.2.2.2.2.2 ac rf kn) (va_runV (As := []) (rest := [.long r9]) ⟨hx, hb, hml, hown, hts⟩ (c_X1_isSound l dC dI cB cI cJ cZ a _ ce fr un sb se so sc wb we wo wc r5.2.1 r5.2.2.1 r5.2.2.2.1 r5.2.2.2.2 r2 ac rf kn  r10 g10) (kcwV hts kw_450 kv_X1_isSound rfl rfl ⟨(Nat.le_of_ble_eq_true rfl), (Nat.le_of_ble_eq_true rfl)⟩) (kpV (A := A) (hP.sub (kIT mk_14 0) (km_f (m := mk_14) rfl rfl)) hK (hD.sub (kIT mk_14 0) (km_nd mk_14) (km_T (m := mk_14) rfl rfl)) hG (va_recv hK hP (ci := 3) (q0 := 0) rfl rfl)) rfl rfl hl.1 rfl (lv_room (Nat.le_of_ble_eq_true rfl)) dX1_digest_65 ⟨(Nat.le_of_ble_eq_true rfl), (Nat.le_of_ble_eq_true rfl)⟩) hP hD hS hA (kIT mk_14 0) (kIT mk_13 0) (km_T (m := mk_14) rfl rfl) (km_T (m := mk_14) rfl rfl) [] (km_T (m := mk_13) rfl rfl) (km_T (m := mk_13) rfl rfl) (km_cov (m := mk_14) (n := mk_13) rfl rfl) (km_dis (m := mk_14) (n := mk_13) rfl) rfl (fun H locs hP hD hS br10 => ?_)
  refine lv_if_eq (tgt := 75) hx hb dX1_digest_68 (by decide) (fun c11 => ?_) (fun c11 => ?_)
  · have h := g_t c11 h
    refine lv_iconst (v := 0) hx hb dX1_digest_75 (by decide) ?_
    exact J76 ce fr un sb se so sc wb we wo wc r10.2.1 r10.2.2.1 r10.2.2.2.1 r10.2.2.2.2.1 r10.2.2.2.2.2 ac rf kn 0 r9 _ _ hP hD hS ls (lv_sub hl [] rfl) h
  · have h := g_f c11 h
    refine lv_iconst (v := 1) hx hb dX1_digest_71 (by decide) ?_
    refine lv_goto (tgt := 76) hx hb dX1_digest_72 (by decide) ?_
    exact J76 ce fr un sb se so sc wb we wo wc r10.2.1 r10.2.2.1 r10.2.2.2.1 r10.2.2.2.2.1 r10.2.2.2.2.2 ac rf kn 1 r9 _ _ hP hD hS ls (lv_sub hl [] rfl) h
