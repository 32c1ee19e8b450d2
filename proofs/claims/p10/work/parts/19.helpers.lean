noncomputable abbrev wsL_set : List Cond := Cond.codeWith yL_set cL_set 6 (some .int) [(0, 13, 16, 19), (0, 13, 20, 21)] :: kBIG
noncomputable def f_L_set (ce : Nat → Int64) (ac : Int32) (rf : Int32) (on : Int64) (p1 : Int32) (p2 : Int32) (p3 : Int32) : Option ((Int32) × (Nat → Int64) × (Int32) × (Int32) × (Int64)) :=
  xb (fx_X1_set p1 p2 p3) (fun k1 => if k1 = 1 then
  some (1, ce, ac, rf, on)
else
  some (2, ce, ac, rf, on)) (
  (f_X1_set ce ac rf p1 p2 p3).bind fun r1 =>
  some (0, r1.2.1, r1.2.2.1, r1.2.2.2, r1.1.toInt64))
theorem f_L_set_e {ce : Nat → Int64} {ac : Int32} {rf : Int32} {on : Int64} {p1 : Int32} {p2 : Int32} {p3 : Int32} : f_L_set ce ac rf on p1 p2 p3 = 
  xb (fx_X1_set p1 p2 p3) (fun k1 => if k1 = 1 then
  some (1, ce, ac, rf, on)
else
  some (2, ce, ac, rf, on)) (
  (f_X1_set ce ac rf p1 p2 p3).bind fun r1 =>
  some (0, r1.2.1, r1.2.2.1, r1.2.2.2, r1.1.toInt64)) := rfl
set_option maxHeartbeats 4000000 in
set_option maxRecDepth 100000 in
theorem c_L_set (l : Launch) (hl9 : l.stackTraces = false) (dC : Nat → ClassId) (dI : Nat → Nat → Nat) (cB cI cJ cZ : ClassId) (a : Nat → Nat) (o : Nat) (sz : Nat) (ce : Nat → Int64) (fr : Int64) (un : Int64) (sb : Nat → Int64) (se : Nat → Int64) (so : Nat → Int32) (sc : Int32) (wb : Nat → Int64) (we : Nat → Int64) (wo : Nat → Int32) (wc : Int32) (fb : Nat → Int64) (fe : Nat → Int64) (fo : Nat → Int32) (fc : Int32) (rm : Nat → Int32) (ac : Int32) (rf : Int32) (kn : Int32) (on : Int64) (ov : Value) (p1 : Int32) (p2 : Int32) (p3 : Int32) (res : (Int32) × (Nat → Int64) × (Int32) × (Int32) × (Int64)) (hf : f_L_set ce ac rf on p1 p2 p3 = some res) : kMw l yL_set wsL_set (kRm 8 1 6 135) dC dI cB cI cJ cZ [.ref (a 0), .int p1, .int p2, .int p3, .ref o] sz ((wSB cI cJ cZ a ce fr un sb se so sc wb we wo wc fb fe fo fc rm ac rf kn) ++ (wO o on ov)) .int (res.1) ((wSB cI cJ cZ a (res.2.1) fr un sb se so sc wb we wo wc fb fe fo fc rm (res.2.2.1) (res.2.2.2.1) kn) ++ (wO o (res.2.2.2.2) ov)) 1 6 := by
  refine kmet_w (y := yL_set) (cc := cL_set) (maxL := 6) (ret := (some .int)) (hh := [(0, 13, 16, 19), (0, 13, 20, 21)]) RL (kvA 0 (a 0) (kvI 1 p1 (kvI 2 p2 (kvI 3 p3 (kvA 4 o kvE))))) kpl_L rfl rfl (Nat.le_of_ble_eq_true rfl) rfl (fun p e s m below meth c A ls hx hb hr hml hht hts hown hlocks hP hK hG hZ hD hA hS hl => ?_)
  have hw0 := hts (.classLink RL 19 "java/lang/IndexOutOfBoundsException") (List.mem_cons_of_mem _ kw_467)
  have hw1 := hts (.classLink RL 21 "java/lang/IllegalArgumentException") (List.mem_cons_of_mem _ kw_468)
  have hiX2 : ∀ w ∈ u_ws RX2 TX2 2, w ∈ wsL_set := fun w h => List.mem_cons_of_mem _ (ku_X2 w h)
  have h := f_L_set_e.symm.trans hf
  refine lv_aload hx hb (kdr dgL_set_0 0 0 rfl rfl) (lv_at hl 4 rfl) ?_
  refine lv_aload_n hx hb (kdr dgL_set_0 0 1 rfl rfl) rfl (lv_at hl 0 rfl) ?_
  refine lv_iload_n hx hb (kdr dgL_set_0 0 2 rfl rfl) rfl (lv_at hl 1 rfl) ?_
  refine lv_iload_n hx hb (kdr dgL_set_0 0 3 rfl rfl) rfl (lv_at hl 2 rfl) ?_
  refine lv_iload_n hx hb (kdr dgL_set_0 0 4 rfl rfl) rfl (lv_at hl 3 rfl) ?_
  rcases g_x h with ⟨k1, j1, h⟩ | ⟨-, h⟩
  · refine kq_xh ((wSB cI cJ cZ a ce fr un sb se so sc wb we wo wc fb fe fo fc rm ac rf kn) ++ (wO o on ov)) (fun qP qD qF => vx_runV (As := [.int p1, .int p2, .int p3]) (rest := [.ref o]) ⟨hx, hb, hml, hown, hts⟩ (x_X1_set l hl9 dC dI cB cI cJ cZ a _ ce fr un sb se so sc wb we wo wc fb fe fo fc rm ac rf kn p1 p2 p3 k1 j1) (kcwV hts kw_469 kv_X1_set rfl rfl ⟨(Nat.le_of_ble_eq_true rfl), (Nat.le_of_ble_eq_true rfl)⟩) (kpVXq (A := A) qP hK qD hG hZ hS qF (krecv_3 (q0 := 0) hK hP rfl)) rfl rfl hl.1 rfl (lv_room (Nat.le_of_ble_eq_true rfl)) (kdr dgL_set_0 0 5 rfl rfl) ⟨(Nat.le_of_ble_eq_true rfl), (Nat.le_of_ble_eq_true rfl)⟩) hP hD hS hA (kFr_l kFr_SB) (fun q9 ceQ H locs hP hD hS hce hcv hcl => ?_)
    by_cases e9 : k1 = 1
    · have h := g_t e9 h
      rw [kEx_1 e9] at hcl
      refine vx_catch (E := "java/lang/IndexOutOfBoundsException") (name := "java/lang/IndexOutOfBoundsException") (own := RL) hown [] ⟨0, 13, 16, 19⟩ [⟨0, 13, 20, 21⟩] hht (fun z hz => by cases hz) (by decide) (by decide) hw0 (va_Nw.use rfl (hG.at 4 rfl)) hce hcv hcl ?_
      refine lv_astore (lv' := (kvA 5 q9 (kvA 0 (a 0) (kvI 1 p1 (kvI 2 p2 (kvI 3 p3 (kvA 4 o kvE))))))) hx hb (kdr dgL_set_0 0 9 rfl rfl) hl (by decide) rfl (fun ls hl => ?_)
      refine lv_iconst (v := 1) hx hb (kdr dgL_set_0 1 0 rfl rfl) (by decide) ?_
      have h := Option.some.inj h
      subst h
      refine W.widen (k := 1) (n := 6) (Nat.le_of_ble_eq_true rfl) (Nat.le_of_ble_eq_true rfl) ?_
      exact kret_i (v := 1) hx hb hr rfl hlocks hS hP (kdr dgL_set_0 1 1 rfl rfl)
    · have h := g_f e9 h
      rw [kEx_2 e9] at hcl
      refine vx_catch (E := "java/lang/IllegalArgumentException") (name := "java/lang/IllegalArgumentException") (own := RL) hown [⟨0, 13, 16, 19⟩] ⟨0, 13, 20, 21⟩ [] hht (fun z hz => by rcases List.mem_singleton.mp hz with rfl; exact Or.inr ⟨by decide, _, hw0, hG.2⟩) (by decide) (by decide) hw1 (va_Nw.use rfl (hG.at 5 rfl)) hce hcv hcl ?_
      refine lv_astore (lv' := (kvA 5 q9 (kvA 0 (a 0) (kvI 1 p1 (kvI 2 p2 (kvI 3 p3 (kvA 4 o kvE))))))) hx hb (kdr dgL_set_0 1 2 rfl rfl) hl (by decide) rfl (fun ls hl => ?_)
      refine lv_iconst (v := 2) hx hb (kdr dgL_set_0 1 3 rfl rfl) (by decide) ?_
      have h := Option.some.inj h
      subst h
      refine W.widen (k := 1) (n := 6) (Nat.le_of_ble_eq_true rfl) (Nat.le_of_ble_eq_true rfl) ?_
      exact kret_i (v := 2) hx hb hr rfl hlocks hS hP (kdr dgL_set_0 1 4 rfl rfl)
  · obtain ⟨r1, g1, h⟩ := g_b h
    refine kq_i ((wSB cI cJ cZ a r1.2.1 fr un sb se so sc wb we wo wc fb fe fo fc rm r1.2.2.1 r1.2.2.2 kn) ++ (wO o on ov)) (fun qP qD qF => va_runV (As := [.int p1, .int p2, .int p3]) (rest := [.ref o]) ⟨hx, hb, hml, hown, hts⟩ (c_X1_set l dC dI cB cI cJ cZ a _ ce fr un sb se so sc wb we wo wc fb fe fo fc rm ac rf kn p1 p2 p3 r1 g1) (kcwV hts kw_469 kv_X1_set rfl rfl ⟨(Nat.le_of_ble_eq_true rfl), (Nat.le_of_ble_eq_true rfl)⟩) (kpV (A := A) qP hK qD hG (krecv_3 (q0 := 0) hK hP rfl)) rfl rfl hl.1 rfl (lv_room (Nat.le_of_ble_eq_true rfl)) (kdr dgL_set_0 0 5 rfl rfl) ⟨(Nat.le_of_ble_eq_true rfl), (Nat.le_of_ble_eq_true rfl)⟩) hP hD hS hA (kFr_l kFr_SB) (fun H locs hP hD hS br1 => ?_)
    refine lv_i2l (v := r1.1.toInt64) hx hb (kdr dgL_set_0 0 6 rfl rfl) rfl ?_
    refine va_putN (host := RL) (D := (dC, dI)) (ci := 4) (v := .long r1.1.toInt64) (ty := .long) (C := RX2) (T := TX2) (N := 2) hx hb hts hiX2 tyX2 tyX2_ok nmX2 hown hK hP hD hS 15 rfl rfl 0 (by decide) (va_Nw.use rfl (hG.at 7 rfl)) (fun _ h9 => h9) rfl (by decide +kernel) rfl rfl (Nat.le_of_ble_eq_true rfl) (kdr dgL_set_0 0 7 rfl rfl) (fun H locs hP hD hS => ?_)
    have hP : va_P (dC, dI) vwCl ((wSB cI cJ cZ a r1.2.1 fr un sb se so sc wb we wo wc fb fe fo fc rm r1.2.2.1 r1.2.2.2 kn) ++ (wO o r1.1.toInt64 ov)) H := hP
    have hD : va_D A ((wSB cI cJ cZ a r1.2.1 fr un sb se so sc wb we wo wc fb fe fo fc rm r1.2.2.1 r1.2.2.2 kn) ++ (wO o r1.1.toInt64 ov)) := hD
    refine lv_goto (tgt := 24) hx hb (kdr dgL_set_0 0 8 rfl rfl) (by decide) ?_
    refine lv_iconst (v := 0) hx hb (kdr dgL_set_0 1 5 rfl rfl) (by decide) ?_
    have h := Option.some.inj h
    subst h
    refine W.widen (k := 1) (n := 6) (Nat.le_of_ble_eq_true rfl) (Nat.le_of_ble_eq_true rfl) ?_
    exact kret_i (v := 0) hx hb hr rfl hlocks hS hP (kdr dgL_set_0 1 6 rfl rfl)
noncomputable abbrev wsL_go : List Cond := Cond.codeWith yL_go cL_go 7 (some .int) [(0, 15, 18, 19), (0, 15, 22, 21)] :: kBIG
noncomputable def f_L_go (ce : Nat → Int64) (ac : Int32) (rf : Int32) (on : Int64) (p1 : Int32) (p2 : Int32) (p3 : Int32) (p4 : Int32) : Option ((Int32) × (Nat → Int64) × (Int32) × (Int32) × (Int64)) :=
  xb (fx_X1_go p1 p2 p3) (fun k1 => if k1 = 1 then
  some (1, ce, ac, rf, on)
else
  some (2, ce, ac, rf, on)) (
  (f_X1_go ce ac rf p1 p2 p3 p4).bind fun r1 =>
  some (0, r1.2.1, r1.2.2.1, r1.2.2.2, r1.1.toInt64))
theorem f_L_go_e {ce : Nat → Int64} {ac : Int32} {rf : Int32} {on : Int64} {p1 : Int32} {p2 : Int32} {p3 : Int32} {p4 : Int32} : f_L_go ce ac rf on p1 p2 p3 p4 = 
  xb (fx_X1_go p1 p2 p3) (fun k1 => if k1 = 1 then
  some (1, ce, ac, rf, on)
else
  some (2, ce, ac, rf, on)) (
  (f_X1_go ce ac rf p1 p2 p3 p4).bind fun r1 =>
  some (0, r1.2.1, r1.2.2.1, r1.2.2.2, r1.1.toInt64)) := rfl
set_option maxHeartbeats 4000000 in
set_option maxRecDepth 100000 in
theorem c_L_go (l : Launch) (hl9 : l.stackTraces = false) (dC : Nat → ClassId) (dI : Nat → Nat → Nat) (cB cI cJ cZ : ClassId) (a : Nat → Nat) (o : Nat) (sz : Nat) (ce : Nat → Int64) (fr : Int64) (un : Int64) (sb : Nat → Int64) (se : Nat → Int64) (so : Nat → Int32) (sc : Int32) (wb : Nat → Int64) (we : Nat → Int64) (wo : Nat → Int32) (wc : Int32) (fb : Nat → Int64) (fe : Nat → Int64) (fo : Nat → Int32) (fc : Int32) (rm : Nat → Int32) (ac : Int32) (rf : Int32) (kn : Int32) (on : Int64) (ov : Value) (p1 : Int32) (p2 : Int32) (p3 : Int32) (p4 : Int32) (res : (Int32) × (Nat → Int64) × (Int32) × (Int32) × (Int64)) (hf : f_L_go ce ac rf on p1 p2 p3 p4 = some res) : kMw l yL_go wsL_go (kRm 9 1 6 161) dC dI cB cI cJ cZ [.ref (a 0), .int p1, .int p2, .int p3, .int p4, .ref o] sz ((wSB cI cJ cZ a ce fr un sb se so sc wb we wo wc fb fe fo fc rm ac rf kn) ++ (wO o on ov)) .int (res.1) ((wSB cI cJ cZ a (res.2.1) fr un sb se so sc wb we wo wc fb fe fo fc rm (res.2.2.1) (res.2.2.2.1) kn) ++ (wO o (res.2.2.2.2) ov)) 1 6 := by
  refine kmet_w (y := yL_go) (cc := cL_go) (maxL := 7) (ret := (some .int)) (hh := [(0, 15, 18, 19), (0, 15, 22, 21)]) RL (kvA 0 (a 0) (kvI 1 p1 (kvI 2 p2 (kvI 3 p3 (kvI 4 p4 (kvA 5 o kvE)))))) kpl_L rfl rfl (Nat.le_of_ble_eq_true rfl) rfl (fun p e s m below meth c A ls hx hb hr hml hht hts hown hlocks hP hK hG hZ hD hA hS hl => ?_)
  have hw0 := hts (.classLink RL 19 "java/lang/IndexOutOfBoundsException") (List.mem_cons_of_mem _ kw_467)
  have hw1 := hts (.classLink RL 21 "java/lang/IllegalArgumentException") (List.mem_cons_of_mem _ kw_468)
  have hiX2 : ∀ w ∈ u_ws RX2 TX2 2, w ∈ wsL_go := fun w h => List.mem_cons_of_mem _ (ku_X2 w h)
  have h := f_L_go_e.symm.trans hf
  refine lv_aload hx hb (kdr dgL_go_0 0 0 rfl rfl) (lv_at hl 5 rfl) ?_
  refine lv_aload_n hx hb (kdr dgL_go_0 0 1 rfl rfl) rfl (lv_at hl 0 rfl) ?_
  refine lv_iload_n hx hb (kdr dgL_go_0 0 2 rfl rfl) rfl (lv_at hl 1 rfl) ?_
  refine lv_iload_n hx hb (kdr dgL_go_0 0 3 rfl rfl) rfl (lv_at hl 2 rfl) ?_
  refine lv_iload_n hx hb (kdr dgL_go_0 0 4 rfl rfl) rfl (lv_at hl 3 rfl) ?_
  refine lv_iload hx hb (kdr dgL_go_0 0 5 rfl rfl) (lv_at hl 4 rfl) ?_
  rcases g_x h with ⟨k1, j1, h⟩ | ⟨-, h⟩
  · refine kq_xh ((wSB cI cJ cZ a ce fr un sb se so sc wb we wo wc fb fe fo fc rm ac rf kn) ++ (wO o on ov)) (fun qP qD qF => vx_runV (As := [.int p1, .int p2, .int p3, .int p4]) (rest := [.ref o]) ⟨hx, hb, hml, hown, hts⟩ (x_X1_go l hl9 dC dI cB cI cJ cZ a _ ce fr un sb se so sc wb we wo wc fb fe fo fc rm ac rf kn p1 p2 p3 p4 k1 j1) (kcwV hts kw_508 kv_X1_go rfl rfl ⟨(Nat.le_of_ble_eq_true rfl), (Nat.le_of_ble_eq_true rfl)⟩) (kpVXq (A := A) qP hK qD hG hZ hS qF (krecv_3 (q0 := 0) hK hP rfl)) rfl rfl hl.1 rfl (lv_room (Nat.le_of_ble_eq_true rfl)) (kdr dgL_go_0 0 6 rfl rfl) ⟨(Nat.le_of_ble_eq_true rfl), (Nat.le_of_ble_eq_true rfl)⟩) hP hD hS hA (kFr_l kFr_SB) (fun q9 ceQ H locs hP hD hS hce hcv hcl => ?_)
    by_cases e9 : k1 = 1
    · have h := g_t e9 h
      rw [kEx_1 e9] at hcl
      refine vx_catch (E := "java/lang/IndexOutOfBoundsException") (name := "java/lang/IndexOutOfBoundsException") (own := RL) hown [] ⟨0, 15, 18, 19⟩ [⟨0, 15, 22, 21⟩] hht (fun z hz => by cases hz) (by decide) (by decide) hw0 (va_Nw.use rfl (hG.at 4 rfl)) hce hcv hcl ?_
      refine lv_astore (lv' := (kvA 6 q9 (kvA 0 (a 0) (kvI 1 p1 (kvI 2 p2 (kvI 3 p3 (kvI 4 p4 (kvA 5 o kvE)))))))) hx hb (kdr dgL_go_0 1 0 rfl rfl) hl (by decide) rfl (fun ls hl => ?_)
      refine lv_iconst (v := 1) hx hb (kdr dgL_go_0 1 1 rfl rfl) (by decide) ?_
      have h := Option.some.inj h
      subst h
      refine W.widen (k := 1) (n := 6) (Nat.le_of_ble_eq_true rfl) (Nat.le_of_ble_eq_true rfl) ?_
      exact kret_i (v := 1) hx hb hr rfl hlocks hS hP (kdr dgL_go_0 1 2 rfl rfl)
    · have h := g_f e9 h
      rw [kEx_2 e9] at hcl
      refine vx_catch (E := "java/lang/IllegalArgumentException") (name := "java/lang/IllegalArgumentException") (own := RL) hown [⟨0, 15, 18, 19⟩] ⟨0, 15, 22, 21⟩ [] hht (fun z hz => by rcases List.mem_singleton.mp hz with rfl; exact Or.inr ⟨by decide, _, hw0, hG.2⟩) (by decide) (by decide) hw1 (va_Nw.use rfl (hG.at 5 rfl)) hce hcv hcl ?_
      refine lv_astore (lv' := (kvA 6 q9 (kvA 0 (a 0) (kvI 1 p1 (kvI 2 p2 (kvI 3 p3 (kvI 4 p4 (kvA 5 o kvE)))))))) hx hb (kdr dgL_go_0 1 3 rfl rfl) hl (by decide) rfl (fun ls hl => ?_)
      refine lv_iconst (v := 2) hx hb (kdr dgL_go_0 1 4 rfl rfl) (by decide) ?_
      have h := Option.some.inj h
      subst h
      refine W.widen (k := 1) (n := 6) (Nat.le_of_ble_eq_true rfl) (Nat.le_of_ble_eq_true rfl) ?_
      exact kret_i (v := 2) hx hb hr rfl hlocks hS hP (kdr dgL_go_0 1 5 rfl rfl)
  · obtain ⟨r1, g1, h⟩ := g_b h
    refine kq_i ((wSB cI cJ cZ a r1.2.1 fr un sb se so sc wb we wo wc fb fe fo fc rm r1.2.2.1 r1.2.2.2 kn) ++ (wO o on ov)) (fun qP qD qF => va_runV (As := [.int p1, .int p2, .int p3, .int p4]) (rest := [.ref o]) ⟨hx, hb, hml, hown, hts⟩ (c_X1_go l dC dI cB cI cJ cZ a _ ce fr un sb se so sc wb we wo wc fb fe fo fc rm ac rf kn p1 p2 p3 p4 r1 g1) (kcwV hts kw_508 kv_X1_go rfl rfl ⟨(Nat.le_of_ble_eq_true rfl), (Nat.le_of_ble_eq_true rfl)⟩) (kpV (A := A) qP hK qD hG (krecv_3 (q0 := 0) hK hP rfl)) rfl rfl hl.1 rfl (lv_room (Nat.le_of_ble_eq_true rfl)) (kdr dgL_go_0 0 6 rfl rfl) ⟨(Nat.le_of_ble_eq_true rfl), (Nat.le_of_ble_eq_true rfl)⟩) hP hD hS hA (kFr_l kFr_SB) (fun H locs hP hD hS br1 => ?_)
    refine lv_i2l (v := r1.1.toInt64) hx hb (kdr dgL_go_0 0 7 rfl rfl) rfl ?_
    refine va_putN (host := RL) (D := (dC, dI)) (ci := 4) (v := .long r1.1.toInt64) (ty := .long) (C := RX2) (T := TX2) (N := 2) hx hb hts hiX2 tyX2 tyX2_ok nmX2 hown hK hP hD hS 15 rfl rfl 0 (by decide) (va_Nw.use rfl (hG.at 7 rfl)) (fun _ h9 => h9) rfl (by decide +kernel) rfl rfl (Nat.le_of_ble_eq_true rfl) (kdr dgL_go_0 0 8 rfl rfl) (fun H locs hP hD hS => ?_)
    have hP : va_P (dC, dI) vwCl ((wSB cI cJ cZ a r1.2.1 fr un sb se so sc wb we wo wc fb fe fo fc rm r1.2.2.1 r1.2.2.2 kn) ++ (wO o r1.1.toInt64 ov)) H := hP
    have hD : va_D A ((wSB cI cJ cZ a r1.2.1 fr un sb se so sc wb we wo wc fb fe fo fc rm r1.2.2.1 r1.2.2.2 kn) ++ (wO o r1.1.toInt64 ov)) := hD
    refine lv_goto (tgt := 26) hx hb (kdr dgL_go_0 0 9 rfl rfl) (by decide) ?_
    refine lv_iconst (v := 0) hx hb (kdr dgL_go_0 1 6 rfl rfl) (by decide) ?_
    have h := Option.some.inj h
    subst h
    refine W.widen (k := 1) (n := 6) (Nat.le_of_ble_eq_true rfl) (Nat.le_of_ble_eq_true rfl) ?_
    exact kret_i (v := 0) hx hb hr rfl hlocks hS hP (kdr dgL_go_0 1 7 rfl rfl)
noncomputable abbrev wsL_copy : List Cond := Cond.codeWith yL_copy cL_copy 5 (some .int) [(0, 11, 14, 19)] :: kBIG
noncomputable def f_L_copy (ce : Nat → Int64) (ac : Int32) (on : Int64) (p1 : Int32) (p2 : Int32) : Option ((Int32) × (Nat → Int64) × (Int32) × (Int64)) :=
  xb (fx_X1_copy p1 p2) (fun k1 => if k1 = 1 then
  some (1, ce, ac, on)
else
  none) (
  (f_X1_copy ce ac p1 p2).bind fun r1 =>
  some (0, r1.2.1, r1.2.2, r1.1.toInt64))
theorem f_L_copy_e {ce : Nat → Int64} {ac : Int32} {on : Int64} {p1 : Int32} {p2 : Int32} : f_L_copy ce ac on p1 p2 = 
  xb (fx_X1_copy p1 p2) (fun k1 => if k1 = 1 then
  some (1, ce, ac, on)
else
  none) (
  (f_X1_copy ce ac p1 p2).bind fun r1 =>
  some (0, r1.2.1, r1.2.2, r1.1.toInt64)) := rfl
set_option maxHeartbeats 4000000 in
set_option maxRecDepth 100000 in
theorem c_L_copy (l : Launch) (hl9 : l.stackTraces = false) (dC : Nat → ClassId) (dI : Nat → Nat → Nat) (cB cI cJ cZ : ClassId) (a : Nat → Nat) (o : Nat) (sz : Nat) (ce : Nat → Int64) (fr : Int64) (un : Int64) (sb : Nat → Int64) (se : Nat → Int64) (so : Nat → Int32) (sc : Int32) (wb : Nat → Int64) (we : Nat → Int64) (wo : Nat → Int32) (wc : Int32) (fb : Nat → Int64) (fe : Nat → Int64) (fo : Nat → Int32) (fc : Int32) (rm : Nat → Int32) (ac : Int32) (rf : Int32) (kn : Int32) (on : Int64) (ov : Value) (p1 : Int32) (p2 : Int32) (res : (Int32) × (Nat → Int64) × (Int32) × (Int64)) (hf : f_L_copy ce ac on p1 p2 = some res) : kMw l yL_copy wsL_copy (kRm 8 1 6 132) dC dI cB cI cJ cZ [.ref (a 0), .int p1, .int p2, .ref o] sz ((wSB cI cJ cZ a ce fr un sb se so sc wb we wo wc fb fe fo fc rm ac rf kn) ++ (wO o on ov)) .int (res.1) ((wSB cI cJ cZ a (res.2.1) fr un sb se so sc wb we wo wc fb fe fo fc rm (res.2.2.1) rf kn) ++ (wO o (res.2.2.2) ov)) 1 6 := by
  refine kmet_w (y := yL_copy) (cc := cL_copy) (maxL := 5) (ret := (some .int)) (hh := [(0, 11, 14, 19)]) RL (kvA 0 (a 0) (kvI 1 p1 (kvI 2 p2 (kvA 3 o kvE)))) kpl_L rfl rfl (Nat.le_of_ble_eq_true rfl) rfl (fun p e s m below meth c A ls hx hb hr hml hht hts hown hlocks hP hK hG hZ hD hA hS hl => ?_)
  have hw0 := hts (.classLink RL 19 "java/lang/IndexOutOfBoundsException") (List.mem_cons_of_mem _ kw_467)
  have hiX2 : ∀ w ∈ u_ws RX2 TX2 2, w ∈ wsL_copy := fun w h => List.mem_cons_of_mem _ (ku_X2 w h)
  have h := f_L_copy_e.symm.trans hf
  refine lv_aload_n hx hb (kdr dgL_copy_0 0 0 rfl rfl) rfl (lv_at hl 3 rfl) ?_
  refine lv_aload_n hx hb (kdr dgL_copy_0 0 1 rfl rfl) rfl (lv_at hl 0 rfl) ?_
  refine lv_iload_n hx hb (kdr dgL_copy_0 0 2 rfl rfl) rfl (lv_at hl 1 rfl) ?_
  refine lv_iload_n hx hb (kdr dgL_copy_0 0 3 rfl rfl) rfl (lv_at hl 2 rfl) ?_
  rcases g_x h with ⟨k1, j1, h⟩ | ⟨-, h⟩
  · refine kq_xh ((wSB cI cJ cZ a ce fr un sb se so sc wb we wo wc fb fe fo fc rm ac rf kn) ++ (wO o on ov)) (fun qP qD qF => vx_runV (As := [.int p1, .int p2]) (rest := [.ref o]) ⟨hx, hb, hml, hown, hts⟩ (x_X1_copy l hl9 dC dI cB cI cJ cZ a _ ce fr un sb se so sc wb we wo wc fb fe fo fc rm ac rf kn p1 p2 k1 j1) (kcwV hts kw_525 kv_X1_copy rfl rfl ⟨(Nat.le_of_ble_eq_true rfl), (Nat.le_of_ble_eq_true rfl)⟩) (kpVXq (A := A) qP hK qD hG hZ hS qF (krecv_3 (q0 := 0) hK hP rfl)) rfl rfl hl.1 rfl (lv_room (Nat.le_of_ble_eq_true rfl)) (kdr dgL_copy_0 0 4 rfl rfl) ⟨(Nat.le_of_ble_eq_true rfl), (Nat.le_of_ble_eq_true rfl)⟩) hP hD hS hA (kFr_l kFr_SB) (fun q9 ceQ H locs hP hD hS hce hcv hcl => ?_)
    by_cases e9 : k1 = 1
    · have h := g_t e9 h
      rw [kEx_1 e9] at hcl
      refine vx_catch (E := "java/lang/IndexOutOfBoundsException") (name := "java/lang/IndexOutOfBoundsException") (own := RL) hown [] ⟨0, 11, 14, 19⟩ [] hht (fun z hz => by cases hz) (by decide) (by decide) hw0 (va_Nw.use rfl (hG.at 4 rfl)) hce hcv hcl ?_
      refine lv_astore (lv' := (kvA 4 q9 (kvA 0 (a 0) (kvI 1 p1 (kvI 2 p2 (kvA 3 o kvE)))))) hx hb (kdr dgL_copy_0 0 8 rfl rfl) hl (by decide) rfl (fun ls hl => ?_)
      refine lv_iconst (v := 1) hx hb (kdr dgL_copy_0 0 9 rfl rfl) (by decide) ?_
      have h := Option.some.inj h
      subst h
      refine W.widen (k := 1) (n := 6) (Nat.le_of_ble_eq_true rfl) (Nat.le_of_ble_eq_true rfl) ?_
      exact kret_i (v := 1) hx hb hr rfl hlocks hS hP (kdr dgL_copy_0 1 0 rfl rfl)
    · have h := g_f e9 h
      rw [kEx_2 e9] at hcl
      cases h
  · obtain ⟨r1, g1, h⟩ := g_b h
    refine kq_i ((wSB cI cJ cZ a r1.2.1 fr un sb se so sc wb we wo wc fb fe fo fc rm r1.2.2 rf kn) ++ (wO o on ov)) (fun qP qD qF => va_runV (As := [.int p1, .int p2]) (rest := [.ref o]) ⟨hx, hb, hml, hown, hts⟩ (c_X1_copy l dC dI cB cI cJ cZ a _ ce fr un sb se so sc wb we wo wc fb fe fo fc rm ac rf kn p1 p2 r1 g1) (kcwV hts kw_525 kv_X1_copy rfl rfl ⟨(Nat.le_of_ble_eq_true rfl), (Nat.le_of_ble_eq_true rfl)⟩) (kpV (A := A) qP hK qD hG (krecv_3 (q0 := 0) hK hP rfl)) rfl rfl hl.1 rfl (lv_room (Nat.le_of_ble_eq_true rfl)) (kdr dgL_copy_0 0 4 rfl rfl) ⟨(Nat.le_of_ble_eq_true rfl), (Nat.le_of_ble_eq_true rfl)⟩) hP hD hS hA (kFr_l kFr_SB) (fun H locs hP hD hS br1 => ?_)
    refine lv_i2l (v := r1.1.toInt64) hx hb (kdr dgL_copy_0 0 5 rfl rfl) rfl ?_
    refine va_putN (host := RL) (D := (dC, dI)) (ci := 4) (v := .long r1.1.toInt64) (ty := .long) (C := RX2) (T := TX2) (N := 2) hx hb hts hiX2 tyX2 tyX2_ok nmX2 hown hK hP hD hS 15 rfl rfl 0 (by decide) (va_Nw.use rfl (hG.at 7 rfl)) (fun _ h9 => h9) rfl (by decide +kernel) rfl rfl (Nat.le_of_ble_eq_true rfl) (kdr dgL_copy_0 0 6 rfl rfl) (fun H locs hP hD hS => ?_)
    have hP : va_P (dC, dI) vwCl ((wSB cI cJ cZ a r1.2.1 fr un sb se so sc wb we wo wc fb fe fo fc rm r1.2.2 rf kn) ++ (wO o r1.1.toInt64 ov)) H := hP
    have hD : va_D A ((wSB cI cJ cZ a r1.2.1 fr un sb se so sc wb we wo wc fb fe fo fc rm r1.2.2 rf kn) ++ (wO o r1.1.toInt64 ov)) := hD
    refine lv_goto (tgt := 18) hx hb (kdr dgL_copy_0 0 7 rfl rfl) (by decide) ?_
    refine lv_iconst (v := 0) hx hb (kdr dgL_copy_0 1 1 rfl rfl) (by decide) ?_
    have h := Option.some.inj h
    subst h
    refine W.widen (k := 1) (n := 6) (Nat.le_of_ble_eq_true rfl) (Nat.le_of_ble_eq_true rfl) ?_
    exact kret_i (v := 0) hx hb hr rfl hlocks hS hP (kdr dgL_copy_0 1 2 rfl rfl)
noncomputable abbrev wsL_swap : List Cond := Cond.codeWith yL_swap cL_swap 5 (some .int) [(0, 11, 14, 19)] :: kBIG
noncomputable def f_L_swap (ce : Nat → Int64) (ac : Int32) (on : Int64) (p1 : Int32) (p2 : Int32) : Option ((Int32) × (Nat → Int64) × (Int32) × (Int64)) :=
  xb (fx_X1_swap p1 p2) (fun k1 => if k1 = 1 then
  some (1, ce, ac, on)
else
  none) (
  (f_X1_swap ce ac p1 p2).bind fun r1 =>
  some (0, r1.2.1, r1.2.2, r1.1.toInt64))
theorem f_L_swap_e {ce : Nat → Int64} {ac : Int32} {on : Int64} {p1 : Int32} {p2 : Int32} : f_L_swap ce ac on p1 p2 = 
  xb (fx_X1_swap p1 p2) (fun k1 => if k1 = 1 then
  some (1, ce, ac, on)
else
  none) (
  (f_X1_swap ce ac p1 p2).bind fun r1 =>
  some (0, r1.2.1, r1.2.2, r1.1.toInt64)) := rfl
set_option maxHeartbeats 4000000 in
set_option maxRecDepth 100000 in
theorem c_L_swap (l : Launch) (hl9 : l.stackTraces = false) (dC : Nat → ClassId) (dI : Nat → Nat → Nat) (cB cI cJ cZ : ClassId) (a : Nat → Nat) (o : Nat) (sz : Nat) (ce : Nat → Int64) (fr : Int64) (un : Int64) (sb : Nat → Int64) (se : Nat → Int64) (so : Nat → Int32) (sc : Int32) (wb : Nat → Int64) (we : Nat → Int64) (wo : Nat → Int32) (wc : Int32) (fb : Nat → Int64) (fe : Nat → Int64) (fo : Nat → Int32) (fc : Int32) (rm : Nat → Int32) (ac : Int32) (rf : Int32) (kn : Int32) (on : Int64) (ov : Value) (p1 : Int32) (p2 : Int32) (res : (Int32) × (Nat → Int64) × (Int32) × (Int64)) (hf : f_L_swap ce ac on p1 p2 = some res) : kMw l yL_swap wsL_swap (kRm 8 1 6 135) dC dI cB cI cJ cZ [.ref (a 0), .int p1, .int p2, .ref o] sz ((wSB cI cJ cZ a ce fr un sb se so sc wb we wo wc fb fe fo fc rm ac rf kn) ++ (wO o on ov)) .int (res.1) ((wSB cI cJ cZ a (res.2.1) fr un sb se so sc wb we wo wc fb fe fo fc rm (res.2.2.1) rf kn) ++ (wO o (res.2.2.2) ov)) 1 6 := by
  refine kmet_w (y := yL_swap) (cc := cL_swap) (maxL := 5) (ret := (some .int)) (hh := [(0, 11, 14, 19)]) RL (kvA 0 (a 0) (kvI 1 p1 (kvI 2 p2 (kvA 3 o kvE)))) kpl_L rfl rfl (Nat.le_of_ble_eq_true rfl) rfl (fun p e s m below meth c A ls hx hb hr hml hht hts hown hlocks hP hK hG hZ hD hA hS hl => ?_)
  have hw0 := hts (.classLink RL 19 "java/lang/IndexOutOfBoundsException") (List.mem_cons_of_mem _ kw_467)
  have hiX2 : ∀ w ∈ u_ws RX2 TX2 2, w ∈ wsL_swap := fun w h => List.mem_cons_of_mem _ (ku_X2 w h)
  have h := f_L_swap_e.symm.trans hf
  refine lv_aload_n hx hb (kdr dgL_swap_0 0 0 rfl rfl) rfl (lv_at hl 3 rfl) ?_
  refine lv_aload_n hx hb (kdr dgL_swap_0 0 1 rfl rfl) rfl (lv_at hl 0 rfl) ?_
  refine lv_iload_n hx hb (kdr dgL_swap_0 0 2 rfl rfl) rfl (lv_at hl 1 rfl) ?_
  refine lv_iload_n hx hb (kdr dgL_swap_0 0 3 rfl rfl) rfl (lv_at hl 2 rfl) ?_
  rcases g_x h with ⟨k1, j1, h⟩ | ⟨-, h⟩
  · refine kq_xh ((wSB cI cJ cZ a ce fr un sb se so sc wb we wo wc fb fe fo fc rm ac rf kn) ++ (wO o on ov)) (fun qP qD qF => vx_runV (As := [.int p1, .int p2]) (rest := [.ref o]) ⟨hx, hb, hml, hown, hts⟩ (x_X1_swap l hl9 dC dI cB cI cJ cZ a _ ce fr un sb se so sc wb we wo wc fb fe fo fc rm ac rf kn p1 p2 k1 j1) (kcwV hts kw_536 kv_X1_swap rfl rfl ⟨(Nat.le_of_ble_eq_true rfl), (Nat.le_of_ble_eq_true rfl)⟩) (kpVXq (A := A) qP hK qD hG hZ hS qF (krecv_3 (q0 := 0) hK hP rfl)) rfl rfl hl.1 rfl (lv_room (Nat.le_of_ble_eq_true rfl)) (kdr dgL_swap_0 0 4 rfl rfl) ⟨(Nat.le_of_ble_eq_true rfl), (Nat.le_of_ble_eq_true rfl)⟩) hP hD hS hA (kFr_l kFr_SB) (fun q9 ceQ H locs hP hD hS hce hcv hcl => ?_)
    by_cases e9 : k1 = 1
    · have h := g_t e9 h
      rw [kEx_1 e9] at hcl
      refine vx_catch (E := "java/lang/IndexOutOfBoundsException") (name := "java/lang/IndexOutOfBoundsException") (own := RL) hown [] ⟨0, 11, 14, 19⟩ [] hht (fun z hz => by cases hz) (by decide) (by decide) hw0 (va_Nw.use rfl (hG.at 4 rfl)) hce hcv hcl ?_
      refine lv_astore (lv' := (kvA 4 q9 (kvA 0 (a 0) (kvI 1 p1 (kvI 2 p2 (kvA 3 o kvE)))))) hx hb (kdr dgL_swap_0 0 8 rfl rfl) hl (by decide) rfl (fun ls hl => ?_)
      refine lv_iconst (v := 1) hx hb (kdr dgL_swap_0 0 9 rfl rfl) (by decide) ?_
      have h := Option.some.inj h
      subst h
      refine W.widen (k := 1) (n := 6) (Nat.le_of_ble_eq_true rfl) (Nat.le_of_ble_eq_true rfl) ?_
      exact kret_i (v := 1) hx hb hr rfl hlocks hS hP (kdr dgL_swap_0 1 0 rfl rfl)
    · have h := g_f e9 h
      rw [kEx_2 e9] at hcl
      cases h
  · obtain ⟨r1, g1, h⟩ := g_b h
    refine kq_i ((wSB cI cJ cZ a r1.2.1 fr un sb se so sc wb we wo wc fb fe fo fc rm r1.2.2 rf kn) ++ (wO o on ov)) (fun qP qD qF => va_runV (As := [.int p1, .int p2]) (rest := [.ref o]) ⟨hx, hb, hml, hown, hts⟩ (c_X1_swap l dC dI cB cI cJ cZ a _ ce fr un sb se so sc wb we wo wc fb fe fo fc rm ac rf kn p1 p2 r1 g1) (kcwV hts kw_536 kv_X1_swap rfl rfl ⟨(Nat.le_of_ble_eq_true rfl), (Nat.le_of_ble_eq_true rfl)⟩) (kpV (A := A) qP hK qD hG (krecv_3 (q0 := 0) hK hP rfl)) rfl rfl hl.1 rfl (lv_room (Nat.le_of_ble_eq_true rfl)) (kdr dgL_swap_0 0 4 rfl rfl) ⟨(Nat.le_of_ble_eq_true rfl), (Nat.le_of_ble_eq_true rfl)⟩) hP hD hS hA (kFr_l kFr_SB) (fun H locs hP hD hS br1 => ?_)
    refine lv_i2l (v := r1.1.toInt64) hx hb (kdr dgL_swap_0 0 5 rfl rfl) rfl ?_
    refine va_putN (host := RL) (D := (dC, dI)) (ci := 4) (v := .long r1.1.toInt64) (ty := .long) (C := RX2) (T := TX2) (N := 2) hx hb hts hiX2 tyX2 tyX2_ok nmX2 hown hK hP hD hS 15 rfl rfl 0 (by decide) (va_Nw.use rfl (hG.at 7 rfl)) (fun _ h9 => h9) rfl (by decide +kernel) rfl rfl (Nat.le_of_ble_eq_true rfl) (kdr dgL_swap_0 0 6 rfl rfl) (fun H locs hP hD hS => ?_)
    have hP : va_P (dC, dI) vwCl ((wSB cI cJ cZ a r1.2.1 fr un sb se so sc wb we wo wc fb fe fo fc rm r1.2.2 rf kn) ++ (wO o r1.1.toInt64 ov)) H := hP
    have hD : va_D A ((wSB cI cJ cZ a r1.2.1 fr un sb se so sc wb we wo wc fb fe fo fc rm r1.2.2 rf kn) ++ (wO o r1.1.toInt64 ov)) := hD
    refine lv_goto (tgt := 18) hx hb (kdr dgL_swap_0 0 7 rfl rfl) (by decide) ?_
    refine lv_iconst (v := 0) hx hb (kdr dgL_swap_0 1 1 rfl rfl) (by decide) ?_
    have h := Option.some.inj h
    subst h
    refine W.widen (k := 1) (n := 6) (Nat.le_of_ble_eq_true rfl) (Nat.le_of_ble_eq_true rfl) ?_
    exact kret_i (v := 0) hx hb hr rfl hlocks hS hP (kdr dgL_swap_0 1 2 rfl rfl)
noncomputable abbrev wsL_pick : List Cond := Cond.codeWith yL_pick cL_pick 5 (some .int) [(0, 11, 14, 19)] :: kBIG
noncomputable def f_L_pick (ce : Nat → Int64) (ac : Int32) (on : Int64) (p1 : Int32) (p2 : Int32) : Option ((Int32) × (Nat → Int64) × (Int32) × (Int64)) :=
  xb (fx_X1_pick p2) (fun k1 => if k1 = 1 then
  some (1, ce, ac, on)
else
  none) (
  (f_X1_pick ce ac p1 p2).bind fun r1 =>
  some (0, r1.2.1, r1.2.2, r1.1.toInt64))
theorem f_L_pick_e {ce : Nat → Int64} {ac : Int32} {on : Int64} {p1 : Int32} {p2 : Int32} : f_L_pick ce ac on p1 p2 = 
  xb (fx_X1_pick p2) (fun k1 => if k1 = 1 then
  some (1, ce, ac, on)
else
  none) (
  (f_X1_pick ce ac p1 p2).bind fun r1 =>
  some (0, r1.2.1, r1.2.2, r1.1.toInt64)) := rfl
set_option maxHeartbeats 4000000 in
set_option maxRecDepth 100000 in
theorem c_L_pick (l : Launch) (hl9 : l.stackTraces = false) (dC : Nat → ClassId) (dI : Nat → Nat → Nat) (cB cI cJ cZ : ClassId) (a : Nat → Nat) (o : Nat) (sz : Nat) (ce : Nat → Int64) (fr : Int64) (un : Int64) (sb : Nat → Int64) (se : Nat → Int64) (so : Nat → Int32) (sc : Int32) (wb : Nat → Int64) (we : Nat → Int64) (wo : Nat → Int32) (wc : Int32) (fb : Nat → Int64) (fe : Nat → Int64) (fo : Nat → Int32) (fc : Int32) (rm : Nat → Int32) (ac : Int32) (rf : Int32) (kn : Int32) (on : Int64) (ov : Value) (p1 : Int32) (p2 : Int32) (res : (Int32) × (Nat → Int64) × (Int32) × (Int64)) (hf : f_L_pick ce ac on p1 p2 = some res) : kMw l yL_pick wsL_pick (kRm 8 1 6 135) dC dI cB cI cJ cZ [.ref (a 0), .int p1, .int p2, .ref o] sz ((wSB cI cJ cZ a ce fr un sb se so sc wb we wo wc fb fe fo fc rm ac rf kn) ++ (wO o on ov)) .int (res.1) ((wSB cI cJ cZ a (res.2.1) fr un sb se so sc wb we wo wc fb fe fo fc rm (res.2.2.1) rf kn) ++ (wO o (res.2.2.2) ov)) 1 6 := by
  refine kmet_w (y := yL_pick) (cc := cL_pick) (maxL := 5) (ret := (some .int)) (hh := [(0, 11, 14, 19)]) RL (kvA 0 (a 0) (kvI 1 p1 (kvI 2 p2 (kvA 3 o kvE)))) kpl_L rfl rfl (Nat.le_of_ble_eq_true rfl) rfl (fun p e s m below meth c A ls hx hb hr hml hht hts hown hlocks hP hK hG hZ hD hA hS hl => ?_)
  have hw0 := hts (.classLink RL 19 "java/lang/IndexOutOfBoundsException") (List.mem_cons_of_mem _ kw_467)
  have hiX2 : ∀ w ∈ u_ws RX2 TX2 2, w ∈ wsL_pick := fun w h => List.mem_cons_of_mem _ (ku_X2 w h)
  have h := f_L_pick_e.symm.trans hf
  refine lv_aload_n hx hb (kdr dgL_pick_0 0 0 rfl rfl) rfl (lv_at hl 3 rfl) ?_
  refine lv_aload_n hx hb (kdr dgL_pick_0 0 1 rfl rfl) rfl (lv_at hl 0 rfl) ?_
  refine lv_iload_n hx hb (kdr dgL_pick_0 0 2 rfl rfl) rfl (lv_at hl 1 rfl) ?_
  refine lv_iload_n hx hb (kdr dgL_pick_0 0 3 rfl rfl) rfl (lv_at hl 2 rfl) ?_
  rcases g_x h with ⟨k1, j1, h⟩ | ⟨-, h⟩
  · refine kq_xh ((wSB cI cJ cZ a ce fr un sb se so sc wb we wo wc fb fe fo fc rm ac rf kn) ++ (wO o on ov)) (fun qP qD qF => vx_runV (As := [.int p1, .int p2]) (rest := [.ref o]) ⟨hx, hb, hml, hown, hts⟩ (x_X1_pick l hl9 dC dI cB cI cJ cZ a _ ce fr un sb se so sc wb we wo wc fb fe fo fc rm ac rf kn p1 p2 k1 j1) (kcwV hts kw_543 kv_X1_pick rfl rfl ⟨(Nat.le_of_ble_eq_true rfl), (Nat.le_of_ble_eq_true rfl)⟩) (kpVXq (A := A) qP hK qD hG hZ hS qF (krecv_3 (q0 := 0) hK hP rfl)) rfl rfl hl.1 rfl (lv_room (Nat.le_of_ble_eq_true rfl)) (kdr dgL_pick_0 0 4 rfl rfl) ⟨(Nat.le_of_ble_eq_true rfl), (Nat.le_of_ble_eq_true rfl)⟩) hP hD hS hA (kFr_l kFr_SB) (fun q9 ceQ H locs hP hD hS hce hcv hcl => ?_)
    by_cases e9 : k1 = 1
    · have h := g_t e9 h
      rw [kEx_1 e9] at hcl
      refine vx_catch (E := "java/lang/IndexOutOfBoundsException") (name := "java/lang/IndexOutOfBoundsException") (own := RL) hown [] ⟨0, 11, 14, 19⟩ [] hht (fun z hz => by cases hz) (by decide) (by decide) hw0 (va_Nw.use rfl (hG.at 4 rfl)) hce hcv hcl ?_
      refine lv_astore (lv' := (kvA 4 q9 (kvA 0 (a 0) (kvI 1 p1 (kvI 2 p2 (kvA 3 o kvE)))))) hx hb (kdr dgL_pick_0 0 8 rfl rfl) hl (by decide) rfl (fun ls hl => ?_)
      refine lv_iconst (v := 1) hx hb (kdr dgL_pick_0 0 9 rfl rfl) (by decide) ?_
      have h := Option.some.inj h
      subst h
      refine W.widen (k := 1) (n := 6) (Nat.le_of_ble_eq_true rfl) (Nat.le_of_ble_eq_true rfl) ?_
      exact kret_i (v := 1) hx hb hr rfl hlocks hS hP (kdr dgL_pick_0 1 0 rfl rfl)
    · have h := g_f e9 h
      rw [kEx_2 e9] at hcl
      cases h
  · obtain ⟨r1, g1, h⟩ := g_b h
    refine kq_i ((wSB cI cJ cZ a r1.2.1 fr un sb se so sc wb we wo wc fb fe fo fc rm r1.2.2 rf kn) ++ (wO o on ov)) (fun qP qD qF => va_runV (As := [.int p1, .int p2]) (rest := [.ref o]) ⟨hx, hb, hml, hown, hts⟩ (c_X1_pick l dC dI cB cI cJ cZ a _ ce fr un sb se so sc wb we wo wc fb fe fo fc rm ac rf kn p1 p2 r1 g1) (kcwV hts kw_543 kv_X1_pick rfl rfl ⟨(Nat.le_of_ble_eq_true rfl), (Nat.le_of_ble_eq_true rfl)⟩) (kpV (A := A) qP hK qD hG (krecv_3 (q0 := 0) hK hP rfl)) rfl rfl hl.1 rfl (lv_room (Nat.le_of_ble_eq_true rfl)) (kdr dgL_pick_0 0 4 rfl rfl) ⟨(Nat.le_of_ble_eq_true rfl), (Nat.le_of_ble_eq_true rfl)⟩) hP hD hS hA (kFr_l kFr_SB) (fun H locs hP hD hS br1 => ?_)
    refine lv_i2l (v := r1.1.toInt64) hx hb (kdr dgL_pick_0 0 5 rfl rfl) rfl ?_
    refine va_putN (host := RL) (D := (dC, dI)) (ci := 4) (v := .long r1.1.toInt64) (ty := .long) (C := RX2) (T := TX2) (N := 2) hx hb hts hiX2 tyX2 tyX2_ok nmX2 hown hK hP hD hS 15 rfl rfl 0 (by decide) (va_Nw.use rfl (hG.at 7 rfl)) (fun _ h9 => h9) rfl (by decide +kernel) rfl rfl (Nat.le_of_ble_eq_true rfl) (kdr dgL_pick_0 0 6 rfl rfl) (fun H locs hP hD hS => ?_)
    have hP : va_P (dC, dI) vwCl ((wSB cI cJ cZ a r1.2.1 fr un sb se so sc wb we wo wc fb fe fo fc rm r1.2.2 rf kn) ++ (wO o r1.1.toInt64 ov)) H := hP
    have hD : va_D A ((wSB cI cJ cZ a r1.2.1 fr un sb se so sc wb we wo wc fb fe fo fc rm r1.2.2 rf kn) ++ (wO o r1.1.toInt64 ov)) := hD
    refine lv_goto (tgt := 18) hx hb (kdr dgL_pick_0 0 7 rfl rfl) (by decide) ?_
    refine lv_iconst (v := 0) hx hb (kdr dgL_pick_0 1 1 rfl rfl) (by decide) ?_
    have h := Option.some.inj h
    subst h
    refine W.widen (k := 1) (n := 6) (Nat.le_of_ble_eq_true rfl) (Nat.le_of_ble_eq_true rfl) ?_
    exact kret_i (v := 0) hx hb hr rfl hlocks hS hP (kdr dgL_pick_0 1 2 rfl rfl)
noncomputable abbrev wsL_shift : List Cond := Cond.codeWith yL_shift cL_shift 5 (some .int) [(0, 11, 14, 21)] :: kBIG
noncomputable def f_L_shift (ce : Nat → Int64) (fr : Int64) (un : Int64) (sb : Nat → Int64) (se : Nat → Int64) (sc : Int32) (wb : Nat → Int64) (we : Nat → Int64) (wc : Int32) (ac : Int32) (rf : Int32) (on : Int64) (p1 : Int32) (p2 : Int32) : Option ((Int32) × (Nat → Int64) × (Int64) × (Int64) × (Nat → Int64) × (Nat → Int64) × (Nat → Int64) × (Nat → Int64) × (Int32) × (Int32) × (Int64)) :=
  xb (fx_X1_shift p1 p2) (fun k1 => if k1 = 1 then
  none
else
  some (1, ce, fr, un, sb, se, wb, we, ac, rf, on)) (
  (f_X1_shift ce fr un sb se sc wb we wc ac rf p1 p2).bind fun r1 =>
  some (0, r1.2.1, r1.2.2.1, r1.2.2.2.1, r1.2.2.2.2.1, r1.2.2.2.2.2.1, r1.2.2.2.2.2.2.1, r1.2.2.2.2.2.2.2.1, r1.2.2.2.2.2.2.2.2.1, r1.2.2.2.2.2.2.2.2.2, r1.1.toInt64))
theorem f_L_shift_e {ce : Nat → Int64} {fr : Int64} {un : Int64} {sb : Nat → Int64} {se : Nat → Int64} {sc : Int32} {wb : Nat → Int64} {we : Nat → Int64} {wc : Int32} {ac : Int32} {rf : Int32} {on : Int64} {p1 : Int32} {p2 : Int32} : f_L_shift ce fr un sb se sc wb we wc ac rf on p1 p2 = 
  xb (fx_X1_shift p1 p2) (fun k1 => if k1 = 1 then
  none
else
  some (1, ce, fr, un, sb, se, wb, we, ac, rf, on)) (
  (f_X1_shift ce fr un sb se sc wb we wc ac rf p1 p2).bind fun r1 =>
  some (0, r1.2.1, r1.2.2.1, r1.2.2.2.1, r1.2.2.2.2.1, r1.2.2.2.2.2.1, r1.2.2.2.2.2.2.1, r1.2.2.2.2.2.2.2.1, r1.2.2.2.2.2.2.2.2.1, r1.2.2.2.2.2.2.2.2.2, r1.1.toInt64)) := rfl
set_option maxHeartbeats 4000000 in
set_option maxRecDepth 100000 in
theorem c_L_shift (l : Launch) (hl9 : l.stackTraces = false) (dC : Nat → ClassId) (dI : Nat → Nat → Nat) (cB cI cJ cZ : ClassId) (a : Nat → Nat) (o : Nat) (sz : Nat) (ce : Nat → Int64) (fr : Int64) (un : Int64) (sb : Nat → Int64) (se : Nat → Int64) (so : Nat → Int32) (sc : Int32) (wb : Nat → Int64) (we : Nat → Int64) (wo : Nat → Int32) (wc : Int32) (fb : Nat → Int64) (fe : Nat → Int64) (fo : Nat → Int32) (fc : Int32) (rm : Nat → Int32) (ac : Int32) (rf : Int32) (kn : Int32) (on : Int64) (ov : Value) (p1 : Int32) (p2 : Int32) (res : (Int32) × (Nat → Int64) × (Int64) × (Int64) × (Nat → Int64) × (Nat → Int64) × (Nat → Int64) × (Nat → Int64) × (Int32) × (Int32) × (Int64)) (hf : f_L_shift ce fr un sb se sc wb we wc ac rf on p1 p2 = some res) : kMw l yL_shift wsL_shift (kRm 9 1 6 157) dC dI cB cI cJ cZ [.ref (a 0), .int p1, .int p2, .ref o] sz ((wSB cI cJ cZ a ce fr un sb se so sc wb we wo wc fb fe fo fc rm ac rf kn) ++ (wO o on ov)) .int (res.1) ((wSB cI cJ cZ a (res.2.1) (res.2.2.1) (res.2.2.2.1) (res.2.2.2.2.1) (res.2.2.2.2.2.1) so sc (res.2.2.2.2.2.2.1) (res.2.2.2.2.2.2.2.1) wo wc fb fe fo fc rm (res.2.2.2.2.2.2.2.2.1) (res.2.2.2.2.2.2.2.2.2.1) kn) ++ (wO o (res.2.2.2.2.2.2.2.2.2.2) ov)) 1 6 := by
  refine kmet_w (y := yL_shift) (cc := cL_shift) (maxL := 5) (ret := (some .int)) (hh := [(0, 11, 14, 21)]) RL (kvA 0 (a 0) (kvI 1 p1 (kvI 2 p2 (kvA 3 o kvE)))) kpl_L rfl rfl (Nat.le_of_ble_eq_true rfl) rfl (fun p e s m below meth c A ls hx hb hr hml hht hts hown hlocks hP hK hG hZ hD hA hS hl => ?_)
  have hw0 := hts (.classLink RL 21 "java/lang/IllegalArgumentException") (List.mem_cons_of_mem _ kw_468)
  have hiX2 : ∀ w ∈ u_ws RX2 TX2 2, w ∈ wsL_shift := fun w h => List.mem_cons_of_mem _ (ku_X2 w h)
  have h := f_L_shift_e.symm.trans hf
  refine lv_aload_n hx hb (kdr dgL_shift_0 0 0 rfl rfl) rfl (lv_at hl 3 rfl) ?_
  refine lv_aload_n hx hb (kdr dgL_shift_0 0 1 rfl rfl) rfl (lv_at hl 0 rfl) ?_
  refine lv_iload_n hx hb (kdr dgL_shift_0 0 2 rfl rfl) rfl (lv_at hl 1 rfl) ?_
  refine lv_iload_n hx hb (kdr dgL_shift_0 0 3 rfl rfl) rfl (lv_at hl 2 rfl) ?_
  rcases g_x h with ⟨k1, j1, h⟩ | ⟨-, h⟩
  · refine kq_xh ((wSB cI cJ cZ a ce fr un sb se so sc wb we wo wc fb fe fo fc rm ac rf kn) ++ (wO o on ov)) (fun qP qD qF => vx_runV (As := [.int p1, .int p2]) (rest := [.ref o]) ⟨hx, hb, hml, hown, hts⟩ (x_X1_shift l hl9 dC dI cB cI cJ cZ a _ ce fr un sb se so sc wb we wo wc fb fe fo fc rm ac rf kn p1 p2 k1 j1) (kcwV hts kw_550 kv_X1_shift rfl rfl ⟨(Nat.le_of_ble_eq_true rfl), (Nat.le_of_ble_eq_true rfl)⟩) (kpVXq (A := A) qP hK qD hG hZ hS qF (krecv_3 (q0 := 0) hK hP rfl)) rfl rfl hl.1 rfl (lv_room (Nat.le_of_ble_eq_true rfl)) (kdr dgL_shift_0 0 4 rfl rfl) ⟨(Nat.le_of_ble_eq_true rfl), (Nat.le_of_ble_eq_true rfl)⟩) hP hD hS hA (kFr_l kFr_SB) (fun q9 ceQ H locs hP hD hS hce hcv hcl => ?_)
    by_cases e9 : k1 = 1
    · have h := g_t e9 h
      rw [kEx_1 e9] at hcl
      cases h
    · have h := g_f e9 h
      rw [kEx_2 e9] at hcl
      refine vx_catch (E := "java/lang/IllegalArgumentException") (name := "java/lang/IllegalArgumentException") (own := RL) hown [] ⟨0, 11, 14, 21⟩ [] hht (fun z hz => by cases hz) (by decide) (by decide) hw0 (va_Nw.use rfl (hG.at 5 rfl)) hce hcv hcl ?_
      refine lv_astore (lv' := (kvA 4 q9 (kvA 0 (a 0) (kvI 1 p1 (kvI 2 p2 (kvA 3 o kvE)))))) hx hb (kdr dgL_shift_0 0 8 rfl rfl) hl (by decide) rfl (fun ls hl => ?_)
      refine lv_iconst (v := 1) hx hb (kdr dgL_shift_0 0 9 rfl rfl) (by decide) ?_
      have h := Option.some.inj h
      subst h
      refine W.widen (k := 1) (n := 6) (Nat.le_of_ble_eq_true rfl) (Nat.le_of_ble_eq_true rfl) ?_
      exact kret_i (v := 1) hx hb hr rfl hlocks hS hP (kdr dgL_shift_0 1 0 rfl rfl)
  · obtain ⟨r1, g1, h⟩ := g_b h
    refine kq_i ((wSB cI cJ cZ a r1.2.1 r1.2.2.1 r1.2.2.2.1 r1.2.2.2.2.1 r1.2.2.2.2.2.1 so sc r1.2.2.2.2.2.2.1 r1.2.2.2.2.2.2.2.1 wo wc fb fe fo fc rm r1.2.2.2.2.2.2.2.2.1 r1.2.2.2.2.2.2.2.2.2 kn) ++ (wO o on ov)) (fun qP qD qF => va_runV (As := [.int p1, .int p2]) (rest := [.ref o]) ⟨hx, hb, hml, hown, hts⟩ (c_X1_shift l dC dI cB cI cJ cZ a _ ce fr un sb se so sc wb we wo wc fb fe fo fc rm ac rf kn p1 p2 r1 g1) (kcwV hts kw_550 kv_X1_shift rfl rfl ⟨(Nat.le_of_ble_eq_true rfl), (Nat.le_of_ble_eq_true rfl)⟩) (kpV (A := A) qP hK qD hG (krecv_3 (q0 := 0) hK hP rfl)) rfl rfl hl.1 rfl (lv_room (Nat.le_of_ble_eq_true rfl)) (kdr dgL_shift_0 0 4 rfl rfl) ⟨(Nat.le_of_ble_eq_true rfl), (Nat.le_of_ble_eq_true rfl)⟩) hP hD hS hA (kFr_l kFr_SB) (fun H locs hP hD hS br1 => ?_)
    refine lv_i2l (v := r1.1.toInt64) hx hb (kdr dgL_shift_0 0 5 rfl rfl) rfl ?_
    refine va_putN (host := RL) (D := (dC, dI)) (ci := 4) (v := .long r1.1.toInt64) (ty := .long) (C := RX2) (T := TX2) (N := 2) hx hb hts hiX2 tyX2 tyX2_ok nmX2 hown hK hP hD hS 15 rfl rfl 0 (by decide) (va_Nw.use rfl (hG.at 7 rfl)) (fun _ h9 => h9) rfl (by decide +kernel) rfl rfl (Nat.le_of_ble_eq_true rfl) (kdr dgL_shift_0 0 6 rfl rfl) (fun H locs hP hD hS => ?_)
    have hP : va_P (dC, dI) vwCl ((wSB cI cJ cZ a r1.2.1 r1.2.2.1 r1.2.2.2.1 r1.2.2.2.2.1 r1.2.2.2.2.2.1 so sc r1.2.2.2.2.2.2.1 r1.2.2.2.2.2.2.2.1 wo wc fb fe fo fc rm r1.2.2.2.2.2.2.2.2.1 r1.2.2.2.2.2.2.2.2.2 kn) ++ (wO o r1.1.toInt64 ov)) H := hP
    have hD : va_D A ((wSB cI cJ cZ a r1.2.1 r1.2.2.1 r1.2.2.2.1 r1.2.2.2.2.1 r1.2.2.2.2.2.1 so sc r1.2.2.2.2.2.2.1 r1.2.2.2.2.2.2.2.1 wo wc fb fe fo fc rm r1.2.2.2.2.2.2.2.2.1 r1.2.2.2.2.2.2.2.2.2 kn) ++ (wO o r1.1.toInt64 ov)) := hD
    refine lv_goto (tgt := 18) hx hb (kdr dgL_shift_0 0 7 rfl rfl) (by decide) ?_
    refine lv_iconst (v := 0) hx hb (kdr dgL_shift_0 1 1 rfl rfl) (by decide) ?_
    have h := Option.some.inj h
    subst h
    refine W.widen (k := 1) (n := 6) (Nat.le_of_ble_eq_true rfl) (Nat.le_of_ble_eq_true rfl) ?_
    exact kret_i (v := 0) hx hb hr rfl hlocks hS hP (kdr dgL_shift_0 1 2 rfl rfl)
noncomputable abbrev wsL_open : List Cond := Cond.codeWith yL_open cL_open 5 (some .int) [(0, 11, 14, 19)] :: kBIG
noncomputable def f_L_open (ce : Nat → Int64) (fr : Int64) (un : Int64) (sc : Int32) (ac : Int32) (rf : Int32) (on : Int64) (p1 : Int32) (p2 : Int32) : Option ((Int32) × (Int64) × (Int64) × (Int32) × (Int32) × (Int32) × (Int64)) :=
  xb (fx_X1_open p1 p2) (fun k1 => if k1 = 1 then
  some (1, fr, un, sc, ac, rf, on)
else
  none) (
  (f_X1_open ce fr un sc ac rf p1 p2).bind fun r1 =>
  some (0, r1.2.1, r1.2.2.1, r1.2.2.2.1, r1.2.2.2.2.1, r1.2.2.2.2.2, r1.1.toInt64))
theorem f_L_open_e {ce : Nat → Int64} {fr : Int64} {un : Int64} {sc : Int32} {ac : Int32} {rf : Int32} {on : Int64} {p1 : Int32} {p2 : Int32} : f_L_open ce fr un sc ac rf on p1 p2 = 
  xb (fx_X1_open p1 p2) (fun k1 => if k1 = 1 then
  some (1, fr, un, sc, ac, rf, on)
else
  none) (
  (f_X1_open ce fr un sc ac rf p1 p2).bind fun r1 =>
  some (0, r1.2.1, r1.2.2.1, r1.2.2.2.1, r1.2.2.2.2.1, r1.2.2.2.2.2, r1.1.toInt64)) := rfl
set_option maxHeartbeats 4000000 in
set_option maxRecDepth 100000 in
theorem c_L_open (l : Launch) (hl9 : l.stackTraces = false) (dC : Nat → ClassId) (dI : Nat → Nat → Nat) (cB cI cJ cZ : ClassId) (a : Nat → Nat) (o : Nat) (sz : Nat) (ce : Nat → Int64) (fr : Int64) (un : Int64) (sb : Nat → Int64) (se : Nat → Int64) (so : Nat → Int32) (sc : Int32) (wb : Nat → Int64) (we : Nat → Int64) (wo : Nat → Int32) (wc : Int32) (fb : Nat → Int64) (fe : Nat → Int64) (fo : Nat → Int32) (fc : Int32) (rm : Nat → Int32) (ac : Int32) (rf : Int32) (kn : Int32) (on : Int64) (ov : Value) (p1 : Int32) (p2 : Int32) (res : (Int32) × (Int64) × (Int64) × (Int32) × (Int32) × (Int32) × (Int64)) (hf : f_L_open ce fr un sc ac rf on p1 p2 = some res) : kMw l yL_open wsL_open (kRm 8 1 6 132) dC dI cB cI cJ cZ [.ref (a 0), .int p1, .int p2, .ref o] sz ((wSB cI cJ cZ a ce fr un sb se so sc wb we wo wc fb fe fo fc rm ac rf kn) ++ (wO o on ov)) .int (res.1) ((wSB cI cJ cZ a ce (res.2.1) (res.2.2.1) sb se so (res.2.2.2.1) wb we wo wc fb fe fo fc rm (res.2.2.2.2.1) (res.2.2.2.2.2.1) kn) ++ (wO o (res.2.2.2.2.2.2) ov)) 1 6 := by
  refine kmet_w (y := yL_open) (cc := cL_open) (maxL := 5) (ret := (some .int)) (hh := [(0, 11, 14, 19)]) RL (kvA 0 (a 0) (kvI 1 p1 (kvI 2 p2 (kvA 3 o kvE)))) kpl_L rfl rfl (Nat.le_of_ble_eq_true rfl) rfl (fun p e s m below meth c A ls hx hb hr hml hht hts hown hlocks hP hK hG hZ hD hA hS hl => ?_)
  have hw0 := hts (.classLink RL 19 "java/lang/IndexOutOfBoundsException") (List.mem_cons_of_mem _ kw_467)
  have hiX2 : ∀ w ∈ u_ws RX2 TX2 2, w ∈ wsL_open := fun w h => List.mem_cons_of_mem _ (ku_X2 w h)
  have h := f_L_open_e.symm.trans hf
  refine lv_aload_n hx hb (kdr dgL_open_0 0 0 rfl rfl) rfl (lv_at hl 3 rfl) ?_
  refine lv_aload_n hx hb (kdr dgL_open_0 0 1 rfl rfl) rfl (lv_at hl 0 rfl) ?_
  refine lv_iload_n hx hb (kdr dgL_open_0 0 2 rfl rfl) rfl (lv_at hl 1 rfl) ?_
  refine lv_iload_n hx hb (kdr dgL_open_0 0 3 rfl rfl) rfl (lv_at hl 2 rfl) ?_
  rcases g_x h with ⟨k1, j1, h⟩ | ⟨-, h⟩
  · refine kq_xh ((wSB cI cJ cZ a ce fr un sb se so sc wb we wo wc fb fe fo fc rm ac rf kn) ++ (wO o on ov)) (fun qP qD qF => vx_runV (As := [.int p1, .int p2]) (rest := [.ref o]) ⟨hx, hb, hml, hown, hts⟩ (x_X1_open l hl9 dC dI cB cI cJ cZ a _ ce fr un sb se so sc wb we wo wc fb fe fo fc rm ac rf kn p1 p2 k1 j1) (kcwV hts kw_570 kv_X1_open rfl rfl ⟨(Nat.le_of_ble_eq_true rfl), (Nat.le_of_ble_eq_true rfl)⟩) (kpVXq (A := A) qP hK qD hG hZ hS qF (krecv_3 (q0 := 0) hK hP rfl)) rfl rfl hl.1 rfl (lv_room (Nat.le_of_ble_eq_true rfl)) (kdr dgL_open_0 0 4 rfl rfl) ⟨(Nat.le_of_ble_eq_true rfl), (Nat.le_of_ble_eq_true rfl)⟩) hP hD hS hA (kFr_l kFr_SB) (fun q9 ceQ H locs hP hD hS hce hcv hcl => ?_)
    by_cases e9 : k1 = 1
    · have h := g_t e9 h
      rw [kEx_1 e9] at hcl
      refine vx_catch (E := "java/lang/IndexOutOfBoundsException") (name := "java/lang/IndexOutOfBoundsException") (own := RL) hown [] ⟨0, 11, 14, 19⟩ [] hht (fun z hz => by cases hz) (by decide) (by decide) hw0 (va_Nw.use rfl (hG.at 4 rfl)) hce hcv hcl ?_
      refine lv_astore (lv' := (kvA 4 q9 (kvA 0 (a 0) (kvI 1 p1 (kvI 2 p2 (kvA 3 o kvE)))))) hx hb (kdr dgL_open_0 0 8 rfl rfl) hl (by decide) rfl (fun ls hl => ?_)
      refine lv_iconst (v := 1) hx hb (kdr dgL_open_0 0 9 rfl rfl) (by decide) ?_
      have h := Option.some.inj h
      subst h
      refine W.widen (k := 1) (n := 6) (Nat.le_of_ble_eq_true rfl) (Nat.le_of_ble_eq_true rfl) ?_
      exact kret_i (v := 1) hx hb hr rfl hlocks hS hP (kdr dgL_open_0 1 0 rfl rfl)
    · have h := g_f e9 h
      rw [kEx_2 e9] at hcl
      cases h
  · obtain ⟨r1, g1, h⟩ := g_b h
    refine kq_i ((wSB cI cJ cZ a ce r1.2.1 r1.2.2.1 sb se so r1.2.2.2.1 wb we wo wc fb fe fo fc rm r1.2.2.2.2.1 r1.2.2.2.2.2 kn) ++ (wO o on ov)) (fun qP qD qF => va_runV (As := [.int p1, .int p2]) (rest := [.ref o]) ⟨hx, hb, hml, hown, hts⟩ (c_X1_open l dC dI cB cI cJ cZ a _ ce fr un sb se so sc wb we wo wc fb fe fo fc rm ac rf kn p1 p2 r1 g1) (kcwV hts kw_570 kv_X1_open rfl rfl ⟨(Nat.le_of_ble_eq_true rfl), (Nat.le_of_ble_eq_true rfl)⟩) (kpV (A := A) qP hK qD hG (krecv_3 (q0 := 0) hK hP rfl)) rfl rfl hl.1 rfl (lv_room (Nat.le_of_ble_eq_true rfl)) (kdr dgL_open_0 0 4 rfl rfl) ⟨(Nat.le_of_ble_eq_true rfl), (Nat.le_of_ble_eq_true rfl)⟩) hP hD hS hA (kFr_l kFr_SB) (fun H locs hP hD hS br1 => ?_)
    refine lv_i2l (v := r1.1.toInt64) hx hb (kdr dgL_open_0 0 5 rfl rfl) rfl ?_
    refine va_putN (host := RL) (D := (dC, dI)) (ci := 4) (v := .long r1.1.toInt64) (ty := .long) (C := RX2) (T := TX2) (N := 2) hx hb hts hiX2 tyX2 tyX2_ok nmX2 hown hK hP hD hS 15 rfl rfl 0 (by decide) (va_Nw.use rfl (hG.at 7 rfl)) (fun _ h9 => h9) rfl (by decide +kernel) rfl rfl (Nat.le_of_ble_eq_true rfl) (kdr dgL_open_0 0 6 rfl rfl) (fun H locs hP hD hS => ?_)
    have hP : va_P (dC, dI) vwCl ((wSB cI cJ cZ a ce r1.2.1 r1.2.2.1 sb se so r1.2.2.2.1 wb we wo wc fb fe fo fc rm r1.2.2.2.2.1 r1.2.2.2.2.2 kn) ++ (wO o r1.1.toInt64 ov)) H := hP
    have hD : va_D A ((wSB cI cJ cZ a ce r1.2.1 r1.2.2.1 sb se so r1.2.2.2.1 wb we wo wc fb fe fo fc rm r1.2.2.2.2.1 r1.2.2.2.2.2 kn) ++ (wO o r1.1.toInt64 ov)) := hD
    refine lv_goto (tgt := 18) hx hb (kdr dgL_open_0 0 7 rfl rfl) (by decide) ?_
    refine lv_iconst (v := 0) hx hb (kdr dgL_open_0 1 1 rfl rfl) (by decide) ?_
    have h := Option.some.inj h
    subst h
    refine W.widen (k := 1) (n := 6) (Nat.le_of_ble_eq_true rfl) (Nat.le_of_ble_eq_true rfl) ?_
    exact kret_i (v := 0) hx hb hr rfl hlocks hS hP (kdr dgL_open_0 1 2 rfl rfl)
noncomputable abbrev wsL_book : List Cond := Cond.codeWith yL_book cL_book 6 (some .int) [(0, 13, 16, 19)] :: kBIG
noncomputable def f_L_book (ce : Nat → Int64) (fr : Int64) (un : Int64) (sb : Nat → Int64) (se : Nat → Int64) (so : Nat → Int32) (sc : Int32) (ac : Int32) (rf : Int32) (on : Int64) (p1 : Int32) (p2 : Int32) (p3 : Int32) : Option ((Int32) × (Nat → Int64) × (Nat → Int64) × (Nat → Int32) × (Int32) × (Int32) × (Int32) × (Int64)) :=
  xb (fx_X1_book p1 p2) (fun k1 => if k1 = 1 then
  some (1, sb, se, so, sc, ac, rf, on)
else
  none) (
  (f_X1_book ce fr un sb se so sc ac rf p1 p2 p3).bind fun r1 =>
  some (0, r1.2.1, r1.2.2.1, r1.2.2.2.1, r1.2.2.2.2.1, r1.2.2.2.2.2.1, r1.2.2.2.2.2.2, r1.1.toInt64))
theorem f_L_book_e {ce : Nat → Int64} {fr : Int64} {un : Int64} {sb : Nat → Int64} {se : Nat → Int64} {so : Nat → Int32} {sc : Int32} {ac : Int32} {rf : Int32} {on : Int64} {p1 : Int32} {p2 : Int32} {p3 : Int32} : f_L_book ce fr un sb se so sc ac rf on p1 p2 p3 = 
  xb (fx_X1_book p1 p2) (fun k1 => if k1 = 1 then
  some (1, sb, se, so, sc, ac, rf, on)
else
  none) (
  (f_X1_book ce fr un sb se so sc ac rf p1 p2 p3).bind fun r1 =>
  some (0, r1.2.1, r1.2.2.1, r1.2.2.2.1, r1.2.2.2.2.1, r1.2.2.2.2.2.1, r1.2.2.2.2.2.2, r1.1.toInt64)) := rfl
set_option maxHeartbeats 4000000 in
set_option maxRecDepth 100000 in
theorem c_L_book (l : Launch) (hl9 : l.stackTraces = false) (dC : Nat → ClassId) (dI : Nat → Nat → Nat) (cB cI cJ cZ : ClassId) (a : Nat → Nat) (o : Nat) (sz : Nat) (ce : Nat → Int64) (fr : Int64) (un : Int64) (sb : Nat → Int64) (se : Nat → Int64) (so : Nat → Int32) (sc : Int32) (wb : Nat → Int64) (we : Nat → Int64) (wo : Nat → Int32) (wc : Int32) (fb : Nat → Int64) (fe : Nat → Int64) (fo : Nat → Int32) (fc : Int32) (rm : Nat → Int32) (ac : Int32) (rf : Int32) (kn : Int32) (on : Int64) (ov : Value) (p1 : Int32) (p2 : Int32) (p3 : Int32) (res : (Int32) × (Nat → Int64) × (Nat → Int64) × (Nat → Int32) × (Int32) × (Int32) × (Int32) × (Int64)) (hf : f_L_book ce fr un sb se so sc ac rf on p1 p2 p3 = some res) : kMw l yL_book wsL_book (kRm 8 1 6 134) dC dI cB cI cJ cZ [.ref (a 0), .int p1, .int p2, .int p3, .ref o] sz ((wSB cI cJ cZ a ce fr un sb se so sc wb we wo wc fb fe fo fc rm ac rf kn) ++ (wO o on ov)) .int (res.1) ((wSB cI cJ cZ a ce fr un (res.2.1) (res.2.2.1) (res.2.2.2.1) (res.2.2.2.2.1) wb we wo wc fb fe fo fc rm (res.2.2.2.2.2.1) (res.2.2.2.2.2.2.1) kn) ++ (wO o (res.2.2.2.2.2.2.2) ov)) 1 6 := by
  refine kmet_w (y := yL_book) (cc := cL_book) (maxL := 6) (ret := (some .int)) (hh := [(0, 13, 16, 19)]) RL (kvA 0 (a 0) (kvI 1 p1 (kvI 2 p2 (kvI 3 p3 (kvA 4 o kvE))))) kpl_L rfl rfl (Nat.le_of_ble_eq_true rfl) rfl (fun p e s m below meth c A ls hx hb hr hml hht hts hown hlocks hP hK hG hZ hD hA hS hl => ?_)
  have hw0 := hts (.classLink RL 19 "java/lang/IndexOutOfBoundsException") (List.mem_cons_of_mem _ kw_467)
  have hiX2 : ∀ w ∈ u_ws RX2 TX2 2, w ∈ wsL_book := fun w h => List.mem_cons_of_mem _ (ku_X2 w h)
  have h := f_L_book_e.symm.trans hf
  refine lv_aload hx hb (kdr dgL_book_0 0 0 rfl rfl) (lv_at hl 4 rfl) ?_
  refine lv_aload_n hx hb (kdr dgL_book_0 0 1 rfl rfl) rfl (lv_at hl 0 rfl) ?_
  refine lv_iload_n hx hb (kdr dgL_book_0 0 2 rfl rfl) rfl (lv_at hl 1 rfl) ?_
  refine lv_iload_n hx hb (kdr dgL_book_0 0 3 rfl rfl) rfl (lv_at hl 2 rfl) ?_
  refine lv_iload_n hx hb (kdr dgL_book_0 0 4 rfl rfl) rfl (lv_at hl 3 rfl) ?_
  rcases g_x h with ⟨k1, j1, h⟩ | ⟨-, h⟩
  · refine kq_xh ((wSB cI cJ cZ a ce fr un sb se so sc wb we wo wc fb fe fo fc rm ac rf kn) ++ (wO o on ov)) (fun qP qD qF => vx_runV (As := [.int p1, .int p2, .int p3]) (rest := [.ref o]) ⟨hx, hb, hml, hown, hts⟩ (x_X1_book l hl9 dC dI cB cI cJ cZ a _ ce fr un sb se so sc wb we wo wc fb fe fo fc rm ac rf kn p1 p2 p3 k1 j1) (kcwV hts kw_577 kv_X1_book rfl rfl ⟨(Nat.le_of_ble_eq_true rfl), (Nat.le_of_ble_eq_true rfl)⟩) (kpVXq (A := A) qP hK qD hG hZ hS qF (krecv_3 (q0 := 0) hK hP rfl)) rfl rfl hl.1 rfl (lv_room (Nat.le_of_ble_eq_true rfl)) (kdr dgL_book_0 0 5 rfl rfl) ⟨(Nat.le_of_ble_eq_true rfl), (Nat.le_of_ble_eq_true rfl)⟩) hP hD hS hA (kFr_l kFr_SB) (fun q9 ceQ H locs hP hD hS hce hcv hcl => ?_)
    by_cases e9 : k1 = 1
    · have h := g_t e9 h
      rw [kEx_1 e9] at hcl
      refine vx_catch (E := "java/lang/IndexOutOfBoundsException") (name := "java/lang/IndexOutOfBoundsException") (own := RL) hown [] ⟨0, 13, 16, 19⟩ [] hht (fun z hz => by cases hz) (by decide) (by decide) hw0 (va_Nw.use rfl (hG.at 4 rfl)) hce hcv hcl ?_
      refine lv_astore (lv' := (kvA 5 q9 (kvA 0 (a 0) (kvI 1 p1 (kvI 2 p2 (kvI 3 p3 (kvA 4 o kvE))))))) hx hb (kdr dgL_book_0 0 9 rfl rfl) hl (by decide) rfl (fun ls hl => ?_)
      refine lv_iconst (v := 1) hx hb (kdr dgL_book_0 1 0 rfl rfl) (by decide) ?_
      have h := Option.some.inj h
      subst h
      refine W.widen (k := 1) (n := 6) (Nat.le_of_ble_eq_true rfl) (Nat.le_of_ble_eq_true rfl) ?_
      exact kret_i (v := 1) hx hb hr rfl hlocks hS hP (kdr dgL_book_0 1 1 rfl rfl)
    · have h := g_f e9 h
      rw [kEx_2 e9] at hcl
      cases h
  · obtain ⟨r1, g1, h⟩ := g_b h
    refine kq_i ((wSB cI cJ cZ a ce fr un r1.2.1 r1.2.2.1 r1.2.2.2.1 r1.2.2.2.2.1 wb we wo wc fb fe fo fc rm r1.2.2.2.2.2.1 r1.2.2.2.2.2.2 kn) ++ (wO o on ov)) (fun qP qD qF => va_runV (As := [.int p1, .int p2, .int p3]) (rest := [.ref o]) ⟨hx, hb, hml, hown, hts⟩ (c_X1_book l dC dI cB cI cJ cZ a _ ce fr un sb se so sc wb we wo wc fb fe fo fc rm ac rf kn p1 p2 p3 r1 g1) (kcwV hts kw_577 kv_X1_book rfl rfl ⟨(Nat.le_of_ble_eq_true rfl), (Nat.le_of_ble_eq_true rfl)⟩) (kpV (A := A) qP hK qD hG (krecv_3 (q0 := 0) hK hP rfl)) rfl rfl hl.1 rfl (lv_room (Nat.le_of_ble_eq_true rfl)) (kdr dgL_book_0 0 5 rfl rfl) ⟨(Nat.le_of_ble_eq_true rfl), (Nat.le_of_ble_eq_true rfl)⟩) hP hD hS hA (kFr_l kFr_SB) (fun H locs hP hD hS br1 => ?_)
    refine lv_i2l (v := r1.1.toInt64) hx hb (kdr dgL_book_0 0 6 rfl rfl) rfl ?_
    refine va_putN (host := RL) (D := (dC, dI)) (ci := 4) (v := .long r1.1.toInt64) (ty := .long) (C := RX2) (T := TX2) (N := 2) hx hb hts hiX2 tyX2 tyX2_ok nmX2 hown hK hP hD hS 15 rfl rfl 0 (by decide) (va_Nw.use rfl (hG.at 7 rfl)) (fun _ h9 => h9) rfl (by decide +kernel) rfl rfl (Nat.le_of_ble_eq_true rfl) (kdr dgL_book_0 0 7 rfl rfl) (fun H locs hP hD hS => ?_)
    have hP : va_P (dC, dI) vwCl ((wSB cI cJ cZ a ce fr un r1.2.1 r1.2.2.1 r1.2.2.2.1 r1.2.2.2.2.1 wb we wo wc fb fe fo fc rm r1.2.2.2.2.2.1 r1.2.2.2.2.2.2 kn) ++ (wO o r1.1.toInt64 ov)) H := hP
    have hD : va_D A ((wSB cI cJ cZ a ce fr un r1.2.1 r1.2.2.1 r1.2.2.2.1 r1.2.2.2.2.1 wb we wo wc fb fe fo fc rm r1.2.2.2.2.2.1 r1.2.2.2.2.2.2 kn) ++ (wO o r1.1.toInt64 ov)) := hD
    refine lv_goto (tgt := 20) hx hb (kdr dgL_book_0 0 8 rfl rfl) (by decide) ?_
    refine lv_iconst (v := 0) hx hb (kdr dgL_book_0 1 2 rfl rfl) (by decide) ?_
    have h := Option.some.inj h
    subst h
    refine W.widen (k := 1) (n := 6) (Nat.le_of_ble_eq_true rfl) (Nat.le_of_ble_eq_true rfl) ?_
    exact kret_i (v := 0) hx hb hr rfl hlocks hS hP (kdr dgL_book_0 1 3 rfl rfl)
noncomputable abbrev wsL_unbook : List Cond := Cond.codeWith yL_unbook cL_unbook 4 (some .int) [(0, 10, 13, 19)] :: kBIG
noncomputable def f_L_unbook (sb : Nat → Int64) (se : Nat → Int64) (so : Nat → Int32) (sc : Int32) (ac : Int32) (on : Int64) (p1 : Int32) : Option ((Int32) × (Nat → Int64) × (Nat → Int64) × (Nat → Int32) × (Int32) × (Int32) × (Int64)) :=
  xb (fx_X1_unbook sc p1) (fun k1 => if k1 = 1 then
  some (1, sb, se, so, sc, ac, on)
else
  none) (
  (f_X1_unbook sb se so sc ac p1).bind fun r1 =>
  some (0, r1.2.1, r1.2.2.1, r1.2.2.2.1, r1.2.2.2.2.1, r1.2.2.2.2.2, r1.1.toInt64))
theorem f_L_unbook_e {sb : Nat → Int64} {se : Nat → Int64} {so : Nat → Int32} {sc : Int32} {ac : Int32} {on : Int64} {p1 : Int32} : f_L_unbook sb se so sc ac on p1 = 
  xb (fx_X1_unbook sc p1) (fun k1 => if k1 = 1 then
  some (1, sb, se, so, sc, ac, on)
else
  none) (
  (f_X1_unbook sb se so sc ac p1).bind fun r1 =>
  some (0, r1.2.1, r1.2.2.1, r1.2.2.2.1, r1.2.2.2.2.1, r1.2.2.2.2.2, r1.1.toInt64)) := rfl
set_option maxHeartbeats 4000000 in
set_option maxRecDepth 100000 in
theorem c_L_unbook (l : Launch) (hl9 : l.stackTraces = false) (dC : Nat → ClassId) (dI : Nat → Nat → Nat) (cB cI cJ cZ : ClassId) (a : Nat → Nat) (o : Nat) (sz : Nat) (ce : Nat → Int64) (fr : Int64) (un : Int64) (sb : Nat → Int64) (se : Nat → Int64) (so : Nat → Int32) (sc : Int32) (wb : Nat → Int64) (we : Nat → Int64) (wo : Nat → Int32) (wc : Int32) (fb : Nat → Int64) (fe : Nat → Int64) (fo : Nat → Int32) (fc : Int32) (rm : Nat → Int32) (ac : Int32) (rf : Int32) (kn : Int32) (on : Int64) (ov : Value) (p1 : Int32) (res : (Int32) × (Nat → Int64) × (Nat → Int64) × (Nat → Int32) × (Int32) × (Int32) × (Int64)) (hf : f_L_unbook sb se so sc ac on p1 = some res) : kMw l yL_unbook wsL_unbook (kRm 8 1 6 132) dC dI cB cI cJ cZ [.ref (a 0), .int p1, .ref o] sz ((wSB cI cJ cZ a ce fr un sb se so sc wb we wo wc fb fe fo fc rm ac rf kn) ++ (wO o on ov)) .int (res.1) ((wSB cI cJ cZ a ce fr un (res.2.1) (res.2.2.1) (res.2.2.2.1) (res.2.2.2.2.1) wb we wo wc fb fe fo fc rm (res.2.2.2.2.2.1) rf kn) ++ (wO o (res.2.2.2.2.2.2) ov)) 1 6 := by
  refine kmet_w (y := yL_unbook) (cc := cL_unbook) (maxL := 4) (ret := (some .int)) (hh := [(0, 10, 13, 19)]) RL (kvA 0 (a 0) (kvI 1 p1 (kvA 2 o kvE))) kpl_L rfl rfl (Nat.le_of_ble_eq_true rfl) rfl (fun p e s m below meth c A ls hx hb hr hml hht hts hown hlocks hP hK hG hZ hD hA hS hl => ?_)
  have hw0 := hts (.classLink RL 19 "java/lang/IndexOutOfBoundsException") (List.mem_cons_of_mem _ kw_467)
  have hiX2 : ∀ w ∈ u_ws RX2 TX2 2, w ∈ wsL_unbook := fun w h => List.mem_cons_of_mem _ (ku_X2 w h)
  have h := f_L_unbook_e.symm.trans hf
  refine lv_aload_n hx hb (kdr dgL_unbook_0 0 0 rfl rfl) rfl (lv_at hl 2 rfl) ?_
  refine lv_aload_n hx hb (kdr dgL_unbook_0 0 1 rfl rfl) rfl (lv_at hl 0 rfl) ?_
  refine lv_iload_n hx hb (kdr dgL_unbook_0 0 2 rfl rfl) rfl (lv_at hl 1 rfl) ?_
  rcases g_x h with ⟨k1, j1, h⟩ | ⟨-, h⟩
  · refine kq_xh ((wSB cI cJ cZ a ce fr un sb se so sc wb we wo wc fb fe fo fc rm ac rf kn) ++ (wO o on ov)) (fun qP qD qF => vx_runV (As := [.int p1]) (rest := [.ref o]) ⟨hx, hb, hml, hown, hts⟩ (x_X1_unbook l hl9 dC dI cB cI cJ cZ a _ ce fr un sb se so sc wb we wo wc fb fe fo fc rm ac rf kn p1 k1 j1) (kcwV hts kw_588 kv_X1_unbook rfl rfl ⟨(Nat.le_of_ble_eq_true rfl), (Nat.le_of_ble_eq_true rfl)⟩) (kpVXq (A := A) qP hK qD hG hZ hS qF (krecv_3 (q0 := 0) hK hP rfl)) rfl rfl hl.1 rfl (lv_room (Nat.le_of_ble_eq_true rfl)) (kdr dgL_unbook_0 0 3 rfl rfl) ⟨(Nat.le_of_ble_eq_true rfl), (Nat.le_of_ble_eq_true rfl)⟩) hP hD hS hA (kFr_l kFr_SB) (fun q9 ceQ H locs hP hD hS hce hcv hcl => ?_)
    by_cases e9 : k1 = 1
    · have h := g_t e9 h
      rw [kEx_1 e9] at hcl
      refine vx_catch (E := "java/lang/IndexOutOfBoundsException") (name := "java/lang/IndexOutOfBoundsException") (own := RL) hown [] ⟨0, 10, 13, 19⟩ [] hht (fun z hz => by cases hz) (by decide) (by decide) hw0 (va_Nw.use rfl (hG.at 4 rfl)) hce hcv hcl ?_
      refine lv_astore_n (lv' := (kvA 3 q9 (kvA 0 (a 0) (kvI 1 p1 (kvA 2 o kvE))))) hx hb (kdr dgL_unbook_0 0 7 rfl rfl) rfl hl (by decide) rfl (fun ls hl => ?_)
      refine lv_iconst (v := 1) hx hb (kdr dgL_unbook_0 0 8 rfl rfl) (by decide) ?_
      have h := Option.some.inj h
      subst h
      refine W.widen (k := 1) (n := 6) (Nat.le_of_ble_eq_true rfl) (Nat.le_of_ble_eq_true rfl) ?_
      exact kret_i (v := 1) hx hb hr rfl hlocks hS hP (kdr dgL_unbook_0 0 9 rfl rfl)
    · have h := g_f e9 h
      rw [kEx_2 e9] at hcl
      cases h
  · obtain ⟨r1, g1, h⟩ := g_b h
    refine kq_i ((wSB cI cJ cZ a ce fr un r1.2.1 r1.2.2.1 r1.2.2.2.1 r1.2.2.2.2.1 wb we wo wc fb fe fo fc rm r1.2.2.2.2.2 rf kn) ++ (wO o on ov)) (fun qP qD qF => va_runV (As := [.int p1]) (rest := [.ref o]) ⟨hx, hb, hml, hown, hts⟩ (c_X1_unbook l dC dI cB cI cJ cZ a _ ce fr un sb se so sc wb we wo wc fb fe fo fc rm ac rf kn p1 r1 g1) (kcwV hts kw_588 kv_X1_unbook rfl rfl ⟨(Nat.le_of_ble_eq_true rfl), (Nat.le_of_ble_eq_true rfl)⟩) (kpV (A := A) qP hK qD hG (krecv_3 (q0 := 0) hK hP rfl)) rfl rfl hl.1 rfl (lv_room (Nat.le_of_ble_eq_true rfl)) (kdr dgL_unbook_0 0 3 rfl rfl) ⟨(Nat.le_of_ble_eq_true rfl), (Nat.le_of_ble_eq_true rfl)⟩) hP hD hS hA (kFr_l kFr_SB) (fun H locs hP hD hS br1 => ?_)
    refine lv_i2l (v := r1.1.toInt64) hx hb (kdr dgL_unbook_0 0 4 rfl rfl) rfl ?_
    refine va_putN (host := RL) (D := (dC, dI)) (ci := 4) (v := .long r1.1.toInt64) (ty := .long) (C := RX2) (T := TX2) (N := 2) hx hb hts hiX2 tyX2 tyX2_ok nmX2 hown hK hP hD hS 15 rfl rfl 0 (by decide) (va_Nw.use rfl (hG.at 7 rfl)) (fun _ h9 => h9) rfl (by decide +kernel) rfl rfl (Nat.le_of_ble_eq_true rfl) (kdr dgL_unbook_0 0 5 rfl rfl) (fun H locs hP hD hS => ?_)
    have hP : va_P (dC, dI) vwCl ((wSB cI cJ cZ a ce fr un r1.2.1 r1.2.2.1 r1.2.2.2.1 r1.2.2.2.2.1 wb we wo wc fb fe fo fc rm r1.2.2.2.2.2 rf kn) ++ (wO o r1.1.toInt64 ov)) H := hP
    have hD : va_D A ((wSB cI cJ cZ a ce fr un r1.2.1 r1.2.2.1 r1.2.2.2.1 r1.2.2.2.2.1 wb we wo wc fb fe fo fc rm r1.2.2.2.2.2 rf kn) ++ (wO o r1.1.toInt64 ov)) := hD
    refine lv_goto (tgt := 16) hx hb (kdr dgL_unbook_0 0 6 rfl rfl) (by decide) ?_
    refine lv_iconst (v := 0) hx hb (kdr dgL_unbook_0 1 0 rfl rfl) (by decide) ?_
    have h := Option.some.inj h
    subst h
    refine W.widen (k := 1) (n := 6) (Nat.le_of_ble_eq_true rfl) (Nat.le_of_ble_eq_true rfl) ?_
    exact kret_i (v := 0) hx hb hr rfl hlocks hS hP (kdr dgL_unbook_0 1 1 rfl rfl)
noncomputable abbrev wsL_move : List Cond := Cond.codeWith yL_move cL_move 6 (some .int) [(0, 13, 16, 19), (0, 13, 20, 21)] :: kBIG
noncomputable def f_L_move (fr : Int64) (un : Int64) (sb : Nat → Int64) (se : Nat → Int64) (sc : Int32) (ac : Int32) (rf : Int32) (on : Int64) (p1 : Int32) (p2 : Int32) (p3 : Int32) : Option ((Int32) × (Nat → Int64) × (Nat → Int64) × (Int32) × (Int32) × (Int64)) :=
  xb (fx_X1_move sc p1 p2 p3) (fun k1 => if k1 = 1 then
  some (1, sb, se, ac, rf, on)
else
  some (2, sb, se, ac, rf, on)) (
  (f_X1_move fr un sb se sc ac rf p1 p2 p3).bind fun r1 =>
  some (0, r1.2.1, r1.2.2.1, r1.2.2.2.1, r1.2.2.2.2, r1.1.toInt64))
theorem f_L_move_e {fr : Int64} {un : Int64} {sb : Nat → Int64} {se : Nat → Int64} {sc : Int32} {ac : Int32} {rf : Int32} {on : Int64} {p1 : Int32} {p2 : Int32} {p3 : Int32} : f_L_move fr un sb se sc ac rf on p1 p2 p3 = 
  xb (fx_X1_move sc p1 p2 p3) (fun k1 => if k1 = 1 then
  some (1, sb, se, ac, rf, on)
else
  some (2, sb, se, ac, rf, on)) (
  (f_X1_move fr un sb se sc ac rf p1 p2 p3).bind fun r1 =>
  some (0, r1.2.1, r1.2.2.1, r1.2.2.2.1, r1.2.2.2.2, r1.1.toInt64)) := rfl
set_option maxHeartbeats 4000000 in
set_option maxRecDepth 100000 in
theorem c_L_move (l : Launch) (hl9 : l.stackTraces = false) (dC : Nat → ClassId) (dI : Nat → Nat → Nat) (cB cI cJ cZ : ClassId) (a : Nat → Nat) (o : Nat) (sz : Nat) (ce : Nat → Int64) (fr : Int64) (un : Int64) (sb : Nat → Int64) (se : Nat → Int64) (so : Nat → Int32) (sc : Int32) (wb : Nat → Int64) (we : Nat → Int64) (wo : Nat → Int32) (wc : Int32) (fb : Nat → Int64) (fe : Nat → Int64) (fo : Nat → Int32) (fc : Int32) (rm : Nat → Int32) (ac : Int32) (rf : Int32) (kn : Int32) (on : Int64) (ov : Value) (p1 : Int32) (p2 : Int32) (p3 : Int32) (res : (Int32) × (Nat → Int64) × (Nat → Int64) × (Int32) × (Int32) × (Int64)) (hf : f_L_move fr un sb se sc ac rf on p1 p2 p3 = some res) : kMw l yL_move wsL_move (kRm 9 1 6 157) dC dI cB cI cJ cZ [.ref (a 0), .int p1, .int p2, .int p3, .ref o] sz ((wSB cI cJ cZ a ce fr un sb se so sc wb we wo wc fb fe fo fc rm ac rf kn) ++ (wO o on ov)) .int (res.1) ((wSB cI cJ cZ a ce fr un (res.2.1) (res.2.2.1) so sc wb we wo wc fb fe fo fc rm (res.2.2.2.1) (res.2.2.2.2.1) kn) ++ (wO o (res.2.2.2.2.2) ov)) 1 6 := by
  refine kmet_w (y := yL_move) (cc := cL_move) (maxL := 6) (ret := (some .int)) (hh := [(0, 13, 16, 19), (0, 13, 20, 21)]) RL (kvA 0 (a 0) (kvI 1 p1 (kvI 2 p2 (kvI 3 p3 (kvA 4 o kvE))))) kpl_L rfl rfl (Nat.le_of_ble_eq_true rfl) rfl (fun p e s m below meth c A ls hx hb hr hml hht hts hown hlocks hP hK hG hZ hD hA hS hl => ?_)
  have hw0 := hts (.classLink RL 19 "java/lang/IndexOutOfBoundsException") (List.mem_cons_of_mem _ kw_467)
  have hw1 := hts (.classLink RL 21 "java/lang/IllegalArgumentException") (List.mem_cons_of_mem _ kw_468)
  have hiX2 : ∀ w ∈ u_ws RX2 TX2 2, w ∈ wsL_move := fun w h => List.mem_cons_of_mem _ (ku_X2 w h)
  have h := f_L_move_e.symm.trans hf
  refine lv_aload hx hb (kdr dgL_move_0 0 0 rfl rfl) (lv_at hl 4 rfl) ?_
  refine lv_aload_n hx hb (kdr dgL_move_0 0 1 rfl rfl) rfl (lv_at hl 0 rfl) ?_
  refine lv_iload_n hx hb (kdr dgL_move_0 0 2 rfl rfl) rfl (lv_at hl 1 rfl) ?_
  refine lv_iload_n hx hb (kdr dgL_move_0 0 3 rfl rfl) rfl (lv_at hl 2 rfl) ?_
  refine lv_iload_n hx hb (kdr dgL_move_0 0 4 rfl rfl) rfl (lv_at hl 3 rfl) ?_
  rcases g_x h with ⟨k1, j1, h⟩ | ⟨-, h⟩
  · refine kq_xh ((wSB cI cJ cZ a ce fr un sb se so sc wb we wo wc fb fe fo fc rm ac rf kn) ++ (wO o on ov)) (fun qP qD qF => vx_runV (As := [.int p1, .int p2, .int p3]) (rest := [.ref o]) ⟨hx, hb, hml, hown, hts⟩ (x_X1_move l hl9 dC dI cB cI cJ cZ a _ ce fr un sb se so sc wb we wo wc fb fe fo fc rm ac rf kn p1 p2 p3 k1 j1) (kcwV hts kw_603 kv_X1_move rfl rfl ⟨(Nat.le_of_ble_eq_true rfl), (Nat.le_of_ble_eq_true rfl)⟩) (kpVXq (A := A) qP hK qD hG hZ hS qF (krecv_3 (q0 := 0) hK hP rfl)) rfl rfl hl.1 rfl (lv_room (Nat.le_of_ble_eq_true rfl)) (kdr dgL_move_0 0 5 rfl rfl) ⟨(Nat.le_of_ble_eq_true rfl), (Nat.le_of_ble_eq_true rfl)⟩) hP hD hS hA (kFr_l kFr_SB) (fun q9 ceQ H locs hP hD hS hce hcv hcl => ?_)
    by_cases e9 : k1 = 1
    · have h := g_t e9 h
      rw [kEx_1 e9] at hcl
      refine vx_catch (E := "java/lang/IndexOutOfBoundsException") (name := "java/lang/IndexOutOfBoundsException") (own := RL) hown [] ⟨0, 13, 16, 19⟩ [⟨0, 13, 20, 21⟩] hht (fun z hz => by cases hz) (by decide) (by decide) hw0 (va_Nw.use rfl (hG.at 4 rfl)) hce hcv hcl ?_
      refine lv_astore (lv' := (kvA 5 q9 (kvA 0 (a 0) (kvI 1 p1 (kvI 2 p2 (kvI 3 p3 (kvA 4 o kvE))))))) hx hb (kdr dgL_move_0 0 9 rfl rfl) hl (by decide) rfl (fun ls hl => ?_)
      refine lv_iconst (v := 1) hx hb (kdr dgL_move_0 1 0 rfl rfl) (by decide) ?_
      have h := Option.some.inj h
      subst h
      refine W.widen (k := 1) (n := 6) (Nat.le_of_ble_eq_true rfl) (Nat.le_of_ble_eq_true rfl) ?_
      exact kret_i (v := 1) hx hb hr rfl hlocks hS hP (kdr dgL_move_0 1 1 rfl rfl)
    · have h := g_f e9 h
      rw [kEx_2 e9] at hcl
      refine vx_catch (E := "java/lang/IllegalArgumentException") (name := "java/lang/IllegalArgumentException") (own := RL) hown [⟨0, 13, 16, 19⟩] ⟨0, 13, 20, 21⟩ [] hht (fun z hz => by rcases List.mem_singleton.mp hz with rfl; exact Or.inr ⟨by decide, _, hw0, hG.2⟩) (by decide) (by decide) hw1 (va_Nw.use rfl (hG.at 5 rfl)) hce hcv hcl ?_
      refine lv_astore (lv' := (kvA 5 q9 (kvA 0 (a 0) (kvI 1 p1 (kvI 2 p2 (kvI 3 p3 (kvA 4 o kvE))))))) hx hb (kdr dgL_move_0 1 2 rfl rfl) hl (by decide) rfl (fun ls hl => ?_)
      refine lv_iconst (v := 2) hx hb (kdr dgL_move_0 1 3 rfl rfl) (by decide) ?_
      have h := Option.some.inj h
      subst h
      refine W.widen (k := 1) (n := 6) (Nat.le_of_ble_eq_true rfl) (Nat.le_of_ble_eq_true rfl) ?_
      exact kret_i (v := 2) hx hb hr rfl hlocks hS hP (kdr dgL_move_0 1 4 rfl rfl)
  · obtain ⟨r1, g1, h⟩ := g_b h
    refine kq_i ((wSB cI cJ cZ a ce fr un r1.2.1 r1.2.2.1 so sc wb we wo wc fb fe fo fc rm r1.2.2.2.1 r1.2.2.2.2 kn) ++ (wO o on ov)) (fun qP qD qF => va_runV (As := [.int p1, .int p2, .int p3]) (rest := [.ref o]) ⟨hx, hb, hml, hown, hts⟩ (c_X1_move l dC dI cB cI cJ cZ a _ ce fr un sb se so sc wb we wo wc fb fe fo fc rm ac rf kn p1 p2 p3 r1 g1) (kcwV hts kw_603 kv_X1_move rfl rfl ⟨(Nat.le_of_ble_eq_true rfl), (Nat.le_of_ble_eq_true rfl)⟩) (kpV (A := A) qP hK qD hG (krecv_3 (q0 := 0) hK hP rfl)) rfl rfl hl.1 rfl (lv_room (Nat.le_of_ble_eq_true rfl)) (kdr dgL_move_0 0 5 rfl rfl) ⟨(Nat.le_of_ble_eq_true rfl), (Nat.le_of_ble_eq_true rfl)⟩) hP hD hS hA (kFr_l kFr_SB) (fun H locs hP hD hS br1 => ?_)
    refine lv_i2l (v := r1.1.toInt64) hx hb (kdr dgL_move_0 0 6 rfl rfl) rfl ?_
    refine va_putN (host := RL) (D := (dC, dI)) (ci := 4) (v := .long r1.1.toInt64) (ty := .long) (C := RX2) (T := TX2) (N := 2) hx hb hts hiX2 tyX2 tyX2_ok nmX2 hown hK hP hD hS 15 rfl rfl 0 (by decide) (va_Nw.use rfl (hG.at 7 rfl)) (fun _ h9 => h9) rfl (by decide +kernel) rfl rfl (Nat.le_of_ble_eq_true rfl) (kdr dgL_move_0 0 7 rfl rfl) (fun H locs hP hD hS => ?_)
    have hP : va_P (dC, dI) vwCl ((wSB cI cJ cZ a ce fr un r1.2.1 r1.2.2.1 so sc wb we wo wc fb fe fo fc rm r1.2.2.2.1 r1.2.2.2.2 kn) ++ (wO o r1.1.toInt64 ov)) H := hP
    have hD : va_D A ((wSB cI cJ cZ a ce fr un r1.2.1 r1.2.2.1 so sc wb we wo wc fb fe fo fc rm r1.2.2.2.1 r1.2.2.2.2 kn) ++ (wO o r1.1.toInt64 ov)) := hD
    refine lv_goto (tgt := 24) hx hb (kdr dgL_move_0 0 8 rfl rfl) (by decide) ?_
    refine lv_iconst (v := 0) hx hb (kdr dgL_move_0 1 5 rfl rfl) (by decide) ?_
    have h := Option.some.inj h
    subst h
    refine W.widen (k := 1) (n := 6) (Nat.le_of_ble_eq_true rfl) (Nat.le_of_ble_eq_true rfl) ?_
    exact kret_i (v := 0) hx hb hr rfl hlocks hS hP (kdr dgL_move_0 1 6 rfl rfl)
noncomputable abbrev wsL_stretch : List Cond := Cond.codeWith yL_stretch cL_stretch 6 (some .int) [(0, 13, 16, 19), (0, 13, 20, 21)] :: kBIG
noncomputable def f_L_stretch (fr : Int64) (un : Int64) (sb : Nat → Int64) (se : Nat → Int64) (sc : Int32) (ac : Int32) (rf : Int32) (on : Int64) (p1 : Int32) (p2 : Int32) (p3 : Int32) : Option ((Int32) × (Nat → Int64) × (Nat → Int64) × (Int32) × (Int32) × (Int64)) :=
  xb (fx_X1_stretch sc p1 p2 p3) (fun k1 => if k1 = 1 then
  some (1, sb, se, ac, rf, on)
else
  some (2, sb, se, ac, rf, on)) (
  (f_X1_stretch fr un sb se sc ac rf p1 p2 p3).bind fun r1 =>
  some (0, r1.2.1, r1.2.2.1, r1.2.2.2.1, r1.2.2.2.2, r1.1.toInt64))
theorem f_L_stretch_e {fr : Int64} {un : Int64} {sb : Nat → Int64} {se : Nat → Int64} {sc : Int32} {ac : Int32} {rf : Int32} {on : Int64} {p1 : Int32} {p2 : Int32} {p3 : Int32} : f_L_stretch fr un sb se sc ac rf on p1 p2 p3 = 
  xb (fx_X1_stretch sc p1 p2 p3) (fun k1 => if k1 = 1 then
  some (1, sb, se, ac, rf, on)
else
  some (2, sb, se, ac, rf, on)) (
  (f_X1_stretch fr un sb se sc ac rf p1 p2 p3).bind fun r1 =>
  some (0, r1.2.1, r1.2.2.1, r1.2.2.2.1, r1.2.2.2.2, r1.1.toInt64)) := rfl
set_option maxHeartbeats 4000000 in
set_option maxRecDepth 100000 in
theorem c_L_stretch (l : Launch) (hl9 : l.stackTraces = false) (dC : Nat → ClassId) (dI : Nat → Nat → Nat) (cB cI cJ cZ : ClassId) (a : Nat → Nat) (o : Nat) (sz : Nat) (ce : Nat → Int64) (fr : Int64) (un : Int64) (sb : Nat → Int64) (se : Nat → Int64) (so : Nat → Int32) (sc : Int32) (wb : Nat → Int64) (we : Nat → Int64) (wo : Nat → Int32) (wc : Int32) (fb : Nat → Int64) (fe : Nat → Int64) (fo : Nat → Int32) (fc : Int32) (rm : Nat → Int32) (ac : Int32) (rf : Int32) (kn : Int32) (on : Int64) (ov : Value) (p1 : Int32) (p2 : Int32) (p3 : Int32) (res : (Int32) × (Nat → Int64) × (Nat → Int64) × (Int32) × (Int32) × (Int64)) (hf : f_L_stretch fr un sb se sc ac rf on p1 p2 p3 = some res) : kMw l yL_stretch wsL_stretch (kRm 9 1 6 155) dC dI cB cI cJ cZ [.ref (a 0), .int p1, .int p2, .int p3, .ref o] sz ((wSB cI cJ cZ a ce fr un sb se so sc wb we wo wc fb fe fo fc rm ac rf kn) ++ (wO o on ov)) .int (res.1) ((wSB cI cJ cZ a ce fr un (res.2.1) (res.2.2.1) so sc wb we wo wc fb fe fo fc rm (res.2.2.2.1) (res.2.2.2.2.1) kn) ++ (wO o (res.2.2.2.2.2) ov)) 1 6 := by
  refine kmet_w (y := yL_stretch) (cc := cL_stretch) (maxL := 6) (ret := (some .int)) (hh := [(0, 13, 16, 19), (0, 13, 20, 21)]) RL (kvA 0 (a 0) (kvI 1 p1 (kvI 2 p2 (kvI 3 p3 (kvA 4 o kvE))))) kpl_L rfl rfl (Nat.le_of_ble_eq_true rfl) rfl (fun p e s m below meth c A ls hx hb hr hml hht hts hown hlocks hP hK hG hZ hD hA hS hl => ?_)
  have hw0 := hts (.classLink RL 19 "java/lang/IndexOutOfBoundsException") (List.mem_cons_of_mem _ kw_467)
  have hw1 := hts (.classLink RL 21 "java/lang/IllegalArgumentException") (List.mem_cons_of_mem _ kw_468)
  have hiX2 : ∀ w ∈ u_ws RX2 TX2 2, w ∈ wsL_stretch := fun w h => List.mem_cons_of_mem _ (ku_X2 w h)
  have h := f_L_stretch_e.symm.trans hf
  refine lv_aload hx hb (kdr dgL_stretch_0 0 0 rfl rfl) (lv_at hl 4 rfl) ?_
  refine lv_aload_n hx hb (kdr dgL_stretch_0 0 1 rfl rfl) rfl (lv_at hl 0 rfl) ?_
  refine lv_iload_n hx hb (kdr dgL_stretch_0 0 2 rfl rfl) rfl (lv_at hl 1 rfl) ?_
  refine lv_iload_n hx hb (kdr dgL_stretch_0 0 3 rfl rfl) rfl (lv_at hl 2 rfl) ?_
  refine lv_iload_n hx hb (kdr dgL_stretch_0 0 4 rfl rfl) rfl (lv_at hl 3 rfl) ?_
  rcases g_x h with ⟨k1, j1, h⟩ | ⟨-, h⟩
  · refine kq_xh ((wSB cI cJ cZ a ce fr un sb se so sc wb we wo wc fb fe fo fc rm ac rf kn) ++ (wO o on ov)) (fun qP qD qF => vx_runV (As := [.int p1, .int p2, .int p3]) (rest := [.ref o]) ⟨hx, hb, hml, hown, hts⟩ (x_X1_stretch l hl9 dC dI cB cI cJ cZ a _ ce fr un sb se so sc wb we wo wc fb fe fo fc rm ac rf kn p1 p2 p3 k1 j1) (kcwV hts kw_622 kv_X1_stretch rfl rfl ⟨(Nat.le_of_ble_eq_true rfl), (Nat.le_of_ble_eq_true rfl)⟩) (kpVXq (A := A) qP hK qD hG hZ hS qF (krecv_3 (q0 := 0) hK hP rfl)) rfl rfl hl.1 rfl (lv_room (Nat.le_of_ble_eq_true rfl)) (kdr dgL_stretch_0 0 5 rfl rfl) ⟨(Nat.le_of_ble_eq_true rfl), (Nat.le_of_ble_eq_true rfl)⟩) hP hD hS hA (kFr_l kFr_SB) (fun q9 ceQ H locs hP hD hS hce hcv hcl => ?_)
    by_cases e9 : k1 = 1
    · have h := g_t e9 h
      rw [kEx_1 e9] at hcl
      refine vx_catch (E := "java/lang/IndexOutOfBoundsException") (name := "java/lang/IndexOutOfBoundsException") (own := RL) hown [] ⟨0, 13, 16, 19⟩ [⟨0, 13, 20, 21⟩] hht (fun z hz => by cases hz) (by decide) (by decide) hw0 (va_Nw.use rfl (hG.at 4 rfl)) hce hcv hcl ?_
      refine lv_astore (lv' := (kvA 5 q9 (kvA 0 (a 0) (kvI 1 p1 (kvI 2 p2 (kvI 3 p3 (kvA 4 o kvE))))))) hx hb (kdr dgL_stretch_0 0 9 rfl rfl) hl (by decide) rfl (fun ls hl => ?_)
      refine lv_iconst (v := 1) hx hb (kdr dgL_stretch_0 1 0 rfl rfl) (by decide) ?_
      have h := Option.some.inj h
      subst h
      refine W.widen (k := 1) (n := 6) (Nat.le_of_ble_eq_true rfl) (Nat.le_of_ble_eq_true rfl) ?_
      exact kret_i (v := 1) hx hb hr rfl hlocks hS hP (kdr dgL_stretch_0 1 1 rfl rfl)
    · have h := g_f e9 h
      rw [kEx_2 e9] at hcl
      refine vx_catch (E := "java/lang/IllegalArgumentException") (name := "java/lang/IllegalArgumentException") (own := RL) hown [⟨0, 13, 16, 19⟩] ⟨0, 13, 20, 21⟩ [] hht (fun z hz => by rcases List.mem_singleton.mp hz with rfl; exact Or.inr ⟨by decide, _, hw0, hG.2⟩) (by decide) (by decide) hw1 (va_Nw.use rfl (hG.at 5 rfl)) hce hcv hcl ?_
      refine lv_astore (lv' := (kvA 5 q9 (kvA 0 (a 0) (kvI 1 p1 (kvI 2 p2 (kvI 3 p3 (kvA 4 o kvE))))))) hx hb (kdr dgL_stretch_0 1 2 rfl rfl) hl (by decide) rfl (fun ls hl => ?_)
      refine lv_iconst (v := 2) hx hb (kdr dgL_stretch_0 1 3 rfl rfl) (by decide) ?_
      have h := Option.some.inj h
      subst h
      refine W.widen (k := 1) (n := 6) (Nat.le_of_ble_eq_true rfl) (Nat.le_of_ble_eq_true rfl) ?_
      exact kret_i (v := 2) hx hb hr rfl hlocks hS hP (kdr dgL_stretch_0 1 4 rfl rfl)
  · obtain ⟨r1, g1, h⟩ := g_b h
    refine kq_i ((wSB cI cJ cZ a ce fr un r1.2.1 r1.2.2.1 so sc wb we wo wc fb fe fo fc rm r1.2.2.2.1 r1.2.2.2.2 kn) ++ (wO o on ov)) (fun qP qD qF => va_runV (As := [.int p1, .int p2, .int p3]) (rest := [.ref o]) ⟨hx, hb, hml, hown, hts⟩ (c_X1_stretch l dC dI cB cI cJ cZ a _ ce fr un sb se so sc wb we wo wc fb fe fo fc rm ac rf kn p1 p2 p3 r1 g1) (kcwV hts kw_622 kv_X1_stretch rfl rfl ⟨(Nat.le_of_ble_eq_true rfl), (Nat.le_of_ble_eq_true rfl)⟩) (kpV (A := A) qP hK qD hG (krecv_3 (q0 := 0) hK hP rfl)) rfl rfl hl.1 rfl (lv_room (Nat.le_of_ble_eq_true rfl)) (kdr dgL_stretch_0 0 5 rfl rfl) ⟨(Nat.le_of_ble_eq_true rfl), (Nat.le_of_ble_eq_true rfl)⟩) hP hD hS hA (kFr_l kFr_SB) (fun H locs hP hD hS br1 => ?_)
    refine lv_i2l (v := r1.1.toInt64) hx hb (kdr dgL_stretch_0 0 6 rfl rfl) rfl ?_
    refine va_putN (host := RL) (D := (dC, dI)) (ci := 4) (v := .long r1.1.toInt64) (ty := .long) (C := RX2) (T := TX2) (N := 2) hx hb hts hiX2 tyX2 tyX2_ok nmX2 hown hK hP hD hS 15 rfl rfl 0 (by decide) (va_Nw.use rfl (hG.at 7 rfl)) (fun _ h9 => h9) rfl (by decide +kernel) rfl rfl (Nat.le_of_ble_eq_true rfl) (kdr dgL_stretch_0 0 7 rfl rfl) (fun H locs hP hD hS => ?_)
    have hP : va_P (dC, dI) vwCl ((wSB cI cJ cZ a ce fr un r1.2.1 r1.2.2.1 so sc wb we wo wc fb fe fo fc rm r1.2.2.2.1 r1.2.2.2.2 kn) ++ (wO o r1.1.toInt64 ov)) H := hP
    have hD : va_D A ((wSB cI cJ cZ a ce fr un r1.2.1 r1.2.2.1 so sc wb we wo wc fb fe fo fc rm r1.2.2.2.1 r1.2.2.2.2 kn) ++ (wO o r1.1.toInt64 ov)) := hD
    refine lv_goto (tgt := 24) hx hb (kdr dgL_stretch_0 0 8 rfl rfl) (by decide) ?_
    refine lv_iconst (v := 0) hx hb (kdr dgL_stretch_0 1 5 rfl rfl) (by decide) ?_
    have h := Option.some.inj h
    subst h
    refine W.widen (k := 1) (n := 6) (Nat.le_of_ble_eq_true rfl) (Nat.le_of_ble_eq_true rfl) ?_
    exact kret_i (v := 0) hx hb hr rfl hlocks hS hP (kdr dgL_stretch_0 1 6 rfl rfl)
noncomputable abbrev wsL_fit : List Cond := Cond.codeWith yL_fit cL_fit 7 (some .int) [(0, 15, 18, 19), (0, 15, 22, 21)] :: kBIG
noncomputable def f_L_fit (ce : Nat → Int64) (fr : Int64) (un : Int64) (sb : Nat → Int64) (se : Nat → Int64) (sc : Int32) (ac : Int32) (rf : Int32) (on : Int64) (p1 : Int32) (p2 : Int32) (p3 : Int32) (p4 : Int32) : Option ((Int32) × (Nat → Int64) × (Int32) × (Int32) × (Int64)) :=
  xb (fx_X1_fit p1 p2 p3 p4) (fun k1 => if k1 = 1 then
  some (1, ce, ac, rf, on)
else
  some (2, ce, ac, rf, on)) (
  (f_X1_fit ce fr un sb se sc ac rf p1 p2 p3 p4).bind fun r1 =>
  some (0, r1.2.1, r1.2.2.1, r1.2.2.2, r1.1.toInt64))
theorem f_L_fit_e {ce : Nat → Int64} {fr : Int64} {un : Int64} {sb : Nat → Int64} {se : Nat → Int64} {sc : Int32} {ac : Int32} {rf : Int32} {on : Int64} {p1 : Int32} {p2 : Int32} {p3 : Int32} {p4 : Int32} : f_L_fit ce fr un sb se sc ac rf on p1 p2 p3 p4 = 
  xb (fx_X1_fit p1 p2 p3 p4) (fun k1 => if k1 = 1 then
  some (1, ce, ac, rf, on)
else
  some (2, ce, ac, rf, on)) (
  (f_X1_fit ce fr un sb se sc ac rf p1 p2 p3 p4).bind fun r1 =>
  some (0, r1.2.1, r1.2.2.1, r1.2.2.2, r1.1.toInt64)) := rfl
set_option maxHeartbeats 4000000 in
set_option maxRecDepth 100000 in
theorem c_L_fit (l : Launch) (hl9 : l.stackTraces = false) (dC : Nat → ClassId) (dI : Nat → Nat → Nat) (cB cI cJ cZ : ClassId) (a : Nat → Nat) (o : Nat) (sz : Nat) (ce : Nat → Int64) (fr : Int64) (un : Int64) (sb : Nat → Int64) (se : Nat → Int64) (so : Nat → Int32) (sc : Int32) (wb : Nat → Int64) (we : Nat → Int64) (wo : Nat → Int32) (wc : Int32) (fb : Nat → Int64) (fe : Nat → Int64) (fo : Nat → Int32) (fc : Int32) (rm : Nat → Int32) (ac : Int32) (rf : Int32) (kn : Int32) (on : Int64) (ov : Value) (p1 : Int32) (p2 : Int32) (p3 : Int32) (p4 : Int32) (res : (Int32) × (Nat → Int64) × (Int32) × (Int32) × (Int64)) (hf : f_L_fit ce fr un sb se sc ac rf on p1 p2 p3 p4 = some res) : kMw l yL_fit wsL_fit (kRm 9 1 6 160) dC dI cB cI cJ cZ [.ref (a 0), .int p1, .int p2, .int p3, .int p4, .ref o] sz ((wSB cI cJ cZ a ce fr un sb se so sc wb we wo wc fb fe fo fc rm ac rf kn) ++ (wO o on ov)) .int (res.1) ((wSB cI cJ cZ a (res.2.1) fr un sb se so sc wb we wo wc fb fe fo fc rm (res.2.2.1) (res.2.2.2.1) kn) ++ (wO o (res.2.2.2.2) ov)) 1 6 := by
  refine kmet_w (y := yL_fit) (cc := cL_fit) (maxL := 7) (ret := (some .int)) (hh := [(0, 15, 18, 19), (0, 15, 22, 21)]) RL (kvA 0 (a 0) (kvI 1 p1 (kvI 2 p2 (kvI 3 p3 (kvI 4 p4 (kvA 5 o kvE)))))) kpl_L rfl rfl (Nat.le_of_ble_eq_true rfl) rfl (fun p e s m below meth c A ls hx hb hr hml hht hts hown hlocks hP hK hG hZ hD hA hS hl => ?_)
  have hw0 := hts (.classLink RL 19 "java/lang/IndexOutOfBoundsException") (List.mem_cons_of_mem _ kw_467)
  have hw1 := hts (.classLink RL 21 "java/lang/IllegalArgumentException") (List.mem_cons_of_mem _ kw_468)
  have hiX2 : ∀ w ∈ u_ws RX2 TX2 2, w ∈ wsL_fit := fun w h => List.mem_cons_of_mem _ (ku_X2 w h)
  have h := f_L_fit_e.symm.trans hf
  refine lv_aload hx hb (kdr dgL_fit_0 0 0 rfl rfl) (lv_at hl 5 rfl) ?_
  refine lv_aload_n hx hb (kdr dgL_fit_0 0 1 rfl rfl) rfl (lv_at hl 0 rfl) ?_
  refine lv_iload_n hx hb (kdr dgL_fit_0 0 2 rfl rfl) rfl (lv_at hl 1 rfl) ?_
  refine lv_iload_n hx hb (kdr dgL_fit_0 0 3 rfl rfl) rfl (lv_at hl 2 rfl) ?_
  refine lv_iload_n hx hb (kdr dgL_fit_0 0 4 rfl rfl) rfl (lv_at hl 3 rfl) ?_
  refine lv_iload hx hb (kdr dgL_fit_0 0 5 rfl rfl) (lv_at hl 4 rfl) ?_
  rcases g_x h with ⟨k1, j1, h⟩ | ⟨-, h⟩
  · refine kq_xh ((wSB cI cJ cZ a ce fr un sb se so sc wb we wo wc fb fe fo fc rm ac rf kn) ++ (wO o on ov)) (fun qP qD qF => vx_runV (As := [.int p1, .int p2, .int p3, .int p4]) (rest := [.ref o]) ⟨hx, hb, hml, hown, hts⟩ (x_X1_fit l hl9 dC dI cB cI cJ cZ a _ ce fr un sb se so sc wb we wo wc fb fe fo fc rm ac rf kn p1 p2 p3 p4 k1 j1) (kcwV hts kw_633 kv_X1_fit rfl rfl ⟨(Nat.le_of_ble_eq_true rfl), (Nat.le_of_ble_eq_true rfl)⟩) (kpVXq (A := A) qP hK qD hG hZ hS qF (krecv_3 (q0 := 0) hK hP rfl)) rfl rfl hl.1 rfl (lv_room (Nat.le_of_ble_eq_true rfl)) (kdr dgL_fit_0 0 6 rfl rfl) ⟨(Nat.le_of_ble_eq_true rfl), (Nat.le_of_ble_eq_true rfl)⟩) hP hD hS hA (kFr_l kFr_SB) (fun q9 ceQ H locs hP hD hS hce hcv hcl => ?_)
    by_cases e9 : k1 = 1
    · have h := g_t e9 h
      rw [kEx_1 e9] at hcl
      refine vx_catch (E := "java/lang/IndexOutOfBoundsException") (name := "java/lang/IndexOutOfBoundsException") (own := RL) hown [] ⟨0, 15, 18, 19⟩ [⟨0, 15, 22, 21⟩] hht (fun z hz => by cases hz) (by decide) (by decide) hw0 (va_Nw.use rfl (hG.at 4 rfl)) hce hcv hcl ?_
      refine lv_astore (lv' := (kvA 6 q9 (kvA 0 (a 0) (kvI 1 p1 (kvI 2 p2 (kvI 3 p3 (kvI 4 p4 (kvA 5 o kvE)))))))) hx hb (kdr dgL_fit_0 1 0 rfl rfl) hl (by decide) rfl (fun ls hl => ?_)
      refine lv_iconst (v := 1) hx hb (kdr dgL_fit_0 1 1 rfl rfl) (by decide) ?_
      have h := Option.some.inj h
      subst h
      refine W.widen (k := 1) (n := 6) (Nat.le_of_ble_eq_true rfl) (Nat.le_of_ble_eq_true rfl) ?_
      exact kret_i (v := 1) hx hb hr rfl hlocks hS hP (kdr dgL_fit_0 1 2 rfl rfl)
    · have h := g_f e9 h
      rw [kEx_2 e9] at hcl
      refine vx_catch (E := "java/lang/IllegalArgumentException") (name := "java/lang/IllegalArgumentException") (own := RL) hown [⟨0, 15, 18, 19⟩] ⟨0, 15, 22, 21⟩ [] hht (fun z hz => by rcases List.mem_singleton.mp hz with rfl; exact Or.inr ⟨by decide, _, hw0, hG.2⟩) (by decide) (by decide) hw1 (va_Nw.use rfl (hG.at 5 rfl)) hce hcv hcl ?_
      refine lv_astore (lv' := (kvA 6 q9 (kvA 0 (a 0) (kvI 1 p1 (kvI 2 p2 (kvI 3 p3 (kvI 4 p4 (kvA 5 o kvE)))))))) hx hb (kdr dgL_fit_0 1 3 rfl rfl) hl (by decide) rfl (fun ls hl => ?_)
      refine lv_iconst (v := 2) hx hb (kdr dgL_fit_0 1 4 rfl rfl) (by decide) ?_
      have h := Option.some.inj h
      subst h
      refine W.widen (k := 1) (n := 6) (Nat.le_of_ble_eq_true rfl) (Nat.le_of_ble_eq_true rfl) ?_
      exact kret_i (v := 2) hx hb hr rfl hlocks hS hP (kdr dgL_fit_0 1 5 rfl rfl)
  · obtain ⟨r1, g1, h⟩ := g_b h
    refine kq_i ((wSB cI cJ cZ a r1.2.1 fr un sb se so sc wb we wo wc fb fe fo fc rm r1.2.2.1 r1.2.2.2 kn) ++ (wO o on ov)) (fun qP qD qF => va_runV (As := [.int p1, .int p2, .int p3, .int p4]) (rest := [.ref o]) ⟨hx, hb, hml, hown, hts⟩ (c_X1_fit l dC dI cB cI cJ cZ a _ ce fr un sb se so sc wb we wo wc fb fe fo fc rm ac rf kn p1 p2 p3 p4 r1 g1) (kcwV hts kw_633 kv_X1_fit rfl rfl ⟨(Nat.le_of_ble_eq_true rfl), (Nat.le_of_ble_eq_true rfl)⟩) (kpV (A := A) qP hK qD hG (krecv_3 (q0 := 0) hK hP rfl)) rfl rfl hl.1 rfl (lv_room (Nat.le_of_ble_eq_true rfl)) (kdr dgL_fit_0 0 6 rfl rfl) ⟨(Nat.le_of_ble_eq_true rfl), (Nat.le_of_ble_eq_true rfl)⟩) hP hD hS hA (kFr_l kFr_SB) (fun H locs hP hD hS br1 => ?_)
    refine lv_i2l (v := r1.1.toInt64) hx hb (kdr dgL_fit_0 0 7 rfl rfl) rfl ?_
    refine va_putN (host := RL) (D := (dC, dI)) (ci := 4) (v := .long r1.1.toInt64) (ty := .long) (C := RX2) (T := TX2) (N := 2) hx hb hts hiX2 tyX2 tyX2_ok nmX2 hown hK hP hD hS 15 rfl rfl 0 (by decide) (va_Nw.use rfl (hG.at 7 rfl)) (fun _ h9 => h9) rfl (by decide +kernel) rfl rfl (Nat.le_of_ble_eq_true rfl) (kdr dgL_fit_0 0 8 rfl rfl) (fun H locs hP hD hS => ?_)
    have hP : va_P (dC, dI) vwCl ((wSB cI cJ cZ a r1.2.1 fr un sb se so sc wb we wo wc fb fe fo fc rm r1.2.2.1 r1.2.2.2 kn) ++ (wO o r1.1.toInt64 ov)) H := hP
    have hD : va_D A ((wSB cI cJ cZ a r1.2.1 fr un sb se so sc wb we wo wc fb fe fo fc rm r1.2.2.1 r1.2.2.2 kn) ++ (wO o r1.1.toInt64 ov)) := hD
    refine lv_goto (tgt := 26) hx hb (kdr dgL_fit_0 0 9 rfl rfl) (by decide) ?_
    refine lv_iconst (v := 0) hx hb (kdr dgL_fit_0 1 6 rfl rfl) (by decide) ?_
    have h := Option.some.inj h
    subst h
    refine W.widen (k := 1) (n := 6) (Nat.le_of_ble_eq_true rfl) (Nat.le_of_ble_eq_true rfl) ?_
    exact kret_i (v := 0) hx hb hr rfl hlocks hS hP (kdr dgL_fit_0 1 7 rfl rfl)
noncomputable abbrev wsL_wish : List Cond := Cond.codeWith yL_wish cL_wish 5 (some .int) [(0, 11, 14, 19)] :: kBIG
noncomputable def f_L_wish (ce : Nat → Int64) (wb : Nat → Int64) (we : Nat → Int64) (wo : Nat → Int32) (wc : Int32) (ac : Int32) (rf : Int32) (on : Int64) (p1 : Int32) (p2 : Int32) : Option ((Int32) × (Nat → Int64) × (Nat → Int64) × (Nat → Int32) × (Int32) × (Int32) × (Int32) × (Int64)) :=
  xb (fx_X1_wish p1 p2) (fun k1 => if k1 = 1 then
  some (1, wb, we, wo, wc, ac, rf, on)
else
  none) (
  (f_X1_wish ce wb we wo wc ac rf p1 p2).bind fun r1 =>
  some (0, r1.2.1, r1.2.2.1, r1.2.2.2.1, r1.2.2.2.2.1, r1.2.2.2.2.2.1, r1.2.2.2.2.2.2, r1.1.toInt64))
theorem f_L_wish_e {ce : Nat → Int64} {wb : Nat → Int64} {we : Nat → Int64} {wo : Nat → Int32} {wc : Int32} {ac : Int32} {rf : Int32} {on : Int64} {p1 : Int32} {p2 : Int32} : f_L_wish ce wb we wo wc ac rf on p1 p2 = 
  xb (fx_X1_wish p1 p2) (fun k1 => if k1 = 1 then
  some (1, wb, we, wo, wc, ac, rf, on)
else
  none) (
  (f_X1_wish ce wb we wo wc ac rf p1 p2).bind fun r1 =>
  some (0, r1.2.1, r1.2.2.1, r1.2.2.2.1, r1.2.2.2.2.1, r1.2.2.2.2.2.1, r1.2.2.2.2.2.2, r1.1.toInt64)) := rfl
set_option maxHeartbeats 4000000 in
set_option maxRecDepth 100000 in
theorem c_L_wish (l : Launch) (hl9 : l.stackTraces = false) (dC : Nat → ClassId) (dI : Nat → Nat → Nat) (cB cI cJ cZ : ClassId) (a : Nat → Nat) (o : Nat) (sz : Nat) (ce : Nat → Int64) (fr : Int64) (un : Int64) (sb : Nat → Int64) (se : Nat → Int64) (so : Nat → Int32) (sc : Int32) (wb : Nat → Int64) (we : Nat → Int64) (wo : Nat → Int32) (wc : Int32) (fb : Nat → Int64) (fe : Nat → Int64) (fo : Nat → Int32) (fc : Int32) (rm : Nat → Int32) (ac : Int32) (rf : Int32) (kn : Int32) (on : Int64) (ov : Value) (p1 : Int32) (p2 : Int32) (res : (Int32) × (Nat → Int64) × (Nat → Int64) × (Nat → Int32) × (Int32) × (Int32) × (Int32) × (Int64)) (hf : f_L_wish ce wb we wo wc ac rf on p1 p2 = some res) : kMw l yL_wish wsL_wish (kRm 8 1 6 132) dC dI cB cI cJ cZ [.ref (a 0), .int p1, .int p2, .ref o] sz ((wSB cI cJ cZ a ce fr un sb se so sc wb we wo wc fb fe fo fc rm ac rf kn) ++ (wO o on ov)) .int (res.1) ((wSB cI cJ cZ a ce fr un sb se so sc (res.2.1) (res.2.2.1) (res.2.2.2.1) (res.2.2.2.2.1) fb fe fo fc rm (res.2.2.2.2.2.1) (res.2.2.2.2.2.2.1) kn) ++ (wO o (res.2.2.2.2.2.2.2) ov)) 1 6 := by
  refine kmet_w (y := yL_wish) (cc := cL_wish) (maxL := 5) (ret := (some .int)) (hh := [(0, 11, 14, 19)]) RL (kvA 0 (a 0) (kvI 1 p1 (kvI 2 p2 (kvA 3 o kvE)))) kpl_L rfl rfl (Nat.le_of_ble_eq_true rfl) rfl (fun p e s m below meth c A ls hx hb hr hml hht hts hown hlocks hP hK hG hZ hD hA hS hl => ?_)
  have hw0 := hts (.classLink RL 19 "java/lang/IndexOutOfBoundsException") (List.mem_cons_of_mem _ kw_467)
  have hiX2 : ∀ w ∈ u_ws RX2 TX2 2, w ∈ wsL_wish := fun w h => List.mem_cons_of_mem _ (ku_X2 w h)
  have h := f_L_wish_e.symm.trans hf
  refine lv_aload_n hx hb (kdr dgL_wish_0 0 0 rfl rfl) rfl (lv_at hl 3 rfl) ?_
  refine lv_aload_n hx hb (kdr dgL_wish_0 0 1 rfl rfl) rfl (lv_at hl 0 rfl) ?_
  refine lv_iload_n hx hb (kdr dgL_wish_0 0 2 rfl rfl) rfl (lv_at hl 1 rfl) ?_
  refine lv_iload_n hx hb (kdr dgL_wish_0 0 3 rfl rfl) rfl (lv_at hl 2 rfl) ?_
  rcases g_x h with ⟨k1, j1, h⟩ | ⟨-, h⟩
  · refine kq_xh ((wSB cI cJ cZ a ce fr un sb se so sc wb we wo wc fb fe fo fc rm ac rf kn) ++ (wO o on ov)) (fun qP qD qF => vx_runV (As := [.int p1, .int p2]) (rest := [.ref o]) ⟨hx, hb, hml, hown, hts⟩ (x_X1_wish l hl9 dC dI cB cI cJ cZ a _ ce fr un sb se so sc wb we wo wc fb fe fo fc rm ac rf kn p1 p2 k1 j1) (kcwV hts kw_643 kv_X1_wish rfl rfl ⟨(Nat.le_of_ble_eq_true rfl), (Nat.le_of_ble_eq_true rfl)⟩) (kpVXq (A := A) qP hK qD hG hZ hS qF (krecv_3 (q0 := 0) hK hP rfl)) rfl rfl hl.1 rfl (lv_room (Nat.le_of_ble_eq_true rfl)) (kdr dgL_wish_0 0 4 rfl rfl) ⟨(Nat.le_of_ble_eq_true rfl), (Nat.le_of_ble_eq_true rfl)⟩) hP hD hS hA (kFr_l kFr_SB) (fun q9 ceQ H locs hP hD hS hce hcv hcl => ?_)
    by_cases e9 : k1 = 1
    · have h := g_t e9 h
      rw [kEx_1 e9] at hcl
      refine vx_catch (E := "java/lang/IndexOutOfBoundsException") (name := "java/lang/IndexOutOfBoundsException") (own := RL) hown [] ⟨0, 11, 14, 19⟩ [] hht (fun z hz => by cases hz) (by decide) (by decide) hw0 (va_Nw.use rfl (hG.at 4 rfl)) hce hcv hcl ?_
      refine lv_astore (lv' := (kvA 4 q9 (kvA 0 (a 0) (kvI 1 p1 (kvI 2 p2 (kvA 3 o kvE)))))) hx hb (kdr dgL_wish_0 0 8 rfl rfl) hl (by decide) rfl (fun ls hl => ?_)
      refine lv_iconst (v := 1) hx hb (kdr dgL_wish_0 0 9 rfl rfl) (by decide) ?_
      have h := Option.some.inj h
      subst h
      refine W.widen (k := 1) (n := 6) (Nat.le_of_ble_eq_true rfl) (Nat.le_of_ble_eq_true rfl) ?_
      exact kret_i (v := 1) hx hb hr rfl hlocks hS hP (kdr dgL_wish_0 1 0 rfl rfl)
    · have h := g_f e9 h
      rw [kEx_2 e9] at hcl
      cases h
  · obtain ⟨r1, g1, h⟩ := g_b h
    refine kq_i ((wSB cI cJ cZ a ce fr un sb se so sc r1.2.1 r1.2.2.1 r1.2.2.2.1 r1.2.2.2.2.1 fb fe fo fc rm r1.2.2.2.2.2.1 r1.2.2.2.2.2.2 kn) ++ (wO o on ov)) (fun qP qD qF => va_runV (As := [.int p1, .int p2]) (rest := [.ref o]) ⟨hx, hb, hml, hown, hts⟩ (c_X1_wish l dC dI cB cI cJ cZ a _ ce fr un sb se so sc wb we wo wc fb fe fo fc rm ac rf kn p1 p2 r1 g1) (kcwV hts kw_643 kv_X1_wish rfl rfl ⟨(Nat.le_of_ble_eq_true rfl), (Nat.le_of_ble_eq_true rfl)⟩) (kpV (A := A) qP hK qD hG (krecv_3 (q0 := 0) hK hP rfl)) rfl rfl hl.1 rfl (lv_room (Nat.le_of_ble_eq_true rfl)) (kdr dgL_wish_0 0 4 rfl rfl) ⟨(Nat.le_of_ble_eq_true rfl), (Nat.le_of_ble_eq_true rfl)⟩) hP hD hS hA (kFr_l kFr_SB) (fun H locs hP hD hS br1 => ?_)
    refine lv_i2l (v := r1.1.toInt64) hx hb (kdr dgL_wish_0 0 5 rfl rfl) rfl ?_
    refine va_putN (host := RL) (D := (dC, dI)) (ci := 4) (v := .long r1.1.toInt64) (ty := .long) (C := RX2) (T := TX2) (N := 2) hx hb hts hiX2 tyX2 tyX2_ok nmX2 hown hK hP hD hS 15 rfl rfl 0 (by decide) (va_Nw.use rfl (hG.at 7 rfl)) (fun _ h9 => h9) rfl (by decide +kernel) rfl rfl (Nat.le_of_ble_eq_true rfl) (kdr dgL_wish_0 0 6 rfl rfl) (fun H locs hP hD hS => ?_)
    have hP : va_P (dC, dI) vwCl ((wSB cI cJ cZ a ce fr un sb se so sc r1.2.1 r1.2.2.1 r1.2.2.2.1 r1.2.2.2.2.1 fb fe fo fc rm r1.2.2.2.2.2.1 r1.2.2.2.2.2.2 kn) ++ (wO o r1.1.toInt64 ov)) H := hP
    have hD : va_D A ((wSB cI cJ cZ a ce fr un sb se so sc r1.2.1 r1.2.2.1 r1.2.2.2.1 r1.2.2.2.2.1 fb fe fo fc rm r1.2.2.2.2.2.1 r1.2.2.2.2.2.2 kn) ++ (wO o r1.1.toInt64 ov)) := hD
    refine lv_goto (tgt := 18) hx hb (kdr dgL_wish_0 0 7 rfl rfl) (by decide) ?_
    refine lv_iconst (v := 0) hx hb (kdr dgL_wish_0 1 1 rfl rfl) (by decide) ?_
    have h := Option.some.inj h
    subst h
    refine W.widen (k := 1) (n := 6) (Nat.le_of_ble_eq_true rfl) (Nat.le_of_ble_eq_true rfl) ?_
    exact kret_i (v := 0) hx hb hr rfl hlocks hS hP (kdr dgL_wish_0 1 2 rfl rfl)
noncomputable abbrev wsL_unwish : List Cond := Cond.codeWith yL_unwish cL_unwish 4 (some .int) [(0, 10, 13, 19)] :: kBIG
noncomputable def f_L_unwish (wb : Nat → Int64) (we : Nat → Int64) (wo : Nat → Int32) (wc : Int32) (ac : Int32) (on : Int64) (p1 : Int32) : Option ((Int32) × (Nat → Int64) × (Nat → Int64) × (Nat → Int32) × (Int32) × (Int32) × (Int64)) :=
  xb (fx_X1_unwish wc p1) (fun k1 => if k1 = 1 then
  some (1, wb, we, wo, wc, ac, on)
else
  none) (
  (f_X1_unwish wb we wo wc ac p1).bind fun r1 =>
  some (0, r1.2.1, r1.2.2.1, r1.2.2.2.1, r1.2.2.2.2.1, r1.2.2.2.2.2, r1.1.toInt64))
theorem f_L_unwish_e {wb : Nat → Int64} {we : Nat → Int64} {wo : Nat → Int32} {wc : Int32} {ac : Int32} {on : Int64} {p1 : Int32} : f_L_unwish wb we wo wc ac on p1 = 
  xb (fx_X1_unwish wc p1) (fun k1 => if k1 = 1 then
  some (1, wb, we, wo, wc, ac, on)
else
  none) (
  (f_X1_unwish wb we wo wc ac p1).bind fun r1 =>
  some (0, r1.2.1, r1.2.2.1, r1.2.2.2.1, r1.2.2.2.2.1, r1.2.2.2.2.2, r1.1.toInt64)) := rfl
set_option maxHeartbeats 4000000 in
set_option maxRecDepth 100000 in
theorem c_L_unwish (l : Launch) (hl9 : l.stackTraces = false) (dC : Nat → ClassId) (dI : Nat → Nat → Nat) (cB cI cJ cZ : ClassId) (a : Nat → Nat) (o : Nat) (sz : Nat) (ce : Nat → Int64) (fr : Int64) (un : Int64) (sb : Nat → Int64) (se : Nat → Int64) (so : Nat → Int32) (sc : Int32) (wb : Nat → Int64) (we : Nat → Int64) (wo : Nat → Int32) (wc : Int32) (fb : Nat → Int64) (fe : Nat → Int64) (fo : Nat → Int32) (fc : Int32) (rm : Nat → Int32) (ac : Int32) (rf : Int32) (kn : Int32) (on : Int64) (ov : Value) (p1 : Int32) (res : (Int32) × (Nat → Int64) × (Nat → Int64) × (Nat → Int32) × (Int32) × (Int32) × (Int64)) (hf : f_L_unwish wb we wo wc ac on p1 = some res) : kMw l yL_unwish wsL_unwish (kRm 8 1 6 132) dC dI cB cI cJ cZ [.ref (a 0), .int p1, .ref o] sz ((wSB cI cJ cZ a ce fr un sb se so sc wb we wo wc fb fe fo fc rm ac rf kn) ++ (wO o on ov)) .int (res.1) ((wSB cI cJ cZ a ce fr un sb se so sc (res.2.1) (res.2.2.1) (res.2.2.2.1) (res.2.2.2.2.1) fb fe fo fc rm (res.2.2.2.2.2.1) rf kn) ++ (wO o (res.2.2.2.2.2.2) ov)) 1 6 := by
  refine kmet_w (y := yL_unwish) (cc := cL_unwish) (maxL := 4) (ret := (some .int)) (hh := [(0, 10, 13, 19)]) RL (kvA 0 (a 0) (kvI 1 p1 (kvA 2 o kvE))) kpl_L rfl rfl (Nat.le_of_ble_eq_true rfl) rfl (fun p e s m below meth c A ls hx hb hr hml hht hts hown hlocks hP hK hG hZ hD hA hS hl => ?_)
  have hw0 := hts (.classLink RL 19 "java/lang/IndexOutOfBoundsException") (List.mem_cons_of_mem _ kw_467)
  have hiX2 : ∀ w ∈ u_ws RX2 TX2 2, w ∈ wsL_unwish := fun w h => List.mem_cons_of_mem _ (ku_X2 w h)
  have h := f_L_unwish_e.symm.trans hf
  refine lv_aload_n hx hb (kdr dgL_unwish_0 0 0 rfl rfl) rfl (lv_at hl 2 rfl) ?_
  refine lv_aload_n hx hb (kdr dgL_unwish_0 0 1 rfl rfl) rfl (lv_at hl 0 rfl) ?_
  refine lv_iload_n hx hb (kdr dgL_unwish_0 0 2 rfl rfl) rfl (lv_at hl 1 rfl) ?_
  rcases g_x h with ⟨k1, j1, h⟩ | ⟨-, h⟩
  · refine kq_xh ((wSB cI cJ cZ a ce fr un sb se so sc wb we wo wc fb fe fo fc rm ac rf kn) ++ (wO o on ov)) (fun qP qD qF => vx_runV (As := [.int p1]) (rest := [.ref o]) ⟨hx, hb, hml, hown, hts⟩ (x_X1_unwish l hl9 dC dI cB cI cJ cZ a _ ce fr un sb se so sc wb we wo wc fb fe fo fc rm ac rf kn p1 k1 j1) (kcwV hts kw_650 kv_X1_unwish rfl rfl ⟨(Nat.le_of_ble_eq_true rfl), (Nat.le_of_ble_eq_true rfl)⟩) (kpVXq (A := A) qP hK qD hG hZ hS qF (krecv_3 (q0 := 0) hK hP rfl)) rfl rfl hl.1 rfl (lv_room (Nat.le_of_ble_eq_true rfl)) (kdr dgL_unwish_0 0 3 rfl rfl) ⟨(Nat.le_of_ble_eq_true rfl), (Nat.le_of_ble_eq_true rfl)⟩) hP hD hS hA (kFr_l kFr_SB) (fun q9 ceQ H locs hP hD hS hce hcv hcl => ?_)
    by_cases e9 : k1 = 1
    · have h := g_t e9 h
      rw [kEx_1 e9] at hcl
      refine vx_catch (E := "java/lang/IndexOutOfBoundsException") (name := "java/lang/IndexOutOfBoundsException") (own := RL) hown [] ⟨0, 10, 13, 19⟩ [] hht (fun z hz => by cases hz) (by decide) (by decide) hw0 (va_Nw.use rfl (hG.at 4 rfl)) hce hcv hcl ?_
      refine lv_astore_n (lv' := (kvA 3 q9 (kvA 0 (a 0) (kvI 1 p1 (kvA 2 o kvE))))) hx hb (kdr dgL_unwish_0 0 7 rfl rfl) rfl hl (by decide) rfl (fun ls hl => ?_)
      refine lv_iconst (v := 1) hx hb (kdr dgL_unwish_0 0 8 rfl rfl) (by decide) ?_
      have h := Option.some.inj h
      subst h
      refine W.widen (k := 1) (n := 6) (Nat.le_of_ble_eq_true rfl) (Nat.le_of_ble_eq_true rfl) ?_
      exact kret_i (v := 1) hx hb hr rfl hlocks hS hP (kdr dgL_unwish_0 0 9 rfl rfl)
    · have h := g_f e9 h
      rw [kEx_2 e9] at hcl
      cases h
  · obtain ⟨r1, g1, h⟩ := g_b h
    refine kq_i ((wSB cI cJ cZ a ce fr un sb se so sc r1.2.1 r1.2.2.1 r1.2.2.2.1 r1.2.2.2.2.1 fb fe fo fc rm r1.2.2.2.2.2 rf kn) ++ (wO o on ov)) (fun qP qD qF => va_runV (As := [.int p1]) (rest := [.ref o]) ⟨hx, hb, hml, hown, hts⟩ (c_X1_unwish l dC dI cB cI cJ cZ a _ ce fr un sb se so sc wb we wo wc fb fe fo fc rm ac rf kn p1 r1 g1) (kcwV hts kw_650 kv_X1_unwish rfl rfl ⟨(Nat.le_of_ble_eq_true rfl), (Nat.le_of_ble_eq_true rfl)⟩) (kpV (A := A) qP hK qD hG (krecv_3 (q0 := 0) hK hP rfl)) rfl rfl hl.1 rfl (lv_room (Nat.le_of_ble_eq_true rfl)) (kdr dgL_unwish_0 0 3 rfl rfl) ⟨(Nat.le_of_ble_eq_true rfl), (Nat.le_of_ble_eq_true rfl)⟩) hP hD hS hA (kFr_l kFr_SB) (fun H locs hP hD hS br1 => ?_)
    refine lv_i2l (v := r1.1.toInt64) hx hb (kdr dgL_unwish_0 0 4 rfl rfl) rfl ?_
    refine va_putN (host := RL) (D := (dC, dI)) (ci := 4) (v := .long r1.1.toInt64) (ty := .long) (C := RX2) (T := TX2) (N := 2) hx hb hts hiX2 tyX2 tyX2_ok nmX2 hown hK hP hD hS 15 rfl rfl 0 (by decide) (va_Nw.use rfl (hG.at 7 rfl)) (fun _ h9 => h9) rfl (by decide +kernel) rfl rfl (Nat.le_of_ble_eq_true rfl) (kdr dgL_unwish_0 0 5 rfl rfl) (fun H locs hP hD hS => ?_)
    have hP : va_P (dC, dI) vwCl ((wSB cI cJ cZ a ce fr un sb se so sc r1.2.1 r1.2.2.1 r1.2.2.2.1 r1.2.2.2.2.1 fb fe fo fc rm r1.2.2.2.2.2 rf kn) ++ (wO o r1.1.toInt64 ov)) H := hP
    have hD : va_D A ((wSB cI cJ cZ a ce fr un sb se so sc r1.2.1 r1.2.2.1 r1.2.2.2.1 r1.2.2.2.2.1 fb fe fo fc rm r1.2.2.2.2.2 rf kn) ++ (wO o r1.1.toInt64 ov)) := hD
    refine lv_goto (tgt := 16) hx hb (kdr dgL_unwish_0 0 6 rfl rfl) (by decide) ?_
    refine lv_iconst (v := 0) hx hb (kdr dgL_unwish_0 1 0 rfl rfl) (by decide) ?_
    have h := Option.some.inj h
    subst h
    refine W.widen (k := 1) (n := 6) (Nat.le_of_ble_eq_true rfl) (Nat.le_of_ble_eq_true rfl) ?_
    exact kret_i (v := 0) hx hb hr rfl hlocks hS hP (kdr dgL_unwish_0 1 1 rfl rfl)
noncomputable abbrev wsL_grant : List Cond := Cond.codeWith yL_grant cL_grant 4 (some .int) [(0, 10, 13, 19)] :: kBIG
noncomputable def f_L_grant (fr : Int64) (un : Int64) (sb : Nat → Int64) (se : Nat → Int64) (so : Nat → Int32) (sc : Int32) (wb : Nat → Int64) (we : Nat → Int64) (wo : Nat → Int32) (wc : Int32) (ac : Int32) (rf : Int32) (on : Int64) (p1 : Int32) : Option ((Int32) × (Nat → Int64) × (Nat → Int64) × (Nat → Int32) × (Int32) × (Nat → Int64) × (Nat → Int64) × (Nat → Int32) × (Int32) × (Int32) × (Int32) × (Int64)) :=
  xb (fx_X1_grant wc p1) (fun k1 => if k1 = 1 then
  some (1, sb, se, so, sc, wb, we, wo, wc, ac, rf, on)
else
  none) (
  (f_X1_grant fr un sb se so sc wb we wo wc ac rf p1).bind fun r1 =>
  some (0, r1.2.1, r1.2.2.1, r1.2.2.2.1, r1.2.2.2.2.1, r1.2.2.2.2.2.1, r1.2.2.2.2.2.2.1, r1.2.2.2.2.2.2.2.1, r1.2.2.2.2.2.2.2.2.1, r1.2.2.2.2.2.2.2.2.2.1, r1.2.2.2.2.2.2.2.2.2.2, r1.1.toInt64))
theorem f_L_grant_e {fr : Int64} {un : Int64} {sb : Nat → Int64} {se : Nat → Int64} {so : Nat → Int32} {sc : Int32} {wb : Nat → Int64} {we : Nat → Int64} {wo : Nat → Int32} {wc : Int32} {ac : Int32} {rf : Int32} {on : Int64} {p1 : Int32} : f_L_grant fr un sb se so sc wb we wo wc ac rf on p1 = 
  xb (fx_X1_grant wc p1) (fun k1 => if k1 = 1 then
  some (1, sb, se, so, sc, wb, we, wo, wc, ac, rf, on)
else
  none) (
  (f_X1_grant fr un sb se so sc wb we wo wc ac rf p1).bind fun r1 =>
  some (0, r1.2.1, r1.2.2.1, r1.2.2.2.1, r1.2.2.2.2.1, r1.2.2.2.2.2.1, r1.2.2.2.2.2.2.1, r1.2.2.2.2.2.2.2.1, r1.2.2.2.2.2.2.2.2.1, r1.2.2.2.2.2.2.2.2.2.1, r1.2.2.2.2.2.2.2.2.2.2, r1.1.toInt64)) := rfl
set_option maxHeartbeats 4000000 in
set_option maxRecDepth 100000 in
theorem c_L_grant (l : Launch) (hl9 : l.stackTraces = false) (dC : Nat → ClassId) (dI : Nat → Nat → Nat) (cB cI cJ cZ : ClassId) (a : Nat → Nat) (o : Nat) (sz : Nat) (ce : Nat → Int64) (fr : Int64) (un : Int64) (sb : Nat → Int64) (se : Nat → Int64) (so : Nat → Int32) (sc : Int32) (wb : Nat → Int64) (we : Nat → Int64) (wo : Nat → Int32) (wc : Int32) (fb : Nat → Int64) (fe : Nat → Int64) (fo : Nat → Int32) (fc : Int32) (rm : Nat → Int32) (ac : Int32) (rf : Int32) (kn : Int32) (on : Int64) (ov : Value) (p1 : Int32) (res : (Int32) × (Nat → Int64) × (Nat → Int64) × (Nat → Int32) × (Int32) × (Nat → Int64) × (Nat → Int64) × (Nat → Int32) × (Int32) × (Int32) × (Int32) × (Int64)) (hf : f_L_grant fr un sb se so sc wb we wo wc ac rf on p1 = some res) : kMw l yL_grant wsL_grant (kRm 8 1 6 133) dC dI cB cI cJ cZ [.ref (a 0), .int p1, .ref o] sz ((wSB cI cJ cZ a ce fr un sb se so sc wb we wo wc fb fe fo fc rm ac rf kn) ++ (wO o on ov)) .int (res.1) ((wSB cI cJ cZ a ce fr un (res.2.1) (res.2.2.1) (res.2.2.2.1) (res.2.2.2.2.1) (res.2.2.2.2.2.1) (res.2.2.2.2.2.2.1) (res.2.2.2.2.2.2.2.1) (res.2.2.2.2.2.2.2.2.1) fb fe fo fc rm (res.2.2.2.2.2.2.2.2.2.1) (res.2.2.2.2.2.2.2.2.2.2.1) kn) ++ (wO o (res.2.2.2.2.2.2.2.2.2.2.2) ov)) 1 6 := by
  refine kmet_w (y := yL_grant) (cc := cL_grant) (maxL := 4) (ret := (some .int)) (hh := [(0, 10, 13, 19)]) RL (kvA 0 (a 0) (kvI 1 p1 (kvA 2 o kvE))) kpl_L rfl rfl (Nat.le_of_ble_eq_true rfl) rfl (fun p e s m below meth c A ls hx hb hr hml hht hts hown hlocks hP hK hG hZ hD hA hS hl => ?_)
  have hw0 := hts (.classLink RL 19 "java/lang/IndexOutOfBoundsException") (List.mem_cons_of_mem _ kw_467)
  have hiX2 : ∀ w ∈ u_ws RX2 TX2 2, w ∈ wsL_grant := fun w h => List.mem_cons_of_mem _ (ku_X2 w h)
  have h := f_L_grant_e.symm.trans hf
  refine lv_aload_n hx hb (kdr dgL_grant_0 0 0 rfl rfl) rfl (lv_at hl 2 rfl) ?_
  refine lv_aload_n hx hb (kdr dgL_grant_0 0 1 rfl rfl) rfl (lv_at hl 0 rfl) ?_
  refine lv_iload_n hx hb (kdr dgL_grant_0 0 2 rfl rfl) rfl (lv_at hl 1 rfl) ?_
  rcases g_x h with ⟨k1, j1, h⟩ | ⟨-, h⟩
  · refine kq_xh ((wSB cI cJ cZ a ce fr un sb se so sc wb we wo wc fb fe fo fc rm ac rf kn) ++ (wO o on ov)) (fun qP qD qF => vx_runV (As := [.int p1]) (rest := [.ref o]) ⟨hx, hb, hml, hown, hts⟩ (x_X1_grant l hl9 dC dI cB cI cJ cZ a _ ce fr un sb se so sc wb we wo wc fb fe fo fc rm ac rf kn p1 k1 j1) (kcwV hts kw_657 kv_X1_grant rfl rfl ⟨(Nat.le_of_ble_eq_true rfl), (Nat.le_of_ble_eq_true rfl)⟩) (kpVXq (A := A) qP hK qD hG hZ hS qF (krecv_3 (q0 := 0) hK hP rfl)) rfl rfl hl.1 rfl (lv_room (Nat.le_of_ble_eq_true rfl)) (kdr dgL_grant_0 0 3 rfl rfl) ⟨(Nat.le_of_ble_eq_true rfl), (Nat.le_of_ble_eq_true rfl)⟩) hP hD hS hA (kFr_l kFr_SB) (fun q9 ceQ H locs hP hD hS hce hcv hcl => ?_)
    by_cases e9 : k1 = 1
    · have h := g_t e9 h
      rw [kEx_1 e9] at hcl
      refine vx_catch (E := "java/lang/IndexOutOfBoundsException") (name := "java/lang/IndexOutOfBoundsException") (own := RL) hown [] ⟨0, 10, 13, 19⟩ [] hht (fun z hz => by cases hz) (by decide) (by decide) hw0 (va_Nw.use rfl (hG.at 4 rfl)) hce hcv hcl ?_
      refine lv_astore_n (lv' := (kvA 3 q9 (kvA 0 (a 0) (kvI 1 p1 (kvA 2 o kvE))))) hx hb (kdr dgL_grant_0 0 7 rfl rfl) rfl hl (by decide) rfl (fun ls hl => ?_)
      refine lv_iconst (v := 1) hx hb (kdr dgL_grant_0 0 8 rfl rfl) (by decide) ?_
      have h := Option.some.inj h
      subst h
      refine W.widen (k := 1) (n := 6) (Nat.le_of_ble_eq_true rfl) (Nat.le_of_ble_eq_true rfl) ?_
      exact kret_i (v := 1) hx hb hr rfl hlocks hS hP (kdr dgL_grant_0 0 9 rfl rfl)
    · have h := g_f e9 h
      rw [kEx_2 e9] at hcl
      cases h
  · obtain ⟨r1, g1, h⟩ := g_b h
    refine kq_i ((wSB cI cJ cZ a ce fr un r1.2.1 r1.2.2.1 r1.2.2.2.1 r1.2.2.2.2.1 r1.2.2.2.2.2.1 r1.2.2.2.2.2.2.1 r1.2.2.2.2.2.2.2.1 r1.2.2.2.2.2.2.2.2.1 fb fe fo fc rm r1.2.2.2.2.2.2.2.2.2.1 r1.2.2.2.2.2.2.2.2.2.2 kn) ++ (wO o on ov)) (fun qP qD qF => va_runV (As := [.int p1]) (rest := [.ref o]) ⟨hx, hb, hml, hown, hts⟩ (c_X1_grant l dC dI cB cI cJ cZ a _ ce fr un sb se so sc wb we wo wc fb fe fo fc rm ac rf kn p1 r1 g1) (kcwV hts kw_657 kv_X1_grant rfl rfl ⟨(Nat.le_of_ble_eq_true rfl), (Nat.le_of_ble_eq_true rfl)⟩) (kpV (A := A) qP hK qD hG (krecv_3 (q0 := 0) hK hP rfl)) rfl rfl hl.1 rfl (lv_room (Nat.le_of_ble_eq_true rfl)) (kdr dgL_grant_0 0 3 rfl rfl) ⟨(Nat.le_of_ble_eq_true rfl), (Nat.le_of_ble_eq_true rfl)⟩) hP hD hS hA (kFr_l kFr_SB) (fun H locs hP hD hS br1 => ?_)
    refine lv_i2l (v := r1.1.toInt64) hx hb (kdr dgL_grant_0 0 4 rfl rfl) rfl ?_
    refine va_putN (host := RL) (D := (dC, dI)) (ci := 4) (v := .long r1.1.toInt64) (ty := .long) (C := RX2) (T := TX2) (N := 2) hx hb hts hiX2 tyX2 tyX2_ok nmX2 hown hK hP hD hS 15 rfl rfl 0 (by decide) (va_Nw.use rfl (hG.at 7 rfl)) (fun _ h9 => h9) rfl (by decide +kernel) rfl rfl (Nat.le_of_ble_eq_true rfl) (kdr dgL_grant_0 0 5 rfl rfl) (fun H locs hP hD hS => ?_)
    have hP : va_P (dC, dI) vwCl ((wSB cI cJ cZ a ce fr un r1.2.1 r1.2.2.1 r1.2.2.2.1 r1.2.2.2.2.1 r1.2.2.2.2.2.1 r1.2.2.2.2.2.2.1 r1.2.2.2.2.2.2.2.1 r1.2.2.2.2.2.2.2.2.1 fb fe fo fc rm r1.2.2.2.2.2.2.2.2.2.1 r1.2.2.2.2.2.2.2.2.2.2 kn) ++ (wO o r1.1.toInt64 ov)) H := hP
    have hD : va_D A ((wSB cI cJ cZ a ce fr un r1.2.1 r1.2.2.1 r1.2.2.2.1 r1.2.2.2.2.1 r1.2.2.2.2.2.1 r1.2.2.2.2.2.2.1 r1.2.2.2.2.2.2.2.1 r1.2.2.2.2.2.2.2.2.1 fb fe fo fc rm r1.2.2.2.2.2.2.2.2.2.1 r1.2.2.2.2.2.2.2.2.2.2 kn) ++ (wO o r1.1.toInt64 ov)) := hD
    refine lv_goto (tgt := 16) hx hb (kdr dgL_grant_0 0 6 rfl rfl) (by decide) ?_
    refine lv_iconst (v := 0) hx hb (kdr dgL_grant_0 1 0 rfl rfl) (by decide) ?_
    have h := Option.some.inj h
    subst h
    refine W.widen (k := 1) (n := 6) (Nat.le_of_ble_eq_true rfl) (Nat.le_of_ble_eq_true rfl) ?_
    exact kret_i (v := 0) hx hb hr rfl hlocks hS hP (kdr dgL_grant_0 1 1 rfl rfl)
noncomputable abbrev wsL_second : List Cond := Cond.codeWith yL_second cL_second 4 (some .int) [(0, 10, 13, 19)] :: kBIG
noncomputable def f_L_second (ce : Nat → Int64) (on : Int64) (p1 : Int32) : Option ((Int32) × (Int64)) :=
  xb (fx_X1_second p1) (fun k1 => if k1 = 1 then
  some (1, on)
else
  none) (
  (f_X1_second ce p1).bind fun r1 =>
  some (0, r1.toInt64))
theorem f_L_second_e {ce : Nat → Int64} {on : Int64} {p1 : Int32} : f_L_second ce on p1 = 
  xb (fx_X1_second p1) (fun k1 => if k1 = 1 then
  some (1, on)
else
  none) (
  (f_X1_second ce p1).bind fun r1 =>
  some (0, r1.toInt64)) := rfl
set_option maxHeartbeats 4000000 in
set_option maxRecDepth 100000 in
theorem c_L_second (l : Launch) (hl9 : l.stackTraces = false) (dC : Nat → ClassId) (dI : Nat → Nat → Nat) (cB cI cJ cZ : ClassId) (a : Nat → Nat) (o : Nat) (sz : Nat) (ce : Nat → Int64) (fr : Int64) (un : Int64) (sb : Nat → Int64) (se : Nat → Int64) (so : Nat → Int32) (sc : Int32) (wb : Nat → Int64) (we : Nat → Int64) (wo : Nat → Int32) (wc : Int32) (fb : Nat → Int64) (fe : Nat → Int64) (fo : Nat → Int32) (fc : Int32) (rm : Nat → Int32) (ac : Int32) (rf : Int32) (kn : Int32) (on : Int64) (ov : Value) (p1 : Int32) (res : (Int32) × (Int64)) (hf : f_L_second ce on p1 = some res) : kMw l yL_second wsL_second (kRm 8 1 6 131) dC dI cB cI cJ cZ [.ref (a 0), .int p1, .ref o] sz ((wSB cI cJ cZ a ce fr un sb se so sc wb we wo wc fb fe fo fc rm ac rf kn) ++ (wO o on ov)) .int (res.1) ((wSB cI cJ cZ a ce fr un sb se so sc wb we wo wc fb fe fo fc rm ac rf kn) ++ (wO o (res.2) ov)) 1 6 := by
  refine kmet_w (y := yL_second) (cc := cL_second) (maxL := 4) (ret := (some .int)) (hh := [(0, 10, 13, 19)]) RL (kvA 0 (a 0) (kvI 1 p1 (kvA 2 o kvE))) kpl_L rfl rfl (Nat.le_of_ble_eq_true rfl) rfl (fun p e s m below meth c A ls hx hb hr hml hht hts hown hlocks hP hK hG hZ hD hA hS hl => ?_)
  have hw0 := hts (.classLink RL 19 "java/lang/IndexOutOfBoundsException") (List.mem_cons_of_mem _ kw_467)
  have hiX2 : ∀ w ∈ u_ws RX2 TX2 2, w ∈ wsL_second := fun w h => List.mem_cons_of_mem _ (ku_X2 w h)
  have h := f_L_second_e.symm.trans hf
  refine lv_aload_n hx hb (kdr dgL_second_0 0 0 rfl rfl) rfl (lv_at hl 2 rfl) ?_
  refine lv_aload_n hx hb (kdr dgL_second_0 0 1 rfl rfl) rfl (lv_at hl 0 rfl) ?_
  refine lv_iload_n hx hb (kdr dgL_second_0 0 2 rfl rfl) rfl (lv_at hl 1 rfl) ?_
  rcases g_x h with ⟨k1, j1, h⟩ | ⟨-, h⟩
  · refine kq_xh ((wSB cI cJ cZ a ce fr un sb se so sc wb we wo wc fb fe fo fc rm ac rf kn) ++ (wO o on ov)) (fun qP qD qF => vx_runV (As := [.int p1]) (rest := [.ref o]) ⟨hx, hb, hml, hown, hts⟩ (x_X1_second l hl9 dC dI cB cI cJ cZ a _ ce fr un sb se so sc wb we wo wc fb fe fo fc rm ac rf kn p1 k1 j1) (kcwV hts kw_664 kv_X1_second rfl rfl ⟨(Nat.le_of_ble_eq_true rfl), (Nat.le_of_ble_eq_true rfl)⟩) (kpVXq (A := A) qP hK qD hG hZ hS qF (krecv_3 (q0 := 0) hK hP rfl)) rfl rfl hl.1 rfl (lv_room (Nat.le_of_ble_eq_true rfl)) (kdr dgL_second_0 0 3 rfl rfl) ⟨(Nat.le_of_ble_eq_true rfl), (Nat.le_of_ble_eq_true rfl)⟩) hP hD hS hA (kFr_l kFr_SB) (fun q9 ceQ H locs hP hD hS hce hcv hcl => ?_)
    by_cases e9 : k1 = 1
    · have h := g_t e9 h
      rw [kEx_1 e9] at hcl
      refine vx_catch (E := "java/lang/IndexOutOfBoundsException") (name := "java/lang/IndexOutOfBoundsException") (own := RL) hown [] ⟨0, 10, 13, 19⟩ [] hht (fun z hz => by cases hz) (by decide) (by decide) hw0 (va_Nw.use rfl (hG.at 4 rfl)) hce hcv hcl ?_
      refine lv_astore_n (lv' := (kvA 3 q9 (kvA 0 (a 0) (kvI 1 p1 (kvA 2 o kvE))))) hx hb (kdr dgL_second_0 0 7 rfl rfl) rfl hl (by decide) rfl (fun ls hl => ?_)
      refine lv_iconst (v := 1) hx hb (kdr dgL_second_0 0 8 rfl rfl) (by decide) ?_
      have h := Option.some.inj h
      subst h
      refine W.widen (k := 1) (n := 6) (Nat.le_of_ble_eq_true rfl) (Nat.le_of_ble_eq_true rfl) ?_
      exact kret_i (v := 1) hx hb hr rfl hlocks hS hP (kdr dgL_second_0 0 9 rfl rfl)
    · have h := g_f e9 h
      rw [kEx_2 e9] at hcl
      cases h
  · obtain ⟨r1, g1, h⟩ := g_b h
    refine kq_i ((wSB cI cJ cZ a ce fr un sb se so sc wb we wo wc fb fe fo fc rm ac rf kn) ++ (wO o on ov)) (fun qP qD qF => va_runV (As := [.int p1]) (rest := [.ref o]) ⟨hx, hb, hml, hown, hts⟩ (c_X1_second l dC dI cB cI cJ cZ a _ ce fr un sb se so sc wb we wo wc fb fe fo fc rm ac rf kn p1 r1 g1) (kcwV hts kw_664 kv_X1_second rfl rfl ⟨(Nat.le_of_ble_eq_true rfl), (Nat.le_of_ble_eq_true rfl)⟩) (kpV (A := A) qP hK qD hG (krecv_3 (q0 := 0) hK hP rfl)) rfl rfl hl.1 rfl (lv_room (Nat.le_of_ble_eq_true rfl)) (kdr dgL_second_0 0 3 rfl rfl) ⟨(Nat.le_of_ble_eq_true rfl), (Nat.le_of_ble_eq_true rfl)⟩) hP hD hS hA (kFr_l kFr_SB) (fun H locs hP hD hS br1 => ?_)
    refine lv_i2l (v := r1.toInt64) hx hb (kdr dgL_second_0 0 4 rfl rfl) rfl ?_
    refine va_putN (host := RL) (D := (dC, dI)) (ci := 4) (v := .long r1.toInt64) (ty := .long) (C := RX2) (T := TX2) (N := 2) hx hb hts hiX2 tyX2 tyX2_ok nmX2 hown hK hP hD hS 15 rfl rfl 0 (by decide) (va_Nw.use rfl (hG.at 7 rfl)) (fun _ h9 => h9) rfl (by decide +kernel) rfl rfl (Nat.le_of_ble_eq_true rfl) (kdr dgL_second_0 0 5 rfl rfl) (fun H locs hP hD hS => ?_)
    have hP : va_P (dC, dI) vwCl ((wSB cI cJ cZ a ce fr un sb se so sc wb we wo wc fb fe fo fc rm ac rf kn) ++ (wO o r1.toInt64 ov)) H := hP
    have hD : va_D A ((wSB cI cJ cZ a ce fr un sb se so sc wb we wo wc fb fe fo fc rm ac rf kn) ++ (wO o r1.toInt64 ov)) := hD
    refine lv_goto (tgt := 16) hx hb (kdr dgL_second_0 0 6 rfl rfl) (by decide) ?_
    refine lv_iconst (v := 0) hx hb (kdr dgL_second_0 1 0 rfl rfl) (by decide) ?_
    have h := Option.some.inj h
    subst h
    refine W.widen (k := 1) (n := 6) (Nat.le_of_ble_eq_true rfl) (Nat.le_of_ble_eq_true rfl) ?_
    exact kret_i (v := 0) hx hb hr rfl hlocks hS hP (kdr dgL_second_0 1 1 rfl rfl)
noncomputable abbrev wsL_nano : List Cond := Cond.codeWith yL_nano cL_nano 4 (some .int) [(0, 10, 13, 19)] :: kBIG
noncomputable def f_L_nano (ce : Nat → Int64) (on : Int64) (p1 : Int32) : Option ((Int32) × (Int64)) :=
  xb (fx_X1_nano p1) (fun k1 => if k1 = 1 then
  some (1, on)
else
  none) (
  (f_X1_nano ce p1).bind fun r1 =>
  some (0, r1.toInt64))
theorem f_L_nano_e {ce : Nat → Int64} {on : Int64} {p1 : Int32} : f_L_nano ce on p1 = 
  xb (fx_X1_nano p1) (fun k1 => if k1 = 1 then
  some (1, on)
else
  none) (
  (f_X1_nano ce p1).bind fun r1 =>
  some (0, r1.toInt64)) := rfl
set_option maxHeartbeats 4000000 in
set_option maxRecDepth 100000 in
theorem c_L_nano (l : Launch) (hl9 : l.stackTraces = false) (dC : Nat → ClassId) (dI : Nat → Nat → Nat) (cB cI cJ cZ : ClassId) (a : Nat → Nat) (o : Nat) (sz : Nat) (ce : Nat → Int64) (fr : Int64) (un : Int64) (sb : Nat → Int64) (se : Nat → Int64) (so : Nat → Int32) (sc : Int32) (wb : Nat → Int64) (we : Nat → Int64) (wo : Nat → Int32) (wc : Int32) (fb : Nat → Int64) (fe : Nat → Int64) (fo : Nat → Int32) (fc : Int32) (rm : Nat → Int32) (ac : Int32) (rf : Int32) (kn : Int32) (on : Int64) (ov : Value) (p1 : Int32) (res : (Int32) × (Int64)) (hf : f_L_nano ce on p1 = some res) : kMw l yL_nano wsL_nano (kRm 8 1 6 131) dC dI cB cI cJ cZ [.ref (a 0), .int p1, .ref o] sz ((wSB cI cJ cZ a ce fr un sb se so sc wb we wo wc fb fe fo fc rm ac rf kn) ++ (wO o on ov)) .int (res.1) ((wSB cI cJ cZ a ce fr un sb se so sc wb we wo wc fb fe fo fc rm ac rf kn) ++ (wO o (res.2) ov)) 1 6 := by
  refine kmet_w (y := yL_nano) (cc := cL_nano) (maxL := 4) (ret := (some .int)) (hh := [(0, 10, 13, 19)]) RL (kvA 0 (a 0) (kvI 1 p1 (kvA 2 o kvE))) kpl_L rfl rfl (Nat.le_of_ble_eq_true rfl) rfl (fun p e s m below meth c A ls hx hb hr hml hht hts hown hlocks hP hK hG hZ hD hA hS hl => ?_)
  have hw0 := hts (.classLink RL 19 "java/lang/IndexOutOfBoundsException") (List.mem_cons_of_mem _ kw_467)
  have hiX2 : ∀ w ∈ u_ws RX2 TX2 2, w ∈ wsL_nano := fun w h => List.mem_cons_of_mem _ (ku_X2 w h)
  have h := f_L_nano_e.symm.trans hf
  refine lv_aload_n hx hb (kdr dgL_nano_0 0 0 rfl rfl) rfl (lv_at hl 2 rfl) ?_
  refine lv_aload_n hx hb (kdr dgL_nano_0 0 1 rfl rfl) rfl (lv_at hl 0 rfl) ?_
  refine lv_iload_n hx hb (kdr dgL_nano_0 0 2 rfl rfl) rfl (lv_at hl 1 rfl) ?_
  rcases g_x h with ⟨k1, j1, h⟩ | ⟨-, h⟩
  · refine kq_xh ((wSB cI cJ cZ a ce fr un sb se so sc wb we wo wc fb fe fo fc rm ac rf kn) ++ (wO o on ov)) (fun qP qD qF => vx_runV (As := [.int p1]) (rest := [.ref o]) ⟨hx, hb, hml, hown, hts⟩ (x_X1_nano l hl9 dC dI cB cI cJ cZ a _ ce fr un sb se so sc wb we wo wc fb fe fo fc rm ac rf kn p1 k1 j1) (kcwV hts kw_671 kv_X1_nano rfl rfl ⟨(Nat.le_of_ble_eq_true rfl), (Nat.le_of_ble_eq_true rfl)⟩) (kpVXq (A := A) qP hK qD hG hZ hS qF (krecv_3 (q0 := 0) hK hP rfl)) rfl rfl hl.1 rfl (lv_room (Nat.le_of_ble_eq_true rfl)) (kdr dgL_nano_0 0 3 rfl rfl) ⟨(Nat.le_of_ble_eq_true rfl), (Nat.le_of_ble_eq_true rfl)⟩) hP hD hS hA (kFr_l kFr_SB) (fun q9 ceQ H locs hP hD hS hce hcv hcl => ?_)
    by_cases e9 : k1 = 1
    · have h := g_t e9 h
      rw [kEx_1 e9] at hcl
      refine vx_catch (E := "java/lang/IndexOutOfBoundsException") (name := "java/lang/IndexOutOfBoundsException") (own := RL) hown [] ⟨0, 10, 13, 19⟩ [] hht (fun z hz => by cases hz) (by decide) (by decide) hw0 (va_Nw.use rfl (hG.at 4 rfl)) hce hcv hcl ?_
      refine lv_astore_n (lv' := (kvA 3 q9 (kvA 0 (a 0) (kvI 1 p1 (kvA 2 o kvE))))) hx hb (kdr dgL_nano_0 0 7 rfl rfl) rfl hl (by decide) rfl (fun ls hl => ?_)
      refine lv_iconst (v := 1) hx hb (kdr dgL_nano_0 0 8 rfl rfl) (by decide) ?_
      have h := Option.some.inj h
      subst h
      refine W.widen (k := 1) (n := 6) (Nat.le_of_ble_eq_true rfl) (Nat.le_of_ble_eq_true rfl) ?_
      exact kret_i (v := 1) hx hb hr rfl hlocks hS hP (kdr dgL_nano_0 0 9 rfl rfl)
    · have h := g_f e9 h
      rw [kEx_2 e9] at hcl
      cases h
  · obtain ⟨r1, g1, h⟩ := g_b h
    refine kq_i ((wSB cI cJ cZ a ce fr un sb se so sc wb we wo wc fb fe fo fc rm ac rf kn) ++ (wO o on ov)) (fun qP qD qF => va_runV (As := [.int p1]) (rest := [.ref o]) ⟨hx, hb, hml, hown, hts⟩ (c_X1_nano l dC dI cB cI cJ cZ a _ ce fr un sb se so sc wb we wo wc fb fe fo fc rm ac rf kn p1 r1 g1) (kcwV hts kw_671 kv_X1_nano rfl rfl ⟨(Nat.le_of_ble_eq_true rfl), (Nat.le_of_ble_eq_true rfl)⟩) (kpV (A := A) qP hK qD hG (krecv_3 (q0 := 0) hK hP rfl)) rfl rfl hl.1 rfl (lv_room (Nat.le_of_ble_eq_true rfl)) (kdr dgL_nano_0 0 3 rfl rfl) ⟨(Nat.le_of_ble_eq_true rfl), (Nat.le_of_ble_eq_true rfl)⟩) hP hD hS hA (kFr_l kFr_SB) (fun H locs hP hD hS br1 => ?_)
    refine lv_i2l (v := r1.toInt64) hx hb (kdr dgL_nano_0 0 4 rfl rfl) rfl ?_
    refine va_putN (host := RL) (D := (dC, dI)) (ci := 4) (v := .long r1.toInt64) (ty := .long) (C := RX2) (T := TX2) (N := 2) hx hb hts hiX2 tyX2 tyX2_ok nmX2 hown hK hP hD hS 15 rfl rfl 0 (by decide) (va_Nw.use rfl (hG.at 7 rfl)) (fun _ h9 => h9) rfl (by decide +kernel) rfl rfl (Nat.le_of_ble_eq_true rfl) (kdr dgL_nano_0 0 5 rfl rfl) (fun H locs hP hD hS => ?_)
    have hP : va_P (dC, dI) vwCl ((wSB cI cJ cZ a ce fr un sb se so sc wb we wo wc fb fe fo fc rm ac rf kn) ++ (wO o r1.toInt64 ov)) H := hP
    have hD : va_D A ((wSB cI cJ cZ a ce fr un sb se so sc wb we wo wc fb fe fo fc rm ac rf kn) ++ (wO o r1.toInt64 ov)) := hD
    refine lv_goto (tgt := 16) hx hb (kdr dgL_nano_0 0 6 rfl rfl) (by decide) ?_
    refine lv_iconst (v := 0) hx hb (kdr dgL_nano_0 1 0 rfl rfl) (by decide) ?_
    have h := Option.some.inj h
    subst h
    refine W.widen (k := 1) (n := 6) (Nat.le_of_ble_eq_true rfl) (Nat.le_of_ble_eq_true rfl) ?_
    exact kret_i (v := 0) hx hb hr rfl hlocks hS hP (kdr dgL_nano_0 1 1 rfl rfl)
noncomputable abbrev wsL_order : List Cond := Cond.codeWith yL_order cL_order 5 (some .int) [(0, 11, 14, 19)] :: kBIG
noncomputable def f_L_order (ce : Nat → Int64) (on : Int64) (p1 : Int32) (p2 : Int32) : Option ((Int32) × (Int64)) :=
  xb (fx_X1_order p1 p2) (fun k1 => if k1 = 1 then
  some (1, on)
else
  none) (
  (f_X1_order ce p1 p2).bind fun r1 =>
  some (0, r1.toInt64))
theorem f_L_order_e {ce : Nat → Int64} {on : Int64} {p1 : Int32} {p2 : Int32} : f_L_order ce on p1 p2 = 
  xb (fx_X1_order p1 p2) (fun k1 => if k1 = 1 then
  some (1, on)
else
  none) (
  (f_X1_order ce p1 p2).bind fun r1 =>
  some (0, r1.toInt64)) := rfl
set_option maxHeartbeats 4000000 in
set_option maxRecDepth 100000 in
theorem c_L_order (l : Launch) (hl9 : l.stackTraces = false) (dC : Nat → ClassId) (dI : Nat → Nat → Nat) (cB cI cJ cZ : ClassId) (a : Nat → Nat) (o : Nat) (sz : Nat) (ce : Nat → Int64) (fr : Int64) (un : Int64) (sb : Nat → Int64) (se : Nat → Int64) (so : Nat → Int32) (sc : Int32) (wb : Nat → Int64) (we : Nat → Int64) (wo : Nat → Int32) (wc : Int32) (fb : Nat → Int64) (fe : Nat → Int64) (fo : Nat → Int32) (fc : Int32) (rm : Nat → Int32) (ac : Int32) (rf : Int32) (kn : Int32) (on : Int64) (ov : Value) (p1 : Int32) (p2 : Int32) (res : (Int32) × (Int64)) (hf : f_L_order ce on p1 p2 = some res) : kMw l yL_order wsL_order (kRm 8 1 6 132) dC dI cB cI cJ cZ [.ref (a 0), .int p1, .int p2, .ref o] sz ((wSB cI cJ cZ a ce fr un sb se so sc wb we wo wc fb fe fo fc rm ac rf kn) ++ (wO o on ov)) .int (res.1) ((wSB cI cJ cZ a ce fr un sb se so sc wb we wo wc fb fe fo fc rm ac rf kn) ++ (wO o (res.2) ov)) 1 6 := by
  refine kmet_w (y := yL_order) (cc := cL_order) (maxL := 5) (ret := (some .int)) (hh := [(0, 11, 14, 19)]) RL (kvA 0 (a 0) (kvI 1 p1 (kvI 2 p2 (kvA 3 o kvE)))) kpl_L rfl rfl (Nat.le_of_ble_eq_true rfl) rfl (fun p e s m below meth c A ls hx hb hr hml hht hts hown hlocks hP hK hG hZ hD hA hS hl => ?_)
  have hw0 := hts (.classLink RL 19 "java/lang/IndexOutOfBoundsException") (List.mem_cons_of_mem _ kw_467)
  have hiX2 : ∀ w ∈ u_ws RX2 TX2 2, w ∈ wsL_order := fun w h => List.mem_cons_of_mem _ (ku_X2 w h)
  have h := f_L_order_e.symm.trans hf
  refine lv_aload_n hx hb (kdr dgL_order_0 0 0 rfl rfl) rfl (lv_at hl 3 rfl) ?_
  refine lv_aload_n hx hb (kdr dgL_order_0 0 1 rfl rfl) rfl (lv_at hl 0 rfl) ?_
  refine lv_iload_n hx hb (kdr dgL_order_0 0 2 rfl rfl) rfl (lv_at hl 1 rfl) ?_
  refine lv_iload_n hx hb (kdr dgL_order_0 0 3 rfl rfl) rfl (lv_at hl 2 rfl) ?_
  rcases g_x h with ⟨k1, j1, h⟩ | ⟨-, h⟩
  · refine kq_xh ((wSB cI cJ cZ a ce fr un sb se so sc wb we wo wc fb fe fo fc rm ac rf kn) ++ (wO o on ov)) (fun qP qD qF => vx_runV (As := [.int p1, .int p2]) (rest := [.ref o]) ⟨hx, hb, hml, hown, hts⟩ (x_X1_order l hl9 dC dI cB cI cJ cZ a _ ce fr un sb se so sc wb we wo wc fb fe fo fc rm ac rf kn p1 p2 k1 j1) (kcwV hts kw_948 kv_X1_order rfl rfl ⟨(Nat.le_of_ble_eq_true rfl), (Nat.le_of_ble_eq_true rfl)⟩) (kpVXq (A := A) qP hK qD hG hZ hS qF (krecv_3 (q0 := 0) hK hP rfl)) rfl rfl hl.1 rfl (lv_room (Nat.le_of_ble_eq_true rfl)) (kdr dgL_order_0 0 4 rfl rfl) ⟨(Nat.le_of_ble_eq_true rfl), (Nat.le_of_ble_eq_true rfl)⟩) hP hD hS hA (kFr_l kFr_SB) (fun q9 ceQ H locs hP hD hS hce hcv hcl => ?_)
    by_cases e9 : k1 = 1
    · have h := g_t e9 h
      rw [kEx_1 e9] at hcl
      refine vx_catch (E := "java/lang/IndexOutOfBoundsException") (name := "java/lang/IndexOutOfBoundsException") (own := RL) hown [] ⟨0, 11, 14, 19⟩ [] hht (fun z hz => by cases hz) (by decide) (by decide) hw0 (va_Nw.use rfl (hG.at 4 rfl)) hce hcv hcl ?_
      refine lv_astore (lv' := (kvA 4 q9 (kvA 0 (a 0) (kvI 1 p1 (kvI 2 p2 (kvA 3 o kvE)))))) hx hb (kdr dgL_order_0 0 8 rfl rfl) hl (by decide) rfl (fun ls hl => ?_)
      refine lv_iconst (v := 1) hx hb (kdr dgL_order_0 0 9 rfl rfl) (by decide) ?_
      have h := Option.some.inj h
      subst h
      refine W.widen (k := 1) (n := 6) (Nat.le_of_ble_eq_true rfl) (Nat.le_of_ble_eq_true rfl) ?_
      exact kret_i (v := 1) hx hb hr rfl hlocks hS hP (kdr dgL_order_0 1 0 rfl rfl)
    · have h := g_f e9 h
      rw [kEx_2 e9] at hcl
      cases h
  · obtain ⟨r1, g1, h⟩ := g_b h
    refine kq_i ((wSB cI cJ cZ a ce fr un sb se so sc wb we wo wc fb fe fo fc rm ac rf kn) ++ (wO o on ov)) (fun qP qD qF => va_runV (As := [.int p1, .int p2]) (rest := [.ref o]) ⟨hx, hb, hml, hown, hts⟩ (c_X1_order l dC dI cB cI cJ cZ a _ ce fr un sb se so sc wb we wo wc fb fe fo fc rm ac rf kn p1 p2 r1 g1) (kcwV hts kw_948 kv_X1_order rfl rfl ⟨(Nat.le_of_ble_eq_true rfl), (Nat.le_of_ble_eq_true rfl)⟩) (kpV (A := A) qP hK qD hG (krecv_3 (q0 := 0) hK hP rfl)) rfl rfl hl.1 rfl (lv_room (Nat.le_of_ble_eq_true rfl)) (kdr dgL_order_0 0 4 rfl rfl) ⟨(Nat.le_of_ble_eq_true rfl), (Nat.le_of_ble_eq_true rfl)⟩) hP hD hS hA (kFr_l kFr_SB) (fun H locs hP hD hS br1 => ?_)
    refine lv_i2l (v := r1.toInt64) hx hb (kdr dgL_order_0 0 5 rfl rfl) rfl ?_
    refine va_putN (host := RL) (D := (dC, dI)) (ci := 4) (v := .long r1.toInt64) (ty := .long) (C := RX2) (T := TX2) (N := 2) hx hb hts hiX2 tyX2 tyX2_ok nmX2 hown hK hP hD hS 15 rfl rfl 0 (by decide) (va_Nw.use rfl (hG.at 7 rfl)) (fun _ h9 => h9) rfl (by decide +kernel) rfl rfl (Nat.le_of_ble_eq_true rfl) (kdr dgL_order_0 0 6 rfl rfl) (fun H locs hP hD hS => ?_)
    have hP : va_P (dC, dI) vwCl ((wSB cI cJ cZ a ce fr un sb se so sc wb we wo wc fb fe fo fc rm ac rf kn) ++ (wO o r1.toInt64 ov)) H := hP
    have hD : va_D A ((wSB cI cJ cZ a ce fr un sb se so sc wb we wo wc fb fe fo fc rm ac rf kn) ++ (wO o r1.toInt64 ov)) := hD
    refine lv_goto (tgt := 18) hx hb (kdr dgL_order_0 0 7 rfl rfl) (by decide) ?_
    refine lv_iconst (v := 0) hx hb (kdr dgL_order_0 1 1 rfl rfl) (by decide) ?_
    have h := Option.some.inj h
    subst h
    refine W.widen (k := 1) (n := 6) (Nat.le_of_ble_eq_true rfl) (Nat.le_of_ble_eq_true rfl) ?_
    exact kret_i (v := 0) hx hb hr rfl hlocks hS hP (kdr dgL_order_0 1 2 rfl rfl)
noncomputable abbrev wsL_isBefore : List Cond := Cond.codeWith yL_isBefore cL_isBefore 5 (some .int) [(0, 18, 21, 19)] :: kBIG
noncomputable def f_L_isBefore (ce : Nat → Int64) (on : Int64) (p1 : Int32) (p2 : Int32) : Option ((Int32) × (Int64)) :=
  xb (fx_X1_isBefore p1 p2) (fun k1 => if k1 = 1 then
  some (1, on)
else
  none) (
  (f_X1_isBefore ce p1 p2).bind fun r1 =>
  if r1 = 0 then
    some (0, 0)
  else
    some (0, 1))
theorem f_L_isBefore_e {ce : Nat → Int64} {on : Int64} {p1 : Int32} {p2 : Int32} : f_L_isBefore ce on p1 p2 = 
  xb (fx_X1_isBefore p1 p2) (fun k1 => if k1 = 1 then
  some (1, on)
else
  none) (
  (f_X1_isBefore ce p1 p2).bind fun r1 =>
  if r1 = 0 then
    some (0, 0)
  else
    some (0, 1)) := rfl
set_option maxHeartbeats 4000000 in
set_option maxRecDepth 100000 in
theorem c_L_isBefore (l : Launch) (hl9 : l.stackTraces = false) (dC : Nat → ClassId) (dI : Nat → Nat → Nat) (cB cI cJ cZ : ClassId) (a : Nat → Nat) (o : Nat) (sz : Nat) (ce : Nat → Int64) (fr : Int64) (un : Int64) (sb : Nat → Int64) (se : Nat → Int64) (so : Nat → Int32) (sc : Int32) (wb : Nat → Int64) (we : Nat → Int64) (wo : Nat → Int32) (wc : Int32) (fb : Nat → Int64) (fe : Nat → Int64) (fo : Nat → Int32) (fc : Int32) (rm : Nat → Int32) (ac : Int32) (rf : Int32) (kn : Int32) (on : Int64) (ov : Value) (p1 : Int32) (p2 : Int32) (res : (Int32) × (Int64)) (hf : f_L_isBefore ce on p1 p2 = some res) : kMw l yL_isBefore wsL_isBefore (kRm 8 1 6 132) dC dI cB cI cJ cZ [.ref (a 0), .int p1, .int p2, .ref o] sz ((wSB cI cJ cZ a ce fr un sb se so sc wb we wo wc fb fe fo fc rm ac rf kn) ++ (wO o on ov)) .int (res.1) ((wSB cI cJ cZ a ce fr un sb se so sc wb we wo wc fb fe fo fc rm ac rf kn) ++ (wO o (res.2) ov)) 1 6 := by
  refine kmet_w (y := yL_isBefore) (cc := cL_isBefore) (maxL := 5) (ret := (some .int)) (hh := [(0, 18, 21, 19)]) RL (kvA 0 (a 0) (kvI 1 p1 (kvI 2 p2 (kvA 3 o kvE)))) kpl_L rfl rfl (Nat.le_of_ble_eq_true rfl) rfl (fun p e s m below meth c A ls hx hb hr hml hht hts hown hlocks hP hK hG hZ hD hA hS hl => ?_)
  have hw0 := hts (.classLink RL 19 "java/lang/IndexOutOfBoundsException") (List.mem_cons_of_mem _ kw_467)
  have hiX2 : ∀ w ∈ u_ws RX2 TX2 2, w ∈ wsL_isBefore := fun w h => List.mem_cons_of_mem _ (ku_X2 w h)
  have h := f_L_isBefore_e.symm.trans hf
  refine lv_aload_n hx hb (kdr dgL_isBefore_0 0 0 rfl rfl) rfl (lv_at hl 3 rfl) ?_
  refine lv_aload_n hx hb (kdr dgL_isBefore_0 0 1 rfl rfl) rfl (lv_at hl 0 rfl) ?_
  refine lv_iload_n hx hb (kdr dgL_isBefore_0 0 2 rfl rfl) rfl (lv_at hl 1 rfl) ?_
  refine lv_iload_n hx hb (kdr dgL_isBefore_0 0 3 rfl rfl) rfl (lv_at hl 2 rfl) ?_
  rcases g_x h with ⟨k1, j1, h⟩ | ⟨-, h⟩
  · refine kq_xh ((wSB cI cJ cZ a ce fr un sb se so sc wb we wo wc fb fe fo fc rm ac rf kn) ++ (wO o on ov)) (fun qP qD qF => vx_runV (As := [.int p1, .int p2]) (rest := [.ref o]) ⟨hx, hb, hml, hown, hts⟩ (x_X1_isBefore l hl9 dC dI cB cI cJ cZ a _ ce fr un sb se so sc wb we wo wc fb fe fo fc rm ac rf kn p1 p2 k1 j1) (kcwV hts kw_955 kv_X1_isBefore rfl rfl ⟨(Nat.le_of_ble_eq_true rfl), (Nat.le_of_ble_eq_true rfl)⟩) (kpVXq (A := A) qP hK qD hG hZ hS qF (krecv_3 (q0 := 0) hK hP rfl)) rfl rfl hl.1 rfl (lv_room (Nat.le_of_ble_eq_true rfl)) (kdr dgL_isBefore_0 0 4 rfl rfl) ⟨(Nat.le_of_ble_eq_true rfl), (Nat.le_of_ble_eq_true rfl)⟩) hP hD hS hA (kFr_l kFr_SB) (fun q9 ceQ H locs hP hD hS hce hcv hcl => ?_)
    by_cases e9 : k1 = 1
    · have h := g_t e9 h
      rw [kEx_1 e9] at hcl
      refine vx_catch (E := "java/lang/IndexOutOfBoundsException") (name := "java/lang/IndexOutOfBoundsException") (own := RL) hown [] ⟨0, 18, 21, 19⟩ [] hht (fun z hz => by cases hz) (by decide) (by decide) hw0 (va_Nw.use rfl (hG.at 4 rfl)) hce hcv hcl ?_
      refine lv_astore (lv' := (kvA 4 q9 (kvA 0 (a 0) (kvI 1 p1 (kvI 2 p2 (kvA 3 o kvE)))))) hx hb (kdr dgL_isBefore_0 1 1 rfl rfl) hl (by decide) rfl (fun ls hl => ?_)
      refine lv_iconst (v := 1) hx hb (kdr dgL_isBefore_0 1 2 rfl rfl) (by decide) ?_
      have h := Option.some.inj h
      subst h
      refine W.widen (k := 1) (n := 6) (Nat.le_of_ble_eq_true rfl) (Nat.le_of_ble_eq_true rfl) ?_
      exact kret_i (v := 1) hx hb hr rfl hlocks hS hP (kdr dgL_isBefore_0 1 3 rfl rfl)
    · have h := g_f e9 h
      rw [kEx_2 e9] at hcl
      cases h
  · obtain ⟨r1, g1, h⟩ := g_b h
    refine kq_i ((wSB cI cJ cZ a ce fr un sb se so sc wb we wo wc fb fe fo fc rm ac rf kn) ++ (wO o on ov)) (fun qP qD qF => va_runV (As := [.int p1, .int p2]) (rest := [.ref o]) ⟨hx, hb, hml, hown, hts⟩ (c_X1_isBefore l dC dI cB cI cJ cZ a _ ce fr un sb se so sc wb we wo wc fb fe fo fc rm ac rf kn p1 p2 r1 g1) (kcwV hts kw_955 kv_X1_isBefore rfl rfl ⟨(Nat.le_of_ble_eq_true rfl), (Nat.le_of_ble_eq_true rfl)⟩) (kpV (A := A) qP hK qD hG (krecv_3 (q0 := 0) hK hP rfl)) rfl rfl hl.1 rfl (lv_room (Nat.le_of_ble_eq_true rfl)) (kdr dgL_isBefore_0 0 4 rfl rfl) ⟨(Nat.le_of_ble_eq_true rfl), (Nat.le_of_ble_eq_true rfl)⟩) hP hD hS hA (kFr_l kFr_SB) (fun H locs hP hD hS br1 => ?_)
    refine lv_if_eq (tgt := 14) hx hb (kdr dgL_isBefore_0 0 5 rfl rfl) (by decide) (fun c2 => ?_) (fun c2 => ?_)
    · have h := g_t c2 h
      refine lv_lconst (v := 0) hx hb (kdr dgL_isBefore_0 0 8 rfl rfl) (by decide) ?_
      refine va_putN (host := RL) (D := (dC, dI)) (ci := 4) (v := .long 0) (ty := .long) (C := RX2) (T := TX2) (N := 2) hx hb hts hiX2 tyX2 tyX2_ok nmX2 hown hK hP hD hS 15 rfl rfl 0 (by decide) (va_Nw.use rfl (hG.at 7 rfl)) (fun _ h9 => h9) rfl (by decide +kernel) rfl rfl (Nat.le_of_ble_eq_true rfl) (kdr dgL_isBefore_0 0 9 rfl rfl) (fun H locs hP hD hS => ?_)
      have hP : va_P (dC, dI) vwCl ((wSB cI cJ cZ a ce fr un sb se so sc wb we wo wc fb fe fo fc rm ac rf kn) ++ (wO o 0 ov)) H := hP
      have hD : va_D A ((wSB cI cJ cZ a ce fr un sb se so sc wb we wo wc fb fe fo fc rm ac rf kn) ++ (wO o 0 ov)) := hD
      refine lv_goto (tgt := 25) hx hb (kdr dgL_isBefore_0 1 0 rfl rfl) (by decide) ?_
      refine lv_iconst (v := 0) hx hb (kdr dgL_isBefore_0 1 4 rfl rfl) (by decide) ?_
      have h := Option.some.inj h
      subst h
      refine W.widen (k := 1) (n := 6) (Nat.le_of_ble_eq_true rfl) (Nat.le_of_ble_eq_true rfl) ?_
      exact kret_i (v := 0) hx hb hr rfl hlocks hS hP (kdr dgL_isBefore_0 1 5 rfl rfl)
    · have h := g_f c2 h
      refine lv_lconst (v := 1) hx hb (kdr dgL_isBefore_0 0 6 rfl rfl) (by decide) ?_
      refine lv_goto (tgt := 15) hx hb (kdr dgL_isBefore_0 0 7 rfl rfl) (by decide) ?_
      refine va_putN (host := RL) (D := (dC, dI)) (ci := 4) (v := .long 1) (ty := .long) (C := RX2) (T := TX2) (N := 2) hx hb hts hiX2 tyX2 tyX2_ok nmX2 hown hK hP hD hS 15 rfl rfl 0 (by decide) (va_Nw.use rfl (hG.at 7 rfl)) (fun _ h9 => h9) rfl (by decide +kernel) rfl rfl (Nat.le_of_ble_eq_true rfl) (kdr dgL_isBefore_0 0 9 rfl rfl) (fun H locs hP hD hS => ?_)
      have hP : va_P (dC, dI) vwCl ((wSB cI cJ cZ a ce fr un sb se so sc wb we wo wc fb fe fo fc rm ac rf kn) ++ (wO o 1 ov)) H := hP
      have hD : va_D A ((wSB cI cJ cZ a ce fr un sb se so sc wb we wo wc fb fe fo fc rm ac rf kn) ++ (wO o 1 ov)) := hD
      refine lv_goto (tgt := 25) hx hb (kdr dgL_isBefore_0 1 0 rfl rfl) (by decide) ?_
      refine lv_iconst (v := 0) hx hb (kdr dgL_isBefore_0 1 4 rfl rfl) (by decide) ?_
      have h := Option.some.inj h
      subst h
      refine W.widen (k := 1) (n := 6) (Nat.le_of_ble_eq_true rfl) (Nat.le_of_ble_eq_true rfl) ?_
      exact kret_i (v := 0) hx hb hr rfl hlocks hS hP (kdr dgL_isBefore_0 1 5 rfl rfl)
noncomputable abbrev wsL_isAfter : List Cond := Cond.codeWith yL_isAfter cL_isAfter 5 (some .int) [(0, 18, 21, 19)] :: kBIG
noncomputable def f_L_isAfter (ce : Nat → Int64) (on : Int64) (p1 : Int32) (p2 : Int32) : Option ((Int32) × (Int64)) :=
  xb (fx_X1_isAfter p1 p2) (fun k1 => if k1 = 1 then
  some (1, on)
else
  none) (
  (f_X1_isAfter ce p1 p2).bind fun r1 =>
  if r1 = 0 then
    some (0, 0)
  else
    some (0, 1))
theorem f_L_isAfter_e {ce : Nat → Int64} {on : Int64} {p1 : Int32} {p2 : Int32} : f_L_isAfter ce on p1 p2 = 
  xb (fx_X1_isAfter p1 p2) (fun k1 => if k1 = 1 then
  some (1, on)
else
  none) (
  (f_X1_isAfter ce p1 p2).bind fun r1 =>
  if r1 = 0 then
    some (0, 0)
  else
    some (0, 1)) := rfl
set_option maxHeartbeats 4000000 in
set_option maxRecDepth 100000 in
theorem c_L_isAfter (l : Launch) (hl9 : l.stackTraces = false) (dC : Nat → ClassId) (dI : Nat → Nat → Nat) (cB cI cJ cZ : ClassId) (a : Nat → Nat) (o : Nat) (sz : Nat) (ce : Nat → Int64) (fr : Int64) (un : Int64) (sb : Nat → Int64) (se : Nat → Int64) (so : Nat → Int32) (sc : Int32) (wb : Nat → Int64) (we : Nat → Int64) (wo : Nat → Int32) (wc : Int32) (fb : Nat → Int64) (fe : Nat → Int64) (fo : Nat → Int32) (fc : Int32) (rm : Nat → Int32) (ac : Int32) (rf : Int32) (kn : Int32) (on : Int64) (ov : Value) (p1 : Int32) (p2 : Int32) (res : (Int32) × (Int64)) (hf : f_L_isAfter ce on p1 p2 = some res) : kMw l yL_isAfter wsL_isAfter (kRm 8 1 6 132) dC dI cB cI cJ cZ [.ref (a 0), .int p1, .int p2, .ref o] sz ((wSB cI cJ cZ a ce fr un sb se so sc wb we wo wc fb fe fo fc rm ac rf kn) ++ (wO o on ov)) .int (res.1) ((wSB cI cJ cZ a ce fr un sb se so sc wb we wo wc fb fe fo fc rm ac rf kn) ++ (wO o (res.2) ov)) 1 6 := by
  refine kmet_w (y := yL_isAfter) (cc := cL_isAfter) (maxL := 5) (ret := (some .int)) (hh := [(0, 18, 21, 19)]) RL (kvA 0 (a 0) (kvI 1 p1 (kvI 2 p2 (kvA 3 o kvE)))) kpl_L rfl rfl (Nat.le_of_ble_eq_true rfl) rfl (fun p e s m below meth c A ls hx hb hr hml hht hts hown hlocks hP hK hG hZ hD hA hS hl => ?_)
  have hw0 := hts (.classLink RL 19 "java/lang/IndexOutOfBoundsException") (List.mem_cons_of_mem _ kw_467)
  have hiX2 : ∀ w ∈ u_ws RX2 TX2 2, w ∈ wsL_isAfter := fun w h => List.mem_cons_of_mem _ (ku_X2 w h)
  have h := f_L_isAfter_e.symm.trans hf
  refine lv_aload_n hx hb (kdr dgL_isAfter_0 0 0 rfl rfl) rfl (lv_at hl 3 rfl) ?_
  refine lv_aload_n hx hb (kdr dgL_isAfter_0 0 1 rfl rfl) rfl (lv_at hl 0 rfl) ?_
  refine lv_iload_n hx hb (kdr dgL_isAfter_0 0 2 rfl rfl) rfl (lv_at hl 1 rfl) ?_
  refine lv_iload_n hx hb (kdr dgL_isAfter_0 0 3 rfl rfl) rfl (lv_at hl 2 rfl) ?_
  rcases g_x h with ⟨k1, j1, h⟩ | ⟨-, h⟩
  · refine kq_xh ((wSB cI cJ cZ a ce fr un sb se so sc wb we wo wc fb fe fo fc rm ac rf kn) ++ (wO o on ov)) (fun qP qD qF => vx_runV (As := [.int p1, .int p2]) (rest := [.ref o]) ⟨hx, hb, hml, hown, hts⟩ (x_X1_isAfter l hl9 dC dI cB cI cJ cZ a _ ce fr un sb se so sc wb we wo wc fb fe fo fc rm ac rf kn p1 p2 k1 j1) (kcwV hts kw_962 kv_X1_isAfter rfl rfl ⟨(Nat.le_of_ble_eq_true rfl), (Nat.le_of_ble_eq_true rfl)⟩) (kpVXq (A := A) qP hK qD hG hZ hS qF (krecv_3 (q0 := 0) hK hP rfl)) rfl rfl hl.1 rfl (lv_room (Nat.le_of_ble_eq_true rfl)) (kdr dgL_isAfter_0 0 4 rfl rfl) ⟨(Nat.le_of_ble_eq_true rfl), (Nat.le_of_ble_eq_true rfl)⟩) hP hD hS hA (kFr_l kFr_SB) (fun q9 ceQ H locs hP hD hS hce hcv hcl => ?_)
    by_cases e9 : k1 = 1
    · have h := g_t e9 h
      rw [kEx_1 e9] at hcl
      refine vx_catch (E := "java/lang/IndexOutOfBoundsException") (name := "java/lang/IndexOutOfBoundsException") (own := RL) hown [] ⟨0, 18, 21, 19⟩ [] hht (fun z hz => by cases hz) (by decide) (by decide) hw0 (va_Nw.use rfl (hG.at 4 rfl)) hce hcv hcl ?_
      refine lv_astore (lv' := (kvA 4 q9 (kvA 0 (a 0) (kvI 1 p1 (kvI 2 p2 (kvA 3 o kvE)))))) hx hb (kdr dgL_isAfter_0 1 1 rfl rfl) hl (by decide) rfl (fun ls hl => ?_)
      refine lv_iconst (v := 1) hx hb (kdr dgL_isAfter_0 1 2 rfl rfl) (by decide) ?_
      have h := Option.some.inj h
      subst h
      refine W.widen (k := 1) (n := 6) (Nat.le_of_ble_eq_true rfl) (Nat.le_of_ble_eq_true rfl) ?_
      exact kret_i (v := 1) hx hb hr rfl hlocks hS hP (kdr dgL_isAfter_0 1 3 rfl rfl)
    · have h := g_f e9 h
      rw [kEx_2 e9] at hcl
      cases h
  · obtain ⟨r1, g1, h⟩ := g_b h
    refine kq_i ((wSB cI cJ cZ a ce fr un sb se so sc wb we wo wc fb fe fo fc rm ac rf kn) ++ (wO o on ov)) (fun qP qD qF => va_runV (As := [.int p1, .int p2]) (rest := [.ref o]) ⟨hx, hb, hml, hown, hts⟩ (c_X1_isAfter l dC dI cB cI cJ cZ a _ ce fr un sb se so sc wb we wo wc fb fe fo fc rm ac rf kn p1 p2 r1 g1) (kcwV hts kw_962 kv_X1_isAfter rfl rfl ⟨(Nat.le_of_ble_eq_true rfl), (Nat.le_of_ble_eq_true rfl)⟩) (kpV (A := A) qP hK qD hG (krecv_3 (q0 := 0) hK hP rfl)) rfl rfl hl.1 rfl (lv_room (Nat.le_of_ble_eq_true rfl)) (kdr dgL_isAfter_0 0 4 rfl rfl) ⟨(Nat.le_of_ble_eq_true rfl), (Nat.le_of_ble_eq_true rfl)⟩) hP hD hS hA (kFr_l kFr_SB) (fun H locs hP hD hS br1 => ?_)
    refine lv_if_eq (tgt := 14) hx hb (kdr dgL_isAfter_0 0 5 rfl rfl) (by decide) (fun c2 => ?_) (fun c2 => ?_)
    · have h := g_t c2 h
      refine lv_lconst (v := 0) hx hb (kdr dgL_isAfter_0 0 8 rfl rfl) (by decide) ?_
      refine va_putN (host := RL) (D := (dC, dI)) (ci := 4) (v := .long 0) (ty := .long) (C := RX2) (T := TX2) (N := 2) hx hb hts hiX2 tyX2 tyX2_ok nmX2 hown hK hP hD hS 15 rfl rfl 0 (by decide) (va_Nw.use rfl (hG.at 7 rfl)) (fun _ h9 => h9) rfl (by decide +kernel) rfl rfl (Nat.le_of_ble_eq_true rfl) (kdr dgL_isAfter_0 0 9 rfl rfl) (fun H locs hP hD hS => ?_)
      have hP : va_P (dC, dI) vwCl ((wSB cI cJ cZ a ce fr un sb se so sc wb we wo wc fb fe fo fc rm ac rf kn) ++ (wO o 0 ov)) H := hP
      have hD : va_D A ((wSB cI cJ cZ a ce fr un sb se so sc wb we wo wc fb fe fo fc rm ac rf kn) ++ (wO o 0 ov)) := hD
      refine lv_goto (tgt := 25) hx hb (kdr dgL_isAfter_0 1 0 rfl rfl) (by decide) ?_
      refine lv_iconst (v := 0) hx hb (kdr dgL_isAfter_0 1 4 rfl rfl) (by decide) ?_
      have h := Option.some.inj h
      subst h
      refine W.widen (k := 1) (n := 6) (Nat.le_of_ble_eq_true rfl) (Nat.le_of_ble_eq_true rfl) ?_
      exact kret_i (v := 0) hx hb hr rfl hlocks hS hP (kdr dgL_isAfter_0 1 5 rfl rfl)
    · have h := g_f c2 h
      refine lv_lconst (v := 1) hx hb (kdr dgL_isAfter_0 0 6 rfl rfl) (by decide) ?_
      refine lv_goto (tgt := 15) hx hb (kdr dgL_isAfter_0 0 7 rfl rfl) (by decide) ?_
      refine va_putN (host := RL) (D := (dC, dI)) (ci := 4) (v := .long 1) (ty := .long) (C := RX2) (T := TX2) (N := 2) hx hb hts hiX2 tyX2 tyX2_ok nmX2 hown hK hP hD hS 15 rfl rfl 0 (by decide) (va_Nw.use rfl (hG.at 7 rfl)) (fun _ h9 => h9) rfl (by decide +kernel) rfl rfl (Nat.le_of_ble_eq_true rfl) (kdr dgL_isAfter_0 0 9 rfl rfl) (fun H locs hP hD hS => ?_)
      have hP : va_P (dC, dI) vwCl ((wSB cI cJ cZ a ce fr un sb se so sc wb we wo wc fb fe fo fc rm ac rf kn) ++ (wO o 1 ov)) H := hP
      have hD : va_D A ((wSB cI cJ cZ a ce fr un sb se so sc wb we wo wc fb fe fo fc rm ac rf kn) ++ (wO o 1 ov)) := hD
      refine lv_goto (tgt := 25) hx hb (kdr dgL_isAfter_0 1 0 rfl rfl) (by decide) ?_
      refine lv_iconst (v := 0) hx hb (kdr dgL_isAfter_0 1 4 rfl rfl) (by decide) ?_
      have h := Option.some.inj h
      subst h
      refine W.widen (k := 1) (n := 6) (Nat.le_of_ble_eq_true rfl) (Nat.le_of_ble_eq_true rfl) ?_
      exact kret_i (v := 0) hx hb hr rfl hlocks hS hP (kdr dgL_isAfter_0 1 5 rfl rfl)
noncomputable abbrev wsL_same : List Cond := Cond.codeWith yL_same cL_same 6 (some .int) [(0, 20, 23, 19), (0, 20, 27, 21)] :: kBIG
noncomputable def f_L_same (ce : Nat → Int64) (on : Int64) (p1 : Int32) (p2 : Int32) (p3 : Int32) : Option ((Int32) × (Int64)) :=
  xb (fx_X1_same p1 p2 p3) (fun k1 => if k1 = 1 then
  some (1, on)
else
  some (2, on)) (
  (f_X1_same ce p1 p2 p3).bind fun r1 =>
  if r1 = 0 then
    some (0, 0)
  else
    some (0, 1))
theorem f_L_same_e {ce : Nat → Int64} {on : Int64} {p1 : Int32} {p2 : Int32} {p3 : Int32} : f_L_same ce on p1 p2 p3 = 
  xb (fx_X1_same p1 p2 p3) (fun k1 => if k1 = 1 then
  some (1, on)
else
  some (2, on)) (
  (f_X1_same ce p1 p2 p3).bind fun r1 =>
  if r1 = 0 then
    some (0, 0)
  else
    some (0, 1)) := rfl
set_option maxHeartbeats 4000000 in
set_option maxRecDepth 100000 in
theorem c_L_same (l : Launch) (hl9 : l.stackTraces = false) (dC : Nat → ClassId) (dI : Nat → Nat → Nat) (cB cI cJ cZ : ClassId) (a : Nat → Nat) (o : Nat) (sz : Nat) (ce : Nat → Int64) (fr : Int64) (un : Int64) (sb : Nat → Int64) (se : Nat → Int64) (so : Nat → Int32) (sc : Int32) (wb : Nat → Int64) (we : Nat → Int64) (wo : Nat → Int32) (wc : Int32) (fb : Nat → Int64) (fe : Nat → Int64) (fo : Nat → Int32) (fc : Int32) (rm : Nat → Int32) (ac : Int32) (rf : Int32) (kn : Int32) (on : Int64) (ov : Value) (p1 : Int32) (p2 : Int32) (p3 : Int32) (res : (Int32) × (Int64)) (hf : f_L_same ce on p1 p2 p3 = some res) : kMw l yL_same wsL_same (kRm 8 1 6 133) dC dI cB cI cJ cZ [.ref (a 0), .int p1, .int p2, .int p3, .ref o] sz ((wSB cI cJ cZ a ce fr un sb se so sc wb we wo wc fb fe fo fc rm ac rf kn) ++ (wO o on ov)) .int (res.1) ((wSB cI cJ cZ a ce fr un sb se so sc wb we wo wc fb fe fo fc rm ac rf kn) ++ (wO o (res.2) ov)) 1 6 := by
  refine kmet_w (y := yL_same) (cc := cL_same) (maxL := 6) (ret := (some .int)) (hh := [(0, 20, 23, 19), (0, 20, 27, 21)]) RL (kvA 0 (a 0) (kvI 1 p1 (kvI 2 p2 (kvI 3 p3 (kvA 4 o kvE))))) kpl_L rfl rfl (Nat.le_of_ble_eq_true rfl) rfl (fun p e s m below meth c A ls hx hb hr hml hht hts hown hlocks hP hK hG hZ hD hA hS hl => ?_)
  have hw0 := hts (.classLink RL 19 "java/lang/IndexOutOfBoundsException") (List.mem_cons_of_mem _ kw_467)
  have hw1 := hts (.classLink RL 21 "java/lang/IllegalArgumentException") (List.mem_cons_of_mem _ kw_468)
  have hiX2 : ∀ w ∈ u_ws RX2 TX2 2, w ∈ wsL_same := fun w h => List.mem_cons_of_mem _ (ku_X2 w h)
  have h := f_L_same_e.symm.trans hf
  refine lv_aload hx hb (kdr dgL_same_0 0 0 rfl rfl) (lv_at hl 4 rfl) ?_
  refine lv_aload_n hx hb (kdr dgL_same_0 0 1 rfl rfl) rfl (lv_at hl 0 rfl) ?_
  refine lv_iload_n hx hb (kdr dgL_same_0 0 2 rfl rfl) rfl (lv_at hl 1 rfl) ?_
  refine lv_iload_n hx hb (kdr dgL_same_0 0 3 rfl rfl) rfl (lv_at hl 2 rfl) ?_
  refine lv_iload_n hx hb (kdr dgL_same_0 0 4 rfl rfl) rfl (lv_at hl 3 rfl) ?_
  rcases g_x h with ⟨k1, j1, h⟩ | ⟨-, h⟩
  · refine kq_xh ((wSB cI cJ cZ a ce fr un sb se so sc wb we wo wc fb fe fo fc rm ac rf kn) ++ (wO o on ov)) (fun qP qD qF => vx_runV (As := [.int p1, .int p2, .int p3]) (rest := [.ref o]) ⟨hx, hb, hml, hown, hts⟩ (x_X1_same l hl9 dC dI cB cI cJ cZ a _ ce fr un sb se so sc wb we wo wc fb fe fo fc rm ac rf kn p1 p2 p3 k1 j1) (kcwV hts kw_969 kv_X1_same rfl rfl ⟨(Nat.le_of_ble_eq_true rfl), (Nat.le_of_ble_eq_true rfl)⟩) (kpVXq (A := A) qP hK qD hG hZ hS qF (krecv_3 (q0 := 0) hK hP rfl)) rfl rfl hl.1 rfl (lv_room (Nat.le_of_ble_eq_true rfl)) (kdr dgL_same_0 0 5 rfl rfl) ⟨(Nat.le_of_ble_eq_true rfl), (Nat.le_of_ble_eq_true rfl)⟩) hP hD hS hA (kFr_l kFr_SB) (fun q9 ceQ H locs hP hD hS hce hcv hcl => ?_)
    by_cases e9 : k1 = 1
    · have h := g_t e9 h
      rw [kEx_1 e9] at hcl
      refine vx_catch (E := "java/lang/IndexOutOfBoundsException") (name := "java/lang/IndexOutOfBoundsException") (own := RL) hown [] ⟨0, 20, 23, 19⟩ [⟨0, 20, 27, 21⟩] hht (fun z hz => by cases hz) (by decide) (by decide) hw0 (va_Nw.use rfl (hG.at 4 rfl)) hce hcv hcl ?_
      refine lv_astore (lv' := (kvA 5 q9 (kvA 0 (a 0) (kvI 1 p1 (kvI 2 p2 (kvI 3 p3 (kvA 4 o kvE))))))) hx hb (kdr dgL_same_0 1 2 rfl rfl) hl (by decide) rfl (fun ls hl => ?_)
      refine lv_iconst (v := 1) hx hb (kdr dgL_same_0 1 3 rfl rfl) (by decide) ?_
      have h := Option.some.inj h
      subst h
      refine W.widen (k := 1) (n := 6) (Nat.le_of_ble_eq_true rfl) (Nat.le_of_ble_eq_true rfl) ?_
      exact kret_i (v := 1) hx hb hr rfl hlocks hS hP (kdr dgL_same_0 1 4 rfl rfl)
    · have h := g_f e9 h
      rw [kEx_2 e9] at hcl
      refine vx_catch (E := "java/lang/IllegalArgumentException") (name := "java/lang/IllegalArgumentException") (own := RL) hown [⟨0, 20, 23, 19⟩] ⟨0, 20, 27, 21⟩ [] hht (fun z hz => by rcases List.mem_singleton.mp hz with rfl; exact Or.inr ⟨by decide, _, hw0, hG.2⟩) (by decide) (by decide) hw1 (va_Nw.use rfl (hG.at 5 rfl)) hce hcv hcl ?_
      refine lv_astore (lv' := (kvA 5 q9 (kvA 0 (a 0) (kvI 1 p1 (kvI 2 p2 (kvI 3 p3 (kvA 4 o kvE))))))) hx hb (kdr dgL_same_0 1 5 rfl rfl) hl (by decide) rfl (fun ls hl => ?_)
      refine lv_iconst (v := 2) hx hb (kdr dgL_same_0 1 6 rfl rfl) (by decide) ?_
      have h := Option.some.inj h
      subst h
      refine W.widen (k := 1) (n := 6) (Nat.le_of_ble_eq_true rfl) (Nat.le_of_ble_eq_true rfl) ?_
      exact kret_i (v := 2) hx hb hr rfl hlocks hS hP (kdr dgL_same_0 1 7 rfl rfl)
  · obtain ⟨r1, g1, h⟩ := g_b h
    refine kq_i ((wSB cI cJ cZ a ce fr un sb se so sc wb we wo wc fb fe fo fc rm ac rf kn) ++ (wO o on ov)) (fun qP qD qF => va_runV (As := [.int p1, .int p2, .int p3]) (rest := [.ref o]) ⟨hx, hb, hml, hown, hts⟩ (c_X1_same l dC dI cB cI cJ cZ a _ ce fr un sb se so sc wb we wo wc fb fe fo fc rm ac rf kn p1 p2 p3 r1 g1) (kcwV hts kw_969 kv_X1_same rfl rfl ⟨(Nat.le_of_ble_eq_true rfl), (Nat.le_of_ble_eq_true rfl)⟩) (kpV (A := A) qP hK qD hG (krecv_3 (q0 := 0) hK hP rfl)) rfl rfl hl.1 rfl (lv_room (Nat.le_of_ble_eq_true rfl)) (kdr dgL_same_0 0 5 rfl rfl) ⟨(Nat.le_of_ble_eq_true rfl), (Nat.le_of_ble_eq_true rfl)⟩) hP hD hS hA (kFr_l kFr_SB) (fun H locs hP hD hS br1 => ?_)
    refine lv_if_eq (tgt := 16) hx hb (kdr dgL_same_0 0 6 rfl rfl) (by decide) (fun c2 => ?_) (fun c2 => ?_)
    · have h := g_t c2 h
      refine lv_lconst (v := 0) hx hb (kdr dgL_same_0 0 9 rfl rfl) (by decide) ?_
      refine va_putN (host := RL) (D := (dC, dI)) (ci := 4) (v := .long 0) (ty := .long) (C := RX2) (T := TX2) (N := 2) hx hb hts hiX2 tyX2 tyX2_ok nmX2 hown hK hP hD hS 15 rfl rfl 0 (by decide) (va_Nw.use rfl (hG.at 7 rfl)) (fun _ h9 => h9) rfl (by decide +kernel) rfl rfl (Nat.le_of_ble_eq_true rfl) (kdr dgL_same_0 1 0 rfl rfl) (fun H locs hP hD hS => ?_)
      have hP : va_P (dC, dI) vwCl ((wSB cI cJ cZ a ce fr un sb se so sc wb we wo wc fb fe fo fc rm ac rf kn) ++ (wO o 0 ov)) H := hP
      have hD : va_D A ((wSB cI cJ cZ a ce fr un sb se so sc wb we wo wc fb fe fo fc rm ac rf kn) ++ (wO o 0 ov)) := hD
      refine lv_goto (tgt := 31) hx hb (kdr dgL_same_0 1 1 rfl rfl) (by decide) ?_
      refine lv_iconst (v := 0) hx hb (kdr dgL_same_0 1 8 rfl rfl) (by decide) ?_
      have h := Option.some.inj h
      subst h
      refine W.widen (k := 1) (n := 6) (Nat.le_of_ble_eq_true rfl) (Nat.le_of_ble_eq_true rfl) ?_
      exact kret_i (v := 0) hx hb hr rfl hlocks hS hP (kdr dgL_same_0 1 9 rfl rfl)
    · have h := g_f c2 h
      refine lv_lconst (v := 1) hx hb (kdr dgL_same_0 0 7 rfl rfl) (by decide) ?_
      refine lv_goto (tgt := 17) hx hb (kdr dgL_same_0 0 8 rfl rfl) (by decide) ?_
      refine va_putN (host := RL) (D := (dC, dI)) (ci := 4) (v := .long 1) (ty := .long) (C := RX2) (T := TX2) (N := 2) hx hb hts hiX2 tyX2 tyX2_ok nmX2 hown hK hP hD hS 15 rfl rfl 0 (by decide) (va_Nw.use rfl (hG.at 7 rfl)) (fun _ h9 => h9) rfl (by decide +kernel) rfl rfl (Nat.le_of_ble_eq_true rfl) (kdr dgL_same_0 1 0 rfl rfl) (fun H locs hP hD hS => ?_)
      have hP : va_P (dC, dI) vwCl ((wSB cI cJ cZ a ce fr un sb se so sc wb we wo wc fb fe fo fc rm ac rf kn) ++ (wO o 1 ov)) H := hP
      have hD : va_D A ((wSB cI cJ cZ a ce fr un sb se so sc wb we wo wc fb fe fo fc rm ac rf kn) ++ (wO o 1 ov)) := hD
      refine lv_goto (tgt := 31) hx hb (kdr dgL_same_0 1 1 rfl rfl) (by decide) ?_
      refine lv_iconst (v := 0) hx hb (kdr dgL_same_0 1 8 rfl rfl) (by decide) ?_
      have h := Option.some.inj h
      subst h
      refine W.widen (k := 1) (n := 6) (Nat.le_of_ble_eq_true rfl) (Nat.le_of_ble_eq_true rfl) ?_
      exact kret_i (v := 0) hx hb hr rfl hlocks hS hP (kdr dgL_same_0 1 9 rfl rfl)
noncomputable abbrev wsL_apart : List Cond := Cond.codeWith yL_apart cL_apart 6 (some .int) [(0, 13, 16, 19), (0, 13, 20, 21)] :: kBIG
noncomputable def f_L_apart (ce : Nat → Int64) (on : Int64) (p1 : Int32) (p2 : Int32) (p3 : Int32) : Option ((Int32) × (Int64)) :=
  xb (fx_X1_apart p1 p2 p3) (fun k1 => if k1 = 1 then
  some (1, on)
else
  some (2, on)) (
  (f_X1_apart ce p1 p2 p3).bind fun r1 =>
  some (0, r1.toInt64))
theorem f_L_apart_e {ce : Nat → Int64} {on : Int64} {p1 : Int32} {p2 : Int32} {p3 : Int32} : f_L_apart ce on p1 p2 p3 = 
  xb (fx_X1_apart p1 p2 p3) (fun k1 => if k1 = 1 then
  some (1, on)
else
  some (2, on)) (
  (f_X1_apart ce p1 p2 p3).bind fun r1 =>
  some (0, r1.toInt64)) := rfl
set_option maxHeartbeats 4000000 in
set_option maxRecDepth 100000 in
theorem c_L_apart (l : Launch) (hl9 : l.stackTraces = false) (dC : Nat → ClassId) (dI : Nat → Nat → Nat) (cB cI cJ cZ : ClassId) (a : Nat → Nat) (o : Nat) (sz : Nat) (ce : Nat → Int64) (fr : Int64) (un : Int64) (sb : Nat → Int64) (se : Nat → Int64) (so : Nat → Int32) (sc : Int32) (wb : Nat → Int64) (we : Nat → Int64) (wo : Nat → Int32) (wc : Int32) (fb : Nat → Int64) (fe : Nat → Int64) (fo : Nat → Int32) (fc : Int32) (rm : Nat → Int32) (ac : Int32) (rf : Int32) (kn : Int32) (on : Int64) (ov : Value) (p1 : Int32) (p2 : Int32) (p3 : Int32) (res : (Int32) × (Int64)) (hf : f_L_apart ce on p1 p2 p3 = some res) : kMw l yL_apart wsL_apart (kRm 8 1 6 133) dC dI cB cI cJ cZ [.ref (a 0), .int p1, .int p2, .int p3, .ref o] sz ((wSB cI cJ cZ a ce fr un sb se so sc wb we wo wc fb fe fo fc rm ac rf kn) ++ (wO o on ov)) .int (res.1) ((wSB cI cJ cZ a ce fr un sb se so sc wb we wo wc fb fe fo fc rm ac rf kn) ++ (wO o (res.2) ov)) 1 6 := by
  refine kmet_w (y := yL_apart) (cc := cL_apart) (maxL := 6) (ret := (some .int)) (hh := [(0, 13, 16, 19), (0, 13, 20, 21)]) RL (kvA 0 (a 0) (kvI 1 p1 (kvI 2 p2 (kvI 3 p3 (kvA 4 o kvE))))) kpl_L rfl rfl (Nat.le_of_ble_eq_true rfl) rfl (fun p e s m below meth c A ls hx hb hr hml hht hts hown hlocks hP hK hG hZ hD hA hS hl => ?_)
  have hw0 := hts (.classLink RL 19 "java/lang/IndexOutOfBoundsException") (List.mem_cons_of_mem _ kw_467)
  have hw1 := hts (.classLink RL 21 "java/lang/IllegalArgumentException") (List.mem_cons_of_mem _ kw_468)
  have hiX2 : ∀ w ∈ u_ws RX2 TX2 2, w ∈ wsL_apart := fun w h => List.mem_cons_of_mem _ (ku_X2 w h)
  have h := f_L_apart_e.symm.trans hf
  refine lv_aload hx hb (kdr dgL_apart_0 0 0 rfl rfl) (lv_at hl 4 rfl) ?_
  refine lv_aload_n hx hb (kdr dgL_apart_0 0 1 rfl rfl) rfl (lv_at hl 0 rfl) ?_
  refine lv_iload_n hx hb (kdr dgL_apart_0 0 2 rfl rfl) rfl (lv_at hl 1 rfl) ?_
  refine lv_iload_n hx hb (kdr dgL_apart_0 0 3 rfl rfl) rfl (lv_at hl 2 rfl) ?_
  refine lv_iload_n hx hb (kdr dgL_apart_0 0 4 rfl rfl) rfl (lv_at hl 3 rfl) ?_
  rcases g_x h with ⟨k1, j1, h⟩ | ⟨-, h⟩
  · refine kq_xh ((wSB cI cJ cZ a ce fr un sb se so sc wb we wo wc fb fe fo fc rm ac rf kn) ++ (wO o on ov)) (fun qP qD qF => vx_runV (As := [.int p1, .int p2, .int p3]) (rest := [.ref o]) ⟨hx, hb, hml, hown, hts⟩ (x_X1_apart l hl9 dC dI cB cI cJ cZ a _ ce fr un sb se so sc wb we wo wc fb fe fo fc rm ac rf kn p1 p2 p3 k1 j1) (kcwV hts kw_976 kv_X1_apart rfl rfl ⟨(Nat.le_of_ble_eq_true rfl), (Nat.le_of_ble_eq_true rfl)⟩) (kpVXq (A := A) qP hK qD hG hZ hS qF (krecv_3 (q0 := 0) hK hP rfl)) rfl rfl hl.1 rfl (lv_room (Nat.le_of_ble_eq_true rfl)) (kdr dgL_apart_0 0 5 rfl rfl) ⟨(Nat.le_of_ble_eq_true rfl), (Nat.le_of_ble_eq_true rfl)⟩) hP hD hS hA (kFr_l kFr_SB) (fun q9 ceQ H locs hP hD hS hce hcv hcl => ?_)
    by_cases e9 : k1 = 1
    · have h := g_t e9 h
      rw [kEx_1 e9] at hcl
      refine vx_catch (E := "java/lang/IndexOutOfBoundsException") (name := "java/lang/IndexOutOfBoundsException") (own := RL) hown [] ⟨0, 13, 16, 19⟩ [⟨0, 13, 20, 21⟩] hht (fun z hz => by cases hz) (by decide) (by decide) hw0 (va_Nw.use rfl (hG.at 4 rfl)) hce hcv hcl ?_
      refine lv_astore (lv' := (kvA 5 q9 (kvA 0 (a 0) (kvI 1 p1 (kvI 2 p2 (kvI 3 p3 (kvA 4 o kvE))))))) hx hb (kdr dgL_apart_0 0 9 rfl rfl) hl (by decide) rfl (fun ls hl => ?_)
      refine lv_iconst (v := 1) hx hb (kdr dgL_apart_0 1 0 rfl rfl) (by decide) ?_
      have h := Option.some.inj h
      subst h
      refine W.widen (k := 1) (n := 6) (Nat.le_of_ble_eq_true rfl) (Nat.le_of_ble_eq_true rfl) ?_
      exact kret_i (v := 1) hx hb hr rfl hlocks hS hP (kdr dgL_apart_0 1 1 rfl rfl)
    · have h := g_f e9 h
      rw [kEx_2 e9] at hcl
      refine vx_catch (E := "java/lang/IllegalArgumentException") (name := "java/lang/IllegalArgumentException") (own := RL) hown [⟨0, 13, 16, 19⟩] ⟨0, 13, 20, 21⟩ [] hht (fun z hz => by rcases List.mem_singleton.mp hz with rfl; exact Or.inr ⟨by decide, _, hw0, hG.2⟩) (by decide) (by decide) hw1 (va_Nw.use rfl (hG.at 5 rfl)) hce hcv hcl ?_
      refine lv_astore (lv' := (kvA 5 q9 (kvA 0 (a 0) (kvI 1 p1 (kvI 2 p2 (kvI 3 p3 (kvA 4 o kvE))))))) hx hb (kdr dgL_apart_0 1 2 rfl rfl) hl (by decide) rfl (fun ls hl => ?_)
      refine lv_iconst (v := 2) hx hb (kdr dgL_apart_0 1 3 rfl rfl) (by decide) ?_
      have h := Option.some.inj h
      subst h
      refine W.widen (k := 1) (n := 6) (Nat.le_of_ble_eq_true rfl) (Nat.le_of_ble_eq_true rfl) ?_
      exact kret_i (v := 2) hx hb hr rfl hlocks hS hP (kdr dgL_apart_0 1 4 rfl rfl)
  · obtain ⟨r1, g1, h⟩ := g_b h
    refine kq_i ((wSB cI cJ cZ a ce fr un sb se so sc wb we wo wc fb fe fo fc rm ac rf kn) ++ (wO o on ov)) (fun qP qD qF => va_runV (As := [.int p1, .int p2, .int p3]) (rest := [.ref o]) ⟨hx, hb, hml, hown, hts⟩ (c_X1_apart l dC dI cB cI cJ cZ a _ ce fr un sb se so sc wb we wo wc fb fe fo fc rm ac rf kn p1 p2 p3 r1 g1) (kcwV hts kw_976 kv_X1_apart rfl rfl ⟨(Nat.le_of_ble_eq_true rfl), (Nat.le_of_ble_eq_true rfl)⟩) (kpV (A := A) qP hK qD hG (krecv_3 (q0 := 0) hK hP rfl)) rfl rfl hl.1 rfl (lv_room (Nat.le_of_ble_eq_true rfl)) (kdr dgL_apart_0 0 5 rfl rfl) ⟨(Nat.le_of_ble_eq_true rfl), (Nat.le_of_ble_eq_true rfl)⟩) hP hD hS hA (kFr_l kFr_SB) (fun H locs hP hD hS br1 => ?_)
    refine lv_i2l (v := r1.toInt64) hx hb (kdr dgL_apart_0 0 6 rfl rfl) rfl ?_
    refine va_putN (host := RL) (D := (dC, dI)) (ci := 4) (v := .long r1.toInt64) (ty := .long) (C := RX2) (T := TX2) (N := 2) hx hb hts hiX2 tyX2 tyX2_ok nmX2 hown hK hP hD hS 15 rfl rfl 0 (by decide) (va_Nw.use rfl (hG.at 7 rfl)) (fun _ h9 => h9) rfl (by decide +kernel) rfl rfl (Nat.le_of_ble_eq_true rfl) (kdr dgL_apart_0 0 7 rfl rfl) (fun H locs hP hD hS => ?_)
    have hP : va_P (dC, dI) vwCl ((wSB cI cJ cZ a ce fr un sb se so sc wb we wo wc fb fe fo fc rm ac rf kn) ++ (wO o r1.toInt64 ov)) H := hP
    have hD : va_D A ((wSB cI cJ cZ a ce fr un sb se so sc wb we wo wc fb fe fo fc rm ac rf kn) ++ (wO o r1.toInt64 ov)) := hD
    refine lv_goto (tgt := 24) hx hb (kdr dgL_apart_0 0 8 rfl rfl) (by decide) ?_
    refine lv_iconst (v := 0) hx hb (kdr dgL_apart_0 1 5 rfl rfl) (by decide) ?_
    have h := Option.some.inj h
    subst h
    refine W.widen (k := 1) (n := 6) (Nat.le_of_ble_eq_true rfl) (Nat.le_of_ble_eq_true rfl) ?_
    exact kret_i (v := 0) hx hb hr rfl hlocks hS hP (kdr dgL_apart_0 1 6 rfl rfl)
noncomputable abbrev wsL_calendar : List Cond := Cond.codeWith yL_calendar cL_calendar 4 (some .int) [(0, 10, 13, 21)] :: kBIG
noncomputable def f_L_calendar (fr : Int64) (un : Int64) (on : Int64) (p1 : Int32) : Option ((Int32) × (Int64)) :=
  xb (fx_X1_calendar p1) (fun k1 => if k1 = 1 then
  none
else
  some (1, on)) (
  (f_X1_calendar fr un p1).bind fun r1 =>
  some (0, r1.toInt64))
theorem f_L_calendar_e {fr : Int64} {un : Int64} {on : Int64} {p1 : Int32} : f_L_calendar fr un on p1 = 
  xb (fx_X1_calendar p1) (fun k1 => if k1 = 1 then
  none
else
  some (1, on)) (
  (f_X1_calendar fr un p1).bind fun r1 =>
  some (0, r1.toInt64)) := rfl
set_option maxHeartbeats 4000000 in
set_option maxRecDepth 100000 in
theorem c_L_calendar (l : Launch) (hl9 : l.stackTraces = false) (dC : Nat → ClassId) (dI : Nat → Nat → Nat) (cB cI cJ cZ : ClassId) (a : Nat → Nat) (o : Nat) (sz : Nat) (ce : Nat → Int64) (fr : Int64) (un : Int64) (sb : Nat → Int64) (se : Nat → Int64) (so : Nat → Int32) (sc : Int32) (wb : Nat → Int64) (we : Nat → Int64) (wo : Nat → Int32) (wc : Int32) (fb : Nat → Int64) (fe : Nat → Int64) (fo : Nat → Int32) (fc : Int32) (rm : Nat → Int32) (ac : Int32) (rf : Int32) (kn : Int32) (on : Int64) (ov : Value) (p1 : Int32) (res : (Int32) × (Int64)) (hf : f_L_calendar fr un on p1 = some res) : kMw l yL_calendar wsL_calendar (kRm 8 1 6 131) dC dI cB cI cJ cZ [.ref (a 0), .int p1, .ref o] sz ((wSB cI cJ cZ a ce fr un sb se so sc wb we wo wc fb fe fo fc rm ac rf kn) ++ (wO o on ov)) .int (res.1) ((wSB cI cJ cZ a ce fr un sb se so sc wb we wo wc fb fe fo fc rm ac rf kn) ++ (wO o (res.2) ov)) 1 6 := by
  refine kmet_w (y := yL_calendar) (cc := cL_calendar) (maxL := 4) (ret := (some .int)) (hh := [(0, 10, 13, 21)]) RL (kvA 0 (a 0) (kvI 1 p1 (kvA 2 o kvE))) kpl_L rfl rfl (Nat.le_of_ble_eq_true rfl) rfl (fun p e s m below meth c A ls hx hb hr hml hht hts hown hlocks hP hK hG hZ hD hA hS hl => ?_)
  have hw0 := hts (.classLink RL 21 "java/lang/IllegalArgumentException") (List.mem_cons_of_mem _ kw_468)
  have hiX2 : ∀ w ∈ u_ws RX2 TX2 2, w ∈ wsL_calendar := fun w h => List.mem_cons_of_mem _ (ku_X2 w h)
  have h := f_L_calendar_e.symm.trans hf
  refine lv_aload_n hx hb (kdr dgL_calendar_0 0 0 rfl rfl) rfl (lv_at hl 2 rfl) ?_
  refine lv_aload_n hx hb (kdr dgL_calendar_0 0 1 rfl rfl) rfl (lv_at hl 0 rfl) ?_
  refine lv_iload_n hx hb (kdr dgL_calendar_0 0 2 rfl rfl) rfl (lv_at hl 1 rfl) ?_
  rcases g_x h with ⟨k1, j1, h⟩ | ⟨-, h⟩
  · refine kq_xh ((wSB cI cJ cZ a ce fr un sb se so sc wb we wo wc fb fe fo fc rm ac rf kn) ++ (wO o on ov)) (fun qP qD qF => vx_runV (As := [.int p1]) (rest := [.ref o]) ⟨hx, hb, hml, hown, hts⟩ (x_X1_calendar l hl9 dC dI cB cI cJ cZ a _ ce fr un sb se so sc wb we wo wc fb fe fo fc rm ac rf kn p1 k1 j1) (kcwV hts kw_983 kv_X1_calendar rfl rfl ⟨(Nat.le_of_ble_eq_true rfl), (Nat.le_of_ble_eq_true rfl)⟩) (kpVXq (A := A) qP hK qD hG hZ hS qF (krecv_3 (q0 := 0) hK hP rfl)) rfl rfl hl.1 rfl (lv_room (Nat.le_of_ble_eq_true rfl)) (kdr dgL_calendar_0 0 3 rfl rfl) ⟨(Nat.le_of_ble_eq_true rfl), (Nat.le_of_ble_eq_true rfl)⟩) hP hD hS hA (kFr_l kFr_SB) (fun q9 ceQ H locs hP hD hS hce hcv hcl => ?_)
    by_cases e9 : k1 = 1
    · have h := g_t e9 h
      rw [kEx_1 e9] at hcl
      cases h
    · have h := g_f e9 h
      rw [kEx_2 e9] at hcl
      refine vx_catch (E := "java/lang/IllegalArgumentException") (name := "java/lang/IllegalArgumentException") (own := RL) hown [] ⟨0, 10, 13, 21⟩ [] hht (fun z hz => by cases hz) (by decide) (by decide) hw0 (va_Nw.use rfl (hG.at 5 rfl)) hce hcv hcl ?_
      refine lv_astore_n (lv' := (kvA 3 q9 (kvA 0 (a 0) (kvI 1 p1 (kvA 2 o kvE))))) hx hb (kdr dgL_calendar_0 0 7 rfl rfl) rfl hl (by decide) rfl (fun ls hl => ?_)
      refine lv_iconst (v := 1) hx hb (kdr dgL_calendar_0 0 8 rfl rfl) (by decide) ?_
      have h := Option.some.inj h
      subst h
      refine W.widen (k := 1) (n := 6) (Nat.le_of_ble_eq_true rfl) (Nat.le_of_ble_eq_true rfl) ?_
      exact kret_i (v := 1) hx hb hr rfl hlocks hS hP (kdr dgL_calendar_0 0 9 rfl rfl)
  · obtain ⟨r1, g1, h⟩ := g_b h
    refine kq_i ((wSB cI cJ cZ a ce fr un sb se so sc wb we wo wc fb fe fo fc rm ac rf kn) ++ (wO o on ov)) (fun qP qD qF => va_runV (As := [.int p1]) (rest := [.ref o]) ⟨hx, hb, hml, hown, hts⟩ (c_X1_calendar l dC dI cB cI cJ cZ a _ ce fr un sb se so sc wb we wo wc fb fe fo fc rm ac rf kn p1 r1 g1) (kcwV hts kw_983 kv_X1_calendar rfl rfl ⟨(Nat.le_of_ble_eq_true rfl), (Nat.le_of_ble_eq_true rfl)⟩) (kpV (A := A) qP hK qD hG (krecv_3 (q0 := 0) hK hP rfl)) rfl rfl hl.1 rfl (lv_room (Nat.le_of_ble_eq_true rfl)) (kdr dgL_calendar_0 0 3 rfl rfl) ⟨(Nat.le_of_ble_eq_true rfl), (Nat.le_of_ble_eq_true rfl)⟩) hP hD hS hA (kFr_l kFr_SB) (fun H locs hP hD hS br1 => ?_)
    refine lv_i2l (v := r1.toInt64) hx hb (kdr dgL_calendar_0 0 4 rfl rfl) rfl ?_
    refine va_putN (host := RL) (D := (dC, dI)) (ci := 4) (v := .long r1.toInt64) (ty := .long) (C := RX2) (T := TX2) (N := 2) hx hb hts hiX2 tyX2 tyX2_ok nmX2 hown hK hP hD hS 15 rfl rfl 0 (by decide) (va_Nw.use rfl (hG.at 7 rfl)) (fun _ h9 => h9) rfl (by decide +kernel) rfl rfl (Nat.le_of_ble_eq_true rfl) (kdr dgL_calendar_0 0 5 rfl rfl) (fun H locs hP hD hS => ?_)
    have hP : va_P (dC, dI) vwCl ((wSB cI cJ cZ a ce fr un sb se so sc wb we wo wc fb fe fo fc rm ac rf kn) ++ (wO o r1.toInt64 ov)) H := hP
    have hD : va_D A ((wSB cI cJ cZ a ce fr un sb se so sc wb we wo wc fb fe fo fc rm ac rf kn) ++ (wO o r1.toInt64 ov)) := hD
    refine lv_goto (tgt := 16) hx hb (kdr dgL_calendar_0 0 6 rfl rfl) (by decide) ?_
    refine lv_iconst (v := 0) hx hb (kdr dgL_calendar_0 1 0 rfl rfl) (by decide) ?_
    have h := Option.some.inj h
    subst h
    refine W.widen (k := 1) (n := 6) (Nat.le_of_ble_eq_true rfl) (Nat.le_of_ble_eq_true rfl) ?_
    exact kret_i (v := 0) hx hb hr rfl hlocks hS hP (kdr dgL_calendar_0 1 1 rfl rfl)
noncomputable abbrev wsL_ofSpan : List Cond := Cond.codeWith yL_ofSpan cL_ofSpan 5 (some .int) [(0, 11, 14, 19), (0, 11, 18, 21)] :: kBIG
noncomputable def f_L_ofSpan (sb : Nat → Int64) (se : Nat → Int64) (so : Nat → Int32) (sc : Int32) (on : Int64) (p1 : Int32) (p2 : Int32) : Option ((Int32) × (Int64)) :=
  xb (fx_X1_ofSpan sc p1 p2) (fun k1 => if k1 = 1 then
  some (1, on)
else
  some (2, on)) (
  (f_X1_ofSpan sb se so sc p1 p2).bind fun r1 =>
  some (0, r1.toInt64))
theorem f_L_ofSpan_e {sb : Nat → Int64} {se : Nat → Int64} {so : Nat → Int32} {sc : Int32} {on : Int64} {p1 : Int32} {p2 : Int32} : f_L_ofSpan sb se so sc on p1 p2 = 
  xb (fx_X1_ofSpan sc p1 p2) (fun k1 => if k1 = 1 then
  some (1, on)
else
  some (2, on)) (
  (f_X1_ofSpan sb se so sc p1 p2).bind fun r1 =>
  some (0, r1.toInt64)) := rfl
set_option maxHeartbeats 4000000 in
set_option maxRecDepth 100000 in
theorem c_L_ofSpan (l : Launch) (hl9 : l.stackTraces = false) (dC : Nat → ClassId) (dI : Nat → Nat → Nat) (cB cI cJ cZ : ClassId) (a : Nat → Nat) (o : Nat) (sz : Nat) (ce : Nat → Int64) (fr : Int64) (un : Int64) (sb : Nat → Int64) (se : Nat → Int64) (so : Nat → Int32) (sc : Int32) (wb : Nat → Int64) (we : Nat → Int64) (wo : Nat → Int32) (wc : Int32) (fb : Nat → Int64) (fe : Nat → Int64) (fo : Nat → Int32) (fc : Int32) (rm : Nat → Int32) (ac : Int32) (rf : Int32) (kn : Int32) (on : Int64) (ov : Value) (p1 : Int32) (p2 : Int32) (res : (Int32) × (Int64)) (hf : f_L_ofSpan sb se so sc on p1 p2 = some res) : kMw l yL_ofSpan wsL_ofSpan (kRm 8 1 6 133) dC dI cB cI cJ cZ [.ref (a 0), .int p1, .int p2, .ref o] sz ((wSB cI cJ cZ a ce fr un sb se so sc wb we wo wc fb fe fo fc rm ac rf kn) ++ (wO o on ov)) .int (res.1) ((wSB cI cJ cZ a ce fr un sb se so sc wb we wo wc fb fe fo fc rm ac rf kn) ++ (wO o (res.2) ov)) 1 6 := by
  refine kmet_w (y := yL_ofSpan) (cc := cL_ofSpan) (maxL := 5) (ret := (some .int)) (hh := [(0, 11, 14, 19), (0, 11, 18, 21)]) RL (kvA 0 (a 0) (kvI 1 p1 (kvI 2 p2 (kvA 3 o kvE)))) kpl_L rfl rfl (Nat.le_of_ble_eq_true rfl) rfl (fun p e s m below meth c A ls hx hb hr hml hht hts hown hlocks hP hK hG hZ hD hA hS hl => ?_)
  have hw0 := hts (.classLink RL 19 "java/lang/IndexOutOfBoundsException") (List.mem_cons_of_mem _ kw_467)
  have hw1 := hts (.classLink RL 21 "java/lang/IllegalArgumentException") (List.mem_cons_of_mem _ kw_468)
  have hiX2 : ∀ w ∈ u_ws RX2 TX2 2, w ∈ wsL_ofSpan := fun w h => List.mem_cons_of_mem _ (ku_X2 w h)
  have h := f_L_ofSpan_e.symm.trans hf
  refine lv_aload_n hx hb (kdr dgL_ofSpan_0 0 0 rfl rfl) rfl (lv_at hl 3 rfl) ?_
  refine lv_aload_n hx hb (kdr dgL_ofSpan_0 0 1 rfl rfl) rfl (lv_at hl 0 rfl) ?_
  refine lv_iload_n hx hb (kdr dgL_ofSpan_0 0 2 rfl rfl) rfl (lv_at hl 1 rfl) ?_
  refine lv_iload_n hx hb (kdr dgL_ofSpan_0 0 3 rfl rfl) rfl (lv_at hl 2 rfl) ?_
  rcases g_x h with ⟨k1, j1, h⟩ | ⟨-, h⟩
  · refine kq_xh ((wSB cI cJ cZ a ce fr un sb se so sc wb we wo wc fb fe fo fc rm ac rf kn) ++ (wO o on ov)) (fun qP qD qF => vx_runV (As := [.int p1, .int p2]) (rest := [.ref o]) ⟨hx, hb, hml, hown, hts⟩ (x_X1_ofSpan l hl9 dC dI cB cI cJ cZ a _ ce fr un sb se so sc wb we wo wc fb fe fo fc rm ac rf kn p1 p2 k1 j1) (kcwV hts kw_987 kv_X1_ofSpan rfl rfl ⟨(Nat.le_of_ble_eq_true rfl), (Nat.le_of_ble_eq_true rfl)⟩) (kpVXq (A := A) qP hK qD hG hZ hS qF (krecv_3 (q0 := 0) hK hP rfl)) rfl rfl hl.1 rfl (lv_room (Nat.le_of_ble_eq_true rfl)) (kdr dgL_ofSpan_0 0 4 rfl rfl) ⟨(Nat.le_of_ble_eq_true rfl), (Nat.le_of_ble_eq_true rfl)⟩) hP hD hS hA (kFr_l kFr_SB) (fun q9 ceQ H locs hP hD hS hce hcv hcl => ?_)
    by_cases e9 : k1 = 1
    · have h := g_t e9 h
      rw [kEx_1 e9] at hcl
      refine vx_catch (E := "java/lang/IndexOutOfBoundsException") (name := "java/lang/IndexOutOfBoundsException") (own := RL) hown [] ⟨0, 11, 14, 19⟩ [⟨0, 11, 18, 21⟩] hht (fun z hz => by cases hz) (by decide) (by decide) hw0 (va_Nw.use rfl (hG.at 4 rfl)) hce hcv hcl ?_
      refine lv_astore (lv' := (kvA 4 q9 (kvA 0 (a 0) (kvI 1 p1 (kvI 2 p2 (kvA 3 o kvE)))))) hx hb (kdr dgL_ofSpan_0 0 8 rfl rfl) hl (by decide) rfl (fun ls hl => ?_)
      refine lv_iconst (v := 1) hx hb (kdr dgL_ofSpan_0 0 9 rfl rfl) (by decide) ?_
      have h := Option.some.inj h
      subst h
      refine W.widen (k := 1) (n := 6) (Nat.le_of_ble_eq_true rfl) (Nat.le_of_ble_eq_true rfl) ?_
      exact kret_i (v := 1) hx hb hr rfl hlocks hS hP (kdr dgL_ofSpan_0 1 0 rfl rfl)
    · have h := g_f e9 h
      rw [kEx_2 e9] at hcl
      refine vx_catch (E := "java/lang/IllegalArgumentException") (name := "java/lang/IllegalArgumentException") (own := RL) hown [⟨0, 11, 14, 19⟩] ⟨0, 11, 18, 21⟩ [] hht (fun z hz => by rcases List.mem_singleton.mp hz with rfl; exact Or.inr ⟨by decide, _, hw0, hG.2⟩) (by decide) (by decide) hw1 (va_Nw.use rfl (hG.at 5 rfl)) hce hcv hcl ?_
      refine lv_astore (lv' := (kvA 4 q9 (kvA 0 (a 0) (kvI 1 p1 (kvI 2 p2 (kvA 3 o kvE)))))) hx hb (kdr dgL_ofSpan_0 1 1 rfl rfl) hl (by decide) rfl (fun ls hl => ?_)
      refine lv_iconst (v := 2) hx hb (kdr dgL_ofSpan_0 1 2 rfl rfl) (by decide) ?_
      have h := Option.some.inj h
      subst h
      refine W.widen (k := 1) (n := 6) (Nat.le_of_ble_eq_true rfl) (Nat.le_of_ble_eq_true rfl) ?_
      exact kret_i (v := 2) hx hb hr rfl hlocks hS hP (kdr dgL_ofSpan_0 1 3 rfl rfl)
  · obtain ⟨r1, g1, h⟩ := g_b h
    refine kq_i ((wSB cI cJ cZ a ce fr un sb se so sc wb we wo wc fb fe fo fc rm ac rf kn) ++ (wO o on ov)) (fun qP qD qF => va_runV (As := [.int p1, .int p2]) (rest := [.ref o]) ⟨hx, hb, hml, hown, hts⟩ (c_X1_ofSpan l dC dI cB cI cJ cZ a _ ce fr un sb se so sc wb we wo wc fb fe fo fc rm ac rf kn p1 p2 r1 g1) (kcwV hts kw_987 kv_X1_ofSpan rfl rfl ⟨(Nat.le_of_ble_eq_true rfl), (Nat.le_of_ble_eq_true rfl)⟩) (kpV (A := A) qP hK qD hG (krecv_3 (q0 := 0) hK hP rfl)) rfl rfl hl.1 rfl (lv_room (Nat.le_of_ble_eq_true rfl)) (kdr dgL_ofSpan_0 0 4 rfl rfl) ⟨(Nat.le_of_ble_eq_true rfl), (Nat.le_of_ble_eq_true rfl)⟩) hP hD hS hA (kFr_l kFr_SB) (fun H locs hP hD hS br1 => ?_)
    refine lv_i2l (v := r1.toInt64) hx hb (kdr dgL_ofSpan_0 0 5 rfl rfl) rfl ?_
    refine va_putN (host := RL) (D := (dC, dI)) (ci := 4) (v := .long r1.toInt64) (ty := .long) (C := RX2) (T := TX2) (N := 2) hx hb hts hiX2 tyX2 tyX2_ok nmX2 hown hK hP hD hS 15 rfl rfl 0 (by decide) (va_Nw.use rfl (hG.at 7 rfl)) (fun _ h9 => h9) rfl (by decide +kernel) rfl rfl (Nat.le_of_ble_eq_true rfl) (kdr dgL_ofSpan_0 0 6 rfl rfl) (fun H locs hP hD hS => ?_)
    have hP : va_P (dC, dI) vwCl ((wSB cI cJ cZ a ce fr un sb se so sc wb we wo wc fb fe fo fc rm ac rf kn) ++ (wO o r1.toInt64 ov)) H := hP
    have hD : va_D A ((wSB cI cJ cZ a ce fr un sb se so sc wb we wo wc fb fe fo fc rm ac rf kn) ++ (wO o r1.toInt64 ov)) := hD
    refine lv_goto (tgt := 22) hx hb (kdr dgL_ofSpan_0 0 7 rfl rfl) (by decide) ?_
    refine lv_iconst (v := 0) hx hb (kdr dgL_ofSpan_0 1 4 rfl rfl) (by decide) ?_
    have h := Option.some.inj h
    subst h
    refine W.widen (k := 1) (n := 6) (Nat.le_of_ble_eq_true rfl) (Nat.le_of_ble_eq_true rfl) ?_
    exact kret_i (v := 0) hx hb hr rfl hlocks hS hP (kdr dgL_ofSpan_0 1 5 rfl rfl)
noncomputable abbrev wsL_meets : List Cond := Cond.codeWith yL_meets cL_meets 5 (some .int) [(0, 18, 21, 19)] :: kBIG
noncomputable def f_L_meets (sb : Nat → Int64) (se : Nat → Int64) (sc : Int32) (on : Int64) (p1 : Int32) (p2 : Int32) : Option ((Int32) × (Int64)) :=
  xb (fx_X1_meets sc p1 p2) (fun k1 => if k1 = 1 then
  some (1, on)
else
  none) (
  (f_X1_meets sb se sc p1 p2).bind fun r1 =>
  if r1 = 0 then
    some (0, 0)
  else
    some (0, 1))
theorem f_L_meets_e {sb : Nat → Int64} {se : Nat → Int64} {sc : Int32} {on : Int64} {p1 : Int32} {p2 : Int32} : f_L_meets sb se sc on p1 p2 = 
  xb (fx_X1_meets sc p1 p2) (fun k1 => if k1 = 1 then
  some (1, on)
else
  none) (
  (f_X1_meets sb se sc p1 p2).bind fun r1 =>
  if r1 = 0 then
    some (0, 0)
  else
    some (0, 1)) := rfl
set_option maxHeartbeats 4000000 in
set_option maxRecDepth 100000 in
theorem c_L_meets (l : Launch) (hl9 : l.stackTraces = false) (dC : Nat → ClassId) (dI : Nat → Nat → Nat) (cB cI cJ cZ : ClassId) (a : Nat → Nat) (o : Nat) (sz : Nat) (ce : Nat → Int64) (fr : Int64) (un : Int64) (sb : Nat → Int64) (se : Nat → Int64) (so : Nat → Int32) (sc : Int32) (wb : Nat → Int64) (we : Nat → Int64) (wo : Nat → Int32) (wc : Int32) (fb : Nat → Int64) (fe : Nat → Int64) (fo : Nat → Int32) (fc : Int32) (rm : Nat → Int32) (ac : Int32) (rf : Int32) (kn : Int32) (on : Int64) (ov : Value) (p1 : Int32) (p2 : Int32) (res : (Int32) × (Int64)) (hf : f_L_meets sb se sc on p1 p2 = some res) : kMw l yL_meets wsL_meets (kRm 8 1 6 133) dC dI cB cI cJ cZ [.ref (a 0), .int p1, .int p2, .ref o] sz ((wSB cI cJ cZ a ce fr un sb se so sc wb we wo wc fb fe fo fc rm ac rf kn) ++ (wO o on ov)) .int (res.1) ((wSB cI cJ cZ a ce fr un sb se so sc wb we wo wc fb fe fo fc rm ac rf kn) ++ (wO o (res.2) ov)) 1 6 := by
  refine kmet_w (y := yL_meets) (cc := cL_meets) (maxL := 5) (ret := (some .int)) (hh := [(0, 18, 21, 19)]) RL (kvA 0 (a 0) (kvI 1 p1 (kvI 2 p2 (kvA 3 o kvE)))) kpl_L rfl rfl (Nat.le_of_ble_eq_true rfl) rfl (fun p e s m below meth c A ls hx hb hr hml hht hts hown hlocks hP hK hG hZ hD hA hS hl => ?_)
  have hw0 := hts (.classLink RL 19 "java/lang/IndexOutOfBoundsException") (List.mem_cons_of_mem _ kw_467)
  have hiX2 : ∀ w ∈ u_ws RX2 TX2 2, w ∈ wsL_meets := fun w h => List.mem_cons_of_mem _ (ku_X2 w h)
  have h := f_L_meets_e.symm.trans hf
  refine lv_aload_n hx hb (kdr dgL_meets_0 0 0 rfl rfl) rfl (lv_at hl 3 rfl) ?_
  refine lv_aload_n hx hb (kdr dgL_meets_0 0 1 rfl rfl) rfl (lv_at hl 0 rfl) ?_
  refine lv_iload_n hx hb (kdr dgL_meets_0 0 2 rfl rfl) rfl (lv_at hl 1 rfl) ?_
  refine lv_iload_n hx hb (kdr dgL_meets_0 0 3 rfl rfl) rfl (lv_at hl 2 rfl) ?_
  rcases g_x h with ⟨k1, j1, h⟩ | ⟨-, h⟩
  · refine kq_xh ((wSB cI cJ cZ a ce fr un sb se so sc wb we wo wc fb fe fo fc rm ac rf kn) ++ (wO o on ov)) (fun qP qD qF => vx_runV (As := [.int p1, .int p2]) (rest := [.ref o]) ⟨hx, hb, hml, hown, hts⟩ (x_X1_meets l hl9 dC dI cB cI cJ cZ a _ ce fr un sb se so sc wb we wo wc fb fe fo fc rm ac rf kn p1 p2 k1 j1) (kcwV hts kw_994 kv_X1_meets rfl rfl ⟨(Nat.le_of_ble_eq_true rfl), (Nat.le_of_ble_eq_true rfl)⟩) (kpVXq (A := A) qP hK qD hG hZ hS qF (krecv_3 (q0 := 0) hK hP rfl)) rfl rfl hl.1 rfl (lv_room (Nat.le_of_ble_eq_true rfl)) (kdr dgL_meets_0 0 4 rfl rfl) ⟨(Nat.le_of_ble_eq_true rfl), (Nat.le_of_ble_eq_true rfl)⟩) hP hD hS hA (kFr_l kFr_SB) (fun q9 ceQ H locs hP hD hS hce hcv hcl => ?_)
    by_cases e9 : k1 = 1
    · have h := g_t e9 h
      rw [kEx_1 e9] at hcl
      refine vx_catch (E := "java/lang/IndexOutOfBoundsException") (name := "java/lang/IndexOutOfBoundsException") (own := RL) hown [] ⟨0, 18, 21, 19⟩ [] hht (fun z hz => by cases hz) (by decide) (by decide) hw0 (va_Nw.use rfl (hG.at 4 rfl)) hce hcv hcl ?_
      refine lv_astore (lv' := (kvA 4 q9 (kvA 0 (a 0) (kvI 1 p1 (kvI 2 p2 (kvA 3 o kvE)))))) hx hb (kdr dgL_meets_0 1 1 rfl rfl) hl (by decide) rfl (fun ls hl => ?_)
      refine lv_iconst (v := 1) hx hb (kdr dgL_meets_0 1 2 rfl rfl) (by decide) ?_
      have h := Option.some.inj h
      subst h
      refine W.widen (k := 1) (n := 6) (Nat.le_of_ble_eq_true rfl) (Nat.le_of_ble_eq_true rfl) ?_
      exact kret_i (v := 1) hx hb hr rfl hlocks hS hP (kdr dgL_meets_0 1 3 rfl rfl)
    · have h := g_f e9 h
      rw [kEx_2 e9] at hcl
      cases h
  · obtain ⟨r1, g1, h⟩ := g_b h
    refine kq_i ((wSB cI cJ cZ a ce fr un sb se so sc wb we wo wc fb fe fo fc rm ac rf kn) ++ (wO o on ov)) (fun qP qD qF => va_runV (As := [.int p1, .int p2]) (rest := [.ref o]) ⟨hx, hb, hml, hown, hts⟩ (c_X1_meets l dC dI cB cI cJ cZ a _ ce fr un sb se so sc wb we wo wc fb fe fo fc rm ac rf kn p1 p2 r1 g1) (kcwV hts kw_994 kv_X1_meets rfl rfl ⟨(Nat.le_of_ble_eq_true rfl), (Nat.le_of_ble_eq_true rfl)⟩) (kpV (A := A) qP hK qD hG (krecv_3 (q0 := 0) hK hP rfl)) rfl rfl hl.1 rfl (lv_room (Nat.le_of_ble_eq_true rfl)) (kdr dgL_meets_0 0 4 rfl rfl) ⟨(Nat.le_of_ble_eq_true rfl), (Nat.le_of_ble_eq_true rfl)⟩) hP hD hS hA (kFr_l kFr_SB) (fun H locs hP hD hS br1 => ?_)
    refine lv_if_eq (tgt := 14) hx hb (kdr dgL_meets_0 0 5 rfl rfl) (by decide) (fun c2 => ?_) (fun c2 => ?_)
    · have h := g_t c2 h
      refine lv_lconst (v := 0) hx hb (kdr dgL_meets_0 0 8 rfl rfl) (by decide) ?_
      refine va_putN (host := RL) (D := (dC, dI)) (ci := 4) (v := .long 0) (ty := .long) (C := RX2) (T := TX2) (N := 2) hx hb hts hiX2 tyX2 tyX2_ok nmX2 hown hK hP hD hS 15 rfl rfl 0 (by decide) (va_Nw.use rfl (hG.at 7 rfl)) (fun _ h9 => h9) rfl (by decide +kernel) rfl rfl (Nat.le_of_ble_eq_true rfl) (kdr dgL_meets_0 0 9 rfl rfl) (fun H locs hP hD hS => ?_)
      have hP : va_P (dC, dI) vwCl ((wSB cI cJ cZ a ce fr un sb se so sc wb we wo wc fb fe fo fc rm ac rf kn) ++ (wO o 0 ov)) H := hP
      have hD : va_D A ((wSB cI cJ cZ a ce fr un sb se so sc wb we wo wc fb fe fo fc rm ac rf kn) ++ (wO o 0 ov)) := hD
      refine lv_goto (tgt := 25) hx hb (kdr dgL_meets_0 1 0 rfl rfl) (by decide) ?_
      refine lv_iconst (v := 0) hx hb (kdr dgL_meets_0 1 4 rfl rfl) (by decide) ?_
      have h := Option.some.inj h
      subst h
      refine W.widen (k := 1) (n := 6) (Nat.le_of_ble_eq_true rfl) (Nat.le_of_ble_eq_true rfl) ?_
      exact kret_i (v := 0) hx hb hr rfl hlocks hS hP (kdr dgL_meets_0 1 5 rfl rfl)
    · have h := g_f c2 h
      refine lv_lconst (v := 1) hx hb (kdr dgL_meets_0 0 6 rfl rfl) (by decide) ?_
      refine lv_goto (tgt := 15) hx hb (kdr dgL_meets_0 0 7 rfl rfl) (by decide) ?_
      refine va_putN (host := RL) (D := (dC, dI)) (ci := 4) (v := .long 1) (ty := .long) (C := RX2) (T := TX2) (N := 2) hx hb hts hiX2 tyX2 tyX2_ok nmX2 hown hK hP hD hS 15 rfl rfl 0 (by decide) (va_Nw.use rfl (hG.at 7 rfl)) (fun _ h9 => h9) rfl (by decide +kernel) rfl rfl (Nat.le_of_ble_eq_true rfl) (kdr dgL_meets_0 0 9 rfl rfl) (fun H locs hP hD hS => ?_)
      have hP : va_P (dC, dI) vwCl ((wSB cI cJ cZ a ce fr un sb se so sc wb we wo wc fb fe fo fc rm ac rf kn) ++ (wO o 1 ov)) H := hP
      have hD : va_D A ((wSB cI cJ cZ a ce fr un sb se so sc wb we wo wc fb fe fo fc rm ac rf kn) ++ (wO o 1 ov)) := hD
      refine lv_goto (tgt := 25) hx hb (kdr dgL_meets_0 1 0 rfl rfl) (by decide) ?_
      refine lv_iconst (v := 0) hx hb (kdr dgL_meets_0 1 4 rfl rfl) (by decide) ?_
      have h := Option.some.inj h
      subst h
      refine W.widen (k := 1) (n := 6) (Nat.le_of_ble_eq_true rfl) (Nat.le_of_ble_eq_true rfl) ?_
      exact kret_i (v := 0) hx hb hr rfl hlocks hS hP (kdr dgL_meets_0 1 5 rfl rfl)
noncomputable abbrev wsL_at : List Cond := Cond.codeWith yL_at cL_at 4 (some .int) [(0, 10, 13, 19)] :: kBIG
noncomputable def f_L_at (ce : Nat → Int64) (sb : Nat → Int64) (se : Nat → Int64) (sc : Int32) (on : Int64) (p1 : Int32) : Option ((Int32) × (Int64)) :=
  xb (fx_X1_at p1) (fun k1 => if k1 = 1 then
  some (1, on)
else
  none) (
  (f_X1_at ce sb se sc p1).bind fun r1 =>
  some (0, r1.toInt64))
theorem f_L_at_e {ce : Nat → Int64} {sb : Nat → Int64} {se : Nat → Int64} {sc : Int32} {on : Int64} {p1 : Int32} : f_L_at ce sb se sc on p1 = 
  xb (fx_X1_at p1) (fun k1 => if k1 = 1 then
  some (1, on)
else
  none) (
  (f_X1_at ce sb se sc p1).bind fun r1 =>
  some (0, r1.toInt64)) := rfl
set_option maxHeartbeats 4000000 in
set_option maxRecDepth 100000 in
theorem c_L_at (l : Launch) (hl9 : l.stackTraces = false) (dC : Nat → ClassId) (dI : Nat → Nat → Nat) (cB cI cJ cZ : ClassId) (a : Nat → Nat) (o : Nat) (sz : Nat) (ce : Nat → Int64) (fr : Int64) (un : Int64) (sb : Nat → Int64) (se : Nat → Int64) (so : Nat → Int32) (sc : Int32) (wb : Nat → Int64) (we : Nat → Int64) (wo : Nat → Int32) (wc : Int32) (fb : Nat → Int64) (fe : Nat → Int64) (fo : Nat → Int32) (fc : Int32) (rm : Nat → Int32) (ac : Int32) (rf : Int32) (kn : Int32) (on : Int64) (ov : Value) (p1 : Int32) (res : (Int32) × (Int64)) (hf : f_L_at ce sb se sc on p1 = some res) : kMw l yL_at wsL_at (kRm 8 1 6 131) dC dI cB cI cJ cZ [.ref (a 0), .int p1, .ref o] sz ((wSB cI cJ cZ a ce fr un sb se so sc wb we wo wc fb fe fo fc rm ac rf kn) ++ (wO o on ov)) .int (res.1) ((wSB cI cJ cZ a ce fr un sb se so sc wb we wo wc fb fe fo fc rm ac rf kn) ++ (wO o (res.2) ov)) 1 6 := by
  refine kmet_w (y := yL_at) (cc := cL_at) (maxL := 4) (ret := (some .int)) (hh := [(0, 10, 13, 19)]) RL (kvA 0 (a 0) (kvI 1 p1 (kvA 2 o kvE))) kpl_L rfl rfl (Nat.le_of_ble_eq_true rfl) rfl (fun p e s m below meth c A ls hx hb hr hml hht hts hown hlocks hP hK hG hZ hD hA hS hl => ?_)
  have hw0 := hts (.classLink RL 19 "java/lang/IndexOutOfBoundsException") (List.mem_cons_of_mem _ kw_467)
  have hiX2 : ∀ w ∈ u_ws RX2 TX2 2, w ∈ wsL_at := fun w h => List.mem_cons_of_mem _ (ku_X2 w h)
  have h := f_L_at_e.symm.trans hf
  refine lv_aload_n hx hb (kdr dgL_at_0 0 0 rfl rfl) rfl (lv_at hl 2 rfl) ?_
  refine lv_aload_n hx hb (kdr dgL_at_0 0 1 rfl rfl) rfl (lv_at hl 0 rfl) ?_
  refine lv_iload_n hx hb (kdr dgL_at_0 0 2 rfl rfl) rfl (lv_at hl 1 rfl) ?_
  rcases g_x h with ⟨k1, j1, h⟩ | ⟨-, h⟩
  · refine kq_xh ((wSB cI cJ cZ a ce fr un sb se so sc wb we wo wc fb fe fo fc rm ac rf kn) ++ (wO o on ov)) (fun qP qD qF => vx_runV (As := [.int p1]) (rest := [.ref o]) ⟨hx, hb, hml, hown, hts⟩ (x_X1_at l hl9 dC dI cB cI cJ cZ a _ ce fr un sb se so sc wb we wo wc fb fe fo fc rm ac rf kn p1 k1 j1) (kcwV hts kw_1001 kv_X1_at rfl rfl ⟨(Nat.le_of_ble_eq_true rfl), (Nat.le_of_ble_eq_true rfl)⟩) (kpVXq (A := A) qP hK qD hG hZ hS qF (krecv_3 (q0 := 0) hK hP rfl)) rfl rfl hl.1 rfl (lv_room (Nat.le_of_ble_eq_true rfl)) (kdr dgL_at_0 0 3 rfl rfl) ⟨(Nat.le_of_ble_eq_true rfl), (Nat.le_of_ble_eq_true rfl)⟩) hP hD hS hA (kFr_l kFr_SB) (fun q9 ceQ H locs hP hD hS hce hcv hcl => ?_)
    by_cases e9 : k1 = 1
    · have h := g_t e9 h
      rw [kEx_1 e9] at hcl
      refine vx_catch (E := "java/lang/IndexOutOfBoundsException") (name := "java/lang/IndexOutOfBoundsException") (own := RL) hown [] ⟨0, 10, 13, 19⟩ [] hht (fun z hz => by cases hz) (by decide) (by decide) hw0 (va_Nw.use rfl (hG.at 4 rfl)) hce hcv hcl ?_
      refine lv_astore_n (lv' := (kvA 3 q9 (kvA 0 (a 0) (kvI 1 p1 (kvA 2 o kvE))))) hx hb (kdr dgL_at_0 0 7 rfl rfl) rfl hl (by decide) rfl (fun ls hl => ?_)
      refine lv_iconst (v := 1) hx hb (kdr dgL_at_0 0 8 rfl rfl) (by decide) ?_
      have h := Option.some.inj h
      subst h
      refine W.widen (k := 1) (n := 6) (Nat.le_of_ble_eq_true rfl) (Nat.le_of_ble_eq_true rfl) ?_
      exact kret_i (v := 1) hx hb hr rfl hlocks hS hP (kdr dgL_at_0 0 9 rfl rfl)
    · have h := g_f e9 h
      rw [kEx_2 e9] at hcl
      cases h
  · obtain ⟨r1, g1, h⟩ := g_b h
    refine kq_i ((wSB cI cJ cZ a ce fr un sb se so sc wb we wo wc fb fe fo fc rm ac rf kn) ++ (wO o on ov)) (fun qP qD qF => va_runV (As := [.int p1]) (rest := [.ref o]) ⟨hx, hb, hml, hown, hts⟩ (c_X1_at l dC dI cB cI cJ cZ a _ ce fr un sb se so sc wb we wo wc fb fe fo fc rm ac rf kn p1 r1 g1) (kcwV hts kw_1001 kv_X1_at rfl rfl ⟨(Nat.le_of_ble_eq_true rfl), (Nat.le_of_ble_eq_true rfl)⟩) (kpV (A := A) qP hK qD hG (krecv_3 (q0 := 0) hK hP rfl)) rfl rfl hl.1 rfl (lv_room (Nat.le_of_ble_eq_true rfl)) (kdr dgL_at_0 0 3 rfl rfl) ⟨(Nat.le_of_ble_eq_true rfl), (Nat.le_of_ble_eq_true rfl)⟩) hP hD hS hA (kFr_l kFr_SB) (fun H locs hP hD hS br1 => ?_)
    refine lv_i2l (v := r1.toInt64) hx hb (kdr dgL_at_0 0 4 rfl rfl) rfl ?_
    refine va_putN (host := RL) (D := (dC, dI)) (ci := 4) (v := .long r1.toInt64) (ty := .long) (C := RX2) (T := TX2) (N := 2) hx hb hts hiX2 tyX2 tyX2_ok nmX2 hown hK hP hD hS 15 rfl rfl 0 (by decide) (va_Nw.use rfl (hG.at 7 rfl)) (fun _ h9 => h9) rfl (by decide +kernel) rfl rfl (Nat.le_of_ble_eq_true rfl) (kdr dgL_at_0 0 5 rfl rfl) (fun H locs hP hD hS => ?_)
    have hP : va_P (dC, dI) vwCl ((wSB cI cJ cZ a ce fr un sb se so sc wb we wo wc fb fe fo fc rm ac rf kn) ++ (wO o r1.toInt64 ov)) H := hP
    have hD : va_D A ((wSB cI cJ cZ a ce fr un sb se so sc wb we wo wc fb fe fo fc rm ac rf kn) ++ (wO o r1.toInt64 ov)) := hD
    refine lv_goto (tgt := 16) hx hb (kdr dgL_at_0 0 6 rfl rfl) (by decide) ?_
    refine lv_iconst (v := 0) hx hb (kdr dgL_at_0 1 0 rfl rfl) (by decide) ?_
    have h := Option.some.inj h
    subst h
    refine W.widen (k := 1) (n := 6) (Nat.le_of_ble_eq_true rfl) (Nat.le_of_ble_eq_true rfl) ?_
    exact kret_i (v := 0) hx hb hr rfl hlocks hS hP (kdr dgL_at_0 1 1 rfl rfl)
noncomputable abbrev wsL_isFree : List Cond := Cond.codeWith yL_isFree cL_isFree 5 (some .int) [(0, 18, 21, 19)] :: kBIG
noncomputable def f_L_isFree (ce : Nat → Int64) (fr : Int64) (un : Int64) (sb : Nat → Int64) (se : Nat → Int64) (sc : Int32) (on : Int64) (p1 : Int32) (p2 : Int32) : Option ((Int32) × (Int64)) :=
  xb (fx_X1_isFree p1 p2) (fun k1 => if k1 = 1 then
  some (1, on)
else
  none) (
  (f_X1_isFree ce fr un sb se sc p1 p2).bind fun r1 =>
  if r1 = 0 then
    some (0, 0)
  else
    some (0, 1))
theorem f_L_isFree_e {ce : Nat → Int64} {fr : Int64} {un : Int64} {sb : Nat → Int64} {se : Nat → Int64} {sc : Int32} {on : Int64} {p1 : Int32} {p2 : Int32} : f_L_isFree ce fr un sb se sc on p1 p2 = 
  xb (fx_X1_isFree p1 p2) (fun k1 => if k1 = 1 then
  some (1, on)
else
  none) (
  (f_X1_isFree ce fr un sb se sc p1 p2).bind fun r1 =>
  if r1 = 0 then
    some (0, 0)
  else
    some (0, 1)) := rfl
set_option maxHeartbeats 4000000 in
set_option maxRecDepth 100000 in
theorem c_L_isFree (l : Launch) (hl9 : l.stackTraces = false) (dC : Nat → ClassId) (dI : Nat → Nat → Nat) (cB cI cJ cZ : ClassId) (a : Nat → Nat) (o : Nat) (sz : Nat) (ce : Nat → Int64) (fr : Int64) (un : Int64) (sb : Nat → Int64) (se : Nat → Int64) (so : Nat → Int32) (sc : Int32) (wb : Nat → Int64) (we : Nat → Int64) (wo : Nat → Int32) (wc : Int32) (fb : Nat → Int64) (fe : Nat → Int64) (fo : Nat → Int32) (fc : Int32) (rm : Nat → Int32) (ac : Int32) (rf : Int32) (kn : Int32) (on : Int64) (ov : Value) (p1 : Int32) (p2 : Int32) (res : (Int32) × (Int64)) (hf : f_L_isFree ce fr un sb se sc on p1 p2 = some res) : kMw l yL_isFree wsL_isFree (kRm 8 1 6 136) dC dI cB cI cJ cZ [.ref (a 0), .int p1, .int p2, .ref o] sz ((wSB cI cJ cZ a ce fr un sb se so sc wb we wo wc fb fe fo fc rm ac rf kn) ++ (wO o on ov)) .int (res.1) ((wSB cI cJ cZ a ce fr un sb se so sc wb we wo wc fb fe fo fc rm ac rf kn) ++ (wO o (res.2) ov)) 1 6 := by
  refine kmet_w (y := yL_isFree) (cc := cL_isFree) (maxL := 5) (ret := (some .int)) (hh := [(0, 18, 21, 19)]) RL (kvA 0 (a 0) (kvI 1 p1 (kvI 2 p2 (kvA 3 o kvE)))) kpl_L rfl rfl (Nat.le_of_ble_eq_true rfl) rfl (fun p e s m below meth c A ls hx hb hr hml hht hts hown hlocks hP hK hG hZ hD hA hS hl => ?_)
  have hw0 := hts (.classLink RL 19 "java/lang/IndexOutOfBoundsException") (List.mem_cons_of_mem _ kw_467)
  have hiX2 : ∀ w ∈ u_ws RX2 TX2 2, w ∈ wsL_isFree := fun w h => List.mem_cons_of_mem _ (ku_X2 w h)
  have h := f_L_isFree_e.symm.trans hf
  refine lv_aload_n hx hb (kdr dgL_isFree_0 0 0 rfl rfl) rfl (lv_at hl 3 rfl) ?_
  refine lv_aload_n hx hb (kdr dgL_isFree_0 0 1 rfl rfl) rfl (lv_at hl 0 rfl) ?_
  refine lv_iload_n hx hb (kdr dgL_isFree_0 0 2 rfl rfl) rfl (lv_at hl 1 rfl) ?_
  refine lv_iload_n hx hb (kdr dgL_isFree_0 0 3 rfl rfl) rfl (lv_at hl 2 rfl) ?_
  rcases g_x h with ⟨k1, j1, h⟩ | ⟨-, h⟩
  · refine kq_xh ((wSB cI cJ cZ a ce fr un sb se so sc wb we wo wc fb fe fo fc rm ac rf kn) ++ (wO o on ov)) (fun qP qD qF => vx_runV (As := [.int p1, .int p2]) (rest := [.ref o]) ⟨hx, hb, hml, hown, hts⟩ (x_X1_isFree l hl9 dC dI cB cI cJ cZ a _ ce fr un sb se so sc wb we wo wc fb fe fo fc rm ac rf kn p1 p2 k1 j1) (kcwV hts kw_1008 kv_X1_isFree rfl rfl ⟨(Nat.le_of_ble_eq_true rfl), (Nat.le_of_ble_eq_true rfl)⟩) (kpVXq (A := A) qP hK qD hG hZ hS qF (krecv_3 (q0 := 0) hK hP rfl)) rfl rfl hl.1 rfl (lv_room (Nat.le_of_ble_eq_true rfl)) (kdr dgL_isFree_0 0 4 rfl rfl) ⟨(Nat.le_of_ble_eq_true rfl), (Nat.le_of_ble_eq_true rfl)⟩) hP hD hS hA (kFr_l kFr_SB) (fun q9 ceQ H locs hP hD hS hce hcv hcl => ?_)
    by_cases e9 : k1 = 1
    · have h := g_t e9 h
      rw [kEx_1 e9] at hcl
      refine vx_catch (E := "java/lang/IndexOutOfBoundsException") (name := "java/lang/IndexOutOfBoundsException") (own := RL) hown [] ⟨0, 18, 21, 19⟩ [] hht (fun z hz => by cases hz) (by decide) (by decide) hw0 (va_Nw.use rfl (hG.at 4 rfl)) hce hcv hcl ?_
      refine lv_astore (lv' := (kvA 4 q9 (kvA 0 (a 0) (kvI 1 p1 (kvI 2 p2 (kvA 3 o kvE)))))) hx hb (kdr dgL_isFree_0 1 1 rfl rfl) hl (by decide) rfl (fun ls hl => ?_)
      refine lv_iconst (v := 1) hx hb (kdr dgL_isFree_0 1 2 rfl rfl) (by decide) ?_
      have h := Option.some.inj h
      subst h
      refine W.widen (k := 1) (n := 6) (Nat.le_of_ble_eq_true rfl) (Nat.le_of_ble_eq_true rfl) ?_
      exact kret_i (v := 1) hx hb hr rfl hlocks hS hP (kdr dgL_isFree_0 1 3 rfl rfl)
    · have h := g_f e9 h
      rw [kEx_2 e9] at hcl
      cases h
  · obtain ⟨r1, g1, h⟩ := g_b h
    refine kq_i ((wSB cI cJ cZ a ce fr un sb se so sc wb we wo wc fb fe fo fc rm ac rf kn) ++ (wO o on ov)) (fun qP qD qF => va_runV (As := [.int p1, .int p2]) (rest := [.ref o]) ⟨hx, hb, hml, hown, hts⟩ (c_X1_isFree l dC dI cB cI cJ cZ a _ ce fr un sb se so sc wb we wo wc fb fe fo fc rm ac rf kn p1 p2 r1 g1) (kcwV hts kw_1008 kv_X1_isFree rfl rfl ⟨(Nat.le_of_ble_eq_true rfl), (Nat.le_of_ble_eq_true rfl)⟩) (kpV (A := A) qP hK qD hG (krecv_3 (q0 := 0) hK hP rfl)) rfl rfl hl.1 rfl (lv_room (Nat.le_of_ble_eq_true rfl)) (kdr dgL_isFree_0 0 4 rfl rfl) ⟨(Nat.le_of_ble_eq_true rfl), (Nat.le_of_ble_eq_true rfl)⟩) hP hD hS hA (kFr_l kFr_SB) (fun H locs hP hD hS br1 => ?_)
    refine lv_if_eq (tgt := 14) hx hb (kdr dgL_isFree_0 0 5 rfl rfl) (by decide) (fun c2 => ?_) (fun c2 => ?_)
    · have h := g_t c2 h
      refine lv_lconst (v := 0) hx hb (kdr dgL_isFree_0 0 8 rfl rfl) (by decide) ?_
      refine va_putN (host := RL) (D := (dC, dI)) (ci := 4) (v := .long 0) (ty := .long) (C := RX2) (T := TX2) (N := 2) hx hb hts hiX2 tyX2 tyX2_ok nmX2 hown hK hP hD hS 15 rfl rfl 0 (by decide) (va_Nw.use rfl (hG.at 7 rfl)) (fun _ h9 => h9) rfl (by decide +kernel) rfl rfl (Nat.le_of_ble_eq_true rfl) (kdr dgL_isFree_0 0 9 rfl rfl) (fun H locs hP hD hS => ?_)
      have hP : va_P (dC, dI) vwCl ((wSB cI cJ cZ a ce fr un sb se so sc wb we wo wc fb fe fo fc rm ac rf kn) ++ (wO o 0 ov)) H := hP
      have hD : va_D A ((wSB cI cJ cZ a ce fr un sb se so sc wb we wo wc fb fe fo fc rm ac rf kn) ++ (wO o 0 ov)) := hD
      refine lv_goto (tgt := 25) hx hb (kdr dgL_isFree_0 1 0 rfl rfl) (by decide) ?_
      refine lv_iconst (v := 0) hx hb (kdr dgL_isFree_0 1 4 rfl rfl) (by decide) ?_
      have h := Option.some.inj h
      subst h
      refine W.widen (k := 1) (n := 6) (Nat.le_of_ble_eq_true rfl) (Nat.le_of_ble_eq_true rfl) ?_
      exact kret_i (v := 0) hx hb hr rfl hlocks hS hP (kdr dgL_isFree_0 1 5 rfl rfl)
    · have h := g_f c2 h
      refine lv_lconst (v := 1) hx hb (kdr dgL_isFree_0 0 6 rfl rfl) (by decide) ?_
      refine lv_goto (tgt := 15) hx hb (kdr dgL_isFree_0 0 7 rfl rfl) (by decide) ?_
      refine va_putN (host := RL) (D := (dC, dI)) (ci := 4) (v := .long 1) (ty := .long) (C := RX2) (T := TX2) (N := 2) hx hb hts hiX2 tyX2 tyX2_ok nmX2 hown hK hP hD hS 15 rfl rfl 0 (by decide) (va_Nw.use rfl (hG.at 7 rfl)) (fun _ h9 => h9) rfl (by decide +kernel) rfl rfl (Nat.le_of_ble_eq_true rfl) (kdr dgL_isFree_0 0 9 rfl rfl) (fun H locs hP hD hS => ?_)
      have hP : va_P (dC, dI) vwCl ((wSB cI cJ cZ a ce fr un sb se so sc wb we wo wc fb fe fo fc rm ac rf kn) ++ (wO o 1 ov)) H := hP
      have hD : va_D A ((wSB cI cJ cZ a ce fr un sb se so sc wb we wo wc fb fe fo fc rm ac rf kn) ++ (wO o 1 ov)) := hD
      refine lv_goto (tgt := 25) hx hb (kdr dgL_isFree_0 1 0 rfl rfl) (by decide) ?_
      refine lv_iconst (v := 0) hx hb (kdr dgL_isFree_0 1 4 rfl rfl) (by decide) ?_
      have h := Option.some.inj h
      subst h
      refine W.widen (k := 1) (n := 6) (Nat.le_of_ble_eq_true rfl) (Nat.le_of_ble_eq_true rfl) ?_
      exact kret_i (v := 0) hx hb hr rfl hlocks hS hP (kdr dgL_isFree_0 1 5 rfl rfl)
noncomputable abbrev wsL_ofFree : List Cond := Cond.codeWith yL_ofFree cL_ofFree 5 (some .int) [(0, 11, 14, 19), (0, 11, 18, 21)] :: kBIG
noncomputable def f_L_ofFree (fr : Int64) (un : Int64) (sb : Nat → Int64) (se : Nat → Int64) (sc : Int32) (fb : Nat → Int64) (fe : Nat → Int64) (fo : Nat → Int32) (fc : Int32) (on : Int64) (p1 : Int32) (p2 : Int32) : Option ((Int32) × (Nat → Int64) × (Nat → Int64) × (Nat → Int32) × (Int32) × (Int64)) :=
  xb (fx_X1_ofFree fr un sb se sc fb fe fo fc p1 p2) (fun k1 => if k1.1 = 1 then
  some (1, k1.2.1, k1.2.2.1, k1.2.2.2.1, k1.2.2.2.2, on)
else
  some (2, k1.2.1, k1.2.2.1, k1.2.2.2.1, k1.2.2.2.2, on)) (
  (f_X1_ofFree fr un sb se sc fb fe fo fc p1 p2).bind fun r1 =>
  some (0, r1.2.1, r1.2.2.1, r1.2.2.2.1, r1.2.2.2.2, r1.1.toInt64))
theorem f_L_ofFree_e {fr : Int64} {un : Int64} {sb : Nat → Int64} {se : Nat → Int64} {sc : Int32} {fb : Nat → Int64} {fe : Nat → Int64} {fo : Nat → Int32} {fc : Int32} {on : Int64} {p1 : Int32} {p2 : Int32} : f_L_ofFree fr un sb se sc fb fe fo fc on p1 p2 = 
  xb (fx_X1_ofFree fr un sb se sc fb fe fo fc p1 p2) (fun k1 => if k1.1 = 1 then
  some (1, k1.2.1, k1.2.2.1, k1.2.2.2.1, k1.2.2.2.2, on)
else
  some (2, k1.2.1, k1.2.2.1, k1.2.2.2.1, k1.2.2.2.2, on)) (
  (f_X1_ofFree fr un sb se sc fb fe fo fc p1 p2).bind fun r1 =>
  some (0, r1.2.1, r1.2.2.1, r1.2.2.2.1, r1.2.2.2.2, r1.1.toInt64)) := rfl
set_option maxHeartbeats 4000000 in
set_option maxRecDepth 100000 in
theorem c_L_ofFree (l : Launch) (hl9 : l.stackTraces = false) (dC : Nat → ClassId) (dI : Nat → Nat → Nat) (cB cI cJ cZ : ClassId) (a : Nat → Nat) (o : Nat) (sz : Nat) (ce : Nat → Int64) (fr : Int64) (un : Int64) (sb : Nat → Int64) (se : Nat → Int64) (so : Nat → Int32) (sc : Int32) (wb : Nat → Int64) (we : Nat → Int64) (wo : Nat → Int32) (wc : Int32) (fb : Nat → Int64) (fe : Nat → Int64) (fo : Nat → Int32) (fc : Int32) (rm : Nat → Int32) (ac : Int32) (rf : Int32) (kn : Int32) (on : Int64) (ov : Value) (p1 : Int32) (p2 : Int32) (res : (Int32) × (Nat → Int64) × (Nat → Int64) × (Nat → Int32) × (Int32) × (Int64)) (hf : f_L_ofFree fr un sb se sc fb fe fo fc on p1 p2 = some res) : kMw l yL_ofFree wsL_ofFree (kRm 8 1 6 133) dC dI cB cI cJ cZ [.ref (a 0), .int p1, .int p2, .ref o] sz ((wSB cI cJ cZ a ce fr un sb se so sc wb we wo wc fb fe fo fc rm ac rf kn) ++ (wO o on ov)) .int (res.1) ((wSB cI cJ cZ a ce fr un sb se so sc wb we wo wc (res.2.1) (res.2.2.1) (res.2.2.2.1) (res.2.2.2.2.1) rm ac rf kn) ++ (wO o (res.2.2.2.2.2) ov)) 1 6 := by
  refine kmet_w (y := yL_ofFree) (cc := cL_ofFree) (maxL := 5) (ret := (some .int)) (hh := [(0, 11, 14, 19), (0, 11, 18, 21)]) RL (kvA 0 (a 0) (kvI 1 p1 (kvI 2 p2 (kvA 3 o kvE)))) kpl_L rfl rfl (Nat.le_of_ble_eq_true rfl) rfl (fun p e s m below meth c A ls hx hb hr hml hht hts hown hlocks hP hK hG hZ hD hA hS hl => ?_)
  have hw0 := hts (.classLink RL 19 "java/lang/IndexOutOfBoundsException") (List.mem_cons_of_mem _ kw_467)
  have hw1 := hts (.classLink RL 21 "java/lang/IllegalArgumentException") (List.mem_cons_of_mem _ kw_468)
  have hiX2 : ∀ w ∈ u_ws RX2 TX2 2, w ∈ wsL_ofFree := fun w h => List.mem_cons_of_mem _ (ku_X2 w h)
  have h := f_L_ofFree_e.symm.trans hf
  refine lv_aload_n hx hb (kdr dgL_ofFree_0 0 0 rfl rfl) rfl (lv_at hl 3 rfl) ?_
  refine lv_aload_n hx hb (kdr dgL_ofFree_0 0 1 rfl rfl) rfl (lv_at hl 0 rfl) ?_
  refine lv_iload_n hx hb (kdr dgL_ofFree_0 0 2 rfl rfl) rfl (lv_at hl 1 rfl) ?_
  refine lv_iload_n hx hb (kdr dgL_ofFree_0 0 3 rfl rfl) rfl (lv_at hl 2 rfl) ?_
  rcases g_x h with ⟨k1, j1, h⟩ | ⟨-, h⟩
  · refine kq_xh ((wSB cI cJ cZ a ce fr un sb se so sc wb we wo wc k1.2.1 k1.2.2.1 k1.2.2.2.1 k1.2.2.2.2 rm ac rf kn) ++ (wO o on ov)) (fun qP qD qF => vx_runV (As := [.int p1, .int p2]) (rest := [.ref o]) ⟨hx, hb, hml, hown, hts⟩ (x_X1_ofFree l hl9 dC dI cB cI cJ cZ a _ ce fr un sb se so sc wb we wo wc fb fe fo fc rm ac rf kn p1 p2 k1 j1) (kcwV hts kw_1015 kv_X1_ofFree rfl rfl ⟨(Nat.le_of_ble_eq_true rfl), (Nat.le_of_ble_eq_true rfl)⟩) (kpVXq (A := A) qP hK qD hG hZ hS qF (krecv_3 (q0 := 0) hK hP rfl)) rfl rfl hl.1 rfl (lv_room (Nat.le_of_ble_eq_true rfl)) (kdr dgL_ofFree_0 0 4 rfl rfl) ⟨(Nat.le_of_ble_eq_true rfl), (Nat.le_of_ble_eq_true rfl)⟩) hP hD hS hA (kFr_l kFr_SB) (fun q9 ceQ H locs hP hD hS hce hcv hcl => ?_)
    by_cases e9 : k1.1 = 1
    · have h := g_t e9 h
      rw [kEx_1 e9] at hcl
      refine vx_catch (E := "java/lang/IndexOutOfBoundsException") (name := "java/lang/IndexOutOfBoundsException") (own := RL) hown [] ⟨0, 11, 14, 19⟩ [⟨0, 11, 18, 21⟩] hht (fun z hz => by cases hz) (by decide) (by decide) hw0 (va_Nw.use rfl (hG.at 4 rfl)) hce hcv hcl ?_
      refine lv_astore (lv' := (kvA 4 q9 (kvA 0 (a 0) (kvI 1 p1 (kvI 2 p2 (kvA 3 o kvE)))))) hx hb (kdr dgL_ofFree_0 0 8 rfl rfl) hl (by decide) rfl (fun ls hl => ?_)
      refine lv_iconst (v := 1) hx hb (kdr dgL_ofFree_0 0 9 rfl rfl) (by decide) ?_
      have h := Option.some.inj h
      subst h
      refine W.widen (k := 1) (n := 6) (Nat.le_of_ble_eq_true rfl) (Nat.le_of_ble_eq_true rfl) ?_
      exact kret_i (v := 1) hx hb hr rfl hlocks hS hP (kdr dgL_ofFree_0 1 0 rfl rfl)
    · have h := g_f e9 h
      rw [kEx_2 e9] at hcl
      refine vx_catch (E := "java/lang/IllegalArgumentException") (name := "java/lang/IllegalArgumentException") (own := RL) hown [⟨0, 11, 14, 19⟩] ⟨0, 11, 18, 21⟩ [] hht (fun z hz => by rcases List.mem_singleton.mp hz with rfl; exact Or.inr ⟨by decide, _, hw0, hG.2⟩) (by decide) (by decide) hw1 (va_Nw.use rfl (hG.at 5 rfl)) hce hcv hcl ?_
      refine lv_astore (lv' := (kvA 4 q9 (kvA 0 (a 0) (kvI 1 p1 (kvI 2 p2 (kvA 3 o kvE)))))) hx hb (kdr dgL_ofFree_0 1 1 rfl rfl) hl (by decide) rfl (fun ls hl => ?_)
      refine lv_iconst (v := 2) hx hb (kdr dgL_ofFree_0 1 2 rfl rfl) (by decide) ?_
      have h := Option.some.inj h
      subst h
      refine W.widen (k := 1) (n := 6) (Nat.le_of_ble_eq_true rfl) (Nat.le_of_ble_eq_true rfl) ?_
      exact kret_i (v := 2) hx hb hr rfl hlocks hS hP (kdr dgL_ofFree_0 1 3 rfl rfl)
  · obtain ⟨r1, g1, h⟩ := g_b h
    refine kq_i ((wSB cI cJ cZ a ce fr un sb se so sc wb we wo wc r1.2.1 r1.2.2.1 r1.2.2.2.1 r1.2.2.2.2 rm ac rf kn) ++ (wO o on ov)) (fun qP qD qF => va_runV (As := [.int p1, .int p2]) (rest := [.ref o]) ⟨hx, hb, hml, hown, hts⟩ (c_X1_ofFree l dC dI cB cI cJ cZ a _ ce fr un sb se so sc wb we wo wc fb fe fo fc rm ac rf kn p1 p2 r1 g1) (kcwV hts kw_1015 kv_X1_ofFree rfl rfl ⟨(Nat.le_of_ble_eq_true rfl), (Nat.le_of_ble_eq_true rfl)⟩) (kpV (A := A) qP hK qD hG (krecv_3 (q0 := 0) hK hP rfl)) rfl rfl hl.1 rfl (lv_room (Nat.le_of_ble_eq_true rfl)) (kdr dgL_ofFree_0 0 4 rfl rfl) ⟨(Nat.le_of_ble_eq_true rfl), (Nat.le_of_ble_eq_true rfl)⟩) hP hD hS hA (kFr_l kFr_SB) (fun H locs hP hD hS br1 => ?_)
    refine lv_i2l (v := r1.1.toInt64) hx hb (kdr dgL_ofFree_0 0 5 rfl rfl) rfl ?_
    refine va_putN (host := RL) (D := (dC, dI)) (ci := 4) (v := .long r1.1.toInt64) (ty := .long) (C := RX2) (T := TX2) (N := 2) hx hb hts hiX2 tyX2 tyX2_ok nmX2 hown hK hP hD hS 15 rfl rfl 0 (by decide) (va_Nw.use rfl (hG.at 7 rfl)) (fun _ h9 => h9) rfl (by decide +kernel) rfl rfl (Nat.le_of_ble_eq_true rfl) (kdr dgL_ofFree_0 0 6 rfl rfl) (fun H locs hP hD hS => ?_)
    have hP : va_P (dC, dI) vwCl ((wSB cI cJ cZ a ce fr un sb se so sc wb we wo wc r1.2.1 r1.2.2.1 r1.2.2.2.1 r1.2.2.2.2 rm ac rf kn) ++ (wO o r1.1.toInt64 ov)) H := hP
    have hD : va_D A ((wSB cI cJ cZ a ce fr un sb se so sc wb we wo wc r1.2.1 r1.2.2.1 r1.2.2.2.1 r1.2.2.2.2 rm ac rf kn) ++ (wO o r1.1.toInt64 ov)) := hD
    refine lv_goto (tgt := 22) hx hb (kdr dgL_ofFree_0 0 7 rfl rfl) (by decide) ?_
    refine lv_iconst (v := 0) hx hb (kdr dgL_ofFree_0 1 4 rfl rfl) (by decide) ?_
    have h := Option.some.inj h
    subst h
    refine W.widen (k := 1) (n := 6) (Nat.le_of_ble_eq_true rfl) (Nat.le_of_ble_eq_true rfl) ?_
    exact kret_i (v := 0) hx hb hr rfl hlocks hS hP (kdr dgL_ofFree_0 1 5 rfl rfl)
noncomputable abbrev wsL_freeAt : List Cond := Cond.codeWith yL_freeAt cL_freeAt 4 (some .int) [(0, 10, 13, 19)] :: kBIG
noncomputable def f_L_freeAt (ce : Nat → Int64) (fr : Int64) (un : Int64) (sb : Nat → Int64) (se : Nat → Int64) (sc : Int32) (fb : Nat → Int64) (fe : Nat → Int64) (fo : Nat → Int32) (fc : Int32) (on : Int64) (p1 : Int32) : Option ((Int32) × (Nat → Int64) × (Nat → Int64) × (Nat → Int32) × (Int32) × (Int64)) :=
  xb (fx_X1_freeAt p1) (fun k1 => if k1 = 1 then
  some (1, fb, fe, fo, fc, on)
else
  none) (
  (f_X1_freeAt ce fr un sb se sc fb fe fo fc p1).bind fun r1 =>
  some (0, r1.2.1, r1.2.2.1, r1.2.2.2.1, r1.2.2.2.2, r1.1.toInt64))
theorem f_L_freeAt_e {ce : Nat → Int64} {fr : Int64} {un : Int64} {sb : Nat → Int64} {se : Nat → Int64} {sc : Int32} {fb : Nat → Int64} {fe : Nat → Int64} {fo : Nat → Int32} {fc : Int32} {on : Int64} {p1 : Int32} : f_L_freeAt ce fr un sb se sc fb fe fo fc on p1 = 
  xb (fx_X1_freeAt p1) (fun k1 => if k1 = 1 then
  some (1, fb, fe, fo, fc, on)
else
  none) (
  (f_X1_freeAt ce fr un sb se sc fb fe fo fc p1).bind fun r1 =>
  some (0, r1.2.1, r1.2.2.1, r1.2.2.2.1, r1.2.2.2.2, r1.1.toInt64)) := rfl
set_option maxHeartbeats 4000000 in
set_option maxRecDepth 100000 in
theorem c_L_freeAt (l : Launch) (hl9 : l.stackTraces = false) (dC : Nat → ClassId) (dI : Nat → Nat → Nat) (cB cI cJ cZ : ClassId) (a : Nat → Nat) (o : Nat) (sz : Nat) (ce : Nat → Int64) (fr : Int64) (un : Int64) (sb : Nat → Int64) (se : Nat → Int64) (so : Nat → Int32) (sc : Int32) (wb : Nat → Int64) (we : Nat → Int64) (wo : Nat → Int32) (wc : Int32) (fb : Nat → Int64) (fe : Nat → Int64) (fo : Nat → Int32) (fc : Int32) (rm : Nat → Int32) (ac : Int32) (rf : Int32) (kn : Int32) (on : Int64) (ov : Value) (p1 : Int32) (res : (Int32) × (Nat → Int64) × (Nat → Int64) × (Nat → Int32) × (Int32) × (Int64)) (hf : f_L_freeAt ce fr un sb se sc fb fe fo fc on p1 = some res) : kMw l yL_freeAt wsL_freeAt (kRm 8 1 6 131) dC dI cB cI cJ cZ [.ref (a 0), .int p1, .ref o] sz ((wSB cI cJ cZ a ce fr un sb se so sc wb we wo wc fb fe fo fc rm ac rf kn) ++ (wO o on ov)) .int (res.1) ((wSB cI cJ cZ a ce fr un sb se so sc wb we wo wc (res.2.1) (res.2.2.1) (res.2.2.2.1) (res.2.2.2.2.1) rm ac rf kn) ++ (wO o (res.2.2.2.2.2) ov)) 1 6 := by
  refine kmet_w (y := yL_freeAt) (cc := cL_freeAt) (maxL := 4) (ret := (some .int)) (hh := [(0, 10, 13, 19)]) RL (kvA 0 (a 0) (kvI 1 p1 (kvA 2 o kvE))) kpl_L rfl rfl (Nat.le_of_ble_eq_true rfl) rfl (fun p e s m below meth c A ls hx hb hr hml hht hts hown hlocks hP hK hG hZ hD hA hS hl => ?_)
  have hw0 := hts (.classLink RL 19 "java/lang/IndexOutOfBoundsException") (List.mem_cons_of_mem _ kw_467)
  have hiX2 : ∀ w ∈ u_ws RX2 TX2 2, w ∈ wsL_freeAt := fun w h => List.mem_cons_of_mem _ (ku_X2 w h)
  have h := f_L_freeAt_e.symm.trans hf
  refine lv_aload_n hx hb (kdr dgL_freeAt_0 0 0 rfl rfl) rfl (lv_at hl 2 rfl) ?_
  refine lv_aload_n hx hb (kdr dgL_freeAt_0 0 1 rfl rfl) rfl (lv_at hl 0 rfl) ?_
  refine lv_iload_n hx hb (kdr dgL_freeAt_0 0 2 rfl rfl) rfl (lv_at hl 1 rfl) ?_
  rcases g_x h with ⟨k1, j1, h⟩ | ⟨-, h⟩
  · refine kq_xh ((wSB cI cJ cZ a ce fr un sb se so sc wb we wo wc fb fe fo fc rm ac rf kn) ++ (wO o on ov)) (fun qP qD qF => vx_runV (As := [.int p1]) (rest := [.ref o]) ⟨hx, hb, hml, hown, hts⟩ (x_X1_freeAt l hl9 dC dI cB cI cJ cZ a _ ce fr un sb se so sc wb we wo wc fb fe fo fc rm ac rf kn p1 k1 j1) (kcwV hts kw_1022 kv_X1_freeAt rfl rfl ⟨(Nat.le_of_ble_eq_true rfl), (Nat.le_of_ble_eq_true rfl)⟩) (kpVXq (A := A) qP hK qD hG hZ hS qF (krecv_3 (q0 := 0) hK hP rfl)) rfl rfl hl.1 rfl (lv_room (Nat.le_of_ble_eq_true rfl)) (kdr dgL_freeAt_0 0 3 rfl rfl) ⟨(Nat.le_of_ble_eq_true rfl), (Nat.le_of_ble_eq_true rfl)⟩) hP hD hS hA (kFr_l kFr_SB) (fun q9 ceQ H locs hP hD hS hce hcv hcl => ?_)
    by_cases e9 : k1 = 1
    · have h := g_t e9 h
      rw [kEx_1 e9] at hcl
      refine vx_catch (E := "java/lang/IndexOutOfBoundsException") (name := "java/lang/IndexOutOfBoundsException") (own := RL) hown [] ⟨0, 10, 13, 19⟩ [] hht (fun z hz => by cases hz) (by decide) (by decide) hw0 (va_Nw.use rfl (hG.at 4 rfl)) hce hcv hcl ?_
      refine lv_astore_n (lv' := (kvA 3 q9 (kvA 0 (a 0) (kvI 1 p1 (kvA 2 o kvE))))) hx hb (kdr dgL_freeAt_0 0 7 rfl rfl) rfl hl (by decide) rfl (fun ls hl => ?_)
      refine lv_iconst (v := 1) hx hb (kdr dgL_freeAt_0 0 8 rfl rfl) (by decide) ?_
      have h := Option.some.inj h
      subst h
      refine W.widen (k := 1) (n := 6) (Nat.le_of_ble_eq_true rfl) (Nat.le_of_ble_eq_true rfl) ?_
      exact kret_i (v := 1) hx hb hr rfl hlocks hS hP (kdr dgL_freeAt_0 0 9 rfl rfl)
    · have h := g_f e9 h
      rw [kEx_2 e9] at hcl
      cases h
  · obtain ⟨r1, g1, h⟩ := g_b h
    refine kq_i ((wSB cI cJ cZ a ce fr un sb se so sc wb we wo wc r1.2.1 r1.2.2.1 r1.2.2.2.1 r1.2.2.2.2 rm ac rf kn) ++ (wO o on ov)) (fun qP qD qF => va_runV (As := [.int p1]) (rest := [.ref o]) ⟨hx, hb, hml, hown, hts⟩ (c_X1_freeAt l dC dI cB cI cJ cZ a _ ce fr un sb se so sc wb we wo wc fb fe fo fc rm ac rf kn p1 r1 g1) (kcwV hts kw_1022 kv_X1_freeAt rfl rfl ⟨(Nat.le_of_ble_eq_true rfl), (Nat.le_of_ble_eq_true rfl)⟩) (kpV (A := A) qP hK qD hG (krecv_3 (q0 := 0) hK hP rfl)) rfl rfl hl.1 rfl (lv_room (Nat.le_of_ble_eq_true rfl)) (kdr dgL_freeAt_0 0 3 rfl rfl) ⟨(Nat.le_of_ble_eq_true rfl), (Nat.le_of_ble_eq_true rfl)⟩) hP hD hS hA (kFr_l kFr_SB) (fun H locs hP hD hS br1 => ?_)
    refine lv_i2l (v := r1.1.toInt64) hx hb (kdr dgL_freeAt_0 0 4 rfl rfl) rfl ?_
    refine va_putN (host := RL) (D := (dC, dI)) (ci := 4) (v := .long r1.1.toInt64) (ty := .long) (C := RX2) (T := TX2) (N := 2) hx hb hts hiX2 tyX2 tyX2_ok nmX2 hown hK hP hD hS 15 rfl rfl 0 (by decide) (va_Nw.use rfl (hG.at 7 rfl)) (fun _ h9 => h9) rfl (by decide +kernel) rfl rfl (Nat.le_of_ble_eq_true rfl) (kdr dgL_freeAt_0 0 5 rfl rfl) (fun H locs hP hD hS => ?_)
    have hP : va_P (dC, dI) vwCl ((wSB cI cJ cZ a ce fr un sb se so sc wb we wo wc r1.2.1 r1.2.2.1 r1.2.2.2.1 r1.2.2.2.2 rm ac rf kn) ++ (wO o r1.1.toInt64 ov)) H := hP
    have hD : va_D A ((wSB cI cJ cZ a ce fr un sb se so sc wb we wo wc r1.2.1 r1.2.2.1 r1.2.2.2.1 r1.2.2.2.2 rm ac rf kn) ++ (wO o r1.1.toInt64 ov)) := hD
    refine lv_goto (tgt := 16) hx hb (kdr dgL_freeAt_0 0 6 rfl rfl) (by decide) ?_
    refine lv_iconst (v := 0) hx hb (kdr dgL_freeAt_0 1 0 rfl rfl) (by decide) ?_
    have h := Option.some.inj h
    subst h
    refine W.widen (k := 1) (n := 6) (Nat.le_of_ble_eq_true rfl) (Nat.le_of_ble_eq_true rfl) ?_
    exact kret_i (v := 0) hx hb hr rfl hlocks hS hP (kdr dgL_freeAt_0 1 1 rfl rfl)
noncomputable abbrev wsL_length : List Cond := Cond.codeWith yL_length cL_length 4 (some .int) [(0, 10, 13, 21)] :: kBIG
noncomputable def f_L_length (fr : Int64) (un : Int64) (sb : Nat → Int64) (se : Nat → Int64) (sc : Int32) (fb : Nat → Int64) (fe : Nat → Int64) (fo : Nat → Int32) (fc : Int32) (on : Int64) (p1 : Int32) : Option ((Int32) × (Nat → Int64) × (Nat → Int64) × (Nat → Int32) × (Int32) × (Int64)) :=
  xb (fx_X1_length p1) (fun k1 => if k1 = 1 then
  none
else
  some (1, fb, fe, fo, fc, on)) (
  (f_X1_length fr un sb se sc fb fe fo fc p1).bind fun r1 =>
  some (0, r1.2.1, r1.2.2.1, r1.2.2.2.1, r1.2.2.2.2, r1.1.toInt64))
theorem f_L_length_e {fr : Int64} {un : Int64} {sb : Nat → Int64} {se : Nat → Int64} {sc : Int32} {fb : Nat → Int64} {fe : Nat → Int64} {fo : Nat → Int32} {fc : Int32} {on : Int64} {p1 : Int32} : f_L_length fr un sb se sc fb fe fo fc on p1 = 
  xb (fx_X1_length p1) (fun k1 => if k1 = 1 then
  none
else
  some (1, fb, fe, fo, fc, on)) (
  (f_X1_length fr un sb se sc fb fe fo fc p1).bind fun r1 =>
  some (0, r1.2.1, r1.2.2.1, r1.2.2.2.1, r1.2.2.2.2, r1.1.toInt64)) := rfl
set_option maxHeartbeats 4000000 in
set_option maxRecDepth 100000 in
theorem c_L_length (l : Launch) (hl9 : l.stackTraces = false) (dC : Nat → ClassId) (dI : Nat → Nat → Nat) (cB cI cJ cZ : ClassId) (a : Nat → Nat) (o : Nat) (sz : Nat) (ce : Nat → Int64) (fr : Int64) (un : Int64) (sb : Nat → Int64) (se : Nat → Int64) (so : Nat → Int32) (sc : Int32) (wb : Nat → Int64) (we : Nat → Int64) (wo : Nat → Int32) (wc : Int32) (fb : Nat → Int64) (fe : Nat → Int64) (fo : Nat → Int32) (fc : Int32) (rm : Nat → Int32) (ac : Int32) (rf : Int32) (kn : Int32) (on : Int64) (ov : Value) (p1 : Int32) (res : (Int32) × (Nat → Int64) × (Nat → Int64) × (Nat → Int32) × (Int32) × (Int64)) (hf : f_L_length fr un sb se sc fb fe fo fc on p1 = some res) : kMw l yL_length wsL_length (kRm 8 1 6 131) dC dI cB cI cJ cZ [.ref (a 0), .int p1, .ref o] sz ((wSB cI cJ cZ a ce fr un sb se so sc wb we wo wc fb fe fo fc rm ac rf kn) ++ (wO o on ov)) .int (res.1) ((wSB cI cJ cZ a ce fr un sb se so sc wb we wo wc (res.2.1) (res.2.2.1) (res.2.2.2.1) (res.2.2.2.2.1) rm ac rf kn) ++ (wO o (res.2.2.2.2.2) ov)) 1 6 := by
  refine kmet_w (y := yL_length) (cc := cL_length) (maxL := 4) (ret := (some .int)) (hh := [(0, 10, 13, 21)]) RL (kvA 0 (a 0) (kvI 1 p1 (kvA 2 o kvE))) kpl_L rfl rfl (Nat.le_of_ble_eq_true rfl) rfl (fun p e s m below meth c A ls hx hb hr hml hht hts hown hlocks hP hK hG hZ hD hA hS hl => ?_)
  have hw0 := hts (.classLink RL 21 "java/lang/IllegalArgumentException") (List.mem_cons_of_mem _ kw_468)
  have hiX2 : ∀ w ∈ u_ws RX2 TX2 2, w ∈ wsL_length := fun w h => List.mem_cons_of_mem _ (ku_X2 w h)
  have h := f_L_length_e.symm.trans hf
  refine lv_aload_n hx hb (kdr dgL_length_0 0 0 rfl rfl) rfl (lv_at hl 2 rfl) ?_
  refine lv_aload_n hx hb (kdr dgL_length_0 0 1 rfl rfl) rfl (lv_at hl 0 rfl) ?_
  refine lv_iload_n hx hb (kdr dgL_length_0 0 2 rfl rfl) rfl (lv_at hl 1 rfl) ?_
  rcases g_x h with ⟨k1, j1, h⟩ | ⟨-, h⟩
  · refine kq_xh ((wSB cI cJ cZ a ce fr un sb se so sc wb we wo wc fb fe fo fc rm ac rf kn) ++ (wO o on ov)) (fun qP qD qF => vx_runV (As := [.int p1]) (rest := [.ref o]) ⟨hx, hb, hml, hown, hts⟩ (x_X1_length l hl9 dC dI cB cI cJ cZ a _ ce fr un sb se so sc wb we wo wc fb fe fo fc rm ac rf kn p1 k1 j1) (kcwV hts kw_1029 kv_X1_length rfl rfl ⟨(Nat.le_of_ble_eq_true rfl), (Nat.le_of_ble_eq_true rfl)⟩) (kpVXq (A := A) qP hK qD hG hZ hS qF (krecv_3 (q0 := 0) hK hP rfl)) rfl rfl hl.1 rfl (lv_room (Nat.le_of_ble_eq_true rfl)) (kdr dgL_length_0 0 3 rfl rfl) ⟨(Nat.le_of_ble_eq_true rfl), (Nat.le_of_ble_eq_true rfl)⟩) hP hD hS hA (kFr_l kFr_SB) (fun q9 ceQ H locs hP hD hS hce hcv hcl => ?_)
    by_cases e9 : k1 = 1
    · have h := g_t e9 h
      rw [kEx_1 e9] at hcl
      cases h
    · have h := g_f e9 h
      rw [kEx_2 e9] at hcl
      refine vx_catch (E := "java/lang/IllegalArgumentException") (name := "java/lang/IllegalArgumentException") (own := RL) hown [] ⟨0, 10, 13, 21⟩ [] hht (fun z hz => by cases hz) (by decide) (by decide) hw0 (va_Nw.use rfl (hG.at 5 rfl)) hce hcv hcl ?_
      refine lv_astore_n (lv' := (kvA 3 q9 (kvA 0 (a 0) (kvI 1 p1 (kvA 2 o kvE))))) hx hb (kdr dgL_length_0 0 7 rfl rfl) rfl hl (by decide) rfl (fun ls hl => ?_)
      refine lv_iconst (v := 1) hx hb (kdr dgL_length_0 0 8 rfl rfl) (by decide) ?_
      have h := Option.some.inj h
      subst h
      refine W.widen (k := 1) (n := 6) (Nat.le_of_ble_eq_true rfl) (Nat.le_of_ble_eq_true rfl) ?_
      exact kret_i (v := 1) hx hb hr rfl hlocks hS hP (kdr dgL_length_0 0 9 rfl rfl)
  · obtain ⟨r1, g1, h⟩ := g_b h
    refine kq_i ((wSB cI cJ cZ a ce fr un sb se so sc wb we wo wc r1.2.1 r1.2.2.1 r1.2.2.2.1 r1.2.2.2.2 rm ac rf kn) ++ (wO o on ov)) (fun qP qD qF => va_runV (As := [.int p1]) (rest := [.ref o]) ⟨hx, hb, hml, hown, hts⟩ (c_X1_length l dC dI cB cI cJ cZ a _ ce fr un sb se so sc wb we wo wc fb fe fo fc rm ac rf kn p1 r1 g1) (kcwV hts kw_1029 kv_X1_length rfl rfl ⟨(Nat.le_of_ble_eq_true rfl), (Nat.le_of_ble_eq_true rfl)⟩) (kpV (A := A) qP hK qD hG (krecv_3 (q0 := 0) hK hP rfl)) rfl rfl hl.1 rfl (lv_room (Nat.le_of_ble_eq_true rfl)) (kdr dgL_length_0 0 3 rfl rfl) ⟨(Nat.le_of_ble_eq_true rfl), (Nat.le_of_ble_eq_true rfl)⟩) hP hD hS hA (kFr_l kFr_SB) (fun H locs hP hD hS br1 => ?_)
    refine lv_i2l (v := r1.1.toInt64) hx hb (kdr dgL_length_0 0 4 rfl rfl) rfl ?_
    refine va_putN (host := RL) (D := (dC, dI)) (ci := 4) (v := .long r1.1.toInt64) (ty := .long) (C := RX2) (T := TX2) (N := 2) hx hb hts hiX2 tyX2 tyX2_ok nmX2 hown hK hP hD hS 15 rfl rfl 0 (by decide) (va_Nw.use rfl (hG.at 7 rfl)) (fun _ h9 => h9) rfl (by decide +kernel) rfl rfl (Nat.le_of_ble_eq_true rfl) (kdr dgL_length_0 0 5 rfl rfl) (fun H locs hP hD hS => ?_)
    have hP : va_P (dC, dI) vwCl ((wSB cI cJ cZ a ce fr un sb se so sc wb we wo wc r1.2.1 r1.2.2.1 r1.2.2.2.1 r1.2.2.2.2 rm ac rf kn) ++ (wO o r1.1.toInt64 ov)) H := hP
    have hD : va_D A ((wSB cI cJ cZ a ce fr un sb se so sc wb we wo wc r1.2.1 r1.2.2.1 r1.2.2.2.1 r1.2.2.2.2 rm ac rf kn) ++ (wO o r1.1.toInt64 ov)) := hD
    refine lv_goto (tgt := 16) hx hb (kdr dgL_length_0 0 6 rfl rfl) (by decide) ?_
    refine lv_iconst (v := 0) hx hb (kdr dgL_length_0 1 0 rfl rfl) (by decide) ?_
    have h := Option.some.inj h
    subst h
    refine W.widen (k := 1) (n := 6) (Nat.le_of_ble_eq_true rfl) (Nat.le_of_ble_eq_true rfl) ?_
    exact kret_i (v := 0) hx hb hr rfl hlocks hS hP (kdr dgL_length_0 1 1 rfl rfl)
noncomputable abbrev wsL_ofWish : List Cond := Cond.codeWith yL_ofWish cL_ofWish 5 (some .int) [(0, 11, 14, 19), (0, 11, 18, 21)] :: kBIG
noncomputable def f_L_ofWish (wb : Nat → Int64) (we : Nat → Int64) (wc : Int32) (on : Int64) (p1 : Int32) (p2 : Int32) : Option ((Int32) × (Int64)) :=
  xb (fx_X1_ofWish wc p1 p2) (fun k1 => if k1 = 1 then
  some (1, on)
else
  some (2, on)) (
  (f_X1_ofWish wb we wc p1 p2).bind fun r1 =>
  some (0, r1.toInt64))
theorem f_L_ofWish_e {wb : Nat → Int64} {we : Nat → Int64} {wc : Int32} {on : Int64} {p1 : Int32} {p2 : Int32} : f_L_ofWish wb we wc on p1 p2 = 
  xb (fx_X1_ofWish wc p1 p2) (fun k1 => if k1 = 1 then
  some (1, on)
else
  some (2, on)) (
  (f_X1_ofWish wb we wc p1 p2).bind fun r1 =>
  some (0, r1.toInt64)) := rfl
set_option maxHeartbeats 4000000 in
set_option maxRecDepth 100000 in
theorem c_L_ofWish (l : Launch) (hl9 : l.stackTraces = false) (dC : Nat → ClassId) (dI : Nat → Nat → Nat) (cB cI cJ cZ : ClassId) (a : Nat → Nat) (o : Nat) (sz : Nat) (ce : Nat → Int64) (fr : Int64) (un : Int64) (sb : Nat → Int64) (se : Nat → Int64) (so : Nat → Int32) (sc : Int32) (wb : Nat → Int64) (we : Nat → Int64) (wo : Nat → Int32) (wc : Int32) (fb : Nat → Int64) (fe : Nat → Int64) (fo : Nat → Int32) (fc : Int32) (rm : Nat → Int32) (ac : Int32) (rf : Int32) (kn : Int32) (on : Int64) (ov : Value) (p1 : Int32) (p2 : Int32) (res : (Int32) × (Int64)) (hf : f_L_ofWish wb we wc on p1 p2 = some res) : kMw l yL_ofWish wsL_ofWish (kRm 8 1 6 133) dC dI cB cI cJ cZ [.ref (a 0), .int p1, .int p2, .ref o] sz ((wSB cI cJ cZ a ce fr un sb se so sc wb we wo wc fb fe fo fc rm ac rf kn) ++ (wO o on ov)) .int (res.1) ((wSB cI cJ cZ a ce fr un sb se so sc wb we wo wc fb fe fo fc rm ac rf kn) ++ (wO o (res.2) ov)) 1 6 := by
  refine kmet_w (y := yL_ofWish) (cc := cL_ofWish) (maxL := 5) (ret := (some .int)) (hh := [(0, 11, 14, 19), (0, 11, 18, 21)]) RL (kvA 0 (a 0) (kvI 1 p1 (kvI 2 p2 (kvA 3 o kvE)))) kpl_L rfl rfl (Nat.le_of_ble_eq_true rfl) rfl (fun p e s m below meth c A ls hx hb hr hml hht hts hown hlocks hP hK hG hZ hD hA hS hl => ?_)
  have hw0 := hts (.classLink RL 19 "java/lang/IndexOutOfBoundsException") (List.mem_cons_of_mem _ kw_467)
  have hw1 := hts (.classLink RL 21 "java/lang/IllegalArgumentException") (List.mem_cons_of_mem _ kw_468)
  have hiX2 : ∀ w ∈ u_ws RX2 TX2 2, w ∈ wsL_ofWish := fun w h => List.mem_cons_of_mem _ (ku_X2 w h)
  have h := f_L_ofWish_e.symm.trans hf
  refine lv_aload_n hx hb (kdr dgL_ofWish_0 0 0 rfl rfl) rfl (lv_at hl 3 rfl) ?_
  refine lv_aload_n hx hb (kdr dgL_ofWish_0 0 1 rfl rfl) rfl (lv_at hl 0 rfl) ?_
  refine lv_iload_n hx hb (kdr dgL_ofWish_0 0 2 rfl rfl) rfl (lv_at hl 1 rfl) ?_
  refine lv_iload_n hx hb (kdr dgL_ofWish_0 0 3 rfl rfl) rfl (lv_at hl 2 rfl) ?_
  rcases g_x h with ⟨k1, j1, h⟩ | ⟨-, h⟩
  · refine kq_xh ((wSB cI cJ cZ a ce fr un sb se so sc wb we wo wc fb fe fo fc rm ac rf kn) ++ (wO o on ov)) (fun qP qD qF => vx_runV (As := [.int p1, .int p2]) (rest := [.ref o]) ⟨hx, hb, hml, hown, hts⟩ (x_X1_ofWish l hl9 dC dI cB cI cJ cZ a _ ce fr un sb se so sc wb we wo wc fb fe fo fc rm ac rf kn p1 p2 k1 j1) (kcwV hts kw_1033 kv_X1_ofWish rfl rfl ⟨(Nat.le_of_ble_eq_true rfl), (Nat.le_of_ble_eq_true rfl)⟩) (kpVXq (A := A) qP hK qD hG hZ hS qF (krecv_3 (q0 := 0) hK hP rfl)) rfl rfl hl.1 rfl (lv_room (Nat.le_of_ble_eq_true rfl)) (kdr dgL_ofWish_0 0 4 rfl rfl) ⟨(Nat.le_of_ble_eq_true rfl), (Nat.le_of_ble_eq_true rfl)⟩) hP hD hS hA (kFr_l kFr_SB) (fun q9 ceQ H locs hP hD hS hce hcv hcl => ?_)
    by_cases e9 : k1 = 1
    · have h := g_t e9 h
      rw [kEx_1 e9] at hcl
      refine vx_catch (E := "java/lang/IndexOutOfBoundsException") (name := "java/lang/IndexOutOfBoundsException") (own := RL) hown [] ⟨0, 11, 14, 19⟩ [⟨0, 11, 18, 21⟩] hht (fun z hz => by cases hz) (by decide) (by decide) hw0 (va_Nw.use rfl (hG.at 4 rfl)) hce hcv hcl ?_
      refine lv_astore (lv' := (kvA 4 q9 (kvA 0 (a 0) (kvI 1 p1 (kvI 2 p2 (kvA 3 o kvE)))))) hx hb (kdr dgL_ofWish_0 0 8 rfl rfl) hl (by decide) rfl (fun ls hl => ?_)
      refine lv_iconst (v := 1) hx hb (kdr dgL_ofWish_0 0 9 rfl rfl) (by decide) ?_
      have h := Option.some.inj h
      subst h
      refine W.widen (k := 1) (n := 6) (Nat.le_of_ble_eq_true rfl) (Nat.le_of_ble_eq_true rfl) ?_
      exact kret_i (v := 1) hx hb hr rfl hlocks hS hP (kdr dgL_ofWish_0 1 0 rfl rfl)
    · have h := g_f e9 h
      rw [kEx_2 e9] at hcl
      refine vx_catch (E := "java/lang/IllegalArgumentException") (name := "java/lang/IllegalArgumentException") (own := RL) hown [⟨0, 11, 14, 19⟩] ⟨0, 11, 18, 21⟩ [] hht (fun z hz => by rcases List.mem_singleton.mp hz with rfl; exact Or.inr ⟨by decide, _, hw0, hG.2⟩) (by decide) (by decide) hw1 (va_Nw.use rfl (hG.at 5 rfl)) hce hcv hcl ?_
      refine lv_astore (lv' := (kvA 4 q9 (kvA 0 (a 0) (kvI 1 p1 (kvI 2 p2 (kvA 3 o kvE)))))) hx hb (kdr dgL_ofWish_0 1 1 rfl rfl) hl (by decide) rfl (fun ls hl => ?_)
      refine lv_iconst (v := 2) hx hb (kdr dgL_ofWish_0 1 2 rfl rfl) (by decide) ?_
      have h := Option.some.inj h
      subst h
      refine W.widen (k := 1) (n := 6) (Nat.le_of_ble_eq_true rfl) (Nat.le_of_ble_eq_true rfl) ?_
      exact kret_i (v := 2) hx hb hr rfl hlocks hS hP (kdr dgL_ofWish_0 1 3 rfl rfl)
  · obtain ⟨r1, g1, h⟩ := g_b h
    refine kq_i ((wSB cI cJ cZ a ce fr un sb se so sc wb we wo wc fb fe fo fc rm ac rf kn) ++ (wO o on ov)) (fun qP qD qF => va_runV (As := [.int p1, .int p2]) (rest := [.ref o]) ⟨hx, hb, hml, hown, hts⟩ (c_X1_ofWish l dC dI cB cI cJ cZ a _ ce fr un sb se so sc wb we wo wc fb fe fo fc rm ac rf kn p1 p2 r1 g1) (kcwV hts kw_1033 kv_X1_ofWish rfl rfl ⟨(Nat.le_of_ble_eq_true rfl), (Nat.le_of_ble_eq_true rfl)⟩) (kpV (A := A) qP hK qD hG (krecv_3 (q0 := 0) hK hP rfl)) rfl rfl hl.1 rfl (lv_room (Nat.le_of_ble_eq_true rfl)) (kdr dgL_ofWish_0 0 4 rfl rfl) ⟨(Nat.le_of_ble_eq_true rfl), (Nat.le_of_ble_eq_true rfl)⟩) hP hD hS hA (kFr_l kFr_SB) (fun H locs hP hD hS br1 => ?_)
    refine lv_i2l (v := r1.toInt64) hx hb (kdr dgL_ofWish_0 0 5 rfl rfl) rfl ?_
    refine va_putN (host := RL) (D := (dC, dI)) (ci := 4) (v := .long r1.toInt64) (ty := .long) (C := RX2) (T := TX2) (N := 2) hx hb hts hiX2 tyX2 tyX2_ok nmX2 hown hK hP hD hS 15 rfl rfl 0 (by decide) (va_Nw.use rfl (hG.at 7 rfl)) (fun _ h9 => h9) rfl (by decide +kernel) rfl rfl (Nat.le_of_ble_eq_true rfl) (kdr dgL_ofWish_0 0 6 rfl rfl) (fun H locs hP hD hS => ?_)
    have hP : va_P (dC, dI) vwCl ((wSB cI cJ cZ a ce fr un sb se so sc wb we wo wc fb fe fo fc rm ac rf kn) ++ (wO o r1.toInt64 ov)) H := hP
    have hD : va_D A ((wSB cI cJ cZ a ce fr un sb se so sc wb we wo wc fb fe fo fc rm ac rf kn) ++ (wO o r1.toInt64 ov)) := hD
    refine lv_goto (tgt := 22) hx hb (kdr dgL_ofWish_0 0 7 rfl rfl) (by decide) ?_
    refine lv_iconst (v := 0) hx hb (kdr dgL_ofWish_0 1 4 rfl rfl) (by decide) ?_
    have h := Option.some.inj h
    subst h
    refine W.widen (k := 1) (n := 6) (Nat.le_of_ble_eq_true rfl) (Nat.le_of_ble_eq_true rfl) ?_
    exact kret_i (v := 0) hx hb hr rfl hlocks hS hP (kdr dgL_ofWish_0 1 5 rfl rfl)
noncomputable abbrev wsL_isApart : List Cond := Cond.codeWith yL_isApart cL_isApart 4 (some .int) [(0, 17, 20, 21)] :: kBIG
noncomputable def f_L_isApart (wb : Nat → Int64) (we : Nat → Int64) (wc : Int32) (on : Int64) (p1 : Int32) : Option ((Int32) × (Int64)) :=
  xb (fx_X1_isApart wc p1) (fun k1 => if k1 = 1 then
  none
else
  some (1, on)) (
  (f_X1_isApart wb we wc p1).bind fun r1 =>
  if r1 = 0 then
    some (0, 0)
  else
    some (0, 1))
theorem f_L_isApart_e {wb : Nat → Int64} {we : Nat → Int64} {wc : Int32} {on : Int64} {p1 : Int32} : f_L_isApart wb we wc on p1 = 
  xb (fx_X1_isApart wc p1) (fun k1 => if k1 = 1 then
  none
else
  some (1, on)) (
  (f_X1_isApart wb we wc p1).bind fun r1 =>
  if r1 = 0 then
    some (0, 0)
  else
    some (0, 1)) := rfl
set_option maxHeartbeats 4000000 in
set_option maxRecDepth 100000 in
theorem c_L_isApart (l : Launch) (hl9 : l.stackTraces = false) (dC : Nat → ClassId) (dI : Nat → Nat → Nat) (cB cI cJ cZ : ClassId) (a : Nat → Nat) (o : Nat) (sz : Nat) (ce : Nat → Int64) (fr : Int64) (un : Int64) (sb : Nat → Int64) (se : Nat → Int64) (so : Nat → Int32) (sc : Int32) (wb : Nat → Int64) (we : Nat → Int64) (wo : Nat → Int32) (wc : Int32) (fb : Nat → Int64) (fe : Nat → Int64) (fo : Nat → Int32) (fc : Int32) (rm : Nat → Int32) (ac : Int32) (rf : Int32) (kn : Int32) (on : Int64) (ov : Value) (p1 : Int32) (res : (Int32) × (Int64)) (hf : f_L_isApart wb we wc on p1 = some res) : kMw l yL_isApart wsL_isApart (kRm 8 1 6 131) dC dI cB cI cJ cZ [.ref (a 0), .int p1, .ref o] sz ((wSB cI cJ cZ a ce fr un sb se so sc wb we wo wc fb fe fo fc rm ac rf kn) ++ (wO o on ov)) .int (res.1) ((wSB cI cJ cZ a ce fr un sb se so sc wb we wo wc fb fe fo fc rm ac rf kn) ++ (wO o (res.2) ov)) 1 6 := by
  refine kmet_w (y := yL_isApart) (cc := cL_isApart) (maxL := 4) (ret := (some .int)) (hh := [(0, 17, 20, 21)]) RL (kvA 0 (a 0) (kvI 1 p1 (kvA 2 o kvE))) kpl_L rfl rfl (Nat.le_of_ble_eq_true rfl) rfl (fun p e s m below meth c A ls hx hb hr hml hht hts hown hlocks hP hK hG hZ hD hA hS hl => ?_)
  have hw0 := hts (.classLink RL 21 "java/lang/IllegalArgumentException") (List.mem_cons_of_mem _ kw_468)
  have hiX2 : ∀ w ∈ u_ws RX2 TX2 2, w ∈ wsL_isApart := fun w h => List.mem_cons_of_mem _ (ku_X2 w h)
  have h := f_L_isApart_e.symm.trans hf
  refine lv_aload_n hx hb (kdr dgL_isApart_0 0 0 rfl rfl) rfl (lv_at hl 2 rfl) ?_
  refine lv_aload_n hx hb (kdr dgL_isApart_0 0 1 rfl rfl) rfl (lv_at hl 0 rfl) ?_
  refine lv_iload_n hx hb (kdr dgL_isApart_0 0 2 rfl rfl) rfl (lv_at hl 1 rfl) ?_
  rcases g_x h with ⟨k1, j1, h⟩ | ⟨-, h⟩
  · refine kq_xh ((wSB cI cJ cZ a ce fr un sb se so sc wb we wo wc fb fe fo fc rm ac rf kn) ++ (wO o on ov)) (fun qP qD qF => vx_runV (As := [.int p1]) (rest := [.ref o]) ⟨hx, hb, hml, hown, hts⟩ (x_X1_isApart l hl9 dC dI cB cI cJ cZ a _ ce fr un sb se so sc wb we wo wc fb fe fo fc rm ac rf kn p1 k1 j1) (kcwV hts kw_1040 kv_X1_isApart rfl rfl ⟨(Nat.le_of_ble_eq_true rfl), (Nat.le_of_ble_eq_true rfl)⟩) (kpVXq (A := A) qP hK qD hG hZ hS qF (krecv_3 (q0 := 0) hK hP rfl)) rfl rfl hl.1 rfl (lv_room (Nat.le_of_ble_eq_true rfl)) (kdr dgL_isApart_0 0 3 rfl rfl) ⟨(Nat.le_of_ble_eq_true rfl), (Nat.le_of_ble_eq_true rfl)⟩) hP hD hS hA (kFr_l kFr_SB) (fun q9 ceQ H locs hP hD hS hce hcv hcl => ?_)
    by_cases e9 : k1 = 1
    · have h := g_t e9 h
      rw [kEx_1 e9] at hcl
      cases h
    · have h := g_f e9 h
      rw [kEx_2 e9] at hcl
      refine vx_catch (E := "java/lang/IllegalArgumentException") (name := "java/lang/IllegalArgumentException") (own := RL) hown [] ⟨0, 17, 20, 21⟩ [] hht (fun z hz => by cases hz) (by decide) (by decide) hw0 (va_Nw.use rfl (hG.at 5 rfl)) hce hcv hcl ?_
      refine lv_astore_n (lv' := (kvA 3 q9 (kvA 0 (a 0) (kvI 1 p1 (kvA 2 o kvE))))) hx hb (kdr dgL_isApart_0 1 0 rfl rfl) rfl hl (by decide) rfl (fun ls hl => ?_)
      refine lv_iconst (v := 1) hx hb (kdr dgL_isApart_0 1 1 rfl rfl) (by decide) ?_
      have h := Option.some.inj h
      subst h
      refine W.widen (k := 1) (n := 6) (Nat.le_of_ble_eq_true rfl) (Nat.le_of_ble_eq_true rfl) ?_
      exact kret_i (v := 1) hx hb hr rfl hlocks hS hP (kdr dgL_isApart_0 1 2 rfl rfl)
  · obtain ⟨r1, g1, h⟩ := g_b h
    refine kq_i ((wSB cI cJ cZ a ce fr un sb se so sc wb we wo wc fb fe fo fc rm ac rf kn) ++ (wO o on ov)) (fun qP qD qF => va_runV (As := [.int p1]) (rest := [.ref o]) ⟨hx, hb, hml, hown, hts⟩ (c_X1_isApart l dC dI cB cI cJ cZ a _ ce fr un sb se so sc wb we wo wc fb fe fo fc rm ac rf kn p1 r1 g1) (kcwV hts kw_1040 kv_X1_isApart rfl rfl ⟨(Nat.le_of_ble_eq_true rfl), (Nat.le_of_ble_eq_true rfl)⟩) (kpV (A := A) qP hK qD hG (krecv_3 (q0 := 0) hK hP rfl)) rfl rfl hl.1 rfl (lv_room (Nat.le_of_ble_eq_true rfl)) (kdr dgL_isApart_0 0 3 rfl rfl) ⟨(Nat.le_of_ble_eq_true rfl), (Nat.le_of_ble_eq_true rfl)⟩) hP hD hS hA (kFr_l kFr_SB) (fun H locs hP hD hS br1 => ?_)
    refine lv_if_eq (tgt := 13) hx hb (kdr dgL_isApart_0 0 4 rfl rfl) (by decide) (fun c2 => ?_) (fun c2 => ?_)
    · have h := g_t c2 h
      refine lv_lconst (v := 0) hx hb (kdr dgL_isApart_0 0 7 rfl rfl) (by decide) ?_
      refine va_putN (host := RL) (D := (dC, dI)) (ci := 4) (v := .long 0) (ty := .long) (C := RX2) (T := TX2) (N := 2) hx hb hts hiX2 tyX2 tyX2_ok nmX2 hown hK hP hD hS 15 rfl rfl 0 (by decide) (va_Nw.use rfl (hG.at 7 rfl)) (fun _ h9 => h9) rfl (by decide +kernel) rfl rfl (Nat.le_of_ble_eq_true rfl) (kdr dgL_isApart_0 0 8 rfl rfl) (fun H locs hP hD hS => ?_)
      have hP : va_P (dC, dI) vwCl ((wSB cI cJ cZ a ce fr un sb se so sc wb we wo wc fb fe fo fc rm ac rf kn) ++ (wO o 0 ov)) H := hP
      have hD : va_D A ((wSB cI cJ cZ a ce fr un sb se so sc wb we wo wc fb fe fo fc rm ac rf kn) ++ (wO o 0 ov)) := hD
      refine lv_goto (tgt := 23) hx hb (kdr dgL_isApart_0 0 9 rfl rfl) (by decide) ?_
      refine lv_iconst (v := 0) hx hb (kdr dgL_isApart_0 1 3 rfl rfl) (by decide) ?_
      have h := Option.some.inj h
      subst h
      refine W.widen (k := 1) (n := 6) (Nat.le_of_ble_eq_true rfl) (Nat.le_of_ble_eq_true rfl) ?_
      exact kret_i (v := 0) hx hb hr rfl hlocks hS hP (kdr dgL_isApart_0 1 4 rfl rfl)
    · have h := g_f c2 h
      refine lv_lconst (v := 1) hx hb (kdr dgL_isApart_0 0 5 rfl rfl) (by decide) ?_
      refine lv_goto (tgt := 14) hx hb (kdr dgL_isApart_0 0 6 rfl rfl) (by decide) ?_
      refine va_putN (host := RL) (D := (dC, dI)) (ci := 4) (v := .long 1) (ty := .long) (C := RX2) (T := TX2) (N := 2) hx hb hts hiX2 tyX2 tyX2_ok nmX2 hown hK hP hD hS 15 rfl rfl 0 (by decide) (va_Nw.use rfl (hG.at 7 rfl)) (fun _ h9 => h9) rfl (by decide +kernel) rfl rfl (Nat.le_of_ble_eq_true rfl) (kdr dgL_isApart_0 0 8 rfl rfl) (fun H locs hP hD hS => ?_)
      have hP : va_P (dC, dI) vwCl ((wSB cI cJ cZ a ce fr un sb se so sc wb we wo wc fb fe fo fc rm ac rf kn) ++ (wO o 1 ov)) H := hP
      have hD : va_D A ((wSB cI cJ cZ a ce fr un sb se so sc wb we wo wc fb fe fo fc rm ac rf kn) ++ (wO o 1 ov)) := hD
      refine lv_goto (tgt := 23) hx hb (kdr dgL_isApart_0 0 9 rfl rfl) (by decide) ?_
      refine lv_iconst (v := 0) hx hb (kdr dgL_isApart_0 1 3 rfl rfl) (by decide) ?_
      have h := Option.some.inj h
      subst h
      refine W.widen (k := 1) (n := 6) (Nat.le_of_ble_eq_true rfl) (Nat.le_of_ble_eq_true rfl) ?_
      exact kret_i (v := 0) hx hb hr rfl hlocks hS hP (kdr dgL_isApart_0 1 4 rfl rfl)
noncomputable abbrev wsL_most : List Cond := Cond.codeWith yL_most cL_most 4 (some .int) [(0, 10, 13, 21)] :: kBIG
noncomputable def f_L_most (wb : Nat → Int64) (we : Nat → Int64) (wc : Int32) (on : Int64) (p1 : Int32) : Option ((Int32) × (Int64)) :=
  xb (fx_X1_most p1) (fun k1 => if k1 = 1 then
  none
else
  some (1, on)) (
  (f_X1_most wb we wc p1).bind fun r1 =>
  some (0, r1.toInt64))
theorem f_L_most_e {wb : Nat → Int64} {we : Nat → Int64} {wc : Int32} {on : Int64} {p1 : Int32} : f_L_most wb we wc on p1 = 
  xb (fx_X1_most p1) (fun k1 => if k1 = 1 then
  none
else
  some (1, on)) (
  (f_X1_most wb we wc p1).bind fun r1 =>
  some (0, r1.toInt64)) := rfl
set_option maxHeartbeats 4000000 in
set_option maxRecDepth 100000 in
theorem c_L_most (l : Launch) (hl9 : l.stackTraces = false) (dC : Nat → ClassId) (dI : Nat → Nat → Nat) (cB cI cJ cZ : ClassId) (a : Nat → Nat) (o : Nat) (sz : Nat) (ce : Nat → Int64) (fr : Int64) (un : Int64) (sb : Nat → Int64) (se : Nat → Int64) (so : Nat → Int32) (sc : Int32) (wb : Nat → Int64) (we : Nat → Int64) (wo : Nat → Int32) (wc : Int32) (fb : Nat → Int64) (fe : Nat → Int64) (fo : Nat → Int32) (fc : Int32) (rm : Nat → Int32) (ac : Int32) (rf : Int32) (kn : Int32) (on : Int64) (ov : Value) (p1 : Int32) (res : (Int32) × (Int64)) (hf : f_L_most wb we wc on p1 = some res) : kMw l yL_most wsL_most (kRm 8 1 6 131) dC dI cB cI cJ cZ [.ref (a 0), .int p1, .ref o] sz ((wSB cI cJ cZ a ce fr un sb se so sc wb we wo wc fb fe fo fc rm ac rf kn) ++ (wO o on ov)) .int (res.1) ((wSB cI cJ cZ a ce fr un sb se so sc wb we wo wc fb fe fo fc rm ac rf kn) ++ (wO o (res.2) ov)) 1 6 := by
  refine kmet_w (y := yL_most) (cc := cL_most) (maxL := 4) (ret := (some .int)) (hh := [(0, 10, 13, 21)]) RL (kvA 0 (a 0) (kvI 1 p1 (kvA 2 o kvE))) kpl_L rfl rfl (Nat.le_of_ble_eq_true rfl) rfl (fun p e s m below meth c A ls hx hb hr hml hht hts hown hlocks hP hK hG hZ hD hA hS hl => ?_)
  have hw0 := hts (.classLink RL 21 "java/lang/IllegalArgumentException") (List.mem_cons_of_mem _ kw_468)
  have hiX2 : ∀ w ∈ u_ws RX2 TX2 2, w ∈ wsL_most := fun w h => List.mem_cons_of_mem _ (ku_X2 w h)
  have h := f_L_most_e.symm.trans hf
  refine lv_aload_n hx hb (kdr dgL_most_0 0 0 rfl rfl) rfl (lv_at hl 2 rfl) ?_
  refine lv_aload_n hx hb (kdr dgL_most_0 0 1 rfl rfl) rfl (lv_at hl 0 rfl) ?_
  refine lv_iload_n hx hb (kdr dgL_most_0 0 2 rfl rfl) rfl (lv_at hl 1 rfl) ?_
  rcases g_x h with ⟨k1, j1, h⟩ | ⟨-, h⟩
  · refine kq_xh ((wSB cI cJ cZ a ce fr un sb se so sc wb we wo wc fb fe fo fc rm ac rf kn) ++ (wO o on ov)) (fun qP qD qF => vx_runV (As := [.int p1]) (rest := [.ref o]) ⟨hx, hb, hml, hown, hts⟩ (x_X1_most l hl9 dC dI cB cI cJ cZ a _ ce fr un sb se so sc wb we wo wc fb fe fo fc rm ac rf kn p1 k1 j1) (kcwV hts kw_1047 kv_X1_most rfl rfl ⟨(Nat.le_of_ble_eq_true rfl), (Nat.le_of_ble_eq_true rfl)⟩) (kpVXq (A := A) qP hK qD hG hZ hS qF (krecv_3 (q0 := 0) hK hP rfl)) rfl rfl hl.1 rfl (lv_room (Nat.le_of_ble_eq_true rfl)) (kdr dgL_most_0 0 3 rfl rfl) ⟨(Nat.le_of_ble_eq_true rfl), (Nat.le_of_ble_eq_true rfl)⟩) hP hD hS hA (kFr_l kFr_SB) (fun q9 ceQ H locs hP hD hS hce hcv hcl => ?_)
    by_cases e9 : k1 = 1
    · have h := g_t e9 h
      rw [kEx_1 e9] at hcl
      cases h
    · have h := g_f e9 h
      rw [kEx_2 e9] at hcl
      refine vx_catch (E := "java/lang/IllegalArgumentException") (name := "java/lang/IllegalArgumentException") (own := RL) hown [] ⟨0, 10, 13, 21⟩ [] hht (fun z hz => by cases hz) (by decide) (by decide) hw0 (va_Nw.use rfl (hG.at 5 rfl)) hce hcv hcl ?_
      refine lv_astore_n (lv' := (kvA 3 q9 (kvA 0 (a 0) (kvI 1 p1 (kvA 2 o kvE))))) hx hb (kdr dgL_most_0 0 7 rfl rfl) rfl hl (by decide) rfl (fun ls hl => ?_)
      refine lv_iconst (v := 1) hx hb (kdr dgL_most_0 0 8 rfl rfl) (by decide) ?_
      have h := Option.some.inj h
      subst h
      refine W.widen (k := 1) (n := 6) (Nat.le_of_ble_eq_true rfl) (Nat.le_of_ble_eq_true rfl) ?_
      exact kret_i (v := 1) hx hb hr rfl hlocks hS hP (kdr dgL_most_0 0 9 rfl rfl)
  · obtain ⟨r1, g1, h⟩ := g_b h
    refine kq_i ((wSB cI cJ cZ a ce fr un sb se so sc wb we wo wc fb fe fo fc rm ac rf kn) ++ (wO o on ov)) (fun qP qD qF => va_runV (As := [.int p1]) (rest := [.ref o]) ⟨hx, hb, hml, hown, hts⟩ (c_X1_most l dC dI cB cI cJ cZ a _ ce fr un sb se so sc wb we wo wc fb fe fo fc rm ac rf kn p1 r1 g1) (kcwV hts kw_1047 kv_X1_most rfl rfl ⟨(Nat.le_of_ble_eq_true rfl), (Nat.le_of_ble_eq_true rfl)⟩) (kpV (A := A) qP hK qD hG (krecv_3 (q0 := 0) hK hP rfl)) rfl rfl hl.1 rfl (lv_room (Nat.le_of_ble_eq_true rfl)) (kdr dgL_most_0 0 3 rfl rfl) ⟨(Nat.le_of_ble_eq_true rfl), (Nat.le_of_ble_eq_true rfl)⟩) hP hD hS hA (kFr_l kFr_SB) (fun H locs hP hD hS br1 => ?_)
    refine lv_i2l (v := r1.toInt64) hx hb (kdr dgL_most_0 0 4 rfl rfl) rfl ?_
    refine va_putN (host := RL) (D := (dC, dI)) (ci := 4) (v := .long r1.toInt64) (ty := .long) (C := RX2) (T := TX2) (N := 2) hx hb hts hiX2 tyX2 tyX2_ok nmX2 hown hK hP hD hS 15 rfl rfl 0 (by decide) (va_Nw.use rfl (hG.at 7 rfl)) (fun _ h9 => h9) rfl (by decide +kernel) rfl rfl (Nat.le_of_ble_eq_true rfl) (kdr dgL_most_0 0 5 rfl rfl) (fun H locs hP hD hS => ?_)
    have hP : va_P (dC, dI) vwCl ((wSB cI cJ cZ a ce fr un sb se so sc wb we wo wc fb fe fo fc rm ac rf kn) ++ (wO o r1.toInt64 ov)) H := hP
    have hD : va_D A ((wSB cI cJ cZ a ce fr un sb se so sc wb we wo wc fb fe fo fc rm ac rf kn) ++ (wO o r1.toInt64 ov)) := hD
    refine lv_goto (tgt := 16) hx hb (kdr dgL_most_0 0 6 rfl rfl) (by decide) ?_
    refine lv_iconst (v := 0) hx hb (kdr dgL_most_0 1 0 rfl rfl) (by decide) ?_
    have h := Option.some.inj h
    subst h
    refine W.widen (k := 1) (n := 6) (Nat.le_of_ble_eq_true rfl) (Nat.le_of_ble_eq_true rfl) ?_
    exact kret_i (v := 0) hx hb hr rfl hlocks hS hP (kdr dgL_most_0 1 1 rfl rfl)
noncomputable abbrev wsL_room : List Cond := Cond.codeWith yL_room cL_room 4 (some .int) [(0, 10, 13, 19)] :: kBIG
noncomputable def f_L_room (wb : Nat → Int64) (we : Nat → Int64) (wc : Int32) (rm : Nat → Int32) (on : Int64) (p1 : Int32) : Option ((Int32) × (Nat → Int32) × (Int64)) :=
  xb (fx_X1_room wc p1) (fun k1 => if k1 = 1 then
  some (1, rm, on)
else
  none) (
  (f_X1_room wb we wc rm p1).bind fun r1 =>
  some (0, r1.2, r1.1.toInt64))
theorem f_L_room_e {wb : Nat → Int64} {we : Nat → Int64} {wc : Int32} {rm : Nat → Int32} {on : Int64} {p1 : Int32} : f_L_room wb we wc rm on p1 = 
  xb (fx_X1_room wc p1) (fun k1 => if k1 = 1 then
  some (1, rm, on)
else
  none) (
  (f_X1_room wb we wc rm p1).bind fun r1 =>
  some (0, r1.2, r1.1.toInt64)) := rfl
set_option maxHeartbeats 4000000 in
set_option maxRecDepth 100000 in
theorem c_L_room (l : Launch) (hl9 : l.stackTraces = false) (dC : Nat → ClassId) (dI : Nat → Nat → Nat) (cB cI cJ cZ : ClassId) (a : Nat → Nat) (o : Nat) (sz : Nat) (ce : Nat → Int64) (fr : Int64) (un : Int64) (sb : Nat → Int64) (se : Nat → Int64) (so : Nat → Int32) (sc : Int32) (wb : Nat → Int64) (we : Nat → Int64) (wo : Nat → Int32) (wc : Int32) (fb : Nat → Int64) (fe : Nat → Int64) (fo : Nat → Int32) (fc : Int32) (rm : Nat → Int32) (ac : Int32) (rf : Int32) (kn : Int32) (on : Int64) (ov : Value) (p1 : Int32) (res : (Int32) × (Nat → Int32) × (Int64)) (hf : f_L_room wb we wc rm on p1 = some res) : kMw l yL_room wsL_room (kRm 8 1 6 132) dC dI cB cI cJ cZ [.ref (a 0), .int p1, .ref o] sz ((wSB cI cJ cZ a ce fr un sb se so sc wb we wo wc fb fe fo fc rm ac rf kn) ++ (wO o on ov)) .int (res.1) ((wSB cI cJ cZ a ce fr un sb se so sc wb we wo wc fb fe fo fc (res.2.1) ac rf kn) ++ (wO o (res.2.2) ov)) 1 6 := by
  refine kmet_w (y := yL_room) (cc := cL_room) (maxL := 4) (ret := (some .int)) (hh := [(0, 10, 13, 19)]) RL (kvA 0 (a 0) (kvI 1 p1 (kvA 2 o kvE))) kpl_L rfl rfl (Nat.le_of_ble_eq_true rfl) rfl (fun p e s m below meth c A ls hx hb hr hml hht hts hown hlocks hP hK hG hZ hD hA hS hl => ?_)
  have hw0 := hts (.classLink RL 19 "java/lang/IndexOutOfBoundsException") (List.mem_cons_of_mem _ kw_467)
  have hiX2 : ∀ w ∈ u_ws RX2 TX2 2, w ∈ wsL_room := fun w h => List.mem_cons_of_mem _ (ku_X2 w h)
  have h := f_L_room_e.symm.trans hf
  refine lv_aload_n hx hb (kdr dgL_room_0 0 0 rfl rfl) rfl (lv_at hl 2 rfl) ?_
  refine lv_aload_n hx hb (kdr dgL_room_0 0 1 rfl rfl) rfl (lv_at hl 0 rfl) ?_
  refine lv_iload_n hx hb (kdr dgL_room_0 0 2 rfl rfl) rfl (lv_at hl 1 rfl) ?_
  rcases g_x h with ⟨k1, j1, h⟩ | ⟨-, h⟩
  · refine kq_xh ((wSB cI cJ cZ a ce fr un sb se so sc wb we wo wc fb fe fo fc rm ac rf kn) ++ (wO o on ov)) (fun qP qD qF => vx_runV (As := [.int p1]) (rest := [.ref o]) ⟨hx, hb, hml, hown, hts⟩ (x_X1_room l hl9 dC dI cB cI cJ cZ a _ ce fr un sb se so sc wb we wo wc fb fe fo fc rm ac rf kn p1 k1 j1) (kcwV hts kw_1054 kv_X1_room rfl rfl ⟨(Nat.le_of_ble_eq_true rfl), (Nat.le_of_ble_eq_true rfl)⟩) (kpVXq (A := A) qP hK qD hG hZ hS qF (krecv_3 (q0 := 0) hK hP rfl)) rfl rfl hl.1 rfl (lv_room (Nat.le_of_ble_eq_true rfl)) (kdr dgL_room_0 0 3 rfl rfl) ⟨(Nat.le_of_ble_eq_true rfl), (Nat.le_of_ble_eq_true rfl)⟩) hP hD hS hA (kFr_l kFr_SB) (fun q9 ceQ H locs hP hD hS hce hcv hcl => ?_)
    by_cases e9 : k1 = 1
    · have h := g_t e9 h
      rw [kEx_1 e9] at hcl
      refine vx_catch (E := "java/lang/IndexOutOfBoundsException") (name := "java/lang/IndexOutOfBoundsException") (own := RL) hown [] ⟨0, 10, 13, 19⟩ [] hht (fun z hz => by cases hz) (by decide) (by decide) hw0 (va_Nw.use rfl (hG.at 4 rfl)) hce hcv hcl ?_
      refine lv_astore_n (lv' := (kvA 3 q9 (kvA 0 (a 0) (kvI 1 p1 (kvA 2 o kvE))))) hx hb (kdr dgL_room_0 0 7 rfl rfl) rfl hl (by decide) rfl (fun ls hl => ?_)
      refine lv_iconst (v := 1) hx hb (kdr dgL_room_0 0 8 rfl rfl) (by decide) ?_
      have h := Option.some.inj h
      subst h
      refine W.widen (k := 1) (n := 6) (Nat.le_of_ble_eq_true rfl) (Nat.le_of_ble_eq_true rfl) ?_
      exact kret_i (v := 1) hx hb hr rfl hlocks hS hP (kdr dgL_room_0 0 9 rfl rfl)
    · have h := g_f e9 h
      rw [kEx_2 e9] at hcl
      cases h
  · obtain ⟨r1, g1, h⟩ := g_b h
    refine kq_i ((wSB cI cJ cZ a ce fr un sb se so sc wb we wo wc fb fe fo fc r1.2 ac rf kn) ++ (wO o on ov)) (fun qP qD qF => va_runV (As := [.int p1]) (rest := [.ref o]) ⟨hx, hb, hml, hown, hts⟩ (c_X1_room l dC dI cB cI cJ cZ a _ ce fr un sb se so sc wb we wo wc fb fe fo fc rm ac rf kn p1 r1 g1) (kcwV hts kw_1054 kv_X1_room rfl rfl ⟨(Nat.le_of_ble_eq_true rfl), (Nat.le_of_ble_eq_true rfl)⟩) (kpV (A := A) qP hK qD hG (krecv_3 (q0 := 0) hK hP rfl)) rfl rfl hl.1 rfl (lv_room (Nat.le_of_ble_eq_true rfl)) (kdr dgL_room_0 0 3 rfl rfl) ⟨(Nat.le_of_ble_eq_true rfl), (Nat.le_of_ble_eq_true rfl)⟩) hP hD hS hA (kFr_l kFr_SB) (fun H locs hP hD hS br1 => ?_)
    refine lv_i2l (v := r1.1.toInt64) hx hb (kdr dgL_room_0 0 4 rfl rfl) rfl ?_
    refine va_putN (host := RL) (D := (dC, dI)) (ci := 4) (v := .long r1.1.toInt64) (ty := .long) (C := RX2) (T := TX2) (N := 2) hx hb hts hiX2 tyX2 tyX2_ok nmX2 hown hK hP hD hS 15 rfl rfl 0 (by decide) (va_Nw.use rfl (hG.at 7 rfl)) (fun _ h9 => h9) rfl (by decide +kernel) rfl rfl (Nat.le_of_ble_eq_true rfl) (kdr dgL_room_0 0 5 rfl rfl) (fun H locs hP hD hS => ?_)
    have hP : va_P (dC, dI) vwCl ((wSB cI cJ cZ a ce fr un sb se so sc wb we wo wc fb fe fo fc r1.2 ac rf kn) ++ (wO o r1.1.toInt64 ov)) H := hP
    have hD : va_D A ((wSB cI cJ cZ a ce fr un sb se so sc wb we wo wc fb fe fo fc r1.2 ac rf kn) ++ (wO o r1.1.toInt64 ov)) := hD
    refine lv_goto (tgt := 16) hx hb (kdr dgL_room_0 0 6 rfl rfl) (by decide) ?_
    refine lv_iconst (v := 0) hx hb (kdr dgL_room_0 1 0 rfl rfl) (by decide) ?_
    have h := Option.some.inj h
    subst h
    refine W.widen (k := 1) (n := 6) (Nat.le_of_ble_eq_true rfl) (Nat.le_of_ble_eq_true rfl) ?_
    exact kret_i (v := 0) hx hb hr rfl hlocks hS hP (kdr dgL_room_0 1 1 rfl rfl)
noncomputable abbrev wsL_house : List Cond := Cond.codeWith yL_house cL_house 4 (some .int) [(0, 10, 13, 21)] :: kBIG
noncomputable def f_L_house (ac : Int32) (rf : Int32) (kn : Int32) (on : Int64) (p1 : Int32) : Option ((Int32) × (Int64)) :=
  xb (fx_X1_house p1) (fun k1 => if k1 = 1 then
  none
else
  some (1, on)) (
  (f_X1_house ac rf kn p1).bind fun r1 =>
  some (0, r1.toInt64))
theorem f_L_house_e {ac : Int32} {rf : Int32} {kn : Int32} {on : Int64} {p1 : Int32} : f_L_house ac rf kn on p1 = 
  xb (fx_X1_house p1) (fun k1 => if k1 = 1 then
  none
else
  some (1, on)) (
  (f_X1_house ac rf kn p1).bind fun r1 =>
  some (0, r1.toInt64)) := rfl
set_option maxHeartbeats 4000000 in
set_option maxRecDepth 100000 in
theorem c_L_house (l : Launch) (hl9 : l.stackTraces = false) (dC : Nat → ClassId) (dI : Nat → Nat → Nat) (cB cI cJ cZ : ClassId) (a : Nat → Nat) (o : Nat) (sz : Nat) (ce : Nat → Int64) (fr : Int64) (un : Int64) (sb : Nat → Int64) (se : Nat → Int64) (so : Nat → Int32) (sc : Int32) (wb : Nat → Int64) (we : Nat → Int64) (wo : Nat → Int32) (wc : Int32) (fb : Nat → Int64) (fe : Nat → Int64) (fo : Nat → Int32) (fc : Int32) (rm : Nat → Int32) (ac : Int32) (rf : Int32) (kn : Int32) (on : Int64) (ov : Value) (p1 : Int32) (res : (Int32) × (Int64)) (hf : f_L_house ac rf kn on p1 = some res) : kMw l yL_house wsL_house (kRm 8 1 6 131) dC dI cB cI cJ cZ [.ref (a 0), .int p1, .ref o] sz ((wSB cI cJ cZ a ce fr un sb se so sc wb we wo wc fb fe fo fc rm ac rf kn) ++ (wO o on ov)) .int (res.1) ((wSB cI cJ cZ a ce fr un sb se so sc wb we wo wc fb fe fo fc rm ac rf kn) ++ (wO o (res.2) ov)) 1 6 := by
  refine kmet_w (y := yL_house) (cc := cL_house) (maxL := 4) (ret := (some .int)) (hh := [(0, 10, 13, 21)]) RL (kvA 0 (a 0) (kvI 1 p1 (kvA 2 o kvE))) kpl_L rfl rfl (Nat.le_of_ble_eq_true rfl) rfl (fun p e s m below meth c A ls hx hb hr hml hht hts hown hlocks hP hK hG hZ hD hA hS hl => ?_)
  have hw0 := hts (.classLink RL 21 "java/lang/IllegalArgumentException") (List.mem_cons_of_mem _ kw_468)
  have hiX2 : ∀ w ∈ u_ws RX2 TX2 2, w ∈ wsL_house := fun w h => List.mem_cons_of_mem _ (ku_X2 w h)
  have h := f_L_house_e.symm.trans hf
  refine lv_aload_n hx hb (kdr dgL_house_0 0 0 rfl rfl) rfl (lv_at hl 2 rfl) ?_
  refine lv_aload_n hx hb (kdr dgL_house_0 0 1 rfl rfl) rfl (lv_at hl 0 rfl) ?_
  refine lv_iload_n hx hb (kdr dgL_house_0 0 2 rfl rfl) rfl (lv_at hl 1 rfl) ?_
  rcases g_x h with ⟨k1, j1, h⟩ | ⟨-, h⟩
  · refine kq_xh ((wSB cI cJ cZ a ce fr un sb se so sc wb we wo wc fb fe fo fc rm ac rf kn) ++ (wO o on ov)) (fun qP qD qF => vx_runV (As := [.int p1]) (rest := [.ref o]) ⟨hx, hb, hml, hown, hts⟩ (x_X1_house l hl9 dC dI cB cI cJ cZ a _ ce fr un sb se so sc wb we wo wc fb fe fo fc rm ac rf kn p1 k1 j1) (kcwV hts kw_1061 kv_X1_house rfl rfl ⟨(Nat.le_of_ble_eq_true rfl), (Nat.le_of_ble_eq_true rfl)⟩) (kpVXq (A := A) qP hK qD hG hZ hS qF (krecv_3 (q0 := 0) hK hP rfl)) rfl rfl hl.1 rfl (lv_room (Nat.le_of_ble_eq_true rfl)) (kdr dgL_house_0 0 3 rfl rfl) ⟨(Nat.le_of_ble_eq_true rfl), (Nat.le_of_ble_eq_true rfl)⟩) hP hD hS hA (kFr_l kFr_SB) (fun q9 ceQ H locs hP hD hS hce hcv hcl => ?_)
    by_cases e9 : k1 = 1
    · have h := g_t e9 h
      rw [kEx_1 e9] at hcl
      cases h
    · have h := g_f e9 h
      rw [kEx_2 e9] at hcl
      refine vx_catch (E := "java/lang/IllegalArgumentException") (name := "java/lang/IllegalArgumentException") (own := RL) hown [] ⟨0, 10, 13, 21⟩ [] hht (fun z hz => by cases hz) (by decide) (by decide) hw0 (va_Nw.use rfl (hG.at 5 rfl)) hce hcv hcl ?_
      refine lv_astore_n (lv' := (kvA 3 q9 (kvA 0 (a 0) (kvI 1 p1 (kvA 2 o kvE))))) hx hb (kdr dgL_house_0 0 7 rfl rfl) rfl hl (by decide) rfl (fun ls hl => ?_)
      refine lv_iconst (v := 1) hx hb (kdr dgL_house_0 0 8 rfl rfl) (by decide) ?_
      have h := Option.some.inj h
      subst h
      refine W.widen (k := 1) (n := 6) (Nat.le_of_ble_eq_true rfl) (Nat.le_of_ble_eq_true rfl) ?_
      exact kret_i (v := 1) hx hb hr rfl hlocks hS hP (kdr dgL_house_0 0 9 rfl rfl)
  · obtain ⟨r1, g1, h⟩ := g_b h
    refine kq_i ((wSB cI cJ cZ a ce fr un sb se so sc wb we wo wc fb fe fo fc rm ac rf kn) ++ (wO o on ov)) (fun qP qD qF => va_runV (As := [.int p1]) (rest := [.ref o]) ⟨hx, hb, hml, hown, hts⟩ (c_X1_house l dC dI cB cI cJ cZ a _ ce fr un sb se so sc wb we wo wc fb fe fo fc rm ac rf kn p1 r1 g1) (kcwV hts kw_1061 kv_X1_house rfl rfl ⟨(Nat.le_of_ble_eq_true rfl), (Nat.le_of_ble_eq_true rfl)⟩) (kpV (A := A) qP hK qD hG (krecv_3 (q0 := 0) hK hP rfl)) rfl rfl hl.1 rfl (lv_room (Nat.le_of_ble_eq_true rfl)) (kdr dgL_house_0 0 3 rfl rfl) ⟨(Nat.le_of_ble_eq_true rfl), (Nat.le_of_ble_eq_true rfl)⟩) hP hD hS hA (kFr_l kFr_SB) (fun H locs hP hD hS br1 => ?_)
    refine lv_i2l (v := r1.toInt64) hx hb (kdr dgL_house_0 0 4 rfl rfl) rfl ?_
    refine va_putN (host := RL) (D := (dC, dI)) (ci := 4) (v := .long r1.toInt64) (ty := .long) (C := RX2) (T := TX2) (N := 2) hx hb hts hiX2 tyX2 tyX2_ok nmX2 hown hK hP hD hS 15 rfl rfl 0 (by decide) (va_Nw.use rfl (hG.at 7 rfl)) (fun _ h9 => h9) rfl (by decide +kernel) rfl rfl (Nat.le_of_ble_eq_true rfl) (kdr dgL_house_0 0 5 rfl rfl) (fun H locs hP hD hS => ?_)
    have hP : va_P (dC, dI) vwCl ((wSB cI cJ cZ a ce fr un sb se so sc wb we wo wc fb fe fo fc rm ac rf kn) ++ (wO o r1.toInt64 ov)) H := hP
    have hD : va_D A ((wSB cI cJ cZ a ce fr un sb se so sc wb we wo wc fb fe fo fc rm ac rf kn) ++ (wO o r1.toInt64 ov)) := hD
    refine lv_goto (tgt := 16) hx hb (kdr dgL_house_0 0 6 rfl rfl) (by decide) ?_
    refine lv_iconst (v := 0) hx hb (kdr dgL_house_0 1 0 rfl rfl) (by decide) ?_
    have h := Option.some.inj h
    subst h
    refine W.widen (k := 1) (n := 6) (Nat.le_of_ble_eq_true rfl) (Nat.le_of_ble_eq_true rfl) ?_
    exact kret_i (v := 0) hx hb hr rfl hlocks hS hP (kdr dgL_house_0 1 1 rfl rfl)
noncomputable abbrev wsL_text : List Cond := Cond.codeWith yL_text cL_text 4 (some .int) [(0, 9, 12, 19)] :: kBIG
noncomputable def f_L_text (ce : Nat → Int64) (p1 : Int32) : Option (Int32) :=
  xb (fx_X1_text p1) (fun k1 => if k1 = 1 then
  some 1
else
  none) (
  (f_X1_text ce p1).bind fun r1 =>
  some 0)
theorem f_L_text_e {ce : Nat → Int64} {p1 : Int32} : f_L_text ce p1 = 
  xb (fx_X1_text p1) (fun k1 => if k1 = 1 then
  some 1
else
  none) (
  (f_X1_text ce p1).bind fun r1 =>
  some 0) := rfl
set_option maxHeartbeats 4000000 in
set_option maxRecDepth 100000 in
theorem c_L_text (l : Launch) (hl9 : l.stackTraces = false) (dC : Nat → ClassId) (dI : Nat → Nat → Nat) (cB cI cJ cZ : ClassId) (a : Nat → Nat) (o : Nat) (sz : Nat) (ce : Nat → Int64) (fr : Int64) (un : Int64) (sb : Nat → Int64) (se : Nat → Int64) (so : Nat → Int32) (sc : Int32) (wb : Nat → Int64) (we : Nat → Int64) (wo : Nat → Int32) (wc : Int32) (fb : Nat → Int64) (fe : Nat → Int64) (fo : Nat → Int32) (fc : Int32) (rm : Nat → Int32) (ac : Int32) (rf : Int32) (kn : Int32) (on : Int64) (ov : Value) (p1 : Int32) (res : Int32) (hf : f_L_text ce p1 = some res) : Met l yL_text wsL_text (kRm 8 7 280 193) (kPreX (dC, dI) (kTy cB cI cJ cZ) [.ref (a 0), .int p1, .ref o] sz ((wSB cI cJ cZ a ce fr un sb se so sc wb we wo wc fb fe fo fc rm ac rf kn) ++ (wO o on ov))) (kIw (dC, dI) .int (res) (fun w9 => ((wSB cI cJ cZ a ce fr un sb se so sc wb we wo wc fb fe fo fc rm ac rf kn) ++ (wO o on w9))) (va_A ((wSB cI cJ cZ a ce fr un sb se so sc wb we wo wc fb fe fo fc rm ac rf kn) ++ (wO o on ov)) sz)) 7 280 (va_A ((wSB cI cJ cZ a ce fr un sb se so sc wb we wo wc fb fe fo fc rm ac rf kn) ++ (wO o on ov)) sz) := by
  refine va_MetW (cc := cL_text) (maxL := 4) (ret := (some .int)) (hh := [(0, 9, 12, 19)]) (by decide) rfl ?_
  intro p e s m args below meth c s₁ B hml hv
  obtain ⟨rfl, hsz, hP, hK, hD0, hG, hZ⟩ := hv
  have hx := B.exec
  have hb := B.bytes
  have hr := B.returns
  have hts := atoms_spec (ws := wsL_text) B.pre
  have hht := vx_table (x := yL_text) B (hts _ List.mem_cons_self)
  have hown : s.vm.findClass RL = some m.cls := findClass_of_methodNamed B.named
  have hlocks := B.notSynchronized
  subst hsz
  have hD := hD0.self (sz := s.heap.size)
  generalize hAe : va_A ((wSB cI cJ cZ a ce fr un sb se so sc wb we wo wc fb fe fo fc rm ac rf kn) ++ (wO o on ov)) s.heap.size = A at hD hZ ⊢
  have hA : ∀ q : Nat, s.heap.size ≤ q → A q := fun q h => by rw [← hAe]; exact Or.inr h
  have hS : va_S A s.heap s.heap [] := va_S.rf
  clear hAe
  have hw0 := hts (.classLink RL 19 "java/lang/IndexOutOfBoundsException") (List.mem_cons_of_mem _ kw_467)
  have hiX2 : ∀ w ∈ u_ws RX2 TX2 2, w ∈ wsL_text := fun w h => List.mem_cons_of_mem _ (ku_X2 w h)
  have hl := lv_entry ([.ref (a 0), .int p1, .ref o]) (n := 4) (Nat.le_of_ble_eq_true rfl)
  rw [lg_entry_eq]
  generalize (lg_sl ([.ref (a 0), .int p1, .ref o]) ++ List.replicate (4 - (lg_sl ([.ref (a 0), .int p1, .ref o])).length) Slot.unset).toArray = ls at hl ⊢
  have hl : lv_has ls 4 (kvA 0 (a 0) (kvI 1 p1 (kvA 2 o kvE))) := hl
  have h := f_L_text_e.symm.trans hf
  refine lv_aload_n hx hb (kdr dgL_text_0 0 0 rfl rfl) rfl (lv_at hl 2 rfl) ?_
  refine lv_aload_n hx hb (kdr dgL_text_0 0 1 rfl rfl) rfl (lv_at hl 0 rfl) ?_
  refine lv_iload_n hx hb (kdr dgL_text_0 0 2 rfl rfl) rfl (lv_at hl 1 rfl) ?_
  rcases g_x h with ⟨k1, j1, h⟩ | ⟨-, h⟩
  · refine kq_xh ((wSB cI cJ cZ a ce fr un sb se so sc wb we wo wc fb fe fo fc rm ac rf kn) ++ (wO o on ov)) (fun qP qD qF => vx_runV (As := [.int p1]) (rest := [.ref o]) ⟨hx, hb, hml, hown, hts⟩ (x_X1_text l hl9 dC dI cB cI cJ cZ a _ ce fr un sb se so sc wb we wo wc fb fe fo fc rm ac rf kn p1 k1 j1) (kcwV hts kw_678 kv_X1_text rfl rfl ⟨(Nat.le_of_ble_eq_true rfl), (Nat.le_of_ble_eq_true rfl)⟩) (kpVXq (A := A) qP hK qD hG hZ hS qF (krecv_3 (q0 := 0) hK hP rfl)) rfl rfl hl.1 rfl (lv_room (Nat.le_of_ble_eq_true rfl)) (kdr dgL_text_0 0 3 rfl rfl) ⟨(Nat.le_of_ble_eq_true rfl), (Nat.le_of_ble_eq_true rfl)⟩) hP hD hS hA (kFr_l kFr_SB) (fun q9 ceQ H locs hP hD hS hce hcv hcl => ?_)
    by_cases e9 : k1 = 1
    · have h := g_t e9 h
      rw [kEx_1 e9] at hcl
      refine vx_catch (E := "java/lang/IndexOutOfBoundsException") (name := "java/lang/IndexOutOfBoundsException") (own := RL) hown [] ⟨0, 9, 12, 19⟩ [] hht (fun z hz => by cases hz) (by decide) (by decide) hw0 (va_Nw.use rfl (hG.at 4 rfl)) hce hcv hcl ?_
      refine lv_astore_n (lv' := (kvA 3 q9 (kvA 0 (a 0) (kvI 1 p1 (kvA 2 o kvE))))) hx hb (kdr dgL_text_0 0 6 rfl rfl) rfl hl (by decide) rfl (fun ls hl => ?_)
      refine lv_iconst (v := 1) hx hb (kdr dgL_text_0 0 7 rfl rfl) (by decide) ?_
      have h := Option.some.inj h
      subst h
      refine W.widen (k := 7) (n := 280) (Nat.le_of_ble_eq_true rfl) (Nat.le_of_ble_eq_true rfl) ?_
      exact kret_iw (v := 1) (w := ov) (F := fun w9 => ((wSB cI cJ cZ a ce fr un sb se so sc wb we wo wc fb fe fo fc rm ac rf kn) ++ (wO o on w9))) hx hb hr rfl hlocks rfl hS hP (kdr dgL_text_0 0 8 rfl rfl)
    · have h := g_f e9 h
      rw [kEx_2 e9] at hcl
      cases h
  · obtain ⟨r1, g1, h⟩ := g_b h
    refine kcall_n ((wSB cI cJ cZ a ce fr un sb se so sc wb we wo wc fb fe fo fc rm ac rf kn) ++ (wO o on ov)) (va_runV (As := [.int p1]) (rest := [.ref o]) ⟨hx, hb, hml, hown, hts⟩ (c_X1_text l dC dI cB cI cJ cZ a _ ce fr un sb se so sc wb we wo wc fb fe fo fc rm ac rf kn p1 r1 g1) (kcwV hts kw_678 kv_X1_text rfl rfl ⟨(Nat.le_of_ble_eq_true rfl), (Nat.le_of_ble_eq_true rfl)⟩) (kpVX (A := A) (hP.sub (kIT mk_39 0) (km_f (m := mk_39) rfl rfl)) hK (hD.sub (kIT mk_39 0) (km_nd mk_39) (km_T (m := mk_39) rfl rfl)) hG hZ hS hD hA (kIT mk_39 0) (km_T (m := mk_39) rfl rfl) (krecv_3 (q0 := 0) hK hP rfl)) rfl rfl hl.1 rfl (lv_room (Nat.le_of_ble_eq_true rfl)) (kdr dgL_text_0 0 3 rfl rfl) ⟨(Nat.le_of_ble_eq_true rfl), (Nat.le_of_ble_eq_true rfl)⟩) hP hD hS hA (kIT mk_39 0) (kIT mk_40 0) (km_T (m := mk_39) rfl rfl) (km_T (m := mk_39) rfl rfl) (wO o on ov) (km_T (m := mk_40) rfl rfl) (km_T (m := mk_40) rfl rfl) (km_cov (m := mk_39) (n := mk_40) rfl rfl) (km_dis (m := mk_39) (n := mk_40) rfl) rfl (fun qa1 H locs hP hD hS => ?_)
    refine va_putN (host := RL) (D := (dC, dI)) (ci := 4) (v := .ref qa1) (ty := (.object "java/lang/String")) (C := RX2) (T := TX2) (N := 2) hx hb hts hiX2 tyX2 tyX2_ok nmX2 hown hK hP hD hS 15 rfl rfl 1 (by decide) (va_Nw.use rfl (hG.at 8 rfl)) (fun _ h9 => h9) rfl (by decide +kernel) rfl rfl (Nat.le_of_ble_eq_true rfl) (kdr dgL_text_0 0 4 rfl rfl) (fun H locs hP hD hS => ?_)
    have hP : va_P (dC, dI) vwCl ((wSB cI cJ cZ a ce fr un sb se so sc wb we wo wc fb fe fo fc rm ac rf kn) ++ (wO o on (.ref qa1))) H := hP
    have hD : va_D A ((wSB cI cJ cZ a ce fr un sb se so sc wb we wo wc fb fe fo fc rm ac rf kn) ++ (wO o on (.ref qa1))) := hD
    refine lv_goto (tgt := 15) hx hb (kdr dgL_text_0 0 5 rfl rfl) (by decide) ?_
    refine lv_iconst (v := 0) hx hb (kdr dgL_text_0 0 9 rfl rfl) (by decide) ?_
    have h := Option.some.inj h
    subst h
    refine W.widen (k := 7) (n := 280) (Nat.le_of_ble_eq_true rfl) (Nat.le_of_ble_eq_true rfl) ?_
    exact kret_iw (v := 0) (w := (.ref qa1)) (F := fun w9 => ((wSB cI cJ cZ a ce fr un sb se so sc wb we wo wc fb fe fo fc rm ac rf kn) ++ (wO o on w9))) hx hb hr rfl hlocks rfl hS hP (kdr dgL_text_0 1 0 rfl rfl)
