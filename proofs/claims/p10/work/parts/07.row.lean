noncomputable abbrev wsX0_count : List Cond := kWs yX0_count cX0_count 1 (some .int)
noncomputable def f_X0_count (rc : Int32) : Option (Int32) :=
  some rc
theorem f_X0_count_e {rc : Int32} : f_X0_count rc = 
  some rc := rfl
set_option maxHeartbeats 4000000 in
set_option maxRecDepth 100000 in
theorem c_X0_count (l : Launch) (dC : Nat → ClassId) (dI : Nat → Nat → Nat) (cB cI cJ cZ : ClassId) (h0 : Nat) (h1 : Nat) (h2 : Nat) (h3 : Nat) (sz : Nat) (rb : Nat → Int64) (re : Nat → Int64) (ro : Nat → Int32) (rc : Int32) (res : Int32) (hf : f_X0_count rc = some res) : kMi l yX0_count wsX0_count (kRm 0 0 0 0) dC dI cB cI cJ cZ [.ref h0] sz (wRow cJ cZ h0 h1 h2 h3 rb re ro rc) .int (res) (wRow cJ cZ h0 h1 h2 h3 rb re ro rc) 0 0 := by
  refine kmet_i (y := yX0_count) (cc := cX0_count) (maxL := 1) (ret := (some .int)) RX0 (kvA 0 h0 kvE) kpl_X0 rfl rfl (Nat.le_of_ble_eq_true rfl) rfl (fun p e s m below meth c A ls hx hb hr hml hts hown hlocks hP hK hG hD hA hS hl => ?_)
  have hw0 := hts (.fieldLink RX0 22 "Spanbooker$Row" "count" "I") (List.mem_cons_of_mem _ kw_95)
  have hiX0 : ∀ w ∈ u_ws RX0 TX0 4, w ∈ wsX0_count := fun w h => List.mem_cons_of_mem _ (ku_X0 w h)
  have h := f_X0_count_e.symm.trans hf
  refine lv_aload_n hx hb (kdr dgX0_count_0 0 0 rfl rfl) rfl (lv_at hl 0 rfl) ?_
  refine va_get (D := (dC, dI)) (ci := 2) (v := .int rc) (C := RX0) (T := TX0) (N := 4) hx hb hts hiX0 hown hK hP 0 rfl rfl 3 (by decide) hw0 (fun _ h9 => h9) rfl (kdr dgX0_count_0 0 1 rfl rfl) ?_
  have h := Option.some.inj h
  subst h
  exact kret_i (v := rc) hx hb hr rfl hlocks hS hP (kdr dgX0_count_0 0 2 rfl rfl)
noncomputable abbrev wsX0_isIn : List Cond := kWs yX0_isIn cX0_isIn 2 (some .boolean)
noncomputable def f_X0_isIn (rc : Int32) (p0 : Int32) : Option (Int32) :=
  if p0 < 0 then
    some 0
  else
    if rc ≤ p0 then
      some 0
    else
      some 1
theorem f_X0_isIn_e {rc : Int32} {p0 : Int32} : f_X0_isIn rc p0 = 
  if p0 < 0 then
    some 0
  else
    if rc ≤ p0 then
      some 0
    else
      some 1 := rfl
set_option maxHeartbeats 4000000 in
set_option maxRecDepth 100000 in
theorem c_X0_isIn (l : Launch) (dC : Nat → ClassId) (dI : Nat → Nat → Nat) (cB cI cJ cZ : ClassId) (h0 : Nat) (h1 : Nat) (h2 : Nat) (h3 : Nat) (sz : Nat) (rb : Nat → Int64) (re : Nat → Int64) (ro : Nat → Int32) (rc : Int32) (p0 : Int32) (res : Int32) (hf : f_X0_isIn rc p0 = some res) : kMi l yX0_isIn wsX0_isIn (kRm 0 0 0 0) dC dI cB cI cJ cZ [.ref h0, .int p0] sz (wRow cJ cZ h0 h1 h2 h3 rb re ro rc) .boolean (res) (wRow cJ cZ h0 h1 h2 h3 rb re ro rc) 0 0 := by
  refine kmet_i (y := yX0_isIn) (cc := cX0_isIn) (maxL := 2) (ret := (some .boolean)) RX0 (kvA 0 h0 (kvI 1 p0 kvE)) kpl_X0 rfl rfl (Nat.le_of_ble_eq_true rfl) rfl (fun p e s m below meth c A ls hx hb hr hml hts hown hlocks hP hK hG hD hA hS hl => ?_)
  have hw0 := hts (.fieldLink RX0 22 "Spanbooker$Row" "count" "I") (List.mem_cons_of_mem _ kw_95)
  have hiX0 : ∀ w ∈ u_ws RX0 TX0 4, w ∈ wsX0_isIn := fun w h => List.mem_cons_of_mem _ (ku_X0 w h)
  have h := f_X0_isIn_e.symm.trans hf
  refine lv_iload_n hx hb (kdr dgX0_isIn_0 0 0 rfl rfl) rfl (lv_at hl 1 rfl) ?_
  refine lv_if_lt (tgt := 16) hx hb (kdr dgX0_isIn_0 0 1 rfl rfl) (by decide) (fun c1 => ?_) (fun c1 => ?_)
  · have h := g_t c1 h
    refine lv_iconst (v := 0) hx hb (kdr dgX0_isIn_0 0 8 rfl rfl) (by decide) ?_
    have h := Option.some.inj h
    subst h
    exact kret_i (v := 0) hx hb hr rfl hlocks hS hP (kdr dgX0_isIn_0 0 9 rfl rfl)
  · have h := g_f c1 h
    refine lv_iload_n hx hb (kdr dgX0_isIn_0 0 2 rfl rfl) rfl (lv_at hl 1 rfl) ?_
    refine lv_aload_n hx hb (kdr dgX0_isIn_0 0 3 rfl rfl) rfl (lv_at hl 0 rfl) ?_
    refine va_get (D := (dC, dI)) (ci := 2) (v := .int rc) (C := RX0) (T := TX0) (N := 4) hx hb hts hiX0 hown hK hP 0 rfl rfl 3 (by decide) hw0 (fun _ h9 => h9) rfl (kdr dgX0_isIn_0 0 4 rfl rfl) ?_
    refine lv_icmp_ge (tgt := 16) hx hb (kdr dgX0_isIn_0 0 5 rfl rfl) (by decide) (fun c2 => ?_) (fun c2 => ?_)
    · have h := g_t c2 h
      refine lv_iconst (v := 0) hx hb (kdr dgX0_isIn_0 0 8 rfl rfl) (by decide) ?_
      have h := Option.some.inj h
      subst h
      exact kret_i (v := 0) hx hb hr rfl hlocks hS hP (kdr dgX0_isIn_0 0 9 rfl rfl)
    · have h := g_f c2 h
      refine lv_iconst (v := 1) hx hb (kdr dgX0_isIn_0 0 6 rfl rfl) (by decide) ?_
      refine lv_goto (tgt := 17) hx hb (kdr dgX0_isIn_0 0 7 rfl rfl) (by decide) ?_
      have h := Option.some.inj h
      subst h
      exact kret_i (v := 1) hx hb hr rfl hlocks hS hP (kdr dgX0_isIn_0 0 9 rfl rfl)
noncomputable abbrev wsX0_begin : List Cond := kWs yX0_begin cX0_begin 2 (some .long)
noncomputable def f_X0_begin (rb : Nat → Int64) (rc : Int32) (p0 : Int32) : Option (Int64) :=
  (f_X0_isIn rc p0).bind fun r1 =>
  if r1 = 0 then
    some 0
  else
    if ix p0 11 then
      some (rb p0.toNatClampNeg)
    else none
theorem f_X0_begin_e {rb : Nat → Int64} {rc : Int32} {p0 : Int32} : f_X0_begin rb rc p0 = 
  (f_X0_isIn rc p0).bind fun r1 =>
  if r1 = 0 then
    some 0
  else
    if ix p0 11 then
      some (rb p0.toNatClampNeg)
    else none := rfl
set_option maxHeartbeats 4000000 in
set_option maxRecDepth 100000 in
theorem c_X0_begin (l : Launch) (dC : Nat → ClassId) (dI : Nat → Nat → Nat) (cB cI cJ cZ : ClassId) (h0 : Nat) (h1 : Nat) (h2 : Nat) (h3 : Nat) (sz : Nat) (rb : Nat → Int64) (re : Nat → Int64) (ro : Nat → Int32) (rc : Int32) (p0 : Int32) (res : Int64) (hf : f_X0_begin rb rc p0 = some res) : kMl l yX0_begin wsX0_begin (kRm 1 0 0 21) dC dI cB cI cJ cZ [.ref h0, .int p0] sz (wRow cJ cZ h0 h1 h2 h3 rb re ro rc) (res) (wRow cJ cZ h0 h1 h2 h3 rb re ro rc) 0 0 := by
  refine kmet_l (y := yX0_begin) (cc := cX0_begin) (maxL := 2) (ret := (some .long)) RX0 (kvA 0 h0 (kvI 1 p0 kvE)) kpl_X0 rfl rfl (Nat.le_of_ble_eq_true rfl) rfl (fun p e s m below meth c A ls hx hb hr hml hts hown hlocks hP hK hG hD hA hS hl => ?_)
  have hw0 := hts (.fieldLink RX0 9 "Spanbooker$Row" "begins" "[J") (List.mem_cons_of_mem _ kw_92)
  have hiX0 : ∀ w ∈ u_ws RX0 TX0 4, w ∈ wsX0_begin := fun w h => List.mem_cons_of_mem _ (ku_X0 w h)
  have h := f_X0_begin_e.symm.trans hf
  refine lv_aload_n hx hb (kdr dgX0_begin_0 0 0 rfl rfl) rfl (lv_at hl 0 rfl) ?_
  refine lv_iload_n hx hb (kdr dgX0_begin_0 0 1 rfl rfl) rfl (lv_at hl 1 rfl) ?_
  obtain ⟨r1, g1, h⟩ := g_b h
  refine kq_i (wRow cJ cZ h0 h1 h2 h3 rb re ro rc) (fun qP qD qF => va_runV (As := [.int p0]) (rest := []) ⟨hx, hb, hml, hown, hts⟩ (c_X0_isIn l dC dI cB cI cJ cZ h0 h1 h2 h3 _ rb re ro rc p0 r1 g1) (kcwV hts kw_198 kv_X0_isIn rfl rfl ⟨(Nat.le_of_ble_eq_true rfl), (Nat.le_of_ble_eq_true rfl)⟩) (kpV (A := A) qP hK qD hG (krecv_2 (q0 := 0) hK hP rfl)) rfl rfl hl.1 rfl (lv_room (Nat.le_of_ble_eq_true rfl)) (kdr dgX0_begin_0 0 2 rfl rfl) ⟨(Nat.le_of_ble_eq_true rfl), (Nat.le_of_ble_eq_true rfl)⟩) hP hD hS hA kFr_Row (fun H locs hP hD hS br1 => ?_)
  refine lv_if_eq (tgt := 17) hx hb (kdr dgX0_begin_0 0 3 rfl rfl) (by decide) (fun c2 => ?_) (fun c2 => ?_)
  · have h := g_t c2 h
    refine lv_lconst (v := 0) hx hb (kdr dgX0_begin_0 0 9 rfl rfl) (by decide) ?_
    have h := Option.some.inj h
    subst h
    exact kret_l (v := 0) hx hb hr hlocks hS hP (kdr dgX0_begin_0 1 0 rfl rfl)
  · have h := g_f c2 h
    refine lv_aload_n hx hb (kdr dgX0_begin_0 0 4 rfl rfl) rfl (lv_at hl 0 rfl) ?_
    refine va_get (D := (dC, dI)) (ci := 2) (v := .ref h1) (C := RX0) (T := TX0) (N := 4) hx hb hts hiX0 hown hK hP 0 rfl rfl 0 (by decide) hw0 (fun _ h9 => h9) rfl (kdr dgX0_begin_0 0 5 rfl rfl) ?_
    refine lv_iload_n hx hb (kdr dgX0_begin_0 0 6 rfl rfl) rfl (lv_at hl 1 rfl) ?_
    obtain ⟨z2, h⟩ := g_if h
    refine va_lald hx hb hK hP 1 2 rfl rfl (ix_in z2) (kdr dgX0_begin_0 0 7 rfl rfl) ?_
    refine lv_goto (tgt := 18) hx hb (kdr dgX0_begin_0 0 8 rfl rfl) (by decide) ?_
    have h := Option.some.inj h
    subst h
    exact kret_l (v := rb p0.toNatClampNeg) hx hb hr hlocks hS hP (kdr dgX0_begin_0 1 0 rfl rfl)
noncomputable abbrev wsX0_end : List Cond := kWs yX0_end cX0_end 2 (some .long)
noncomputable def f_X0_end (re : Nat → Int64) (rc : Int32) (p0 : Int32) : Option (Int64) :=
  (f_X0_isIn rc p0).bind fun r1 =>
  if r1 = 0 then
    some 0
  else
    if ix p0 11 then
      some (re p0.toNatClampNeg)
    else none
theorem f_X0_end_e {re : Nat → Int64} {rc : Int32} {p0 : Int32} : f_X0_end re rc p0 = 
  (f_X0_isIn rc p0).bind fun r1 =>
  if r1 = 0 then
    some 0
  else
    if ix p0 11 then
      some (re p0.toNatClampNeg)
    else none := rfl
set_option maxHeartbeats 4000000 in
set_option maxRecDepth 100000 in
theorem c_X0_end (l : Launch) (dC : Nat → ClassId) (dI : Nat → Nat → Nat) (cB cI cJ cZ : ClassId) (h0 : Nat) (h1 : Nat) (h2 : Nat) (h3 : Nat) (sz : Nat) (rb : Nat → Int64) (re : Nat → Int64) (ro : Nat → Int32) (rc : Int32) (p0 : Int32) (res : Int64) (hf : f_X0_end re rc p0 = some res) : kMl l yX0_end wsX0_end (kRm 1 0 0 21) dC dI cB cI cJ cZ [.ref h0, .int p0] sz (wRow cJ cZ h0 h1 h2 h3 rb re ro rc) (res) (wRow cJ cZ h0 h1 h2 h3 rb re ro rc) 0 0 := by
  refine kmet_l (y := yX0_end) (cc := cX0_end) (maxL := 2) (ret := (some .long)) RX0 (kvA 0 h0 (kvI 1 p0 kvE)) kpl_X0 rfl rfl (Nat.le_of_ble_eq_true rfl) rfl (fun p e s m below meth c A ls hx hb hr hml hts hown hlocks hP hK hG hD hA hS hl => ?_)
  have hw0 := hts (.fieldLink RX0 15 "Spanbooker$Row" "ends" "[J") (List.mem_cons_of_mem _ kw_93)
  have hiX0 : ∀ w ∈ u_ws RX0 TX0 4, w ∈ wsX0_end := fun w h => List.mem_cons_of_mem _ (ku_X0 w h)
  have h := f_X0_end_e.symm.trans hf
  refine lv_aload_n hx hb (kdr dgX0_end_0 0 0 rfl rfl) rfl (lv_at hl 0 rfl) ?_
  refine lv_iload_n hx hb (kdr dgX0_end_0 0 1 rfl rfl) rfl (lv_at hl 1 rfl) ?_
  obtain ⟨r1, g1, h⟩ := g_b h
  refine kq_i (wRow cJ cZ h0 h1 h2 h3 rb re ro rc) (fun qP qD qF => va_runV (As := [.int p0]) (rest := []) ⟨hx, hb, hml, hown, hts⟩ (c_X0_isIn l dC dI cB cI cJ cZ h0 h1 h2 h3 _ rb re ro rc p0 r1 g1) (kcwV hts kw_198 kv_X0_isIn rfl rfl ⟨(Nat.le_of_ble_eq_true rfl), (Nat.le_of_ble_eq_true rfl)⟩) (kpV (A := A) qP hK qD hG (krecv_2 (q0 := 0) hK hP rfl)) rfl rfl hl.1 rfl (lv_room (Nat.le_of_ble_eq_true rfl)) (kdr dgX0_end_0 0 2 rfl rfl) ⟨(Nat.le_of_ble_eq_true rfl), (Nat.le_of_ble_eq_true rfl)⟩) hP hD hS hA kFr_Row (fun H locs hP hD hS br1 => ?_)
  refine lv_if_eq (tgt := 17) hx hb (kdr dgX0_end_0 0 3 rfl rfl) (by decide) (fun c2 => ?_) (fun c2 => ?_)
  · have h := g_t c2 h
    refine lv_lconst (v := 0) hx hb (kdr dgX0_end_0 0 9 rfl rfl) (by decide) ?_
    have h := Option.some.inj h
    subst h
    exact kret_l (v := 0) hx hb hr hlocks hS hP (kdr dgX0_end_0 1 0 rfl rfl)
  · have h := g_f c2 h
    refine lv_aload_n hx hb (kdr dgX0_end_0 0 4 rfl rfl) rfl (lv_at hl 0 rfl) ?_
    refine va_get (D := (dC, dI)) (ci := 2) (v := .ref h2) (C := RX0) (T := TX0) (N := 4) hx hb hts hiX0 hown hK hP 0 rfl rfl 1 (by decide) hw0 (fun _ h9 => h9) rfl (kdr dgX0_end_0 0 5 rfl rfl) ?_
    refine lv_iload_n hx hb (kdr dgX0_end_0 0 6 rfl rfl) rfl (lv_at hl 1 rfl) ?_
    obtain ⟨z2, h⟩ := g_if h
    refine va_lald hx hb hK hP 2 2 rfl rfl (ix_in z2) (kdr dgX0_end_0 0 7 rfl rfl) ?_
    refine lv_goto (tgt := 18) hx hb (kdr dgX0_end_0 0 8 rfl rfl) (by decide) ?_
    have h := Option.some.inj h
    subst h
    exact kret_l (v := re p0.toNatClampNeg) hx hb hr hlocks hS hP (kdr dgX0_end_0 1 0 rfl rfl)
noncomputable abbrev wsX0_isOver : List Cond := kWs yX0_isOver cX0_isOver 2 (some .boolean)
noncomputable def f_X0_isOver (ro : Nat → Int32) (rc : Int32) (p0 : Int32) : Option (Int32) :=
  (f_X0_isIn rc p0).bind fun r1 =>
  if r1 = 0 then
    some 0
  else
    if ix p0 11 then
      if (ro p0.toNatClampNeg) = 0 then
        some 0
      else
        some 1
    else none
theorem f_X0_isOver_e {ro : Nat → Int32} {rc : Int32} {p0 : Int32} : f_X0_isOver ro rc p0 = 
  (f_X0_isIn rc p0).bind fun r1 =>
  if r1 = 0 then
    some 0
  else
    if ix p0 11 then
      if (ro p0.toNatClampNeg) = 0 then
        some 0
      else
        some 1
    else none := rfl
set_option maxHeartbeats 4000000 in
set_option maxRecDepth 100000 in
theorem c_X0_isOver (l : Launch) (dC : Nat → ClassId) (dI : Nat → Nat → Nat) (cB cI cJ cZ : ClassId) (h0 : Nat) (h1 : Nat) (h2 : Nat) (h3 : Nat) (sz : Nat) (rb : Nat → Int64) (re : Nat → Int64) (ro : Nat → Int32) (rc : Int32) (p0 : Int32) (res : Int32) (hf : f_X0_isOver ro rc p0 = some res) : kMi l yX0_isOver wsX0_isOver (kRm 1 0 0 21) dC dI cB cI cJ cZ [.ref h0, .int p0] sz (wRow cJ cZ h0 h1 h2 h3 rb re ro rc) .boolean (res) (wRow cJ cZ h0 h1 h2 h3 rb re ro rc) 0 0 := by
  refine kmet_i (y := yX0_isOver) (cc := cX0_isOver) (maxL := 2) (ret := (some .boolean)) RX0 (kvA 0 h0 (kvI 1 p0 kvE)) kpl_X0 rfl rfl (Nat.le_of_ble_eq_true rfl) rfl (fun p e s m below meth c A ls hx hb hr hml hts hown hlocks hP hK hG hD hA hS hl => ?_)
  have hw0 := hts (.fieldLink RX0 18 "Spanbooker$Row" "overs" "[Z") (List.mem_cons_of_mem _ kw_94)
  have hiX0 : ∀ w ∈ u_ws RX0 TX0 4, w ∈ wsX0_isOver := fun w h => List.mem_cons_of_mem _ (ku_X0 w h)
  have h := f_X0_isOver_e.symm.trans hf
  refine lv_aload_n hx hb (kdr dgX0_isOver_0 0 0 rfl rfl) rfl (lv_at hl 0 rfl) ?_
  refine lv_iload_n hx hb (kdr dgX0_isOver_0 0 1 rfl rfl) rfl (lv_at hl 1 rfl) ?_
  obtain ⟨r1, g1, h⟩ := g_b h
  refine kq_i (wRow cJ cZ h0 h1 h2 h3 rb re ro rc) (fun qP qD qF => va_runV (As := [.int p0]) (rest := []) ⟨hx, hb, hml, hown, hts⟩ (c_X0_isIn l dC dI cB cI cJ cZ h0 h1 h2 h3 _ rb re ro rc p0 r1 g1) (kcwV hts kw_198 kv_X0_isIn rfl rfl ⟨(Nat.le_of_ble_eq_true rfl), (Nat.le_of_ble_eq_true rfl)⟩) (kpV (A := A) qP hK qD hG (krecv_2 (q0 := 0) hK hP rfl)) rfl rfl hl.1 rfl (lv_room (Nat.le_of_ble_eq_true rfl)) (kdr dgX0_isOver_0 0 2 rfl rfl) ⟨(Nat.le_of_ble_eq_true rfl), (Nat.le_of_ble_eq_true rfl)⟩) hP hD hS hA kFr_Row (fun H locs hP hD hS br1 => ?_)
  refine lv_if_eq (tgt := 21) hx hb (kdr dgX0_isOver_0 0 3 rfl rfl) (by decide) (fun c2 => ?_) (fun c2 => ?_)
  · have h := g_t c2 h
    refine lv_iconst (v := 0) hx hb (kdr dgX0_isOver_0 1 1 rfl rfl) (by decide) ?_
    have h := Option.some.inj h
    subst h
    exact kret_i (v := 0) hx hb hr rfl hlocks hS hP (kdr dgX0_isOver_0 1 2 rfl rfl)
  · have h := g_f c2 h
    refine lv_aload_n hx hb (kdr dgX0_isOver_0 0 4 rfl rfl) rfl (lv_at hl 0 rfl) ?_
    refine va_get (D := (dC, dI)) (ci := 2) (v := .ref h3) (C := RX0) (T := TX0) (N := 4) hx hb hts hiX0 hown hK hP 0 rfl rfl 2 (by decide) hw0 (fun _ h9 => h9) rfl (kdr dgX0_isOver_0 0 5 rfl rfl) ?_
    refine lv_iload_n hx hb (kdr dgX0_isOver_0 0 6 rfl rfl) rfl (lv_at hl 1 rfl) ?_
    obtain ⟨z2, h⟩ := g_if h
    refine va_zald hx hb hK hP 3 3 rfl rfl (ix_in z2) (kdr dgX0_isOver_0 0 7 rfl rfl) ?_
    refine lv_if_eq (tgt := 21) hx hb (kdr dgX0_isOver_0 0 8 rfl rfl) (by decide) (fun c4 => ?_) (fun c4 => ?_)
    · have h := g_t c4 h
      refine lv_iconst (v := 0) hx hb (kdr dgX0_isOver_0 1 1 rfl rfl) (by decide) ?_
      have h := Option.some.inj h
      subst h
      exact kret_i (v := 0) hx hb hr rfl hlocks hS hP (kdr dgX0_isOver_0 1 2 rfl rfl)
    · have h := g_f c4 h
      refine lv_iconst (v := 1) hx hb (kdr dgX0_isOver_0 0 9 rfl rfl) (by decide) ?_
      refine lv_goto (tgt := 22) hx hb (kdr dgX0_isOver_0 1 0 rfl rfl) (by decide) ?_
      have h := Option.some.inj h
      subst h
      exact kret_i (v := 1) hx hb hr rfl hlocks hS hP (kdr dgX0_isOver_0 1 2 rfl rfl)
noncomputable abbrev wsX0_clear : List Cond := kWs yX0_clear cX0_clear 2 (some .int)
noncomputable def f_X0_clear (rc : Int32) : Option ((Int32) × (Int32)) :=
  some (rc, 0)
theorem f_X0_clear_e {rc : Int32} : f_X0_clear rc = 
  some (rc, 0) := rfl
set_option maxHeartbeats 4000000 in
set_option maxRecDepth 100000 in
theorem c_X0_clear (l : Launch) (dC : Nat → ClassId) (dI : Nat → Nat → Nat) (cB cI cJ cZ : ClassId) (h0 : Nat) (h1 : Nat) (h2 : Nat) (h3 : Nat) (sz : Nat) (rb : Nat → Int64) (re : Nat → Int64) (ro : Nat → Int32) (rc : Int32) (res : (Int32) × (Int32)) (hf : f_X0_clear rc = some res) : kMi l yX0_clear wsX0_clear (kRm 0 0 0 0) dC dI cB cI cJ cZ [.ref h0] sz (wRow cJ cZ h0 h1 h2 h3 rb re ro rc) .int (res.1) (wRow cJ cZ h0 h1 h2 h3 rb re ro (res.2)) 0 0 := by
  refine kmet_i (y := yX0_clear) (cc := cX0_clear) (maxL := 2) (ret := (some .int)) RX0 (kvA 0 h0 kvE) kpl_X0 rfl rfl (Nat.le_of_ble_eq_true rfl) rfl (fun p e s m below meth c A ls hx hb hr hml hts hown hlocks hP hK hG hD hA hS hl => ?_)
  have hw0 := hts (.fieldLink RX0 22 "Spanbooker$Row" "count" "I") (List.mem_cons_of_mem _ kw_95)
  have hiX0 : ∀ w ∈ u_ws RX0 TX0 4, w ∈ wsX0_clear := fun w h => List.mem_cons_of_mem _ (ku_X0 w h)
  have h := f_X0_clear_e.symm.trans hf
  refine lv_aload_n hx hb (kdr dgX0_clear_0 0 0 rfl rfl) rfl (lv_at hl 0 rfl) ?_
  refine va_get (D := (dC, dI)) (ci := 2) (v := .int rc) (C := RX0) (T := TX0) (N := 4) hx hb hts hiX0 hown hK hP 0 rfl rfl 3 (by decide) hw0 (fun _ h9 => h9) rfl (kdr dgX0_clear_0 0 1 rfl rfl) ?_
  refine lv_istore_n (lv' := (kvI 1 rc (kvA 0 h0 kvE))) hx hb (kdr dgX0_clear_0 0 2 rfl rfl) rfl hl (by decide) rfl (fun ls hl => ?_)
  refine lv_aload_n hx hb (kdr dgX0_clear_0 0 3 rfl rfl) rfl (lv_at hl 1 rfl) ?_
  refine lv_iconst (v := 0) hx hb (kdr dgX0_clear_0 0 4 rfl rfl) (by decide) ?_
  refine va_put (D := (dC, dI)) (ci := 2) (v := .int 0) (ty := .int) (C := RX0) (T := TX0) (N := 4) hx hb hts hiX0 tyX0 tyX0_ok nmX0 hown hK hP hD hS 0 rfl rfl 3 (by decide) hw0 (fun _ h9 => h9) rfl (by decide +kernel) rfl rfl (Nat.le_of_ble_eq_true rfl) (kdr dgX0_clear_0 0 5 rfl rfl) (fun H locs hP hD hS => ?_)
  have hP : va_P (dC, dI) vwCl (wRow cJ cZ h0 h1 h2 h3 rb re ro 0) H := hP
  have hD : va_D A (wRow cJ cZ h0 h1 h2 h3 rb re ro 0) := hD
  refine lv_iload_n hx hb (kdr dgX0_clear_0 0 6 rfl rfl) rfl (lv_at hl 0 rfl) ?_
  have h := Option.some.inj h
  subst h
  exact kret_i (v := rc) hx hb hr rfl hlocks hS hP (kdr dgX0_clear_0 0 7 rfl rfl)
noncomputable abbrev wsX0_add : List Cond := kWs yX0_add cX0_add 6 (some .int)
noncomputable def f_X0_add (rb : Nat → Int64) (re : Nat → Int64) (ro : Nat → Int32) (rc : Int32) (p0 : Int64) (p1 : Int64) (p2 : Int32) : Option ((Int32) × (Nat → Int64) × (Nat → Int64) × (Nat → Int32) × (Int32)) :=
  if rc < 11 then
    if ix rc 11 then
      some ((rc + 1) - 1, vp_updL rb rc.toNatClampNeg p0, vp_updL re rc.toNatClampNeg p1, upd ro rc.toNatClampNeg (vp_nar .boolean p2), rc + 1)
    else none
  else
    some ((-1), rb, re, ro, rc)
theorem f_X0_add_e {rb : Nat → Int64} {re : Nat → Int64} {ro : Nat → Int32} {rc : Int32} {p0 : Int64} {p1 : Int64} {p2 : Int32} : f_X0_add rb re ro rc p0 p1 p2 = 
  if rc < 11 then
    if ix rc 11 then
      some ((rc + 1) - 1, vp_updL rb rc.toNatClampNeg p0, vp_updL re rc.toNatClampNeg p1, upd ro rc.toNatClampNeg (vp_nar .boolean p2), rc + 1)
    else none
  else
    some ((-1), rb, re, ro, rc) := rfl
set_option maxHeartbeats 4000000 in
set_option maxRecDepth 100000 in
theorem c_X0_add (l : Launch) (dC : Nat → ClassId) (dI : Nat → Nat → Nat) (cB cI cJ cZ : ClassId) (h0 : Nat) (h1 : Nat) (h2 : Nat) (h3 : Nat) (sz : Nat) (rb : Nat → Int64) (re : Nat → Int64) (ro : Nat → Int32) (rc : Int32) (p0 : Int64) (p1 : Int64) (p2 : Int32) (res : (Int32) × (Nat → Int64) × (Nat → Int64) × (Nat → Int32) × (Int32)) (hf : f_X0_add rb re ro rc p0 p1 p2 = some res) : kMi l yX0_add wsX0_add (kRm 0 0 0 0) dC dI cB cI cJ cZ [.ref h0, .long p0, .long p1, .int p2] sz (wRow cJ cZ h0 h1 h2 h3 rb re ro rc) .int (res.1) (wRow cJ cZ h0 h1 h2 h3 (res.2.1) (res.2.2.1) (res.2.2.2.1) (res.2.2.2.2)) 0 0 := by
  refine kmet_i (y := yX0_add) (cc := cX0_add) (maxL := 6) (ret := (some .int)) RX0 (kvA 0 h0 (kvJ 1 p0 (kvJ 3 p1 (kvI 5 p2 kvE)))) kpl_X0 rfl rfl (Nat.le_of_ble_eq_true rfl) rfl (fun p e s m below meth c A ls hx hb hr hml hts hown hlocks hP hK hG hD hA hS hl => ?_)
  have hw0 := hts (.fieldLink RX0 22 "Spanbooker$Row" "count" "I") (List.mem_cons_of_mem _ kw_95)
  have hw1 := hts (.fieldLink RX0 9 "Spanbooker$Row" "begins" "[J") (List.mem_cons_of_mem _ kw_92)
  have hw2 := hts (.fieldLink RX0 15 "Spanbooker$Row" "ends" "[J") (List.mem_cons_of_mem _ kw_93)
  have hw3 := hts (.fieldLink RX0 18 "Spanbooker$Row" "overs" "[Z") (List.mem_cons_of_mem _ kw_94)
  have hiX0 : ∀ w ∈ u_ws RX0 TX0 4, w ∈ wsX0_add := fun w h => List.mem_cons_of_mem _ (ku_X0 w h)
  have h := f_X0_add_e.symm.trans hf
  refine lv_aload_n hx hb (kdr dgX0_add_0 0 0 rfl rfl) rfl (lv_at hl 0 rfl) ?_
  refine va_get (D := (dC, dI)) (ci := 2) (v := .int rc) (C := RX0) (T := TX0) (N := 4) hx hb hts hiX0 hown hK hP 0 rfl rfl 3 (by decide) hw0 (fun _ h9 => h9) rfl (kdr dgX0_add_0 0 1 rfl rfl) ?_
  refine lv_bipush (v := 11) hx hb (kdr dgX0_add_0 0 2 rfl rfl) (by decide) ?_
  refine lv_icmp_lt (tgt := 11) hx hb (kdr dgX0_add_0 0 3 rfl rfl) (by decide) (fun c1 => ?_) (fun c1 => ?_)
  · have h := g_t c1 h
    refine lv_aload_n hx hb (kdr dgX0_add_0 0 6 rfl rfl) rfl (lv_at hl 0 rfl) ?_
    refine va_get (D := (dC, dI)) (ci := 2) (v := .ref h1) (C := RX0) (T := TX0) (N := 4) hx hb hts hiX0 hown hK hP 0 rfl rfl 0 (by decide) hw1 (fun _ h9 => h9) rfl (kdr dgX0_add_0 0 7 rfl rfl) ?_
    refine lv_aload_n hx hb (kdr dgX0_add_0 0 8 rfl rfl) rfl (lv_at hl 0 rfl) ?_
    refine va_get (D := (dC, dI)) (ci := 2) (v := .int rc) (C := RX0) (T := TX0) (N := 4) hx hb hts hiX0 hown hK hP 0 rfl rfl 3 (by decide) hw0 (fun _ h9 => h9) rfl (kdr dgX0_add_0 0 9 rfl rfl) ?_
    refine lv_lload_n hx hb (kdr dgX0_add_0 1 0 rfl rfl) rfl (lv_at hl 1 rfl) ?_
    obtain ⟨z1, h⟩ := g_if h
    refine va_last hx hb hK hP hD hS 1 2 rfl rfl (ix_in z1) (kdr dgX0_add_0 1 1 rfl rfl) (fun H locs hP hD hS => ?_)
    have hP : va_P (dC, dI) vwCl (wRow cJ cZ h0 h1 h2 h3 (vp_updL rb rc.toNatClampNeg p0) re ro rc) H := hP
    have hD : va_D A (wRow cJ cZ h0 h1 h2 h3 (vp_updL rb rc.toNatClampNeg p0) re ro rc) := hD
    refine lv_aload_n hx hb (kdr dgX0_add_0 1 2 rfl rfl) rfl (lv_at hl 0 rfl) ?_
    refine va_get (D := (dC, dI)) (ci := 2) (v := .ref h2) (C := RX0) (T := TX0) (N := 4) hx hb hts hiX0 hown hK hP 0 rfl rfl 1 (by decide) hw2 (fun _ h9 => h9) rfl (kdr dgX0_add_0 1 3 rfl rfl) ?_
    refine lv_aload_n hx hb (kdr dgX0_add_0 1 4 rfl rfl) rfl (lv_at hl 0 rfl) ?_
    refine va_get (D := (dC, dI)) (ci := 2) (v := .int rc) (C := RX0) (T := TX0) (N := 4) hx hb hts hiX0 hown hK hP 0 rfl rfl 3 (by decide) hw0 (fun _ h9 => h9) rfl (kdr dgX0_add_0 1 5 rfl rfl) ?_
    refine lv_lload_n hx hb (kdr dgX0_add_0 1 6 rfl rfl) rfl (lv_at hl 2 rfl) ?_
    refine va_last hx hb hK hP hD hS 2 2 rfl rfl (ix_in z1) (kdr dgX0_add_0 1 7 rfl rfl) (fun H locs hP hD hS => ?_)
    have hP : va_P (dC, dI) vwCl (wRow cJ cZ h0 h1 h2 h3 (vp_updL rb rc.toNatClampNeg p0) (vp_updL re rc.toNatClampNeg p1) ro rc) H := hP
    have hD : va_D A (wRow cJ cZ h0 h1 h2 h3 (vp_updL rb rc.toNatClampNeg p0) (vp_updL re rc.toNatClampNeg p1) ro rc) := hD
    refine lv_aload_n hx hb (kdr dgX0_add_0 1 8 rfl rfl) rfl (lv_at hl 0 rfl) ?_
    refine va_get (D := (dC, dI)) (ci := 2) (v := .ref h3) (C := RX0) (T := TX0) (N := 4) hx hb hts hiX0 hown hK hP 0 rfl rfl 2 (by decide) hw3 (fun _ h9 => h9) rfl (kdr dgX0_add_0 1 9 rfl rfl) ?_
    refine lv_aload_n hx hb (kdr dgX0_add_0 2 0 rfl rfl) rfl (lv_at hl 0 rfl) ?_
    refine va_get (D := (dC, dI)) (ci := 2) (v := .int rc) (C := RX0) (T := TX0) (N := 4) hx hb hts hiX0 hown hK hP 0 rfl rfl 3 (by decide) hw0 (fun _ h9 => h9) rfl (kdr dgX0_add_0 2 1 rfl rfl) ?_
    refine lv_iload hx hb (kdr dgX0_add_0 2 2 rfl rfl) (lv_at hl 3 rfl) ?_
    refine va_zast hx hb hK hP hD hS 3 3 rfl rfl (ix_in z1) (kdr dgX0_add_0 2 3 rfl rfl) (fun H locs hP hD hS => ?_)
    have hP : va_P (dC, dI) vwCl (wRow cJ cZ h0 h1 h2 h3 (vp_updL rb rc.toNatClampNeg p0) (vp_updL re rc.toNatClampNeg p1) (upd ro rc.toNatClampNeg (vp_nar .boolean p2)) rc) H := hP
    have hD : va_D A (wRow cJ cZ h0 h1 h2 h3 (vp_updL rb rc.toNatClampNeg p0) (vp_updL re rc.toNatClampNeg p1) (upd ro rc.toNatClampNeg (vp_nar .boolean p2)) rc) := hD
    refine lv_aload_n hx hb (kdr dgX0_add_0 2 4 rfl rfl) rfl (lv_at hl 0 rfl) ?_
    refine lv_dup hx hb (kdr dgX0_add_0 2 5 rfl rfl) rfl ?_
    refine va_get (D := (dC, dI)) (ci := 2) (v := .int rc) (C := RX0) (T := TX0) (N := 4) hx hb hts hiX0 hown hK hP 0 rfl rfl 3 (by decide) hw0 (fun _ h9 => h9) rfl (kdr dgX0_add_0 2 6 rfl rfl) ?_
    refine lv_iconst (v := 1) hx hb (kdr dgX0_add_0 2 7 rfl rfl) (by decide) ?_
    refine lv_iadd hx hb (kdr dgX0_add_0 2 8 rfl rfl) ?_
    refine va_put (D := (dC, dI)) (ci := 2) (v := .int (rc + 1)) (ty := .int) (C := RX0) (T := TX0) (N := 4) hx hb hts hiX0 tyX0 tyX0_ok nmX0 hown hK hP hD hS 0 rfl rfl 3 (by decide) hw0 (fun _ h9 => h9) rfl (by decide +kernel) rfl rfl (Nat.le_of_ble_eq_true rfl) (kdr dgX0_add_0 2 9 rfl rfl) (fun H locs hP hD hS => ?_)
    have hP : va_P (dC, dI) vwCl (wRow cJ cZ h0 h1 h2 h3 (vp_updL rb rc.toNatClampNeg p0) (vp_updL re rc.toNatClampNeg p1) (upd ro rc.toNatClampNeg (vp_nar .boolean p2)) (rc + 1)) H := hP
    have hD : va_D A (wRow cJ cZ h0 h1 h2 h3 (vp_updL rb rc.toNatClampNeg p0) (vp_updL re rc.toNatClampNeg p1) (upd ro rc.toNatClampNeg (vp_nar .boolean p2)) (rc + 1)) := hD
    refine lv_aload_n hx hb (kdr dgX0_add_0 3 0 rfl rfl) rfl (lv_at hl 0 rfl) ?_
    refine va_get (D := (dC, dI)) (ci := 2) (v := .int (rc + 1)) (C := RX0) (T := TX0) (N := 4) hx hb hts hiX0 hown hK hP 0 rfl rfl 3 (by decide) hw0 (fun _ h9 => h9) rfl (kdr dgX0_add_0 3 1 rfl rfl) ?_
    refine lv_iconst (v := 1) hx hb (kdr dgX0_add_0 3 2 rfl rfl) (by decide) ?_
    refine lv_isub hx hb (kdr dgX0_add_0 3 3 rfl rfl) ?_
    have h := Option.some.inj h
    subst h
    exact kret_i (v := (rc + 1) - 1) hx hb hr rfl hlocks hS hP (kdr dgX0_add_0 3 4 rfl rfl)
  · have h := g_f c1 h
    refine lv_iconst (v := (-1)) hx hb (kdr dgX0_add_0 0 4 rfl rfl) (by decide) ?_
    have h := Option.some.inj h
    subst h
    exact kret_i (v := (-1)) hx hb hr rfl hlocks hS hP (kdr dgX0_add_0 0 5 rfl rfl)
noncomputable abbrev wsX0_remove : List Cond := kWs yX0_remove cX0_remove 3 (some .int)
noncomputable def f_X0_remove_20 : Nat → (Nat → Int64) → (Nat → Int64) → (Nat → Int32) → (Int32) → (Int32) → Option ((Int32) × (Nat → Int64) × (Nat → Int64) × (Nat → Int32) × (Int32))
  | 0, _, _, _, _, _ => none
  | n + 1, rb, re, ro, rc, x2 =>
    if rc ≤ x2 then
      some (rc, rb, re, ro, rc)
    else
      if ix (x2 + 1) 11 then
        if ix x2 11 then
          f_X0_remove_20 n (vp_updL rb x2.toNatClampNeg (rb (x2 + 1).toNatClampNeg)) (vp_updL re x2.toNatClampNeg (re (x2 + 1).toNatClampNeg)) (upd ro x2.toNatClampNeg (vp_nar .boolean (ro (x2 + 1).toNatClampNeg))) rc (x2 + 1)
        else none
      else none
theorem f_X0_remove_20_0 {rb : Nat → Int64} {re : Nat → Int64} {ro : Nat → Int32} {rc : Int32} {x2 : Int32} : f_X0_remove_20 0 rb re ro rc x2 = none := rfl
theorem f_X0_remove_20_s {n : Nat} {rb : Nat → Int64} {re : Nat → Int64} {ro : Nat → Int32} {rc : Int32} {x2 : Int32} : f_X0_remove_20 (n + 1) rb re ro rc x2 =
  if rc ≤ x2 then
    some (rc, rb, re, ro, rc)
  else
    if ix (x2 + 1) 11 then
      if ix x2 11 then
        f_X0_remove_20 n (vp_updL rb x2.toNatClampNeg (rb (x2 + 1).toNatClampNeg)) (vp_updL re x2.toNatClampNeg (re (x2 + 1).toNatClampNeg)) (upd ro x2.toNatClampNeg (vp_nar .boolean (ro (x2 + 1).toNatClampNeg))) rc (x2 + 1)
      else none
    else none := rfl
noncomputable def f_X0_remove (rb : Nat → Int64) (re : Nat → Int64) (ro : Nat → Int32) (rc : Int32) (p0 : Int32) : Option ((Int32) × (Nat → Int64) × (Nat → Int64) × (Nat → Int32) × (Int32)) :=
  (f_X0_isIn rc p0).bind fun r1 =>
  if r1 = 0 then
    some (rc, rb, re, ro, rc)
  else
    f_X0_remove_20 24 rb re ro (rc - 1) p0
theorem f_X0_remove_e {rb : Nat → Int64} {re : Nat → Int64} {ro : Nat → Int32} {rc : Int32} {p0 : Int32} : f_X0_remove rb re ro rc p0 = 
  (f_X0_isIn rc p0).bind fun r1 =>
  if r1 = 0 then
    some (rc, rb, re, ro, rc)
  else
    f_X0_remove_20 24 rb re ro (rc - 1) p0 := rfl
set_option maxHeartbeats 4000000 in
set_option maxRecDepth 100000 in
theorem c_X0_remove (l : Launch) (dC : Nat → ClassId) (dI : Nat → Nat → Nat) (cB cI cJ cZ : ClassId) (h0 : Nat) (h1 : Nat) (h2 : Nat) (h3 : Nat) (sz : Nat) (rb : Nat → Int64) (re : Nat → Int64) (ro : Nat → Int32) (rc : Int32) (p0 : Int32) (res : (Int32) × (Nat → Int64) × (Nat → Int64) × (Nat → Int32) × (Int32)) (hf : f_X0_remove rb re ro rc p0 = some res) : kMi l yX0_remove wsX0_remove (kRm 1 0 0 21) dC dI cB cI cJ cZ [.ref h0, .int p0] sz (wRow cJ cZ h0 h1 h2 h3 rb re ro rc) .int (res.1) (wRow cJ cZ h0 h1 h2 h3 (res.2.1) (res.2.2.1) (res.2.2.2.1) (res.2.2.2.2)) 0 0 := by
  refine kmet_i (y := yX0_remove) (cc := cX0_remove) (maxL := 3) (ret := (some .int)) RX0 (kvA 0 h0 (kvI 1 p0 kvE)) kpl_X0 rfl rfl (Nat.le_of_ble_eq_true rfl) rfl (fun p e s m below meth c A ls hx hb hr hml hts hown hlocks hP hK hG hD hA hS hl => ?_)
  have hw0 := hts (.fieldLink RX0 22 "Spanbooker$Row" "count" "I") (List.mem_cons_of_mem _ kw_95)
  have hw1 := hts (.fieldLink RX0 9 "Spanbooker$Row" "begins" "[J") (List.mem_cons_of_mem _ kw_92)
  have hw2 := hts (.fieldLink RX0 15 "Spanbooker$Row" "ends" "[J") (List.mem_cons_of_mem _ kw_93)
  have hw3 := hts (.fieldLink RX0 18 "Spanbooker$Row" "overs" "[Z") (List.mem_cons_of_mem _ kw_94)
  have hiX0 : ∀ w ∈ u_ws RX0 TX0 4, w ∈ wsX0_remove := fun w h => List.mem_cons_of_mem _ (ku_X0 w h)
  have J20 : ∀ (n : Nat), ∀ (rb : Nat → Int64) (re : Nat → Int64) (ro : Nat → Int32) (rc : Int32) (x2 : Int32) (H : Heap) (locs : List Loc), va_P (dC, dI) vwCl (wRow cJ cZ h0 h1 h2 h3 rb re ro rc) H → va_D A (wRow cJ cZ h0 h1 h2 h3 rb re ro rc) → va_S A s.heap H locs → ∀ (ls : Array Slot), lv_has ls 3 (kvA 0 h0 (kvI 2 x2 kvE)) → f_X0_remove_20 n rb re ro rc x2 = some res → W p l e (headSpec wsX0_remove (kRm 1 0 0 21)).room s m ([.ref h0, .int p0] : List Value).toArray below meth c H locs 0 0 (MQ below (kI (dC, dI) .int (res.1) (wRow cJ cZ h0 h1 h2 h3 (res.2.1) (res.2.2.1) (res.2.2.2.1) (res.2.2.2.2)) A) ([.ref h0, .int p0] : List Value).toArray s 0 0 A) (F0 m 20 ls []) := by
    intro n
    induction n with
    | zero =>
      intro rb re ro rc x2 H locs hP hD hS ls hl h
      have h := f_X0_remove_20_0.symm.trans h
      cases h
    | succ n ih =>
      intro rb re ro rc x2 H locs hP hD hS ls hl h
      have h := f_X0_remove_20_s.symm.trans h
      refine lv_iload_n hx hb (kdr dgX0_remove_0 1 2 rfl rfl) rfl (lv_at hl 1 rfl) ?_
      refine lv_aload_n hx hb (kdr dgX0_remove_0 1 3 rfl rfl) rfl (lv_at hl 0 rfl) ?_
      refine va_get (D := (dC, dI)) (ci := 2) (v := .int rc) (C := RX0) (T := TX0) (N := 4) hx hb hts hiX0 hown hK hP 0 rfl rfl 3 (by decide) hw0 (fun _ h9 => h9) rfl (kdr dgX0_remove_0 1 4 rfl rfl) ?_
      refine lv_icmp_ge (tgt := 76) hx hb (kdr dgX0_remove_0 1 5 rfl rfl) (by decide) (fun c1 => ?_) (fun c1 => ?_)
      · have h := g_t c1 h
        refine lv_aload_n hx hb (kdr dgX0_remove_0 4 8 rfl rfl) rfl (lv_at hl 0 rfl) ?_
        refine va_get (D := (dC, dI)) (ci := 2) (v := .int rc) (C := RX0) (T := TX0) (N := 4) hx hb hts hiX0 hown hK hP 0 rfl rfl 3 (by decide) hw0 (fun _ h9 => h9) rfl (kdr dgX0_remove_0 4 9 rfl rfl) ?_
        have h := Option.some.inj h
        subst h
        exact kret_i (v := rc) hx hb hr rfl hlocks hS hP (kdr dgX0_remove_0 5 0 rfl rfl)
      · have h := g_f c1 h
        refine lv_aload_n hx hb (kdr dgX0_remove_0 1 6 rfl rfl) rfl (lv_at hl 0 rfl) ?_
        refine va_get (D := (dC, dI)) (ci := 2) (v := .ref h1) (C := RX0) (T := TX0) (N := 4) hx hb hts hiX0 hown hK hP 0 rfl rfl 0 (by decide) hw1 (fun _ h9 => h9) rfl (kdr dgX0_remove_0 1 7 rfl rfl) ?_
        refine lv_iload_n hx hb (kdr dgX0_remove_0 1 8 rfl rfl) rfl (lv_at hl 1 rfl) ?_
        refine lv_aload_n hx hb (kdr dgX0_remove_0 1 9 rfl rfl) rfl (lv_at hl 0 rfl) ?_
        refine va_get (D := (dC, dI)) (ci := 2) (v := .ref h1) (C := RX0) (T := TX0) (N := 4) hx hb hts hiX0 hown hK hP 0 rfl rfl 0 (by decide) hw1 (fun _ h9 => h9) rfl (kdr dgX0_remove_0 2 0 rfl rfl) ?_
        refine lv_iload_n hx hb (kdr dgX0_remove_0 2 1 rfl rfl) rfl (lv_at hl 1 rfl) ?_
        refine lv_iconst (v := 1) hx hb (kdr dgX0_remove_0 2 2 rfl rfl) (by decide) ?_
        refine lv_iadd hx hb (kdr dgX0_remove_0 2 3 rfl rfl) ?_
        obtain ⟨z1, h⟩ := g_if h
        refine va_lald hx hb hK hP 1 2 rfl rfl (ix_in z1) (kdr dgX0_remove_0 2 4 rfl rfl) ?_
        obtain ⟨z2, h⟩ := g_if h
        refine va_last hx hb hK hP hD hS 1 2 rfl rfl (ix_in z2) (kdr dgX0_remove_0 2 5 rfl rfl) (fun H locs hP hD hS => ?_)
        have hP : va_P (dC, dI) vwCl (wRow cJ cZ h0 h1 h2 h3 (vp_updL rb x2.toNatClampNeg (rb (x2 + 1).toNatClampNeg)) re ro rc) H := hP
        have hD : va_D A (wRow cJ cZ h0 h1 h2 h3 (vp_updL rb x2.toNatClampNeg (rb (x2 + 1).toNatClampNeg)) re ro rc) := hD
        refine lv_aload_n hx hb (kdr dgX0_remove_0 2 6 rfl rfl) rfl (lv_at hl 0 rfl) ?_
        refine va_get (D := (dC, dI)) (ci := 2) (v := .ref h2) (C := RX0) (T := TX0) (N := 4) hx hb hts hiX0 hown hK hP 0 rfl rfl 1 (by decide) hw2 (fun _ h9 => h9) rfl (kdr dgX0_remove_0 2 7 rfl rfl) ?_
        refine lv_iload_n hx hb (kdr dgX0_remove_0 2 8 rfl rfl) rfl (lv_at hl 1 rfl) ?_
        refine lv_aload_n hx hb (kdr dgX0_remove_0 2 9 rfl rfl) rfl (lv_at hl 0 rfl) ?_
        refine va_get (D := (dC, dI)) (ci := 2) (v := .ref h2) (C := RX0) (T := TX0) (N := 4) hx hb hts hiX0 hown hK hP 0 rfl rfl 1 (by decide) hw2 (fun _ h9 => h9) rfl (kdr dgX0_remove_0 3 0 rfl rfl) ?_
        refine lv_iload_n hx hb (kdr dgX0_remove_0 3 1 rfl rfl) rfl (lv_at hl 1 rfl) ?_
        refine lv_iconst (v := 1) hx hb (kdr dgX0_remove_0 3 2 rfl rfl) (by decide) ?_
        refine lv_iadd hx hb (kdr dgX0_remove_0 3 3 rfl rfl) ?_
        refine va_lald hx hb hK hP 2 2 rfl rfl (ix_in z1) (kdr dgX0_remove_0 3 4 rfl rfl) ?_
        refine va_last hx hb hK hP hD hS 2 2 rfl rfl (ix_in z2) (kdr dgX0_remove_0 3 5 rfl rfl) (fun H locs hP hD hS => ?_)
        have hP : va_P (dC, dI) vwCl (wRow cJ cZ h0 h1 h2 h3 (vp_updL rb x2.toNatClampNeg (rb (x2 + 1).toNatClampNeg)) (vp_updL re x2.toNatClampNeg (re (x2 + 1).toNatClampNeg)) ro rc) H := hP
        have hD : va_D A (wRow cJ cZ h0 h1 h2 h3 (vp_updL rb x2.toNatClampNeg (rb (x2 + 1).toNatClampNeg)) (vp_updL re x2.toNatClampNeg (re (x2 + 1).toNatClampNeg)) ro rc) := hD
        refine lv_aload_n hx hb (kdr dgX0_remove_0 3 6 rfl rfl) rfl (lv_at hl 0 rfl) ?_
        refine va_get (D := (dC, dI)) (ci := 2) (v := .ref h3) (C := RX0) (T := TX0) (N := 4) hx hb hts hiX0 hown hK hP 0 rfl rfl 2 (by decide) hw3 (fun _ h9 => h9) rfl (kdr dgX0_remove_0 3 7 rfl rfl) ?_
        refine lv_iload_n hx hb (kdr dgX0_remove_0 3 8 rfl rfl) rfl (lv_at hl 1 rfl) ?_
        refine lv_aload_n hx hb (kdr dgX0_remove_0 3 9 rfl rfl) rfl (lv_at hl 0 rfl) ?_
        refine va_get (D := (dC, dI)) (ci := 2) (v := .ref h3) (C := RX0) (T := TX0) (N := 4) hx hb hts hiX0 hown hK hP 0 rfl rfl 2 (by decide) hw3 (fun _ h9 => h9) rfl (kdr dgX0_remove_0 4 0 rfl rfl) ?_
        refine lv_iload_n hx hb (kdr dgX0_remove_0 4 1 rfl rfl) rfl (lv_at hl 1 rfl) ?_
        refine lv_iconst (v := 1) hx hb (kdr dgX0_remove_0 4 2 rfl rfl) (by decide) ?_
        refine lv_iadd hx hb (kdr dgX0_remove_0 4 3 rfl rfl) ?_
        refine va_zald hx hb hK hP 3 3 rfl rfl (ix_in z1) (kdr dgX0_remove_0 4 4 rfl rfl) ?_
        refine va_zast hx hb hK hP hD hS 3 3 rfl rfl (ix_in z2) (kdr dgX0_remove_0 4 5 rfl rfl) (fun H locs hP hD hS => ?_)
        have hP : va_P (dC, dI) vwCl (wRow cJ cZ h0 h1 h2 h3 (vp_updL rb x2.toNatClampNeg (rb (x2 + 1).toNatClampNeg)) (vp_updL re x2.toNatClampNeg (re (x2 + 1).toNatClampNeg)) (upd ro x2.toNatClampNeg (vp_nar .boolean (ro (x2 + 1).toNatClampNeg))) rc) H := hP
        have hD : va_D A (wRow cJ cZ h0 h1 h2 h3 (vp_updL rb x2.toNatClampNeg (rb (x2 + 1).toNatClampNeg)) (vp_updL re x2.toNatClampNeg (re (x2 + 1).toNatClampNeg)) (upd ro x2.toNatClampNeg (vp_nar .boolean (ro (x2 + 1).toNatClampNeg))) rc) := hD
        refine lv_iinc (v := x2 + 1) (lv' := (kvI 2 (x2 + 1) (kvA 0 h0 kvE))) hx hb (kdr dgX0_remove_0 4 6 rfl rfl) hl (k := 1) rfl rfl (by decide) rfl (fun ls hl => ?_)
        refine lv_goto (tgt := 20) hx hb (kdr dgX0_remove_0 4 7 rfl rfl) (by decide) ?_
        exact ih (vp_updL rb x2.toNatClampNeg (rb (x2 + 1).toNatClampNeg)) (vp_updL re x2.toNatClampNeg (re (x2 + 1).toNatClampNeg)) (upd ro x2.toNatClampNeg (vp_nar .boolean (ro (x2 + 1).toNatClampNeg))) rc (x2 + 1) _ _ hP hD hS ls (lv_sub hl [1, 0] rfl) h
  have h := f_X0_remove_e.symm.trans hf
  refine lv_aload_n hx hb (kdr dgX0_remove_0 0 0 rfl rfl) rfl (lv_at hl 0 rfl) ?_
  refine lv_iload_n hx hb (kdr dgX0_remove_0 0 1 rfl rfl) rfl (lv_at hl 1 rfl) ?_
  obtain ⟨r1, g1, h⟩ := g_b h
  refine kq_i (wRow cJ cZ h0 h1 h2 h3 rb re ro rc) (fun qP qD qF => va_runV (As := [.int p0]) (rest := []) ⟨hx, hb, hml, hown, hts⟩ (c_X0_isIn l dC dI cB cI cJ cZ h0 h1 h2 h3 _ rb re ro rc p0 r1 g1) (kcwV hts kw_198 kv_X0_isIn rfl rfl ⟨(Nat.le_of_ble_eq_true rfl), (Nat.le_of_ble_eq_true rfl)⟩) (kpV (A := A) qP hK qD hG (krecv_2 (q0 := 0) hK hP rfl)) rfl rfl hl.1 rfl (lv_room (Nat.le_of_ble_eq_true rfl)) (kdr dgX0_remove_0 0 2 rfl rfl) ⟨(Nat.le_of_ble_eq_true rfl), (Nat.le_of_ble_eq_true rfl)⟩) hP hD hS hA kFr_Row (fun H locs hP hD hS br1 => ?_)
  refine lv_if_eq (tgt := 76) hx hb (kdr dgX0_remove_0 0 3 rfl rfl) (by decide) (fun c2 => ?_) (fun c2 => ?_)
  · have h := g_t c2 h
    refine lv_aload_n hx hb (kdr dgX0_remove_0 4 8 rfl rfl) rfl (lv_at hl 0 rfl) ?_
    refine va_get (D := (dC, dI)) (ci := 2) (v := .int rc) (C := RX0) (T := TX0) (N := 4) hx hb hts hiX0 hown hK hP 0 rfl rfl 3 (by decide) hw0 (fun _ h9 => h9) rfl (kdr dgX0_remove_0 4 9 rfl rfl) ?_
    have h := Option.some.inj h
    subst h
    exact kret_i (v := rc) hx hb hr rfl hlocks hS hP (kdr dgX0_remove_0 5 0 rfl rfl)
  · have h := g_f c2 h
    refine lv_aload_n hx hb (kdr dgX0_remove_0 0 4 rfl rfl) rfl (lv_at hl 0 rfl) ?_
    refine lv_dup hx hb (kdr dgX0_remove_0 0 5 rfl rfl) rfl ?_
    refine va_get (D := (dC, dI)) (ci := 2) (v := .int rc) (C := RX0) (T := TX0) (N := 4) hx hb hts hiX0 hown hK hP 0 rfl rfl 3 (by decide) hw0 (fun _ h9 => h9) rfl (kdr dgX0_remove_0 0 6 rfl rfl) ?_
    refine lv_iconst (v := 1) hx hb (kdr dgX0_remove_0 0 7 rfl rfl) (by decide) ?_
    refine lv_isub hx hb (kdr dgX0_remove_0 0 8 rfl rfl) ?_
    refine va_put (D := (dC, dI)) (ci := 2) (v := .int (rc - 1)) (ty := .int) (C := RX0) (T := TX0) (N := 4) hx hb hts hiX0 tyX0 tyX0_ok nmX0 hown hK hP hD hS 0 rfl rfl 3 (by decide) hw0 (fun _ h9 => h9) rfl (by decide +kernel) rfl rfl (Nat.le_of_ble_eq_true rfl) (kdr dgX0_remove_0 0 9 rfl rfl) (fun H locs hP hD hS => ?_)
    have hP : va_P (dC, dI) vwCl (wRow cJ cZ h0 h1 h2 h3 rb re ro (rc - 1)) H := hP
    have hD : va_D A (wRow cJ cZ h0 h1 h2 h3 rb re ro (rc - 1)) := hD
    refine lv_iload_n hx hb (kdr dgX0_remove_0 1 0 rfl rfl) rfl (lv_at hl 1 rfl) ?_
    refine lv_istore_n (lv' := (kvI 2 p0 (kvA 0 h0 (kvI 1 p0 kvE)))) hx hb (kdr dgX0_remove_0 1 1 rfl rfl) rfl hl (by decide) rfl (fun ls hl => ?_)
    exact J20 24 rb re ro (rc - 1) p0 _ _ hP hD hS ls (lv_sub hl [1, 0] rfl) h
noncomputable abbrev wsX0_put : List Cond := kWs yX0_put cX0_put 6 none
noncomputable def f_X0_put (rb : Nat → Int64) (re : Nat → Int64) (rc : Int32) (p0 : Int32) (p1 : Int64) (p2 : Int64) : Option ((Nat → Int64) × (Nat → Int64)) :=
  (f_X0_isIn rc p0).bind fun r1 =>
  if r1 = 0 then
    some (rb, re)
  else
    if ix p0 11 then
      some (vp_updL rb p0.toNatClampNeg p1, vp_updL re p0.toNatClampNeg p2)
    else none
theorem f_X0_put_e {rb : Nat → Int64} {re : Nat → Int64} {rc : Int32} {p0 : Int32} {p1 : Int64} {p2 : Int64} : f_X0_put rb re rc p0 p1 p2 = 
  (f_X0_isIn rc p0).bind fun r1 =>
  if r1 = 0 then
    some (rb, re)
  else
    if ix p0 11 then
      some (vp_updL rb p0.toNatClampNeg p1, vp_updL re p0.toNatClampNeg p2)
    else none := rfl
set_option maxHeartbeats 4000000 in
set_option maxRecDepth 100000 in
theorem c_X0_put (l : Launch) (dC : Nat → ClassId) (dI : Nat → Nat → Nat) (cB cI cJ cZ : ClassId) (h0 : Nat) (h1 : Nat) (h2 : Nat) (h3 : Nat) (sz : Nat) (rb : Nat → Int64) (re : Nat → Int64) (ro : Nat → Int32) (rc : Int32) (p0 : Int32) (p1 : Int64) (p2 : Int64) (res : (Nat → Int64) × (Nat → Int64)) (hf : f_X0_put rb re rc p0 p1 p2 = some res) : kMv l yX0_put wsX0_put (kRm 1 0 0 21) dC dI cB cI cJ cZ [.ref h0, .int p0, .long p1, .long p2] sz (wRow cJ cZ h0 h1 h2 h3 rb re ro rc) (wRow cJ cZ h0 h1 h2 h3 (res.1) (res.2) ro rc) 0 0 := by
  refine kmet_v (y := yX0_put) (cc := cX0_put) (maxL := 6) (ret := none) RX0 (kvA 0 h0 (kvI 1 p0 (kvJ 2 p1 (kvJ 4 p2 kvE)))) kpl_X0 rfl rfl (Nat.le_of_ble_eq_true rfl) rfl (fun p e s m below meth c A ls hx hb hr hml hts hown hlocks hP hK hG hD hA hS hl => ?_)
  have hw0 := hts (.fieldLink RX0 9 "Spanbooker$Row" "begins" "[J") (List.mem_cons_of_mem _ kw_92)
  have hw1 := hts (.fieldLink RX0 15 "Spanbooker$Row" "ends" "[J") (List.mem_cons_of_mem _ kw_93)
  have hiX0 : ∀ w ∈ u_ws RX0 TX0 4, w ∈ wsX0_put := fun w h => List.mem_cons_of_mem _ (ku_X0 w h)
  have h := f_X0_put_e.symm.trans hf
  refine lv_aload_n hx hb (kdr dgX0_put_0 0 0 rfl rfl) rfl (lv_at hl 0 rfl) ?_
  refine lv_iload_n hx hb (kdr dgX0_put_0 0 1 rfl rfl) rfl (lv_at hl 1 rfl) ?_
  obtain ⟨r1, g1, h⟩ := g_b h
  refine kq_i (wRow cJ cZ h0 h1 h2 h3 rb re ro rc) (fun qP qD qF => va_runV (As := [.int p0]) (rest := []) ⟨hx, hb, hml, hown, hts⟩ (c_X0_isIn l dC dI cB cI cJ cZ h0 h1 h2 h3 _ rb re ro rc p0 r1 g1) (kcwV hts kw_198 kv_X0_isIn rfl rfl ⟨(Nat.le_of_ble_eq_true rfl), (Nat.le_of_ble_eq_true rfl)⟩) (kpV (A := A) qP hK qD hG (krecv_2 (q0 := 0) hK hP rfl)) rfl rfl hl.1 rfl (lv_room (Nat.le_of_ble_eq_true rfl)) (kdr dgX0_put_0 0 2 rfl rfl) ⟨(Nat.le_of_ble_eq_true rfl), (Nat.le_of_ble_eq_true rfl)⟩) hP hD hS hA kFr_Row (fun H locs hP hD hS br1 => ?_)
  refine lv_if_eq (tgt := 23) hx hb (kdr dgX0_put_0 0 3 rfl rfl) (by decide) (fun c2 => ?_) (fun c2 => ?_)
  · have h := g_t c2 h
    have h := Option.some.inj h
    subst h
    exact kret_v hx hb hr hlocks hS hP (kdr dgX0_put_0 1 4 rfl rfl)
  · have h := g_f c2 h
    refine lv_aload_n hx hb (kdr dgX0_put_0 0 4 rfl rfl) rfl (lv_at hl 0 rfl) ?_
    refine va_get (D := (dC, dI)) (ci := 2) (v := .ref h1) (C := RX0) (T := TX0) (N := 4) hx hb hts hiX0 hown hK hP 0 rfl rfl 0 (by decide) hw0 (fun _ h9 => h9) rfl (kdr dgX0_put_0 0 5 rfl rfl) ?_
    refine lv_iload_n hx hb (kdr dgX0_put_0 0 6 rfl rfl) rfl (lv_at hl 1 rfl) ?_
    refine lv_lload_n hx hb (kdr dgX0_put_0 0 7 rfl rfl) rfl (lv_at hl 2 rfl) ?_
    obtain ⟨z2, h⟩ := g_if h
    refine va_last hx hb hK hP hD hS 1 2 rfl rfl (ix_in z2) (kdr dgX0_put_0 0 8 rfl rfl) (fun H locs hP hD hS => ?_)
    have hP : va_P (dC, dI) vwCl (wRow cJ cZ h0 h1 h2 h3 (vp_updL rb p0.toNatClampNeg p1) re ro rc) H := hP
    have hD : va_D A (wRow cJ cZ h0 h1 h2 h3 (vp_updL rb p0.toNatClampNeg p1) re ro rc) := hD
    refine lv_aload_n hx hb (kdr dgX0_put_0 0 9 rfl rfl) rfl (lv_at hl 0 rfl) ?_
    refine va_get (D := (dC, dI)) (ci := 2) (v := .ref h2) (C := RX0) (T := TX0) (N := 4) hx hb hts hiX0 hown hK hP 0 rfl rfl 1 (by decide) hw1 (fun _ h9 => h9) rfl (kdr dgX0_put_0 1 0 rfl rfl) ?_
    refine lv_iload_n hx hb (kdr dgX0_put_0 1 1 rfl rfl) rfl (lv_at hl 1 rfl) ?_
    refine lv_lload hx hb (kdr dgX0_put_0 1 2 rfl rfl) (lv_at hl 3 rfl) ?_
    refine va_last hx hb hK hP hD hS 2 2 rfl rfl (ix_in z2) (kdr dgX0_put_0 1 3 rfl rfl) (fun H locs hP hD hS => ?_)
    have hP : va_P (dC, dI) vwCl (wRow cJ cZ h0 h1 h2 h3 (vp_updL rb p0.toNatClampNeg p1) (vp_updL re p0.toNatClampNeg p2) ro rc) H := hP
    have hD : va_D A (wRow cJ cZ h0 h1 h2 h3 (vp_updL rb p0.toNatClampNeg p1) (vp_updL re p0.toNatClampNeg p2) ro rc) := hD
    have h := Option.some.inj h
    subst h
    exact kret_v hx hb hr hlocks hS hP (kdr dgX0_put_0 1 4 rfl rfl)
noncomputable abbrev wsX1_isLet : List Cond := kWs yX1_isLet cX1_isLet 2 (some .boolean)
noncomputable def f_X1_isLet (p0 : Int64) : Option (Int32) :=
  if p0 < (-1000000000000000000) then
    some 0
  else
    if 1000000000999999999 < p0 then
      some 0
    else
      some 1
theorem f_X1_isLet_e {p0 : Int64} : f_X1_isLet p0 = 
  if p0 < (-1000000000000000000) then
    some 0
  else
    if 1000000000999999999 < p0 then
      some 0
    else
      some 1 := rfl
set_option maxHeartbeats 4000000 in
set_option maxRecDepth 100000 in
theorem c_X1_isLet (l : Launch) (dC : Nat → ClassId) (dI : Nat → Nat → Nat) (cB cI cJ cZ : ClassId) (sz : Nat) (p0 : Int64) (res : Int32) (hf : f_X1_isLet p0 = some res) : kMi l yX1_isLet wsX1_isLet (kRm 0 0 0 0) dC dI cB cI cJ cZ [.long p0] sz [] .boolean (res) [] 0 0 := by
  refine kmet_i (y := yX1_isLet) (cc := cX1_isLet) (maxL := 2) (ret := (some .boolean)) RX1 (kvJ 0 p0 kvE) kpl_X1 rfl rfl (Nat.le_of_ble_eq_true rfl) rfl (fun p e s m below meth c A ls hx hb hr hml hts hown hlocks hP hK hG hD hA hS hl => ?_)
  have hw0 := hts (.constantLong RX1 280 (-1000000000000000000)) (List.mem_cons_of_mem _ kw_499)
  have hw1 := hts (.constantLong RX1 282 (1000000000999999999)) (List.mem_cons_of_mem _ kw_500)
  have h := f_X1_isLet_e.symm.trans hf
  refine lv_lload_n hx hb (kdr dgX1_isLet_0 0 0 rfl rfl) rfl (lv_at hl 0 rfl) ?_
  refine lv_ldc2 (v := (-1000000000000000000)) hx hb hown hw0 (kdr dgX1_isLet_0 0 1 rfl rfl) ?_
  refine kl_lt (pc := 4) (tgt := 20) hx hb (kdr dgX1_isLet_0 0 2 rfl rfl) (kdr dgX1_isLet_0 0 3 rfl rfl) (by decide) (fun c1 => ?_) (fun c1 => ?_)
  · have h := g_t c1 h
    refine lv_iconst (v := 0) hx hb (kdr dgX1_isLet_0 1 0 rfl rfl) (by decide) ?_
    have h := Option.some.inj h
    subst h
    exact kret_i (v := 0) hx hb hr rfl hlocks hS hP (kdr dgX1_isLet_0 1 1 rfl rfl)
  · have h := g_f c1 h
    refine lv_lload_n hx hb (kdr dgX1_isLet_0 0 4 rfl rfl) rfl (lv_at hl 0 rfl) ?_
    refine lv_ldc2 (v := (1000000000999999999)) hx hb hown hw1 (kdr dgX1_isLet_0 0 5 rfl rfl) ?_
    refine kl_gt (pc := 12) (tgt := 20) hx hb (kdr dgX1_isLet_0 0 6 rfl rfl) (kdr dgX1_isLet_0 0 7 rfl rfl) (by decide) (fun c2 => ?_) (fun c2 => ?_)
    · have h := g_t c2 h
      refine lv_iconst (v := 0) hx hb (kdr dgX1_isLet_0 1 0 rfl rfl) (by decide) ?_
      have h := Option.some.inj h
      subst h
      exact kret_i (v := 0) hx hb hr rfl hlocks hS hP (kdr dgX1_isLet_0 1 1 rfl rfl)
    · have h := g_f c2 h
      refine lv_iconst (v := 1) hx hb (kdr dgX1_isLet_0 0 8 rfl rfl) (by decide) ?_
      refine lv_goto (tgt := 21) hx hb (kdr dgX1_isLet_0 0 9 rfl rfl) (by decide) ?_
      have h := Option.some.inj h
      subst h
      exact kret_i (v := 1) hx hb hr rfl hlocks hS hP (kdr dgX1_isLet_0 1 1 rfl rfl)
noncomputable abbrev wsX0_isLetAfter : List Cond := kWs yX0_isLetAfter cX0_isLetAfter 4 (some .boolean)
noncomputable def f_X0_isLetAfter_2 : Nat → (Nat → Int64) → (Nat → Int64) → (Int32) → (Int64) → (Int32) → Option (Int32)
  | 0, _, _, _, _, _ => none
  | n + 1, rb, re, rc, x1, x3 =>
    if rc ≤ x3 then
      some 1
    else
      if ix x3 11 then
        (f_X1_isLet ((rb x3.toNatClampNeg) + x1)).bind fun r3 =>
        if r3 = 0 then
          some 0
        else
          (f_X1_isLet ((re x3.toNatClampNeg) + x1)).bind fun r5 =>
          if r5 = 0 then
            some 0
          else
            f_X0_isLetAfter_2 n rb re rc x1 (x3 + 1)
      else none
theorem f_X0_isLetAfter_2_0 {rb : Nat → Int64} {re : Nat → Int64} {rc : Int32} {x1 : Int64} {x3 : Int32} : f_X0_isLetAfter_2 0 rb re rc x1 x3 = none := rfl
theorem f_X0_isLetAfter_2_s {n : Nat} {rb : Nat → Int64} {re : Nat → Int64} {rc : Int32} {x1 : Int64} {x3 : Int32} : f_X0_isLetAfter_2 (n + 1) rb re rc x1 x3 =
  if rc ≤ x3 then
    some 1
  else
    if ix x3 11 then
      (f_X1_isLet ((rb x3.toNatClampNeg) + x1)).bind fun r3 =>
      if r3 = 0 then
        some 0
      else
        (f_X1_isLet ((re x3.toNatClampNeg) + x1)).bind fun r5 =>
        if r5 = 0 then
          some 0
        else
          f_X0_isLetAfter_2 n rb re rc x1 (x3 + 1)
    else none := rfl
noncomputable def f_X0_isLetAfter (rb : Nat → Int64) (re : Nat → Int64) (rc : Int32) (p0 : Int64) : Option (Int32) :=
  f_X0_isLetAfter_2 24 rb re rc p0 0
theorem f_X0_isLetAfter_e {rb : Nat → Int64} {re : Nat → Int64} {rc : Int32} {p0 : Int64} : f_X0_isLetAfter rb re rc p0 = 
  f_X0_isLetAfter_2 24 rb re rc p0 0 := rfl
set_option maxHeartbeats 4000000 in
set_option maxRecDepth 100000 in
theorem c_X0_isLetAfter (l : Launch) (dC : Nat → ClassId) (dI : Nat → Nat → Nat) (cB cI cJ cZ : ClassId) (h0 : Nat) (h1 : Nat) (h2 : Nat) (h3 : Nat) (sz : Nat) (rb : Nat → Int64) (re : Nat → Int64) (ro : Nat → Int32) (rc : Int32) (p0 : Int64) (res : Int32) (hf : f_X0_isLetAfter rb re rc p0 = some res) : kMi l yX0_isLetAfter wsX0_isLetAfter (kRm 1 0 0 21) dC dI cB cI cJ cZ [.ref h0, .long p0] sz (wRow cJ cZ h0 h1 h2 h3 rb re ro rc) .boolean (res) (wRow cJ cZ h0 h1 h2 h3 rb re ro rc) 0 0 := by
  refine kmet_i (y := yX0_isLetAfter) (cc := cX0_isLetAfter) (maxL := 4) (ret := (some .boolean)) RX0 (kvA 0 h0 (kvJ 1 p0 kvE)) kpl_X0 rfl rfl (Nat.le_of_ble_eq_true rfl) rfl (fun p e s m below meth c A ls hx hb hr hml hts hown hlocks hP hK hG hD hA hS hl => ?_)
  have hw0 := hts (.fieldLink RX0 22 "Spanbooker$Row" "count" "I") (List.mem_cons_of_mem _ kw_95)
  have hw1 := hts (.fieldLink RX0 9 "Spanbooker$Row" "begins" "[J") (List.mem_cons_of_mem _ kw_92)
  have hw2 := hts (.fieldLink RX0 15 "Spanbooker$Row" "ends" "[J") (List.mem_cons_of_mem _ kw_93)
  have hiX0 : ∀ w ∈ u_ws RX0 TX0 4, w ∈ wsX0_isLetAfter := fun w h => List.mem_cons_of_mem _ (ku_X0 w h)
  have J2 : ∀ (n : Nat), ∀ (rb : Nat → Int64) (re : Nat → Int64) (ro : Nat → Int32) (rc : Int32) (x1 : Int64) (x3 : Int32) (H : Heap) (locs : List Loc), va_P (dC, dI) vwCl (wRow cJ cZ h0 h1 h2 h3 rb re ro rc) H → va_D A (wRow cJ cZ h0 h1 h2 h3 rb re ro rc) → va_S A s.heap H locs → ∀ (ls : Array Slot), lv_has ls 4 (kvA 0 h0 (kvJ 1 x1 (kvI 3 x3 kvE))) → f_X0_isLetAfter_2 n rb re rc x1 x3 = some res → W p l e (headSpec wsX0_isLetAfter (kRm 1 0 0 21)).room s m ([.ref h0, .long p0] : List Value).toArray below meth c H locs 0 0 (MQ below (kI (dC, dI) .boolean (res) (wRow cJ cZ h0 h1 h2 h3 rb re ro rc) A) ([.ref h0, .long p0] : List Value).toArray s 0 0 A) (F0 m 2 ls []) := by
    intro n
    induction n with
    | zero =>
      intro rb re ro rc x1 x3 H locs hP hD hS ls hl h
      have h := f_X0_isLetAfter_2_0.symm.trans h
      cases h
    | succ n ih =>
      intro rb re ro rc x1 x3 H locs hP hD hS ls hl h
      have h := f_X0_isLetAfter_2_s.symm.trans h
      refine lv_iload_n hx hb (kdr dgX0_isLetAfter_0 0 2 rfl rfl) rfl (lv_at hl 2 rfl) ?_
      refine lv_aload_n hx hb (kdr dgX0_isLetAfter_0 0 3 rfl rfl) rfl (lv_at hl 0 rfl) ?_
      refine va_get (D := (dC, dI)) (ci := 2) (v := .int rc) (C := RX0) (T := TX0) (N := 4) hx hb hts hiX0 hown hK hP 0 rfl rfl 3 (by decide) hw0 (fun _ h9 => h9) rfl (kdr dgX0_isLetAfter_0 0 4 rfl rfl) ?_
      refine lv_icmp_ge (tgt := 46) hx hb (kdr dgX0_isLetAfter_0 0 5 rfl rfl) (by decide) (fun c1 => ?_) (fun c1 => ?_)
      · have h := g_t c1 h
        refine lv_iconst (v := 1) hx hb (kdr dgX0_isLetAfter_0 2 6 rfl rfl) (by decide) ?_
        have h := Option.some.inj h
        subst h
        exact kret_i (v := 1) hx hb hr rfl hlocks hS hP (kdr dgX0_isLetAfter_0 2 7 rfl rfl)
      · have h := g_f c1 h
        refine lv_aload_n hx hb (kdr dgX0_isLetAfter_0 0 6 rfl rfl) rfl (lv_at hl 0 rfl) ?_
        refine va_get (D := (dC, dI)) (ci := 2) (v := .ref h1) (C := RX0) (T := TX0) (N := 4) hx hb hts hiX0 hown hK hP 0 rfl rfl 0 (by decide) hw1 (fun _ h9 => h9) rfl (kdr dgX0_isLetAfter_0 0 7 rfl rfl) ?_
        refine lv_iload_n hx hb (kdr dgX0_isLetAfter_0 0 8 rfl rfl) rfl (lv_at hl 2 rfl) ?_
        obtain ⟨z1, h⟩ := g_if h
        refine va_lald hx hb hK hP 1 2 rfl rfl (ix_in z1) (kdr dgX0_isLetAfter_0 0 9 rfl rfl) ?_
        refine lv_lload_n hx hb (kdr dgX0_isLetAfter_0 1 0 rfl rfl) rfl (lv_at hl 1 rfl) ?_
        refine lv_ladd hx hb (kdr dgX0_isLetAfter_0 1 1 rfl rfl) ?_
        obtain ⟨r3, g3, h⟩ := g_b h
        refine kq_i (wRow cJ cZ h0 h1 h2 h3 rb re ro rc) (fun qP qD qF => va_runSN (host := RX1) (As := [.long ((rb x3.toNatClampNeg) + x1)]) (rest := []) ⟨hx, hb, hml, hown, hts⟩ (c_X1_isLet l dC dI cB cI cJ cZ  _  ((rb x3.toNatClampNeg) + x1) r3 g3) (kcwN hts (hG.at 0 rfl) kv_X1_isLet rfl rfl ⟨(Nat.le_of_ble_eq_true rfl), (Nat.le_of_ble_eq_true rfl)⟩) (kpS (A := A) (kPnil) hK ((kDnil (A := A))) hG) rfl rfl hl.1 rfl (lv_room (Nat.le_of_ble_eq_true rfl)) (kdr dgX0_isLetAfter_0 1 2 rfl rfl) ⟨(Nat.le_of_ble_eq_true rfl), (Nat.le_of_ble_eq_true rfl)⟩) hP hD hS hA kFr_n (fun H locs hP hD hS br3 => ?_)
        refine lv_if_eq (tgt := 38) hx hb (kdr dgX0_isLetAfter_0 1 3 rfl rfl) (by decide) (fun c4 => ?_) (fun c4 => ?_)
        · have h := g_t c4 h
          refine lv_iconst (v := 0) hx hb (kdr dgX0_isLetAfter_0 2 2 rfl rfl) (by decide) ?_
          have h := Option.some.inj h
          subst h
          exact kret_i (v := 0) hx hb hr rfl hlocks hS hP (kdr dgX0_isLetAfter_0 2 3 rfl rfl)
        · have h := g_f c4 h
          refine lv_aload_n hx hb (kdr dgX0_isLetAfter_0 1 4 rfl rfl) rfl (lv_at hl 0 rfl) ?_
          refine va_get (D := (dC, dI)) (ci := 2) (v := .ref h2) (C := RX0) (T := TX0) (N := 4) hx hb hts hiX0 hown hK hP 0 rfl rfl 1 (by decide) hw2 (fun _ h9 => h9) rfl (kdr dgX0_isLetAfter_0 1 5 rfl rfl) ?_
          refine lv_iload_n hx hb (kdr dgX0_isLetAfter_0 1 6 rfl rfl) rfl (lv_at hl 2 rfl) ?_
          refine va_lald hx hb hK hP 2 2 rfl rfl (ix_in z1) (kdr dgX0_isLetAfter_0 1 7 rfl rfl) ?_
          refine lv_lload_n hx hb (kdr dgX0_isLetAfter_0 1 8 rfl rfl) rfl (lv_at hl 1 rfl) ?_
          refine lv_ladd hx hb (kdr dgX0_isLetAfter_0 1 9 rfl rfl) ?_
          obtain ⟨r5, g5, h⟩ := g_b h
          refine kq_i (wRow cJ cZ h0 h1 h2 h3 rb re ro rc) (fun qP qD qF => va_runSN (host := RX1) (As := [.long ((re x3.toNatClampNeg) + x1)]) (rest := []) ⟨hx, hb, hml, hown, hts⟩ (c_X1_isLet l dC dI cB cI cJ cZ  _  ((re x3.toNatClampNeg) + x1) r5 g5) (kcwN hts (hG.at 0 rfl) kv_X1_isLet rfl rfl ⟨(Nat.le_of_ble_eq_true rfl), (Nat.le_of_ble_eq_true rfl)⟩) (kpS (A := A) (kPnil) hK ((kDnil (A := A))) hG) rfl rfl hl.1 rfl (lv_room (Nat.le_of_ble_eq_true rfl)) (kdr dgX0_isLetAfter_0 2 0 rfl rfl) ⟨(Nat.le_of_ble_eq_true rfl), (Nat.le_of_ble_eq_true rfl)⟩) hP hD hS hA kFr_n (fun H locs hP hD hS br5 => ?_)
          refine lv_if_ne (tgt := 40) hx hb (kdr dgX0_isLetAfter_0 2 1 rfl rfl) (by decide) (fun c6 => ?_) (fun c6 => ?_)
          · have h := g_f c6 h
            refine lv_iinc (v := x3 + 1) (lv' := (kvI 3 (x3 + 1) (kvA 0 h0 (kvJ 1 x1 kvE)))) hx hb (kdr dgX0_isLetAfter_0 2 4 rfl rfl) hl (k := 2) rfl rfl (by decide) rfl (fun ls hl => ?_)
            refine lv_goto (tgt := 2) hx hb (kdr dgX0_isLetAfter_0 2 5 rfl rfl) (by decide) ?_
            exact ih rb re ro rc x1 (x3 + 1) _ _ hP hD hS ls (lv_sub hl [1, 2, 0] rfl) h
          · have h := g_t c6 h
            refine lv_iconst (v := 0) hx hb (kdr dgX0_isLetAfter_0 2 2 rfl rfl) (by decide) ?_
            have h := Option.some.inj h
            subst h
            exact kret_i (v := 0) hx hb hr rfl hlocks hS hP (kdr dgX0_isLetAfter_0 2 3 rfl rfl)
  have h := f_X0_isLetAfter_e.symm.trans hf
  refine lv_iconst (v := 0) hx hb (kdr dgX0_isLetAfter_0 0 0 rfl rfl) (by decide) ?_
  refine lv_istore_n (lv' := (kvI 3 0 (kvA 0 h0 (kvJ 1 p0 kvE)))) hx hb (kdr dgX0_isLetAfter_0 0 1 rfl rfl) rfl hl (by decide) rfl (fun ls hl => ?_)
  exact J2 24 rb re ro rc p0 0 _ _ hP hD hS ls (lv_sub hl [1, 2, 0] rfl) h
noncomputable abbrev wsX0_goOn : List Cond := kWs yX0_goOn cX0_goOn 4 none
noncomputable def f_X0_goOn_2 : Nat → (Nat → Int64) → (Nat → Int64) → (Int32) → (Int64) → (Int32) → Option ((Nat → Int64) × (Nat → Int64))
  | 0, _, _, _, _, _ => none
  | n + 1, rb, re, rc, x1, x3 =>
    if rc ≤ x3 then
      some (rb, re)
    else
      if ix x3 11 then
        f_X0_goOn_2 n (vp_updL rb x3.toNatClampNeg ((rb x3.toNatClampNeg) + x1)) (vp_updL re x3.toNatClampNeg ((re x3.toNatClampNeg) + x1)) rc x1 (x3 + 1)
      else none
theorem f_X0_goOn_2_0 {rb : Nat → Int64} {re : Nat → Int64} {rc : Int32} {x1 : Int64} {x3 : Int32} : f_X0_goOn_2 0 rb re rc x1 x3 = none := rfl
theorem f_X0_goOn_2_s {n : Nat} {rb : Nat → Int64} {re : Nat → Int64} {rc : Int32} {x1 : Int64} {x3 : Int32} : f_X0_goOn_2 (n + 1) rb re rc x1 x3 =
  if rc ≤ x3 then
    some (rb, re)
  else
    if ix x3 11 then
      f_X0_goOn_2 n (vp_updL rb x3.toNatClampNeg ((rb x3.toNatClampNeg) + x1)) (vp_updL re x3.toNatClampNeg ((re x3.toNatClampNeg) + x1)) rc x1 (x3 + 1)
    else none := rfl
noncomputable def f_X0_goOn (rb : Nat → Int64) (re : Nat → Int64) (rc : Int32) (p0 : Int64) : Option ((Nat → Int64) × (Nat → Int64)) :=
  f_X0_goOn_2 24 rb re rc p0 0
theorem f_X0_goOn_e {rb : Nat → Int64} {re : Nat → Int64} {rc : Int32} {p0 : Int64} : f_X0_goOn rb re rc p0 = 
  f_X0_goOn_2 24 rb re rc p0 0 := rfl
set_option maxHeartbeats 4000000 in
set_option maxRecDepth 100000 in
theorem c_X0_goOn (l : Launch) (dC : Nat → ClassId) (dI : Nat → Nat → Nat) (cB cI cJ cZ : ClassId) (h0 : Nat) (h1 : Nat) (h2 : Nat) (h3 : Nat) (sz : Nat) (rb : Nat → Int64) (re : Nat → Int64) (ro : Nat → Int32) (rc : Int32) (p0 : Int64) (res : (Nat → Int64) × (Nat → Int64)) (hf : f_X0_goOn rb re rc p0 = some res) : kMv l yX0_goOn wsX0_goOn (kRm 0 0 0 0) dC dI cB cI cJ cZ [.ref h0, .long p0] sz (wRow cJ cZ h0 h1 h2 h3 rb re ro rc) (wRow cJ cZ h0 h1 h2 h3 (res.1) (res.2) ro rc) 0 0 := by
  refine kmet_v (y := yX0_goOn) (cc := cX0_goOn) (maxL := 4) (ret := none) RX0 (kvA 0 h0 (kvJ 1 p0 kvE)) kpl_X0 rfl rfl (Nat.le_of_ble_eq_true rfl) rfl (fun p e s m below meth c A ls hx hb hr hml hts hown hlocks hP hK hG hD hA hS hl => ?_)
  have hw0 := hts (.fieldLink RX0 22 "Spanbooker$Row" "count" "I") (List.mem_cons_of_mem _ kw_95)
  have hw1 := hts (.fieldLink RX0 9 "Spanbooker$Row" "begins" "[J") (List.mem_cons_of_mem _ kw_92)
  have hw2 := hts (.fieldLink RX0 15 "Spanbooker$Row" "ends" "[J") (List.mem_cons_of_mem _ kw_93)
  have hiX0 : ∀ w ∈ u_ws RX0 TX0 4, w ∈ wsX0_goOn := fun w h => List.mem_cons_of_mem _ (ku_X0 w h)
  have J2 : ∀ (n : Nat), ∀ (rb : Nat → Int64) (re : Nat → Int64) (ro : Nat → Int32) (rc : Int32) (x1 : Int64) (x3 : Int32) (H : Heap) (locs : List Loc), va_P (dC, dI) vwCl (wRow cJ cZ h0 h1 h2 h3 rb re ro rc) H → va_D A (wRow cJ cZ h0 h1 h2 h3 rb re ro rc) → va_S A s.heap H locs → ∀ (ls : Array Slot), lv_has ls 4 (kvA 0 h0 (kvJ 1 x1 (kvI 3 x3 kvE))) → f_X0_goOn_2 n rb re rc x1 x3 = some res → W p l e (headSpec wsX0_goOn (kRm 0 0 0 0)).room s m ([.ref h0, .long p0] : List Value).toArray below meth c H locs 0 0 (MQ below (kV (dC, dI) (wRow cJ cZ h0 h1 h2 h3 (res.1) (res.2) ro rc) A) ([.ref h0, .long p0] : List Value).toArray s 0 0 A) (F0 m 2 ls []) := by
    intro n
    induction n with
    | zero =>
      intro rb re ro rc x1 x3 H locs hP hD hS ls hl h
      have h := f_X0_goOn_2_0.symm.trans h
      cases h
    | succ n ih =>
      intro rb re ro rc x1 x3 H locs hP hD hS ls hl h
      have h := f_X0_goOn_2_s.symm.trans h
      refine lv_iload_n hx hb (kdr dgX0_goOn_0 0 2 rfl rfl) rfl (lv_at hl 2 rfl) ?_
      refine lv_aload_n hx hb (kdr dgX0_goOn_0 0 3 rfl rfl) rfl (lv_at hl 0 rfl) ?_
      refine va_get (D := (dC, dI)) (ci := 2) (v := .int rc) (C := RX0) (T := TX0) (N := 4) hx hb hts hiX0 hown hK hP 0 rfl rfl 3 (by decide) hw0 (fun _ h9 => h9) rfl (kdr dgX0_goOn_0 0 4 rfl rfl) ?_
      refine lv_icmp_ge (tgt := 36) hx hb (kdr dgX0_goOn_0 0 5 rfl rfl) (by decide) (fun c1 => ?_) (fun c1 => ?_)
      · have h := g_t c1 h
        have h := Option.some.inj h
        subst h
        exact kret_v hx hb hr hlocks hS hP (kdr dgX0_goOn_0 2 4 rfl rfl)
      · have h := g_f c1 h
        refine lv_aload_n hx hb (kdr dgX0_goOn_0 0 6 rfl rfl) rfl (lv_at hl 0 rfl) ?_
        refine va_get (D := (dC, dI)) (ci := 2) (v := .ref h1) (C := RX0) (T := TX0) (N := 4) hx hb hts hiX0 hown hK hP 0 rfl rfl 0 (by decide) hw1 (fun _ h9 => h9) rfl (kdr dgX0_goOn_0 0 7 rfl rfl) ?_
        refine lv_iload_n hx hb (kdr dgX0_goOn_0 0 8 rfl rfl) rfl (lv_at hl 2 rfl) ?_
        refine lv_dup2_11 hx hb (kdr dgX0_goOn_0 0 9 rfl rfl) rfl rfl ?_
        obtain ⟨z1, h⟩ := g_if h
        refine va_lald hx hb hK hP 1 2 rfl rfl (ix_in z1) (kdr dgX0_goOn_0 1 0 rfl rfl) ?_
        refine lv_lload_n hx hb (kdr dgX0_goOn_0 1 1 rfl rfl) rfl (lv_at hl 1 rfl) ?_
        refine lv_ladd hx hb (kdr dgX0_goOn_0 1 2 rfl rfl) ?_
        refine va_last hx hb hK hP hD hS 1 2 rfl rfl (ix_in z1) (kdr dgX0_goOn_0 1 3 rfl rfl) (fun H locs hP hD hS => ?_)
        have hP : va_P (dC, dI) vwCl (wRow cJ cZ h0 h1 h2 h3 (vp_updL rb x3.toNatClampNeg ((rb x3.toNatClampNeg) + x1)) re ro rc) H := hP
        have hD : va_D A (wRow cJ cZ h0 h1 h2 h3 (vp_updL rb x3.toNatClampNeg ((rb x3.toNatClampNeg) + x1)) re ro rc) := hD
        refine lv_aload_n hx hb (kdr dgX0_goOn_0 1 4 rfl rfl) rfl (lv_at hl 0 rfl) ?_
        refine va_get (D := (dC, dI)) (ci := 2) (v := .ref h2) (C := RX0) (T := TX0) (N := 4) hx hb hts hiX0 hown hK hP 0 rfl rfl 1 (by decide) hw2 (fun _ h9 => h9) rfl (kdr dgX0_goOn_0 1 5 rfl rfl) ?_
        refine lv_iload_n hx hb (kdr dgX0_goOn_0 1 6 rfl rfl) rfl (lv_at hl 2 rfl) ?_
        refine lv_dup2_11 hx hb (kdr dgX0_goOn_0 1 7 rfl rfl) rfl rfl ?_
        refine va_lald hx hb hK hP 2 2 rfl rfl (ix_in z1) (kdr dgX0_goOn_0 1 8 rfl rfl) ?_
        refine lv_lload_n hx hb (kdr dgX0_goOn_0 1 9 rfl rfl) rfl (lv_at hl 1 rfl) ?_
        refine lv_ladd hx hb (kdr dgX0_goOn_0 2 0 rfl rfl) ?_
        refine va_last hx hb hK hP hD hS 2 2 rfl rfl (ix_in z1) (kdr dgX0_goOn_0 2 1 rfl rfl) (fun H locs hP hD hS => ?_)
        have hP : va_P (dC, dI) vwCl (wRow cJ cZ h0 h1 h2 h3 (vp_updL rb x3.toNatClampNeg ((rb x3.toNatClampNeg) + x1)) (vp_updL re x3.toNatClampNeg ((re x3.toNatClampNeg) + x1)) ro rc) H := hP
        have hD : va_D A (wRow cJ cZ h0 h1 h2 h3 (vp_updL rb x3.toNatClampNeg ((rb x3.toNatClampNeg) + x1)) (vp_updL re x3.toNatClampNeg ((re x3.toNatClampNeg) + x1)) ro rc) := hD
        refine lv_iinc (v := x3 + 1) (lv' := (kvI 3 (x3 + 1) (kvA 0 h0 (kvJ 1 x1 kvE)))) hx hb (kdr dgX0_goOn_0 2 2 rfl rfl) hl (k := 2) rfl rfl (by decide) rfl (fun ls hl => ?_)
        refine lv_goto (tgt := 2) hx hb (kdr dgX0_goOn_0 2 3 rfl rfl) (by decide) ?_
        exact ih (vp_updL rb x3.toNatClampNeg ((rb x3.toNatClampNeg) + x1)) (vp_updL re x3.toNatClampNeg ((re x3.toNatClampNeg) + x1)) ro rc x1 (x3 + 1) _ _ hP hD hS ls (lv_sub hl [1, 2, 0] rfl) h
  have h := f_X0_goOn_e.symm.trans hf
  refine lv_iconst (v := 0) hx hb (kdr dgX0_goOn_0 0 0 rfl rfl) (by decide) ?_
  refine lv_istore_n (lv' := (kvI 3 0 (kvA 0 h0 (kvJ 1 p0 kvE)))) hx hb (kdr dgX0_goOn_0 0 1 rfl rfl) rfl hl (by decide) rfl (fun ls hl => ?_)
  exact J2 24 rb re ro rc p0 0 _ _ hP hD hS ls (lv_sub hl [1, 2, 0] rfl) h
noncomputable abbrev wsX0_doMeet : List Cond := kWs yX0_doMeet cX0_doMeet 3 (some .boolean)
noncomputable def f_X0_doMeet (rb : Nat → Int64) (re : Nat → Int64) (rc : Int32) (p0 : Int32) (p1 : Int32) : Option (Int32) :=
  if p0 < 0 then
    some 0
  else
    if rc ≤ p0 then
      some 0
    else
      if p1 < 0 then
        some 0
      else
        if p1 < rc then
          if ix p0 11 then
            if ix p1 11 then
              if (re p1.toNatClampNeg) ≤ (rb p0.toNatClampNeg) then
                some 0
              else
                if (re p0.toNatClampNeg) ≤ (rb p1.toNatClampNeg) then
                  some 0
                else
                  some 1
            else none
          else none
        else
          some 0
theorem f_X0_doMeet_e {rb : Nat → Int64} {re : Nat → Int64} {rc : Int32} {p0 : Int32} {p1 : Int32} : f_X0_doMeet rb re rc p0 p1 = 
  if p0 < 0 then
    some 0
  else
    if rc ≤ p0 then
      some 0
    else
      if p1 < 0 then
        some 0
      else
        if p1 < rc then
          if ix p0 11 then
            if ix p1 11 then
              if (re p1.toNatClampNeg) ≤ (rb p0.toNatClampNeg) then
                some 0
              else
                if (re p0.toNatClampNeg) ≤ (rb p1.toNatClampNeg) then
                  some 0
                else
                  some 1
            else none
          else none
        else
          some 0 := rfl
set_option maxHeartbeats 4000000 in
set_option maxRecDepth 100000 in
theorem c_X0_doMeet (l : Launch) (dC : Nat → ClassId) (dI : Nat → Nat → Nat) (cB cI cJ cZ : ClassId) (h0 : Nat) (h1 : Nat) (h2 : Nat) (h3 : Nat) (sz : Nat) (rb : Nat → Int64) (re : Nat → Int64) (ro : Nat → Int32) (rc : Int32) (p0 : Int32) (p1 : Int32) (res : Int32) (hf : f_X0_doMeet rb re rc p0 p1 = some res) : kMi l yX0_doMeet wsX0_doMeet (kRm 0 0 0 0) dC dI cB cI cJ cZ [.ref h0, .int p0, .int p1] sz (wRow cJ cZ h0 h1 h2 h3 rb re ro rc) .boolean (res) (wRow cJ cZ h0 h1 h2 h3 rb re ro rc) 0 0 := by
  refine kmet_i (y := yX0_doMeet) (cc := cX0_doMeet) (maxL := 3) (ret := (some .boolean)) RX0 (kvA 0 h0 (kvI 1 p0 (kvI 2 p1 kvE))) kpl_X0 rfl rfl (Nat.le_of_ble_eq_true rfl) rfl (fun p e s m below meth c A ls hx hb hr hml hts hown hlocks hP hK hG hD hA hS hl => ?_)
  have hw0 := hts (.fieldLink RX0 22 "Spanbooker$Row" "count" "I") (List.mem_cons_of_mem _ kw_95)
  have hw1 := hts (.fieldLink RX0 9 "Spanbooker$Row" "begins" "[J") (List.mem_cons_of_mem _ kw_92)
  have hw2 := hts (.fieldLink RX0 15 "Spanbooker$Row" "ends" "[J") (List.mem_cons_of_mem _ kw_93)
  have hiX0 : ∀ w ∈ u_ws RX0 TX0 4, w ∈ wsX0_doMeet := fun w h => List.mem_cons_of_mem _ (ku_X0 w h)
  have h := f_X0_doMeet_e.symm.trans hf
  refine lv_iload_n hx hb (kdr dgX0_doMeet_0 0 0 rfl rfl) rfl (lv_at hl 1 rfl) ?_
  refine lv_if_lt (tgt := 24) hx hb (kdr dgX0_doMeet_0 0 1 rfl rfl) (by decide) (fun c1 => ?_) (fun c1 => ?_)
  · have h := g_t c1 h
    refine lv_iconst (v := 0) hx hb (kdr dgX0_doMeet_0 1 2 rfl rfl) (by decide) ?_
    have h := Option.some.inj h
    subst h
    exact kret_i (v := 0) hx hb hr rfl hlocks hS hP (kdr dgX0_doMeet_0 1 3 rfl rfl)
  · have h := g_f c1 h
    refine lv_iload_n hx hb (kdr dgX0_doMeet_0 0 2 rfl rfl) rfl (lv_at hl 1 rfl) ?_
    refine lv_aload_n hx hb (kdr dgX0_doMeet_0 0 3 rfl rfl) rfl (lv_at hl 0 rfl) ?_
    refine va_get (D := (dC, dI)) (ci := 2) (v := .int rc) (C := RX0) (T := TX0) (N := 4) hx hb hts hiX0 hown hK hP 0 rfl rfl 3 (by decide) hw0 (fun _ h9 => h9) rfl (kdr dgX0_doMeet_0 0 4 rfl rfl) ?_
    refine lv_icmp_ge (tgt := 24) hx hb (kdr dgX0_doMeet_0 0 5 rfl rfl) (by decide) (fun c2 => ?_) (fun c2 => ?_)
    · have h := g_t c2 h
      refine lv_iconst (v := 0) hx hb (kdr dgX0_doMeet_0 1 2 rfl rfl) (by decide) ?_
      have h := Option.some.inj h
      subst h
      exact kret_i (v := 0) hx hb hr rfl hlocks hS hP (kdr dgX0_doMeet_0 1 3 rfl rfl)
    · have h := g_f c2 h
      refine lv_iload_n hx hb (kdr dgX0_doMeet_0 0 6 rfl rfl) rfl (lv_at hl 2 rfl) ?_
      refine lv_if_lt (tgt := 24) hx hb (kdr dgX0_doMeet_0 0 7 rfl rfl) (by decide) (fun c3 => ?_) (fun c3 => ?_)
      · have h := g_t c3 h
        refine lv_iconst (v := 0) hx hb (kdr dgX0_doMeet_0 1 2 rfl rfl) (by decide) ?_
        have h := Option.some.inj h
        subst h
        exact kret_i (v := 0) hx hb hr rfl hlocks hS hP (kdr dgX0_doMeet_0 1 3 rfl rfl)
      · have h := g_f c3 h
        refine lv_iload_n hx hb (kdr dgX0_doMeet_0 0 8 rfl rfl) rfl (lv_at hl 2 rfl) ?_
        refine lv_aload_n hx hb (kdr dgX0_doMeet_0 0 9 rfl rfl) rfl (lv_at hl 0 rfl) ?_
        refine va_get (D := (dC, dI)) (ci := 2) (v := .int rc) (C := RX0) (T := TX0) (N := 4) hx hb hts hiX0 hown hK hP 0 rfl rfl 3 (by decide) hw0 (fun _ h9 => h9) rfl (kdr dgX0_doMeet_0 1 0 rfl rfl) ?_
        refine lv_icmp_lt (tgt := 26) hx hb (kdr dgX0_doMeet_0 1 1 rfl rfl) (by decide) (fun c4 => ?_) (fun c4 => ?_)
        · have h := g_t c4 h
          refine lv_aload_n hx hb (kdr dgX0_doMeet_0 1 4 rfl rfl) rfl (lv_at hl 0 rfl) ?_
          refine va_get (D := (dC, dI)) (ci := 2) (v := .ref h1) (C := RX0) (T := TX0) (N := 4) hx hb hts hiX0 hown hK hP 0 rfl rfl 0 (by decide) hw1 (fun _ h9 => h9) rfl (kdr dgX0_doMeet_0 1 5 rfl rfl) ?_
          refine lv_iload_n hx hb (kdr dgX0_doMeet_0 1 6 rfl rfl) rfl (lv_at hl 1 rfl) ?_
          obtain ⟨z4, h⟩ := g_if h
          refine va_lald hx hb hK hP 1 2 rfl rfl (ix_in z4) (kdr dgX0_doMeet_0 1 7 rfl rfl) ?_
          refine lv_aload_n hx hb (kdr dgX0_doMeet_0 1 8 rfl rfl) rfl (lv_at hl 0 rfl) ?_
          refine va_get (D := (dC, dI)) (ci := 2) (v := .ref h2) (C := RX0) (T := TX0) (N := 4) hx hb hts hiX0 hown hK hP 0 rfl rfl 1 (by decide) hw2 (fun _ h9 => h9) rfl (kdr dgX0_doMeet_0 1 9 rfl rfl) ?_
          refine lv_iload_n hx hb (kdr dgX0_doMeet_0 2 0 rfl rfl) rfl (lv_at hl 2 rfl) ?_
          obtain ⟨z5, h⟩ := g_if h
          refine va_lald hx hb hK hP 2 2 rfl rfl (ix_in z5) (kdr dgX0_doMeet_0 2 1 rfl rfl) ?_
          refine kl_ge (pc := 38) (tgt := 62) hx hb (kdr dgX0_doMeet_0 2 2 rfl rfl) (kdr dgX0_doMeet_0 2 3 rfl rfl) (by decide) (fun c7 => ?_) (fun c7 => ?_)
          · have h := g_t c7 h
            refine lv_iconst (v := 0) hx hb (kdr dgX0_doMeet_0 3 6 rfl rfl) (by decide) ?_
            have h := Option.some.inj h
            subst h
            exact kret_i (v := 0) hx hb hr rfl hlocks hS hP (kdr dgX0_doMeet_0 3 7 rfl rfl)
          · have h := g_f c7 h
            refine lv_aload_n hx hb (kdr dgX0_doMeet_0 2 4 rfl rfl) rfl (lv_at hl 0 rfl) ?_
            refine va_get (D := (dC, dI)) (ci := 2) (v := .ref h1) (C := RX0) (T := TX0) (N := 4) hx hb hts hiX0 hown hK hP 0 rfl rfl 0 (by decide) hw1 (fun _ h9 => h9) rfl (kdr dgX0_doMeet_0 2 5 rfl rfl) ?_
            refine lv_iload_n hx hb (kdr dgX0_doMeet_0 2 6 rfl rfl) rfl (lv_at hl 2 rfl) ?_
            refine va_lald hx hb hK hP 1 2 rfl rfl (ix_in z5) (kdr dgX0_doMeet_0 2 7 rfl rfl) ?_
            refine lv_aload_n hx hb (kdr dgX0_doMeet_0 2 8 rfl rfl) rfl (lv_at hl 0 rfl) ?_
            refine va_get (D := (dC, dI)) (ci := 2) (v := .ref h2) (C := RX0) (T := TX0) (N := 4) hx hb hts hiX0 hown hK hP 0 rfl rfl 1 (by decide) hw2 (fun _ h9 => h9) rfl (kdr dgX0_doMeet_0 2 9 rfl rfl) ?_
            refine lv_iload_n hx hb (kdr dgX0_doMeet_0 3 0 rfl rfl) rfl (lv_at hl 1 rfl) ?_
            refine va_lald hx hb hK hP 2 2 rfl rfl (ix_in z4) (kdr dgX0_doMeet_0 3 1 rfl rfl) ?_
            refine kl_ge (pc := 54) (tgt := 62) hx hb (kdr dgX0_doMeet_0 3 2 rfl rfl) (kdr dgX0_doMeet_0 3 3 rfl rfl) (by decide) (fun c8 => ?_) (fun c8 => ?_)
            · have h := g_t c8 h
              refine lv_iconst (v := 0) hx hb (kdr dgX0_doMeet_0 3 6 rfl rfl) (by decide) ?_
              have h := Option.some.inj h
              subst h
              exact kret_i (v := 0) hx hb hr rfl hlocks hS hP (kdr dgX0_doMeet_0 3 7 rfl rfl)
            · have h := g_f c8 h
              refine lv_iconst (v := 1) hx hb (kdr dgX0_doMeet_0 3 4 rfl rfl) (by decide) ?_
              refine lv_goto (tgt := 63) hx hb (kdr dgX0_doMeet_0 3 5 rfl rfl) (by decide) ?_
              have h := Option.some.inj h
              subst h
              exact kret_i (v := 1) hx hb hr rfl hlocks hS hP (kdr dgX0_doMeet_0 3 7 rfl rfl)
        · have h := g_f c4 h
          refine lv_iconst (v := 0) hx hb (kdr dgX0_doMeet_0 1 2 rfl rfl) (by decide) ?_
          have h := Option.some.inj h
          subst h
          exact kret_i (v := 0) hx hb hr rfl hlocks hS hP (kdr dgX0_doMeet_0 1 3 rfl rfl)
noncomputable abbrev wsX0_firstMeeting : List Cond := kWs yX0_firstMeeting cX0_firstMeeting 7 (some .int)
noncomputable def f_X0_firstMeeting_3 : Nat → (Nat → Int64) → (Nat → Int64) → (Int32) → (Int64) → (Int64) → (Int32) → (Int32) → Option (Int32)
  | 0, _, _, _, _, _, _, _ => none
  | n + 1, rb, re, rc, x1, x3, x5, x6 =>
    if rc ≤ x6 then
      some (-1)
    else
      if x6 = x5 then
        f_X0_firstMeeting_3 n rb re rc x1 x3 x5 (x6 + 1)
      else
        if ix x6 11 then
          if x3 ≤ (rb x6.toNatClampNeg) then
            f_X0_firstMeeting_3 n rb re rc x1 x3 x5 (x6 + 1)
          else
            if (re x6.toNatClampNeg) ≤ x1 then
              f_X0_firstMeeting_3 n rb re rc x1 x3 x5 (x6 + 1)
            else
              some x6
        else none
theorem f_X0_firstMeeting_3_0 {rb : Nat → Int64} {re : Nat → Int64} {rc : Int32} {x1 : Int64} {x3 : Int64} {x5 : Int32} {x6 : Int32} : f_X0_firstMeeting_3 0 rb re rc x1 x3 x5 x6 = none := rfl
theorem f_X0_firstMeeting_3_s {n : Nat} {rb : Nat → Int64} {re : Nat → Int64} {rc : Int32} {x1 : Int64} {x3 : Int64} {x5 : Int32} {x6 : Int32} : f_X0_firstMeeting_3 (n + 1) rb re rc x1 x3 x5 x6 =
  if rc ≤ x6 then
    some (-1)
  else
    if x6 = x5 then
      f_X0_firstMeeting_3 n rb re rc x1 x3 x5 (x6 + 1)
    else
      if ix x6 11 then
        if x3 ≤ (rb x6.toNatClampNeg) then
          f_X0_firstMeeting_3 n rb re rc x1 x3 x5 (x6 + 1)
        else
          if (re x6.toNatClampNeg) ≤ x1 then
            f_X0_firstMeeting_3 n rb re rc x1 x3 x5 (x6 + 1)
          else
            some x6
      else none := rfl
noncomputable def f_X0_firstMeeting (rb : Nat → Int64) (re : Nat → Int64) (rc : Int32) (p0 : Int64) (p1 : Int64) (p2 : Int32) : Option (Int32) :=
  f_X0_firstMeeting_3 24 rb re rc p0 p1 p2 0
theorem f_X0_firstMeeting_e {rb : Nat → Int64} {re : Nat → Int64} {rc : Int32} {p0 : Int64} {p1 : Int64} {p2 : Int32} : f_X0_firstMeeting rb re rc p0 p1 p2 = 
  f_X0_firstMeeting_3 24 rb re rc p0 p1 p2 0 := rfl
set_option maxHeartbeats 4000000 in
set_option maxRecDepth 100000 in
theorem c_X0_firstMeeting (l : Launch) (dC : Nat → ClassId) (dI : Nat → Nat → Nat) (cB cI cJ cZ : ClassId) (h0 : Nat) (h1 : Nat) (h2 : Nat) (h3 : Nat) (sz : Nat) (rb : Nat → Int64) (re : Nat → Int64) (ro : Nat → Int32) (rc : Int32) (p0 : Int64) (p1 : Int64) (p2 : Int32) (res : Int32) (hf : f_X0_firstMeeting rb re rc p0 p1 p2 = some res) : kMi l yX0_firstMeeting wsX0_firstMeeting (kRm 0 0 0 0) dC dI cB cI cJ cZ [.ref h0, .long p0, .long p1, .int p2] sz (wRow cJ cZ h0 h1 h2 h3 rb re ro rc) .int (res) (wRow cJ cZ h0 h1 h2 h3 rb re ro rc) 0 0 := by
  refine kmet_i (y := yX0_firstMeeting) (cc := cX0_firstMeeting) (maxL := 7) (ret := (some .int)) RX0 (kvA 0 h0 (kvJ 1 p0 (kvJ 3 p1 (kvI 5 p2 kvE)))) kpl_X0 rfl rfl (Nat.le_of_ble_eq_true rfl) rfl (fun p e s m below meth c A ls hx hb hr hml hts hown hlocks hP hK hG hD hA hS hl => ?_)
  have hw0 := hts (.fieldLink RX0 22 "Spanbooker$Row" "count" "I") (List.mem_cons_of_mem _ kw_95)
  have hw1 := hts (.fieldLink RX0 9 "Spanbooker$Row" "begins" "[J") (List.mem_cons_of_mem _ kw_92)
  have hw2 := hts (.fieldLink RX0 15 "Spanbooker$Row" "ends" "[J") (List.mem_cons_of_mem _ kw_93)
  have hiX0 : ∀ w ∈ u_ws RX0 TX0 4, w ∈ wsX0_firstMeeting := fun w h => List.mem_cons_of_mem _ (ku_X0 w h)
  have J3 : ∀ (n : Nat), ∀ (rb : Nat → Int64) (re : Nat → Int64) (ro : Nat → Int32) (rc : Int32) (x1 : Int64) (x3 : Int64) (x5 : Int32) (x6 : Int32) (H : Heap) (locs : List Loc), va_P (dC, dI) vwCl (wRow cJ cZ h0 h1 h2 h3 rb re ro rc) H → va_D A (wRow cJ cZ h0 h1 h2 h3 rb re ro rc) → va_S A s.heap H locs → ∀ (ls : Array Slot), lv_has ls 7 (kvA 0 h0 (kvJ 1 x1 (kvJ 3 x3 (kvI 5 x5 (kvI 6 x6 kvE))))) → f_X0_firstMeeting_3 n rb re rc x1 x3 x5 x6 = some res → W p l e (headSpec wsX0_firstMeeting (kRm 0 0 0 0)).room s m ([.ref h0, .long p0, .long p1, .int p2] : List Value).toArray below meth c H locs 0 0 (MQ below (kI (dC, dI) .int (res) (wRow cJ cZ h0 h1 h2 h3 rb re ro rc) A) ([.ref h0, .long p0, .long p1, .int p2] : List Value).toArray s 0 0 A) (F0 m 3 ls []) := by
    intro n
    induction n with
    | zero =>
      intro rb re ro rc x1 x3 x5 x6 H locs hP hD hS ls hl h
      have h := f_X0_firstMeeting_3_0.symm.trans h
      cases h
    | succ n ih =>
      intro rb re ro rc x1 x3 x5 x6 H locs hP hD hS ls hl h
      have h := f_X0_firstMeeting_3_s.symm.trans h
      refine lv_iload hx hb (kdr dgX0_firstMeeting_0 0 2 rfl rfl) (lv_at hl 4 rfl) ?_
      refine lv_aload_n hx hb (kdr dgX0_firstMeeting_0 0 3 rfl rfl) rfl (lv_at hl 0 rfl) ?_
      refine va_get (D := (dC, dI)) (ci := 2) (v := .int rc) (C := RX0) (T := TX0) (N := 4) hx hb hts hiX0 hown hK hP 0 rfl rfl 3 (by decide) hw0 (fun _ h9 => h9) rfl (kdr dgX0_firstMeeting_0 0 4 rfl rfl) ?_
      refine lv_icmp_ge (tgt := 52) hx hb (kdr dgX0_firstMeeting_0 0 5 rfl rfl) (by decide) (fun c1 => ?_) (fun c1 => ?_)
      · have h := g_t c1 h
        refine lv_iconst (v := (-1)) hx hb (kdr dgX0_firstMeeting_0 2 7 rfl rfl) (by decide) ?_
        have h := Option.some.inj h
        subst h
        exact kret_i (v := (-1)) hx hb hr rfl hlocks hS hP (kdr dgX0_firstMeeting_0 2 8 rfl rfl)
      · have h := g_f c1 h
        refine lv_iload hx hb (kdr dgX0_firstMeeting_0 0 6 rfl rfl) (lv_at hl 4 rfl) ?_
        refine lv_iload hx hb (kdr dgX0_firstMeeting_0 0 7 rfl rfl) (lv_at hl 3 rfl) ?_
        refine lv_icmp_eq (tgt := 46) hx hb (kdr dgX0_firstMeeting_0 0 8 rfl rfl) (by decide) (fun c2 => ?_) (fun c2 => ?_)
        · have h := g_t c2 h
          refine lv_iinc (v := x6 + 1) (lv' := (kvI 6 (x6 + 1) (kvA 0 h0 (kvJ 1 x1 (kvJ 3 x3 (kvI 5 x5 kvE)))))) hx hb (kdr dgX0_firstMeeting_0 2 5 rfl rfl) hl (k := 4) rfl rfl (by decide) rfl (fun ls hl => ?_)
          refine lv_goto (tgt := 3) hx hb (kdr dgX0_firstMeeting_0 2 6 rfl rfl) (by decide) ?_
          exact ih rb re ro rc x1 x3 x5 (x6 + 1) _ _ hP hD hS ls (lv_sub hl [1, 2, 3, 4, 0] rfl) h
        · have h := g_f c2 h
          refine lv_aload_n hx hb (kdr dgX0_firstMeeting_0 0 9 rfl rfl) rfl (lv_at hl 0 rfl) ?_
          refine va_get (D := (dC, dI)) (ci := 2) (v := .ref h1) (C := RX0) (T := TX0) (N := 4) hx hb hts hiX0 hown hK hP 0 rfl rfl 0 (by decide) hw1 (fun _ h9 => h9) rfl (kdr dgX0_firstMeeting_0 1 0 rfl rfl) ?_
          refine lv_iload hx hb (kdr dgX0_firstMeeting_0 1 1 rfl rfl) (lv_at hl 4 rfl) ?_
          obtain ⟨z2, h⟩ := g_if h
          refine va_lald hx hb hK hP 1 2 rfl rfl (ix_in z2) (kdr dgX0_firstMeeting_0 1 2 rfl rfl) ?_
          refine lv_lload_n hx hb (kdr dgX0_firstMeeting_0 1 3 rfl rfl) rfl (lv_at hl 2 rfl) ?_
          refine kl_ge (pc := 27) (tgt := 46) hx hb (kdr dgX0_firstMeeting_0 1 4 rfl rfl) (kdr dgX0_firstMeeting_0 1 5 rfl rfl) (by decide) (fun c4 => ?_) (fun c4 => ?_)
          · have h := g_t c4 h
            refine lv_iinc (v := x6 + 1) (lv' := (kvI 6 (x6 + 1) (kvA 0 h0 (kvJ 1 x1 (kvJ 3 x3 (kvI 5 x5 kvE)))))) hx hb (kdr dgX0_firstMeeting_0 2 5 rfl rfl) hl (k := 4) rfl rfl (by decide) rfl (fun ls hl => ?_)
            refine lv_goto (tgt := 3) hx hb (kdr dgX0_firstMeeting_0 2 6 rfl rfl) (by decide) ?_
            exact ih rb re ro rc x1 x3 x5 (x6 + 1) _ _ hP hD hS ls (lv_sub hl [1, 2, 3, 4, 0] rfl) h
          · have h := g_f c4 h
            refine lv_lload_n hx hb (kdr dgX0_firstMeeting_0 1 6 rfl rfl) rfl (lv_at hl 1 rfl) ?_
            refine lv_aload_n hx hb (kdr dgX0_firstMeeting_0 1 7 rfl rfl) rfl (lv_at hl 0 rfl) ?_
            refine va_get (D := (dC, dI)) (ci := 2) (v := .ref h2) (C := RX0) (T := TX0) (N := 4) hx hb hts hiX0 hown hK hP 0 rfl rfl 1 (by decide) hw2 (fun _ h9 => h9) rfl (kdr dgX0_firstMeeting_0 1 8 rfl rfl) ?_
            refine lv_iload hx hb (kdr dgX0_firstMeeting_0 1 9 rfl rfl) (lv_at hl 4 rfl) ?_
            refine va_lald hx hb hK hP 2 2 rfl rfl (ix_in z2) (kdr dgX0_firstMeeting_0 2 0 rfl rfl) ?_
            refine kl_ge (pc := 39) (tgt := 46) hx hb (kdr dgX0_firstMeeting_0 2 1 rfl rfl) (kdr dgX0_firstMeeting_0 2 2 rfl rfl) (by decide) (fun c5 => ?_) (fun c5 => ?_)
            · have h := g_t c5 h
              refine lv_iinc (v := x6 + 1) (lv' := (kvI 6 (x6 + 1) (kvA 0 h0 (kvJ 1 x1 (kvJ 3 x3 (kvI 5 x5 kvE)))))) hx hb (kdr dgX0_firstMeeting_0 2 5 rfl rfl) hl (k := 4) rfl rfl (by decide) rfl (fun ls hl => ?_)
              refine lv_goto (tgt := 3) hx hb (kdr dgX0_firstMeeting_0 2 6 rfl rfl) (by decide) ?_
              exact ih rb re ro rc x1 x3 x5 (x6 + 1) _ _ hP hD hS ls (lv_sub hl [1, 2, 3, 4, 0] rfl) h
            · have h := g_f c5 h
              refine lv_iload hx hb (kdr dgX0_firstMeeting_0 2 3 rfl rfl) (lv_at hl 4 rfl) ?_
              have h := Option.some.inj h
              subst h
              exact kret_i (v := x6) hx hb hr rfl hlocks hS hP (kdr dgX0_firstMeeting_0 2 4 rfl rfl)
  have h := f_X0_firstMeeting_e.symm.trans hf
  refine lv_iconst (v := 0) hx hb (kdr dgX0_firstMeeting_0 0 0 rfl rfl) (by decide) ?_
  refine lv_istore (lv' := (kvI 6 0 (kvA 0 h0 (kvJ 1 p0 (kvJ 3 p1 (kvI 5 p2 kvE)))))) hx hb (kdr dgX0_firstMeeting_0 0 1 rfl rfl) hl (by decide) rfl (fun ls hl => ?_)
  exact J3 24 rb re ro rc p0 p1 p2 0 _ _ hP hD hS ls (lv_sub hl [1, 2, 3, 4, 0] rfl) h
noncomputable abbrev wsX0_firstWith : List Cond := kWs yX0_firstWith cX0_firstWith 3 (some .int)
noncomputable def f_X0_firstWith (rb : Nat → Int64) (re : Nat → Int64) (rc : Int32) (p0 : Int64) : Option (Int32) :=
  (f_X0_firstMeeting rb re rc p0 (p0 + 1) (-1)).bind fun r1 =>
  some r1
theorem f_X0_firstWith_e {rb : Nat → Int64} {re : Nat → Int64} {rc : Int32} {p0 : Int64} : f_X0_firstWith rb re rc p0 = 
  (f_X0_firstMeeting rb re rc p0 (p0 + 1) (-1)).bind fun r1 =>
  some r1 := rfl
set_option maxHeartbeats 4000000 in
set_option maxRecDepth 100000 in
theorem c_X0_firstWith (l : Launch) (dC : Nat → ClassId) (dI : Nat → Nat → Nat) (cB cI cJ cZ : ClassId) (h0 : Nat) (h1 : Nat) (h2 : Nat) (h3 : Nat) (sz : Nat) (rb : Nat → Int64) (re : Nat → Int64) (ro : Nat → Int32) (rc : Int32) (p0 : Int64) (res : Int32) (hf : f_X0_firstWith rb re rc p0 = some res) : kMi l yX0_firstWith wsX0_firstWith (kRm 1 0 0 26) dC dI cB cI cJ cZ [.ref h0, .long p0] sz (wRow cJ cZ h0 h1 h2 h3 rb re ro rc) .int (res) (wRow cJ cZ h0 h1 h2 h3 rb re ro rc) 0 0 := by
  refine kmet_i (y := yX0_firstWith) (cc := cX0_firstWith) (maxL := 3) (ret := (some .int)) RX0 (kvA 0 h0 (kvJ 1 p0 kvE)) kpl_X0 rfl rfl (Nat.le_of_ble_eq_true rfl) rfl (fun p e s m below meth c A ls hx hb hr hml hts hown hlocks hP hK hG hD hA hS hl => ?_)
  have h := f_X0_firstWith_e.symm.trans hf
  refine lv_aload_n hx hb (kdr dgX0_firstWith_0 0 0 rfl rfl) rfl (lv_at hl 0 rfl) ?_
  refine lv_lload_n hx hb (kdr dgX0_firstWith_0 0 1 rfl rfl) rfl (lv_at hl 1 rfl) ?_
  refine lv_lload_n hx hb (kdr dgX0_firstWith_0 0 2 rfl rfl) rfl (lv_at hl 1 rfl) ?_
  refine lv_lconst (v := 1) hx hb (kdr dgX0_firstWith_0 0 3 rfl rfl) (by decide) ?_
  refine lv_ladd hx hb (kdr dgX0_firstWith_0 0 4 rfl rfl) ?_
  refine lv_iconst (v := (-1)) hx hb (kdr dgX0_firstWith_0 0 5 rfl rfl) (by decide) ?_
  obtain ⟨r1, g1, h⟩ := g_b h
  refine kq_i (wRow cJ cZ h0 h1 h2 h3 rb re ro rc) (fun qP qD qF => va_runV (As := [.long p0, .long (p0 + 1), .int (-1)]) (rest := []) ⟨hx, hb, hml, hown, hts⟩ (c_X0_firstMeeting l dC dI cB cI cJ cZ h0 h1 h2 h3 _ rb re ro rc p0 (p0 + 1) (-1) r1 g1) (kcwV hts kw_210 kv_X0_firstMeeting rfl rfl ⟨(Nat.le_of_ble_eq_true rfl), (Nat.le_of_ble_eq_true rfl)⟩) (kpV (A := A) qP hK qD hG (krecv_2 (q0 := 0) hK hP rfl)) rfl rfl hl.1 rfl (lv_room (Nat.le_of_ble_eq_true rfl)) (kdr dgX0_firstWith_0 0 6 rfl rfl) ⟨(Nat.le_of_ble_eq_true rfl), (Nat.le_of_ble_eq_true rfl)⟩) hP hD hS hA kFr_Row (fun H locs hP hD hS br1 => ?_)
  have h := Option.some.inj h
  subst h
  exact kret_i (v := r1) hx hb hr rfl hlocks hS hP (kdr dgX0_firstWith_0 0 7 rfl rfl)
noncomputable abbrev wsX0_nextBegin : List Cond := kWs yX0_nextBegin cX0_nextBegin 8 (some .long)
noncomputable def f_X0_nextBegin_6 : Nat → (Nat → Int64) → (Int32) → (Int64) → (Int64) → (Int32) → Option (Int64)
  | 0, _, _, _, _, _ => none
  | n + 1, rb, rc, x1, x5, x7 =>
    if rc ≤ x7 then
      some x5
    else
      if ix x7 11 then
        if (rb x7.toNatClampNeg) < x1 then
          f_X0_nextBegin_6 n rb rc x1 x5 (x7 + 1)
        else
          if x5 ≤ (rb x7.toNatClampNeg) then
            f_X0_nextBegin_6 n rb rc x1 x5 (x7 + 1)
          else
            f_X0_nextBegin_6 n rb rc x1 (rb x7.toNatClampNeg) (x7 + 1)
      else none
theorem f_X0_nextBegin_6_0 {rb : Nat → Int64} {rc : Int32} {x1 : Int64} {x5 : Int64} {x7 : Int32} : f_X0_nextBegin_6 0 rb rc x1 x5 x7 = none := rfl
theorem f_X0_nextBegin_6_s {n : Nat} {rb : Nat → Int64} {rc : Int32} {x1 : Int64} {x5 : Int64} {x7 : Int32} : f_X0_nextBegin_6 (n + 1) rb rc x1 x5 x7 =
  if rc ≤ x7 then
    some x5
  else
    if ix x7 11 then
      if (rb x7.toNatClampNeg) < x1 then
        f_X0_nextBegin_6 n rb rc x1 x5 (x7 + 1)
      else
        if x5 ≤ (rb x7.toNatClampNeg) then
          f_X0_nextBegin_6 n rb rc x1 x5 (x7 + 1)
        else
          f_X0_nextBegin_6 n rb rc x1 (rb x7.toNatClampNeg) (x7 + 1)
    else none := rfl
noncomputable def f_X0_nextBegin (rb : Nat → Int64) (rc : Int32) (p0 : Int64) (p1 : Int64) : Option (Int64) :=
  f_X0_nextBegin_6 24 rb rc p0 p1 0
theorem f_X0_nextBegin_e {rb : Nat → Int64} {rc : Int32} {p0 : Int64} {p1 : Int64} : f_X0_nextBegin rb rc p0 p1 = 
  f_X0_nextBegin_6 24 rb rc p0 p1 0 := rfl
set_option maxHeartbeats 4000000 in
set_option maxRecDepth 100000 in
theorem c_X0_nextBegin (l : Launch) (dC : Nat → ClassId) (dI : Nat → Nat → Nat) (cB cI cJ cZ : ClassId) (h0 : Nat) (h1 : Nat) (h2 : Nat) (h3 : Nat) (sz : Nat) (rb : Nat → Int64) (re : Nat → Int64) (ro : Nat → Int32) (rc : Int32) (p0 : Int64) (p1 : Int64) (res : Int64) (hf : f_X0_nextBegin rb rc p0 p1 = some res) : kMl l yX0_nextBegin wsX0_nextBegin (kRm 0 0 0 0) dC dI cB cI cJ cZ [.ref h0, .long p0, .long p1] sz (wRow cJ cZ h0 h1 h2 h3 rb re ro rc) (res) (wRow cJ cZ h0 h1 h2 h3 rb re ro rc) 0 0 := by
  refine kmet_l (y := yX0_nextBegin) (cc := cX0_nextBegin) (maxL := 8) (ret := (some .long)) RX0 (kvA 0 h0 (kvJ 1 p0 (kvJ 3 p1 kvE))) kpl_X0 rfl rfl (Nat.le_of_ble_eq_true rfl) rfl (fun p e s m below meth c A ls hx hb hr hml hts hown hlocks hP hK hG hD hA hS hl => ?_)
  have hw0 := hts (.fieldLink RX0 22 "Spanbooker$Row" "count" "I") (List.mem_cons_of_mem _ kw_95)
  have hw1 := hts (.fieldLink RX0 9 "Spanbooker$Row" "begins" "[J") (List.mem_cons_of_mem _ kw_92)
  have hiX0 : ∀ w ∈ u_ws RX0 TX0 4, w ∈ wsX0_nextBegin := fun w h => List.mem_cons_of_mem _ (ku_X0 w h)
  have J6 : ∀ (n : Nat), ∀ (rb : Nat → Int64) (re : Nat → Int64) (ro : Nat → Int32) (rc : Int32) (x1 : Int64) (x5 : Int64) (x7 : Int32) (H : Heap) (locs : List Loc), va_P (dC, dI) vwCl (wRow cJ cZ h0 h1 h2 h3 rb re ro rc) H → va_D A (wRow cJ cZ h0 h1 h2 h3 rb re ro rc) → va_S A s.heap H locs → ∀ (ls : Array Slot), lv_has ls 8 (kvA 0 h0 (kvJ 1 x1 (kvJ 5 x5 (kvI 7 x7 kvE)))) → f_X0_nextBegin_6 n rb rc x1 x5 x7 = some res → W p l e (headSpec wsX0_nextBegin (kRm 0 0 0 0)).room s m ([.ref h0, .long p0, .long p1] : List Value).toArray below meth c H locs 0 0 (MQ below (kL (dC, dI) (res) (wRow cJ cZ h0 h1 h2 h3 rb re ro rc) A) ([.ref h0, .long p0, .long p1] : List Value).toArray s 0 0 A) (F0 m 6 ls []) := by
    intro n
    induction n with
    | zero =>
      intro rb re ro rc x1 x5 x7 H locs hP hD hS ls hl h
      have h := f_X0_nextBegin_6_0.symm.trans h
      cases h
    | succ n ih =>
      intro rb re ro rc x1 x5 x7 H locs hP hD hS ls hl h
      have h := f_X0_nextBegin_6_s.symm.trans h
      refine lv_iload hx hb (kdr dgX0_nextBegin_0 0 4 rfl rfl) (lv_at hl 3 rfl) ?_
      refine lv_aload_n hx hb (kdr dgX0_nextBegin_0 0 5 rfl rfl) rfl (lv_at hl 0 rfl) ?_
      refine va_get (D := (dC, dI)) (ci := 2) (v := .int rc) (C := RX0) (T := TX0) (N := 4) hx hb hts hiX0 hown hK hP 0 rfl rfl 3 (by decide) hw0 (fun _ h9 => h9) rfl (kdr dgX0_nextBegin_0 0 6 rfl rfl) ?_
      refine lv_icmp_ge (tgt := 55) hx hb (kdr dgX0_nextBegin_0 0 7 rfl rfl) (by decide) (fun c1 => ?_) (fun c1 => ?_)
      · have h := g_t c1 h
        refine lv_lload hx hb (kdr dgX0_nextBegin_0 2 9 rfl rfl) (lv_at hl 2 rfl) ?_
        have h := Option.some.inj h
        subst h
        exact kret_l (v := x5) hx hb hr hlocks hS hP (kdr dgX0_nextBegin_0 3 0 rfl rfl)
      · have h := g_f c1 h
        refine lv_aload_n hx hb (kdr dgX0_nextBegin_0 0 8 rfl rfl) rfl (lv_at hl 0 rfl) ?_
        refine va_get (D := (dC, dI)) (ci := 2) (v := .ref h1) (C := RX0) (T := TX0) (N := 4) hx hb hts hiX0 hown hK hP 0 rfl rfl 0 (by decide) hw1 (fun _ h9 => h9) rfl (kdr dgX0_nextBegin_0 0 9 rfl rfl) ?_
        refine lv_iload hx hb (kdr dgX0_nextBegin_0 1 0 rfl rfl) (lv_at hl 3 rfl) ?_
        obtain ⟨z1, h⟩ := g_if h
        refine va_lald hx hb hK hP 1 2 rfl rfl (ix_in z1) (kdr dgX0_nextBegin_0 1 1 rfl rfl) ?_
        refine lv_lload_n hx hb (kdr dgX0_nextBegin_0 1 2 rfl rfl) rfl (lv_at hl 1 rfl) ?_
        refine kl_lt (pc := 23) (tgt := 49) hx hb (kdr dgX0_nextBegin_0 1 3 rfl rfl) (kdr dgX0_nextBegin_0 1 4 rfl rfl) (by decide) (fun c3 => ?_) (fun c3 => ?_)
        · have h := g_t c3 h
          refine lv_iinc (v := x7 + 1) (lv' := (kvI 7 (x7 + 1) (kvA 0 h0 (kvJ 1 x1 (kvJ 5 x5 kvE))))) hx hb (kdr dgX0_nextBegin_0 2 7 rfl rfl) hl (k := 3) rfl rfl (by decide) rfl (fun ls hl => ?_)
          refine lv_goto (tgt := 6) hx hb (kdr dgX0_nextBegin_0 2 8 rfl rfl) (by decide) ?_
          exact ih rb re ro rc x1 x5 (x7 + 1) _ _ hP hD hS ls (lv_sub hl [1, 2, 3, 0] rfl) h
        · have h := g_f c3 h
          refine lv_aload_n hx hb (kdr dgX0_nextBegin_0 1 5 rfl rfl) rfl (lv_at hl 0 rfl) ?_
          refine va_get (D := (dC, dI)) (ci := 2) (v := .ref h1) (C := RX0) (T := TX0) (N := 4) hx hb hts hiX0 hown hK hP 0 rfl rfl 0 (by decide) hw1 (fun _ h9 => h9) rfl (kdr dgX0_nextBegin_0 1 6 rfl rfl) ?_
          refine lv_iload hx hb (kdr dgX0_nextBegin_0 1 7 rfl rfl) (lv_at hl 3 rfl) ?_
          refine va_lald hx hb hK hP 1 2 rfl rfl (ix_in z1) (kdr dgX0_nextBegin_0 1 8 rfl rfl) ?_
          refine lv_lload hx hb (kdr dgX0_nextBegin_0 1 9 rfl rfl) (lv_at hl 2 rfl) ?_
          refine kl_ge (pc := 36) (tgt := 49) hx hb (kdr dgX0_nextBegin_0 2 0 rfl rfl) (kdr dgX0_nextBegin_0 2 1 rfl rfl) (by decide) (fun c4 => ?_) (fun c4 => ?_)
          · have h := g_t c4 h
            refine lv_iinc (v := x7 + 1) (lv' := (kvI 7 (x7 + 1) (kvA 0 h0 (kvJ 1 x1 (kvJ 5 x5 kvE))))) hx hb (kdr dgX0_nextBegin_0 2 7 rfl rfl) hl (k := 3) rfl rfl (by decide) rfl (fun ls hl => ?_)
            refine lv_goto (tgt := 6) hx hb (kdr dgX0_nextBegin_0 2 8 rfl rfl) (by decide) ?_
            exact ih rb re ro rc x1 x5 (x7 + 1) _ _ hP hD hS ls (lv_sub hl [1, 2, 3, 0] rfl) h
          · have h := g_f c4 h
            refine lv_aload_n hx hb (kdr dgX0_nextBegin_0 2 2 rfl rfl) rfl (lv_at hl 0 rfl) ?_
            refine va_get (D := (dC, dI)) (ci := 2) (v := .ref h1) (C := RX0) (T := TX0) (N := 4) hx hb hts hiX0 hown hK hP 0 rfl rfl 0 (by decide) hw1 (fun _ h9 => h9) rfl (kdr dgX0_nextBegin_0 2 3 rfl rfl) ?_
            refine lv_iload hx hb (kdr dgX0_nextBegin_0 2 4 rfl rfl) (lv_at hl 3 rfl) ?_
            refine va_lald hx hb hK hP 1 2 rfl rfl (ix_in z1) (kdr dgX0_nextBegin_0 2 5 rfl rfl) ?_
            refine lv_lstore (lv' := (kvJ 5 (rb x7.toNatClampNeg) (kvA 0 h0 (kvJ 1 x1 (kvI 7 x7 kvE))))) hx hb (kdr dgX0_nextBegin_0 2 6 rfl rfl) hl (by decide) rfl (fun ls hl => ?_)
            refine lv_iinc (v := x7 + 1) (lv' := (kvI 7 (x7 + 1) (kvJ 5 (rb x7.toNatClampNeg) (kvA 0 h0 (kvJ 1 x1 kvE))))) hx hb (kdr dgX0_nextBegin_0 2 7 rfl rfl) hl (k := 3) rfl rfl (by decide) rfl (fun ls hl => ?_)
            refine lv_goto (tgt := 6) hx hb (kdr dgX0_nextBegin_0 2 8 rfl rfl) (by decide) ?_
            exact ih rb re ro rc x1 (rb x7.toNatClampNeg) (x7 + 1) _ _ hP hD hS ls (lv_sub hl [2, 3, 1, 0] rfl) h
  have h := f_X0_nextBegin_e.symm.trans hf
  refine lv_lload_n hx hb (kdr dgX0_nextBegin_0 0 0 rfl rfl) rfl (lv_at hl 2 rfl) ?_
  refine lv_lstore (lv' := (kvJ 5 p1 (kvA 0 h0 (kvJ 1 p0 (kvJ 3 p1 kvE))))) hx hb (kdr dgX0_nextBegin_0 0 1 rfl rfl) hl (by decide) rfl (fun ls hl => ?_)
  refine lv_iconst (v := 0) hx hb (kdr dgX0_nextBegin_0 0 2 rfl rfl) (by decide) ?_
  refine lv_istore (lv' := (kvI 7 0 (kvJ 5 p1 (kvA 0 h0 (kvJ 1 p0 (kvJ 3 p1 kvE)))))) hx hb (kdr dgX0_nextBegin_0 0 3 rfl rfl) hl (by decide) rfl (fun ls hl => ?_)
  exact J6 24 rb re ro rc p0 p1 0 _ _ hP hD hS ls (lv_sub hl [2, 3, 1, 0] rfl) h
noncomputable abbrev wsX0_beginsBefore : List Cond := kWs yX0_beginsBefore cX0_beginsBefore 5 (some .int)
noncomputable def f_X0_beginsBefore_5 : Nat → (Nat → Int64) → (Int32) → (Int64) → (Int32) → (Int32) → Option (Int32)
  | 0, _, _, _, _, _ => none
  | n + 1, rb, rc, x1, x3, x4 =>
    if rc ≤ x4 then
      some x3
    else
      if ix x4 11 then
        if x1 ≤ (rb x4.toNatClampNeg) then
          f_X0_beginsBefore_5 n rb rc x1 x3 (x4 + 1)
        else
          f_X0_beginsBefore_5 n rb rc x1 (x3 + 1) (x4 + 1)
      else none
theorem f_X0_beginsBefore_5_0 {rb : Nat → Int64} {rc : Int32} {x1 : Int64} {x3 : Int32} {x4 : Int32} : f_X0_beginsBefore_5 0 rb rc x1 x3 x4 = none := rfl
theorem f_X0_beginsBefore_5_s {n : Nat} {rb : Nat → Int64} {rc : Int32} {x1 : Int64} {x3 : Int32} {x4 : Int32} : f_X0_beginsBefore_5 (n + 1) rb rc x1 x3 x4 =
  if rc ≤ x4 then
    some x3
  else
    if ix x4 11 then
      if x1 ≤ (rb x4.toNatClampNeg) then
        f_X0_beginsBefore_5 n rb rc x1 x3 (x4 + 1)
      else
        f_X0_beginsBefore_5 n rb rc x1 (x3 + 1) (x4 + 1)
    else none := rfl
noncomputable def f_X0_beginsBefore (rb : Nat → Int64) (rc : Int32) (p0 : Int64) : Option (Int32) :=
  f_X0_beginsBefore_5 24 rb rc p0 0 0
theorem f_X0_beginsBefore_e {rb : Nat → Int64} {rc : Int32} {p0 : Int64} : f_X0_beginsBefore rb rc p0 = 
  f_X0_beginsBefore_5 24 rb rc p0 0 0 := rfl
set_option maxHeartbeats 4000000 in
set_option maxRecDepth 100000 in
theorem c_X0_beginsBefore (l : Launch) (dC : Nat → ClassId) (dI : Nat → Nat → Nat) (cB cI cJ cZ : ClassId) (h0 : Nat) (h1 : Nat) (h2 : Nat) (h3 : Nat) (sz : Nat) (rb : Nat → Int64) (re : Nat → Int64) (ro : Nat → Int32) (rc : Int32) (p0 : Int64) (res : Int32) (hf : f_X0_beginsBefore rb rc p0 = some res) : kMi l yX0_beginsBefore wsX0_beginsBefore (kRm 0 0 0 0) dC dI cB cI cJ cZ [.ref h0, .long p0] sz (wRow cJ cZ h0 h1 h2 h3 rb re ro rc) .int (res) (wRow cJ cZ h0 h1 h2 h3 rb re ro rc) 0 0 := by
  refine kmet_i (y := yX0_beginsBefore) (cc := cX0_beginsBefore) (maxL := 5) (ret := (some .int)) RX0 (kvA 0 h0 (kvJ 1 p0 kvE)) kpl_X0 rfl rfl (Nat.le_of_ble_eq_true rfl) rfl (fun p e s m below meth c A ls hx hb hr hml hts hown hlocks hP hK hG hD hA hS hl => ?_)
  have hw0 := hts (.fieldLink RX0 22 "Spanbooker$Row" "count" "I") (List.mem_cons_of_mem _ kw_95)
  have hw1 := hts (.fieldLink RX0 9 "Spanbooker$Row" "begins" "[J") (List.mem_cons_of_mem _ kw_92)
  have hiX0 : ∀ w ∈ u_ws RX0 TX0 4, w ∈ wsX0_beginsBefore := fun w h => List.mem_cons_of_mem _ (ku_X0 w h)
  have J5 : ∀ (n : Nat), ∀ (rb : Nat → Int64) (re : Nat → Int64) (ro : Nat → Int32) (rc : Int32) (x1 : Int64) (x3 : Int32) (x4 : Int32) (H : Heap) (locs : List Loc), va_P (dC, dI) vwCl (wRow cJ cZ h0 h1 h2 h3 rb re ro rc) H → va_D A (wRow cJ cZ h0 h1 h2 h3 rb re ro rc) → va_S A s.heap H locs → ∀ (ls : Array Slot), lv_has ls 5 (kvA 0 h0 (kvJ 1 x1 (kvI 3 x3 (kvI 4 x4 kvE)))) → f_X0_beginsBefore_5 n rb rc x1 x3 x4 = some res → W p l e (headSpec wsX0_beginsBefore (kRm 0 0 0 0)).room s m ([.ref h0, .long p0] : List Value).toArray below meth c H locs 0 0 (MQ below (kI (dC, dI) .int (res) (wRow cJ cZ h0 h1 h2 h3 rb re ro rc) A) ([.ref h0, .long p0] : List Value).toArray s 0 0 A) (F0 m 5 ls []) := by
    intro n
    induction n with
    | zero =>
      intro rb re ro rc x1 x3 x4 H locs hP hD hS ls hl h
      have h := f_X0_beginsBefore_5_0.symm.trans h
      cases h
    | succ n ih =>
      intro rb re ro rc x1 x3 x4 H locs hP hD hS ls hl h
      have h := f_X0_beginsBefore_5_s.symm.trans h
      refine lv_iload hx hb (kdr dgX0_beginsBefore_0 0 4 rfl rfl) (lv_at hl 3 rfl) ?_
      refine lv_aload_n hx hb (kdr dgX0_beginsBefore_0 0 5 rfl rfl) rfl (lv_at hl 0 rfl) ?_
      refine va_get (D := (dC, dI)) (ci := 2) (v := .int rc) (C := RX0) (T := TX0) (N := 4) hx hb hts hiX0 hown hK hP 0 rfl rfl 3 (by decide) hw0 (fun _ h9 => h9) rfl (kdr dgX0_beginsBefore_0 0 6 rfl rfl) ?_
      refine lv_icmp_ge (tgt := 35) hx hb (kdr dgX0_beginsBefore_0 0 7 rfl rfl) (by decide) (fun c1 => ?_) (fun c1 => ?_)
      · have h := g_t c1 h
        refine lv_iload_n hx hb (kdr dgX0_beginsBefore_0 1 8 rfl rfl) rfl (lv_at hl 2 rfl) ?_
        have h := Option.some.inj h
        subst h
        exact kret_i (v := x3) hx hb hr rfl hlocks hS hP (kdr dgX0_beginsBefore_0 1 9 rfl rfl)
      · have h := g_f c1 h
        refine lv_aload_n hx hb (kdr dgX0_beginsBefore_0 0 8 rfl rfl) rfl (lv_at hl 0 rfl) ?_
        refine va_get (D := (dC, dI)) (ci := 2) (v := .ref h1) (C := RX0) (T := TX0) (N := 4) hx hb hts hiX0 hown hK hP 0 rfl rfl 0 (by decide) hw1 (fun _ h9 => h9) rfl (kdr dgX0_beginsBefore_0 0 9 rfl rfl) ?_
        refine lv_iload hx hb (kdr dgX0_beginsBefore_0 1 0 rfl rfl) (lv_at hl 3 rfl) ?_
        obtain ⟨z1, h⟩ := g_if h
        refine va_lald hx hb hK hP 1 2 rfl rfl (ix_in z1) (kdr dgX0_beginsBefore_0 1 1 rfl rfl) ?_
        refine lv_lload_n hx hb (kdr dgX0_beginsBefore_0 1 2 rfl rfl) rfl (lv_at hl 1 rfl) ?_
        refine kl_ge (pc := 22) (tgt := 29) hx hb (kdr dgX0_beginsBefore_0 1 3 rfl rfl) (kdr dgX0_beginsBefore_0 1 4 rfl rfl) (by decide) (fun c3 => ?_) (fun c3 => ?_)
        · have h := g_t c3 h
          refine lv_iinc (v := x4 + 1) (lv' := (kvI 4 (x4 + 1) (kvA 0 h0 (kvJ 1 x1 (kvI 3 x3 kvE))))) hx hb (kdr dgX0_beginsBefore_0 1 6 rfl rfl) hl (k := 3) rfl rfl (by decide) rfl (fun ls hl => ?_)
          refine lv_goto (tgt := 5) hx hb (kdr dgX0_beginsBefore_0 1 7 rfl rfl) (by decide) ?_
          exact ih rb re ro rc x1 x3 (x4 + 1) _ _ hP hD hS ls (lv_sub hl [1, 2, 3, 0] rfl) h
        · have h := g_f c3 h
          refine lv_iinc (v := x3 + 1) (lv' := (kvI 3 (x3 + 1) (kvA 0 h0 (kvJ 1 x1 (kvI 4 x4 kvE))))) hx hb (kdr dgX0_beginsBefore_0 1 5 rfl rfl) hl (k := 2) rfl rfl (by decide) rfl (fun ls hl => ?_)
          refine lv_iinc (v := x4 + 1) (lv' := (kvI 4 (x4 + 1) (kvI 3 (x3 + 1) (kvA 0 h0 (kvJ 1 x1 kvE))))) hx hb (kdr dgX0_beginsBefore_0 1 6 rfl rfl) hl (k := 3) rfl rfl (by decide) rfl (fun ls hl => ?_)
          refine lv_goto (tgt := 5) hx hb (kdr dgX0_beginsBefore_0 1 7 rfl rfl) (by decide) ?_
          exact ih rb re ro rc x1 (x3 + 1) (x4 + 1) _ _ hP hD hS ls (lv_sub hl [2, 3, 1, 0] rfl) h
  have h := f_X0_beginsBefore_e.symm.trans hf
  refine lv_iconst (v := 0) hx hb (kdr dgX0_beginsBefore_0 0 0 rfl rfl) (by decide) ?_
  refine lv_istore_n (lv' := (kvI 3 0 (kvA 0 h0 (kvJ 1 p0 kvE)))) hx hb (kdr dgX0_beginsBefore_0 0 1 rfl rfl) rfl hl (by decide) rfl (fun ls hl => ?_)
  refine lv_iconst (v := 0) hx hb (kdr dgX0_beginsBefore_0 0 2 rfl rfl) (by decide) ?_
  refine lv_istore (lv' := (kvI 4 0 (kvI 3 0 (kvA 0 h0 (kvJ 1 p0 kvE))))) hx hb (kdr dgX0_beginsBefore_0 0 3 rfl rfl) hl (by decide) rfl (fun ls hl => ?_)
  exact J5 24 rb re ro rc p0 0 0 _ _ hP hD hS ls (lv_sub hl [2, 3, 1, 0] rfl) h
noncomputable abbrev wsX0_endsBefore : List Cond := kWs yX0_endsBefore cX0_endsBefore 5 (some .int)
noncomputable def f_X0_endsBefore_5 : Nat → (Nat → Int64) → (Int32) → (Int64) → (Int32) → (Int32) → Option (Int32)
  | 0, _, _, _, _, _ => none
  | n + 1, re, rc, x1, x3, x4 =>
    if rc ≤ x4 then
      some x3
    else
      if ix x4 11 then
        if x1 ≤ (re x4.toNatClampNeg) then
          f_X0_endsBefore_5 n re rc x1 x3 (x4 + 1)
        else
          f_X0_endsBefore_5 n re rc x1 (x3 + 1) (x4 + 1)
      else none
theorem f_X0_endsBefore_5_0 {re : Nat → Int64} {rc : Int32} {x1 : Int64} {x3 : Int32} {x4 : Int32} : f_X0_endsBefore_5 0 re rc x1 x3 x4 = none := rfl
theorem f_X0_endsBefore_5_s {n : Nat} {re : Nat → Int64} {rc : Int32} {x1 : Int64} {x3 : Int32} {x4 : Int32} : f_X0_endsBefore_5 (n + 1) re rc x1 x3 x4 =
  if rc ≤ x4 then
    some x3
  else
    if ix x4 11 then
      if x1 ≤ (re x4.toNatClampNeg) then
        f_X0_endsBefore_5 n re rc x1 x3 (x4 + 1)
      else
        f_X0_endsBefore_5 n re rc x1 (x3 + 1) (x4 + 1)
    else none := rfl
noncomputable def f_X0_endsBefore (re : Nat → Int64) (rc : Int32) (p0 : Int64) : Option (Int32) :=
  f_X0_endsBefore_5 24 re rc p0 0 0
theorem f_X0_endsBefore_e {re : Nat → Int64} {rc : Int32} {p0 : Int64} : f_X0_endsBefore re rc p0 = 
  f_X0_endsBefore_5 24 re rc p0 0 0 := rfl
set_option maxHeartbeats 4000000 in
set_option maxRecDepth 100000 in
theorem c_X0_endsBefore (l : Launch) (dC : Nat → ClassId) (dI : Nat → Nat → Nat) (cB cI cJ cZ : ClassId) (h0 : Nat) (h1 : Nat) (h2 : Nat) (h3 : Nat) (sz : Nat) (rb : Nat → Int64) (re : Nat → Int64) (ro : Nat → Int32) (rc : Int32) (p0 : Int64) (res : Int32) (hf : f_X0_endsBefore re rc p0 = some res) : kMi l yX0_endsBefore wsX0_endsBefore (kRm 0 0 0 0) dC dI cB cI cJ cZ [.ref h0, .long p0] sz (wRow cJ cZ h0 h1 h2 h3 rb re ro rc) .int (res) (wRow cJ cZ h0 h1 h2 h3 rb re ro rc) 0 0 := by
  refine kmet_i (y := yX0_endsBefore) (cc := cX0_endsBefore) (maxL := 5) (ret := (some .int)) RX0 (kvA 0 h0 (kvJ 1 p0 kvE)) kpl_X0 rfl rfl (Nat.le_of_ble_eq_true rfl) rfl (fun p e s m below meth c A ls hx hb hr hml hts hown hlocks hP hK hG hD hA hS hl => ?_)
  have hw0 := hts (.fieldLink RX0 22 "Spanbooker$Row" "count" "I") (List.mem_cons_of_mem _ kw_95)
  have hw1 := hts (.fieldLink RX0 15 "Spanbooker$Row" "ends" "[J") (List.mem_cons_of_mem _ kw_93)
  have hiX0 : ∀ w ∈ u_ws RX0 TX0 4, w ∈ wsX0_endsBefore := fun w h => List.mem_cons_of_mem _ (ku_X0 w h)
  have J5 : ∀ (n : Nat), ∀ (rb : Nat → Int64) (re : Nat → Int64) (ro : Nat → Int32) (rc : Int32) (x1 : Int64) (x3 : Int32) (x4 : Int32) (H : Heap) (locs : List Loc), va_P (dC, dI) vwCl (wRow cJ cZ h0 h1 h2 h3 rb re ro rc) H → va_D A (wRow cJ cZ h0 h1 h2 h3 rb re ro rc) → va_S A s.heap H locs → ∀ (ls : Array Slot), lv_has ls 5 (kvA 0 h0 (kvJ 1 x1 (kvI 3 x3 (kvI 4 x4 kvE)))) → f_X0_endsBefore_5 n re rc x1 x3 x4 = some res → W p l e (headSpec wsX0_endsBefore (kRm 0 0 0 0)).room s m ([.ref h0, .long p0] : List Value).toArray below meth c H locs 0 0 (MQ below (kI (dC, dI) .int (res) (wRow cJ cZ h0 h1 h2 h3 rb re ro rc) A) ([.ref h0, .long p0] : List Value).toArray s 0 0 A) (F0 m 5 ls []) := by
    intro n
    induction n with
    | zero =>
      intro rb re ro rc x1 x3 x4 H locs hP hD hS ls hl h
      have h := f_X0_endsBefore_5_0.symm.trans h
      cases h
    | succ n ih =>
      intro rb re ro rc x1 x3 x4 H locs hP hD hS ls hl h
      have h := f_X0_endsBefore_5_s.symm.trans h
      refine lv_iload hx hb (kdr dgX0_endsBefore_0 0 4 rfl rfl) (lv_at hl 3 rfl) ?_
      refine lv_aload_n hx hb (kdr dgX0_endsBefore_0 0 5 rfl rfl) rfl (lv_at hl 0 rfl) ?_
      refine va_get (D := (dC, dI)) (ci := 2) (v := .int rc) (C := RX0) (T := TX0) (N := 4) hx hb hts hiX0 hown hK hP 0 rfl rfl 3 (by decide) hw0 (fun _ h9 => h9) rfl (kdr dgX0_endsBefore_0 0 6 rfl rfl) ?_
      refine lv_icmp_ge (tgt := 35) hx hb (kdr dgX0_endsBefore_0 0 7 rfl rfl) (by decide) (fun c1 => ?_) (fun c1 => ?_)
      · have h := g_t c1 h
        refine lv_iload_n hx hb (kdr dgX0_endsBefore_0 1 8 rfl rfl) rfl (lv_at hl 2 rfl) ?_
        have h := Option.some.inj h
        subst h
        exact kret_i (v := x3) hx hb hr rfl hlocks hS hP (kdr dgX0_endsBefore_0 1 9 rfl rfl)
      · have h := g_f c1 h
        refine lv_aload_n hx hb (kdr dgX0_endsBefore_0 0 8 rfl rfl) rfl (lv_at hl 0 rfl) ?_
        refine va_get (D := (dC, dI)) (ci := 2) (v := .ref h2) (C := RX0) (T := TX0) (N := 4) hx hb hts hiX0 hown hK hP 0 rfl rfl 1 (by decide) hw1 (fun _ h9 => h9) rfl (kdr dgX0_endsBefore_0 0 9 rfl rfl) ?_
        refine lv_iload hx hb (kdr dgX0_endsBefore_0 1 0 rfl rfl) (lv_at hl 3 rfl) ?_
        obtain ⟨z1, h⟩ := g_if h
        refine va_lald hx hb hK hP 2 2 rfl rfl (ix_in z1) (kdr dgX0_endsBefore_0 1 1 rfl rfl) ?_
        refine lv_lload_n hx hb (kdr dgX0_endsBefore_0 1 2 rfl rfl) rfl (lv_at hl 1 rfl) ?_
        refine kl_ge (pc := 22) (tgt := 29) hx hb (kdr dgX0_endsBefore_0 1 3 rfl rfl) (kdr dgX0_endsBefore_0 1 4 rfl rfl) (by decide) (fun c3 => ?_) (fun c3 => ?_)
        · have h := g_t c3 h
          refine lv_iinc (v := x4 + 1) (lv' := (kvI 4 (x4 + 1) (kvA 0 h0 (kvJ 1 x1 (kvI 3 x3 kvE))))) hx hb (kdr dgX0_endsBefore_0 1 6 rfl rfl) hl (k := 3) rfl rfl (by decide) rfl (fun ls hl => ?_)
          refine lv_goto (tgt := 5) hx hb (kdr dgX0_endsBefore_0 1 7 rfl rfl) (by decide) ?_
          exact ih rb re ro rc x1 x3 (x4 + 1) _ _ hP hD hS ls (lv_sub hl [1, 2, 3, 0] rfl) h
        · have h := g_f c3 h
          refine lv_iinc (v := x3 + 1) (lv' := (kvI 3 (x3 + 1) (kvA 0 h0 (kvJ 1 x1 (kvI 4 x4 kvE))))) hx hb (kdr dgX0_endsBefore_0 1 5 rfl rfl) hl (k := 2) rfl rfl (by decide) rfl (fun ls hl => ?_)
          refine lv_iinc (v := x4 + 1) (lv' := (kvI 4 (x4 + 1) (kvI 3 (x3 + 1) (kvA 0 h0 (kvJ 1 x1 kvE))))) hx hb (kdr dgX0_endsBefore_0 1 6 rfl rfl) hl (k := 3) rfl rfl (by decide) rfl (fun ls hl => ?_)
          refine lv_goto (tgt := 5) hx hb (kdr dgX0_endsBefore_0 1 7 rfl rfl) (by decide) ?_
          exact ih rb re ro rc x1 (x3 + 1) (x4 + 1) _ _ hP hD hS ls (lv_sub hl [2, 3, 1, 0] rfl) h
  have h := f_X0_endsBefore_e.symm.trans hf
  refine lv_iconst (v := 0) hx hb (kdr dgX0_endsBefore_0 0 0 rfl rfl) (by decide) ?_
  refine lv_istore_n (lv' := (kvI 3 0 (kvA 0 h0 (kvJ 1 p0 kvE)))) hx hb (kdr dgX0_endsBefore_0 0 1 rfl rfl) rfl hl (by decide) rfl (fun ls hl => ?_)
  refine lv_iconst (v := 0) hx hb (kdr dgX0_endsBefore_0 0 2 rfl rfl) (by decide) ?_
  refine lv_istore (lv' := (kvI 4 0 (kvI 3 0 (kvA 0 h0 (kvJ 1 p0 kvE))))) hx hb (kdr dgX0_endsBefore_0 0 3 rfl rfl) hl (by decide) rfl (fun ls hl => ?_)
  exact J5 24 rb re ro rc p0 0 0 _ _ hP hD hS ls (lv_sub hl [2, 3, 1, 0] rfl) h
noncomputable abbrev wsX0_depth : List Cond := kWs yX0_depth cX0_depth 5 (some .int)
noncomputable def f_X0_depth_17 (K4 : (Nat → Int64) → (Nat → Int64) → (Int32) → (Int32) → (Int32) → Option (Int32)) : Nat → (Nat → Int64) → (Nat → Int64) → (Int32) → (Int32) → (Int32) → (Int32) → (Int32) → Option (Int32)
  | 0, _, _, _, _, _, _, _ => none
  | n + 1, rb, re, rc, x1, x2, x3, x4 =>
    if rc ≤ x4 then
      K4 rb re rc (if x1 < x3 then x3 else x1) (x2 + 1)
    else
      if ix x4 11 then
        if ix x2 11 then
          if (rb x2.toNatClampNeg) < (rb x4.toNatClampNeg) then
            f_X0_depth_17 K4 n rb re rc x1 x2 x3 (x4 + 1)
          else
            if (re x4.toNatClampNeg) ≤ (rb x2.toNatClampNeg) then
              f_X0_depth_17 K4 n rb re rc x1 x2 x3 (x4 + 1)
            else
              f_X0_depth_17 K4 n rb re rc x1 x2 (x3 + 1) (x4 + 1)
        else none
      else none
theorem f_X0_depth_17_0 {K4 : (Nat → Int64) → (Nat → Int64) → (Int32) → (Int32) → (Int32) → Option (Int32)} {rb : Nat → Int64} {re : Nat → Int64} {rc : Int32} {x1 : Int32} {x2 : Int32} {x3 : Int32} {x4 : Int32} : f_X0_depth_17 K4 0 rb re rc x1 x2 x3 x4 = none := rfl
theorem f_X0_depth_17_s {K4 : (Nat → Int64) → (Nat → Int64) → (Int32) → (Int32) → (Int32) → Option (Int32)} {n : Nat} {rb : Nat → Int64} {re : Nat → Int64} {rc : Int32} {x1 : Int32} {x2 : Int32} {x3 : Int32} {x4 : Int32} : f_X0_depth_17 K4 (n + 1) rb re rc x1 x2 x3 x4 =
  if rc ≤ x4 then
    K4 rb re rc (if x1 < x3 then x3 else x1) (x2 + 1)
  else
    if ix x4 11 then
      if ix x2 11 then
        if (rb x2.toNatClampNeg) < (rb x4.toNatClampNeg) then
          f_X0_depth_17 K4 n rb re rc x1 x2 x3 (x4 + 1)
        else
          if (re x4.toNatClampNeg) ≤ (rb x2.toNatClampNeg) then
            f_X0_depth_17 K4 n rb re rc x1 x2 x3 (x4 + 1)
          else
            f_X0_depth_17 K4 n rb re rc x1 x2 (x3 + 1) (x4 + 1)
      else none
    else none := rfl
noncomputable def f_X0_depth_4 : Nat → (Nat → Int64) → (Nat → Int64) → (Int32) → (Int32) → (Int32) → Option (Int32)
  | 0, _, _, _, _, _ => none
  | n + 1, rb, re, rc, x1, x2 =>
    if rc ≤ x2 then
      some x1
    else
      f_X0_depth_17 (f_X0_depth_4 n) 24 rb re rc x1 x2 0 0
theorem f_X0_depth_4_0 {rb : Nat → Int64} {re : Nat → Int64} {rc : Int32} {x1 : Int32} {x2 : Int32} : f_X0_depth_4 0 rb re rc x1 x2 = none := rfl
theorem f_X0_depth_4_s {n : Nat} {rb : Nat → Int64} {re : Nat → Int64} {rc : Int32} {x1 : Int32} {x2 : Int32} : f_X0_depth_4 (n + 1) rb re rc x1 x2 =
  if rc ≤ x2 then
    some x1
  else
    f_X0_depth_17 (f_X0_depth_4 n) 24 rb re rc x1 x2 0 0 := rfl
noncomputable def f_X0_depth (rb : Nat → Int64) (re : Nat → Int64) (rc : Int32) : Option (Int32) :=
  f_X0_depth_4 24 rb re rc 0 0
theorem f_X0_depth_e {rb : Nat → Int64} {re : Nat → Int64} {rc : Int32} : f_X0_depth rb re rc = 
  f_X0_depth_4 24 rb re rc 0 0 := rfl
set_option maxHeartbeats 4000000 in
set_option maxRecDepth 100000 in
theorem c_X0_depth (l : Launch) (dC : Nat → ClassId) (dI : Nat → Nat → Nat) (cB cI cJ cZ : ClassId) (h0 : Nat) (h1 : Nat) (h2 : Nat) (h3 : Nat) (sz : Nat) (rb : Nat → Int64) (re : Nat → Int64) (ro : Nat → Int32) (rc : Int32) (res : Int32) (hf : f_X0_depth rb re rc = some res) : kMi l yX0_depth wsX0_depth (kRm 1 0 0 40) dC dI cB cI cJ cZ [.ref h0] sz (wRow cJ cZ h0 h1 h2 h3 rb re ro rc) .int (res) (wRow cJ cZ h0 h1 h2 h3 rb re ro rc) 0 0 := by
  refine kmet_i (y := yX0_depth) (cc := cX0_depth) (maxL := 5) (ret := (some .int)) RX0 (kvA 0 h0 kvE) kpl_X0 rfl rfl (Nat.le_of_ble_eq_true rfl) rfl (fun p e s m below meth c A ls hx hb hr hml hts hown hlocks hP hK hG hD hA hS hl => ?_)
  have hw0 := hts (.fieldLink RX0 22 "Spanbooker$Row" "count" "I") (List.mem_cons_of_mem _ kw_95)
  have hw1 := hts (.methodLink RX0 38 Lib.Math.max.name) (List.mem_cons_of_mem _ kw_175)
  have hw2 := hts (.static Lib.Math.max.name) (List.mem_cons_of_mem _ kw_176)
  have hw3 := hts (.initialized "java/lang/Math") (List.mem_cons_of_mem _ kw_66)
  have hw4 := hts (.code Lib.Math.max.name Lib.Math.max.code 2 (some .int)) (List.mem_cons_of_mem _ kw_177)
  have hw5 := hts (.fieldLink RX0 9 "Spanbooker$Row" "begins" "[J") (List.mem_cons_of_mem _ kw_92)
  have hw6 := hts (.fieldLink RX0 15 "Spanbooker$Row" "ends" "[J") (List.mem_cons_of_mem _ kw_93)
  have hiX0 : ∀ w ∈ u_ws RX0 TX0 4, w ∈ wsX0_depth := fun w h => List.mem_cons_of_mem _ (ku_X0 w h)
  have J17 : ∀ (K4 : (Nat → Int64) → (Nat → Int64) → (Int32) → (Int32) → (Int32) → Option (Int32)), (∀ (rb : Nat → Int64) (re : Nat → Int64) (ro : Nat → Int32) (rc : Int32) (x1 : Int32) (x2 : Int32) (H : Heap) (locs : List Loc), va_P (dC, dI) vwCl (wRow cJ cZ h0 h1 h2 h3 rb re ro rc) H → va_D A (wRow cJ cZ h0 h1 h2 h3 rb re ro rc) → va_S A s.heap H locs → ∀ (ls : Array Slot), lv_has ls 5 (kvA 0 h0 (kvI 1 x1 (kvI 2 x2 kvE))) → K4 rb re rc x1 x2 = some res → W p l e (headSpec wsX0_depth (kRm 1 0 0 40)).room s m ([.ref h0] : List Value).toArray below meth c H locs 0 0 (MQ below (kI (dC, dI) .int (res) (wRow cJ cZ h0 h1 h2 h3 rb re ro rc) A) ([.ref h0] : List Value).toArray s 0 0 A) (F0 m 4 ls [])) → ∀ (n : Nat), ∀ (rb : Nat → Int64) (re : Nat → Int64) (ro : Nat → Int32) (rc : Int32) (x1 : Int32) (x2 : Int32) (x3 : Int32) (x4 : Int32) (H : Heap) (locs : List Loc), va_P (dC, dI) vwCl (wRow cJ cZ h0 h1 h2 h3 rb re ro rc) H → va_D A (wRow cJ cZ h0 h1 h2 h3 rb re ro rc) → va_S A s.heap H locs → ∀ (ls : Array Slot), lv_has ls 5 (kvA 0 h0 (kvI 1 x1 (kvI 2 x2 (kvI 3 x3 (kvI 4 x4 kvE))))) → f_X0_depth_17 K4 n rb re rc x1 x2 x3 x4 = some res → W p l e (headSpec wsX0_depth (kRm 1 0 0 40)).room s m ([.ref h0] : List Value).toArray below meth c H locs 0 0 (MQ below (kI (dC, dI) .int (res) (wRow cJ cZ h0 h1 h2 h3 rb re ro rc) A) ([.ref h0] : List Value).toArray s 0 0 A) (F0 m 17 ls []) := by
    intro K4 hK4 n
    induction n with
    | zero =>
      intro rb re ro rc x1 x2 x3 x4 H locs hP hD hS ls hl h
      have h := f_X0_depth_17_0.symm.trans h
      cases h
    | succ n ih =>
      intro rb re ro rc x1 x2 x3 x4 H locs hP hD hS ls hl h
      have h := f_X0_depth_17_s.symm.trans h
      refine lv_iload hx hb (kdr dgX0_depth_0 1 2 rfl rfl) (lv_at hl 4 rfl) ?_
      refine lv_aload_n hx hb (kdr dgX0_depth_0 1 3 rfl rfl) rfl (lv_at hl 0 rfl) ?_
      refine va_get (D := (dC, dI)) (ci := 2) (v := .int rc) (C := RX0) (T := TX0) (N := 4) hx hb hts hiX0 hown hK hP 0 rfl rfl 3 (by decide) hw0 (fun _ h9 => h9) rfl (kdr dgX0_depth_0 1 4 rfl rfl) ?_
      refine lv_icmp_ge (tgt := 69) hx hb (kdr dgX0_depth_0 1 5 rfl rfl) (by decide) (fun c1 => ?_) (fun c1 => ?_)
      · have h := g_t c1 h
        refine lv_iload_n hx hb (kdr dgX0_depth_0 3 9 rfl rfl) rfl (lv_at hl 1 rfl) ?_
        refine lv_iload_n hx hb (kdr dgX0_depth_0 4 0 rfl rfl) rfl (lv_at hl 3 rfl) ?_
        refine va_mmax hx hb (hml.trans hl.1.symm) hown hw1 hw2 hw3 hw4 (Nat.le_of_ble_eq_true rfl) (Nat.le_of_ble_eq_true rfl) (Nat.le_of_ble_eq_true rfl) (Nat.le_of_ble_eq_true rfl) (kdr dgX0_depth_0 4 1 rfl rfl) ?_
        refine lv_istore_n (lv' := (kvI 1 (if x1 < x3 then x3 else x1) (kvA 0 h0 (kvI 2 x2 (kvI 3 x3 (kvI 4 x4 kvE)))))) hx hb (kdr dgX0_depth_0 4 2 rfl rfl) rfl hl (by decide) rfl (fun ls hl => ?_)
        refine lv_iinc (v := x2 + 1) (lv' := (kvI 2 (x2 + 1) (kvI 1 (if x1 < x3 then x3 else x1) (kvA 0 h0 (kvI 3 x3 (kvI 4 x4 kvE)))))) hx hb (kdr dgX0_depth_0 4 3 rfl rfl) hl (k := 2) rfl rfl (by decide) rfl (fun ls hl => ?_)
        refine lv_goto (tgt := 4) hx hb (kdr dgX0_depth_0 4 4 rfl rfl) (by decide) ?_
        exact hK4 rb re ro rc (if x1 < x3 then x3 else x1) (x2 + 1) _ _ hP hD hS ls (lv_sub hl [2, 1, 0] rfl) h
      · have h := g_f c1 h
        refine lv_aload_n hx hb (kdr dgX0_depth_0 1 6 rfl rfl) rfl (lv_at hl 0 rfl) ?_
        refine va_get (D := (dC, dI)) (ci := 2) (v := .ref h1) (C := RX0) (T := TX0) (N := 4) hx hb hts hiX0 hown hK hP 0 rfl rfl 0 (by decide) hw5 (fun _ h9 => h9) rfl (kdr dgX0_depth_0 1 7 rfl rfl) ?_
        refine lv_iload hx hb (kdr dgX0_depth_0 1 8 rfl rfl) (lv_at hl 4 rfl) ?_
        obtain ⟨z1, h⟩ := g_if h
        refine va_lald hx hb hK hP 1 2 rfl rfl (ix_in z1) (kdr dgX0_depth_0 1 9 rfl rfl) ?_
        refine lv_aload_n hx hb (kdr dgX0_depth_0 2 0 rfl rfl) rfl (lv_at hl 0 rfl) ?_
        refine va_get (D := (dC, dI)) (ci := 2) (v := .ref h1) (C := RX0) (T := TX0) (N := 4) hx hb hts hiX0 hown hK hP 0 rfl rfl 0 (by decide) hw5 (fun _ h9 => h9) rfl (kdr dgX0_depth_0 2 1 rfl rfl) ?_
        refine lv_iload_n hx hb (kdr dgX0_depth_0 2 2 rfl rfl) rfl (lv_at hl 2 rfl) ?_
        obtain ⟨z2, h⟩ := g_if h
        refine va_lald hx hb hK hP 1 2 rfl rfl (ix_in z2) (kdr dgX0_depth_0 2 3 rfl rfl) ?_
        refine kl_gt (pc := 39) (tgt := 63) hx hb (kdr dgX0_depth_0 2 4 rfl rfl) (kdr dgX0_depth_0 2 5 rfl rfl) (by decide) (fun c4 => ?_) (fun c4 => ?_)
        · have h := g_t c4 h
          refine lv_iinc (v := x4 + 1) (lv' := (kvI 4 (x4 + 1) (kvA 0 h0 (kvI 1 x1 (kvI 2 x2 (kvI 3 x3 kvE)))))) hx hb (kdr dgX0_depth_0 3 7 rfl rfl) hl (k := 4) rfl rfl (by decide) rfl (fun ls hl => ?_)
          refine lv_goto (tgt := 17) hx hb (kdr dgX0_depth_0 3 8 rfl rfl) (by decide) ?_
          exact ih rb re ro rc x1 x2 x3 (x4 + 1) _ _ hP hD hS ls (lv_sub hl [1, 2, 3, 4, 0] rfl) h
        · have h := g_f c4 h
          refine lv_aload_n hx hb (kdr dgX0_depth_0 2 6 rfl rfl) rfl (lv_at hl 0 rfl) ?_
          refine va_get (D := (dC, dI)) (ci := 2) (v := .ref h1) (C := RX0) (T := TX0) (N := 4) hx hb hts hiX0 hown hK hP 0 rfl rfl 0 (by decide) hw5 (fun _ h9 => h9) rfl (kdr dgX0_depth_0 2 7 rfl rfl) ?_
          refine lv_iload_n hx hb (kdr dgX0_depth_0 2 8 rfl rfl) rfl (lv_at hl 2 rfl) ?_
          refine va_lald hx hb hK hP 1 2 rfl rfl (ix_in z2) (kdr dgX0_depth_0 2 9 rfl rfl) ?_
          refine lv_aload_n hx hb (kdr dgX0_depth_0 3 0 rfl rfl) rfl (lv_at hl 0 rfl) ?_
          refine va_get (D := (dC, dI)) (ci := 2) (v := .ref h2) (C := RX0) (T := TX0) (N := 4) hx hb hts hiX0 hown hK hP 0 rfl rfl 1 (by decide) hw6 (fun _ h9 => h9) rfl (kdr dgX0_depth_0 3 1 rfl rfl) ?_
          refine lv_iload hx hb (kdr dgX0_depth_0 3 2 rfl rfl) (lv_at hl 4 rfl) ?_
          refine va_lald hx hb hK hP 2 2 rfl rfl (ix_in z1) (kdr dgX0_depth_0 3 3 rfl rfl) ?_
          refine kl_ge (pc := 56) (tgt := 63) hx hb (kdr dgX0_depth_0 3 4 rfl rfl) (kdr dgX0_depth_0 3 5 rfl rfl) (by decide) (fun c5 => ?_) (fun c5 => ?_)
          · have h := g_t c5 h
            refine lv_iinc (v := x4 + 1) (lv' := (kvI 4 (x4 + 1) (kvA 0 h0 (kvI 1 x1 (kvI 2 x2 (kvI 3 x3 kvE)))))) hx hb (kdr dgX0_depth_0 3 7 rfl rfl) hl (k := 4) rfl rfl (by decide) rfl (fun ls hl => ?_)
            refine lv_goto (tgt := 17) hx hb (kdr dgX0_depth_0 3 8 rfl rfl) (by decide) ?_
            exact ih rb re ro rc x1 x2 x3 (x4 + 1) _ _ hP hD hS ls (lv_sub hl [1, 2, 3, 4, 0] rfl) h
          · have h := g_f c5 h
            refine lv_iinc (v := x3 + 1) (lv' := (kvI 3 (x3 + 1) (kvA 0 h0 (kvI 1 x1 (kvI 2 x2 (kvI 4 x4 kvE)))))) hx hb (kdr dgX0_depth_0 3 6 rfl rfl) hl (k := 3) rfl rfl (by decide) rfl (fun ls hl => ?_)
            refine lv_iinc (v := x4 + 1) (lv' := (kvI 4 (x4 + 1) (kvI 3 (x3 + 1) (kvA 0 h0 (kvI 1 x1 (kvI 2 x2 kvE)))))) hx hb (kdr dgX0_depth_0 3 7 rfl rfl) hl (k := 4) rfl rfl (by decide) rfl (fun ls hl => ?_)
            refine lv_goto (tgt := 17) hx hb (kdr dgX0_depth_0 3 8 rfl rfl) (by decide) ?_
            exact ih rb re ro rc x1 x2 (x3 + 1) (x4 + 1) _ _ hP hD hS ls (lv_sub hl [2, 3, 4, 1, 0] rfl) h
  have J4 : ∀ (n : Nat), ∀ (rb : Nat → Int64) (re : Nat → Int64) (ro : Nat → Int32) (rc : Int32) (x1 : Int32) (x2 : Int32) (H : Heap) (locs : List Loc), va_P (dC, dI) vwCl (wRow cJ cZ h0 h1 h2 h3 rb re ro rc) H → va_D A (wRow cJ cZ h0 h1 h2 h3 rb re ro rc) → va_S A s.heap H locs → ∀ (ls : Array Slot), lv_has ls 5 (kvA 0 h0 (kvI 1 x1 (kvI 2 x2 kvE))) → f_X0_depth_4 n rb re rc x1 x2 = some res → W p l e (headSpec wsX0_depth (kRm 1 0 0 40)).room s m ([.ref h0] : List Value).toArray below meth c H locs 0 0 (MQ below (kI (dC, dI) .int (res) (wRow cJ cZ h0 h1 h2 h3 rb re ro rc) A) ([.ref h0] : List Value).toArray s 0 0 A) (F0 m 4 ls []) := by
    intro n
    induction n with
    | zero =>
      intro rb re ro rc x1 x2 H locs hP hD hS ls hl h
      have h := f_X0_depth_4_0.symm.trans h
      cases h
    | succ n ih =>
      intro rb re ro rc x1 x2 H locs hP hD hS ls hl h
      have h := f_X0_depth_4_s.symm.trans h
      refine lv_iload_n hx hb (kdr dgX0_depth_0 0 4 rfl rfl) rfl (lv_at hl 2 rfl) ?_
      refine lv_aload_n hx hb (kdr dgX0_depth_0 0 5 rfl rfl) rfl (lv_at hl 0 rfl) ?_
      refine va_get (D := (dC, dI)) (ci := 2) (v := .int rc) (C := RX0) (T := TX0) (N := 4) hx hb hts hiX0 hown hK hP 0 rfl rfl 3 (by decide) hw0 (fun _ h9 => h9) rfl (kdr dgX0_depth_0 0 6 rfl rfl) ?_
      refine lv_icmp_ge (tgt := 81) hx hb (kdr dgX0_depth_0 0 7 rfl rfl) (by decide) (fun c1 => ?_) (fun c1 => ?_)
      · have h := g_t c1 h
        refine lv_iload_n hx hb (kdr dgX0_depth_0 4 5 rfl rfl) rfl (lv_at hl 1 rfl) ?_
        have h := Option.some.inj h
        subst h
        exact kret_i (v := x1) hx hb hr rfl hlocks hS hP (kdr dgX0_depth_0 4 6 rfl rfl)
      · have h := g_f c1 h
        refine lv_iconst (v := 0) hx hb (kdr dgX0_depth_0 0 8 rfl rfl) (by decide) ?_
        refine lv_istore_n (lv' := (kvI 3 0 (kvA 0 h0 (kvI 1 x1 (kvI 2 x2 kvE))))) hx hb (kdr dgX0_depth_0 0 9 rfl rfl) rfl hl (by decide) rfl (fun ls hl => ?_)
        refine lv_iconst (v := 0) hx hb (kdr dgX0_depth_0 1 0 rfl rfl) (by decide) ?_
        refine lv_istore (lv' := (kvI 4 0 (kvI 3 0 (kvA 0 h0 (kvI 1 x1 (kvI 2 x2 kvE)))))) hx hb (kdr dgX0_depth_0 1 1 rfl rfl) hl (by decide) rfl (fun ls hl => ?_)
        exact J17 (f_X0_depth_4 n) ih 24 rb re ro rc x1 x2 0 0 _ _ hP hD hS ls (lv_sub hl [2, 3, 4, 1, 0] rfl) h
  have h := f_X0_depth_e.symm.trans hf
  refine lv_iconst (v := 0) hx hb (kdr dgX0_depth_0 0 0 rfl rfl) (by decide) ?_
  refine lv_istore_n (lv' := (kvI 1 0 (kvA 0 h0 kvE))) hx hb (kdr dgX0_depth_0 0 1 rfl rfl) rfl hl (by decide) rfl (fun ls hl => ?_)
  refine lv_iconst (v := 0) hx hb (kdr dgX0_depth_0 0 2 rfl rfl) (by decide) ?_
  refine lv_istore_n (lv' := (kvI 2 0 (kvI 1 0 (kvA 0 h0 kvE)))) hx hb (kdr dgX0_depth_0 0 3 rfl rfl) rfl hl (by decide) rfl (fun ls hl => ?_)
  exact J4 24 rb re ro rc 0 0 _ _ hP hD hS ls (lv_sub hl [2, 1, 0] rfl) h
