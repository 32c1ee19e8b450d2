-- 07.row.lean.txt
section
noncomputable abbrev wsX0_count : List Cond := kWs yX0_count cX0_count 1 (some .int)
noncomputable def f_X0_count (rc : Int32) : Option (Int32) :=
  some rc
theorem f_X0_count_e {rc : Int32} : f_X0_count rc = 
  some rc := rfl
set_option maxHeartbeats 4000000 in
set_option maxRecDepth 100000 in
theorem c_X0_count (l : Launch) (dC : Nat → ClassId) (dI : Nat → Nat → Nat) (cB cI cJ cZ : ClassId) (h0 : Nat) (h1 : Nat) (h2 : Nat) (h3 : Nat) (sz : Nat) (rb : Nat → Int64) (re : Nat → Int64) (ro : Nat → Int32) (rc : Int32) (res : Int32) (hf : f_X0_count rc = some res) : kMi l yX0_count wsX0_count (kRm 0 0 0 0) dC dI cB cI cJ cZ [.ref h0] sz (wRow cJ cZ h0 h1 h2 h3 rb re ro rc) .int (res) (wRow cJ cZ h0 h1 h2 h3 rb re ro rc) 0 0 := by
  refine kmet_i (y := yX0_count) (cc := cX0_count) (maxL := 1) (ret := (some .int)) RX0 (kvA 0 h0 kvE) kpl_X0 rfl rfl (Nat.le_of_ble_eq_true rfl) rfl (fun p e s m below meth c A ls hx hb hr hml hts hown hlocks hP hK hG hD hA hS hl => ?_)
  have hw0 := hts (.fieldLink RX0 22 "Spanbooker$Row" "count" "I") (List.mem_cons_of_mem _ kw_95)
  have hiX0 : ∀ w ∈ u_ws RX0 TX0 4, w ∈ wsX0_count := fun w h => List.mem_cons_of_mem _ (ku_X0 w h)
  have h := f_X0_count_e.symm.trans hf
  refine lv_aload_n hx hb (kdr dgX0_count_0 0 0 rfl rfl) rfl (lv_at hl 0 rfl) ?_
  refine va_get (D := (dC, dI)) (ci := 2) (v := .int rc) (C := RX0) (T := TX0) (N := 4) hx hb hts hiX0 hown hK hP 0 rfl rfl 3 (by decide) hw0 (fun _ h9 => h9) rfl (kdr dgX0_count_0 0 1 rfl rfl) ?_
  have h := Option.some.inj h
  subst h
  exact kret_i (v := rc) hx hb hr rfl hlocks hS hP (kdr dgX0_count_0 0 2 rfl rfl)
noncomputable abbrev wsX0_isIn : List Cond := kWs yX0_isIn cX0_isIn 2 (some .boolean)
noncomputable def f_X0_isIn (rc : Int32) (p0 : Int32) : Option (Int32) :=
  if p0 < 0 then
    some 0
  else
    if rc ≤ p0 then
      some 0
    else
      some 1
theorem f_X0_isIn_e {rc : Int32} {p0 : Int32} : f_X0_isIn rc p0 = 
  if p0 < 0 then
    some 0
  else
    if rc ≤ p0 then
      some 0
    else
      some 1 := rfl
set_option maxHeartbeats 4000000 in
set_option maxRecDepth 100000 in
theorem c_X0_isIn (l : Launch) (dC : Nat → ClassId) (dI : Nat → Nat → Nat) (cB cI cJ cZ : ClassId) (h0 : Nat) (h1 : Nat) (h2 : Nat) (h3 : Nat) (sz : Nat) (rb : Nat → Int64) (re : Nat → Int64) (ro : Nat → Int32) (rc : Int32) (p0 : Int32) (res : Int32) (hf : f_X0_isIn rc p0 = some res) : kMi l yX0_isIn wsX0_isIn (kRm 0 0 0 0) dC dI cB cI cJ cZ [.ref h0, .int p0] sz (wRow cJ cZ h0 h1 h2 h3 rb re ro rc) .boolean (res) (wRow cJ cZ h0 h1 h2 h3 rb re ro rc) 0 0 := by
  refine kmet_i (y := yX0_isIn) (cc := cX0_isIn) (maxL := 2) (ret := (some .boolean)) RX0 (kvA 0 h0 (kvI 1 p0 kvE)) kpl_X0 rfl rfl (Nat.le_of_ble_eq_true rfl) rfl (fun p e s m below meth c A ls hx hb hr hml hts hown hlocks hP hK hG hD hA hS hl => ?_)
  have hw0 := hts (.fieldLink RX0 22 "Spanbooker$Row" "count" "I") (List.mem_cons_of_mem _ kw_95)
  have hiX0 : ∀ w ∈ u_ws RX0 TX0 4, w ∈ wsX0_isIn := fun w h => List.mem_cons_of_mem _ (ku_X0 w h)
  have h := f_X0_isIn_e.symm.trans hf
  refine lv_iload_n hx hb (kdr dgX0_isIn_0 0 0 rfl rfl) rfl (lv_at hl 1 rfl) ?_
  refine lv_if_lt (tgt := 16) hx hb (kdr dgX0_isIn_0 0 1 rfl rfl) (by decide) (fun c1 => ?_) (fun c1 => ?_)
  · have h := g_t c1 h
    refine lv_iconst (v := 0) hx hb (kdr dgX0_isIn_0 0 8 rfl rfl) (by decide) ?_
    have h := Option.some.inj h
    subst h
    exact kret_i (v := 0) hx hb hr rfl hlocks hS hP (kdr dgX0_isIn_0 0 9 rfl rfl)
  · have h := g_f c1 h
    refine lv_iload_n hx hb (kdr dgX0_isIn_0 0 2 rfl rfl) rfl (lv_at hl 1 rfl) ?_
    refine lv_aload_n hx hb (kdr dgX0_isIn_0 0 3 rfl rfl) rfl (lv_at hl 0 rfl) ?_
    refine va_get (D := (dC, dI)) (ci := 2) (v := .int rc) (C := RX0) (T := TX0) (N := 4) hx hb hts hiX0 hown hK hP 0 rfl rfl 3 (by decide) hw0 (fun _ h9 => h9) rfl (kdr dgX0_isIn_0 0 4 rfl rfl) ?_
    refine lv_icmp_ge (tgt := 16) hx hb (kdr dgX0_isIn_0 0 5 rfl rfl) (by decide) (fun c2 => ?_) (fun c2 => ?_)
    · have h := g_t c2 h
      refine lv_iconst (v := 0) hx hb (kdr dgX0_isIn_0 0 8 rfl rfl) (by decide) ?_
      have h := Option.some.inj h
      subst h
      exact kret_i (v := 0) hx hb hr rfl hlocks hS hP (kdr dgX0_isIn_0 0 9 rfl rfl)
    · have h := g_f c2 h
      refine lv_iconst (v := 1) hx hb (kdr dgX0_isIn_0 0 6 rfl rfl) (by decide) ?_
      refine lv_goto (tgt := 17) hx hb (kdr dgX0_isIn_0 0 7 rfl rfl) (by decide) ?_
      have h := Option.some.inj h
      subst h
      exact kret_i (v := 1) hx hb hr rfl hlocks hS hP (kdr dgX0_isIn_0 0 9 rfl rfl)
noncomputable abbrev wsX0_begin : List Cond := kWs yX0_begin cX0_begin 2 (some .long)
noncomputable def f_X0_begin (rb : Nat → Int64) (rc : Int32) (p0 : Int32) : Option (Int64) :=
  (f_X0_isIn rc p0).bind fun r1 =>
  if r1 = 0 then
    some 0
  else
    if ix p0 11 then
      some (rb p0.toNatClampNeg)
    else none
theorem f_X0_begin_e {rb : Nat → Int64} {rc : Int32} {p0 : Int32} : f_X0_begin rb rc p0 = 
  (f_X0_isIn rc p0).bind fun r1 =>
  if r1 = 0 then
    some 0
  else
    if ix p0 11 then
      some (rb p0.toNatClampNeg)
    else none := rfl
set_option maxHeartbeats 4000000 in
set_option maxRecDepth 100000 in
theorem c_X0_begin (l : Launch) (dC : Nat → ClassId) (dI : Nat → Nat → Nat) (cB cI cJ cZ : ClassId) (h0 : Nat) (h1 : Nat) (h2 : Nat) (h3 : Nat) (sz : Nat) (rb : Nat → Int64) (re : Nat → Int64) (ro : Nat → Int32) (rc : Int32) (p0 : Int32) (res : Int64) (hf : f_X0_begin rb rc p0 = some res) : kMl l yX0_begin wsX0_begin (kRm 1 0 0 21) dC dI cB cI cJ cZ [.ref h0, .int p0] sz (wRow cJ cZ h0 h1 h2 h3 rb re ro rc) (res) (wRow cJ cZ h0 h1 h2 h3 rb re ro rc) 0 0 := by
  refine kmet_l (y := yX0_begin) (cc := cX0_begin) (maxL := 2) (ret := (some .long)) RX0 (kvA 0 h0 (kvI 1 p0 kvE)) kpl_X0 rfl rfl (Nat.le_of_ble_eq_true rfl) rfl (fun p e s m below meth c A ls hx hb hr hml hts hown hlocks hP hK hG hD hA hS hl => ?_)
  have hw0 := hts (.fieldLink RX0 9 "Spanbooker$Row" "begins" "[J") (List.mem_cons_of_mem _ kw_92)
  have hiX0 : ∀ w ∈ u_ws RX0 TX0 4, w ∈ wsX0_begin := fun w h => List.mem_cons_of_mem _ (ku_X0 w h)
  have h := f_X0_begin_e.symm.trans hf
  refine lv_aload_n hx hb (kdr dgX0_begin_0 0 0 rfl rfl) rfl (lv_at hl 0 rfl) ?_
  refine lv_iload_n hx hb (kdr dgX0_begin_0 0 1 rfl rfl) rfl (lv_at hl 1 rfl) ?_
  obtain ⟨r1, g1, h⟩ := g_b h
  refine kq_i (wRow cJ cZ h0 h1 h2 h3 rb re ro rc) (fun qP qD qF => va_runV (As := [.int p0]) (rest := []) ⟨hx, hb, hml, hown, hts⟩ (c_X0_isIn l dC dI cB cI cJ cZ h0 h1 h2 h3 _ rb re ro rc p0 r1 g1) (kcwV hts kw_198 kv_X0_isIn rfl rfl ⟨(Nat.le_of_ble_eq_true rfl), (Nat.le_of_ble_eq_true rfl)⟩) (kpV (A := A) qP hK qD hG (krecv_2 (q0 := 0) hK hP rfl)) rfl rfl hl.1 rfl (lv_room (Nat.le_of_ble_eq_true rfl)) (kdr dgX0_begin_0 0 2 rfl rfl) ⟨(Nat.le_of_ble_eq_true rfl), (Nat.le_of_ble_eq_true rfl)⟩) hP hD hS hA kFr_Row (fun H locs hP hD hS br1 => ?_)
  refine lv_if_eq (tgt := 17) hx hb (kdr dgX0_begin_0 0 3 rfl rfl) (by decide) (fun c2 => ?_) (fun c2 => ?_)
  · have h := g_t c2 h
    refine lv_lconst (v := 0) hx hb (kdr dgX0_begin_0 0 9 rfl rfl) (by decide) ?_
    have h := Option.some.inj h
    subst h
    exact kret_l (v := 0) hx hb hr hlocks hS hP (kdr dgX0_begin_0 1 0 rfl rfl)
  · have h := g_f c2 h
    refine lv_aload_n hx hb (kdr dgX0_begin_0 0 4 rfl rfl) rfl (lv_at hl 0 rfl) ?_
    refine va_get (D := (dC, dI)) (ci := 2) (v := .ref h1) (C := RX0) (T := TX0) (N := 4) hx hb hts hiX0 hown hK hP 0 rfl rfl 0 (by decide) hw0 (fun _ h9 => h9) rfl (kdr dgX0_begin_0 0 5 rfl rfl) ?_
    refine lv_iload_n hx hb (kdr dgX0_begin_0 0 6 rfl rfl) rfl (lv_at hl 1 rfl) ?_
    obtain ⟨z2, h⟩ := g_if h
    refine va_lald hx hb hK hP 1 2 rfl rfl (ix_in z2) (kdr dgX0_begin_0 0 7 rfl rfl) ?_
    refine lv_goto (tgt := 18) hx hb (kdr dgX0_begin_0 0 8 rfl rfl) (by decide) ?_
    have h := Option.some.inj h
    subst h
    exact kret_l (v := rb p0.toNatClampNeg) hx hb hr hlocks hS hP (kdr dgX0_begin_0 1 0 rfl rfl)
noncomputable abbrev wsX0_end : List Cond := kWs yX0_end cX0_end 2 (some .long)
noncomputable def f_X0_end (re : Nat → Int64) (rc : Int32) (p0 : Int32) : Option (Int64) :=
  (f_X0_isIn rc p0).bind fun r1 =>
  if r1 = 0 then
    some 0
  else
    if ix p0 11 then
      some (re p0.toNatClampNeg)
    else none
theorem f_X0_end_e {re : Nat → Int64} {rc : Int32} {p0 : Int32} : f_X0_end re rc p0 = 
  (f_X0_isIn rc p0).bind fun r1 =>
  if r1 = 0 then
    some 0
  else
    if ix p0 11 then
      some (re p0.toNatClampNeg)
    else none := rfl
set_option maxHeartbeats 4000000 in
set_option maxRecDepth 100000 in
theorem c_X0_end (l : Launch) (dC : Nat → ClassId) (dI : Nat → Nat → Nat) (cB cI cJ cZ : ClassId) (h0 : Nat) (h1 : Nat) (h2 : Nat) (h3 : Nat) (sz : Nat) (rb : Nat → Int64) (re : Nat → Int64) (ro : Nat → Int32) (rc : Int32) (p0 : Int32) (res : Int64) (hf : f_X0_end re rc p0 = some res) : kMl l yX0_end wsX0_end (kRm 1 0 0 21) dC dI cB cI cJ cZ [.ref h0, .int p0] sz (wRow cJ cZ h0 h1 h2 h3 rb re ro rc) (res) (wRow cJ cZ h0 h1 h2 h3 rb re ro rc) 0 0 := by
  refine kmet_l (y := yX0_end) (cc := cX0_end) (maxL := 2) (ret := (some .long)) RX0 (kvA 0 h0 (kvI 1 p0 kvE)) kpl_X0 rfl rfl (Nat.le_of_ble_eq_true rfl) rfl (fun p e s m below meth c A ls hx hb hr hml hts hown hlocks hP hK hG hD hA hS hl => ?_)
  have hw0 := hts (.fieldLink RX0 15 "Spanbooker$Row" "ends" "[J") (List.mem_cons_of_mem _ kw_93)
  have hiX0 : ∀ w ∈ u_ws RX0 TX0 4, w ∈ wsX0_end := fun w h => List.mem_cons_of_mem _ (ku_X0 w h)
  have h := f_X0_end_e.symm.trans hf
  refine lv_aload_n hx hb (kdr dgX0_end_0 0 0 rfl rfl) rfl (lv_at hl 0 rfl) ?_
  refine lv_iload_n hx hb (kdr dgX0_end_0 0 1 rfl rfl) rfl (lv_at hl 1 rfl) ?_
  obtain ⟨r1, g1, h⟩ := g_b h
  refine kq_i (wRow cJ cZ h0 h1 h2 h3 rb re ro rc) (fun qP qD qF => va_runV (As := [.int p0]) (rest := []) ⟨hx, hb, hml, hown, hts⟩ (c_X0_isIn l dC dI cB cI cJ cZ h0 h1 h2 h3 _ rb re ro rc p0 r1 g1) (kcwV hts kw_198 kv_X0_isIn rfl rfl ⟨(Nat.le_of_ble_eq_true rfl), (Nat.le_of_ble_eq_true rfl)⟩) (kpV (A := A) qP hK qD hG (krecv_2 (q0 := 0) hK hP rfl)) rfl rfl hl.1 rfl (lv_room (Nat.le_of_ble_eq_true rfl)) (kdr dgX0_end_0 0 2 rfl rfl) ⟨(Nat.le_of_ble_eq_true rfl), (Nat.le_of_ble_eq_true rfl)⟩) hP hD hS hA kFr_Row (fun H locs hP hD hS br1 => ?_)
  refine lv_if_eq (tgt := 17) hx hb (kdr dgX0_end_0 0 3 rfl rfl) (by decide) (fun c2 => ?_) (fun c2 => ?_)
  · have h := g_t c2 h
    refine lv_lconst (v := 0) hx hb (kdr dgX0_end_0 0 9 rfl rfl) (by decide) ?_
    have h := Option.some.inj h
    subst h
    exact kret_l (v := 0) hx hb hr hlocks hS hP (kdr dgX0_end_0 1 0 rfl rfl)
  · have h := g_f c2 h
    refine lv_aload_n hx hb (kdr dgX0_end_0 0 4 rfl rfl) rfl (lv_at hl 0 rfl) ?_
    refine va_get (D := (dC, dI)) (ci := 2) (v := .ref h2) (C := RX0) (T := TX0) (N := 4) hx hb hts hiX0 hown hK hP 0 rfl rfl 1 (by decide) hw0 (fun _ h9 => h9) rfl (kdr dgX0_end_0 0 5 rfl rfl) ?_
    refine lv_iload_n hx hb (kdr dgX0_end_0 0 6 rfl rfl) rfl (lv_at hl 1 rfl) ?_
    obtain ⟨z2, h⟩ := g_if h
    refine va_lald hx hb hK hP 2 2 rfl rfl (ix_in z2) (kdr dgX0_end_0 0 7 rfl rfl) ?_
    refine lv_goto (tgt := 18) hx hb (kdr dgX0_end_0 0 8 rfl rfl) (by decide) ?_
    have h := Option.some.inj h
    subst h
    exact kret_l (v := re p0.toNatClampNeg) hx hb hr hlocks hS hP (kdr dgX0_end_0 1 0 rfl rfl)
noncomputable abbrev wsX0_isOver : List Cond := kWs yX0_isOver cX0_isOver 2 (some .boolean)
noncomputable def f_X0_isOver (ro : Nat → Int32) (rc : Int32) (p0 : Int32) : Option (Int32) :=
  (f_X0_isIn rc p0).bind fun r1 =>
  if r1 = 0 then
    some 0
  else
    if ix p0 11 then
      if (ro p0.toNatClampNeg) = 0 then
        some 0
      else
        some 1
    else none
theorem f_X0_isOver_e {ro : Nat → Int32} {rc : Int32} {p0 : Int32} : f_X0_isOver ro rc p0 = 
  (f_X0_isIn rc p0).bind fun r1 =>
  if r1 = 0 then
    some 0
  else
    if ix p0 11 then
      if (ro p0.toNatClampNeg) = 0 then
        some 0
      else
        some 1
    else none := rfl
set_option maxHeartbeats 4000000 in
set_option maxRecDepth 100000 in
theorem c_X0_isOver (l : Launch) (dC : Nat → ClassId) (dI : Nat → Nat → Nat) (cB cI cJ cZ : ClassId) (h0 : Nat) (h1 : Nat) (h2 : Nat) (h3 : Nat) (sz : Nat) (rb : Nat → Int64) (re : Nat → Int64) (ro : Nat → Int32) (rc : Int32) (p0 : Int32) (res : Int32) (hf : f_X0_isOver ro rc p0 = some res) : kMi l yX0_isOver wsX0_isOver (kRm 1 0 0 21) dC dI cB cI cJ cZ [.ref h0, .int p0] sz (wRow cJ cZ h0 h1 h2 h3 rb re ro rc) .boolean (res) (wRow cJ cZ h0 h1 h2 h3 rb re ro rc) 0 0 := by
  refine kmet_i (y := yX0_isOver) (cc := cX0_isOver) (maxL := 2) (ret := (some .boolean)) RX0 (kvA 0 h0 (kvI 1 p0 kvE)) kpl_X0 rfl rfl (Nat.le_of_ble_eq_true rfl) rfl (fun p e s m below meth c A ls hx hb hr hml hts hown hlocks hP hK hG hD hA hS hl => ?_)
  have hw0 := hts (.fieldLink RX0 18 "Spanbooker$Row" "overs" "[Z") (List.mem_cons_of_mem _ kw_94)
  have hiX0 : ∀ w ∈ u_ws RX0 TX0 4, w ∈ wsX0_isOver := fun w h => List.mem_cons_of_mem _ (ku_X0 w h)
  have h := f_X0_isOver_e.symm.trans hf
  refine lv_aload_n hx hb (kdr dgX0_isOver_0 0 0 rfl rfl) rfl (lv_at hl 0 rfl) ?_
  refine lv_iload_n hx hb (kdr dgX0_isOver_0 0 1 rfl rfl) rfl (lv_at hl 1 rfl) ?_
  obtain ⟨r1, g1, h⟩ := g_b h
  refine kq_i (wRow cJ cZ h0 h1 h2 h3 rb re ro rc) (fun qP qD qF => va_runV (As := [.int p0]) (rest := []) ⟨hx, hb, hml, hown, hts⟩ (c_X0_isIn l dC dI cB cI cJ cZ h0 h1 h2 h3 _ rb re ro rc p0 r1 g1) (kcwV hts kw_198 kv_X0_isIn rfl rfl ⟨(Nat.le_of_ble_eq_true rfl), (Nat.le_of_ble_eq_true rfl)⟩) (kpV (A := A) qP hK qD hG (krecv_2 (q0 := 0) hK hP rfl)) rfl rfl hl.1 rfl (lv_room (Nat.le_of_ble_eq_true rfl)) (kdr dgX0_isOver_0 0 2 rfl rfl) ⟨(Nat.le_of_ble_eq_true rfl), (Nat.le_of_ble_eq_true rfl)⟩) hP hD hS hA kFr_Row (fun H locs hP hD hS br1 => ?_)
  refine lv_if_eq (tgt := 21) hx hb (kdr dgX0_isOver_0 0 3 rfl rfl) (by decide) (fun c2 => ?_) (fun c2 => ?_)
  · have h := g_t c2 h
    refine lv_iconst (v := 0) hx hb (kdr dgX0_isOver_0 1 1 rfl rfl) (by decide) ?_
    have h := Option.some.inj h
    subst h
    exact kret_i (v := 0) hx hb hr rfl hlocks hS hP (kdr dgX0_isOver_0 1 2 rfl rfl)
  · have h := g_f c2 h
    refine lv_aload_n hx hb (kdr dgX0_isOver_0 0 4 rfl rfl) rfl (lv_at hl 0 rfl) ?_
    refine va_get (D := (dC, dI)) (ci := 2) (v := .ref h3) (C := RX0) (T := TX0) (N := 4) hx hb hts hiX0 hown hK hP 0 rfl rfl 2 (by decide) hw0 (fun _ h9 => h9) rfl (kdr dgX0_isOver_0 0 5 rfl rfl) ?_
    refine lv_iload_n hx hb (kdr dgX0_isOver_0 0 6 rfl rfl) rfl (lv_at hl 1 rfl) ?_
    obtain ⟨z2, h⟩ := g_if h
    refine va_zald hx hb hK hP 3 3 rfl rfl (ix_in z2) (kdr dgX0_isOver_0 0 7 rfl rfl) ?_
    refine lv_if_eq (tgt := 21) hx hb (kdr dgX0_isOver_0 0 8 rfl rfl) (by decide) (fun c4 => ?_) (fun c4 => ?_)
    · have h := g_t c4 h
      refine lv_iconst (v := 0) hx hb (kdr dgX0_isOver_0 1 1 rfl rfl) (by decide) ?_
      have h := Option.some.inj h
      subst h
      exact kret_i (v := 0) hx hb hr rfl hlocks hS hP (kdr dgX0_isOver_0 1 2 rfl rfl)
    · have h := g_f c4 h
      refine lv_iconst (v := 1) hx hb (kdr dgX0_isOver_0 0 9 rfl rfl) (by decide) ?_
      refine lv_goto (tgt := 22) hx hb (kdr dgX0_isOver_0 1 0 rfl rfl) (by decide) ?_
      have h := Option.some.inj h
      subst h
      exact kret_i (v := 1) hx hb hr rfl hlocks hS hP (kdr dgX0_isOver_0 1 2 rfl rfl)
noncomputable abbrev wsX0_clear : List Cond := kWs yX0_clear cX0_clear 2 (some .int)
noncomputable def f_X0_clear (rc : Int32) : Option ((Int32) × (Int32)) :=
  some (rc, 0)
theorem f_X0_clear_e {rc : Int32} : f_X0_clear rc = 
  some (rc, 0) := rfl
set_option maxHeartbeats 4000000 in
set_option maxRecDepth 100000 in
theorem c_X0_clear (l : Launch) (dC : Nat → ClassId) (dI : Nat → Nat → Nat) (cB cI cJ cZ : ClassId) (h0 : Nat) (h1 : Nat) (h2 : Nat) (h3 : Nat) (sz : Nat) (rb : Nat → Int64) (re : Nat → Int64) (ro : Nat → Int32) (rc : Int32) (res : (Int32) × (Int32)) (hf : f_X0_clear rc = some res) : kMi l yX0_clear wsX0_clear (kRm 0 0 0 0) dC dI cB cI cJ cZ [.ref h0] sz (wRow cJ cZ h0 h1 h2 h3 rb re ro rc) .int (res.1) (wRow cJ cZ h0 h1 h2 h3 rb re ro (res.2)) 0 0 := by
  refine kmet_i (y := yX0_clear) (cc := cX0_clear) (maxL := 2) (ret := (some .int)) RX0 (kvA 0 h0 kvE) kpl_X0 rfl rfl (Nat.le_of_ble_eq_true rfl) rfl (fun p e s m below meth c A ls hx hb hr hml hts hown hlocks hP hK hG hD hA hS hl => ?_)
  have hw0 := hts (.fieldLink RX0 22 "Spanbooker$Row" "count" "I") (List.mem_cons_of_mem _ kw_95)
  have hiX0 : ∀ w ∈ u_ws RX0 TX0 4, w ∈ wsX0_clear := fun w h => List.mem_cons_of_mem _ (ku_X0 w h)
  have h := f_X0_clear_e.symm.trans hf
  refine lv_aload_n hx hb (kdr dgX0_clear_0 0 0 rfl rfl) rfl (lv_at hl 0 rfl) ?_
  refine va_get (D := (dC, dI)) (ci := 2) (v := .int rc) (C := RX0) (T := TX0) (N := 4) hx hb hts hiX0 hown hK hP 0 rfl rfl 3 (by decide) hw0 (fun _ h9 => h9) rfl (kdr dgX0_clear_0 0 1 rfl rfl) ?_
  refine lv_istore_n (lv' := (kvI 1 rc (kvA 0 h0 kvE))) hx hb (kdr dgX0_clear_0 0 2 rfl rfl) rfl hl (by decide) rfl (fun ls hl => ?_)
  refine lv_aload_n hx hb (kdr dgX0_clear_0 0 3 rfl rfl) rfl (lv_at hl 1 rfl) ?_
  refine lv_iconst (v := 0) hx hb (kdr dgX0_clear_0 0 4 rfl rfl) (by decide) ?_
  refine va_put (D := (dC, dI)) (ci := 2) (v := .int 0) (ty := .int) (C := RX0) (T := TX0) (N := 4) hx hb hts hiX0 tyX0 tyX0_ok nmX0 hown hK hP hD hS 0 rfl rfl 3 (by decide) hw0 (fun _ h9 => h9) rfl (by decide +kernel) rfl rfl (Nat.le_of_ble_eq_true rfl) (kdr dgX0_clear_0 0 5 rfl rfl) (fun H locs hP hD hS => ?_)
  have hP : va_P (dC, dI) vwCl (wRow cJ cZ h0 h1 h2 h3 rb re ro 0) H := hP
  have hD : va_D A (wRow cJ cZ h0 h1 h2 h3 rb re ro 0) := hD
  refine lv_iload_n hx hb (kdr dgX0_clear_0 0 6 rfl rfl) rfl (lv_at hl 0 rfl) ?_
  have h := Option.some.inj h
  subst h
  exact kret_i (v := rc) hx hb hr rfl hlocks hS hP (kdr dgX0_clear_0 0 7 rfl rfl)
noncomputable abbrev wsX0_add : List Cond := kWs yX0_add cX0_add 6 (some .int)
noncomputable def f_X0_add (rb : Nat → Int64) (re : Nat → Int64) (ro : Nat → Int32) (rc : Int32) (p0 : Int64) (p1 : Int64) (p2 : Int32) : Option ((Int32) × (Nat → Int64) × (Nat → Int64) × (Nat → Int32) × (Int32)) :=
  if rc < 11 then
    if ix rc 11 then
      some ((rc + 1) - 1, vp_updL rb rc.toNatClampNeg p0, vp_updL re rc.toNatClampNeg p1, upd ro rc.toNatClampNeg (vp_nar .boolean p2), rc + 1)
    else none
  else
    some ((-1), rb, re, ro, rc)
theorem f_X0_add_e {rb : Nat → Int64} {re : Nat → Int64} {ro : Nat → Int32} {rc : Int32} {p0 : Int64} {p1 : Int64} {p2 : Int32} : f_X0_add rb re ro rc p0 p1 p2 = 
  if rc < 11 then
    if ix rc 11 then
      some ((rc + 1) - 1, vp_updL rb rc.toNatClampNeg p0, vp_updL re rc.toNatClampNeg p1, upd ro rc.toNatClampNeg (vp_nar .boolean p2), rc + 1)
    else none
  else
    some ((-1), rb, re, ro, rc) := rfl
set_option maxHeartbeats 4000000 in
set_option maxRecDepth 100000 in
theorem c_X0_add (l : Launch) (dC : Nat → ClassId) (dI : Nat → Nat → Nat) (cB cI cJ cZ : ClassId) (h0 : Nat) (h1 : Nat) (h2 : Nat) (h3 : Nat) (sz : Nat) (rb : Nat → Int64) (re : Nat → Int64) (ro : Nat → Int32) (rc : Int32) (p0 : Int64) (p1 : Int64) (p2 : Int32) (res : (Int32) × (Nat → Int64) × (Nat → Int64) × (Nat → Int32) × (Int32)) (hf : f_X0_add rb re ro rc p0 p1 p2 = some res) : kMi l yX0_add wsX0_add (kRm 0 0 0 0) dC dI cB cI cJ cZ [.ref h0, .long p0, .long p1, .int p2] sz (wRow cJ cZ h0 h1 h2 h3 rb re ro rc) .int (res.1) (wRow cJ cZ h0 h1 h2 h3 (res.2.1) (res.2.2.1) (res.2.2.2.1) (res.2.2.2.2)) 0 0 := by
  refine kmet_i (y := yX0_add) (cc := cX0_add) (maxL := 6) (ret := (some .int)) RX0 (kvA 0 h0 (kvJ 1 p0 (kvJ 3 p1 (kvI 5 p2 kvE)))) kpl_X0 rfl rfl (Nat.le_of_ble_eq_true rfl) rfl (fun p e s m below meth c A ls hx hb hr hml hts hown hlocks hP hK hG hD hA hS hl => ?_)
  have hw0 := hts (.fieldLink RX0 22 "Spanbooker$Row" "count" "I") (List.mem_cons_of_mem _ kw_95)
  have hw1 := hts (.fieldLink RX0 9 "Spanbooker$Row" "begins" "[J") (List.mem_cons_of_mem _ kw_92)
  have hw2 := hts (.fieldLink RX0 15 "Spanbooker$Row" "ends" "[J") (List.mem_cons_of_mem _ kw_93)
  have hw3 := hts (.fieldLink RX0 18 "Spanbooker$Row" "overs" "[Z") (List.mem_cons_of_mem _ kw_94)
  have hiX0 : ∀ w ∈ u_ws RX0 TX0 4, w ∈ wsX0_add := fun w h => List.mem_cons_of_mem _ (ku_X0 w h)
  have h := f_X0_add_e.symm.trans hf
  refine lv_aload_n hx hb (kdr dgX0_add_0 0 0 rfl rfl) rfl (lv_at hl 0 rfl) ?_
  refine va_get (D := (dC, dI)) (ci := 2) (v := .int rc) (C := RX0) (T := TX0) (N := 4) hx hb hts hiX0 hown hK hP 0 rfl rfl 3 (by decide) hw0 (fun _ h9 => h9) rfl (kdr dgX0_add_0 0 1 rfl rfl) ?_
  refine lv_bipush (v := 11) hx hb (kdr dgX0_add_0 0 2 rfl rfl) (by decide) ?_
  refine lv_icmp_lt (tgt := 11) hx hb (kdr dgX0_add_0 0 3 rfl rfl) (by decide) (fun c1 => ?_) (fun c1 => ?_)
  · have h := g_t c1 h
    refine lv_aload_n hx hb (kdr dgX0_add_0 0 6 rfl rfl) rfl (lv_at hl 0 rfl) ?_
    refine va_get (D := (dC, dI)) (ci := 2) (v := .ref h1) (C := RX0) (T := TX0) (N := 4) hx hb hts hiX0 hown hK hP 0 rfl rfl 0 (by decide) hw1 (fun _ h9 => h9) rfl (kdr dgX0_add_0 0 7 rfl rfl) ?_
    refine lv_aload_n hx hb (kdr dgX0_add_0 0 8 rfl rfl) rfl (lv_at hl 0 rfl) ?_
    refine va_get (D := (dC, dI)) (ci := 2) (v := .int rc) (C := RX0) (T := TX0) (N := 4) hx hb hts hiX0 hown hK hP 0 rfl rfl 3 (by decide) hw0 (fun _ h9 => h9) rfl (kdr dgX0_add_0 0 9 rfl rfl) ?_
    refine lv_lload_n hx hb (kdr dgX0_add_0 1 0 rfl rfl) rfl (lv_at hl 1 rfl) ?_
    obtain ⟨z1, h⟩ := g_if h
    refine va_last hx hb hK hP hD hS 1 2 rfl rfl (ix_in z1) (kdr dgX0_add_0 1 1 rfl rfl) (fun H locs hP hD hS => ?_)
    have hP : va_P (dC, dI) vwCl (wRow cJ cZ h0 h1 h2 h3 (vp_updL rb rc.toNatClampNeg p0) re ro rc) H := hP
    have hD : va_D A (wRow cJ cZ h0 h1 h2 h3 (vp_updL rb rc.toNatClampNeg p0) re ro rc) := hD
    refine lv_aload_n hx hb (kdr dgX0_add_0 1 2 rfl rfl) rfl (lv_at hl 0 rfl) ?_
    refine va_get (D := (dC, dI)) (ci := 2) (v := .ref h2) (C := RX0) (T := TX0) (N := 4) hx hb hts hiX0 hown hK hP 0 rfl rfl 1 (by decide) hw2 (fun _ h9 => h9) rfl (kdr dgX0_add_0 1 3 rfl rfl) ?_
    refine lv_aload_n hx hb (kdr dgX0_add_0 1 4 rfl rfl) rfl (lv_at hl 0 rfl) ?_
    refine va_get (D := (dC, dI)) (ci := 2) (v := .int rc) (C := RX0) (T := TX0) (N := 4) hx hb hts hiX0 hown hK hP 0 rfl rfl 3 (by decide) hw0 (fun _ h9 => h9) rfl (kdr dgX0_add_0 1 5 rfl rfl) ?_
    refine lv_lload_n hx hb (kdr dgX0_add_0 1 6 rfl rfl) rfl (lv_at hl 2 rfl) ?_
    refine va_last hx hb hK hP hD hS 2 2 rfl rfl (ix_in z1) (kdr dgX0_add_0 1 7 rfl rfl) (fun H locs hP hD hS => ?_)
    have hP : va_P (dC, dI) vwCl (wRow cJ cZ h0 h1 h2 h3 (vp_updL rb rc.toNatClampNeg p0) (vp_updL re rc.toNatClampNeg p1) ro rc) H := hP
    have hD : va_D A (wRow cJ cZ h0 h1 h2 h3 (vp_updL rb rc.toNatClampNeg p0) (vp_updL re rc.toNatClampNeg p1) ro rc) := hD
    refine lv_aload_n hx hb (kdr dgX0_add_0 1 8 rfl rfl) rfl (lv_at hl 0 rfl) ?_
    refine va_get (D := (dC, dI)) (ci := 2) (v := .ref h3) (C := RX0) (T := TX0) (N := 4) hx hb hts hiX0 hown hK hP 0 rfl rfl 2 (by decide) hw3 (fun _ h9 => h9) rfl (kdr dgX0_add_0 1 9 rfl rfl) ?_
    refine lv_aload_n hx hb (kdr dgX0_add_0 2 0 rfl rfl) rfl (lv_at hl 0 rfl) ?_
    refine va_get (D := (dC, dI)) (ci := 2) (v := .int rc) (C := RX0) (T := TX0) (N := 4) hx hb hts hiX0 hown hK hP 0 rfl rfl 3 (by decide) hw0 (fun _ h9 => h9) rfl (kdr dgX0_add_0 2 1 rfl rfl) ?_
    refine lv_iload hx hb (kdr dgX0_add_0 2 2 rfl rfl) (lv_at hl 3 rfl) ?_
    refine va_zast hx hb hK hP hD hS 3 3 rfl rfl (ix_in z1) (kdr dgX0_add_0 2 3 rfl rfl) (fun H locs hP hD hS => ?_)
    have hP : va_P (dC, dI) vwCl (wRow cJ cZ h0 h1 h2 h3 (vp_updL rb rc.toNatClampNeg p0) (vp_updL re rc.toNatClampNeg p1) (upd ro rc.toNatClampNeg (vp_nar .boolean p2)) rc) H := hP
    have hD : va_D A (wRow cJ cZ h0 h1 h2 h3 (vp_updL rb rc.toNatClampNeg p0) (vp_updL re rc.toNatClampNeg p1) (upd ro rc.toNatClampNeg (vp_nar .boolean p2)) rc) := hD
    refine lv_aload_n hx hb (kdr dgX0_add_0 2 4 rfl rfl) rfl (lv_at hl 0 rfl) ?_
    refine lv_dup hx hb (kdr dgX0_add_0 2 5 rfl rfl) rfl ?_
    refine va_get (D := (dC, dI)) (ci := 2) (v := .int rc) (C := RX0) (T := TX0) (N := 4) hx hb hts hiX0 hown hK hP 0 rfl rfl 3 (by decide) hw0 (fun _ h9 => h9) rfl (kdr dgX0_add_0 2 6 rfl rfl) ?_
    refine lv_iconst (v := 1) hx hb (kdr dgX0_add_0 2 7 rfl rfl) (by decide) ?_
    refine lv_iadd hx hb (kdr dgX0_add_0 2 8 rfl rfl) ?_
    refine va_put (D := (dC, dI)) (ci := 2) (v := .int (rc + 1)) (ty := .int) (C := RX0) (T := TX0) (N := 4) hx hb hts hiX0 tyX0 tyX0_ok nmX0 hown hK hP hD hS 0 rfl rfl 3 (by decide) hw0 (fun _ h9 => h9) rfl (by decide +kernel) rfl rfl (Nat.le_of_ble_eq_true rfl) (kdr dgX0_add_0 2 9 rfl rfl) (fun H locs hP hD hS => ?_)
    have hP : va_P (dC, dI) vwCl (wRow cJ cZ h0 h1 h2 h3 (vp_updL rb rc.toNatClampNeg p0) (vp_updL re rc.toNatClampNeg p1) (upd ro rc.toNatClampNeg (vp_nar .boolean p2)) (rc + 1)) H := hP
    have hD : va_D A (wRow cJ cZ h0 h1 h2 h3 (vp_updL rb rc.toNatClampNeg p0) (vp_updL re rc.toNatClampNeg p1) (upd ro rc.toNatClampNeg (vp_nar .boolean p2)) (rc + 1)) := hD
    refine lv_aload_n hx hb (kdr dgX0_add_0 3 0 rfl rfl) rfl (lv_at hl 0 rfl) ?_
    refine va_get (D := (dC, dI)) (ci := 2) (v := .int (rc + 1)) (C := RX0) (T := TX0) (N := 4) hx hb hts hiX0 hown hK hP 0 rfl rfl 3 (by decide) hw0 (fun _ h9 => h9) rfl (kdr dgX0_add_0 3 1 rfl rfl) ?_
    refine lv_iconst (v := 1) hx hb (kdr dgX0_add_0 3 2 rfl rfl) (by decide) ?_
    refine lv_isub hx hb (kdr dgX0_add_0 3 3 rfl rfl) ?_
    have h := Option.some.inj h
    subst h
    exact kret_i (v := (rc + 1) - 1) hx hb hr rfl hlocks hS hP (kdr dgX0_add_0 3 4 rfl rfl)
  · have h := g_f c1 h
    refine lv_iconst (v := (-1)) hx hb (kdr dgX0_add_0 0 4 rfl rfl) (by decide) ?_
    have h := Option.some.inj h
    subst h
    exact kret_i (v := (-1)) hx hb hr rfl hlocks hS hP (kdr dgX0_add_0 0 5 rfl rfl)
noncomputable abbrev wsX0_remove : List Cond := kWs yX0_remove cX0_remove 3 (some .int)
noncomputable def f_X0_remove_20 : Nat → (Nat → Int64) → (Nat → Int64) → (Nat → Int32) → (Int32) → (Int32) → Option ((Int32) × (Nat → Int64) × (Nat → Int64) × (Nat → Int32) × (Int32))
  | 0, _, _, _, _, _ => none
  | n + 1, rb, re, ro, rc, x2 =>
    if rc ≤ x2 then
      some (rc, rb, re, ro, rc)
    else
      if ix (x2 + 1) 11 then
        if ix x2 11 then
          f_X0_remove_20 n (vp_updL rb x2.toNatClampNeg (rb (x2 + 1).toNatClampNeg)) (vp_updL re x2.toNatClampNeg (re (x2 + 1).toNatClampNeg)) (upd ro x2.toNatClampNeg (vp_nar .boolean (ro (x2 + 1).toNatClampNeg))) rc (x2 + 1)
        else none
      else none
theorem f_X0_remove_20_0 {rb : Nat → Int64} {re : Nat → Int64} {ro : Nat → Int32} {rc : Int32} {x2 : Int32} : f_X0_remove_20 0 rb re ro rc x2 = none := rfl
theorem f_X0_remove_20_s {n : Nat} {rb : Nat → Int64} {re : Nat → Int64} {ro : Nat → Int32} {rc : Int32} {x2 : Int32} : f_X0_remove_20 (n + 1) rb re ro rc x2 =
  if rc ≤ x2 then
    some (rc, rb, re, ro, rc)
  else
    if ix (x2 + 1) 11 then
      if ix x2 11 then
        f_X0_remove_20 n (vp_updL rb x2.toNatClampNeg (rb (x2 + 1).toNatClampNeg)) (vp_updL re x2.toNatClampNeg (re (x2 + 1).toNatClampNeg)) (upd ro x2.toNatClampNeg (vp_nar .boolean (ro (x2 + 1).toNatClampNeg))) rc (x2 + 1)
      else none
    else none := rfl
noncomputable def f_X0_remove (rb : Nat → Int64) (re : Nat → Int64) (ro : Nat → Int32) (rc : Int32) (p0 : Int32) : Option ((Int32) × (Nat → Int64) × (Nat → Int64) × (Nat → Int32) × (Int32)) :=
  (f_X0_isIn rc p0).bind fun r1 =>
  if r1 = 0 then
    some (rc, rb, re, ro, rc)
  else
    f_X0_remove_20 24 rb re ro (rc - 1) p0
theorem f_X0_remove_e {rb : Nat → Int64} {re : Nat → Int64} {ro : Nat → Int32} {rc : Int32} {p0 : Int32} : f_X0_remove rb re ro rc p0 = 
  (f_X0_isIn rc p0).bind fun r1 =>
  if r1 = 0 then
    some (rc, rb, re, ro, rc)
  else
    f_X0_remove_20 24 rb re ro (rc - 1) p0 := rfl
set_option maxHeartbeats 4000000 in
set_option maxRecDepth 100000 in
theorem c_X0_remove (l : Launch) (dC : Nat → ClassId) (dI : Nat → Nat → Nat) (cB cI cJ cZ : ClassId) (h0 : Nat) (h1 : Nat) (h2 : Nat) (h3 : Nat) (sz : Nat) (rb : Nat → Int64) (re : Nat → Int64) (ro : Nat → Int32) (rc : Int32) (p0 : Int32) (res : (Int32) × (Nat → Int64) × (Nat → Int64) × (Nat → Int32) × (Int32)) (hf : f_X0_remove rb re ro rc p0 = some res) : kMi l yX0_remove wsX0_remove (kRm 1 0 0 21) dC dI cB cI cJ cZ [.ref h0, .int p0] sz (wRow cJ cZ h0 h1 h2 h3 rb re ro rc) .int (res.1) (wRow cJ cZ h0 h1 h2 h3 (res.2.1) (res.2.2.1) (res.2.2.2.1) (res.2.2.2.2)) 0 0 := by
  refine kmet_i (y := yX0_remove) (cc := cX0_remove) (maxL := 3) (ret := (some .int)) RX0 (kvA 0 h0 (kvI 1 p0 kvE)) kpl_X0 rfl rfl (Nat.le_of_ble_eq_true rfl) rfl (fun p e s m below meth c A ls hx hb hr hml hts hown hlocks hP hK hG hD hA hS hl => ?_)
  have hw0 := hts (.fieldLink RX0 22 "Spanbooker$Row" "count" "I") (List.mem_cons_of_mem _ kw_95)
  have hw1 := hts (.fieldLink RX0 9 "Spanbooker$Row" "begins" "[J") (List.mem_cons_of_mem _ kw_92)
  have hw2 := hts (.fieldLink RX0 15 "Spanbooker$Row" "ends" "[J") (List.mem_cons_of_mem _ kw_93)
  have hw3 := hts (.fieldLink RX0 18 "Spanbooker$Row" "overs" "[Z") (List.mem_cons_of_mem _ kw_94)
  have hiX0 : ∀ w ∈ u_ws RX0 TX0 4, w ∈ wsX0_remove := fun w h => List.mem_cons_of_mem _ (ku_X0 w h)
  have J20 : ∀ (n : Nat), ∀ (rb : Nat → Int64) (re : Nat → Int64) (ro : Nat → Int32) (rc : Int32) (x2 : Int32) (H : Heap) (locs : List Loc), va_P (dC, dI) vwCl (wRow cJ cZ h0 h1 h2 h3 rb re ro rc) H → va_D A (wRow cJ cZ h0 h1 h2 h3 rb re ro rc) → va_S A s.heap H locs → ∀ (ls : Array Slot), lv_has ls 3 (kvA 0 h0 (kvI 2 x2 kvE)) → f_X0_remove_20 n rb re ro rc x2 = some res → W p l e (headSpec wsX0_remove (kRm 1 0 0 21)).room s m ([.ref h0, .int p0] : List Value).toArray below meth c H locs 0 0 (MQ below (kI (dC, dI) .int (res.1) (wRow cJ cZ h0 h1 h2 h3 (res.2.1) (res.2.2.1) (res.2.2.2.1) (res.2.2.2.2)) A) ([.ref h0, .int p0] : List Value).toArray s 0 0 A) (F0 m 20 ls []) := by
    intro n
    induction n with
    | zero =>
      intro rb re ro rc x2 H locs hP hD hS ls hl h
      have h := f_X0_remove_20_0.symm.trans h
      cases h
    | succ n ih =>
      intro rb re ro rc x2 H locs hP hD hS ls hl h
      have h := f_X0_remove_20_s.symm.trans h
      refine lv_iload_n hx hb (kdr dgX0_remove_0 1 2 rfl rfl) rfl (lv_at hl 1 rfl) ?_
      refine lv_aload_n hx hb (kdr dgX0_remove_0 1 3 rfl rfl) rfl (lv_at hl 0 rfl) ?_
      refine va_get (D := (dC, dI)) (ci := 2) (v := .int rc) (C := RX0) (T := TX0) (N := 4) hx hb hts hiX0 hown hK hP 0 rfl rfl 3 (by decide) hw0 (fun _ h9 => h9) rfl (kdr dgX0_remove_0 1 4 rfl rfl) ?_
      refine lv_icmp_ge (tgt := 76) hx hb (kdr dgX0_remove_0 1 5 rfl rfl) (by decide) (fun c1 => ?_) (fun c1 => ?_)
      · have h := g_t c1 h
        refine lv_aload_n hx hb (kdr dgX0_remove_0 4 8 rfl rfl) rfl (lv_at hl 0 rfl) ?_
        refine va_get (D := (dC, dI)) (ci := 2) (v := .int rc) (C := RX0) (T := TX0) (N := 4) hx hb hts hiX0 hown hK hP 0 rfl rfl 3 (by decide) hw0 (fun _ h9 => h9) rfl (kdr dgX0_remove_0 4 9 rfl rfl) ?_
        have h := Option.some.inj h
        subst h
        exact kret_i (v := rc) hx hb hr rfl hlocks hS hP (kdr dgX0_remove_0 5 0 rfl rfl)
      · have h := g_f c1 h
        refine lv_aload_n hx hb (kdr dgX0_remove_0 1 6 rfl rfl) rfl (lv_at hl 0 rfl) ?_
        refine va_get (D := (dC, dI)) (ci := 2) (v := .ref h1) (C := RX0) (T := TX0) (N := 4) hx hb hts hiX0 hown hK hP 0 rfl rfl 0 (by decide) hw1 (fun _ h9 => h9) rfl (kdr dgX0_remove_0 1 7 rfl rfl) ?_
        refine lv_iload_n hx hb (kdr dgX0_remove_0 1 8 rfl rfl) rfl (lv_at hl 1 rfl) ?_
        refine lv_aload_n hx hb (kdr dgX0_remove_0 1 9 rfl rfl) rfl (lv_at hl 0 rfl) ?_
        refine va_get (D := (dC, dI)) (ci := 2) (v := .ref h1) (C := RX0) (T := TX0) (N := 4) hx hb hts hiX0 hown hK hP 0 rfl rfl 0 (by decide) hw1 (fun _ h9 => h9) rfl (kdr dgX0_remove_0 2 0 rfl rfl) ?_
        refine lv_iload_n hx hb (kdr dgX0_remove_0 2 1 rfl rfl) rfl (lv_at hl 1 rfl) ?_
        refine lv_iconst (v := 1) hx hb (kdr dgX0_remove_0 2 2 rfl rfl) (by decide) ?_
        refine lv_iadd hx hb (kdr dgX0_remove_0 2 3 rfl rfl) ?_
        obtain ⟨z1, h⟩ := g_if h
        refine va_lald hx hb hK hP 1 2 rfl rfl (ix_in z1) (kdr dgX0_remove_0 2 4 rfl rfl) ?_
        obtain ⟨z2, h⟩ := g_if h
        refine va_last hx hb hK hP hD hS 1 2 rfl rfl (ix_in z2) (kdr dgX0_remove_0 2 5 rfl rfl) (fun H locs hP hD hS => ?_)
        have hP : va_P (dC, dI) vwCl (wRow cJ cZ h0 h1 h2 h3 (vp_updL rb x2.toNatClampNeg (rb (x2 + 1).toNatClampNeg)) re ro rc) H := hP
        have hD : va_D A (wRow cJ cZ h0 h1 h2 h3 (vp_updL rb x2.toNatClampNeg (rb (x2 + 1).toNatClampNeg)) re ro rc) := hD
        refine lv_aload_n hx hb (kdr dgX0_remove_0 2 6 rfl rfl) rfl (lv_at hl 0 rfl) ?_
        refine va_get (D := (dC, dI)) (ci := 2) (v := .ref h2) (C := RX0) (T := TX0) (N := 4) hx hb hts hiX0 hown hK hP 0 rfl rfl 1 (by decide) hw2 (fun _ h9 => h9) rfl (kdr dgX0_remove_0 2 7 rfl rfl) ?_
        refine lv_iload_n hx hb (kdr dgX0_remove_0 2 8 rfl rfl) rfl (lv_at hl 1 rfl) ?_
        refine lv_aload_n hx hb (kdr dgX0_remove_0 2 9 rfl rfl) rfl (lv_at hl 0 rfl) ?_
        refine va_get (D := (dC, dI)) (ci := 2) (v := .ref h2) (C := RX0) (T := TX0) (N := 4) hx hb hts hiX0 hown hK hP 0 rfl rfl 1 (by decide) hw2 (fun _ h9 => h9) rfl (kdr dgX0_remove_0 3 0 rfl rfl) ?_
        refine lv_iload_n hx hb (kdr dgX0_remove_0 3 1 rfl rfl) rfl (lv_at hl 1 rfl) ?_
        refine lv_iconst (v := 1) hx hb (kdr dgX0_remove_0 3 2 rfl rfl) (by decide) ?_
        refine lv_iadd hx hb (kdr dgX0_remove_0 3 3 rfl rfl) ?_
        refine va_lald hx hb hK hP 2 2 rfl rfl (ix_in z1) (kdr dgX0_remove_0 3 4 rfl rfl) ?_
        refine va_last hx hb hK hP hD hS 2 2 rfl rfl (ix_in z2) (kdr dgX0_remove_0 3 5 rfl rfl) (fun H locs hP hD hS => ?_)
        have hP : va_P (dC, dI) vwCl (wRow cJ cZ h0 h1 h2 h3 (vp_updL rb x2.toNatClampNeg (rb (x2 + 1).toNatClampNeg)) (vp_updL re x2.toNatClampNeg (re (x2 + 1).toNatClampNeg)) ro rc) H := hP
        have hD : va_D A (wRow cJ cZ h0 h1 h2 h3 (vp_updL rb x2.toNatClampNeg (rb (x2 + 1).toNatClampNeg)) (vp_updL re x2.toNatClampNeg (re (x2 + 1).toNatClampNeg)) ro rc) := hD
        refine lv_aload_n hx hb (kdr dgX0_remove_0 3 6 rfl rfl) rfl (lv_at hl 0 rfl) ?_
        refine va_get (D := (dC, dI)) (ci := 2) (v := .ref h3) (C := RX0) (T := TX0) (N := 4) hx hb hts hiX0 hown hK hP 0 rfl rfl 2 (by decide) hw3 (fun _ h9 => h9) rfl (kdr dgX0_remove_0 3 7 rfl rfl) ?_
        refine lv_iload_n hx hb (kdr dgX0_remove_0 3 8 rfl rfl) rfl (lv_at hl 1 rfl) ?_
        refine lv_aload_n hx hb (kdr dgX0_remove_0 3 9 rfl rfl) rfl (lv_at hl 0 rfl) ?_
        refine va_get (D := (dC, dI)) (ci := 2) (v := .ref h3) (C := RX0) (T := TX0) (N := 4) hx hb hts hiX0 hown hK hP 0 rfl rfl 2 (by decide) hw3 (fun _ h9 => h9) rfl (kdr dgX0_remove_0 4 0 rfl rfl) ?_
        refine lv_iload_n hx hb (kdr dgX0_remove_0 4 1 rfl rfl) rfl (lv_at hl 1 rfl) ?_
        refine lv_iconst (v := 1) hx hb (kdr dgX0_remove_0 4 2 rfl rfl) (by decide) ?_
        refine lv_iadd hx hb (kdr dgX0_remove_0 4 3 rfl rfl) ?_
        refine va_zald hx hb hK hP 3 3 rfl rfl (ix_in z1) (kdr dgX0_remove_0 4 4 rfl rfl) ?_
        refine va_zast hx hb hK hP hD hS 3 3 rfl rfl (ix_in z2) (kdr dgX0_remove_0 4 5 rfl rfl) (fun H locs hP hD hS => ?_)
        have hP : va_P (dC, dI) vwCl (wRow cJ cZ h0 h1 h2 h3 (vp_updL rb x2.toNatClampNeg (rb (x2 + 1).toNatClampNeg)) (vp_updL re x2.toNatClampNeg (re (x2 + 1).toNatClampNeg)) (upd ro x2.toNatClampNeg (vp_nar .boolean (ro (x2 + 1).toNatClampNeg))) rc) H := hP
        have hD : va_D A (wRow cJ cZ h0 h1 h2 h3 (vp_updL rb x2.toNatClampNeg (rb (x2 + 1).toNatClampNeg)) (vp_updL re x2.toNatClampNeg (re (x2 + 1).toNatClampNeg)) (upd ro x2.toNatClampNeg (vp_nar .boolean (ro (x2 + 1).toNatClampNeg))) rc) := hD
        refine lv_iinc (v := x2 + 1) (lv' := (kvI 2 (x2 + 1) (kvA 0 h0 kvE))) hx hb (kdr dgX0_remove_0 4 6 rfl rfl) hl (k := 1) rfl rfl (by decide) rfl (fun ls hl => ?_)
        refine lv_goto (tgt := 20) hx hb (kdr dgX0_remove_0 4 7 rfl rfl) (by decide) ?_
        exact ih (vp_updL rb x2.toNatClampNeg (rb (x2 + 1).toNatClampNeg)) (vp_updL re x2.toNatClampNeg (re (x2 + 1).toNatClampNeg)) (upd ro x2.toNatClampNeg (vp_nar .boolean (ro (x2 + 1).toNatClampNeg))) rc (x2 + 1) _ _ hP hD hS ls (lv_sub hl [1, 0] rfl) h
  have h := f_X0_remove_e.symm.trans hf
  refine lv_aload_n hx hb (kdr dgX0_remove_0 0 0 rfl rfl) rfl (lv_at hl 0 rfl) ?_
  refine lv_iload_n hx hb (kdr dgX0_remove_0 0 1 rfl rfl) rfl (lv_at hl 1 rfl) ?_
  obtain ⟨r1, g1, h⟩ := g_b h
  refine kq_i (wRow cJ cZ h0 h1 h2 h3 rb re ro rc) (fun qP qD qF => va_runV (As := [.int p0]) (rest := []) ⟨hx, hb, hml, hown, hts⟩ (c_X0_isIn l dC dI cB cI cJ cZ h0 h1 h2 h3 _ rb re ro rc p0 r1 g1) (kcwV hts kw_198 kv_X0_isIn rfl rfl ⟨(Nat.le_of_ble_eq_true rfl), (Nat.le_of_ble_eq_true rfl)⟩) (kpV (A := A) qP hK qD hG (krecv_2 (q0 := 0) hK hP rfl)) rfl rfl hl.1 rfl (lv_room (Nat.le_of_ble_eq_true rfl)) (kdr dgX0_remove_0 0 2 rfl rfl) ⟨(Nat.le_of_ble_eq_true rfl), (Nat.le_of_ble_eq_true rfl)⟩) hP hD hS hA kFr_Row (fun H locs hP hD hS br1 => ?_)
  refine lv_if_eq (tgt := 76) hx hb (kdr dgX0_remove_0 0 3 rfl rfl) (by decide) (fun c2 => ?_) (fun c2 => ?_)
  · have h := g_t c2 h
    refine lv_aload_n hx hb (kdr dgX0_remove_0 4 8 rfl rfl) rfl (lv_at hl 0 rfl) ?_
    refine va_get (D := (dC, dI)) (ci := 2) (v := .int rc) (C := RX0) (T := TX0) (N := 4) hx hb hts hiX0 hown hK hP 0 rfl rfl 3 (by decide) hw0 (fun _ h9 => h9) rfl (kdr dgX0_remove_0 4 9 rfl rfl) ?_
    have h := Option.some.inj h
    subst h
    exact kret_i (v := rc) hx hb hr rfl hlocks hS hP (kdr dgX0_remove_0 5 0 rfl rfl)
  · have h := g_f c2 h
    refine lv_aload_n hx hb (kdr dgX0_remove_0 0 4 rfl rfl) rfl (lv_at hl 0 rfl) ?_
    refine lv_dup hx hb (kdr dgX0_remove_0 0 5 rfl rfl) rfl ?_
    refine va_get (D := (dC, dI)) (ci := 2) (v := .int rc) (C := RX0) (T := TX0) (N := 4) hx hb hts hiX0 hown hK hP 0 rfl rfl 3 (by decide) hw0 (fun _ h9 => h9) rfl (kdr dgX0_remove_0 0 6 rfl rfl) ?_
    refine lv_iconst (v := 1) hx hb (kdr dgX0_remove_0 0 7 rfl rfl) (by decide) ?_
    refine lv_isub hx hb (kdr dgX0_remove_0 0 8 rfl rfl) ?_
    refine va_put (D := (dC, dI)) (ci := 2) (v := .int (rc - 1)) (ty := .int) (C := RX0) (T := TX0) (N := 4) hx hb hts hiX0 tyX0 tyX0_ok nmX0 hown hK hP hD hS 0 rfl rfl 3 (by decide) hw0 (fun _ h9 => h9) rfl (by decide +kernel) rfl rfl (Nat.le_of_ble_eq_true rfl) (kdr dgX0_remove_0 0 9 rfl rfl) (fun H locs hP hD hS => ?_)
    have hP : va_P (dC, dI) vwCl (wRow cJ cZ h0 h1 h2 h3 rb re ro (rc - 1)) H := hP
    have hD : va_D A (wRow cJ cZ h0 h1 h2 h3 rb re ro (rc - 1)) := hD
    refine lv_iload_n hx hb (kdr dgX0_remove_0 1 0 rfl rfl) rfl (lv_at hl 1 rfl) ?_
    refine lv_istore_n (lv' := (kvI 2 p0 (kvA 0 h0 (kvI 1 p0 kvE)))) hx hb (kdr dgX0_remove_0 1 1 rfl rfl) rfl hl (by decide) rfl (fun ls hl => ?_)
    exact J20 24 rb re ro (rc - 1) p0 _ _ hP hD hS ls (lv_sub hl [1, 0] rfl) h
noncomputable abbrev wsX0_put : List Cond := kWs yX0_put cX0_put 6 none
noncomputable def f_X0_put (rb : Nat → Int64) (re : Nat → Int64) (rc : Int32) (p0 : Int32) (p1 : Int64) (p2 : Int64) : Option ((Nat → Int64) × (Nat → Int64)) :=
  (f_X0_isIn rc p0).bind fun r1 =>
  if r1 = 0 then
    some (rb, re)
  else
    if ix p0 11 then
      some (vp_updL rb p0.toNatClampNeg p1, vp_updL re p0.toNatClampNeg p2)
    else none
theorem f_X0_put_e {rb : Nat → Int64} {re : Nat → Int64} {rc : Int32} {p0 : Int32} {p1 : Int64} {p2 : Int64} : f_X0_put rb re rc p0 p1 p2 = 
  (f_X0_isIn rc p0).bind fun r1 =>
  if r1 = 0 then
    some (rb, re)
  else
    if ix p0 11 then
      some (vp_updL rb p0.toNatClampNeg p1, vp_updL re p0.toNatClampNeg p2)
    else none := rfl
set_option maxHeartbeats 4000000 in
set_option maxRecDepth 100000 in
theorem c_X0_put (l : Launch) (dC : Nat → ClassId) (dI : Nat → Nat → Nat) (cB cI cJ cZ : ClassId) (h0 : Nat) (h1 : Nat) (h2 : Nat) (h3 : Nat) (sz : Nat) (rb : Nat → Int64) (re : Nat → Int64) (ro : Nat → Int32) (rc : Int32) (p0 : Int32) (p1 : Int64) (p2 : Int64) (res : (Nat → Int64) × (Nat → Int64)) (hf : f_X0_put rb re rc p0 p1 p2 = some res) : kMv l yX0_put wsX0_put (kRm 1 0 0 21) dC dI cB cI cJ cZ [.ref h0, .int p0, .long p1, .long p2] sz (wRow cJ cZ h0 h1 h2 h3 rb re ro rc) (wRow cJ cZ h0 h1 h2 h3 (res.1) (res.2) ro rc) 0 0 := by
  refine kmet_v (y := yX0_put) (cc := cX0_put) (maxL := 6) (ret := none) RX0 (kvA 0 h0 (kvI 1 p0 (kvJ 2 p1 (kvJ 4 p2 kvE)))) kpl_X0 rfl rfl (Nat.le_of_ble_eq_true rfl) rfl (fun p e s m below meth c A ls hx hb hr hml hts hown hlocks hP hK hG hD hA hS hl => ?_)
  have hw0 := hts (.fieldLink RX0 9 "Spanbooker$Row" "begins" "[J") (List.mem_cons_of_mem _ kw_92)
  have hw1 := hts (.fieldLink RX0 15 "Spanbooker$Row" "ends" "[J") (List.mem_cons_of_mem _ kw_93)
  have hiX0 : ∀ w ∈ u_ws RX0 TX0 4, w ∈ wsX0_put := fun w h => List.mem_cons_of_mem _ (ku_X0 w h)
  have h := f_X0_put_e.symm.trans hf
  refine lv_aload_n hx hb (kdr dgX0_put_0 0 0 rfl rfl) rfl (lv_at hl 0 rfl) ?_
  refine lv_iload_n hx hb (kdr dgX0_put_0 0 1 rfl rfl) rfl (lv_at hl 1 rfl) ?_
  obtain ⟨r1, g1, h⟩ := g_b h
  refine kq_i (wRow cJ cZ h0 h1 h2 h3 rb re ro rc) (fun qP qD qF => va_runV (As := [.int p0]) (rest := []) ⟨hx, hb, hml, hown, hts⟩ (c_X0_isIn l dC dI cB cI cJ cZ h0 h1 h2 h3 _ rb re ro rc p0 r1 g1) (kcwV hts kw_198 kv_X0_isIn rfl rfl ⟨(Nat.le_of_ble_eq_true rfl), (Nat.le_of_ble_eq_true rfl)⟩) (kpV (A := A) qP hK qD hG (krecv_2 (q0 := 0) hK hP rfl)) rfl rfl hl.1 rfl (lv_room (Nat.le_of_ble_eq_true rfl)) (kdr dgX0_put_0 0 2 rfl rfl) ⟨(Nat.le_of_ble_eq_true rfl), (Nat.le_of_ble_eq_true rfl)⟩) hP hD hS hA kFr_Row (fun H locs hP hD hS br1 => ?_)
  refine lv_if_eq (tgt := 23) hx hb (kdr dgX0_put_0 0 3 rfl rfl) (by decide) (fun c2 => ?_) (fun c2 => ?_)
  · have h := g_t c2 h
    have h := Option.some.inj h
    subst h
    exact kret_v hx hb hr hlocks hS hP (kdr dgX0_put_0 1 4 rfl rfl)
  · have h := g_f c2 h
    refine lv_aload_n hx hb (kdr dgX0_put_0 0 4 rfl rfl) rfl (lv_at hl 0 rfl) ?_
    refine va_get (D := (dC, dI)) (ci := 2) (v := .ref h1) (C := RX0) (T := TX0) (N := 4) hx hb hts hiX0 hown hK hP 0 rfl rfl 0 (by decide) hw0 (fun _ h9 => h9) rfl (kdr dgX0_put_0 0 5 rfl rfl) ?_
    refine lv_iload_n hx hb (kdr dgX0_put_0 0 6 rfl rfl) rfl (lv_at hl 1 rfl) ?_
    refine lv_lload_n hx hb (kdr dgX0_put_0 0 7 rfl rfl) rfl (lv_at hl 2 rfl) ?_
    obtain ⟨z2, h⟩ := g_if h
    refine va_last hx hb hK hP hD hS 1 2 rfl rfl (ix_in z2) (kdr dgX0_put_0 0 8 rfl rfl) (fun H locs hP hD hS => ?_)
    have hP : va_P (dC, dI) vwCl (wRow cJ cZ h0 h1 h2 h3 (vp_updL rb p0.toNatClampNeg p1) re ro rc) H := hP
    have hD : va_D A (wRow cJ cZ h0 h1 h2 h3 (vp_updL rb p0.toNatClampNeg p1) re ro rc) := hD
    refine lv_aload_n hx hb (kdr dgX0_put_0 0 9 rfl rfl) rfl (lv_at hl 0 rfl) ?_
    refine va_get (D := (dC, dI)) (ci := 2) (v := .ref h2) (C := RX0) (T := TX0) (N := 4) hx hb hts hiX0 hown hK hP 0 rfl rfl 1 (by decide) hw1 (fun _ h9 => h9) rfl (kdr dgX0_put_0 1 0 rfl rfl) ?_
    refine lv_iload_n hx hb (kdr dgX0_put_0 1 1 rfl rfl) rfl (lv_at hl 1 rfl) ?_
    refine lv_lload hx hb (kdr dgX0_put_0 1 2 rfl rfl) (lv_at hl 3 rfl) ?_
    refine va_last hx hb hK hP hD hS 2 2 rfl rfl (ix_in z2) (kdr dgX0_put_0 1 3 rfl rfl) (fun H locs hP hD hS => ?_)
    have hP : va_P (dC, dI) vwCl (wRow cJ cZ h0 h1 h2 h3 (vp_updL rb p0.toNatClampNeg p1) (vp_updL re p0.toNatClampNeg p2) ro rc) H := hP
    have hD : va_D A (wRow cJ cZ h0 h1 h2 h3 (vp_updL rb p0.toNatClampNeg p1) (vp_updL re p0.toNatClampNeg p2) ro rc) := hD
    have h := Option.some.inj h
    subst h
    exact kret_v hx hb hr hlocks hS hP (kdr dgX0_put_0 1 4 rfl rfl)
noncomputable abbrev wsX1_isLet : List Cond := kWs yX1_isLet cX1_isLet 2 (some .boolean)
noncomputable def f_X1_isLet (p0 : Int64) : Option (Int32) :=
  if p0 < (-1000000000000000000) then
    some 0
  else
    if 1000000000999999999 < p0 then
      some 0
    else
      some 1
theorem f_X1_isLet_e {p0 : Int64} : f_X1_isLet p0 = 
  if p0 < (-1000000000000000000) then
    some 0
  else
    if 1000000000999999999 < p0 then
      some 0
    else
      some 1 := rfl
set_option maxHeartbeats 4000000 in
set_option maxRecDepth 100000 in
theorem c_X1_isLet (l : Launch) (dC : Nat → ClassId) (dI : Nat → Nat → Nat) (cB cI cJ cZ : ClassId) (sz : Nat) (p0 : Int64) (res : Int32) (hf : f_X1_isLet p0 = some res) : kMi l yX1_isLet wsX1_isLet (kRm 0 0 0 0) dC dI cB cI cJ cZ [.long p0] sz [] .boolean (res) [] 0 0 := by
  refine kmet_i (y := yX1_isLet) (cc := cX1_isLet) (maxL := 2) (ret := (some .boolean)) RX1 (kvJ 0 p0 kvE) kpl_X1 rfl rfl (Nat.le_of_ble_eq_true rfl) rfl (fun p e s m below meth c A ls hx hb hr hml hts hown hlocks hP hK hG hD hA hS hl => ?_)
  have hw0 := hts (.constantLong RX1 280 (-1000000000000000000)) (List.mem_cons_of_mem _ kw_499)
  have hw1 := hts (.constantLong RX1 282 (1000000000999999999)) (List.mem_cons_of_mem _ kw_500)
  have h := f_X1_isLet_e.symm.trans hf
  refine lv_lload_n hx hb (kdr dgX1_isLet_0 0 0 rfl rfl) rfl (lv_at hl 0 rfl) ?_
  refine lv_ldc2 (v := (-1000000000000000000)) hx hb hown hw0 (kdr dgX1_isLet_0 0 1 rfl rfl) ?_
  refine kl_lt (pc := 4) (tgt := 20) hx hb (kdr dgX1_isLet_0 0 2 rfl rfl) (kdr dgX1_isLet_0 0 3 rfl rfl) (by decide) (fun c1 => ?_) (fun c1 => ?_)
  · have h := g_t c1 h
    refine lv_iconst (v := 0) hx hb (kdr dgX1_isLet_0 1 0 rfl rfl) (by decide) ?_
    have h := Option.some.inj h
    subst h
    exact kret_i (v := 0) hx hb hr rfl hlocks hS hP (kdr dgX1_isLet_0 1 1 rfl rfl)
  · have h := g_f c1 h
    refine lv_lload_n hx hb (kdr dgX1_isLet_0 0 4 rfl rfl) rfl (lv_at hl 0 rfl) ?_
    refine lv_ldc2 (v := (1000000000999999999)) hx hb hown hw1 (kdr dgX1_isLet_0 0 5 rfl rfl) ?_
    refine kl_gt (pc := 12) (tgt := 20) hx hb (kdr dgX1_isLet_0 0 6 rfl rfl) (kdr dgX1_isLet_0 0 7 rfl rfl) (by decide) (fun c2 => ?_) (fun c2 => ?_)
    · have h := g_t c2 h
      refine lv_iconst (v := 0) hx hb (kdr dgX1_isLet_0 1 0 rfl rfl) (by decide) ?_
      have h := Option.some.inj h
      subst h
      exact kret_i (v := 0) hx hb hr rfl hlocks hS hP (kdr dgX1_isLet_0 1 1 rfl rfl)
    · have h := g_f c2 h
      refine lv_iconst (v := 1) hx hb (kdr dgX1_isLet_0 0 8 rfl rfl) (by decide) ?_
      refine lv_goto (tgt := 21) hx hb (kdr dgX1_isLet_0 0 9 rfl rfl) (by decide) ?_
      have h := Option.some.inj h
      subst h
      exact kret_i (v := 1) hx hb hr rfl hlocks hS hP (kdr dgX1_isLet_0 1 1 rfl rfl)
noncomputable abbrev wsX0_isLetAfter : List Cond := kWs yX0_isLetAfter cX0_isLetAfter 4 (some .boolean)
noncomputable def f_X0_isLetAfter_2 : Nat → (Nat → Int64) → (Nat → Int64) → (Int32) → (Int64) → (Int32) → Option (Int32)
  | 0, _, _, _, _, _ => none
  | n + 1, rb, re, rc, x1, x3 =>
    if rc ≤ x3 then
      some 1
    else
      if ix x3 11 then
        (f_X1_isLet ((rb x3.toNatClampNeg) + x1)).bind fun r3 =>
        if r3 = 0 then
          some 0
        else
          (f_X1_isLet ((re x3.toNatClampNeg) + x1)).bind fun r5 =>
          if r5 = 0 then
            some 0
          else
            f_X0_isLetAfter_2 n rb re rc x1 (x3 + 1)
      else none
theorem f_X0_isLetAfter_2_0 {rb : Nat → Int64} {re : Nat → Int64} {rc : Int32} {x1 : Int64} {x3 : Int32} : f_X0_isLetAfter_2 0 rb re rc x1 x3 = none := rfl
theorem f_X0_isLetAfter_2_s {n : Nat} {rb : Nat → Int64} {re : Nat → Int64} {rc : Int32} {x1 : Int64} {x3 : Int32} : f_X0_isLetAfter_2 (n + 1) rb re rc x1 x3 =
  if rc ≤ x3 then
    some 1
  else
    if ix x3 11 then
      (f_X1_isLet ((rb x3.toNatClampNeg) + x1)).bind fun r3 =>
      if r3 = 0 then
        some 0
      else
        (f_X1_isLet ((re x3.toNatClampNeg) + x1)).bind fun r5 =>
        if r5 = 0 then
          some 0
        else
          f_X0_isLetAfter_2 n rb re rc x1 (x3 + 1)
    else none := rfl
noncomputable def f_X0_isLetAfter (rb : Nat → Int64) (re : Nat → Int64) (rc : Int32) (p0 : Int64) : Option (Int32) :=
  f_X0_isLetAfter_2 24 rb re rc p0 0
theorem f_X0_isLetAfter_e {rb : Nat → Int64} {re : Nat → Int64} {rc : Int32} {p0 : Int64} : f_X0_isLetAfter rb re rc p0 = 
  f_X0_isLetAfter_2 24 rb re rc p0 0 := rfl
set_option maxHeartbeats 4000000 in
set_option maxRecDepth 100000 in
theorem c_X0_isLetAfter (l : Launch) (dC : Nat → ClassId) (dI : Nat → Nat → Nat) (cB cI cJ cZ : ClassId) (h0 : Nat) (h1 : Nat) (h2 : Nat) (h3 : Nat) (sz : Nat) (rb : Nat → Int64) (re : Nat → Int64) (ro : Nat → Int32) (rc : Int32) (p0 : Int64) (res : Int32) (hf : f_X0_isLetAfter rb re rc p0 = some res) : kMi l yX0_isLetAfter wsX0_isLetAfter (kRm 1 0 0 21) dC dI cB cI cJ cZ [.ref h0, .long p0] sz (wRow cJ cZ h0 h1 h2 h3 rb re ro rc) .boolean (res) (wRow cJ cZ h0 h1 h2 h3 rb re ro rc) 0 0 := by
  refine kmet_i (y := yX0_isLetAfter) (cc := cX0_isLetAfter) (maxL := 4) (ret := (some .boolean)) RX0 (kvA 0 h0 (kvJ 1 p0 kvE)) kpl_X0 rfl rfl (Nat.le_of_ble_eq_true rfl) rfl (fun p e s m below meth c A ls hx hb hr hml hts hown hlocks hP hK hG hD hA hS hl => ?_)
  have hw0 := hts (.fieldLink RX0 22 "Spanbooker$Row" "count" "I") (List.mem_cons_of_mem _ kw_95)
  have hw1 := hts (.fieldLink RX0 9 "Spanbooker$Row" "begins" "[J") (List.mem_cons_of_mem _ kw_92)
  have hw2 := hts (.fieldLink RX0 15 "Spanbooker$Row" "ends" "[J") (List.mem_cons_of_mem _ kw_93)
  have hiX0 : ∀ w ∈ u_ws RX0 TX0 4, w ∈ wsX0_isLetAfter := fun w h => List.mem_cons_of_mem _ (ku_X0 w h)
  have J2 : ∀ (n : Nat), ∀ (rb : Nat → Int64) (re : Nat → Int64) (ro : Nat → Int32) (rc : Int32) (x1 : Int64) (x3 : Int32) (H : Heap) (locs : List Loc), va_P (dC, dI) vwCl (wRow cJ cZ h0 h1 h2 h3 rb re ro rc) H → va_D A (wRow cJ cZ h0 h1 h2 h3 rb re ro rc) → va_S A s.heap H locs → ∀ (ls : Array Slot), lv_has ls 4 (kvA 0 h0 (kvJ 1 x1 (kvI 3 x3 kvE))) → f_X0_isLetAfter_2 n rb re rc x1 x3 = some res → W p l e (headSpec wsX0_isLetAfter (kRm 1 0 0 21)).room s m ([.ref h0, .long p0] : List Value).toArray below meth c H locs 0 0 (MQ below (kI (dC, dI) .boolean (res) (wRow cJ cZ h0 h1 h2 h3 rb re ro rc) A) ([.ref h0, .long p0] : List Value).toArray s 0 0 A) (F0 m 2 ls []) := by
    intro n
    induction n with
    | zero =>
      intro rb re ro rc x1 x3 H locs hP hD hS ls hl h
      have h := f_X0_isLetAfter_2_0.symm.trans h
      cases h
    | succ n ih =>
      intro rb re ro rc x1 x3 H locs hP hD hS ls hl h
      have h := f_X0_isLetAfter_2_s.symm.trans h
      refine lv_iload_n hx hb (kdr dgX0_isLetAfter_0 0 2 rfl rfl) rfl (lv_at hl 2 rfl) ?_
      refine lv_aload_n hx hb (kdr dgX0_isLetAfter_0 0 3 rfl rfl) rfl (lv_at hl 0 rfl) ?_
      refine va_get (D := (dC, dI)) (ci := 2) (v := .int rc) (C := RX0) (T := TX0) (N := 4) hx hb hts hiX0 hown hK hP 0 rfl rfl 3 (by decide) hw0 (fun _ h9 => h9) rfl (kdr dgX0_isLetAfter_0 0 4 rfl rfl) ?_
      refine lv_icmp_ge (tgt := 46) hx hb (kdr dgX0_isLetAfter_0 0 5 rfl rfl) (by decide) (fun c1 => ?_) (fun c1 => ?_)
      · have h := g_t c1 h
        refine lv_iconst (v := 1) hx hb (kdr dgX0_isLetAfter_0 2 6 rfl rfl) (by decide) ?_
        have h := Option.some.inj h
        subst h
        exact kret_i (v := 1) hx hb hr rfl hlocks hS hP (kdr dgX0_isLetAfter_0 2 7 rfl rfl)
      · have h := g_f c1 h
        refine lv_aload_n hx hb (kdr dgX0_isLetAfter_0 0 6 rfl rfl) rfl (lv_at hl 0 rfl) ?_
        refine va_get (D := (dC, dI)) (ci := 2) (v := .ref h1) (C := RX0) (T := TX0) (N := 4) hx hb hts hiX0 hown hK hP 0 rfl rfl 0 (by decide) hw1 (fun _ h9 => h9) rfl (kdr dgX0_isLetAfter_0 0 7 rfl rfl) ?_
        refine lv_iload_n hx hb (kdr dgX0_isLetAfter_0 0 8 rfl rfl) rfl (lv_at hl 2 rfl) ?_
        obtain ⟨z1, h⟩ := g_if h
        refine va_lald hx hb hK hP 1 2 rfl rfl (ix_in z1) (kdr dgX0_isLetAfter_0 0 9 rfl rfl) ?_
        refine lv_lload_n hx hb (kdr dgX0_isLetAfter_0 1 0 rfl rfl) rfl (lv_at hl 1 rfl) ?_
        refine lv_ladd hx hb (kdr dgX0_isLetAfter_0 1 1 rfl rfl) ?_
        obtain ⟨r3, g3, h⟩ := g_b h
        refine kq_i (wRow cJ cZ h0 h1 h2 h3 rb re ro rc) (fun qP qD qF => va_runSN (host := RX1) (As := [.long ((rb x3.toNatClampNeg) + x1)]) (rest := []) ⟨hx, hb, hml, hown, hts⟩ (c_X1_isLet l dC dI cB cI cJ cZ  _  ((rb x3.toNatClampNeg) + x1) r3 g3) (kcwN hts (hG.at 0 rfl) kv_X1_isLet rfl rfl ⟨(Nat.le_of_ble_eq_true rfl), (Nat.le_of_ble_eq_true rfl)⟩) (kpS (A := A) (kPnil) hK ((kDnil (A := A))) hG) rfl rfl hl.1 rfl (lv_room (Nat.le_of_ble_eq_true rfl)) (kdr dgX0_isLetAfter_0 1 2 rfl rfl) ⟨(Nat.le_of_ble_eq_true rfl), (Nat.le_of_ble_eq_true rfl)⟩) hP hD hS hA kFr_n (fun H locs hP hD hS br3 => ?_)
        refine lv_if_eq (tgt := 38) hx hb (kdr dgX0_isLetAfter_0 1 3 rfl rfl) (by decide) (fun c4 => ?_) (fun c4 => ?_)
        · have h := g_t c4 h
          refine lv_iconst (v := 0) hx hb (kdr dgX0_isLetAfter_0 2 2 rfl rfl) (by decide) ?_
          have h := Option.some.inj h
          subst h
          exact kret_i (v := 0) hx hb hr rfl hlocks hS hP (kdr dgX0_isLetAfter_0 2 3 rfl rfl)
        · have h := g_f c4 h
          refine lv_aload_n hx hb (kdr dgX0_isLetAfter_0 1 4 rfl rfl) rfl (lv_at hl 0 rfl) ?_
          refine va_get (D := (dC, dI)) (ci := 2) (v := .ref h2) (C := RX0) (T := TX0) (N := 4) hx hb hts hiX0 hown hK hP 0 rfl rfl 1 (by decide) hw2 (fun _ h9 => h9) rfl (kdr dgX0_isLetAfter_0 1 5 rfl rfl) ?_
          refine lv_iload_n hx hb (kdr dgX0_isLetAfter_0 1 6 rfl rfl) rfl (lv_at hl 2 rfl) ?_
          refine va_lald hx hb hK hP 2 2 rfl rfl (ix_in z1) (kdr dgX0_isLetAfter_0 1 7 rfl rfl) ?_
          refine lv_lload_n hx hb (kdr dgX0_isLetAfter_0 1 8 rfl rfl) rfl (lv_at hl 1 rfl) ?_
          refine lv_ladd hx hb (kdr dgX0_isLetAfter_0 1 9 rfl rfl) ?_
          obtain ⟨r5, g5, h⟩ := g_b h
          refine kq_i (wRow cJ cZ h0 h1 h2 h3 rb re ro rc) (fun qP qD qF => va_runSN (host := RX1) (As := [.long ((re x3.toNatClampNeg) + x1)]) (rest := []) ⟨hx, hb, hml, hown, hts⟩ (c_X1_isLet l dC dI cB cI cJ cZ  _  ((re x3.toNatClampNeg) + x1) r5 g5) (kcwN hts (hG.at 0 rfl) kv_X1_isLet rfl rfl ⟨(Nat.le_of_ble_eq_true rfl), (Nat.le_of_ble_eq_true rfl)⟩) (kpS (A := A) (kPnil) hK ((kDnil (A := A))) hG) rfl rfl hl.1 rfl (lv_room (Nat.le_of_ble_eq_true rfl)) (kdr dgX0_isLetAfter_0 2 0 rfl rfl) ⟨(Nat.le_of_ble_eq_true rfl), (Nat.le_of_ble_eq_true rfl)⟩) hP hD hS hA kFr_n (fun H locs hP hD hS br5 => ?_)
          refine lv_if_ne (tgt := 40) hx hb (kdr dgX0_isLetAfter_0 2 1 rfl rfl) (by decide) (fun c6 => ?_) (fun c6 => ?_)
          · have h := g_f c6 h
            refine lv_iinc (v := x3 + 1) (lv' := (kvI 3 (x3 + 1) (kvA 0 h0 (kvJ 1 x1 kvE)))) hx hb (kdr dgX0_isLetAfter_0 2 4 rfl rfl) hl (k := 2) rfl rfl (by decide) rfl (fun ls hl => ?_)
            refine lv_goto (tgt := 2) hx hb (kdr dgX0_isLetAfter_0 2 5 rfl rfl) (by decide) ?_
            exact ih rb re ro rc x1 (x3 + 1) _ _ hP hD hS ls (lv_sub hl [1, 2, 0] rfl) h
          · have h := g_t c6 h
            refine lv_iconst (v := 0) hx hb (kdr dgX0_isLetAfter_0 2 2 rfl rfl) (by decide) ?_
            have h := Option.some.inj h
            subst h
            exact kret_i (v := 0) hx hb hr rfl hlocks hS hP (kdr dgX0_isLetAfter_0 2 3 rfl rfl)
  have h := f_X0_isLetAfter_e.symm.trans hf
  refine lv_iconst (v := 0) hx hb (kdr dgX0_isLetAfter_0 0 0 rfl rfl) (by decide) ?_
  refine lv_istore_n (lv' := (kvI 3 0 (kvA 0 h0 (kvJ 1 p0 kvE)))) hx hb (kdr dgX0_isLetAfter_0 0 1 rfl rfl) rfl hl (by decide) rfl (fun ls hl => ?_)
  exact J2 24 rb re ro rc p0 0 _ _ hP hD hS ls (lv_sub hl [1, 2, 0] rfl) h
noncomputable abbrev wsX0_goOn : List Cond := kWs yX0_goOn cX0_goOn 4 none
noncomputable def f_X0_goOn_2 : Nat → (Nat → Int64) → (Nat → Int64) → (Int32) → (Int64) → (Int32) → Option ((Nat → Int64) × (Nat → Int64))
  | 0, _, _, _, _, _ => none
  | n + 1, rb, re, rc, x1, x3 =>
    if rc ≤ x3 then
      some (rb, re)
    else
      if ix x3 11 then
        f_X0_goOn_2 n (vp_updL rb x3.toNatClampNeg ((rb x3.toNatClampNeg) + x1)) (vp_updL re x3.toNatClampNeg ((re x3.toNatClampNeg) + x1)) rc x1 (x3 + 1)
      else none
theorem f_X0_goOn_2_0 {rb : Nat → Int64} {re : Nat → Int64} {rc : Int32} {x1 : Int64} {x3 : Int32} : f_X0_goOn_2 0 rb re rc x1 x3 = none := rfl
theorem f_X0_goOn_2_s {n : Nat} {rb : Nat → Int64} {re : Nat → Int64} {rc : Int32} {x1 : Int64} {x3 : Int32} : f_X0_goOn_2 (n + 1) rb re rc x1 x3 =
  if rc ≤ x3 then
    some (rb, re)
  else
    if ix x3 11 then
      f_X0_goOn_2 n (vp_updL rb x3.toNatClampNeg ((rb x3.toNatClampNeg) + x1)) (vp_updL re x3.toNatClampNeg ((re x3.toNatClampNeg) + x1)) rc x1 (x3 + 1)
    else none := rfl
noncomputable def f_X0_goOn (rb : Nat → Int64) (re : Nat → Int64) (rc : Int32) (p0 : Int64) : Option ((Nat → Int64) × (Nat → Int64)) :=
  f_X0_goOn_2 24 rb re rc p0 0
theorem f_X0_goOn_e {rb : Nat → Int64} {re : Nat → Int64} {rc : Int32} {p0 : Int64} : f_X0_goOn rb re rc p0 = 
  f_X0_goOn_2 24 rb re rc p0 0 := rfl
set_option maxHeartbeats 4000000 in
set_option maxRecDepth 100000 in
theorem c_X0_goOn (l : Launch) (dC : Nat → ClassId) (dI : Nat → Nat → Nat) (cB cI cJ cZ : ClassId) (h0 : Nat) (h1 : Nat) (h2 : Nat) (h3 : Nat) (sz : Nat) (rb : Nat → Int64) (re : Nat → Int64) (ro : Nat → Int32) (rc : Int32) (p0 : Int64) (res : (Nat → Int64) × (Nat → Int64)) (hf : f_X0_goOn rb re rc p0 = some res) : kMv l yX0_goOn wsX0_goOn (kRm 0 0 0 0) dC dI cB cI cJ cZ [.ref h0, .long p0] sz (wRow cJ cZ h0 h1 h2 h3 rb re ro rc) (wRow cJ cZ h0 h1 h2 h3 (res.1) (res.2) ro rc) 0 0 := by
  refine kmet_v (y := yX0_goOn) (cc := cX0_goOn) (maxL := 4) (ret := none) RX0 (kvA 0 h0 (kvJ 1 p0 kvE)) kpl_X0 rfl rfl (Nat.le_of_ble_eq_true rfl) rfl (fun p e s m below meth c A ls hx hb hr hml hts hown hlocks hP hK hG hD hA hS hl => ?_)
  have hw0 := hts (.fieldLink RX0 22 "Spanbooker$Row" "count" "I") (List.mem_cons_of_mem _ kw_95)
  have hw1 := hts (.fieldLink RX0 9 "Spanbooker$Row" "begins" "[J") (List.mem_cons_of_mem _ kw_92)
  have hw2 := hts (.fieldLink RX0 15 "Spanbooker$Row" "ends" "[J") (List.mem_cons_of_mem _ kw_93)
  have hiX0 : ∀ w ∈ u_ws RX0 TX0 4, w ∈ wsX0_goOn := fun w h => List.mem_cons_of_mem _ (ku_X0 w h)
  have J2 : ∀ (n : Nat), ∀ (rb : Nat → Int64) (re : Nat → Int64) (ro : Nat → Int32) (rc : Int32) (x1 : Int64) (x3 : Int32) (H : Heap) (locs : List Loc), va_P (dC, dI) vwCl (wRow cJ cZ h0 h1 h2 h3 rb re ro rc) H → va_D A (wRow cJ cZ h0 h1 h2 h3 rb re ro rc) → va_S A s.heap H locs → ∀ (ls : Array Slot), lv_has ls 4 (kvA 0 h0 (kvJ 1 x1 (kvI 3 x3 kvE))) → f_X0_goOn_2 n rb re rc x1 x3 = some res → W p l e (headSpec wsX0_goOn (kRm 0 0 0 0)).room s m ([.ref h0, .long p0] : List Value).toArray below meth c H locs 0 0 (MQ below (kV (dC, dI) (wRow cJ cZ h0 h1 h2 h3 (res.1) (res.2) ro rc) A) ([.ref h0, .long p0] : List Value).toArray s 0 0 A) (F0 m 2 ls []) := by
    intro n
    induction n with
    | zero =>
      intro rb re ro rc x1 x3 H locs hP hD hS ls hl h
      have h := f_X0_goOn_2_0.symm.trans h
      cases h
    | succ n ih =>
      intro rb re ro rc x1 x3 H locs hP hD hS ls hl h
      have h := f_X0_goOn_2_s.symm.trans h
      refine lv_iload_n hx hb (kdr dgX0_goOn_0 0 2 rfl rfl) rfl (lv_at hl 2 rfl) ?_
      refine lv_aload_n hx hb (kdr dgX0_goOn_0 0 3 rfl rfl) rfl (lv_at hl 0 rfl) ?_
      refine va_get (D := (dC, dI)) (ci := 2) (v := .int rc) (C := RX0) (T := TX0) (N := 4) hx hb hts hiX0 hown hK hP 0 rfl rfl 3 (by decide) hw0 (fun _ h9 => h9) rfl (kdr dgX0_goOn_0 0 4 rfl rfl) ?_
      refine lv_icmp_ge (tgt := 36) hx hb (kdr dgX0_goOn_0 0 5 rfl rfl) (by decide) (fun c1 => ?_) (fun c1 => ?_)
      · have h := g_t c1 h
        have h := Option.some.inj h
        subst h
        exact kret_v hx hb hr hlocks hS hP (kdr dgX0_goOn_0 2 4 rfl rfl)
      · have h := g_f c1 h
        refine lv_aload_n hx hb (kdr dgX0_goOn_0 0 6 rfl rfl) rfl (lv_at hl 0 rfl) ?_
        refine va_get (D := (dC, dI)) (ci := 2) (v := .ref h1) (C := RX0) (T := TX0) (N := 4) hx hb hts hiX0 hown hK hP 0 rfl rfl 0 (by decide) hw1 (fun _ h9 => h9) rfl (kdr dgX0_goOn_0 0 7 rfl rfl) ?_
        refine lv_iload_n hx hb (kdr dgX0_goOn_0 0 8 rfl rfl) rfl (lv_at hl 2 rfl) ?_
        refine lv_dup2_11 hx hb (kdr dgX0_goOn_0 0 9 rfl rfl) rfl rfl ?_
        obtain ⟨z1, h⟩ := g_if h
        refine va_lald hx hb hK hP 1 2 rfl rfl (ix_in z1) (kdr dgX0_goOn_0 1 0 rfl rfl) ?_
        refine lv_lload_n hx hb (kdr dgX0_goOn_0 1 1 rfl rfl) rfl (lv_at hl 1 rfl) ?_
        refine lv_ladd hx hb (kdr dgX0_goOn_0 1 2 rfl rfl) ?_
        refine va_last hx hb hK hP hD hS 1 2 rfl rfl (ix_in z1) (kdr dgX0_goOn_0 1 3 rfl rfl) (fun H locs hP hD hS => ?_)
        have hP : va_P (dC, dI) vwCl (wRow cJ cZ h0 h1 h2 h3 (vp_updL rb x3.toNatClampNeg ((rb x3.toNatClampNeg) + x1)) re ro rc) H := hP
        have hD : va_D A (wRow cJ cZ h0 h1 h2 h3 (vp_updL rb x3.toNatClampNeg ((rb x3.toNatClampNeg) + x1)) re ro rc) := hD
        refine lv_aload_n hx hb (kdr dgX0_goOn_0 1 4 rfl rfl) rfl (lv_at hl 0 rfl) ?_
        refine va_get (D := (dC, dI)) (ci := 2) (v := .ref h2) (C := RX0) (T := TX0) (N := 4) hx hb hts hiX0 hown hK hP 0 rfl rfl 1 (by decide) hw2 (fun _ h9 => h9) rfl (kdr dgX0_goOn_0 1 5 rfl rfl) ?_
        refine lv_iload_n hx hb (kdr dgX0_goOn_0 1 6 rfl rfl) rfl (lv_at hl 2 rfl) ?_
        refine lv_dup2_11 hx hb (kdr dgX0_goOn_0 1 7 rfl rfl) rfl rfl ?_
        refine va_lald hx hb hK hP 2 2 rfl rfl (ix_in z1) (kdr dgX0_goOn_0 1 8 rfl rfl) ?_
        refine lv_lload_n hx hb (kdr dgX0_goOn_0 1 9 rfl rfl) rfl (lv_at hl 1 rfl) ?_
        refine lv_ladd hx hb (kdr dgX0_goOn_0 2 0 rfl rfl) ?_
        refine va_last hx hb hK hP hD hS 2 2 rfl rfl (ix_in z1) (kdr dgX0_goOn_0 2 1 rfl rfl) (fun H locs hP hD hS => ?_)
        have hP : va_P (dC, dI) vwCl (wRow cJ cZ h0 h1 h2 h3 (vp_updL rb x3.toNatClampNeg ((rb x3.toNatClampNeg) + x1)) (vp_updL re x3.toNatClampNeg ((re x3.toNatClampNeg) + x1)) ro rc) H := hP
        have hD : va_D A (wRow cJ cZ h0 h1 h2 h3 (vp_updL rb x3.toNatClampNeg ((rb x3.toNatClampNeg) + x1)) (vp_updL re x3.toNatClampNeg ((re x3.toNatClampNeg) + x1)) ro rc) := hD
        refine lv_iinc (v := x3 + 1) (lv' := (kvI 3 (x3 + 1) (kvA 0 h0 (kvJ 1 x1 kvE)))) hx hb (kdr dgX0_goOn_0 2 2 rfl rfl) hl (k := 2) rfl rfl (by decide) rfl (fun ls hl => ?_)
        refine lv_goto (tgt := 2) hx hb (kdr dgX0_goOn_0 2 3 rfl rfl) (by decide) ?_
        exact ih (vp_updL rb x3.toNatClampNeg ((rb x3.toNatClampNeg) + x1)) (vp_updL re x3.toNatClampNeg ((re x3.toNatClampNeg) + x1)) ro rc x1 (x3 + 1) _ _ hP hD hS ls (lv_sub hl [1, 2, 0] rfl) h
  have h := f_X0_goOn_e.symm.trans hf
  refine lv_iconst (v := 0) hx hb (kdr dgX0_goOn_0 0 0 rfl rfl) (by decide) ?_
  refine lv_istore_n (lv' := (kvI 3 0 (kvA 0 h0 (kvJ 1 p0 kvE)))) hx hb (kdr dgX0_goOn_0 0 1 rfl rfl) rfl hl (by decide) rfl (fun ls hl => ?_)
  exact J2 24 rb re ro rc p0 0 _ _ hP hD hS ls (lv_sub hl [1, 2, 0] rfl) h
noncomputable abbrev wsX0_doMeet : List Cond := kWs yX0_doMeet cX0_doMeet 3 (some .boolean)
noncomputable def f_X0_doMeet (rb : Nat → Int64) (re : Nat → Int64) (rc : Int32) (p0 : Int32) (p1 : Int32) : Option (Int32) :=
  if p0 < 0 then
    some 0
  else
    if rc ≤ p0 then
      some 0
    else
      if p1 < 0 then
        some 0
      else
        if p1 < rc then
          if ix p0 11 then
            if ix p1 11 then
              if (re p1.toNatClampNeg) ≤ (rb p0.toNatClampNeg) then
                some 0
              else
                if (re p0.toNatClampNeg) ≤ (rb p1.toNatClampNeg) then
                  some 0
                else
                  some 1
            else none
          else none
        else
          some 0
theorem f_X0_doMeet_e {rb : Nat → Int64} {re : Nat → Int64} {rc : Int32} {p0 : Int32} {p1 : Int32} : f_X0_doMeet rb re rc p0 p1 = 
  if p0 < 0 then
    some 0
  else
    if rc ≤ p0 then
      some 0
    else
      if p1 < 0 then
        some 0
      else
        if p1 < rc then
          if ix p0 11 then
            if ix p1 11 then
              if (re p1.toNatClampNeg) ≤ (rb p0.toNatClampNeg) then
                some 0
              else
                if (re p0.toNatClampNeg) ≤ (rb p1.toNatClampNeg) then
                  some 0
                else
                  some 1
            else none
          else none
        else
          some 0 := rfl
set_option maxHeartbeats 4000000 in
set_option maxRecDepth 100000 in
theorem c_X0_doMeet (l : Launch) (dC : Nat → ClassId) (dI : Nat → Nat → Nat) (cB cI cJ cZ : ClassId) (h0 : Nat) (h1 : Nat) (h2 : Nat) (h3 : Nat) (sz : Nat) (rb : Nat → Int64) (re : Nat → Int64) (ro : Nat → Int32) (rc : Int32) (p0 : Int32) (p1 : Int32) (res : Int32) (hf : f_X0_doMeet rb re rc p0 p1 = some res) : kMi l yX0_doMeet wsX0_doMeet (kRm 0 0 0 0) dC dI cB cI cJ cZ [.ref h0, .int p0, .int p1] sz (wRow cJ cZ h0 h1 h2 h3 rb re ro rc) .boolean (res) (wRow cJ cZ h0 h1 h2 h3 rb re ro rc) 0 0 := by
  refine kmet_i (y := yX0_doMeet) (cc := cX0_doMeet) (maxL := 3) (ret := (some .boolean)) RX0 (kvA 0 h0 (kvI 1 p0 (kvI 2 p1 kvE))) kpl_X0 rfl rfl (Nat.le_of_ble_eq_true rfl) rfl (fun p e s m below meth c A ls hx hb hr hml hts hown hlocks hP hK hG hD hA hS hl => ?_)
  have hw0 := hts (.fieldLink RX0 22 "Spanbooker$Row" "count" "I") (List.mem_cons_of_mem _ kw_95)
  have hw1 := hts (.fieldLink RX0 9 "Spanbooker$Row" "begins" "[J") (List.mem_cons_of_mem _ kw_92)
  have hw2 := hts (.fieldLink RX0 15 "Spanbooker$Row" "ends" "[J") (List.mem_cons_of_mem _ kw_93)
  have hiX0 : ∀ w ∈ u_ws RX0 TX0 4, w ∈ wsX0_doMeet := fun w h => List.mem_cons_of_mem _ (ku_X0 w h)
  have h := f_X0_doMeet_e.symm.trans hf
  refine lv_iload_n hx hb (kdr dgX0_doMeet_0 0 0 rfl rfl) rfl (lv_at hl 1 rfl) ?_
  refine lv_if_lt (tgt := 24) hx hb (kdr dgX0_doMeet_0 0 1 rfl rfl) (by decide) (fun c1 => ?_) (fun c1 => ?_)
  · have h := g_t c1 h
    refine lv_iconst (v := 0) hx hb (kdr dgX0_doMeet_0 1 2 rfl rfl) (by decide) ?_
    have h := Option.some.inj h
    subst h
    exact kret_i (v := 0) hx hb hr rfl hlocks hS hP (kdr dgX0_doMeet_0 1 3 rfl rfl)
  · have h := g_f c1 h
    refine lv_iload_n hx hb (kdr dgX0_doMeet_0 0 2 rfl rfl) rfl (lv_at hl 1 rfl) ?_
    refine lv_aload_n hx hb (kdr dgX0_doMeet_0 0 3 rfl rfl) rfl (lv_at hl 0 rfl) ?_
    refine va_get (D := (dC, dI)) (ci := 2) (v := .int rc) (C := RX0) (T := TX0) (N := 4) hx hb hts hiX0 hown hK hP 0 rfl rfl 3 (by decide) hw0 (fun _ h9 => h9) rfl (kdr dgX0_doMeet_0 0 4 rfl rfl) ?_
    refine lv_icmp_ge (tgt := 24) hx hb (kdr dgX0_doMeet_0 0 5 rfl rfl) (by decide) (fun c2 => ?_) (fun c2 => ?_)
    · have h := g_t c2 h
      refine lv_iconst (v := 0) hx hb (kdr dgX0_doMeet_0 1 2 rfl rfl) (by decide) ?_
      have h := Option.some.inj h
      subst h
      exact kret_i (v := 0) hx hb hr rfl hlocks hS hP (kdr dgX0_doMeet_0 1 3 rfl rfl)
    · have h := g_f c2 h
      refine lv_iload_n hx hb (kdr dgX0_doMeet_0 0 6 rfl rfl) rfl (lv_at hl 2 rfl) ?_
      refine lv_if_lt (tgt := 24) hx hb (kdr dgX0_doMeet_0 0 7 rfl rfl) (by decide) (fun c3 => ?_) (fun c3 => ?_)
      · have h := g_t c3 h
        refine lv_iconst (v := 0) hx hb (kdr dgX0_doMeet_0 1 2 rfl rfl) (by decide) ?_
        have h := Option.some.inj h
        subst h
        exact kret_i (v := 0) hx hb hr rfl hlocks hS hP (kdr dgX0_doMeet_0 1 3 rfl rfl)
      · have h := g_f c3 h
        refine lv_iload_n hx hb (kdr dgX0_doMeet_0 0 8 rfl rfl) rfl (lv_at hl 2 rfl) ?_
        refine lv_aload_n hx hb (kdr dgX0_doMeet_0 0 9 rfl rfl) rfl (lv_at hl 0 rfl) ?_
        refine va_get (D := (dC, dI)) (ci := 2) (v := .int rc) (C := RX0) (T := TX0) (N := 4) hx hb hts hiX0 hown hK hP 0 rfl rfl 3 (by decide) hw0 (fun _ h9 => h9) rfl (kdr dgX0_doMeet_0 1 0 rfl rfl) ?_
        refine lv_icmp_lt (tgt := 26) hx hb (kdr dgX0_doMeet_0 1 1 rfl rfl) (by decide) (fun c4 => ?_) (fun c4 => ?_)
        · have h := g_t c4 h
          refine lv_aload_n hx hb (kdr dgX0_doMeet_0 1 4 rfl rfl) rfl (lv_at hl 0 rfl) ?_
          refine va_get (D := (dC, dI)) (ci := 2) (v := .ref h1) (C := RX0) (T := TX0) (N := 4) hx hb hts hiX0 hown hK hP 0 rfl rfl 0 (by decide) hw1 (fun _ h9 => h9) rfl (kdr dgX0_doMeet_0 1 5 rfl rfl) ?_
          refine lv_iload_n hx hb (kdr dgX0_doMeet_0 1 6 rfl rfl) rfl (lv_at hl 1 rfl) ?_
          obtain ⟨z4, h⟩ := g_if h
          refine va_lald hx hb hK hP 1 2 rfl rfl (ix_in z4) (kdr dgX0_doMeet_0 1 7 rfl rfl) ?_
          refine lv_aload_n hx hb (kdr dgX0_doMeet_0 1 8 rfl rfl) rfl (lv_at hl 0 rfl) ?_
          refine va_get (D := (dC, dI)) (ci := 2) (v := .ref h2) (C := RX0) (T := TX0) (N := 4) hx hb hts hiX0 hown hK hP 0 rfl rfl 1 (by decide) hw2 (fun _ h9 => h9) rfl (kdr dgX0_doMeet_0 1 9 rfl rfl) ?_
          refine lv_iload_n hx hb (kdr dgX0_doMeet_0 2 0 rfl rfl) rfl (lv_at hl 2 rfl) ?_
          obtain ⟨z5, h⟩ := g_if h
          refine va_lald hx hb hK hP 2 2 rfl rfl (ix_in z5) (kdr dgX0_doMeet_0 2 1 rfl rfl) ?_
          refine kl_ge (pc := 38) (tgt := 62) hx hb (kdr dgX0_doMeet_0 2 2 rfl rfl) (kdr dgX0_doMeet_0 2 3 rfl rfl) (by decide) (fun c7 => ?_) (fun c7 => ?_)
          · have h := g_t c7 h
            refine lv_iconst (v := 0) hx hb (kdr dgX0_doMeet_0 3 6 rfl rfl) (by decide) ?_
            have h := Option.some.inj h
            subst h
            exact kret_i (v := 0) hx hb hr rfl hlocks hS hP (kdr dgX0_doMeet_0 3 7 rfl rfl)
          · have h := g_f c7 h
            refine lv_aload_n hx hb (kdr dgX0_doMeet_0 2 4 rfl rfl) rfl (lv_at hl 0 rfl) ?_
            refine va_get (D := (dC, dI)) (ci := 2) (v := .ref h1) (C := RX0) (T := TX0) (N := 4) hx hb hts hiX0 hown hK hP 0 rfl rfl 0 (by decide) hw1 (fun _ h9 => h9) rfl (kdr dgX0_doMeet_0 2 5 rfl rfl) ?_
            refine lv_iload_n hx hb (kdr dgX0_doMeet_0 2 6 rfl rfl) rfl (lv_at hl 2 rfl) ?_
            refine va_lald hx hb hK hP 1 2 rfl rfl (ix_in z5) (kdr dgX0_doMeet_0 2 7 rfl rfl) ?_
            refine lv_aload_n hx hb (kdr dgX0_doMeet_0 2 8 rfl rfl) rfl (lv_at hl 0 rfl) ?_
            refine va_get (D := (dC, dI)) (ci := 2) (v := .ref h2) (C := RX0) (T := TX0) (N := 4) hx hb hts hiX0 hown hK hP 0 rfl rfl 1 (by decide) hw2 (fun _ h9 => h9) rfl (kdr dgX0_doMeet_0 2 9 rfl rfl) ?_
            refine lv_iload_n hx hb (kdr dgX0_doMeet_0 3 0 rfl rfl) rfl (lv_at hl 1 rfl) ?_
            refine va_lald hx hb hK hP 2 2 rfl rfl (ix_in z4) (kdr dgX0_doMeet_0 3 1 rfl rfl) ?_
            refine kl_ge (pc := 54) (tgt := 62) hx hb (kdr dgX0_doMeet_0 3 2 rfl rfl) (kdr dgX0_doMeet_0 3 3 rfl rfl) (by decide) (fun c8 => ?_) (fun c8 => ?_)
            · have h := g_t c8 h
              refine lv_iconst (v := 0) hx hb (kdr dgX0_doMeet_0 3 6 rfl rfl) (by decide) ?_
              have h := Option.some.inj h
              subst h
              exact kret_i (v := 0) hx hb hr rfl hlocks hS hP (kdr dgX0_doMeet_0 3 7 rfl rfl)
            · have h := g_f c8 h
              refine lv_iconst (v := 1) hx hb (kdr dgX0_doMeet_0 3 4 rfl rfl) (by decide) ?_
              refine lv_goto (tgt := 63) hx hb (kdr dgX0_doMeet_0 3 5 rfl rfl) (by decide) ?_
              have h := Option.some.inj h
              subst h
              exact kret_i (v := 1) hx hb hr rfl hlocks hS hP (kdr dgX0_doMeet_0 3 7 rfl rfl)
        · have h := g_f c4 h
          refine lv_iconst (v := 0) hx hb (kdr dgX0_doMeet_0 1 2 rfl rfl) (by decide) ?_
          have h := Option.some.inj h
          subst h
          exact kret_i (v := 0) hx hb hr rfl hlocks hS hP (kdr dgX0_doMeet_0 1 3 rfl rfl)
noncomputable abbrev wsX0_firstMeeting : List Cond := kWs yX0_firstMeeting cX0_firstMeeting 7 (some .int)
noncomputable def f_X0_firstMeeting_3 : Nat → (Nat → Int64) → (Nat → Int64) → (Int32) → (Int64) → (Int64) → (Int32) → (Int32) → Option (Int32)
  | 0, _, _, _, _, _, _, _ => none
  | n + 1, rb, re, rc, x1, x3, x5, x6 =>
    if rc ≤ x6 then
      some (-1)
    else
      if x6 = x5 then
        f_X0_firstMeeting_3 n rb re rc x1 x3 x5 (x6 + 1)
      else
        if ix x6 11 then
          if x3 ≤ (rb x6.toNatClampNeg) then
            f_X0_firstMeeting_3 n rb re rc x1 x3 x5 (x6 + 1)
          else
            if (re x6.toNatClampNeg) ≤ x1 then
              f_X0_firstMeeting_3 n rb re rc x1 x3 x5 (x6 + 1)
            else
              some x6
        else none
theorem f_X0_firstMeeting_3_0 {rb : Nat → Int64} {re : Nat → Int64} {rc : Int32} {x1 : Int64} {x3 : Int64} {x5 : Int32} {x6 : Int32} : f_X0_firstMeeting_3 0 rb re rc x1 x3 x5 x6 = none := rfl
theorem f_X0_firstMeeting_3_s {n : Nat} {rb : Nat → Int64} {re : Nat → Int64} {rc : Int32} {x1 : Int64} {x3 : Int64} {x5 : Int32} {x6 : Int32} : f_X0_firstMeeting_3 (n + 1) rb re rc x1 x3 x5 x6 =
  if rc ≤ x6 then
    some (-1)
  else
    if x6 = x5 then
      f_X0_firstMeeting_3 n rb re rc x1 x3 x5 (x6 + 1)
    else
      if ix x6 11 then
        if x3 ≤ (rb x6.toNatClampNeg) then
          f_X0_firstMeeting_3 n rb re rc x1 x3 x5 (x6 + 1)
        else
          if (re x6.toNatClampNeg) ≤ x1 then
            f_X0_firstMeeting_3 n rb re rc x1 x3 x5 (x6 + 1)
          else
            some x6
      else none := rfl
noncomputable def f_X0_firstMeeting (rb : Nat → Int64) (re : Nat → Int64) (rc : Int32) (p0 : Int64) (p1 : Int64) (p2 : Int32) : Option (Int32) :=
  f_X0_firstMeeting_3 24 rb re rc p0 p1 p2 0
theorem f_X0_firstMeeting_e {rb : Nat → Int64} {re : Nat → Int64} {rc : Int32} {p0 : Int64} {p1 : Int64} {p2 : Int32} : f_X0_firstMeeting rb re rc p0 p1 p2 = 
  f_X0_firstMeeting_3 24 rb re rc p0 p1 p2 0 := rfl
set_option maxHeartbeats 4000000 in
set_option maxRecDepth 100000 in
theorem c_X0_firstMeeting (l : Launch) (dC : Nat → ClassId) (dI : Nat → Nat → Nat) (cB cI cJ cZ : ClassId) (h0 : Nat) (h1 : Nat) (h2 : Nat) (h3 : Nat) (sz : Nat) (rb : Nat → Int64) (re : Nat → Int64) (ro : Nat → Int32) (rc : Int32) (p0 : Int64) (p1 : Int64) (p2 : Int32) (res : Int32) (hf : f_X0_firstMeeting rb re rc p0 p1 p2 = some res) : kMi l yX0_firstMeeting wsX0_firstMeeting (kRm 0 0 0 0) dC dI cB cI cJ cZ [.ref h0, .long p0, .long p1, .int p2] sz (wRow cJ cZ h0 h1 h2 h3 rb re ro rc) .int (res) (wRow cJ cZ h0 h1 h2 h3 rb re ro rc) 0 0 := by
  refine kmet_i (y := yX0_firstMeeting) (cc := cX0_firstMeeting) (maxL := 7) (ret := (some .int)) RX0 (kvA 0 h0 (kvJ 1 p0 (kvJ 3 p1 (kvI 5 p2 kvE)))) kpl_X0 rfl rfl (Nat.le_of_ble_eq_true rfl) rfl (fun p e s m below meth c A ls hx hb hr hml hts hown hlocks hP hK hG hD hA hS hl => ?_)
  have hw0 := hts (.fieldLink RX0 22 "Spanbooker$Row" "count" "I") (List.mem_cons_of_mem _ kw_95)
  have hw1 := hts (.fieldLink RX0 9 "Spanbooker$Row" "begins" "[J") (List.mem_cons_of_mem _ kw_92)
  have hw2 := hts (.fieldLink RX0 15 "Spanbooker$Row" "ends" "[J") (List.mem_cons_of_mem _ kw_93)
  have hiX0 : ∀ w ∈ u_ws RX0 TX0 4, w ∈ wsX0_firstMeeting := fun w h => List.mem_cons_of_mem _ (ku_X0 w h)
  have J3 : ∀ (n : Nat), ∀ (rb : Nat → Int64) (re : Nat → Int64) (ro : Nat → Int32) (rc : Int32) (x1 : Int64) (x3 : Int64) (x5 : Int32) (x6 : Int32) (H : Heap) (locs : List Loc), va_P (dC, dI) vwCl (wRow cJ cZ h0 h1 h2 h3 rb re ro rc) H → va_D A (wRow cJ cZ h0 h1 h2 h3 rb re ro rc) → va_S A s.heap H locs → ∀ (ls : Array Slot), lv_has ls 7 (kvA 0 h0 (kvJ 1 x1 (kvJ 3 x3 (kvI 5 x5 (kvI 6 x6 kvE))))) → f_X0_firstMeeting_3 n rb re rc x1 x3 x5 x6 = some res → W p l e (headSpec wsX0_firstMeeting (kRm 0 0 0 0)).room s m ([.ref h0, .long p0, .long p1, .int p2] : List Value).toArray below meth c H locs 0 0 (MQ below (kI (dC, dI) .int (res) (wRow cJ cZ h0 h1 h2 h3 rb re ro rc) A) ([.ref h0, .long p0, .long p1, .int p2] : List Value).toArray s 0 0 A) (F0 m 3 ls []) := by
    intro n
    induction n with
    | zero =>
      intro rb re ro rc x1 x3 x5 x6 H locs hP hD hS ls hl h
      have h := f_X0_firstMeeting_3_0.symm.trans h
      cases h
    | succ n ih =>
      intro rb re ro rc x1 x3 x5 x6 H locs hP hD hS ls hl h
      have h := f_X0_firstMeeting_3_s.symm.trans h
      refine lv_iload hx hb (kdr dgX0_firstMeeting_0 0 2 rfl rfl) (lv_at hl 4 rfl) ?_
      refine lv_aload_n hx hb (kdr dgX0_firstMeeting_0 0 3 rfl rfl) rfl (lv_at hl 0 rfl) ?_
      refine va_get (D := (dC, dI)) (ci := 2) (v := .int rc) (C := RX0) (T := TX0) (N := 4) hx hb hts hiX0 hown hK hP 0 rfl rfl 3 (by decide) hw0 (fun _ h9 => h9) rfl (kdr dgX0_firstMeeting_0 0 4 rfl rfl) ?_
      refine lv_icmp_ge (tgt := 52) hx hb (kdr dgX0_firstMeeting_0 0 5 rfl rfl) (by decide) (fun c1 => ?_) (fun c1 => ?_)
      · have h := g_t c1 h
        refine lv_iconst (v := (-1)) hx hb (kdr dgX0_firstMeeting_0 2 7 rfl rfl) (by decide) ?_
        have h := Option.some.inj h
        subst h
        exact kret_i (v := (-1)) hx hb hr rfl hlocks hS hP (kdr dgX0_firstMeeting_0 2 8 rfl rfl)
      · have h := g_f c1 h
        refine lv_iload hx hb (kdr dgX0_firstMeeting_0 0 6 rfl rfl) (lv_at hl 4 rfl) ?_
        refine lv_iload hx hb (kdr dgX0_firstMeeting_0 0 7 rfl rfl) (lv_at hl 3 rfl) ?_
        refine lv_icmp_eq (tgt := 46) hx hb (kdr dgX0_firstMeeting_0 0 8 rfl rfl) (by decide) (fun c2 => ?_) (fun c2 => ?_)
        · have h := g_t c2 h
          refine lv_iinc (v := x6 + 1) (lv' := (kvI 6 (x6 + 1) (kvA 0 h0 (kvJ 1 x1 (kvJ 3 x3 (kvI 5 x5 kvE)))))) hx hb (kdr dgX0_firstMeeting_0 2 5 rfl rfl) hl (k := 4) rfl rfl (by decide) rfl (fun ls hl => ?_)
          refine lv_goto (tgt := 3) hx hb (kdr dgX0_firstMeeting_0 2 6 rfl rfl) (by decide) ?_
          exact ih rb re ro rc x1 x3 x5 (x6 + 1) _ _ hP hD hS ls (lv_sub hl [1, 2, 3, 4, 0] rfl) h
        · have h := g_f c2 h
          refine lv_aload_n hx hb (kdr dgX0_firstMeeting_0 0 9 rfl rfl) rfl (lv_at hl 0 rfl) ?_
          refine va_get (D := (dC, dI)) (ci := 2) (v := .ref h1) (C := RX0) (T := TX0) (N := 4) hx hb hts hiX0 hown hK hP 0 rfl rfl 0 (by decide) hw1 (fun _ h9 => h9) rfl (kdr dgX0_firstMeeting_0 1 0 rfl rfl) ?_
          refine lv_iload hx hb (kdr dgX0_firstMeeting_0 1 1 rfl rfl) (lv_at hl 4 rfl) ?_
          obtain ⟨z2, h⟩ := g_if h
          refine va_lald hx hb hK hP 1 2 rfl rfl (ix_in z2) (kdr dgX0_firstMeeting_0 1 2 rfl rfl) ?_
          refine lv_lload_n hx hb (kdr dgX0_firstMeeting_0 1 3 rfl rfl) rfl (lv_at hl 2 rfl) ?_
          refine kl_ge (pc := 27) (tgt := 46) hx hb (kdr dgX0_firstMeeting_0 1 4 rfl rfl) (kdr dgX0_firstMeeting_0 1 5 rfl rfl) (by decide) (fun c4 => ?_) (fun c4 => ?_)
          · have h := g_t c4 h
            refine lv_iinc (v := x6 + 1) (lv' := (kvI 6 (x6 + 1) (kvA 0 h0 (kvJ 1 x1 (kvJ 3 x3 (kvI 5 x5 kvE)))))) hx hb (kdr dgX0_firstMeeting_0 2 5 rfl rfl) hl (k := 4) rfl rfl (by decide) rfl (fun ls hl => ?_)
            refine lv_goto (tgt := 3) hx hb (kdr dgX0_firstMeeting_0 2 6 rfl rfl) (by decide) ?_
            exact ih rb re ro rc x1 x3 x5 (x6 + 1) _ _ hP hD hS ls (lv_sub hl [1, 2, 3, 4, 0] rfl) h
          · have h := g_f c4 h
            refine lv_lload_n hx hb (kdr dgX0_firstMeeting_0 1 6 rfl rfl) rfl (lv_at hl 1 rfl) ?_
            refine lv_aload_n hx hb (kdr dgX0_firstMeeting_0 1 7 rfl rfl) rfl (lv_at hl 0 rfl) ?_
            refine va_get (D := (dC, dI)) (ci := 2) (v := .ref h2) (C := RX0) (T := TX0) (N := 4) hx hb hts hiX0 hown hK hP 0 rfl rfl 1 (by decide) hw2 (fun _ h9 => h9) rfl (kdr dgX0_firstMeeting_0 1 8 rfl rfl) ?_
            refine lv_iload hx hb (kdr dgX0_firstMeeting_0 1 9 rfl rfl) (lv_at hl 4 rfl) ?_
            refine va_lald hx hb hK hP 2 2 rfl rfl (ix_in z2) (kdr dgX0_firstMeeting_0 2 0 rfl rfl) ?_
            refine kl_ge (pc := 39) (tgt := 46) hx hb (kdr dgX0_firstMeeting_0 2 1 rfl rfl) (kdr dgX0_firstMeeting_0 2 2 rfl rfl) (by decide) (fun c5 => ?_) (fun c5 => ?_)
            · have h := g_t c5 h
              refine lv_iinc (v := x6 + 1) (lv' := (kvI 6 (x6 + 1) (kvA 0 h0 (kvJ 1 x1 (kvJ 3 x3 (kvI 5 x5 kvE)))))) hx hb (kdr dgX0_firstMeeting_0 2 5 rfl rfl) hl (k := 4) rfl rfl (by decide) rfl (fun ls hl => ?_)
              refine lv_goto (tgt := 3) hx hb (kdr dgX0_firstMeeting_0 2 6 rfl rfl) (by decide) ?_
              exact ih rb re ro rc x1 x3 x5 (x6 + 1) _ _ hP hD hS ls (lv_sub hl [1, 2, 3, 4, 0] rfl) h
            · have h := g_f c5 h
              refine lv_iload hx hb (kdr dgX0_firstMeeting_0 2 3 rfl rfl) (lv_at hl 4 rfl) ?_
              have h := Option.some.inj h
              subst h
              exact kret_i (v := x6) hx hb hr rfl hlocks hS hP (kdr dgX0_firstMeeting_0 2 4 rfl rfl)
  have h := f_X0_firstMeeting_e.symm.trans hf
  refine lv_iconst (v := 0) hx hb (kdr dgX0_firstMeeting_0 0 0 rfl rfl) (by decide) ?_
  refine lv_istore (lv' := (kvI 6 0 (kvA 0 h0 (kvJ 1 p0 (kvJ 3 p1 (kvI 5 p2 kvE)))))) hx hb (kdr dgX0_firstMeeting_0 0 1 rfl rfl) hl (by decide) rfl (fun ls hl => ?_)
  exact J3 24 rb re ro rc p0 p1 p2 0 _ _ hP hD hS ls (lv_sub hl [1, 2, 3, 4, 0] rfl) h
noncomputable abbrev wsX0_firstWith : List Cond := kWs yX0_firstWith cX0_firstWith 3 (some .int)
noncomputable def f_X0_firstWith (rb : Nat → Int64) (re : Nat → Int64) (rc : Int32) (p0 : Int64) : Option (Int32) :=
  (f_X0_firstMeeting rb re rc p0 (p0 + 1) (-1)).bind fun r1 =>
  some r1
theorem f_X0_firstWith_e {rb : Nat → Int64} {re : Nat → Int64} {rc : Int32} {p0 : Int64} : f_X0_firstWith rb re rc p0 = 
  (f_X0_firstMeeting rb re rc p0 (p0 + 1) (-1)).bind fun r1 =>
  some r1 := rfl
set_option maxHeartbeats 4000000 in
set_option maxRecDepth 100000 in
theorem c_X0_firstWith (l : Launch) (dC : Nat → ClassId) (dI : Nat → Nat → Nat) (cB cI cJ cZ : ClassId) (h0 : Nat) (h1 : Nat) (h2 : Nat) (h3 : Nat) (sz : Nat) (rb : Nat → Int64) (re : Nat → Int64) (ro : Nat → Int32) (rc : Int32) (p0 : Int64) (res : Int32) (hf : f_X0_firstWith rb re rc p0 = some res) : kMi l yX0_firstWith wsX0_firstWith (kRm 1 0 0 26) dC dI cB cI cJ cZ [.ref h0, .long p0] sz (wRow cJ cZ h0 h1 h2 h3 rb re ro rc) .int (res) (wRow cJ cZ h0 h1 h2 h3 rb re ro rc) 0 0 := by
  refine kmet_i (y := yX0_firstWith) (cc := cX0_firstWith) (maxL := 3) (ret := (some .int)) RX0 (kvA 0 h0 (kvJ 1 p0 kvE)) kpl_X0 rfl rfl (Nat.le_of_ble_eq_true rfl) rfl (fun p e s m below meth c A ls hx hb hr hml hts hown hlocks hP hK hG hD hA hS hl => ?_)
  have h := f_X0_firstWith_e.symm.trans hf
  refine lv_aload_n hx hb (kdr dgX0_firstWith_0 0 0 rfl rfl) rfl (lv_at hl 0 rfl) ?_
  refine lv_lload_n hx hb (kdr dgX0_firstWith_0 0 1 rfl rfl) rfl (lv_at hl 1 rfl) ?_
  refine lv_lload_n hx hb (kdr dgX0_firstWith_0 0 2 rfl rfl) rfl (lv_at hl 1 rfl) ?_
  refine lv_lconst (v := 1) hx hb (kdr dgX0_firstWith_0 0 3 rfl rfl) (by decide) ?_
  refine lv_ladd hx hb (kdr dgX0_firstWith_0 0 4 rfl rfl) ?_
  refine lv_iconst (v := (-1)) hx hb (kdr dgX0_firstWith_0 0 5 rfl rfl) (by decide) ?_
  obtain ⟨r1, g1, h⟩ := g_b h
  refine kq_i (wRow cJ cZ h0 h1 h2 h3 rb re ro rc) (fun qP qD qF => va_runV (As := [.long p0, .long (p0 + 1), .int (-1)]) (rest := []) ⟨hx, hb, hml, hown, hts⟩ (c_X0_firstMeeting l dC dI cB cI cJ cZ h0 h1 h2 h3 _ rb re ro rc p0 (p0 + 1) (-1) r1 g1) (kcwV hts kw_210 kv_X0_firstMeeting rfl rfl ⟨(Nat.le_of_ble_eq_true rfl), (Nat.le_of_ble_eq_true rfl)⟩) (kpV (A := A) qP hK qD hG (krecv_2 (q0 := 0) hK hP rfl)) rfl rfl hl.1 rfl (lv_room (Nat.le_of_ble_eq_true rfl)) (kdr dgX0_firstWith_0 0 6 rfl rfl) ⟨(Nat.le_of_ble_eq_true rfl), (Nat.le_of_ble_eq_true rfl)⟩) hP hD hS hA kFr_Row (fun H locs hP hD hS br1 => ?_)
  have h := Option.some.inj h
  subst h
  exact kret_i (v := r1) hx hb hr rfl hlocks hS hP (kdr dgX0_firstWith_0 0 7 rfl rfl)
noncomputable abbrev wsX0_nextBegin : List Cond := kWs yX0_nextBegin cX0_nextBegin 8 (some .long)
noncomputable def f_X0_nextBegin_6 : Nat → (Nat → Int64) → (Int32) → (Int64) → (Int64) → (Int32) → Option (Int64)
  | 0, _, _, _, _, _ => none
  | n + 1, rb, rc, x1, x5, x7 =>
    if rc ≤ x7 then
      some x5
    else
      if ix x7 11 then
        if (rb x7.toNatClampNeg) < x1 then
          f_X0_nextBegin_6 n rb rc x1 x5 (x7 + 1)
        else
          if x5 ≤ (rb x7.toNatClampNeg) then
            f_X0_nextBegin_6 n rb rc x1 x5 (x7 + 1)
          else
            f_X0_nextBegin_6 n rb rc x1 (rb x7.toNatClampNeg) (x7 + 1)
      else none
theorem f_X0_nextBegin_6_0 {rb : Nat → Int64} {rc : Int32} {x1 : Int64} {x5 : Int64} {x7 : Int32} : f_X0_nextBegin_6 0 rb rc x1 x5 x7 = none := rfl
theorem f_X0_nextBegin_6_s {n : Nat} {rb : Nat → Int64} {rc : Int32} {x1 : Int64} {x5 : Int64} {x7 : Int32} : f_X0_nextBegin_6 (n + 1) rb rc x1 x5 x7 =
  if rc ≤ x7 then
    some x5
  else
    if ix x7 11 then
      if (rb x7.toNatClampNeg) < x1 then
        f_X0_nextBegin_6 n rb rc x1 x5 (x7 + 1)
      else
        if x5 ≤ (rb x7.toNatClampNeg) then
          f_X0_nextBegin_6 n rb rc x1 x5 (x7 + 1)
        else
          f_X0_nextBegin_6 n rb rc x1 (rb x7.toNatClampNeg) (x7 + 1)
    else none := rfl
noncomputable def f_X0_nextBegin (rb : Nat → Int64) (rc : Int32) (p0 : Int64) (p1 : Int64) : Option (Int64) :=
  f_X0_nextBegin_6 24 rb rc p0 p1 0
theorem f_X0_nextBegin_e {rb : Nat → Int64} {rc : Int32} {p0 : Int64} {p1 : Int64} : f_X0_nextBegin rb rc p0 p1 = 
  f_X0_nextBegin_6 24 rb rc p0 p1 0 := rfl
set_option maxHeartbeats 4000000 in
set_option maxRecDepth 100000 in
theorem c_X0_nextBegin (l : Launch) (dC : Nat → ClassId) (dI : Nat → Nat → Nat) (cB cI cJ cZ : ClassId) (h0 : Nat) (h1 : Nat) (h2 : Nat) (h3 : Nat) (sz : Nat) (rb : Nat → Int64) (re : Nat → Int64) (ro : Nat → Int32) (rc : Int32) (p0 : Int64) (p1 : Int64) (res : Int64) (hf : f_X0_nextBegin rb rc p0 p1 = some res) : kMl l yX0_nextBegin wsX0_nextBegin (kRm 0 0 0 0) dC dI cB cI cJ cZ [.ref h0, .long p0, .long p1] sz (wRow cJ cZ h0 h1 h2 h3 rb re ro rc) (res) (wRow cJ cZ h0 h1 h2 h3 rb re ro rc) 0 0 := by
  refine kmet_l (y := yX0_nextBegin) (cc := cX0_nextBegin) (maxL := 8) (ret := (some .long)) RX0 (kvA 0 h0 (kvJ 1 p0 (kvJ 3 p1 kvE))) kpl_X0 rfl rfl (Nat.le_of_ble_eq_true rfl) rfl (fun p e s m below meth c A ls hx hb hr hml hts hown hlocks hP hK hG hD hA hS hl => ?_)
  have hw0 := hts (.fieldLink RX0 22 "Spanbooker$Row" "count" "I") (List.mem_cons_of_mem _ kw_95)
  have hw1 := hts (.fieldLink RX0 9 "Spanbooker$Row" "begins" "[J") (List.mem_cons_of_mem _ kw_92)
  have hiX0 : ∀ w ∈ u_ws RX0 TX0 4, w ∈ wsX0_nextBegin := fun w h => List.mem_cons_of_mem _ (ku_X0 w h)
  have J6 : ∀ (n : Nat), ∀ (rb : Nat → Int64) (re : Nat → Int64) (ro : Nat → Int32) (rc : Int32) (x1 : Int64) (x5 : Int64) (x7 : Int32) (H : Heap) (locs : List Loc), va_P (dC, dI) vwCl (wRow cJ cZ h0 h1 h2 h3 rb re ro rc) H → va_D A (wRow cJ cZ h0 h1 h2 h3 rb re ro rc) → va_S A s.heap H locs → ∀ (ls : Array Slot), lv_has ls 8 (kvA 0 h0 (kvJ 1 x1 (kvJ 5 x5 (kvI 7 x7 kvE)))) → f_X0_nextBegin_6 n rb rc x1 x5 x7 = some res → W p l e (headSpec wsX0_nextBegin (kRm 0 0 0 0)).room s m ([.ref h0, .long p0, .long p1] : List Value).toArray below meth c H locs 0 0 (MQ below (kL (dC, dI) (res) (wRow cJ cZ h0 h1 h2 h3 rb re ro rc) A) ([.ref h0, .long p0, .long p1] : List Value).toArray s 0 0 A) (F0 m 6 ls []) := by
    intro n
    induction n with
    | zero =>
      intro rb re ro rc x1 x5 x7 H locs hP hD hS ls hl h
      have h := f_X0_nextBegin_6_0.symm.trans h
      cases h
    | succ n ih =>
      intro rb re ro rc x1 x5 x7 H locs hP hD hS ls hl h
      have h := f_X0_nextBegin_6_s.symm.trans h
      refine lv_iload hx hb (kdr dgX0_nextBegin_0 0 4 rfl rfl) (lv_at hl 3 rfl) ?_
      refine lv_aload_n hx hb (kdr dgX0_nextBegin_0 0 5 rfl rfl) rfl (lv_at hl 0 rfl) ?_
      refine va_get (D := (dC, dI)) (ci := 2) (v := .int rc) (C := RX0) (T := TX0) (N := 4) hx hb hts hiX0 hown hK hP 0 rfl rfl 3 (by decide) hw0 (fun _ h9 => h9) rfl (kdr dgX0_nextBegin_0 0 6 rfl rfl) ?_
      refine lv_icmp_ge (tgt := 55) hx hb (kdr dgX0_nextBegin_0 0 7 rfl rfl) (by decide) (fun c1 => ?_) (fun c1 => ?_)
      · have h := g_t c1 h
        refine lv_lload hx hb (kdr dgX0_nextBegin_0 2 9 rfl rfl) (lv_at hl 2 rfl) ?_
        have h := Option.some.inj h
        subst h
        exact kret_l (v := x5) hx hb hr hlocks hS hP (kdr dgX0_nextBegin_0 3 0 rfl rfl)
      · have h := g_f c1 h
        refine lv_aload_n hx hb (kdr dgX0_nextBegin_0 0 8 rfl rfl) rfl (lv_at hl 0 rfl) ?_
        refine va_get (D := (dC, dI)) (ci := 2) (v := .ref h1) (C := RX0) (T := TX0) (N := 4) hx hb hts hiX0 hown hK hP 0 rfl rfl 0 (by decide) hw1 (fun _ h9 => h9) rfl (kdr dgX0_nextBegin_0 0 9 rfl rfl) ?_
        refine lv_iload hx hb (kdr dgX0_nextBegin_0 1 0 rfl rfl) (lv_at hl 3 rfl) ?_
        obtain ⟨z1, h⟩ := g_if h
        refine va_lald hx hb hK hP 1 2 rfl rfl (ix_in z1) (kdr dgX0_nextBegin_0 1 1 rfl rfl) ?_
        refine lv_lload_n hx hb (kdr dgX0_nextBegin_0 1 2 rfl rfl) rfl (lv_at hl 1 rfl) ?_
        refine kl_lt (pc := 23) (tgt := 49) hx hb (kdr dgX0_nextBegin_0 1 3 rfl rfl) (kdr dgX0_nextBegin_0 1 4 rfl rfl) (by decide) (fun c3 => ?_) (fun c3 => ?_)
        · have h := g_t c3 h
          refine lv_iinc (v := x7 + 1) (lv' := (kvI 7 (x7 + 1) (kvA 0 h0 (kvJ 1 x1 (kvJ 5 x5 kvE))))) hx hb (kdr dgX0_nextBegin_0 2 7 rfl rfl) hl (k := 3) rfl rfl (by decide) rfl (fun ls hl => ?_)
          refine lv_goto (tgt := 6) hx hb (kdr dgX0_nextBegin_0 2 8 rfl rfl) (by decide) ?_
          exact ih rb re ro rc x1 x5 (x7 + 1) _ _ hP hD hS ls (lv_sub hl [1, 2, 3, 0] rfl) h
        · have h := g_f c3 h
          refine lv_aload_n hx hb (kdr dgX0_nextBegin_0 1 5 rfl rfl) rfl (lv_at hl 0 rfl) ?_
          refine va_get (D := (dC, dI)) (ci := 2) (v := .ref h1) (C := RX0) (T := TX0) (N := 4) hx hb hts hiX0 hown hK hP 0 rfl rfl 0 (by decide) hw1 (fun _ h9 => h9) rfl (kdr dgX0_nextBegin_0 1 6 rfl rfl) ?_
          refine lv_iload hx hb (kdr dgX0_nextBegin_0 1 7 rfl rfl) (lv_at hl 3 rfl) ?_
          refine va_lald hx hb hK hP 1 2 rfl rfl (ix_in z1) (kdr dgX0_nextBegin_0 1 8 rfl rfl) ?_
          refine lv_lload hx hb (kdr dgX0_nextBegin_0 1 9 rfl rfl) (lv_at hl 2 rfl) ?_
          refine kl_ge (pc := 36) (tgt := 49) hx hb (kdr dgX0_nextBegin_0 2 0 rfl rfl) (kdr dgX0_nextBegin_0 2 1 rfl rfl) (by decide) (fun c4 => ?_) (fun c4 => ?_)
          · have h := g_t c4 h
            refine lv_iinc (v := x7 + 1) (lv' := (kvI 7 (x7 + 1) (kvA 0 h0 (kvJ 1 x1 (kvJ 5 x5 kvE))))) hx hb (kdr dgX0_nextBegin_0 2 7 rfl rfl) hl (k := 3) rfl rfl (by decide) rfl (fun ls hl => ?_)
            refine lv_goto (tgt := 6) hx hb (kdr dgX0_nextBegin_0 2 8 rfl rfl) (by decide) ?_
            exact ih rb re ro rc x1 x5 (x7 + 1) _ _ hP hD hS ls (lv_sub hl [1, 2, 3, 0] rfl) h
          · have h := g_f c4 h
            refine lv_aload_n hx hb (kdr dgX0_nextBegin_0 2 2 rfl rfl) rfl (lv_at hl 0 rfl) ?_
            refine va_get (D := (dC, dI)) (ci := 2) (v := .ref h1) (C := RX0) (T := TX0) (N := 4) hx hb hts hiX0 hown hK hP 0 rfl rfl 0 (by decide) hw1 (fun _ h9 => h9) rfl (kdr dgX0_nextBegin_0 2 3 rfl rfl) ?_
            refine lv_iload hx hb (kdr dgX0_nextBegin_0 2 4 rfl rfl) (lv_at hl 3 rfl) ?_
            refine va_lald hx hb hK hP 1 2 rfl rfl (ix_in z1) (kdr dgX0_nextBegin_0 2 5 rfl rfl) ?_
            refine lv_lstore (lv' := (kvJ 5 (rb x7.toNatClampNeg) (kvA 0 h0 (kvJ 1 x1 (kvI 7 x7 kvE))))) hx hb (kdr dgX0_nextBegin_0 2 6 rfl rfl) hl (by decide) rfl (fun ls hl => ?_)
            refine lv_iinc (v := x7 + 1) (lv' := (kvI 7 (x7 + 1) (kvJ 5 (rb x7.toNatClampNeg) (kvA 0 h0 (kvJ 1 x1 kvE))))) hx hb (kdr dgX0_nextBegin_0 2 7 rfl rfl) hl (k := 3) rfl rfl (by decide) rfl (fun ls hl => ?_)
            refine lv_goto (tgt := 6) hx hb (kdr dgX0_nextBegin_0 2 8 rfl rfl) (by decide) ?_
            exact ih rb re ro rc x1 (rb x7.toNatClampNeg) (x7 + 1) _ _ hP hD hS ls (lv_sub hl [2, 3, 1, 0] rfl) h
  have h := f_X0_nextBegin_e.symm.trans hf
  refine lv_lload_n hx hb (kdr dgX0_nextBegin_0 0 0 rfl rfl) rfl (lv_at hl 2 rfl) ?_
  refine lv_lstore (lv' := (kvJ 5 p1 (kvA 0 h0 (kvJ 1 p0 (kvJ 3 p1 kvE))))) hx hb (kdr dgX0_nextBegin_0 0 1 rfl rfl) hl (by decide) rfl (fun ls hl => ?_)
  refine lv_iconst (v := 0) hx hb (kdr dgX0_nextBegin_0 0 2 rfl rfl) (by decide) ?_
  refine lv_istore (lv' := (kvI 7 0 (kvJ 5 p1 (kvA 0 h0 (kvJ 1 p0 (kvJ 3 p1 kvE)))))) hx hb (kdr dgX0_nextBegin_0 0 3 rfl rfl) hl (by decide) rfl (fun ls hl => ?_)
  exact J6 24 rb re ro rc p0 p1 0 _ _ hP hD hS ls (lv_sub hl [2, 3, 1, 0] rfl) h
noncomputable abbrev wsX0_beginsBefore : List Cond := kWs yX0_beginsBefore cX0_beginsBefore 5 (some .int)
noncomputable def f_X0_beginsBefore_5 : Nat → (Nat → Int64) → (Int32) → (Int64) → (Int32) → (Int32) → Option (Int32)
  | 0, _, _, _, _, _ => none
  | n + 1, rb, rc, x1, x3, x4 =>
    if rc ≤ x4 then
      some x3
    else
      if ix x4 11 then
        if x1 ≤ (rb x4.toNatClampNeg) then
          f_X0_beginsBefore_5 n rb rc x1 x3 (x4 + 1)
        else
          f_X0_beginsBefore_5 n rb rc x1 (x3 + 1) (x4 + 1)
      else none
theorem f_X0_beginsBefore_5_0 {rb : Nat → Int64} {rc : Int32} {x1 : Int64} {x3 : Int32} {x4 : Int32} : f_X0_beginsBefore_5 0 rb rc x1 x3 x4 = none := rfl
theorem f_X0_beginsBefore_5_s {n : Nat} {rb : Nat → Int64} {rc : Int32} {x1 : Int64} {x3 : Int32} {x4 : Int32} : f_X0_beginsBefore_5 (n + 1) rb rc x1 x3 x4 =
  if rc ≤ x4 then
    some x3
  else
    if ix x4 11 then
      if x1 ≤ (rb x4.toNatClampNeg) then
        f_X0_beginsBefore_5 n rb rc x1 x3 (x4 + 1)
      else
        f_X0_beginsBefore_5 n rb rc x1 (x3 + 1) (x4 + 1)
    else none := rfl
noncomputable def f_X0_beginsBefore (rb : Nat → Int64) (rc : Int32) (p0 : Int64) : Option (Int32) :=
  f_X0_beginsBefore_5 24 rb rc p0 0 0
theorem f_X0_beginsBefore_e {rb : Nat → Int64} {rc : Int32} {p0 : Int64} : f_X0_beginsBefore rb rc p0 = 
  f_X0_beginsBefore_5 24 rb rc p0 0 0 := rfl
set_option maxHeartbeats 4000000 in
set_option maxRecDepth 100000 in
theorem c_X0_beginsBefore (l : Launch) (dC : Nat → ClassId) (dI : Nat → Nat → Nat) (cB cI cJ cZ : ClassId) (h0 : Nat) (h1 : Nat) (h2 : Nat) (h3 : Nat) (sz : Nat) (rb : Nat → Int64) (re : Nat → Int64) (ro : Nat → Int32) (rc : Int32) (p0 : Int64) (res : Int32) (hf : f_X0_beginsBefore rb rc p0 = some res) : kMi l yX0_beginsBefore wsX0_beginsBefore (kRm 0 0 0 0) dC dI cB cI cJ cZ [.ref h0, .long p0] sz (wRow cJ cZ h0 h1 h2 h3 rb re ro rc) .int (res) (wRow cJ cZ h0 h1 h2 h3 rb re ro rc) 0 0 := by
  refine kmet_i (y := yX0_beginsBefore) (cc := cX0_beginsBefore) (maxL := 5) (ret := (some .int)) RX0 (kvA 0 h0 (kvJ 1 p0 kvE)) kpl_X0 rfl rfl (Nat.le_of_ble_eq_true rfl) rfl (fun p e s m below meth c A ls hx hb hr hml hts hown hlocks hP hK hG hD hA hS hl => ?_)
  have hw0 := hts (.fieldLink RX0 22 "Spanbooker$Row" "count" "I") (List.mem_cons_of_mem _ kw_95)
  have hw1 := hts (.fieldLink RX0 9 "Spanbooker$Row" "begins" "[J") (List.mem_cons_of_mem _ kw_92)
  have hiX0 : ∀ w ∈ u_ws RX0 TX0 4, w ∈ wsX0_beginsBefore := fun w h => List.mem_cons_of_mem _ (ku_X0 w h)
  have J5 : ∀ (n : Nat), ∀ (rb : Nat → Int64) (re : Nat → Int64) (ro : Nat → Int32) (rc : Int32) (x1 : Int64) (x3 : Int32) (x4 : Int32) (H : Heap) (locs : List Loc), va_P (dC, dI) vwCl (wRow cJ cZ h0 h1 h2 h3 rb re ro rc) H → va_D A (wRow cJ cZ h0 h1 h2 h3 rb re ro rc) → va_S A s.heap H locs → ∀ (ls : Array Slot), lv_has ls 5 (kvA 0 h0 (kvJ 1 x1 (kvI 3 x3 (kvI 4 x4 kvE)))) → f_X0_beginsBefore_5 n rb rc x1 x3 x4 = some res → W p l e (headSpec wsX0_beginsBefore (kRm 0 0 0 0)).room s m ([.ref h0, .long p0] : List Value).toArray below meth c H locs 0 0 (MQ below (kI (dC, dI) .int (res) (wRow cJ cZ h0 h1 h2 h3 rb re ro rc) A) ([.ref h0, .long p0] : List Value).toArray s 0 0 A) (F0 m 5 ls []) := by
    intro n
    induction n with
    | zero =>
      intro rb re ro rc x1 x3 x4 H locs hP hD hS ls hl h
      have h := f_X0_beginsBefore_5_0.symm.trans h
      cases h
    | succ n ih =>
      intro rb re ro rc x1 x3 x4 H locs hP hD hS ls hl h
      have h := f_X0_beginsBefore_5_s.symm.trans h
      refine lv_iload hx hb (kdr dgX0_beginsBefore_0 0 4 rfl rfl) (lv_at hl 3 rfl) ?_
      refine lv_aload_n hx hb (kdr dgX0_beginsBefore_0 0 5 rfl rfl) rfl (lv_at hl 0 rfl) ?_
      refine va_get (D := (dC, dI)) (ci := 2) (v := .int rc) (C := RX0) (T := TX0) (N := 4) hx hb hts hiX0 hown hK hP 0 rfl rfl 3 (by decide) hw0 (fun _ h9 => h9) rfl (kdr dgX0_beginsBefore_0 0 6 rfl rfl) ?_
      refine lv_icmp_ge (tgt := 35) hx hb (kdr dgX0_beginsBefore_0 0 7 rfl rfl) (by decide) (fun c1 => ?_) (fun c1 => ?_)
      · have h := g_t c1 h
        refine lv_iload_n hx hb (kdr dgX0_beginsBefore_0 1 8 rfl rfl) rfl (lv_at hl 2 rfl) ?_
        have h := Option.some.inj h
        subst h
        exact kret_i (v := x3) hx hb hr rfl hlocks hS hP (kdr dgX0_beginsBefore_0 1 9 rfl rfl)
      · have h := g_f c1 h
        refine lv_aload_n hx hb (kdr dgX0_beginsBefore_0 0 8 rfl rfl) rfl (lv_at hl 0 rfl) ?_
        refine va_get (D := (dC, dI)) (ci := 2) (v := .ref h1) (C := RX0) (T := TX0) (N := 4) hx hb hts hiX0 hown hK hP 0 rfl rfl 0 (by decide) hw1 (fun _ h9 => h9) rfl (kdr dgX0_beginsBefore_0 0 9 rfl rfl) ?_
        refine lv_iload hx hb (kdr dgX0_beginsBefore_0 1 0 rfl rfl) (lv_at hl 3 rfl) ?_
        obtain ⟨z1, h⟩ := g_if h
        refine va_lald hx hb hK hP 1 2 rfl rfl (ix_in z1) (kdr dgX0_beginsBefore_0 1 1 rfl rfl) ?_
        refine lv_lload_n hx hb (kdr dgX0_beginsBefore_0 1 2 rfl rfl) rfl (lv_at hl 1 rfl) ?_
        refine kl_ge (pc := 22) (tgt := 29) hx hb (kdr dgX0_beginsBefore_0 1 3 rfl rfl) (kdr dgX0_beginsBefore_0 1 4 rfl rfl) (by decide) (fun c3 => ?_) (fun c3 => ?_)
        · have h := g_t c3 h
          refine lv_iinc (v := x4 + 1) (lv' := (kvI 4 (x4 + 1) (kvA 0 h0 (kvJ 1 x1 (kvI 3 x3 kvE))))) hx hb (kdr dgX0_beginsBefore_0 1 6 rfl rfl) hl (k := 3) rfl rfl (by decide) rfl (fun ls hl => ?_)
          refine lv_goto (tgt := 5) hx hb (kdr dgX0_beginsBefore_0 1 7 rfl rfl) (by decide) ?_
          exact ih rb re ro rc x1 x3 (x4 + 1) _ _ hP hD hS ls (lv_sub hl [1, 2, 3, 0] rfl) h
        · have h := g_f c3 h
          refine lv_iinc (v := x3 + 1) (lv' := (kvI 3 (x3 + 1) (kvA 0 h0 (kvJ 1 x1 (kvI 4 x4 kvE))))) hx hb (kdr dgX0_beginsBefore_0 1 5 rfl rfl) hl (k := 2) rfl rfl (by decide) rfl (fun ls hl => ?_)
          refine lv_iinc (v := x4 + 1) (lv' := (kvI 4 (x4 + 1) (kvI 3 (x3 + 1) (kvA 0 h0 (kvJ 1 x1 kvE))))) hx hb (kdr dgX0_beginsBefore_0 1 6 rfl rfl) hl (k := 3) rfl rfl (by decide) rfl (fun ls hl => ?_)
          refine lv_goto (tgt := 5) hx hb (kdr dgX0_beginsBefore_0 1 7 rfl rfl) (by decide) ?_
          exact ih rb re ro rc x1 (x3 + 1) (x4 + 1) _ _ hP hD hS ls (lv_sub hl [2, 3, 1, 0] rfl) h
  have h := f_X0_beginsBefore_e.symm.trans hf
  refine lv_iconst (v := 0) hx hb (kdr dgX0_beginsBefore_0 0 0 rfl rfl) (by decide) ?_
  refine lv_istore_n (lv' := (kvI 3 0 (kvA 0 h0 (kvJ 1 p0 kvE)))) hx hb (kdr dgX0_beginsBefore_0 0 1 rfl rfl) rfl hl (by decide) rfl (fun ls hl => ?_)
  refine lv_iconst (v := 0) hx hb (kdr dgX0_beginsBefore_0 0 2 rfl rfl) (by decide) ?_
  refine lv_istore (lv' := (kvI 4 0 (kvI 3 0 (kvA 0 h0 (kvJ 1 p0 kvE))))) hx hb (kdr dgX0_beginsBefore_0 0 3 rfl rfl) hl (by decide) rfl (fun ls hl => ?_)
  exact J5 24 rb re ro rc p0 0 0 _ _ hP hD hS ls (lv_sub hl [2, 3, 1, 0] rfl) h
noncomputable abbrev wsX0_endsBefore : List Cond := kWs yX0_endsBefore cX0_endsBefore 5 (some .int)
noncomputable def f_X0_endsBefore_5 : Nat → (Nat → Int64) → (Int32) → (Int64) → (Int32) → (Int32) → Option (Int32)
  | 0, _, _, _, _, _ => none
  | n + 1, re, rc, x1, x3, x4 =>
    if rc ≤ x4 then
      some x3
    else
      if ix x4 11 then
        if x1 ≤ (re x4.toNatClampNeg) then
          f_X0_endsBefore_5 n re rc x1 x3 (x4 + 1)
        else
          f_X0_endsBefore_5 n re rc x1 (x3 + 1) (x4 + 1)
      else none
theorem f_X0_endsBefore_5_0 {re : Nat → Int64} {rc : Int32} {x1 : Int64} {x3 : Int32} {x4 : Int32} : f_X0_endsBefore_5 0 re rc x1 x3 x4 = none := rfl
theorem f_X0_endsBefore_5_s {n : Nat} {re : Nat → Int64} {rc : Int32} {x1 : Int64} {x3 : Int32} {x4 : Int32} : f_X0_endsBefore_5 (n + 1) re rc x1 x3 x4 =
  if rc ≤ x4 then
    some x3
  else
    if ix x4 11 then
      if x1 ≤ (re x4.toNatClampNeg) then
        f_X0_endsBefore_5 n re rc x1 x3 (x4 + 1)
      else
        f_X0_endsBefore_5 n re rc x1 (x3 + 1) (x4 + 1)
    else none := rfl
noncomputable def f_X0_endsBefore (re : Nat → Int64) (rc : Int32) (p0 : Int64) : Option (Int32) :=
  f_X0_endsBefore_5 24 re rc p0 0 0
theorem f_X0_endsBefore_e {re : Nat → Int64} {rc : Int32} {p0 : Int64} : f_X0_endsBefore re rc p0 = 
  f_X0_endsBefore_5 24 re rc p0 0 0 := rfl
set_option maxHeartbeats 4000000 in
set_option maxRecDepth 100000 in
theorem c_X0_endsBefore (l : Launch) (dC : Nat → ClassId) (dI : Nat → Nat → Nat) (cB cI cJ cZ : ClassId) (h0 : Nat) (h1 : Nat) (h2 : Nat) (h3 : Nat) (sz : Nat) (rb : Nat → Int64) (re : Nat → Int64) (ro : Nat → Int32) (rc : Int32) (p0 : Int64) (res : Int32) (hf : f_X0_endsBefore re rc p0 = some res) : kMi l yX0_endsBefore wsX0_endsBefore (kRm 0 0 0 0) dC dI cB cI cJ cZ [.ref h0, .long p0] sz (wRow cJ cZ h0 h1 h2 h3 rb re ro rc) .int (res) (wRow cJ cZ h0 h1 h2 h3 rb re ro rc) 0 0 := by
  refine kmet_i (y := yX0_endsBefore) (cc := cX0_endsBefore) (maxL := 5) (ret := (some .int)) RX0 (kvA 0 h0 (kvJ 1 p0 kvE)) kpl_X0 rfl rfl (Nat.le_of_ble_eq_true rfl) rfl (fun p e s m below meth c A ls hx hb hr hml hts hown hlocks hP hK hG hD hA hS hl => ?_)
  have hw0 := hts (.fieldLink RX0 22 "Spanbooker$Row" "count" "I") (List.mem_cons_of_mem _ kw_95)
  have hw1 := hts (.fieldLink RX0 15 "Spanbooker$Row" "ends" "[J") (List.mem_cons_of_mem _ kw_93)
  have hiX0 : ∀ w ∈ u_ws RX0 TX0 4, w ∈ wsX0_endsBefore := fun w h => List.mem_cons_of_mem _ (ku_X0 w h)
  have J5 : ∀ (n : Nat), ∀ (rb : Nat → Int64) (re : Nat → Int64) (ro : Nat → Int32) (rc : Int32) (x1 : Int64) (x3 : Int32) (x4 : Int32) (H : Heap) (locs : List Loc), va_P (dC, dI) vwCl (wRow cJ cZ h0 h1 h2 h3 rb re ro rc) H → va_D A (wRow cJ cZ h0 h1 h2 h3 rb re ro rc) → va_S A s.heap H locs → ∀ (ls : Array Slot), lv_has ls 5 (kvA 0 h0 (kvJ 1 x1 (kvI 3 x3 (kvI 4 x4 kvE)))) → f_X0_endsBefore_5 n re rc x1 x3 x4 = some res → W p l e (headSpec wsX0_endsBefore (kRm 0 0 0 0)).room s m ([.ref h0, .long p0] : List Value).toArray below meth c H locs 0 0 (MQ below (kI (dC, dI) .int (res) (wRow cJ cZ h0 h1 h2 h3 rb re ro rc) A) ([.ref h0, .long p0] : List Value).toArray s 0 0 A) (F0 m 5 ls []) := by
    intro n
    induction n with
    | zero =>
      intro rb re ro rc x1 x3 x4 H locs hP hD hS ls hl h
      have h := f_X0_endsBefore_5_0.symm.trans h
      cases h
    | succ n ih =>
      intro rb re ro rc x1 x3 x4 H locs hP hD hS ls hl h
      have h := f_X0_endsBefore_5_s.symm.trans h
      refine lv_iload hx hb (kdr dgX0_endsBefore_0 0 4 rfl rfl) (lv_at hl 3 rfl) ?_
      refine lv_aload_n hx hb (kdr dgX0_endsBefore_0 0 5 rfl rfl) rfl (lv_at hl 0 rfl) ?_
      refine va_get (D := (dC, dI)) (ci := 2) (v := .int rc) (C := RX0) (T := TX0) (N := 4) hx hb hts hiX0 hown hK hP 0 rfl rfl 3 (by decide) hw0 (fun _ h9 => h9) rfl (kdr dgX0_endsBefore_0 0 6 rfl rfl) ?_
      refine lv_icmp_ge (tgt := 35) hx hb (kdr dgX0_endsBefore_0 0 7 rfl rfl) (by decide) (fun c1 => ?_) (fun c1 => ?_)
      · have h := g_t c1 h
        refine lv_iload_n hx hb (kdr dgX0_endsBefore_0 1 8 rfl rfl) rfl (lv_at hl 2 rfl) ?_
        have h := Option.some.inj h
        subst h
        exact kret_i (v := x3) hx hb hr rfl hlocks hS hP (kdr dgX0_endsBefore_0 1 9 rfl rfl)
      · have h := g_f c1 h
        refine lv_aload_n hx hb (kdr dgX0_endsBefore_0 0 8 rfl rfl) rfl (lv_at hl 0 rfl) ?_
        refine va_get (D := (dC, dI)) (ci := 2) (v := .ref h2) (C := RX0) (T := TX0) (N := 4) hx hb hts hiX0 hown hK hP 0 rfl rfl 1 (by decide) hw1 (fun _ h9 => h9) rfl (kdr dgX0_endsBefore_0 0 9 rfl rfl) ?_
        refine lv_iload hx hb (kdr dgX0_endsBefore_0 1 0 rfl rfl) (lv_at hl 3 rfl) ?_
        obtain ⟨z1, h⟩ := g_if h
        refine va_lald hx hb hK hP 2 2 rfl rfl (ix_in z1) (kdr dgX0_endsBefore_0 1 1 rfl rfl) ?_
        refine lv_lload_n hx hb (kdr dgX0_endsBefore_0 1 2 rfl rfl) rfl (lv_at hl 1 rfl) ?_
        refine kl_ge (pc := 22) (tgt := 29) hx hb (kdr dgX0_endsBefore_0 1 3 rfl rfl) (kdr dgX0_endsBefore_0 1 4 rfl rfl) (by decide) (fun c3 => ?_) (fun c3 => ?_)
        · have h := g_t c3 h
          refine lv_iinc (v := x4 + 1) (lv' := (kvI 4 (x4 + 1) (kvA 0 h0 (kvJ 1 x1 (kvI 3 x3 kvE))))) hx hb (kdr dgX0_endsBefore_0 1 6 rfl rfl) hl (k := 3) rfl rfl (by decide) rfl (fun ls hl => ?_)
          refine lv_goto (tgt := 5) hx hb (kdr dgX0_endsBefore_0 1 7 rfl rfl) (by decide) ?_
          exact ih rb re ro rc x1 x3 (x4 + 1) _ _ hP hD hS ls (lv_sub hl [1, 2, 3, 0] rfl) h
        · have h := g_f c3 h
          refine lv_iinc (v := x3 + 1) (lv' := (kvI 3 (x3 + 1) (kvA 0 h0 (kvJ 1 x1 (kvI 4 x4 kvE))))) hx hb (kdr dgX0_endsBefore_0 1 5 rfl rfl) hl (k := 2) rfl rfl (by decide) rfl (fun ls hl => ?_)
          refine lv_iinc (v := x4 + 1) (lv' := (kvI 4 (x4 + 1) (kvI 3 (x3 + 1) (kvA 0 h0 (kvJ 1 x1 kvE))))) hx hb (kdr dgX0_endsBefore_0 1 6 rfl rfl) hl (k := 3) rfl rfl (by decide) rfl (fun ls hl => ?_)
          refine lv_goto (tgt := 5) hx hb (kdr dgX0_endsBefore_0 1 7 rfl rfl) (by decide) ?_
          exact ih rb re ro rc x1 (x3 + 1) (x4 + 1) _ _ hP hD hS ls (lv_sub hl [2, 3, 1, 0] rfl) h
  have h := f_X0_endsBefore_e.symm.trans hf
  refine lv_iconst (v := 0) hx hb (kdr dgX0_endsBefore_0 0 0 rfl rfl) (by decide) ?_
  refine lv_istore_n (lv' := (kvI 3 0 (kvA 0 h0 (kvJ 1 p0 kvE)))) hx hb (kdr dgX0_endsBefore_0 0 1 rfl rfl) rfl hl (by decide) rfl (fun ls hl => ?_)
  refine lv_iconst (v := 0) hx hb (kdr dgX0_endsBefore_0 0 2 rfl rfl) (by decide) ?_
  refine lv_istore (lv' := (kvI 4 0 (kvI 3 0 (kvA 0 h0 (kvJ 1 p0 kvE))))) hx hb (kdr dgX0_endsBefore_0 0 3 rfl rfl) hl (by decide) rfl (fun ls hl => ?_)
  exact J5 24 rb re ro rc p0 0 0 _ _ hP hD hS ls (lv_sub hl [2, 3, 1, 0] rfl) h
noncomputable abbrev wsX0_depth : List Cond := kWs yX0_depth cX0_depth 5 (some .int)
noncomputable def f_X0_depth_17 (K4 : (Nat → Int64) → (Nat → Int64) → (Int32) → (Int32) → (Int32) → Option (Int32)) : Nat → (Nat → Int64) → (Nat → Int64) → (Int32) → (Int32) → (Int32) → (Int32) → (Int32) → Option (Int32)
  | 0, _, _, _, _, _, _, _ => none
  | n + 1, rb, re, rc, x1, x2, x3, x4 =>
    if rc ≤ x4 then
      K4 rb re rc (if x1 < x3 then x3 else x1) (x2 + 1)
    else
      if ix x4 11 then
        if ix x2 11 then
          if (rb x2.toNatClampNeg) < (rb x4.toNatClampNeg) then
            f_X0_depth_17 K4 n rb re rc x1 x2 x3 (x4 + 1)
          else
            if (re x4.toNatClampNeg) ≤ (rb x2.toNatClampNeg) then
              f_X0_depth_17 K4 n rb re rc x1 x2 x3 (x4 + 1)
            else
              f_X0_depth_17 K4 n rb re rc x1 x2 (x3 + 1) (x4 + 1)
        else none
      else none
theorem f_X0_depth_17_0 {K4 : (Nat → Int64) → (Nat → Int64) → (Int32) → (Int32) → (Int32) → Option (Int32)} {rb : Nat → Int64} {re : Nat → Int64} {rc : Int32} {x1 : Int32} {x2 : Int32} {x3 : Int32} {x4 : Int32} : f_X0_depth_17 K4 0 rb re rc x1 x2 x3 x4 = none := rfl
theorem f_X0_depth_17_s {K4 : (Nat → Int64) → (Nat → Int64) → (Int32) → (Int32) → (Int32) → Option (Int32)} {n : Nat} {rb : Nat → Int64} {re : Nat → Int64} {rc : Int32} {x1 : Int32} {x2 : Int32} {x3 : Int32} {x4 : Int32} : f_X0_depth_17 K4 (n + 1) rb re rc x1 x2 x3 x4 =
  if rc ≤ x4 then
    K4 rb re rc (if x1 < x3 then x3 else x1) (x2 + 1)
  else
    if ix x4 11 then
      if ix x2 11 then
        if (rb x2.toNatClampNeg) < (rb x4.toNatClampNeg) then
          f_X0_depth_17 K4 n rb re rc x1 x2 x3 (x4 + 1)
        else
          if (re x4.toNatClampNeg) ≤ (rb x2.toNatClampNeg) then
            f_X0_depth_17 K4 n rb re rc x1 x2 x3 (x4 + 1)
          else
            f_X0_depth_17 K4 n rb re rc x1 x2 (x3 + 1) (x4 + 1)
      else none
    else none := rfl
noncomputable def f_X0_depth_4 : Nat → (Nat → Int64) → (Nat → Int64) → (Int32) → (Int32) → (Int32) → Option (Int32)
  | 0, _, _, _, _, _ => none
  | n + 1, rb, re, rc, x1, x2 =>
    if rc ≤ x2 then
      some x1
    else
      f_X0_depth_17 (f_X0_depth_4 n) 24 rb re rc x1 x2 0 0
theorem f_X0_depth_4_0 {rb : Nat → Int64} {re : Nat → Int64} {rc : Int32} {x1 : Int32} {x2 : Int32} : f_X0_depth_4 0 rb re rc x1 x2 = none := rfl
theorem f_X0_depth_4_s {n : Nat} {rb : Nat → Int64} {re : Nat → Int64} {rc : Int32} {x1 : Int32} {x2 : Int32} : f_X0_depth_4 (n + 1) rb re rc x1 x2 =
  if rc ≤ x2 then
    some x1
  else
    f_X0_depth_17 (f_X0_depth_4 n) 24 rb re rc x1 x2 0 0 := rfl
noncomputable def f_X0_depth (rb : Nat → Int64) (re : Nat → Int64) (rc : Int32) : Option (Int32) :=
  f_X0_depth_4 24 rb re rc 0 0
theorem f_X0_depth_e {rb : Nat → Int64} {re : Nat → Int64} {rc : Int32} : f_X0_depth rb re rc = 
  f_X0_depth_4 24 rb re rc 0 0 := rfl
set_option maxHeartbeats 4000000 in
set_option maxRecDepth 100000 in
theorem c_X0_depth (l : Launch) (dC : Nat → ClassId) (dI : Nat → Nat → Nat) (cB cI cJ cZ : ClassId) (h0 : Nat) (h1 : Nat) (h2 : Nat) (h3 : Nat) (sz : Nat) (rb : Nat → Int64) (re : Nat → Int64) (ro : Nat → Int32) (rc : Int32) (res : Int32) (hf : f_X0_depth rb re rc = some res) : kMi l yX0_depth wsX0_depth (kRm 1 0 0 40) dC dI cB cI cJ cZ [.ref h0] sz (wRow cJ cZ h0 h1 h2 h3 rb re ro rc) .int (res) (wRow cJ cZ h0 h1 h2 h3 rb re ro rc) 0 0 := by
  refine kmet_i (y := yX0_depth) (cc := cX0_depth) (maxL := 5) (ret := (some .int)) RX0 (kvA 0 h0 kvE) kpl_X0 rfl rfl (Nat.le_of_ble_eq_true rfl) rfl (fun p e s m below meth c A ls hx hb hr hml hts hown hlocks hP hK hG hD hA hS hl => ?_)
  have hw0 := hts (.fieldLink RX0 22 "Spanbooker$Row" "count" "I") (List.mem_cons_of_mem _ kw_95)
  have hw1 := hts (.methodLink RX0 38 Lib.Math.max.name) (List.mem_cons_of_mem _ kw_175)
  have hw2 := hts (.static Lib.Math.max.name) (List.mem_cons_of_mem _ kw_176)
  have hw3 := hts (.initialized "java/lang/Math") (List.mem_cons_of_mem _ kw_66)
  have hw4 := hts (.code Lib.Math.max.name Lib.Math.max.code 2 (some .int)) (List.mem_cons_of_mem _ kw_177)
  have hw5 := hts (.fieldLink RX0 9 "Spanbooker$Row" "begins" "[J") (List.mem_cons_of_mem _ kw_92)
  have hw6 := hts (.fieldLink RX0 15 "Spanbooker$Row" "ends" "[J") (List.mem_cons_of_mem _ kw_93)
  have hiX0 : ∀ w ∈ u_ws RX0 TX0 4, w ∈ wsX0_depth := fun w h => List.mem_cons_of_mem _ (ku_X0 w h)
  have J17 : ∀ (K4 : (Nat → Int64) → (Nat → Int64) → (Int32) → (Int32) → (Int32) → Option (Int32)), (∀ (rb : Nat → Int64) (re : Nat → Int64) (ro : Nat → Int32) (rc : Int32) (x1 : Int32) (x2 : Int32) (H : Heap) (locs : List Loc), va_P (dC, dI) vwCl (wRow cJ cZ h0 h1 h2 h3 rb re ro rc) H → va_D A (wRow cJ cZ h0 h1 h2 h3 rb re ro rc) → va_S A s.heap H locs → ∀ (ls : Array Slot), lv_has ls 5 (kvA 0 h0 (kvI 1 x1 (kvI 2 x2 kvE))) → K4 rb re rc x1 x2 = some res → W p l e (headSpec wsX0_depth (kRm 1 0 0 40)).room s m ([.ref h0] : List Value).toArray below meth c H locs 0 0 (MQ below (kI (dC, dI) .int (res) (wRow cJ cZ h0 h1 h2 h3 rb re ro rc) A) ([.ref h0] : List Value).toArray s 0 0 A) (F0 m 4 ls [])) → ∀ (n : Nat), ∀ (rb : Nat → Int64) (re : Nat → Int64) (ro : Nat → Int32) (rc : Int32) (x1 : Int32) (x2 : Int32) (x3 : Int32) (x4 : Int32) (H : Heap) (locs : List Loc), va_P (dC, dI) vwCl (wRow cJ cZ h0 h1 h2 h3 rb re ro rc) H → va_D A (wRow cJ cZ h0 h1 h2 h3 rb re ro rc) → va_S A s.heap H locs → ∀ (ls : Array Slot), lv_has ls 5 (kvA 0 h0 (kvI 1 x1 (kvI 2 x2 (kvI 3 x3 (kvI 4 x4 kvE))))) → f_X0_depth_17 K4 n rb re rc x1 x2 x3 x4 = some res → W p l e (headSpec wsX0_depth (kRm 1 0 0 40)).room s m ([.ref h0] : List Value).toArray below meth c H locs 0 0 (MQ below (kI (dC, dI) .int (res) (wRow cJ cZ h0 h1 h2 h3 rb re ro rc) A) ([.ref h0] : List Value).toArray s 0 0 A) (F0 m 17 ls []) := by
    intro K4 hK4 n
    induction n with
    | zero =>
      intro rb re ro rc x1 x2 x3 x4 H locs hP hD hS ls hl h
      have h := f_X0_depth_17_0.symm.trans h
      cases h
    | succ n ih =>
      intro rb re ro rc x1 x2 x3 x4 H locs hP hD hS ls hl h
      have h := f_X0_depth_17_s.symm.trans h
      refine lv_iload hx hb (kdr dgX0_depth_0 1 2 rfl rfl) (lv_at hl 4 rfl) ?_
      refine lv_aload_n hx hb (kdr dgX0_depth_0 1 3 rfl rfl) rfl (lv_at hl 0 rfl) ?_
      refine va_get (D := (dC, dI)) (ci := 2) (v := .int rc) (C := RX0) (T := TX0) (N := 4) hx hb hts hiX0 hown hK hP 0 rfl rfl 3 (by decide) hw0 (fun _ h9 => h9) rfl (kdr dgX0_depth_0 1 4 rfl rfl) ?_
      refine lv_icmp_ge (tgt := 69) hx hb (kdr dgX0_depth_0 1 5 rfl rfl) (by decide) (fun c1 => ?_) (fun c1 => ?_)
      · have h := g_t c1 h
        refine lv_iload_n hx hb (kdr dgX0_depth_0 3 9 rfl rfl) rfl (lv_at hl 1 rfl) ?_
        refine lv_iload_n hx hb (kdr dgX0_depth_0 4 0 rfl rfl) rfl (lv_at hl 3 rfl) ?_
        refine va_mmax hx hb (hml.trans hl.1.symm) hown hw1 hw2 hw3 hw4 (Nat.le_of_ble_eq_true rfl) (Nat.le_of_ble_eq_true rfl) (Nat.le_of_ble_eq_true rfl) (Nat.le_of_ble_eq_true rfl) (kdr dgX0_depth_0 4 1 rfl rfl) ?_
        refine lv_istore_n (lv' := (kvI 1 (if x1 < x3 then x3 else x1) (kvA 0 h0 (kvI 2 x2 (kvI 3 x3 (kvI 4 x4 kvE)))))) hx hb (kdr dgX0_depth_0 4 2 rfl rfl) rfl hl (by decide) rfl (fun ls hl => ?_)
        refine lv_iinc (v := x2 + 1) (lv' := (kvI 2 (x2 + 1) (kvI 1 (if x1 < x3 then x3 else x1) (kvA 0 h0 (kvI 3 x3 (kvI 4 x4 kvE)))))) hx hb (kdr dgX0_depth_0 4 3 rfl rfl) hl (k := 2) rfl rfl (by decide) rfl (fun ls hl => ?_)
        refine lv_goto (tgt := 4) hx hb (kdr dgX0_depth_0 4 4 rfl rfl) (by decide) ?_
        exact hK4 rb re ro rc (if x1 < x3 then x3 else x1) (x2 + 1) _ _ hP hD hS ls (lv_sub hl [2, 1, 0] rfl) h
      · have h := g_f c1 h
        refine lv_aload_n hx hb (kdr dgX0_depth_0 1 6 rfl rfl) rfl (lv_at hl 0 rfl) ?_
        refine va_get (D := (dC, dI)) (ci := 2) (v := .ref h1) (C := RX0) (T := TX0) (N := 4) hx hb hts hiX0 hown hK hP 0 rfl rfl 0 (by decide) hw5 (fun _ h9 => h9) rfl (kdr dgX0_depth_0 1 7 rfl rfl) ?_
        refine lv_iload hx hb (kdr dgX0_depth_0 1 8 rfl rfl) (lv_at hl 4 rfl) ?_
        obtain ⟨z1, h⟩ := g_if h
        refine va_lald hx hb hK hP 1 2 rfl rfl (ix_in z1) (kdr dgX0_depth_0 1 9 rfl rfl) ?_
        refine lv_aload_n hx hb (kdr dgX0_depth_0 2 0 rfl rfl) rfl (lv_at hl 0 rfl) ?_
        refine va_get (D := (dC, dI)) (ci := 2) (v := .ref h1) (C := RX0) (T := TX0) (N := 4) hx hb hts hiX0 hown hK hP 0 rfl rfl 0 (by decide) hw5 (fun _ h9 => h9) rfl (kdr dgX0_depth_0 2 1 rfl rfl) ?_
        refine lv_iload_n hx hb (kdr dgX0_depth_0 2 2 rfl rfl) rfl (lv_at hl 2 rfl) ?_
        obtain ⟨z2, h⟩ := g_if h
        refine va_lald hx hb hK hP 1 2 rfl rfl (ix_in z2) (kdr dgX0_depth_0 2 3 rfl rfl) ?_
        refine kl_gt (pc := 39) (tgt := 63) hx hb (kdr dgX0_depth_0 2 4 rfl rfl) (kdr dgX0_depth_0 2 5 rfl rfl) (by decide) (fun c4 => ?_) (fun c4 => ?_)
        · have h := g_t c4 h
          refine lv_iinc (v := x4 + 1) (lv' := (kvI 4 (x4 + 1) (kvA 0 h0 (kvI 1 x1 (kvI 2 x2 (kvI 3 x3 kvE)))))) hx hb (kdr dgX0_depth_0 3 7 rfl rfl) hl (k := 4) rfl rfl (by decide) rfl (fun ls hl => ?_)
          refine lv_goto (tgt := 17) hx hb (kdr dgX0_depth_0 3 8 rfl rfl) (by decide) ?_
          exact ih rb re ro rc x1 x2 x3 (x4 + 1) _ _ hP hD hS ls (lv_sub hl [1, 2, 3, 4, 0] rfl) h
        · have h := g_f c4 h
          refine lv_aload_n hx hb (kdr dgX0_depth_0 2 6 rfl rfl) rfl (lv_at hl 0 rfl) ?_
          refine va_get (D := (dC, dI)) (ci := 2) (v := .ref h1) (C := RX0) (T := TX0) (N := 4) hx hb hts hiX0 hown hK hP 0 rfl rfl 0 (by decide) hw5 (fun _ h9 => h9) rfl (kdr dgX0_depth_0 2 7 rfl rfl) ?_
          refine lv_iload_n hx hb (kdr dgX0_depth_0 2 8 rfl rfl) rfl (lv_at hl 2 rfl) ?_
          refine va_lald hx hb hK hP 1 2 rfl rfl (ix_in z2) (kdr dgX0_depth_0 2 9 rfl rfl) ?_
          refine lv_aload_n hx hb (kdr dgX0_depth_0 3 0 rfl rfl) rfl (lv_at hl 0 rfl) ?_
          refine va_get (D := (dC, dI)) (ci := 2) (v := .ref h2) (C := RX0) (T := TX0) (N := 4) hx hb hts hiX0 hown hK hP 0 rfl rfl 1 (by decide) hw6 (fun _ h9 => h9) rfl (kdr dgX0_depth_0 3 1 rfl rfl) ?_
          refine lv_iload hx hb (kdr dgX0_depth_0 3 2 rfl rfl) (lv_at hl 4 rfl) ?_
          refine va_lald hx hb hK hP 2 2 rfl rfl (ix_in z1) (kdr dgX0_depth_0 3 3 rfl rfl) ?_
          refine kl_ge (pc := 56) (tgt := 63) hx hb (kdr dgX0_depth_0 3 4 rfl rfl) (kdr dgX0_depth_0 3 5 rfl rfl) (by decide) (fun c5 => ?_) (fun c5 => ?_)
          · have h := g_t c5 h
            refine lv_iinc (v := x4 + 1) (lv' := (kvI 4 (x4 + 1) (kvA 0 h0 (kvI 1 x1 (kvI 2 x2 (kvI 3 x3 kvE)))))) hx hb (kdr dgX0_depth_0 3 7 rfl rfl) hl (k := 4) rfl rfl (by decide) rfl (fun ls hl => ?_)
            refine lv_goto (tgt := 17) hx hb (kdr dgX0_depth_0 3 8 rfl rfl) (by decide) ?_
            exact ih rb re ro rc x1 x2 x3 (x4 + 1) _ _ hP hD hS ls (lv_sub hl [1, 2, 3, 4, 0] rfl) h
          · have h := g_f c5 h
            refine lv_iinc (v := x3 + 1) (lv' := (kvI 3 (x3 + 1) (kvA 0 h0 (kvI 1 x1 (kvI 2 x2 (kvI 4 x4 kvE)))))) hx hb (kdr dgX0_depth_0 3 6 rfl rfl) hl (k := 3) rfl rfl (by decide) rfl (fun ls hl => ?_)
            refine lv_iinc (v := x4 + 1) (lv' := (kvI 4 (x4 + 1) (kvI 3 (x3 + 1) (kvA 0 h0 (kvI 1 x1 (kvI 2 x2 kvE)))))) hx hb (kdr dgX0_depth_0 3 7 rfl rfl) hl (k := 4) rfl rfl (by decide) rfl (fun ls hl => ?_)
            refine lv_goto (tgt := 17) hx hb (kdr dgX0_depth_0 3 8 rfl rfl) (by decide) ?_
            exact ih rb re ro rc x1 x2 (x3 + 1) (x4 + 1) _ _ hP hD hS ls (lv_sub hl [2, 3, 4, 1, 0] rfl) h
  have J4 : ∀ (n : Nat), ∀ (rb : Nat → Int64) (re : Nat → Int64) (ro : Nat → Int32) (rc : Int32) (x1 : Int32) (x2 : Int32) (H : Heap) (locs : List Loc), va_P (dC, dI) vwCl (wRow cJ cZ h0 h1 h2 h3 rb re ro rc) H → va_D A (wRow cJ cZ h0 h1 h2 h3 rb re ro rc) → va_S A s.heap H locs → ∀ (ls : Array Slot), lv_has ls 5 (kvA 0 h0 (kvI 1 x1 (kvI 2 x2 kvE))) → f_X0_depth_4 n rb re rc x1 x2 = some res → W p l e (headSpec wsX0_depth (kRm 1 0 0 40)).room s m ([.ref h0] : List Value).toArray below meth c H locs 0 0 (MQ below (kI (dC, dI) .int (res) (wRow cJ cZ h0 h1 h2 h3 rb re ro rc) A) ([.ref h0] : List Value).toArray s 0 0 A) (F0 m 4 ls []) := by
    intro n
    induction n with
    | zero =>
      intro rb re ro rc x1 x2 H locs hP hD hS ls hl h
      have h := f_X0_depth_4_0.symm.trans h
      cases h
    | succ n ih =>
      intro rb re ro rc x1 x2 H locs hP hD hS ls hl h
      have h := f_X0_depth_4_s.symm.trans h
      refine lv_iload_n hx hb (kdr dgX0_depth_0 0 4 rfl rfl) rfl (lv_at hl 2 rfl) ?_
      refine lv_aload_n hx hb (kdr dgX0_depth_0 0 5 rfl rfl) rfl (lv_at hl 0 rfl) ?_
      refine va_get (D := (dC, dI)) (ci := 2) (v := .int rc) (C := RX0) (T := TX0) (N := 4) hx hb hts hiX0 hown hK hP 0 rfl rfl 3 (by decide) hw0 (fun _ h9 => h9) rfl (kdr dgX0_depth_0 0 6 rfl rfl) ?_
      refine lv_icmp_ge (tgt := 81) hx hb (kdr dgX0_depth_0 0 7 rfl rfl) (by decide) (fun c1 => ?_) (fun c1 => ?_)
      · have h := g_t c1 h
        refine lv_iload_n hx hb (kdr dgX0_depth_0 4 5 rfl rfl) rfl (lv_at hl 1 rfl) ?_
        have h := Option.some.inj h
        subst h
        exact kret_i (v := x1) hx hb hr rfl hlocks hS hP (kdr dgX0_depth_0 4 6 rfl rfl)
      · have h := g_f c1 h
        refine lv_iconst (v := 0) hx hb (kdr dgX0_depth_0 0 8 rfl rfl) (by decide) ?_
        refine lv_istore_n (lv' := (kvI 3 0 (kvA 0 h0 (kvI 1 x1 (kvI 2 x2 kvE))))) hx hb (kdr dgX0_depth_0 0 9 rfl rfl) rfl hl (by decide) rfl (fun ls hl => ?_)
        refine lv_iconst (v := 0) hx hb (kdr dgX0_depth_0 1 0 rfl rfl) (by decide) ?_
        refine lv_istore (lv' := (kvI 4 0 (kvI 3 0 (kvA 0 h0 (kvI 1 x1 (kvI 2 x2 kvE)))))) hx hb (kdr dgX0_depth_0 1 1 rfl rfl) hl (by decide) rfl (fun ls hl => ?_)
        exact J17 (f_X0_depth_4 n) ih 24 rb re ro rc x1 x2 0 0 _ _ hP hD hS ls (lv_sub hl [2, 3, 4, 1, 0] rfl) h
  have h := f_X0_depth_e.symm.trans hf
  refine lv_iconst (v := 0) hx hb (kdr dgX0_depth_0 0 0 rfl rfl) (by decide) ?_
  refine lv_istore_n (lv' := (kvI 1 0 (kvA 0 h0 kvE))) hx hb (kdr dgX0_depth_0 0 1 rfl rfl) rfl hl (by decide) rfl (fun ls hl => ?_)
  refine lv_iconst (v := 0) hx hb (kdr dgX0_depth_0 0 2 rfl rfl) (by decide) ?_
  refine lv_istore_n (lv' := (kvI 2 0 (kvI 1 0 (kvA 0 h0 kvE)))) hx hb (kdr dgX0_depth_0 0 3 rfl rfl) rfl hl (by decide) rfl (fun ls hl => ?_)
  exact J4 24 rb re ro rc 0 0 _ _ hP hD hS ls (lv_sub hl [2, 1, 0] rfl) h
end
-- 08.sb.lean.txt
section
noncomputable abbrev wsX1_isWithin : List Cond := kWs yX1_isWithin cX1_isWithin 3 (some .boolean)
noncomputable def f_X1_isWithin (p0 : Int32) (p1 : Int32) (p2 : Int32) : Option (Int32) :=
  if p0 < p1 then
    some 0
  else
    if p2 < p0 then
      some 0
    else
      some 1
theorem f_X1_isWithin_e {p0 : Int32} {p1 : Int32} {p2 : Int32} : f_X1_isWithin p0 p1 p2 = 
  if p0 < p1 then
    some 0
  else
    if p2 < p0 then
      some 0
    else
      some 1 := rfl
set_option maxHeartbeats 4000000 in
set_option maxRecDepth 100000 in
theorem c_X1_isWithin (l : Launch) (dC : Nat → ClassId) (dI : Nat → Nat → Nat) (cB cI cJ cZ : ClassId) (sz : Nat) (p0 : Int32) (p1 : Int32) (p2 : Int32) (res : Int32) (hf : f_X1_isWithin p0 p1 p2 = some res) : kMi l yX1_isWithin wsX1_isWithin (kRm 0 0 0 0) dC dI cB cI cJ cZ [.int p0, .int p1, .int p2] sz [] .boolean (res) [] 0 0 := by
  refine kmet_i (y := yX1_isWithin) (cc := cX1_isWithin) (maxL := 3) (ret := (some .boolean)) RX1 (kvI 0 p0 (kvI 1 p1 (kvI 2 p2 kvE))) kpl_X1 rfl rfl (Nat.le_of_ble_eq_true rfl) rfl (fun p e s m below meth c A ls hx hb hr hml hts hown hlocks hP hK hG hD hA hS hl => ?_)
  have h := f_X1_isWithin_e.symm.trans hf
  refine lv_iload_n hx hb (kdr dgX1_isWithin_0 0 0 rfl rfl) rfl (lv_at hl 0 rfl) ?_
  refine lv_iload_n hx hb (kdr dgX1_isWithin_0 0 1 rfl rfl) rfl (lv_at hl 1 rfl) ?_
  refine lv_icmp_lt (tgt := 14) hx hb (kdr dgX1_isWithin_0 0 2 rfl rfl) (by decide) (fun c1 => ?_) (fun c1 => ?_)
  · have h := g_t c1 h
    refine lv_iconst (v := 0) hx hb (kdr dgX1_isWithin_0 0 8 rfl rfl) (by decide) ?_
    have h := Option.some.inj h
    subst h
    exact kret_i (v := 0) hx hb hr rfl hlocks hS hP (kdr dgX1_isWithin_0 0 9 rfl rfl)
  · have h := g_f c1 h
    refine lv_iload_n hx hb (kdr dgX1_isWithin_0 0 3 rfl rfl) rfl (lv_at hl 0 rfl) ?_
    refine lv_iload_n hx hb (kdr dgX1_isWithin_0 0 4 rfl rfl) rfl (lv_at hl 2 rfl) ?_
    refine lv_icmp_gt (tgt := 14) hx hb (kdr dgX1_isWithin_0 0 5 rfl rfl) (by decide) (fun c2 => ?_) (fun c2 => ?_)
    · have h := g_t c2 h
      refine lv_iconst (v := 0) hx hb (kdr dgX1_isWithin_0 0 8 rfl rfl) (by decide) ?_
      have h := Option.some.inj h
      subst h
      exact kret_i (v := 0) hx hb hr rfl hlocks hS hP (kdr dgX1_isWithin_0 0 9 rfl rfl)
    · have h := g_f c2 h
      refine lv_iconst (v := 1) hx hb (kdr dgX1_isWithin_0 0 6 rfl rfl) (by decide) ?_
      refine lv_goto (tgt := 15) hx hb (kdr dgX1_isWithin_0 0 7 rfl rfl) (by decide) ?_
      have h := Option.some.inj h
      subst h
      exact kret_i (v := 1) hx hb hr rfl hlocks hS hP (kdr dgX1_isWithin_0 0 9 rfl rfl)
noncomputable abbrev wsX1_done : List Cond := kWs yX1_done cX1_done 2 (some .int)
noncomputable def f_X1_done (ac : Int32) (p0 : Int32) : Option ((Int32) × (Int32)) :=
  some (p0, ac + 1)
theorem f_X1_done_e {ac : Int32} {p0 : Int32} : f_X1_done ac p0 = 
  some (p0, ac + 1) := rfl
set_option maxHeartbeats 4000000 in
set_option maxRecDepth 100000 in
theorem c_X1_done (l : Launch) (dC : Nat → ClassId) (dI : Nat → Nat → Nat) (cB cI cJ cZ : ClassId) (a : Nat → Nat) (sz : Nat) (ce : Nat → Int64) (fr : Int64) (un : Int64) (sb : Nat → Int64) (se : Nat → Int64) (so : Nat → Int32) (sc : Int32) (wb : Nat → Int64) (we : Nat → Int64) (wo : Nat → Int32) (wc : Int32) (fb : Nat → Int64) (fe : Nat → Int64) (fo : Nat → Int32) (fc : Int32) (rm : Nat → Int32) (ac : Int32) (rf : Int32) (kn : Int32) (p0 : Int32) (res : (Int32) × (Int32)) (hf : f_X1_done ac p0 = some res) : kMi l yX1_done wsX1_done (kRm 0 0 0 0) dC dI cB cI cJ cZ [.ref (a 0), .int p0] sz (wSB cI cJ cZ a ce fr un sb se so sc wb we wo wc fb fe fo fc rm ac rf kn) .int (res.1) (wSB cI cJ cZ a ce fr un sb se so sc wb we wo wc fb fe fo fc rm (res.2) rf kn) 0 0 := by
  refine kmet_i (y := yX1_done) (cc := cX1_done) (maxL := 2) (ret := (some .int)) RX1 (kvA 0 (a 0) (kvI 1 p0 kvE)) kpl_X1 rfl rfl (Nat.le_of_ble_eq_true rfl) rfl (fun p e s m below meth c A ls hx hb hr hml hts hown hlocks hP hK hG hD hA hS hl => ?_)
  have hw0 := hts (.fieldLink RX1 224 "Spanbooker" "acts" "I") (List.mem_cons_of_mem _ kw_114)
  have hiX1 : ∀ w ∈ u_ws RX1 TX1 10, w ∈ wsX1_done := fun w h => List.mem_cons_of_mem _ (ku_X1 w h)
  have h := f_X1_done_e.symm.trans hf
  refine lv_aload_n hx hb (kdr dgX1_done_0 0 0 rfl rfl) rfl (lv_at hl 0 rfl) ?_
  refine lv_dup hx hb (kdr dgX1_done_0 0 1 rfl rfl) rfl ?_
  refine va_get (D := (dC, dI)) (ci := 3) (v := .int ac) (C := RX1) (T := TX1) (N := 10) hx hb hts hiX1 hown hK hP 0 rfl rfl 7 (by decide) hw0 (fun _ h9 => h9) rfl (kdr dgX1_done_0 0 2 rfl rfl) ?_
  refine lv_iconst (v := 1) hx hb (kdr dgX1_done_0 0 3 rfl rfl) (by decide) ?_
  refine lv_iadd hx hb (kdr dgX1_done_0 0 4 rfl rfl) ?_
  refine va_put (D := (dC, dI)) (ci := 3) (v := .int (ac + 1)) (ty := .int) (C := RX1) (T := TX1) (N := 10) hx hb hts hiX1 tyX1 tyX1_ok nmX1 hown hK hP hD hS 0 rfl rfl 7 (by decide) hw0 (fun _ h9 => h9) rfl (by decide +kernel) rfl rfl (Nat.le_of_ble_eq_true rfl) (kdr dgX1_done_0 0 5 rfl rfl) (fun H locs hP hD hS => ?_)
  have hP : va_P (dC, dI) vwCl (wSB cI cJ cZ a ce fr un sb se so sc wb we wo wc fb fe fo fc rm (ac + 1) rf kn) H := hP
  have hD : va_D A (wSB cI cJ cZ a ce fr un sb se so sc wb we wo wc fb fe fo fc rm (ac + 1) rf kn) := hD
  refine lv_iload_n hx hb (kdr dgX1_done_0 0 6 rfl rfl) rfl (lv_at hl 1 rfl) ?_
  have h := Option.some.inj h
  subst h
  exact kret_i (v := p0) hx hb hr rfl hlocks hS hP (kdr dgX1_done_0 0 7 rfl rfl)
noncomputable abbrev wsX1_refuse : List Cond := kWs yX1_refuse cX1_refuse 1 (some .int)
noncomputable def f_X1_refuse (rf : Int32) : Option ((Int32) × (Int32)) :=
  some ((-9), rf + 1)
theorem f_X1_refuse_e {rf : Int32} : f_X1_refuse rf = 
  some ((-9), rf + 1) := rfl
set_option maxHeartbeats 4000000 in
set_option maxRecDepth 100000 in
theorem c_X1_refuse (l : Launch) (dC : Nat → ClassId) (dI : Nat → Nat → Nat) (cB cI cJ cZ : ClassId) (a : Nat → Nat) (sz : Nat) (ce : Nat → Int64) (fr : Int64) (un : Int64) (sb : Nat → Int64) (se : Nat → Int64) (so : Nat → Int32) (sc : Int32) (wb : Nat → Int64) (we : Nat → Int64) (wo : Nat → Int32) (wc : Int32) (fb : Nat → Int64) (fe : Nat → Int64) (fo : Nat → Int32) (fc : Int32) (rm : Nat → Int32) (ac : Int32) (rf : Int32) (kn : Int32) (res : (Int32) × (Int32)) (hf : f_X1_refuse rf = some res) : kMi l yX1_refuse wsX1_refuse (kRm 0 0 0 0) dC dI cB cI cJ cZ [.ref (a 0)] sz (wSB cI cJ cZ a ce fr un sb se so sc wb we wo wc fb fe fo fc rm ac rf kn) .int (res.1) (wSB cI cJ cZ a ce fr un sb se so sc wb we wo wc fb fe fo fc rm ac (res.2) kn) 0 0 := by
  refine kmet_i (y := yX1_refuse) (cc := cX1_refuse) (maxL := 1) (ret := (some .int)) RX1 (kvA 0 (a 0) kvE) kpl_X1 rfl rfl (Nat.le_of_ble_eq_true rfl) rfl (fun p e s m below meth c A ls hx hb hr hml hts hown hlocks hP hK hG hD hA hS hl => ?_)
  have hw0 := hts (.fieldLink RX1 228 "Spanbooker" "refusals" "I") (List.mem_cons_of_mem _ kw_115)
  have hiX1 : ∀ w ∈ u_ws RX1 TX1 10, w ∈ wsX1_refuse := fun w h => List.mem_cons_of_mem _ (ku_X1 w h)
  have h := f_X1_refuse_e.symm.trans hf
  refine lv_aload_n hx hb (kdr dgX1_refuse_0 0 0 rfl rfl) rfl (lv_at hl 0 rfl) ?_
  refine lv_dup hx hb (kdr dgX1_refuse_0 0 1 rfl rfl) rfl ?_
  refine va_get (D := (dC, dI)) (ci := 3) (v := .int rf) (C := RX1) (T := TX1) (N := 10) hx hb hts hiX1 hown hK hP 0 rfl rfl 8 (by decide) hw0 (fun _ h9 => h9) rfl (kdr dgX1_refuse_0 0 2 rfl rfl) ?_
  refine lv_iconst (v := 1) hx hb (kdr dgX1_refuse_0 0 3 rfl rfl) (by decide) ?_
  refine lv_iadd hx hb (kdr dgX1_refuse_0 0 4 rfl rfl) ?_
  refine va_put (D := (dC, dI)) (ci := 3) (v := .int (rf + 1)) (ty := .int) (C := RX1) (T := TX1) (N := 10) hx hb hts hiX1 tyX1 tyX1_ok nmX1 hown hK hP hD hS 0 rfl rfl 8 (by decide) hw0 (fun _ h9 => h9) rfl (by decide +kernel) rfl rfl (Nat.le_of_ble_eq_true rfl) (kdr dgX1_refuse_0 0 5 rfl rfl) (fun H locs hP hD hS => ?_)
  have hP : va_P (dC, dI) vwCl (wSB cI cJ cZ a ce fr un sb se so sc wb we wo wc fb fe fo fc rm ac (rf + 1) kn) H := hP
  have hD : va_D A (wSB cI cJ cZ a ce fr un sb se so sc wb we wo wc fb fe fo fc rm ac (rf + 1) kn) := hD
  refine lv_bipush (v := (-9)) hx hb (kdr dgX1_refuse_0 0 6 rfl rfl) (by decide) ?_
  have h := Option.some.inj h
  subst h
  exact kret_i (v := (-9)) hx hb hr rfl hlocks hS hP (kdr dgX1_refuse_0 0 7 rfl rfl)
noncomputable abbrev wsX1_secondOf : List Cond := kWs yX1_secondOf cX1_secondOf 2 (some .int)
noncomputable def f_X1_secondOf (p0 : Int64) : Option (Int32) :=
  (f_J9_floorDiv_f86c9 p0 1000000000).bind fun r1 =>
  some r1.toInt32
theorem f_X1_secondOf_e {p0 : Int64} : f_X1_secondOf p0 = 
  (f_J9_floorDiv_f86c9 p0 1000000000).bind fun r1 =>
  some r1.toInt32 := rfl
set_option maxHeartbeats 4000000 in
set_option maxRecDepth 100000 in
theorem c_X1_secondOf (l : Launch) (dC : Nat → ClassId) (dI : Nat → Nat → Nat) (cB cI cJ cZ : ClassId) (sz : Nat) (p0 : Int64) (res : Int32) (hf : f_X1_secondOf p0 = some res) : kMi l yX1_secondOf wsX1_secondOf (kRm 1 0 0 25) dC dI cB cI cJ cZ [.long p0] sz [] .int (res) [] 0 0 := by
  refine kmet_i (y := yX1_secondOf) (cc := cX1_secondOf) (maxL := 2) (ret := (some .int)) RX1 (kvJ 0 p0 kvE) kpl_X1 rfl rfl (Nat.le_of_ble_eq_true rfl) rfl (fun p e s m below meth c A ls hx hb hr hml hts hown hlocks hP hK hG hD hA hS hl => ?_)
  have hw0 := hts (.constantLong RX1 55 (1000000000)) (List.mem_cons_of_mem _ kw_332)
  have h := f_X1_secondOf_e.symm.trans hf
  refine lv_lload_n hx hb (kdr dgX1_secondOf_0 0 0 rfl rfl) rfl (lv_at hl 0 rfl) ?_
  refine lv_ldc2 (v := (1000000000)) hx hb hown hw0 (kdr dgX1_secondOf_0 0 1 rfl rfl) ?_
  obtain ⟨r1, g1, h⟩ := g_b h
  refine kq_l [] (fun qP qD qF => va_runS (As := [.long p0, .long 1000000000]) (rest := []) ⟨hx, hb, hml, hown, hts⟩ (c_J9_floorDiv_f86c9 l dC dI cB cI cJ cZ  _  p0 1000000000 r1 g1) (kcwS hts kw_333 kv_J9_floorDiv_f86c9 rfl rfl ⟨(Nat.le_of_ble_eq_true rfl), (Nat.le_of_ble_eq_true rfl)⟩) (kpS (A := A) (kPnil) hK ((kDnil (A := A))) hG) rfl rfl hl.1 rfl (lv_room (Nat.le_of_ble_eq_true rfl)) (kdr dgX1_secondOf_0 0 2 rfl rfl) ⟨(Nat.le_of_ble_eq_true rfl), (Nat.le_of_ble_eq_true rfl)⟩) hP hD hS hA kFr_n (fun H locs hP hD hS => ?_)
  refine lv_l2i (v := r1.toInt32) hx hb (kdr dgX1_secondOf_0 0 3 rfl rfl) rfl ?_
  have h := Option.some.inj h
  subst h
  exact kret_i (v := r1.toInt32) hx hb hr rfl hlocks hS hP (kdr dgX1_secondOf_0 0 4 rfl rfl)
noncomputable abbrev wsX1_nanoOf : List Cond := kWs yX1_nanoOf cX1_nanoOf 2 (some .int)
noncomputable def f_X1_nanoOf (p0 : Int64) : Option (Int32) :=
  (f_J9_floorMod_f86c9 p0 1000000000).bind fun r1 =>
  some r1.toInt32
theorem f_X1_nanoOf_e {p0 : Int64} : f_X1_nanoOf p0 = 
  (f_J9_floorMod_f86c9 p0 1000000000).bind fun r1 =>
  some r1.toInt32 := rfl
set_option maxHeartbeats 4000000 in
set_option maxRecDepth 100000 in
theorem c_X1_nanoOf (l : Launch) (dC : Nat → ClassId) (dI : Nat → Nat → Nat) (cB cI cJ cZ : ClassId) (sz : Nat) (p0 : Int64) (res : Int32) (hf : f_X1_nanoOf p0 = some res) : kMi l yX1_nanoOf wsX1_nanoOf (kRm 1 0 0 25) dC dI cB cI cJ cZ [.long p0] sz [] .int (res) [] 0 0 := by
  refine kmet_i (y := yX1_nanoOf) (cc := cX1_nanoOf) (maxL := 2) (ret := (some .int)) RX1 (kvJ 0 p0 kvE) kpl_X1 rfl rfl (Nat.le_of_ble_eq_true rfl) rfl (fun p e s m below meth c A ls hx hb hr hml hts hown hlocks hP hK hG hD hA hS hl => ?_)
  have hw0 := hts (.constantLong RX1 55 (1000000000)) (List.mem_cons_of_mem _ kw_332)
  have h := f_X1_nanoOf_e.symm.trans hf
  refine lv_lload_n hx hb (kdr dgX1_nanoOf_0 0 0 rfl rfl) rfl (lv_at hl 0 rfl) ?_
  refine lv_ldc2 (v := (1000000000)) hx hb hown hw0 (kdr dgX1_nanoOf_0 0 1 rfl rfl) ?_
  obtain ⟨r1, g1, h⟩ := g_b h
  refine kq_l [] (fun qP qD qF => va_runS (As := [.long p0, .long 1000000000]) (rest := []) ⟨hx, hb, hml, hown, hts⟩ (c_J9_floorMod_f86c9 l dC dI cB cI cJ cZ  _  p0 1000000000 r1 g1) (kcwS hts kw_343 kv_J9_floorMod_f86c9 rfl rfl ⟨(Nat.le_of_ble_eq_true rfl), (Nat.le_of_ble_eq_true rfl)⟩) (kpS (A := A) (kPnil) hK ((kDnil (A := A))) hG) rfl rfl hl.1 rfl (lv_room (Nat.le_of_ble_eq_true rfl)) (kdr dgX1_nanoOf_0 0 2 rfl rfl) ⟨(Nat.le_of_ble_eq_true rfl), (Nat.le_of_ble_eq_true rfl)⟩) hP hD hS hA kFr_n (fun H locs hP hD hS => ?_)
  refine lv_l2i (v := r1.toInt32) hx hb (kdr dgX1_nanoOf_0 0 3 rfl rfl) rfl ?_
  have h := Option.some.inj h
  subst h
  exact kret_i (v := r1.toInt32) hx hb hr rfl hlocks hS hP (kdr dgX1_nanoOf_0 0 4 rfl rfl)
noncomputable abbrev wsX1_partOf : List Cond := kWs yX1_partOf cX1_partOf 3 (some .int)
noncomputable def f_X1_partOf (p0 : Int64) (p1 : Int32) : Option (Int32) :=
  if (p1 &&& 1) = 0 then
    (f_X1_secondOf p0).bind fun r2 =>
    some r2
  else
    (f_X1_nanoOf p0).bind fun r2 =>
    some r2
theorem f_X1_partOf_e {p0 : Int64} {p1 : Int32} : f_X1_partOf p0 p1 = 
  if (p1 &&& 1) = 0 then
    (f_X1_secondOf p0).bind fun r2 =>
    some r2
  else
    (f_X1_nanoOf p0).bind fun r2 =>
    some r2 := rfl
set_option maxHeartbeats 4000000 in
set_option maxRecDepth 100000 in
theorem c_X1_partOf (l : Launch) (dC : Nat → ClassId) (dI : Nat → Nat → Nat) (cB cI cJ cZ : ClassId) (sz : Nat) (p0 : Int64) (p1 : Int32) (res : Int32) (hf : f_X1_partOf p0 p1 = some res) : kMi l yX1_partOf wsX1_partOf (kRm 2 0 0 46) dC dI cB cI cJ cZ [.long p0, .int p1] sz [] .int (res) [] 0 0 := by
  refine kmet_i (y := yX1_partOf) (cc := cX1_partOf) (maxL := 3) (ret := (some .int)) RX1 (kvJ 0 p0 (kvI 2 p1 kvE)) kpl_X1 rfl rfl (Nat.le_of_ble_eq_true rfl) rfl (fun p e s m below meth c A ls hx hb hr hml hts hown hlocks hP hK hG hD hA hS hl => ?_)
  have h := f_X1_partOf_e.symm.trans hf
  refine lv_iload_n hx hb (kdr dgX1_partOf_0 0 0 rfl rfl) rfl (lv_at hl 1 rfl) ?_
  refine lv_iconst (v := 1) hx hb (kdr dgX1_partOf_0 0 1 rfl rfl) (by decide) ?_
  refine lv_iand hx hb (kdr dgX1_partOf_0 0 2 rfl rfl) ?_
  refine lv_if_ne (tgt := 13) hx hb (kdr dgX1_partOf_0 0 3 rfl rfl) (by decide) (fun c1 => ?_) (fun c1 => ?_)
  · have h := g_f c1 h
    refine lv_lload_n hx hb (kdr dgX1_partOf_0 0 7 rfl rfl) rfl (lv_at hl 0 rfl) ?_
    obtain ⟨r2, g2, h⟩ := g_b h
    refine kq_i [] (fun qP qD qF => va_runS (As := [.long p0]) (rest := []) ⟨hx, hb, hml, hown, hts⟩ (c_X1_nanoOf l dC dI cB cI cJ cZ  _  p0 r2 g2) (kcwS hts kw_340 kv_X1_nanoOf rfl rfl ⟨(Nat.le_of_ble_eq_true rfl), (Nat.le_of_ble_eq_true rfl)⟩) (kpS (A := A) (kPnil) hK ((kDnil (A := A))) hG) rfl rfl hl.1 rfl (lv_room (Nat.le_of_ble_eq_true rfl)) (kdr dgX1_partOf_0 0 8 rfl rfl) ⟨(Nat.le_of_ble_eq_true rfl), (Nat.le_of_ble_eq_true rfl)⟩) hP hD hS hA kFr_n (fun H locs hP hD hS br2 => ?_)
    have h := Option.some.inj h
    subst h
    exact kret_i (v := r2) hx hb hr rfl hlocks hS hP (kdr dgX1_partOf_0 0 9 rfl rfl)
  · have h := g_t c1 h
    refine lv_lload_n hx hb (kdr dgX1_partOf_0 0 4 rfl rfl) rfl (lv_at hl 0 rfl) ?_
    obtain ⟨r2, g2, h⟩ := g_b h
    refine kq_i [] (fun qP qD qF => va_runS (As := [.long p0]) (rest := []) ⟨hx, hb, hml, hown, hts⟩ (c_X1_secondOf l dC dI cB cI cJ cZ  _  p0 r2 g2) (kcwS hts kw_329 kv_X1_secondOf rfl rfl ⟨(Nat.le_of_ble_eq_true rfl), (Nat.le_of_ble_eq_true rfl)⟩) (kpS (A := A) (kPnil) hK ((kDnil (A := A))) hG) rfl rfl hl.1 rfl (lv_room (Nat.le_of_ble_eq_true rfl)) (kdr dgX1_partOf_0 0 5 rfl rfl) ⟨(Nat.le_of_ble_eq_true rfl), (Nat.le_of_ble_eq_true rfl)⟩) hP hD hS hA kFr_n (fun H locs hP hD hS br2 => ?_)
    refine lv_goto (tgt := 17) hx hb (kdr dgX1_partOf_0 0 6 rfl rfl) (by decide) ?_
    have h := Option.some.inj h
    subst h
    exact kret_i (v := r2) hx hb hr rfl hlocks hS hP (kdr dgX1_partOf_0 0 9 rfl rfl)
noncomputable abbrev wsX1_partIn : List Cond := kWs yX1_partIn cX1_partIn 3 (some .int)
noncomputable def f_X1_partIn_18 (x2 : Int32) (y0 : Int64) : Option (Int32) :=
  (f_X1_partOf y0 x2).bind fun r1 =>
  some r1
theorem f_X1_partIn_18_e {x2 : Int32} {y0 : Int64} : f_X1_partIn_18 x2 y0 =
  (f_X1_partOf y0 x2).bind fun r1 =>
  some r1 := rfl
noncomputable def f_X1_partIn (rb : Nat → Int64) (re : Nat → Int64) (rc : Int32) (p1 : Int32) (p2 : Int32) : Option (Int32) :=
  if 2 ≤ p2 then
    (f_X0_end re rc p1).bind fun r2 =>
    f_X1_partIn_18 p2 r2
  else
    (f_X0_begin rb rc p1).bind fun r2 =>
    f_X1_partIn_18 p2 r2
theorem f_X1_partIn_e {rb : Nat → Int64} {re : Nat → Int64} {rc : Int32} {p1 : Int32} {p2 : Int32} : f_X1_partIn rb re rc p1 p2 = 
  if 2 ≤ p2 then
    (f_X0_end re rc p1).bind fun r2 =>
    f_X1_partIn_18 p2 r2
  else
    (f_X0_begin rb rc p1).bind fun r2 =>
    f_X1_partIn_18 p2 r2 := rfl
set_option maxHeartbeats 4000000 in
set_option maxRecDepth 100000 in
theorem c_X1_partIn (l : Launch) (dC : Nat → ClassId) (dI : Nat → Nat → Nat) (cB cI cJ cZ : ClassId) (h0 : Nat) (h1 : Nat) (h2 : Nat) (h3 : Nat) (sz : Nat) (rb : Nat → Int64) (re : Nat → Int64) (ro : Nat → Int32) (rc : Int32) (p1 : Int32) (p2 : Int32) (res : Int32) (hf : f_X1_partIn rb re rc p1 p2 = some res) : kMi l yX1_partIn wsX1_partIn (kRm 3 0 0 68) dC dI cB cI cJ cZ [.ref h0, .int p1, .int p2] sz (wRow cJ cZ h0 h1 h2 h3 rb re ro rc) .int (res) (wRow cJ cZ h0 h1 h2 h3 rb re ro rc) 0 0 := by
  refine kmet_i (y := yX1_partIn) (cc := cX1_partIn) (maxL := 3) (ret := (some .int)) RX1 (kvA 0 h0 (kvI 1 p1 (kvI 2 p2 kvE))) kpl_X1 rfl rfl (Nat.le_of_ble_eq_true rfl) rfl (fun p e s m below meth c A ls hx hb hr hml hts hown hlocks hP hK hG hD hA hS hl => ?_)
  have J18 : ∀ (rb : Nat → Int64) (re : Nat → Int64) (ro : Nat → Int32) (rc : Int32) (x2 : Int32) (y0 : Int64) (H : Heap) (locs : List Loc), va_P (dC, dI) vwCl (wRow cJ cZ h0 h1 h2 h3 rb re ro rc) H → va_D A (wRow cJ cZ h0 h1 h2 h3 rb re ro rc) → va_S A s.heap H locs → ∀ (ls : Array Slot), lv_has ls 3 (kvI 2 x2 kvE) → f_X1_partIn_18 x2 y0 = some res → W p l e (headSpec wsX1_partIn (kRm 3 0 0 68)).room s m ([.ref h0, .int p1, .int p2] : List Value).toArray below meth c H locs 0 0 (MQ below (kI (dC, dI) .int (res) (wRow cJ cZ h0 h1 h2 h3 rb re ro rc) A) ([.ref h0, .int p1, .int p2] : List Value).toArray s 0 0 A) (F0 m 18 ls [.long y0]) := by
    intro rb re ro rc x2 y0 H locs hP hD hS ls hl h
    have h := f_X1_partIn_18_e.symm.trans h
    refine lv_iload_n hx hb (kdr dgX1_partIn_0 1 0 rfl rfl) rfl (lv_at hl 0 rfl) ?_
    obtain ⟨r1, g1, h⟩ := g_b h
    refine kq_i (wRow cJ cZ h0 h1 h2 h3 rb re ro rc) (fun qP qD qF => va_runS (As := [.long y0, .int x2]) (rest := []) ⟨hx, hb, hml, hown, hts⟩ (c_X1_partOf l dC dI cB cI cJ cZ  _  y0 x2 r1 g1) (kcwS hts kw_427 kv_X1_partOf rfl rfl ⟨(Nat.le_of_ble_eq_true rfl), (Nat.le_of_ble_eq_true rfl)⟩) (kpS (A := A) (kPnil) hK ((kDnil (A := A))) hG) rfl rfl hl.1 rfl (lv_room (Nat.le_of_ble_eq_true rfl)) (kdr dgX1_partIn_0 1 1 rfl rfl) ⟨(Nat.le_of_ble_eq_true rfl), (Nat.le_of_ble_eq_true rfl)⟩) hP hD hS hA kFr_n (fun H locs hP hD hS br1 => ?_)
    have h := Option.some.inj h
    subst h
    exact kret_i (v := r1) hx hb hr rfl hlocks hS hP (kdr dgX1_partIn_0 1 2 rfl rfl)
  have h := f_X1_partIn_e.symm.trans hf
  refine lv_iload_n hx hb (kdr dgX1_partIn_0 0 0 rfl rfl) rfl (lv_at hl 2 rfl) ?_
  refine lv_iconst (v := 2) hx hb (kdr dgX1_partIn_0 0 1 rfl rfl) (by decide) ?_
  refine lv_icmp_ge (tgt := 13) hx hb (kdr dgX1_partIn_0 0 2 rfl rfl) (by decide) (fun c1 => ?_) (fun c1 => ?_)
  · have h := g_t c1 h
    refine lv_aload_n hx hb (kdr dgX1_partIn_0 0 7 rfl rfl) rfl (lv_at hl 0 rfl) ?_
    refine lv_iload_n hx hb (kdr dgX1_partIn_0 0 8 rfl rfl) rfl (lv_at hl 1 rfl) ?_
    obtain ⟨r2, g2, h⟩ := g_b h
    refine kq_l (wRow cJ cZ h0 h1 h2 h3 rb re ro rc) (fun qP qD qF => va_runV (As := [.int p1]) (rest := []) ⟨hx, hb, hml, hown, hts⟩ (c_X0_end l dC dI cB cI cJ cZ h0 h1 h2 h3 _ rb re ro rc p1 r2 g2) (kcwV hts kw_194 kv_X0_end rfl rfl ⟨(Nat.le_of_ble_eq_true rfl), (Nat.le_of_ble_eq_true rfl)⟩) (kpV (A := A) qP hK qD hG (krecv_2 (q0 := 0) hK hP rfl)) rfl rfl hl.1 rfl (lv_room (Nat.le_of_ble_eq_true rfl)) (kdr dgX1_partIn_0 0 9 rfl rfl) ⟨(Nat.le_of_ble_eq_true rfl), (Nat.le_of_ble_eq_true rfl)⟩) hP hD hS hA kFr_Row (fun H locs hP hD hS => ?_)
    exact J18 rb re ro rc p2 r2 _ _ hP hD hS ls (lv_sub hl [2] rfl) h
  · have h := g_f c1 h
    refine lv_aload_n hx hb (kdr dgX1_partIn_0 0 3 rfl rfl) rfl (lv_at hl 0 rfl) ?_
    refine lv_iload_n hx hb (kdr dgX1_partIn_0 0 4 rfl rfl) rfl (lv_at hl 1 rfl) ?_
    obtain ⟨r2, g2, h⟩ := g_b h
    refine kq_l (wRow cJ cZ h0 h1 h2 h3 rb re ro rc) (fun qP qD qF => va_runV (As := [.int p1]) (rest := []) ⟨hx, hb, hml, hown, hts⟩ (c_X0_begin l dC dI cB cI cJ cZ h0 h1 h2 h3 _ rb re ro rc p1 r2 g2) (kcwV hts kw_251 kv_X0_begin rfl rfl ⟨(Nat.le_of_ble_eq_true rfl), (Nat.le_of_ble_eq_true rfl)⟩) (kpV (A := A) qP hK qD hG (krecv_2 (q0 := 0) hK hP rfl)) rfl rfl hl.1 rfl (lv_room (Nat.le_of_ble_eq_true rfl)) (kdr dgX1_partIn_0 0 5 rfl rfl) ⟨(Nat.le_of_ble_eq_true rfl), (Nat.le_of_ble_eq_true rfl)⟩) hP hD hS hA kFr_Row (fun H locs hP hD hS => ?_)
    refine lv_goto (tgt := 18) hx hb (kdr dgX1_partIn_0 0 6 rfl rfl) (by decide) ?_
    exact J18 rb re ro rc p2 r2 _ _ hP hD hS ls (lv_sub hl [2] rfl) h
noncomputable abbrev wsX1_lengthOf : List Cond := kWs yX1_lengthOf cX1_lengthOf 2 (some .long)
noncomputable def f_X1_lengthOf (p0 : Int32) (p1 : Int32) : Option (Int64) :=
  if p0 = 0 then
    some (p1.toInt64 * 1000000000)
  else
    if p0 = 1 then
      some (p1.toInt64 * 1000000)
    else
      some (p1.toInt64 * 1)
theorem f_X1_lengthOf_e {p0 : Int32} {p1 : Int32} : f_X1_lengthOf p0 p1 = 
  if p0 = 0 then
    some (p1.toInt64 * 1000000000)
  else
    if p0 = 1 then
      some (p1.toInt64 * 1000000)
    else
      some (p1.toInt64 * 1) := rfl
set_option maxHeartbeats 4000000 in
set_option maxRecDepth 100000 in
theorem c_X1_lengthOf (l : Launch) (dC : Nat → ClassId) (dI : Nat → Nat → Nat) (cB cI cJ cZ : ClassId) (sz : Nat) (p0 : Int32) (p1 : Int32) (res : Int64) (hf : f_X1_lengthOf p0 p1 = some res) : kMl l yX1_lengthOf wsX1_lengthOf (kRm 0 0 0 0) dC dI cB cI cJ cZ [.int p0, .int p1] sz [] (res) [] 0 0 := by
  refine kmet_l (y := yX1_lengthOf) (cc := cX1_lengthOf) (maxL := 2) (ret := (some .long)) RX1 (kvI 0 p0 (kvI 1 p1 kvE)) kpl_X1 rfl rfl (Nat.le_of_ble_eq_true rfl) rfl (fun p e s m below meth c A ls hx hb hr hml hts hown hlocks hP hK hG hD hA hS hl => ?_)
  have hw0 := hts (.constantLong RX1 290 (1000000)) (List.mem_cons_of_mem _ kw_518)
  have hw1 := hts (.constantLong RX1 55 (1000000000)) (List.mem_cons_of_mem _ kw_332)
  have h := f_X1_lengthOf_e.symm.trans hf
  refine lv_iload_n hx hb (kdr dgX1_lengthOf_0 0 0 rfl rfl) rfl (lv_at hl 0 rfl) ?_
  refine lv_if_ne (tgt := 11) hx hb (kdr dgX1_lengthOf_0 0 1 rfl rfl) (by decide) (fun c1 => ?_) (fun c1 => ?_)
  · have h := g_f c1 h
    refine lv_iload_n hx hb (kdr dgX1_lengthOf_0 0 7 rfl rfl) rfl (lv_at hl 1 rfl) ?_
    refine lv_i2l (v := p1.toInt64) hx hb (kdr dgX1_lengthOf_0 0 8 rfl rfl) rfl ?_
    refine lv_iload_n hx hb (kdr dgX1_lengthOf_0 0 9 rfl rfl) rfl (lv_at hl 0 rfl) ?_
    refine lv_iconst (v := 1) hx hb (kdr dgX1_lengthOf_0 1 0 rfl rfl) (by decide) ?_
    refine lv_icmp_ne (tgt := 24) hx hb (kdr dgX1_lengthOf_0 1 1 rfl rfl) (by decide) (fun c2 => ?_) (fun c2 => ?_)
    · have h := g_f c2 h
      refine lv_lconst (v := 1) hx hb (kdr dgX1_lengthOf_0 1 4 rfl rfl) (by decide) ?_
      refine lv_lmul hx hb (kdr dgX1_lengthOf_0 1 5 rfl rfl) ?_
      have h := Option.some.inj h
      subst h
      exact kret_l (v := p1.toInt64 * 1) hx hb hr hlocks hS hP (kdr dgX1_lengthOf_0 1 6 rfl rfl)
    · have h := g_t c2 h
      refine lv_ldc2 (v := (1000000)) hx hb hown hw0 (kdr dgX1_lengthOf_0 1 2 rfl rfl) ?_
      refine lv_goto (tgt := 25) hx hb (kdr dgX1_lengthOf_0 1 3 rfl rfl) (by decide) ?_
      refine lv_lmul hx hb (kdr dgX1_lengthOf_0 1 5 rfl rfl) ?_
      have h := Option.some.inj h
      subst h
      exact kret_l (v := p1.toInt64 * 1000000) hx hb hr hlocks hS hP (kdr dgX1_lengthOf_0 1 6 rfl rfl)
  · have h := g_t c1 h
    refine lv_iload_n hx hb (kdr dgX1_lengthOf_0 0 2 rfl rfl) rfl (lv_at hl 1 rfl) ?_
    refine lv_i2l (v := p1.toInt64) hx hb (kdr dgX1_lengthOf_0 0 3 rfl rfl) rfl ?_
    refine lv_ldc2 (v := (1000000000)) hx hb hown hw1 (kdr dgX1_lengthOf_0 0 4 rfl rfl) ?_
    refine lv_lmul hx hb (kdr dgX1_lengthOf_0 0 5 rfl rfl) ?_
    have h := Option.some.inj h
    subst h
    exact kret_l (v := p1.toInt64 * 1000000000) hx hb hr hlocks hS hP (kdr dgX1_lengthOf_0 0 6 rfl rfl)
noncomputable abbrev wsX1_sideOf : List Cond := kWs yX1_sideOf cX1_sideOf 4 (some .int)
noncomputable def f_X1_sideOf (p0 : Int64) (p1 : Int64) : Option (Int32) :=
  if p0 = p1 then
    some 0
  else
    if p1 ≤ p0 then
      some 1
    else
      some (-1)
theorem f_X1_sideOf_e {p0 : Int64} {p1 : Int64} : f_X1_sideOf p0 p1 = 
  if p0 = p1 then
    some 0
  else
    if p1 ≤ p0 then
      some 1
    else
      some (-1) := rfl
set_option maxHeartbeats 4000000 in
set_option maxRecDepth 100000 in
theorem c_X1_sideOf (l : Launch) (dC : Nat → ClassId) (dI : Nat → Nat → Nat) (cB cI cJ cZ : ClassId) (sz : Nat) (p0 : Int64) (p1 : Int64) (res : Int32) (hf : f_X1_sideOf p0 p1 = some res) : kMi l yX1_sideOf wsX1_sideOf (kRm 0 0 0 0) dC dI cB cI cJ cZ [.long p0, .long p1] sz [] .int (res) [] 0 0 := by
  refine kmet_i (y := yX1_sideOf) (cc := cX1_sideOf) (maxL := 4) (ret := (some .int)) RX1 (kvJ 0 p0 (kvJ 2 p1 kvE)) kpl_X1 rfl rfl (Nat.le_of_ble_eq_true rfl) rfl (fun p e s m below meth c A ls hx hb hr hml hts hown hlocks hP hK hG hD hA hS hl => ?_)
  have h := f_X1_sideOf_e.symm.trans hf
  refine lv_lload_n hx hb (kdr dgX1_sideOf_0 0 0 rfl rfl) rfl (lv_at hl 0 rfl) ?_
  refine lv_lload_n hx hb (kdr dgX1_sideOf_0 0 1 rfl rfl) rfl (lv_at hl 1 rfl) ?_
  refine kl_ne (pc := 2) (tgt := 8) hx hb (kdr dgX1_sideOf_0 0 2 rfl rfl) (kdr dgX1_sideOf_0 0 3 rfl rfl) (by decide) (fun c1 => ?_) (fun c1 => ?_)
  · have h := g_f c1 h
    refine lv_lload_n hx hb (kdr dgX1_sideOf_0 0 6 rfl rfl) rfl (lv_at hl 0 rfl) ?_
    refine lv_lload_n hx hb (kdr dgX1_sideOf_0 0 7 rfl rfl) rfl (lv_at hl 1 rfl) ?_
    refine kl_ge (pc := 10) (tgt := 18) hx hb (kdr dgX1_sideOf_0 0 8 rfl rfl) (kdr dgX1_sideOf_0 0 9 rfl rfl) (by decide) (fun c2 => ?_) (fun c2 => ?_)
    · have h := g_t c2 h
      refine lv_iconst (v := 1) hx hb (kdr dgX1_sideOf_0 1 2 rfl rfl) (by decide) ?_
      have h := Option.some.inj h
      subst h
      exact kret_i (v := 1) hx hb hr rfl hlocks hS hP (kdr dgX1_sideOf_0 1 3 rfl rfl)
    · have h := g_f c2 h
      refine lv_iconst (v := (-1)) hx hb (kdr dgX1_sideOf_0 1 0 rfl rfl) (by decide) ?_
      refine lv_goto (tgt := 19) hx hb (kdr dgX1_sideOf_0 1 1 rfl rfl) (by decide) ?_
      have h := Option.some.inj h
      subst h
      exact kret_i (v := (-1)) hx hb hr rfl hlocks hS hP (kdr dgX1_sideOf_0 1 3 rfl rfl)
  · have h := g_t c1 h
    refine lv_iconst (v := 0) hx hb (kdr dgX1_sideOf_0 0 4 rfl rfl) (by decide) ?_
    have h := Option.some.inj h
    subst h
    exact kret_i (v := 0) hx hb hr rfl hlocks hS hP (kdr dgX1_sideOf_0 0 5 rfl rfl)
noncomputable abbrev wsX1_bring : List Cond := kWs yX1_bring cX1_bring 5 (some .int)
noncomputable def f_X1_bring (ce : Nat → Int64) (p0 : Int64) (p1 : Int32) : Option ((Int32) × (Nat → Int64)) :=
  if ix p1 4 then
    if (ce p1.toNatClampNeg) = p0 then
      some (0, vp_updL ce p1.toNatClampNeg p0)
    else
      some (1, vp_updL ce p1.toNatClampNeg p0)
  else none
theorem f_X1_bring_e {ce : Nat → Int64} {p0 : Int64} {p1 : Int32} : f_X1_bring ce p0 p1 = 
  if ix p1 4 then
    if (ce p1.toNatClampNeg) = p0 then
      some (0, vp_updL ce p1.toNatClampNeg p0)
    else
      some (1, vp_updL ce p1.toNatClampNeg p0)
  else none := rfl
set_option maxHeartbeats 4000000 in
set_option maxRecDepth 100000 in
theorem c_X1_bring (l : Launch) (dC : Nat → ClassId) (dI : Nat → Nat → Nat) (cB cI cJ cZ : ClassId) (a : Nat → Nat) (sz : Nat) (ce : Nat → Int64) (fr : Int64) (un : Int64) (sb : Nat → Int64) (se : Nat → Int64) (so : Nat → Int32) (sc : Int32) (wb : Nat → Int64) (we : Nat → Int64) (wo : Nat → Int32) (wc : Int32) (fb : Nat → Int64) (fe : Nat → Int64) (fo : Nat → Int32) (fc : Int32) (rm : Nat → Int32) (ac : Int32) (rf : Int32) (kn : Int32) (p0 : Int64) (p1 : Int32) (res : (Int32) × (Nat → Int64)) (hf : f_X1_bring ce p0 p1 = some res) : kMi l yX1_bring wsX1_bring (kRm 0 0 0 0) dC dI cB cI cJ cZ [.ref (a 0), .long p0, .int p1] sz (wSB cI cJ cZ a ce fr un sb se so sc wb we wo wc fb fe fo fc rm ac rf kn) .int (res.1) (wSB cI cJ cZ a (res.2) fr un sb se so sc wb we wo wc fb fe fo fc rm ac rf kn) 0 0 := by
  refine kmet_i (y := yX1_bring) (cc := cX1_bring) (maxL := 5) (ret := (some .int)) RX1 (kvA 0 (a 0) (kvJ 1 p0 (kvI 3 p1 kvE))) kpl_X1 rfl rfl (Nat.le_of_ble_eq_true rfl) rfl (fun p e s m below meth c A ls hx hb hr hml hts hown hlocks hP hK hG hD hA hS hl => ?_)
  have hw0 := hts (.fieldLink RX1 9 "Spanbooker" "cells" "[J") (List.mem_cons_of_mem _ kw_107)
  have hiX1 : ∀ w ∈ u_ws RX1 TX1 10, w ∈ wsX1_bring := fun w h => List.mem_cons_of_mem _ (ku_X1 w h)
  have h := f_X1_bring_e.symm.trans hf
  refine lv_aload_n hx hb (kdr dgX1_bring_0 0 0 rfl rfl) rfl (lv_at hl 0 rfl) ?_
  refine va_get (D := (dC, dI)) (ci := 3) (v := .ref (a 1)) (C := RX1) (T := TX1) (N := 10) hx hb hts hiX1 hown hK hP 0 rfl rfl 0 (by decide) hw0 (fun _ h9 => h9) rfl (kdr dgX1_bring_0 0 1 rfl rfl) ?_
  refine lv_iload_n hx hb (kdr dgX1_bring_0 0 2 rfl rfl) rfl (lv_at hl 2 rfl) ?_
  obtain ⟨z0, h⟩ := g_if h
  refine va_lald hx hb hK hP 1 2 rfl rfl (ix_in z0) (kdr dgX1_bring_0 0 3 rfl rfl) ?_
  refine lv_lload_n hx hb (kdr dgX1_bring_0 0 4 rfl rfl) rfl (lv_at hl 1 rfl) ?_
  refine kl_ne (pc := 7) (tgt := 15) hx hb (kdr dgX1_bring_0 0 5 rfl rfl) (kdr dgX1_bring_0 0 6 rfl rfl) (by decide) (fun c2 => ?_) (fun c2 => ?_)
  · have h := g_f c2 h
    refine lv_iconst (v := 1) hx hb (kdr dgX1_bring_0 0 9 rfl rfl) (by decide) ?_
    refine lv_istore (lv' := (kvI 4 1 (kvA 0 (a 0) (kvJ 1 p0 (kvI 3 p1 kvE))))) hx hb (kdr dgX1_bring_0 1 0 rfl rfl) hl (by decide) rfl (fun ls hl => ?_)
    refine lv_aload_n hx hb (kdr dgX1_bring_0 1 1 rfl rfl) rfl (lv_at hl 1 rfl) ?_
    refine va_get (D := (dC, dI)) (ci := 3) (v := .ref (a 1)) (C := RX1) (T := TX1) (N := 10) hx hb hts hiX1 hown hK hP 0 rfl rfl 0 (by decide) hw0 (fun _ h9 => h9) rfl (kdr dgX1_bring_0 1 2 rfl rfl) ?_
    refine lv_iload_n hx hb (kdr dgX1_bring_0 1 3 rfl rfl) rfl (lv_at hl 3 rfl) ?_
    refine lv_lload_n hx hb (kdr dgX1_bring_0 1 4 rfl rfl) rfl (lv_at hl 2 rfl) ?_
    refine va_last hx hb hK hP hD hS 1 2 rfl rfl (ix_in z0) (kdr dgX1_bring_0 1 5 rfl rfl) (fun H locs hP hD hS => ?_)
    have hP : va_P (dC, dI) vwCl (wSB cI cJ cZ a (vp_updL ce p1.toNatClampNeg p0) fr un sb se so sc wb we wo wc fb fe fo fc rm ac rf kn) H := hP
    have hD : va_D A (wSB cI cJ cZ a (vp_updL ce p1.toNatClampNeg p0) fr un sb se so sc wb we wo wc fb fe fo fc rm ac rf kn) := hD
    refine lv_iload hx hb (kdr dgX1_bring_0 1 6 rfl rfl) (lv_at hl 0 rfl) ?_
    have h := Option.some.inj h
    subst h
    exact kret_i (v := 1) hx hb hr rfl hlocks hS hP (kdr dgX1_bring_0 1 7 rfl rfl)
  · have h := g_t c2 h
    refine lv_iconst (v := 0) hx hb (kdr dgX1_bring_0 0 7 rfl rfl) (by decide) ?_
    refine lv_goto (tgt := 16) hx hb (kdr dgX1_bring_0 0 8 rfl rfl) (by decide) ?_
    refine lv_istore (lv' := (kvI 4 0 (kvA 0 (a 0) (kvJ 1 p0 (kvI 3 p1 kvE))))) hx hb (kdr dgX1_bring_0 1 0 rfl rfl) hl (by decide) rfl (fun ls hl => ?_)
    refine lv_aload_n hx hb (kdr dgX1_bring_0 1 1 rfl rfl) rfl (lv_at hl 1 rfl) ?_
    refine va_get (D := (dC, dI)) (ci := 3) (v := .ref (a 1)) (C := RX1) (T := TX1) (N := 10) hx hb hts hiX1 hown hK hP 0 rfl rfl 0 (by decide) hw0 (fun _ h9 => h9) rfl (kdr dgX1_bring_0 1 2 rfl rfl) ?_
    refine lv_iload_n hx hb (kdr dgX1_bring_0 1 3 rfl rfl) rfl (lv_at hl 3 rfl) ?_
    refine lv_lload_n hx hb (kdr dgX1_bring_0 1 4 rfl rfl) rfl (lv_at hl 2 rfl) ?_
    refine va_last hx hb hK hP hD hS 1 2 rfl rfl (ix_in z0) (kdr dgX1_bring_0 1 5 rfl rfl) (fun H locs hP hD hS => ?_)
    have hP : va_P (dC, dI) vwCl (wSB cI cJ cZ a (vp_updL ce p1.toNatClampNeg p0) fr un sb se so sc wb we wo wc fb fe fo fc rm ac rf kn) H := hP
    have hD : va_D A (wSB cI cJ cZ a (vp_updL ce p1.toNatClampNeg p0) fr un sb se so sc wb we wo wc fb fe fo fc rm ac rf kn) := hD
    refine lv_iload hx hb (kdr dgX1_bring_0 1 6 rfl rfl) (lv_at hl 0 rfl) ?_
    have h := Option.some.inj h
    subst h
    exact kret_i (v := 0) hx hb hr rfl hlocks hS hP (kdr dgX1_bring_0 1 7 rfl rfl)
noncomputable abbrev wsX1_isAllLetAfter : List Cond := kWs yX1_isAllLetAfter cX1_isAllLetAfter 4 (some .boolean)
noncomputable def f_X1_isAllLetAfter_2 : Nat → (Nat → Int64) → (Int64) → (Int64) → (Nat → Int64) → (Nat → Int64) → (Int32) → (Nat → Int64) → (Nat → Int64) → (Int32) → (Int64) → (Int32) → Option (Int32)
  | 0, _, _, _, _, _, _, _, _, _, _, _ => none
  | n + 1, ce, fr, un, sb, se, sc, wb, we, wc, x1, x3 =>
    if 4 ≤ x3 then
      (f_X1_isLet (fr + x1)).bind fun r2 =>
      if r2 = 0 then
        some 0
      else
        (f_X1_isLet (un + x1)).bind fun r4 =>
        if r4 = 0 then
          some 0
        else
          (f_X0_isLetAfter sb se sc x1).bind fun r6 =>
          if r6 = 0 then
            some 0
          else
            (f_X0_isLetAfter wb we wc x1).bind fun r8 =>
            if r8 = 0 then
              some 0
            else
              some 1
    else
      if ix x3 4 then
        (f_X1_isLet ((ce x3.toNatClampNeg) + x1)).bind fun r3 =>
        if r3 = 0 then
          some 0
        else
          f_X1_isAllLetAfter_2 n ce fr un sb se sc wb we wc x1 (x3 + 1)
      else none
theorem f_X1_isAllLetAfter_2_0 {ce : Nat → Int64} {fr : Int64} {un : Int64} {sb : Nat → Int64} {se : Nat → Int64} {sc : Int32} {wb : Nat → Int64} {we : Nat → Int64} {wc : Int32} {x1 : Int64} {x3 : Int32} : f_X1_isAllLetAfter_2 0 ce fr un sb se sc wb we wc x1 x3 = none := rfl
theorem f_X1_isAllLetAfter_2_s {n : Nat} {ce : Nat → Int64} {fr : Int64} {un : Int64} {sb : Nat → Int64} {se : Nat → Int64} {sc : Int32} {wb : Nat → Int64} {we : Nat → Int64} {wc : Int32} {x1 : Int64} {x3 : Int32} : f_X1_isAllLetAfter_2 (n + 1) ce fr un sb se sc wb we wc x1 x3 =
  if 4 ≤ x3 then
    (f_X1_isLet (fr + x1)).bind fun r2 =>
    if r2 = 0 then
      some 0
    else
      (f_X1_isLet (un + x1)).bind fun r4 =>
      if r4 = 0 then
        some 0
      else
        (f_X0_isLetAfter sb se sc x1).bind fun r6 =>
        if r6 = 0 then
          some 0
        else
          (f_X0_isLetAfter wb we wc x1).bind fun r8 =>
          if r8 = 0 then
            some 0
          else
            some 1
  else
    if ix x3 4 then
      (f_X1_isLet ((ce x3.toNatClampNeg) + x1)).bind fun r3 =>
      if r3 = 0 then
        some 0
      else
        f_X1_isAllLetAfter_2 n ce fr un sb se sc wb we wc x1 (x3 + 1)
    else none := rfl
noncomputable def f_X1_isAllLetAfter (ce : Nat → Int64) (fr : Int64) (un : Int64) (sb : Nat → Int64) (se : Nat → Int64) (sc : Int32) (wb : Nat → Int64) (we : Nat → Int64) (wc : Int32) (p0 : Int64) : Option (Int32) :=
  f_X1_isAllLetAfter_2 24 ce fr un sb se sc wb we wc p0 0
theorem f_X1_isAllLetAfter_e {ce : Nat → Int64} {fr : Int64} {un : Int64} {sb : Nat → Int64} {se : Nat → Int64} {sc : Int32} {wb : Nat → Int64} {we : Nat → Int64} {wc : Int32} {p0 : Int64} : f_X1_isAllLetAfter ce fr un sb se sc wb we wc p0 = 
  f_X1_isAllLetAfter_2 24 ce fr un sb se sc wb we wc p0 0 := rfl
set_option maxHeartbeats 4000000 in
set_option maxRecDepth 100000 in
theorem c_X1_isAllLetAfter (l : Launch) (dC : Nat → ClassId) (dI : Nat → Nat → Nat) (cB cI cJ cZ : ClassId) (a : Nat → Nat) (sz : Nat) (ce : Nat → Int64) (fr : Int64) (un : Int64) (sb : Nat → Int64) (se : Nat → Int64) (so : Nat → Int32) (sc : Int32) (wb : Nat → Int64) (we : Nat → Int64) (wo : Nat → Int32) (wc : Int32) (fb : Nat → Int64) (fe : Nat → Int64) (fo : Nat → Int32) (fc : Int32) (rm : Nat → Int32) (ac : Int32) (rf : Int32) (kn : Int32) (p0 : Int64) (res : Int32) (hf : f_X1_isAllLetAfter ce fr un sb se sc wb we wc p0 = some res) : kMi l yX1_isAllLetAfter wsX1_isAllLetAfter (kRm 2 0 0 44) dC dI cB cI cJ cZ [.ref (a 0), .long p0] sz (wSB cI cJ cZ a ce fr un sb se so sc wb we wo wc fb fe fo fc rm ac rf kn) .boolean (res) (wSB cI cJ cZ a ce fr un sb se so sc wb we wo wc fb fe fo fc rm ac rf kn) 0 0 := by
  refine kmet_i (y := yX1_isAllLetAfter) (cc := cX1_isAllLetAfter) (maxL := 4) (ret := (some .boolean)) RX1 (kvA 0 (a 0) (kvJ 1 p0 kvE)) kpl_X1 rfl rfl (Nat.le_of_ble_eq_true rfl) rfl (fun p e s m below meth c A ls hx hb hr hml hts hown hlocks hP hK hG hD hA hS hl => ?_)
  have hw0 := hts (.fieldLink RX1 13 "Spanbooker" "from" "J") (List.mem_cons_of_mem _ kw_108)
  have hw1 := hts (.fieldLink RX1 19 "Spanbooker" "until" "J") (List.mem_cons_of_mem _ kw_109)
  have hw2 := hts (.fieldLink RX1 25 "Spanbooker" "spanRow" "LSpanbooker$Row;") (List.mem_cons_of_mem _ kw_110)
  have hw3 := hts (.fieldLink RX1 29 "Spanbooker" "wishRow" "LSpanbooker$Row;") (List.mem_cons_of_mem _ kw_111)
  have hw4 := hts (.fieldLink RX1 9 "Spanbooker" "cells" "[J") (List.mem_cons_of_mem _ kw_107)
  have hiX1 : ∀ w ∈ u_ws RX1 TX1 10, w ∈ wsX1_isAllLetAfter := fun w h => List.mem_cons_of_mem _ (ku_X1 w h)
  have J2 : ∀ (n : Nat), ∀ (ce : Nat → Int64) (fr : Int64) (un : Int64) (sb : Nat → Int64) (se : Nat → Int64) (so : Nat → Int32) (sc : Int32) (wb : Nat → Int64) (we : Nat → Int64) (wo : Nat → Int32) (wc : Int32) (fb : Nat → Int64) (fe : Nat → Int64) (fo : Nat → Int32) (fc : Int32) (rm : Nat → Int32) (ac : Int32) (rf : Int32) (kn : Int32) (x1 : Int64) (x3 : Int32) (H : Heap) (locs : List Loc), va_P (dC, dI) vwCl (wSB cI cJ cZ a ce fr un sb se so sc wb we wo wc fb fe fo fc rm ac rf kn) H → va_D A (wSB cI cJ cZ a ce fr un sb se so sc wb we wo wc fb fe fo fc rm ac rf kn) → va_S A s.heap H locs → ∀ (ls : Array Slot), lv_has ls 4 (kvA 0 (a 0) (kvJ 1 x1 (kvI 3 x3 kvE))) → f_X1_isAllLetAfter_2 n ce fr un sb se sc wb we wc x1 x3 = some res → W p l e (headSpec wsX1_isAllLetAfter (kRm 2 0 0 44)).room s m ([.ref (a 0), .long p0] : List Value).toArray below meth c H locs 0 0 (MQ below (kI (dC, dI) .boolean (res) (wSB cI cJ cZ a ce fr un sb se so sc wb we wo wc fb fe fo fc rm ac rf kn) A) ([.ref (a 0), .long p0] : List Value).toArray s 0 0 A) (F0 m 2 ls []) := by
    intro n
    induction n with
    | zero =>
      intro ce fr un sb se so sc wb we wo wc fb fe fo fc rm ac rf kn x1 x3 H locs hP hD hS ls hl h
      have h := f_X1_isAllLetAfter_2_0.symm.trans h
      cases h
    | succ n ih =>
      intro ce fr un sb se so sc wb we wo wc fb fe fo fc rm ac rf kn x1 x3 H locs hP hD hS ls hl h
      have h := f_X1_isAllLetAfter_2_s.symm.trans h
      refine lv_iload_n hx hb (kdr dgX1_isAllLetAfter_0 0 2 rfl rfl) rfl (lv_at hl 2 rfl) ?_
      refine lv_iconst (v := 4) hx hb (kdr dgX1_isAllLetAfter_0 0 3 rfl rfl) (by decide) ?_
      refine lv_icmp_ge (tgt := 29) hx hb (kdr dgX1_isAllLetAfter_0 0 4 rfl rfl) (by decide) (fun c1 => ?_) (fun c1 => ?_)
      · have h := g_t c1 h
        refine lv_aload_n hx hb (kdr dgX1_isAllLetAfter_0 1 7 rfl rfl) rfl (lv_at hl 0 rfl) ?_
        refine va_get (D := (dC, dI)) (ci := 3) (v := .long fr) (C := RX1) (T := TX1) (N := 10) hx hb hts hiX1 hown hK hP 0 rfl rfl 1 (by decide) hw0 (fun _ h9 => h9) rfl (kdr dgX1_isAllLetAfter_0 1 8 rfl rfl) ?_
        refine lv_lload_n hx hb (kdr dgX1_isAllLetAfter_0 1 9 rfl rfl) rfl (lv_at hl 1 rfl) ?_
        refine lv_ladd hx hb (kdr dgX1_isAllLetAfter_0 2 0 rfl rfl) ?_
        obtain ⟨r2, g2, h⟩ := g_b h
        refine kq_i (wSB cI cJ cZ a ce fr un sb se so sc wb we wo wc fb fe fo fc rm ac rf kn) (fun qP qD qF => va_runS (As := [.long (fr + x1)]) (rest := []) ⟨hx, hb, hml, hown, hts⟩ (c_X1_isLet l dC dI cB cI cJ cZ  _  (fr + x1) r2 g2) (kcwS hts kw_496 kv_X1_isLet rfl rfl ⟨(Nat.le_of_ble_eq_true rfl), (Nat.le_of_ble_eq_true rfl)⟩) (kpS (A := A) (kPnil) hK ((kDnil (A := A))) hG) rfl rfl hl.1 rfl (lv_room (Nat.le_of_ble_eq_true rfl)) (kdr dgX1_isAllLetAfter_0 2 1 rfl rfl) ⟨(Nat.le_of_ble_eq_true rfl), (Nat.le_of_ble_eq_true rfl)⟩) hP hD hS hA kFr_n (fun H locs hP hD hS br2 => ?_)
        refine lv_if_eq (tgt := 79) hx hb (kdr dgX1_isAllLetAfter_0 2 2 rfl rfl) (by decide) (fun c3 => ?_) (fun c3 => ?_)
        · have h := g_t c3 h
          refine lv_iconst (v := 0) hx hb (kdr dgX1_isAllLetAfter_0 4 1 rfl rfl) (by decide) ?_
          have h := Option.some.inj h
          subst h
          exact kret_i (v := 0) hx hb hr rfl hlocks hS hP (kdr dgX1_isAllLetAfter_0 4 2 rfl rfl)
        · have h := g_f c3 h
          refine lv_aload_n hx hb (kdr dgX1_isAllLetAfter_0 2 3 rfl rfl) rfl (lv_at hl 0 rfl) ?_
          refine va_get (D := (dC, dI)) (ci := 3) (v := .long un) (C := RX1) (T := TX1) (N := 10) hx hb hts hiX1 hown hK hP 0 rfl rfl 2 (by decide) hw1 (fun _ h9 => h9) rfl (kdr dgX1_isAllLetAfter_0 2 4 rfl rfl) ?_
          refine lv_lload_n hx hb (kdr dgX1_isAllLetAfter_0 2 5 rfl rfl) rfl (lv_at hl 1 rfl) ?_
          refine lv_ladd hx hb (kdr dgX1_isAllLetAfter_0 2 6 rfl rfl) ?_
          obtain ⟨r4, g4, h⟩ := g_b h
          refine kq_i (wSB cI cJ cZ a ce fr un sb se so sc wb we wo wc fb fe fo fc rm ac rf kn) (fun qP qD qF => va_runS (As := [.long (un + x1)]) (rest := []) ⟨hx, hb, hml, hown, hts⟩ (c_X1_isLet l dC dI cB cI cJ cZ  _  (un + x1) r4 g4) (kcwS hts kw_496 kv_X1_isLet rfl rfl ⟨(Nat.le_of_ble_eq_true rfl), (Nat.le_of_ble_eq_true rfl)⟩) (kpS (A := A) (kPnil) hK ((kDnil (A := A))) hG) rfl rfl hl.1 rfl (lv_room (Nat.le_of_ble_eq_true rfl)) (kdr dgX1_isAllLetAfter_0 2 7 rfl rfl) ⟨(Nat.le_of_ble_eq_true rfl), (Nat.le_of_ble_eq_true rfl)⟩) hP hD hS hA kFr_n (fun H locs hP hD hS br4 => ?_)
          refine lv_if_eq (tgt := 79) hx hb (kdr dgX1_isAllLetAfter_0 2 8 rfl rfl) (by decide) (fun c5 => ?_) (fun c5 => ?_)
          · have h := g_t c5 h
            refine lv_iconst (v := 0) hx hb (kdr dgX1_isAllLetAfter_0 4 1 rfl rfl) (by decide) ?_
            have h := Option.some.inj h
            subst h
            exact kret_i (v := 0) hx hb hr rfl hlocks hS hP (kdr dgX1_isAllLetAfter_0 4 2 rfl rfl)
          · have h := g_f c5 h
            refine lv_aload_n hx hb (kdr dgX1_isAllLetAfter_0 2 9 rfl rfl) rfl (lv_at hl 0 rfl) ?_
            refine va_get (D := (dC, dI)) (ci := 3) (v := .ref (a 2)) (C := RX1) (T := TX1) (N := 10) hx hb hts hiX1 hown hK hP 0 rfl rfl 3 (by decide) hw2 (fun _ h9 => h9) rfl (kdr dgX1_isAllLetAfter_0 3 0 rfl rfl) ?_
            refine lv_lload_n hx hb (kdr dgX1_isAllLetAfter_0 3 1 rfl rfl) rfl (lv_at hl 1 rfl) ?_
            obtain ⟨r6, g6, h⟩ := g_b h
            refine kq_i (wSB cI cJ cZ a ce fr un sb se so sc wb we wo wc fb fe fo fc rm ac rf kn) (fun qP qD qF => va_runV (As := [.long x1]) (rest := []) ⟨hx, hb, hml, hown, hts⟩ (c_X0_isLetAfter l dC dI cB cI cJ cZ (a 2) (a 3) (a 4) (a 5) _ sb se so sc x1 r6 g6) (kcwV hts kw_558 kv_X0_isLetAfter rfl rfl ⟨(Nat.le_of_ble_eq_true rfl), (Nat.le_of_ble_eq_true rfl)⟩) (kpV (A := A) qP hK qD hG (krecv_2 (q0 := 2) hK hP rfl)) rfl rfl hl.1 rfl (lv_room (Nat.le_of_ble_eq_true rfl)) (kdr dgX1_isAllLetAfter_0 3 2 rfl rfl) ⟨(Nat.le_of_ble_eq_true rfl), (Nat.le_of_ble_eq_true rfl)⟩) hP hD hS hA kFr_SBs (fun H locs hP hD hS br6 => ?_)
            refine lv_if_eq (tgt := 79) hx hb (kdr dgX1_isAllLetAfter_0 3 3 rfl rfl) (by decide) (fun c7 => ?_) (fun c7 => ?_)
            · have h := g_t c7 h
              refine lv_iconst (v := 0) hx hb (kdr dgX1_isAllLetAfter_0 4 1 rfl rfl) (by decide) ?_
              have h := Option.some.inj h
              subst h
              exact kret_i (v := 0) hx hb hr rfl hlocks hS hP (kdr dgX1_isAllLetAfter_0 4 2 rfl rfl)
            · have h := g_f c7 h
              refine lv_aload_n hx hb (kdr dgX1_isAllLetAfter_0 3 4 rfl rfl) rfl (lv_at hl 0 rfl) ?_
              refine va_get (D := (dC, dI)) (ci := 3) (v := .ref (a 6)) (C := RX1) (T := TX1) (N := 10) hx hb hts hiX1 hown hK hP 0 rfl rfl 4 (by decide) hw3 (fun _ h9 => h9) rfl (kdr dgX1_isAllLetAfter_0 3 5 rfl rfl) ?_
              refine lv_lload_n hx hb (kdr dgX1_isAllLetAfter_0 3 6 rfl rfl) rfl (lv_at hl 1 rfl) ?_
              obtain ⟨r8, g8, h⟩ := g_b h
              refine kq_i (wSB cI cJ cZ a ce fr un sb se so sc wb we wo wc fb fe fo fc rm ac rf kn) (fun qP qD qF => va_runV (As := [.long x1]) (rest := []) ⟨hx, hb, hml, hown, hts⟩ (c_X0_isLetAfter l dC dI cB cI cJ cZ (a 6) (a 7) (a 8) (a 9) _ wb we wo wc x1 r8 g8) (kcwV hts kw_558 kv_X0_isLetAfter rfl rfl ⟨(Nat.le_of_ble_eq_true rfl), (Nat.le_of_ble_eq_true rfl)⟩) (kpV (A := A) qP hK qD hG (krecv_2 (q0 := 6) hK hP rfl)) rfl rfl hl.1 rfl (lv_room (Nat.le_of_ble_eq_true rfl)) (kdr dgX1_isAllLetAfter_0 3 7 rfl rfl) ⟨(Nat.le_of_ble_eq_true rfl), (Nat.le_of_ble_eq_true rfl)⟩) hP hD hS hA kFr_SBw (fun H locs hP hD hS br8 => ?_)
              refine lv_if_eq (tgt := 79) hx hb (kdr dgX1_isAllLetAfter_0 3 8 rfl rfl) (by decide) (fun c9 => ?_) (fun c9 => ?_)
              · have h := g_t c9 h
                refine lv_iconst (v := 0) hx hb (kdr dgX1_isAllLetAfter_0 4 1 rfl rfl) (by decide) ?_
                have h := Option.some.inj h
                subst h
                exact kret_i (v := 0) hx hb hr rfl hlocks hS hP (kdr dgX1_isAllLetAfter_0 4 2 rfl rfl)
              · have h := g_f c9 h
                refine lv_iconst (v := 1) hx hb (kdr dgX1_isAllLetAfter_0 3 9 rfl rfl) (by decide) ?_
                refine lv_goto (tgt := 80) hx hb (kdr dgX1_isAllLetAfter_0 4 0 rfl rfl) (by decide) ?_
                have h := Option.some.inj h
                subst h
                exact kret_i (v := 1) hx hb hr rfl hlocks hS hP (kdr dgX1_isAllLetAfter_0 4 2 rfl rfl)
      · have h := g_f c1 h
        refine lv_aload_n hx hb (kdr dgX1_isAllLetAfter_0 0 5 rfl rfl) rfl (lv_at hl 0 rfl) ?_
        refine va_get (D := (dC, dI)) (ci := 3) (v := .ref (a 1)) (C := RX1) (T := TX1) (N := 10) hx hb hts hiX1 hown hK hP 0 rfl rfl 0 (by decide) hw4 (fun _ h9 => h9) rfl (kdr dgX1_isAllLetAfter_0 0 6 rfl rfl) ?_
        refine lv_iload_n hx hb (kdr dgX1_isAllLetAfter_0 0 7 rfl rfl) rfl (lv_at hl 2 rfl) ?_
        obtain ⟨z1, h⟩ := g_if h
        refine va_lald hx hb hK hP 1 2 rfl rfl (ix_in z1) (kdr dgX1_isAllLetAfter_0 0 8 rfl rfl) ?_
        refine lv_lload_n hx hb (kdr dgX1_isAllLetAfter_0 0 9 rfl rfl) rfl (lv_at hl 1 rfl) ?_
        refine lv_ladd hx hb (kdr dgX1_isAllLetAfter_0 1 0 rfl rfl) ?_
        obtain ⟨r3, g3, h⟩ := g_b h
        refine kq_i (wSB cI cJ cZ a ce fr un sb se so sc wb we wo wc fb fe fo fc rm ac rf kn) (fun qP qD qF => va_runS (As := [.long ((ce x3.toNatClampNeg) + x1)]) (rest := []) ⟨hx, hb, hml, hown, hts⟩ (c_X1_isLet l dC dI cB cI cJ cZ  _  ((ce x3.toNatClampNeg) + x1) r3 g3) (kcwS hts kw_496 kv_X1_isLet rfl rfl ⟨(Nat.le_of_ble_eq_true rfl), (Nat.le_of_ble_eq_true rfl)⟩) (kpS (A := A) (kPnil) hK ((kDnil (A := A))) hG) rfl rfl hl.1 rfl (lv_room (Nat.le_of_ble_eq_true rfl)) (kdr dgX1_isAllLetAfter_0 1 1 rfl rfl) ⟨(Nat.le_of_ble_eq_true rfl), (Nat.le_of_ble_eq_true rfl)⟩) hP hD hS hA kFr_n (fun H locs hP hD hS br3 => ?_)
        refine lv_if_ne (tgt := 23) hx hb (kdr dgX1_isAllLetAfter_0 1 2 rfl rfl) (by decide) (fun c4 => ?_) (fun c4 => ?_)
        · have h := g_f c4 h
          refine lv_iinc (v := x3 + 1) (lv' := (kvI 3 (x3 + 1) (kvA 0 (a 0) (kvJ 1 x1 kvE)))) hx hb (kdr dgX1_isAllLetAfter_0 1 5 rfl rfl) hl (k := 2) rfl rfl (by decide) rfl (fun ls hl => ?_)
          refine lv_goto (tgt := 2) hx hb (kdr dgX1_isAllLetAfter_0 1 6 rfl rfl) (by decide) ?_
          exact ih ce fr un sb se so sc wb we wo wc fb fe fo fc rm ac rf kn x1 (x3 + 1) _ _ hP hD hS ls (lv_sub hl [1, 2, 0] rfl) h
        · have h := g_t c4 h
          refine lv_iconst (v := 0) hx hb (kdr dgX1_isAllLetAfter_0 1 3 rfl rfl) (by decide) ?_
          have h := Option.some.inj h
          subst h
          exact kret_i (v := 0) hx hb hr rfl hlocks hS hP (kdr dgX1_isAllLetAfter_0 1 4 rfl rfl)
  have h := f_X1_isAllLetAfter_e.symm.trans hf
  refine lv_iconst (v := 0) hx hb (kdr dgX1_isAllLetAfter_0 0 0 rfl rfl) (by decide) ?_
  refine lv_istore_n (lv' := (kvI 3 0 (kvA 0 (a 0) (kvJ 1 p0 kvE)))) hx hb (kdr dgX1_isAllLetAfter_0 0 1 rfl rfl) rfl hl (by decide) rfl (fun ls hl => ?_)
  exact J2 24 ce fr un sb se so sc wb we wo wc fb fe fo fc rm ac rf kn p0 0 _ _ hP hD hS ls (lv_sub hl [1, 2, 0] rfl) h
noncomputable abbrev wsX1_isInCalendar : List Cond := kWs yX1_isInCalendar cX1_isInCalendar 5 (some .boolean)
noncomputable def f_X1_isInCalendar (fr : Int64) (un : Int64) (p0 : Int64) (p1 : Int64) : Option (Int32) :=
  if p0 < fr then
    some 0
  else
    if un < p1 then
      some 0
    else
      some 1
theorem f_X1_isInCalendar_e {fr : Int64} {un : Int64} {p0 : Int64} {p1 : Int64} : f_X1_isInCalendar fr un p0 p1 = 
  if p0 < fr then
    some 0
  else
    if un < p1 then
      some 0
    else
      some 1 := rfl
set_option maxHeartbeats 4000000 in
set_option maxRecDepth 100000 in
theorem c_X1_isInCalendar (l : Launch) (dC : Nat → ClassId) (dI : Nat → Nat → Nat) (cB cI cJ cZ : ClassId) (a : Nat → Nat) (sz : Nat) (ce : Nat → Int64) (fr : Int64) (un : Int64) (sb : Nat → Int64) (se : Nat → Int64) (so : Nat → Int32) (sc : Int32) (wb : Nat → Int64) (we : Nat → Int64) (wo : Nat → Int32) (wc : Int32) (fb : Nat → Int64) (fe : Nat → Int64) (fo : Nat → Int32) (fc : Int32) (rm : Nat → Int32) (ac : Int32) (rf : Int32) (kn : Int32) (p0 : Int64) (p1 : Int64) (res : Int32) (hf : f_X1_isInCalendar fr un p0 p1 = some res) : kMi l yX1_isInCalendar wsX1_isInCalendar (kRm 0 0 0 0) dC dI cB cI cJ cZ [.ref (a 0), .long p0, .long p1] sz (wSB cI cJ cZ a ce fr un sb se so sc wb we wo wc fb fe fo fc rm ac rf kn) .boolean (res) (wSB cI cJ cZ a ce fr un sb se so sc wb we wo wc fb fe fo fc rm ac rf kn) 0 0 := by
  refine kmet_i (y := yX1_isInCalendar) (cc := cX1_isInCalendar) (maxL := 5) (ret := (some .boolean)) RX1 (kvA 0 (a 0) (kvJ 1 p0 (kvJ 3 p1 kvE))) kpl_X1 rfl rfl (Nat.le_of_ble_eq_true rfl) rfl (fun p e s m below meth c A ls hx hb hr hml hts hown hlocks hP hK hG hD hA hS hl => ?_)
  have hw0 := hts (.fieldLink RX1 13 "Spanbooker" "from" "J") (List.mem_cons_of_mem _ kw_108)
  have hw1 := hts (.fieldLink RX1 19 "Spanbooker" "until" "J") (List.mem_cons_of_mem _ kw_109)
  have hiX1 : ∀ w ∈ u_ws RX1 TX1 10, w ∈ wsX1_isInCalendar := fun w h => List.mem_cons_of_mem _ (ku_X1 w h)
  have h := f_X1_isInCalendar_e.symm.trans hf
  refine lv_lload_n hx hb (kdr dgX1_isInCalendar_0 0 0 rfl rfl) rfl (lv_at hl 1 rfl) ?_
  refine lv_aload_n hx hb (kdr dgX1_isInCalendar_0 0 1 rfl rfl) rfl (lv_at hl 0 rfl) ?_
  refine va_get (D := (dC, dI)) (ci := 3) (v := .long fr) (C := RX1) (T := TX1) (N := 10) hx hb hts hiX1 hown hK hP 0 rfl rfl 1 (by decide) hw0 (fun _ h9 => h9) rfl (kdr dgX1_isInCalendar_0 0 2 rfl rfl) ?_
  refine kl_lt (pc := 5) (tgt := 22) hx hb (kdr dgX1_isInCalendar_0 0 3 rfl rfl) (kdr dgX1_isInCalendar_0 0 4 rfl rfl) (by decide) (fun c1 => ?_) (fun c1 => ?_)
  · have h := g_t c1 h
    refine lv_iconst (v := 0) hx hb (kdr dgX1_isInCalendar_0 1 2 rfl rfl) (by decide) ?_
    have h := Option.some.inj h
    subst h
    exact kret_i (v := 0) hx hb hr rfl hlocks hS hP (kdr dgX1_isInCalendar_0 1 3 rfl rfl)
  · have h := g_f c1 h
    refine lv_lload_n hx hb (kdr dgX1_isInCalendar_0 0 5 rfl rfl) rfl (lv_at hl 2 rfl) ?_
    refine lv_aload_n hx hb (kdr dgX1_isInCalendar_0 0 6 rfl rfl) rfl (lv_at hl 0 rfl) ?_
    refine va_get (D := (dC, dI)) (ci := 3) (v := .long un) (C := RX1) (T := TX1) (N := 10) hx hb hts hiX1 hown hK hP 0 rfl rfl 2 (by decide) hw1 (fun _ h9 => h9) rfl (kdr dgX1_isInCalendar_0 0 7 rfl rfl) ?_
    refine kl_gt (pc := 14) (tgt := 22) hx hb (kdr dgX1_isInCalendar_0 0 8 rfl rfl) (kdr dgX1_isInCalendar_0 0 9 rfl rfl) (by decide) (fun c2 => ?_) (fun c2 => ?_)
    · have h := g_t c2 h
      refine lv_iconst (v := 0) hx hb (kdr dgX1_isInCalendar_0 1 2 rfl rfl) (by decide) ?_
      have h := Option.some.inj h
      subst h
      exact kret_i (v := 0) hx hb hr rfl hlocks hS hP (kdr dgX1_isInCalendar_0 1 3 rfl rfl)
    · have h := g_f c2 h
      refine lv_iconst (v := 1) hx hb (kdr dgX1_isInCalendar_0 1 0 rfl rfl) (by decide) ?_
      refine lv_goto (tgt := 23) hx hb (kdr dgX1_isInCalendar_0 1 1 rfl rfl) (by decide) ?_
      have h := Option.some.inj h
      subst h
      exact kret_i (v := 1) hx hb hr rfl hlocks hS hP (kdr dgX1_isInCalendar_0 1 3 rfl rfl)
noncomputable abbrev wsX1_addSpan : List Cond := kWs yX1_addSpan cX1_addSpan 6 (some .int)
noncomputable def f_X1_addSpan_50 (sb : Nat → Int64) (se : Nat → Int64) (so : Nat → Int32) (sc : Int32) (x1 : Int64) (x3 : Int64) (x5 : Int32) : Option ((Int32) × (Nat → Int64) × (Nat → Int64) × (Nat → Int32) × (Int32)) :=
  (f_X0_add sb se so sc x1 x3 x5).bind fun r1 =>
  some (r1.1, r1.2.1, r1.2.2.1, r1.2.2.2.1, r1.2.2.2.2)
theorem f_X1_addSpan_50_e {sb : Nat → Int64} {se : Nat → Int64} {so : Nat → Int32} {sc : Int32} {x1 : Int64} {x3 : Int64} {x5 : Int32} : f_X1_addSpan_50 sb se so sc x1 x3 x5 =
  (f_X0_add sb se so sc x1 x3 x5).bind fun r1 =>
  some (r1.1, r1.2.1, r1.2.2.1, r1.2.2.2.1, r1.2.2.2.2) := rfl
noncomputable def f_X1_addSpan (fr : Int64) (un : Int64) (sb : Nat → Int64) (se : Nat → Int64) (so : Nat → Int32) (sc : Int32) (p0 : Int64) (p1 : Int64) (p2 : Int32) : Option ((Int32) × (Nat → Int64) × (Nat → Int64) × (Nat → Int32) × (Int32)) :=
  if p1 ≤ p0 then
    some ((-1), sb, se, so, sc)
  else
    (f_X1_isInCalendar fr un p0 p1).bind fun r2 =>
    if r2 = 0 then
      some ((-1), sb, se, so, sc)
    else
      (f_X0_count sc).bind fun r4 =>
      if r4 < 10 then
        if p2 = 0 then
          (f_X0_firstMeeting sb se sc p0 p1 (-1)).bind fun r7 =>
          if r7 = (-1) then
            f_X1_addSpan_50 sb se so sc p0 p1 p2
          else
            some ((-1), sb, se, so, sc)
        else
          f_X1_addSpan_50 sb se so sc p0 p1 p2
      else
        some ((-1), sb, se, so, sc)
theorem f_X1_addSpan_e {fr : Int64} {un : Int64} {sb : Nat → Int64} {se : Nat → Int64} {so : Nat → Int32} {sc : Int32} {p0 : Int64} {p1 : Int64} {p2 : Int32} : f_X1_addSpan fr un sb se so sc p0 p1 p2 = 
  if p1 ≤ p0 then
    some ((-1), sb, se, so, sc)
  else
    (f_X1_isInCalendar fr un p0 p1).bind fun r2 =>
    if r2 = 0 then
      some ((-1), sb, se, so, sc)
    else
      (f_X0_count sc).bind fun r4 =>
      if r4 < 10 then
        if p2 = 0 then
          (f_X0_firstMeeting sb se sc p0 p1 (-1)).bind fun r7 =>
          if r7 = (-1) then
            f_X1_addSpan_50 sb se so sc p0 p1 p2
          else
            some ((-1), sb, se, so, sc)
        else
          f_X1_addSpan_50 sb se so sc p0 p1 p2
      else
        some ((-1), sb, se, so, sc) := rfl
set_option maxHeartbeats 4000000 in
set_option maxRecDepth 100000 in
theorem c_X1_addSpan (l : Launch) (dC : Nat → ClassId) (dI : Nat → Nat → Nat) (cB cI cJ cZ : ClassId) (a : Nat → Nat) (sz : Nat) (ce : Nat → Int64) (fr : Int64) (un : Int64) (sb : Nat → Int64) (se : Nat → Int64) (so : Nat → Int32) (sc : Int32) (wb : Nat → Int64) (we : Nat → Int64) (wo : Nat → Int32) (wc : Int32) (fb : Nat → Int64) (fe : Nat → Int64) (fo : Nat → Int32) (fc : Int32) (rm : Nat → Int32) (ac : Int32) (rf : Int32) (kn : Int32) (p0 : Int64) (p1 : Int64) (p2 : Int32) (res : (Int32) × (Nat → Int64) × (Nat → Int64) × (Nat → Int32) × (Int32)) (hf : f_X1_addSpan fr un sb se so sc p0 p1 p2 = some res) : kMi l yX1_addSpan wsX1_addSpan (kRm 1 0 0 26) dC dI cB cI cJ cZ [.ref (a 0), .long p0, .long p1, .int p2] sz (wSB cI cJ cZ a ce fr un sb se so sc wb we wo wc fb fe fo fc rm ac rf kn) .int (res.1) (wSB cI cJ cZ a ce fr un (res.2.1) (res.2.2.1) (res.2.2.2.1) (res.2.2.2.2) wb we wo wc fb fe fo fc rm ac rf kn) 0 0 := by
  refine kmet_i (y := yX1_addSpan) (cc := cX1_addSpan) (maxL := 6) (ret := (some .int)) RX1 (kvA 0 (a 0) (kvJ 1 p0 (kvJ 3 p1 (kvI 5 p2 kvE)))) kpl_X1 rfl rfl (Nat.le_of_ble_eq_true rfl) rfl (fun p e s m below meth c A ls hx hb hr hml hts hown hlocks hP hK hG hD hA hS hl => ?_)
  have hw0 := hts (.fieldLink RX1 25 "Spanbooker" "spanRow" "LSpanbooker$Row;") (List.mem_cons_of_mem _ kw_110)
  have hiX1 : ∀ w ∈ u_ws RX1 TX1 10, w ∈ wsX1_addSpan := fun w h => List.mem_cons_of_mem _ (ku_X1 w h)
  have J50 : ∀ (ce : Nat → Int64) (fr : Int64) (un : Int64) (sb : Nat → Int64) (se : Nat → Int64) (so : Nat → Int32) (sc : Int32) (wb : Nat → Int64) (we : Nat → Int64) (wo : Nat → Int32) (wc : Int32) (fb : Nat → Int64) (fe : Nat → Int64) (fo : Nat → Int32) (fc : Int32) (rm : Nat → Int32) (ac : Int32) (rf : Int32) (kn : Int32) (x1 : Int64) (x3 : Int64) (x5 : Int32) (H : Heap) (locs : List Loc), va_P (dC, dI) vwCl (wSB cI cJ cZ a ce fr un sb se so sc wb we wo wc fb fe fo fc rm ac rf kn) H → va_D A (wSB cI cJ cZ a ce fr un sb se so sc wb we wo wc fb fe fo fc rm ac rf kn) → va_S A s.heap H locs → ∀ (ls : Array Slot), lv_has ls 6 (kvA 0 (a 0) (kvJ 1 x1 (kvJ 3 x3 (kvI 5 x5 kvE)))) → f_X1_addSpan_50 sb se so sc x1 x3 x5 = some res → W p l e (headSpec wsX1_addSpan (kRm 1 0 0 26)).room s m ([.ref (a 0), .long p0, .long p1, .int p2] : List Value).toArray below meth c H locs 0 0 (MQ below (kI (dC, dI) .int (res.1) (wSB cI cJ cZ a ce fr un (res.2.1) (res.2.2.1) (res.2.2.2.1) (res.2.2.2.2) wb we wo wc fb fe fo fc rm ac rf kn) A) ([.ref (a 0), .long p0, .long p1, .int p2] : List Value).toArray s 0 0 A) (F0 m 50 ls []) := by
    intro ce fr un sb se so sc wb we wo wc fb fe fo fc rm ac rf kn x1 x3 x5 H locs hP hD hS ls hl h
    have h := f_X1_addSpan_50_e.symm.trans h
    refine lv_aload_n hx hb (kdr dgX1_addSpan_0 2 8 rfl rfl) rfl (lv_at hl 0 rfl) ?_
    refine va_get (D := (dC, dI)) (ci := 3) (v := .ref (a 2)) (C := RX1) (T := TX1) (N := 10) hx hb hts hiX1 hown hK hP 0 rfl rfl 3 (by decide) hw0 (fun _ h9 => h9) rfl (kdr dgX1_addSpan_0 2 9 rfl rfl) ?_
    refine lv_lload_n hx hb (kdr dgX1_addSpan_0 3 0 rfl rfl) rfl (lv_at hl 1 rfl) ?_
    refine lv_lload_n hx hb (kdr dgX1_addSpan_0 3 1 rfl rfl) rfl (lv_at hl 2 rfl) ?_
    refine lv_iload hx hb (kdr dgX1_addSpan_0 3 2 rfl rfl) (lv_at hl 3 rfl) ?_
    obtain ⟨r1, g1, h⟩ := g_b h
    refine kq_i (wSB cI cJ cZ a ce fr un r1.2.1 r1.2.2.1 r1.2.2.2.1 r1.2.2.2.2 wb we wo wc fb fe fo fc rm ac rf kn) (fun qP qD qF => va_runV (As := [.long x1, .long x3, .int x5]) (rest := []) ⟨hx, hb, hml, hown, hts⟩ (c_X0_add l dC dI cB cI cJ cZ (a 2) (a 3) (a 4) (a 5) _ sb se so sc x1 x3 x5 r1 g1) (kcwV hts kw_215 kv_X0_add rfl rfl ⟨(Nat.le_of_ble_eq_true rfl), (Nat.le_of_ble_eq_true rfl)⟩) (kpV (A := A) qP hK qD hG (krecv_2 (q0 := 2) hK hP rfl)) rfl rfl hl.1 rfl (lv_room (Nat.le_of_ble_eq_true rfl)) (kdr dgX1_addSpan_0 3 3 rfl rfl) ⟨(Nat.le_of_ble_eq_true rfl), (Nat.le_of_ble_eq_true rfl)⟩) hP hD hS hA kFr_SBs (fun H locs hP hD hS br1 => ?_)
    have h := Option.some.inj h
    subst h
    exact kret_i (v := r1.1) hx hb hr rfl hlocks hS hP (kdr dgX1_addSpan_0 3 4 rfl rfl)
  have h := f_X1_addSpan_e.symm.trans hf
  refine lv_lload_n hx hb (kdr dgX1_addSpan_0 0 0 rfl rfl) rfl (lv_at hl 1 rfl) ?_
  refine lv_lload_n hx hb (kdr dgX1_addSpan_0 0 1 rfl rfl) rfl (lv_at hl 2 rfl) ?_
  refine kl_ge (pc := 2) (tgt := 27) hx hb (kdr dgX1_addSpan_0 0 2 rfl rfl) (kdr dgX1_addSpan_0 0 3 rfl rfl) (by decide) (fun c1 => ?_) (fun c1 => ?_)
  · have h := g_t c1 h
    refine lv_iconst (v := (-1)) hx hb (kdr dgX1_addSpan_0 1 4 rfl rfl) (by decide) ?_
    have h := Option.some.inj h
    subst h
    exact kret_i (v := (-1)) hx hb hr rfl hlocks hS hP (kdr dgX1_addSpan_0 1 5 rfl rfl)
  · have h := g_f c1 h
    refine lv_aload_n hx hb (kdr dgX1_addSpan_0 0 4 rfl rfl) rfl (lv_at hl 0 rfl) ?_
    refine lv_lload_n hx hb (kdr dgX1_addSpan_0 0 5 rfl rfl) rfl (lv_at hl 1 rfl) ?_
    refine lv_lload_n hx hb (kdr dgX1_addSpan_0 0 6 rfl rfl) rfl (lv_at hl 2 rfl) ?_
    obtain ⟨r2, g2, h⟩ := g_b h
    refine kq_i (wSB cI cJ cZ a ce fr un sb se so sc wb we wo wc fb fe fo fc rm ac rf kn) (fun qP qD qF => va_runV (As := [.long p0, .long p1]) (rest := []) ⟨hx, hb, hml, hown, hts⟩ (c_X1_isInCalendar l dC dI cB cI cJ cZ a _ ce fr un sb se so sc wb we wo wc fb fe fo fc rm ac rf kn p0 p1 r2 g2) (kcwV hts kw_276 kv_X1_isInCalendar rfl rfl ⟨(Nat.le_of_ble_eq_true rfl), (Nat.le_of_ble_eq_true rfl)⟩) (kpV (A := A) qP hK qD hG (krecv_3 (q0 := 0) hK hP rfl)) rfl rfl hl.1 rfl (lv_room (Nat.le_of_ble_eq_true rfl)) (kdr dgX1_addSpan_0 0 7 rfl rfl) ⟨(Nat.le_of_ble_eq_true rfl), (Nat.le_of_ble_eq_true rfl)⟩) hP hD hS hA kFr_SB (fun H locs hP hD hS br2 => ?_)
    refine lv_if_eq (tgt := 27) hx hb (kdr dgX1_addSpan_0 0 8 rfl rfl) (by decide) (fun c3 => ?_) (fun c3 => ?_)
    · have h := g_t c3 h
      refine lv_iconst (v := (-1)) hx hb (kdr dgX1_addSpan_0 1 4 rfl rfl) (by decide) ?_
      have h := Option.some.inj h
      subst h
      exact kret_i (v := (-1)) hx hb hr rfl hlocks hS hP (kdr dgX1_addSpan_0 1 5 rfl rfl)
    · have h := g_f c3 h
      refine lv_aload_n hx hb (kdr dgX1_addSpan_0 0 9 rfl rfl) rfl (lv_at hl 0 rfl) ?_
      refine va_get (D := (dC, dI)) (ci := 3) (v := .ref (a 2)) (C := RX1) (T := TX1) (N := 10) hx hb hts hiX1 hown hK hP 0 rfl rfl 3 (by decide) hw0 (fun _ h9 => h9) rfl (kdr dgX1_addSpan_0 1 0 rfl rfl) ?_
      obtain ⟨r4, g4, h⟩ := g_b h
      refine kq_i (wSB cI cJ cZ a ce fr un sb se so sc wb we wo wc fb fe fo fc rm ac rf kn) (fun qP qD qF => va_runV (As := []) (rest := []) ⟨hx, hb, hml, hown, hts⟩ (c_X0_count l dC dI cB cI cJ cZ (a 2) (a 3) (a 4) (a 5) _ sb se so sc  r4 g4) (kcwV hts kw_155 kv_X0_count rfl rfl ⟨(Nat.le_of_ble_eq_true rfl), (Nat.le_of_ble_eq_true rfl)⟩) (kpV (A := A) qP hK qD hG (krecv_2 (q0 := 2) hK hP rfl)) rfl rfl hl.1 rfl (lv_room (Nat.le_of_ble_eq_true rfl)) (kdr dgX1_addSpan_0 1 1 rfl rfl) ⟨(Nat.le_of_ble_eq_true rfl), (Nat.le_of_ble_eq_true rfl)⟩) hP hD hS hA kFr_SBs (fun H locs hP hD hS br4 => ?_)
      refine lv_bipush (v := 10) hx hb (kdr dgX1_addSpan_0 1 2 rfl rfl) (by decide) ?_
      refine lv_icmp_lt (tgt := 29) hx hb (kdr dgX1_addSpan_0 1 3 rfl rfl) (by decide) (fun c5 => ?_) (fun c5 => ?_)
      · have h := g_t c5 h
        refine lv_iload hx hb (kdr dgX1_addSpan_0 1 6 rfl rfl) (lv_at hl 3 rfl) ?_
        refine lv_if_ne (tgt := 50) hx hb (kdr dgX1_addSpan_0 1 7 rfl rfl) (by decide) (fun c6 => ?_) (fun c6 => ?_)
        · have h := g_f c6 h
          exact J50 ce fr un sb se so sc wb we wo wc fb fe fo fc rm ac rf kn p0 p1 p2 _ _ hP hD hS ls (lv_sub hl [0, 1, 2, 3] rfl) h
        · have h := g_t c6 h
          refine lv_aload_n hx hb (kdr dgX1_addSpan_0 1 8 rfl rfl) rfl (lv_at hl 0 rfl) ?_
          refine va_get (D := (dC, dI)) (ci := 3) (v := .ref (a 2)) (C := RX1) (T := TX1) (N := 10) hx hb hts hiX1 hown hK hP 0 rfl rfl 3 (by decide) hw0 (fun _ h9 => h9) rfl (kdr dgX1_addSpan_0 1 9 rfl rfl) ?_
          refine lv_lload_n hx hb (kdr dgX1_addSpan_0 2 0 rfl rfl) rfl (lv_at hl 1 rfl) ?_
          refine lv_lload_n hx hb (kdr dgX1_addSpan_0 2 1 rfl rfl) rfl (lv_at hl 2 rfl) ?_
          refine lv_iconst (v := (-1)) hx hb (kdr dgX1_addSpan_0 2 2 rfl rfl) (by decide) ?_
          obtain ⟨r7, g7, h⟩ := g_b h
          refine kq_i (wSB cI cJ cZ a ce fr un sb se so sc wb we wo wc fb fe fo fc rm ac rf kn) (fun qP qD qF => va_runV (As := [.long p0, .long p1, .int (-1)]) (rest := []) ⟨hx, hb, hml, hown, hts⟩ (c_X0_firstMeeting l dC dI cB cI cJ cZ (a 2) (a 3) (a 4) (a 5) _ sb se so sc p0 p1 (-1) r7 g7) (kcwV hts kw_190 kv_X0_firstMeeting rfl rfl ⟨(Nat.le_of_ble_eq_true rfl), (Nat.le_of_ble_eq_true rfl)⟩) (kpV (A := A) qP hK qD hG (krecv_2 (q0 := 2) hK hP rfl)) rfl rfl hl.1 rfl (lv_room (Nat.le_of_ble_eq_true rfl)) (kdr dgX1_addSpan_0 2 3 rfl rfl) ⟨(Nat.le_of_ble_eq_true rfl), (Nat.le_of_ble_eq_true rfl)⟩) hP hD hS hA kFr_SBs (fun H locs hP hD hS br7 => ?_)
          refine lv_iconst (v := (-1)) hx hb (kdr dgX1_addSpan_0 2 4 rfl rfl) (by decide) ?_
          refine lv_icmp_eq (tgt := 50) hx hb (kdr dgX1_addSpan_0 2 5 rfl rfl) (by decide) (fun c8 => ?_) (fun c8 => ?_)
          · have h := g_t c8 h
            exact J50 ce fr un sb se so sc wb we wo wc fb fe fo fc rm ac rf kn p0 p1 p2 _ _ hP hD hS ls (lv_sub hl [0, 1, 2, 3] rfl) h
          · have h := g_f c8 h
            refine lv_iconst (v := (-1)) hx hb (kdr dgX1_addSpan_0 2 6 rfl rfl) (by decide) ?_
            have h := Option.some.inj h
            subst h
            exact kret_i (v := (-1)) hx hb hr rfl hlocks hS hP (kdr dgX1_addSpan_0 2 7 rfl rfl)
      · have h := g_f c5 h
        refine lv_iconst (v := (-1)) hx hb (kdr dgX1_addSpan_0 1 4 rfl rfl) (by decide) ?_
        have h := Option.some.inj h
        subst h
        exact kret_i (v := (-1)) hx hb hr rfl hlocks hS hP (kdr dgX1_addSpan_0 1 5 rfl rfl)
noncomputable abbrev wsX1_changeSpan : List Cond := kWs yX1_changeSpan cX1_changeSpan 6 (some .boolean)
noncomputable def f_X1_changeSpan (fr : Int64) (un : Int64) (sb : Nat → Int64) (se : Nat → Int64) (sc : Int32) (p0 : Int32) (p1 : Int64) (p2 : Int64) : Option ((Int32) × (Nat → Int64) × (Nat → Int64)) :=
  if p2 ≤ p1 then
    some (0, sb, se)
  else
    (f_X1_isInCalendar fr un p1 p2).bind fun r2 =>
    if r2 = 0 then
      some (0, sb, se)
    else
      (f_X0_firstMeeting sb se sc p1 p2 p0).bind fun r4 =>
      if r4 = (-1) then
        (f_X0_put sb se sc p0 p1 p2).bind fun r6 =>
        some (1, r6.1, r6.2)
      else
        some (0, sb, se)
theorem f_X1_changeSpan_e {fr : Int64} {un : Int64} {sb : Nat → Int64} {se : Nat → Int64} {sc : Int32} {p0 : Int32} {p1 : Int64} {p2 : Int64} : f_X1_changeSpan fr un sb se sc p0 p1 p2 = 
  if p2 ≤ p1 then
    some (0, sb, se)
  else
    (f_X1_isInCalendar fr un p1 p2).bind fun r2 =>
    if r2 = 0 then
      some (0, sb, se)
    else
      (f_X0_firstMeeting sb se sc p1 p2 p0).bind fun r4 =>
      if r4 = (-1) then
        (f_X0_put sb se sc p0 p1 p2).bind fun r6 =>
        some (1, r6.1, r6.2)
      else
        some (0, sb, se) := rfl
set_option maxHeartbeats 4000000 in
set_option maxRecDepth 100000 in
theorem c_X1_changeSpan (l : Launch) (dC : Nat → ClassId) (dI : Nat → Nat → Nat) (cB cI cJ cZ : ClassId) (a : Nat → Nat) (sz : Nat) (ce : Nat → Int64) (fr : Int64) (un : Int64) (sb : Nat → Int64) (se : Nat → Int64) (so : Nat → Int32) (sc : Int32) (wb : Nat → Int64) (we : Nat → Int64) (wo : Nat → Int32) (wc : Int32) (fb : Nat → Int64) (fe : Nat → Int64) (fo : Nat → Int32) (fc : Int32) (rm : Nat → Int32) (ac : Int32) (rf : Int32) (kn : Int32) (p0 : Int32) (p1 : Int64) (p2 : Int64) (res : (Int32) × (Nat → Int64) × (Nat → Int64)) (hf : f_X1_changeSpan fr un sb se sc p0 p1 p2 = some res) : kMi l yX1_changeSpan wsX1_changeSpan (kRm 2 0 0 46) dC dI cB cI cJ cZ [.ref (a 0), .int p0, .long p1, .long p2] sz (wSB cI cJ cZ a ce fr un sb se so sc wb we wo wc fb fe fo fc rm ac rf kn) .boolean (res.1) (wSB cI cJ cZ a ce fr un (res.2.1) (res.2.2) so sc wb we wo wc fb fe fo fc rm ac rf kn) 0 0 := by
  refine kmet_i (y := yX1_changeSpan) (cc := cX1_changeSpan) (maxL := 6) (ret := (some .boolean)) RX1 (kvA 0 (a 0) (kvI 1 p0 (kvJ 2 p1 (kvJ 4 p2 kvE)))) kpl_X1 rfl rfl (Nat.le_of_ble_eq_true rfl) rfl (fun p e s m below meth c A ls hx hb hr hml hts hown hlocks hP hK hG hD hA hS hl => ?_)
  have hw0 := hts (.fieldLink RX1 25 "Spanbooker" "spanRow" "LSpanbooker$Row;") (List.mem_cons_of_mem _ kw_110)
  have hiX1 : ∀ w ∈ u_ws RX1 TX1 10, w ∈ wsX1_changeSpan := fun w h => List.mem_cons_of_mem _ (ku_X1 w h)
  have h := f_X1_changeSpan_e.symm.trans hf
  refine lv_lload_n hx hb (kdr dgX1_changeSpan_0 0 0 rfl rfl) rfl (lv_at hl 2 rfl) ?_
  refine lv_lload hx hb (kdr dgX1_changeSpan_0 0 1 rfl rfl) (lv_at hl 3 rfl) ?_
  refine kl_ge (pc := 3) (tgt := 32) hx hb (kdr dgX1_changeSpan_0 0 2 rfl rfl) (kdr dgX1_changeSpan_0 0 3 rfl rfl) (by decide) (fun c1 => ?_) (fun c1 => ?_)
  · have h := g_t c1 h
    refine lv_iconst (v := 0) hx hb (kdr dgX1_changeSpan_0 1 7 rfl rfl) (by decide) ?_
    have h := Option.some.inj h
    subst h
    exact kret_i (v := 0) hx hb hr rfl hlocks hS hP (kdr dgX1_changeSpan_0 1 8 rfl rfl)
  · have h := g_f c1 h
    refine lv_aload_n hx hb (kdr dgX1_changeSpan_0 0 4 rfl rfl) rfl (lv_at hl 0 rfl) ?_
    refine lv_lload_n hx hb (kdr dgX1_changeSpan_0 0 5 rfl rfl) rfl (lv_at hl 2 rfl) ?_
    refine lv_lload hx hb (kdr dgX1_changeSpan_0 0 6 rfl rfl) (lv_at hl 3 rfl) ?_
    obtain ⟨r2, g2, h⟩ := g_b h
    refine kq_i (wSB cI cJ cZ a ce fr un sb se so sc wb we wo wc fb fe fo fc rm ac rf kn) (fun qP qD qF => va_runV (As := [.long p1, .long p2]) (rest := []) ⟨hx, hb, hml, hown, hts⟩ (c_X1_isInCalendar l dC dI cB cI cJ cZ a _ ce fr un sb se so sc wb we wo wc fb fe fo fc rm ac rf kn p1 p2 r2 g2) (kcwV hts kw_276 kv_X1_isInCalendar rfl rfl ⟨(Nat.le_of_ble_eq_true rfl), (Nat.le_of_ble_eq_true rfl)⟩) (kpV (A := A) qP hK qD hG (krecv_3 (q0 := 0) hK hP rfl)) rfl rfl hl.1 rfl (lv_room (Nat.le_of_ble_eq_true rfl)) (kdr dgX1_changeSpan_0 0 7 rfl rfl) ⟨(Nat.le_of_ble_eq_true rfl), (Nat.le_of_ble_eq_true rfl)⟩) hP hD hS hA kFr_SB (fun H locs hP hD hS br2 => ?_)
    refine lv_if_eq (tgt := 32) hx hb (kdr dgX1_changeSpan_0 0 8 rfl rfl) (by decide) (fun c3 => ?_) (fun c3 => ?_)
    · have h := g_t c3 h
      refine lv_iconst (v := 0) hx hb (kdr dgX1_changeSpan_0 1 7 rfl rfl) (by decide) ?_
      have h := Option.some.inj h
      subst h
      exact kret_i (v := 0) hx hb hr rfl hlocks hS hP (kdr dgX1_changeSpan_0 1 8 rfl rfl)
    · have h := g_f c3 h
      refine lv_aload_n hx hb (kdr dgX1_changeSpan_0 0 9 rfl rfl) rfl (lv_at hl 0 rfl) ?_
      refine va_get (D := (dC, dI)) (ci := 3) (v := .ref (a 2)) (C := RX1) (T := TX1) (N := 10) hx hb hts hiX1 hown hK hP 0 rfl rfl 3 (by decide) hw0 (fun _ h9 => h9) rfl (kdr dgX1_changeSpan_0 1 0 rfl rfl) ?_
      refine lv_lload_n hx hb (kdr dgX1_changeSpan_0 1 1 rfl rfl) rfl (lv_at hl 2 rfl) ?_
      refine lv_lload hx hb (kdr dgX1_changeSpan_0 1 2 rfl rfl) (lv_at hl 3 rfl) ?_
      refine lv_iload_n hx hb (kdr dgX1_changeSpan_0 1 3 rfl rfl) rfl (lv_at hl 1 rfl) ?_
      obtain ⟨r4, g4, h⟩ := g_b h
      refine kq_i (wSB cI cJ cZ a ce fr un sb se so sc wb we wo wc fb fe fo fc rm ac rf kn) (fun qP qD qF => va_runV (As := [.long p1, .long p2, .int p0]) (rest := []) ⟨hx, hb, hml, hown, hts⟩ (c_X0_firstMeeting l dC dI cB cI cJ cZ (a 2) (a 3) (a 4) (a 5) _ sb se so sc p1 p2 p0 r4 g4) (kcwV hts kw_190 kv_X0_firstMeeting rfl rfl ⟨(Nat.le_of_ble_eq_true rfl), (Nat.le_of_ble_eq_true rfl)⟩) (kpV (A := A) qP hK qD hG (krecv_2 (q0 := 2) hK hP rfl)) rfl rfl hl.1 rfl (lv_room (Nat.le_of_ble_eq_true rfl)) (kdr dgX1_changeSpan_0 1 4 rfl rfl) ⟨(Nat.le_of_ble_eq_true rfl), (Nat.le_of_ble_eq_true rfl)⟩) hP hD hS hA kFr_SBs (fun H locs hP hD hS br4 => ?_)
      refine lv_iconst (v := (-1)) hx hb (kdr dgX1_changeSpan_0 1 5 rfl rfl) (by decide) ?_
      refine lv_icmp_eq (tgt := 34) hx hb (kdr dgX1_changeSpan_0 1 6 rfl rfl) (by decide) (fun c5 => ?_) (fun c5 => ?_)
      · have h := g_t c5 h
        refine lv_aload_n hx hb (kdr dgX1_changeSpan_0 1 9 rfl rfl) rfl (lv_at hl 0 rfl) ?_
        refine va_get (D := (dC, dI)) (ci := 3) (v := .ref (a 2)) (C := RX1) (T := TX1) (N := 10) hx hb hts hiX1 hown hK hP 0 rfl rfl 3 (by decide) hw0 (fun _ h9 => h9) rfl (kdr dgX1_changeSpan_0 2 0 rfl rfl) ?_
        refine lv_iload_n hx hb (kdr dgX1_changeSpan_0 2 1 rfl rfl) rfl (lv_at hl 1 rfl) ?_
        refine lv_lload_n hx hb (kdr dgX1_changeSpan_0 2 2 rfl rfl) rfl (lv_at hl 2 rfl) ?_
        refine lv_lload hx hb (kdr dgX1_changeSpan_0 2 3 rfl rfl) (lv_at hl 3 rfl) ?_
        obtain ⟨r6, g6, h⟩ := g_b h
        refine kq_v (wSB cI cJ cZ a ce fr un r6.1 r6.2 so sc wb we wo wc fb fe fo fc rm ac rf kn) (fun qP qD qF => va_runV (As := [.int p0, .long p1, .long p2]) (rest := []) ⟨hx, hb, hml, hown, hts⟩ (c_X0_put l dC dI cB cI cJ cZ (a 2) (a 3) (a 4) (a 5) _ sb se so sc p0 p1 p2 r6 g6) (kcwV hts kw_611 kv_X0_put rfl rfl ⟨(Nat.le_of_ble_eq_true rfl), (Nat.le_of_ble_eq_true rfl)⟩) (kpV (A := A) qP hK qD hG (krecv_2 (q0 := 2) hK hP rfl)) rfl rfl hl.1 rfl (lv_room (Nat.le_of_ble_eq_true rfl)) (kdr dgX1_changeSpan_0 2 4 rfl rfl) ⟨(Nat.le_of_ble_eq_true rfl), (Nat.le_of_ble_eq_true rfl)⟩) hP hD hS hA kFr_SBs (fun H locs hP hD hS => ?_)
        refine lv_iconst (v := 1) hx hb (kdr dgX1_changeSpan_0 2 5 rfl rfl) (by decide) ?_
        have h := Option.some.inj h
        subst h
        exact kret_i (v := 1) hx hb hr rfl hlocks hS hP (kdr dgX1_changeSpan_0 2 6 rfl rfl)
      · have h := g_f c5 h
        refine lv_iconst (v := 0) hx hb (kdr dgX1_changeSpan_0 1 7 rfl rfl) (by decide) ?_
        have h := Option.some.inj h
        subst h
        exact kret_i (v := 0) hx hb hr rfl hlocks hS hP (kdr dgX1_changeSpan_0 1 8 rfl rfl)
noncomputable abbrev wsX1_firstWithoutSpan : List Cond := kWs yX1_firstWithoutSpan cX1_firstWithoutSpan 9 (some .long)
noncomputable def f_X1_firstWithoutSpan_6 : Nat → (Nat → Int64) → (Nat → Int64) → (Int32) → (Int64) → (Int64) → (Int32) → Option (Int64)
  | 0, _, _, _, _, _, _ => none
  | n + 1, sb, se, sc, x3, x5, x7 =>
    (f_X0_count sc).bind fun r1 =>
    if r1 ≤ x7 then
      some x5
    else
      (f_X0_firstMeeting sb se sc x5 (x5 + x3) (-1)).bind fun r3 =>
      if r3 = (-1) then
        some x5
      else
        (f_X0_end se sc r3).bind fun r5 =>
        f_X1_firstWithoutSpan_6 n sb se sc x3 r5 (x7 + 1)
theorem f_X1_firstWithoutSpan_6_0 {sb : Nat → Int64} {se : Nat → Int64} {sc : Int32} {x3 : Int64} {x5 : Int64} {x7 : Int32} : f_X1_firstWithoutSpan_6 0 sb se sc x3 x5 x7 = none := rfl
theorem f_X1_firstWithoutSpan_6_s {n : Nat} {sb : Nat → Int64} {se : Nat → Int64} {sc : Int32} {x3 : Int64} {x5 : Int64} {x7 : Int32} : f_X1_firstWithoutSpan_6 (n + 1) sb se sc x3 x5 x7 =
  (f_X0_count sc).bind fun r1 =>
  if r1 ≤ x7 then
    some x5
  else
    (f_X0_firstMeeting sb se sc x5 (x5 + x3) (-1)).bind fun r3 =>
    if r3 = (-1) then
      some x5
    else
      (f_X0_end se sc r3).bind fun r5 =>
      f_X1_firstWithoutSpan_6 n sb se sc x3 r5 (x7 + 1) := rfl
noncomputable def f_X1_firstWithoutSpan (sb : Nat → Int64) (se : Nat → Int64) (sc : Int32) (p0 : Int64) (p1 : Int64) : Option (Int64) :=
  f_X1_firstWithoutSpan_6 24 sb se sc p1 p0 0
theorem f_X1_firstWithoutSpan_e {sb : Nat → Int64} {se : Nat → Int64} {sc : Int32} {p0 : Int64} {p1 : Int64} : f_X1_firstWithoutSpan sb se sc p0 p1 = 
  f_X1_firstWithoutSpan_6 24 sb se sc p1 p0 0 := rfl
set_option maxHeartbeats 4000000 in
set_option maxRecDepth 100000 in
theorem c_X1_firstWithoutSpan (l : Launch) (dC : Nat → ClassId) (dI : Nat → Nat → Nat) (cB cI cJ cZ : ClassId) (a : Nat → Nat) (sz : Nat) (ce : Nat → Int64) (fr : Int64) (un : Int64) (sb : Nat → Int64) (se : Nat → Int64) (so : Nat → Int32) (sc : Int32) (wb : Nat → Int64) (we : Nat → Int64) (wo : Nat → Int32) (wc : Int32) (fb : Nat → Int64) (fe : Nat → Int64) (fo : Nat → Int32) (fc : Int32) (rm : Nat → Int32) (ac : Int32) (rf : Int32) (kn : Int32) (p0 : Int64) (p1 : Int64) (res : Int64) (hf : f_X1_firstWithoutSpan sb se sc p0 p1 = some res) : kMl l yX1_firstWithoutSpan wsX1_firstWithoutSpan (kRm 2 0 0 42) dC dI cB cI cJ cZ [.ref (a 0), .long p0, .long p1] sz (wSB cI cJ cZ a ce fr un sb se so sc wb we wo wc fb fe fo fc rm ac rf kn) (res) (wSB cI cJ cZ a ce fr un sb se so sc wb we wo wc fb fe fo fc rm ac rf kn) 0 0 := by
  refine kmet_l (y := yX1_firstWithoutSpan) (cc := cX1_firstWithoutSpan) (maxL := 9) (ret := (some .long)) RX1 (kvA 0 (a 0) (kvJ 1 p0 (kvJ 3 p1 kvE))) kpl_X1 rfl rfl (Nat.le_of_ble_eq_true rfl) rfl (fun p e s m below meth c A ls hx hb hr hml hts hown hlocks hP hK hG hD hA hS hl => ?_)
  have hw0 := hts (.fieldLink RX1 25 "Spanbooker" "spanRow" "LSpanbooker$Row;") (List.mem_cons_of_mem _ kw_110)
  have hiX1 : ∀ w ∈ u_ws RX1 TX1 10, w ∈ wsX1_firstWithoutSpan := fun w h => List.mem_cons_of_mem _ (ku_X1 w h)
  have J6 : ∀ (n : Nat), ∀ (ce : Nat → Int64) (fr : Int64) (un : Int64) (sb : Nat → Int64) (se : Nat → Int64) (so : Nat → Int32) (sc : Int32) (wb : Nat → Int64) (we : Nat → Int64) (wo : Nat → Int32) (wc : Int32) (fb : Nat → Int64) (fe : Nat → Int64) (fo : Nat → Int32) (fc : Int32) (rm : Nat → Int32) (ac : Int32) (rf : Int32) (kn : Int32) (x3 : Int64) (x5 : Int64) (x7 : Int32) (H : Heap) (locs : List Loc), va_P (dC, dI) vwCl (wSB cI cJ cZ a ce fr un sb se so sc wb we wo wc fb fe fo fc rm ac rf kn) H → va_D A (wSB cI cJ cZ a ce fr un sb se so sc wb we wo wc fb fe fo fc rm ac rf kn) → va_S A s.heap H locs → ∀ (ls : Array Slot), lv_has ls 9 (kvA 0 (a 0) (kvJ 3 x3 (kvJ 5 x5 (kvI 7 x7 kvE)))) → f_X1_firstWithoutSpan_6 n sb se sc x3 x5 x7 = some res → W p l e (headSpec wsX1_firstWithoutSpan (kRm 2 0 0 42)).room s m ([.ref (a 0), .long p0, .long p1] : List Value).toArray below meth c H locs 0 0 (MQ below (kL (dC, dI) (res) (wSB cI cJ cZ a ce fr un sb se so sc wb we wo wc fb fe fo fc rm ac rf kn) A) ([.ref (a 0), .long p0, .long p1] : List Value).toArray s 0 0 A) (F0 m 6 ls []) := by
    intro n
    induction n with
    | zero =>
      intro ce fr un sb se so sc wb we wo wc fb fe fo fc rm ac rf kn x3 x5 x7 H locs hP hD hS ls hl h
      have h := f_X1_firstWithoutSpan_6_0.symm.trans h
      cases h
    | succ n ih =>
      intro ce fr un sb se so sc wb we wo wc fb fe fo fc rm ac rf kn x3 x5 x7 H locs hP hD hS ls hl h
      have h := f_X1_firstWithoutSpan_6_s.symm.trans h
      refine lv_iload hx hb (kdr dgX1_firstWithoutSpan_0 0 4 rfl rfl) (lv_at hl 3 rfl) ?_
      refine lv_aload_n hx hb (kdr dgX1_firstWithoutSpan_0 0 5 rfl rfl) rfl (lv_at hl 0 rfl) ?_
      refine va_get (D := (dC, dI)) (ci := 3) (v := .ref (a 2)) (C := RX1) (T := TX1) (N := 10) hx hb hts hiX1 hown hK hP 0 rfl rfl 3 (by decide) hw0 (fun _ h9 => h9) rfl (kdr dgX1_firstWithoutSpan_0 0 6 rfl rfl) ?_
      obtain ⟨r1, g1, h⟩ := g_b h
      refine kq_i (wSB cI cJ cZ a ce fr un sb se so sc wb we wo wc fb fe fo fc rm ac rf kn) (fun qP qD qF => va_runV (As := []) (rest := [.int x7]) ⟨hx, hb, hml, hown, hts⟩ (c_X0_count l dC dI cB cI cJ cZ (a 2) (a 3) (a 4) (a 5) _ sb se so sc  r1 g1) (kcwV hts kw_155 kv_X0_count rfl rfl ⟨(Nat.le_of_ble_eq_true rfl), (Nat.le_of_ble_eq_true rfl)⟩) (kpV (A := A) qP hK qD hG (krecv_2 (q0 := 2) hK hP rfl)) rfl rfl hl.1 rfl (lv_room (Nat.le_of_ble_eq_true rfl)) (kdr dgX1_firstWithoutSpan_0 0 7 rfl rfl) ⟨(Nat.le_of_ble_eq_true rfl), (Nat.le_of_ble_eq_true rfl)⟩) hP hD hS hA kFr_SBs (fun H locs hP hD hS br1 => ?_)
      refine lv_icmp_ge (tgt := 60) hx hb (kdr dgX1_firstWithoutSpan_0 0 8 rfl rfl) (by decide) (fun c2 => ?_) (fun c2 => ?_)
      · have h := g_t c2 h
        refine lv_lload hx hb (kdr dgX1_firstWithoutSpan_0 3 0 rfl rfl) (lv_at hl 2 rfl) ?_
        have h := Option.some.inj h
        subst h
        exact kret_l (v := x5) hx hb hr hlocks hS hP (kdr dgX1_firstWithoutSpan_0 3 1 rfl rfl)
      · have h := g_f c2 h
        refine lv_aload_n hx hb (kdr dgX1_firstWithoutSpan_0 0 9 rfl rfl) rfl (lv_at hl 0 rfl) ?_
        refine va_get (D := (dC, dI)) (ci := 3) (v := .ref (a 2)) (C := RX1) (T := TX1) (N := 10) hx hb hts hiX1 hown hK hP 0 rfl rfl 3 (by decide) hw0 (fun _ h9 => h9) rfl (kdr dgX1_firstWithoutSpan_0 1 0 rfl rfl) ?_
        refine lv_lload hx hb (kdr dgX1_firstWithoutSpan_0 1 1 rfl rfl) (lv_at hl 2 rfl) ?_
        refine lv_lload hx hb (kdr dgX1_firstWithoutSpan_0 1 2 rfl rfl) (lv_at hl 2 rfl) ?_
        refine lv_lload_n hx hb (kdr dgX1_firstWithoutSpan_0 1 3 rfl rfl) rfl (lv_at hl 1 rfl) ?_
        refine lv_ladd hx hb (kdr dgX1_firstWithoutSpan_0 1 4 rfl rfl) ?_
        refine lv_iconst (v := (-1)) hx hb (kdr dgX1_firstWithoutSpan_0 1 5 rfl rfl) (by decide) ?_
        obtain ⟨r3, g3, h⟩ := g_b h
        refine kq_i (wSB cI cJ cZ a ce fr un sb se so sc wb we wo wc fb fe fo fc rm ac rf kn) (fun qP qD qF => va_runV (As := [.long x5, .long (x5 + x3), .int (-1)]) (rest := []) ⟨hx, hb, hml, hown, hts⟩ (c_X0_firstMeeting l dC dI cB cI cJ cZ (a 2) (a 3) (a 4) (a 5) _ sb se so sc x5 (x5 + x3) (-1) r3 g3) (kcwV hts kw_190 kv_X0_firstMeeting rfl rfl ⟨(Nat.le_of_ble_eq_true rfl), (Nat.le_of_ble_eq_true rfl)⟩) (kpV (A := A) qP hK qD hG (krecv_2 (q0 := 2) hK hP rfl)) rfl rfl hl.1 rfl (lv_room (Nat.le_of_ble_eq_true rfl)) (kdr dgX1_firstWithoutSpan_0 1 6 rfl rfl) ⟨(Nat.le_of_ble_eq_true rfl), (Nat.le_of_ble_eq_true rfl)⟩) hP hD hS hA kFr_SBs (fun H locs hP hD hS br3 => ?_)
        refine lv_istore (lv' := (kvI 8 r3 (kvA 0 (a 0) (kvJ 3 x3 (kvJ 5 x5 (kvI 7 x7 kvE)))))) hx hb (kdr dgX1_firstWithoutSpan_0 1 7 rfl rfl) hl (by decide) rfl (fun ls hl => ?_)
        refine lv_iload hx hb (kdr dgX1_firstWithoutSpan_0 1 8 rfl rfl) (lv_at hl 0 rfl) ?_
        refine lv_iconst (v := (-1)) hx hb (kdr dgX1_firstWithoutSpan_0 1 9 rfl rfl) (by decide) ?_
        refine lv_icmp_ne (tgt := 43) hx hb (kdr dgX1_firstWithoutSpan_0 2 0 rfl rfl) (by decide) (fun c4 => ?_) (fun c4 => ?_)
        · have h := g_f c4 h
          refine lv_aload_n hx hb (kdr dgX1_firstWithoutSpan_0 2 3 rfl rfl) rfl (lv_at hl 1 rfl) ?_
          refine va_get (D := (dC, dI)) (ci := 3) (v := .ref (a 2)) (C := RX1) (T := TX1) (N := 10) hx hb hts hiX1 hown hK hP 0 rfl rfl 3 (by decide) hw0 (fun _ h9 => h9) rfl (kdr dgX1_firstWithoutSpan_0 2 4 rfl rfl) ?_
          refine lv_iload hx hb (kdr dgX1_firstWithoutSpan_0 2 5 rfl rfl) (lv_at hl 0 rfl) ?_
          obtain ⟨r5, g5, h⟩ := g_b h
          refine kq_l (wSB cI cJ cZ a ce fr un sb se so sc wb we wo wc fb fe fo fc rm ac rf kn) (fun qP qD qF => va_runV (As := [.int r3]) (rest := []) ⟨hx, hb, hml, hown, hts⟩ (c_X0_end l dC dI cB cI cJ cZ (a 2) (a 3) (a 4) (a 5) _ sb se so sc r3 r5 g5) (kcwV hts kw_194 kv_X0_end rfl rfl ⟨(Nat.le_of_ble_eq_true rfl), (Nat.le_of_ble_eq_true rfl)⟩) (kpV (A := A) qP hK qD hG (krecv_2 (q0 := 2) hK hP rfl)) rfl rfl hl.1 rfl (lv_room (Nat.le_of_ble_eq_true rfl)) (kdr dgX1_firstWithoutSpan_0 2 6 rfl rfl) ⟨(Nat.le_of_ble_eq_true rfl), (Nat.le_of_ble_eq_true rfl)⟩) hP hD hS hA kFr_SBs (fun H locs hP hD hS => ?_)
          refine lv_lstore (lv' := (kvJ 5 r5 (kvI 8 r3 (kvA 0 (a 0) (kvJ 3 x3 (kvI 7 x7 kvE)))))) hx hb (kdr dgX1_firstWithoutSpan_0 2 7 rfl rfl) hl (by decide) rfl (fun ls hl => ?_)
          refine lv_iinc (v := x7 + 1) (lv' := (kvI 7 (x7 + 1) (kvJ 5 r5 (kvI 8 r3 (kvA 0 (a 0) (kvJ 3 x3 kvE)))))) hx hb (kdr dgX1_firstWithoutSpan_0 2 8 rfl rfl) hl (k := 4) rfl rfl (by decide) rfl (fun ls hl => ?_)
          refine lv_goto (tgt := 6) hx hb (kdr dgX1_firstWithoutSpan_0 2 9 rfl rfl) (by decide) ?_
          exact ih ce fr un sb se so sc wb we wo wc fb fe fo fc rm ac rf kn x3 r5 (x7 + 1) _ _ hP hD hS ls (lv_sub hl [3, 4, 1, 0] rfl) h
        · have h := g_t c4 h
          refine lv_lload hx hb (kdr dgX1_firstWithoutSpan_0 2 1 rfl rfl) (lv_at hl 3 rfl) ?_
          have h := Option.some.inj h
          subst h
          exact kret_l (v := x5) hx hb hr hlocks hS hP (kdr dgX1_firstWithoutSpan_0 2 2 rfl rfl)
  have h := f_X1_firstWithoutSpan_e.symm.trans hf
  refine lv_lload_n hx hb (kdr dgX1_firstWithoutSpan_0 0 0 rfl rfl) rfl (lv_at hl 1 rfl) ?_
  refine lv_lstore (lv' := (kvJ 5 p0 (kvA 0 (a 0) (kvJ 1 p0 (kvJ 3 p1 kvE))))) hx hb (kdr dgX1_firstWithoutSpan_0 0 1 rfl rfl) hl (by decide) rfl (fun ls hl => ?_)
  refine lv_iconst (v := 0) hx hb (kdr dgX1_firstWithoutSpan_0 0 2 rfl rfl) (by decide) ?_
  refine lv_istore (lv' := (kvI 7 0 (kvJ 5 p0 (kvA 0 (a 0) (kvJ 1 p0 (kvJ 3 p1 kvE)))))) hx hb (kdr dgX1_firstWithoutSpan_0 0 3 rfl rfl) hl (by decide) rfl (fun ls hl => ?_)
  exact J6 24 ce fr un sb se so sc wb we wo wc fb fe fo fc rm ac rf kn p1 p0 0 _ _ hP hD hS ls (lv_sub hl [2, 4, 1, 0] rfl) h
noncomputable abbrev wsX1_firstTaken : List Cond := kWs yX1_firstTaken cX1_firstTaken 3 (some .long)
noncomputable def f_X1_firstTaken (un : Int64) (sb : Nat → Int64) (se : Nat → Int64) (sc : Int32) (p0 : Int64) : Option (Int64) :=
  (f_X0_firstWith sb se sc p0).bind fun r1 =>
  if r1 = (-1) then
    (f_X0_nextBegin sb sc p0 un).bind fun r3 =>
    some r3
  else
    some p0
theorem f_X1_firstTaken_e {un : Int64} {sb : Nat → Int64} {se : Nat → Int64} {sc : Int32} {p0 : Int64} : f_X1_firstTaken un sb se sc p0 = 
  (f_X0_firstWith sb se sc p0).bind fun r1 =>
  if r1 = (-1) then
    (f_X0_nextBegin sb sc p0 un).bind fun r3 =>
    some r3
  else
    some p0 := rfl
set_option maxHeartbeats 4000000 in
set_option maxRecDepth 100000 in
theorem c_X1_firstTaken (l : Launch) (dC : Nat → ClassId) (dI : Nat → Nat → Nat) (cB cI cJ cZ : ClassId) (a : Nat → Nat) (sz : Nat) (ce : Nat → Int64) (fr : Int64) (un : Int64) (sb : Nat → Int64) (se : Nat → Int64) (so : Nat → Int32) (sc : Int32) (wb : Nat → Int64) (we : Nat → Int64) (wo : Nat → Int32) (wc : Int32) (fb : Nat → Int64) (fe : Nat → Int64) (fo : Nat → Int32) (fc : Int32) (rm : Nat → Int32) (ac : Int32) (rf : Int32) (kn : Int32) (p0 : Int64) (res : Int64) (hf : f_X1_firstTaken un sb se sc p0 = some res) : kMl l yX1_firstTaken wsX1_firstTaken (kRm 2 0 0 48) dC dI cB cI cJ cZ [.ref (a 0), .long p0] sz (wSB cI cJ cZ a ce fr un sb se so sc wb we wo wc fb fe fo fc rm ac rf kn) (res) (wSB cI cJ cZ a ce fr un sb se so sc wb we wo wc fb fe fo fc rm ac rf kn) 0 0 := by
  refine kmet_l (y := yX1_firstTaken) (cc := cX1_firstTaken) (maxL := 3) (ret := (some .long)) RX1 (kvA 0 (a 0) (kvJ 1 p0 kvE)) kpl_X1 rfl rfl (Nat.le_of_ble_eq_true rfl) rfl (fun p e s m below meth c A ls hx hb hr hml hts hown hlocks hP hK hG hD hA hS hl => ?_)
  have hw0 := hts (.fieldLink RX1 25 "Spanbooker" "spanRow" "LSpanbooker$Row;") (List.mem_cons_of_mem _ kw_110)
  have hw1 := hts (.fieldLink RX1 19 "Spanbooker" "until" "J") (List.mem_cons_of_mem _ kw_109)
  have hiX1 : ∀ w ∈ u_ws RX1 TX1 10, w ∈ wsX1_firstTaken := fun w h => List.mem_cons_of_mem _ (ku_X1 w h)
  have h := f_X1_firstTaken_e.symm.trans hf
  refine lv_aload_n hx hb (kdr dgX1_firstTaken_0 0 0 rfl rfl) rfl (lv_at hl 0 rfl) ?_
  refine va_get (D := (dC, dI)) (ci := 3) (v := .ref (a 2)) (C := RX1) (T := TX1) (N := 10) hx hb hts hiX1 hown hK hP 0 rfl rfl 3 (by decide) hw0 (fun _ h9 => h9) rfl (kdr dgX1_firstTaken_0 0 1 rfl rfl) ?_
  refine lv_lload_n hx hb (kdr dgX1_firstTaken_0 0 2 rfl rfl) rfl (lv_at hl 1 rfl) ?_
  obtain ⟨r1, g1, h⟩ := g_b h
  refine kq_i (wSB cI cJ cZ a ce fr un sb se so sc wb we wo wc fb fe fo fc rm ac rf kn) (fun qP qD qF => va_runV (As := [.long p0]) (rest := []) ⟨hx, hb, hml, hown, hts⟩ (c_X0_firstWith l dC dI cB cI cJ cZ (a 2) (a 3) (a 4) (a 5) _ sb se so sc p0 r1 g1) (kcwV hts kw_206 kv_X0_firstWith rfl rfl ⟨(Nat.le_of_ble_eq_true rfl), (Nat.le_of_ble_eq_true rfl)⟩) (kpV (A := A) qP hK qD hG (krecv_2 (q0 := 2) hK hP rfl)) rfl rfl hl.1 rfl (lv_room (Nat.le_of_ble_eq_true rfl)) (kdr dgX1_firstTaken_0 0 3 rfl rfl) ⟨(Nat.le_of_ble_eq_true rfl), (Nat.le_of_ble_eq_true rfl)⟩) hP hD hS hA kFr_SBs (fun H locs hP hD hS br1 => ?_)
  refine lv_iconst (v := (-1)) hx hb (kdr dgX1_firstTaken_0 0 4 rfl rfl) (by decide) ?_
  refine lv_icmp_ne (tgt := 27) hx hb (kdr dgX1_firstTaken_0 0 5 rfl rfl) (by decide) (fun c2 => ?_) (fun c2 => ?_)
  · have h := g_f c2 h
    refine lv_lload_n hx hb (kdr dgX1_firstTaken_0 1 3 rfl rfl) rfl (lv_at hl 1 rfl) ?_
    have h := Option.some.inj h
    subst h
    exact kret_l (v := p0) hx hb hr hlocks hS hP (kdr dgX1_firstTaken_0 1 4 rfl rfl)
  · have h := g_t c2 h
    refine lv_aload_n hx hb (kdr dgX1_firstTaken_0 0 6 rfl rfl) rfl (lv_at hl 0 rfl) ?_
    refine va_get (D := (dC, dI)) (ci := 3) (v := .ref (a 2)) (C := RX1) (T := TX1) (N := 10) hx hb hts hiX1 hown hK hP 0 rfl rfl 3 (by decide) hw0 (fun _ h9 => h9) rfl (kdr dgX1_firstTaken_0 0 7 rfl rfl) ?_
    refine lv_lload_n hx hb (kdr dgX1_firstTaken_0 0 8 rfl rfl) rfl (lv_at hl 1 rfl) ?_
    refine lv_aload_n hx hb (kdr dgX1_firstTaken_0 0 9 rfl rfl) rfl (lv_at hl 0 rfl) ?_
    refine va_get (D := (dC, dI)) (ci := 3) (v := .long un) (C := RX1) (T := TX1) (N := 10) hx hb hts hiX1 hown hK hP 0 rfl rfl 2 (by decide) hw1 (fun _ h9 => h9) rfl (kdr dgX1_firstTaken_0 1 0 rfl rfl) ?_
    obtain ⟨r3, g3, h⟩ := g_b h
    refine kq_l (wSB cI cJ cZ a ce fr un sb se so sc wb we wo wc fb fe fo fc rm ac rf kn) (fun qP qD qF => va_runV (As := [.long p0, .long un]) (rest := []) ⟨hx, hb, hml, hown, hts⟩ (c_X0_nextBegin l dC dI cB cI cJ cZ (a 2) (a 3) (a 4) (a 5) _ sb se so sc p0 un r3 g3) (kcwV hts kw_211 kv_X0_nextBegin rfl rfl ⟨(Nat.le_of_ble_eq_true rfl), (Nat.le_of_ble_eq_true rfl)⟩) (kpV (A := A) qP hK qD hG (krecv_2 (q0 := 2) hK hP rfl)) rfl rfl hl.1 rfl (lv_room (Nat.le_of_ble_eq_true rfl)) (kdr dgX1_firstTaken_0 1 1 rfl rfl) ⟨(Nat.le_of_ble_eq_true rfl), (Nat.le_of_ble_eq_true rfl)⟩) hP hD hS hA kFr_SBs (fun H locs hP hD hS => ?_)
    refine lv_goto (tgt := 28) hx hb (kdr dgX1_firstTaken_0 1 2 rfl rfl) (by decide) ?_
    have h := Option.some.inj h
    subst h
    exact kret_l (v := r3) hx hb hr hlocks hS hP (kdr dgX1_firstTaken_0 1 4 rfl rfl)
noncomputable abbrev wsX1_findFrees : List Cond := kWs yX1_findFrees cX1_findFrees 6 none
noncomputable def f_X1_findFrees_15 : Nat → (Int64) → (Nat → Int64) → (Nat → Int64) → (Int32) → (Nat → Int64) → (Nat → Int64) → (Nat → Int32) → (Int32) → (Int64) → (Int32) → Option ((Nat → Int64) × (Nat → Int64) × (Nat → Int32) × (Int32))
  | 0, _, _, _, _, _, _, _, _, _, _ => none
  | n + 1, un, sb, se, sc, fb, fe, fo, fc, x1, x3 =>
    (f_X0_count sc).bind fun r1 =>
    if r1 < x3 then
      some (fb, fe, fo, fc)
    else
      if un ≤ x1 then
        some (fb, fe, fo, fc)
      else
        (f_X1_firstWithoutSpan sb se sc x1 1).bind fun r4 =>
        (f_X1_firstTaken un sb se sc r4).bind fun r5 =>
        if r5 ≤ r4 then
          f_X1_findFrees_15 n un sb se sc fb fe fo fc r5 (x3 + 1)
        else
          (f_X0_add fb fe fo fc r4 r5 0).bind fun r7 =>
          f_X1_findFrees_15 n un sb se sc r7.2.1 r7.2.2.1 r7.2.2.2.1 r7.2.2.2.2 r5 (x3 + 1)
theorem f_X1_findFrees_15_0 {un : Int64} {sb : Nat → Int64} {se : Nat → Int64} {sc : Int32} {fb : Nat → Int64} {fe : Nat → Int64} {fo : Nat → Int32} {fc : Int32} {x1 : Int64} {x3 : Int32} : f_X1_findFrees_15 0 un sb se sc fb fe fo fc x1 x3 = none := rfl
theorem f_X1_findFrees_15_s {n : Nat} {un : Int64} {sb : Nat → Int64} {se : Nat → Int64} {sc : Int32} {fb : Nat → Int64} {fe : Nat → Int64} {fo : Nat → Int32} {fc : Int32} {x1 : Int64} {x3 : Int32} : f_X1_findFrees_15 (n + 1) un sb se sc fb fe fo fc x1 x3 =
  (f_X0_count sc).bind fun r1 =>
  if r1 < x3 then
    some (fb, fe, fo, fc)
  else
    if un ≤ x1 then
      some (fb, fe, fo, fc)
    else
      (f_X1_firstWithoutSpan sb se sc x1 1).bind fun r4 =>
      (f_X1_firstTaken un sb se sc r4).bind fun r5 =>
      if r5 ≤ r4 then
        f_X1_findFrees_15 n un sb se sc fb fe fo fc r5 (x3 + 1)
      else
        (f_X0_add fb fe fo fc r4 r5 0).bind fun r7 =>
        f_X1_findFrees_15 n un sb se sc r7.2.1 r7.2.2.1 r7.2.2.2.1 r7.2.2.2.2 r5 (x3 + 1) := rfl
noncomputable def f_X1_findFrees (fr : Int64) (un : Int64) (sb : Nat → Int64) (se : Nat → Int64) (sc : Int32) (fb : Nat → Int64) (fe : Nat → Int64) (fo : Nat → Int32) (fc : Int32) : Option ((Nat → Int64) × (Nat → Int64) × (Nat → Int32) × (Int32)) :=
  (f_X0_clear fc).bind fun r1 =>
  f_X1_findFrees_15 24 un sb se sc fb fe fo r1.2 fr 0
theorem f_X1_findFrees_e {fr : Int64} {un : Int64} {sb : Nat → Int64} {se : Nat → Int64} {sc : Int32} {fb : Nat → Int64} {fe : Nat → Int64} {fo : Nat → Int32} {fc : Int32} : f_X1_findFrees fr un sb se sc fb fe fo fc = 
  (f_X0_clear fc).bind fun r1 =>
  f_X1_findFrees_15 24 un sb se sc fb fe fo r1.2 fr 0 := rfl
set_option maxHeartbeats 4000000 in
set_option maxRecDepth 100000 in
theorem c_X1_findFrees (l : Launch) (dC : Nat → ClassId) (dI : Nat → Nat → Nat) (cB cI cJ cZ : ClassId) (a : Nat → Nat) (sz : Nat) (ce : Nat → Int64) (fr : Int64) (un : Int64) (sb : Nat → Int64) (se : Nat → Int64) (so : Nat → Int32) (sc : Int32) (wb : Nat → Int64) (we : Nat → Int64) (wo : Nat → Int32) (wc : Int32) (fb : Nat → Int64) (fe : Nat → Int64) (fo : Nat → Int32) (fc : Int32) (rm : Nat → Int32) (ac : Int32) (rf : Int32) (kn : Int32) (res : (Nat → Int64) × (Nat → Int64) × (Nat → Int32) × (Int32)) (hf : f_X1_findFrees fr un sb se sc fb fe fo fc = some res) : kMv l yX1_findFrees wsX1_findFrees (kRm 3 0 0 70) dC dI cB cI cJ cZ [.ref (a 0)] sz (wSB cI cJ cZ a ce fr un sb se so sc wb we wo wc fb fe fo fc rm ac rf kn) (wSB cI cJ cZ a ce fr un sb se so sc wb we wo wc (res.1) (res.2.1) (res.2.2.1) (res.2.2.2) rm ac rf kn) 0 0 := by
  refine kmet_v (y := yX1_findFrees) (cc := cX1_findFrees) (maxL := 6) (ret := none) RX1 (kvA 0 (a 0) kvE) kpl_X1 rfl rfl (Nat.le_of_ble_eq_true rfl) rfl (fun p e s m below meth c A ls hx hb hr hml hts hown hlocks hP hK hG hD hA hS hl => ?_)
  have hw0 := hts (.fieldLink RX1 32 "Spanbooker" "freeRow" "LSpanbooker$Row;") (List.mem_cons_of_mem _ kw_112)
  have hw1 := hts (.fieldLink RX1 13 "Spanbooker" "from" "J") (List.mem_cons_of_mem _ kw_108)
  have hw2 := hts (.fieldLink RX1 25 "Spanbooker" "spanRow" "LSpanbooker$Row;") (List.mem_cons_of_mem _ kw_110)
  have hw3 := hts (.fieldLink RX1 19 "Spanbooker" "until" "J") (List.mem_cons_of_mem _ kw_109)
  have hiX1 : ∀ w ∈ u_ws RX1 TX1 10, w ∈ wsX1_findFrees := fun w h => List.mem_cons_of_mem _ (ku_X1 w h)
  have J15 : ∀ (n : Nat), ∀ (ce : Nat → Int64) (fr : Int64) (un : Int64) (sb : Nat → Int64) (se : Nat → Int64) (so : Nat → Int32) (sc : Int32) (wb : Nat → Int64) (we : Nat → Int64) (wo : Nat → Int32) (wc : Int32) (fb : Nat → Int64) (fe : Nat → Int64) (fo : Nat → Int32) (fc : Int32) (rm : Nat → Int32) (ac : Int32) (rf : Int32) (kn : Int32) (x1 : Int64) (x3 : Int32) (H : Heap) (locs : List Loc), va_P (dC, dI) vwCl (wSB cI cJ cZ a ce fr un sb se so sc wb we wo wc fb fe fo fc rm ac rf kn) H → va_D A (wSB cI cJ cZ a ce fr un sb se so sc wb we wo wc fb fe fo fc rm ac rf kn) → va_S A s.heap H locs → ∀ (ls : Array Slot), lv_has ls 6 (kvA 0 (a 0) (kvJ 1 x1 (kvI 3 x3 kvE))) → f_X1_findFrees_15 n un sb se sc fb fe fo fc x1 x3 = some res → W p l e (headSpec wsX1_findFrees (kRm 3 0 0 70)).room s m ([.ref (a 0)] : List Value).toArray below meth c H locs 0 0 (MQ below (kV (dC, dI) (wSB cI cJ cZ a ce fr un sb se so sc wb we wo wc (res.1) (res.2.1) (res.2.2.1) (res.2.2.2) rm ac rf kn) A) ([.ref (a 0)] : List Value).toArray s 0 0 A) (F0 m 15 ls []) := by
    intro n
    induction n with
    | zero =>
      intro ce fr un sb se so sc wb we wo wc fb fe fo fc rm ac rf kn x1 x3 H locs hP hD hS ls hl h
      have h := f_X1_findFrees_15_0.symm.trans h
      cases h
    | succ n ih =>
      intro ce fr un sb se so sc wb we wo wc fb fe fo fc rm ac rf kn x1 x3 H locs hP hD hS ls hl h
      have h := f_X1_findFrees_15_s.symm.trans h
      refine lv_iload_n hx hb (kdr dgX1_findFrees_0 0 9 rfl rfl) rfl (lv_at hl 2 rfl) ?_
      refine lv_aload_n hx hb (kdr dgX1_findFrees_0 1 0 rfl rfl) rfl (lv_at hl 0 rfl) ?_
      refine va_get (D := (dC, dI)) (ci := 3) (v := .ref (a 2)) (C := RX1) (T := TX1) (N := 10) hx hb hts hiX1 hown hK hP 0 rfl rfl 3 (by decide) hw2 (fun _ h9 => h9) rfl (kdr dgX1_findFrees_0 1 1 rfl rfl) ?_
      obtain ⟨r1, g1, h⟩ := g_b h
      refine kq_i (wSB cI cJ cZ a ce fr un sb se so sc wb we wo wc fb fe fo fc rm ac rf kn) (fun qP qD qF => va_runV (As := []) (rest := [.int x3]) ⟨hx, hb, hml, hown, hts⟩ (c_X0_count l dC dI cB cI cJ cZ (a 2) (a 3) (a 4) (a 5) _ sb se so sc  r1 g1) (kcwV hts kw_155 kv_X0_count rfl rfl ⟨(Nat.le_of_ble_eq_true rfl), (Nat.le_of_ble_eq_true rfl)⟩) (kpV (A := A) qP hK qD hG (krecv_2 (q0 := 2) hK hP rfl)) rfl rfl hl.1 rfl (lv_room (Nat.le_of_ble_eq_true rfl)) (kdr dgX1_findFrees_0 1 2 rfl rfl) ⟨(Nat.le_of_ble_eq_true rfl), (Nat.le_of_ble_eq_true rfl)⟩) hP hD hS hA kFr_SBs (fun H locs hP hD hS br1 => ?_)
      refine lv_icmp_gt (tgt := 75) hx hb (kdr dgX1_findFrees_0 1 3 rfl rfl) (by decide) (fun c2 => ?_) (fun c2 => ?_)
      · have h := g_t c2 h
        have h := Option.some.inj h
        subst h
        exact kret_v hx hb hr hlocks hS hP (kdr dgX1_findFrees_0 4 1 rfl rfl)
      · have h := g_f c2 h
        refine lv_lload_n hx hb (kdr dgX1_findFrees_0 1 4 rfl rfl) rfl (lv_at hl 1 rfl) ?_
        refine lv_aload_n hx hb (kdr dgX1_findFrees_0 1 5 rfl rfl) rfl (lv_at hl 0 rfl) ?_
        refine va_get (D := (dC, dI)) (ci := 3) (v := .long un) (C := RX1) (T := TX1) (N := 10) hx hb hts hiX1 hown hK hP 0 rfl rfl 2 (by decide) hw3 (fun _ h9 => h9) rfl (kdr dgX1_findFrees_0 1 6 rfl rfl) ?_
        refine kl_ge (pc := 31) (tgt := 75) hx hb (kdr dgX1_findFrees_0 1 7 rfl rfl) (kdr dgX1_findFrees_0 1 8 rfl rfl) (by decide) (fun c3 => ?_) (fun c3 => ?_)
        · have h := g_t c3 h
          have h := Option.some.inj h
          subst h
          exact kret_v hx hb hr hlocks hS hP (kdr dgX1_findFrees_0 4 1 rfl rfl)
        · have h := g_f c3 h
          refine lv_aload_n hx hb (kdr dgX1_findFrees_0 1 9 rfl rfl) rfl (lv_at hl 0 rfl) ?_
          refine lv_lload_n hx hb (kdr dgX1_findFrees_0 2 0 rfl rfl) rfl (lv_at hl 1 rfl) ?_
          refine lv_lconst (v := 1) hx hb (kdr dgX1_findFrees_0 2 1 rfl rfl) (by decide) ?_
          obtain ⟨r4, g4, h⟩ := g_b h
          refine kq_l (wSB cI cJ cZ a ce fr un sb se so sc wb we wo wc fb fe fo fc rm ac rf kn) (fun qP qD qF => va_runV (As := [.long x1, .long 1]) (rest := []) ⟨hx, hb, hml, hown, hts⟩ (c_X1_firstWithoutSpan l dC dI cB cI cJ cZ a _ ce fr un sb se so sc wb we wo wc fb fe fo fc rm ac rf kn x1 1 r4 g4) (kcwV hts kw_186 kv_X1_firstWithoutSpan rfl rfl ⟨(Nat.le_of_ble_eq_true rfl), (Nat.le_of_ble_eq_true rfl)⟩) (kpV (A := A) qP hK qD hG (krecv_3 (q0 := 0) hK hP rfl)) rfl rfl hl.1 rfl (lv_room (Nat.le_of_ble_eq_true rfl)) (kdr dgX1_findFrees_0 2 2 rfl rfl) ⟨(Nat.le_of_ble_eq_true rfl), (Nat.le_of_ble_eq_true rfl)⟩) hP hD hS hA kFr_SB (fun H locs hP hD hS => ?_)
          refine lv_lstore (lv' := (kvJ 4 r4 (kvA 0 (a 0) (kvJ 1 x1 (kvI 3 x3 kvE))))) hx hb (kdr dgX1_findFrees_0 2 3 rfl rfl) hl (by decide) rfl (fun ls hl => ?_)
          refine lv_aload_n hx hb (kdr dgX1_findFrees_0 2 4 rfl rfl) rfl (lv_at hl 1 rfl) ?_
          refine lv_lload hx hb (kdr dgX1_findFrees_0 2 5 rfl rfl) (lv_at hl 0 rfl) ?_
          obtain ⟨r5, g5, h⟩ := g_b h
          refine kq_l (wSB cI cJ cZ a ce fr un sb se so sc wb we wo wc fb fe fo fc rm ac rf kn) (fun qP qD qF => va_runV (As := [.long r4]) (rest := []) ⟨hx, hb, hml, hown, hts⟩ (c_X1_firstTaken l dC dI cB cI cJ cZ a _ ce fr un sb se so sc wb we wo wc fb fe fo fc rm ac rf kn r4 r5 g5) (kcwV hts kw_202 kv_X1_firstTaken rfl rfl ⟨(Nat.le_of_ble_eq_true rfl), (Nat.le_of_ble_eq_true rfl)⟩) (kpV (A := A) qP hK qD hG (krecv_3 (q0 := 0) hK hP rfl)) rfl rfl hl.1 rfl (lv_room (Nat.le_of_ble_eq_true rfl)) (kdr dgX1_findFrees_0 2 6 rfl rfl) ⟨(Nat.le_of_ble_eq_true rfl), (Nat.le_of_ble_eq_true rfl)⟩) hP hD hS hA kFr_SB (fun H locs hP hD hS => ?_)
          refine lv_lstore_n (lv' := (kvJ 1 r5 (kvJ 4 r4 (kvA 0 (a 0) (kvI 3 x3 kvE))))) hx hb (kdr dgX1_findFrees_0 2 7 rfl rfl) rfl hl (by decide) rfl (fun ls hl => ?_)
          refine lv_lload hx hb (kdr dgX1_findFrees_0 2 8 rfl rfl) (lv_at hl 1 rfl) ?_
          refine lv_lload_n hx hb (kdr dgX1_findFrees_0 2 9 rfl rfl) rfl (lv_at hl 0 rfl) ?_
          refine kl_ge (pc := 53) (tgt := 69) hx hb (kdr dgX1_findFrees_0 3 0 rfl rfl) (kdr dgX1_findFrees_0 3 1 rfl rfl) (by decide) (fun c6 => ?_) (fun c6 => ?_)
          · have h := g_t c6 h
            refine lv_iinc (v := x3 + 1) (lv' := (kvI 3 (x3 + 1) (kvJ 1 r5 (kvJ 4 r4 (kvA 0 (a 0) kvE))))) hx hb (kdr dgX1_findFrees_0 3 9 rfl rfl) hl (k := 3) rfl rfl (by decide) rfl (fun ls hl => ?_)
            refine lv_goto (tgt := 15) hx hb (kdr dgX1_findFrees_0 4 0 rfl rfl) (by decide) ?_
            exact ih ce fr un sb se so sc wb we wo wc fb fe fo fc rm ac rf kn r5 (x3 + 1) _ _ hP hD hS ls (lv_sub hl [3, 1, 0] rfl) h
          · have h := g_f c6 h
            refine lv_aload_n hx hb (kdr dgX1_findFrees_0 3 2 rfl rfl) rfl (lv_at hl 2 rfl) ?_
            refine va_get (D := (dC, dI)) (ci := 3) (v := .ref (a 10)) (C := RX1) (T := TX1) (N := 10) hx hb hts hiX1 hown hK hP 0 rfl rfl 5 (by decide) hw0 (fun _ h9 => h9) rfl (kdr dgX1_findFrees_0 3 3 rfl rfl) ?_
            refine lv_lload hx hb (kdr dgX1_findFrees_0 3 4 rfl rfl) (lv_at hl 1 rfl) ?_
            refine lv_lload_n hx hb (kdr dgX1_findFrees_0 3 5 rfl rfl) rfl (lv_at hl 0 rfl) ?_
            refine lv_iconst (v := 0) hx hb (kdr dgX1_findFrees_0 3 6 rfl rfl) (by decide) ?_
            obtain ⟨r7, g7, h⟩ := g_b h
            refine kq_i (wSB cI cJ cZ a ce fr un sb se so sc wb we wo wc r7.2.1 r7.2.2.1 r7.2.2.2.1 r7.2.2.2.2 rm ac rf kn) (fun qP qD qF => va_runV (As := [.long r4, .long r5, .int 0]) (rest := []) ⟨hx, hb, hml, hown, hts⟩ (c_X0_add l dC dI cB cI cJ cZ (a 10) (a 11) (a 12) (a 13) _ fb fe fo fc r4 r5 0 r7 g7) (kcwV hts kw_215 kv_X0_add rfl rfl ⟨(Nat.le_of_ble_eq_true rfl), (Nat.le_of_ble_eq_true rfl)⟩) (kpV (A := A) qP hK qD hG (krecv_2 (q0 := 10) hK hP rfl)) rfl rfl hl.1 rfl (lv_room (Nat.le_of_ble_eq_true rfl)) (kdr dgX1_findFrees_0 3 7 rfl rfl) ⟨(Nat.le_of_ble_eq_true rfl), (Nat.le_of_ble_eq_true rfl)⟩) hP hD hS hA kFr_SBf (fun H locs hP hD hS br7 => ?_)
            refine lv_pop hx hb (kdr dgX1_findFrees_0 3 8 rfl rfl) rfl ?_
            refine lv_iinc (v := x3 + 1) (lv' := (kvI 3 (x3 + 1) (kvJ 1 r5 (kvJ 4 r4 (kvA 0 (a 0) kvE))))) hx hb (kdr dgX1_findFrees_0 3 9 rfl rfl) hl (k := 3) rfl rfl (by decide) rfl (fun ls hl => ?_)
            refine lv_goto (tgt := 15) hx hb (kdr dgX1_findFrees_0 4 0 rfl rfl) (by decide) ?_
            exact ih ce fr un sb se so sc wb we wo wc r7.2.1 r7.2.2.1 r7.2.2.2.1 r7.2.2.2.2 rm ac rf kn r5 (x3 + 1) _ _ hP hD hS ls (lv_sub hl [3, 1, 0] rfl) h
  have h := f_X1_findFrees_e.symm.trans hf
  refine lv_aload_n hx hb (kdr dgX1_findFrees_0 0 0 rfl rfl) rfl (lv_at hl 0 rfl) ?_
  refine va_get (D := (dC, dI)) (ci := 3) (v := .ref (a 10)) (C := RX1) (T := TX1) (N := 10) hx hb hts hiX1 hown hK hP 0 rfl rfl 5 (by decide) hw0 (fun _ h9 => h9) rfl (kdr dgX1_findFrees_0 0 1 rfl rfl) ?_
  obtain ⟨r1, g1, h⟩ := g_b h
  refine kq_i (wSB cI cJ cZ a ce fr un sb se so sc wb we wo wc fb fe fo r1.2 rm ac rf kn) (fun qP qD qF => va_runV (As := []) (rest := []) ⟨hx, hb, hml, hown, hts⟩ (c_X0_clear l dC dI cB cI cJ cZ (a 10) (a 11) (a 12) (a 13) _ fb fe fo fc  r1 g1) (kcwV hts kw_143 kv_X0_clear rfl rfl ⟨(Nat.le_of_ble_eq_true rfl), (Nat.le_of_ble_eq_true rfl)⟩) (kpV (A := A) qP hK qD hG (krecv_2 (q0 := 10) hK hP rfl)) rfl rfl hl.1 rfl (lv_room (Nat.le_of_ble_eq_true rfl)) (kdr dgX1_findFrees_0 0 2 rfl rfl) ⟨(Nat.le_of_ble_eq_true rfl), (Nat.le_of_ble_eq_true rfl)⟩) hP hD hS hA kFr_SBf (fun H locs hP hD hS br1 => ?_)
  refine lv_pop hx hb (kdr dgX1_findFrees_0 0 3 rfl rfl) rfl ?_
  refine lv_aload_n hx hb (kdr dgX1_findFrees_0 0 4 rfl rfl) rfl (lv_at hl 0 rfl) ?_
  refine va_get (D := (dC, dI)) (ci := 3) (v := .long fr) (C := RX1) (T := TX1) (N := 10) hx hb hts hiX1 hown hK hP 0 rfl rfl 1 (by decide) hw1 (fun _ h9 => h9) rfl (kdr dgX1_findFrees_0 0 5 rfl rfl) ?_
  refine lv_lstore_n (lv' := (kvJ 1 fr (kvA 0 (a 0) kvE))) hx hb (kdr dgX1_findFrees_0 0 6 rfl rfl) rfl hl (by decide) rfl (fun ls hl => ?_)
  refine lv_iconst (v := 0) hx hb (kdr dgX1_findFrees_0 0 7 rfl rfl) (by decide) ?_
  refine lv_istore_n (lv' := (kvI 3 0 (kvJ 1 fr (kvA 0 (a 0) kvE)))) hx hb (kdr dgX1_findFrees_0 0 8 rfl rfl) rfl hl (by decide) rfl (fun ls hl => ?_)
  exact J15 24 ce fr un sb se so sc wb we wo wc fb fe fo r1.2 rm ac rf kn fr 0 _ _ hP hD hS ls (lv_sub hl [2, 1, 0] rfl) h
noncomputable abbrev wsX1_freeLength : List Cond := kWs yX1_freeLength cX1_freeLength 4 (some .long)
noncomputable def f_X1_freeLength_4 : Nat → (Nat → Int64) → (Nat → Int64) → (Int32) → (Int64) → (Int32) → Option (Int64)
  | 0, _, _, _, _, _ => none
  | n + 1, fb, fe, fc, x1, x3 =>
    (f_X0_count fc).bind fun r1 =>
    if r1 ≤ x3 then
      some x1
    else
      (f_X0_end fe fc x3).bind fun r3 =>
      (f_X0_begin fb fc x3).bind fun r4 =>
      f_X1_freeLength_4 n fb fe fc (x1 + (r3 - r4)) (x3 + 1)
theorem f_X1_freeLength_4_0 {fb : Nat → Int64} {fe : Nat → Int64} {fc : Int32} {x1 : Int64} {x3 : Int32} : f_X1_freeLength_4 0 fb fe fc x1 x3 = none := rfl
theorem f_X1_freeLength_4_s {n : Nat} {fb : Nat → Int64} {fe : Nat → Int64} {fc : Int32} {x1 : Int64} {x3 : Int32} : f_X1_freeLength_4 (n + 1) fb fe fc x1 x3 =
  (f_X0_count fc).bind fun r1 =>
  if r1 ≤ x3 then
    some x1
  else
    (f_X0_end fe fc x3).bind fun r3 =>
    (f_X0_begin fb fc x3).bind fun r4 =>
    f_X1_freeLength_4 n fb fe fc (x1 + (r3 - r4)) (x3 + 1) := rfl
noncomputable def f_X1_freeLength (fb : Nat → Int64) (fe : Nat → Int64) (fc : Int32) : Option (Int64) :=
  f_X1_freeLength_4 24 fb fe fc 0 0
theorem f_X1_freeLength_e {fb : Nat → Int64} {fe : Nat → Int64} {fc : Int32} : f_X1_freeLength fb fe fc = 
  f_X1_freeLength_4 24 fb fe fc 0 0 := rfl
set_option maxHeartbeats 4000000 in
set_option maxRecDepth 100000 in
theorem c_X1_freeLength (l : Launch) (dC : Nat → ClassId) (dI : Nat → Nat → Nat) (cB cI cJ cZ : ClassId) (a : Nat → Nat) (sz : Nat) (ce : Nat → Int64) (fr : Int64) (un : Int64) (sb : Nat → Int64) (se : Nat → Int64) (so : Nat → Int32) (sc : Int32) (wb : Nat → Int64) (we : Nat → Int64) (wo : Nat → Int32) (wc : Int32) (fb : Nat → Int64) (fe : Nat → Int64) (fo : Nat → Int32) (fc : Int32) (rm : Nat → Int32) (ac : Int32) (rf : Int32) (kn : Int32) (res : Int64) (hf : f_X1_freeLength fb fe fc = some res) : kMl l yX1_freeLength wsX1_freeLength (kRm 2 0 0 42) dC dI cB cI cJ cZ [.ref (a 0)] sz (wSB cI cJ cZ a ce fr un sb se so sc wb we wo wc fb fe fo fc rm ac rf kn) (res) (wSB cI cJ cZ a ce fr un sb se so sc wb we wo wc fb fe fo fc rm ac rf kn) 0 0 := by
  refine kmet_l (y := yX1_freeLength) (cc := cX1_freeLength) (maxL := 4) (ret := (some .long)) RX1 (kvA 0 (a 0) kvE) kpl_X1 rfl rfl (Nat.le_of_ble_eq_true rfl) rfl (fun p e s m below meth c A ls hx hb hr hml hts hown hlocks hP hK hG hD hA hS hl => ?_)
  have hw0 := hts (.fieldLink RX1 32 "Spanbooker" "freeRow" "LSpanbooker$Row;") (List.mem_cons_of_mem _ kw_112)
  have hiX1 : ∀ w ∈ u_ws RX1 TX1 10, w ∈ wsX1_freeLength := fun w h => List.mem_cons_of_mem _ (ku_X1 w h)
  have J4 : ∀ (n : Nat), ∀ (ce : Nat → Int64) (fr : Int64) (un : Int64) (sb : Nat → Int64) (se : Nat → Int64) (so : Nat → Int32) (sc : Int32) (wb : Nat → Int64) (we : Nat → Int64) (wo : Nat → Int32) (wc : Int32) (fb : Nat → Int64) (fe : Nat → Int64) (fo : Nat → Int32) (fc : Int32) (rm : Nat → Int32) (ac : Int32) (rf : Int32) (kn : Int32) (x1 : Int64) (x3 : Int32) (H : Heap) (locs : List Loc), va_P (dC, dI) vwCl (wSB cI cJ cZ a ce fr un sb se so sc wb we wo wc fb fe fo fc rm ac rf kn) H → va_D A (wSB cI cJ cZ a ce fr un sb se so sc wb we wo wc fb fe fo fc rm ac rf kn) → va_S A s.heap H locs → ∀ (ls : Array Slot), lv_has ls 4 (kvA 0 (a 0) (kvJ 1 x1 (kvI 3 x3 kvE))) → f_X1_freeLength_4 n fb fe fc x1 x3 = some res → W p l e (headSpec wsX1_freeLength (kRm 2 0 0 42)).room s m ([.ref (a 0)] : List Value).toArray below meth c H locs 0 0 (MQ below (kL (dC, dI) (res) (wSB cI cJ cZ a ce fr un sb se so sc wb we wo wc fb fe fo fc rm ac rf kn) A) ([.ref (a 0)] : List Value).toArray s 0 0 A) (F0 m 4 ls []) := by
    intro n
    induction n with
    | zero =>
      intro ce fr un sb se so sc wb we wo wc fb fe fo fc rm ac rf kn x1 x3 H locs hP hD hS ls hl h
      have h := f_X1_freeLength_4_0.symm.trans h
      cases h
    | succ n ih =>
      intro ce fr un sb se so sc wb we wo wc fb fe fo fc rm ac rf kn x1 x3 H locs hP hD hS ls hl h
      have h := f_X1_freeLength_4_s.symm.trans h
      refine lv_iload_n hx hb (kdr dgX1_freeLength_0 0 4 rfl rfl) rfl (lv_at hl 2 rfl) ?_
      refine lv_aload_n hx hb (kdr dgX1_freeLength_0 0 5 rfl rfl) rfl (lv_at hl 0 rfl) ?_
      refine va_get (D := (dC, dI)) (ci := 3) (v := .ref (a 10)) (C := RX1) (T := TX1) (N := 10) hx hb hts hiX1 hown hK hP 0 rfl rfl 5 (by decide) hw0 (fun _ h9 => h9) rfl (kdr dgX1_freeLength_0 0 6 rfl rfl) ?_
      obtain ⟨r1, g1, h⟩ := g_b h
      refine kq_i (wSB cI cJ cZ a ce fr un sb se so sc wb we wo wc fb fe fo fc rm ac rf kn) (fun qP qD qF => va_runV (As := []) (rest := [.int x3]) ⟨hx, hb, hml, hown, hts⟩ (c_X0_count l dC dI cB cI cJ cZ (a 10) (a 11) (a 12) (a 13) _ fb fe fo fc  r1 g1) (kcwV hts kw_155 kv_X0_count rfl rfl ⟨(Nat.le_of_ble_eq_true rfl), (Nat.le_of_ble_eq_true rfl)⟩) (kpV (A := A) qP hK qD hG (krecv_2 (q0 := 10) hK hP rfl)) rfl rfl hl.1 rfl (lv_room (Nat.le_of_ble_eq_true rfl)) (kdr dgX1_freeLength_0 0 7 rfl rfl) ⟨(Nat.le_of_ble_eq_true rfl), (Nat.le_of_ble_eq_true rfl)⟩) hP hD hS hA kFr_SBf (fun H locs hP hD hS br1 => ?_)
      refine lv_icmp_ge (tgt := 41) hx hb (kdr dgX1_freeLength_0 0 8 rfl rfl) (by decide) (fun c2 => ?_) (fun c2 => ?_)
      · have h := g_t c2 h
        refine lv_lload_n hx hb (kdr dgX1_freeLength_0 2 3 rfl rfl) rfl (lv_at hl 1 rfl) ?_
        have h := Option.some.inj h
        subst h
        exact kret_l (v := x1) hx hb hr hlocks hS hP (kdr dgX1_freeLength_0 2 4 rfl rfl)
      · have h := g_f c2 h
        refine lv_lload_n hx hb (kdr dgX1_freeLength_0 0 9 rfl rfl) rfl (lv_at hl 1 rfl) ?_
        refine lv_aload_n hx hb (kdr dgX1_freeLength_0 1 0 rfl rfl) rfl (lv_at hl 0 rfl) ?_
        refine va_get (D := (dC, dI)) (ci := 3) (v := .ref (a 10)) (C := RX1) (T := TX1) (N := 10) hx hb hts hiX1 hown hK hP 0 rfl rfl 5 (by decide) hw0 (fun _ h9 => h9) rfl (kdr dgX1_freeLength_0 1 1 rfl rfl) ?_
        refine lv_iload_n hx hb (kdr dgX1_freeLength_0 1 2 rfl rfl) rfl (lv_at hl 2 rfl) ?_
        obtain ⟨r3, g3, h⟩ := g_b h
        refine kq_l (wSB cI cJ cZ a ce fr un sb se so sc wb we wo wc fb fe fo fc rm ac rf kn) (fun qP qD qF => va_runV (As := [.int x3]) (rest := [.long x1]) ⟨hx, hb, hml, hown, hts⟩ (c_X0_end l dC dI cB cI cJ cZ (a 10) (a 11) (a 12) (a 13) _ fb fe fo fc x3 r3 g3) (kcwV hts kw_194 kv_X0_end rfl rfl ⟨(Nat.le_of_ble_eq_true rfl), (Nat.le_of_ble_eq_true rfl)⟩) (kpV (A := A) qP hK qD hG (krecv_2 (q0 := 10) hK hP rfl)) rfl rfl hl.1 rfl (lv_room (Nat.le_of_ble_eq_true rfl)) (kdr dgX1_freeLength_0 1 3 rfl rfl) ⟨(Nat.le_of_ble_eq_true rfl), (Nat.le_of_ble_eq_true rfl)⟩) hP hD hS hA kFr_SBf (fun H locs hP hD hS => ?_)
        refine lv_aload_n hx hb (kdr dgX1_freeLength_0 1 4 rfl rfl) rfl (lv_at hl 0 rfl) ?_
        refine va_get (D := (dC, dI)) (ci := 3) (v := .ref (a 10)) (C := RX1) (T := TX1) (N := 10) hx hb hts hiX1 hown hK hP 0 rfl rfl 5 (by decide) hw0 (fun _ h9 => h9) rfl (kdr dgX1_freeLength_0 1 5 rfl rfl) ?_
        refine lv_iload_n hx hb (kdr dgX1_freeLength_0 1 6 rfl rfl) rfl (lv_at hl 2 rfl) ?_
        obtain ⟨r4, g4, h⟩ := g_b h
        refine kq_l (wSB cI cJ cZ a ce fr un sb se so sc wb we wo wc fb fe fo fc rm ac rf kn) (fun qP qD qF => va_runV (As := [.int x3]) (rest := [.long r3, .long x1]) ⟨hx, hb, hml, hown, hts⟩ (c_X0_begin l dC dI cB cI cJ cZ (a 10) (a 11) (a 12) (a 13) _ fb fe fo fc x3 r4 g4) (kcwV hts kw_251 kv_X0_begin rfl rfl ⟨(Nat.le_of_ble_eq_true rfl), (Nat.le_of_ble_eq_true rfl)⟩) (kpV (A := A) qP hK qD hG (krecv_2 (q0 := 10) hK hP rfl)) rfl rfl hl.1 rfl (lv_room (Nat.le_of_ble_eq_true rfl)) (kdr dgX1_freeLength_0 1 7 rfl rfl) ⟨(Nat.le_of_ble_eq_true rfl), (Nat.le_of_ble_eq_true rfl)⟩) hP hD hS hA kFr_SBf (fun H locs hP hD hS => ?_)
        refine lv_lsub hx hb (kdr dgX1_freeLength_0 1 8 rfl rfl) ?_
        refine lv_ladd hx hb (kdr dgX1_freeLength_0 1 9 rfl rfl) ?_
        refine lv_lstore_n (lv' := (kvJ 1 (x1 + (r3 - r4)) (kvA 0 (a 0) (kvI 3 x3 kvE)))) hx hb (kdr dgX1_freeLength_0 2 0 rfl rfl) rfl hl (by decide) rfl (fun ls hl => ?_)
        refine lv_iinc (v := x3 + 1) (lv' := (kvI 3 (x3 + 1) (kvJ 1 (x1 + (r3 - r4)) (kvA 0 (a 0) kvE)))) hx hb (kdr dgX1_freeLength_0 2 1 rfl rfl) hl (k := 2) rfl rfl (by decide) rfl (fun ls hl => ?_)
        refine lv_goto (tgt := 4) hx hb (kdr dgX1_freeLength_0 2 2 rfl rfl) (by decide) ?_
        exact ih ce fr un sb se so sc wb we wo wc fb fe fo fc rm ac rf kn (x1 + (r3 - r4)) (x3 + 1) _ _ hP hD hS ls (lv_sub hl [2, 1, 0] rfl) h
  have h := f_X1_freeLength_e.symm.trans hf
  refine lv_lconst (v := 0) hx hb (kdr dgX1_freeLength_0 0 0 rfl rfl) (by decide) ?_
  refine lv_lstore_n (lv' := (kvJ 1 0 (kvA 0 (a 0) kvE))) hx hb (kdr dgX1_freeLength_0 0 1 rfl rfl) rfl hl (by decide) rfl (fun ls hl => ?_)
  refine lv_iconst (v := 0) hx hb (kdr dgX1_freeLength_0 0 2 rfl rfl) (by decide) ?_
  refine lv_istore_n (lv' := (kvI 3 0 (kvJ 1 0 (kvA 0 (a 0) kvE)))) hx hb (kdr dgX1_freeLength_0 0 3 rfl rfl) rfl hl (by decide) rfl (fun ls hl => ?_)
  exact J4 24 ce fr un sb se so sc wb we wo wc fb fe fo fc rm ac rf kn 0 0 _ _ hP hD hS ls (lv_sub hl [2, 1, 0] rfl) h
noncomputable abbrev wsX1_takenLength : List Cond := kWs yX1_takenLength cX1_takenLength 8 (some .long)
noncomputable def f_X1_takenLength_10 : Nat → (Int64) → (Nat → Int64) → (Nat → Int64) → (Int32) → (Int64) → (Int64) → (Int32) → Option (Int64)
  | 0, _, _, _, _, _, _, _ => none
  | n + 1, un, sb, se, sc, x1, x3, x5 =>
    (f_X0_count sc).bind fun r1 =>
    if r1 < x5 then
      some x1
    else
      if un ≤ x3 then
        some x1
      else
        (f_X1_firstTaken un sb se sc x3).bind fun r4 =>
        (f_X1_firstWithoutSpan sb se sc r4 1).bind fun r5 =>
        f_X1_takenLength_10 n un sb se sc (x1 + (r5 - r4)) r5 (x5 + 1)
theorem f_X1_takenLength_10_0 {un : Int64} {sb : Nat → Int64} {se : Nat → Int64} {sc : Int32} {x1 : Int64} {x3 : Int64} {x5 : Int32} : f_X1_takenLength_10 0 un sb se sc x1 x3 x5 = none := rfl
theorem f_X1_takenLength_10_s {n : Nat} {un : Int64} {sb : Nat → Int64} {se : Nat → Int64} {sc : Int32} {x1 : Int64} {x3 : Int64} {x5 : Int32} : f_X1_takenLength_10 (n + 1) un sb se sc x1 x3 x5 =
  (f_X0_count sc).bind fun r1 =>
  if r1 < x5 then
    some x1
  else
    if un ≤ x3 then
      some x1
    else
      (f_X1_firstTaken un sb se sc x3).bind fun r4 =>
      (f_X1_firstWithoutSpan sb se sc r4 1).bind fun r5 =>
      f_X1_takenLength_10 n un sb se sc (x1 + (r5 - r4)) r5 (x5 + 1) := rfl
noncomputable def f_X1_takenLength (fr : Int64) (un : Int64) (sb : Nat → Int64) (se : Nat → Int64) (sc : Int32) : Option (Int64) :=
  f_X1_takenLength_10 24 un sb se sc 0 fr 0
theorem f_X1_takenLength_e {fr : Int64} {un : Int64} {sb : Nat → Int64} {se : Nat → Int64} {sc : Int32} : f_X1_takenLength fr un sb se sc = 
  f_X1_takenLength_10 24 un sb se sc 0 fr 0 := rfl
set_option maxHeartbeats 4000000 in
set_option maxRecDepth 100000 in
theorem c_X1_takenLength (l : Launch) (dC : Nat → ClassId) (dI : Nat → Nat → Nat) (cB cI cJ cZ : ClassId) (a : Nat → Nat) (sz : Nat) (ce : Nat → Int64) (fr : Int64) (un : Int64) (sb : Nat → Int64) (se : Nat → Int64) (so : Nat → Int32) (sc : Int32) (wb : Nat → Int64) (we : Nat → Int64) (wo : Nat → Int32) (wc : Int32) (fb : Nat → Int64) (fe : Nat → Int64) (fo : Nat → Int32) (fc : Int32) (rm : Nat → Int32) (ac : Int32) (rf : Int32) (kn : Int32) (res : Int64) (hf : f_X1_takenLength fr un sb se sc = some res) : kMl l yX1_takenLength wsX1_takenLength (kRm 3 0 0 70) dC dI cB cI cJ cZ [.ref (a 0)] sz (wSB cI cJ cZ a ce fr un sb se so sc wb we wo wc fb fe fo fc rm ac rf kn) (res) (wSB cI cJ cZ a ce fr un sb se so sc wb we wo wc fb fe fo fc rm ac rf kn) 0 0 := by
  refine kmet_l (y := yX1_takenLength) (cc := cX1_takenLength) (maxL := 8) (ret := (some .long)) RX1 (kvA 0 (a 0) kvE) kpl_X1 rfl rfl (Nat.le_of_ble_eq_true rfl) rfl (fun p e s m below meth c A ls hx hb hr hml hts hown hlocks hP hK hG hD hA hS hl => ?_)
  have hw0 := hts (.fieldLink RX1 13 "Spanbooker" "from" "J") (List.mem_cons_of_mem _ kw_108)
  have hw1 := hts (.fieldLink RX1 25 "Spanbooker" "spanRow" "LSpanbooker$Row;") (List.mem_cons_of_mem _ kw_110)
  have hw2 := hts (.fieldLink RX1 19 "Spanbooker" "until" "J") (List.mem_cons_of_mem _ kw_109)
  have hiX1 : ∀ w ∈ u_ws RX1 TX1 10, w ∈ wsX1_takenLength := fun w h => List.mem_cons_of_mem _ (ku_X1 w h)
  have J10 : ∀ (n : Nat), ∀ (ce : Nat → Int64) (fr : Int64) (un : Int64) (sb : Nat → Int64) (se : Nat → Int64) (so : Nat → Int32) (sc : Int32) (wb : Nat → Int64) (we : Nat → Int64) (wo : Nat → Int32) (wc : Int32) (fb : Nat → Int64) (fe : Nat → Int64) (fo : Nat → Int32) (fc : Int32) (rm : Nat → Int32) (ac : Int32) (rf : Int32) (kn : Int32) (x1 : Int64) (x3 : Int64) (x5 : Int32) (H : Heap) (locs : List Loc), va_P (dC, dI) vwCl (wSB cI cJ cZ a ce fr un sb se so sc wb we wo wc fb fe fo fc rm ac rf kn) H → va_D A (wSB cI cJ cZ a ce fr un sb se so sc wb we wo wc fb fe fo fc rm ac rf kn) → va_S A s.heap H locs → ∀ (ls : Array Slot), lv_has ls 8 (kvA 0 (a 0) (kvJ 1 x1 (kvJ 3 x3 (kvI 5 x5 kvE)))) → f_X1_takenLength_10 n un sb se sc x1 x3 x5 = some res → W p l e (headSpec wsX1_takenLength (kRm 3 0 0 70)).room s m ([.ref (a 0)] : List Value).toArray below meth c H locs 0 0 (MQ below (kL (dC, dI) (res) (wSB cI cJ cZ a ce fr un sb se so sc wb we wo wc fb fe fo fc rm ac rf kn) A) ([.ref (a 0)] : List Value).toArray s 0 0 A) (F0 m 10 ls []) := by
    intro n
    induction n with
    | zero =>
      intro ce fr un sb se so sc wb we wo wc fb fe fo fc rm ac rf kn x1 x3 x5 H locs hP hD hS ls hl h
      have h := f_X1_takenLength_10_0.symm.trans h
      cases h
    | succ n ih =>
      intro ce fr un sb se so sc wb we wo wc fb fe fo fc rm ac rf kn x1 x3 x5 H locs hP hD hS ls hl h
      have h := f_X1_takenLength_10_s.symm.trans h
      refine lv_iload hx hb (kdr dgX1_takenLength_0 0 7 rfl rfl) (lv_at hl 3 rfl) ?_
      refine lv_aload_n hx hb (kdr dgX1_takenLength_0 0 8 rfl rfl) rfl (lv_at hl 0 rfl) ?_
      refine va_get (D := (dC, dI)) (ci := 3) (v := .ref (a 2)) (C := RX1) (T := TX1) (N := 10) hx hb hts hiX1 hown hK hP 0 rfl rfl 3 (by decide) hw1 (fun _ h9 => h9) rfl (kdr dgX1_takenLength_0 0 9 rfl rfl) ?_
      obtain ⟨r1, g1, h⟩ := g_b h
      refine kq_i (wSB cI cJ cZ a ce fr un sb se so sc wb we wo wc fb fe fo fc rm ac rf kn) (fun qP qD qF => va_runV (As := []) (rest := [.int x5]) ⟨hx, hb, hml, hown, hts⟩ (c_X0_count l dC dI cB cI cJ cZ (a 2) (a 3) (a 4) (a 5) _ sb se so sc  r1 g1) (kcwV hts kw_155 kv_X0_count rfl rfl ⟨(Nat.le_of_ble_eq_true rfl), (Nat.le_of_ble_eq_true rfl)⟩) (kpV (A := A) qP hK qD hG (krecv_2 (q0 := 2) hK hP rfl)) rfl rfl hl.1 rfl (lv_room (Nat.le_of_ble_eq_true rfl)) (kdr dgX1_takenLength_0 1 0 rfl rfl) ⟨(Nat.le_of_ble_eq_true rfl), (Nat.le_of_ble_eq_true rfl)⟩) hP hD hS hA kFr_SBs (fun H locs hP hD hS br1 => ?_)
      refine lv_icmp_gt (tgt := 59) hx hb (kdr dgX1_takenLength_0 1 1 rfl rfl) (by decide) (fun c2 => ?_) (fun c2 => ?_)
      · have h := g_t c2 h
        refine lv_lload_n hx hb (kdr dgX1_takenLength_0 3 4 rfl rfl) rfl (lv_at hl 1 rfl) ?_
        have h := Option.some.inj h
        subst h
        exact kret_l (v := x1) hx hb hr hlocks hS hP (kdr dgX1_takenLength_0 3 5 rfl rfl)
      · have h := g_f c2 h
        refine lv_lload_n hx hb (kdr dgX1_takenLength_0 1 2 rfl rfl) rfl (lv_at hl 2 rfl) ?_
        refine lv_aload_n hx hb (kdr dgX1_takenLength_0 1 3 rfl rfl) rfl (lv_at hl 0 rfl) ?_
        refine va_get (D := (dC, dI)) (ci := 3) (v := .long un) (C := RX1) (T := TX1) (N := 10) hx hb hts hiX1 hown hK hP 0 rfl rfl 2 (by decide) hw2 (fun _ h9 => h9) rfl (kdr dgX1_takenLength_0 1 4 rfl rfl) ?_
        refine kl_ge (pc := 27) (tgt := 59) hx hb (kdr dgX1_takenLength_0 1 5 rfl rfl) (kdr dgX1_takenLength_0 1 6 rfl rfl) (by decide) (fun c3 => ?_) (fun c3 => ?_)
        · have h := g_t c3 h
          refine lv_lload_n hx hb (kdr dgX1_takenLength_0 3 4 rfl rfl) rfl (lv_at hl 1 rfl) ?_
          have h := Option.some.inj h
          subst h
          exact kret_l (v := x1) hx hb hr hlocks hS hP (kdr dgX1_takenLength_0 3 5 rfl rfl)
        · have h := g_f c3 h
          refine lv_aload_n hx hb (kdr dgX1_takenLength_0 1 7 rfl rfl) rfl (lv_at hl 0 rfl) ?_
          refine lv_lload_n hx hb (kdr dgX1_takenLength_0 1 8 rfl rfl) rfl (lv_at hl 2 rfl) ?_
          obtain ⟨r4, g4, h⟩ := g_b h
          refine kq_l (wSB cI cJ cZ a ce fr un sb se so sc wb we wo wc fb fe fo fc rm ac rf kn) (fun qP qD qF => va_runV (As := [.long x3]) (rest := []) ⟨hx, hb, hml, hown, hts⟩ (c_X1_firstTaken l dC dI cB cI cJ cZ a _ ce fr un sb se so sc wb we wo wc fb fe fo fc rm ac rf kn x3 r4 g4) (kcwV hts kw_202 kv_X1_firstTaken rfl rfl ⟨(Nat.le_of_ble_eq_true rfl), (Nat.le_of_ble_eq_true rfl)⟩) (kpV (A := A) qP hK qD hG (krecv_3 (q0 := 0) hK hP rfl)) rfl rfl hl.1 rfl (lv_room (Nat.le_of_ble_eq_true rfl)) (kdr dgX1_takenLength_0 1 9 rfl rfl) ⟨(Nat.le_of_ble_eq_true rfl), (Nat.le_of_ble_eq_true rfl)⟩) hP hD hS hA kFr_SB (fun H locs hP hD hS => ?_)
          refine lv_lstore (lv' := (kvJ 6 r4 (kvA 0 (a 0) (kvJ 1 x1 (kvJ 3 x3 (kvI 5 x5 kvE)))))) hx hb (kdr dgX1_takenLength_0 2 0 rfl rfl) hl (by decide) rfl (fun ls hl => ?_)
          refine lv_aload_n hx hb (kdr dgX1_takenLength_0 2 1 rfl rfl) rfl (lv_at hl 1 rfl) ?_
          refine lv_lload hx hb (kdr dgX1_takenLength_0 2 2 rfl rfl) (lv_at hl 0 rfl) ?_
          refine lv_lconst (v := 1) hx hb (kdr dgX1_takenLength_0 2 3 rfl rfl) (by decide) ?_
          obtain ⟨r5, g5, h⟩ := g_b h
          refine kq_l (wSB cI cJ cZ a ce fr un sb se so sc wb we wo wc fb fe fo fc rm ac rf kn) (fun qP qD qF => va_runV (As := [.long r4, .long 1]) (rest := []) ⟨hx, hb, hml, hown, hts⟩ (c_X1_firstWithoutSpan l dC dI cB cI cJ cZ a _ ce fr un sb se so sc wb we wo wc fb fe fo fc rm ac rf kn r4 1 r5 g5) (kcwV hts kw_186 kv_X1_firstWithoutSpan rfl rfl ⟨(Nat.le_of_ble_eq_true rfl), (Nat.le_of_ble_eq_true rfl)⟩) (kpV (A := A) qP hK qD hG (krecv_3 (q0 := 0) hK hP rfl)) rfl rfl hl.1 rfl (lv_room (Nat.le_of_ble_eq_true rfl)) (kdr dgX1_takenLength_0 2 4 rfl rfl) ⟨(Nat.le_of_ble_eq_true rfl), (Nat.le_of_ble_eq_true rfl)⟩) hP hD hS hA kFr_SB (fun H locs hP hD hS => ?_)
          refine lv_lstore_n (lv' := (kvJ 3 r5 (kvJ 6 r4 (kvA 0 (a 0) (kvJ 1 x1 (kvI 5 x5 kvE)))))) hx hb (kdr dgX1_takenLength_0 2 5 rfl rfl) rfl hl (by decide) rfl (fun ls hl => ?_)
          refine lv_lload_n hx hb (kdr dgX1_takenLength_0 2 6 rfl rfl) rfl (lv_at hl 3 rfl) ?_
          refine lv_lload_n hx hb (kdr dgX1_takenLength_0 2 7 rfl rfl) rfl (lv_at hl 0 rfl) ?_
          refine lv_lload hx hb (kdr dgX1_takenLength_0 2 8 rfl rfl) (lv_at hl 1 rfl) ?_
          refine lv_lsub hx hb (kdr dgX1_takenLength_0 2 9 rfl rfl) ?_
          refine lv_ladd hx hb (kdr dgX1_takenLength_0 3 0 rfl rfl) ?_
          refine lv_lstore_n (lv' := (kvJ 1 (x1 + (r5 - r4)) (kvJ 3 r5 (kvJ 6 r4 (kvA 0 (a 0) (kvI 5 x5 kvE)))))) hx hb (kdr dgX1_takenLength_0 3 1 rfl rfl) rfl hl (by decide) rfl (fun ls hl => ?_)
          refine lv_iinc (v := x5 + 1) (lv' := (kvI 5 (x5 + 1) (kvJ 1 (x1 + (r5 - r4)) (kvJ 3 r5 (kvJ 6 r4 (kvA 0 (a 0) kvE)))))) hx hb (kdr dgX1_takenLength_0 3 2 rfl rfl) hl (k := 4) rfl rfl (by decide) rfl (fun ls hl => ?_)
          refine lv_goto (tgt := 10) hx hb (kdr dgX1_takenLength_0 3 3 rfl rfl) (by decide) ?_
          exact ih ce fr un sb se so sc wb we wo wc fb fe fo fc rm ac rf kn (x1 + (r5 - r4)) r5 (x5 + 1) _ _ hP hD hS ls (lv_sub hl [4, 1, 2, 0] rfl) h
  have h := f_X1_takenLength_e.symm.trans hf
  refine lv_lconst (v := 0) hx hb (kdr dgX1_takenLength_0 0 0 rfl rfl) (by decide) ?_
  refine lv_lstore_n (lv' := (kvJ 1 0 (kvA 0 (a 0) kvE))) hx hb (kdr dgX1_takenLength_0 0 1 rfl rfl) rfl hl (by decide) rfl (fun ls hl => ?_)
  refine lv_aload_n hx hb (kdr dgX1_takenLength_0 0 2 rfl rfl) rfl (lv_at hl 1 rfl) ?_
  refine va_get (D := (dC, dI)) (ci := 3) (v := .long fr) (C := RX1) (T := TX1) (N := 10) hx hb hts hiX1 hown hK hP 0 rfl rfl 1 (by decide) hw0 (fun _ h9 => h9) rfl (kdr dgX1_takenLength_0 0 3 rfl rfl) ?_
  refine lv_lstore_n (lv' := (kvJ 3 fr (kvJ 1 0 (kvA 0 (a 0) kvE)))) hx hb (kdr dgX1_takenLength_0 0 4 rfl rfl) rfl hl (by decide) rfl (fun ls hl => ?_)
  refine lv_iconst (v := 0) hx hb (kdr dgX1_takenLength_0 0 5 rfl rfl) (by decide) ?_
  refine lv_istore (lv' := (kvI 5 0 (kvJ 3 fr (kvJ 1 0 (kvA 0 (a 0) kvE))))) hx hb (kdr dgX1_takenLength_0 0 6 rfl rfl) hl (by decide) rfl (fun ls hl => ?_)
  exact J10 24 ce fr un sb se so sc wb we wo wc fb fe fo fc rm ac rf kn 0 fr 0 _ _ hP hD hS ls (lv_sub hl [3, 2, 1, 0] rfl) h
noncomputable abbrev wsX1_setOfAllWishes : List Cond := kWs yX1_setOfAllWishes cX1_setOfAllWishes 1 (some .int)
noncomputable def f_X1_setOfAllWishes (wc : Int32) : Option (Int32) :=
  (f_X0_count wc).bind fun r1 =>
  some ((1 <<< (r1 &&& 31)) - 1)
theorem f_X1_setOfAllWishes_e {wc : Int32} : f_X1_setOfAllWishes wc = 
  (f_X0_count wc).bind fun r1 =>
  some ((1 <<< (r1 &&& 31)) - 1) := rfl
set_option maxHeartbeats 4000000 in
set_option maxRecDepth 100000 in
theorem c_X1_setOfAllWishes (l : Launch) (dC : Nat → ClassId) (dI : Nat → Nat → Nat) (cB cI cJ cZ : ClassId) (a : Nat → Nat) (sz : Nat) (ce : Nat → Int64) (fr : Int64) (un : Int64) (sb : Nat → Int64) (se : Nat → Int64) (so : Nat → Int32) (sc : Int32) (wb : Nat → Int64) (we : Nat → Int64) (wo : Nat → Int32) (wc : Int32) (fb : Nat → Int64) (fe : Nat → Int64) (fo : Nat → Int32) (fc : Int32) (rm : Nat → Int32) (ac : Int32) (rf : Int32) (kn : Int32) (res : Int32) (hf : f_X1_setOfAllWishes wc = some res) : kMi l yX1_setOfAllWishes wsX1_setOfAllWishes (kRm 1 0 0 20) dC dI cB cI cJ cZ [.ref (a 0)] sz (wSB cI cJ cZ a ce fr un sb se so sc wb we wo wc fb fe fo fc rm ac rf kn) .int (res) (wSB cI cJ cZ a ce fr un sb se so sc wb we wo wc fb fe fo fc rm ac rf kn) 0 0 := by
  refine kmet_i (y := yX1_setOfAllWishes) (cc := cX1_setOfAllWishes) (maxL := 1) (ret := (some .int)) RX1 (kvA 0 (a 0) kvE) kpl_X1 rfl rfl (Nat.le_of_ble_eq_true rfl) rfl (fun p e s m below meth c A ls hx hb hr hml hts hown hlocks hP hK hG hD hA hS hl => ?_)
  have hw0 := hts (.fieldLink RX1 29 "Spanbooker" "wishRow" "LSpanbooker$Row;") (List.mem_cons_of_mem _ kw_111)
  have hiX1 : ∀ w ∈ u_ws RX1 TX1 10, w ∈ wsX1_setOfAllWishes := fun w h => List.mem_cons_of_mem _ (ku_X1 w h)
  have h := f_X1_setOfAllWishes_e.symm.trans hf
  refine lv_iconst (v := 1) hx hb (kdr dgX1_setOfAllWishes_0 0 0 rfl rfl) (by decide) ?_
  refine lv_aload_n hx hb (kdr dgX1_setOfAllWishes_0 0 1 rfl rfl) rfl (lv_at hl 0 rfl) ?_
  refine va_get (D := (dC, dI)) (ci := 3) (v := .ref (a 6)) (C := RX1) (T := TX1) (N := 10) hx hb hts hiX1 hown hK hP 0 rfl rfl 4 (by decide) hw0 (fun _ h9 => h9) rfl (kdr dgX1_setOfAllWishes_0 0 2 rfl rfl) ?_
  obtain ⟨r1, g1, h⟩ := g_b h
  refine kq_i (wSB cI cJ cZ a ce fr un sb se so sc wb we wo wc fb fe fo fc rm ac rf kn) (fun qP qD qF => va_runV (As := []) (rest := [.int 1]) ⟨hx, hb, hml, hown, hts⟩ (c_X0_count l dC dI cB cI cJ cZ (a 6) (a 7) (a 8) (a 9) _ wb we wo wc  r1 g1) (kcwV hts kw_155 kv_X0_count rfl rfl ⟨(Nat.le_of_ble_eq_true rfl), (Nat.le_of_ble_eq_true rfl)⟩) (kpV (A := A) qP hK qD hG (krecv_2 (q0 := 6) hK hP rfl)) rfl rfl hl.1 rfl (lv_room (Nat.le_of_ble_eq_true rfl)) (kdr dgX1_setOfAllWishes_0 0 3 rfl rfl) ⟨(Nat.le_of_ble_eq_true rfl), (Nat.le_of_ble_eq_true rfl)⟩) hP hD hS hA kFr_SBw (fun H locs hP hD hS br1 => ?_)
  refine lv_ishl hx hb (kdr dgX1_setOfAllWishes_0 0 4 rfl rfl) ?_
  refine lv_iconst (v := 1) hx hb (kdr dgX1_setOfAllWishes_0 0 5 rfl rfl) (by decide) ?_
  refine lv_isub hx hb (kdr dgX1_setOfAllWishes_0 0 6 rfl rfl) ?_
  have h := Option.some.inj h
  subst h
  exact kret_i (v := (1 <<< (r1 &&& 31)) - 1) hx hb hr rfl hlocks hS hP (kdr dgX1_setOfAllWishes_0 0 7 rfl rfl)
noncomputable abbrev wsX1_meetsOneOf : List Cond := kWs yX1_meetsOneOf cX1_meetsOneOf 4 (some .boolean)
noncomputable def f_X1_meetsOneOf_2 : Nat → (Nat → Int64) → (Nat → Int64) → (Int32) → (Int32) → (Int32) → (Int32) → Option (Int32)
  | 0, _, _, _, _, _, _ => none
  | n + 1, wb, we, wc, x1, x2, x3 =>
    (f_X0_count wc).bind fun r1 =>
    if r1 ≤ x3 then
      some 0
    else
      if ((x2 >>> (x3 &&& 31)) &&& 1) = 1 then
        (f_X0_doMeet wb we wc x1 x3).bind fun r4 =>
        if r4 = 0 then
          f_X1_meetsOneOf_2 n wb we wc x1 x2 (x3 + 1)
        else
          some 1
      else
        f_X1_meetsOneOf_2 n wb we wc x1 x2 (x3 + 1)
theorem f_X1_meetsOneOf_2_0 {wb : Nat → Int64} {we : Nat → Int64} {wc : Int32} {x1 : Int32} {x2 : Int32} {x3 : Int32} : f_X1_meetsOneOf_2 0 wb we wc x1 x2 x3 = none := rfl
theorem f_X1_meetsOneOf_2_s {n : Nat} {wb : Nat → Int64} {we : Nat → Int64} {wc : Int32} {x1 : Int32} {x2 : Int32} {x3 : Int32} : f_X1_meetsOneOf_2 (n + 1) wb we wc x1 x2 x3 =
  (f_X0_count wc).bind fun r1 =>
  if r1 ≤ x3 then
    some 0
  else
    if ((x2 >>> (x3 &&& 31)) &&& 1) = 1 then
      (f_X0_doMeet wb we wc x1 x3).bind fun r4 =>
      if r4 = 0 then
        f_X1_meetsOneOf_2 n wb we wc x1 x2 (x3 + 1)
      else
        some 1
    else
      f_X1_meetsOneOf_2 n wb we wc x1 x2 (x3 + 1) := rfl
noncomputable def f_X1_meetsOneOf (wb : Nat → Int64) (we : Nat → Int64) (wc : Int32) (p0 : Int32) (p1 : Int32) : Option (Int32) :=
  f_X1_meetsOneOf_2 24 wb we wc p0 p1 0
theorem f_X1_meetsOneOf_e {wb : Nat → Int64} {we : Nat → Int64} {wc : Int32} {p0 : Int32} {p1 : Int32} : f_X1_meetsOneOf wb we wc p0 p1 = 
  f_X1_meetsOneOf_2 24 wb we wc p0 p1 0 := rfl
set_option maxHeartbeats 4000000 in
set_option maxRecDepth 100000 in
theorem c_X1_meetsOneOf (l : Launch) (dC : Nat → ClassId) (dI : Nat → Nat → Nat) (cB cI cJ cZ : ClassId) (a : Nat → Nat) (sz : Nat) (ce : Nat → Int64) (fr : Int64) (un : Int64) (sb : Nat → Int64) (se : Nat → Int64) (so : Nat → Int32) (sc : Int32) (wb : Nat → Int64) (we : Nat → Int64) (wo : Nat → Int32) (wc : Int32) (fb : Nat → Int64) (fe : Nat → Int64) (fo : Nat → Int32) (fc : Int32) (rm : Nat → Int32) (ac : Int32) (rf : Int32) (kn : Int32) (p0 : Int32) (p1 : Int32) (res : Int32) (hf : f_X1_meetsOneOf wb we wc p0 p1 = some res) : kMi l yX1_meetsOneOf wsX1_meetsOneOf (kRm 1 0 0 22) dC dI cB cI cJ cZ [.ref (a 0), .int p0, .int p1] sz (wSB cI cJ cZ a ce fr un sb se so sc wb we wo wc fb fe fo fc rm ac rf kn) .boolean (res) (wSB cI cJ cZ a ce fr un sb se so sc wb we wo wc fb fe fo fc rm ac rf kn) 0 0 := by
  refine kmet_i (y := yX1_meetsOneOf) (cc := cX1_meetsOneOf) (maxL := 4) (ret := (some .boolean)) RX1 (kvA 0 (a 0) (kvI 1 p0 (kvI 2 p1 kvE))) kpl_X1 rfl rfl (Nat.le_of_ble_eq_true rfl) rfl (fun p e s m below meth c A ls hx hb hr hml hts hown hlocks hP hK hG hD hA hS hl => ?_)
  have hw0 := hts (.fieldLink RX1 29 "Spanbooker" "wishRow" "LSpanbooker$Row;") (List.mem_cons_of_mem _ kw_111)
  have hiX1 : ∀ w ∈ u_ws RX1 TX1 10, w ∈ wsX1_meetsOneOf := fun w h => List.mem_cons_of_mem _ (ku_X1 w h)
  have J2 : ∀ (n : Nat), ∀ (ce : Nat → Int64) (fr : Int64) (un : Int64) (sb : Nat → Int64) (se : Nat → Int64) (so : Nat → Int32) (sc : Int32) (wb : Nat → Int64) (we : Nat → Int64) (wo : Nat → Int32) (wc : Int32) (fb : Nat → Int64) (fe : Nat → Int64) (fo : Nat → Int32) (fc : Int32) (rm : Nat → Int32) (ac : Int32) (rf : Int32) (kn : Int32) (x1 : Int32) (x2 : Int32) (x3 : Int32) (H : Heap) (locs : List Loc), va_P (dC, dI) vwCl (wSB cI cJ cZ a ce fr un sb se so sc wb we wo wc fb fe fo fc rm ac rf kn) H → va_D A (wSB cI cJ cZ a ce fr un sb se so sc wb we wo wc fb fe fo fc rm ac rf kn) → va_S A s.heap H locs → ∀ (ls : Array Slot), lv_has ls 4 (kvA 0 (a 0) (kvI 1 x1 (kvI 2 x2 (kvI 3 x3 kvE)))) → f_X1_meetsOneOf_2 n wb we wc x1 x2 x3 = some res → W p l e (headSpec wsX1_meetsOneOf (kRm 1 0 0 22)).room s m ([.ref (a 0), .int p0, .int p1] : List Value).toArray below meth c H locs 0 0 (MQ below (kI (dC, dI) .boolean (res) (wSB cI cJ cZ a ce fr un sb se so sc wb we wo wc fb fe fo fc rm ac rf kn) A) ([.ref (a 0), .int p0, .int p1] : List Value).toArray s 0 0 A) (F0 m 2 ls []) := by
    intro n
    induction n with
    | zero =>
      intro ce fr un sb se so sc wb we wo wc fb fe fo fc rm ac rf kn x1 x2 x3 H locs hP hD hS ls hl h
      have h := f_X1_meetsOneOf_2_0.symm.trans h
      cases h
    | succ n ih =>
      intro ce fr un sb se so sc wb we wo wc fb fe fo fc rm ac rf kn x1 x2 x3 H locs hP hD hS ls hl h
      have h := f_X1_meetsOneOf_2_s.symm.trans h
      refine lv_iload_n hx hb (kdr dgX1_meetsOneOf_0 0 2 rfl rfl) rfl (lv_at hl 3 rfl) ?_
      refine lv_aload_n hx hb (kdr dgX1_meetsOneOf_0 0 3 rfl rfl) rfl (lv_at hl 0 rfl) ?_
      refine va_get (D := (dC, dI)) (ci := 3) (v := .ref (a 6)) (C := RX1) (T := TX1) (N := 10) hx hb hts hiX1 hown hK hP 0 rfl rfl 4 (by decide) hw0 (fun _ h9 => h9) rfl (kdr dgX1_meetsOneOf_0 0 4 rfl rfl) ?_
      obtain ⟨r1, g1, h⟩ := g_b h
      refine kq_i (wSB cI cJ cZ a ce fr un sb se so sc wb we wo wc fb fe fo fc rm ac rf kn) (fun qP qD qF => va_runV (As := []) (rest := [.int x3]) ⟨hx, hb, hml, hown, hts⟩ (c_X0_count l dC dI cB cI cJ cZ (a 6) (a 7) (a 8) (a 9) _ wb we wo wc  r1 g1) (kcwV hts kw_155 kv_X0_count rfl rfl ⟨(Nat.le_of_ble_eq_true rfl), (Nat.le_of_ble_eq_true rfl)⟩) (kpV (A := A) qP hK qD hG (krecv_2 (q0 := 6) hK hP rfl)) rfl rfl hl.1 rfl (lv_room (Nat.le_of_ble_eq_true rfl)) (kdr dgX1_meetsOneOf_0 0 5 rfl rfl) ⟨(Nat.le_of_ble_eq_true rfl), (Nat.le_of_ble_eq_true rfl)⟩) hP hD hS hA kFr_SBw (fun H locs hP hD hS br1 => ?_)
      refine lv_icmp_ge (tgt := 42) hx hb (kdr dgX1_meetsOneOf_0 0 6 rfl rfl) (by decide) (fun c2 => ?_) (fun c2 => ?_)
      · have h := g_t c2 h
        refine lv_iconst (v := 0) hx hb (kdr dgX1_meetsOneOf_0 2 4 rfl rfl) (by decide) ?_
        have h := Option.some.inj h
        subst h
        exact kret_i (v := 0) hx hb hr rfl hlocks hS hP (kdr dgX1_meetsOneOf_0 2 5 rfl rfl)
      · have h := g_f c2 h
        refine lv_iload_n hx hb (kdr dgX1_meetsOneOf_0 0 7 rfl rfl) rfl (lv_at hl 2 rfl) ?_
        refine lv_iload_n hx hb (kdr dgX1_meetsOneOf_0 0 8 rfl rfl) rfl (lv_at hl 3 rfl) ?_
        refine lv_ishr hx hb (kdr dgX1_meetsOneOf_0 0 9 rfl rfl) ?_
        refine lv_iconst (v := 1) hx hb (kdr dgX1_meetsOneOf_0 1 0 rfl rfl) (by decide) ?_
        refine lv_iand hx hb (kdr dgX1_meetsOneOf_0 1 1 rfl rfl) ?_
        refine lv_iconst (v := 1) hx hb (kdr dgX1_meetsOneOf_0 1 2 rfl rfl) (by decide) ?_
        refine lv_icmp_ne (tgt := 36) hx hb (kdr dgX1_meetsOneOf_0 1 3 rfl rfl) (by decide) (fun c3 => ?_) (fun c3 => ?_)
        · have h := g_f c3 h
          refine lv_iinc (v := x3 + 1) (lv' := (kvI 3 (x3 + 1) (kvA 0 (a 0) (kvI 1 x1 (kvI 2 x2 kvE))))) hx hb (kdr dgX1_meetsOneOf_0 2 2 rfl rfl) hl (k := 3) rfl rfl (by decide) rfl (fun ls hl => ?_)
          refine lv_goto (tgt := 2) hx hb (kdr dgX1_meetsOneOf_0 2 3 rfl rfl) (by decide) ?_
          exact ih ce fr un sb se so sc wb we wo wc fb fe fo fc rm ac rf kn x1 x2 (x3 + 1) _ _ hP hD hS ls (lv_sub hl [1, 2, 3, 0] rfl) h
        · have h := g_t c3 h
          refine lv_aload_n hx hb (kdr dgX1_meetsOneOf_0 1 4 rfl rfl) rfl (lv_at hl 0 rfl) ?_
          refine va_get (D := (dC, dI)) (ci := 3) (v := .ref (a 6)) (C := RX1) (T := TX1) (N := 10) hx hb hts hiX1 hown hK hP 0 rfl rfl 4 (by decide) hw0 (fun _ h9 => h9) rfl (kdr dgX1_meetsOneOf_0 1 5 rfl rfl) ?_
          refine lv_iload_n hx hb (kdr dgX1_meetsOneOf_0 1 6 rfl rfl) rfl (lv_at hl 1 rfl) ?_
          refine lv_iload_n hx hb (kdr dgX1_meetsOneOf_0 1 7 rfl rfl) rfl (lv_at hl 3 rfl) ?_
          obtain ⟨r4, g4, h⟩ := g_b h
          refine kq_i (wSB cI cJ cZ a ce fr un sb se so sc wb we wo wc fb fe fo fc rm ac rf kn) (fun qP qD qF => va_runV (As := [.int x1, .int x3]) (rest := []) ⟨hx, hb, hml, hown, hts⟩ (c_X0_doMeet l dC dI cB cI cJ cZ (a 6) (a 7) (a 8) (a 9) _ wb we wo wc x1 x3 r4 g4) (kcwV hts kw_163 kv_X0_doMeet rfl rfl ⟨(Nat.le_of_ble_eq_true rfl), (Nat.le_of_ble_eq_true rfl)⟩) (kpV (A := A) qP hK qD hG (krecv_2 (q0 := 6) hK hP rfl)) rfl rfl hl.1 rfl (lv_room (Nat.le_of_ble_eq_true rfl)) (kdr dgX1_meetsOneOf_0 1 8 rfl rfl) ⟨(Nat.le_of_ble_eq_true rfl), (Nat.le_of_ble_eq_true rfl)⟩) hP hD hS hA kFr_SBw (fun H locs hP hD hS br4 => ?_)
          refine lv_if_eq (tgt := 36) hx hb (kdr dgX1_meetsOneOf_0 1 9 rfl rfl) (by decide) (fun c5 => ?_) (fun c5 => ?_)
          · have h := g_t c5 h
            refine lv_iinc (v := x3 + 1) (lv' := (kvI 3 (x3 + 1) (kvA 0 (a 0) (kvI 1 x1 (kvI 2 x2 kvE))))) hx hb (kdr dgX1_meetsOneOf_0 2 2 rfl rfl) hl (k := 3) rfl rfl (by decide) rfl (fun ls hl => ?_)
            refine lv_goto (tgt := 2) hx hb (kdr dgX1_meetsOneOf_0 2 3 rfl rfl) (by decide) ?_
            exact ih ce fr un sb se so sc wb we wo wc fb fe fo fc rm ac rf kn x1 x2 (x3 + 1) _ _ hP hD hS ls (lv_sub hl [1, 2, 3, 0] rfl) h
          · have h := g_f c5 h
            refine lv_iconst (v := 1) hx hb (kdr dgX1_meetsOneOf_0 2 0 rfl rfl) (by decide) ?_
            have h := Option.some.inj h
            subst h
            exact kret_i (v := 1) hx hb hr rfl hlocks hS hP (kdr dgX1_meetsOneOf_0 2 1 rfl rfl)
  have h := f_X1_meetsOneOf_e.symm.trans hf
  refine lv_iconst (v := 0) hx hb (kdr dgX1_meetsOneOf_0 0 0 rfl rfl) (by decide) ?_
  refine lv_istore_n (lv' := (kvI 3 0 (kvA 0 (a 0) (kvI 1 p0 (kvI 2 p1 kvE))))) hx hb (kdr dgX1_meetsOneOf_0 0 1 rfl rfl) rfl hl (by decide) rfl (fun ls hl => ?_)
  exact J2 24 ce fr un sb se so sc wb we wo wc fb fe fo fc rm ac rf kn p0 p1 0 _ _ hP hD hS ls (lv_sub hl [1, 2, 3, 0] rfl) h
noncomputable abbrev wsX1_isWithoutMeeting : List Cond := kWs yX1_isWithoutMeeting cX1_isWithoutMeeting 4 (some .boolean)
noncomputable def f_X1_isWithoutMeeting_2 : Nat → (Nat → Int64) → (Nat → Int64) → (Int32) → (Int32) → (Int32) → Option (Int32)
  | 0, _, _, _, _, _ => none
  | n + 1, wb, we, wc, x1, x2 =>
    (f_X0_count wc).bind fun r1 =>
    if r1 ≤ x2 then
      some 1
    else
      if (x1 &&& (1 <<< (x2 &&& 31))) = 0 then
        f_X1_isWithoutMeeting_2 n wb we wc x1 (x2 + 1)
      else
        (f_X1_meetsOneOf wb we wc x2 (x1 - (1 <<< (x2 &&& 31)))).bind fun r4 =>
        if r4 = 0 then
          f_X1_isWithoutMeeting_2 n wb we wc x1 (x2 + 1)
        else
          some 0
theorem f_X1_isWithoutMeeting_2_0 {wb : Nat → Int64} {we : Nat → Int64} {wc : Int32} {x1 : Int32} {x2 : Int32} : f_X1_isWithoutMeeting_2 0 wb we wc x1 x2 = none := rfl
theorem f_X1_isWithoutMeeting_2_s {n : Nat} {wb : Nat → Int64} {we : Nat → Int64} {wc : Int32} {x1 : Int32} {x2 : Int32} : f_X1_isWithoutMeeting_2 (n + 1) wb we wc x1 x2 =
  (f_X0_count wc).bind fun r1 =>
  if r1 ≤ x2 then
    some 1
  else
    if (x1 &&& (1 <<< (x2 &&& 31))) = 0 then
      f_X1_isWithoutMeeting_2 n wb we wc x1 (x2 + 1)
    else
      (f_X1_meetsOneOf wb we wc x2 (x1 - (1 <<< (x2 &&& 31)))).bind fun r4 =>
      if r4 = 0 then
        f_X1_isWithoutMeeting_2 n wb we wc x1 (x2 + 1)
      else
        some 0 := rfl
noncomputable def f_X1_isWithoutMeeting (wb : Nat → Int64) (we : Nat → Int64) (wc : Int32) (p0 : Int32) : Option (Int32) :=
  f_X1_isWithoutMeeting_2 24 wb we wc p0 0
theorem f_X1_isWithoutMeeting_e {wb : Nat → Int64} {we : Nat → Int64} {wc : Int32} {p0 : Int32} : f_X1_isWithoutMeeting wb we wc p0 = 
  f_X1_isWithoutMeeting_2 24 wb we wc p0 0 := rfl
set_option maxHeartbeats 4000000 in
set_option maxRecDepth 100000 in
theorem c_X1_isWithoutMeeting (l : Launch) (dC : Nat → ClassId) (dI : Nat → Nat → Nat) (cB cI cJ cZ : ClassId) (a : Nat → Nat) (sz : Nat) (ce : Nat → Int64) (fr : Int64) (un : Int64) (sb : Nat → Int64) (se : Nat → Int64) (so : Nat → Int32) (sc : Int32) (wb : Nat → Int64) (we : Nat → Int64) (wo : Nat → Int32) (wc : Int32) (fb : Nat → Int64) (fe : Nat → Int64) (fo : Nat → Int32) (fc : Int32) (rm : Nat → Int32) (ac : Int32) (rf : Int32) (kn : Int32) (p0 : Int32) (res : Int32) (hf : f_X1_isWithoutMeeting wb we wc p0 = some res) : kMi l yX1_isWithoutMeeting wsX1_isWithoutMeeting (kRm 2 0 0 45) dC dI cB cI cJ cZ [.ref (a 0), .int p0] sz (wSB cI cJ cZ a ce fr un sb se so sc wb we wo wc fb fe fo fc rm ac rf kn) .boolean (res) (wSB cI cJ cZ a ce fr un sb se so sc wb we wo wc fb fe fo fc rm ac rf kn) 0 0 := by
  refine kmet_i (y := yX1_isWithoutMeeting) (cc := cX1_isWithoutMeeting) (maxL := 4) (ret := (some .boolean)) RX1 (kvA 0 (a 0) (kvI 1 p0 kvE)) kpl_X1 rfl rfl (Nat.le_of_ble_eq_true rfl) rfl (fun p e s m below meth c A ls hx hb hr hml hts hown hlocks hP hK hG hD hA hS hl => ?_)
  have hw0 := hts (.fieldLink RX1 29 "Spanbooker" "wishRow" "LSpanbooker$Row;") (List.mem_cons_of_mem _ kw_111)
  have hiX1 : ∀ w ∈ u_ws RX1 TX1 10, w ∈ wsX1_isWithoutMeeting := fun w h => List.mem_cons_of_mem _ (ku_X1 w h)
  have J2 : ∀ (n : Nat), ∀ (ce : Nat → Int64) (fr : Int64) (un : Int64) (sb : Nat → Int64) (se : Nat → Int64) (so : Nat → Int32) (sc : Int32) (wb : Nat → Int64) (we : Nat → Int64) (wo : Nat → Int32) (wc : Int32) (fb : Nat → Int64) (fe : Nat → Int64) (fo : Nat → Int32) (fc : Int32) (rm : Nat → Int32) (ac : Int32) (rf : Int32) (kn : Int32) (x1 : Int32) (x2 : Int32) (H : Heap) (locs : List Loc), va_P (dC, dI) vwCl (wSB cI cJ cZ a ce fr un sb se so sc wb we wo wc fb fe fo fc rm ac rf kn) H → va_D A (wSB cI cJ cZ a ce fr un sb se so sc wb we wo wc fb fe fo fc rm ac rf kn) → va_S A s.heap H locs → ∀ (ls : Array Slot), lv_has ls 4 (kvA 0 (a 0) (kvI 1 x1 (kvI 2 x2 kvE))) → f_X1_isWithoutMeeting_2 n wb we wc x1 x2 = some res → W p l e (headSpec wsX1_isWithoutMeeting (kRm 2 0 0 45)).room s m ([.ref (a 0), .int p0] : List Value).toArray below meth c H locs 0 0 (MQ below (kI (dC, dI) .boolean (res) (wSB cI cJ cZ a ce fr un sb se so sc wb we wo wc fb fe fo fc rm ac rf kn) A) ([.ref (a 0), .int p0] : List Value).toArray s 0 0 A) (F0 m 2 ls []) := by
    intro n
    induction n with
    | zero =>
      intro ce fr un sb se so sc wb we wo wc fb fe fo fc rm ac rf kn x1 x2 H locs hP hD hS ls hl h
      have h := f_X1_isWithoutMeeting_2_0.symm.trans h
      cases h
    | succ n ih =>
      intro ce fr un sb se so sc wb we wo wc fb fe fo fc rm ac rf kn x1 x2 H locs hP hD hS ls hl h
      have h := f_X1_isWithoutMeeting_2_s.symm.trans h
      refine lv_iload_n hx hb (kdr dgX1_isWithoutMeeting_0 0 2 rfl rfl) rfl (lv_at hl 2 rfl) ?_
      refine lv_aload_n hx hb (kdr dgX1_isWithoutMeeting_0 0 3 rfl rfl) rfl (lv_at hl 0 rfl) ?_
      refine va_get (D := (dC, dI)) (ci := 3) (v := .ref (a 6)) (C := RX1) (T := TX1) (N := 10) hx hb hts hiX1 hown hK hP 0 rfl rfl 4 (by decide) hw0 (fun _ h9 => h9) rfl (kdr dgX1_isWithoutMeeting_0 0 4 rfl rfl) ?_
      obtain ⟨r1, g1, h⟩ := g_b h
      refine kq_i (wSB cI cJ cZ a ce fr un sb se so sc wb we wo wc fb fe fo fc rm ac rf kn) (fun qP qD qF => va_runV (As := []) (rest := [.int x2]) ⟨hx, hb, hml, hown, hts⟩ (c_X0_count l dC dI cB cI cJ cZ (a 6) (a 7) (a 8) (a 9) _ wb we wo wc  r1 g1) (kcwV hts kw_155 kv_X0_count rfl rfl ⟨(Nat.le_of_ble_eq_true rfl), (Nat.le_of_ble_eq_true rfl)⟩) (kpV (A := A) qP hK qD hG (krecv_2 (q0 := 6) hK hP rfl)) rfl rfl hl.1 rfl (lv_room (Nat.le_of_ble_eq_true rfl)) (kdr dgX1_isWithoutMeeting_0 0 5 rfl rfl) ⟨(Nat.le_of_ble_eq_true rfl), (Nat.le_of_ble_eq_true rfl)⟩) hP hD hS hA kFr_SBw (fun H locs hP hD hS br1 => ?_)
      refine lv_icmp_ge (tgt := 42) hx hb (kdr dgX1_isWithoutMeeting_0 0 6 rfl rfl) (by decide) (fun c2 => ?_) (fun c2 => ?_)
      · have h := g_t c2 h
        refine lv_iconst (v := 1) hx hb (kdr dgX1_isWithoutMeeting_0 2 6 rfl rfl) (by decide) ?_
        have h := Option.some.inj h
        subst h
        exact kret_i (v := 1) hx hb hr rfl hlocks hS hP (kdr dgX1_isWithoutMeeting_0 2 7 rfl rfl)
      · have h := g_f c2 h
        refine lv_iconst (v := 1) hx hb (kdr dgX1_isWithoutMeeting_0 0 7 rfl rfl) (by decide) ?_
        refine lv_iload_n hx hb (kdr dgX1_isWithoutMeeting_0 0 8 rfl rfl) rfl (lv_at hl 2 rfl) ?_
        refine lv_ishl hx hb (kdr dgX1_isWithoutMeeting_0 0 9 rfl rfl) ?_
        refine lv_istore_n (lv' := (kvI 3 (1 <<< (x2 &&& 31)) (kvA 0 (a 0) (kvI 1 x1 (kvI 2 x2 kvE))))) hx hb (kdr dgX1_isWithoutMeeting_0 1 0 rfl rfl) rfl hl (by decide) rfl (fun ls hl => ?_)
        refine lv_iload_n hx hb (kdr dgX1_isWithoutMeeting_0 1 1 rfl rfl) rfl (lv_at hl 2 rfl) ?_
        refine lv_iload_n hx hb (kdr dgX1_isWithoutMeeting_0 1 2 rfl rfl) rfl (lv_at hl 0 rfl) ?_
        refine lv_iand hx hb (kdr dgX1_isWithoutMeeting_0 1 3 rfl rfl) ?_
        refine lv_if_eq (tgt := 36) hx hb (kdr dgX1_isWithoutMeeting_0 1 4 rfl rfl) (by decide) (fun c3 => ?_) (fun c3 => ?_)
        · have h := g_t c3 h
          refine lv_iinc (v := x2 + 1) (lv' := (kvI 2 (x2 + 1) (kvI 3 (1 <<< (x2 &&& 31)) (kvA 0 (a 0) (kvI 1 x1 kvE))))) hx hb (kdr dgX1_isWithoutMeeting_0 2 4 rfl rfl) hl (k := 3) rfl rfl (by decide) rfl (fun ls hl => ?_)
          refine lv_goto (tgt := 2) hx hb (kdr dgX1_isWithoutMeeting_0 2 5 rfl rfl) (by decide) ?_
          exact ih ce fr un sb se so sc wb we wo wc fb fe fo fc rm ac rf kn x1 (x2 + 1) _ _ hP hD hS ls (lv_sub hl [2, 3, 0] rfl) h
        · have h := g_f c3 h
          refine lv_aload_n hx hb (kdr dgX1_isWithoutMeeting_0 1 5 rfl rfl) rfl (lv_at hl 1 rfl) ?_
          refine lv_iload_n hx hb (kdr dgX1_isWithoutMeeting_0 1 6 rfl rfl) rfl (lv_at hl 3 rfl) ?_
          refine lv_iload_n hx hb (kdr dgX1_isWithoutMeeting_0 1 7 rfl rfl) rfl (lv_at hl 2 rfl) ?_
          refine lv_iload_n hx hb (kdr dgX1_isWithoutMeeting_0 1 8 rfl rfl) rfl (lv_at hl 0 rfl) ?_
          refine lv_isub hx hb (kdr dgX1_isWithoutMeeting_0 1 9 rfl rfl) ?_
          obtain ⟨r4, g4, h⟩ := g_b h
          refine kq_i (wSB cI cJ cZ a ce fr un sb se so sc wb we wo wc fb fe fo fc rm ac rf kn) (fun qP qD qF => va_runV (As := [.int x2, .int (x1 - (1 <<< (x2 &&& 31)))]) (rest := []) ⟨hx, hb, hml, hown, hts⟩ (c_X1_meetsOneOf l dC dI cB cI cJ cZ a _ ce fr un sb se so sc wb we wo wc fb fe fo fc rm ac rf kn x2 (x1 - (1 <<< (x2 &&& 31))) r4 g4) (kcwV hts kw_231 kv_X1_meetsOneOf rfl rfl ⟨(Nat.le_of_ble_eq_true rfl), (Nat.le_of_ble_eq_true rfl)⟩) (kpV (A := A) qP hK qD hG (krecv_3 (q0 := 0) hK hP rfl)) rfl rfl hl.1 rfl (lv_room (Nat.le_of_ble_eq_true rfl)) (kdr dgX1_isWithoutMeeting_0 2 0 rfl rfl) ⟨(Nat.le_of_ble_eq_true rfl), (Nat.le_of_ble_eq_true rfl)⟩) hP hD hS hA kFr_SB (fun H locs hP hD hS br4 => ?_)
          refine lv_if_eq (tgt := 36) hx hb (kdr dgX1_isWithoutMeeting_0 2 1 rfl rfl) (by decide) (fun c5 => ?_) (fun c5 => ?_)
          · have h := g_t c5 h
            refine lv_iinc (v := x2 + 1) (lv' := (kvI 2 (x2 + 1) (kvI 3 (1 <<< (x2 &&& 31)) (kvA 0 (a 0) (kvI 1 x1 kvE))))) hx hb (kdr dgX1_isWithoutMeeting_0 2 4 rfl rfl) hl (k := 3) rfl rfl (by decide) rfl (fun ls hl => ?_)
            refine lv_goto (tgt := 2) hx hb (kdr dgX1_isWithoutMeeting_0 2 5 rfl rfl) (by decide) ?_
            exact ih ce fr un sb se so sc wb we wo wc fb fe fo fc rm ac rf kn x1 (x2 + 1) _ _ hP hD hS ls (lv_sub hl [2, 3, 0] rfl) h
          · have h := g_f c5 h
            refine lv_iconst (v := 0) hx hb (kdr dgX1_isWithoutMeeting_0 2 2 rfl rfl) (by decide) ?_
            have h := Option.some.inj h
            subst h
            exact kret_i (v := 0) hx hb hr rfl hlocks hS hP (kdr dgX1_isWithoutMeeting_0 2 3 rfl rfl)
  have h := f_X1_isWithoutMeeting_e.symm.trans hf
  refine lv_iconst (v := 0) hx hb (kdr dgX1_isWithoutMeeting_0 0 0 rfl rfl) (by decide) ?_
  refine lv_istore_n (lv' := (kvI 2 0 (kvA 0 (a 0) (kvI 1 p0 kvE)))) hx hb (kdr dgX1_isWithoutMeeting_0 0 1 rfl rfl) rfl hl (by decide) rfl (fun ls hl => ?_)
  exact J2 24 ce fr un sb se so sc wb we wo wc fb fe fo fc rm ac rf kn p0 0 _ _ hP hD hS ls (lv_sub hl [1, 2, 0] rfl) h
noncomputable abbrev wsX1_nextChosen : List Cond := kWs yX1_nextChosen cX1_nextChosen 4 (some .int)
noncomputable def f_X1_nextChosen_4 : Nat → (Nat → Int64) → (Nat → Int64) → (Int32) → (Int32) → (Int32) → (Int32) → Option (Int32)
  | 0, _, _, _, _, _, _ => none
  | n + 1, wb, we, wc, x1, x2, x3 =>
    (f_X0_count wc).bind fun r1 =>
    if r1 ≤ x3 then
      some x2
    else
      (f_X1_meetsOneOf wb we wc x3 x1).bind fun r3 =>
      if r3 = 0 then
        if x2 = (-1) then
          f_X1_nextChosen_4 n wb we wc x1 x3 (x3 + 1)
        else
          (f_X0_end we wc x3).bind fun r6 =>
          (f_X0_end we wc x2).bind fun r7 =>
          if r7 ≤ r6 then
            f_X1_nextChosen_4 n wb we wc x1 x2 (x3 + 1)
          else
            f_X1_nextChosen_4 n wb we wc x1 x3 (x3 + 1)
      else
        f_X1_nextChosen_4 n wb we wc x1 x2 (x3 + 1)
theorem f_X1_nextChosen_4_0 {wb : Nat → Int64} {we : Nat → Int64} {wc : Int32} {x1 : Int32} {x2 : Int32} {x3 : Int32} : f_X1_nextChosen_4 0 wb we wc x1 x2 x3 = none := rfl
theorem f_X1_nextChosen_4_s {n : Nat} {wb : Nat → Int64} {we : Nat → Int64} {wc : Int32} {x1 : Int32} {x2 : Int32} {x3 : Int32} : f_X1_nextChosen_4 (n + 1) wb we wc x1 x2 x3 =
  (f_X0_count wc).bind fun r1 =>
  if r1 ≤ x3 then
    some x2
  else
    (f_X1_meetsOneOf wb we wc x3 x1).bind fun r3 =>
    if r3 = 0 then
      if x2 = (-1) then
        f_X1_nextChosen_4 n wb we wc x1 x3 (x3 + 1)
      else
        (f_X0_end we wc x3).bind fun r6 =>
        (f_X0_end we wc x2).bind fun r7 =>
        if r7 ≤ r6 then
          f_X1_nextChosen_4 n wb we wc x1 x2 (x3 + 1)
        else
          f_X1_nextChosen_4 n wb we wc x1 x3 (x3 + 1)
    else
      f_X1_nextChosen_4 n wb we wc x1 x2 (x3 + 1) := rfl
noncomputable def f_X1_nextChosen (wb : Nat → Int64) (we : Nat → Int64) (wc : Int32) (p0 : Int32) : Option (Int32) :=
  f_X1_nextChosen_4 24 wb we wc p0 (-1) 0
theorem f_X1_nextChosen_e {wb : Nat → Int64} {we : Nat → Int64} {wc : Int32} {p0 : Int32} : f_X1_nextChosen wb we wc p0 = 
  f_X1_nextChosen_4 24 wb we wc p0 (-1) 0 := rfl
set_option maxHeartbeats 4000000 in
set_option maxRecDepth 100000 in
theorem c_X1_nextChosen (l : Launch) (dC : Nat → ClassId) (dI : Nat → Nat → Nat) (cB cI cJ cZ : ClassId) (a : Nat → Nat) (sz : Nat) (ce : Nat → Int64) (fr : Int64) (un : Int64) (sb : Nat → Int64) (se : Nat → Int64) (so : Nat → Int32) (sc : Int32) (wb : Nat → Int64) (we : Nat → Int64) (wo : Nat → Int32) (wc : Int32) (fb : Nat → Int64) (fe : Nat → Int64) (fo : Nat → Int32) (fc : Int32) (rm : Nat → Int32) (ac : Int32) (rf : Int32) (kn : Int32) (p0 : Int32) (res : Int32) (hf : f_X1_nextChosen wb we wc p0 = some res) : kMi l yX1_nextChosen wsX1_nextChosen (kRm 2 0 0 45) dC dI cB cI cJ cZ [.ref (a 0), .int p0] sz (wSB cI cJ cZ a ce fr un sb se so sc wb we wo wc fb fe fo fc rm ac rf kn) .int (res) (wSB cI cJ cZ a ce fr un sb se so sc wb we wo wc fb fe fo fc rm ac rf kn) 0 0 := by
  refine kmet_i (y := yX1_nextChosen) (cc := cX1_nextChosen) (maxL := 4) (ret := (some .int)) RX1 (kvA 0 (a 0) (kvI 1 p0 kvE)) kpl_X1 rfl rfl (Nat.le_of_ble_eq_true rfl) rfl (fun p e s m below meth c A ls hx hb hr hml hts hown hlocks hP hK hG hD hA hS hl => ?_)
  have hw0 := hts (.fieldLink RX1 29 "Spanbooker" "wishRow" "LSpanbooker$Row;") (List.mem_cons_of_mem _ kw_111)
  have hiX1 : ∀ w ∈ u_ws RX1 TX1 10, w ∈ wsX1_nextChosen := fun w h => List.mem_cons_of_mem _ (ku_X1 w h)
  have J4 : ∀ (n : Nat), ∀ (ce : Nat → Int64) (fr : Int64) (un : Int64) (sb : Nat → Int64) (se : Nat → Int64) (so : Nat → Int32) (sc : Int32) (wb : Nat → Int64) (we : Nat → Int64) (wo : Nat → Int32) (wc : Int32) (fb : Nat → Int64) (fe : Nat → Int64) (fo : Nat → Int32) (fc : Int32) (rm : Nat → Int32) (ac : Int32) (rf : Int32) (kn : Int32) (x1 : Int32) (x2 : Int32) (x3 : Int32) (H : Heap) (locs : List Loc), va_P (dC, dI) vwCl (wSB cI cJ cZ a ce fr un sb se so sc wb we wo wc fb fe fo fc rm ac rf kn) H → va_D A (wSB cI cJ cZ a ce fr un sb se so sc wb we wo wc fb fe fo fc rm ac rf kn) → va_S A s.heap H locs → ∀ (ls : Array Slot), lv_has ls 4 (kvA 0 (a 0) (kvI 1 x1 (kvI 2 x2 (kvI 3 x3 kvE)))) → f_X1_nextChosen_4 n wb we wc x1 x2 x3 = some res → W p l e (headSpec wsX1_nextChosen (kRm 2 0 0 45)).room s m ([.ref (a 0), .int p0] : List Value).toArray below meth c H locs 0 0 (MQ below (kI (dC, dI) .int (res) (wSB cI cJ cZ a ce fr un sb se so sc wb we wo wc fb fe fo fc rm ac rf kn) A) ([.ref (a 0), .int p0] : List Value).toArray s 0 0 A) (F0 m 4 ls []) := by
    intro n
    induction n with
    | zero =>
      intro ce fr un sb se so sc wb we wo wc fb fe fo fc rm ac rf kn x1 x2 x3 H locs hP hD hS ls hl h
      have h := f_X1_nextChosen_4_0.symm.trans h
      cases h
    | succ n ih =>
      intro ce fr un sb se so sc wb we wo wc fb fe fo fc rm ac rf kn x1 x2 x3 H locs hP hD hS ls hl h
      have h := f_X1_nextChosen_4_s.symm.trans h
      refine lv_iload_n hx hb (kdr dgX1_nextChosen_0 0 4 rfl rfl) rfl (lv_at hl 3 rfl) ?_
      refine lv_aload_n hx hb (kdr dgX1_nextChosen_0 0 5 rfl rfl) rfl (lv_at hl 0 rfl) ?_
      refine va_get (D := (dC, dI)) (ci := 3) (v := .ref (a 6)) (C := RX1) (T := TX1) (N := 10) hx hb hts hiX1 hown hK hP 0 rfl rfl 4 (by decide) hw0 (fun _ h9 => h9) rfl (kdr dgX1_nextChosen_0 0 6 rfl rfl) ?_
      obtain ⟨r1, g1, h⟩ := g_b h
      refine kq_i (wSB cI cJ cZ a ce fr un sb se so sc wb we wo wc fb fe fo fc rm ac rf kn) (fun qP qD qF => va_runV (As := []) (rest := [.int x3]) ⟨hx, hb, hml, hown, hts⟩ (c_X0_count l dC dI cB cI cJ cZ (a 6) (a 7) (a 8) (a 9) _ wb we wo wc  r1 g1) (kcwV hts kw_155 kv_X0_count rfl rfl ⟨(Nat.le_of_ble_eq_true rfl), (Nat.le_of_ble_eq_true rfl)⟩) (kpV (A := A) qP hK qD hG (krecv_2 (q0 := 6) hK hP rfl)) rfl rfl hl.1 rfl (lv_room (Nat.le_of_ble_eq_true rfl)) (kdr dgX1_nextChosen_0 0 7 rfl rfl) ⟨(Nat.le_of_ble_eq_true rfl), (Nat.le_of_ble_eq_true rfl)⟩) hP hD hS hA kFr_SBw (fun H locs hP hD hS br1 => ?_)
      refine lv_icmp_ge (tgt := 57) hx hb (kdr dgX1_nextChosen_0 0 8 rfl rfl) (by decide) (fun c2 => ?_) (fun c2 => ?_)
      · have h := g_t c2 h
        refine lv_iload_n hx hb (kdr dgX1_nextChosen_0 3 1 rfl rfl) rfl (lv_at hl 2 rfl) ?_
        have h := Option.some.inj h
        subst h
        exact kret_i (v := x2) hx hb hr rfl hlocks hS hP (kdr dgX1_nextChosen_0 3 2 rfl rfl)
      · have h := g_f c2 h
        refine lv_aload_n hx hb (kdr dgX1_nextChosen_0 0 9 rfl rfl) rfl (lv_at hl 0 rfl) ?_
        refine lv_iload_n hx hb (kdr dgX1_nextChosen_0 1 0 rfl rfl) rfl (lv_at hl 3 rfl) ?_
        refine lv_iload_n hx hb (kdr dgX1_nextChosen_0 1 1 rfl rfl) rfl (lv_at hl 1 rfl) ?_
        obtain ⟨r3, g3, h⟩ := g_b h
        refine kq_i (wSB cI cJ cZ a ce fr un sb se so sc wb we wo wc fb fe fo fc rm ac rf kn) (fun qP qD qF => va_runV (As := [.int x3, .int x1]) (rest := []) ⟨hx, hb, hml, hown, hts⟩ (c_X1_meetsOneOf l dC dI cB cI cJ cZ a _ ce fr un sb se so sc wb we wo wc fb fe fo fc rm ac rf kn x3 x1 r3 g3) (kcwV hts kw_231 kv_X1_meetsOneOf rfl rfl ⟨(Nat.le_of_ble_eq_true rfl), (Nat.le_of_ble_eq_true rfl)⟩) (kpV (A := A) qP hK qD hG (krecv_3 (q0 := 0) hK hP rfl)) rfl rfl hl.1 rfl (lv_room (Nat.le_of_ble_eq_true rfl)) (kdr dgX1_nextChosen_0 1 2 rfl rfl) ⟨(Nat.le_of_ble_eq_true rfl), (Nat.le_of_ble_eq_true rfl)⟩) hP hD hS hA kFr_SB (fun H locs hP hD hS br3 => ?_)
        refine lv_if_ne (tgt := 51) hx hb (kdr dgX1_nextChosen_0 1 3 rfl rfl) (by decide) (fun c4 => ?_) (fun c4 => ?_)
        · have h := g_f c4 h
          refine lv_iinc (v := x3 + 1) (lv' := (kvI 3 (x3 + 1) (kvA 0 (a 0) (kvI 1 x1 (kvI 2 x2 kvE))))) hx hb (kdr dgX1_nextChosen_0 2 9 rfl rfl) hl (k := 3) rfl rfl (by decide) rfl (fun ls hl => ?_)
          refine lv_goto (tgt := 4) hx hb (kdr dgX1_nextChosen_0 3 0 rfl rfl) (by decide) ?_
          exact ih ce fr un sb se so sc wb we wo wc fb fe fo fc rm ac rf kn x1 x2 (x3 + 1) _ _ hP hD hS ls (lv_sub hl [1, 2, 3, 0] rfl) h
        · have h := g_t c4 h
          refine lv_iload_n hx hb (kdr dgX1_nextChosen_0 1 4 rfl rfl) rfl (lv_at hl 2 rfl) ?_
          refine lv_iconst (v := (-1)) hx hb (kdr dgX1_nextChosen_0 1 5 rfl rfl) (by decide) ?_
          refine lv_icmp_eq (tgt := 49) hx hb (kdr dgX1_nextChosen_0 1 6 rfl rfl) (by decide) (fun c5 => ?_) (fun c5 => ?_)
          · have h := g_t c5 h
            refine lv_iload_n hx hb (kdr dgX1_nextChosen_0 2 7 rfl rfl) rfl (lv_at hl 3 rfl) ?_
            refine lv_istore_n (lv' := (kvI 2 x3 (kvA 0 (a 0) (kvI 1 x1 (kvI 3 x3 kvE))))) hx hb (kdr dgX1_nextChosen_0 2 8 rfl rfl) rfl hl (by decide) rfl (fun ls hl => ?_)
            refine lv_iinc (v := x3 + 1) (lv' := (kvI 3 (x3 + 1) (kvI 2 x3 (kvA 0 (a 0) (kvI 1 x1 kvE))))) hx hb (kdr dgX1_nextChosen_0 2 9 rfl rfl) hl (k := 3) rfl rfl (by decide) rfl (fun ls hl => ?_)
            refine lv_goto (tgt := 4) hx hb (kdr dgX1_nextChosen_0 3 0 rfl rfl) (by decide) ?_
            exact ih ce fr un sb se so sc wb we wo wc fb fe fo fc rm ac rf kn x1 x3 (x3 + 1) _ _ hP hD hS ls (lv_sub hl [2, 3, 1, 0] rfl) h
          · have h := g_f c5 h
            refine lv_aload_n hx hb (kdr dgX1_nextChosen_0 1 7 rfl rfl) rfl (lv_at hl 0 rfl) ?_
            refine va_get (D := (dC, dI)) (ci := 3) (v := .ref (a 6)) (C := RX1) (T := TX1) (N := 10) hx hb hts hiX1 hown hK hP 0 rfl rfl 4 (by decide) hw0 (fun _ h9 => h9) rfl (kdr dgX1_nextChosen_0 1 8 rfl rfl) ?_
            refine lv_iload_n hx hb (kdr dgX1_nextChosen_0 1 9 rfl rfl) rfl (lv_at hl 3 rfl) ?_
            obtain ⟨r6, g6, h⟩ := g_b h
            refine kq_l (wSB cI cJ cZ a ce fr un sb se so sc wb we wo wc fb fe fo fc rm ac rf kn) (fun qP qD qF => va_runV (As := [.int x3]) (rest := []) ⟨hx, hb, hml, hown, hts⟩ (c_X0_end l dC dI cB cI cJ cZ (a 6) (a 7) (a 8) (a 9) _ wb we wo wc x3 r6 g6) (kcwV hts kw_194 kv_X0_end rfl rfl ⟨(Nat.le_of_ble_eq_true rfl), (Nat.le_of_ble_eq_true rfl)⟩) (kpV (A := A) qP hK qD hG (krecv_2 (q0 := 6) hK hP rfl)) rfl rfl hl.1 rfl (lv_room (Nat.le_of_ble_eq_true rfl)) (kdr dgX1_nextChosen_0 2 0 rfl rfl) ⟨(Nat.le_of_ble_eq_true rfl), (Nat.le_of_ble_eq_true rfl)⟩) hP hD hS hA kFr_SBw (fun H locs hP hD hS => ?_)
            refine lv_aload_n hx hb (kdr dgX1_nextChosen_0 2 1 rfl rfl) rfl (lv_at hl 0 rfl) ?_
            refine va_get (D := (dC, dI)) (ci := 3) (v := .ref (a 6)) (C := RX1) (T := TX1) (N := 10) hx hb hts hiX1 hown hK hP 0 rfl rfl 4 (by decide) hw0 (fun _ h9 => h9) rfl (kdr dgX1_nextChosen_0 2 2 rfl rfl) ?_
            refine lv_iload_n hx hb (kdr dgX1_nextChosen_0 2 3 rfl rfl) rfl (lv_at hl 2 rfl) ?_
            obtain ⟨r7, g7, h⟩ := g_b h
            refine kq_l (wSB cI cJ cZ a ce fr un sb se so sc wb we wo wc fb fe fo fc rm ac rf kn) (fun qP qD qF => va_runV (As := [.int x2]) (rest := [.long r6]) ⟨hx, hb, hml, hown, hts⟩ (c_X0_end l dC dI cB cI cJ cZ (a 6) (a 7) (a 8) (a 9) _ wb we wo wc x2 r7 g7) (kcwV hts kw_194 kv_X0_end rfl rfl ⟨(Nat.le_of_ble_eq_true rfl), (Nat.le_of_ble_eq_true rfl)⟩) (kpV (A := A) qP hK qD hG (krecv_2 (q0 := 6) hK hP rfl)) rfl rfl hl.1 rfl (lv_room (Nat.le_of_ble_eq_true rfl)) (kdr dgX1_nextChosen_0 2 4 rfl rfl) ⟨(Nat.le_of_ble_eq_true rfl), (Nat.le_of_ble_eq_true rfl)⟩) hP hD hS hA kFr_SBw (fun H locs hP hD hS => ?_)
            refine kl_ge (pc := 45) (tgt := 51) hx hb (kdr dgX1_nextChosen_0 2 5 rfl rfl) (kdr dgX1_nextChosen_0 2 6 rfl rfl) (by decide) (fun c8 => ?_) (fun c8 => ?_)
            · have h := g_t c8 h
              refine lv_iinc (v := x3 + 1) (lv' := (kvI 3 (x3 + 1) (kvA 0 (a 0) (kvI 1 x1 (kvI 2 x2 kvE))))) hx hb (kdr dgX1_nextChosen_0 2 9 rfl rfl) hl (k := 3) rfl rfl (by decide) rfl (fun ls hl => ?_)
              refine lv_goto (tgt := 4) hx hb (kdr dgX1_nextChosen_0 3 0 rfl rfl) (by decide) ?_
              exact ih ce fr un sb se so sc wb we wo wc fb fe fo fc rm ac rf kn x1 x2 (x3 + 1) _ _ hP hD hS ls (lv_sub hl [1, 2, 3, 0] rfl) h
            · have h := g_f c8 h
              refine lv_iload_n hx hb (kdr dgX1_nextChosen_0 2 7 rfl rfl) rfl (lv_at hl 3 rfl) ?_
              refine lv_istore_n (lv' := (kvI 2 x3 (kvA 0 (a 0) (kvI 1 x1 (kvI 3 x3 kvE))))) hx hb (kdr dgX1_nextChosen_0 2 8 rfl rfl) rfl hl (by decide) rfl (fun ls hl => ?_)
              refine lv_iinc (v := x3 + 1) (lv' := (kvI 3 (x3 + 1) (kvI 2 x3 (kvA 0 (a 0) (kvI 1 x1 kvE))))) hx hb (kdr dgX1_nextChosen_0 2 9 rfl rfl) hl (k := 3) rfl rfl (by decide) rfl (fun ls hl => ?_)
              refine lv_goto (tgt := 4) hx hb (kdr dgX1_nextChosen_0 3 0 rfl rfl) (by decide) ?_
              exact ih ce fr un sb se so sc wb we wo wc fb fe fo fc rm ac rf kn x1 x3 (x3 + 1) _ _ hP hD hS ls (lv_sub hl [2, 3, 1, 0] rfl) h
  have h := f_X1_nextChosen_e.symm.trans hf
  refine lv_iconst (v := (-1)) hx hb (kdr dgX1_nextChosen_0 0 0 rfl rfl) (by decide) ?_
  refine lv_istore_n (lv' := (kvI 2 (-1) (kvA 0 (a 0) (kvI 1 p0 kvE)))) hx hb (kdr dgX1_nextChosen_0 0 1 rfl rfl) rfl hl (by decide) rfl (fun ls hl => ?_)
  refine lv_iconst (v := 0) hx hb (kdr dgX1_nextChosen_0 0 2 rfl rfl) (by decide) ?_
  refine lv_istore_n (lv' := (kvI 3 0 (kvI 2 (-1) (kvA 0 (a 0) (kvI 1 p0 kvE))))) hx hb (kdr dgX1_nextChosen_0 0 3 rfl rfl) rfl hl (by decide) rfl (fun ls hl => ?_)
  exact J4 24 ce fr un sb se so sc wb we wo wc fb fe fo fc rm ac rf kn p0 (-1) 0 _ _ hP hD hS ls (lv_sub hl [2, 3, 1, 0] rfl) h
noncomputable abbrev wsX1_mostOfAllSets : List Cond := kWs yX1_mostOfAllSets cX1_mostOfAllSets 5 (some .int)
noncomputable def f_X1_mostOfAllSets_9 : Nat → (Nat → Int64) → (Nat → Int64) → (Int32) → (Int32) → (Int32) → (Int32) → Option (Int32)
  | 0, _, _, _, _, _, _ => none
  | n + 1, wb, we, wc, x1, x2, x3 =>
    if x2 < x3 then
      some x1
    else
      (f_J6_bitCount_0f7a4 x3).bind fun r2 =>
      if r2 ≤ x1 then
        f_X1_mostOfAllSets_9 n wb we wc x1 x2 (x3 + 1)
      else
        (f_X1_isWithoutMeeting wb we wc x3).bind fun r4 =>
        if r4 = 0 then
          f_X1_mostOfAllSets_9 n wb we wc x1 x2 (x3 + 1)
        else
          f_X1_mostOfAllSets_9 n wb we wc r2 x2 (x3 + 1)
theorem f_X1_mostOfAllSets_9_0 {wb : Nat → Int64} {we : Nat → Int64} {wc : Int32} {x1 : Int32} {x2 : Int32} {x3 : Int32} : f_X1_mostOfAllSets_9 0 wb we wc x1 x2 x3 = none := rfl
theorem f_X1_mostOfAllSets_9_s {n : Nat} {wb : Nat → Int64} {we : Nat → Int64} {wc : Int32} {x1 : Int32} {x2 : Int32} {x3 : Int32} : f_X1_mostOfAllSets_9 (n + 1) wb we wc x1 x2 x3 =
  if x2 < x3 then
    some x1
  else
    (f_J6_bitCount_0f7a4 x3).bind fun r2 =>
    if r2 ≤ x1 then
      f_X1_mostOfAllSets_9 n wb we wc x1 x2 (x3 + 1)
    else
      (f_X1_isWithoutMeeting wb we wc x3).bind fun r4 =>
      if r4 = 0 then
        f_X1_mostOfAllSets_9 n wb we wc x1 x2 (x3 + 1)
      else
        f_X1_mostOfAllSets_9 n wb we wc r2 x2 (x3 + 1) := rfl
noncomputable def f_X1_mostOfAllSets (wb : Nat → Int64) (we : Nat → Int64) (wc : Int32) : Option (Int32) :=
  (f_X1_setOfAllWishes wc).bind fun r1 =>
  f_X1_mostOfAllSets_9 300 wb we wc 0 r1 0
theorem f_X1_mostOfAllSets_e {wb : Nat → Int64} {we : Nat → Int64} {wc : Int32} : f_X1_mostOfAllSets wb we wc = 
  (f_X1_setOfAllWishes wc).bind fun r1 =>
  f_X1_mostOfAllSets_9 300 wb we wc 0 r1 0 := rfl
set_option maxHeartbeats 4000000 in
set_option maxRecDepth 100000 in
theorem c_X1_mostOfAllSets (l : Launch) (dC : Nat → ClassId) (dI : Nat → Nat → Nat) (cB cI cJ cZ : ClassId) (a : Nat → Nat) (sz : Nat) (ce : Nat → Int64) (fr : Int64) (un : Int64) (sb : Nat → Int64) (se : Nat → Int64) (so : Nat → Int32) (sc : Int32) (wb : Nat → Int64) (we : Nat → Int64) (wo : Nat → Int32) (wc : Int32) (fb : Nat → Int64) (fe : Nat → Int64) (fo : Nat → Int32) (fc : Int32) (rm : Nat → Int32) (ac : Int32) (rf : Int32) (kn : Int32) (res : Int32) (hf : f_X1_mostOfAllSets wb we wc = some res) : kMi l yX1_mostOfAllSets wsX1_mostOfAllSets (kRm 3 0 0 68) dC dI cB cI cJ cZ [.ref (a 0)] sz (wSB cI cJ cZ a ce fr un sb se so sc wb we wo wc fb fe fo fc rm ac rf kn) .int (res) (wSB cI cJ cZ a ce fr un sb se so sc wb we wo wc fb fe fo fc rm ac rf kn) 0 0 := by
  refine kmet_i (y := yX1_mostOfAllSets) (cc := cX1_mostOfAllSets) (maxL := 5) (ret := (some .int)) RX1 (kvA 0 (a 0) kvE) kpl_X1 rfl rfl (Nat.le_of_ble_eq_true rfl) rfl (fun p e s m below meth c A ls hx hb hr hml hts hown hlocks hP hK hG hD hA hS hl => ?_)
  have J9 : ∀ (n : Nat), ∀ (ce : Nat → Int64) (fr : Int64) (un : Int64) (sb : Nat → Int64) (se : Nat → Int64) (so : Nat → Int32) (sc : Int32) (wb : Nat → Int64) (we : Nat → Int64) (wo : Nat → Int32) (wc : Int32) (fb : Nat → Int64) (fe : Nat → Int64) (fo : Nat → Int32) (fc : Int32) (rm : Nat → Int32) (ac : Int32) (rf : Int32) (kn : Int32) (x1 : Int32) (x2 : Int32) (x3 : Int32) (H : Heap) (locs : List Loc), va_P (dC, dI) vwCl (wSB cI cJ cZ a ce fr un sb se so sc wb we wo wc fb fe fo fc rm ac rf kn) H → va_D A (wSB cI cJ cZ a ce fr un sb se so sc wb we wo wc fb fe fo fc rm ac rf kn) → va_S A s.heap H locs → ∀ (ls : Array Slot), lv_has ls 5 (kvA 0 (a 0) (kvI 1 x1 (kvI 2 x2 (kvI 3 x3 kvE)))) → f_X1_mostOfAllSets_9 n wb we wc x1 x2 x3 = some res → W p l e (headSpec wsX1_mostOfAllSets (kRm 3 0 0 68)).room s m ([.ref (a 0)] : List Value).toArray below meth c H locs 0 0 (MQ below (kI (dC, dI) .int (res) (wSB cI cJ cZ a ce fr un sb se so sc wb we wo wc fb fe fo fc rm ac rf kn) A) ([.ref (a 0)] : List Value).toArray s 0 0 A) (F0 m 9 ls []) := by
    intro n
    induction n with
    | zero =>
      intro ce fr un sb se so sc wb we wo wc fb fe fo fc rm ac rf kn x1 x2 x3 H locs hP hD hS ls hl h
      have h := f_X1_mostOfAllSets_9_0.symm.trans h
      cases h
    | succ n ih =>
      intro ce fr un sb se so sc wb we wo wc fb fe fo fc rm ac rf kn x1 x2 x3 H locs hP hD hS ls hl h
      have h := f_X1_mostOfAllSets_9_s.symm.trans h
      refine lv_iload_n hx hb (kdr dgX1_mostOfAllSets_0 0 7 rfl rfl) rfl (lv_at hl 3 rfl) ?_
      refine lv_iload_n hx hb (kdr dgX1_mostOfAllSets_0 0 8 rfl rfl) rfl (lv_at hl 2 rfl) ?_
      refine lv_icmp_gt (tgt := 43) hx hb (kdr dgX1_mostOfAllSets_0 0 9 rfl rfl) (by decide) (fun c1 => ?_) (fun c1 => ?_)
      · have h := g_t c1 h
        refine lv_iload_n hx hb (kdr dgX1_mostOfAllSets_0 2 4 rfl rfl) rfl (lv_at hl 1 rfl) ?_
        have h := Option.some.inj h
        subst h
        exact kret_i (v := x1) hx hb hr rfl hlocks hS hP (kdr dgX1_mostOfAllSets_0 2 5 rfl rfl)
      · have h := g_f c1 h
        refine lv_iload_n hx hb (kdr dgX1_mostOfAllSets_0 1 0 rfl rfl) rfl (lv_at hl 3 rfl) ?_
        obtain ⟨r2, g2, h⟩ := g_b h
        refine kq_i (wSB cI cJ cZ a ce fr un sb se so sc wb we wo wc fb fe fo fc rm ac rf kn) (fun qP qD qF => va_runS (As := [.int x3]) (rest := []) ⟨hx, hb, hml, hown, hts⟩ (c_J6_bitCount_0f7a4 l dC dI cB cI cJ cZ  _  x3 r2 g2) (kcwS hts kw_305 kv_J6_bitCount_0f7a4 rfl rfl ⟨(Nat.le_of_ble_eq_true rfl), (Nat.le_of_ble_eq_true rfl)⟩) (kpS (A := A) (kPnil) hK ((kDnil (A := A))) hG) rfl rfl hl.1 rfl (lv_room (Nat.le_of_ble_eq_true rfl)) (kdr dgX1_mostOfAllSets_0 1 1 rfl rfl) ⟨(Nat.le_of_ble_eq_true rfl), (Nat.le_of_ble_eq_true rfl)⟩) hP hD hS hA kFr_n (fun H locs hP hD hS br2 => ?_)
        refine lv_istore (lv' := (kvI 4 r2 (kvA 0 (a 0) (kvI 1 x1 (kvI 2 x2 (kvI 3 x3 kvE)))))) hx hb (kdr dgX1_mostOfAllSets_0 1 2 rfl rfl) hl (by decide) rfl (fun ls hl => ?_)
        refine lv_iload hx hb (kdr dgX1_mostOfAllSets_0 1 3 rfl rfl) (lv_at hl 0 rfl) ?_
        refine lv_iload_n hx hb (kdr dgX1_mostOfAllSets_0 1 4 rfl rfl) rfl (lv_at hl 2 rfl) ?_
        refine lv_icmp_le (tgt := 37) hx hb (kdr dgX1_mostOfAllSets_0 1 5 rfl rfl) (by decide) (fun c3 => ?_) (fun c3 => ?_)
        · have h := g_t c3 h
          refine lv_iinc (v := x3 + 1) (lv' := (kvI 3 (x3 + 1) (kvI 4 r2 (kvA 0 (a 0) (kvI 1 x1 (kvI 2 x2 kvE)))))) hx hb (kdr dgX1_mostOfAllSets_0 2 2 rfl rfl) hl (k := 4) rfl rfl (by decide) rfl (fun ls hl => ?_)
          refine lv_goto (tgt := 9) hx hb (kdr dgX1_mostOfAllSets_0 2 3 rfl rfl) (by decide) ?_
          exact ih ce fr un sb se so sc wb we wo wc fb fe fo fc rm ac rf kn x1 x2 (x3 + 1) _ _ hP hD hS ls (lv_sub hl [2, 3, 4, 0] rfl) h
        · have h := g_f c3 h
          refine lv_aload_n hx hb (kdr dgX1_mostOfAllSets_0 1 6 rfl rfl) rfl (lv_at hl 1 rfl) ?_
          refine lv_iload_n hx hb (kdr dgX1_mostOfAllSets_0 1 7 rfl rfl) rfl (lv_at hl 4 rfl) ?_
          obtain ⟨r4, g4, h⟩ := g_b h
          refine kq_i (wSB cI cJ cZ a ce fr un sb se so sc wb we wo wc fb fe fo fc rm ac rf kn) (fun qP qD qF => va_runV (As := [.int x3]) (rest := []) ⟨hx, hb, hml, hown, hts⟩ (c_X1_isWithoutMeeting l dC dI cB cI cJ cZ a _ ce fr un sb se so sc wb we wo wc fb fe fo fc rm ac rf kn x3 r4 g4) (kcwV hts kw_301 kv_X1_isWithoutMeeting rfl rfl ⟨(Nat.le_of_ble_eq_true rfl), (Nat.le_of_ble_eq_true rfl)⟩) (kpV (A := A) qP hK qD hG (krecv_3 (q0 := 0) hK hP rfl)) rfl rfl hl.1 rfl (lv_room (Nat.le_of_ble_eq_true rfl)) (kdr dgX1_mostOfAllSets_0 1 8 rfl rfl) ⟨(Nat.le_of_ble_eq_true rfl), (Nat.le_of_ble_eq_true rfl)⟩) hP hD hS hA kFr_SB (fun H locs hP hD hS br4 => ?_)
          refine lv_if_eq (tgt := 37) hx hb (kdr dgX1_mostOfAllSets_0 1 9 rfl rfl) (by decide) (fun c5 => ?_) (fun c5 => ?_)
          · have h := g_t c5 h
            refine lv_iinc (v := x3 + 1) (lv' := (kvI 3 (x3 + 1) (kvI 4 r2 (kvA 0 (a 0) (kvI 1 x1 (kvI 2 x2 kvE)))))) hx hb (kdr dgX1_mostOfAllSets_0 2 2 rfl rfl) hl (k := 4) rfl rfl (by decide) rfl (fun ls hl => ?_)
            refine lv_goto (tgt := 9) hx hb (kdr dgX1_mostOfAllSets_0 2 3 rfl rfl) (by decide) ?_
            exact ih ce fr un sb se so sc wb we wo wc fb fe fo fc rm ac rf kn x1 x2 (x3 + 1) _ _ hP hD hS ls (lv_sub hl [2, 3, 4, 0] rfl) h
          · have h := g_f c5 h
            refine lv_iload hx hb (kdr dgX1_mostOfAllSets_0 2 0 rfl rfl) (lv_at hl 0 rfl) ?_
            refine lv_istore_n (lv' := (kvI 1 r2 (kvI 4 r2 (kvA 0 (a 0) (kvI 2 x2 (kvI 3 x3 kvE)))))) hx hb (kdr dgX1_mostOfAllSets_0 2 1 rfl rfl) rfl hl (by decide) rfl (fun ls hl => ?_)
            refine lv_iinc (v := x3 + 1) (lv' := (kvI 3 (x3 + 1) (kvI 1 r2 (kvI 4 r2 (kvA 0 (a 0) (kvI 2 x2 kvE)))))) hx hb (kdr dgX1_mostOfAllSets_0 2 2 rfl rfl) hl (k := 4) rfl rfl (by decide) rfl (fun ls hl => ?_)
            refine lv_goto (tgt := 9) hx hb (kdr dgX1_mostOfAllSets_0 2 3 rfl rfl) (by decide) ?_
            exact ih ce fr un sb se so sc wb we wo wc fb fe fo fc rm ac rf kn r2 x2 (x3 + 1) _ _ hP hD hS ls (lv_sub hl [3, 1, 4, 0] rfl) h
  have h := f_X1_mostOfAllSets_e.symm.trans hf
  refine lv_iconst (v := 0) hx hb (kdr dgX1_mostOfAllSets_0 0 0 rfl rfl) (by decide) ?_
  refine lv_istore_n (lv' := (kvI 1 0 (kvA 0 (a 0) kvE))) hx hb (kdr dgX1_mostOfAllSets_0 0 1 rfl rfl) rfl hl (by decide) rfl (fun ls hl => ?_)
  refine lv_aload_n hx hb (kdr dgX1_mostOfAllSets_0 0 2 rfl rfl) rfl (lv_at hl 1 rfl) ?_
  obtain ⟨r1, g1, h⟩ := g_b h
  refine kq_i (wSB cI cJ cZ a ce fr un sb se so sc wb we wo wc fb fe fo fc rm ac rf kn) (fun qP qD qF => va_runV (As := []) (rest := []) ⟨hx, hb, hml, hown, hts⟩ (c_X1_setOfAllWishes l dC dI cB cI cJ cZ a _ ce fr un sb se so sc wb we wo wc fb fe fo fc rm ac rf kn  r1 g1) (kcwV hts kw_315 kv_X1_setOfAllWishes rfl rfl ⟨(Nat.le_of_ble_eq_true rfl), (Nat.le_of_ble_eq_true rfl)⟩) (kpV (A := A) qP hK qD hG (krecv_3 (q0 := 0) hK hP rfl)) rfl rfl hl.1 rfl (lv_room (Nat.le_of_ble_eq_true rfl)) (kdr dgX1_mostOfAllSets_0 0 3 rfl rfl) ⟨(Nat.le_of_ble_eq_true rfl), (Nat.le_of_ble_eq_true rfl)⟩) hP hD hS hA kFr_SB (fun H locs hP hD hS br1 => ?_)
  refine lv_istore_n (lv' := (kvI 2 r1 (kvI 1 0 (kvA 0 (a 0) kvE)))) hx hb (kdr dgX1_mostOfAllSets_0 0 4 rfl rfl) rfl hl (by decide) rfl (fun ls hl => ?_)
  refine lv_iconst (v := 0) hx hb (kdr dgX1_mostOfAllSets_0 0 5 rfl rfl) (by decide) ?_
  refine lv_istore_n (lv' := (kvI 3 0 (kvI 2 r1 (kvI 1 0 (kvA 0 (a 0) kvE))))) hx hb (kdr dgX1_mostOfAllSets_0 0 6 rfl rfl) rfl hl (by decide) rfl (fun ls hl => ?_)
  exact J9 300 ce fr un sb se so sc wb we wo wc fb fe fo fc rm ac rf kn 0 r1 0 _ _ hP hD hS ls (lv_sub hl [3, 2, 1, 0] rfl) h
noncomputable abbrev wsX1_firstWithoutRoom : List Cond := kWs yX1_firstWithoutRoom cX1_firstWithoutRoom 3 (some .int)
noncomputable def f_X1_firstWithoutRoom_4 : Nat → (Nat → Int64) → (Int32) → (Nat → Int32) → (Int32) → (Int32) → Option (Int32)
  | 0, _, _, _, _, _ => none
  | n + 1, wb, wc, rm, x1, x2 =>
    (f_X0_count wc).bind fun r1 =>
    if r1 ≤ x2 then
      some x1
    else
      if ix x2 11 then
        if (rm x2.toNatClampNeg) = (-1) then
          if x1 = (-1) then
            f_X1_firstWithoutRoom_4 n wb wc rm x2 (x2 + 1)
          else
            (f_X0_begin wb wc x2).bind fun r6 =>
            (f_X0_begin wb wc x1).bind fun r7 =>
            if r7 ≤ r6 then
              f_X1_firstWithoutRoom_4 n wb wc rm x1 (x2 + 1)
            else
              f_X1_firstWithoutRoom_4 n wb wc rm x2 (x2 + 1)
        else
          f_X1_firstWithoutRoom_4 n wb wc rm x1 (x2 + 1)
      else none
theorem f_X1_firstWithoutRoom_4_0 {wb : Nat → Int64} {wc : Int32} {rm : Nat → Int32} {x1 : Int32} {x2 : Int32} : f_X1_firstWithoutRoom_4 0 wb wc rm x1 x2 = none := rfl
theorem f_X1_firstWithoutRoom_4_s {n : Nat} {wb : Nat → Int64} {wc : Int32} {rm : Nat → Int32} {x1 : Int32} {x2 : Int32} : f_X1_firstWithoutRoom_4 (n + 1) wb wc rm x1 x2 =
  (f_X0_count wc).bind fun r1 =>
  if r1 ≤ x2 then
    some x1
  else
    if ix x2 11 then
      if (rm x2.toNatClampNeg) = (-1) then
        if x1 = (-1) then
          f_X1_firstWithoutRoom_4 n wb wc rm x2 (x2 + 1)
        else
          (f_X0_begin wb wc x2).bind fun r6 =>
          (f_X0_begin wb wc x1).bind fun r7 =>
          if r7 ≤ r6 then
            f_X1_firstWithoutRoom_4 n wb wc rm x1 (x2 + 1)
          else
            f_X1_firstWithoutRoom_4 n wb wc rm x2 (x2 + 1)
      else
        f_X1_firstWithoutRoom_4 n wb wc rm x1 (x2 + 1)
    else none := rfl
noncomputable def f_X1_firstWithoutRoom (wb : Nat → Int64) (wc : Int32) (rm : Nat → Int32) : Option (Int32) :=
  f_X1_firstWithoutRoom_4 24 wb wc rm (-1) 0
theorem f_X1_firstWithoutRoom_e {wb : Nat → Int64} {wc : Int32} {rm : Nat → Int32} : f_X1_firstWithoutRoom wb wc rm = 
  f_X1_firstWithoutRoom_4 24 wb wc rm (-1) 0 := rfl
set_option maxHeartbeats 4000000 in
set_option maxRecDepth 100000 in
theorem c_X1_firstWithoutRoom (l : Launch) (dC : Nat → ClassId) (dI : Nat → Nat → Nat) (cB cI cJ cZ : ClassId) (a : Nat → Nat) (sz : Nat) (ce : Nat → Int64) (fr : Int64) (un : Int64) (sb : Nat → Int64) (se : Nat → Int64) (so : Nat → Int32) (sc : Int32) (wb : Nat → Int64) (we : Nat → Int64) (wo : Nat → Int32) (wc : Int32) (fb : Nat → Int64) (fe : Nat → Int64) (fo : Nat → Int32) (fc : Int32) (rm : Nat → Int32) (ac : Int32) (rf : Int32) (kn : Int32) (res : Int32) (hf : f_X1_firstWithoutRoom wb wc rm = some res) : kMi l yX1_firstWithoutRoom wsX1_firstWithoutRoom (kRm 2 0 0 42) dC dI cB cI cJ cZ [.ref (a 0)] sz (wSB cI cJ cZ a ce fr un sb se so sc wb we wo wc fb fe fo fc rm ac rf kn) .int (res) (wSB cI cJ cZ a ce fr un sb se so sc wb we wo wc fb fe fo fc rm ac rf kn) 0 0 := by
  refine kmet_i (y := yX1_firstWithoutRoom) (cc := cX1_firstWithoutRoom) (maxL := 3) (ret := (some .int)) RX1 (kvA 0 (a 0) kvE) kpl_X1 rfl rfl (Nat.le_of_ble_eq_true rfl) rfl (fun p e s m below meth c A ls hx hb hr hml hts hown hlocks hP hK hG hD hA hS hl => ?_)
  have hw0 := hts (.fieldLink RX1 29 "Spanbooker" "wishRow" "LSpanbooker$Row;") (List.mem_cons_of_mem _ kw_111)
  have hw1 := hts (.fieldLink RX1 35 "Spanbooker" "roomOf" "[I") (List.mem_cons_of_mem _ kw_113)
  have hiX1 : ∀ w ∈ u_ws RX1 TX1 10, w ∈ wsX1_firstWithoutRoom := fun w h => List.mem_cons_of_mem _ (ku_X1 w h)
  have J4 : ∀ (n : Nat), ∀ (ce : Nat → Int64) (fr : Int64) (un : Int64) (sb : Nat → Int64) (se : Nat → Int64) (so : Nat → Int32) (sc : Int32) (wb : Nat → Int64) (we : Nat → Int64) (wo : Nat → Int32) (wc : Int32) (fb : Nat → Int64) (fe : Nat → Int64) (fo : Nat → Int32) (fc : Int32) (rm : Nat → Int32) (ac : Int32) (rf : Int32) (kn : Int32) (x1 : Int32) (x2 : Int32) (H : Heap) (locs : List Loc), va_P (dC, dI) vwCl (wSB cI cJ cZ a ce fr un sb se so sc wb we wo wc fb fe fo fc rm ac rf kn) H → va_D A (wSB cI cJ cZ a ce fr un sb se so sc wb we wo wc fb fe fo fc rm ac rf kn) → va_S A s.heap H locs → ∀ (ls : Array Slot), lv_has ls 3 (kvA 0 (a 0) (kvI 1 x1 (kvI 2 x2 kvE))) → f_X1_firstWithoutRoom_4 n wb wc rm x1 x2 = some res → W p l e (headSpec wsX1_firstWithoutRoom (kRm 2 0 0 42)).room s m ([.ref (a 0)] : List Value).toArray below meth c H locs 0 0 (MQ below (kI (dC, dI) .int (res) (wSB cI cJ cZ a ce fr un sb se so sc wb we wo wc fb fe fo fc rm ac rf kn) A) ([.ref (a 0)] : List Value).toArray s 0 0 A) (F0 m 4 ls []) := by
    intro n
    induction n with
    | zero =>
      intro ce fr un sb se so sc wb we wo wc fb fe fo fc rm ac rf kn x1 x2 H locs hP hD hS ls hl h
      have h := f_X1_firstWithoutRoom_4_0.symm.trans h
      cases h
    | succ n ih =>
      intro ce fr un sb se so sc wb we wo wc fb fe fo fc rm ac rf kn x1 x2 H locs hP hD hS ls hl h
      have h := f_X1_firstWithoutRoom_4_s.symm.trans h
      refine lv_iload_n hx hb (kdr dgX1_firstWithoutRoom_0 0 4 rfl rfl) rfl (lv_at hl 2 rfl) ?_
      refine lv_aload_n hx hb (kdr dgX1_firstWithoutRoom_0 0 5 rfl rfl) rfl (lv_at hl 0 rfl) ?_
      refine va_get (D := (dC, dI)) (ci := 3) (v := .ref (a 6)) (C := RX1) (T := TX1) (N := 10) hx hb hts hiX1 hown hK hP 0 rfl rfl 4 (by decide) hw0 (fun _ h9 => h9) rfl (kdr dgX1_firstWithoutRoom_0 0 6 rfl rfl) ?_
      obtain ⟨r1, g1, h⟩ := g_b h
      refine kq_i (wSB cI cJ cZ a ce fr un sb se so sc wb we wo wc fb fe fo fc rm ac rf kn) (fun qP qD qF => va_runV (As := []) (rest := [.int x2]) ⟨hx, hb, hml, hown, hts⟩ (c_X0_count l dC dI cB cI cJ cZ (a 6) (a 7) (a 8) (a 9) _ wb we wo wc  r1 g1) (kcwV hts kw_155 kv_X0_count rfl rfl ⟨(Nat.le_of_ble_eq_true rfl), (Nat.le_of_ble_eq_true rfl)⟩) (kpV (A := A) qP hK qD hG (krecv_2 (q0 := 6) hK hP rfl)) rfl rfl hl.1 rfl (lv_room (Nat.le_of_ble_eq_true rfl)) (kdr dgX1_firstWithoutRoom_0 0 7 rfl rfl) ⟨(Nat.le_of_ble_eq_true rfl), (Nat.le_of_ble_eq_true rfl)⟩) hP hD hS hA kFr_SBw (fun H locs hP hD hS br1 => ?_)
      refine lv_icmp_ge (tgt := 58) hx hb (kdr dgX1_firstWithoutRoom_0 0 8 rfl rfl) (by decide) (fun c2 => ?_) (fun c2 => ?_)
      · have h := g_t c2 h
        refine lv_iload_n hx hb (kdr dgX1_firstWithoutRoom_0 3 2 rfl rfl) rfl (lv_at hl 1 rfl) ?_
        have h := Option.some.inj h
        subst h
        exact kret_i (v := x1) hx hb hr rfl hlocks hS hP (kdr dgX1_firstWithoutRoom_0 3 3 rfl rfl)
      · have h := g_f c2 h
        refine lv_aload_n hx hb (kdr dgX1_firstWithoutRoom_0 0 9 rfl rfl) rfl (lv_at hl 0 rfl) ?_
        refine va_get (D := (dC, dI)) (ci := 3) (v := .ref (a 14)) (C := RX1) (T := TX1) (N := 10) hx hb hts hiX1 hown hK hP 0 rfl rfl 6 (by decide) hw1 (fun _ h9 => h9) rfl (kdr dgX1_firstWithoutRoom_0 1 0 rfl rfl) ?_
        refine lv_iload_n hx hb (kdr dgX1_firstWithoutRoom_0 1 1 rfl rfl) rfl (lv_at hl 2 rfl) ?_
        obtain ⟨z2, h⟩ := g_if h
        refine va_iald hx hb hK hP 14 1 rfl rfl (ix_in z2) (kdr dgX1_firstWithoutRoom_0 1 2 rfl rfl) ?_
        refine lv_iconst (v := (-1)) hx hb (kdr dgX1_firstWithoutRoom_0 1 3 rfl rfl) (by decide) ?_
        refine lv_icmp_ne (tgt := 52) hx hb (kdr dgX1_firstWithoutRoom_0 1 4 rfl rfl) (by decide) (fun c4 => ?_) (fun c4 => ?_)
        · have h := g_f c4 h
          refine lv_iinc (v := x2 + 1) (lv' := (kvI 2 (x2 + 1) (kvA 0 (a 0) (kvI 1 x1 kvE)))) hx hb (kdr dgX1_firstWithoutRoom_0 3 0 rfl rfl) hl (k := 2) rfl rfl (by decide) rfl (fun ls hl => ?_)
          refine lv_goto (tgt := 4) hx hb (kdr dgX1_firstWithoutRoom_0 3 1 rfl rfl) (by decide) ?_
          exact ih ce fr un sb se so sc wb we wo wc fb fe fo fc rm ac rf kn x1 (x2 + 1) _ _ hP hD hS ls (lv_sub hl [1, 2, 0] rfl) h
        · have h := g_t c4 h
          refine lv_iload_n hx hb (kdr dgX1_firstWithoutRoom_0 1 5 rfl rfl) rfl (lv_at hl 1 rfl) ?_
          refine lv_iconst (v := (-1)) hx hb (kdr dgX1_firstWithoutRoom_0 1 6 rfl rfl) (by decide) ?_
          refine lv_icmp_eq (tgt := 50) hx hb (kdr dgX1_firstWithoutRoom_0 1 7 rfl rfl) (by decide) (fun c5 => ?_) (fun c5 => ?_)
          · have h := g_t c5 h
            refine lv_iload_n hx hb (kdr dgX1_firstWithoutRoom_0 2 8 rfl rfl) rfl (lv_at hl 2 rfl) ?_
            refine lv_istore_n (lv' := (kvI 1 x2 (kvA 0 (a 0) (kvI 2 x2 kvE)))) hx hb (kdr dgX1_firstWithoutRoom_0 2 9 rfl rfl) rfl hl (by decide) rfl (fun ls hl => ?_)
            refine lv_iinc (v := x2 + 1) (lv' := (kvI 2 (x2 + 1) (kvI 1 x2 (kvA 0 (a 0) kvE)))) hx hb (kdr dgX1_firstWithoutRoom_0 3 0 rfl rfl) hl (k := 2) rfl rfl (by decide) rfl (fun ls hl => ?_)
            refine lv_goto (tgt := 4) hx hb (kdr dgX1_firstWithoutRoom_0 3 1 rfl rfl) (by decide) ?_
            exact ih ce fr un sb se so sc wb we wo wc fb fe fo fc rm ac rf kn x2 (x2 + 1) _ _ hP hD hS ls (lv_sub hl [2, 1, 0] rfl) h
          · have h := g_f c5 h
            refine lv_aload_n hx hb (kdr dgX1_firstWithoutRoom_0 1 8 rfl rfl) rfl (lv_at hl 0 rfl) ?_
            refine va_get (D := (dC, dI)) (ci := 3) (v := .ref (a 6)) (C := RX1) (T := TX1) (N := 10) hx hb hts hiX1 hown hK hP 0 rfl rfl 4 (by decide) hw0 (fun _ h9 => h9) rfl (kdr dgX1_firstWithoutRoom_0 1 9 rfl rfl) ?_
            refine lv_iload_n hx hb (kdr dgX1_firstWithoutRoom_0 2 0 rfl rfl) rfl (lv_at hl 2 rfl) ?_
            obtain ⟨r6, g6, h⟩ := g_b h
            refine kq_l (wSB cI cJ cZ a ce fr un sb se so sc wb we wo wc fb fe fo fc rm ac rf kn) (fun qP qD qF => va_runV (As := [.int x2]) (rest := []) ⟨hx, hb, hml, hown, hts⟩ (c_X0_begin l dC dI cB cI cJ cZ (a 6) (a 7) (a 8) (a 9) _ wb we wo wc x2 r6 g6) (kcwV hts kw_251 kv_X0_begin rfl rfl ⟨(Nat.le_of_ble_eq_true rfl), (Nat.le_of_ble_eq_true rfl)⟩) (kpV (A := A) qP hK qD hG (krecv_2 (q0 := 6) hK hP rfl)) rfl rfl hl.1 rfl (lv_room (Nat.le_of_ble_eq_true rfl)) (kdr dgX1_firstWithoutRoom_0 2 1 rfl rfl) ⟨(Nat.le_of_ble_eq_true rfl), (Nat.le_of_ble_eq_true rfl)⟩) hP hD hS hA kFr_SBw (fun H locs hP hD hS => ?_)
            refine lv_aload_n hx hb (kdr dgX1_firstWithoutRoom_0 2 2 rfl rfl) rfl (lv_at hl 0 rfl) ?_
            refine va_get (D := (dC, dI)) (ci := 3) (v := .ref (a 6)) (C := RX1) (T := TX1) (N := 10) hx hb hts hiX1 hown hK hP 0 rfl rfl 4 (by decide) hw0 (fun _ h9 => h9) rfl (kdr dgX1_firstWithoutRoom_0 2 3 rfl rfl) ?_
            refine lv_iload_n hx hb (kdr dgX1_firstWithoutRoom_0 2 4 rfl rfl) rfl (lv_at hl 1 rfl) ?_
            obtain ⟨r7, g7, h⟩ := g_b h
            refine kq_l (wSB cI cJ cZ a ce fr un sb se so sc wb we wo wc fb fe fo fc rm ac rf kn) (fun qP qD qF => va_runV (As := [.int x1]) (rest := [.long r6]) ⟨hx, hb, hml, hown, hts⟩ (c_X0_begin l dC dI cB cI cJ cZ (a 6) (a 7) (a 8) (a 9) _ wb we wo wc x1 r7 g7) (kcwV hts kw_251 kv_X0_begin rfl rfl ⟨(Nat.le_of_ble_eq_true rfl), (Nat.le_of_ble_eq_true rfl)⟩) (kpV (A := A) qP hK qD hG (krecv_2 (q0 := 6) hK hP rfl)) rfl rfl hl.1 rfl (lv_room (Nat.le_of_ble_eq_true rfl)) (kdr dgX1_firstWithoutRoom_0 2 5 rfl rfl) ⟨(Nat.le_of_ble_eq_true rfl), (Nat.le_of_ble_eq_true rfl)⟩) hP hD hS hA kFr_SBw (fun H locs hP hD hS => ?_)
            refine kl_ge (pc := 46) (tgt := 52) hx hb (kdr dgX1_firstWithoutRoom_0 2 6 rfl rfl) (kdr dgX1_firstWithoutRoom_0 2 7 rfl rfl) (by decide) (fun c8 => ?_) (fun c8 => ?_)
            · have h := g_t c8 h
              refine lv_iinc (v := x2 + 1) (lv' := (kvI 2 (x2 + 1) (kvA 0 (a 0) (kvI 1 x1 kvE)))) hx hb (kdr dgX1_firstWithoutRoom_0 3 0 rfl rfl) hl (k := 2) rfl rfl (by decide) rfl (fun ls hl => ?_)
              refine lv_goto (tgt := 4) hx hb (kdr dgX1_firstWithoutRoom_0 3 1 rfl rfl) (by decide) ?_
              exact ih ce fr un sb se so sc wb we wo wc fb fe fo fc rm ac rf kn x1 (x2 + 1) _ _ hP hD hS ls (lv_sub hl [1, 2, 0] rfl) h
            · have h := g_f c8 h
              refine lv_iload_n hx hb (kdr dgX1_firstWithoutRoom_0 2 8 rfl rfl) rfl (lv_at hl 2 rfl) ?_
              refine lv_istore_n (lv' := (kvI 1 x2 (kvA 0 (a 0) (kvI 2 x2 kvE)))) hx hb (kdr dgX1_firstWithoutRoom_0 2 9 rfl rfl) rfl hl (by decide) rfl (fun ls hl => ?_)
              refine lv_iinc (v := x2 + 1) (lv' := (kvI 2 (x2 + 1) (kvI 1 x2 (kvA 0 (a 0) kvE)))) hx hb (kdr dgX1_firstWithoutRoom_0 3 0 rfl rfl) hl (k := 2) rfl rfl (by decide) rfl (fun ls hl => ?_)
              refine lv_goto (tgt := 4) hx hb (kdr dgX1_firstWithoutRoom_0 3 1 rfl rfl) (by decide) ?_
              exact ih ce fr un sb se so sc wb we wo wc fb fe fo fc rm ac rf kn x2 (x2 + 1) _ _ hP hD hS ls (lv_sub hl [2, 1, 0] rfl) h
  have h := f_X1_firstWithoutRoom_e.symm.trans hf
  refine lv_iconst (v := (-1)) hx hb (kdr dgX1_firstWithoutRoom_0 0 0 rfl rfl) (by decide) ?_
  refine lv_istore_n (lv' := (kvI 1 (-1) (kvA 0 (a 0) kvE))) hx hb (kdr dgX1_firstWithoutRoom_0 0 1 rfl rfl) rfl hl (by decide) rfl (fun ls hl => ?_)
  refine lv_iconst (v := 0) hx hb (kdr dgX1_firstWithoutRoom_0 0 2 rfl rfl) (by decide) ?_
  refine lv_istore_n (lv' := (kvI 2 0 (kvI 1 (-1) (kvA 0 (a 0) kvE)))) hx hb (kdr dgX1_firstWithoutRoom_0 0 3 rfl rfl) rfl hl (by decide) rfl (fun ls hl => ?_)
  exact J4 24 ce fr un sb se so sc wb we wo wc fb fe fo fc rm ac rf kn (-1) 0 _ _ hP hD hS ls (lv_sub hl [2, 1, 0] rfl) h
noncomputable abbrev wsX1_smallestRoom : List Cond := kWs yX1_smallestRoom cX1_smallestRoom 4 (some .int)
noncomputable def f_X1_smallestRoom_56 : Nat → (Int32) → (Int32) → Option (Int32)
  | 0, _, _ => none
  | n + 1, x2, x3 =>
    if 8 ≤ x3 then
      some x3
    else
      if ((x2 >>> (x3 &&& 31)) &&& 1) = 1 then
        f_X1_smallestRoom_56 n x2 (x3 + 1)
      else
        some x3
theorem f_X1_smallestRoom_56_0 {x2 : Int32} {x3 : Int32} : f_X1_smallestRoom_56 0 x2 x3 = none := rfl
theorem f_X1_smallestRoom_56_s {n : Nat} {x2 : Int32} {x3 : Int32} : f_X1_smallestRoom_56 (n + 1) x2 x3 =
  if 8 ≤ x3 then
    some x3
  else
    if ((x2 >>> (x3 &&& 31)) &&& 1) = 1 then
      f_X1_smallestRoom_56 n x2 (x3 + 1)
    else
      some x3 := rfl
noncomputable def f_X1_smallestRoom_4 : Nat → (Nat → Int64) → (Nat → Int64) → (Int32) → (Nat → Int32) → (Int32) → (Int32) → (Int32) → Option (Int32)
  | 0, _, _, _, _, _, _, _ => none
  | n + 1, wb, we, wc, rm, x1, x2, x3 =>
    (f_X0_count wc).bind fun r1 =>
    if r1 ≤ x3 then
      f_X1_smallestRoom_56 24 x2 0
    else
      if ix x3 11 then
        if (rm x3.toNatClampNeg) = (-1) then
          f_X1_smallestRoom_4 n wb we wc rm x1 x2 (x3 + 1)
        else
          (f_X0_doMeet wb we wc x1 x3).bind fun r5 =>
          if r5 = 0 then
            f_X1_smallestRoom_4 n wb we wc rm x1 x2 (x3 + 1)
          else
            f_X1_smallestRoom_4 n wb we wc rm x1 (x2 ||| (1 <<< ((rm x3.toNatClampNeg) &&& 31))) (x3 + 1)
      else none
theorem f_X1_smallestRoom_4_0 {wb : Nat → Int64} {we : Nat → Int64} {wc : Int32} {rm : Nat → Int32} {x1 : Int32} {x2 : Int32} {x3 : Int32} : f_X1_smallestRoom_4 0 wb we wc rm x1 x2 x3 = none := rfl
theorem f_X1_smallestRoom_4_s {n : Nat} {wb : Nat → Int64} {we : Nat → Int64} {wc : Int32} {rm : Nat → Int32} {x1 : Int32} {x2 : Int32} {x3 : Int32} : f_X1_smallestRoom_4 (n + 1) wb we wc rm x1 x2 x3 =
  (f_X0_count wc).bind fun r1 =>
  if r1 ≤ x3 then
    f_X1_smallestRoom_56 24 x2 0
  else
    if ix x3 11 then
      if (rm x3.toNatClampNeg) = (-1) then
        f_X1_smallestRoom_4 n wb we wc rm x1 x2 (x3 + 1)
      else
        (f_X0_doMeet wb we wc x1 x3).bind fun r5 =>
        if r5 = 0 then
          f_X1_smallestRoom_4 n wb we wc rm x1 x2 (x3 + 1)
        else
          f_X1_smallestRoom_4 n wb we wc rm x1 (x2 ||| (1 <<< ((rm x3.toNatClampNeg) &&& 31))) (x3 + 1)
    else none := rfl
noncomputable def f_X1_smallestRoom (wb : Nat → Int64) (we : Nat → Int64) (wc : Int32) (rm : Nat → Int32) (p0 : Int32) : Option (Int32) :=
  f_X1_smallestRoom_4 24 wb we wc rm p0 0 0
theorem f_X1_smallestRoom_e {wb : Nat → Int64} {we : Nat → Int64} {wc : Int32} {rm : Nat → Int32} {p0 : Int32} : f_X1_smallestRoom wb we wc rm p0 = 
  f_X1_smallestRoom_4 24 wb we wc rm p0 0 0 := rfl
set_option maxHeartbeats 4000000 in
set_option maxRecDepth 100000 in
theorem c_X1_smallestRoom (l : Launch) (dC : Nat → ClassId) (dI : Nat → Nat → Nat) (cB cI cJ cZ : ClassId) (a : Nat → Nat) (sz : Nat) (ce : Nat → Int64) (fr : Int64) (un : Int64) (sb : Nat → Int64) (se : Nat → Int64) (so : Nat → Int32) (sc : Int32) (wb : Nat → Int64) (we : Nat → Int64) (wo : Nat → Int32) (wc : Int32) (fb : Nat → Int64) (fe : Nat → Int64) (fo : Nat → Int32) (fc : Int32) (rm : Nat → Int32) (ac : Int32) (rf : Int32) (kn : Int32) (p0 : Int32) (res : Int32) (hf : f_X1_smallestRoom wb we wc rm p0 = some res) : kMi l yX1_smallestRoom wsX1_smallestRoom (kRm 1 0 0 22) dC dI cB cI cJ cZ [.ref (a 0), .int p0] sz (wSB cI cJ cZ a ce fr un sb se so sc wb we wo wc fb fe fo fc rm ac rf kn) .int (res) (wSB cI cJ cZ a ce fr un sb se so sc wb we wo wc fb fe fo fc rm ac rf kn) 0 0 := by
  refine kmet_i (y := yX1_smallestRoom) (cc := cX1_smallestRoom) (maxL := 4) (ret := (some .int)) RX1 (kvA 0 (a 0) (kvI 1 p0 kvE)) kpl_X1 rfl rfl (Nat.le_of_ble_eq_true rfl) rfl (fun p e s m below meth c A ls hx hb hr hml hts hown hlocks hP hK hG hD hA hS hl => ?_)
  have hw0 := hts (.fieldLink RX1 29 "Spanbooker" "wishRow" "LSpanbooker$Row;") (List.mem_cons_of_mem _ kw_111)
  have hw1 := hts (.fieldLink RX1 35 "Spanbooker" "roomOf" "[I") (List.mem_cons_of_mem _ kw_113)
  have hiX1 : ∀ w ∈ u_ws RX1 TX1 10, w ∈ wsX1_smallestRoom := fun w h => List.mem_cons_of_mem _ (ku_X1 w h)
  have J56 : ∀ (n : Nat), ∀ (ce : Nat → Int64) (fr : Int64) (un : Int64) (sb : Nat → Int64) (se : Nat → Int64) (so : Nat → Int32) (sc : Int32) (wb : Nat → Int64) (we : Nat → Int64) (wo : Nat → Int32) (wc : Int32) (fb : Nat → Int64) (fe : Nat → Int64) (fo : Nat → Int32) (fc : Int32) (rm : Nat → Int32) (ac : Int32) (rf : Int32) (kn : Int32) (x2 : Int32) (x3 : Int32) (H : Heap) (locs : List Loc), va_P (dC, dI) vwCl (wSB cI cJ cZ a ce fr un sb se so sc wb we wo wc fb fe fo fc rm ac rf kn) H → va_D A (wSB cI cJ cZ a ce fr un sb se so sc wb we wo wc fb fe fo fc rm ac rf kn) → va_S A s.heap H locs → ∀ (ls : Array Slot), lv_has ls 4 (kvI 2 x2 (kvI 3 x3 kvE)) → f_X1_smallestRoom_56 n x2 x3 = some res → W p l e (headSpec wsX1_smallestRoom (kRm 1 0 0 22)).room s m ([.ref (a 0), .int p0] : List Value).toArray below meth c H locs 0 0 (MQ below (kI (dC, dI) .int (res) (wSB cI cJ cZ a ce fr un sb se so sc wb we wo wc fb fe fo fc rm ac rf kn) A) ([.ref (a 0), .int p0] : List Value).toArray s 0 0 A) (F0 m 56 ls []) := by
    intro n
    induction n with
    | zero =>
      intro ce fr un sb se so sc wb we wo wc fb fe fo fc rm ac rf kn x2 x3 H locs hP hD hS ls hl h
      have h := f_X1_smallestRoom_56_0.symm.trans h
      cases h
    | succ n ih =>
      intro ce fr un sb se so sc wb we wo wc fb fe fo fc rm ac rf kn x2 x3 H locs hP hD hS ls hl h
      have h := f_X1_smallestRoom_56_s.symm.trans h
      refine lv_iload_n hx hb (kdr dgX1_smallestRoom_0 3 4 rfl rfl) rfl (lv_at hl 1 rfl) ?_
      refine lv_bipush (v := 8) hx hb (kdr dgX1_smallestRoom_0 3 5 rfl rfl) (by decide) ?_
      refine lv_icmp_ge (tgt := 77) hx hb (kdr dgX1_smallestRoom_0 3 6 rfl rfl) (by decide) (fun c1 => ?_) (fun c1 => ?_)
      · have h := g_t c1 h
        refine lv_iload_n hx hb (kdr dgX1_smallestRoom_0 4 6 rfl rfl) rfl (lv_at hl 1 rfl) ?_
        have h := Option.some.inj h
        subst h
        exact kret_i (v := x3) hx hb hr rfl hlocks hS hP (kdr dgX1_smallestRoom_0 4 7 rfl rfl)
      · have h := g_f c1 h
        refine lv_iload_n hx hb (kdr dgX1_smallestRoom_0 3 7 rfl rfl) rfl (lv_at hl 0 rfl) ?_
        refine lv_iload_n hx hb (kdr dgX1_smallestRoom_0 3 8 rfl rfl) rfl (lv_at hl 1 rfl) ?_
        refine lv_ishr hx hb (kdr dgX1_smallestRoom_0 3 9 rfl rfl) ?_
        refine lv_iconst (v := 1) hx hb (kdr dgX1_smallestRoom_0 4 0 rfl rfl) (by decide) ?_
        refine lv_iand hx hb (kdr dgX1_smallestRoom_0 4 1 rfl rfl) ?_
        refine lv_iconst (v := 1) hx hb (kdr dgX1_smallestRoom_0 4 2 rfl rfl) (by decide) ?_
        refine lv_icmp_ne (tgt := 77) hx hb (kdr dgX1_smallestRoom_0 4 3 rfl rfl) (by decide) (fun c2 => ?_) (fun c2 => ?_)
        · have h := g_f c2 h
          refine lv_iload_n hx hb (kdr dgX1_smallestRoom_0 4 6 rfl rfl) rfl (lv_at hl 1 rfl) ?_
          have h := Option.some.inj h
          subst h
          exact kret_i (v := x3) hx hb hr rfl hlocks hS hP (kdr dgX1_smallestRoom_0 4 7 rfl rfl)
        · have h := g_t c2 h
          refine lv_iinc (v := x3 + 1) (lv' := (kvI 3 (x3 + 1) (kvI 2 x2 kvE))) hx hb (kdr dgX1_smallestRoom_0 4 4 rfl rfl) hl (k := 1) rfl rfl (by decide) rfl (fun ls hl => ?_)
          refine lv_goto (tgt := 56) hx hb (kdr dgX1_smallestRoom_0 4 5 rfl rfl) (by decide) ?_
          exact ih ce fr un sb se so sc wb we wo wc fb fe fo fc rm ac rf kn x2 (x3 + 1) _ _ hP hD hS ls (lv_sub hl [1, 0] rfl) h
  have J4 : ∀ (n : Nat), ∀ (ce : Nat → Int64) (fr : Int64) (un : Int64) (sb : Nat → Int64) (se : Nat → Int64) (so : Nat → Int32) (sc : Int32) (wb : Nat → Int64) (we : Nat → Int64) (wo : Nat → Int32) (wc : Int32) (fb : Nat → Int64) (fe : Nat → Int64) (fo : Nat → Int32) (fc : Int32) (rm : Nat → Int32) (ac : Int32) (rf : Int32) (kn : Int32) (x1 : Int32) (x2 : Int32) (x3 : Int32) (H : Heap) (locs : List Loc), va_P (dC, dI) vwCl (wSB cI cJ cZ a ce fr un sb se so sc wb we wo wc fb fe fo fc rm ac rf kn) H → va_D A (wSB cI cJ cZ a ce fr un sb se so sc wb we wo wc fb fe fo fc rm ac rf kn) → va_S A s.heap H locs → ∀ (ls : Array Slot), lv_has ls 4 (kvA 0 (a 0) (kvI 1 x1 (kvI 2 x2 (kvI 3 x3 kvE)))) → f_X1_smallestRoom_4 n wb we wc rm x1 x2 x3 = some res → W p l e (headSpec wsX1_smallestRoom (kRm 1 0 0 22)).room s m ([.ref (a 0), .int p0] : List Value).toArray below meth c H locs 0 0 (MQ below (kI (dC, dI) .int (res) (wSB cI cJ cZ a ce fr un sb se so sc wb we wo wc fb fe fo fc rm ac rf kn) A) ([.ref (a 0), .int p0] : List Value).toArray s 0 0 A) (F0 m 4 ls []) := by
    intro n
    induction n with
    | zero =>
      intro ce fr un sb se so sc wb we wo wc fb fe fo fc rm ac rf kn x1 x2 x3 H locs hP hD hS ls hl h
      have h := f_X1_smallestRoom_4_0.symm.trans h
      cases h
    | succ n ih =>
      intro ce fr un sb se so sc wb we wo wc fb fe fo fc rm ac rf kn x1 x2 x3 H locs hP hD hS ls hl h
      have h := f_X1_smallestRoom_4_s.symm.trans h
      refine lv_iload_n hx hb (kdr dgX1_smallestRoom_0 0 4 rfl rfl) rfl (lv_at hl 3 rfl) ?_
      refine lv_aload_n hx hb (kdr dgX1_smallestRoom_0 0 5 rfl rfl) rfl (lv_at hl 0 rfl) ?_
      refine va_get (D := (dC, dI)) (ci := 3) (v := .ref (a 6)) (C := RX1) (T := TX1) (N := 10) hx hb hts hiX1 hown hK hP 0 rfl rfl 4 (by decide) hw0 (fun _ h9 => h9) rfl (kdr dgX1_smallestRoom_0 0 6 rfl rfl) ?_
      obtain ⟨r1, g1, h⟩ := g_b h
      refine kq_i (wSB cI cJ cZ a ce fr un sb se so sc wb we wo wc fb fe fo fc rm ac rf kn) (fun qP qD qF => va_runV (As := []) (rest := [.int x3]) ⟨hx, hb, hml, hown, hts⟩ (c_X0_count l dC dI cB cI cJ cZ (a 6) (a 7) (a 8) (a 9) _ wb we wo wc  r1 g1) (kcwV hts kw_155 kv_X0_count rfl rfl ⟨(Nat.le_of_ble_eq_true rfl), (Nat.le_of_ble_eq_true rfl)⟩) (kpV (A := A) qP hK qD hG (krecv_2 (q0 := 6) hK hP rfl)) rfl rfl hl.1 rfl (lv_room (Nat.le_of_ble_eq_true rfl)) (kdr dgX1_smallestRoom_0 0 7 rfl rfl) ⟨(Nat.le_of_ble_eq_true rfl), (Nat.le_of_ble_eq_true rfl)⟩) hP hD hS hA kFr_SBw (fun H locs hP hD hS br1 => ?_)
      refine lv_icmp_ge (tgt := 54) hx hb (kdr dgX1_smallestRoom_0 0 8 rfl rfl) (by decide) (fun c2 => ?_) (fun c2 => ?_)
      · have h := g_t c2 h
        refine lv_iconst (v := 0) hx hb (kdr dgX1_smallestRoom_0 3 2 rfl rfl) (by decide) ?_
        refine lv_istore_n (lv' := (kvI 3 0 (kvA 0 (a 0) (kvI 1 x1 (kvI 2 x2 kvE))))) hx hb (kdr dgX1_smallestRoom_0 3 3 rfl rfl) rfl hl (by decide) rfl (fun ls hl => ?_)
        exact J56 24 ce fr un sb se so sc wb we wo wc fb fe fo fc rm ac rf kn x2 0 _ _ hP hD hS ls (lv_sub hl [3, 0] rfl) h
      · have h := g_f c2 h
        refine lv_aload_n hx hb (kdr dgX1_smallestRoom_0 0 9 rfl rfl) rfl (lv_at hl 0 rfl) ?_
        refine va_get (D := (dC, dI)) (ci := 3) (v := .ref (a 14)) (C := RX1) (T := TX1) (N := 10) hx hb hts hiX1 hown hK hP 0 rfl rfl 6 (by decide) hw1 (fun _ h9 => h9) rfl (kdr dgX1_smallestRoom_0 1 0 rfl rfl) ?_
        refine lv_iload_n hx hb (kdr dgX1_smallestRoom_0 1 1 rfl rfl) rfl (lv_at hl 3 rfl) ?_
        obtain ⟨z2, h⟩ := g_if h
        refine va_iald hx hb hK hP 14 1 rfl rfl (ix_in z2) (kdr dgX1_smallestRoom_0 1 2 rfl rfl) ?_
        refine lv_iconst (v := (-1)) hx hb (kdr dgX1_smallestRoom_0 1 3 rfl rfl) (by decide) ?_
        refine lv_icmp_eq (tgt := 48) hx hb (kdr dgX1_smallestRoom_0 1 4 rfl rfl) (by decide) (fun c4 => ?_) (fun c4 => ?_)
        · have h := g_t c4 h
          refine lv_iinc (v := x3 + 1) (lv' := (kvI 3 (x3 + 1) (kvA 0 (a 0) (kvI 1 x1 (kvI 2 x2 kvE))))) hx hb (kdr dgX1_smallestRoom_0 3 0 rfl rfl) hl (k := 3) rfl rfl (by decide) rfl (fun ls hl => ?_)
          refine lv_goto (tgt := 4) hx hb (kdr dgX1_smallestRoom_0 3 1 rfl rfl) (by decide) ?_
          exact ih ce fr un sb se so sc wb we wo wc fb fe fo fc rm ac rf kn x1 x2 (x3 + 1) _ _ hP hD hS ls (lv_sub hl [1, 2, 3, 0] rfl) h
        · have h := g_f c4 h
          refine lv_aload_n hx hb (kdr dgX1_smallestRoom_0 1 5 rfl rfl) rfl (lv_at hl 0 rfl) ?_
          refine va_get (D := (dC, dI)) (ci := 3) (v := .ref (a 6)) (C := RX1) (T := TX1) (N := 10) hx hb hts hiX1 hown hK hP 0 rfl rfl 4 (by decide) hw0 (fun _ h9 => h9) rfl (kdr dgX1_smallestRoom_0 1 6 rfl rfl) ?_
          refine lv_iload_n hx hb (kdr dgX1_smallestRoom_0 1 7 rfl rfl) rfl (lv_at hl 1 rfl) ?_
          refine lv_iload_n hx hb (kdr dgX1_smallestRoom_0 1 8 rfl rfl) rfl (lv_at hl 3 rfl) ?_
          obtain ⟨r5, g5, h⟩ := g_b h
          refine kq_i (wSB cI cJ cZ a ce fr un sb se so sc wb we wo wc fb fe fo fc rm ac rf kn) (fun qP qD qF => va_runV (As := [.int x1, .int x3]) (rest := []) ⟨hx, hb, hml, hown, hts⟩ (c_X0_doMeet l dC dI cB cI cJ cZ (a 6) (a 7) (a 8) (a 9) _ wb we wo wc x1 x3 r5 g5) (kcwV hts kw_163 kv_X0_doMeet rfl rfl ⟨(Nat.le_of_ble_eq_true rfl), (Nat.le_of_ble_eq_true rfl)⟩) (kpV (A := A) qP hK qD hG (krecv_2 (q0 := 6) hK hP rfl)) rfl rfl hl.1 rfl (lv_room (Nat.le_of_ble_eq_true rfl)) (kdr dgX1_smallestRoom_0 1 9 rfl rfl) ⟨(Nat.le_of_ble_eq_true rfl), (Nat.le_of_ble_eq_true rfl)⟩) hP hD hS hA kFr_SBw (fun H locs hP hD hS br5 => ?_)
          refine lv_if_eq (tgt := 48) hx hb (kdr dgX1_smallestRoom_0 2 0 rfl rfl) (by decide) (fun c6 => ?_) (fun c6 => ?_)
          · have h := g_t c6 h
            refine lv_iinc (v := x3 + 1) (lv' := (kvI 3 (x3 + 1) (kvA 0 (a 0) (kvI 1 x1 (kvI 2 x2 kvE))))) hx hb (kdr dgX1_smallestRoom_0 3 0 rfl rfl) hl (k := 3) rfl rfl (by decide) rfl (fun ls hl => ?_)
            refine lv_goto (tgt := 4) hx hb (kdr dgX1_smallestRoom_0 3 1 rfl rfl) (by decide) ?_
            exact ih ce fr un sb se so sc wb we wo wc fb fe fo fc rm ac rf kn x1 x2 (x3 + 1) _ _ hP hD hS ls (lv_sub hl [1, 2, 3, 0] rfl) h
          · have h := g_f c6 h
            refine lv_iload_n hx hb (kdr dgX1_smallestRoom_0 2 1 rfl rfl) rfl (lv_at hl 2 rfl) ?_
            refine lv_iconst (v := 1) hx hb (kdr dgX1_smallestRoom_0 2 2 rfl rfl) (by decide) ?_
            refine lv_aload_n hx hb (kdr dgX1_smallestRoom_0 2 3 rfl rfl) rfl (lv_at hl 0 rfl) ?_
            refine va_get (D := (dC, dI)) (ci := 3) (v := .ref (a 14)) (C := RX1) (T := TX1) (N := 10) hx hb hts hiX1 hown hK hP 0 rfl rfl 6 (by decide) hw1 (fun _ h9 => h9) rfl (kdr dgX1_smallestRoom_0 2 4 rfl rfl) ?_
            refine lv_iload_n hx hb (kdr dgX1_smallestRoom_0 2 5 rfl rfl) rfl (lv_at hl 3 rfl) ?_
            refine va_iald hx hb hK hP 14 1 rfl rfl (ix_in z2) (kdr dgX1_smallestRoom_0 2 6 rfl rfl) ?_
            refine lv_ishl hx hb (kdr dgX1_smallestRoom_0 2 7 rfl rfl) ?_
            refine lv_ior hx hb (kdr dgX1_smallestRoom_0 2 8 rfl rfl) ?_
            refine lv_istore_n (lv' := (kvI 2 (x2 ||| (1 <<< ((rm x3.toNatClampNeg) &&& 31))) (kvA 0 (a 0) (kvI 1 x1 (kvI 3 x3 kvE))))) hx hb (kdr dgX1_smallestRoom_0 2 9 rfl rfl) rfl hl (by decide) rfl (fun ls hl => ?_)
            refine lv_iinc (v := x3 + 1) (lv' := (kvI 3 (x3 + 1) (kvI 2 (x2 ||| (1 <<< ((rm x3.toNatClampNeg) &&& 31))) (kvA 0 (a 0) (kvI 1 x1 kvE))))) hx hb (kdr dgX1_smallestRoom_0 3 0 rfl rfl) hl (k := 3) rfl rfl (by decide) rfl (fun ls hl => ?_)
            refine lv_goto (tgt := 4) hx hb (kdr dgX1_smallestRoom_0 3 1 rfl rfl) (by decide) ?_
            exact ih ce fr un sb se so sc wb we wo wc fb fe fo fc rm ac rf kn x1 (x2 ||| (1 <<< ((rm x3.toNatClampNeg) &&& 31))) (x3 + 1) _ _ hP hD hS ls (lv_sub hl [2, 3, 1, 0] rfl) h
  have h := f_X1_smallestRoom_e.symm.trans hf
  refine lv_iconst (v := 0) hx hb (kdr dgX1_smallestRoom_0 0 0 rfl rfl) (by decide) ?_
  refine lv_istore_n (lv' := (kvI 2 0 (kvA 0 (a 0) (kvI 1 p0 kvE)))) hx hb (kdr dgX1_smallestRoom_0 0 1 rfl rfl) rfl hl (by decide) rfl (fun ls hl => ?_)
  refine lv_iconst (v := 0) hx hb (kdr dgX1_smallestRoom_0 0 2 rfl rfl) (by decide) ?_
  refine lv_istore_n (lv' := (kvI 3 0 (kvI 2 0 (kvA 0 (a 0) (kvI 1 p0 kvE))))) hx hb (kdr dgX1_smallestRoom_0 0 3 rfl rfl) rfl hl (by decide) rfl (fun ls hl => ?_)
  exact J4 24 ce fr un sb se so sc wb we wo wc fb fe fo fc rm ac rf kn p0 0 0 _ _ hP hD hS ls (lv_sub hl [2, 3, 1, 0] rfl) h
noncomputable abbrev wsX1_findRooms : List Cond := kWs yX1_findRooms cX1_findRooms 3 none
noncomputable def f_X1_findRooms_23 : Nat → (Nat → Int64) → (Nat → Int64) → (Int32) → (Nat → Int32) → (Int32) → Option (Nat → Int32)
  | 0, _, _, _, _, _ => none
  | n + 1, wb, we, wc, rm, x1 =>
    (f_X0_count wc).bind fun r1 =>
    if r1 ≤ x1 then
      some rm
    else
      (f_X1_firstWithoutRoom wb wc rm).bind fun r3 =>
      if r3 = (-1) then
        f_X1_findRooms_23 n wb we wc rm (x1 + 1)
      else
        (f_X1_smallestRoom wb we wc rm r3).bind fun r5 =>
        if ix r3 11 then
          f_X1_findRooms_23 n wb we wc (upd rm r3.toNatClampNeg r5) (x1 + 1)
        else none
theorem f_X1_findRooms_23_0 {wb : Nat → Int64} {we : Nat → Int64} {wc : Int32} {rm : Nat → Int32} {x1 : Int32} : f_X1_findRooms_23 0 wb we wc rm x1 = none := rfl
theorem f_X1_findRooms_23_s {n : Nat} {wb : Nat → Int64} {we : Nat → Int64} {wc : Int32} {rm : Nat → Int32} {x1 : Int32} : f_X1_findRooms_23 (n + 1) wb we wc rm x1 =
  (f_X0_count wc).bind fun r1 =>
  if r1 ≤ x1 then
    some rm
  else
    (f_X1_firstWithoutRoom wb wc rm).bind fun r3 =>
    if r3 = (-1) then
      f_X1_findRooms_23 n wb we wc rm (x1 + 1)
    else
      (f_X1_smallestRoom wb we wc rm r3).bind fun r5 =>
      if ix r3 11 then
        f_X1_findRooms_23 n wb we wc (upd rm r3.toNatClampNeg r5) (x1 + 1)
      else none := rfl
noncomputable def f_X1_findRooms_2 : Nat → (Nat → Int64) → (Nat → Int64) → (Int32) → (Nat → Int32) → (Int32) → Option (Nat → Int32)
  | 0, _, _, _, _, _ => none
  | n + 1, wb, we, wc, rm, x1 =>
    if 11 ≤ x1 then
      f_X1_findRooms_23 24 wb we wc rm 0
    else
      if ix x1 11 then
        f_X1_findRooms_2 n wb we wc (upd rm x1.toNatClampNeg (-1)) (x1 + 1)
      else none
theorem f_X1_findRooms_2_0 {wb : Nat → Int64} {we : Nat → Int64} {wc : Int32} {rm : Nat → Int32} {x1 : Int32} : f_X1_findRooms_2 0 wb we wc rm x1 = none := rfl
theorem f_X1_findRooms_2_s {n : Nat} {wb : Nat → Int64} {we : Nat → Int64} {wc : Int32} {rm : Nat → Int32} {x1 : Int32} : f_X1_findRooms_2 (n + 1) wb we wc rm x1 =
  if 11 ≤ x1 then
    f_X1_findRooms_23 24 wb we wc rm 0
  else
    if ix x1 11 then
      f_X1_findRooms_2 n wb we wc (upd rm x1.toNatClampNeg (-1)) (x1 + 1)
    else none := rfl
noncomputable def f_X1_findRooms (wb : Nat → Int64) (we : Nat → Int64) (wc : Int32) (rm : Nat → Int32) : Option (Nat → Int32) :=
  f_X1_findRooms_2 24 wb we wc rm 0
theorem f_X1_findRooms_e {wb : Nat → Int64} {we : Nat → Int64} {wc : Int32} {rm : Nat → Int32} : f_X1_findRooms wb we wc rm = 
  f_X1_findRooms_2 24 wb we wc rm 0 := rfl
set_option maxHeartbeats 4000000 in
set_option maxRecDepth 100000 in
theorem c_X1_findRooms (l : Launch) (dC : Nat → ClassId) (dI : Nat → Nat → Nat) (cB cI cJ cZ : ClassId) (a : Nat → Nat) (sz : Nat) (ce : Nat → Int64) (fr : Int64) (un : Int64) (sb : Nat → Int64) (se : Nat → Int64) (so : Nat → Int32) (sc : Int32) (wb : Nat → Int64) (we : Nat → Int64) (wo : Nat → Int32) (wc : Int32) (fb : Nat → Int64) (fe : Nat → Int64) (fo : Nat → Int32) (fc : Int32) (rm : Nat → Int32) (ac : Int32) (rf : Int32) (kn : Int32) (res : Nat → Int32) (hf : f_X1_findRooms wb we wc rm = some res) : kMv l yX1_findRooms wsX1_findRooms (kRm 3 0 0 64) dC dI cB cI cJ cZ [.ref (a 0)] sz (wSB cI cJ cZ a ce fr un sb se so sc wb we wo wc fb fe fo fc rm ac rf kn) (wSB cI cJ cZ a ce fr un sb se so sc wb we wo wc fb fe fo fc (res) ac rf kn) 0 0 := by
  refine kmet_v (y := yX1_findRooms) (cc := cX1_findRooms) (maxL := 3) (ret := none) RX1 (kvA 0 (a 0) kvE) kpl_X1 rfl rfl (Nat.le_of_ble_eq_true rfl) rfl (fun p e s m below meth c A ls hx hb hr hml hts hown hlocks hP hK hG hD hA hS hl => ?_)
  have hw0 := hts (.fieldLink RX1 29 "Spanbooker" "wishRow" "LSpanbooker$Row;") (List.mem_cons_of_mem _ kw_111)
  have hw1 := hts (.fieldLink RX1 35 "Spanbooker" "roomOf" "[I") (List.mem_cons_of_mem _ kw_113)
  have hiX1 : ∀ w ∈ u_ws RX1 TX1 10, w ∈ wsX1_findRooms := fun w h => List.mem_cons_of_mem _ (ku_X1 w h)
  have J23 : ∀ (n : Nat), ∀ (ce : Nat → Int64) (fr : Int64) (un : Int64) (sb : Nat → Int64) (se : Nat → Int64) (so : Nat → Int32) (sc : Int32) (wb : Nat → Int64) (we : Nat → Int64) (wo : Nat → Int32) (wc : Int32) (fb : Nat → Int64) (fe : Nat → Int64) (fo : Nat → Int32) (fc : Int32) (rm : Nat → Int32) (ac : Int32) (rf : Int32) (kn : Int32) (x1 : Int32) (H : Heap) (locs : List Loc), va_P (dC, dI) vwCl (wSB cI cJ cZ a ce fr un sb se so sc wb we wo wc fb fe fo fc rm ac rf kn) H → va_D A (wSB cI cJ cZ a ce fr un sb se so sc wb we wo wc fb fe fo fc rm ac rf kn) → va_S A s.heap H locs → ∀ (ls : Array Slot), lv_has ls 3 (kvA 0 (a 0) (kvI 1 x1 kvE)) → f_X1_findRooms_23 n wb we wc rm x1 = some res → W p l e (headSpec wsX1_findRooms (kRm 3 0 0 64)).room s m ([.ref (a 0)] : List Value).toArray below meth c H locs 0 0 (MQ below (kV (dC, dI) (wSB cI cJ cZ a ce fr un sb se so sc wb we wo wc fb fe fo fc (res) ac rf kn) A) ([.ref (a 0)] : List Value).toArray s 0 0 A) (F0 m 23 ls []) := by
    intro n
    induction n with
    | zero =>
      intro ce fr un sb se so sc wb we wo wc fb fe fo fc rm ac rf kn x1 H locs hP hD hS ls hl h
      have h := f_X1_findRooms_23_0.symm.trans h
      cases h
    | succ n ih =>
      intro ce fr un sb se so sc wb we wo wc fb fe fo fc rm ac rf kn x1 H locs hP hD hS ls hl h
      have h := f_X1_findRooms_23_s.symm.trans h
      refine lv_iload_n hx hb (kdr dgX1_findRooms_0 1 4 rfl rfl) rfl (lv_at hl 1 rfl) ?_
      refine lv_aload_n hx hb (kdr dgX1_findRooms_0 1 5 rfl rfl) rfl (lv_at hl 0 rfl) ?_
      refine va_get (D := (dC, dI)) (ci := 3) (v := .ref (a 6)) (C := RX1) (T := TX1) (N := 10) hx hb hts hiX1 hown hK hP 0 rfl rfl 4 (by decide) hw0 (fun _ h9 => h9) rfl (kdr dgX1_findRooms_0 1 6 rfl rfl) ?_
      obtain ⟨r1, g1, h⟩ := g_b h
      refine kq_i (wSB cI cJ cZ a ce fr un sb se so sc wb we wo wc fb fe fo fc rm ac rf kn) (fun qP qD qF => va_runV (As := []) (rest := [.int x1]) ⟨hx, hb, hml, hown, hts⟩ (c_X0_count l dC dI cB cI cJ cZ (a 6) (a 7) (a 8) (a 9) _ wb we wo wc  r1 g1) (kcwV hts kw_155 kv_X0_count rfl rfl ⟨(Nat.le_of_ble_eq_true rfl), (Nat.le_of_ble_eq_true rfl)⟩) (kpV (A := A) qP hK qD hG (krecv_2 (q0 := 6) hK hP rfl)) rfl rfl hl.1 rfl (lv_room (Nat.le_of_ble_eq_true rfl)) (kdr dgX1_findRooms_0 1 7 rfl rfl) ⟨(Nat.le_of_ble_eq_true rfl), (Nat.le_of_ble_eq_true rfl)⟩) hP hD hS hA kFr_SBw (fun H locs hP hD hS br1 => ?_)
      refine lv_icmp_ge (tgt := 61) hx hb (kdr dgX1_findRooms_0 1 8 rfl rfl) (by decide) (fun c2 => ?_) (fun c2 => ?_)
      · have h := g_t c2 h
        have h := Option.some.inj h
        subst h
        exact kret_v hx hb hr hlocks hS hP (kdr dgX1_findRooms_0 3 4 rfl rfl)
      · have h := g_f c2 h
        refine lv_aload_n hx hb (kdr dgX1_findRooms_0 1 9 rfl rfl) rfl (lv_at hl 0 rfl) ?_
        obtain ⟨r3, g3, h⟩ := g_b h
        refine kq_i (wSB cI cJ cZ a ce fr un sb se so sc wb we wo wc fb fe fo fc rm ac rf kn) (fun qP qD qF => va_runV (As := []) (rest := []) ⟨hx, hb, hml, hown, hts⟩ (c_X1_firstWithoutRoom l dC dI cB cI cJ cZ a _ ce fr un sb se so sc wb we wo wc fb fe fo fc rm ac rf kn  r3 g3) (kcwV hts kw_247 kv_X1_firstWithoutRoom rfl rfl ⟨(Nat.le_of_ble_eq_true rfl), (Nat.le_of_ble_eq_true rfl)⟩) (kpV (A := A) qP hK qD hG (krecv_3 (q0 := 0) hK hP rfl)) rfl rfl hl.1 rfl (lv_room (Nat.le_of_ble_eq_true rfl)) (kdr dgX1_findRooms_0 2 0 rfl rfl) ⟨(Nat.le_of_ble_eq_true rfl), (Nat.le_of_ble_eq_true rfl)⟩) hP hD hS hA kFr_SB (fun H locs hP hD hS br3 => ?_)
        refine lv_istore_n (lv' := (kvI 2 r3 (kvA 0 (a 0) (kvI 1 x1 kvE)))) hx hb (kdr dgX1_findRooms_0 2 1 rfl rfl) rfl hl (by decide) rfl (fun ls hl => ?_)
        refine lv_iload_n hx hb (kdr dgX1_findRooms_0 2 2 rfl rfl) rfl (lv_at hl 0 rfl) ?_
        refine lv_iconst (v := (-1)) hx hb (kdr dgX1_findRooms_0 2 3 rfl rfl) (by decide) ?_
        refine lv_icmp_eq (tgt := 55) hx hb (kdr dgX1_findRooms_0 2 4 rfl rfl) (by decide) (fun c4 => ?_) (fun c4 => ?_)
        · have h := g_t c4 h
          refine lv_iinc (v := x1 + 1) (lv' := (kvI 1 (x1 + 1) (kvI 2 r3 (kvA 0 (a 0) kvE)))) hx hb (kdr dgX1_findRooms_0 3 2 rfl rfl) hl (k := 2) rfl rfl (by decide) rfl (fun ls hl => ?_)
          refine lv_goto (tgt := 23) hx hb (kdr dgX1_findRooms_0 3 3 rfl rfl) (by decide) ?_
          exact ih ce fr un sb se so sc wb we wo wc fb fe fo fc rm ac rf kn (x1 + 1) _ _ hP hD hS ls (lv_sub hl [2, 0] rfl) h
        · have h := g_f c4 h
          refine lv_aload_n hx hb (kdr dgX1_findRooms_0 2 5 rfl rfl) rfl (lv_at hl 1 rfl) ?_
          refine va_get (D := (dC, dI)) (ci := 3) (v := .ref (a 14)) (C := RX1) (T := TX1) (N := 10) hx hb hts hiX1 hown hK hP 0 rfl rfl 6 (by decide) hw1 (fun _ h9 => h9) rfl (kdr dgX1_findRooms_0 2 6 rfl rfl) ?_
          refine lv_iload_n hx hb (kdr dgX1_findRooms_0 2 7 rfl rfl) rfl (lv_at hl 0 rfl) ?_
          refine lv_aload_n hx hb (kdr dgX1_findRooms_0 2 8 rfl rfl) rfl (lv_at hl 1 rfl) ?_
          refine lv_iload_n hx hb (kdr dgX1_findRooms_0 2 9 rfl rfl) rfl (lv_at hl 0 rfl) ?_
          obtain ⟨r5, g5, h⟩ := g_b h
          refine kq_i (wSB cI cJ cZ a ce fr un sb se so sc wb we wo wc fb fe fo fc rm ac rf kn) (fun qP qD qF => va_runV (As := [.int r3]) (rest := [.int r3, .ref (a 14)]) ⟨hx, hb, hml, hown, hts⟩ (c_X1_smallestRoom l dC dI cB cI cJ cZ a _ ce fr un sb se so sc wb we wo wc fb fe fo fc rm ac rf kn r3 r5 g5) (kcwV hts kw_255 kv_X1_smallestRoom rfl rfl ⟨(Nat.le_of_ble_eq_true rfl), (Nat.le_of_ble_eq_true rfl)⟩) (kpV (A := A) qP hK qD hG (krecv_3 (q0 := 0) hK hP rfl)) rfl rfl hl.1 rfl (lv_room (Nat.le_of_ble_eq_true rfl)) (kdr dgX1_findRooms_0 3 0 rfl rfl) ⟨(Nat.le_of_ble_eq_true rfl), (Nat.le_of_ble_eq_true rfl)⟩) hP hD hS hA kFr_SB (fun H locs hP hD hS br5 => ?_)
          obtain ⟨z5, h⟩ := g_if h
          refine va_iast hx hb hK hP hD hS 14 1 rfl rfl (ix_in z5) (kdr dgX1_findRooms_0 3 1 rfl rfl) (fun H locs hP hD hS => ?_)
          have hP : va_P (dC, dI) vwCl (wSB cI cJ cZ a ce fr un sb se so sc wb we wo wc fb fe fo fc (upd rm r3.toNatClampNeg r5) ac rf kn) H := hP
          have hD : va_D A (wSB cI cJ cZ a ce fr un sb se so sc wb we wo wc fb fe fo fc (upd rm r3.toNatClampNeg r5) ac rf kn) := hD
          refine lv_iinc (v := x1 + 1) (lv' := (kvI 1 (x1 + 1) (kvI 2 r3 (kvA 0 (a 0) kvE)))) hx hb (kdr dgX1_findRooms_0 3 2 rfl rfl) hl (k := 2) rfl rfl (by decide) rfl (fun ls hl => ?_)
          refine lv_goto (tgt := 23) hx hb (kdr dgX1_findRooms_0 3 3 rfl rfl) (by decide) ?_
          exact ih ce fr un sb se so sc wb we wo wc fb fe fo fc (upd rm r3.toNatClampNeg r5) ac rf kn (x1 + 1) _ _ hP hD hS ls (lv_sub hl [2, 0] rfl) h
  have J2 : ∀ (n : Nat), ∀ (ce : Nat → Int64) (fr : Int64) (un : Int64) (sb : Nat → Int64) (se : Nat → Int64) (so : Nat → Int32) (sc : Int32) (wb : Nat → Int64) (we : Nat → Int64) (wo : Nat → Int32) (wc : Int32) (fb : Nat → Int64) (fe : Nat → Int64) (fo : Nat → Int32) (fc : Int32) (rm : Nat → Int32) (ac : Int32) (rf : Int32) (kn : Int32) (x1 : Int32) (H : Heap) (locs : List Loc), va_P (dC, dI) vwCl (wSB cI cJ cZ a ce fr un sb se so sc wb we wo wc fb fe fo fc rm ac rf kn) H → va_D A (wSB cI cJ cZ a ce fr un sb se so sc wb we wo wc fb fe fo fc rm ac rf kn) → va_S A s.heap H locs → ∀ (ls : Array Slot), lv_has ls 3 (kvA 0 (a 0) (kvI 1 x1 kvE)) → f_X1_findRooms_2 n wb we wc rm x1 = some res → W p l e (headSpec wsX1_findRooms (kRm 3 0 0 64)).room s m ([.ref (a 0)] : List Value).toArray below meth c H locs 0 0 (MQ below (kV (dC, dI) (wSB cI cJ cZ a ce fr un sb se so sc wb we wo wc fb fe fo fc (res) ac rf kn) A) ([.ref (a 0)] : List Value).toArray s 0 0 A) (F0 m 2 ls []) := by
    intro n
    induction n with
    | zero =>
      intro ce fr un sb se so sc wb we wo wc fb fe fo fc rm ac rf kn x1 H locs hP hD hS ls hl h
      have h := f_X1_findRooms_2_0.symm.trans h
      cases h
    | succ n ih =>
      intro ce fr un sb se so sc wb we wo wc fb fe fo fc rm ac rf kn x1 H locs hP hD hS ls hl h
      have h := f_X1_findRooms_2_s.symm.trans h
      refine lv_iload_n hx hb (kdr dgX1_findRooms_0 0 2 rfl rfl) rfl (lv_at hl 1 rfl) ?_
      refine lv_bipush (v := 11) hx hb (kdr dgX1_findRooms_0 0 3 rfl rfl) (by decide) ?_
      refine lv_icmp_ge (tgt := 21) hx hb (kdr dgX1_findRooms_0 0 4 rfl rfl) (by decide) (fun c1 => ?_) (fun c1 => ?_)
      · have h := g_t c1 h
        refine lv_iconst (v := 0) hx hb (kdr dgX1_findRooms_0 1 2 rfl rfl) (by decide) ?_
        refine lv_istore_n (lv' := (kvI 1 0 (kvA 0 (a 0) kvE))) hx hb (kdr dgX1_findRooms_0 1 3 rfl rfl) rfl hl (by decide) rfl (fun ls hl => ?_)
        exact J23 24 ce fr un sb se so sc wb we wo wc fb fe fo fc rm ac rf kn 0 _ _ hP hD hS ls (lv_sub hl [1, 0] rfl) h
      · have h := g_f c1 h
        refine lv_aload_n hx hb (kdr dgX1_findRooms_0 0 5 rfl rfl) rfl (lv_at hl 0 rfl) ?_
        refine va_get (D := (dC, dI)) (ci := 3) (v := .ref (a 14)) (C := RX1) (T := TX1) (N := 10) hx hb hts hiX1 hown hK hP 0 rfl rfl 6 (by decide) hw1 (fun _ h9 => h9) rfl (kdr dgX1_findRooms_0 0 6 rfl rfl) ?_
        refine lv_iload_n hx hb (kdr dgX1_findRooms_0 0 7 rfl rfl) rfl (lv_at hl 1 rfl) ?_
        refine lv_iconst (v := (-1)) hx hb (kdr dgX1_findRooms_0 0 8 rfl rfl) (by decide) ?_
        obtain ⟨z1, h⟩ := g_if h
        refine va_iast hx hb hK hP hD hS 14 1 rfl rfl (ix_in z1) (kdr dgX1_findRooms_0 0 9 rfl rfl) (fun H locs hP hD hS => ?_)
        have hP : va_P (dC, dI) vwCl (wSB cI cJ cZ a ce fr un sb se so sc wb we wo wc fb fe fo fc (upd rm x1.toNatClampNeg (-1)) ac rf kn) H := hP
        have hD : va_D A (wSB cI cJ cZ a ce fr un sb se so sc wb we wo wc fb fe fo fc (upd rm x1.toNatClampNeg (-1)) ac rf kn) := hD
        refine lv_iinc (v := x1 + 1) (lv' := (kvI 1 (x1 + 1) (kvA 0 (a 0) kvE))) hx hb (kdr dgX1_findRooms_0 1 0 rfl rfl) hl (k := 1) rfl rfl (by decide) rfl (fun ls hl => ?_)
        refine lv_goto (tgt := 2) hx hb (kdr dgX1_findRooms_0 1 1 rfl rfl) (by decide) ?_
        exact ih ce fr un sb se so sc wb we wo wc fb fe fo fc (upd rm x1.toNatClampNeg (-1)) ac rf kn (x1 + 1) _ _ hP hD hS ls (lv_sub hl [1, 0] rfl) h
  have h := f_X1_findRooms_e.symm.trans hf
  refine lv_iconst (v := 0) hx hb (kdr dgX1_findRooms_0 0 0 rfl rfl) (by decide) ?_
  refine lv_istore_n (lv' := (kvI 1 0 (kvA 0 (a 0) kvE))) hx hb (kdr dgX1_findRooms_0 0 1 rfl rfl) rfl hl (by decide) rfl (fun ls hl => ?_)
  exact J2 24 ce fr un sb se so sc wb we wo wc fb fe fo fc rm ac rf kn 0 _ _ hP hD hS ls (lv_sub hl [1, 0] rfl) h
noncomputable abbrev wsX1_roomCount : List Cond := kWs yX1_roomCount cX1_roomCount 3 (some .int)
noncomputable def f_X1_roomCount_4 : Nat → (Int32) → (Nat → Int32) → (Int32) → (Int32) → Option (Int32)
  | 0, _, _, _, _ => none
  | n + 1, wc, rm, x1, x2 =>
    (f_X0_count wc).bind fun r1 =>
    if r1 ≤ x2 then
      some x1
    else
      if ix x2 11 then
        f_X1_roomCount_4 n wc rm (if x1 < ((rm x2.toNatClampNeg) + 1) then (rm x2.toNatClampNeg) + 1 else x1) (x2 + 1)
      else none
theorem f_X1_roomCount_4_0 {wc : Int32} {rm : Nat → Int32} {x1 : Int32} {x2 : Int32} : f_X1_roomCount_4 0 wc rm x1 x2 = none := rfl
theorem f_X1_roomCount_4_s {n : Nat} {wc : Int32} {rm : Nat → Int32} {x1 : Int32} {x2 : Int32} : f_X1_roomCount_4 (n + 1) wc rm x1 x2 =
  (f_X0_count wc).bind fun r1 =>
  if r1 ≤ x2 then
    some x1
  else
    if ix x2 11 then
      f_X1_roomCount_4 n wc rm (if x1 < ((rm x2.toNatClampNeg) + 1) then (rm x2.toNatClampNeg) + 1 else x1) (x2 + 1)
    else none := rfl
noncomputable def f_X1_roomCount (wc : Int32) (rm : Nat → Int32) : Option (Int32) :=
  f_X1_roomCount_4 24 wc rm 0 0
theorem f_X1_roomCount_e {wc : Int32} {rm : Nat → Int32} : f_X1_roomCount wc rm = 
  f_X1_roomCount_4 24 wc rm 0 0 := rfl
set_option maxHeartbeats 4000000 in
set_option maxRecDepth 100000 in
theorem c_X1_roomCount (l : Launch) (dC : Nat → ClassId) (dI : Nat → Nat → Nat) (cB cI cJ cZ : ClassId) (a : Nat → Nat) (sz : Nat) (ce : Nat → Int64) (fr : Int64) (un : Int64) (sb : Nat → Int64) (se : Nat → Int64) (so : Nat → Int32) (sc : Int32) (wb : Nat → Int64) (we : Nat → Int64) (wo : Nat → Int32) (wc : Int32) (fb : Nat → Int64) (fe : Nat → Int64) (fo : Nat → Int32) (fc : Int32) (rm : Nat → Int32) (ac : Int32) (rf : Int32) (kn : Int32) (res : Int32) (hf : f_X1_roomCount wc rm = some res) : kMi l yX1_roomCount wsX1_roomCount (kRm 1 0 0 40) dC dI cB cI cJ cZ [.ref (a 0)] sz (wSB cI cJ cZ a ce fr un sb se so sc wb we wo wc fb fe fo fc rm ac rf kn) .int (res) (wSB cI cJ cZ a ce fr un sb se so sc wb we wo wc fb fe fo fc rm ac rf kn) 0 0 := by
  refine kmet_i (y := yX1_roomCount) (cc := cX1_roomCount) (maxL := 3) (ret := (some .int)) RX1 (kvA 0 (a 0) kvE) kpl_X1 rfl rfl (Nat.le_of_ble_eq_true rfl) rfl (fun p e s m below meth c A ls hx hb hr hml hts hown hlocks hP hK hG hD hA hS hl => ?_)
  have hw0 := hts (.fieldLink RX1 29 "Spanbooker" "wishRow" "LSpanbooker$Row;") (List.mem_cons_of_mem _ kw_111)
  have hw1 := hts (.fieldLink RX1 35 "Spanbooker" "roomOf" "[I") (List.mem_cons_of_mem _ kw_113)
  have hw2 := hts (.methodLink RX1 314 Lib.Math.max.name) (List.mem_cons_of_mem _ kw_263)
  have hw3 := hts (.static Lib.Math.max.name) (List.mem_cons_of_mem _ kw_176)
  have hw4 := hts (.initialized "java/lang/Math") (List.mem_cons_of_mem _ kw_66)
  have hw5 := hts (.code Lib.Math.max.name Lib.Math.max.code 2 (some .int)) (List.mem_cons_of_mem _ kw_177)
  have hiX1 : ∀ w ∈ u_ws RX1 TX1 10, w ∈ wsX1_roomCount := fun w h => List.mem_cons_of_mem _ (ku_X1 w h)
  have J4 : ∀ (n : Nat), ∀ (ce : Nat → Int64) (fr : Int64) (un : Int64) (sb : Nat → Int64) (se : Nat → Int64) (so : Nat → Int32) (sc : Int32) (wb : Nat → Int64) (we : Nat → Int64) (wo : Nat → Int32) (wc : Int32) (fb : Nat → Int64) (fe : Nat → Int64) (fo : Nat → Int32) (fc : Int32) (rm : Nat → Int32) (ac : Int32) (rf : Int32) (kn : Int32) (x1 : Int32) (x2 : Int32) (H : Heap) (locs : List Loc), va_P (dC, dI) vwCl (wSB cI cJ cZ a ce fr un sb se so sc wb we wo wc fb fe fo fc rm ac rf kn) H → va_D A (wSB cI cJ cZ a ce fr un sb se so sc wb we wo wc fb fe fo fc rm ac rf kn) → va_S A s.heap H locs → ∀ (ls : Array Slot), lv_has ls 3 (kvA 0 (a 0) (kvI 1 x1 (kvI 2 x2 kvE))) → f_X1_roomCount_4 n wc rm x1 x2 = some res → W p l e (headSpec wsX1_roomCount (kRm 1 0 0 40)).room s m ([.ref (a 0)] : List Value).toArray below meth c H locs 0 0 (MQ below (kI (dC, dI) .int (res) (wSB cI cJ cZ a ce fr un sb se so sc wb we wo wc fb fe fo fc rm ac rf kn) A) ([.ref (a 0)] : List Value).toArray s 0 0 A) (F0 m 4 ls []) := by
    intro n
    induction n with
    | zero =>
      intro ce fr un sb se so sc wb we wo wc fb fe fo fc rm ac rf kn x1 x2 H locs hP hD hS ls hl h
      have h := f_X1_roomCount_4_0.symm.trans h
      cases h
    | succ n ih =>
      intro ce fr un sb se so sc wb we wo wc fb fe fo fc rm ac rf kn x1 x2 H locs hP hD hS ls hl h
      have h := f_X1_roomCount_4_s.symm.trans h
      refine lv_iload_n hx hb (kdr dgX1_roomCount_0 0 4 rfl rfl) rfl (lv_at hl 2 rfl) ?_
      refine lv_aload_n hx hb (kdr dgX1_roomCount_0 0 5 rfl rfl) rfl (lv_at hl 0 rfl) ?_
      refine va_get (D := (dC, dI)) (ci := 3) (v := .ref (a 6)) (C := RX1) (T := TX1) (N := 10) hx hb hts hiX1 hown hK hP 0 rfl rfl 4 (by decide) hw0 (fun _ h9 => h9) rfl (kdr dgX1_roomCount_0 0 6 rfl rfl) ?_
      obtain ⟨r1, g1, h⟩ := g_b h
      refine kq_i (wSB cI cJ cZ a ce fr un sb se so sc wb we wo wc fb fe fo fc rm ac rf kn) (fun qP qD qF => va_runV (As := []) (rest := [.int x2]) ⟨hx, hb, hml, hown, hts⟩ (c_X0_count l dC dI cB cI cJ cZ (a 6) (a 7) (a 8) (a 9) _ wb we wo wc  r1 g1) (kcwV hts kw_155 kv_X0_count rfl rfl ⟨(Nat.le_of_ble_eq_true rfl), (Nat.le_of_ble_eq_true rfl)⟩) (kpV (A := A) qP hK qD hG (krecv_2 (q0 := 6) hK hP rfl)) rfl rfl hl.1 rfl (lv_room (Nat.le_of_ble_eq_true rfl)) (kdr dgX1_roomCount_0 0 7 rfl rfl) ⟨(Nat.le_of_ble_eq_true rfl), (Nat.le_of_ble_eq_true rfl)⟩) hP hD hS hA kFr_SBw (fun H locs hP hD hS br1 => ?_)
      refine lv_icmp_ge (tgt := 34) hx hb (kdr dgX1_roomCount_0 0 8 rfl rfl) (by decide) (fun c2 => ?_) (fun c2 => ?_)
      · have h := g_t c2 h
        refine lv_iload_n hx hb (kdr dgX1_roomCount_0 2 0 rfl rfl) rfl (lv_at hl 1 rfl) ?_
        have h := Option.some.inj h
        subst h
        exact kret_i (v := x1) hx hb hr rfl hlocks hS hP (kdr dgX1_roomCount_0 2 1 rfl rfl)
      · have h := g_f c2 h
        refine lv_iload_n hx hb (kdr dgX1_roomCount_0 0 9 rfl rfl) rfl (lv_at hl 1 rfl) ?_
        refine lv_aload_n hx hb (kdr dgX1_roomCount_0 1 0 rfl rfl) rfl (lv_at hl 0 rfl) ?_
        refine va_get (D := (dC, dI)) (ci := 3) (v := .ref (a 14)) (C := RX1) (T := TX1) (N := 10) hx hb hts hiX1 hown hK hP 0 rfl rfl 6 (by decide) hw1 (fun _ h9 => h9) rfl (kdr dgX1_roomCount_0 1 1 rfl rfl) ?_
        refine lv_iload_n hx hb (kdr dgX1_roomCount_0 1 2 rfl rfl) rfl (lv_at hl 2 rfl) ?_
        obtain ⟨z2, h⟩ := g_if h
        refine va_iald hx hb hK hP 14 1 rfl rfl (ix_in z2) (kdr dgX1_roomCount_0 1 3 rfl rfl) ?_
        refine lv_iconst (v := 1) hx hb (kdr dgX1_roomCount_0 1 4 rfl rfl) (by decide) ?_
        refine lv_iadd hx hb (kdr dgX1_roomCount_0 1 5 rfl rfl) ?_
        refine va_mmax hx hb (hml.trans hl.1.symm) hown hw2 hw3 hw4 hw5 (Nat.le_of_ble_eq_true rfl) (Nat.le_of_ble_eq_true rfl) (Nat.le_of_ble_eq_true rfl) (Nat.le_of_ble_eq_true rfl) (kdr dgX1_roomCount_0 1 6 rfl rfl) ?_
        refine lv_istore_n (lv' := (kvI 1 (if x1 < ((rm x2.toNatClampNeg) + 1) then (rm x2.toNatClampNeg) + 1 else x1) (kvA 0 (a 0) (kvI 2 x2 kvE)))) hx hb (kdr dgX1_roomCount_0 1 7 rfl rfl) rfl hl (by decide) rfl (fun ls hl => ?_)
        refine lv_iinc (v := x2 + 1) (lv' := (kvI 2 (x2 + 1) (kvI 1 (if x1 < ((rm x2.toNatClampNeg) + 1) then (rm x2.toNatClampNeg) + 1 else x1) (kvA 0 (a 0) kvE)))) hx hb (kdr dgX1_roomCount_0 1 8 rfl rfl) hl (k := 2) rfl rfl (by decide) rfl (fun ls hl => ?_)
        refine lv_goto (tgt := 4) hx hb (kdr dgX1_roomCount_0 1 9 rfl rfl) (by decide) ?_
        exact ih ce fr un sb se so sc wb we wo wc fb fe fo fc rm ac rf kn (if x1 < ((rm x2.toNatClampNeg) + 1) then (rm x2.toNatClampNeg) + 1 else x1) (x2 + 1) _ _ hP hD hS ls (lv_sub hl [2, 1, 0] rfl) h
  have h := f_X1_roomCount_e.symm.trans hf
  refine lv_iconst (v := 0) hx hb (kdr dgX1_roomCount_0 0 0 rfl rfl) (by decide) ?_
  refine lv_istore_n (lv' := (kvI 1 0 (kvA 0 (a 0) kvE))) hx hb (kdr dgX1_roomCount_0 0 1 rfl rfl) rfl hl (by decide) rfl (fun ls hl => ?_)
  refine lv_iconst (v := 0) hx hb (kdr dgX1_roomCount_0 0 2 rfl rfl) (by decide) ?_
  refine lv_istore_n (lv' := (kvI 2 0 (kvI 1 0 (kvA 0 (a 0) kvE)))) hx hb (kdr dgX1_roomCount_0 0 3 rfl rfl) rfl hl (by decide) rfl (fun ls hl => ?_)
  exact J4 24 ce fr un sb se so sc wb we wo wc fb fe fo fc rm ac rf kn 0 0 _ _ hP hD hS ls (lv_sub hl [2, 1, 0] rfl) h
end
-- 09.face.lean.txt
section
noncomputable abbrev wsX1_needCell : List Cond := kWs yX1_needCell cX1_needCell 1 none
noncomputable def f_X1_needCell (p0 : Int32) : Option (Unit) :=
  (f_X1_isWithin p0 0 3).bind fun r1 =>
  if r1 = 0 then
    none
  else
    some ()
theorem f_X1_needCell_e {p0 : Int32} : f_X1_needCell p0 = 
  (f_X1_isWithin p0 0 3).bind fun r1 =>
  if r1 = 0 then
    none
  else
    some () := rfl
set_option maxHeartbeats 4000000 in
set_option maxRecDepth 100000 in
theorem c_X1_needCell (l : Launch) (dC : Nat → ClassId) (dI : Nat → Nat → Nat) (cB cI cJ cZ : ClassId) (sz : Nat) (p0 : Int32) (res : Unit) (hf : f_X1_needCell p0 = some res) : kMv l yX1_needCell wsX1_needCell (kRm 1 0 0 22) dC dI cB cI cJ cZ [.int p0] sz [] [] 0 0 := by
  refine kmet_v (y := yX1_needCell) (cc := cX1_needCell) (maxL := 1) (ret := none) RX1 (kvI 0 p0 kvE) kpl_X1 rfl rfl (Nat.le_of_ble_eq_true rfl) rfl (fun p e s m below meth c A ls hx hb hr hml hts hown hlocks hP hK hG hD hA hS hl => ?_)
  have h := f_X1_needCell_e.symm.trans hf
  refine lv_iload_n hx hb (kdr dgX1_needCell_0 0 0 rfl rfl) rfl (lv_at hl 0 rfl) ?_
  refine lv_iconst (v := 0) hx hb (kdr dgX1_needCell_0 0 1 rfl rfl) (by decide) ?_
  refine lv_iconst (v := 3) hx hb (kdr dgX1_needCell_0 0 2 rfl rfl) (by decide) ?_
  obtain ⟨r1, g1, h⟩ := g_b h
  refine kq_i [] (fun qP qD qF => va_runS (As := [.int p0, .int 0, .int 3]) (rest := []) ⟨hx, hb, hml, hown, hts⟩ (c_X1_isWithin l dC dI cB cI cJ cZ  _  p0 0 3 r1 g1) (kcwS hts kw_354 kv_X1_isWithin rfl rfl ⟨(Nat.le_of_ble_eq_true rfl), (Nat.le_of_ble_eq_true rfl)⟩) (kpS (A := A) (kPnil) hK ((kDnil (A := A))) hG) rfl rfl hl.1 rfl (lv_room (Nat.le_of_ble_eq_true rfl)) (kdr dgX1_needCell_0 0 3 rfl rfl) ⟨(Nat.le_of_ble_eq_true rfl), (Nat.le_of_ble_eq_true rfl)⟩) hP hD hS hA kFr_n (fun H locs hP hD hS br1 => ?_)
  refine lv_if_ne (tgt := 20) hx hb (kdr dgX1_needCell_0 0 4 rfl rfl) (by decide) (fun c2 => ?_) (fun c2 => ?_)
  · have h := g_f c2 h
    have h := Option.some.inj h
    subst h
    exact kret_v hx hb hr hlocks hS hP (kdr dgX1_needCell_0 1 0 rfl rfl)
  · have h := g_t c2 h
    cases h
noncomputable def fx_X1_needCell (p0 : Int32) : Option (Nat) :=
  (f_X1_isWithin p0 0 3).bind fun r1 =>
  if r1 = 0 then
    some 1
  else
    none
theorem fx_X1_needCell_e {p0 : Int32} : fx_X1_needCell p0 = 
  (f_X1_isWithin p0 0 3).bind fun r1 =>
  if r1 = 0 then
    some 1
  else
    none := rfl
set_option maxHeartbeats 4000000 in
set_option maxRecDepth 100000 in
theorem x_X1_needCell (l : Launch) (hl9 : l.stackTraces = false) (dC : Nat → ClassId) (dI : Nat → Nat → Nat) (cB cI cJ cZ : ClassId) (sz : Nat) (p0 : Int32) (res : Nat) (hf : fx_X1_needCell p0 = some res) : kMX l yX1_needCell wsX1_needCell (kRm 6 1 6 90) dC dI cB cI cJ cZ [.int p0] sz [] (res) [] 1 6 := by
  refine kmet_x (y := yX1_needCell) (cc := cX1_needCell) (maxL := 1) (ret := none) RX1 (kvI 0 p0 kvE) kpl_X1 rfl rfl (Nat.le_of_ble_eq_true rfl) rfl (fun p e s m below meth c A ls hx hb hr hml ht hts hown hlocks hP hK hG hZ hD hA hS hl => ?_)
  have hw0 := hts (.classLink RX1 266 "java/lang/IndexOutOfBoundsException") (List.mem_cons_of_mem _ kw_476)
  have hw1 := hts (.initialized "java/lang/IndexOutOfBoundsException") (List.mem_cons_of_mem _ kw_64)
  have h := fx_X1_needCell_e.symm.trans hf
  refine lv_iload_n hx hb (kdr dgX1_needCell_0 0 0 rfl rfl) rfl (lv_at hl 0 rfl) ?_
  refine lv_iconst (v := 0) hx hb (kdr dgX1_needCell_0 0 1 rfl rfl) (by decide) ?_
  refine lv_iconst (v := 3) hx hb (kdr dgX1_needCell_0 0 2 rfl rfl) (by decide) ?_
  obtain ⟨r1, g1, h⟩ := g_b h
  refine kq_i [] (fun qP qD qF => va_runS (As := [.int p0, .int 0, .int 3]) (rest := []) ⟨hx, hb, hml, hown, hts⟩ (c_X1_isWithin l dC dI cB cI cJ cZ  _  p0 0 3 r1 g1) (kcwS hts kw_354 kv_X1_isWithin rfl rfl ⟨(Nat.le_of_ble_eq_true rfl), (Nat.le_of_ble_eq_true rfl)⟩) (kpS (A := A) (kPnil) hK ((kDnil (A := A))) hG) rfl rfl hl.1 rfl (lv_room (Nat.le_of_ble_eq_true rfl)) (kdr dgX1_needCell_0 0 3 rfl rfl) ⟨(Nat.le_of_ble_eq_true rfl), (Nat.le_of_ble_eq_true rfl)⟩) hP hD hS hA kFr_n (fun H locs hP hD hS br1 => ?_)
  refine lv_if_ne (tgt := 20) hx hb (kdr dgX1_needCell_0 0 4 rfl rfl) (by decide) (fun c2 => ?_) (fun c2 => ?_)
  · have h := g_f c2 h
    cases h
  · have h := g_t c2 h
    have h := Option.some.inj h
    subst h
    obtain ⟨sa, hstr⟩ := hZ.2.2.1
    exact vx_throwSW (cls := "java/lang/IndexOutOfBoundsException") (names := kN) (own := RX1) (A := A) hx hb hl9 hown (by decide +kernel) (by decide +kernel) hw0 hw1 hstr (kats hts hG kat_c) (kgoods kw_476 kw_64 kat_c) hZ.1 hZ.2.1 hS (hl.1.trans hml.symm) (kdr dgX1_needCell_0 0 5 rfl rfl) (kdr dgX1_needCell_0 0 6 rfl rfl) (kdr dgX1_needCell_0 0 7 rfl rfl) (kdr dgX1_needCell_0 0 8 rfl rfl) (kdr dgX1_needCell_0 0 9 rfl rfl) (fun x hx => (ht x hx).elim) (Nat.le_of_ble_eq_true rfl) (Nat.le_of_ble_eq_true rfl) (Nat.le_of_ble_eq_true rfl) (Nat.le_of_ble_eq_true rfl) hlocks (fun t _ h2 h3 => kX_of rfl hP hS h2 h3) hS.2.2 (Nat.le_of_ble_eq_true rfl) (Nat.le_of_ble_eq_true rfl)
noncomputable abbrev wsX1_needNumberIn : List Cond := kWs yX1_needNumberIn cX1_needNumberIn 2 none
noncomputable def f_X1_needNumberIn (rc : Int32) (p1 : Int32) : Option (Unit) :=
  (f_X0_count rc).bind fun r1 =>
  (f_X1_isWithin p1 0 (r1 - 1)).bind fun r2 =>
  if r2 = 0 then
    none
  else
    some ()
theorem f_X1_needNumberIn_e {rc : Int32} {p1 : Int32} : f_X1_needNumberIn rc p1 = 
  (f_X0_count rc).bind fun r1 =>
  (f_X1_isWithin p1 0 (r1 - 1)).bind fun r2 =>
  if r2 = 0 then
    none
  else
    some () := rfl
set_option maxHeartbeats 4000000 in
set_option maxRecDepth 100000 in
theorem c_X1_needNumberIn (l : Launch) (dC : Nat → ClassId) (dI : Nat → Nat → Nat) (cB cI cJ cZ : ClassId) (h0 : Nat) (h1 : Nat) (h2 : Nat) (h3 : Nat) (sz : Nat) (rb : Nat → Int64) (re : Nat → Int64) (ro : Nat → Int32) (rc : Int32) (p1 : Int32) (res : Unit) (hf : f_X1_needNumberIn rc p1 = some res) : kMv l yX1_needNumberIn wsX1_needNumberIn (kRm 1 0 0 22) dC dI cB cI cJ cZ [.ref h0, .int p1] sz (wRow cJ cZ h0 h1 h2 h3 rb re ro rc) (wRow cJ cZ h0 h1 h2 h3 rb re ro rc) 0 0 := by
  refine kmet_v (y := yX1_needNumberIn) (cc := cX1_needNumberIn) (maxL := 2) (ret := none) RX1 (kvA 0 h0 (kvI 1 p1 kvE)) kpl_X1 rfl rfl (Nat.le_of_ble_eq_true rfl) rfl (fun p e s m below meth c A ls hx hb hr hml hts hown hlocks hP hK hG hD hA hS hl => ?_)
  have h := f_X1_needNumberIn_e.symm.trans hf
  refine lv_iload_n hx hb (kdr dgX1_needNumberIn_0 0 0 rfl rfl) rfl (lv_at hl 1 rfl) ?_
  refine lv_iconst (v := 0) hx hb (kdr dgX1_needNumberIn_0 0 1 rfl rfl) (by decide) ?_
  refine lv_aload_n hx hb (kdr dgX1_needNumberIn_0 0 2 rfl rfl) rfl (lv_at hl 0 rfl) ?_
  obtain ⟨r1, g1, h⟩ := g_b h
  refine kq_i (wRow cJ cZ h0 h1 h2 h3 rb re ro rc) (fun qP qD qF => va_runV (As := []) (rest := [.int 0, .int p1]) ⟨hx, hb, hml, hown, hts⟩ (c_X0_count l dC dI cB cI cJ cZ h0 h1 h2 h3 _ rb re ro rc  r1 g1) (kcwV hts kw_155 kv_X0_count rfl rfl ⟨(Nat.le_of_ble_eq_true rfl), (Nat.le_of_ble_eq_true rfl)⟩) (kpV (A := A) qP hK qD hG (krecv_2 (q0 := 0) hK hP rfl)) rfl rfl hl.1 rfl (lv_room (Nat.le_of_ble_eq_true rfl)) (kdr dgX1_needNumberIn_0 0 3 rfl rfl) ⟨(Nat.le_of_ble_eq_true rfl), (Nat.le_of_ble_eq_true rfl)⟩) hP hD hS hA kFr_Row (fun H locs hP hD hS br1 => ?_)
  refine lv_iconst (v := 1) hx hb (kdr dgX1_needNumberIn_0 0 4 rfl rfl) (by decide) ?_
  refine lv_isub hx hb (kdr dgX1_needNumberIn_0 0 5 rfl rfl) ?_
  obtain ⟨r2, g2, h⟩ := g_b h
  refine kq_i (wRow cJ cZ h0 h1 h2 h3 rb re ro rc) (fun qP qD qF => va_runS (As := [.int p1, .int 0, .int (r1 - 1)]) (rest := []) ⟨hx, hb, hml, hown, hts⟩ (c_X1_isWithin l dC dI cB cI cJ cZ  _  p1 0 (r1 - 1) r2 g2) (kcwS hts kw_354 kv_X1_isWithin rfl rfl ⟨(Nat.le_of_ble_eq_true rfl), (Nat.le_of_ble_eq_true rfl)⟩) (kpS (A := A) (kPnil) hK ((kDnil (A := A))) hG) rfl rfl hl.1 rfl (lv_room (Nat.le_of_ble_eq_true rfl)) (kdr dgX1_needNumberIn_0 0 6 rfl rfl) ⟨(Nat.le_of_ble_eq_true rfl), (Nat.le_of_ble_eq_true rfl)⟩) hP hD hS hA kFr_n (fun H locs hP hD hS br2 => ?_)
  refine lv_if_ne (tgt := 25) hx hb (kdr dgX1_needNumberIn_0 0 7 rfl rfl) (by decide) (fun c3 => ?_) (fun c3 => ?_)
  · have h := g_f c3 h
    have h := Option.some.inj h
    subst h
    exact kret_v hx hb hr hlocks hS hP (kdr dgX1_needNumberIn_0 1 3 rfl rfl)
  · have h := g_t c3 h
    cases h
noncomputable def fx_X1_needNumberIn (rc : Int32) (p1 : Int32) : Option (Nat) :=
  (f_X0_count rc).bind fun r1 =>
  (f_X1_isWithin p1 0 (r1 - 1)).bind fun r2 =>
  if r2 = 0 then
    some 1
  else
    none
theorem fx_X1_needNumberIn_e {rc : Int32} {p1 : Int32} : fx_X1_needNumberIn rc p1 = 
  (f_X0_count rc).bind fun r1 =>
  (f_X1_isWithin p1 0 (r1 - 1)).bind fun r2 =>
  if r2 = 0 then
    some 1
  else
    none := rfl
set_option maxHeartbeats 4000000 in
set_option maxRecDepth 100000 in
theorem x_X1_needNumberIn (l : Launch) (hl9 : l.stackTraces = false) (dC : Nat → ClassId) (dI : Nat → Nat → Nat) (cB cI cJ cZ : ClassId) (h0 : Nat) (h1 : Nat) (h2 : Nat) (h3 : Nat) (sz : Nat) (rb : Nat → Int64) (re : Nat → Int64) (ro : Nat → Int32) (rc : Int32) (p1 : Int32) (res : Nat) (hf : fx_X1_needNumberIn rc p1 = some res) : kMX l yX1_needNumberIn wsX1_needNumberIn (kRm 6 1 6 90) dC dI cB cI cJ cZ [.ref h0, .int p1] sz (wRow cJ cZ h0 h1 h2 h3 rb re ro rc) (res) (wRow cJ cZ h0 h1 h2 h3 rb re ro rc) 1 6 := by
  refine kmet_x (y := yX1_needNumberIn) (cc := cX1_needNumberIn) (maxL := 2) (ret := none) RX1 (kvA 0 h0 (kvI 1 p1 kvE)) kpl_X1 rfl rfl (Nat.le_of_ble_eq_true rfl) rfl (fun p e s m below meth c A ls hx hb hr hml ht hts hown hlocks hP hK hG hZ hD hA hS hl => ?_)
  have hw0 := hts (.classLink RX1 266 "java/lang/IndexOutOfBoundsException") (List.mem_cons_of_mem _ kw_476)
  have hw1 := hts (.initialized "java/lang/IndexOutOfBoundsException") (List.mem_cons_of_mem _ kw_64)
  have h := fx_X1_needNumberIn_e.symm.trans hf
  refine lv_iload_n hx hb (kdr dgX1_needNumberIn_0 0 0 rfl rfl) rfl (lv_at hl 1 rfl) ?_
  refine lv_iconst (v := 0) hx hb (kdr dgX1_needNumberIn_0 0 1 rfl rfl) (by decide) ?_
  refine lv_aload_n hx hb (kdr dgX1_needNumberIn_0 0 2 rfl rfl) rfl (lv_at hl 0 rfl) ?_
  obtain ⟨r1, g1, h⟩ := g_b h
  refine kq_i (wRow cJ cZ h0 h1 h2 h3 rb re ro rc) (fun qP qD qF => va_runV (As := []) (rest := [.int 0, .int p1]) ⟨hx, hb, hml, hown, hts⟩ (c_X0_count l dC dI cB cI cJ cZ h0 h1 h2 h3 _ rb re ro rc  r1 g1) (kcwV hts kw_155 kv_X0_count rfl rfl ⟨(Nat.le_of_ble_eq_true rfl), (Nat.le_of_ble_eq_true rfl)⟩) (kpV (A := A) qP hK qD hG (krecv_2 (q0 := 0) hK hP rfl)) rfl rfl hl.1 rfl (lv_room (Nat.le_of_ble_eq_true rfl)) (kdr dgX1_needNumberIn_0 0 3 rfl rfl) ⟨(Nat.le_of_ble_eq_true rfl), (Nat.le_of_ble_eq_true rfl)⟩) hP hD hS hA kFr_Row (fun H locs hP hD hS br1 => ?_)
  refine lv_iconst (v := 1) hx hb (kdr dgX1_needNumberIn_0 0 4 rfl rfl) (by decide) ?_
  refine lv_isub hx hb (kdr dgX1_needNumberIn_0 0 5 rfl rfl) ?_
  obtain ⟨r2, g2, h⟩ := g_b h
  refine kq_i (wRow cJ cZ h0 h1 h2 h3 rb re ro rc) (fun qP qD qF => va_runS (As := [.int p1, .int 0, .int (r1 - 1)]) (rest := []) ⟨hx, hb, hml, hown, hts⟩ (c_X1_isWithin l dC dI cB cI cJ cZ  _  p1 0 (r1 - 1) r2 g2) (kcwS hts kw_354 kv_X1_isWithin rfl rfl ⟨(Nat.le_of_ble_eq_true rfl), (Nat.le_of_ble_eq_true rfl)⟩) (kpS (A := A) (kPnil) hK ((kDnil (A := A))) hG) rfl rfl hl.1 rfl (lv_room (Nat.le_of_ble_eq_true rfl)) (kdr dgX1_needNumberIn_0 0 6 rfl rfl) ⟨(Nat.le_of_ble_eq_true rfl), (Nat.le_of_ble_eq_true rfl)⟩) hP hD hS hA kFr_n (fun H locs hP hD hS br2 => ?_)
  refine lv_if_ne (tgt := 25) hx hb (kdr dgX1_needNumberIn_0 0 7 rfl rfl) (by decide) (fun c3 => ?_) (fun c3 => ?_)
  · have h := g_f c3 h
    cases h
  · have h := g_t c3 h
    have h := Option.some.inj h
    subst h
    obtain ⟨sa, hstr⟩ := hZ.2.2.2.1
    exact vx_throwSW (cls := "java/lang/IndexOutOfBoundsException") (names := kN) (own := RX1) (A := A) hx hb hl9 hown (by decide +kernel) (by decide +kernel) hw0 hw1 hstr (kats hts hG kat_c) (kgoods kw_476 kw_64 kat_c) hZ.1 hZ.2.1 hS (hl.1.trans hml.symm) (kdr dgX1_needNumberIn_0 0 8 rfl rfl) (kdr dgX1_needNumberIn_0 0 9 rfl rfl) (kdr dgX1_needNumberIn_0 1 0 rfl rfl) (kdr dgX1_needNumberIn_0 1 1 rfl rfl) (kdr dgX1_needNumberIn_0 1 2 rfl rfl) (fun x hx => (ht x hx).elim) (Nat.le_of_ble_eq_true rfl) (Nat.le_of_ble_eq_true rfl) (Nat.le_of_ble_eq_true rfl) (Nat.le_of_ble_eq_true rfl) hlocks (fun t _ h2 h3 => kX_of rfl hP hS h2 h3) hS.2.2 (Nat.le_of_ble_eq_true rfl) (Nat.le_of_ble_eq_true rfl)
noncomputable abbrev wsX1_needThat : List Cond := kWs yX1_needThat cX1_needThat 1 none
noncomputable def f_X1_needThat (p0 : Int32) : Option (Unit) :=
  if p0 = 0 then
    none
  else
    some ()
theorem f_X1_needThat_e {p0 : Int32} : f_X1_needThat p0 = 
  if p0 = 0 then
    none
  else
    some () := rfl
set_option maxHeartbeats 4000000 in
set_option maxRecDepth 100000 in
theorem c_X1_needThat (l : Launch) (dC : Nat → ClassId) (dI : Nat → Nat → Nat) (cB cI cJ cZ : ClassId) (sz : Nat) (p0 : Int32) (res : Unit) (hf : f_X1_needThat p0 = some res) : kMv l yX1_needThat wsX1_needThat (kRm 0 0 0 0) dC dI cB cI cJ cZ [.int p0] sz [] [] 0 0 := by
  refine kmet_v (y := yX1_needThat) (cc := cX1_needThat) (maxL := 1) (ret := none) RX1 (kvI 0 p0 kvE) kpl_X1 rfl rfl (Nat.le_of_ble_eq_true rfl) rfl (fun p e s m below meth c A ls hx hb hr hml hts hown hlocks hP hK hG hD hA hS hl => ?_)
  have h := f_X1_needThat_e.symm.trans hf
  refine lv_iload_n hx hb (kdr dgX1_needThat_0 0 0 rfl rfl) rfl (lv_at hl 0 rfl) ?_
  refine lv_if_ne (tgt := 15) hx hb (kdr dgX1_needThat_0 0 1 rfl rfl) (by decide) (fun c1 => ?_) (fun c1 => ?_)
  · have h := g_f c1 h
    have h := Option.some.inj h
    subst h
    exact kret_v hx hb hr hlocks hS hP (kdr dgX1_needThat_0 0 7 rfl rfl)
  · have h := g_t c1 h
    cases h
noncomputable def fx_X1_needThat (p0 : Int32) : Option (Nat) :=
  if p0 = 0 then
    some 2
  else
    none
theorem fx_X1_needThat_e {p0 : Int32} : fx_X1_needThat p0 = 
  if p0 = 0 then
    some 2
  else
    none := rfl
set_option maxHeartbeats 4000000 in
set_option maxRecDepth 100000 in
theorem x_X1_needThat (l : Launch) (hl9 : l.stackTraces = false) (dC : Nat → ClassId) (dI : Nat → Nat → Nat) (cB cI cJ cZ : ClassId) (sz : Nat) (p0 : Int32) (res : Nat) (hf : fx_X1_needThat p0 = some res) : kMX l yX1_needThat wsX1_needThat (kRm 6 1 6 90) dC dI cB cI cJ cZ [.int p0] sz [] (res) [] 1 6 := by
  refine kmet_x (y := yX1_needThat) (cc := cX1_needThat) (maxL := 1) (ret := none) RX1 (kvI 0 p0 kvE) kpl_X1 rfl rfl (Nat.le_of_ble_eq_true rfl) rfl (fun p e s m below meth c A ls hx hb hr hml ht hts hown hlocks hP hK hG hZ hD hA hS hl => ?_)
  have hw0 := hts (.classLink RX1 275 "java/lang/IllegalArgumentException") (List.mem_cons_of_mem _ kw_360)
  have hw1 := hts (.initialized "java/lang/IllegalArgumentException") (List.mem_cons_of_mem _ kw_65)
  have h := fx_X1_needThat_e.symm.trans hf
  refine lv_iload_n hx hb (kdr dgX1_needThat_0 0 0 rfl rfl) rfl (lv_at hl 0 rfl) ?_
  refine lv_if_ne (tgt := 15) hx hb (kdr dgX1_needThat_0 0 1 rfl rfl) (by decide) (fun c1 => ?_) (fun c1 => ?_)
  · have h := g_f c1 h
    cases h
  · have h := g_t c1 h
    have h := Option.some.inj h
    subst h
    obtain ⟨sa, hstr⟩ := hZ.2.2.2.2.1
    exact vx_throwSW (cls := "java/lang/IllegalArgumentException") (names := kN) (own := RX1) (A := A) hx hb hl9 hown (by decide +kernel) (by decide +kernel) hw0 hw1 hstr (kats hts hG kat_a) (kgoods kw_360 kw_65 kat_a) hZ.1 hZ.2.1 hS (hl.1.trans hml.symm) (kdr dgX1_needThat_0 0 2 rfl rfl) (kdr dgX1_needThat_0 0 3 rfl rfl) (kdr dgX1_needThat_0 0 4 rfl rfl) (kdr dgX1_needThat_0 0 5 rfl rfl) (kdr dgX1_needThat_0 0 6 rfl rfl) (fun x hx => (ht x hx).elim) (Nat.le_of_ble_eq_true rfl) (Nat.le_of_ble_eq_true rfl) (Nat.le_of_ble_eq_true rfl) (Nat.le_of_ble_eq_true rfl) hlocks (fun t _ h2 h3 => kX_of rfl hP hS h2 h3) hS.2.2 (Nat.le_of_ble_eq_true rfl) (Nat.le_of_ble_eq_true rfl)
noncomputable abbrev wsX1_needUnits : List Cond := kWs yX1_needUnits cX1_needUnits 3 none
noncomputable def f_X1_needUnits_24 (y0 : Int32) : Option (Unit) :=
  (f_X1_needThat y0).bind fun r1 =>
  some ()
theorem f_X1_needUnits_24_e {y0 : Int32} : f_X1_needUnits_24 y0 =
  (f_X1_needThat y0).bind fun r1 =>
  some () := rfl
noncomputable def f_X1_needUnits_23 : Option (Unit) :=
  f_X1_needUnits_24 0
theorem f_X1_needUnits_23_e : f_X1_needUnits_23 =
  f_X1_needUnits_24 0 := rfl
noncomputable def f_X1_needUnits (p0 : Int32) (p1 : Int32) (p2 : Int32) : Option (Unit) :=
  (f_X1_isWithin p0 0 2).bind fun r1 =>
  if r1 = 0 then
    f_X1_needUnits_23
  else
    (f_X1_isWithin p1 p2 2000000000).bind fun r3 =>
    if r3 = 0 then
      f_X1_needUnits_23
    else
      f_X1_needUnits_24 1
theorem f_X1_needUnits_e {p0 : Int32} {p1 : Int32} {p2 : Int32} : f_X1_needUnits p0 p1 p2 = 
  (f_X1_isWithin p0 0 2).bind fun r1 =>
  if r1 = 0 then
    f_X1_needUnits_23
  else
    (f_X1_isWithin p1 p2 2000000000).bind fun r3 =>
    if r3 = 0 then
      f_X1_needUnits_23
    else
      f_X1_needUnits_24 1 := rfl
set_option maxHeartbeats 4000000 in
set_option maxRecDepth 100000 in
theorem c_X1_needUnits (l : Launch) (dC : Nat → ClassId) (dI : Nat → Nat → Nat) (cB cI cJ cZ : ClassId) (sz : Nat) (p0 : Int32) (p1 : Int32) (p2 : Int32) (res : Unit) (hf : f_X1_needUnits p0 p1 p2 = some res) : kMv l yX1_needUnits wsX1_needUnits (kRm 1 0 0 22) dC dI cB cI cJ cZ [.int p0, .int p1, .int p2] sz [] [] 0 0 := by
  refine kmet_v (y := yX1_needUnits) (cc := cX1_needUnits) (maxL := 3) (ret := none) RX1 (kvI 0 p0 (kvI 1 p1 (kvI 2 p2 kvE))) kpl_X1 rfl rfl (Nat.le_of_ble_eq_true rfl) rfl (fun p e s m below meth c A ls hx hb hr hml hts hown hlocks hP hK hG hD hA hS hl => ?_)
  have hw0 := hts (.constant RX1 50 (2000000000)) (List.mem_cons_of_mem _ kw_495)
  have J24 : ∀ (y0 : Int32) (H : Heap) (locs : List Loc), va_P (dC, dI) vwCl [] H → va_D A [] → va_S A s.heap H locs → ∀ (ls : Array Slot), lv_has ls 3 kvE → f_X1_needUnits_24 y0 = some res → W p l e (headSpec wsX1_needUnits (kRm 1 0 0 22)).room s m ([.int p0, .int p1, .int p2] : List Value).toArray below meth c H locs 0 0 (MQ below (kV (dC, dI) [] A) ([.int p0, .int p1, .int p2] : List Value).toArray s 0 0 A) (F0 m 24 ls [.int y0]) := by
    intro y0 H locs hP hD hS ls hl h
    have h := f_X1_needUnits_24_e.symm.trans h
    obtain ⟨r1, g1, h⟩ := g_b h
    refine kq_v [] (fun qP qD qF => va_runS (As := [.int y0]) (rest := []) ⟨hx, hb, hml, hown, hts⟩ (c_X1_needThat l dC dI cB cI cJ cZ  _  y0 r1 g1) (kcwS hts kw_357 kv_X1_needThat rfl rfl ⟨(Nat.le_of_ble_eq_true rfl), (Nat.le_of_ble_eq_true rfl)⟩) (kpS (A := A) (kPnil) hK ((kDnil (A := A))) hG) rfl rfl hl.1 rfl (lv_room (Nat.le_of_ble_eq_true rfl)) (kdr dgX1_needUnits_0 1 3 rfl rfl) ⟨(Nat.le_of_ble_eq_true rfl), (Nat.le_of_ble_eq_true rfl)⟩) hP hD hS hA kFr_n (fun H locs hP hD hS => ?_)
    have h := Option.some.inj h
    subst h
    exact kret_v hx hb hr hlocks hS hP (kdr dgX1_needUnits_0 1 4 rfl rfl)
  have J23 : ∀ (H : Heap) (locs : List Loc), va_P (dC, dI) vwCl [] H → va_D A [] → va_S A s.heap H locs → ∀ (ls : Array Slot), lv_has ls 3 kvE → f_X1_needUnits_23  = some res → W p l e (headSpec wsX1_needUnits (kRm 1 0 0 22)).room s m ([.int p0, .int p1, .int p2] : List Value).toArray below meth c H locs 0 0 (MQ below (kV (dC, dI) [] A) ([.int p0, .int p1, .int p2] : List Value).toArray s 0 0 A) (F0 m 23 ls []) := by
    intro  H locs hP hD hS ls hl h
    have h := f_X1_needUnits_23_e.symm.trans h
    refine lv_iconst (v := 0) hx hb (kdr dgX1_needUnits_0 1 2 rfl rfl) (by decide) ?_
    exact J24 0 _ _ hP hD hS ls (lv_sub hl [] rfl) h
  have h := f_X1_needUnits_e.symm.trans hf
  refine lv_iload_n hx hb (kdr dgX1_needUnits_0 0 0 rfl rfl) rfl (lv_at hl 0 rfl) ?_
  refine lv_iconst (v := 0) hx hb (kdr dgX1_needUnits_0 0 1 rfl rfl) (by decide) ?_
  refine lv_iconst (v := 2) hx hb (kdr dgX1_needUnits_0 0 2 rfl rfl) (by decide) ?_
  obtain ⟨r1, g1, h⟩ := g_b h
  refine kq_i [] (fun qP qD qF => va_runS (As := [.int p0, .int 0, .int 2]) (rest := []) ⟨hx, hb, hml, hown, hts⟩ (c_X1_isWithin l dC dI cB cI cJ cZ  _  p0 0 2 r1 g1) (kcwS hts kw_354 kv_X1_isWithin rfl rfl ⟨(Nat.le_of_ble_eq_true rfl), (Nat.le_of_ble_eq_true rfl)⟩) (kpS (A := A) (kPnil) hK ((kDnil (A := A))) hG) rfl rfl hl.1 rfl (lv_room (Nat.le_of_ble_eq_true rfl)) (kdr dgX1_needUnits_0 0 3 rfl rfl) ⟨(Nat.le_of_ble_eq_true rfl), (Nat.le_of_ble_eq_true rfl)⟩) hP hD hS hA kFr_n (fun H locs hP hD hS br1 => ?_)
  refine lv_if_eq (tgt := 23) hx hb (kdr dgX1_needUnits_0 0 4 rfl rfl) (by decide) (fun c2 => ?_) (fun c2 => ?_)
  · have h := g_t c2 h
    exact J23  _ _ hP hD hS ls (lv_sub hl [] rfl) h
  · have h := g_f c2 h
    refine lv_iload_n hx hb (kdr dgX1_needUnits_0 0 5 rfl rfl) rfl (lv_at hl 1 rfl) ?_
    refine lv_iload_n hx hb (kdr dgX1_needUnits_0 0 6 rfl rfl) rfl (lv_at hl 2 rfl) ?_
    refine lv_ldc (v := (2000000000)) hx hb hown hw0 (kdr dgX1_needUnits_0 0 7 rfl rfl) ?_
    obtain ⟨r3, g3, h⟩ := g_b h
    refine kq_i [] (fun qP qD qF => va_runS (As := [.int p1, .int p2, .int 2000000000]) (rest := []) ⟨hx, hb, hml, hown, hts⟩ (c_X1_isWithin l dC dI cB cI cJ cZ  _  p1 p2 2000000000 r3 g3) (kcwS hts kw_354 kv_X1_isWithin rfl rfl ⟨(Nat.le_of_ble_eq_true rfl), (Nat.le_of_ble_eq_true rfl)⟩) (kpS (A := A) (kPnil) hK ((kDnil (A := A))) hG) rfl rfl hl.1 rfl (lv_room (Nat.le_of_ble_eq_true rfl)) (kdr dgX1_needUnits_0 0 8 rfl rfl) ⟨(Nat.le_of_ble_eq_true rfl), (Nat.le_of_ble_eq_true rfl)⟩) hP hD hS hA kFr_n (fun H locs hP hD hS br3 => ?_)
    refine lv_if_eq (tgt := 23) hx hb (kdr dgX1_needUnits_0 0 9 rfl rfl) (by decide) (fun c4 => ?_) (fun c4 => ?_)
    · have h := g_t c4 h
      exact J23  _ _ hP hD hS ls (lv_sub hl [] rfl) h
    · have h := g_f c4 h
      refine lv_iconst (v := 1) hx hb (kdr dgX1_needUnits_0 1 0 rfl rfl) (by decide) ?_
      refine lv_goto (tgt := 24) hx hb (kdr dgX1_needUnits_0 1 1 rfl rfl) (by decide) ?_
      exact J24 1 _ _ hP hD hS ls (lv_sub hl [] rfl) h
noncomputable def fx_X1_needUnits_24 (y0 : Int32) : Option (Nat) :=
  xb (fx_X1_needThat y0) (fun k1 => some k1) (
  none)
theorem fx_X1_needUnits_24_e {y0 : Int32} : fx_X1_needUnits_24 y0 =
  xb (fx_X1_needThat y0) (fun k1 => some k1) (
  none) := rfl
noncomputable def fx_X1_needUnits_23 : Option (Nat) :=
  fx_X1_needUnits_24 0
theorem fx_X1_needUnits_23_e : fx_X1_needUnits_23 =
  fx_X1_needUnits_24 0 := rfl
noncomputable def fx_X1_needUnits (p0 : Int32) (p1 : Int32) (p2 : Int32) : Option (Nat) :=
  (f_X1_isWithin p0 0 2).bind fun r1 =>
  if r1 = 0 then
    fx_X1_needUnits_23
  else
    (f_X1_isWithin p1 p2 2000000000).bind fun r3 =>
    if r3 = 0 then
      fx_X1_needUnits_23
    else
      fx_X1_needUnits_24 1
theorem fx_X1_needUnits_e {p0 : Int32} {p1 : Int32} {p2 : Int32} : fx_X1_needUnits p0 p1 p2 = 
  (f_X1_isWithin p0 0 2).bind fun r1 =>
  if r1 = 0 then
    fx_X1_needUnits_23
  else
    (f_X1_isWithin p1 p2 2000000000).bind fun r3 =>
    if r3 = 0 then
      fx_X1_needUnits_23
    else
      fx_X1_needUnits_24 1 := rfl
set_option maxHeartbeats 4000000 in
set_option maxRecDepth 100000 in
theorem x_X1_needUnits (l : Launch) (hl9 : l.stackTraces = false) (dC : Nat → ClassId) (dI : Nat → Nat → Nat) (cB cI cJ cZ : ClassId) (sz : Nat) (p0 : Int32) (p1 : Int32) (p2 : Int32) (res : Nat) (hf : fx_X1_needUnits p0 p1 p2 = some res) : kMX l yX1_needUnits wsX1_needUnits (kRm 7 1 6 110) dC dI cB cI cJ cZ [.int p0, .int p1, .int p2] sz [] (res) [] 1 6 := by
  refine kmet_x (y := yX1_needUnits) (cc := cX1_needUnits) (maxL := 3) (ret := none) RX1 (kvI 0 p0 (kvI 1 p1 (kvI 2 p2 kvE))) kpl_X1 rfl rfl (Nat.le_of_ble_eq_true rfl) rfl (fun p e s m below meth c A ls hx hb hr hml ht hts hown hlocks hP hK hG hZ hD hA hS hl => ?_)
  have hw0 := hts (.constant RX1 50 (2000000000)) (List.mem_cons_of_mem _ kw_495)
  have J24 : ∀ (y0 : Int32) (H : Heap) (locs : List Loc), va_P (dC, dI) vwCl [] H → va_D A [] → va_S A s.heap H locs → ∀ (ls : Array Slot), lv_has ls 3 kvE → fx_X1_needUnits_24 y0 = some res → W p l e (headSpec wsX1_needUnits (kRm 7 1 6 110)).room s m ([.int p0, .int p1, .int p2] : List Value).toArray below meth c H locs 0 0 (vx_MQ below kNo (kX (dC, dI) (res) [] A) ([.int p0, .int p1, .int p2] : List Value).toArray s 1 6 A) (F0 m 24 ls [.int y0]) := by
    intro y0 H locs hP hD hS ls hl h
    have h := fx_X1_needUnits_24_e.symm.trans h
    rcases g_x h with ⟨k1, j1, h⟩ | ⟨-, h⟩
    · have h := Option.some.inj h
      subst h
      exact kq_x [] (fun qP qD qF => vx_runS (As := [.int y0]) (rest := []) ⟨hx, hb, hml, hown, hts⟩ (x_X1_needThat l hl9 dC dI cB cI cJ cZ  _  y0 k1 j1) (kcwS hts kw_357 kv_X1_needThat rfl rfl ⟨(Nat.le_of_ble_eq_true rfl), (Nat.le_of_ble_eq_true rfl)⟩) (kpSXq (A := A) (kPnil) hK ((kDnil (A := A))) hG hZ hS qF) rfl rfl hl.1 rfl (lv_room (Nat.le_of_ble_eq_true rfl)) (kdr dgX1_needUnits_0 1 3 rfl rfl) ⟨(Nat.le_of_ble_eq_true rfl), (Nat.le_of_ble_eq_true rfl)⟩) hP hD hS hA kFr_n ht hlocks (Nat.le_of_ble_eq_true rfl) (Nat.le_of_ble_eq_true rfl)
    · cases h
  have J23 : ∀ (H : Heap) (locs : List Loc), va_P (dC, dI) vwCl [] H → va_D A [] → va_S A s.heap H locs → ∀ (ls : Array Slot), lv_has ls 3 kvE → fx_X1_needUnits_23  = some res → W p l e (headSpec wsX1_needUnits (kRm 7 1 6 110)).room s m ([.int p0, .int p1, .int p2] : List Value).toArray below meth c H locs 0 0 (vx_MQ below kNo (kX (dC, dI) (res) [] A) ([.int p0, .int p1, .int p2] : List Value).toArray s 1 6 A) (F0 m 23 ls []) := by
    intro  H locs hP hD hS ls hl h
    have h := fx_X1_needUnits_23_e.symm.trans h
    refine lv_iconst (v := 0) hx hb (kdr dgX1_needUnits_0 1 2 rfl rfl) (by decide) ?_
    exact J24 0 _ _ hP hD hS ls (lv_sub hl [] rfl) h
  have h := fx_X1_needUnits_e.symm.trans hf
  refine lv_iload_n hx hb (kdr dgX1_needUnits_0 0 0 rfl rfl) rfl (lv_at hl 0 rfl) ?_
  refine lv_iconst (v := 0) hx hb (kdr dgX1_needUnits_0 0 1 rfl rfl) (by decide) ?_
  refine lv_iconst (v := 2) hx hb (kdr dgX1_needUnits_0 0 2 rfl rfl) (by decide) ?_
  obtain ⟨r1, g1, h⟩ := g_b h
  refine kq_i [] (fun qP qD qF => va_runS (As := [.int p0, .int 0, .int 2]) (rest := []) ⟨hx, hb, hml, hown, hts⟩ (c_X1_isWithin l dC dI cB cI cJ cZ  _  p0 0 2 r1 g1) (kcwS hts kw_354 kv_X1_isWithin rfl rfl ⟨(Nat.le_of_ble_eq_true rfl), (Nat.le_of_ble_eq_true rfl)⟩) (kpS (A := A) (kPnil) hK ((kDnil (A := A))) hG) rfl rfl hl.1 rfl (lv_room (Nat.le_of_ble_eq_true rfl)) (kdr dgX1_needUnits_0 0 3 rfl rfl) ⟨(Nat.le_of_ble_eq_true rfl), (Nat.le_of_ble_eq_true rfl)⟩) hP hD hS hA kFr_n (fun H locs hP hD hS br1 => ?_)
  refine lv_if_eq (tgt := 23) hx hb (kdr dgX1_needUnits_0 0 4 rfl rfl) (by decide) (fun c2 => ?_) (fun c2 => ?_)
  · have h := g_t c2 h
    exact J23  _ _ hP hD hS ls (lv_sub hl [] rfl) h
  · have h := g_f c2 h
    refine lv_iload_n hx hb (kdr dgX1_needUnits_0 0 5 rfl rfl) rfl (lv_at hl 1 rfl) ?_
    refine lv_iload_n hx hb (kdr dgX1_needUnits_0 0 6 rfl rfl) rfl (lv_at hl 2 rfl) ?_
    refine lv_ldc (v := (2000000000)) hx hb hown hw0 (kdr dgX1_needUnits_0 0 7 rfl rfl) ?_
    obtain ⟨r3, g3, h⟩ := g_b h
    refine kq_i [] (fun qP qD qF => va_runS (As := [.int p1, .int p2, .int 2000000000]) (rest := []) ⟨hx, hb, hml, hown, hts⟩ (c_X1_isWithin l dC dI cB cI cJ cZ  _  p1 p2 2000000000 r3 g3) (kcwS hts kw_354 kv_X1_isWithin rfl rfl ⟨(Nat.le_of_ble_eq_true rfl), (Nat.le_of_ble_eq_true rfl)⟩) (kpS (A := A) (kPnil) hK ((kDnil (A := A))) hG) rfl rfl hl.1 rfl (lv_room (Nat.le_of_ble_eq_true rfl)) (kdr dgX1_needUnits_0 0 8 rfl rfl) ⟨(Nat.le_of_ble_eq_true rfl), (Nat.le_of_ble_eq_true rfl)⟩) hP hD hS hA kFr_n (fun H locs hP hD hS br3 => ?_)
    refine lv_if_eq (tgt := 23) hx hb (kdr dgX1_needUnits_0 0 9 rfl rfl) (by decide) (fun c4 => ?_) (fun c4 => ?_)
    · have h := g_t c4 h
      exact J23  _ _ hP hD hS ls (lv_sub hl [] rfl) h
    · have h := g_f c4 h
      refine lv_iconst (v := 1) hx hb (kdr dgX1_needUnits_0 1 0 rfl rfl) (by decide) ?_
      refine lv_goto (tgt := 24) hx hb (kdr dgX1_needUnits_0 1 1 rfl rfl) (by decide) ?_
      exact J24 1 _ _ hP hD hS ls (lv_sub hl [] rfl) h
noncomputable abbrev wsX1_set : List Cond := kWs yX1_set cX1_set 6 (some .int)
noncomputable def f_X1_set_31 (ce : Nat → Int64) (ac : Int32) (rf : Int32) (x1 : Int32) (x2 : Int32) (x3 : Int32) (y0 : Int32) : Option ((Int32) × (Nat → Int64) × (Int32) × (Int32)) :=
  (f_X1_needThat y0).bind fun r1 =>
  (f_X1_isLet ((x2.toInt64 * 1000000000) + x3.toInt64)).bind fun r2 =>
  if r2 = 0 then
    (f_X1_refuse rf).bind fun r4 =>
    some (r4.1, ce, ac, r4.2)
  else
    if ix x1 4 then
      (f_X1_secondOf ((x2.toInt64 * 1000000000) + x3.toInt64)).bind fun r5 =>
      (f_X1_done ac (r5 - x2)).bind fun r6 =>
      some (r6.1, vp_updL ce x1.toNatClampNeg ((x2.toInt64 * 1000000000) + x3.toInt64), r6.2, rf)
    else none
theorem f_X1_set_31_e {ce : Nat → Int64} {ac : Int32} {rf : Int32} {x1 : Int32} {x2 : Int32} {x3 : Int32} {y0 : Int32} : f_X1_set_31 ce ac rf x1 x2 x3 y0 =
  (f_X1_needThat y0).bind fun r1 =>
  (f_X1_isLet ((x2.toInt64 * 1000000000) + x3.toInt64)).bind fun r2 =>
  if r2 = 0 then
    (f_X1_refuse rf).bind fun r4 =>
    some (r4.1, ce, ac, r4.2)
  else
    if ix x1 4 then
      (f_X1_secondOf ((x2.toInt64 * 1000000000) + x3.toInt64)).bind fun r5 =>
      (f_X1_done ac (r5 - x2)).bind fun r6 =>
      some (r6.1, vp_updL ce x1.toNatClampNeg ((x2.toInt64 * 1000000000) + x3.toInt64), r6.2, rf)
    else none := rfl
noncomputable def f_X1_set_30 (ce : Nat → Int64) (ac : Int32) (rf : Int32) (x1 : Int32) (x2 : Int32) (x3 : Int32) : Option ((Int32) × (Nat → Int64) × (Int32) × (Int32)) :=
  f_X1_set_31 ce ac rf x1 x2 x3 0
theorem f_X1_set_30_e {ce : Nat → Int64} {ac : Int32} {rf : Int32} {x1 : Int32} {x2 : Int32} {x3 : Int32} : f_X1_set_30 ce ac rf x1 x2 x3 =
  f_X1_set_31 ce ac rf x1 x2 x3 0 := rfl
noncomputable def f_X1_set (ce : Nat → Int64) (ac : Int32) (rf : Int32) (p0 : Int32) (p1 : Int32) (p2 : Int32) : Option ((Int32) × (Nat → Int64) × (Int32) × (Int32)) :=
  (f_X1_needCell p0).bind fun r1 =>
  (f_X1_isWithin p1 (-1000000000) 1000000000).bind fun r2 =>
  if r2 = 0 then
    f_X1_set_30 ce ac rf p0 p1 p2
  else
    (f_X1_isWithin p2 (-2000000000) 2000000000).bind fun r4 =>
    if r4 = 0 then
      f_X1_set_30 ce ac rf p0 p1 p2
    else
      f_X1_set_31 ce ac rf p0 p1 p2 1
theorem f_X1_set_e {ce : Nat → Int64} {ac : Int32} {rf : Int32} {p0 : Int32} {p1 : Int32} {p2 : Int32} : f_X1_set ce ac rf p0 p1 p2 = 
  (f_X1_needCell p0).bind fun r1 =>
  (f_X1_isWithin p1 (-1000000000) 1000000000).bind fun r2 =>
  if r2 = 0 then
    f_X1_set_30 ce ac rf p0 p1 p2
  else
    (f_X1_isWithin p2 (-2000000000) 2000000000).bind fun r4 =>
    if r4 = 0 then
      f_X1_set_30 ce ac rf p0 p1 p2
    else
      f_X1_set_31 ce ac rf p0 p1 p2 1 := rfl
set_option maxHeartbeats 4000000 in
set_option maxRecDepth 100000 in
theorem c_X1_set (l : Launch) (dC : Nat → ClassId) (dI : Nat → Nat → Nat) (cB cI cJ cZ : ClassId) (a : Nat → Nat) (sz : Nat) (ce : Nat → Int64) (fr : Int64) (un : Int64) (sb : Nat → Int64) (se : Nat → Int64) (so : Nat → Int32) (sc : Int32) (wb : Nat → Int64) (we : Nat → Int64) (wo : Nat → Int32) (wc : Int32) (fb : Nat → Int64) (fe : Nat → Int64) (fo : Nat → Int32) (fc : Int32) (rm : Nat → Int32) (ac : Int32) (rf : Int32) (kn : Int32) (p0 : Int32) (p1 : Int32) (p2 : Int32) (res : (Int32) × (Nat → Int64) × (Int32) × (Int32)) (hf : f_X1_set ce ac rf p0 p1 p2 = some res) : kMi l yX1_set wsX1_set (kRm 2 0 0 46) dC dI cB cI cJ cZ [.ref (a 0), .int p0, .int p1, .int p2] sz (wSB cI cJ cZ a ce fr un sb se so sc wb we wo wc fb fe fo fc rm ac rf kn) .int (res.1) (wSB cI cJ cZ a (res.2.1) fr un sb se so sc wb we wo wc fb fe fo fc rm (res.2.2.1) (res.2.2.2) kn) 0 0 := by
  refine kmet_i (y := yX1_set) (cc := cX1_set) (maxL := 6) (ret := (some .int)) RX1 (kvA 0 (a 0) (kvI 1 p0 (kvI 2 p1 (kvI 3 p2 kvE)))) kpl_X1 rfl rfl (Nat.le_of_ble_eq_true rfl) rfl (fun p e s m below meth c A ls hx hb hr hml hts hown hlocks hP hK hG hD hA hS hl => ?_)
  have hw0 := hts (.constant RX1 43 (-1000000000)) (List.mem_cons_of_mem _ kw_492)
  have hw1 := hts (.constant RX1 44 (1000000000)) (List.mem_cons_of_mem _ kw_493)
  have hw2 := hts (.constantLong RX1 55 (1000000000)) (List.mem_cons_of_mem _ kw_332)
  have hw3 := hts (.fieldLink RX1 9 "Spanbooker" "cells" "[J") (List.mem_cons_of_mem _ kw_107)
  have hw4 := hts (.constant RX1 49 (-2000000000)) (List.mem_cons_of_mem _ kw_494)
  have hw5 := hts (.constant RX1 50 (2000000000)) (List.mem_cons_of_mem _ kw_495)
  have hiX1 : ∀ w ∈ u_ws RX1 TX1 10, w ∈ wsX1_set := fun w h => List.mem_cons_of_mem _ (ku_X1 w h)
  have J31 : ∀ (ce : Nat → Int64) (fr : Int64) (un : Int64) (sb : Nat → Int64) (se : Nat → Int64) (so : Nat → Int32) (sc : Int32) (wb : Nat → Int64) (we : Nat → Int64) (wo : Nat → Int32) (wc : Int32) (fb : Nat → Int64) (fe : Nat → Int64) (fo : Nat → Int32) (fc : Int32) (rm : Nat → Int32) (ac : Int32) (rf : Int32) (kn : Int32) (x1 : Int32) (x2 : Int32) (x3 : Int32) (y0 : Int32) (H : Heap) (locs : List Loc), va_P (dC, dI) vwCl (wSB cI cJ cZ a ce fr un sb se so sc wb we wo wc fb fe fo fc rm ac rf kn) H → va_D A (wSB cI cJ cZ a ce fr un sb se so sc wb we wo wc fb fe fo fc rm ac rf kn) → va_S A s.heap H locs → ∀ (ls : Array Slot), lv_has ls 6 (kvA 0 (a 0) (kvI 1 x1 (kvI 2 x2 (kvI 3 x3 kvE)))) → f_X1_set_31 ce ac rf x1 x2 x3 y0 = some res → W p l e (headSpec wsX1_set (kRm 2 0 0 46)).room s m ([.ref (a 0), .int p0, .int p1, .int p2] : List Value).toArray below meth c H locs 0 0 (MQ below (kI (dC, dI) .int (res.1) (wSB cI cJ cZ a (res.2.1) fr un sb se so sc wb we wo wc fb fe fo fc rm (res.2.2.1) (res.2.2.2) kn) A) ([.ref (a 0), .int p0, .int p1, .int p2] : List Value).toArray s 0 0 A) (F0 m 31 ls [.int y0]) := by
    intro ce fr un sb se so sc wb we wo wc fb fe fo fc rm ac rf kn x1 x2 x3 y0 H locs hP hD hS ls hl h
    have h := f_X1_set_31_e.symm.trans h
    obtain ⟨r1, g1, h⟩ := g_b h
    refine kq_v (wSB cI cJ cZ a ce fr un sb se so sc wb we wo wc fb fe fo fc rm ac rf kn) (fun qP qD qF => va_runS (As := [.int y0]) (rest := []) ⟨hx, hb, hml, hown, hts⟩ (c_X1_needThat l dC dI cB cI cJ cZ  _  y0 r1 g1) (kcwS hts kw_357 kv_X1_needThat rfl rfl ⟨(Nat.le_of_ble_eq_true rfl), (Nat.le_of_ble_eq_true rfl)⟩) (kpS (A := A) (kPnil) hK ((kDnil (A := A))) hG) rfl rfl hl.1 rfl (lv_room (Nat.le_of_ble_eq_true rfl)) (kdr dgX1_set_0 1 5 rfl rfl) ⟨(Nat.le_of_ble_eq_true rfl), (Nat.le_of_ble_eq_true rfl)⟩) hP hD hS hA kFr_n (fun H locs hP hD hS => ?_)
    refine lv_iload_n hx hb (kdr dgX1_set_0 1 6 rfl rfl) rfl (lv_at hl 2 rfl) ?_
    refine lv_i2l (v := x2.toInt64) hx hb (kdr dgX1_set_0 1 7 rfl rfl) rfl ?_
    refine lv_ldc2 (v := (1000000000)) hx hb hown hw2 (kdr dgX1_set_0 1 8 rfl rfl) ?_
    refine lv_lmul hx hb (kdr dgX1_set_0 1 9 rfl rfl) ?_
    refine lv_iload_n hx hb (kdr dgX1_set_0 2 0 rfl rfl) rfl (lv_at hl 3 rfl) ?_
    refine lv_i2l (v := x3.toInt64) hx hb (kdr dgX1_set_0 2 1 rfl rfl) rfl ?_
    refine lv_ladd hx hb (kdr dgX1_set_0 2 2 rfl rfl) ?_
    refine lv_lstore (lv' := (kvJ 4 ((x2.toInt64 * 1000000000) + x3.toInt64) (kvA 0 (a 0) (kvI 1 x1 (kvI 2 x2 (kvI 3 x3 kvE)))))) hx hb (kdr dgX1_set_0 2 3 rfl rfl) hl (by decide) rfl (fun ls hl => ?_)
    refine lv_lload hx hb (kdr dgX1_set_0 2 4 rfl rfl) (lv_at hl 0 rfl) ?_
    obtain ⟨r2, g2, h⟩ := g_b h
    refine kq_i (wSB cI cJ cZ a ce fr un sb se so sc wb we wo wc fb fe fo fc rm ac rf kn) (fun qP qD qF => va_runS (As := [.long ((x2.toInt64 * 1000000000) + x3.toInt64)]) (rest := []) ⟨hx, hb, hml, hown, hts⟩ (c_X1_isLet l dC dI cB cI cJ cZ  _  ((x2.toInt64 * 1000000000) + x3.toInt64) r2 g2) (kcwS hts kw_496 kv_X1_isLet rfl rfl ⟨(Nat.le_of_ble_eq_true rfl), (Nat.le_of_ble_eq_true rfl)⟩) (kpS (A := A) (kPnil) hK ((kDnil (A := A))) hG) rfl rfl hl.1 rfl (lv_room (Nat.le_of_ble_eq_true rfl)) (kdr dgX1_set_0 2 5 rfl rfl) ⟨(Nat.le_of_ble_eq_true rfl), (Nat.le_of_ble_eq_true rfl)⟩) hP hD hS hA kFr_n (fun H locs hP hD hS br2 => ?_)
    refine lv_if_ne (tgt := 58) hx hb (kdr dgX1_set_0 2 6 rfl rfl) (by decide) (fun c3 => ?_) (fun c3 => ?_)
    · have h := g_f c3 h
      refine lv_aload_n hx hb (kdr dgX1_set_0 3 0 rfl rfl) rfl (lv_at hl 1 rfl) ?_
      refine va_get (D := (dC, dI)) (ci := 3) (v := .ref (a 1)) (C := RX1) (T := TX1) (N := 10) hx hb hts hiX1 hown hK hP 0 rfl rfl 0 (by decide) hw3 (fun _ h9 => h9) rfl (kdr dgX1_set_0 3 1 rfl rfl) ?_
      refine lv_iload_n hx hb (kdr dgX1_set_0 3 2 rfl rfl) rfl (lv_at hl 2 rfl) ?_
      refine lv_lload hx hb (kdr dgX1_set_0 3 3 rfl rfl) (lv_at hl 0 rfl) ?_
      obtain ⟨z3, h⟩ := g_if h
      refine va_last hx hb hK hP hD hS 1 2 rfl rfl (ix_in z3) (kdr dgX1_set_0 3 4 rfl rfl) (fun H locs hP hD hS => ?_)
      have hP : va_P (dC, dI) vwCl (wSB cI cJ cZ a (vp_updL ce x1.toNatClampNeg ((x2.toInt64 * 1000000000) + x3.toInt64)) fr un sb se so sc wb we wo wc fb fe fo fc rm ac rf kn) H := hP
      have hD : va_D A (wSB cI cJ cZ a (vp_updL ce x1.toNatClampNeg ((x2.toInt64 * 1000000000) + x3.toInt64)) fr un sb se so sc wb we wo wc fb fe fo fc rm ac rf kn) := hD
      refine lv_aload_n hx hb (kdr dgX1_set_0 3 5 rfl rfl) rfl (lv_at hl 1 rfl) ?_
      refine lv_lload hx hb (kdr dgX1_set_0 3 6 rfl rfl) (lv_at hl 0 rfl) ?_
      obtain ⟨r5, g5, h⟩ := g_b h
      refine kq_i (wSB cI cJ cZ a (vp_updL ce x1.toNatClampNeg ((x2.toInt64 * 1000000000) + x3.toInt64)) fr un sb se so sc wb we wo wc fb fe fo fc rm ac rf kn) (fun qP qD qF => va_runS (As := [.long ((x2.toInt64 * 1000000000) + x3.toInt64)]) (rest := [.ref (a 0)]) ⟨hx, hb, hml, hown, hts⟩ (c_X1_secondOf l dC dI cB cI cJ cZ  _  ((x2.toInt64 * 1000000000) + x3.toInt64) r5 g5) (kcwS hts kw_329 kv_X1_secondOf rfl rfl ⟨(Nat.le_of_ble_eq_true rfl), (Nat.le_of_ble_eq_true rfl)⟩) (kpS (A := A) (kPnil) hK ((kDnil (A := A))) hG) rfl rfl hl.1 rfl (lv_room (Nat.le_of_ble_eq_true rfl)) (kdr dgX1_set_0 3 7 rfl rfl) ⟨(Nat.le_of_ble_eq_true rfl), (Nat.le_of_ble_eq_true rfl)⟩) hP hD hS hA kFr_n (fun H locs hP hD hS br5 => ?_)
      refine lv_iload_n hx hb (kdr dgX1_set_0 3 8 rfl rfl) rfl (lv_at hl 3 rfl) ?_
      refine lv_isub hx hb (kdr dgX1_set_0 3 9 rfl rfl) ?_
      obtain ⟨r6, g6, h⟩ := g_b h
      refine kq_i (wSB cI cJ cZ a (vp_updL ce x1.toNatClampNeg ((x2.toInt64 * 1000000000) + x3.toInt64)) fr un sb se so sc wb we wo wc fb fe fo fc rm r6.2 rf kn) (fun qP qD qF => va_runV (As := [.int (r5 - x2)]) (rest := []) ⟨hx, hb, hml, hown, hts⟩ (c_X1_done l dC dI cB cI cJ cZ a _ (vp_updL ce x1.toNatClampNeg ((x2.toInt64 * 1000000000) + x3.toInt64)) fr un sb se so sc wb we wo wc fb fe fo fc rm ac rf kn (r5 - x2) r6 g6) (kcwV hts kw_147 kv_X1_done rfl rfl ⟨(Nat.le_of_ble_eq_true rfl), (Nat.le_of_ble_eq_true rfl)⟩) (kpV (A := A) qP hK qD hG (krecv_3 (q0 := 0) hK hP rfl)) rfl rfl hl.1 rfl (lv_room (Nat.le_of_ble_eq_true rfl)) (kdr dgX1_set_0 4 0 rfl rfl) ⟨(Nat.le_of_ble_eq_true rfl), (Nat.le_of_ble_eq_true rfl)⟩) hP hD hS hA kFr_SB (fun H locs hP hD hS br6 => ?_)
      have h := Option.some.inj h
      subst h
      exact kret_i (v := r6.1) hx hb hr rfl hlocks hS hP (kdr dgX1_set_0 4 1 rfl rfl)
    · have h := g_t c3 h
      refine lv_aload_n hx hb (kdr dgX1_set_0 2 7 rfl rfl) rfl (lv_at hl 1 rfl) ?_
      obtain ⟨r4, g4, h⟩ := g_b h
      refine kq_i (wSB cI cJ cZ a ce fr un sb se so sc wb we wo wc fb fe fo fc rm ac r4.2 kn) (fun qP qD qF => va_runV (As := []) (rest := []) ⟨hx, hb, hml, hown, hts⟩ (c_X1_refuse l dC dI cB cI cJ cZ a _ ce fr un sb se so sc wb we wo wc fb fe fo fc rm ac rf kn  r4 g4) (kcwV hts kw_501 kv_X1_refuse rfl rfl ⟨(Nat.le_of_ble_eq_true rfl), (Nat.le_of_ble_eq_true rfl)⟩) (kpV (A := A) qP hK qD hG (krecv_3 (q0 := 0) hK hP rfl)) rfl rfl hl.1 rfl (lv_room (Nat.le_of_ble_eq_true rfl)) (kdr dgX1_set_0 2 8 rfl rfl) ⟨(Nat.le_of_ble_eq_true rfl), (Nat.le_of_ble_eq_true rfl)⟩) hP hD hS hA kFr_SB (fun H locs hP hD hS br4 => ?_)
      have h := Option.some.inj h
      subst h
      exact kret_i (v := r4.1) hx hb hr rfl hlocks hS hP (kdr dgX1_set_0 2 9 rfl rfl)
  have J30 : ∀ (ce : Nat → Int64) (fr : Int64) (un : Int64) (sb : Nat → Int64) (se : Nat → Int64) (so : Nat → Int32) (sc : Int32) (wb : Nat → Int64) (we : Nat → Int64) (wo : Nat → Int32) (wc : Int32) (fb : Nat → Int64) (fe : Nat → Int64) (fo : Nat → Int32) (fc : Int32) (rm : Nat → Int32) (ac : Int32) (rf : Int32) (kn : Int32) (x1 : Int32) (x2 : Int32) (x3 : Int32) (H : Heap) (locs : List Loc), va_P (dC, dI) vwCl (wSB cI cJ cZ a ce fr un sb se so sc wb we wo wc fb fe fo fc rm ac rf kn) H → va_D A (wSB cI cJ cZ a ce fr un sb se so sc wb we wo wc fb fe fo fc rm ac rf kn) → va_S A s.heap H locs → ∀ (ls : Array Slot), lv_has ls 6 (kvA 0 (a 0) (kvI 1 x1 (kvI 2 x2 (kvI 3 x3 kvE)))) → f_X1_set_30 ce ac rf x1 x2 x3 = some res → W p l e (headSpec wsX1_set (kRm 2 0 0 46)).room s m ([.ref (a 0), .int p0, .int p1, .int p2] : List Value).toArray below meth c H locs 0 0 (MQ below (kI (dC, dI) .int (res.1) (wSB cI cJ cZ a (res.2.1) fr un sb se so sc wb we wo wc fb fe fo fc rm (res.2.2.1) (res.2.2.2) kn) A) ([.ref (a 0), .int p0, .int p1, .int p2] : List Value).toArray s 0 0 A) (F0 m 30 ls []) := by
    intro ce fr un sb se so sc wb we wo wc fb fe fo fc rm ac rf kn x1 x2 x3 H locs hP hD hS ls hl h
    have h := f_X1_set_30_e.symm.trans h
    refine lv_iconst (v := 0) hx hb (kdr dgX1_set_0 1 4 rfl rfl) (by decide) ?_
    exact J31 ce fr un sb se so sc wb we wo wc fb fe fo fc rm ac rf kn x1 x2 x3 0 _ _ hP hD hS ls (lv_sub hl [0, 1, 2, 3] rfl) h
  have h := f_X1_set_e.symm.trans hf
  refine lv_iload_n hx hb (kdr dgX1_set_0 0 0 rfl rfl) rfl (lv_at hl 1 rfl) ?_
  obtain ⟨r1, g1, h⟩ := g_b h
  refine kq_v (wSB cI cJ cZ a ce fr un sb se so sc wb we wo wc fb fe fo fc rm ac rf kn) (fun qP qD qF => va_runS (As := [.int p0]) (rest := []) ⟨hx, hb, hml, hown, hts⟩ (c_X1_needCell l dC dI cB cI cJ cZ  _  p0 r1 g1) (kcwS hts kw_473 kv_X1_needCell rfl rfl ⟨(Nat.le_of_ble_eq_true rfl), (Nat.le_of_ble_eq_true rfl)⟩) (kpS (A := A) (kPnil) hK ((kDnil (A := A))) hG) rfl rfl hl.1 rfl (lv_room (Nat.le_of_ble_eq_true rfl)) (kdr dgX1_set_0 0 1 rfl rfl) ⟨(Nat.le_of_ble_eq_true rfl), (Nat.le_of_ble_eq_true rfl)⟩) hP hD hS hA kFr_n (fun H locs hP hD hS => ?_)
  refine lv_iload_n hx hb (kdr dgX1_set_0 0 2 rfl rfl) rfl (lv_at hl 2 rfl) ?_
  refine lv_ldc (v := (-1000000000)) hx hb hown hw0 (kdr dgX1_set_0 0 3 rfl rfl) ?_
  refine lv_ldc (v := (1000000000)) hx hb hown hw1 (kdr dgX1_set_0 0 4 rfl rfl) ?_
  obtain ⟨r2, g2, h⟩ := g_b h
  refine kq_i (wSB cI cJ cZ a ce fr un sb se so sc wb we wo wc fb fe fo fc rm ac rf kn) (fun qP qD qF => va_runS (As := [.int p1, .int (-1000000000), .int 1000000000]) (rest := []) ⟨hx, hb, hml, hown, hts⟩ (c_X1_isWithin l dC dI cB cI cJ cZ  _  p1 (-1000000000) 1000000000 r2 g2) (kcwS hts kw_354 kv_X1_isWithin rfl rfl ⟨(Nat.le_of_ble_eq_true rfl), (Nat.le_of_ble_eq_true rfl)⟩) (kpS (A := A) (kPnil) hK ((kDnil (A := A))) hG) rfl rfl hl.1 rfl (lv_room (Nat.le_of_ble_eq_true rfl)) (kdr dgX1_set_0 0 5 rfl rfl) ⟨(Nat.le_of_ble_eq_true rfl), (Nat.le_of_ble_eq_true rfl)⟩) hP hD hS hA kFr_n (fun H locs hP hD hS br2 => ?_)
  refine lv_if_eq (tgt := 30) hx hb (kdr dgX1_set_0 0 6 rfl rfl) (by decide) (fun c3 => ?_) (fun c3 => ?_)
  · have h := g_t c3 h
    exact J30 ce fr un sb se so sc wb we wo wc fb fe fo fc rm ac rf kn p0 p1 p2 _ _ hP hD hS ls (lv_sub hl [0, 1, 2, 3] rfl) h
  · have h := g_f c3 h
    refine lv_iload_n hx hb (kdr dgX1_set_0 0 7 rfl rfl) rfl (lv_at hl 3 rfl) ?_
    refine lv_ldc (v := (-2000000000)) hx hb hown hw4 (kdr dgX1_set_0 0 8 rfl rfl) ?_
    refine lv_ldc (v := (2000000000)) hx hb hown hw5 (kdr dgX1_set_0 0 9 rfl rfl) ?_
    obtain ⟨r4, g4, h⟩ := g_b h
    refine kq_i (wSB cI cJ cZ a ce fr un sb se so sc wb we wo wc fb fe fo fc rm ac rf kn) (fun qP qD qF => va_runS (As := [.int p2, .int (-2000000000), .int 2000000000]) (rest := []) ⟨hx, hb, hml, hown, hts⟩ (c_X1_isWithin l dC dI cB cI cJ cZ  _  p2 (-2000000000) 2000000000 r4 g4) (kcwS hts kw_354 kv_X1_isWithin rfl rfl ⟨(Nat.le_of_ble_eq_true rfl), (Nat.le_of_ble_eq_true rfl)⟩) (kpS (A := A) (kPnil) hK ((kDnil (A := A))) hG) rfl rfl hl.1 rfl (lv_room (Nat.le_of_ble_eq_true rfl)) (kdr dgX1_set_0 1 0 rfl rfl) ⟨(Nat.le_of_ble_eq_true rfl), (Nat.le_of_ble_eq_true rfl)⟩) hP hD hS hA kFr_n (fun H locs hP hD hS br4 => ?_)
    refine lv_if_eq (tgt := 30) hx hb (kdr dgX1_set_0 1 1 rfl rfl) (by decide) (fun c5 => ?_) (fun c5 => ?_)
    · have h := g_t c5 h
      exact J30 ce fr un sb se so sc wb we wo wc fb fe fo fc rm ac rf kn p0 p1 p2 _ _ hP hD hS ls (lv_sub hl [0, 1, 2, 3] rfl) h
    · have h := g_f c5 h
      refine lv_iconst (v := 1) hx hb (kdr dgX1_set_0 1 2 rfl rfl) (by decide) ?_
      refine lv_goto (tgt := 31) hx hb (kdr dgX1_set_0 1 3 rfl rfl) (by decide) ?_
      exact J31 ce fr un sb se so sc wb we wo wc fb fe fo fc rm ac rf kn p0 p1 p2 1 _ _ hP hD hS ls (lv_sub hl [0, 1, 2, 3] rfl) h
noncomputable def fx_X1_set_31 (y0 : Int32) : Option (Nat) :=
  xb (fx_X1_needThat y0) (fun k1 => some k1) (
  none)
theorem fx_X1_set_31_e {y0 : Int32} : fx_X1_set_31 y0 =
  xb (fx_X1_needThat y0) (fun k1 => some k1) (
  none) := rfl
noncomputable def fx_X1_set_30 : Option (Nat) :=
  fx_X1_set_31 0
theorem fx_X1_set_30_e : fx_X1_set_30 =
  fx_X1_set_31 0 := rfl
noncomputable def fx_X1_set (p0 : Int32) (p1 : Int32) (p2 : Int32) : Option (Nat) :=
  xb (fx_X1_needCell p0) (fun k1 => some k1) (
  (f_X1_needCell p0).bind fun r1 =>
  (f_X1_isWithin p1 (-1000000000) 1000000000).bind fun r2 =>
  if r2 = 0 then
    fx_X1_set_30
  else
    (f_X1_isWithin p2 (-2000000000) 2000000000).bind fun r4 =>
    if r4 = 0 then
      fx_X1_set_30
    else
      fx_X1_set_31 1)
theorem fx_X1_set_e {p0 : Int32} {p1 : Int32} {p2 : Int32} : fx_X1_set p0 p1 p2 = 
  xb (fx_X1_needCell p0) (fun k1 => some k1) (
  (f_X1_needCell p0).bind fun r1 =>
  (f_X1_isWithin p1 (-1000000000) 1000000000).bind fun r2 =>
  if r2 = 0 then
    fx_X1_set_30
  else
    (f_X1_isWithin p2 (-2000000000) 2000000000).bind fun r4 =>
    if r4 = 0 then
      fx_X1_set_30
    else
      fx_X1_set_31 1) := rfl
set_option maxHeartbeats 4000000 in
set_option maxRecDepth 100000 in
theorem x_X1_set (l : Launch) (hl9 : l.stackTraces = false) (dC : Nat → ClassId) (dI : Nat → Nat → Nat) (cB cI cJ cZ : ClassId) (a : Nat → Nat) (sz : Nat) (ce : Nat → Int64) (fr : Int64) (un : Int64) (sb : Nat → Int64) (se : Nat → Int64) (so : Nat → Int32) (sc : Int32) (wb : Nat → Int64) (we : Nat → Int64) (wo : Nat → Int32) (wc : Int32) (fb : Nat → Int64) (fe : Nat → Int64) (fo : Nat → Int32) (fc : Int32) (rm : Nat → Int32) (ac : Int32) (rf : Int32) (kn : Int32) (p0 : Int32) (p1 : Int32) (p2 : Int32) (res : Nat) (hf : fx_X1_set p0 p1 p2 = some res) : kMX l yX1_set wsX1_set (kRm 7 1 6 110) dC dI cB cI cJ cZ [.ref (a 0), .int p0, .int p1, .int p2] sz (wSB cI cJ cZ a ce fr un sb se so sc wb we wo wc fb fe fo fc rm ac rf kn) (res) (wSB cI cJ cZ a ce fr un sb se so sc wb we wo wc fb fe fo fc rm ac rf kn) 1 6 := by
  refine kmet_x (y := yX1_set) (cc := cX1_set) (maxL := 6) (ret := (some .int)) RX1 (kvA 0 (a 0) (kvI 1 p0 (kvI 2 p1 (kvI 3 p2 kvE)))) kpl_X1 rfl rfl (Nat.le_of_ble_eq_true rfl) rfl (fun p e s m below meth c A ls hx hb hr hml ht hts hown hlocks hP hK hG hZ hD hA hS hl => ?_)
  have hw0 := hts (.constant RX1 43 (-1000000000)) (List.mem_cons_of_mem _ kw_492)
  have hw1 := hts (.constant RX1 44 (1000000000)) (List.mem_cons_of_mem _ kw_493)
  have hw2 := hts (.constant RX1 49 (-2000000000)) (List.mem_cons_of_mem _ kw_494)
  have hw3 := hts (.constant RX1 50 (2000000000)) (List.mem_cons_of_mem _ kw_495)
  have J31 : ∀ (ce : Nat → Int64) (fr : Int64) (un : Int64) (sb : Nat → Int64) (se : Nat → Int64) (so : Nat → Int32) (sc : Int32) (wb : Nat → Int64) (we : Nat → Int64) (wo : Nat → Int32) (wc : Int32) (fb : Nat → Int64) (fe : Nat → Int64) (fo : Nat → Int32) (fc : Int32) (rm : Nat → Int32) (ac : Int32) (rf : Int32) (kn : Int32) (x1 : Int32) (x2 : Int32) (x3 : Int32) (y0 : Int32) (H : Heap) (locs : List Loc), va_P (dC, dI) vwCl (wSB cI cJ cZ a ce fr un sb se so sc wb we wo wc fb fe fo fc rm ac rf kn) H → va_D A (wSB cI cJ cZ a ce fr un sb se so sc wb we wo wc fb fe fo fc rm ac rf kn) → va_S A s.heap H locs → ∀ (ls : Array Slot), lv_has ls 6 (kvA 0 (a 0) (kvI 1 x1 (kvI 2 x2 (kvI 3 x3 kvE)))) → fx_X1_set_31 y0 = some res → W p l e (headSpec wsX1_set (kRm 7 1 6 110)).room s m ([.ref (a 0), .int p0, .int p1, .int p2] : List Value).toArray below meth c H locs 0 0 (vx_MQ below kNo (kX (dC, dI) (res) (wSB cI cJ cZ a ce fr un sb se so sc wb we wo wc fb fe fo fc rm ac rf kn) A) ([.ref (a 0), .int p0, .int p1, .int p2] : List Value).toArray s 1 6 A) (F0 m 31 ls [.int y0]) := by
    intro ce fr un sb se so sc wb we wo wc fb fe fo fc rm ac rf kn x1 x2 x3 y0 H locs hP hD hS ls hl h
    have h := fx_X1_set_31_e.symm.trans h
    rcases g_x h with ⟨k1, j1, h⟩ | ⟨-, h⟩
    · have h := Option.some.inj h
      subst h
      exact kq_x (wSB cI cJ cZ a ce fr un sb se so sc wb we wo wc fb fe fo fc rm ac rf kn) (fun qP qD qF => vx_runS (As := [.int y0]) (rest := []) ⟨hx, hb, hml, hown, hts⟩ (x_X1_needThat l hl9 dC dI cB cI cJ cZ  _  y0 k1 j1) (kcwS hts kw_357 kv_X1_needThat rfl rfl ⟨(Nat.le_of_ble_eq_true rfl), (Nat.le_of_ble_eq_true rfl)⟩) (kpSXq (A := A) (kPnil) hK ((kDnil (A := A))) hG hZ hS qF) rfl rfl hl.1 rfl (lv_room (Nat.le_of_ble_eq_true rfl)) (kdr dgX1_set_0 1 5 rfl rfl) ⟨(Nat.le_of_ble_eq_true rfl), (Nat.le_of_ble_eq_true rfl)⟩) hP hD hS hA kFr_n ht hlocks (Nat.le_of_ble_eq_true rfl) (Nat.le_of_ble_eq_true rfl)
    · cases h
  have J30 : ∀ (ce : Nat → Int64) (fr : Int64) (un : Int64) (sb : Nat → Int64) (se : Nat → Int64) (so : Nat → Int32) (sc : Int32) (wb : Nat → Int64) (we : Nat → Int64) (wo : Nat → Int32) (wc : Int32) (fb : Nat → Int64) (fe : Nat → Int64) (fo : Nat → Int32) (fc : Int32) (rm : Nat → Int32) (ac : Int32) (rf : Int32) (kn : Int32) (x1 : Int32) (x2 : Int32) (x3 : Int32) (H : Heap) (locs : List Loc), va_P (dC, dI) vwCl (wSB cI cJ cZ a ce fr un sb se so sc wb we wo wc fb fe fo fc rm ac rf kn) H → va_D A (wSB cI cJ cZ a ce fr un sb se so sc wb we wo wc fb fe fo fc rm ac rf kn) → va_S A s.heap H locs → ∀ (ls : Array Slot), lv_has ls 6 (kvA 0 (a 0) (kvI 1 x1 (kvI 2 x2 (kvI 3 x3 kvE)))) → fx_X1_set_30  = some res → W p l e (headSpec wsX1_set (kRm 7 1 6 110)).room s m ([.ref (a 0), .int p0, .int p1, .int p2] : List Value).toArray below meth c H locs 0 0 (vx_MQ below kNo (kX (dC, dI) (res) (wSB cI cJ cZ a ce fr un sb se so sc wb we wo wc fb fe fo fc rm ac rf kn) A) ([.ref (a 0), .int p0, .int p1, .int p2] : List Value).toArray s 1 6 A) (F0 m 30 ls []) := by
    intro ce fr un sb se so sc wb we wo wc fb fe fo fc rm ac rf kn x1 x2 x3 H locs hP hD hS ls hl h
    have h := fx_X1_set_30_e.symm.trans h
    refine lv_iconst (v := 0) hx hb (kdr dgX1_set_0 1 4 rfl rfl) (by decide) ?_
    exact J31 ce fr un sb se so sc wb we wo wc fb fe fo fc rm ac rf kn x1 x2 x3 0 _ _ hP hD hS ls (lv_sub hl [0, 1, 2, 3] rfl) h
  have h := fx_X1_set_e.symm.trans hf
  refine lv_iload_n hx hb (kdr dgX1_set_0 0 0 rfl rfl) rfl (lv_at hl 1 rfl) ?_
  rcases g_x h with ⟨k1, j1, h⟩ | ⟨-, h⟩
  · have h := Option.some.inj h
    subst h
    exact kq_x (wSB cI cJ cZ a ce fr un sb se so sc wb we wo wc fb fe fo fc rm ac rf kn) (fun qP qD qF => vx_runS (As := [.int p0]) (rest := []) ⟨hx, hb, hml, hown, hts⟩ (x_X1_needCell l hl9 dC dI cB cI cJ cZ  _  p0 k1 j1) (kcwS hts kw_473 kv_X1_needCell rfl rfl ⟨(Nat.le_of_ble_eq_true rfl), (Nat.le_of_ble_eq_true rfl)⟩) (kpSXq (A := A) (kPnil) hK ((kDnil (A := A))) hG hZ hS qF) rfl rfl hl.1 rfl (lv_room (Nat.le_of_ble_eq_true rfl)) (kdr dgX1_set_0 0 1 rfl rfl) ⟨(Nat.le_of_ble_eq_true rfl), (Nat.le_of_ble_eq_true rfl)⟩) hP hD hS hA kFr_n ht hlocks (Nat.le_of_ble_eq_true rfl) (Nat.le_of_ble_eq_true rfl)
  · obtain ⟨r1, g1, h⟩ := g_b h
    refine kq_v (wSB cI cJ cZ a ce fr un sb se so sc wb we wo wc fb fe fo fc rm ac rf kn) (fun qP qD qF => va_runS (As := [.int p0]) (rest := []) ⟨hx, hb, hml, hown, hts⟩ (c_X1_needCell l dC dI cB cI cJ cZ  _  p0 r1 g1) (kcwS hts kw_473 kv_X1_needCell rfl rfl ⟨(Nat.le_of_ble_eq_true rfl), (Nat.le_of_ble_eq_true rfl)⟩) (kpS (A := A) (kPnil) hK ((kDnil (A := A))) hG) rfl rfl hl.1 rfl (lv_room (Nat.le_of_ble_eq_true rfl)) (kdr dgX1_set_0 0 1 rfl rfl) ⟨(Nat.le_of_ble_eq_true rfl), (Nat.le_of_ble_eq_true rfl)⟩) hP hD hS hA kFr_n (fun H locs hP hD hS => ?_)
    refine lv_iload_n hx hb (kdr dgX1_set_0 0 2 rfl rfl) rfl (lv_at hl 2 rfl) ?_
    refine lv_ldc (v := (-1000000000)) hx hb hown hw0 (kdr dgX1_set_0 0 3 rfl rfl) ?_
    refine lv_ldc (v := (1000000000)) hx hb hown hw1 (kdr dgX1_set_0 0 4 rfl rfl) ?_
    obtain ⟨r2, g2, h⟩ := g_b h
    refine kq_i (wSB cI cJ cZ a ce fr un sb se so sc wb we wo wc fb fe fo fc rm ac rf kn) (fun qP qD qF => va_runS (As := [.int p1, .int (-1000000000), .int 1000000000]) (rest := []) ⟨hx, hb, hml, hown, hts⟩ (c_X1_isWithin l dC dI cB cI cJ cZ  _  p1 (-1000000000) 1000000000 r2 g2) (kcwS hts kw_354 kv_X1_isWithin rfl rfl ⟨(Nat.le_of_ble_eq_true rfl), (Nat.le_of_ble_eq_true rfl)⟩) (kpS (A := A) (kPnil) hK ((kDnil (A := A))) hG) rfl rfl hl.1 rfl (lv_room (Nat.le_of_ble_eq_true rfl)) (kdr dgX1_set_0 0 5 rfl rfl) ⟨(Nat.le_of_ble_eq_true rfl), (Nat.le_of_ble_eq_true rfl)⟩) hP hD hS hA kFr_n (fun H locs hP hD hS br2 => ?_)
    refine lv_if_eq (tgt := 30) hx hb (kdr dgX1_set_0 0 6 rfl rfl) (by decide) (fun c3 => ?_) (fun c3 => ?_)
    · have h := g_t c3 h
      exact J30 ce fr un sb se so sc wb we wo wc fb fe fo fc rm ac rf kn p0 p1 p2 _ _ hP hD hS ls (lv_sub hl [0, 1, 2, 3] rfl) h
    · have h := g_f c3 h
      refine lv_iload_n hx hb (kdr dgX1_set_0 0 7 rfl rfl) rfl (lv_at hl 3 rfl) ?_
      refine lv_ldc (v := (-2000000000)) hx hb hown hw2 (kdr dgX1_set_0 0 8 rfl rfl) ?_
      refine lv_ldc (v := (2000000000)) hx hb hown hw3 (kdr dgX1_set_0 0 9 rfl rfl) ?_
      obtain ⟨r4, g4, h⟩ := g_b h
      refine kq_i (wSB cI cJ cZ a ce fr un sb se so sc wb we wo wc fb fe fo fc rm ac rf kn) (fun qP qD qF => va_runS (As := [.int p2, .int (-2000000000), .int 2000000000]) (rest := []) ⟨hx, hb, hml, hown, hts⟩ (c_X1_isWithin l dC dI cB cI cJ cZ  _  p2 (-2000000000) 2000000000 r4 g4) (kcwS hts kw_354 kv_X1_isWithin rfl rfl ⟨(Nat.le_of_ble_eq_true rfl), (Nat.le_of_ble_eq_true rfl)⟩) (kpS (A := A) (kPnil) hK ((kDnil (A := A))) hG) rfl rfl hl.1 rfl (lv_room (Nat.le_of_ble_eq_true rfl)) (kdr dgX1_set_0 1 0 rfl rfl) ⟨(Nat.le_of_ble_eq_true rfl), (Nat.le_of_ble_eq_true rfl)⟩) hP hD hS hA kFr_n (fun H locs hP hD hS br4 => ?_)
      refine lv_if_eq (tgt := 30) hx hb (kdr dgX1_set_0 1 1 rfl rfl) (by decide) (fun c5 => ?_) (fun c5 => ?_)
      · have h := g_t c5 h
        exact J30 ce fr un sb se so sc wb we wo wc fb fe fo fc rm ac rf kn p0 p1 p2 _ _ hP hD hS ls (lv_sub hl [0, 1, 2, 3] rfl) h
      · have h := g_f c5 h
        refine lv_iconst (v := 1) hx hb (kdr dgX1_set_0 1 2 rfl rfl) (by decide) ?_
        refine lv_goto (tgt := 31) hx hb (kdr dgX1_set_0 1 3 rfl rfl) (by decide) ?_
        exact J31 ce fr un sb se so sc wb we wo wc fb fe fo fc rm ac rf kn p0 p1 p2 1 _ _ hP hD hS ls (lv_sub hl [0, 1, 2, 3] rfl) h
noncomputable abbrev wsX1_go : List Cond := kWs yX1_go cX1_go 10 (some .int)
noncomputable def f_X1_go_44 (ce : Nat → Int64) (ac : Int32) (rf : Int32) (x1 : Int32) (y0 : Int64) : Option ((Int32) × (Nat → Int64) × (Int32) × (Int32)) :=
  (f_X1_isLet y0).bind fun r1 =>
  if r1 = 0 then
    (f_X1_refuse rf).bind fun r3 =>
    some (r3.1, ce, ac, r3.2)
  else
    if ix x1 4 then
      (f_X1_sideOf y0 (ce x1.toNatClampNeg)).bind fun r4 =>
      (f_X1_done ac r4).bind fun r5 =>
      some (r5.1, vp_updL ce x1.toNatClampNeg y0, r5.2, rf)
    else none
theorem f_X1_go_44_e {ce : Nat → Int64} {ac : Int32} {rf : Int32} {x1 : Int32} {y0 : Int64} : f_X1_go_44 ce ac rf x1 y0 =
  (f_X1_isLet y0).bind fun r1 =>
  if r1 = 0 then
    (f_X1_refuse rf).bind fun r3 =>
    some (r3.1, ce, ac, r3.2)
  else
    if ix x1 4 then
      (f_X1_sideOf y0 (ce x1.toNatClampNeg)).bind fun r4 =>
      (f_X1_done ac r4).bind fun r5 =>
      some (r5.1, vp_updL ce x1.toNatClampNeg y0, r5.2, rf)
    else none := rfl
noncomputable def f_X1_go (ce : Nat → Int64) (ac : Int32) (rf : Int32) (p0 : Int32) (p1 : Int32) (p2 : Int32) (p3 : Int32) : Option ((Int32) × (Nat → Int64) × (Int32) × (Int32)) :=
  (f_X1_needCell p0).bind fun r1 =>
  (f_X1_needUnits p1 p2 (-2000000000)).bind fun r2 =>
  (f_X1_lengthOf p1 p2).bind fun r3 =>
  if p3 = 0 then
    if ix p0 4 then
      f_X1_go_44 ce ac rf p0 ((ce p0.toNatClampNeg) + r3)
    else none
  else
    if ix p0 4 then
      f_X1_go_44 ce ac rf p0 ((ce p0.toNatClampNeg) - r3)
    else none
theorem f_X1_go_e {ce : Nat → Int64} {ac : Int32} {rf : Int32} {p0 : Int32} {p1 : Int32} {p2 : Int32} {p3 : Int32} : f_X1_go ce ac rf p0 p1 p2 p3 = 
  (f_X1_needCell p0).bind fun r1 =>
  (f_X1_needUnits p1 p2 (-2000000000)).bind fun r2 =>
  (f_X1_lengthOf p1 p2).bind fun r3 =>
  if p3 = 0 then
    if ix p0 4 then
      f_X1_go_44 ce ac rf p0 ((ce p0.toNatClampNeg) + r3)
    else none
  else
    if ix p0 4 then
      f_X1_go_44 ce ac rf p0 ((ce p0.toNatClampNeg) - r3)
    else none := rfl
set_option maxHeartbeats 4000000 in
set_option maxRecDepth 100000 in
theorem c_X1_go (l : Launch) (dC : Nat → ClassId) (dI : Nat → Nat → Nat) (cB cI cJ cZ : ClassId) (a : Nat → Nat) (sz : Nat) (ce : Nat → Int64) (fr : Int64) (un : Int64) (sb : Nat → Int64) (se : Nat → Int64) (so : Nat → Int32) (sc : Int32) (wb : Nat → Int64) (we : Nat → Int64) (wo : Nat → Int32) (wc : Int32) (fb : Nat → Int64) (fe : Nat → Int64) (fo : Nat → Int32) (fc : Int32) (rm : Nat → Int32) (ac : Int32) (rf : Int32) (kn : Int32) (p0 : Int32) (p1 : Int32) (p2 : Int32) (p3 : Int32) (res : (Int32) × (Nat → Int64) × (Int32) × (Int32)) (hf : f_X1_go ce ac rf p0 p1 p2 p3 = some res) : kMi l yX1_go wsX1_go (kRm 2 0 0 44) dC dI cB cI cJ cZ [.ref (a 0), .int p0, .int p1, .int p2, .int p3] sz (wSB cI cJ cZ a ce fr un sb se so sc wb we wo wc fb fe fo fc rm ac rf kn) .int (res.1) (wSB cI cJ cZ a (res.2.1) fr un sb se so sc wb we wo wc fb fe fo fc rm (res.2.2.1) (res.2.2.2) kn) 0 0 := by
  refine kmet_i (y := yX1_go) (cc := cX1_go) (maxL := 10) (ret := (some .int)) RX1 (kvA 0 (a 0) (kvI 1 p0 (kvI 2 p1 (kvI 3 p2 (kvI 4 p3 kvE))))) kpl_X1 rfl rfl (Nat.le_of_ble_eq_true rfl) rfl (fun p e s m below meth c A ls hx hb hr hml hts hown hlocks hP hK hG hD hA hS hl => ?_)
  have hw0 := hts (.constant RX1 49 (-2000000000)) (List.mem_cons_of_mem _ kw_494)
  have hw1 := hts (.fieldLink RX1 9 "Spanbooker" "cells" "[J") (List.mem_cons_of_mem _ kw_107)
  have hiX1 : ∀ w ∈ u_ws RX1 TX1 10, w ∈ wsX1_go := fun w h => List.mem_cons_of_mem _ (ku_X1 w h)
  have J44 : ∀ (ce : Nat → Int64) (fr : Int64) (un : Int64) (sb : Nat → Int64) (se : Nat → Int64) (so : Nat → Int32) (sc : Int32) (wb : Nat → Int64) (we : Nat → Int64) (wo : Nat → Int32) (wc : Int32) (fb : Nat → Int64) (fe : Nat → Int64) (fo : Nat → Int32) (fc : Int32) (rm : Nat → Int32) (ac : Int32) (rf : Int32) (kn : Int32) (x1 : Int32) (y0 : Int64) (H : Heap) (locs : List Loc), va_P (dC, dI) vwCl (wSB cI cJ cZ a ce fr un sb se so sc wb we wo wc fb fe fo fc rm ac rf kn) H → va_D A (wSB cI cJ cZ a ce fr un sb se so sc wb we wo wc fb fe fo fc rm ac rf kn) → va_S A s.heap H locs → ∀ (ls : Array Slot), lv_has ls 10 (kvA 0 (a 0) (kvI 1 x1 kvE)) → f_X1_go_44 ce ac rf x1 y0 = some res → W p l e (headSpec wsX1_go (kRm 2 0 0 44)).room s m ([.ref (a 0), .int p0, .int p1, .int p2, .int p3] : List Value).toArray below meth c H locs 0 0 (MQ below (kI (dC, dI) .int (res.1) (wSB cI cJ cZ a (res.2.1) fr un sb se so sc wb we wo wc fb fe fo fc rm (res.2.2.1) (res.2.2.2) kn) A) ([.ref (a 0), .int p0, .int p1, .int p2, .int p3] : List Value).toArray s 0 0 A) (F0 m 44 ls [.long y0]) := by
    intro ce fr un sb se so sc wb we wo wc fb fe fo fc rm ac rf kn x1 y0 H locs hP hD hS ls hl h
    have h := f_X1_go_44_e.symm.trans h
    refine lv_lstore (lv' := (kvJ 7 y0 (kvA 0 (a 0) (kvI 1 x1 kvE)))) hx hb (kdr dgX1_go_0 2 5 rfl rfl) hl (by decide) rfl (fun ls hl => ?_)
    refine lv_lload hx hb (kdr dgX1_go_0 2 6 rfl rfl) (lv_at hl 0 rfl) ?_
    obtain ⟨r1, g1, h⟩ := g_b h
    refine kq_i (wSB cI cJ cZ a ce fr un sb se so sc wb we wo wc fb fe fo fc rm ac rf kn) (fun qP qD qF => va_runS (As := [.long y0]) (rest := []) ⟨hx, hb, hml, hown, hts⟩ (c_X1_isLet l dC dI cB cI cJ cZ  _  y0 r1 g1) (kcwS hts kw_496 kv_X1_isLet rfl rfl ⟨(Nat.le_of_ble_eq_true rfl), (Nat.le_of_ble_eq_true rfl)⟩) (kpS (A := A) (kPnil) hK ((kDnil (A := A))) hG) rfl rfl hl.1 rfl (lv_room (Nat.le_of_ble_eq_true rfl)) (kdr dgX1_go_0 2 7 rfl rfl) ⟨(Nat.le_of_ble_eq_true rfl), (Nat.le_of_ble_eq_true rfl)⟩) hP hD hS hA kFr_n (fun H locs hP hD hS br1 => ?_)
    refine lv_if_ne (tgt := 59) hx hb (kdr dgX1_go_0 2 8 rfl rfl) (by decide) (fun c2 => ?_) (fun c2 => ?_)
    · have h := g_f c2 h
      refine lv_lload hx hb (kdr dgX1_go_0 3 2 rfl rfl) (lv_at hl 0 rfl) ?_
      refine lv_aload_n hx hb (kdr dgX1_go_0 3 3 rfl rfl) rfl (lv_at hl 1 rfl) ?_
      refine va_get (D := (dC, dI)) (ci := 3) (v := .ref (a 1)) (C := RX1) (T := TX1) (N := 10) hx hb hts hiX1 hown hK hP 0 rfl rfl 0 (by decide) hw1 (fun _ h9 => h9) rfl (kdr dgX1_go_0 3 4 rfl rfl) ?_
      refine lv_iload_n hx hb (kdr dgX1_go_0 3 5 rfl rfl) rfl (lv_at hl 2 rfl) ?_
      obtain ⟨z2, h⟩ := g_if h
      refine va_lald hx hb hK hP 1 2 rfl rfl (ix_in z2) (kdr dgX1_go_0 3 6 rfl rfl) ?_
      obtain ⟨r4, g4, h⟩ := g_b h
      refine kq_i (wSB cI cJ cZ a ce fr un sb se so sc wb we wo wc fb fe fo fc rm ac rf kn) (fun qP qD qF => va_runS (As := [.long y0, .long (ce x1.toNatClampNeg)]) (rest := []) ⟨hx, hb, hml, hown, hts⟩ (c_X1_sideOf l dC dI cB cI cJ cZ  _  y0 (ce x1.toNatClampNeg) r4 g4) (kcwS hts kw_519 kv_X1_sideOf rfl rfl ⟨(Nat.le_of_ble_eq_true rfl), (Nat.le_of_ble_eq_true rfl)⟩) (kpS (A := A) (kPnil) hK ((kDnil (A := A))) hG) rfl rfl hl.1 rfl (lv_room (Nat.le_of_ble_eq_true rfl)) (kdr dgX1_go_0 3 7 rfl rfl) ⟨(Nat.le_of_ble_eq_true rfl), (Nat.le_of_ble_eq_true rfl)⟩) hP hD hS hA kFr_n (fun H locs hP hD hS br4 => ?_)
      refine lv_istore (lv' := (kvI 9 r4 (kvJ 7 y0 (kvA 0 (a 0) (kvI 1 x1 kvE))))) hx hb (kdr dgX1_go_0 3 8 rfl rfl) hl (by decide) rfl (fun ls hl => ?_)
      refine lv_aload_n hx hb (kdr dgX1_go_0 3 9 rfl rfl) rfl (lv_at hl 2 rfl) ?_
      refine va_get (D := (dC, dI)) (ci := 3) (v := .ref (a 1)) (C := RX1) (T := TX1) (N := 10) hx hb hts hiX1 hown hK hP 0 rfl rfl 0 (by decide) hw1 (fun _ h9 => h9) rfl (kdr dgX1_go_0 4 0 rfl rfl) ?_
      refine lv_iload_n hx hb (kdr dgX1_go_0 4 1 rfl rfl) rfl (lv_at hl 3 rfl) ?_
      refine lv_lload hx hb (kdr dgX1_go_0 4 2 rfl rfl) (lv_at hl 1 rfl) ?_
      refine va_last hx hb hK hP hD hS 1 2 rfl rfl (ix_in z2) (kdr dgX1_go_0 4 3 rfl rfl) (fun H locs hP hD hS => ?_)
      have hP : va_P (dC, dI) vwCl (wSB cI cJ cZ a (vp_updL ce x1.toNatClampNeg y0) fr un sb se so sc wb we wo wc fb fe fo fc rm ac rf kn) H := hP
      have hD : va_D A (wSB cI cJ cZ a (vp_updL ce x1.toNatClampNeg y0) fr un sb se so sc wb we wo wc fb fe fo fc rm ac rf kn) := hD
      refine lv_aload_n hx hb (kdr dgX1_go_0 4 4 rfl rfl) rfl (lv_at hl 2 rfl) ?_
      refine lv_iload hx hb (kdr dgX1_go_0 4 5 rfl rfl) (lv_at hl 0 rfl) ?_
      obtain ⟨r5, g5, h⟩ := g_b h
      refine kq_i (wSB cI cJ cZ a (vp_updL ce x1.toNatClampNeg y0) fr un sb se so sc wb we wo wc fb fe fo fc rm r5.2 rf kn) (fun qP qD qF => va_runV (As := [.int r4]) (rest := []) ⟨hx, hb, hml, hown, hts⟩ (c_X1_done l dC dI cB cI cJ cZ a _ (vp_updL ce x1.toNatClampNeg y0) fr un sb se so sc wb we wo wc fb fe fo fc rm ac rf kn r4 r5 g5) (kcwV hts kw_147 kv_X1_done rfl rfl ⟨(Nat.le_of_ble_eq_true rfl), (Nat.le_of_ble_eq_true rfl)⟩) (kpV (A := A) qP hK qD hG (krecv_3 (q0 := 0) hK hP rfl)) rfl rfl hl.1 rfl (lv_room (Nat.le_of_ble_eq_true rfl)) (kdr dgX1_go_0 4 6 rfl rfl) ⟨(Nat.le_of_ble_eq_true rfl), (Nat.le_of_ble_eq_true rfl)⟩) hP hD hS hA kFr_SB (fun H locs hP hD hS br5 => ?_)
      have h := Option.some.inj h
      subst h
      exact kret_i (v := r5.1) hx hb hr rfl hlocks hS hP (kdr dgX1_go_0 4 7 rfl rfl)
    · have h := g_t c2 h
      refine lv_aload_n hx hb (kdr dgX1_go_0 2 9 rfl rfl) rfl (lv_at hl 1 rfl) ?_
      obtain ⟨r3, g3, h⟩ := g_b h
      refine kq_i (wSB cI cJ cZ a ce fr un sb se so sc wb we wo wc fb fe fo fc rm ac r3.2 kn) (fun qP qD qF => va_runV (As := []) (rest := []) ⟨hx, hb, hml, hown, hts⟩ (c_X1_refuse l dC dI cB cI cJ cZ a _ ce fr un sb se so sc wb we wo wc fb fe fo fc rm ac rf kn  r3 g3) (kcwV hts kw_501 kv_X1_refuse rfl rfl ⟨(Nat.le_of_ble_eq_true rfl), (Nat.le_of_ble_eq_true rfl)⟩) (kpV (A := A) qP hK qD hG (krecv_3 (q0 := 0) hK hP rfl)) rfl rfl hl.1 rfl (lv_room (Nat.le_of_ble_eq_true rfl)) (kdr dgX1_go_0 3 0 rfl rfl) ⟨(Nat.le_of_ble_eq_true rfl), (Nat.le_of_ble_eq_true rfl)⟩) hP hD hS hA kFr_SB (fun H locs hP hD hS br3 => ?_)
      have h := Option.some.inj h
      subst h
      exact kret_i (v := r3.1) hx hb hr rfl hlocks hS hP (kdr dgX1_go_0 3 1 rfl rfl)
  have h := f_X1_go_e.symm.trans hf
  refine lv_iload_n hx hb (kdr dgX1_go_0 0 0 rfl rfl) rfl (lv_at hl 1 rfl) ?_
  obtain ⟨r1, g1, h⟩ := g_b h
  refine kq_v (wSB cI cJ cZ a ce fr un sb se so sc wb we wo wc fb fe fo fc rm ac rf kn) (fun qP qD qF => va_runS (As := [.int p0]) (rest := []) ⟨hx, hb, hml, hown, hts⟩ (c_X1_needCell l dC dI cB cI cJ cZ  _  p0 r1 g1) (kcwS hts kw_473 kv_X1_needCell rfl rfl ⟨(Nat.le_of_ble_eq_true rfl), (Nat.le_of_ble_eq_true rfl)⟩) (kpS (A := A) (kPnil) hK ((kDnil (A := A))) hG) rfl rfl hl.1 rfl (lv_room (Nat.le_of_ble_eq_true rfl)) (kdr dgX1_go_0 0 1 rfl rfl) ⟨(Nat.le_of_ble_eq_true rfl), (Nat.le_of_ble_eq_true rfl)⟩) hP hD hS hA kFr_n (fun H locs hP hD hS => ?_)
  refine lv_iload_n hx hb (kdr dgX1_go_0 0 2 rfl rfl) rfl (lv_at hl 2 rfl) ?_
  refine lv_iload_n hx hb (kdr dgX1_go_0 0 3 rfl rfl) rfl (lv_at hl 3 rfl) ?_
  refine lv_ldc (v := (-2000000000)) hx hb hown hw0 (kdr dgX1_go_0 0 4 rfl rfl) ?_
  obtain ⟨r2, g2, h⟩ := g_b h
  refine kq_v (wSB cI cJ cZ a ce fr un sb se so sc wb we wo wc fb fe fo fc rm ac rf kn) (fun qP qD qF => va_runS (As := [.int p1, .int p2, .int (-2000000000)]) (rest := []) ⟨hx, hb, hml, hown, hts⟩ (c_X1_needUnits l dC dI cB cI cJ cZ  _  p1 p2 (-2000000000) r2 g2) (kcwS hts kw_512 kv_X1_needUnits rfl rfl ⟨(Nat.le_of_ble_eq_true rfl), (Nat.le_of_ble_eq_true rfl)⟩) (kpS (A := A) (kPnil) hK ((kDnil (A := A))) hG) rfl rfl hl.1 rfl (lv_room (Nat.le_of_ble_eq_true rfl)) (kdr dgX1_go_0 0 5 rfl rfl) ⟨(Nat.le_of_ble_eq_true rfl), (Nat.le_of_ble_eq_true rfl)⟩) hP hD hS hA kFr_n (fun H locs hP hD hS => ?_)
  refine lv_iload_n hx hb (kdr dgX1_go_0 0 6 rfl rfl) rfl (lv_at hl 2 rfl) ?_
  refine lv_iload_n hx hb (kdr dgX1_go_0 0 7 rfl rfl) rfl (lv_at hl 3 rfl) ?_
  obtain ⟨r3, g3, h⟩ := g_b h
  refine kq_l (wSB cI cJ cZ a ce fr un sb se so sc wb we wo wc fb fe fo fc rm ac rf kn) (fun qP qD qF => va_runS (As := [.int p1, .int p2]) (rest := []) ⟨hx, hb, hml, hown, hts⟩ (c_X1_lengthOf l dC dI cB cI cJ cZ  _  p1 p2 r3 g3) (kcwS hts kw_515 kv_X1_lengthOf rfl rfl ⟨(Nat.le_of_ble_eq_true rfl), (Nat.le_of_ble_eq_true rfl)⟩) (kpS (A := A) (kPnil) hK ((kDnil (A := A))) hG) rfl rfl hl.1 rfl (lv_room (Nat.le_of_ble_eq_true rfl)) (kdr dgX1_go_0 0 8 rfl rfl) ⟨(Nat.le_of_ble_eq_true rfl), (Nat.le_of_ble_eq_true rfl)⟩) hP hD hS hA kFr_n (fun H locs hP hD hS => ?_)
  refine lv_lstore (lv' := (kvJ 5 r3 (kvA 0 (a 0) (kvI 1 p0 (kvI 2 p1 (kvI 3 p2 (kvI 4 p3 kvE))))))) hx hb (kdr dgX1_go_0 0 9 rfl rfl) hl (by decide) rfl (fun ls hl => ?_)
  refine lv_iload hx hb (kdr dgX1_go_0 1 0 rfl rfl) (lv_at hl 5 rfl) ?_
  refine lv_if_eq (tgt := 35) hx hb (kdr dgX1_go_0 1 1 rfl rfl) (by decide) (fun c4 => ?_) (fun c4 => ?_)
  · have h := g_t c4 h
    refine lv_aload_n hx hb (kdr dgX1_go_0 1 9 rfl rfl) rfl (lv_at hl 1 rfl) ?_
    refine va_get (D := (dC, dI)) (ci := 3) (v := .ref (a 1)) (C := RX1) (T := TX1) (N := 10) hx hb hts hiX1 hown hK hP 0 rfl rfl 0 (by decide) hw1 (fun _ h9 => h9) rfl (kdr dgX1_go_0 2 0 rfl rfl) ?_
    refine lv_iload_n hx hb (kdr dgX1_go_0 2 1 rfl rfl) rfl (lv_at hl 2 rfl) ?_
    obtain ⟨z4, h⟩ := g_if h
    refine va_lald hx hb hK hP 1 2 rfl rfl (ix_in z4) (kdr dgX1_go_0 2 2 rfl rfl) ?_
    refine lv_lload hx hb (kdr dgX1_go_0 2 3 rfl rfl) (lv_at hl 0 rfl) ?_
    refine lv_ladd hx hb (kdr dgX1_go_0 2 4 rfl rfl) ?_
    exact J44 ce fr un sb se so sc wb we wo wc fb fe fo fc rm ac rf kn p0 ((ce p0.toNatClampNeg) + r3) _ _ hP hD hS ls (lv_sub hl [1, 2] rfl) h
  · have h := g_f c4 h
    refine lv_aload_n hx hb (kdr dgX1_go_0 1 2 rfl rfl) rfl (lv_at hl 1 rfl) ?_
    refine va_get (D := (dC, dI)) (ci := 3) (v := .ref (a 1)) (C := RX1) (T := TX1) (N := 10) hx hb hts hiX1 hown hK hP 0 rfl rfl 0 (by decide) hw1 (fun _ h9 => h9) rfl (kdr dgX1_go_0 1 3 rfl rfl) ?_
    refine lv_iload_n hx hb (kdr dgX1_go_0 1 4 rfl rfl) rfl (lv_at hl 2 rfl) ?_
    obtain ⟨z4, h⟩ := g_if h
    refine va_lald hx hb hK hP 1 2 rfl rfl (ix_in z4) (kdr dgX1_go_0 1 5 rfl rfl) ?_
    refine lv_lload hx hb (kdr dgX1_go_0 1 6 rfl rfl) (lv_at hl 0 rfl) ?_
    refine lv_lsub hx hb (kdr dgX1_go_0 1 7 rfl rfl) ?_
    refine lv_goto (tgt := 44) hx hb (kdr dgX1_go_0 1 8 rfl rfl) (by decide) ?_
    exact J44 ce fr un sb se so sc wb we wo wc fb fe fo fc rm ac rf kn p0 ((ce p0.toNatClampNeg) - r3) _ _ hP hD hS ls (lv_sub hl [1, 2] rfl) h
noncomputable def fx_X1_go (p0 : Int32) (p1 : Int32) (p2 : Int32) : Option (Nat) :=
  xb (fx_X1_needCell p0) (fun k1 => some k1) (
  (f_X1_needCell p0).bind fun r1 =>
  xb (fx_X1_needUnits p1 p2 (-2000000000)) (fun k2 => some k2) (
  none))
theorem fx_X1_go_e {p0 : Int32} {p1 : Int32} {p2 : Int32} : fx_X1_go p0 p1 p2 = 
  xb (fx_X1_needCell p0) (fun k1 => some k1) (
  (f_X1_needCell p0).bind fun r1 =>
  xb (fx_X1_needUnits p1 p2 (-2000000000)) (fun k2 => some k2) (
  none)) := rfl
set_option maxHeartbeats 4000000 in
set_option maxRecDepth 100000 in
theorem x_X1_go (l : Launch) (hl9 : l.stackTraces = false) (dC : Nat → ClassId) (dI : Nat → Nat → Nat) (cB cI cJ cZ : ClassId) (a : Nat → Nat) (sz : Nat) (ce : Nat → Int64) (fr : Int64) (un : Int64) (sb : Nat → Int64) (se : Nat → Int64) (so : Nat → Int32) (sc : Int32) (wb : Nat → Int64) (we : Nat → Int64) (wo : Nat → Int32) (wc : Int32) (fb : Nat → Int64) (fe : Nat → Int64) (fo : Nat → Int32) (fc : Int32) (rm : Nat → Int32) (ac : Int32) (rf : Int32) (kn : Int32) (p0 : Int32) (p1 : Int32) (p2 : Int32) (p3 : Int32) (res : Nat) (hf : fx_X1_go p0 p1 p2 = some res) : kMX l yX1_go wsX1_go (kRm 8 1 6 132) dC dI cB cI cJ cZ [.ref (a 0), .int p0, .int p1, .int p2, .int p3] sz (wSB cI cJ cZ a ce fr un sb se so sc wb we wo wc fb fe fo fc rm ac rf kn) (res) (wSB cI cJ cZ a ce fr un sb se so sc wb we wo wc fb fe fo fc rm ac rf kn) 1 6 := by
  refine kmet_x (y := yX1_go) (cc := cX1_go) (maxL := 10) (ret := (some .int)) RX1 (kvA 0 (a 0) (kvI 1 p0 (kvI 2 p1 (kvI 3 p2 (kvI 4 p3 kvE))))) kpl_X1 rfl rfl (Nat.le_of_ble_eq_true rfl) rfl (fun p e s m below meth c A ls hx hb hr hml ht hts hown hlocks hP hK hG hZ hD hA hS hl => ?_)
  have hw0 := hts (.constant RX1 49 (-2000000000)) (List.mem_cons_of_mem _ kw_494)
  have h := fx_X1_go_e.symm.trans hf
  refine lv_iload_n hx hb (kdr dgX1_go_0 0 0 rfl rfl) rfl (lv_at hl 1 rfl) ?_
  rcases g_x h with ⟨k1, j1, h⟩ | ⟨-, h⟩
  · have h := Option.some.inj h
    subst h
    exact kq_x (wSB cI cJ cZ a ce fr un sb se so sc wb we wo wc fb fe fo fc rm ac rf kn) (fun qP qD qF => vx_runS (As := [.int p0]) (rest := []) ⟨hx, hb, hml, hown, hts⟩ (x_X1_needCell l hl9 dC dI cB cI cJ cZ  _  p0 k1 j1) (kcwS hts kw_473 kv_X1_needCell rfl rfl ⟨(Nat.le_of_ble_eq_true rfl), (Nat.le_of_ble_eq_true rfl)⟩) (kpSXq (A := A) (kPnil) hK ((kDnil (A := A))) hG hZ hS qF) rfl rfl hl.1 rfl (lv_room (Nat.le_of_ble_eq_true rfl)) (kdr dgX1_go_0 0 1 rfl rfl) ⟨(Nat.le_of_ble_eq_true rfl), (Nat.le_of_ble_eq_true rfl)⟩) hP hD hS hA kFr_n ht hlocks (Nat.le_of_ble_eq_true rfl) (Nat.le_of_ble_eq_true rfl)
  · obtain ⟨r1, g1, h⟩ := g_b h
    refine kq_v (wSB cI cJ cZ a ce fr un sb se so sc wb we wo wc fb fe fo fc rm ac rf kn) (fun qP qD qF => va_runS (As := [.int p0]) (rest := []) ⟨hx, hb, hml, hown, hts⟩ (c_X1_needCell l dC dI cB cI cJ cZ  _  p0 r1 g1) (kcwS hts kw_473 kv_X1_needCell rfl rfl ⟨(Nat.le_of_ble_eq_true rfl), (Nat.le_of_ble_eq_true rfl)⟩) (kpS (A := A) (kPnil) hK ((kDnil (A := A))) hG) rfl rfl hl.1 rfl (lv_room (Nat.le_of_ble_eq_true rfl)) (kdr dgX1_go_0 0 1 rfl rfl) ⟨(Nat.le_of_ble_eq_true rfl), (Nat.le_of_ble_eq_true rfl)⟩) hP hD hS hA kFr_n (fun H locs hP hD hS => ?_)
    refine lv_iload_n hx hb (kdr dgX1_go_0 0 2 rfl rfl) rfl (lv_at hl 2 rfl) ?_
    refine lv_iload_n hx hb (kdr dgX1_go_0 0 3 rfl rfl) rfl (lv_at hl 3 rfl) ?_
    refine lv_ldc (v := (-2000000000)) hx hb hown hw0 (kdr dgX1_go_0 0 4 rfl rfl) ?_
    rcases g_x h with ⟨k2, j2, h⟩ | ⟨-, h⟩
    · have h := Option.some.inj h
      subst h
      exact kq_x (wSB cI cJ cZ a ce fr un sb se so sc wb we wo wc fb fe fo fc rm ac rf kn) (fun qP qD qF => vx_runS (As := [.int p1, .int p2, .int (-2000000000)]) (rest := []) ⟨hx, hb, hml, hown, hts⟩ (x_X1_needUnits l hl9 dC dI cB cI cJ cZ  _  p1 p2 (-2000000000) k2 j2) (kcwS hts kw_512 kv_X1_needUnits rfl rfl ⟨(Nat.le_of_ble_eq_true rfl), (Nat.le_of_ble_eq_true rfl)⟩) (kpSXq (A := A) (kPnil) hK ((kDnil (A := A))) hG hZ hS qF) rfl rfl hl.1 rfl (lv_room (Nat.le_of_ble_eq_true rfl)) (kdr dgX1_go_0 0 5 rfl rfl) ⟨(Nat.le_of_ble_eq_true rfl), (Nat.le_of_ble_eq_true rfl)⟩) hP hD hS hA kFr_n ht hlocks (Nat.le_of_ble_eq_true rfl) (Nat.le_of_ble_eq_true rfl)
    · cases h
noncomputable abbrev wsX1_copy : List Cond := kWs yX1_copy cX1_copy 3 (some .int)
noncomputable def f_X1_copy (ce : Nat → Int64) (ac : Int32) (p0 : Int32) (p1 : Int32) : Option ((Int32) × (Nat → Int64) × (Int32)) :=
  (f_X1_needCell p0).bind fun r1 =>
  (f_X1_needCell p1).bind fun r2 =>
  if ix p0 4 then
    (f_X1_bring ce (ce p0.toNatClampNeg) p1).bind fun r4 =>
    (f_X1_done ac r4.1).bind fun r5 =>
    some (r5.1, r4.2, r5.2)
  else none
theorem f_X1_copy_e {ce : Nat → Int64} {ac : Int32} {p0 : Int32} {p1 : Int32} : f_X1_copy ce ac p0 p1 = 
  (f_X1_needCell p0).bind fun r1 =>
  (f_X1_needCell p1).bind fun r2 =>
  if ix p0 4 then
    (f_X1_bring ce (ce p0.toNatClampNeg) p1).bind fun r4 =>
    (f_X1_done ac r4.1).bind fun r5 =>
    some (r5.1, r4.2, r5.2)
  else none := rfl
set_option maxHeartbeats 4000000 in
set_option maxRecDepth 100000 in
theorem c_X1_copy (l : Launch) (dC : Nat → ClassId) (dI : Nat → Nat → Nat) (cB cI cJ cZ : ClassId) (a : Nat → Nat) (sz : Nat) (ce : Nat → Int64) (fr : Int64) (un : Int64) (sb : Nat → Int64) (se : Nat → Int64) (so : Nat → Int32) (sc : Int32) (wb : Nat → Int64) (we : Nat → Int64) (wo : Nat → Int32) (wc : Int32) (fb : Nat → Int64) (fe : Nat → Int64) (fo : Nat → Int32) (fc : Int32) (rm : Nat → Int32) (ac : Int32) (rf : Int32) (kn : Int32) (p0 : Int32) (p1 : Int32) (res : (Int32) × (Nat → Int64) × (Int32)) (hf : f_X1_copy ce ac p0 p1 = some res) : kMi l yX1_copy wsX1_copy (kRm 2 0 0 42) dC dI cB cI cJ cZ [.ref (a 0), .int p0, .int p1] sz (wSB cI cJ cZ a ce fr un sb se so sc wb we wo wc fb fe fo fc rm ac rf kn) .int (res.1) (wSB cI cJ cZ a (res.2.1) fr un sb se so sc wb we wo wc fb fe fo fc rm (res.2.2) rf kn) 0 0 := by
  refine kmet_i (y := yX1_copy) (cc := cX1_copy) (maxL := 3) (ret := (some .int)) RX1 (kvA 0 (a 0) (kvI 1 p0 (kvI 2 p1 kvE))) kpl_X1 rfl rfl (Nat.le_of_ble_eq_true rfl) rfl (fun p e s m below meth c A ls hx hb hr hml hts hown hlocks hP hK hG hD hA hS hl => ?_)
  have hw0 := hts (.fieldLink RX1 9 "Spanbooker" "cells" "[J") (List.mem_cons_of_mem _ kw_107)
  have hiX1 : ∀ w ∈ u_ws RX1 TX1 10, w ∈ wsX1_copy := fun w h => List.mem_cons_of_mem _ (ku_X1 w h)
  have h := f_X1_copy_e.symm.trans hf
  refine lv_iload_n hx hb (kdr dgX1_copy_0 0 0 rfl rfl) rfl (lv_at hl 1 rfl) ?_
  obtain ⟨r1, g1, h⟩ := g_b h
  refine kq_v (wSB cI cJ cZ a ce fr un sb se so sc wb we wo wc fb fe fo fc rm ac rf kn) (fun qP qD qF => va_runS (As := [.int p0]) (rest := []) ⟨hx, hb, hml, hown, hts⟩ (c_X1_needCell l dC dI cB cI cJ cZ  _  p0 r1 g1) (kcwS hts kw_473 kv_X1_needCell rfl rfl ⟨(Nat.le_of_ble_eq_true rfl), (Nat.le_of_ble_eq_true rfl)⟩) (kpS (A := A) (kPnil) hK ((kDnil (A := A))) hG) rfl rfl hl.1 rfl (lv_room (Nat.le_of_ble_eq_true rfl)) (kdr dgX1_copy_0 0 1 rfl rfl) ⟨(Nat.le_of_ble_eq_true rfl), (Nat.le_of_ble_eq_true rfl)⟩) hP hD hS hA kFr_n (fun H locs hP hD hS => ?_)
  refine lv_iload_n hx hb (kdr dgX1_copy_0 0 2 rfl rfl) rfl (lv_at hl 2 rfl) ?_
  obtain ⟨r2, g2, h⟩ := g_b h
  refine kq_v (wSB cI cJ cZ a ce fr un sb se so sc wb we wo wc fb fe fo fc rm ac rf kn) (fun qP qD qF => va_runS (As := [.int p1]) (rest := []) ⟨hx, hb, hml, hown, hts⟩ (c_X1_needCell l dC dI cB cI cJ cZ  _  p1 r2 g2) (kcwS hts kw_473 kv_X1_needCell rfl rfl ⟨(Nat.le_of_ble_eq_true rfl), (Nat.le_of_ble_eq_true rfl)⟩) (kpS (A := A) (kPnil) hK ((kDnil (A := A))) hG) rfl rfl hl.1 rfl (lv_room (Nat.le_of_ble_eq_true rfl)) (kdr dgX1_copy_0 0 3 rfl rfl) ⟨(Nat.le_of_ble_eq_true rfl), (Nat.le_of_ble_eq_true rfl)⟩) hP hD hS hA kFr_n (fun H locs hP hD hS => ?_)
  refine lv_aload_n hx hb (kdr dgX1_copy_0 0 4 rfl rfl) rfl (lv_at hl 0 rfl) ?_
  refine lv_aload_n hx hb (kdr dgX1_copy_0 0 5 rfl rfl) rfl (lv_at hl 0 rfl) ?_
  refine lv_aload_n hx hb (kdr dgX1_copy_0 0 6 rfl rfl) rfl (lv_at hl 0 rfl) ?_
  refine va_get (D := (dC, dI)) (ci := 3) (v := .ref (a 1)) (C := RX1) (T := TX1) (N := 10) hx hb hts hiX1 hown hK hP 0 rfl rfl 0 (by decide) hw0 (fun _ h9 => h9) rfl (kdr dgX1_copy_0 0 7 rfl rfl) ?_
  refine lv_iload_n hx hb (kdr dgX1_copy_0 0 8 rfl rfl) rfl (lv_at hl 1 rfl) ?_
  obtain ⟨z2, h⟩ := g_if h
  refine va_lald hx hb hK hP 1 2 rfl rfl (ix_in z2) (kdr dgX1_copy_0 0 9 rfl rfl) ?_
  refine lv_iload_n hx hb (kdr dgX1_copy_0 1 0 rfl rfl) rfl (lv_at hl 2 rfl) ?_
  obtain ⟨r4, g4, h⟩ := g_b h
  refine kq_i (wSB cI cJ cZ a r4.2 fr un sb se so sc wb we wo wc fb fe fo fc rm ac rf kn) (fun qP qD qF => va_runV (As := [.long (ce p0.toNatClampNeg), .int p1]) (rest := [.ref (a 0)]) ⟨hx, hb, hml, hown, hts⟩ (c_X1_bring l dC dI cB cI cJ cZ a _ ce fr un sb se so sc wb we wo wc fb fe fo fc rm ac rf kn (ce p0.toNatClampNeg) p1 r4 g4) (kcwV hts kw_529 kv_X1_bring rfl rfl ⟨(Nat.le_of_ble_eq_true rfl), (Nat.le_of_ble_eq_true rfl)⟩) (kpV (A := A) qP hK qD hG (krecv_3 (q0 := 0) hK hP rfl)) rfl rfl hl.1 rfl (lv_room (Nat.le_of_ble_eq_true rfl)) (kdr dgX1_copy_0 1 1 rfl rfl) ⟨(Nat.le_of_ble_eq_true rfl), (Nat.le_of_ble_eq_true rfl)⟩) hP hD hS hA kFr_SB (fun H locs hP hD hS br4 => ?_)
  obtain ⟨r5, g5, h⟩ := g_b h
  refine kq_i (wSB cI cJ cZ a r4.2 fr un sb se so sc wb we wo wc fb fe fo fc rm r5.2 rf kn) (fun qP qD qF => va_runV (As := [.int r4.1]) (rest := []) ⟨hx, hb, hml, hown, hts⟩ (c_X1_done l dC dI cB cI cJ cZ a _ r4.2 fr un sb se so sc wb we wo wc fb fe fo fc rm ac rf kn r4.1 r5 g5) (kcwV hts kw_147 kv_X1_done rfl rfl ⟨(Nat.le_of_ble_eq_true rfl), (Nat.le_of_ble_eq_true rfl)⟩) (kpV (A := A) qP hK qD hG (krecv_3 (q0 := 0) hK hP rfl)) rfl rfl hl.1 rfl (lv_room (Nat.le_of_ble_eq_true rfl)) (kdr dgX1_copy_0 1 2 rfl rfl) ⟨(Nat.le_of_ble_eq_true rfl), (Nat.le_of_ble_eq_true rfl)⟩) hP hD hS hA kFr_SB (fun H locs hP hD hS br5 => ?_)
  have h := Option.some.inj h
  subst h
  exact kret_i (v := r5.1) hx hb hr rfl hlocks hS hP (kdr dgX1_copy_0 1 3 rfl rfl)
noncomputable def fx_X1_copy (p0 : Int32) (p1 : Int32) : Option (Nat) :=
  xb (fx_X1_needCell p0) (fun k1 => some k1) (
  (f_X1_needCell p0).bind fun r1 =>
  xb (fx_X1_needCell p1) (fun k2 => some k2) (
  none))
theorem fx_X1_copy_e {p0 : Int32} {p1 : Int32} : fx_X1_copy p0 p1 = 
  xb (fx_X1_needCell p0) (fun k1 => some k1) (
  (f_X1_needCell p0).bind fun r1 =>
  xb (fx_X1_needCell p1) (fun k2 => some k2) (
  none)) := rfl
set_option maxHeartbeats 4000000 in
set_option maxRecDepth 100000 in
theorem x_X1_copy (l : Launch) (hl9 : l.stackTraces = false) (dC : Nat → ClassId) (dI : Nat → Nat → Nat) (cB cI cJ cZ : ClassId) (a : Nat → Nat) (sz : Nat) (ce : Nat → Int64) (fr : Int64) (un : Int64) (sb : Nat → Int64) (se : Nat → Int64) (so : Nat → Int32) (sc : Int32) (wb : Nat → Int64) (we : Nat → Int64) (wo : Nat → Int32) (wc : Int32) (fb : Nat → Int64) (fe : Nat → Int64) (fo : Nat → Int32) (fc : Int32) (rm : Nat → Int32) (ac : Int32) (rf : Int32) (kn : Int32) (p0 : Int32) (p1 : Int32) (res : Nat) (hf : fx_X1_copy p0 p1 = some res) : kMX l yX1_copy wsX1_copy (kRm 7 1 6 110) dC dI cB cI cJ cZ [.ref (a 0), .int p0, .int p1] sz (wSB cI cJ cZ a ce fr un sb se so sc wb we wo wc fb fe fo fc rm ac rf kn) (res) (wSB cI cJ cZ a ce fr un sb se so sc wb we wo wc fb fe fo fc rm ac rf kn) 1 6 := by
  refine kmet_x (y := yX1_copy) (cc := cX1_copy) (maxL := 3) (ret := (some .int)) RX1 (kvA 0 (a 0) (kvI 1 p0 (kvI 2 p1 kvE))) kpl_X1 rfl rfl (Nat.le_of_ble_eq_true rfl) rfl (fun p e s m below meth c A ls hx hb hr hml ht hts hown hlocks hP hK hG hZ hD hA hS hl => ?_)
  have h := fx_X1_copy_e.symm.trans hf
  refine lv_iload_n hx hb (kdr dgX1_copy_0 0 0 rfl rfl) rfl (lv_at hl 1 rfl) ?_
  rcases g_x h with ⟨k1, j1, h⟩ | ⟨-, h⟩
  · have h := Option.some.inj h
    subst h
    exact kq_x (wSB cI cJ cZ a ce fr un sb se so sc wb we wo wc fb fe fo fc rm ac rf kn) (fun qP qD qF => vx_runS (As := [.int p0]) (rest := []) ⟨hx, hb, hml, hown, hts⟩ (x_X1_needCell l hl9 dC dI cB cI cJ cZ  _  p0 k1 j1) (kcwS hts kw_473 kv_X1_needCell rfl rfl ⟨(Nat.le_of_ble_eq_true rfl), (Nat.le_of_ble_eq_true rfl)⟩) (kpSXq (A := A) (kPnil) hK ((kDnil (A := A))) hG hZ hS qF) rfl rfl hl.1 rfl (lv_room (Nat.le_of_ble_eq_true rfl)) (kdr dgX1_copy_0 0 1 rfl rfl) ⟨(Nat.le_of_ble_eq_true rfl), (Nat.le_of_ble_eq_true rfl)⟩) hP hD hS hA kFr_n ht hlocks (Nat.le_of_ble_eq_true rfl) (Nat.le_of_ble_eq_true rfl)
  · obtain ⟨r1, g1, h⟩ := g_b h
    refine kq_v (wSB cI cJ cZ a ce fr un sb se so sc wb we wo wc fb fe fo fc rm ac rf kn) (fun qP qD qF => va_runS (As := [.int p0]) (rest := []) ⟨hx, hb, hml, hown, hts⟩ (c_X1_needCell l dC dI cB cI cJ cZ  _  p0 r1 g1) (kcwS hts kw_473 kv_X1_needCell rfl rfl ⟨(Nat.le_of_ble_eq_true rfl), (Nat.le_of_ble_eq_true rfl)⟩) (kpS (A := A) (kPnil) hK ((kDnil (A := A))) hG) rfl rfl hl.1 rfl (lv_room (Nat.le_of_ble_eq_true rfl)) (kdr dgX1_copy_0 0 1 rfl rfl) ⟨(Nat.le_of_ble_eq_true rfl), (Nat.le_of_ble_eq_true rfl)⟩) hP hD hS hA kFr_n (fun H locs hP hD hS => ?_)
    refine lv_iload_n hx hb (kdr dgX1_copy_0 0 2 rfl rfl) rfl (lv_at hl 2 rfl) ?_
    rcases g_x h with ⟨k2, j2, h⟩ | ⟨-, h⟩
    · have h := Option.some.inj h
      subst h
      exact kq_x (wSB cI cJ cZ a ce fr un sb se so sc wb we wo wc fb fe fo fc rm ac rf kn) (fun qP qD qF => vx_runS (As := [.int p1]) (rest := []) ⟨hx, hb, hml, hown, hts⟩ (x_X1_needCell l hl9 dC dI cB cI cJ cZ  _  p1 k2 j2) (kcwS hts kw_473 kv_X1_needCell rfl rfl ⟨(Nat.le_of_ble_eq_true rfl), (Nat.le_of_ble_eq_true rfl)⟩) (kpSXq (A := A) (kPnil) hK ((kDnil (A := A))) hG hZ hS qF) rfl rfl hl.1 rfl (lv_room (Nat.le_of_ble_eq_true rfl)) (kdr dgX1_copy_0 0 3 rfl rfl) ⟨(Nat.le_of_ble_eq_true rfl), (Nat.le_of_ble_eq_true rfl)⟩) hP hD hS hA kFr_n ht hlocks (Nat.le_of_ble_eq_true rfl) (Nat.le_of_ble_eq_true rfl)
    · cases h
noncomputable abbrev wsX1_swap : List Cond := kWs yX1_swap cX1_swap 6 (some .int)
noncomputable def f_X1_swap (ce : Nat → Int64) (ac : Int32) (p0 : Int32) (p1 : Int32) : Option ((Int32) × (Nat → Int64) × (Int32)) :=
  (f_X1_needCell p0).bind fun r1 =>
  (f_X1_needCell p1).bind fun r2 =>
  if ix p1 4 then
    if ix p0 4 then
      (f_X1_bring ce (ce p0.toNatClampNeg) p1).bind fun r5 =>
      (f_X1_done ac r5.1).bind fun r6 =>
      some (r6.1, vp_updL r5.2 p0.toNatClampNeg (ce p1.toNatClampNeg), r6.2)
    else none
  else none
theorem f_X1_swap_e {ce : Nat → Int64} {ac : Int32} {p0 : Int32} {p1 : Int32} : f_X1_swap ce ac p0 p1 = 
  (f_X1_needCell p0).bind fun r1 =>
  (f_X1_needCell p1).bind fun r2 =>
  if ix p1 4 then
    if ix p0 4 then
      (f_X1_bring ce (ce p0.toNatClampNeg) p1).bind fun r5 =>
      (f_X1_done ac r5.1).bind fun r6 =>
      some (r6.1, vp_updL r5.2 p0.toNatClampNeg (ce p1.toNatClampNeg), r6.2)
    else none
  else none := rfl
set_option maxHeartbeats 4000000 in
set_option maxRecDepth 100000 in
theorem c_X1_swap (l : Launch) (dC : Nat → ClassId) (dI : Nat → Nat → Nat) (cB cI cJ cZ : ClassId) (a : Nat → Nat) (sz : Nat) (ce : Nat → Int64) (fr : Int64) (un : Int64) (sb : Nat → Int64) (se : Nat → Int64) (so : Nat → Int32) (sc : Int32) (wb : Nat → Int64) (we : Nat → Int64) (wo : Nat → Int32) (wc : Int32) (fb : Nat → Int64) (fe : Nat → Int64) (fo : Nat → Int32) (fc : Int32) (rm : Nat → Int32) (ac : Int32) (rf : Int32) (kn : Int32) (p0 : Int32) (p1 : Int32) (res : (Int32) × (Nat → Int64) × (Int32)) (hf : f_X1_swap ce ac p0 p1 = some res) : kMi l yX1_swap wsX1_swap (kRm 2 0 0 42) dC dI cB cI cJ cZ [.ref (a 0), .int p0, .int p1] sz (wSB cI cJ cZ a ce fr un sb se so sc wb we wo wc fb fe fo fc rm ac rf kn) .int (res.1) (wSB cI cJ cZ a (res.2.1) fr un sb se so sc wb we wo wc fb fe fo fc rm (res.2.2) rf kn) 0 0 := by
  refine kmet_i (y := yX1_swap) (cc := cX1_swap) (maxL := 6) (ret := (some .int)) RX1 (kvA 0 (a 0) (kvI 1 p0 (kvI 2 p1 kvE))) kpl_X1 rfl rfl (Nat.le_of_ble_eq_true rfl) rfl (fun p e s m below meth c A ls hx hb hr hml hts hown hlocks hP hK hG hD hA hS hl => ?_)
  have hw0 := hts (.fieldLink RX1 9 "Spanbooker" "cells" "[J") (List.mem_cons_of_mem _ kw_107)
  have hiX1 : ∀ w ∈ u_ws RX1 TX1 10, w ∈ wsX1_swap := fun w h => List.mem_cons_of_mem _ (ku_X1 w h)
  have h := f_X1_swap_e.symm.trans hf
  refine lv_iload_n hx hb (kdr dgX1_swap_0 0 0 rfl rfl) rfl (lv_at hl 1 rfl) ?_
  obtain ⟨r1, g1, h⟩ := g_b h
  refine kq_v (wSB cI cJ cZ a ce fr un sb se so sc wb we wo wc fb fe fo fc rm ac rf kn) (fun qP qD qF => va_runS (As := [.int p0]) (rest := []) ⟨hx, hb, hml, hown, hts⟩ (c_X1_needCell l dC dI cB cI cJ cZ  _  p0 r1 g1) (kcwS hts kw_473 kv_X1_needCell rfl rfl ⟨(Nat.le_of_ble_eq_true rfl), (Nat.le_of_ble_eq_true rfl)⟩) (kpS (A := A) (kPnil) hK ((kDnil (A := A))) hG) rfl rfl hl.1 rfl (lv_room (Nat.le_of_ble_eq_true rfl)) (kdr dgX1_swap_0 0 1 rfl rfl) ⟨(Nat.le_of_ble_eq_true rfl), (Nat.le_of_ble_eq_true rfl)⟩) hP hD hS hA kFr_n (fun H locs hP hD hS => ?_)
  refine lv_iload_n hx hb (kdr dgX1_swap_0 0 2 rfl rfl) rfl (lv_at hl 2 rfl) ?_
  obtain ⟨r2, g2, h⟩ := g_b h
  refine kq_v (wSB cI cJ cZ a ce fr un sb se so sc wb we wo wc fb fe fo fc rm ac rf kn) (fun qP qD qF => va_runS (As := [.int p1]) (rest := []) ⟨hx, hb, hml, hown, hts⟩ (c_X1_needCell l dC dI cB cI cJ cZ  _  p1 r2 g2) (kcwS hts kw_473 kv_X1_needCell rfl rfl ⟨(Nat.le_of_ble_eq_true rfl), (Nat.le_of_ble_eq_true rfl)⟩) (kpS (A := A) (kPnil) hK ((kDnil (A := A))) hG) rfl rfl hl.1 rfl (lv_room (Nat.le_of_ble_eq_true rfl)) (kdr dgX1_swap_0 0 3 rfl rfl) ⟨(Nat.le_of_ble_eq_true rfl), (Nat.le_of_ble_eq_true rfl)⟩) hP hD hS hA kFr_n (fun H locs hP hD hS => ?_)
  refine lv_aload_n hx hb (kdr dgX1_swap_0 0 4 rfl rfl) rfl (lv_at hl 0 rfl) ?_
  refine va_get (D := (dC, dI)) (ci := 3) (v := .ref (a 1)) (C := RX1) (T := TX1) (N := 10) hx hb hts hiX1 hown hK hP 0 rfl rfl 0 (by decide) hw0 (fun _ h9 => h9) rfl (kdr dgX1_swap_0 0 5 rfl rfl) ?_
  refine lv_iload_n hx hb (kdr dgX1_swap_0 0 6 rfl rfl) rfl (lv_at hl 2 rfl) ?_
  obtain ⟨z2, h⟩ := g_if h
  refine va_lald hx hb hK hP 1 2 rfl rfl (ix_in z2) (kdr dgX1_swap_0 0 7 rfl rfl) ?_
  refine lv_lstore_n (lv' := (kvJ 3 (ce p1.toNatClampNeg) (kvA 0 (a 0) (kvI 1 p0 (kvI 2 p1 kvE))))) hx hb (kdr dgX1_swap_0 0 8 rfl rfl) rfl hl (by decide) rfl (fun ls hl => ?_)
  refine lv_aload_n hx hb (kdr dgX1_swap_0 0 9 rfl rfl) rfl (lv_at hl 1 rfl) ?_
  refine lv_aload_n hx hb (kdr dgX1_swap_0 1 0 rfl rfl) rfl (lv_at hl 1 rfl) ?_
  refine va_get (D := (dC, dI)) (ci := 3) (v := .ref (a 1)) (C := RX1) (T := TX1) (N := 10) hx hb hts hiX1 hown hK hP 0 rfl rfl 0 (by decide) hw0 (fun _ h9 => h9) rfl (kdr dgX1_swap_0 1 1 rfl rfl) ?_
  refine lv_iload_n hx hb (kdr dgX1_swap_0 1 2 rfl rfl) rfl (lv_at hl 2 rfl) ?_
  obtain ⟨z3, h⟩ := g_if h
  refine va_lald hx hb hK hP 1 2 rfl rfl (ix_in z3) (kdr dgX1_swap_0 1 3 rfl rfl) ?_
  refine lv_iload_n hx hb (kdr dgX1_swap_0 1 4 rfl rfl) rfl (lv_at hl 3 rfl) ?_
  obtain ⟨r5, g5, h⟩ := g_b h
  refine kq_i (wSB cI cJ cZ a r5.2 fr un sb se so sc wb we wo wc fb fe fo fc rm ac rf kn) (fun qP qD qF => va_runV (As := [.long (ce p0.toNatClampNeg), .int p1]) (rest := []) ⟨hx, hb, hml, hown, hts⟩ (c_X1_bring l dC dI cB cI cJ cZ a _ ce fr un sb se so sc wb we wo wc fb fe fo fc rm ac rf kn (ce p0.toNatClampNeg) p1 r5 g5) (kcwV hts kw_529 kv_X1_bring rfl rfl ⟨(Nat.le_of_ble_eq_true rfl), (Nat.le_of_ble_eq_true rfl)⟩) (kpV (A := A) qP hK qD hG (krecv_3 (q0 := 0) hK hP rfl)) rfl rfl hl.1 rfl (lv_room (Nat.le_of_ble_eq_true rfl)) (kdr dgX1_swap_0 1 5 rfl rfl) ⟨(Nat.le_of_ble_eq_true rfl), (Nat.le_of_ble_eq_true rfl)⟩) hP hD hS hA kFr_SB (fun H locs hP hD hS br5 => ?_)
  refine lv_istore (lv' := (kvI 5 r5.1 (kvJ 3 (ce p1.toNatClampNeg) (kvA 0 (a 0) (kvI 1 p0 (kvI 2 p1 kvE)))))) hx hb (kdr dgX1_swap_0 1 6 rfl rfl) hl (by decide) rfl (fun ls hl => ?_)
  refine lv_aload_n hx hb (kdr dgX1_swap_0 1 7 rfl rfl) rfl (lv_at hl 2 rfl) ?_
  refine va_get (D := (dC, dI)) (ci := 3) (v := .ref (a 1)) (C := RX1) (T := TX1) (N := 10) hx hb hts hiX1 hown hK hP 0 rfl rfl 0 (by decide) hw0 (fun _ h9 => h9) rfl (kdr dgX1_swap_0 1 8 rfl rfl) ?_
  refine lv_iload_n hx hb (kdr dgX1_swap_0 1 9 rfl rfl) rfl (lv_at hl 3 rfl) ?_
  refine lv_lload_n hx hb (kdr dgX1_swap_0 2 0 rfl rfl) rfl (lv_at hl 1 rfl) ?_
  refine va_last hx hb hK hP hD hS 1 2 rfl rfl (ix_in z3) (kdr dgX1_swap_0 2 1 rfl rfl) (fun H locs hP hD hS => ?_)
  have hP : va_P (dC, dI) vwCl (wSB cI cJ cZ a (vp_updL r5.2 p0.toNatClampNeg (ce p1.toNatClampNeg)) fr un sb se so sc wb we wo wc fb fe fo fc rm ac rf kn) H := hP
  have hD : va_D A (wSB cI cJ cZ a (vp_updL r5.2 p0.toNatClampNeg (ce p1.toNatClampNeg)) fr un sb se so sc wb we wo wc fb fe fo fc rm ac rf kn) := hD
  refine lv_aload_n hx hb (kdr dgX1_swap_0 2 2 rfl rfl) rfl (lv_at hl 2 rfl) ?_
  refine lv_iload hx hb (kdr dgX1_swap_0 2 3 rfl rfl) (lv_at hl 0 rfl) ?_
  obtain ⟨r6, g6, h⟩ := g_b h
  refine kq_i (wSB cI cJ cZ a (vp_updL r5.2 p0.toNatClampNeg (ce p1.toNatClampNeg)) fr un sb se so sc wb we wo wc fb fe fo fc rm r6.2 rf kn) (fun qP qD qF => va_runV (As := [.int r5.1]) (rest := []) ⟨hx, hb, hml, hown, hts⟩ (c_X1_done l dC dI cB cI cJ cZ a _ (vp_updL r5.2 p0.toNatClampNeg (ce p1.toNatClampNeg)) fr un sb se so sc wb we wo wc fb fe fo fc rm ac rf kn r5.1 r6 g6) (kcwV hts kw_147 kv_X1_done rfl rfl ⟨(Nat.le_of_ble_eq_true rfl), (Nat.le_of_ble_eq_true rfl)⟩) (kpV (A := A) qP hK qD hG (krecv_3 (q0 := 0) hK hP rfl)) rfl rfl hl.1 rfl (lv_room (Nat.le_of_ble_eq_true rfl)) (kdr dgX1_swap_0 2 4 rfl rfl) ⟨(Nat.le_of_ble_eq_true rfl), (Nat.le_of_ble_eq_true rfl)⟩) hP hD hS hA kFr_SB (fun H locs hP hD hS br6 => ?_)
  have h := Option.some.inj h
  subst h
  exact kret_i (v := r6.1) hx hb hr rfl hlocks hS hP (kdr dgX1_swap_0 2 5 rfl rfl)
noncomputable def fx_X1_swap (p0 : Int32) (p1 : Int32) : Option (Nat) :=
  xb (fx_X1_needCell p0) (fun k1 => some k1) (
  (f_X1_needCell p0).bind fun r1 =>
  xb (fx_X1_needCell p1) (fun k2 => some k2) (
  none))
theorem fx_X1_swap_e {p0 : Int32} {p1 : Int32} : fx_X1_swap p0 p1 = 
  xb (fx_X1_needCell p0) (fun k1 => some k1) (
  (f_X1_needCell p0).bind fun r1 =>
  xb (fx_X1_needCell p1) (fun k2 => some k2) (
  none)) := rfl
set_option maxHeartbeats 4000000 in
set_option maxRecDepth 100000 in
theorem x_X1_swap (l : Launch) (hl9 : l.stackTraces = false) (dC : Nat → ClassId) (dI : Nat → Nat → Nat) (cB cI cJ cZ : ClassId) (a : Nat → Nat) (sz : Nat) (ce : Nat → Int64) (fr : Int64) (un : Int64) (sb : Nat → Int64) (se : Nat → Int64) (so : Nat → Int32) (sc : Int32) (wb : Nat → Int64) (we : Nat → Int64) (wo : Nat → Int32) (wc : Int32) (fb : Nat → Int64) (fe : Nat → Int64) (fo : Nat → Int32) (fc : Int32) (rm : Nat → Int32) (ac : Int32) (rf : Int32) (kn : Int32) (p0 : Int32) (p1 : Int32) (res : Nat) (hf : fx_X1_swap p0 p1 = some res) : kMX l yX1_swap wsX1_swap (kRm 7 1 6 110) dC dI cB cI cJ cZ [.ref (a 0), .int p0, .int p1] sz (wSB cI cJ cZ a ce fr un sb se so sc wb we wo wc fb fe fo fc rm ac rf kn) (res) (wSB cI cJ cZ a ce fr un sb se so sc wb we wo wc fb fe fo fc rm ac rf kn) 1 6 := by
  refine kmet_x (y := yX1_swap) (cc := cX1_swap) (maxL := 6) (ret := (some .int)) RX1 (kvA 0 (a 0) (kvI 1 p0 (kvI 2 p1 kvE))) kpl_X1 rfl rfl (Nat.le_of_ble_eq_true rfl) rfl (fun p e s m below meth c A ls hx hb hr hml ht hts hown hlocks hP hK hG hZ hD hA hS hl => ?_)
  have h := fx_X1_swap_e.symm.trans hf
  refine lv_iload_n hx hb (kdr dgX1_swap_0 0 0 rfl rfl) rfl (lv_at hl 1 rfl) ?_
  rcases g_x h with ⟨k1, j1, h⟩ | ⟨-, h⟩
  · have h := Option.some.inj h
    subst h
    exact kq_x (wSB cI cJ cZ a ce fr un sb se so sc wb we wo wc fb fe fo fc rm ac rf kn) (fun qP qD qF => vx_runS (As := [.int p0]) (rest := []) ⟨hx, hb, hml, hown, hts⟩ (x_X1_needCell l hl9 dC dI cB cI cJ cZ  _  p0 k1 j1) (kcwS hts kw_473 kv_X1_needCell rfl rfl ⟨(Nat.le_of_ble_eq_true rfl), (Nat.le_of_ble_eq_true rfl)⟩) (kpSXq (A := A) (kPnil) hK ((kDnil (A := A))) hG hZ hS qF) rfl rfl hl.1 rfl (lv_room (Nat.le_of_ble_eq_true rfl)) (kdr dgX1_swap_0 0 1 rfl rfl) ⟨(Nat.le_of_ble_eq_true rfl), (Nat.le_of_ble_eq_true rfl)⟩) hP hD hS hA kFr_n ht hlocks (Nat.le_of_ble_eq_true rfl) (Nat.le_of_ble_eq_true rfl)
  · obtain ⟨r1, g1, h⟩ := g_b h
    refine kq_v (wSB cI cJ cZ a ce fr un sb se so sc wb we wo wc fb fe fo fc rm ac rf kn) (fun qP qD qF => va_runS (As := [.int p0]) (rest := []) ⟨hx, hb, hml, hown, hts⟩ (c_X1_needCell l dC dI cB cI cJ cZ  _  p0 r1 g1) (kcwS hts kw_473 kv_X1_needCell rfl rfl ⟨(Nat.le_of_ble_eq_true rfl), (Nat.le_of_ble_eq_true rfl)⟩) (kpS (A := A) (kPnil) hK ((kDnil (A := A))) hG) rfl rfl hl.1 rfl (lv_room (Nat.le_of_ble_eq_true rfl)) (kdr dgX1_swap_0 0 1 rfl rfl) ⟨(Nat.le_of_ble_eq_true rfl), (Nat.le_of_ble_eq_true rfl)⟩) hP hD hS hA kFr_n (fun H locs hP hD hS => ?_)
    refine lv_iload_n hx hb (kdr dgX1_swap_0 0 2 rfl rfl) rfl (lv_at hl 2 rfl) ?_
    rcases g_x h with ⟨k2, j2, h⟩ | ⟨-, h⟩
    · have h := Option.some.inj h
      subst h
      exact kq_x (wSB cI cJ cZ a ce fr un sb se so sc wb we wo wc fb fe fo fc rm ac rf kn) (fun qP qD qF => vx_runS (As := [.int p1]) (rest := []) ⟨hx, hb, hml, hown, hts⟩ (x_X1_needCell l hl9 dC dI cB cI cJ cZ  _  p1 k2 j2) (kcwS hts kw_473 kv_X1_needCell rfl rfl ⟨(Nat.le_of_ble_eq_true rfl), (Nat.le_of_ble_eq_true rfl)⟩) (kpSXq (A := A) (kPnil) hK ((kDnil (A := A))) hG hZ hS qF) rfl rfl hl.1 rfl (lv_room (Nat.le_of_ble_eq_true rfl)) (kdr dgX1_swap_0 0 3 rfl rfl) ⟨(Nat.le_of_ble_eq_true rfl), (Nat.le_of_ble_eq_true rfl)⟩) hP hD hS hA kFr_n ht hlocks (Nat.le_of_ble_eq_true rfl) (Nat.le_of_ble_eq_true rfl)
    · cases h
noncomputable abbrev wsX1_pick : List Cond := kWs yX1_pick cX1_pick 6 (some .int)
noncomputable def f_X1_pick_9 : Nat → (Nat → Int64) → (Int32) → (Int32) → (Int32) → (Int32) → (Int32) → Option ((Int32) × (Nat → Int64) × (Int32))
  | 0, _, _, _, _, _, _ => none
  | n + 1, ce, ac, x1, x2, x3, x4 =>
    if 4 ≤ x4 then
      if ix x3 4 then
        if ix x2 4 then
          (f_X1_done ac x3).bind fun r4 =>
          some (r4.1, vp_updL ce x2.toNatClampNeg (ce x3.toNatClampNeg), r4.2)
        else none
      else none
    else
      if x1 = 0 then
        if ix x4 4 then
          if ix x3 4 then
            if (ce x3.toNatClampNeg) ≤ (ce x4.toNatClampNeg) then
              if (0 : Int32) = 0 then
                f_X1_pick_9 n ce ac x1 x2 x3 (x4 + 1)
              else
                f_X1_pick_9 n ce ac x1 x2 x4 (x4 + 1)
            else
              if (1 : Int32) = 0 then
                f_X1_pick_9 n ce ac x1 x2 x3 (x4 + 1)
              else
                f_X1_pick_9 n ce ac x1 x2 x4 (x4 + 1)
          else none
        else none
      else
        if ix x4 4 then
          if ix x3 4 then
            if (ce x4.toNatClampNeg) ≤ (ce x3.toNatClampNeg) then
              if (0 : Int32) = 0 then
                f_X1_pick_9 n ce ac x1 x2 x3 (x4 + 1)
              else
                f_X1_pick_9 n ce ac x1 x2 x4 (x4 + 1)
            else
              if (1 : Int32) = 0 then
                f_X1_pick_9 n ce ac x1 x2 x3 (x4 + 1)
              else
                f_X1_pick_9 n ce ac x1 x2 x4 (x4 + 1)
          else none
        else none
theorem f_X1_pick_9_0 {ce : Nat → Int64} {ac : Int32} {x1 : Int32} {x2 : Int32} {x3 : Int32} {x4 : Int32} : f_X1_pick_9 0 ce ac x1 x2 x3 x4 = none := rfl
theorem f_X1_pick_9_s {n : Nat} {ce : Nat → Int64} {ac : Int32} {x1 : Int32} {x2 : Int32} {x3 : Int32} {x4 : Int32} : f_X1_pick_9 (n + 1) ce ac x1 x2 x3 x4 =
  if 4 ≤ x4 then
    if ix x3 4 then
      if ix x2 4 then
        (f_X1_done ac x3).bind fun r4 =>
        some (r4.1, vp_updL ce x2.toNatClampNeg (ce x3.toNatClampNeg), r4.2)
      else none
    else none
  else
    if x1 = 0 then
      if ix x4 4 then
        if ix x3 4 then
          if (ce x3.toNatClampNeg) ≤ (ce x4.toNatClampNeg) then
            if (0 : Int32) = 0 then
              f_X1_pick_9 n ce ac x1 x2 x3 (x4 + 1)
            else
              f_X1_pick_9 n ce ac x1 x2 x4 (x4 + 1)
          else
            if (1 : Int32) = 0 then
              f_X1_pick_9 n ce ac x1 x2 x3 (x4 + 1)
            else
              f_X1_pick_9 n ce ac x1 x2 x4 (x4 + 1)
        else none
      else none
    else
      if ix x4 4 then
        if ix x3 4 then
          if (ce x4.toNatClampNeg) ≤ (ce x3.toNatClampNeg) then
            if (0 : Int32) = 0 then
              f_X1_pick_9 n ce ac x1 x2 x3 (x4 + 1)
            else
              f_X1_pick_9 n ce ac x1 x2 x4 (x4 + 1)
          else
            if (1 : Int32) = 0 then
              f_X1_pick_9 n ce ac x1 x2 x3 (x4 + 1)
            else
              f_X1_pick_9 n ce ac x1 x2 x4 (x4 + 1)
        else none
      else none := rfl
noncomputable def f_X1_pick (ce : Nat → Int64) (ac : Int32) (p0 : Int32) (p1 : Int32) : Option ((Int32) × (Nat → Int64) × (Int32)) :=
  (f_X1_needCell p1).bind fun r1 =>
  f_X1_pick_9 24 ce ac p0 p1 0 1
theorem f_X1_pick_e {ce : Nat → Int64} {ac : Int32} {p0 : Int32} {p1 : Int32} : f_X1_pick ce ac p0 p1 = 
  (f_X1_needCell p1).bind fun r1 =>
  f_X1_pick_9 24 ce ac p0 p1 0 1 := rfl
set_option maxHeartbeats 4000000 in
set_option maxRecDepth 100000 in
theorem c_X1_pick (l : Launch) (dC : Nat → ClassId) (dI : Nat → Nat → Nat) (cB cI cJ cZ : ClassId) (a : Nat → Nat) (sz : Nat) (ce : Nat → Int64) (fr : Int64) (un : Int64) (sb : Nat → Int64) (se : Nat → Int64) (so : Nat → Int32) (sc : Int32) (wb : Nat → Int64) (we : Nat → Int64) (wo : Nat → Int32) (wc : Int32) (fb : Nat → Int64) (fe : Nat → Int64) (fo : Nat → Int32) (fc : Int32) (rm : Nat → Int32) (ac : Int32) (rf : Int32) (kn : Int32) (p0 : Int32) (p1 : Int32) (res : (Int32) × (Nat → Int64) × (Int32)) (hf : f_X1_pick ce ac p0 p1 = some res) : kMi l yX1_pick wsX1_pick (kRm 2 0 0 42) dC dI cB cI cJ cZ [.ref (a 0), .int p0, .int p1] sz (wSB cI cJ cZ a ce fr un sb se so sc wb we wo wc fb fe fo fc rm ac rf kn) .int (res.1) (wSB cI cJ cZ a (res.2.1) fr un sb se so sc wb we wo wc fb fe fo fc rm (res.2.2) rf kn) 0 0 := by
  refine kmet_i (y := yX1_pick) (cc := cX1_pick) (maxL := 6) (ret := (some .int)) RX1 (kvA 0 (a 0) (kvI 1 p0 (kvI 2 p1 kvE))) kpl_X1 rfl rfl (Nat.le_of_ble_eq_true rfl) rfl (fun p e s m below meth c A ls hx hb hr hml hts hown hlocks hP hK hG hD hA hS hl => ?_)
  have hw0 := hts (.fieldLink RX1 9 "Spanbooker" "cells" "[J") (List.mem_cons_of_mem _ kw_107)
  have hiX1 : ∀ w ∈ u_ws RX1 TX1 10, w ∈ wsX1_pick := fun w h => List.mem_cons_of_mem _ (ku_X1 w h)
  have J9 : ∀ (n : Nat), ∀ (ce : Nat → Int64) (fr : Int64) (un : Int64) (sb : Nat → Int64) (se : Nat → Int64) (so : Nat → Int32) (sc : Int32) (wb : Nat → Int64) (we : Nat → Int64) (wo : Nat → Int32) (wc : Int32) (fb : Nat → Int64) (fe : Nat → Int64) (fo : Nat → Int32) (fc : Int32) (rm : Nat → Int32) (ac : Int32) (rf : Int32) (kn : Int32) (x1 : Int32) (x2 : Int32) (x3 : Int32) (x4 : Int32) (H : Heap) (locs : List Loc), va_P (dC, dI) vwCl (wSB cI cJ cZ a ce fr un sb se so sc wb we wo wc fb fe fo fc rm ac rf kn) H → va_D A (wSB cI cJ cZ a ce fr un sb se so sc wb we wo wc fb fe fo fc rm ac rf kn) → va_S A s.heap H locs → ∀ (ls : Array Slot), lv_has ls 6 (kvA 0 (a 0) (kvI 1 x1 (kvI 2 x2 (kvI 3 x3 (kvI 4 x4 kvE))))) → f_X1_pick_9 n ce ac x1 x2 x3 x4 = some res → W p l e (headSpec wsX1_pick (kRm 2 0 0 42)).room s m ([.ref (a 0), .int p0, .int p1] : List Value).toArray below meth c H locs 0 0 (MQ below (kI (dC, dI) .int (res.1) (wSB cI cJ cZ a (res.2.1) fr un sb se so sc wb we wo wc fb fe fo fc rm (res.2.2) rf kn) A) ([.ref (a 0), .int p0, .int p1] : List Value).toArray s 0 0 A) (F0 m 9 ls []) := by
    intro n
    induction n with
    | zero =>
      intro ce fr un sb se so sc wb we wo wc fb fe fo fc rm ac rf kn x1 x2 x3 x4 H locs hP hD hS ls hl h
      have h := f_X1_pick_9_0.symm.trans h
      cases h
    | succ n ih =>
      intro ce fr un sb se so sc wb we wo wc fb fe fo fc rm ac rf kn x1 x2 x3 x4 H locs hP hD hS ls hl h
      have h := f_X1_pick_9_s.symm.trans h
      refine lv_iload hx hb (kdr dgX1_pick_0 0 6 rfl rfl) (lv_at hl 4 rfl) ?_
      refine lv_iconst (v := 4) hx hb (kdr dgX1_pick_0 0 7 rfl rfl) (by decide) ?_
      refine lv_icmp_ge (tgt := 82) hx hb (kdr dgX1_pick_0 0 8 rfl rfl) (by decide) (fun c1 => ?_) (fun c1 => ?_)
      · have h := g_t c1 h
        refine lv_aload_n hx hb (kdr dgX1_pick_0 4 5 rfl rfl) rfl (lv_at hl 0 rfl) ?_
        refine va_get (D := (dC, dI)) (ci := 3) (v := .ref (a 1)) (C := RX1) (T := TX1) (N := 10) hx hb hts hiX1 hown hK hP 0 rfl rfl 0 (by decide) hw0 (fun _ h9 => h9) rfl (kdr dgX1_pick_0 4 6 rfl rfl) ?_
        refine lv_iload_n hx hb (kdr dgX1_pick_0 4 7 rfl rfl) rfl (lv_at hl 2 rfl) ?_
        refine lv_aload_n hx hb (kdr dgX1_pick_0 4 8 rfl rfl) rfl (lv_at hl 0 rfl) ?_
        refine va_get (D := (dC, dI)) (ci := 3) (v := .ref (a 1)) (C := RX1) (T := TX1) (N := 10) hx hb hts hiX1 hown hK hP 0 rfl rfl 0 (by decide) hw0 (fun _ h9 => h9) rfl (kdr dgX1_pick_0 4 9 rfl rfl) ?_
        refine lv_iload_n hx hb (kdr dgX1_pick_0 5 0 rfl rfl) rfl (lv_at hl 3 rfl) ?_
        obtain ⟨z1, h⟩ := g_if h
        refine va_lald hx hb hK hP 1 2 rfl rfl (ix_in z1) (kdr dgX1_pick_0 5 1 rfl rfl) ?_
        obtain ⟨z2, h⟩ := g_if h
        refine va_last hx hb hK hP hD hS 1 2 rfl rfl (ix_in z2) (kdr dgX1_pick_0 5 2 rfl rfl) (fun H locs hP hD hS => ?_)
        have hP : va_P (dC, dI) vwCl (wSB cI cJ cZ a (vp_updL ce x2.toNatClampNeg (ce x3.toNatClampNeg)) fr un sb se so sc wb we wo wc fb fe fo fc rm ac rf kn) H := hP
        have hD : va_D A (wSB cI cJ cZ a (vp_updL ce x2.toNatClampNeg (ce x3.toNatClampNeg)) fr un sb se so sc wb we wo wc fb fe fo fc rm ac rf kn) := hD
        refine lv_aload_n hx hb (kdr dgX1_pick_0 5 3 rfl rfl) rfl (lv_at hl 0 rfl) ?_
        refine lv_iload_n hx hb (kdr dgX1_pick_0 5 4 rfl rfl) rfl (lv_at hl 3 rfl) ?_
        obtain ⟨r4, g4, h⟩ := g_b h
        refine kq_i (wSB cI cJ cZ a (vp_updL ce x2.toNatClampNeg (ce x3.toNatClampNeg)) fr un sb se so sc wb we wo wc fb fe fo fc rm r4.2 rf kn) (fun qP qD qF => va_runV (As := [.int x3]) (rest := []) ⟨hx, hb, hml, hown, hts⟩ (c_X1_done l dC dI cB cI cJ cZ a _ (vp_updL ce x2.toNatClampNeg (ce x3.toNatClampNeg)) fr un sb se so sc wb we wo wc fb fe fo fc rm ac rf kn x3 r4 g4) (kcwV hts kw_147 kv_X1_done rfl rfl ⟨(Nat.le_of_ble_eq_true rfl), (Nat.le_of_ble_eq_true rfl)⟩) (kpV (A := A) qP hK qD hG (krecv_3 (q0 := 0) hK hP rfl)) rfl rfl hl.1 rfl (lv_room (Nat.le_of_ble_eq_true rfl)) (kdr dgX1_pick_0 5 5 rfl rfl) ⟨(Nat.le_of_ble_eq_true rfl), (Nat.le_of_ble_eq_true rfl)⟩) hP hD hS hA kFr_SB (fun H locs hP hD hS br4 => ?_)
        have h := Option.some.inj h
        subst h
        exact kret_i (v := r4.1) hx hb hr rfl hlocks hS hP (kdr dgX1_pick_0 5 6 rfl rfl)
      · have h := g_f c1 h
        refine lv_iload_n hx hb (kdr dgX1_pick_0 0 9 rfl rfl) rfl (lv_at hl 1 rfl) ?_
        refine lv_if_eq (tgt := 44) hx hb (kdr dgX1_pick_0 1 0 rfl rfl) (by decide) (fun c2 => ?_) (fun c2 => ?_)
        · have h := g_t c2 h
          refine lv_aload_n hx hb (kdr dgX1_pick_0 2 5 rfl rfl) rfl (lv_at hl 0 rfl) ?_
          refine va_get (D := (dC, dI)) (ci := 3) (v := .ref (a 1)) (C := RX1) (T := TX1) (N := 10) hx hb hts hiX1 hown hK hP 0 rfl rfl 0 (by decide) hw0 (fun _ h9 => h9) rfl (kdr dgX1_pick_0 2 6 rfl rfl) ?_
          refine lv_iload hx hb (kdr dgX1_pick_0 2 7 rfl rfl) (lv_at hl 4 rfl) ?_
          obtain ⟨z2, h⟩ := g_if h
          refine va_lald hx hb hK hP 1 2 rfl rfl (ix_in z2) (kdr dgX1_pick_0 2 8 rfl rfl) ?_
          refine lv_aload_n hx hb (kdr dgX1_pick_0 2 9 rfl rfl) rfl (lv_at hl 0 rfl) ?_
          refine va_get (D := (dC, dI)) (ci := 3) (v := .ref (a 1)) (C := RX1) (T := TX1) (N := 10) hx hb hts hiX1 hown hK hP 0 rfl rfl 0 (by decide) hw0 (fun _ h9 => h9) rfl (kdr dgX1_pick_0 3 0 rfl rfl) ?_
          refine lv_iload_n hx hb (kdr dgX1_pick_0 3 1 rfl rfl) rfl (lv_at hl 3 rfl) ?_
          obtain ⟨z3, h⟩ := g_if h
          refine va_lald hx hb hK hP 1 2 rfl rfl (ix_in z3) (kdr dgX1_pick_0 3 2 rfl rfl) ?_
          refine kl_ge (pc := 57) (tgt := 65) hx hb (kdr dgX1_pick_0 3 3 rfl rfl) (kdr dgX1_pick_0 3 4 rfl rfl) (by decide) (fun c5 => ?_) (fun c5 => ?_)
          · have h := g_t c5 h
            refine lv_iconst (v := 0) hx hb (kdr dgX1_pick_0 3 7 rfl rfl) (by decide) ?_
            refine lv_istore (lv' := (kvI 5 0 (kvA 0 (a 0) (kvI 1 x1 (kvI 2 x2 (kvI 3 x3 (kvI 4 x4 kvE))))))) hx hb (kdr dgX1_pick_0 3 8 rfl rfl) hl (by decide) rfl (fun ls hl => ?_)
            refine lv_iload hx hb (kdr dgX1_pick_0 3 9 rfl rfl) (lv_at hl 0 rfl) ?_
            refine lv_if_eq (tgt := 76) hx hb (kdr dgX1_pick_0 4 0 rfl rfl) (by decide) (fun c6 => ?_) (fun c6 => ?_)
            · have h := g_t c6 h
              refine lv_iinc (v := x4 + 1) (lv' := (kvI 4 (x4 + 1) (kvI 5 0 (kvA 0 (a 0) (kvI 1 x1 (kvI 2 x2 (kvI 3 x3 kvE))))))) hx hb (kdr dgX1_pick_0 4 3 rfl rfl) hl (k := 5) rfl rfl (by decide) rfl (fun ls hl => ?_)
              refine lv_goto (tgt := 9) hx hb (kdr dgX1_pick_0 4 4 rfl rfl) (by decide) ?_
              exact ih ce fr un sb se so sc wb we wo wc fb fe fo fc rm ac rf kn x1 x2 x3 (x4 + 1) _ _ hP hD hS ls (lv_sub hl [2, 3, 4, 5, 0] rfl) h
            · have h := g_f c6 h
              refine lv_iload hx hb (kdr dgX1_pick_0 4 1 rfl rfl) (lv_at hl 5 rfl) ?_
              refine lv_istore_n (lv' := (kvI 3 x4 (kvI 5 0 (kvA 0 (a 0) (kvI 1 x1 (kvI 2 x2 (kvI 4 x4 kvE))))))) hx hb (kdr dgX1_pick_0 4 2 rfl rfl) rfl hl (by decide) rfl (fun ls hl => ?_)
              refine lv_iinc (v := x4 + 1) (lv' := (kvI 4 (x4 + 1) (kvI 3 x4 (kvI 5 0 (kvA 0 (a 0) (kvI 1 x1 (kvI 2 x2 kvE))))))) hx hb (kdr dgX1_pick_0 4 3 rfl rfl) hl (k := 5) rfl rfl (by decide) rfl (fun ls hl => ?_)
              refine lv_goto (tgt := 9) hx hb (kdr dgX1_pick_0 4 4 rfl rfl) (by decide) ?_
              exact ih ce fr un sb se so sc wb we wo wc fb fe fo fc rm ac rf kn x1 x2 x4 (x4 + 1) _ _ hP hD hS ls (lv_sub hl [3, 4, 5, 1, 0] rfl) h
          · have h := g_f c5 h
            refine lv_iconst (v := 1) hx hb (kdr dgX1_pick_0 3 5 rfl rfl) (by decide) ?_
            refine lv_goto (tgt := 66) hx hb (kdr dgX1_pick_0 3 6 rfl rfl) (by decide) ?_
            refine lv_istore (lv' := (kvI 5 1 (kvA 0 (a 0) (kvI 1 x1 (kvI 2 x2 (kvI 3 x3 (kvI 4 x4 kvE))))))) hx hb (kdr dgX1_pick_0 3 8 rfl rfl) hl (by decide) rfl (fun ls hl => ?_)
            refine lv_iload hx hb (kdr dgX1_pick_0 3 9 rfl rfl) (lv_at hl 0 rfl) ?_
            refine lv_if_eq (tgt := 76) hx hb (kdr dgX1_pick_0 4 0 rfl rfl) (by decide) (fun c6 => ?_) (fun c6 => ?_)
            · have h := g_t c6 h
              refine lv_iinc (v := x4 + 1) (lv' := (kvI 4 (x4 + 1) (kvI 5 1 (kvA 0 (a 0) (kvI 1 x1 (kvI 2 x2 (kvI 3 x3 kvE))))))) hx hb (kdr dgX1_pick_0 4 3 rfl rfl) hl (k := 5) rfl rfl (by decide) rfl (fun ls hl => ?_)
              refine lv_goto (tgt := 9) hx hb (kdr dgX1_pick_0 4 4 rfl rfl) (by decide) ?_
              exact ih ce fr un sb se so sc wb we wo wc fb fe fo fc rm ac rf kn x1 x2 x3 (x4 + 1) _ _ hP hD hS ls (lv_sub hl [2, 3, 4, 5, 0] rfl) h
            · have h := g_f c6 h
              refine lv_iload hx hb (kdr dgX1_pick_0 4 1 rfl rfl) (lv_at hl 5 rfl) ?_
              refine lv_istore_n (lv' := (kvI 3 x4 (kvI 5 1 (kvA 0 (a 0) (kvI 1 x1 (kvI 2 x2 (kvI 4 x4 kvE))))))) hx hb (kdr dgX1_pick_0 4 2 rfl rfl) rfl hl (by decide) rfl (fun ls hl => ?_)
              refine lv_iinc (v := x4 + 1) (lv' := (kvI 4 (x4 + 1) (kvI 3 x4 (kvI 5 1 (kvA 0 (a 0) (kvI 1 x1 (kvI 2 x2 kvE))))))) hx hb (kdr dgX1_pick_0 4 3 rfl rfl) hl (k := 5) rfl rfl (by decide) rfl (fun ls hl => ?_)
              refine lv_goto (tgt := 9) hx hb (kdr dgX1_pick_0 4 4 rfl rfl) (by decide) ?_
              exact ih ce fr un sb se so sc wb we wo wc fb fe fo fc rm ac rf kn x1 x2 x4 (x4 + 1) _ _ hP hD hS ls (lv_sub hl [3, 4, 5, 1, 0] rfl) h
        · have h := g_f c2 h
          refine lv_aload_n hx hb (kdr dgX1_pick_0 1 1 rfl rfl) rfl (lv_at hl 0 rfl) ?_
          refine va_get (D := (dC, dI)) (ci := 3) (v := .ref (a 1)) (C := RX1) (T := TX1) (N := 10) hx hb hts hiX1 hown hK hP 0 rfl rfl 0 (by decide) hw0 (fun _ h9 => h9) rfl (kdr dgX1_pick_0 1 2 rfl rfl) ?_
          refine lv_iload hx hb (kdr dgX1_pick_0 1 3 rfl rfl) (lv_at hl 4 rfl) ?_
          obtain ⟨z2, h⟩ := g_if h
          refine va_lald hx hb hK hP 1 2 rfl rfl (ix_in z2) (kdr dgX1_pick_0 1 4 rfl rfl) ?_
          refine lv_aload_n hx hb (kdr dgX1_pick_0 1 5 rfl rfl) rfl (lv_at hl 0 rfl) ?_
          refine va_get (D := (dC, dI)) (ci := 3) (v := .ref (a 1)) (C := RX1) (T := TX1) (N := 10) hx hb hts hiX1 hown hK hP 0 rfl rfl 0 (by decide) hw0 (fun _ h9 => h9) rfl (kdr dgX1_pick_0 1 6 rfl rfl) ?_
          refine lv_iload_n hx hb (kdr dgX1_pick_0 1 7 rfl rfl) rfl (lv_at hl 3 rfl) ?_
          obtain ⟨z3, h⟩ := g_if h
          refine va_lald hx hb hK hP 1 2 rfl rfl (ix_in z3) (kdr dgX1_pick_0 1 8 rfl rfl) ?_
          refine kl_le (pc := 32) (tgt := 40) hx hb (kdr dgX1_pick_0 1 9 rfl rfl) (kdr dgX1_pick_0 2 0 rfl rfl) (by decide) (fun c5 => ?_) (fun c5 => ?_)
          · have h := g_t c5 h
            refine lv_iconst (v := 0) hx hb (kdr dgX1_pick_0 2 3 rfl rfl) (by decide) ?_
            refine lv_goto (tgt := 66) hx hb (kdr dgX1_pick_0 2 4 rfl rfl) (by decide) ?_
            refine lv_istore (lv' := (kvI 5 0 (kvA 0 (a 0) (kvI 1 x1 (kvI 2 x2 (kvI 3 x3 (kvI 4 x4 kvE))))))) hx hb (kdr dgX1_pick_0 3 8 rfl rfl) hl (by decide) rfl (fun ls hl => ?_)
            refine lv_iload hx hb (kdr dgX1_pick_0 3 9 rfl rfl) (lv_at hl 0 rfl) ?_
            refine lv_if_eq (tgt := 76) hx hb (kdr dgX1_pick_0 4 0 rfl rfl) (by decide) (fun c6 => ?_) (fun c6 => ?_)
            · have h := g_t c6 h
              refine lv_iinc (v := x4 + 1) (lv' := (kvI 4 (x4 + 1) (kvI 5 0 (kvA 0 (a 0) (kvI 1 x1 (kvI 2 x2 (kvI 3 x3 kvE))))))) hx hb (kdr dgX1_pick_0 4 3 rfl rfl) hl (k := 5) rfl rfl (by decide) rfl (fun ls hl => ?_)
              refine lv_goto (tgt := 9) hx hb (kdr dgX1_pick_0 4 4 rfl rfl) (by decide) ?_
              exact ih ce fr un sb se so sc wb we wo wc fb fe fo fc rm ac rf kn x1 x2 x3 (x4 + 1) _ _ hP hD hS ls (lv_sub hl [2, 3, 4, 5, 0] rfl) h
            · have h := g_f c6 h
              refine lv_iload hx hb (kdr dgX1_pick_0 4 1 rfl rfl) (lv_at hl 5 rfl) ?_
              refine lv_istore_n (lv' := (kvI 3 x4 (kvI 5 0 (kvA 0 (a 0) (kvI 1 x1 (kvI 2 x2 (kvI 4 x4 kvE))))))) hx hb (kdr dgX1_pick_0 4 2 rfl rfl) rfl hl (by decide) rfl (fun ls hl => ?_)
              refine lv_iinc (v := x4 + 1) (lv' := (kvI 4 (x4 + 1) (kvI 3 x4 (kvI 5 0 (kvA 0 (a 0) (kvI 1 x1 (kvI 2 x2 kvE))))))) hx hb (kdr dgX1_pick_0 4 3 rfl rfl) hl (k := 5) rfl rfl (by decide) rfl (fun ls hl => ?_)
              refine lv_goto (tgt := 9) hx hb (kdr dgX1_pick_0 4 4 rfl rfl) (by decide) ?_
              exact ih ce fr un sb se so sc wb we wo wc fb fe fo fc rm ac rf kn x1 x2 x4 (x4 + 1) _ _ hP hD hS ls (lv_sub hl [3, 4, 5, 1, 0] rfl) h
          · have h := g_f c5 h
            refine lv_iconst (v := 1) hx hb (kdr dgX1_pick_0 2 1 rfl rfl) (by decide) ?_
            refine lv_goto (tgt := 66) hx hb (kdr dgX1_pick_0 2 2 rfl rfl) (by decide) ?_
            refine lv_istore (lv' := (kvI 5 1 (kvA 0 (a 0) (kvI 1 x1 (kvI 2 x2 (kvI 3 x3 (kvI 4 x4 kvE))))))) hx hb (kdr dgX1_pick_0 3 8 rfl rfl) hl (by decide) rfl (fun ls hl => ?_)
            refine lv_iload hx hb (kdr dgX1_pick_0 3 9 rfl rfl) (lv_at hl 0 rfl) ?_
            refine lv_if_eq (tgt := 76) hx hb (kdr dgX1_pick_0 4 0 rfl rfl) (by decide) (fun c6 => ?_) (fun c6 => ?_)
            · have h := g_t c6 h
              refine lv_iinc (v := x4 + 1) (lv' := (kvI 4 (x4 + 1) (kvI 5 1 (kvA 0 (a 0) (kvI 1 x1 (kvI 2 x2 (kvI 3 x3 kvE))))))) hx hb (kdr dgX1_pick_0 4 3 rfl rfl) hl (k := 5) rfl rfl (by decide) rfl (fun ls hl => ?_)
              refine lv_goto (tgt := 9) hx hb (kdr dgX1_pick_0 4 4 rfl rfl) (by decide) ?_
              exact ih ce fr un sb se so sc wb we wo wc fb fe fo fc rm ac rf kn x1 x2 x3 (x4 + 1) _ _ hP hD hS ls (lv_sub hl [2, 3, 4, 5, 0] rfl) h
            · have h := g_f c6 h
              refine lv_iload hx hb (kdr dgX1_pick_0 4 1 rfl rfl) (lv_at hl 5 rfl) ?_
              refine lv_istore_n (lv' := (kvI 3 x4 (kvI 5 1 (kvA 0 (a 0) (kvI 1 x1 (kvI 2 x2 (kvI 4 x4 kvE))))))) hx hb (kdr dgX1_pick_0 4 2 rfl rfl) rfl hl (by decide) rfl (fun ls hl => ?_)
              refine lv_iinc (v := x4 + 1) (lv' := (kvI 4 (x4 + 1) (kvI 3 x4 (kvI 5 1 (kvA 0 (a 0) (kvI 1 x1 (kvI 2 x2 kvE))))))) hx hb (kdr dgX1_pick_0 4 3 rfl rfl) hl (k := 5) rfl rfl (by decide) rfl (fun ls hl => ?_)
              refine lv_goto (tgt := 9) hx hb (kdr dgX1_pick_0 4 4 rfl rfl) (by decide) ?_
              exact ih ce fr un sb se so sc wb we wo wc fb fe fo fc rm ac rf kn x1 x2 x4 (x4 + 1) _ _ hP hD hS ls (lv_sub hl [3, 4, 5, 1, 0] rfl) h
  have h := f_X1_pick_e.symm.trans hf
  refine lv_iload_n hx hb (kdr dgX1_pick_0 0 0 rfl rfl) rfl (lv_at hl 2 rfl) ?_
  obtain ⟨r1, g1, h⟩ := g_b h
  refine kq_v (wSB cI cJ cZ a ce fr un sb se so sc wb we wo wc fb fe fo fc rm ac rf kn) (fun qP qD qF => va_runS (As := [.int p1]) (rest := []) ⟨hx, hb, hml, hown, hts⟩ (c_X1_needCell l dC dI cB cI cJ cZ  _  p1 r1 g1) (kcwS hts kw_473 kv_X1_needCell rfl rfl ⟨(Nat.le_of_ble_eq_true rfl), (Nat.le_of_ble_eq_true rfl)⟩) (kpS (A := A) (kPnil) hK ((kDnil (A := A))) hG) rfl rfl hl.1 rfl (lv_room (Nat.le_of_ble_eq_true rfl)) (kdr dgX1_pick_0 0 1 rfl rfl) ⟨(Nat.le_of_ble_eq_true rfl), (Nat.le_of_ble_eq_true rfl)⟩) hP hD hS hA kFr_n (fun H locs hP hD hS => ?_)
  refine lv_iconst (v := 0) hx hb (kdr dgX1_pick_0 0 2 rfl rfl) (by decide) ?_
  refine lv_istore_n (lv' := (kvI 3 0 (kvA 0 (a 0) (kvI 1 p0 (kvI 2 p1 kvE))))) hx hb (kdr dgX1_pick_0 0 3 rfl rfl) rfl hl (by decide) rfl (fun ls hl => ?_)
  refine lv_iconst (v := 1) hx hb (kdr dgX1_pick_0 0 4 rfl rfl) (by decide) ?_
  refine lv_istore (lv' := (kvI 4 1 (kvI 3 0 (kvA 0 (a 0) (kvI 1 p0 (kvI 2 p1 kvE)))))) hx hb (kdr dgX1_pick_0 0 5 rfl rfl) hl (by decide) rfl (fun ls hl => ?_)
  exact J9 24 ce fr un sb se so sc wb we wo wc fb fe fo fc rm ac rf kn p0 p1 0 1 _ _ hP hD hS ls (lv_sub hl [2, 3, 4, 1, 0] rfl) h
noncomputable def fx_X1_pick (p1 : Int32) : Option (Nat) :=
  xb (fx_X1_needCell p1) (fun k1 => some k1) (
  none)
theorem fx_X1_pick_e {p1 : Int32} : fx_X1_pick p1 = 
  xb (fx_X1_needCell p1) (fun k1 => some k1) (
  none) := rfl
set_option maxHeartbeats 4000000 in
set_option maxRecDepth 100000 in
theorem x_X1_pick (l : Launch) (hl9 : l.stackTraces = false) (dC : Nat → ClassId) (dI : Nat → Nat → Nat) (cB cI cJ cZ : ClassId) (a : Nat → Nat) (sz : Nat) (ce : Nat → Int64) (fr : Int64) (un : Int64) (sb : Nat → Int64) (se : Nat → Int64) (so : Nat → Int32) (sc : Int32) (wb : Nat → Int64) (we : Nat → Int64) (wo : Nat → Int32) (wc : Int32) (fb : Nat → Int64) (fe : Nat → Int64) (fo : Nat → Int32) (fc : Int32) (rm : Nat → Int32) (ac : Int32) (rf : Int32) (kn : Int32) (p0 : Int32) (p1 : Int32) (res : Nat) (hf : fx_X1_pick p1 = some res) : kMX l yX1_pick wsX1_pick (kRm 7 1 6 110) dC dI cB cI cJ cZ [.ref (a 0), .int p0, .int p1] sz (wSB cI cJ cZ a ce fr un sb se so sc wb we wo wc fb fe fo fc rm ac rf kn) (res) (wSB cI cJ cZ a ce fr un sb se so sc wb we wo wc fb fe fo fc rm ac rf kn) 1 6 := by
  refine kmet_x (y := yX1_pick) (cc := cX1_pick) (maxL := 6) (ret := (some .int)) RX1 (kvA 0 (a 0) (kvI 1 p0 (kvI 2 p1 kvE))) kpl_X1 rfl rfl (Nat.le_of_ble_eq_true rfl) rfl (fun p e s m below meth c A ls hx hb hr hml ht hts hown hlocks hP hK hG hZ hD hA hS hl => ?_)
  have h := fx_X1_pick_e.symm.trans hf
  refine lv_iload_n hx hb (kdr dgX1_pick_0 0 0 rfl rfl) rfl (lv_at hl 2 rfl) ?_
  rcases g_x h with ⟨k1, j1, h⟩ | ⟨-, h⟩
  · have h := Option.some.inj h
    subst h
    exact kq_x (wSB cI cJ cZ a ce fr un sb se so sc wb we wo wc fb fe fo fc rm ac rf kn) (fun qP qD qF => vx_runS (As := [.int p1]) (rest := []) ⟨hx, hb, hml, hown, hts⟩ (x_X1_needCell l hl9 dC dI cB cI cJ cZ  _  p1 k1 j1) (kcwS hts kw_473 kv_X1_needCell rfl rfl ⟨(Nat.le_of_ble_eq_true rfl), (Nat.le_of_ble_eq_true rfl)⟩) (kpSXq (A := A) (kPnil) hK ((kDnil (A := A))) hG hZ hS qF) rfl rfl hl.1 rfl (lv_room (Nat.le_of_ble_eq_true rfl)) (kdr dgX1_pick_0 0 1 rfl rfl) ⟨(Nat.le_of_ble_eq_true rfl), (Nat.le_of_ble_eq_true rfl)⟩) hP hD hS hA kFr_n ht hlocks (Nat.le_of_ble_eq_true rfl) (Nat.le_of_ble_eq_true rfl)
  · cases h
noncomputable abbrev wsX1_shift : List Cond := kWs yX1_shift cX1_shift 6 (some .int)
noncomputable def f_X1_shift_29 : Nat → (Nat → Int64) → (Int64) → (Int64) → (Nat → Int64) → (Nat → Int64) → (Int32) → (Nat → Int64) → (Nat → Int64) → (Int32) → (Int32) → (Int32) → (Int64) → (Int32) → Option ((Int32) × (Nat → Int64) × (Int64) × (Int64) × (Nat → Int64) × (Nat → Int64) × (Nat → Int64) × (Nat → Int64) × (Int32) × (Int32))
  | 0, _, _, _, _, _, _, _, _, _, _, _, _, _ => none
  | n + 1, ce, fr, un, sb, se, sc, wb, we, wc, ac, rf, x3, x5 =>
    if 4 ≤ x5 then
      (f_X0_goOn sb se sc x3).bind fun r2 =>
      (f_X0_goOn wb we wc x3).bind fun r3 =>
      (f_X0_count sc).bind fun r4 =>
      (f_X0_count wc).bind fun r5 =>
      (f_X1_done ac ((6 + (2 * r4)) + (2 * r5))).bind fun r6 =>
      some (r6.1, ce, fr + x3, un + x3, r2.1, r2.2, r3.1, r3.2, r6.2, rf)
    else
      if ix x5 4 then
        f_X1_shift_29 n (vp_updL ce x5.toNatClampNeg ((ce x5.toNatClampNeg) + x3)) fr un sb se sc wb we wc ac rf x3 (x5 + 1)
      else none
theorem f_X1_shift_29_0 {ce : Nat → Int64} {fr : Int64} {un : Int64} {sb : Nat → Int64} {se : Nat → Int64} {sc : Int32} {wb : Nat → Int64} {we : Nat → Int64} {wc : Int32} {ac : Int32} {rf : Int32} {x3 : Int64} {x5 : Int32} : f_X1_shift_29 0 ce fr un sb se sc wb we wc ac rf x3 x5 = none := rfl
theorem f_X1_shift_29_s {n : Nat} {ce : Nat → Int64} {fr : Int64} {un : Int64} {sb : Nat → Int64} {se : Nat → Int64} {sc : Int32} {wb : Nat → Int64} {we : Nat → Int64} {wc : Int32} {ac : Int32} {rf : Int32} {x3 : Int64} {x5 : Int32} : f_X1_shift_29 (n + 1) ce fr un sb se sc wb we wc ac rf x3 x5 =
  if 4 ≤ x5 then
    (f_X0_goOn sb se sc x3).bind fun r2 =>
    (f_X0_goOn wb we wc x3).bind fun r3 =>
    (f_X0_count sc).bind fun r4 =>
    (f_X0_count wc).bind fun r5 =>
    (f_X1_done ac ((6 + (2 * r4)) + (2 * r5))).bind fun r6 =>
    some (r6.1, ce, fr + x3, un + x3, r2.1, r2.2, r3.1, r3.2, r6.2, rf)
  else
    if ix x5 4 then
      f_X1_shift_29 n (vp_updL ce x5.toNatClampNeg ((ce x5.toNatClampNeg) + x3)) fr un sb se sc wb we wc ac rf x3 (x5 + 1)
    else none := rfl
noncomputable def f_X1_shift (ce : Nat → Int64) (fr : Int64) (un : Int64) (sb : Nat → Int64) (se : Nat → Int64) (sc : Int32) (wb : Nat → Int64) (we : Nat → Int64) (wc : Int32) (ac : Int32) (rf : Int32) (p0 : Int32) (p1 : Int32) : Option ((Int32) × (Nat → Int64) × (Int64) × (Int64) × (Nat → Int64) × (Nat → Int64) × (Nat → Int64) × (Nat → Int64) × (Int32) × (Int32)) :=
  (f_X1_needUnits p0 p1 (-2000000000)).bind fun r1 =>
  (f_X1_lengthOf p0 p1).bind fun r2 =>
  (f_X1_isAllLetAfter ce fr un sb se sc wb we wc r2).bind fun r3 =>
  if r3 = 0 then
    (f_X1_refuse rf).bind fun r5 =>
    some (r5.1, ce, fr, un, sb, se, wb, we, ac, r5.2)
  else
    f_X1_shift_29 24 ce fr un sb se sc wb we wc ac rf r2 0
theorem f_X1_shift_e {ce : Nat → Int64} {fr : Int64} {un : Int64} {sb : Nat → Int64} {se : Nat → Int64} {sc : Int32} {wb : Nat → Int64} {we : Nat → Int64} {wc : Int32} {ac : Int32} {rf : Int32} {p0 : Int32} {p1 : Int32} : f_X1_shift ce fr un sb se sc wb we wc ac rf p0 p1 = 
  (f_X1_needUnits p0 p1 (-2000000000)).bind fun r1 =>
  (f_X1_lengthOf p0 p1).bind fun r2 =>
  (f_X1_isAllLetAfter ce fr un sb se sc wb we wc r2).bind fun r3 =>
  if r3 = 0 then
    (f_X1_refuse rf).bind fun r5 =>
    some (r5.1, ce, fr, un, sb, se, wb, we, ac, r5.2)
  else
    f_X1_shift_29 24 ce fr un sb se sc wb we wc ac rf r2 0 := rfl
set_option maxHeartbeats 4000000 in
set_option maxRecDepth 100000 in
theorem c_X1_shift (l : Launch) (dC : Nat → ClassId) (dI : Nat → Nat → Nat) (cB cI cJ cZ : ClassId) (a : Nat → Nat) (sz : Nat) (ce : Nat → Int64) (fr : Int64) (un : Int64) (sb : Nat → Int64) (se : Nat → Int64) (so : Nat → Int32) (sc : Int32) (wb : Nat → Int64) (we : Nat → Int64) (wo : Nat → Int32) (wc : Int32) (fb : Nat → Int64) (fe : Nat → Int64) (fo : Nat → Int32) (fc : Int32) (rm : Nat → Int32) (ac : Int32) (rf : Int32) (kn : Int32) (p0 : Int32) (p1 : Int32) (res : (Int32) × (Nat → Int64) × (Int64) × (Int64) × (Nat → Int64) × (Nat → Int64) × (Nat → Int64) × (Nat → Int64) × (Int32) × (Int32)) (hf : f_X1_shift ce fr un sb se sc wb we wc ac rf p0 p1 = some res) : kMi l yX1_shift wsX1_shift (kRm 3 0 0 67) dC dI cB cI cJ cZ [.ref (a 0), .int p0, .int p1] sz (wSB cI cJ cZ a ce fr un sb se so sc wb we wo wc fb fe fo fc rm ac rf kn) .int (res.1) (wSB cI cJ cZ a (res.2.1) (res.2.2.1) (res.2.2.2.1) (res.2.2.2.2.1) (res.2.2.2.2.2.1) so sc (res.2.2.2.2.2.2.1) (res.2.2.2.2.2.2.2.1) wo wc fb fe fo fc rm (res.2.2.2.2.2.2.2.2.1) (res.2.2.2.2.2.2.2.2.2) kn) 0 0 := by
  refine kmet_i (y := yX1_shift) (cc := cX1_shift) (maxL := 6) (ret := (some .int)) RX1 (kvA 0 (a 0) (kvI 1 p0 (kvI 2 p1 kvE))) kpl_X1 rfl rfl (Nat.le_of_ble_eq_true rfl) rfl (fun p e s m below meth c A ls hx hb hr hml hts hown hlocks hP hK hG hD hA hS hl => ?_)
  have hw0 := hts (.constant RX1 49 (-2000000000)) (List.mem_cons_of_mem _ kw_494)
  have hw1 := hts (.fieldLink RX1 13 "Spanbooker" "from" "J") (List.mem_cons_of_mem _ kw_108)
  have hw2 := hts (.fieldLink RX1 19 "Spanbooker" "until" "J") (List.mem_cons_of_mem _ kw_109)
  have hw3 := hts (.fieldLink RX1 25 "Spanbooker" "spanRow" "LSpanbooker$Row;") (List.mem_cons_of_mem _ kw_110)
  have hw4 := hts (.fieldLink RX1 29 "Spanbooker" "wishRow" "LSpanbooker$Row;") (List.mem_cons_of_mem _ kw_111)
  have hw5 := hts (.fieldLink RX1 9 "Spanbooker" "cells" "[J") (List.mem_cons_of_mem _ kw_107)
  have hiX1 : ∀ w ∈ u_ws RX1 TX1 10, w ∈ wsX1_shift := fun w h => List.mem_cons_of_mem _ (ku_X1 w h)
  have J29 : ∀ (n : Nat), ∀ (ce : Nat → Int64) (fr : Int64) (un : Int64) (sb : Nat → Int64) (se : Nat → Int64) (so : Nat → Int32) (sc : Int32) (wb : Nat → Int64) (we : Nat → Int64) (wo : Nat → Int32) (wc : Int32) (fb : Nat → Int64) (fe : Nat → Int64) (fo : Nat → Int32) (fc : Int32) (rm : Nat → Int32) (ac : Int32) (rf : Int32) (kn : Int32) (x3 : Int64) (x5 : Int32) (H : Heap) (locs : List Loc), va_P (dC, dI) vwCl (wSB cI cJ cZ a ce fr un sb se so sc wb we wo wc fb fe fo fc rm ac rf kn) H → va_D A (wSB cI cJ cZ a ce fr un sb se so sc wb we wo wc fb fe fo fc rm ac rf kn) → va_S A s.heap H locs → ∀ (ls : Array Slot), lv_has ls 6 (kvA 0 (a 0) (kvJ 3 x3 (kvI 5 x5 kvE))) → f_X1_shift_29 n ce fr un sb se sc wb we wc ac rf x3 x5 = some res → W p l e (headSpec wsX1_shift (kRm 3 0 0 67)).room s m ([.ref (a 0), .int p0, .int p1] : List Value).toArray below meth c H locs 0 0 (MQ below (kI (dC, dI) .int (res.1) (wSB cI cJ cZ a (res.2.1) (res.2.2.1) (res.2.2.2.1) (res.2.2.2.2.1) (res.2.2.2.2.2.1) so sc (res.2.2.2.2.2.2.1) (res.2.2.2.2.2.2.2.1) wo wc fb fe fo fc rm (res.2.2.2.2.2.2.2.2.1) (res.2.2.2.2.2.2.2.2.2) kn) A) ([.ref (a 0), .int p0, .int p1] : List Value).toArray s 0 0 A) (F0 m 29 ls []) := by
    intro n
    induction n with
    | zero =>
      intro ce fr un sb se so sc wb we wo wc fb fe fo fc rm ac rf kn x3 x5 H locs hP hD hS ls hl h
      have h := f_X1_shift_29_0.symm.trans h
      cases h
    | succ n ih =>
      intro ce fr un sb se so sc wb we wo wc fb fe fo fc rm ac rf kn x3 x5 H locs hP hD hS ls hl h
      have h := f_X1_shift_29_s.symm.trans h
      refine lv_iload hx hb (kdr dgX1_shift_0 1 7 rfl rfl) (lv_at hl 2 rfl) ?_
      refine lv_iconst (v := 4) hx hb (kdr dgX1_shift_0 1 8 rfl rfl) (by decide) ?_
      refine lv_icmp_ge (tgt := 52) hx hb (kdr dgX1_shift_0 1 9 rfl rfl) (by decide) (fun c1 => ?_) (fun c1 => ?_)
      · have h := g_t c1 h
        refine lv_aload_n hx hb (kdr dgX1_shift_0 3 0 rfl rfl) rfl (lv_at hl 0 rfl) ?_
        refine lv_dup hx hb (kdr dgX1_shift_0 3 1 rfl rfl) rfl ?_
        refine va_get (D := (dC, dI)) (ci := 3) (v := .long fr) (C := RX1) (T := TX1) (N := 10) hx hb hts hiX1 hown hK hP 0 rfl rfl 1 (by decide) hw1 (fun _ h9 => h9) rfl (kdr dgX1_shift_0 3 2 rfl rfl) ?_
        refine lv_lload_n hx hb (kdr dgX1_shift_0 3 3 rfl rfl) rfl (lv_at hl 1 rfl) ?_
        refine lv_ladd hx hb (kdr dgX1_shift_0 3 4 rfl rfl) ?_
        refine va_put (D := (dC, dI)) (ci := 3) (v := .long (fr + x3)) (ty := .long) (C := RX1) (T := TX1) (N := 10) hx hb hts hiX1 tyX1 tyX1_ok nmX1 hown hK hP hD hS 0 rfl rfl 1 (by decide) hw1 (fun _ h9 => h9) rfl (by decide +kernel) rfl rfl (Nat.le_of_ble_eq_true rfl) (kdr dgX1_shift_0 3 5 rfl rfl) (fun H locs hP hD hS => ?_)
        have hP : va_P (dC, dI) vwCl (wSB cI cJ cZ a ce (fr + x3) un sb se so sc wb we wo wc fb fe fo fc rm ac rf kn) H := hP
        have hD : va_D A (wSB cI cJ cZ a ce (fr + x3) un sb se so sc wb we wo wc fb fe fo fc rm ac rf kn) := hD
        refine lv_aload_n hx hb (kdr dgX1_shift_0 3 6 rfl rfl) rfl (lv_at hl 0 rfl) ?_
        refine lv_dup hx hb (kdr dgX1_shift_0 3 7 rfl rfl) rfl ?_
        refine va_get (D := (dC, dI)) (ci := 3) (v := .long un) (C := RX1) (T := TX1) (N := 10) hx hb hts hiX1 hown hK hP 0 rfl rfl 2 (by decide) hw2 (fun _ h9 => h9) rfl (kdr dgX1_shift_0 3 8 rfl rfl) ?_
        refine lv_lload_n hx hb (kdr dgX1_shift_0 3 9 rfl rfl) rfl (lv_at hl 1 rfl) ?_
        refine lv_ladd hx hb (kdr dgX1_shift_0 4 0 rfl rfl) ?_
        refine va_put (D := (dC, dI)) (ci := 3) (v := .long (un + x3)) (ty := .long) (C := RX1) (T := TX1) (N := 10) hx hb hts hiX1 tyX1 tyX1_ok nmX1 hown hK hP hD hS 0 rfl rfl 2 (by decide) hw2 (fun _ h9 => h9) rfl (by decide +kernel) rfl rfl (Nat.le_of_ble_eq_true rfl) (kdr dgX1_shift_0 4 1 rfl rfl) (fun H locs hP hD hS => ?_)
        have hP : va_P (dC, dI) vwCl (wSB cI cJ cZ a ce (fr + x3) (un + x3) sb se so sc wb we wo wc fb fe fo fc rm ac rf kn) H := hP
        have hD : va_D A (wSB cI cJ cZ a ce (fr + x3) (un + x3) sb se so sc wb we wo wc fb fe fo fc rm ac rf kn) := hD
        refine lv_aload_n hx hb (kdr dgX1_shift_0 4 2 rfl rfl) rfl (lv_at hl 0 rfl) ?_
        refine va_get (D := (dC, dI)) (ci := 3) (v := .ref (a 2)) (C := RX1) (T := TX1) (N := 10) hx hb hts hiX1 hown hK hP 0 rfl rfl 3 (by decide) hw3 (fun _ h9 => h9) rfl (kdr dgX1_shift_0 4 3 rfl rfl) ?_
        refine lv_lload_n hx hb (kdr dgX1_shift_0 4 4 rfl rfl) rfl (lv_at hl 1 rfl) ?_
        obtain ⟨r2, g2, h⟩ := g_b h
        refine kq_v (wSB cI cJ cZ a ce (fr + x3) (un + x3) r2.1 r2.2 so sc wb we wo wc fb fe fo fc rm ac rf kn) (fun qP qD qF => va_runV (As := [.long x3]) (rest := []) ⟨hx, hb, hml, hown, hts⟩ (c_X0_goOn l dC dI cB cI cJ cZ (a 2) (a 3) (a 4) (a 5) _ sb se so sc x3 r2 g2) (kcwV hts kw_563 kv_X0_goOn rfl rfl ⟨(Nat.le_of_ble_eq_true rfl), (Nat.le_of_ble_eq_true rfl)⟩) (kpV (A := A) qP hK qD hG (krecv_2 (q0 := 2) hK hP rfl)) rfl rfl hl.1 rfl (lv_room (Nat.le_of_ble_eq_true rfl)) (kdr dgX1_shift_0 4 5 rfl rfl) ⟨(Nat.le_of_ble_eq_true rfl), (Nat.le_of_ble_eq_true rfl)⟩) hP hD hS hA kFr_SBs (fun H locs hP hD hS => ?_)
        refine lv_aload_n hx hb (kdr dgX1_shift_0 4 6 rfl rfl) rfl (lv_at hl 0 rfl) ?_
        refine va_get (D := (dC, dI)) (ci := 3) (v := .ref (a 6)) (C := RX1) (T := TX1) (N := 10) hx hb hts hiX1 hown hK hP 0 rfl rfl 4 (by decide) hw4 (fun _ h9 => h9) rfl (kdr dgX1_shift_0 4 7 rfl rfl) ?_
        refine lv_lload_n hx hb (kdr dgX1_shift_0 4 8 rfl rfl) rfl (lv_at hl 1 rfl) ?_
        obtain ⟨r3, g3, h⟩ := g_b h
        refine kq_v (wSB cI cJ cZ a ce (fr + x3) (un + x3) r2.1 r2.2 so sc r3.1 r3.2 wo wc fb fe fo fc rm ac rf kn) (fun qP qD qF => va_runV (As := [.long x3]) (rest := []) ⟨hx, hb, hml, hown, hts⟩ (c_X0_goOn l dC dI cB cI cJ cZ (a 6) (a 7) (a 8) (a 9) _ wb we wo wc x3 r3 g3) (kcwV hts kw_563 kv_X0_goOn rfl rfl ⟨(Nat.le_of_ble_eq_true rfl), (Nat.le_of_ble_eq_true rfl)⟩) (kpV (A := A) qP hK qD hG (krecv_2 (q0 := 6) hK hP rfl)) rfl rfl hl.1 rfl (lv_room (Nat.le_of_ble_eq_true rfl)) (kdr dgX1_shift_0 4 9 rfl rfl) ⟨(Nat.le_of_ble_eq_true rfl), (Nat.le_of_ble_eq_true rfl)⟩) hP hD hS hA kFr_SBw (fun H locs hP hD hS => ?_)
        refine lv_aload_n hx hb (kdr dgX1_shift_0 5 0 rfl rfl) rfl (lv_at hl 0 rfl) ?_
        refine lv_bipush (v := 6) hx hb (kdr dgX1_shift_0 5 1 rfl rfl) (by decide) ?_
        refine lv_iconst (v := 2) hx hb (kdr dgX1_shift_0 5 2 rfl rfl) (by decide) ?_
        refine lv_aload_n hx hb (kdr dgX1_shift_0 5 3 rfl rfl) rfl (lv_at hl 0 rfl) ?_
        refine va_get (D := (dC, dI)) (ci := 3) (v := .ref (a 2)) (C := RX1) (T := TX1) (N := 10) hx hb hts hiX1 hown hK hP 0 rfl rfl 3 (by decide) hw3 (fun _ h9 => h9) rfl (kdr dgX1_shift_0 5 4 rfl rfl) ?_
        obtain ⟨r4, g4, h⟩ := g_b h
        refine kq_i (wSB cI cJ cZ a ce (fr + x3) (un + x3) r2.1 r2.2 so sc r3.1 r3.2 wo wc fb fe fo fc rm ac rf kn) (fun qP qD qF => va_runV (As := []) (rest := [.int 2, .int 6, .ref (a 0)]) ⟨hx, hb, hml, hown, hts⟩ (c_X0_count l dC dI cB cI cJ cZ (a 2) (a 3) (a 4) (a 5) _ r2.1 r2.2 so sc  r4 g4) (kcwV hts kw_155 kv_X0_count rfl rfl ⟨(Nat.le_of_ble_eq_true rfl), (Nat.le_of_ble_eq_true rfl)⟩) (kpV (A := A) qP hK qD hG (krecv_2 (q0 := 2) hK hP rfl)) rfl rfl hl.1 rfl (lv_room (Nat.le_of_ble_eq_true rfl)) (kdr dgX1_shift_0 5 5 rfl rfl) ⟨(Nat.le_of_ble_eq_true rfl), (Nat.le_of_ble_eq_true rfl)⟩) hP hD hS hA kFr_SBs (fun H locs hP hD hS br4 => ?_)
        refine lv_imul hx hb (kdr dgX1_shift_0 5 6 rfl rfl) ?_
        refine lv_iadd hx hb (kdr dgX1_shift_0 5 7 rfl rfl) ?_
        refine lv_iconst (v := 2) hx hb (kdr dgX1_shift_0 5 8 rfl rfl) (by decide) ?_
        refine lv_aload_n hx hb (kdr dgX1_shift_0 5 9 rfl rfl) rfl (lv_at hl 0 rfl) ?_
        refine va_get (D := (dC, dI)) (ci := 3) (v := .ref (a 6)) (C := RX1) (T := TX1) (N := 10) hx hb hts hiX1 hown hK hP 0 rfl rfl 4 (by decide) hw4 (fun _ h9 => h9) rfl (kdr dgX1_shift_0 6 0 rfl rfl) ?_
        obtain ⟨r5, g5, h⟩ := g_b h
        refine kq_i (wSB cI cJ cZ a ce (fr + x3) (un + x3) r2.1 r2.2 so sc r3.1 r3.2 wo wc fb fe fo fc rm ac rf kn) (fun qP qD qF => va_runV (As := []) (rest := [.int 2, .int (6 + (2 * r4)), .ref (a 0)]) ⟨hx, hb, hml, hown, hts⟩ (c_X0_count l dC dI cB cI cJ cZ (a 6) (a 7) (a 8) (a 9) _ r3.1 r3.2 wo wc  r5 g5) (kcwV hts kw_155 kv_X0_count rfl rfl ⟨(Nat.le_of_ble_eq_true rfl), (Nat.le_of_ble_eq_true rfl)⟩) (kpV (A := A) qP hK qD hG (krecv_2 (q0 := 6) hK hP rfl)) rfl rfl hl.1 rfl (lv_room (Nat.le_of_ble_eq_true rfl)) (kdr dgX1_shift_0 6 1 rfl rfl) ⟨(Nat.le_of_ble_eq_true rfl), (Nat.le_of_ble_eq_true rfl)⟩) hP hD hS hA kFr_SBw (fun H locs hP hD hS br5 => ?_)
        refine lv_imul hx hb (kdr dgX1_shift_0 6 2 rfl rfl) ?_
        refine lv_iadd hx hb (kdr dgX1_shift_0 6 3 rfl rfl) ?_
        obtain ⟨r6, g6, h⟩ := g_b h
        refine kq_i (wSB cI cJ cZ a ce (fr + x3) (un + x3) r2.1 r2.2 so sc r3.1 r3.2 wo wc fb fe fo fc rm r6.2 rf kn) (fun qP qD qF => va_runV (As := [.int ((6 + (2 * r4)) + (2 * r5))]) (rest := []) ⟨hx, hb, hml, hown, hts⟩ (c_X1_done l dC dI cB cI cJ cZ a _ ce (fr + x3) (un + x3) r2.1 r2.2 so sc r3.1 r3.2 wo wc fb fe fo fc rm ac rf kn ((6 + (2 * r4)) + (2 * r5)) r6 g6) (kcwV hts kw_147 kv_X1_done rfl rfl ⟨(Nat.le_of_ble_eq_true rfl), (Nat.le_of_ble_eq_true rfl)⟩) (kpV (A := A) qP hK qD hG (krecv_3 (q0 := 0) hK hP rfl)) rfl rfl hl.1 rfl (lv_room (Nat.le_of_ble_eq_true rfl)) (kdr dgX1_shift_0 6 4 rfl rfl) ⟨(Nat.le_of_ble_eq_true rfl), (Nat.le_of_ble_eq_true rfl)⟩) hP hD hS hA kFr_SB (fun H locs hP hD hS br6 => ?_)
        have h := Option.some.inj h
        subst h
        exact kret_i (v := r6.1) hx hb hr rfl hlocks hS hP (kdr dgX1_shift_0 6 5 rfl rfl)
      · have h := g_f c1 h
        refine lv_aload_n hx hb (kdr dgX1_shift_0 2 0 rfl rfl) rfl (lv_at hl 0 rfl) ?_
        refine va_get (D := (dC, dI)) (ci := 3) (v := .ref (a 1)) (C := RX1) (T := TX1) (N := 10) hx hb hts hiX1 hown hK hP 0 rfl rfl 0 (by decide) hw5 (fun _ h9 => h9) rfl (kdr dgX1_shift_0 2 1 rfl rfl) ?_
        refine lv_iload hx hb (kdr dgX1_shift_0 2 2 rfl rfl) (lv_at hl 2 rfl) ?_
        refine lv_dup2_11 hx hb (kdr dgX1_shift_0 2 3 rfl rfl) rfl rfl ?_
        obtain ⟨z1, h⟩ := g_if h
        refine va_lald hx hb hK hP 1 2 rfl rfl (ix_in z1) (kdr dgX1_shift_0 2 4 rfl rfl) ?_
        refine lv_lload_n hx hb (kdr dgX1_shift_0 2 5 rfl rfl) rfl (lv_at hl 1 rfl) ?_
        refine lv_ladd hx hb (kdr dgX1_shift_0 2 6 rfl rfl) ?_
        refine va_last hx hb hK hP hD hS 1 2 rfl rfl (ix_in z1) (kdr dgX1_shift_0 2 7 rfl rfl) (fun H locs hP hD hS => ?_)
        have hP : va_P (dC, dI) vwCl (wSB cI cJ cZ a (vp_updL ce x5.toNatClampNeg ((ce x5.toNatClampNeg) + x3)) fr un sb se so sc wb we wo wc fb fe fo fc rm ac rf kn) H := hP
        have hD : va_D A (wSB cI cJ cZ a (vp_updL ce x5.toNatClampNeg ((ce x5.toNatClampNeg) + x3)) fr un sb se so sc wb we wo wc fb fe fo fc rm ac rf kn) := hD
        refine lv_iinc (v := x5 + 1) (lv' := (kvI 5 (x5 + 1) (kvA 0 (a 0) (kvJ 3 x3 kvE)))) hx hb (kdr dgX1_shift_0 2 8 rfl rfl) hl (k := 2) rfl rfl (by decide) rfl (fun ls hl => ?_)
        refine lv_goto (tgt := 29) hx hb (kdr dgX1_shift_0 2 9 rfl rfl) (by decide) ?_
        exact ih (vp_updL ce x5.toNatClampNeg ((ce x5.toNatClampNeg) + x3)) fr un sb se so sc wb we wo wc fb fe fo fc rm ac rf kn x3 (x5 + 1) _ _ hP hD hS ls (lv_sub hl [1, 2, 0] rfl) h
  have h := f_X1_shift_e.symm.trans hf
  refine lv_iload_n hx hb (kdr dgX1_shift_0 0 0 rfl rfl) rfl (lv_at hl 1 rfl) ?_
  refine lv_iload_n hx hb (kdr dgX1_shift_0 0 1 rfl rfl) rfl (lv_at hl 2 rfl) ?_
  refine lv_ldc (v := (-2000000000)) hx hb hown hw0 (kdr dgX1_shift_0 0 2 rfl rfl) ?_
  obtain ⟨r1, g1, h⟩ := g_b h
  refine kq_v (wSB cI cJ cZ a ce fr un sb se so sc wb we wo wc fb fe fo fc rm ac rf kn) (fun qP qD qF => va_runS (As := [.int p0, .int p1, .int (-2000000000)]) (rest := []) ⟨hx, hb, hml, hown, hts⟩ (c_X1_needUnits l dC dI cB cI cJ cZ  _  p0 p1 (-2000000000) r1 g1) (kcwS hts kw_512 kv_X1_needUnits rfl rfl ⟨(Nat.le_of_ble_eq_true rfl), (Nat.le_of_ble_eq_true rfl)⟩) (kpS (A := A) (kPnil) hK ((kDnil (A := A))) hG) rfl rfl hl.1 rfl (lv_room (Nat.le_of_ble_eq_true rfl)) (kdr dgX1_shift_0 0 3 rfl rfl) ⟨(Nat.le_of_ble_eq_true rfl), (Nat.le_of_ble_eq_true rfl)⟩) hP hD hS hA kFr_n (fun H locs hP hD hS => ?_)
  refine lv_iload_n hx hb (kdr dgX1_shift_0 0 4 rfl rfl) rfl (lv_at hl 1 rfl) ?_
  refine lv_iload_n hx hb (kdr dgX1_shift_0 0 5 rfl rfl) rfl (lv_at hl 2 rfl) ?_
  obtain ⟨r2, g2, h⟩ := g_b h
  refine kq_l (wSB cI cJ cZ a ce fr un sb se so sc wb we wo wc fb fe fo fc rm ac rf kn) (fun qP qD qF => va_runS (As := [.int p0, .int p1]) (rest := []) ⟨hx, hb, hml, hown, hts⟩ (c_X1_lengthOf l dC dI cB cI cJ cZ  _  p0 p1 r2 g2) (kcwS hts kw_515 kv_X1_lengthOf rfl rfl ⟨(Nat.le_of_ble_eq_true rfl), (Nat.le_of_ble_eq_true rfl)⟩) (kpS (A := A) (kPnil) hK ((kDnil (A := A))) hG) rfl rfl hl.1 rfl (lv_room (Nat.le_of_ble_eq_true rfl)) (kdr dgX1_shift_0 0 6 rfl rfl) ⟨(Nat.le_of_ble_eq_true rfl), (Nat.le_of_ble_eq_true rfl)⟩) hP hD hS hA kFr_n (fun H locs hP hD hS => ?_)
  refine lv_lstore_n (lv' := (kvJ 3 r2 (kvA 0 (a 0) (kvI 1 p0 (kvI 2 p1 kvE))))) hx hb (kdr dgX1_shift_0 0 7 rfl rfl) rfl hl (by decide) rfl (fun ls hl => ?_)
  refine lv_aload_n hx hb (kdr dgX1_shift_0 0 8 rfl rfl) rfl (lv_at hl 1 rfl) ?_
  refine lv_lload_n hx hb (kdr dgX1_shift_0 0 9 rfl rfl) rfl (lv_at hl 0 rfl) ?_
  obtain ⟨r3, g3, h⟩ := g_b h
  refine kq_i (wSB cI cJ cZ a ce fr un sb se so sc wb we wo wc fb fe fo fc rm ac rf kn) (fun qP qD qF => va_runV (As := [.long r2]) (rest := []) ⟨hx, hb, hml, hown, hts⟩ (c_X1_isAllLetAfter l dC dI cB cI cJ cZ a _ ce fr un sb se so sc wb we wo wc fb fe fo fc rm ac rf kn r2 r3 g3) (kcwV hts kw_554 kv_X1_isAllLetAfter rfl rfl ⟨(Nat.le_of_ble_eq_true rfl), (Nat.le_of_ble_eq_true rfl)⟩) (kpV (A := A) qP hK qD hG (krecv_3 (q0 := 0) hK hP rfl)) rfl rfl hl.1 rfl (lv_room (Nat.le_of_ble_eq_true rfl)) (kdr dgX1_shift_0 1 0 rfl rfl) ⟨(Nat.le_of_ble_eq_true rfl), (Nat.le_of_ble_eq_true rfl)⟩) hP hD hS hA kFr_SB (fun H locs hP hD hS br3 => ?_)
  refine lv_if_ne (tgt := 26) hx hb (kdr dgX1_shift_0 1 1 rfl rfl) (by decide) (fun c4 => ?_) (fun c4 => ?_)
  · have h := g_f c4 h
    refine lv_iconst (v := 0) hx hb (kdr dgX1_shift_0 1 5 rfl rfl) (by decide) ?_
    refine lv_istore (lv' := (kvI 5 0 (kvJ 3 r2 (kvA 0 (a 0) (kvI 1 p0 (kvI 2 p1 kvE)))))) hx hb (kdr dgX1_shift_0 1 6 rfl rfl) hl (by decide) rfl (fun ls hl => ?_)
    exact J29 24 ce fr un sb se so sc wb we wo wc fb fe fo fc rm ac rf kn r2 0 _ _ hP hD hS ls (lv_sub hl [2, 1, 0] rfl) h
  · have h := g_t c4 h
    refine lv_aload_n hx hb (kdr dgX1_shift_0 1 2 rfl rfl) rfl (lv_at hl 1 rfl) ?_
    obtain ⟨r5, g5, h⟩ := g_b h
    refine kq_i (wSB cI cJ cZ a ce fr un sb se so sc wb we wo wc fb fe fo fc rm ac r5.2 kn) (fun qP qD qF => va_runV (As := []) (rest := []) ⟨hx, hb, hml, hown, hts⟩ (c_X1_refuse l dC dI cB cI cJ cZ a _ ce fr un sb se so sc wb we wo wc fb fe fo fc rm ac rf kn  r5 g5) (kcwV hts kw_501 kv_X1_refuse rfl rfl ⟨(Nat.le_of_ble_eq_true rfl), (Nat.le_of_ble_eq_true rfl)⟩) (kpV (A := A) qP hK qD hG (krecv_3 (q0 := 0) hK hP rfl)) rfl rfl hl.1 rfl (lv_room (Nat.le_of_ble_eq_true rfl)) (kdr dgX1_shift_0 1 3 rfl rfl) ⟨(Nat.le_of_ble_eq_true rfl), (Nat.le_of_ble_eq_true rfl)⟩) hP hD hS hA kFr_SB (fun H locs hP hD hS br5 => ?_)
    have h := Option.some.inj h
    subst h
    exact kret_i (v := r5.1) hx hb hr rfl hlocks hS hP (kdr dgX1_shift_0 1 4 rfl rfl)
noncomputable def fx_X1_shift (p0 : Int32) (p1 : Int32) : Option (Nat) :=
  xb (fx_X1_needUnits p0 p1 (-2000000000)) (fun k1 => some k1) (
  none)
theorem fx_X1_shift_e {p0 : Int32} {p1 : Int32} : fx_X1_shift p0 p1 = 
  xb (fx_X1_needUnits p0 p1 (-2000000000)) (fun k1 => some k1) (
  none) := rfl
set_option maxHeartbeats 4000000 in
set_option maxRecDepth 100000 in
theorem x_X1_shift (l : Launch) (hl9 : l.stackTraces = false) (dC : Nat → ClassId) (dI : Nat → Nat → Nat) (cB cI cJ cZ : ClassId) (a : Nat → Nat) (sz : Nat) (ce : Nat → Int64) (fr : Int64) (un : Int64) (sb : Nat → Int64) (se : Nat → Int64) (so : Nat → Int32) (sc : Int32) (wb : Nat → Int64) (we : Nat → Int64) (wo : Nat → Int32) (wc : Int32) (fb : Nat → Int64) (fe : Nat → Int64) (fo : Nat → Int32) (fc : Int32) (rm : Nat → Int32) (ac : Int32) (rf : Int32) (kn : Int32) (p0 : Int32) (p1 : Int32) (res : Nat) (hf : fx_X1_shift p0 p1 = some res) : kMX l yX1_shift wsX1_shift (kRm 8 1 6 132) dC dI cB cI cJ cZ [.ref (a 0), .int p0, .int p1] sz (wSB cI cJ cZ a ce fr un sb se so sc wb we wo wc fb fe fo fc rm ac rf kn) (res) (wSB cI cJ cZ a ce fr un sb se so sc wb we wo wc fb fe fo fc rm ac rf kn) 1 6 := by
  refine kmet_x (y := yX1_shift) (cc := cX1_shift) (maxL := 6) (ret := (some .int)) RX1 (kvA 0 (a 0) (kvI 1 p0 (kvI 2 p1 kvE))) kpl_X1 rfl rfl (Nat.le_of_ble_eq_true rfl) rfl (fun p e s m below meth c A ls hx hb hr hml ht hts hown hlocks hP hK hG hZ hD hA hS hl => ?_)
  have hw0 := hts (.constant RX1 49 (-2000000000)) (List.mem_cons_of_mem _ kw_494)
  have h := fx_X1_shift_e.symm.trans hf
  refine lv_iload_n hx hb (kdr dgX1_shift_0 0 0 rfl rfl) rfl (lv_at hl 1 rfl) ?_
  refine lv_iload_n hx hb (kdr dgX1_shift_0 0 1 rfl rfl) rfl (lv_at hl 2 rfl) ?_
  refine lv_ldc (v := (-2000000000)) hx hb hown hw0 (kdr dgX1_shift_0 0 2 rfl rfl) ?_
  rcases g_x h with ⟨k1, j1, h⟩ | ⟨-, h⟩
  · have h := Option.some.inj h
    subst h
    exact kq_x (wSB cI cJ cZ a ce fr un sb se so sc wb we wo wc fb fe fo fc rm ac rf kn) (fun qP qD qF => vx_runS (As := [.int p0, .int p1, .int (-2000000000)]) (rest := []) ⟨hx, hb, hml, hown, hts⟩ (x_X1_needUnits l hl9 dC dI cB cI cJ cZ  _  p0 p1 (-2000000000) k1 j1) (kcwS hts kw_512 kv_X1_needUnits rfl rfl ⟨(Nat.le_of_ble_eq_true rfl), (Nat.le_of_ble_eq_true rfl)⟩) (kpSXq (A := A) (kPnil) hK ((kDnil (A := A))) hG hZ hS qF) rfl rfl hl.1 rfl (lv_room (Nat.le_of_ble_eq_true rfl)) (kdr dgX1_shift_0 0 3 rfl rfl) ⟨(Nat.le_of_ble_eq_true rfl), (Nat.le_of_ble_eq_true rfl)⟩) hP hD hS hA kFr_n ht hlocks (Nat.le_of_ble_eq_true rfl) (Nat.le_of_ble_eq_true rfl)
  · cases h
noncomputable abbrev wsX1_open : List Cond := kWs yX1_open cX1_open 3 (some .int)
noncomputable def f_X1_open (ce : Nat → Int64) (fr : Int64) (un : Int64) (sc : Int32) (ac : Int32) (rf : Int32) (p0 : Int32) (p1 : Int32) : Option ((Int32) × (Int64) × (Int64) × (Int32) × (Int32) × (Int32)) :=
  (f_X1_needCell p0).bind fun r1 =>
  (f_X1_needCell p1).bind fun r2 =>
  if ix p0 4 then
    if ix p1 4 then
      if (ce p0.toNatClampNeg) < (ce p1.toNatClampNeg) then
        (f_X0_clear sc).bind fun r6 =>
        (f_X1_done ac r6.1).bind fun r7 =>
        some (r7.1, ce p0.toNatClampNeg, ce p1.toNatClampNeg, r6.2, r7.2, rf)
      else
        (f_X1_refuse rf).bind fun r6 =>
        some (r6.1, fr, un, sc, ac, r6.2)
    else none
  else none
theorem f_X1_open_e {ce : Nat → Int64} {fr : Int64} {un : Int64} {sc : Int32} {ac : Int32} {rf : Int32} {p0 : Int32} {p1 : Int32} : f_X1_open ce fr un sc ac rf p0 p1 = 
  (f_X1_needCell p0).bind fun r1 =>
  (f_X1_needCell p1).bind fun r2 =>
  if ix p0 4 then
    if ix p1 4 then
      if (ce p0.toNatClampNeg) < (ce p1.toNatClampNeg) then
        (f_X0_clear sc).bind fun r6 =>
        (f_X1_done ac r6.1).bind fun r7 =>
        some (r7.1, ce p0.toNatClampNeg, ce p1.toNatClampNeg, r6.2, r7.2, rf)
      else
        (f_X1_refuse rf).bind fun r6 =>
        some (r6.1, fr, un, sc, ac, r6.2)
    else none
  else none := rfl
set_option maxHeartbeats 4000000 in
set_option maxRecDepth 100000 in
theorem c_X1_open (l : Launch) (dC : Nat → ClassId) (dI : Nat → Nat → Nat) (cB cI cJ cZ : ClassId) (a : Nat → Nat) (sz : Nat) (ce : Nat → Int64) (fr : Int64) (un : Int64) (sb : Nat → Int64) (se : Nat → Int64) (so : Nat → Int32) (sc : Int32) (wb : Nat → Int64) (we : Nat → Int64) (wo : Nat → Int32) (wc : Int32) (fb : Nat → Int64) (fe : Nat → Int64) (fo : Nat → Int32) (fc : Int32) (rm : Nat → Int32) (ac : Int32) (rf : Int32) (kn : Int32) (p0 : Int32) (p1 : Int32) (res : (Int32) × (Int64) × (Int64) × (Int32) × (Int32) × (Int32)) (hf : f_X1_open ce fr un sc ac rf p0 p1 = some res) : kMi l yX1_open wsX1_open (kRm 2 0 0 42) dC dI cB cI cJ cZ [.ref (a 0), .int p0, .int p1] sz (wSB cI cJ cZ a ce fr un sb se so sc wb we wo wc fb fe fo fc rm ac rf kn) .int (res.1) (wSB cI cJ cZ a ce (res.2.1) (res.2.2.1) sb se so (res.2.2.2.1) wb we wo wc fb fe fo fc rm (res.2.2.2.2.1) (res.2.2.2.2.2) kn) 0 0 := by
  refine kmet_i (y := yX1_open) (cc := cX1_open) (maxL := 3) (ret := (some .int)) RX1 (kvA 0 (a 0) (kvI 1 p0 (kvI 2 p1 kvE))) kpl_X1 rfl rfl (Nat.le_of_ble_eq_true rfl) rfl (fun p e s m below meth c A ls hx hb hr hml hts hown hlocks hP hK hG hD hA hS hl => ?_)
  have hw0 := hts (.fieldLink RX1 9 "Spanbooker" "cells" "[J") (List.mem_cons_of_mem _ kw_107)
  have hw1 := hts (.fieldLink RX1 13 "Spanbooker" "from" "J") (List.mem_cons_of_mem _ kw_108)
  have hw2 := hts (.fieldLink RX1 19 "Spanbooker" "until" "J") (List.mem_cons_of_mem _ kw_109)
  have hw3 := hts (.fieldLink RX1 25 "Spanbooker" "spanRow" "LSpanbooker$Row;") (List.mem_cons_of_mem _ kw_110)
  have hiX1 : ∀ w ∈ u_ws RX1 TX1 10, w ∈ wsX1_open := fun w h => List.mem_cons_of_mem _ (ku_X1 w h)
  have h := f_X1_open_e.symm.trans hf
  refine lv_iload_n hx hb (kdr dgX1_open_0 0 0 rfl rfl) rfl (lv_at hl 1 rfl) ?_
  obtain ⟨r1, g1, h⟩ := g_b h
  refine kq_v (wSB cI cJ cZ a ce fr un sb se so sc wb we wo wc fb fe fo fc rm ac rf kn) (fun qP qD qF => va_runS (As := [.int p0]) (rest := []) ⟨hx, hb, hml, hown, hts⟩ (c_X1_needCell l dC dI cB cI cJ cZ  _  p0 r1 g1) (kcwS hts kw_473 kv_X1_needCell rfl rfl ⟨(Nat.le_of_ble_eq_true rfl), (Nat.le_of_ble_eq_true rfl)⟩) (kpS (A := A) (kPnil) hK ((kDnil (A := A))) hG) rfl rfl hl.1 rfl (lv_room (Nat.le_of_ble_eq_true rfl)) (kdr dgX1_open_0 0 1 rfl rfl) ⟨(Nat.le_of_ble_eq_true rfl), (Nat.le_of_ble_eq_true rfl)⟩) hP hD hS hA kFr_n (fun H locs hP hD hS => ?_)
  refine lv_iload_n hx hb (kdr dgX1_open_0 0 2 rfl rfl) rfl (lv_at hl 2 rfl) ?_
  obtain ⟨r2, g2, h⟩ := g_b h
  refine kq_v (wSB cI cJ cZ a ce fr un sb se so sc wb we wo wc fb fe fo fc rm ac rf kn) (fun qP qD qF => va_runS (As := [.int p1]) (rest := []) ⟨hx, hb, hml, hown, hts⟩ (c_X1_needCell l dC dI cB cI cJ cZ  _  p1 r2 g2) (kcwS hts kw_473 kv_X1_needCell rfl rfl ⟨(Nat.le_of_ble_eq_true rfl), (Nat.le_of_ble_eq_true rfl)⟩) (kpS (A := A) (kPnil) hK ((kDnil (A := A))) hG) rfl rfl hl.1 rfl (lv_room (Nat.le_of_ble_eq_true rfl)) (kdr dgX1_open_0 0 3 rfl rfl) ⟨(Nat.le_of_ble_eq_true rfl), (Nat.le_of_ble_eq_true rfl)⟩) hP hD hS hA kFr_n (fun H locs hP hD hS => ?_)
  refine lv_aload_n hx hb (kdr dgX1_open_0 0 4 rfl rfl) rfl (lv_at hl 0 rfl) ?_
  refine va_get (D := (dC, dI)) (ci := 3) (v := .ref (a 1)) (C := RX1) (T := TX1) (N := 10) hx hb hts hiX1 hown hK hP 0 rfl rfl 0 (by decide) hw0 (fun _ h9 => h9) rfl (kdr dgX1_open_0 0 5 rfl rfl) ?_
  refine lv_iload_n hx hb (kdr dgX1_open_0 0 6 rfl rfl) rfl (lv_at hl 1 rfl) ?_
  obtain ⟨z2, h⟩ := g_if h
  refine va_lald hx hb hK hP 1 2 rfl rfl (ix_in z2) (kdr dgX1_open_0 0 7 rfl rfl) ?_
  refine lv_aload_n hx hb (kdr dgX1_open_0 0 8 rfl rfl) rfl (lv_at hl 0 rfl) ?_
  refine va_get (D := (dC, dI)) (ci := 3) (v := .ref (a 1)) (C := RX1) (T := TX1) (N := 10) hx hb hts hiX1 hown hK hP 0 rfl rfl 0 (by decide) hw0 (fun _ h9 => h9) rfl (kdr dgX1_open_0 0 9 rfl rfl) ?_
  refine lv_iload_n hx hb (kdr dgX1_open_0 1 0 rfl rfl) rfl (lv_at hl 2 rfl) ?_
  obtain ⟨z3, h⟩ := g_if h
  refine va_lald hx hb hK hP 1 2 rfl rfl (ix_in z3) (kdr dgX1_open_0 1 1 rfl rfl) ?_
  refine kl_lt (pc := 20) (tgt := 29) hx hb (kdr dgX1_open_0 1 2 rfl rfl) (kdr dgX1_open_0 1 3 rfl rfl) (by decide) (fun c5 => ?_) (fun c5 => ?_)
  · have h := g_t c5 h
    refine lv_aload_n hx hb (kdr dgX1_open_0 1 7 rfl rfl) rfl (lv_at hl 0 rfl) ?_
    refine lv_aload_n hx hb (kdr dgX1_open_0 1 8 rfl rfl) rfl (lv_at hl 0 rfl) ?_
    refine va_get (D := (dC, dI)) (ci := 3) (v := .ref (a 1)) (C := RX1) (T := TX1) (N := 10) hx hb hts hiX1 hown hK hP 0 rfl rfl 0 (by decide) hw0 (fun _ h9 => h9) rfl (kdr dgX1_open_0 1 9 rfl rfl) ?_
    refine lv_iload_n hx hb (kdr dgX1_open_0 2 0 rfl rfl) rfl (lv_at hl 1 rfl) ?_
    refine va_lald hx hb hK hP 1 2 rfl rfl (ix_in z2) (kdr dgX1_open_0 2 1 rfl rfl) ?_
    refine va_put (D := (dC, dI)) (ci := 3) (v := .long (ce p0.toNatClampNeg)) (ty := .long) (C := RX1) (T := TX1) (N := 10) hx hb hts hiX1 tyX1 tyX1_ok nmX1 hown hK hP hD hS 0 rfl rfl 1 (by decide) hw1 (fun _ h9 => h9) rfl (by decide +kernel) rfl rfl (Nat.le_of_ble_eq_true rfl) (kdr dgX1_open_0 2 2 rfl rfl) (fun H locs hP hD hS => ?_)
    have hP : va_P (dC, dI) vwCl (wSB cI cJ cZ a ce (ce p0.toNatClampNeg) un sb se so sc wb we wo wc fb fe fo fc rm ac rf kn) H := hP
    have hD : va_D A (wSB cI cJ cZ a ce (ce p0.toNatClampNeg) un sb se so sc wb we wo wc fb fe fo fc rm ac rf kn) := hD
    refine lv_aload_n hx hb (kdr dgX1_open_0 2 3 rfl rfl) rfl (lv_at hl 0 rfl) ?_
    refine lv_aload_n hx hb (kdr dgX1_open_0 2 4 rfl rfl) rfl (lv_at hl 0 rfl) ?_
    refine va_get (D := (dC, dI)) (ci := 3) (v := .ref (a 1)) (C := RX1) (T := TX1) (N := 10) hx hb hts hiX1 hown hK hP 0 rfl rfl 0 (by decide) hw0 (fun _ h9 => h9) rfl (kdr dgX1_open_0 2 5 rfl rfl) ?_
    refine lv_iload_n hx hb (kdr dgX1_open_0 2 6 rfl rfl) rfl (lv_at hl 2 rfl) ?_
    refine va_lald hx hb hK hP 1 2 rfl rfl (ix_in z3) (kdr dgX1_open_0 2 7 rfl rfl) ?_
    refine va_put (D := (dC, dI)) (ci := 3) (v := .long (ce p1.toNatClampNeg)) (ty := .long) (C := RX1) (T := TX1) (N := 10) hx hb hts hiX1 tyX1 tyX1_ok nmX1 hown hK hP hD hS 0 rfl rfl 2 (by decide) hw2 (fun _ h9 => h9) rfl (by decide +kernel) rfl rfl (Nat.le_of_ble_eq_true rfl) (kdr dgX1_open_0 2 8 rfl rfl) (fun H locs hP hD hS => ?_)
    have hP : va_P (dC, dI) vwCl (wSB cI cJ cZ a ce (ce p0.toNatClampNeg) (ce p1.toNatClampNeg) sb se so sc wb we wo wc fb fe fo fc rm ac rf kn) H := hP
    have hD : va_D A (wSB cI cJ cZ a ce (ce p0.toNatClampNeg) (ce p1.toNatClampNeg) sb se so sc wb we wo wc fb fe fo fc rm ac rf kn) := hD
    refine lv_aload_n hx hb (kdr dgX1_open_0 2 9 rfl rfl) rfl (lv_at hl 0 rfl) ?_
    refine lv_aload_n hx hb (kdr dgX1_open_0 3 0 rfl rfl) rfl (lv_at hl 0 rfl) ?_
    refine va_get (D := (dC, dI)) (ci := 3) (v := .ref (a 2)) (C := RX1) (T := TX1) (N := 10) hx hb hts hiX1 hown hK hP 0 rfl rfl 3 (by decide) hw3 (fun _ h9 => h9) rfl (kdr dgX1_open_0 3 1 rfl rfl) ?_
    obtain ⟨r6, g6, h⟩ := g_b h
    refine kq_i (wSB cI cJ cZ a ce (ce p0.toNatClampNeg) (ce p1.toNatClampNeg) sb se so r6.2 wb we wo wc fb fe fo fc rm ac rf kn) (fun qP qD qF => va_runV (As := []) (rest := [.ref (a 0)]) ⟨hx, hb, hml, hown, hts⟩ (c_X0_clear l dC dI cB cI cJ cZ (a 2) (a 3) (a 4) (a 5) _ sb se so sc  r6 g6) (kcwV hts kw_143 kv_X0_clear rfl rfl ⟨(Nat.le_of_ble_eq_true rfl), (Nat.le_of_ble_eq_true rfl)⟩) (kpV (A := A) qP hK qD hG (krecv_2 (q0 := 2) hK hP rfl)) rfl rfl hl.1 rfl (lv_room (Nat.le_of_ble_eq_true rfl)) (kdr dgX1_open_0 3 2 rfl rfl) ⟨(Nat.le_of_ble_eq_true rfl), (Nat.le_of_ble_eq_true rfl)⟩) hP hD hS hA kFr_SBs (fun H locs hP hD hS br6 => ?_)
    obtain ⟨r7, g7, h⟩ := g_b h
    refine kq_i (wSB cI cJ cZ a ce (ce p0.toNatClampNeg) (ce p1.toNatClampNeg) sb se so r6.2 wb we wo wc fb fe fo fc rm r7.2 rf kn) (fun qP qD qF => va_runV (As := [.int r6.1]) (rest := []) ⟨hx, hb, hml, hown, hts⟩ (c_X1_done l dC dI cB cI cJ cZ a _ ce (ce p0.toNatClampNeg) (ce p1.toNatClampNeg) sb se so r6.2 wb we wo wc fb fe fo fc rm ac rf kn r6.1 r7 g7) (kcwV hts kw_147 kv_X1_done rfl rfl ⟨(Nat.le_of_ble_eq_true rfl), (Nat.le_of_ble_eq_true rfl)⟩) (kpV (A := A) qP hK qD hG (krecv_3 (q0 := 0) hK hP rfl)) rfl rfl hl.1 rfl (lv_room (Nat.le_of_ble_eq_true rfl)) (kdr dgX1_open_0 3 3 rfl rfl) ⟨(Nat.le_of_ble_eq_true rfl), (Nat.le_of_ble_eq_true rfl)⟩) hP hD hS hA kFr_SB (fun H locs hP hD hS br7 => ?_)
    have h := Option.some.inj h
    subst h
    exact kret_i (v := r7.1) hx hb hr rfl hlocks hS hP (kdr dgX1_open_0 3 4 rfl rfl)
  · have h := g_f c5 h
    refine lv_aload_n hx hb (kdr dgX1_open_0 1 4 rfl rfl) rfl (lv_at hl 0 rfl) ?_
    obtain ⟨r6, g6, h⟩ := g_b h
    refine kq_i (wSB cI cJ cZ a ce fr un sb se so sc wb we wo wc fb fe fo fc rm ac r6.2 kn) (fun qP qD qF => va_runV (As := []) (rest := []) ⟨hx, hb, hml, hown, hts⟩ (c_X1_refuse l dC dI cB cI cJ cZ a _ ce fr un sb se so sc wb we wo wc fb fe fo fc rm ac rf kn  r6 g6) (kcwV hts kw_501 kv_X1_refuse rfl rfl ⟨(Nat.le_of_ble_eq_true rfl), (Nat.le_of_ble_eq_true rfl)⟩) (kpV (A := A) qP hK qD hG (krecv_3 (q0 := 0) hK hP rfl)) rfl rfl hl.1 rfl (lv_room (Nat.le_of_ble_eq_true rfl)) (kdr dgX1_open_0 1 5 rfl rfl) ⟨(Nat.le_of_ble_eq_true rfl), (Nat.le_of_ble_eq_true rfl)⟩) hP hD hS hA kFr_SB (fun H locs hP hD hS br6 => ?_)
    have h := Option.some.inj h
    subst h
    exact kret_i (v := r6.1) hx hb hr rfl hlocks hS hP (kdr dgX1_open_0 1 6 rfl rfl)
noncomputable def fx_X1_open (p0 : Int32) (p1 : Int32) : Option (Nat) :=
  xb (fx_X1_needCell p0) (fun k1 => some k1) (
  (f_X1_needCell p0).bind fun r1 =>
  xb (fx_X1_needCell p1) (fun k2 => some k2) (
  none))
theorem fx_X1_open_e {p0 : Int32} {p1 : Int32} : fx_X1_open p0 p1 = 
  xb (fx_X1_needCell p0) (fun k1 => some k1) (
  (f_X1_needCell p0).bind fun r1 =>
  xb (fx_X1_needCell p1) (fun k2 => some k2) (
  none)) := rfl
set_option maxHeartbeats 4000000 in
set_option maxRecDepth 100000 in
theorem x_X1_open (l : Launch) (hl9 : l.stackTraces = false) (dC : Nat → ClassId) (dI : Nat → Nat → Nat) (cB cI cJ cZ : ClassId) (a : Nat → Nat) (sz : Nat) (ce : Nat → Int64) (fr : Int64) (un : Int64) (sb : Nat → Int64) (se : Nat → Int64) (so : Nat → Int32) (sc : Int32) (wb : Nat → Int64) (we : Nat → Int64) (wo : Nat → Int32) (wc : Int32) (fb : Nat → Int64) (fe : Nat → Int64) (fo : Nat → Int32) (fc : Int32) (rm : Nat → Int32) (ac : Int32) (rf : Int32) (kn : Int32) (p0 : Int32) (p1 : Int32) (res : Nat) (hf : fx_X1_open p0 p1 = some res) : kMX l yX1_open wsX1_open (kRm 7 1 6 110) dC dI cB cI cJ cZ [.ref (a 0), .int p0, .int p1] sz (wSB cI cJ cZ a ce fr un sb se so sc wb we wo wc fb fe fo fc rm ac rf kn) (res) (wSB cI cJ cZ a ce fr un sb se so sc wb we wo wc fb fe fo fc rm ac rf kn) 1 6 := by
  refine kmet_x (y := yX1_open) (cc := cX1_open) (maxL := 3) (ret := (some .int)) RX1 (kvA 0 (a 0) (kvI 1 p0 (kvI 2 p1 kvE))) kpl_X1 rfl rfl (Nat.le_of_ble_eq_true rfl) rfl (fun p e s m below meth c A ls hx hb hr hml ht hts hown hlocks hP hK hG hZ hD hA hS hl => ?_)
  have h := fx_X1_open_e.symm.trans hf
  refine lv_iload_n hx hb (kdr dgX1_open_0 0 0 rfl rfl) rfl (lv_at hl 1 rfl) ?_
  rcases g_x h with ⟨k1, j1, h⟩ | ⟨-, h⟩
  · have h := Option.some.inj h
    subst h
    exact kq_x (wSB cI cJ cZ a ce fr un sb se so sc wb we wo wc fb fe fo fc rm ac rf kn) (fun qP qD qF => vx_runS (As := [.int p0]) (rest := []) ⟨hx, hb, hml, hown, hts⟩ (x_X1_needCell l hl9 dC dI cB cI cJ cZ  _  p0 k1 j1) (kcwS hts kw_473 kv_X1_needCell rfl rfl ⟨(Nat.le_of_ble_eq_true rfl), (Nat.le_of_ble_eq_true rfl)⟩) (kpSXq (A := A) (kPnil) hK ((kDnil (A := A))) hG hZ hS qF) rfl rfl hl.1 rfl (lv_room (Nat.le_of_ble_eq_true rfl)) (kdr dgX1_open_0 0 1 rfl rfl) ⟨(Nat.le_of_ble_eq_true rfl), (Nat.le_of_ble_eq_true rfl)⟩) hP hD hS hA kFr_n ht hlocks (Nat.le_of_ble_eq_true rfl) (Nat.le_of_ble_eq_true rfl)
  · obtain ⟨r1, g1, h⟩ := g_b h
    refine kq_v (wSB cI cJ cZ a ce fr un sb se so sc wb we wo wc fb fe fo fc rm ac rf kn) (fun qP qD qF => va_runS (As := [.int p0]) (rest := []) ⟨hx, hb, hml, hown, hts⟩ (c_X1_needCell l dC dI cB cI cJ cZ  _  p0 r1 g1) (kcwS hts kw_473 kv_X1_needCell rfl rfl ⟨(Nat.le_of_ble_eq_true rfl), (Nat.le_of_ble_eq_true rfl)⟩) (kpS (A := A) (kPnil) hK ((kDnil (A := A))) hG) rfl rfl hl.1 rfl (lv_room (Nat.le_of_ble_eq_true rfl)) (kdr dgX1_open_0 0 1 rfl rfl) ⟨(Nat.le_of_ble_eq_true rfl), (Nat.le_of_ble_eq_true rfl)⟩) hP hD hS hA kFr_n (fun H locs hP hD hS => ?_)
    refine lv_iload_n hx hb (kdr dgX1_open_0 0 2 rfl rfl) rfl (lv_at hl 2 rfl) ?_
    rcases g_x h with ⟨k2, j2, h⟩ | ⟨-, h⟩
    · have h := Option.some.inj h
      subst h
      exact kq_x (wSB cI cJ cZ a ce fr un sb se so sc wb we wo wc fb fe fo fc rm ac rf kn) (fun qP qD qF => vx_runS (As := [.int p1]) (rest := []) ⟨hx, hb, hml, hown, hts⟩ (x_X1_needCell l hl9 dC dI cB cI cJ cZ  _  p1 k2 j2) (kcwS hts kw_473 kv_X1_needCell rfl rfl ⟨(Nat.le_of_ble_eq_true rfl), (Nat.le_of_ble_eq_true rfl)⟩) (kpSXq (A := A) (kPnil) hK ((kDnil (A := A))) hG hZ hS qF) rfl rfl hl.1 rfl (lv_room (Nat.le_of_ble_eq_true rfl)) (kdr dgX1_open_0 0 3 rfl rfl) ⟨(Nat.le_of_ble_eq_true rfl), (Nat.le_of_ble_eq_true rfl)⟩) hP hD hS hA kFr_n ht hlocks (Nat.le_of_ble_eq_true rfl) (Nat.le_of_ble_eq_true rfl)
    · cases h
noncomputable abbrev wsX1_book : List Cond := kWs yX1_book cX1_book 5 (some .int)
noncomputable def f_X1_book (ce : Nat → Int64) (fr : Int64) (un : Int64) (sb : Nat → Int64) (se : Nat → Int64) (so : Nat → Int32) (sc : Int32) (ac : Int32) (rf : Int32) (p0 : Int32) (p1 : Int32) (p2 : Int32) : Option ((Int32) × (Nat → Int64) × (Nat → Int64) × (Nat → Int32) × (Int32) × (Int32) × (Int32)) :=
  (f_X1_needCell p0).bind fun r1 =>
  (f_X1_needCell p1).bind fun r2 =>
  if ix p0 4 then
    if ix p1 4 then
      (f_X1_addSpan fr un sb se so sc (ce p0.toNatClampNeg) (ce p1.toNatClampNeg) p2).bind fun r5 =>
      if r5.1 = (-1) then
        (f_X1_refuse rf).bind fun r7 =>
        some (r7.1, r5.2.1, r5.2.2.1, r5.2.2.2.1, r5.2.2.2.2, ac, r7.2)
      else
        (f_X1_done ac r5.1).bind fun r7 =>
        some (r7.1, r5.2.1, r5.2.2.1, r5.2.2.2.1, r5.2.2.2.2, r7.2, rf)
    else none
  else none
theorem f_X1_book_e {ce : Nat → Int64} {fr : Int64} {un : Int64} {sb : Nat → Int64} {se : Nat → Int64} {so : Nat → Int32} {sc : Int32} {ac : Int32} {rf : Int32} {p0 : Int32} {p1 : Int32} {p2 : Int32} : f_X1_book ce fr un sb se so sc ac rf p0 p1 p2 = 
  (f_X1_needCell p0).bind fun r1 =>
  (f_X1_needCell p1).bind fun r2 =>
  if ix p0 4 then
    if ix p1 4 then
      (f_X1_addSpan fr un sb se so sc (ce p0.toNatClampNeg) (ce p1.toNatClampNeg) p2).bind fun r5 =>
      if r5.1 = (-1) then
        (f_X1_refuse rf).bind fun r7 =>
        some (r7.1, r5.2.1, r5.2.2.1, r5.2.2.2.1, r5.2.2.2.2, ac, r7.2)
      else
        (f_X1_done ac r5.1).bind fun r7 =>
        some (r7.1, r5.2.1, r5.2.2.1, r5.2.2.2.1, r5.2.2.2.2, r7.2, rf)
    else none
  else none := rfl
set_option maxHeartbeats 4000000 in
set_option maxRecDepth 100000 in
theorem c_X1_book (l : Launch) (dC : Nat → ClassId) (dI : Nat → Nat → Nat) (cB cI cJ cZ : ClassId) (a : Nat → Nat) (sz : Nat) (ce : Nat → Int64) (fr : Int64) (un : Int64) (sb : Nat → Int64) (se : Nat → Int64) (so : Nat → Int32) (sc : Int32) (wb : Nat → Int64) (we : Nat → Int64) (wo : Nat → Int32) (wc : Int32) (fb : Nat → Int64) (fe : Nat → Int64) (fo : Nat → Int32) (fc : Int32) (rm : Nat → Int32) (ac : Int32) (rf : Int32) (kn : Int32) (p0 : Int32) (p1 : Int32) (p2 : Int32) (res : (Int32) × (Nat → Int64) × (Nat → Int64) × (Nat → Int32) × (Int32) × (Int32) × (Int32)) (hf : f_X1_book ce fr un sb se so sc ac rf p0 p1 p2 = some res) : kMi l yX1_book wsX1_book (kRm 2 0 0 51) dC dI cB cI cJ cZ [.ref (a 0), .int p0, .int p1, .int p2] sz (wSB cI cJ cZ a ce fr un sb se so sc wb we wo wc fb fe fo fc rm ac rf kn) .int (res.1) (wSB cI cJ cZ a ce fr un (res.2.1) (res.2.2.1) (res.2.2.2.1) (res.2.2.2.2.1) wb we wo wc fb fe fo fc rm (res.2.2.2.2.2.1) (res.2.2.2.2.2.2) kn) 0 0 := by
  refine kmet_i (y := yX1_book) (cc := cX1_book) (maxL := 5) (ret := (some .int)) RX1 (kvA 0 (a 0) (kvI 1 p0 (kvI 2 p1 (kvI 3 p2 kvE)))) kpl_X1 rfl rfl (Nat.le_of_ble_eq_true rfl) rfl (fun p e s m below meth c A ls hx hb hr hml hts hown hlocks hP hK hG hD hA hS hl => ?_)
  have hw0 := hts (.fieldLink RX1 9 "Spanbooker" "cells" "[J") (List.mem_cons_of_mem _ kw_107)
  have hiX1 : ∀ w ∈ u_ws RX1 TX1 10, w ∈ wsX1_book := fun w h => List.mem_cons_of_mem _ (ku_X1 w h)
  have h := f_X1_book_e.symm.trans hf
  refine lv_iload_n hx hb (kdr dgX1_book_0 0 0 rfl rfl) rfl (lv_at hl 1 rfl) ?_
  obtain ⟨r1, g1, h⟩ := g_b h
  refine kq_v (wSB cI cJ cZ a ce fr un sb se so sc wb we wo wc fb fe fo fc rm ac rf kn) (fun qP qD qF => va_runS (As := [.int p0]) (rest := []) ⟨hx, hb, hml, hown, hts⟩ (c_X1_needCell l dC dI cB cI cJ cZ  _  p0 r1 g1) (kcwS hts kw_473 kv_X1_needCell rfl rfl ⟨(Nat.le_of_ble_eq_true rfl), (Nat.le_of_ble_eq_true rfl)⟩) (kpS (A := A) (kPnil) hK ((kDnil (A := A))) hG) rfl rfl hl.1 rfl (lv_room (Nat.le_of_ble_eq_true rfl)) (kdr dgX1_book_0 0 1 rfl rfl) ⟨(Nat.le_of_ble_eq_true rfl), (Nat.le_of_ble_eq_true rfl)⟩) hP hD hS hA kFr_n (fun H locs hP hD hS => ?_)
  refine lv_iload_n hx hb (kdr dgX1_book_0 0 2 rfl rfl) rfl (lv_at hl 2 rfl) ?_
  obtain ⟨r2, g2, h⟩ := g_b h
  refine kq_v (wSB cI cJ cZ a ce fr un sb se so sc wb we wo wc fb fe fo fc rm ac rf kn) (fun qP qD qF => va_runS (As := [.int p1]) (rest := []) ⟨hx, hb, hml, hown, hts⟩ (c_X1_needCell l dC dI cB cI cJ cZ  _  p1 r2 g2) (kcwS hts kw_473 kv_X1_needCell rfl rfl ⟨(Nat.le_of_ble_eq_true rfl), (Nat.le_of_ble_eq_true rfl)⟩) (kpS (A := A) (kPnil) hK ((kDnil (A := A))) hG) rfl rfl hl.1 rfl (lv_room (Nat.le_of_ble_eq_true rfl)) (kdr dgX1_book_0 0 3 rfl rfl) ⟨(Nat.le_of_ble_eq_true rfl), (Nat.le_of_ble_eq_true rfl)⟩) hP hD hS hA kFr_n (fun H locs hP hD hS => ?_)
  refine lv_aload_n hx hb (kdr dgX1_book_0 0 4 rfl rfl) rfl (lv_at hl 0 rfl) ?_
  refine lv_aload_n hx hb (kdr dgX1_book_0 0 5 rfl rfl) rfl (lv_at hl 0 rfl) ?_
  refine va_get (D := (dC, dI)) (ci := 3) (v := .ref (a 1)) (C := RX1) (T := TX1) (N := 10) hx hb hts hiX1 hown hK hP 0 rfl rfl 0 (by decide) hw0 (fun _ h9 => h9) rfl (kdr dgX1_book_0 0 6 rfl rfl) ?_
  refine lv_iload_n hx hb (kdr dgX1_book_0 0 7 rfl rfl) rfl (lv_at hl 1 rfl) ?_
  obtain ⟨z2, h⟩ := g_if h
  refine va_lald hx hb hK hP 1 2 rfl rfl (ix_in z2) (kdr dgX1_book_0 0 8 rfl rfl) ?_
  refine lv_aload_n hx hb (kdr dgX1_book_0 0 9 rfl rfl) rfl (lv_at hl 0 rfl) ?_
  refine va_get (D := (dC, dI)) (ci := 3) (v := .ref (a 1)) (C := RX1) (T := TX1) (N := 10) hx hb hts hiX1 hown hK hP 0 rfl rfl 0 (by decide) hw0 (fun _ h9 => h9) rfl (kdr dgX1_book_0 1 0 rfl rfl) ?_
  refine lv_iload_n hx hb (kdr dgX1_book_0 1 1 rfl rfl) rfl (lv_at hl 2 rfl) ?_
  obtain ⟨z3, h⟩ := g_if h
  refine va_lald hx hb hK hP 1 2 rfl rfl (ix_in z3) (kdr dgX1_book_0 1 2 rfl rfl) ?_
  refine lv_iload_n hx hb (kdr dgX1_book_0 1 3 rfl rfl) rfl (lv_at hl 3 rfl) ?_
  obtain ⟨r5, g5, h⟩ := g_b h
  refine kq_i (wSB cI cJ cZ a ce fr un r5.2.1 r5.2.2.1 r5.2.2.2.1 r5.2.2.2.2 wb we wo wc fb fe fo fc rm ac rf kn) (fun qP qD qF => va_runV (As := [.long (ce p0.toNatClampNeg), .long (ce p1.toNatClampNeg), .int p2]) (rest := []) ⟨hx, hb, hml, hown, hts⟩ (c_X1_addSpan l dC dI cB cI cJ cZ a _ ce fr un sb se so sc wb we wo wc fb fe fo fc rm ac rf kn (ce p0.toNatClampNeg) (ce p1.toNatClampNeg) p2 r5 g5) (kcwV hts kw_581 kv_X1_addSpan rfl rfl ⟨(Nat.le_of_ble_eq_true rfl), (Nat.le_of_ble_eq_true rfl)⟩) (kpV (A := A) qP hK qD hG (krecv_3 (q0 := 0) hK hP rfl)) rfl rfl hl.1 rfl (lv_room (Nat.le_of_ble_eq_true rfl)) (kdr dgX1_book_0 1 4 rfl rfl) ⟨(Nat.le_of_ble_eq_true rfl), (Nat.le_of_ble_eq_true rfl)⟩) hP hD hS hA kFr_SB (fun H locs hP hD hS br5 => ?_)
  refine lv_istore (lv' := (kvI 4 r5.1 (kvA 0 (a 0) (kvI 1 p0 (kvI 2 p1 (kvI 3 p2 kvE)))))) hx hb (kdr dgX1_book_0 1 5 rfl rfl) hl (by decide) rfl (fun ls hl => ?_)
  refine lv_iload hx hb (kdr dgX1_book_0 1 6 rfl rfl) (lv_at hl 0 rfl) ?_
  refine lv_iconst (v := (-1)) hx hb (kdr dgX1_book_0 1 7 rfl rfl) (by decide) ?_
  refine lv_icmp_ne (tgt := 40) hx hb (kdr dgX1_book_0 1 8 rfl rfl) (by decide) (fun c6 => ?_) (fun c6 => ?_)
  · have h := g_f c6 h
    refine lv_aload_n hx hb (kdr dgX1_book_0 2 2 rfl rfl) rfl (lv_at hl 1 rfl) ?_
    refine lv_iload hx hb (kdr dgX1_book_0 2 3 rfl rfl) (lv_at hl 0 rfl) ?_
    obtain ⟨r7, g7, h⟩ := g_b h
    refine kq_i (wSB cI cJ cZ a ce fr un r5.2.1 r5.2.2.1 r5.2.2.2.1 r5.2.2.2.2 wb we wo wc fb fe fo fc rm r7.2 rf kn) (fun qP qD qF => va_runV (As := [.int r5.1]) (rest := []) ⟨hx, hb, hml, hown, hts⟩ (c_X1_done l dC dI cB cI cJ cZ a _ ce fr un r5.2.1 r5.2.2.1 r5.2.2.2.1 r5.2.2.2.2 wb we wo wc fb fe fo fc rm ac rf kn r5.1 r7 g7) (kcwV hts kw_147 kv_X1_done rfl rfl ⟨(Nat.le_of_ble_eq_true rfl), (Nat.le_of_ble_eq_true rfl)⟩) (kpV (A := A) qP hK qD hG (krecv_3 (q0 := 0) hK hP rfl)) rfl rfl hl.1 rfl (lv_room (Nat.le_of_ble_eq_true rfl)) (kdr dgX1_book_0 2 4 rfl rfl) ⟨(Nat.le_of_ble_eq_true rfl), (Nat.le_of_ble_eq_true rfl)⟩) hP hD hS hA kFr_SB (fun H locs hP hD hS br7 => ?_)
    have h := Option.some.inj h
    subst h
    exact kret_i (v := r7.1) hx hb hr rfl hlocks hS hP (kdr dgX1_book_0 2 5 rfl rfl)
  · have h := g_t c6 h
    refine lv_aload_n hx hb (kdr dgX1_book_0 1 9 rfl rfl) rfl (lv_at hl 1 rfl) ?_
    obtain ⟨r7, g7, h⟩ := g_b h
    refine kq_i (wSB cI cJ cZ a ce fr un r5.2.1 r5.2.2.1 r5.2.2.2.1 r5.2.2.2.2 wb we wo wc fb fe fo fc rm ac r7.2 kn) (fun qP qD qF => va_runV (As := []) (rest := []) ⟨hx, hb, hml, hown, hts⟩ (c_X1_refuse l dC dI cB cI cJ cZ a _ ce fr un r5.2.1 r5.2.2.1 r5.2.2.2.1 r5.2.2.2.2 wb we wo wc fb fe fo fc rm ac rf kn  r7 g7) (kcwV hts kw_501 kv_X1_refuse rfl rfl ⟨(Nat.le_of_ble_eq_true rfl), (Nat.le_of_ble_eq_true rfl)⟩) (kpV (A := A) qP hK qD hG (krecv_3 (q0 := 0) hK hP rfl)) rfl rfl hl.1 rfl (lv_room (Nat.le_of_ble_eq_true rfl)) (kdr dgX1_book_0 2 0 rfl rfl) ⟨(Nat.le_of_ble_eq_true rfl), (Nat.le_of_ble_eq_true rfl)⟩) hP hD hS hA kFr_SB (fun H locs hP hD hS br7 => ?_)
    refine lv_goto (tgt := 46) hx hb (kdr dgX1_book_0 2 1 rfl rfl) (by decide) ?_
    have h := Option.some.inj h
    subst h
    exact kret_i (v := r7.1) hx hb hr rfl hlocks hS hP (kdr dgX1_book_0 2 5 rfl rfl)
noncomputable def fx_X1_book (p0 : Int32) (p1 : Int32) : Option (Nat) :=
  xb (fx_X1_needCell p0) (fun k1 => some k1) (
  (f_X1_needCell p0).bind fun r1 =>
  xb (fx_X1_needCell p1) (fun k2 => some k2) (
  none))
theorem fx_X1_book_e {p0 : Int32} {p1 : Int32} : fx_X1_book p0 p1 = 
  xb (fx_X1_needCell p0) (fun k1 => some k1) (
  (f_X1_needCell p0).bind fun r1 =>
  xb (fx_X1_needCell p1) (fun k2 => some k2) (
  none)) := rfl
set_option maxHeartbeats 4000000 in
set_option maxRecDepth 100000 in
theorem x_X1_book (l : Launch) (hl9 : l.stackTraces = false) (dC : Nat → ClassId) (dI : Nat → Nat → Nat) (cB cI cJ cZ : ClassId) (a : Nat → Nat) (sz : Nat) (ce : Nat → Int64) (fr : Int64) (un : Int64) (sb : Nat → Int64) (se : Nat → Int64) (so : Nat → Int32) (sc : Int32) (wb : Nat → Int64) (we : Nat → Int64) (wo : Nat → Int32) (wc : Int32) (fb : Nat → Int64) (fe : Nat → Int64) (fo : Nat → Int32) (fc : Int32) (rm : Nat → Int32) (ac : Int32) (rf : Int32) (kn : Int32) (p0 : Int32) (p1 : Int32) (p2 : Int32) (res : Nat) (hf : fx_X1_book p0 p1 = some res) : kMX l yX1_book wsX1_book (kRm 7 1 6 110) dC dI cB cI cJ cZ [.ref (a 0), .int p0, .int p1, .int p2] sz (wSB cI cJ cZ a ce fr un sb se so sc wb we wo wc fb fe fo fc rm ac rf kn) (res) (wSB cI cJ cZ a ce fr un sb se so sc wb we wo wc fb fe fo fc rm ac rf kn) 1 6 := by
  refine kmet_x (y := yX1_book) (cc := cX1_book) (maxL := 5) (ret := (some .int)) RX1 (kvA 0 (a 0) (kvI 1 p0 (kvI 2 p1 (kvI 3 p2 kvE)))) kpl_X1 rfl rfl (Nat.le_of_ble_eq_true rfl) rfl (fun p e s m below meth c A ls hx hb hr hml ht hts hown hlocks hP hK hG hZ hD hA hS hl => ?_)
  have h := fx_X1_book_e.symm.trans hf
  refine lv_iload_n hx hb (kdr dgX1_book_0 0 0 rfl rfl) rfl (lv_at hl 1 rfl) ?_
  rcases g_x h with ⟨k1, j1, h⟩ | ⟨-, h⟩
  · have h := Option.some.inj h
    subst h
    exact kq_x (wSB cI cJ cZ a ce fr un sb se so sc wb we wo wc fb fe fo fc rm ac rf kn) (fun qP qD qF => vx_runS (As := [.int p0]) (rest := []) ⟨hx, hb, hml, hown, hts⟩ (x_X1_needCell l hl9 dC dI cB cI cJ cZ  _  p0 k1 j1) (kcwS hts kw_473 kv_X1_needCell rfl rfl ⟨(Nat.le_of_ble_eq_true rfl), (Nat.le_of_ble_eq_true rfl)⟩) (kpSXq (A := A) (kPnil) hK ((kDnil (A := A))) hG hZ hS qF) rfl rfl hl.1 rfl (lv_room (Nat.le_of_ble_eq_true rfl)) (kdr dgX1_book_0 0 1 rfl rfl) ⟨(Nat.le_of_ble_eq_true rfl), (Nat.le_of_ble_eq_true rfl)⟩) hP hD hS hA kFr_n ht hlocks (Nat.le_of_ble_eq_true rfl) (Nat.le_of_ble_eq_true rfl)
  · obtain ⟨r1, g1, h⟩ := g_b h
    refine kq_v (wSB cI cJ cZ a ce fr un sb se so sc wb we wo wc fb fe fo fc rm ac rf kn) (fun qP qD qF => va_runS (As := [.int p0]) (rest := []) ⟨hx, hb, hml, hown, hts⟩ (c_X1_needCell l dC dI cB cI cJ cZ  _  p0 r1 g1) (kcwS hts kw_473 kv_X1_needCell rfl rfl ⟨(Nat.le_of_ble_eq_true rfl), (Nat.le_of_ble_eq_true rfl)⟩) (kpS (A := A) (kPnil) hK ((kDnil (A := A))) hG) rfl rfl hl.1 rfl (lv_room (Nat.le_of_ble_eq_true rfl)) (kdr dgX1_book_0 0 1 rfl rfl) ⟨(Nat.le_of_ble_eq_true rfl), (Nat.le_of_ble_eq_true rfl)⟩) hP hD hS hA kFr_n (fun H locs hP hD hS => ?_)
    refine lv_iload_n hx hb (kdr dgX1_book_0 0 2 rfl rfl) rfl (lv_at hl 2 rfl) ?_
    rcases g_x h with ⟨k2, j2, h⟩ | ⟨-, h⟩
    · have h := Option.some.inj h
      subst h
      exact kq_x (wSB cI cJ cZ a ce fr un sb se so sc wb we wo wc fb fe fo fc rm ac rf kn) (fun qP qD qF => vx_runS (As := [.int p1]) (rest := []) ⟨hx, hb, hml, hown, hts⟩ (x_X1_needCell l hl9 dC dI cB cI cJ cZ  _  p1 k2 j2) (kcwS hts kw_473 kv_X1_needCell rfl rfl ⟨(Nat.le_of_ble_eq_true rfl), (Nat.le_of_ble_eq_true rfl)⟩) (kpSXq (A := A) (kPnil) hK ((kDnil (A := A))) hG hZ hS qF) rfl rfl hl.1 rfl (lv_room (Nat.le_of_ble_eq_true rfl)) (kdr dgX1_book_0 0 3 rfl rfl) ⟨(Nat.le_of_ble_eq_true rfl), (Nat.le_of_ble_eq_true rfl)⟩) hP hD hS hA kFr_n ht hlocks (Nat.le_of_ble_eq_true rfl) (Nat.le_of_ble_eq_true rfl)
    · cases h
noncomputable abbrev wsX1_unbook : List Cond := kWs yX1_unbook cX1_unbook 2 (some .int)
noncomputable def f_X1_unbook (sb : Nat → Int64) (se : Nat → Int64) (so : Nat → Int32) (sc : Int32) (ac : Int32) (p0 : Int32) : Option ((Int32) × (Nat → Int64) × (Nat → Int64) × (Nat → Int32) × (Int32) × (Int32)) :=
  (f_X1_needNumberIn sc p0).bind fun r1 =>
  (f_X0_remove sb se so sc p0).bind fun r2 =>
  (f_X1_done ac r2.1).bind fun r3 =>
  some (r3.1, r2.2.1, r2.2.2.1, r2.2.2.2.1, r2.2.2.2.2, r3.2)
theorem f_X1_unbook_e {sb : Nat → Int64} {se : Nat → Int64} {so : Nat → Int32} {sc : Int32} {ac : Int32} {p0 : Int32} : f_X1_unbook sb se so sc ac p0 = 
  (f_X1_needNumberIn sc p0).bind fun r1 =>
  (f_X0_remove sb se so sc p0).bind fun r2 =>
  (f_X1_done ac r2.1).bind fun r3 =>
  some (r3.1, r2.2.1, r2.2.2.1, r2.2.2.2.1, r2.2.2.2.2, r3.2) := rfl
set_option maxHeartbeats 4000000 in
set_option maxRecDepth 100000 in
theorem c_X1_unbook (l : Launch) (dC : Nat → ClassId) (dI : Nat → Nat → Nat) (cB cI cJ cZ : ClassId) (a : Nat → Nat) (sz : Nat) (ce : Nat → Int64) (fr : Int64) (un : Int64) (sb : Nat → Int64) (se : Nat → Int64) (so : Nat → Int32) (sc : Int32) (wb : Nat → Int64) (we : Nat → Int64) (wo : Nat → Int32) (wc : Int32) (fb : Nat → Int64) (fe : Nat → Int64) (fo : Nat → Int32) (fc : Int32) (rm : Nat → Int32) (ac : Int32) (rf : Int32) (kn : Int32) (p0 : Int32) (res : (Int32) × (Nat → Int64) × (Nat → Int64) × (Nat → Int32) × (Int32) × (Int32)) (hf : f_X1_unbook sb se so sc ac p0 = some res) : kMi l yX1_unbook wsX1_unbook (kRm 2 0 0 43) dC dI cB cI cJ cZ [.ref (a 0), .int p0] sz (wSB cI cJ cZ a ce fr un sb se so sc wb we wo wc fb fe fo fc rm ac rf kn) .int (res.1) (wSB cI cJ cZ a ce fr un (res.2.1) (res.2.2.1) (res.2.2.2.1) (res.2.2.2.2.1) wb we wo wc fb fe fo fc rm (res.2.2.2.2.2) rf kn) 0 0 := by
  refine kmet_i (y := yX1_unbook) (cc := cX1_unbook) (maxL := 2) (ret := (some .int)) RX1 (kvA 0 (a 0) (kvI 1 p0 kvE)) kpl_X1 rfl rfl (Nat.le_of_ble_eq_true rfl) rfl (fun p e s m below meth c A ls hx hb hr hml hts hown hlocks hP hK hG hD hA hS hl => ?_)
  have hw0 := hts (.fieldLink RX1 25 "Spanbooker" "spanRow" "LSpanbooker$Row;") (List.mem_cons_of_mem _ kw_110)
  have hiX1 : ∀ w ∈ u_ws RX1 TX1 10, w ∈ wsX1_unbook := fun w h => List.mem_cons_of_mem _ (ku_X1 w h)
  have h := f_X1_unbook_e.symm.trans hf
  refine lv_aload_n hx hb (kdr dgX1_unbook_0 0 0 rfl rfl) rfl (lv_at hl 0 rfl) ?_
  refine va_get (D := (dC, dI)) (ci := 3) (v := .ref (a 2)) (C := RX1) (T := TX1) (N := 10) hx hb hts hiX1 hown hK hP 0 rfl rfl 3 (by decide) hw0 (fun _ h9 => h9) rfl (kdr dgX1_unbook_0 0 1 rfl rfl) ?_
  refine lv_iload_n hx hb (kdr dgX1_unbook_0 0 2 rfl rfl) rfl (lv_at hl 1 rfl) ?_
  obtain ⟨r1, g1, h⟩ := g_b h
  refine kq_v (wSB cI cJ cZ a ce fr un sb se so sc wb we wo wc fb fe fo fc rm ac rf kn) (fun qP qD qF => va_runS (As := [.ref (a 2), .int p0]) (rest := []) ⟨hx, hb, hml, hown, hts⟩ (c_X1_needNumberIn l dC dI cB cI cJ cZ (a 2) (a 3) (a 4) (a 5) _ sb se so sc p0 r1 g1) (kcwS hts kw_592 kv_X1_needNumberIn rfl rfl ⟨(Nat.le_of_ble_eq_true rfl), (Nat.le_of_ble_eq_true rfl)⟩) (kpS (A := A) qP hK qD hG) rfl rfl hl.1 rfl (lv_room (Nat.le_of_ble_eq_true rfl)) (kdr dgX1_unbook_0 0 3 rfl rfl) ⟨(Nat.le_of_ble_eq_true rfl), (Nat.le_of_ble_eq_true rfl)⟩) hP hD hS hA kFr_SBs (fun H locs hP hD hS => ?_)
  refine lv_aload_n hx hb (kdr dgX1_unbook_0 0 4 rfl rfl) rfl (lv_at hl 0 rfl) ?_
  refine lv_aload_n hx hb (kdr dgX1_unbook_0 0 5 rfl rfl) rfl (lv_at hl 0 rfl) ?_
  refine va_get (D := (dC, dI)) (ci := 3) (v := .ref (a 2)) (C := RX1) (T := TX1) (N := 10) hx hb hts hiX1 hown hK hP 0 rfl rfl 3 (by decide) hw0 (fun _ h9 => h9) rfl (kdr dgX1_unbook_0 0 6 rfl rfl) ?_
  refine lv_iload_n hx hb (kdr dgX1_unbook_0 0 7 rfl rfl) rfl (lv_at hl 1 rfl) ?_
  obtain ⟨r2, g2, h⟩ := g_b h
  refine kq_i (wSB cI cJ cZ a ce fr un r2.2.1 r2.2.2.1 r2.2.2.2.1 r2.2.2.2.2 wb we wo wc fb fe fo fc rm ac rf kn) (fun qP qD qF => va_runV (As := [.int p0]) (rest := [.ref (a 0)]) ⟨hx, hb, hml, hown, hts⟩ (c_X0_remove l dC dI cB cI cJ cZ (a 2) (a 3) (a 4) (a 5) _ sb se so sc p0 r2 g2) (kcwV hts kw_596 kv_X0_remove rfl rfl ⟨(Nat.le_of_ble_eq_true rfl), (Nat.le_of_ble_eq_true rfl)⟩) (kpV (A := A) qP hK qD hG (krecv_2 (q0 := 2) hK hP rfl)) rfl rfl hl.1 rfl (lv_room (Nat.le_of_ble_eq_true rfl)) (kdr dgX1_unbook_0 0 8 rfl rfl) ⟨(Nat.le_of_ble_eq_true rfl), (Nat.le_of_ble_eq_true rfl)⟩) hP hD hS hA kFr_SBs (fun H locs hP hD hS br2 => ?_)
  obtain ⟨r3, g3, h⟩ := g_b h
  refine kq_i (wSB cI cJ cZ a ce fr un r2.2.1 r2.2.2.1 r2.2.2.2.1 r2.2.2.2.2 wb we wo wc fb fe fo fc rm r3.2 rf kn) (fun qP qD qF => va_runV (As := [.int r2.1]) (rest := []) ⟨hx, hb, hml, hown, hts⟩ (c_X1_done l dC dI cB cI cJ cZ a _ ce fr un r2.2.1 r2.2.2.1 r2.2.2.2.1 r2.2.2.2.2 wb we wo wc fb fe fo fc rm ac rf kn r2.1 r3 g3) (kcwV hts kw_147 kv_X1_done rfl rfl ⟨(Nat.le_of_ble_eq_true rfl), (Nat.le_of_ble_eq_true rfl)⟩) (kpV (A := A) qP hK qD hG (krecv_3 (q0 := 0) hK hP rfl)) rfl rfl hl.1 rfl (lv_room (Nat.le_of_ble_eq_true rfl)) (kdr dgX1_unbook_0 0 9 rfl rfl) ⟨(Nat.le_of_ble_eq_true rfl), (Nat.le_of_ble_eq_true rfl)⟩) hP hD hS hA kFr_SB (fun H locs hP hD hS br3 => ?_)
  have h := Option.some.inj h
  subst h
  exact kret_i (v := r3.1) hx hb hr rfl hlocks hS hP (kdr dgX1_unbook_0 1 0 rfl rfl)
noncomputable def fx_X1_unbook (sc : Int32) (p0 : Int32) : Option (Nat) :=
  xb (fx_X1_needNumberIn sc p0) (fun k1 => some k1) (
  none)
theorem fx_X1_unbook_e {sc : Int32} {p0 : Int32} : fx_X1_unbook sc p0 = 
  xb (fx_X1_needNumberIn sc p0) (fun k1 => some k1) (
  none) := rfl
set_option maxHeartbeats 4000000 in
set_option maxRecDepth 100000 in
theorem x_X1_unbook (l : Launch) (hl9 : l.stackTraces = false) (dC : Nat → ClassId) (dI : Nat → Nat → Nat) (cB cI cJ cZ : ClassId) (a : Nat → Nat) (sz : Nat) (ce : Nat → Int64) (fr : Int64) (un : Int64) (sb : Nat → Int64) (se : Nat → Int64) (so : Nat → Int32) (sc : Int32) (wb : Nat → Int64) (we : Nat → Int64) (wo : Nat → Int32) (wc : Int32) (fb : Nat → Int64) (fe : Nat → Int64) (fo : Nat → Int32) (fc : Int32) (rm : Nat → Int32) (ac : Int32) (rf : Int32) (kn : Int32) (p0 : Int32) (res : Nat) (hf : fx_X1_unbook sc p0 = some res) : kMX l yX1_unbook wsX1_unbook (kRm 7 1 6 111) dC dI cB cI cJ cZ [.ref (a 0), .int p0] sz (wSB cI cJ cZ a ce fr un sb se so sc wb we wo wc fb fe fo fc rm ac rf kn) (res) (wSB cI cJ cZ a ce fr un sb se so sc wb we wo wc fb fe fo fc rm ac rf kn) 1 6 := by
  refine kmet_x (y := yX1_unbook) (cc := cX1_unbook) (maxL := 2) (ret := (some .int)) RX1 (kvA 0 (a 0) (kvI 1 p0 kvE)) kpl_X1 rfl rfl (Nat.le_of_ble_eq_true rfl) rfl (fun p e s m below meth c A ls hx hb hr hml ht hts hown hlocks hP hK hG hZ hD hA hS hl => ?_)
  have hw0 := hts (.fieldLink RX1 25 "Spanbooker" "spanRow" "LSpanbooker$Row;") (List.mem_cons_of_mem _ kw_110)
  have hiX1 : ∀ w ∈ u_ws RX1 TX1 10, w ∈ wsX1_unbook := fun w h => List.mem_cons_of_mem _ (ku_X1 w h)
  have h := fx_X1_unbook_e.symm.trans hf
  refine lv_aload_n hx hb (kdr dgX1_unbook_0 0 0 rfl rfl) rfl (lv_at hl 0 rfl) ?_
  refine va_get (D := (dC, dI)) (ci := 3) (v := .ref (a 2)) (C := RX1) (T := TX1) (N := 10) hx hb hts hiX1 hown hK hP 0 rfl rfl 3 (by decide) hw0 (fun _ h9 => h9) rfl (kdr dgX1_unbook_0 0 1 rfl rfl) ?_
  refine lv_iload_n hx hb (kdr dgX1_unbook_0 0 2 rfl rfl) rfl (lv_at hl 1 rfl) ?_
  rcases g_x h with ⟨k1, j1, h⟩ | ⟨-, h⟩
  · have h := Option.some.inj h
    subst h
    exact kq_x (wSB cI cJ cZ a ce fr un sb se so sc wb we wo wc fb fe fo fc rm ac rf kn) (fun qP qD qF => vx_runS (As := [.ref (a 2), .int p0]) (rest := []) ⟨hx, hb, hml, hown, hts⟩ (x_X1_needNumberIn l hl9 dC dI cB cI cJ cZ (a 2) (a 3) (a 4) (a 5) _ sb se so sc p0 k1 j1) (kcwS hts kw_592 kv_X1_needNumberIn rfl rfl ⟨(Nat.le_of_ble_eq_true rfl), (Nat.le_of_ble_eq_true rfl)⟩) (kpSXq (A := A) qP hK qD hG hZ hS qF) rfl rfl hl.1 rfl (lv_room (Nat.le_of_ble_eq_true rfl)) (kdr dgX1_unbook_0 0 3 rfl rfl) ⟨(Nat.le_of_ble_eq_true rfl), (Nat.le_of_ble_eq_true rfl)⟩) hP hD hS hA kFr_SBs ht hlocks (Nat.le_of_ble_eq_true rfl) (Nat.le_of_ble_eq_true rfl)
  · cases h
noncomputable abbrev wsX1_empty : List Cond := kWs yX1_empty cX1_empty 1 (some .int)
noncomputable def f_X1_empty (sc : Int32) (ac : Int32) : Option ((Int32) × (Int32) × (Int32)) :=
  (f_X0_clear sc).bind fun r1 =>
  (f_X1_done ac r1.1).bind fun r2 =>
  some (r2.1, r1.2, r2.2)
theorem f_X1_empty_e {sc : Int32} {ac : Int32} : f_X1_empty sc ac = 
  (f_X0_clear sc).bind fun r1 =>
  (f_X1_done ac r1.1).bind fun r2 =>
  some (r2.1, r1.2, r2.2) := rfl
set_option maxHeartbeats 4000000 in
set_option maxRecDepth 100000 in
theorem c_X1_empty (l : Launch) (dC : Nat → ClassId) (dI : Nat → Nat → Nat) (cB cI cJ cZ : ClassId) (a : Nat → Nat) (sz : Nat) (ce : Nat → Int64) (fr : Int64) (un : Int64) (sb : Nat → Int64) (se : Nat → Int64) (so : Nat → Int32) (sc : Int32) (wb : Nat → Int64) (we : Nat → Int64) (wo : Nat → Int32) (wc : Int32) (fb : Nat → Int64) (fe : Nat → Int64) (fo : Nat → Int32) (fc : Int32) (rm : Nat → Int32) (ac : Int32) (rf : Int32) (kn : Int32) (res : (Int32) × (Int32) × (Int32)) (hf : f_X1_empty sc ac = some res) : kMi l yX1_empty wsX1_empty (kRm 1 0 0 21) dC dI cB cI cJ cZ [.ref (a 0)] sz (wSB cI cJ cZ a ce fr un sb se so sc wb we wo wc fb fe fo fc rm ac rf kn) .int (res.1) (wSB cI cJ cZ a ce fr un sb se so (res.2.1) wb we wo wc fb fe fo fc rm (res.2.2) rf kn) 0 0 := by
  refine kmet_i (y := yX1_empty) (cc := cX1_empty) (maxL := 1) (ret := (some .int)) RX1 (kvA 0 (a 0) kvE) kpl_X1 rfl rfl (Nat.le_of_ble_eq_true rfl) rfl (fun p e s m below meth c A ls hx hb hr hml hts hown hlocks hP hK hG hD hA hS hl => ?_)
  have hw0 := hts (.fieldLink RX1 25 "Spanbooker" "spanRow" "LSpanbooker$Row;") (List.mem_cons_of_mem _ kw_110)
  have hiX1 : ∀ w ∈ u_ws RX1 TX1 10, w ∈ wsX1_empty := fun w h => List.mem_cons_of_mem _ (ku_X1 w h)
  have h := f_X1_empty_e.symm.trans hf
  refine lv_aload_n hx hb (kdr dgX1_empty_0 0 0 rfl rfl) rfl (lv_at hl 0 rfl) ?_
  refine lv_aload_n hx hb (kdr dgX1_empty_0 0 1 rfl rfl) rfl (lv_at hl 0 rfl) ?_
  refine va_get (D := (dC, dI)) (ci := 3) (v := .ref (a 2)) (C := RX1) (T := TX1) (N := 10) hx hb hts hiX1 hown hK hP 0 rfl rfl 3 (by decide) hw0 (fun _ h9 => h9) rfl (kdr dgX1_empty_0 0 2 rfl rfl) ?_
  obtain ⟨r1, g1, h⟩ := g_b h
  refine kq_i (wSB cI cJ cZ a ce fr un sb se so r1.2 wb we wo wc fb fe fo fc rm ac rf kn) (fun qP qD qF => va_runV (As := []) (rest := [.ref (a 0)]) ⟨hx, hb, hml, hown, hts⟩ (c_X0_clear l dC dI cB cI cJ cZ (a 2) (a 3) (a 4) (a 5) _ sb se so sc  r1 g1) (kcwV hts kw_143 kv_X0_clear rfl rfl ⟨(Nat.le_of_ble_eq_true rfl), (Nat.le_of_ble_eq_true rfl)⟩) (kpV (A := A) qP hK qD hG (krecv_2 (q0 := 2) hK hP rfl)) rfl rfl hl.1 rfl (lv_room (Nat.le_of_ble_eq_true rfl)) (kdr dgX1_empty_0 0 3 rfl rfl) ⟨(Nat.le_of_ble_eq_true rfl), (Nat.le_of_ble_eq_true rfl)⟩) hP hD hS hA kFr_SBs (fun H locs hP hD hS br1 => ?_)
  obtain ⟨r2, g2, h⟩ := g_b h
  refine kq_i (wSB cI cJ cZ a ce fr un sb se so r1.2 wb we wo wc fb fe fo fc rm r2.2 rf kn) (fun qP qD qF => va_runV (As := [.int r1.1]) (rest := []) ⟨hx, hb, hml, hown, hts⟩ (c_X1_done l dC dI cB cI cJ cZ a _ ce fr un sb se so r1.2 wb we wo wc fb fe fo fc rm ac rf kn r1.1 r2 g2) (kcwV hts kw_147 kv_X1_done rfl rfl ⟨(Nat.le_of_ble_eq_true rfl), (Nat.le_of_ble_eq_true rfl)⟩) (kpV (A := A) qP hK qD hG (krecv_3 (q0 := 0) hK hP rfl)) rfl rfl hl.1 rfl (lv_room (Nat.le_of_ble_eq_true rfl)) (kdr dgX1_empty_0 0 4 rfl rfl) ⟨(Nat.le_of_ble_eq_true rfl), (Nat.le_of_ble_eq_true rfl)⟩) hP hD hS hA kFr_SB (fun H locs hP hD hS br2 => ?_)
  have h := Option.some.inj h
  subst h
  exact kret_i (v := r2.1) hx hb hr rfl hlocks hS hP (kdr dgX1_empty_0 0 5 rfl rfl)
noncomputable abbrev wsX1_move : List Cond := kWs yX1_move cX1_move 6 (some .int)
noncomputable def f_X1_move (fr : Int64) (un : Int64) (sb : Nat → Int64) (se : Nat → Int64) (sc : Int32) (ac : Int32) (rf : Int32) (p0 : Int32) (p1 : Int32) (p2 : Int32) : Option ((Int32) × (Nat → Int64) × (Nat → Int64) × (Int32) × (Int32)) :=
  (f_X1_needNumberIn sc p0).bind fun r1 =>
  (f_X1_needUnits p1 p2 (-2000000000)).bind fun r2 =>
  (f_X1_lengthOf p1 p2).bind fun r3 =>
  (f_X0_begin sb sc p0).bind fun r4 =>
  (f_X0_end se sc p0).bind fun r5 =>
  (f_X1_changeSpan fr un sb se sc p0 (r4 + r3) (r5 + r3)).bind fun r6 =>
  if r6.1 = 0 then
    (f_X1_refuse rf).bind fun r8 =>
    some (r8.1, r6.2.1, r6.2.2, ac, r8.2)
  else
    (f_X0_begin r6.2.1 sc p0).bind fun r8 =>
    (f_X0_beginsBefore r6.2.1 sc r8).bind fun r9 =>
    (f_X1_done ac r9).bind fun r10 =>
    some (r10.1, r6.2.1, r6.2.2, r10.2, rf)
theorem f_X1_move_e {fr : Int64} {un : Int64} {sb : Nat → Int64} {se : Nat → Int64} {sc : Int32} {ac : Int32} {rf : Int32} {p0 : Int32} {p1 : Int32} {p2 : Int32} : f_X1_move fr un sb se sc ac rf p0 p1 p2 = 
  (f_X1_needNumberIn sc p0).bind fun r1 =>
  (f_X1_needUnits p1 p2 (-2000000000)).bind fun r2 =>
  (f_X1_lengthOf p1 p2).bind fun r3 =>
  (f_X0_begin sb sc p0).bind fun r4 =>
  (f_X0_end se sc p0).bind fun r5 =>
  (f_X1_changeSpan fr un sb se sc p0 (r4 + r3) (r5 + r3)).bind fun r6 =>
  if r6.1 = 0 then
    (f_X1_refuse rf).bind fun r8 =>
    some (r8.1, r6.2.1, r6.2.2, ac, r8.2)
  else
    (f_X0_begin r6.2.1 sc p0).bind fun r8 =>
    (f_X0_beginsBefore r6.2.1 sc r8).bind fun r9 =>
    (f_X1_done ac r9).bind fun r10 =>
    some (r10.1, r6.2.1, r6.2.2, r10.2, rf) := rfl
set_option maxHeartbeats 4000000 in
set_option maxRecDepth 100000 in
theorem c_X1_move (l : Launch) (dC : Nat → ClassId) (dI : Nat → Nat → Nat) (cB cI cJ cZ : ClassId) (a : Nat → Nat) (sz : Nat) (ce : Nat → Int64) (fr : Int64) (un : Int64) (sb : Nat → Int64) (se : Nat → Int64) (so : Nat → Int32) (sc : Int32) (wb : Nat → Int64) (we : Nat → Int64) (wo : Nat → Int32) (wc : Int32) (fb : Nat → Int64) (fe : Nat → Int64) (fo : Nat → Int32) (fc : Int32) (rm : Nat → Int32) (ac : Int32) (rf : Int32) (kn : Int32) (p0 : Int32) (p1 : Int32) (p2 : Int32) (res : (Int32) × (Nat → Int64) × (Nat → Int64) × (Int32) × (Int32)) (hf : f_X1_move fr un sb se sc ac rf p0 p1 p2 = some res) : kMi l yX1_move wsX1_move (kRm 3 0 0 71) dC dI cB cI cJ cZ [.ref (a 0), .int p0, .int p1, .int p2] sz (wSB cI cJ cZ a ce fr un sb se so sc wb we wo wc fb fe fo fc rm ac rf kn) .int (res.1) (wSB cI cJ cZ a ce fr un (res.2.1) (res.2.2.1) so sc wb we wo wc fb fe fo fc rm (res.2.2.2.1) (res.2.2.2.2) kn) 0 0 := by
  refine kmet_i (y := yX1_move) (cc := cX1_move) (maxL := 6) (ret := (some .int)) RX1 (kvA 0 (a 0) (kvI 1 p0 (kvI 2 p1 (kvI 3 p2 kvE)))) kpl_X1 rfl rfl (Nat.le_of_ble_eq_true rfl) rfl (fun p e s m below meth c A ls hx hb hr hml hts hown hlocks hP hK hG hD hA hS hl => ?_)
  have hw0 := hts (.fieldLink RX1 25 "Spanbooker" "spanRow" "LSpanbooker$Row;") (List.mem_cons_of_mem _ kw_110)
  have hw1 := hts (.constant RX1 49 (-2000000000)) (List.mem_cons_of_mem _ kw_494)
  have hiX1 : ∀ w ∈ u_ws RX1 TX1 10, w ∈ wsX1_move := fun w h => List.mem_cons_of_mem _ (ku_X1 w h)
  have h := f_X1_move_e.symm.trans hf
  refine lv_aload_n hx hb (kdr dgX1_move_0 0 0 rfl rfl) rfl (lv_at hl 0 rfl) ?_
  refine va_get (D := (dC, dI)) (ci := 3) (v := .ref (a 2)) (C := RX1) (T := TX1) (N := 10) hx hb hts hiX1 hown hK hP 0 rfl rfl 3 (by decide) hw0 (fun _ h9 => h9) rfl (kdr dgX1_move_0 0 1 rfl rfl) ?_
  refine lv_iload_n hx hb (kdr dgX1_move_0 0 2 rfl rfl) rfl (lv_at hl 1 rfl) ?_
  obtain ⟨r1, g1, h⟩ := g_b h
  refine kq_v (wSB cI cJ cZ a ce fr un sb se so sc wb we wo wc fb fe fo fc rm ac rf kn) (fun qP qD qF => va_runS (As := [.ref (a 2), .int p0]) (rest := []) ⟨hx, hb, hml, hown, hts⟩ (c_X1_needNumberIn l dC dI cB cI cJ cZ (a 2) (a 3) (a 4) (a 5) _ sb se so sc p0 r1 g1) (kcwS hts kw_592 kv_X1_needNumberIn rfl rfl ⟨(Nat.le_of_ble_eq_true rfl), (Nat.le_of_ble_eq_true rfl)⟩) (kpS (A := A) qP hK qD hG) rfl rfl hl.1 rfl (lv_room (Nat.le_of_ble_eq_true rfl)) (kdr dgX1_move_0 0 3 rfl rfl) ⟨(Nat.le_of_ble_eq_true rfl), (Nat.le_of_ble_eq_true rfl)⟩) hP hD hS hA kFr_SBs (fun H locs hP hD hS => ?_)
  refine lv_iload_n hx hb (kdr dgX1_move_0 0 4 rfl rfl) rfl (lv_at hl 2 rfl) ?_
  refine lv_iload_n hx hb (kdr dgX1_move_0 0 5 rfl rfl) rfl (lv_at hl 3 rfl) ?_
  refine lv_ldc (v := (-2000000000)) hx hb hown hw1 (kdr dgX1_move_0 0 6 rfl rfl) ?_
  obtain ⟨r2, g2, h⟩ := g_b h
  refine kq_v (wSB cI cJ cZ a ce fr un sb se so sc wb we wo wc fb fe fo fc rm ac rf kn) (fun qP qD qF => va_runS (As := [.int p1, .int p2, .int (-2000000000)]) (rest := []) ⟨hx, hb, hml, hown, hts⟩ (c_X1_needUnits l dC dI cB cI cJ cZ  _  p1 p2 (-2000000000) r2 g2) (kcwS hts kw_512 kv_X1_needUnits rfl rfl ⟨(Nat.le_of_ble_eq_true rfl), (Nat.le_of_ble_eq_true rfl)⟩) (kpS (A := A) (kPnil) hK ((kDnil (A := A))) hG) rfl rfl hl.1 rfl (lv_room (Nat.le_of_ble_eq_true rfl)) (kdr dgX1_move_0 0 7 rfl rfl) ⟨(Nat.le_of_ble_eq_true rfl), (Nat.le_of_ble_eq_true rfl)⟩) hP hD hS hA kFr_n (fun H locs hP hD hS => ?_)
  refine lv_iload_n hx hb (kdr dgX1_move_0 0 8 rfl rfl) rfl (lv_at hl 2 rfl) ?_
  refine lv_iload_n hx hb (kdr dgX1_move_0 0 9 rfl rfl) rfl (lv_at hl 3 rfl) ?_
  obtain ⟨r3, g3, h⟩ := g_b h
  refine kq_l (wSB cI cJ cZ a ce fr un sb se so sc wb we wo wc fb fe fo fc rm ac rf kn) (fun qP qD qF => va_runS (As := [.int p1, .int p2]) (rest := []) ⟨hx, hb, hml, hown, hts⟩ (c_X1_lengthOf l dC dI cB cI cJ cZ  _  p1 p2 r3 g3) (kcwS hts kw_515 kv_X1_lengthOf rfl rfl ⟨(Nat.le_of_ble_eq_true rfl), (Nat.le_of_ble_eq_true rfl)⟩) (kpS (A := A) (kPnil) hK ((kDnil (A := A))) hG) rfl rfl hl.1 rfl (lv_room (Nat.le_of_ble_eq_true rfl)) (kdr dgX1_move_0 1 0 rfl rfl) ⟨(Nat.le_of_ble_eq_true rfl), (Nat.le_of_ble_eq_true rfl)⟩) hP hD hS hA kFr_n (fun H locs hP hD hS => ?_)
  refine lv_lstore (lv' := (kvJ 4 r3 (kvA 0 (a 0) (kvI 1 p0 (kvI 2 p1 (kvI 3 p2 kvE)))))) hx hb (kdr dgX1_move_0 1 1 rfl rfl) hl (by decide) rfl (fun ls hl => ?_)
  refine lv_aload_n hx hb (kdr dgX1_move_0 1 2 rfl rfl) rfl (lv_at hl 1 rfl) ?_
  refine lv_iload_n hx hb (kdr dgX1_move_0 1 3 rfl rfl) rfl (lv_at hl 2 rfl) ?_
  refine lv_aload_n hx hb (kdr dgX1_move_0 1 4 rfl rfl) rfl (lv_at hl 1 rfl) ?_
  refine va_get (D := (dC, dI)) (ci := 3) (v := .ref (a 2)) (C := RX1) (T := TX1) (N := 10) hx hb hts hiX1 hown hK hP 0 rfl rfl 3 (by decide) hw0 (fun _ h9 => h9) rfl (kdr dgX1_move_0 1 5 rfl rfl) ?_
  refine lv_iload_n hx hb (kdr dgX1_move_0 1 6 rfl rfl) rfl (lv_at hl 2 rfl) ?_
  obtain ⟨r4, g4, h⟩ := g_b h
  refine kq_l (wSB cI cJ cZ a ce fr un sb se so sc wb we wo wc fb fe fo fc rm ac rf kn) (fun qP qD qF => va_runV (As := [.int p0]) (rest := [.int p0, .ref (a 0)]) ⟨hx, hb, hml, hown, hts⟩ (c_X0_begin l dC dI cB cI cJ cZ (a 2) (a 3) (a 4) (a 5) _ sb se so sc p0 r4 g4) (kcwV hts kw_251 kv_X0_begin rfl rfl ⟨(Nat.le_of_ble_eq_true rfl), (Nat.le_of_ble_eq_true rfl)⟩) (kpV (A := A) qP hK qD hG (krecv_2 (q0 := 2) hK hP rfl)) rfl rfl hl.1 rfl (lv_room (Nat.le_of_ble_eq_true rfl)) (kdr dgX1_move_0 1 7 rfl rfl) ⟨(Nat.le_of_ble_eq_true rfl), (Nat.le_of_ble_eq_true rfl)⟩) hP hD hS hA kFr_SBs (fun H locs hP hD hS => ?_)
  refine lv_lload hx hb (kdr dgX1_move_0 1 8 rfl rfl) (lv_at hl 0 rfl) ?_
  refine lv_ladd hx hb (kdr dgX1_move_0 1 9 rfl rfl) ?_
  refine lv_aload_n hx hb (kdr dgX1_move_0 2 0 rfl rfl) rfl (lv_at hl 1 rfl) ?_
  refine va_get (D := (dC, dI)) (ci := 3) (v := .ref (a 2)) (C := RX1) (T := TX1) (N := 10) hx hb hts hiX1 hown hK hP 0 rfl rfl 3 (by decide) hw0 (fun _ h9 => h9) rfl (kdr dgX1_move_0 2 1 rfl rfl) ?_
  refine lv_iload_n hx hb (kdr dgX1_move_0 2 2 rfl rfl) rfl (lv_at hl 2 rfl) ?_
  obtain ⟨r5, g5, h⟩ := g_b h
  refine kq_l (wSB cI cJ cZ a ce fr un sb se so sc wb we wo wc fb fe fo fc rm ac rf kn) (fun qP qD qF => va_runV (As := [.int p0]) (rest := [.long (r4 + r3), .int p0, .ref (a 0)]) ⟨hx, hb, hml, hown, hts⟩ (c_X0_end l dC dI cB cI cJ cZ (a 2) (a 3) (a 4) (a 5) _ sb se so sc p0 r5 g5) (kcwV hts kw_194 kv_X0_end rfl rfl ⟨(Nat.le_of_ble_eq_true rfl), (Nat.le_of_ble_eq_true rfl)⟩) (kpV (A := A) qP hK qD hG (krecv_2 (q0 := 2) hK hP rfl)) rfl rfl hl.1 rfl (lv_room (Nat.le_of_ble_eq_true rfl)) (kdr dgX1_move_0 2 3 rfl rfl) ⟨(Nat.le_of_ble_eq_true rfl), (Nat.le_of_ble_eq_true rfl)⟩) hP hD hS hA kFr_SBs (fun H locs hP hD hS => ?_)
  refine lv_lload hx hb (kdr dgX1_move_0 2 4 rfl rfl) (lv_at hl 0 rfl) ?_
  refine lv_ladd hx hb (kdr dgX1_move_0 2 5 rfl rfl) ?_
  obtain ⟨r6, g6, h⟩ := g_b h
  refine kq_i (wSB cI cJ cZ a ce fr un r6.2.1 r6.2.2 so sc wb we wo wc fb fe fo fc rm ac rf kn) (fun qP qD qF => va_runV (As := [.int p0, .long (r4 + r3), .long (r5 + r3)]) (rest := []) ⟨hx, hb, hml, hown, hts⟩ (c_X1_changeSpan l dC dI cB cI cJ cZ a _ ce fr un sb se so sc wb we wo wc fb fe fo fc rm ac rf kn p0 (r4 + r3) (r5 + r3) r6 g6) (kcwV hts kw_607 kv_X1_changeSpan rfl rfl ⟨(Nat.le_of_ble_eq_true rfl), (Nat.le_of_ble_eq_true rfl)⟩) (kpV (A := A) qP hK qD hG (krecv_3 (q0 := 0) hK hP rfl)) rfl rfl hl.1 rfl (lv_room (Nat.le_of_ble_eq_true rfl)) (kdr dgX1_move_0 2 6 rfl rfl) ⟨(Nat.le_of_ble_eq_true rfl), (Nat.le_of_ble_eq_true rfl)⟩) hP hD hS hA kFr_SB (fun H locs hP hD hS br6 => ?_)
  refine lv_if_ne (tgt := 57) hx hb (kdr dgX1_move_0 2 7 rfl rfl) (by decide) (fun c7 => ?_) (fun c7 => ?_)
  · have h := g_f c7 h
    refine lv_aload_n hx hb (kdr dgX1_move_0 3 1 rfl rfl) rfl (lv_at hl 1 rfl) ?_
    refine lv_aload_n hx hb (kdr dgX1_move_0 3 2 rfl rfl) rfl (lv_at hl 1 rfl) ?_
    refine va_get (D := (dC, dI)) (ci := 3) (v := .ref (a 2)) (C := RX1) (T := TX1) (N := 10) hx hb hts hiX1 hown hK hP 0 rfl rfl 3 (by decide) hw0 (fun _ h9 => h9) rfl (kdr dgX1_move_0 3 3 rfl rfl) ?_
    refine lv_aload_n hx hb (kdr dgX1_move_0 3 4 rfl rfl) rfl (lv_at hl 1 rfl) ?_
    refine va_get (D := (dC, dI)) (ci := 3) (v := .ref (a 2)) (C := RX1) (T := TX1) (N := 10) hx hb hts hiX1 hown hK hP 0 rfl rfl 3 (by decide) hw0 (fun _ h9 => h9) rfl (kdr dgX1_move_0 3 5 rfl rfl) ?_
    refine lv_iload_n hx hb (kdr dgX1_move_0 3 6 rfl rfl) rfl (lv_at hl 2 rfl) ?_
    obtain ⟨r8, g8, h⟩ := g_b h
    refine kq_l (wSB cI cJ cZ a ce fr un r6.2.1 r6.2.2 so sc wb we wo wc fb fe fo fc rm ac rf kn) (fun qP qD qF => va_runV (As := [.int p0]) (rest := [.ref (a 2), .ref (a 0)]) ⟨hx, hb, hml, hown, hts⟩ (c_X0_begin l dC dI cB cI cJ cZ (a 2) (a 3) (a 4) (a 5) _ r6.2.1 r6.2.2 so sc p0 r8 g8) (kcwV hts kw_251 kv_X0_begin rfl rfl ⟨(Nat.le_of_ble_eq_true rfl), (Nat.le_of_ble_eq_true rfl)⟩) (kpV (A := A) qP hK qD hG (krecv_2 (q0 := 2) hK hP rfl)) rfl rfl hl.1 rfl (lv_room (Nat.le_of_ble_eq_true rfl)) (kdr dgX1_move_0 3 7 rfl rfl) ⟨(Nat.le_of_ble_eq_true rfl), (Nat.le_of_ble_eq_true rfl)⟩) hP hD hS hA kFr_SBs (fun H locs hP hD hS => ?_)
    obtain ⟨r9, g9, h⟩ := g_b h
    refine kq_i (wSB cI cJ cZ a ce fr un r6.2.1 r6.2.2 so sc wb we wo wc fb fe fo fc rm ac rf kn) (fun qP qD qF => va_runV (As := [.long r8]) (rest := [.ref (a 0)]) ⟨hx, hb, hml, hown, hts⟩ (c_X0_beginsBefore l dC dI cB cI cJ cZ (a 2) (a 3) (a 4) (a 5) _ r6.2.1 r6.2.2 so sc r8 r9 g9) (kcwV hts kw_615 kv_X0_beginsBefore rfl rfl ⟨(Nat.le_of_ble_eq_true rfl), (Nat.le_of_ble_eq_true rfl)⟩) (kpV (A := A) qP hK qD hG (krecv_2 (q0 := 2) hK hP rfl)) rfl rfl hl.1 rfl (lv_room (Nat.le_of_ble_eq_true rfl)) (kdr dgX1_move_0 3 8 rfl rfl) ⟨(Nat.le_of_ble_eq_true rfl), (Nat.le_of_ble_eq_true rfl)⟩) hP hD hS hA kFr_SBs (fun H locs hP hD hS br9 => ?_)
    obtain ⟨r10, g10, h⟩ := g_b h
    refine kq_i (wSB cI cJ cZ a ce fr un r6.2.1 r6.2.2 so sc wb we wo wc fb fe fo fc rm r10.2 rf kn) (fun qP qD qF => va_runV (As := [.int r9]) (rest := []) ⟨hx, hb, hml, hown, hts⟩ (c_X1_done l dC dI cB cI cJ cZ a _ ce fr un r6.2.1 r6.2.2 so sc wb we wo wc fb fe fo fc rm ac rf kn r9 r10 g10) (kcwV hts kw_147 kv_X1_done rfl rfl ⟨(Nat.le_of_ble_eq_true rfl), (Nat.le_of_ble_eq_true rfl)⟩) (kpV (A := A) qP hK qD hG (krecv_3 (q0 := 0) hK hP rfl)) rfl rfl hl.1 rfl (lv_room (Nat.le_of_ble_eq_true rfl)) (kdr dgX1_move_0 3 9 rfl rfl) ⟨(Nat.le_of_ble_eq_true rfl), (Nat.le_of_ble_eq_true rfl)⟩) hP hD hS hA kFr_SB (fun H locs hP hD hS br10 => ?_)
    have h := Option.some.inj h
    subst h
    exact kret_i (v := r10.1) hx hb hr rfl hlocks hS hP (kdr dgX1_move_0 4 0 rfl rfl)
  · have h := g_t c7 h
    refine lv_aload_n hx hb (kdr dgX1_move_0 2 8 rfl rfl) rfl (lv_at hl 1 rfl) ?_
    obtain ⟨r8, g8, h⟩ := g_b h
    refine kq_i (wSB cI cJ cZ a ce fr un r6.2.1 r6.2.2 so sc wb we wo wc fb fe fo fc rm ac r8.2 kn) (fun qP qD qF => va_runV (As := []) (rest := []) ⟨hx, hb, hml, hown, hts⟩ (c_X1_refuse l dC dI cB cI cJ cZ a _ ce fr un r6.2.1 r6.2.2 so sc wb we wo wc fb fe fo fc rm ac rf kn  r8 g8) (kcwV hts kw_501 kv_X1_refuse rfl rfl ⟨(Nat.le_of_ble_eq_true rfl), (Nat.le_of_ble_eq_true rfl)⟩) (kpV (A := A) qP hK qD hG (krecv_3 (q0 := 0) hK hP rfl)) rfl rfl hl.1 rfl (lv_room (Nat.le_of_ble_eq_true rfl)) (kdr dgX1_move_0 2 9 rfl rfl) ⟨(Nat.le_of_ble_eq_true rfl), (Nat.le_of_ble_eq_true rfl)⟩) hP hD hS hA kFr_SB (fun H locs hP hD hS br8 => ?_)
    have h := Option.some.inj h
    subst h
    exact kret_i (v := r8.1) hx hb hr rfl hlocks hS hP (kdr dgX1_move_0 3 0 rfl rfl)
noncomputable def fx_X1_move (sc : Int32) (p0 : Int32) (p1 : Int32) (p2 : Int32) : Option (Nat) :=
  xb (fx_X1_needNumberIn sc p0) (fun k1 => some k1) (
  (f_X1_needNumberIn sc p0).bind fun r1 =>
  xb (fx_X1_needUnits p1 p2 (-2000000000)) (fun k2 => some k2) (
  none))
theorem fx_X1_move_e {sc : Int32} {p0 : Int32} {p1 : Int32} {p2 : Int32} : fx_X1_move sc p0 p1 p2 = 
  xb (fx_X1_needNumberIn sc p0) (fun k1 => some k1) (
  (f_X1_needNumberIn sc p0).bind fun r1 =>
  xb (fx_X1_needUnits p1 p2 (-2000000000)) (fun k2 => some k2) (
  none)) := rfl
set_option maxHeartbeats 4000000 in
set_option maxRecDepth 100000 in
theorem x_X1_move (l : Launch) (hl9 : l.stackTraces = false) (dC : Nat → ClassId) (dI : Nat → Nat → Nat) (cB cI cJ cZ : ClassId) (a : Nat → Nat) (sz : Nat) (ce : Nat → Int64) (fr : Int64) (un : Int64) (sb : Nat → Int64) (se : Nat → Int64) (so : Nat → Int32) (sc : Int32) (wb : Nat → Int64) (we : Nat → Int64) (wo : Nat → Int32) (wc : Int32) (fb : Nat → Int64) (fe : Nat → Int64) (fo : Nat → Int32) (fc : Int32) (rm : Nat → Int32) (ac : Int32) (rf : Int32) (kn : Int32) (p0 : Int32) (p1 : Int32) (p2 : Int32) (res : Nat) (hf : fx_X1_move sc p0 p1 p2 = some res) : kMX l yX1_move wsX1_move (kRm 8 1 6 132) dC dI cB cI cJ cZ [.ref (a 0), .int p0, .int p1, .int p2] sz (wSB cI cJ cZ a ce fr un sb se so sc wb we wo wc fb fe fo fc rm ac rf kn) (res) (wSB cI cJ cZ a ce fr un sb se so sc wb we wo wc fb fe fo fc rm ac rf kn) 1 6 := by
  refine kmet_x (y := yX1_move) (cc := cX1_move) (maxL := 6) (ret := (some .int)) RX1 (kvA 0 (a 0) (kvI 1 p0 (kvI 2 p1 (kvI 3 p2 kvE)))) kpl_X1 rfl rfl (Nat.le_of_ble_eq_true rfl) rfl (fun p e s m below meth c A ls hx hb hr hml ht hts hown hlocks hP hK hG hZ hD hA hS hl => ?_)
  have hw0 := hts (.fieldLink RX1 25 "Spanbooker" "spanRow" "LSpanbooker$Row;") (List.mem_cons_of_mem _ kw_110)
  have hw1 := hts (.constant RX1 49 (-2000000000)) (List.mem_cons_of_mem _ kw_494)
  have hiX1 : ∀ w ∈ u_ws RX1 TX1 10, w ∈ wsX1_move := fun w h => List.mem_cons_of_mem _ (ku_X1 w h)
  have h := fx_X1_move_e.symm.trans hf
  refine lv_aload_n hx hb (kdr dgX1_move_0 0 0 rfl rfl) rfl (lv_at hl 0 rfl) ?_
  refine va_get (D := (dC, dI)) (ci := 3) (v := .ref (a 2)) (C := RX1) (T := TX1) (N := 10) hx hb hts hiX1 hown hK hP 0 rfl rfl 3 (by decide) hw0 (fun _ h9 => h9) rfl (kdr dgX1_move_0 0 1 rfl rfl) ?_
  refine lv_iload_n hx hb (kdr dgX1_move_0 0 2 rfl rfl) rfl (lv_at hl 1 rfl) ?_
  rcases g_x h with ⟨k1, j1, h⟩ | ⟨-, h⟩
  · have h := Option.some.inj h
    subst h
    exact kq_x (wSB cI cJ cZ a ce fr un sb se so sc wb we wo wc fb fe fo fc rm ac rf kn) (fun qP qD qF => vx_runS (As := [.ref (a 2), .int p0]) (rest := []) ⟨hx, hb, hml, hown, hts⟩ (x_X1_needNumberIn l hl9 dC dI cB cI cJ cZ (a 2) (a 3) (a 4) (a 5) _ sb se so sc p0 k1 j1) (kcwS hts kw_592 kv_X1_needNumberIn rfl rfl ⟨(Nat.le_of_ble_eq_true rfl), (Nat.le_of_ble_eq_true rfl)⟩) (kpSXq (A := A) qP hK qD hG hZ hS qF) rfl rfl hl.1 rfl (lv_room (Nat.le_of_ble_eq_true rfl)) (kdr dgX1_move_0 0 3 rfl rfl) ⟨(Nat.le_of_ble_eq_true rfl), (Nat.le_of_ble_eq_true rfl)⟩) hP hD hS hA kFr_SBs ht hlocks (Nat.le_of_ble_eq_true rfl) (Nat.le_of_ble_eq_true rfl)
  · obtain ⟨r1, g1, h⟩ := g_b h
    refine kq_v (wSB cI cJ cZ a ce fr un sb se so sc wb we wo wc fb fe fo fc rm ac rf kn) (fun qP qD qF => va_runS (As := [.ref (a 2), .int p0]) (rest := []) ⟨hx, hb, hml, hown, hts⟩ (c_X1_needNumberIn l dC dI cB cI cJ cZ (a 2) (a 3) (a 4) (a 5) _ sb se so sc p0 r1 g1) (kcwS hts kw_592 kv_X1_needNumberIn rfl rfl ⟨(Nat.le_of_ble_eq_true rfl), (Nat.le_of_ble_eq_true rfl)⟩) (kpS (A := A) qP hK qD hG) rfl rfl hl.1 rfl (lv_room (Nat.le_of_ble_eq_true rfl)) (kdr dgX1_move_0 0 3 rfl rfl) ⟨(Nat.le_of_ble_eq_true rfl), (Nat.le_of_ble_eq_true rfl)⟩) hP hD hS hA kFr_SBs (fun H locs hP hD hS => ?_)
    refine lv_iload_n hx hb (kdr dgX1_move_0 0 4 rfl rfl) rfl (lv_at hl 2 rfl) ?_
    refine lv_iload_n hx hb (kdr dgX1_move_0 0 5 rfl rfl) rfl (lv_at hl 3 rfl) ?_
    refine lv_ldc (v := (-2000000000)) hx hb hown hw1 (kdr dgX1_move_0 0 6 rfl rfl) ?_
    rcases g_x h with ⟨k2, j2, h⟩ | ⟨-, h⟩
    · have h := Option.some.inj h
      subst h
      exact kq_x (wSB cI cJ cZ a ce fr un sb se so sc wb we wo wc fb fe fo fc rm ac rf kn) (fun qP qD qF => vx_runS (As := [.int p1, .int p2, .int (-2000000000)]) (rest := []) ⟨hx, hb, hml, hown, hts⟩ (x_X1_needUnits l hl9 dC dI cB cI cJ cZ  _  p1 p2 (-2000000000) k2 j2) (kcwS hts kw_512 kv_X1_needUnits rfl rfl ⟨(Nat.le_of_ble_eq_true rfl), (Nat.le_of_ble_eq_true rfl)⟩) (kpSXq (A := A) (kPnil) hK ((kDnil (A := A))) hG hZ hS qF) rfl rfl hl.1 rfl (lv_room (Nat.le_of_ble_eq_true rfl)) (kdr dgX1_move_0 0 7 rfl rfl) ⟨(Nat.le_of_ble_eq_true rfl), (Nat.le_of_ble_eq_true rfl)⟩) hP hD hS hA kFr_n ht hlocks (Nat.le_of_ble_eq_true rfl) (Nat.le_of_ble_eq_true rfl)
    · cases h
noncomputable abbrev wsX1_stretch : List Cond := kWs yX1_stretch cX1_stretch 4 (some .int)
noncomputable def f_X1_stretch (fr : Int64) (un : Int64) (sb : Nat → Int64) (se : Nat → Int64) (sc : Int32) (ac : Int32) (rf : Int32) (p0 : Int32) (p1 : Int32) (p2 : Int32) : Option ((Int32) × (Nat → Int64) × (Nat → Int64) × (Int32) × (Int32)) :=
  (f_X1_needNumberIn sc p0).bind fun r1 =>
  (f_X1_needUnits p1 p2 (-2000000000)).bind fun r2 =>
  (f_X0_begin sb sc p0).bind fun r3 =>
  (f_X0_end se sc p0).bind fun r4 =>
  (f_X1_lengthOf p1 p2).bind fun r5 =>
  (f_X1_changeSpan fr un sb se sc p0 r3 (r4 + r5)).bind fun r6 =>
  if r6.1 = 0 then
    (f_X1_refuse rf).bind fun r8 =>
    some (r8.1, r6.2.1, r6.2.2, ac, r8.2)
  else
    (f_X0_end r6.2.2 sc p0).bind fun r8 =>
    (f_X0_endsBefore r6.2.2 sc r8).bind fun r9 =>
    (f_X1_done ac r9).bind fun r10 =>
    some (r10.1, r6.2.1, r6.2.2, r10.2, rf)
theorem f_X1_stretch_e {fr : Int64} {un : Int64} {sb : Nat → Int64} {se : Nat → Int64} {sc : Int32} {ac : Int32} {rf : Int32} {p0 : Int32} {p1 : Int32} {p2 : Int32} : f_X1_stretch fr un sb se sc ac rf p0 p1 p2 = 
  (f_X1_needNumberIn sc p0).bind fun r1 =>
  (f_X1_needUnits p1 p2 (-2000000000)).bind fun r2 =>
  (f_X0_begin sb sc p0).bind fun r3 =>
  (f_X0_end se sc p0).bind fun r4 =>
  (f_X1_lengthOf p1 p2).bind fun r5 =>
  (f_X1_changeSpan fr un sb se sc p0 r3 (r4 + r5)).bind fun r6 =>
  if r6.1 = 0 then
    (f_X1_refuse rf).bind fun r8 =>
    some (r8.1, r6.2.1, r6.2.2, ac, r8.2)
  else
    (f_X0_end r6.2.2 sc p0).bind fun r8 =>
    (f_X0_endsBefore r6.2.2 sc r8).bind fun r9 =>
    (f_X1_done ac r9).bind fun r10 =>
    some (r10.1, r6.2.1, r6.2.2, r10.2, rf) := rfl
set_option maxHeartbeats 4000000 in
set_option maxRecDepth 100000 in
theorem c_X1_stretch (l : Launch) (dC : Nat → ClassId) (dI : Nat → Nat → Nat) (cB cI cJ cZ : ClassId) (a : Nat → Nat) (sz : Nat) (ce : Nat → Int64) (fr : Int64) (un : Int64) (sb : Nat → Int64) (se : Nat → Int64) (so : Nat → Int32) (sc : Int32) (wb : Nat → Int64) (we : Nat → Int64) (wo : Nat → Int32) (wc : Int32) (fb : Nat → Int64) (fe : Nat → Int64) (fo : Nat → Int32) (fc : Int32) (rm : Nat → Int32) (ac : Int32) (rf : Int32) (kn : Int32) (p0 : Int32) (p1 : Int32) (p2 : Int32) (res : (Int32) × (Nat → Int64) × (Nat → Int64) × (Int32) × (Int32)) (hf : f_X1_stretch fr un sb se sc ac rf p0 p1 p2 = some res) : kMi l yX1_stretch wsX1_stretch (kRm 3 0 0 71) dC dI cB cI cJ cZ [.ref (a 0), .int p0, .int p1, .int p2] sz (wSB cI cJ cZ a ce fr un sb se so sc wb we wo wc fb fe fo fc rm ac rf kn) .int (res.1) (wSB cI cJ cZ a ce fr un (res.2.1) (res.2.2.1) so sc wb we wo wc fb fe fo fc rm (res.2.2.2.1) (res.2.2.2.2) kn) 0 0 := by
  refine kmet_i (y := yX1_stretch) (cc := cX1_stretch) (maxL := 4) (ret := (some .int)) RX1 (kvA 0 (a 0) (kvI 1 p0 (kvI 2 p1 (kvI 3 p2 kvE)))) kpl_X1 rfl rfl (Nat.le_of_ble_eq_true rfl) rfl (fun p e s m below meth c A ls hx hb hr hml hts hown hlocks hP hK hG hD hA hS hl => ?_)
  have hw0 := hts (.fieldLink RX1 25 "Spanbooker" "spanRow" "LSpanbooker$Row;") (List.mem_cons_of_mem _ kw_110)
  have hw1 := hts (.constant RX1 49 (-2000000000)) (List.mem_cons_of_mem _ kw_494)
  have hiX1 : ∀ w ∈ u_ws RX1 TX1 10, w ∈ wsX1_stretch := fun w h => List.mem_cons_of_mem _ (ku_X1 w h)
  have h := f_X1_stretch_e.symm.trans hf
  refine lv_aload_n hx hb (kdr dgX1_stretch_0 0 0 rfl rfl) rfl (lv_at hl 0 rfl) ?_
  refine va_get (D := (dC, dI)) (ci := 3) (v := .ref (a 2)) (C := RX1) (T := TX1) (N := 10) hx hb hts hiX1 hown hK hP 0 rfl rfl 3 (by decide) hw0 (fun _ h9 => h9) rfl (kdr dgX1_stretch_0 0 1 rfl rfl) ?_
  refine lv_iload_n hx hb (kdr dgX1_stretch_0 0 2 rfl rfl) rfl (lv_at hl 1 rfl) ?_
  obtain ⟨r1, g1, h⟩ := g_b h
  refine kq_v (wSB cI cJ cZ a ce fr un sb se so sc wb we wo wc fb fe fo fc rm ac rf kn) (fun qP qD qF => va_runS (As := [.ref (a 2), .int p0]) (rest := []) ⟨hx, hb, hml, hown, hts⟩ (c_X1_needNumberIn l dC dI cB cI cJ cZ (a 2) (a 3) (a 4) (a 5) _ sb se so sc p0 r1 g1) (kcwS hts kw_592 kv_X1_needNumberIn rfl rfl ⟨(Nat.le_of_ble_eq_true rfl), (Nat.le_of_ble_eq_true rfl)⟩) (kpS (A := A) qP hK qD hG) rfl rfl hl.1 rfl (lv_room (Nat.le_of_ble_eq_true rfl)) (kdr dgX1_stretch_0 0 3 rfl rfl) ⟨(Nat.le_of_ble_eq_true rfl), (Nat.le_of_ble_eq_true rfl)⟩) hP hD hS hA kFr_SBs (fun H locs hP hD hS => ?_)
  refine lv_iload_n hx hb (kdr dgX1_stretch_0 0 4 rfl rfl) rfl (lv_at hl 2 rfl) ?_
  refine lv_iload_n hx hb (kdr dgX1_stretch_0 0 5 rfl rfl) rfl (lv_at hl 3 rfl) ?_
  refine lv_ldc (v := (-2000000000)) hx hb hown hw1 (kdr dgX1_stretch_0 0 6 rfl rfl) ?_
  obtain ⟨r2, g2, h⟩ := g_b h
  refine kq_v (wSB cI cJ cZ a ce fr un sb se so sc wb we wo wc fb fe fo fc rm ac rf kn) (fun qP qD qF => va_runS (As := [.int p1, .int p2, .int (-2000000000)]) (rest := []) ⟨hx, hb, hml, hown, hts⟩ (c_X1_needUnits l dC dI cB cI cJ cZ  _  p1 p2 (-2000000000) r2 g2) (kcwS hts kw_512 kv_X1_needUnits rfl rfl ⟨(Nat.le_of_ble_eq_true rfl), (Nat.le_of_ble_eq_true rfl)⟩) (kpS (A := A) (kPnil) hK ((kDnil (A := A))) hG) rfl rfl hl.1 rfl (lv_room (Nat.le_of_ble_eq_true rfl)) (kdr dgX1_stretch_0 0 7 rfl rfl) ⟨(Nat.le_of_ble_eq_true rfl), (Nat.le_of_ble_eq_true rfl)⟩) hP hD hS hA kFr_n (fun H locs hP hD hS => ?_)
  refine lv_aload_n hx hb (kdr dgX1_stretch_0 0 8 rfl rfl) rfl (lv_at hl 0 rfl) ?_
  refine lv_iload_n hx hb (kdr dgX1_stretch_0 0 9 rfl rfl) rfl (lv_at hl 1 rfl) ?_
  refine lv_aload_n hx hb (kdr dgX1_stretch_0 1 0 rfl rfl) rfl (lv_at hl 0 rfl) ?_
  refine va_get (D := (dC, dI)) (ci := 3) (v := .ref (a 2)) (C := RX1) (T := TX1) (N := 10) hx hb hts hiX1 hown hK hP 0 rfl rfl 3 (by decide) hw0 (fun _ h9 => h9) rfl (kdr dgX1_stretch_0 1 1 rfl rfl) ?_
  refine lv_iload_n hx hb (kdr dgX1_stretch_0 1 2 rfl rfl) rfl (lv_at hl 1 rfl) ?_
  obtain ⟨r3, g3, h⟩ := g_b h
  refine kq_l (wSB cI cJ cZ a ce fr un sb se so sc wb we wo wc fb fe fo fc rm ac rf kn) (fun qP qD qF => va_runV (As := [.int p0]) (rest := [.int p0, .ref (a 0)]) ⟨hx, hb, hml, hown, hts⟩ (c_X0_begin l dC dI cB cI cJ cZ (a 2) (a 3) (a 4) (a 5) _ sb se so sc p0 r3 g3) (kcwV hts kw_251 kv_X0_begin rfl rfl ⟨(Nat.le_of_ble_eq_true rfl), (Nat.le_of_ble_eq_true rfl)⟩) (kpV (A := A) qP hK qD hG (krecv_2 (q0 := 2) hK hP rfl)) rfl rfl hl.1 rfl (lv_room (Nat.le_of_ble_eq_true rfl)) (kdr dgX1_stretch_0 1 3 rfl rfl) ⟨(Nat.le_of_ble_eq_true rfl), (Nat.le_of_ble_eq_true rfl)⟩) hP hD hS hA kFr_SBs (fun H locs hP hD hS => ?_)
  refine lv_aload_n hx hb (kdr dgX1_stretch_0 1 4 rfl rfl) rfl (lv_at hl 0 rfl) ?_
  refine va_get (D := (dC, dI)) (ci := 3) (v := .ref (a 2)) (C := RX1) (T := TX1) (N := 10) hx hb hts hiX1 hown hK hP 0 rfl rfl 3 (by decide) hw0 (fun _ h9 => h9) rfl (kdr dgX1_stretch_0 1 5 rfl rfl) ?_
  refine lv_iload_n hx hb (kdr dgX1_stretch_0 1 6 rfl rfl) rfl (lv_at hl 1 rfl) ?_
  obtain ⟨r4, g4, h⟩ := g_b h
  refine kq_l (wSB cI cJ cZ a ce fr un sb se so sc wb we wo wc fb fe fo fc rm ac rf kn) (fun qP qD qF => va_runV (As := [.int p0]) (rest := [.long r3, .int p0, .ref (a 0)]) ⟨hx, hb, hml, hown, hts⟩ (c_X0_end l dC dI cB cI cJ cZ (a 2) (a 3) (a 4) (a 5) _ sb se so sc p0 r4 g4) (kcwV hts kw_194 kv_X0_end rfl rfl ⟨(Nat.le_of_ble_eq_true rfl), (Nat.le_of_ble_eq_true rfl)⟩) (kpV (A := A) qP hK qD hG (krecv_2 (q0 := 2) hK hP rfl)) rfl rfl hl.1 rfl (lv_room (Nat.le_of_ble_eq_true rfl)) (kdr dgX1_stretch_0 1 7 rfl rfl) ⟨(Nat.le_of_ble_eq_true rfl), (Nat.le_of_ble_eq_true rfl)⟩) hP hD hS hA kFr_SBs (fun H locs hP hD hS => ?_)
  refine lv_iload_n hx hb (kdr dgX1_stretch_0 1 8 rfl rfl) rfl (lv_at hl 2 rfl) ?_
  refine lv_iload_n hx hb (kdr dgX1_stretch_0 1 9 rfl rfl) rfl (lv_at hl 3 rfl) ?_
  obtain ⟨r5, g5, h⟩ := g_b h
  refine kq_l (wSB cI cJ cZ a ce fr un sb se so sc wb we wo wc fb fe fo fc rm ac rf kn) (fun qP qD qF => va_runS (As := [.int p1, .int p2]) (rest := [.long r4, .long r3, .int p0, .ref (a 0)]) ⟨hx, hb, hml, hown, hts⟩ (c_X1_lengthOf l dC dI cB cI cJ cZ  _  p1 p2 r5 g5) (kcwS hts kw_515 kv_X1_lengthOf rfl rfl ⟨(Nat.le_of_ble_eq_true rfl), (Nat.le_of_ble_eq_true rfl)⟩) (kpS (A := A) (kPnil) hK ((kDnil (A := A))) hG) rfl rfl hl.1 rfl (lv_room (Nat.le_of_ble_eq_true rfl)) (kdr dgX1_stretch_0 2 0 rfl rfl) ⟨(Nat.le_of_ble_eq_true rfl), (Nat.le_of_ble_eq_true rfl)⟩) hP hD hS hA kFr_n (fun H locs hP hD hS => ?_)
  refine lv_ladd hx hb (kdr dgX1_stretch_0 2 1 rfl rfl) ?_
  obtain ⟨r6, g6, h⟩ := g_b h
  refine kq_i (wSB cI cJ cZ a ce fr un r6.2.1 r6.2.2 so sc wb we wo wc fb fe fo fc rm ac rf kn) (fun qP qD qF => va_runV (As := [.int p0, .long r3, .long (r4 + r5)]) (rest := []) ⟨hx, hb, hml, hown, hts⟩ (c_X1_changeSpan l dC dI cB cI cJ cZ a _ ce fr un sb se so sc wb we wo wc fb fe fo fc rm ac rf kn p0 r3 (r4 + r5) r6 g6) (kcwV hts kw_607 kv_X1_changeSpan rfl rfl ⟨(Nat.le_of_ble_eq_true rfl), (Nat.le_of_ble_eq_true rfl)⟩) (kpV (A := A) qP hK qD hG (krecv_3 (q0 := 0) hK hP rfl)) rfl rfl hl.1 rfl (lv_room (Nat.le_of_ble_eq_true rfl)) (kdr dgX1_stretch_0 2 2 rfl rfl) ⟨(Nat.le_of_ble_eq_true rfl), (Nat.le_of_ble_eq_true rfl)⟩) hP hD hS hA kFr_SB (fun H locs hP hD hS br6 => ?_)
  refine lv_if_ne (tgt := 50) hx hb (kdr dgX1_stretch_0 2 3 rfl rfl) (by decide) (fun c7 => ?_) (fun c7 => ?_)
  · have h := g_f c7 h
    refine lv_aload_n hx hb (kdr dgX1_stretch_0 2 7 rfl rfl) rfl (lv_at hl 0 rfl) ?_
    refine lv_aload_n hx hb (kdr dgX1_stretch_0 2 8 rfl rfl) rfl (lv_at hl 0 rfl) ?_
    refine va_get (D := (dC, dI)) (ci := 3) (v := .ref (a 2)) (C := RX1) (T := TX1) (N := 10) hx hb hts hiX1 hown hK hP 0 rfl rfl 3 (by decide) hw0 (fun _ h9 => h9) rfl (kdr dgX1_stretch_0 2 9 rfl rfl) ?_
    refine lv_aload_n hx hb (kdr dgX1_stretch_0 3 0 rfl rfl) rfl (lv_at hl 0 rfl) ?_
    refine va_get (D := (dC, dI)) (ci := 3) (v := .ref (a 2)) (C := RX1) (T := TX1) (N := 10) hx hb hts hiX1 hown hK hP 0 rfl rfl 3 (by decide) hw0 (fun _ h9 => h9) rfl (kdr dgX1_stretch_0 3 1 rfl rfl) ?_
    refine lv_iload_n hx hb (kdr dgX1_stretch_0 3 2 rfl rfl) rfl (lv_at hl 1 rfl) ?_
    obtain ⟨r8, g8, h⟩ := g_b h
    refine kq_l (wSB cI cJ cZ a ce fr un r6.2.1 r6.2.2 so sc wb we wo wc fb fe fo fc rm ac rf kn) (fun qP qD qF => va_runV (As := [.int p0]) (rest := [.ref (a 2), .ref (a 0)]) ⟨hx, hb, hml, hown, hts⟩ (c_X0_end l dC dI cB cI cJ cZ (a 2) (a 3) (a 4) (a 5) _ r6.2.1 r6.2.2 so sc p0 r8 g8) (kcwV hts kw_194 kv_X0_end rfl rfl ⟨(Nat.le_of_ble_eq_true rfl), (Nat.le_of_ble_eq_true rfl)⟩) (kpV (A := A) qP hK qD hG (krecv_2 (q0 := 2) hK hP rfl)) rfl rfl hl.1 rfl (lv_room (Nat.le_of_ble_eq_true rfl)) (kdr dgX1_stretch_0 3 3 rfl rfl) ⟨(Nat.le_of_ble_eq_true rfl), (Nat.le_of_ble_eq_true rfl)⟩) hP hD hS hA kFr_SBs (fun H locs hP hD hS => ?_)
    obtain ⟨r9, g9, h⟩ := g_b h
    refine kq_i (wSB cI cJ cZ a ce fr un r6.2.1 r6.2.2 so sc wb we wo wc fb fe fo fc rm ac rf kn) (fun qP qD qF => va_runV (As := [.long r8]) (rest := [.ref (a 0)]) ⟨hx, hb, hml, hown, hts⟩ (c_X0_endsBefore l dC dI cB cI cJ cZ (a 2) (a 3) (a 4) (a 5) _ r6.2.1 r6.2.2 so sc r8 r9 g9) (kcwV hts kw_626 kv_X0_endsBefore rfl rfl ⟨(Nat.le_of_ble_eq_true rfl), (Nat.le_of_ble_eq_true rfl)⟩) (kpV (A := A) qP hK qD hG (krecv_2 (q0 := 2) hK hP rfl)) rfl rfl hl.1 rfl (lv_room (Nat.le_of_ble_eq_true rfl)) (kdr dgX1_stretch_0 3 4 rfl rfl) ⟨(Nat.le_of_ble_eq_true rfl), (Nat.le_of_ble_eq_true rfl)⟩) hP hD hS hA kFr_SBs (fun H locs hP hD hS br9 => ?_)
    obtain ⟨r10, g10, h⟩ := g_b h
    refine kq_i (wSB cI cJ cZ a ce fr un r6.2.1 r6.2.2 so sc wb we wo wc fb fe fo fc rm r10.2 rf kn) (fun qP qD qF => va_runV (As := [.int r9]) (rest := []) ⟨hx, hb, hml, hown, hts⟩ (c_X1_done l dC dI cB cI cJ cZ a _ ce fr un r6.2.1 r6.2.2 so sc wb we wo wc fb fe fo fc rm ac rf kn r9 r10 g10) (kcwV hts kw_147 kv_X1_done rfl rfl ⟨(Nat.le_of_ble_eq_true rfl), (Nat.le_of_ble_eq_true rfl)⟩) (kpV (A := A) qP hK qD hG (krecv_3 (q0 := 0) hK hP rfl)) rfl rfl hl.1 rfl (lv_room (Nat.le_of_ble_eq_true rfl)) (kdr dgX1_stretch_0 3 5 rfl rfl) ⟨(Nat.le_of_ble_eq_true rfl), (Nat.le_of_ble_eq_true rfl)⟩) hP hD hS hA kFr_SB (fun H locs hP hD hS br10 => ?_)
    have h := Option.some.inj h
    subst h
    exact kret_i (v := r10.1) hx hb hr rfl hlocks hS hP (kdr dgX1_stretch_0 3 6 rfl rfl)
  · have h := g_t c7 h
    refine lv_aload_n hx hb (kdr dgX1_stretch_0 2 4 rfl rfl) rfl (lv_at hl 0 rfl) ?_
    obtain ⟨r8, g8, h⟩ := g_b h
    refine kq_i (wSB cI cJ cZ a ce fr un r6.2.1 r6.2.2 so sc wb we wo wc fb fe fo fc rm ac r8.2 kn) (fun qP qD qF => va_runV (As := []) (rest := []) ⟨hx, hb, hml, hown, hts⟩ (c_X1_refuse l dC dI cB cI cJ cZ a _ ce fr un r6.2.1 r6.2.2 so sc wb we wo wc fb fe fo fc rm ac rf kn  r8 g8) (kcwV hts kw_501 kv_X1_refuse rfl rfl ⟨(Nat.le_of_ble_eq_true rfl), (Nat.le_of_ble_eq_true rfl)⟩) (kpV (A := A) qP hK qD hG (krecv_3 (q0 := 0) hK hP rfl)) rfl rfl hl.1 rfl (lv_room (Nat.le_of_ble_eq_true rfl)) (kdr dgX1_stretch_0 2 5 rfl rfl) ⟨(Nat.le_of_ble_eq_true rfl), (Nat.le_of_ble_eq_true rfl)⟩) hP hD hS hA kFr_SB (fun H locs hP hD hS br8 => ?_)
    have h := Option.some.inj h
    subst h
    exact kret_i (v := r8.1) hx hb hr rfl hlocks hS hP (kdr dgX1_stretch_0 2 6 rfl rfl)
noncomputable def fx_X1_stretch (sc : Int32) (p0 : Int32) (p1 : Int32) (p2 : Int32) : Option (Nat) :=
  xb (fx_X1_needNumberIn sc p0) (fun k1 => some k1) (
  (f_X1_needNumberIn sc p0).bind fun r1 =>
  xb (fx_X1_needUnits p1 p2 (-2000000000)) (fun k2 => some k2) (
  none))
theorem fx_X1_stretch_e {sc : Int32} {p0 : Int32} {p1 : Int32} {p2 : Int32} : fx_X1_stretch sc p0 p1 p2 = 
  xb (fx_X1_needNumberIn sc p0) (fun k1 => some k1) (
  (f_X1_needNumberIn sc p0).bind fun r1 =>
  xb (fx_X1_needUnits p1 p2 (-2000000000)) (fun k2 => some k2) (
  none)) := rfl
set_option maxHeartbeats 4000000 in
set_option maxRecDepth 100000 in
theorem x_X1_stretch (l : Launch) (hl9 : l.stackTraces = false) (dC : Nat → ClassId) (dI : Nat → Nat → Nat) (cB cI cJ cZ : ClassId) (a : Nat → Nat) (sz : Nat) (ce : Nat → Int64) (fr : Int64) (un : Int64) (sb : Nat → Int64) (se : Nat → Int64) (so : Nat → Int32) (sc : Int32) (wb : Nat → Int64) (we : Nat → Int64) (wo : Nat → Int32) (wc : Int32) (fb : Nat → Int64) (fe : Nat → Int64) (fo : Nat → Int32) (fc : Int32) (rm : Nat → Int32) (ac : Int32) (rf : Int32) (kn : Int32) (p0 : Int32) (p1 : Int32) (p2 : Int32) (res : Nat) (hf : fx_X1_stretch sc p0 p1 p2 = some res) : kMX l yX1_stretch wsX1_stretch (kRm 8 1 6 132) dC dI cB cI cJ cZ [.ref (a 0), .int p0, .int p1, .int p2] sz (wSB cI cJ cZ a ce fr un sb se so sc wb we wo wc fb fe fo fc rm ac rf kn) (res) (wSB cI cJ cZ a ce fr un sb se so sc wb we wo wc fb fe fo fc rm ac rf kn) 1 6 := by
  refine kmet_x (y := yX1_stretch) (cc := cX1_stretch) (maxL := 4) (ret := (some .int)) RX1 (kvA 0 (a 0) (kvI 1 p0 (kvI 2 p1 (kvI 3 p2 kvE)))) kpl_X1 rfl rfl (Nat.le_of_ble_eq_true rfl) rfl (fun p e s m below meth c A ls hx hb hr hml ht hts hown hlocks hP hK hG hZ hD hA hS hl => ?_)
  have hw0 := hts (.fieldLink RX1 25 "Spanbooker" "spanRow" "LSpanbooker$Row;") (List.mem_cons_of_mem _ kw_110)
  have hw1 := hts (.constant RX1 49 (-2000000000)) (List.mem_cons_of_mem _ kw_494)
  have hiX1 : ∀ w ∈ u_ws RX1 TX1 10, w ∈ wsX1_stretch := fun w h => List.mem_cons_of_mem _ (ku_X1 w h)
  have h := fx_X1_stretch_e.symm.trans hf
  refine lv_aload_n hx hb (kdr dgX1_stretch_0 0 0 rfl rfl) rfl (lv_at hl 0 rfl) ?_
  refine va_get (D := (dC, dI)) (ci := 3) (v := .ref (a 2)) (C := RX1) (T := TX1) (N := 10) hx hb hts hiX1 hown hK hP 0 rfl rfl 3 (by decide) hw0 (fun _ h9 => h9) rfl (kdr dgX1_stretch_0 0 1 rfl rfl) ?_
  refine lv_iload_n hx hb (kdr dgX1_stretch_0 0 2 rfl rfl) rfl (lv_at hl 1 rfl) ?_
  rcases g_x h with ⟨k1, j1, h⟩ | ⟨-, h⟩
  · have h := Option.some.inj h
    subst h
    exact kq_x (wSB cI cJ cZ a ce fr un sb se so sc wb we wo wc fb fe fo fc rm ac rf kn) (fun qP qD qF => vx_runS (As := [.ref (a 2), .int p0]) (rest := []) ⟨hx, hb, hml, hown, hts⟩ (x_X1_needNumberIn l hl9 dC dI cB cI cJ cZ (a 2) (a 3) (a 4) (a 5) _ sb se so sc p0 k1 j1) (kcwS hts kw_592 kv_X1_needNumberIn rfl rfl ⟨(Nat.le_of_ble_eq_true rfl), (Nat.le_of_ble_eq_true rfl)⟩) (kpSXq (A := A) qP hK qD hG hZ hS qF) rfl rfl hl.1 rfl (lv_room (Nat.le_of_ble_eq_true rfl)) (kdr dgX1_stretch_0 0 3 rfl rfl) ⟨(Nat.le_of_ble_eq_true rfl), (Nat.le_of_ble_eq_true rfl)⟩) hP hD hS hA kFr_SBs ht hlocks (Nat.le_of_ble_eq_true rfl) (Nat.le_of_ble_eq_true rfl)
  · obtain ⟨r1, g1, h⟩ := g_b h
    refine kq_v (wSB cI cJ cZ a ce fr un sb se so sc wb we wo wc fb fe fo fc rm ac rf kn) (fun qP qD qF => va_runS (As := [.ref (a 2), .int p0]) (rest := []) ⟨hx, hb, hml, hown, hts⟩ (c_X1_needNumberIn l dC dI cB cI cJ cZ (a 2) (a 3) (a 4) (a 5) _ sb se so sc p0 r1 g1) (kcwS hts kw_592 kv_X1_needNumberIn rfl rfl ⟨(Nat.le_of_ble_eq_true rfl), (Nat.le_of_ble_eq_true rfl)⟩) (kpS (A := A) qP hK qD hG) rfl rfl hl.1 rfl (lv_room (Nat.le_of_ble_eq_true rfl)) (kdr dgX1_stretch_0 0 3 rfl rfl) ⟨(Nat.le_of_ble_eq_true rfl), (Nat.le_of_ble_eq_true rfl)⟩) hP hD hS hA kFr_SBs (fun H locs hP hD hS => ?_)
    refine lv_iload_n hx hb (kdr dgX1_stretch_0 0 4 rfl rfl) rfl (lv_at hl 2 rfl) ?_
    refine lv_iload_n hx hb (kdr dgX1_stretch_0 0 5 rfl rfl) rfl (lv_at hl 3 rfl) ?_
    refine lv_ldc (v := (-2000000000)) hx hb hown hw1 (kdr dgX1_stretch_0 0 6 rfl rfl) ?_
    rcases g_x h with ⟨k2, j2, h⟩ | ⟨-, h⟩
    · have h := Option.some.inj h
      subst h
      exact kq_x (wSB cI cJ cZ a ce fr un sb se so sc wb we wo wc fb fe fo fc rm ac rf kn) (fun qP qD qF => vx_runS (As := [.int p1, .int p2, .int (-2000000000)]) (rest := []) ⟨hx, hb, hml, hown, hts⟩ (x_X1_needUnits l hl9 dC dI cB cI cJ cZ  _  p1 p2 (-2000000000) k2 j2) (kcwS hts kw_512 kv_X1_needUnits rfl rfl ⟨(Nat.le_of_ble_eq_true rfl), (Nat.le_of_ble_eq_true rfl)⟩) (kpSXq (A := A) (kPnil) hK ((kDnil (A := A))) hG hZ hS qF) rfl rfl hl.1 rfl (lv_room (Nat.le_of_ble_eq_true rfl)) (kdr dgX1_stretch_0 0 7 rfl rfl) ⟨(Nat.le_of_ble_eq_true rfl), (Nat.le_of_ble_eq_true rfl)⟩) hP hD hS hA kFr_n ht hlocks (Nat.le_of_ble_eq_true rfl) (Nat.le_of_ble_eq_true rfl)
    · cases h
noncomputable abbrev wsX1_fit : List Cond := kWs yX1_fit cX1_fit 9 (some .int)
noncomputable def f_X1_fit (ce : Nat → Int64) (fr : Int64) (un : Int64) (sb : Nat → Int64) (se : Nat → Int64) (sc : Int32) (ac : Int32) (rf : Int32) (p0 : Int32) (p1 : Int32) (p2 : Int32) (p3 : Int32) : Option ((Int32) × (Nat → Int64) × (Int32) × (Int32)) :=
  (f_X1_needCell p0).bind fun r1 =>
  (f_X1_needCell p3).bind fun r2 =>
  (f_X1_needUnits p1 p2 1).bind fun r3 =>
  (f_X1_lengthOf p1 p2).bind fun r4 =>
  if ix p0 4 then
    (f_X1_firstWithoutSpan sb se sc (if fr < (ce p0.toNatClampNeg) then ce p0.toNatClampNeg else fr) r4).bind fun r6 =>
    if (r6 + r4) ≤ un then
      (f_X1_bring ce r6 p3).bind fun r8 =>
      (f_X1_done ac r8.1).bind fun r9 =>
      some (r9.1, r8.2, r9.2, rf)
    else
      (f_X1_refuse rf).bind fun r8 =>
      some (r8.1, ce, ac, r8.2)
  else none
theorem f_X1_fit_e {ce : Nat → Int64} {fr : Int64} {un : Int64} {sb : Nat → Int64} {se : Nat → Int64} {sc : Int32} {ac : Int32} {rf : Int32} {p0 : Int32} {p1 : Int32} {p2 : Int32} {p3 : Int32} : f_X1_fit ce fr un sb se sc ac rf p0 p1 p2 p3 = 
  (f_X1_needCell p0).bind fun r1 =>
  (f_X1_needCell p3).bind fun r2 =>
  (f_X1_needUnits p1 p2 1).bind fun r3 =>
  (f_X1_lengthOf p1 p2).bind fun r4 =>
  if ix p0 4 then
    (f_X1_firstWithoutSpan sb se sc (if fr < (ce p0.toNatClampNeg) then ce p0.toNatClampNeg else fr) r4).bind fun r6 =>
    if (r6 + r4) ≤ un then
      (f_X1_bring ce r6 p3).bind fun r8 =>
      (f_X1_done ac r8.1).bind fun r9 =>
      some (r9.1, r8.2, r9.2, rf)
    else
      (f_X1_refuse rf).bind fun r8 =>
      some (r8.1, ce, ac, r8.2)
  else none := rfl
set_option maxHeartbeats 4000000 in
set_option maxRecDepth 100000 in
theorem c_X1_fit (l : Launch) (dC : Nat → ClassId) (dI : Nat → Nat → Nat) (cB cI cJ cZ : ClassId) (a : Nat → Nat) (sz : Nat) (ce : Nat → Int64) (fr : Int64) (un : Int64) (sb : Nat → Int64) (se : Nat → Int64) (so : Nat → Int32) (sc : Int32) (wb : Nat → Int64) (we : Nat → Int64) (wo : Nat → Int32) (wc : Int32) (fb : Nat → Int64) (fe : Nat → Int64) (fo : Nat → Int32) (fc : Int32) (rm : Nat → Int32) (ac : Int32) (rf : Int32) (kn : Int32) (p0 : Int32) (p1 : Int32) (p2 : Int32) (p3 : Int32) (res : (Int32) × (Nat → Int64) × (Int32) × (Int32)) (hf : f_X1_fit ce fr un sb se sc ac rf p0 p1 p2 p3 = some res) : kMi l yX1_fit wsX1_fit (kRm 3 0 0 70) dC dI cB cI cJ cZ [.ref (a 0), .int p0, .int p1, .int p2, .int p3] sz (wSB cI cJ cZ a ce fr un sb se so sc wb we wo wc fb fe fo fc rm ac rf kn) .int (res.1) (wSB cI cJ cZ a (res.2.1) fr un sb se so sc wb we wo wc fb fe fo fc rm (res.2.2.1) (res.2.2.2) kn) 0 0 := by
  refine kmet_i (y := yX1_fit) (cc := cX1_fit) (maxL := 9) (ret := (some .int)) RX1 (kvA 0 (a 0) (kvI 1 p0 (kvI 2 p1 (kvI 3 p2 (kvI 4 p3 kvE))))) kpl_X1 rfl rfl (Nat.le_of_ble_eq_true rfl) rfl (fun p e s m below meth c A ls hx hb hr hml hts hown hlocks hP hK hG hD hA hS hl => ?_)
  have hw0 := hts (.fieldLink RX1 9 "Spanbooker" "cells" "[J") (List.mem_cons_of_mem _ kw_107)
  have hw1 := hts (.fieldLink RX1 13 "Spanbooker" "from" "J") (List.mem_cons_of_mem _ kw_108)
  have hw2 := hts (.methodLink RX1 130 Lib.MathLoose.max_long.x) (List.mem_cons_of_mem _ kw_637)
  have hw3 := hts (.static Lib.MathLoose.max_long.x) (List.mem_cons_of_mem _ kw_638)
  have hw4 := hts (.initialized "java/lang/Math") (List.mem_cons_of_mem _ kw_66)
  have hw5 := hts (.code Lib.MathLoose.max_long.x Lib.MathLoose.max_long.code 4 (some .long)) (List.mem_cons_of_mem _ kw_639)
  have hw6 := hts (.fieldLink RX1 19 "Spanbooker" "until" "J") (List.mem_cons_of_mem _ kw_109)
  have hiX1 : ∀ w ∈ u_ws RX1 TX1 10, w ∈ wsX1_fit := fun w h => List.mem_cons_of_mem _ (ku_X1 w h)
  have h := f_X1_fit_e.symm.trans hf
  refine lv_iload_n hx hb (kdr dgX1_fit_0 0 0 rfl rfl) rfl (lv_at hl 1 rfl) ?_
  obtain ⟨r1, g1, h⟩ := g_b h
  refine kq_v (wSB cI cJ cZ a ce fr un sb se so sc wb we wo wc fb fe fo fc rm ac rf kn) (fun qP qD qF => va_runS (As := [.int p0]) (rest := []) ⟨hx, hb, hml, hown, hts⟩ (c_X1_needCell l dC dI cB cI cJ cZ  _  p0 r1 g1) (kcwS hts kw_473 kv_X1_needCell rfl rfl ⟨(Nat.le_of_ble_eq_true rfl), (Nat.le_of_ble_eq_true rfl)⟩) (kpS (A := A) (kPnil) hK ((kDnil (A := A))) hG) rfl rfl hl.1 rfl (lv_room (Nat.le_of_ble_eq_true rfl)) (kdr dgX1_fit_0 0 1 rfl rfl) ⟨(Nat.le_of_ble_eq_true rfl), (Nat.le_of_ble_eq_true rfl)⟩) hP hD hS hA kFr_n (fun H locs hP hD hS => ?_)
  refine lv_iload hx hb (kdr dgX1_fit_0 0 2 rfl rfl) (lv_at hl 4 rfl) ?_
  obtain ⟨r2, g2, h⟩ := g_b h
  refine kq_v (wSB cI cJ cZ a ce fr un sb se so sc wb we wo wc fb fe fo fc rm ac rf kn) (fun qP qD qF => va_runS (As := [.int p3]) (rest := []) ⟨hx, hb, hml, hown, hts⟩ (c_X1_needCell l dC dI cB cI cJ cZ  _  p3 r2 g2) (kcwS hts kw_473 kv_X1_needCell rfl rfl ⟨(Nat.le_of_ble_eq_true rfl), (Nat.le_of_ble_eq_true rfl)⟩) (kpS (A := A) (kPnil) hK ((kDnil (A := A))) hG) rfl rfl hl.1 rfl (lv_room (Nat.le_of_ble_eq_true rfl)) (kdr dgX1_fit_0 0 3 rfl rfl) ⟨(Nat.le_of_ble_eq_true rfl), (Nat.le_of_ble_eq_true rfl)⟩) hP hD hS hA kFr_n (fun H locs hP hD hS => ?_)
  refine lv_iload_n hx hb (kdr dgX1_fit_0 0 4 rfl rfl) rfl (lv_at hl 2 rfl) ?_
  refine lv_iload_n hx hb (kdr dgX1_fit_0 0 5 rfl rfl) rfl (lv_at hl 3 rfl) ?_
  refine lv_iconst (v := 1) hx hb (kdr dgX1_fit_0 0 6 rfl rfl) (by decide) ?_
  obtain ⟨r3, g3, h⟩ := g_b h
  refine kq_v (wSB cI cJ cZ a ce fr un sb se so sc wb we wo wc fb fe fo fc rm ac rf kn) (fun qP qD qF => va_runS (As := [.int p1, .int p2, .int 1]) (rest := []) ⟨hx, hb, hml, hown, hts⟩ (c_X1_needUnits l dC dI cB cI cJ cZ  _  p1 p2 1 r3 g3) (kcwS hts kw_512 kv_X1_needUnits rfl rfl ⟨(Nat.le_of_ble_eq_true rfl), (Nat.le_of_ble_eq_true rfl)⟩) (kpS (A := A) (kPnil) hK ((kDnil (A := A))) hG) rfl rfl hl.1 rfl (lv_room (Nat.le_of_ble_eq_true rfl)) (kdr dgX1_fit_0 0 7 rfl rfl) ⟨(Nat.le_of_ble_eq_true rfl), (Nat.le_of_ble_eq_true rfl)⟩) hP hD hS hA kFr_n (fun H locs hP hD hS => ?_)
  refine lv_iload_n hx hb (kdr dgX1_fit_0 0 8 rfl rfl) rfl (lv_at hl 2 rfl) ?_
  refine lv_iload_n hx hb (kdr dgX1_fit_0 0 9 rfl rfl) rfl (lv_at hl 3 rfl) ?_
  obtain ⟨r4, g4, h⟩ := g_b h
  refine kq_l (wSB cI cJ cZ a ce fr un sb se so sc wb we wo wc fb fe fo fc rm ac rf kn) (fun qP qD qF => va_runS (As := [.int p1, .int p2]) (rest := []) ⟨hx, hb, hml, hown, hts⟩ (c_X1_lengthOf l dC dI cB cI cJ cZ  _  p1 p2 r4 g4) (kcwS hts kw_515 kv_X1_lengthOf rfl rfl ⟨(Nat.le_of_ble_eq_true rfl), (Nat.le_of_ble_eq_true rfl)⟩) (kpS (A := A) (kPnil) hK ((kDnil (A := A))) hG) rfl rfl hl.1 rfl (lv_room (Nat.le_of_ble_eq_true rfl)) (kdr dgX1_fit_0 1 0 rfl rfl) ⟨(Nat.le_of_ble_eq_true rfl), (Nat.le_of_ble_eq_true rfl)⟩) hP hD hS hA kFr_n (fun H locs hP hD hS => ?_)
  refine lv_lstore (lv' := (kvJ 5 r4 (kvA 0 (a 0) (kvI 1 p0 (kvI 2 p1 (kvI 3 p2 (kvI 4 p3 kvE))))))) hx hb (kdr dgX1_fit_0 1 1 rfl rfl) hl (by decide) rfl (fun ls hl => ?_)
  refine lv_aload_n hx hb (kdr dgX1_fit_0 1 2 rfl rfl) rfl (lv_at hl 1 rfl) ?_
  refine lv_aload_n hx hb (kdr dgX1_fit_0 1 3 rfl rfl) rfl (lv_at hl 1 rfl) ?_
  refine va_get (D := (dC, dI)) (ci := 3) (v := .ref (a 1)) (C := RX1) (T := TX1) (N := 10) hx hb hts hiX1 hown hK hP 0 rfl rfl 0 (by decide) hw0 (fun _ h9 => h9) rfl (kdr dgX1_fit_0 1 4 rfl rfl) ?_
  refine lv_iload_n hx hb (kdr dgX1_fit_0 1 5 rfl rfl) rfl (lv_at hl 2 rfl) ?_
  obtain ⟨z4, h⟩ := g_if h
  refine va_lald hx hb hK hP 1 2 rfl rfl (ix_in z4) (kdr dgX1_fit_0 1 6 rfl rfl) ?_
  refine lv_aload_n hx hb (kdr dgX1_fit_0 1 7 rfl rfl) rfl (lv_at hl 1 rfl) ?_
  refine va_get (D := (dC, dI)) (ci := 3) (v := .long fr) (C := RX1) (T := TX1) (N := 10) hx hb hts hiX1 hown hK hP 0 rfl rfl 1 (by decide) hw1 (fun _ h9 => h9) rfl (kdr dgX1_fit_0 1 8 rfl rfl) ?_
  refine va_mmax_long hx hb (hml.trans hl.1.symm) hown hw2 hw3 hw4 hw5 (Nat.le_of_ble_eq_true rfl) (Nat.le_of_ble_eq_true rfl) (Nat.le_of_ble_eq_true rfl) (Nat.le_of_ble_eq_true rfl) (kdr dgX1_fit_0 1 9 rfl rfl) ?_
  refine lv_lload hx hb (kdr dgX1_fit_0 2 0 rfl rfl) (lv_at hl 0 rfl) ?_
  obtain ⟨r6, g6, h⟩ := g_b h
  refine kq_l (wSB cI cJ cZ a ce fr un sb se so sc wb we wo wc fb fe fo fc rm ac rf kn) (fun qP qD qF => va_runV (As := [.long (if fr < (ce p0.toNatClampNeg) then ce p0.toNatClampNeg else fr), .long r4]) (rest := []) ⟨hx, hb, hml, hown, hts⟩ (c_X1_firstWithoutSpan l dC dI cB cI cJ cZ a _ ce fr un sb se so sc wb we wo wc fb fe fo fc rm ac rf kn (if fr < (ce p0.toNatClampNeg) then ce p0.toNatClampNeg else fr) r4 r6 g6) (kcwV hts kw_186 kv_X1_firstWithoutSpan rfl rfl ⟨(Nat.le_of_ble_eq_true rfl), (Nat.le_of_ble_eq_true rfl)⟩) (kpV (A := A) qP hK qD hG (krecv_3 (q0 := 0) hK hP rfl)) rfl rfl hl.1 rfl (lv_room (Nat.le_of_ble_eq_true rfl)) (kdr dgX1_fit_0 2 1 rfl rfl) ⟨(Nat.le_of_ble_eq_true rfl), (Nat.le_of_ble_eq_true rfl)⟩) hP hD hS hA kFr_SB (fun H locs hP hD hS => ?_)
  refine lv_lstore (lv' := (kvJ 7 r6 (kvJ 5 r4 (kvA 0 (a 0) (kvI 1 p0 (kvI 2 p1 (kvI 3 p2 (kvI 4 p3 kvE)))))))) hx hb (kdr dgX1_fit_0 2 2 rfl rfl) hl (by decide) rfl (fun ls hl => ?_)
  refine lv_lload hx hb (kdr dgX1_fit_0 2 3 rfl rfl) (lv_at hl 0 rfl) ?_
  refine lv_lload hx hb (kdr dgX1_fit_0 2 4 rfl rfl) (lv_at hl 1 rfl) ?_
  refine lv_ladd hx hb (kdr dgX1_fit_0 2 5 rfl rfl) ?_
  refine lv_aload_n hx hb (kdr dgX1_fit_0 2 6 rfl rfl) rfl (lv_at hl 2 rfl) ?_
  refine va_get (D := (dC, dI)) (ci := 3) (v := .long un) (C := RX1) (T := TX1) (N := 10) hx hb hts hiX1 hown hK hP 0 rfl rfl 2 (by decide) hw6 (fun _ h9 => h9) rfl (kdr dgX1_fit_0 2 7 rfl rfl) ?_
  refine kl_le (pc := 52) (tgt := 61) hx hb (kdr dgX1_fit_0 2 8 rfl rfl) (kdr dgX1_fit_0 2 9 rfl rfl) (by decide) (fun c7 => ?_) (fun c7 => ?_)
  · have h := g_t c7 h
    refine lv_aload_n hx hb (kdr dgX1_fit_0 3 3 rfl rfl) rfl (lv_at hl 2 rfl) ?_
    refine lv_aload_n hx hb (kdr dgX1_fit_0 3 4 rfl rfl) rfl (lv_at hl 2 rfl) ?_
    refine lv_lload hx hb (kdr dgX1_fit_0 3 5 rfl rfl) (lv_at hl 0 rfl) ?_
    refine lv_iload hx hb (kdr dgX1_fit_0 3 6 rfl rfl) (lv_at hl 6 rfl) ?_
    obtain ⟨r8, g8, h⟩ := g_b h
    refine kq_i (wSB cI cJ cZ a r8.2 fr un sb se so sc wb we wo wc fb fe fo fc rm ac rf kn) (fun qP qD qF => va_runV (As := [.long r6, .int p3]) (rest := [.ref (a 0)]) ⟨hx, hb, hml, hown, hts⟩ (c_X1_bring l dC dI cB cI cJ cZ a _ ce fr un sb se so sc wb we wo wc fb fe fo fc rm ac rf kn r6 p3 r8 g8) (kcwV hts kw_529 kv_X1_bring rfl rfl ⟨(Nat.le_of_ble_eq_true rfl), (Nat.le_of_ble_eq_true rfl)⟩) (kpV (A := A) qP hK qD hG (krecv_3 (q0 := 0) hK hP rfl)) rfl rfl hl.1 rfl (lv_room (Nat.le_of_ble_eq_true rfl)) (kdr dgX1_fit_0 3 7 rfl rfl) ⟨(Nat.le_of_ble_eq_true rfl), (Nat.le_of_ble_eq_true rfl)⟩) hP hD hS hA kFr_SB (fun H locs hP hD hS br8 => ?_)
    obtain ⟨r9, g9, h⟩ := g_b h
    refine kq_i (wSB cI cJ cZ a r8.2 fr un sb se so sc wb we wo wc fb fe fo fc rm r9.2 rf kn) (fun qP qD qF => va_runV (As := [.int r8.1]) (rest := []) ⟨hx, hb, hml, hown, hts⟩ (c_X1_done l dC dI cB cI cJ cZ a _ r8.2 fr un sb se so sc wb we wo wc fb fe fo fc rm ac rf kn r8.1 r9 g9) (kcwV hts kw_147 kv_X1_done rfl rfl ⟨(Nat.le_of_ble_eq_true rfl), (Nat.le_of_ble_eq_true rfl)⟩) (kpV (A := A) qP hK qD hG (krecv_3 (q0 := 0) hK hP rfl)) rfl rfl hl.1 rfl (lv_room (Nat.le_of_ble_eq_true rfl)) (kdr dgX1_fit_0 3 8 rfl rfl) ⟨(Nat.le_of_ble_eq_true rfl), (Nat.le_of_ble_eq_true rfl)⟩) hP hD hS hA kFr_SB (fun H locs hP hD hS br9 => ?_)
    have h := Option.some.inj h
    subst h
    exact kret_i (v := r9.1) hx hb hr rfl hlocks hS hP (kdr dgX1_fit_0 3 9 rfl rfl)
  · have h := g_f c7 h
    refine lv_aload_n hx hb (kdr dgX1_fit_0 3 0 rfl rfl) rfl (lv_at hl 2 rfl) ?_
    obtain ⟨r8, g8, h⟩ := g_b h
    refine kq_i (wSB cI cJ cZ a ce fr un sb se so sc wb we wo wc fb fe fo fc rm ac r8.2 kn) (fun qP qD qF => va_runV (As := []) (rest := []) ⟨hx, hb, hml, hown, hts⟩ (c_X1_refuse l dC dI cB cI cJ cZ a _ ce fr un sb se so sc wb we wo wc fb fe fo fc rm ac rf kn  r8 g8) (kcwV hts kw_501 kv_X1_refuse rfl rfl ⟨(Nat.le_of_ble_eq_true rfl), (Nat.le_of_ble_eq_true rfl)⟩) (kpV (A := A) qP hK qD hG (krecv_3 (q0 := 0) hK hP rfl)) rfl rfl hl.1 rfl (lv_room (Nat.le_of_ble_eq_true rfl)) (kdr dgX1_fit_0 3 1 rfl rfl) ⟨(Nat.le_of_ble_eq_true rfl), (Nat.le_of_ble_eq_true rfl)⟩) hP hD hS hA kFr_SB (fun H locs hP hD hS br8 => ?_)
    have h := Option.some.inj h
    subst h
    exact kret_i (v := r8.1) hx hb hr rfl hlocks hS hP (kdr dgX1_fit_0 3 2 rfl rfl)
noncomputable def fx_X1_fit (p0 : Int32) (p1 : Int32) (p2 : Int32) (p3 : Int32) : Option (Nat) :=
  xb (fx_X1_needCell p0) (fun k1 => some k1) (
  (f_X1_needCell p0).bind fun r1 =>
  xb (fx_X1_needCell p3) (fun k2 => some k2) (
  (f_X1_needCell p3).bind fun r2 =>
  xb (fx_X1_needUnits p1 p2 1) (fun k3 => some k3) (
  none)))
theorem fx_X1_fit_e {p0 : Int32} {p1 : Int32} {p2 : Int32} {p3 : Int32} : fx_X1_fit p0 p1 p2 p3 = 
  xb (fx_X1_needCell p0) (fun k1 => some k1) (
  (f_X1_needCell p0).bind fun r1 =>
  xb (fx_X1_needCell p3) (fun k2 => some k2) (
  (f_X1_needCell p3).bind fun r2 =>
  xb (fx_X1_needUnits p1 p2 1) (fun k3 => some k3) (
  none))) := rfl
set_option maxHeartbeats 4000000 in
set_option maxRecDepth 100000 in
theorem x_X1_fit (l : Launch) (hl9 : l.stackTraces = false) (dC : Nat → ClassId) (dI : Nat → Nat → Nat) (cB cI cJ cZ : ClassId) (a : Nat → Nat) (sz : Nat) (ce : Nat → Int64) (fr : Int64) (un : Int64) (sb : Nat → Int64) (se : Nat → Int64) (so : Nat → Int32) (sc : Int32) (wb : Nat → Int64) (we : Nat → Int64) (wo : Nat → Int32) (wc : Int32) (fb : Nat → Int64) (fe : Nat → Int64) (fo : Nat → Int32) (fc : Int32) (rm : Nat → Int32) (ac : Int32) (rf : Int32) (kn : Int32) (p0 : Int32) (p1 : Int32) (p2 : Int32) (p3 : Int32) (res : Nat) (hf : fx_X1_fit p0 p1 p2 p3 = some res) : kMX l yX1_fit wsX1_fit (kRm 8 1 6 132) dC dI cB cI cJ cZ [.ref (a 0), .int p0, .int p1, .int p2, .int p3] sz (wSB cI cJ cZ a ce fr un sb se so sc wb we wo wc fb fe fo fc rm ac rf kn) (res) (wSB cI cJ cZ a ce fr un sb se so sc wb we wo wc fb fe fo fc rm ac rf kn) 1 6 := by
  refine kmet_x (y := yX1_fit) (cc := cX1_fit) (maxL := 9) (ret := (some .int)) RX1 (kvA 0 (a 0) (kvI 1 p0 (kvI 2 p1 (kvI 3 p2 (kvI 4 p3 kvE))))) kpl_X1 rfl rfl (Nat.le_of_ble_eq_true rfl) rfl (fun p e s m below meth c A ls hx hb hr hml ht hts hown hlocks hP hK hG hZ hD hA hS hl => ?_)
  have h := fx_X1_fit_e.symm.trans hf
  refine lv_iload_n hx hb (kdr dgX1_fit_0 0 0 rfl rfl) rfl (lv_at hl 1 rfl) ?_
  rcases g_x h with ⟨k1, j1, h⟩ | ⟨-, h⟩
  · have h := Option.some.inj h
    subst h
    exact kq_x (wSB cI cJ cZ a ce fr un sb se so sc wb we wo wc fb fe fo fc rm ac rf kn) (fun qP qD qF => vx_runS (As := [.int p0]) (rest := []) ⟨hx, hb, hml, hown, hts⟩ (x_X1_needCell l hl9 dC dI cB cI cJ cZ  _  p0 k1 j1) (kcwS hts kw_473 kv_X1_needCell rfl rfl ⟨(Nat.le_of_ble_eq_true rfl), (Nat.le_of_ble_eq_true rfl)⟩) (kpSXq (A := A) (kPnil) hK ((kDnil (A := A))) hG hZ hS qF) rfl rfl hl.1 rfl (lv_room (Nat.le_of_ble_eq_true rfl)) (kdr dgX1_fit_0 0 1 rfl rfl) ⟨(Nat.le_of_ble_eq_true rfl), (Nat.le_of_ble_eq_true rfl)⟩) hP hD hS hA kFr_n ht hlocks (Nat.le_of_ble_eq_true rfl) (Nat.le_of_ble_eq_true rfl)
  · obtain ⟨r1, g1, h⟩ := g_b h
    refine kq_v (wSB cI cJ cZ a ce fr un sb se so sc wb we wo wc fb fe fo fc rm ac rf kn) (fun qP qD qF => va_runS (As := [.int p0]) (rest := []) ⟨hx, hb, hml, hown, hts⟩ (c_X1_needCell l dC dI cB cI cJ cZ  _  p0 r1 g1) (kcwS hts kw_473 kv_X1_needCell rfl rfl ⟨(Nat.le_of_ble_eq_true rfl), (Nat.le_of_ble_eq_true rfl)⟩) (kpS (A := A) (kPnil) hK ((kDnil (A := A))) hG) rfl rfl hl.1 rfl (lv_room (Nat.le_of_ble_eq_true rfl)) (kdr dgX1_fit_0 0 1 rfl rfl) ⟨(Nat.le_of_ble_eq_true rfl), (Nat.le_of_ble_eq_true rfl)⟩) hP hD hS hA kFr_n (fun H locs hP hD hS => ?_)
    refine lv_iload hx hb (kdr dgX1_fit_0 0 2 rfl rfl) (lv_at hl 4 rfl) ?_
    rcases g_x h with ⟨k2, j2, h⟩ | ⟨-, h⟩
    · have h := Option.some.inj h
      subst h
      exact kq_x (wSB cI cJ cZ a ce fr un sb se so sc wb we wo wc fb fe fo fc rm ac rf kn) (fun qP qD qF => vx_runS (As := [.int p3]) (rest := []) ⟨hx, hb, hml, hown, hts⟩ (x_X1_needCell l hl9 dC dI cB cI cJ cZ  _  p3 k2 j2) (kcwS hts kw_473 kv_X1_needCell rfl rfl ⟨(Nat.le_of_ble_eq_true rfl), (Nat.le_of_ble_eq_true rfl)⟩) (kpSXq (A := A) (kPnil) hK ((kDnil (A := A))) hG hZ hS qF) rfl rfl hl.1 rfl (lv_room (Nat.le_of_ble_eq_true rfl)) (kdr dgX1_fit_0 0 3 rfl rfl) ⟨(Nat.le_of_ble_eq_true rfl), (Nat.le_of_ble_eq_true rfl)⟩) hP hD hS hA kFr_n ht hlocks (Nat.le_of_ble_eq_true rfl) (Nat.le_of_ble_eq_true rfl)
    · obtain ⟨r2, g2, h⟩ := g_b h
      refine kq_v (wSB cI cJ cZ a ce fr un sb se so sc wb we wo wc fb fe fo fc rm ac rf kn) (fun qP qD qF => va_runS (As := [.int p3]) (rest := []) ⟨hx, hb, hml, hown, hts⟩ (c_X1_needCell l dC dI cB cI cJ cZ  _  p3 r2 g2) (kcwS hts kw_473 kv_X1_needCell rfl rfl ⟨(Nat.le_of_ble_eq_true rfl), (Nat.le_of_ble_eq_true rfl)⟩) (kpS (A := A) (kPnil) hK ((kDnil (A := A))) hG) rfl rfl hl.1 rfl (lv_room (Nat.le_of_ble_eq_true rfl)) (kdr dgX1_fit_0 0 3 rfl rfl) ⟨(Nat.le_of_ble_eq_true rfl), (Nat.le_of_ble_eq_true rfl)⟩) hP hD hS hA kFr_n (fun H locs hP hD hS => ?_)
      refine lv_iload_n hx hb (kdr dgX1_fit_0 0 4 rfl rfl) rfl (lv_at hl 2 rfl) ?_
      refine lv_iload_n hx hb (kdr dgX1_fit_0 0 5 rfl rfl) rfl (lv_at hl 3 rfl) ?_
      refine lv_iconst (v := 1) hx hb (kdr dgX1_fit_0 0 6 rfl rfl) (by decide) ?_
      rcases g_x h with ⟨k3, j3, h⟩ | ⟨-, h⟩
      · have h := Option.some.inj h
        subst h
        exact kq_x (wSB cI cJ cZ a ce fr un sb se so sc wb we wo wc fb fe fo fc rm ac rf kn) (fun qP qD qF => vx_runS (As := [.int p1, .int p2, .int 1]) (rest := []) ⟨hx, hb, hml, hown, hts⟩ (x_X1_needUnits l hl9 dC dI cB cI cJ cZ  _  p1 p2 1 k3 j3) (kcwS hts kw_512 kv_X1_needUnits rfl rfl ⟨(Nat.le_of_ble_eq_true rfl), (Nat.le_of_ble_eq_true rfl)⟩) (kpSXq (A := A) (kPnil) hK ((kDnil (A := A))) hG hZ hS qF) rfl rfl hl.1 rfl (lv_room (Nat.le_of_ble_eq_true rfl)) (kdr dgX1_fit_0 0 7 rfl rfl) ⟨(Nat.le_of_ble_eq_true rfl), (Nat.le_of_ble_eq_true rfl)⟩) hP hD hS hA kFr_n ht hlocks (Nat.le_of_ble_eq_true rfl) (Nat.le_of_ble_eq_true rfl)
      · cases h
noncomputable abbrev wsX1_wish : List Cond := kWs yX1_wish cX1_wish 3 (some .int)
noncomputable def f_X1_wish_36 (wb : Nat → Int64) (we : Nat → Int64) (wo : Nat → Int32) (wc : Int32) (ac : Int32) (rf : Int32) : Option ((Int32) × (Nat → Int64) × (Nat → Int64) × (Nat → Int32) × (Int32) × (Int32) × (Int32)) :=
  (f_X1_refuse rf).bind fun r1 =>
  some (r1.1, wb, we, wo, wc, ac, r1.2)
theorem f_X1_wish_36_e {wb : Nat → Int64} {we : Nat → Int64} {wo : Nat → Int32} {wc : Int32} {ac : Int32} {rf : Int32} : f_X1_wish_36 wb we wo wc ac rf =
  (f_X1_refuse rf).bind fun r1 =>
  some (r1.1, wb, we, wo, wc, ac, r1.2) := rfl
noncomputable def f_X1_wish (ce : Nat → Int64) (wb : Nat → Int64) (we : Nat → Int64) (wo : Nat → Int32) (wc : Int32) (ac : Int32) (rf : Int32) (p0 : Int32) (p1 : Int32) : Option ((Int32) × (Nat → Int64) × (Nat → Int64) × (Nat → Int32) × (Int32) × (Int32) × (Int32)) :=
  (f_X1_needCell p0).bind fun r1 =>
  (f_X1_needCell p1).bind fun r2 =>
  if ix p0 4 then
    if ix p1 4 then
      if (ce p1.toNatClampNeg) ≤ (ce p0.toNatClampNeg) then
        f_X1_wish_36 wb we wo wc ac rf
      else
        (f_X0_count wc).bind fun r6 =>
        if r6 < 8 then
          (f_X0_add wb we wo wc (ce p0.toNatClampNeg) (ce p1.toNatClampNeg) 0).bind fun r8 =>
          (f_X1_done ac r8.1).bind fun r9 =>
          some (r9.1, r8.2.1, r8.2.2.1, r8.2.2.2.1, r8.2.2.2.2, r9.2, rf)
        else
          f_X1_wish_36 wb we wo wc ac rf
    else none
  else none
theorem f_X1_wish_e {ce : Nat → Int64} {wb : Nat → Int64} {we : Nat → Int64} {wo : Nat → Int32} {wc : Int32} {ac : Int32} {rf : Int32} {p0 : Int32} {p1 : Int32} : f_X1_wish ce wb we wo wc ac rf p0 p1 = 
  (f_X1_needCell p0).bind fun r1 =>
  (f_X1_needCell p1).bind fun r2 =>
  if ix p0 4 then
    if ix p1 4 then
      if (ce p1.toNatClampNeg) ≤ (ce p0.toNatClampNeg) then
        f_X1_wish_36 wb we wo wc ac rf
      else
        (f_X0_count wc).bind fun r6 =>
        if r6 < 8 then
          (f_X0_add wb we wo wc (ce p0.toNatClampNeg) (ce p1.toNatClampNeg) 0).bind fun r8 =>
          (f_X1_done ac r8.1).bind fun r9 =>
          some (r9.1, r8.2.1, r8.2.2.1, r8.2.2.2.1, r8.2.2.2.2, r9.2, rf)
        else
          f_X1_wish_36 wb we wo wc ac rf
    else none
  else none := rfl
set_option maxHeartbeats 4000000 in
set_option maxRecDepth 100000 in
theorem c_X1_wish (l : Launch) (dC : Nat → ClassId) (dI : Nat → Nat → Nat) (cB cI cJ cZ : ClassId) (a : Nat → Nat) (sz : Nat) (ce : Nat → Int64) (fr : Int64) (un : Int64) (sb : Nat → Int64) (se : Nat → Int64) (so : Nat → Int32) (sc : Int32) (wb : Nat → Int64) (we : Nat → Int64) (wo : Nat → Int32) (wc : Int32) (fb : Nat → Int64) (fe : Nat → Int64) (fo : Nat → Int32) (fc : Int32) (rm : Nat → Int32) (ac : Int32) (rf : Int32) (kn : Int32) (p0 : Int32) (p1 : Int32) (res : (Int32) × (Nat → Int64) × (Nat → Int64) × (Nat → Int32) × (Int32) × (Int32) × (Int32)) (hf : f_X1_wish ce wb we wo wc ac rf p0 p1 = some res) : kMi l yX1_wish wsX1_wish (kRm 2 0 0 42) dC dI cB cI cJ cZ [.ref (a 0), .int p0, .int p1] sz (wSB cI cJ cZ a ce fr un sb se so sc wb we wo wc fb fe fo fc rm ac rf kn) .int (res.1) (wSB cI cJ cZ a ce fr un sb se so sc (res.2.1) (res.2.2.1) (res.2.2.2.1) (res.2.2.2.2.1) fb fe fo fc rm (res.2.2.2.2.2.1) (res.2.2.2.2.2.2) kn) 0 0 := by
  refine kmet_i (y := yX1_wish) (cc := cX1_wish) (maxL := 3) (ret := (some .int)) RX1 (kvA 0 (a 0) (kvI 1 p0 (kvI 2 p1 kvE))) kpl_X1 rfl rfl (Nat.le_of_ble_eq_true rfl) rfl (fun p e s m below meth c A ls hx hb hr hml hts hown hlocks hP hK hG hD hA hS hl => ?_)
  have hw0 := hts (.fieldLink RX1 9 "Spanbooker" "cells" "[J") (List.mem_cons_of_mem _ kw_107)
  have hw1 := hts (.fieldLink RX1 29 "Spanbooker" "wishRow" "LSpanbooker$Row;") (List.mem_cons_of_mem _ kw_111)
  have hiX1 : ∀ w ∈ u_ws RX1 TX1 10, w ∈ wsX1_wish := fun w h => List.mem_cons_of_mem _ (ku_X1 w h)
  have J36 : ∀ (ce : Nat → Int64) (fr : Int64) (un : Int64) (sb : Nat → Int64) (se : Nat → Int64) (so : Nat → Int32) (sc : Int32) (wb : Nat → Int64) (we : Nat → Int64) (wo : Nat → Int32) (wc : Int32) (fb : Nat → Int64) (fe : Nat → Int64) (fo : Nat → Int32) (fc : Int32) (rm : Nat → Int32) (ac : Int32) (rf : Int32) (kn : Int32) (H : Heap) (locs : List Loc), va_P (dC, dI) vwCl (wSB cI cJ cZ a ce fr un sb se so sc wb we wo wc fb fe fo fc rm ac rf kn) H → va_D A (wSB cI cJ cZ a ce fr un sb se so sc wb we wo wc fb fe fo fc rm ac rf kn) → va_S A s.heap H locs → ∀ (ls : Array Slot), lv_has ls 3 (kvA 0 (a 0) kvE) → f_X1_wish_36 wb we wo wc ac rf = some res → W p l e (headSpec wsX1_wish (kRm 2 0 0 42)).room s m ([.ref (a 0), .int p0, .int p1] : List Value).toArray below meth c H locs 0 0 (MQ below (kI (dC, dI) .int (res.1) (wSB cI cJ cZ a ce fr un sb se so sc (res.2.1) (res.2.2.1) (res.2.2.2.1) (res.2.2.2.2.1) fb fe fo fc rm (res.2.2.2.2.2.1) (res.2.2.2.2.2.2) kn) A) ([.ref (a 0), .int p0, .int p1] : List Value).toArray s 0 0 A) (F0 m 36 ls []) := by
    intro ce fr un sb se so sc wb we wo wc fb fe fo fc rm ac rf kn H locs hP hD hS ls hl h
    have h := f_X1_wish_36_e.symm.trans h
    refine lv_aload_n hx hb (kdr dgX1_wish_0 1 9 rfl rfl) rfl (lv_at hl 0 rfl) ?_
    obtain ⟨r1, g1, h⟩ := g_b h
    refine kq_i (wSB cI cJ cZ a ce fr un sb se so sc wb we wo wc fb fe fo fc rm ac r1.2 kn) (fun qP qD qF => va_runV (As := []) (rest := []) ⟨hx, hb, hml, hown, hts⟩ (c_X1_refuse l dC dI cB cI cJ cZ a _ ce fr un sb se so sc wb we wo wc fb fe fo fc rm ac rf kn  r1 g1) (kcwV hts kw_501 kv_X1_refuse rfl rfl ⟨(Nat.le_of_ble_eq_true rfl), (Nat.le_of_ble_eq_true rfl)⟩) (kpV (A := A) qP hK qD hG (krecv_3 (q0 := 0) hK hP rfl)) rfl rfl hl.1 rfl (lv_room (Nat.le_of_ble_eq_true rfl)) (kdr dgX1_wish_0 2 0 rfl rfl) ⟨(Nat.le_of_ble_eq_true rfl), (Nat.le_of_ble_eq_true rfl)⟩) hP hD hS hA kFr_SB (fun H locs hP hD hS br1 => ?_)
    have h := Option.some.inj h
    subst h
    exact kret_i (v := r1.1) hx hb hr rfl hlocks hS hP (kdr dgX1_wish_0 2 1 rfl rfl)
  have h := f_X1_wish_e.symm.trans hf
  refine lv_iload_n hx hb (kdr dgX1_wish_0 0 0 rfl rfl) rfl (lv_at hl 1 rfl) ?_
  obtain ⟨r1, g1, h⟩ := g_b h
  refine kq_v (wSB cI cJ cZ a ce fr un sb se so sc wb we wo wc fb fe fo fc rm ac rf kn) (fun qP qD qF => va_runS (As := [.int p0]) (rest := []) ⟨hx, hb, hml, hown, hts⟩ (c_X1_needCell l dC dI cB cI cJ cZ  _  p0 r1 g1) (kcwS hts kw_473 kv_X1_needCell rfl rfl ⟨(Nat.le_of_ble_eq_true rfl), (Nat.le_of_ble_eq_true rfl)⟩) (kpS (A := A) (kPnil) hK ((kDnil (A := A))) hG) rfl rfl hl.1 rfl (lv_room (Nat.le_of_ble_eq_true rfl)) (kdr dgX1_wish_0 0 1 rfl rfl) ⟨(Nat.le_of_ble_eq_true rfl), (Nat.le_of_ble_eq_true rfl)⟩) hP hD hS hA kFr_n (fun H locs hP hD hS => ?_)
  refine lv_iload_n hx hb (kdr dgX1_wish_0 0 2 rfl rfl) rfl (lv_at hl 2 rfl) ?_
  obtain ⟨r2, g2, h⟩ := g_b h
  refine kq_v (wSB cI cJ cZ a ce fr un sb se so sc wb we wo wc fb fe fo fc rm ac rf kn) (fun qP qD qF => va_runS (As := [.int p1]) (rest := []) ⟨hx, hb, hml, hown, hts⟩ (c_X1_needCell l dC dI cB cI cJ cZ  _  p1 r2 g2) (kcwS hts kw_473 kv_X1_needCell rfl rfl ⟨(Nat.le_of_ble_eq_true rfl), (Nat.le_of_ble_eq_true rfl)⟩) (kpS (A := A) (kPnil) hK ((kDnil (A := A))) hG) rfl rfl hl.1 rfl (lv_room (Nat.le_of_ble_eq_true rfl)) (kdr dgX1_wish_0 0 3 rfl rfl) ⟨(Nat.le_of_ble_eq_true rfl), (Nat.le_of_ble_eq_true rfl)⟩) hP hD hS hA kFr_n (fun H locs hP hD hS => ?_)
  refine lv_aload_n hx hb (kdr dgX1_wish_0 0 4 rfl rfl) rfl (lv_at hl 0 rfl) ?_
  refine va_get (D := (dC, dI)) (ci := 3) (v := .ref (a 1)) (C := RX1) (T := TX1) (N := 10) hx hb hts hiX1 hown hK hP 0 rfl rfl 0 (by decide) hw0 (fun _ h9 => h9) rfl (kdr dgX1_wish_0 0 5 rfl rfl) ?_
  refine lv_iload_n hx hb (kdr dgX1_wish_0 0 6 rfl rfl) rfl (lv_at hl 1 rfl) ?_
  obtain ⟨z2, h⟩ := g_if h
  refine va_lald hx hb hK hP 1 2 rfl rfl (ix_in z2) (kdr dgX1_wish_0 0 7 rfl rfl) ?_
  refine lv_aload_n hx hb (kdr dgX1_wish_0 0 8 rfl rfl) rfl (lv_at hl 0 rfl) ?_
  refine va_get (D := (dC, dI)) (ci := 3) (v := .ref (a 1)) (C := RX1) (T := TX1) (N := 10) hx hb hts hiX1 hown hK hP 0 rfl rfl 0 (by decide) hw0 (fun _ h9 => h9) rfl (kdr dgX1_wish_0 0 9 rfl rfl) ?_
  refine lv_iload_n hx hb (kdr dgX1_wish_0 1 0 rfl rfl) rfl (lv_at hl 2 rfl) ?_
  obtain ⟨z3, h⟩ := g_if h
  refine va_lald hx hb hK hP 1 2 rfl rfl (ix_in z3) (kdr dgX1_wish_0 1 1 rfl rfl) ?_
  refine kl_ge (pc := 20) (tgt := 36) hx hb (kdr dgX1_wish_0 1 2 rfl rfl) (kdr dgX1_wish_0 1 3 rfl rfl) (by decide) (fun c5 => ?_) (fun c5 => ?_)
  · have h := g_t c5 h
    exact J36 ce fr un sb se so sc wb we wo wc fb fe fo fc rm ac rf kn _ _ hP hD hS ls (lv_sub hl [0] rfl) h
  · have h := g_f c5 h
    refine lv_aload_n hx hb (kdr dgX1_wish_0 1 4 rfl rfl) rfl (lv_at hl 0 rfl) ?_
    refine va_get (D := (dC, dI)) (ci := 3) (v := .ref (a 6)) (C := RX1) (T := TX1) (N := 10) hx hb hts hiX1 hown hK hP 0 rfl rfl 4 (by decide) hw1 (fun _ h9 => h9) rfl (kdr dgX1_wish_0 1 5 rfl rfl) ?_
    obtain ⟨r6, g6, h⟩ := g_b h
    refine kq_i (wSB cI cJ cZ a ce fr un sb se so sc wb we wo wc fb fe fo fc rm ac rf kn) (fun qP qD qF => va_runV (As := []) (rest := []) ⟨hx, hb, hml, hown, hts⟩ (c_X0_count l dC dI cB cI cJ cZ (a 6) (a 7) (a 8) (a 9) _ wb we wo wc  r6 g6) (kcwV hts kw_155 kv_X0_count rfl rfl ⟨(Nat.le_of_ble_eq_true rfl), (Nat.le_of_ble_eq_true rfl)⟩) (kpV (A := A) qP hK qD hG (krecv_2 (q0 := 6) hK hP rfl)) rfl rfl hl.1 rfl (lv_room (Nat.le_of_ble_eq_true rfl)) (kdr dgX1_wish_0 1 6 rfl rfl) ⟨(Nat.le_of_ble_eq_true rfl), (Nat.le_of_ble_eq_true rfl)⟩) hP hD hS hA kFr_SBw (fun H locs hP hD hS br6 => ?_)
    refine lv_bipush (v := 8) hx hb (kdr dgX1_wish_0 1 7 rfl rfl) (by decide) ?_
    refine lv_icmp_lt (tgt := 41) hx hb (kdr dgX1_wish_0 1 8 rfl rfl) (by decide) (fun c7 => ?_) (fun c7 => ?_)
    · have h := g_t c7 h
      refine lv_aload_n hx hb (kdr dgX1_wish_0 2 2 rfl rfl) rfl (lv_at hl 0 rfl) ?_
      refine lv_aload_n hx hb (kdr dgX1_wish_0 2 3 rfl rfl) rfl (lv_at hl 0 rfl) ?_
      refine va_get (D := (dC, dI)) (ci := 3) (v := .ref (a 6)) (C := RX1) (T := TX1) (N := 10) hx hb hts hiX1 hown hK hP 0 rfl rfl 4 (by decide) hw1 (fun _ h9 => h9) rfl (kdr dgX1_wish_0 2 4 rfl rfl) ?_
      refine lv_aload_n hx hb (kdr dgX1_wish_0 2 5 rfl rfl) rfl (lv_at hl 0 rfl) ?_
      refine va_get (D := (dC, dI)) (ci := 3) (v := .ref (a 1)) (C := RX1) (T := TX1) (N := 10) hx hb hts hiX1 hown hK hP 0 rfl rfl 0 (by decide) hw0 (fun _ h9 => h9) rfl (kdr dgX1_wish_0 2 6 rfl rfl) ?_
      refine lv_iload_n hx hb (kdr dgX1_wish_0 2 7 rfl rfl) rfl (lv_at hl 1 rfl) ?_
      refine va_lald hx hb hK hP 1 2 rfl rfl (ix_in z2) (kdr dgX1_wish_0 2 8 rfl rfl) ?_
      refine lv_aload_n hx hb (kdr dgX1_wish_0 2 9 rfl rfl) rfl (lv_at hl 0 rfl) ?_
      refine va_get (D := (dC, dI)) (ci := 3) (v := .ref (a 1)) (C := RX1) (T := TX1) (N := 10) hx hb hts hiX1 hown hK hP 0 rfl rfl 0 (by decide) hw0 (fun _ h9 => h9) rfl (kdr dgX1_wish_0 3 0 rfl rfl) ?_
      refine lv_iload_n hx hb (kdr dgX1_wish_0 3 1 rfl rfl) rfl (lv_at hl 2 rfl) ?_
      refine va_lald hx hb hK hP 1 2 rfl rfl (ix_in z3) (kdr dgX1_wish_0 3 2 rfl rfl) ?_
      refine lv_iconst (v := 0) hx hb (kdr dgX1_wish_0 3 3 rfl rfl) (by decide) ?_
      obtain ⟨r8, g8, h⟩ := g_b h
      refine kq_i (wSB cI cJ cZ a ce fr un sb se so sc r8.2.1 r8.2.2.1 r8.2.2.2.1 r8.2.2.2.2 fb fe fo fc rm ac rf kn) (fun qP qD qF => va_runV (As := [.long (ce p0.toNatClampNeg), .long (ce p1.toNatClampNeg), .int 0]) (rest := [.ref (a 0)]) ⟨hx, hb, hml, hown, hts⟩ (c_X0_add l dC dI cB cI cJ cZ (a 6) (a 7) (a 8) (a 9) _ wb we wo wc (ce p0.toNatClampNeg) (ce p1.toNatClampNeg) 0 r8 g8) (kcwV hts kw_215 kv_X0_add rfl rfl ⟨(Nat.le_of_ble_eq_true rfl), (Nat.le_of_ble_eq_true rfl)⟩) (kpV (A := A) qP hK qD hG (krecv_2 (q0 := 6) hK hP rfl)) rfl rfl hl.1 rfl (lv_room (Nat.le_of_ble_eq_true rfl)) (kdr dgX1_wish_0 3 4 rfl rfl) ⟨(Nat.le_of_ble_eq_true rfl), (Nat.le_of_ble_eq_true rfl)⟩) hP hD hS hA kFr_SBw (fun H locs hP hD hS br8 => ?_)
      obtain ⟨r9, g9, h⟩ := g_b h
      refine kq_i (wSB cI cJ cZ a ce fr un sb se so sc r8.2.1 r8.2.2.1 r8.2.2.2.1 r8.2.2.2.2 fb fe fo fc rm r9.2 rf kn) (fun qP qD qF => va_runV (As := [.int r8.1]) (rest := []) ⟨hx, hb, hml, hown, hts⟩ (c_X1_done l dC dI cB cI cJ cZ a _ ce fr un sb se so sc r8.2.1 r8.2.2.1 r8.2.2.2.1 r8.2.2.2.2 fb fe fo fc rm ac rf kn r8.1 r9 g9) (kcwV hts kw_147 kv_X1_done rfl rfl ⟨(Nat.le_of_ble_eq_true rfl), (Nat.le_of_ble_eq_true rfl)⟩) (kpV (A := A) qP hK qD hG (krecv_3 (q0 := 0) hK hP rfl)) rfl rfl hl.1 rfl (lv_room (Nat.le_of_ble_eq_true rfl)) (kdr dgX1_wish_0 3 5 rfl rfl) ⟨(Nat.le_of_ble_eq_true rfl), (Nat.le_of_ble_eq_true rfl)⟩) hP hD hS hA kFr_SB (fun H locs hP hD hS br9 => ?_)
      have h := Option.some.inj h
      subst h
      exact kret_i (v := r9.1) hx hb hr rfl hlocks hS hP (kdr dgX1_wish_0 3 6 rfl rfl)
    · have h := g_f c7 h
      exact J36 ce fr un sb se so sc wb we wo wc fb fe fo fc rm ac rf kn _ _ hP hD hS ls (lv_sub hl [0] rfl) h
noncomputable def fx_X1_wish (p0 : Int32) (p1 : Int32) : Option (Nat) :=
  xb (fx_X1_needCell p0) (fun k1 => some k1) (
  (f_X1_needCell p0).bind fun r1 =>
  xb (fx_X1_needCell p1) (fun k2 => some k2) (
  none))
theorem fx_X1_wish_e {p0 : Int32} {p1 : Int32} : fx_X1_wish p0 p1 = 
  xb (fx_X1_needCell p0) (fun k1 => some k1) (
  (f_X1_needCell p0).bind fun r1 =>
  xb (fx_X1_needCell p1) (fun k2 => some k2) (
  none)) := rfl
set_option maxHeartbeats 4000000 in
set_option maxRecDepth 100000 in
theorem x_X1_wish (l : Launch) (hl9 : l.stackTraces = false) (dC : Nat → ClassId) (dI : Nat → Nat → Nat) (cB cI cJ cZ : ClassId) (a : Nat → Nat) (sz : Nat) (ce : Nat → Int64) (fr : Int64) (un : Int64) (sb : Nat → Int64) (se : Nat → Int64) (so : Nat → Int32) (sc : Int32) (wb : Nat → Int64) (we : Nat → Int64) (wo : Nat → Int32) (wc : Int32) (fb : Nat → Int64) (fe : Nat → Int64) (fo : Nat → Int32) (fc : Int32) (rm : Nat → Int32) (ac : Int32) (rf : Int32) (kn : Int32) (p0 : Int32) (p1 : Int32) (res : Nat) (hf : fx_X1_wish p0 p1 = some res) : kMX l yX1_wish wsX1_wish (kRm 7 1 6 110) dC dI cB cI cJ cZ [.ref (a 0), .int p0, .int p1] sz (wSB cI cJ cZ a ce fr un sb se so sc wb we wo wc fb fe fo fc rm ac rf kn) (res) (wSB cI cJ cZ a ce fr un sb se so sc wb we wo wc fb fe fo fc rm ac rf kn) 1 6 := by
  refine kmet_x (y := yX1_wish) (cc := cX1_wish) (maxL := 3) (ret := (some .int)) RX1 (kvA 0 (a 0) (kvI 1 p0 (kvI 2 p1 kvE))) kpl_X1 rfl rfl (Nat.le_of_ble_eq_true rfl) rfl (fun p e s m below meth c A ls hx hb hr hml ht hts hown hlocks hP hK hG hZ hD hA hS hl => ?_)
  have h := fx_X1_wish_e.symm.trans hf
  refine lv_iload_n hx hb (kdr dgX1_wish_0 0 0 rfl rfl) rfl (lv_at hl 1 rfl) ?_
  rcases g_x h with ⟨k1, j1, h⟩ | ⟨-, h⟩
  · have h := Option.some.inj h
    subst h
    exact kq_x (wSB cI cJ cZ a ce fr un sb se so sc wb we wo wc fb fe fo fc rm ac rf kn) (fun qP qD qF => vx_runS (As := [.int p0]) (rest := []) ⟨hx, hb, hml, hown, hts⟩ (x_X1_needCell l hl9 dC dI cB cI cJ cZ  _  p0 k1 j1) (kcwS hts kw_473 kv_X1_needCell rfl rfl ⟨(Nat.le_of_ble_eq_true rfl), (Nat.le_of_ble_eq_true rfl)⟩) (kpSXq (A := A) (kPnil) hK ((kDnil (A := A))) hG hZ hS qF) rfl rfl hl.1 rfl (lv_room (Nat.le_of_ble_eq_true rfl)) (kdr dgX1_wish_0 0 1 rfl rfl) ⟨(Nat.le_of_ble_eq_true rfl), (Nat.le_of_ble_eq_true rfl)⟩) hP hD hS hA kFr_n ht hlocks (Nat.le_of_ble_eq_true rfl) (Nat.le_of_ble_eq_true rfl)
  · obtain ⟨r1, g1, h⟩ := g_b h
    refine kq_v (wSB cI cJ cZ a ce fr un sb se so sc wb we wo wc fb fe fo fc rm ac rf kn) (fun qP qD qF => va_runS (As := [.int p0]) (rest := []) ⟨hx, hb, hml, hown, hts⟩ (c_X1_needCell l dC dI cB cI cJ cZ  _  p0 r1 g1) (kcwS hts kw_473 kv_X1_needCell rfl rfl ⟨(Nat.le_of_ble_eq_true rfl), (Nat.le_of_ble_eq_true rfl)⟩) (kpS (A := A) (kPnil) hK ((kDnil (A := A))) hG) rfl rfl hl.1 rfl (lv_room (Nat.le_of_ble_eq_true rfl)) (kdr dgX1_wish_0 0 1 rfl rfl) ⟨(Nat.le_of_ble_eq_true rfl), (Nat.le_of_ble_eq_true rfl)⟩) hP hD hS hA kFr_n (fun H locs hP hD hS => ?_)
    refine lv_iload_n hx hb (kdr dgX1_wish_0 0 2 rfl rfl) rfl (lv_at hl 2 rfl) ?_
    rcases g_x h with ⟨k2, j2, h⟩ | ⟨-, h⟩
    · have h := Option.some.inj h
      subst h
      exact kq_x (wSB cI cJ cZ a ce fr un sb se so sc wb we wo wc fb fe fo fc rm ac rf kn) (fun qP qD qF => vx_runS (As := [.int p1]) (rest := []) ⟨hx, hb, hml, hown, hts⟩ (x_X1_needCell l hl9 dC dI cB cI cJ cZ  _  p1 k2 j2) (kcwS hts kw_473 kv_X1_needCell rfl rfl ⟨(Nat.le_of_ble_eq_true rfl), (Nat.le_of_ble_eq_true rfl)⟩) (kpSXq (A := A) (kPnil) hK ((kDnil (A := A))) hG hZ hS qF) rfl rfl hl.1 rfl (lv_room (Nat.le_of_ble_eq_true rfl)) (kdr dgX1_wish_0 0 3 rfl rfl) ⟨(Nat.le_of_ble_eq_true rfl), (Nat.le_of_ble_eq_true rfl)⟩) hP hD hS hA kFr_n ht hlocks (Nat.le_of_ble_eq_true rfl) (Nat.le_of_ble_eq_true rfl)
    · cases h
noncomputable abbrev wsX1_unwish : List Cond := kWs yX1_unwish cX1_unwish 2 (some .int)
noncomputable def f_X1_unwish (wb : Nat → Int64) (we : Nat → Int64) (wo : Nat → Int32) (wc : Int32) (ac : Int32) (p0 : Int32) : Option ((Int32) × (Nat → Int64) × (Nat → Int64) × (Nat → Int32) × (Int32) × (Int32)) :=
  (f_X1_needNumberIn wc p0).bind fun r1 =>
  (f_X0_remove wb we wo wc p0).bind fun r2 =>
  (f_X1_done ac r2.1).bind fun r3 =>
  some (r3.1, r2.2.1, r2.2.2.1, r2.2.2.2.1, r2.2.2.2.2, r3.2)
theorem f_X1_unwish_e {wb : Nat → Int64} {we : Nat → Int64} {wo : Nat → Int32} {wc : Int32} {ac : Int32} {p0 : Int32} : f_X1_unwish wb we wo wc ac p0 = 
  (f_X1_needNumberIn wc p0).bind fun r1 =>
  (f_X0_remove wb we wo wc p0).bind fun r2 =>
  (f_X1_done ac r2.1).bind fun r3 =>
  some (r3.1, r2.2.1, r2.2.2.1, r2.2.2.2.1, r2.2.2.2.2, r3.2) := rfl
set_option maxHeartbeats 4000000 in
set_option maxRecDepth 100000 in
theorem c_X1_unwish (l : Launch) (dC : Nat → ClassId) (dI : Nat → Nat → Nat) (cB cI cJ cZ : ClassId) (a : Nat → Nat) (sz : Nat) (ce : Nat → Int64) (fr : Int64) (un : Int64) (sb : Nat → Int64) (se : Nat → Int64) (so : Nat → Int32) (sc : Int32) (wb : Nat → Int64) (we : Nat → Int64) (wo : Nat → Int32) (wc : Int32) (fb : Nat → Int64) (fe : Nat → Int64) (fo : Nat → Int32) (fc : Int32) (rm : Nat → Int32) (ac : Int32) (rf : Int32) (kn : Int32) (p0 : Int32) (res : (Int32) × (Nat → Int64) × (Nat → Int64) × (Nat → Int32) × (Int32) × (Int32)) (hf : f_X1_unwish wb we wo wc ac p0 = some res) : kMi l yX1_unwish wsX1_unwish (kRm 2 0 0 43) dC dI cB cI cJ cZ [.ref (a 0), .int p0] sz (wSB cI cJ cZ a ce fr un sb se so sc wb we wo wc fb fe fo fc rm ac rf kn) .int (res.1) (wSB cI cJ cZ a ce fr un sb se so sc (res.2.1) (res.2.2.1) (res.2.2.2.1) (res.2.2.2.2.1) fb fe fo fc rm (res.2.2.2.2.2) rf kn) 0 0 := by
  refine kmet_i (y := yX1_unwish) (cc := cX1_unwish) (maxL := 2) (ret := (some .int)) RX1 (kvA 0 (a 0) (kvI 1 p0 kvE)) kpl_X1 rfl rfl (Nat.le_of_ble_eq_true rfl) rfl (fun p e s m below meth c A ls hx hb hr hml hts hown hlocks hP hK hG hD hA hS hl => ?_)
  have hw0 := hts (.fieldLink RX1 29 "Spanbooker" "wishRow" "LSpanbooker$Row;") (List.mem_cons_of_mem _ kw_111)
  have hiX1 : ∀ w ∈ u_ws RX1 TX1 10, w ∈ wsX1_unwish := fun w h => List.mem_cons_of_mem _ (ku_X1 w h)
  have h := f_X1_unwish_e.symm.trans hf
  refine lv_aload_n hx hb (kdr dgX1_unwish_0 0 0 rfl rfl) rfl (lv_at hl 0 rfl) ?_
  refine va_get (D := (dC, dI)) (ci := 3) (v := .ref (a 6)) (C := RX1) (T := TX1) (N := 10) hx hb hts hiX1 hown hK hP 0 rfl rfl 4 (by decide) hw0 (fun _ h9 => h9) rfl (kdr dgX1_unwish_0 0 1 rfl rfl) ?_
  refine lv_iload_n hx hb (kdr dgX1_unwish_0 0 2 rfl rfl) rfl (lv_at hl 1 rfl) ?_
  obtain ⟨r1, g1, h⟩ := g_b h
  refine kq_v (wSB cI cJ cZ a ce fr un sb se so sc wb we wo wc fb fe fo fc rm ac rf kn) (fun qP qD qF => va_runS (As := [.ref (a 6), .int p0]) (rest := []) ⟨hx, hb, hml, hown, hts⟩ (c_X1_needNumberIn l dC dI cB cI cJ cZ (a 6) (a 7) (a 8) (a 9) _ wb we wo wc p0 r1 g1) (kcwS hts kw_592 kv_X1_needNumberIn rfl rfl ⟨(Nat.le_of_ble_eq_true rfl), (Nat.le_of_ble_eq_true rfl)⟩) (kpS (A := A) qP hK qD hG) rfl rfl hl.1 rfl (lv_room (Nat.le_of_ble_eq_true rfl)) (kdr dgX1_unwish_0 0 3 rfl rfl) ⟨(Nat.le_of_ble_eq_true rfl), (Nat.le_of_ble_eq_true rfl)⟩) hP hD hS hA kFr_SBw (fun H locs hP hD hS => ?_)
  refine lv_aload_n hx hb (kdr dgX1_unwish_0 0 4 rfl rfl) rfl (lv_at hl 0 rfl) ?_
  refine lv_aload_n hx hb (kdr dgX1_unwish_0 0 5 rfl rfl) rfl (lv_at hl 0 rfl) ?_
  refine va_get (D := (dC, dI)) (ci := 3) (v := .ref (a 6)) (C := RX1) (T := TX1) (N := 10) hx hb hts hiX1 hown hK hP 0 rfl rfl 4 (by decide) hw0 (fun _ h9 => h9) rfl (kdr dgX1_unwish_0 0 6 rfl rfl) ?_
  refine lv_iload_n hx hb (kdr dgX1_unwish_0 0 7 rfl rfl) rfl (lv_at hl 1 rfl) ?_
  obtain ⟨r2, g2, h⟩ := g_b h
  refine kq_i (wSB cI cJ cZ a ce fr un sb se so sc r2.2.1 r2.2.2.1 r2.2.2.2.1 r2.2.2.2.2 fb fe fo fc rm ac rf kn) (fun qP qD qF => va_runV (As := [.int p0]) (rest := [.ref (a 0)]) ⟨hx, hb, hml, hown, hts⟩ (c_X0_remove l dC dI cB cI cJ cZ (a 6) (a 7) (a 8) (a 9) _ wb we wo wc p0 r2 g2) (kcwV hts kw_596 kv_X0_remove rfl rfl ⟨(Nat.le_of_ble_eq_true rfl), (Nat.le_of_ble_eq_true rfl)⟩) (kpV (A := A) qP hK qD hG (krecv_2 (q0 := 6) hK hP rfl)) rfl rfl hl.1 rfl (lv_room (Nat.le_of_ble_eq_true rfl)) (kdr dgX1_unwish_0 0 8 rfl rfl) ⟨(Nat.le_of_ble_eq_true rfl), (Nat.le_of_ble_eq_true rfl)⟩) hP hD hS hA kFr_SBw (fun H locs hP hD hS br2 => ?_)
  obtain ⟨r3, g3, h⟩ := g_b h
  refine kq_i (wSB cI cJ cZ a ce fr un sb se so sc r2.2.1 r2.2.2.1 r2.2.2.2.1 r2.2.2.2.2 fb fe fo fc rm r3.2 rf kn) (fun qP qD qF => va_runV (As := [.int r2.1]) (rest := []) ⟨hx, hb, hml, hown, hts⟩ (c_X1_done l dC dI cB cI cJ cZ a _ ce fr un sb se so sc r2.2.1 r2.2.2.1 r2.2.2.2.1 r2.2.2.2.2 fb fe fo fc rm ac rf kn r2.1 r3 g3) (kcwV hts kw_147 kv_X1_done rfl rfl ⟨(Nat.le_of_ble_eq_true rfl), (Nat.le_of_ble_eq_true rfl)⟩) (kpV (A := A) qP hK qD hG (krecv_3 (q0 := 0) hK hP rfl)) rfl rfl hl.1 rfl (lv_room (Nat.le_of_ble_eq_true rfl)) (kdr dgX1_unwish_0 0 9 rfl rfl) ⟨(Nat.le_of_ble_eq_true rfl), (Nat.le_of_ble_eq_true rfl)⟩) hP hD hS hA kFr_SB (fun H locs hP hD hS br3 => ?_)
  have h := Option.some.inj h
  subst h
  exact kret_i (v := r3.1) hx hb hr rfl hlocks hS hP (kdr dgX1_unwish_0 1 0 rfl rfl)
noncomputable def fx_X1_unwish (wc : Int32) (p0 : Int32) : Option (Nat) :=
  xb (fx_X1_needNumberIn wc p0) (fun k1 => some k1) (
  none)
theorem fx_X1_unwish_e {wc : Int32} {p0 : Int32} : fx_X1_unwish wc p0 = 
  xb (fx_X1_needNumberIn wc p0) (fun k1 => some k1) (
  none) := rfl
set_option maxHeartbeats 4000000 in
set_option maxRecDepth 100000 in
theorem x_X1_unwish (l : Launch) (hl9 : l.stackTraces = false) (dC : Nat → ClassId) (dI : Nat → Nat → Nat) (cB cI cJ cZ : ClassId) (a : Nat → Nat) (sz : Nat) (ce : Nat → Int64) (fr : Int64) (un : Int64) (sb : Nat → Int64) (se : Nat → Int64) (so : Nat → Int32) (sc : Int32) (wb : Nat → Int64) (we : Nat → Int64) (wo : Nat → Int32) (wc : Int32) (fb : Nat → Int64) (fe : Nat → Int64) (fo : Nat → Int32) (fc : Int32) (rm : Nat → Int32) (ac : Int32) (rf : Int32) (kn : Int32) (p0 : Int32) (res : Nat) (hf : fx_X1_unwish wc p0 = some res) : kMX l yX1_unwish wsX1_unwish (kRm 7 1 6 111) dC dI cB cI cJ cZ [.ref (a 0), .int p0] sz (wSB cI cJ cZ a ce fr un sb se so sc wb we wo wc fb fe fo fc rm ac rf kn) (res) (wSB cI cJ cZ a ce fr un sb se so sc wb we wo wc fb fe fo fc rm ac rf kn) 1 6 := by
  refine kmet_x (y := yX1_unwish) (cc := cX1_unwish) (maxL := 2) (ret := (some .int)) RX1 (kvA 0 (a 0) (kvI 1 p0 kvE)) kpl_X1 rfl rfl (Nat.le_of_ble_eq_true rfl) rfl (fun p e s m below meth c A ls hx hb hr hml ht hts hown hlocks hP hK hG hZ hD hA hS hl => ?_)
  have hw0 := hts (.fieldLink RX1 29 "Spanbooker" "wishRow" "LSpanbooker$Row;") (List.mem_cons_of_mem _ kw_111)
  have hiX1 : ∀ w ∈ u_ws RX1 TX1 10, w ∈ wsX1_unwish := fun w h => List.mem_cons_of_mem _ (ku_X1 w h)
  have h := fx_X1_unwish_e.symm.trans hf
  refine lv_aload_n hx hb (kdr dgX1_unwish_0 0 0 rfl rfl) rfl (lv_at hl 0 rfl) ?_
  refine va_get (D := (dC, dI)) (ci := 3) (v := .ref (a 6)) (C := RX1) (T := TX1) (N := 10) hx hb hts hiX1 hown hK hP 0 rfl rfl 4 (by decide) hw0 (fun _ h9 => h9) rfl (kdr dgX1_unwish_0 0 1 rfl rfl) ?_
  refine lv_iload_n hx hb (kdr dgX1_unwish_0 0 2 rfl rfl) rfl (lv_at hl 1 rfl) ?_
  rcases g_x h with ⟨k1, j1, h⟩ | ⟨-, h⟩
  · have h := Option.some.inj h
    subst h
    exact kq_x (wSB cI cJ cZ a ce fr un sb se so sc wb we wo wc fb fe fo fc rm ac rf kn) (fun qP qD qF => vx_runS (As := [.ref (a 6), .int p0]) (rest := []) ⟨hx, hb, hml, hown, hts⟩ (x_X1_needNumberIn l hl9 dC dI cB cI cJ cZ (a 6) (a 7) (a 8) (a 9) _ wb we wo wc p0 k1 j1) (kcwS hts kw_592 kv_X1_needNumberIn rfl rfl ⟨(Nat.le_of_ble_eq_true rfl), (Nat.le_of_ble_eq_true rfl)⟩) (kpSXq (A := A) qP hK qD hG hZ hS qF) rfl rfl hl.1 rfl (lv_room (Nat.le_of_ble_eq_true rfl)) (kdr dgX1_unwish_0 0 3 rfl rfl) ⟨(Nat.le_of_ble_eq_true rfl), (Nat.le_of_ble_eq_true rfl)⟩) hP hD hS hA kFr_SBw ht hlocks (Nat.le_of_ble_eq_true rfl) (Nat.le_of_ble_eq_true rfl)
  · cases h
noncomputable abbrev wsX1_grant : List Cond := kWs yX1_grant cX1_grant 3 (some .int)
noncomputable def f_X1_grant (fr : Int64) (un : Int64) (sb : Nat → Int64) (se : Nat → Int64) (so : Nat → Int32) (sc : Int32) (wb : Nat → Int64) (we : Nat → Int64) (wo : Nat → Int32) (wc : Int32) (ac : Int32) (rf : Int32) (p0 : Int32) : Option ((Int32) × (Nat → Int64) × (Nat → Int64) × (Nat → Int32) × (Int32) × (Nat → Int64) × (Nat → Int64) × (Nat → Int32) × (Int32) × (Int32) × (Int32)) :=
  (f_X1_needNumberIn wc p0).bind fun r1 =>
  (f_X0_begin wb wc p0).bind fun r2 =>
  (f_X0_end we wc p0).bind fun r3 =>
  (f_X1_addSpan fr un sb se so sc r2 r3 0).bind fun r4 =>
  if r4.1 = (-1) then
    (f_X1_refuse rf).bind fun r6 =>
    some (r6.1, r4.2.1, r4.2.2.1, r4.2.2.2.1, r4.2.2.2.2, wb, we, wo, wc, ac, r6.2)
  else
    (f_X0_remove wb we wo wc p0).bind fun r6 =>
    (f_X1_done ac r4.1).bind fun r7 =>
    some (r7.1, r4.2.1, r4.2.2.1, r4.2.2.2.1, r4.2.2.2.2, r6.2.1, r6.2.2.1, r6.2.2.2.1, r6.2.2.2.2, r7.2, rf)
theorem f_X1_grant_e {fr : Int64} {un : Int64} {sb : Nat → Int64} {se : Nat → Int64} {so : Nat → Int32} {sc : Int32} {wb : Nat → Int64} {we : Nat → Int64} {wo : Nat → Int32} {wc : Int32} {ac : Int32} {rf : Int32} {p0 : Int32} : f_X1_grant fr un sb se so sc wb we wo wc ac rf p0 = 
  (f_X1_needNumberIn wc p0).bind fun r1 =>
  (f_X0_begin wb wc p0).bind fun r2 =>
  (f_X0_end we wc p0).bind fun r3 =>
  (f_X1_addSpan fr un sb se so sc r2 r3 0).bind fun r4 =>
  if r4.1 = (-1) then
    (f_X1_refuse rf).bind fun r6 =>
    some (r6.1, r4.2.1, r4.2.2.1, r4.2.2.2.1, r4.2.2.2.2, wb, we, wo, wc, ac, r6.2)
  else
    (f_X0_remove wb we wo wc p0).bind fun r6 =>
    (f_X1_done ac r4.1).bind fun r7 =>
    some (r7.1, r4.2.1, r4.2.2.1, r4.2.2.2.1, r4.2.2.2.2, r6.2.1, r6.2.2.1, r6.2.2.2.1, r6.2.2.2.2, r7.2, rf) := rfl
set_option maxHeartbeats 4000000 in
set_option maxRecDepth 100000 in
theorem c_X1_grant (l : Launch) (dC : Nat → ClassId) (dI : Nat → Nat → Nat) (cB cI cJ cZ : ClassId) (a : Nat → Nat) (sz : Nat) (ce : Nat → Int64) (fr : Int64) (un : Int64) (sb : Nat → Int64) (se : Nat → Int64) (so : Nat → Int32) (sc : Int32) (wb : Nat → Int64) (we : Nat → Int64) (wo : Nat → Int32) (wc : Int32) (fb : Nat → Int64) (fe : Nat → Int64) (fo : Nat → Int32) (fc : Int32) (rm : Nat → Int32) (ac : Int32) (rf : Int32) (kn : Int32) (p0 : Int32) (res : (Int32) × (Nat → Int64) × (Nat → Int64) × (Nat → Int32) × (Int32) × (Nat → Int64) × (Nat → Int64) × (Nat → Int32) × (Int32) × (Int32) × (Int32)) (hf : f_X1_grant fr un sb se so sc wb we wo wc ac rf p0 = some res) : kMi l yX1_grant wsX1_grant (kRm 2 0 0 51) dC dI cB cI cJ cZ [.ref (a 0), .int p0] sz (wSB cI cJ cZ a ce fr un sb se so sc wb we wo wc fb fe fo fc rm ac rf kn) .int (res.1) (wSB cI cJ cZ a ce fr un (res.2.1) (res.2.2.1) (res.2.2.2.1) (res.2.2.2.2.1) (res.2.2.2.2.2.1) (res.2.2.2.2.2.2.1) (res.2.2.2.2.2.2.2.1) (res.2.2.2.2.2.2.2.2.1) fb fe fo fc rm (res.2.2.2.2.2.2.2.2.2.1) (res.2.2.2.2.2.2.2.2.2.2) kn) 0 0 := by
  refine kmet_i (y := yX1_grant) (cc := cX1_grant) (maxL := 3) (ret := (some .int)) RX1 (kvA 0 (a 0) (kvI 1 p0 kvE)) kpl_X1 rfl rfl (Nat.le_of_ble_eq_true rfl) rfl (fun p e s m below meth c A ls hx hb hr hml hts hown hlocks hP hK hG hD hA hS hl => ?_)
  have hw0 := hts (.fieldLink RX1 29 "Spanbooker" "wishRow" "LSpanbooker$Row;") (List.mem_cons_of_mem _ kw_111)
  have hiX1 : ∀ w ∈ u_ws RX1 TX1 10, w ∈ wsX1_grant := fun w h => List.mem_cons_of_mem _ (ku_X1 w h)
  have h := f_X1_grant_e.symm.trans hf
  refine lv_aload_n hx hb (kdr dgX1_grant_0 0 0 rfl rfl) rfl (lv_at hl 0 rfl) ?_
  refine va_get (D := (dC, dI)) (ci := 3) (v := .ref (a 6)) (C := RX1) (T := TX1) (N := 10) hx hb hts hiX1 hown hK hP 0 rfl rfl 4 (by decide) hw0 (fun _ h9 => h9) rfl (kdr dgX1_grant_0 0 1 rfl rfl) ?_
  refine lv_iload_n hx hb (kdr dgX1_grant_0 0 2 rfl rfl) rfl (lv_at hl 1 rfl) ?_
  obtain ⟨r1, g1, h⟩ := g_b h
  refine kq_v (wSB cI cJ cZ a ce fr un sb se so sc wb we wo wc fb fe fo fc rm ac rf kn) (fun qP qD qF => va_runS (As := [.ref (a 6), .int p0]) (rest := []) ⟨hx, hb, hml, hown, hts⟩ (c_X1_needNumberIn l dC dI cB cI cJ cZ (a 6) (a 7) (a 8) (a 9) _ wb we wo wc p0 r1 g1) (kcwS hts kw_592 kv_X1_needNumberIn rfl rfl ⟨(Nat.le_of_ble_eq_true rfl), (Nat.le_of_ble_eq_true rfl)⟩) (kpS (A := A) qP hK qD hG) rfl rfl hl.1 rfl (lv_room (Nat.le_of_ble_eq_true rfl)) (kdr dgX1_grant_0 0 3 rfl rfl) ⟨(Nat.le_of_ble_eq_true rfl), (Nat.le_of_ble_eq_true rfl)⟩) hP hD hS hA kFr_SBw (fun H locs hP hD hS => ?_)
  refine lv_aload_n hx hb (kdr dgX1_grant_0 0 4 rfl rfl) rfl (lv_at hl 0 rfl) ?_
  refine lv_aload_n hx hb (kdr dgX1_grant_0 0 5 rfl rfl) rfl (lv_at hl 0 rfl) ?_
  refine va_get (D := (dC, dI)) (ci := 3) (v := .ref (a 6)) (C := RX1) (T := TX1) (N := 10) hx hb hts hiX1 hown hK hP 0 rfl rfl 4 (by decide) hw0 (fun _ h9 => h9) rfl (kdr dgX1_grant_0 0 6 rfl rfl) ?_
  refine lv_iload_n hx hb (kdr dgX1_grant_0 0 7 rfl rfl) rfl (lv_at hl 1 rfl) ?_
  obtain ⟨r2, g2, h⟩ := g_b h
  refine kq_l (wSB cI cJ cZ a ce fr un sb se so sc wb we wo wc fb fe fo fc rm ac rf kn) (fun qP qD qF => va_runV (As := [.int p0]) (rest := [.ref (a 0)]) ⟨hx, hb, hml, hown, hts⟩ (c_X0_begin l dC dI cB cI cJ cZ (a 6) (a 7) (a 8) (a 9) _ wb we wo wc p0 r2 g2) (kcwV hts kw_251 kv_X0_begin rfl rfl ⟨(Nat.le_of_ble_eq_true rfl), (Nat.le_of_ble_eq_true rfl)⟩) (kpV (A := A) qP hK qD hG (krecv_2 (q0 := 6) hK hP rfl)) rfl rfl hl.1 rfl (lv_room (Nat.le_of_ble_eq_true rfl)) (kdr dgX1_grant_0 0 8 rfl rfl) ⟨(Nat.le_of_ble_eq_true rfl), (Nat.le_of_ble_eq_true rfl)⟩) hP hD hS hA kFr_SBw (fun H locs hP hD hS => ?_)
  refine lv_aload_n hx hb (kdr dgX1_grant_0 0 9 rfl rfl) rfl (lv_at hl 0 rfl) ?_
  refine va_get (D := (dC, dI)) (ci := 3) (v := .ref (a 6)) (C := RX1) (T := TX1) (N := 10) hx hb hts hiX1 hown hK hP 0 rfl rfl 4 (by decide) hw0 (fun _ h9 => h9) rfl (kdr dgX1_grant_0 1 0 rfl rfl) ?_
  refine lv_iload_n hx hb (kdr dgX1_grant_0 1 1 rfl rfl) rfl (lv_at hl 1 rfl) ?_
  obtain ⟨r3, g3, h⟩ := g_b h
  refine kq_l (wSB cI cJ cZ a ce fr un sb se so sc wb we wo wc fb fe fo fc rm ac rf kn) (fun qP qD qF => va_runV (As := [.int p0]) (rest := [.long r2, .ref (a 0)]) ⟨hx, hb, hml, hown, hts⟩ (c_X0_end l dC dI cB cI cJ cZ (a 6) (a 7) (a 8) (a 9) _ wb we wo wc p0 r3 g3) (kcwV hts kw_194 kv_X0_end rfl rfl ⟨(Nat.le_of_ble_eq_true rfl), (Nat.le_of_ble_eq_true rfl)⟩) (kpV (A := A) qP hK qD hG (krecv_2 (q0 := 6) hK hP rfl)) rfl rfl hl.1 rfl (lv_room (Nat.le_of_ble_eq_true rfl)) (kdr dgX1_grant_0 1 2 rfl rfl) ⟨(Nat.le_of_ble_eq_true rfl), (Nat.le_of_ble_eq_true rfl)⟩) hP hD hS hA kFr_SBw (fun H locs hP hD hS => ?_)
  refine lv_iconst (v := 0) hx hb (kdr dgX1_grant_0 1 3 rfl rfl) (by decide) ?_
  obtain ⟨r4, g4, h⟩ := g_b h
  refine kq_i (wSB cI cJ cZ a ce fr un r4.2.1 r4.2.2.1 r4.2.2.2.1 r4.2.2.2.2 wb we wo wc fb fe fo fc rm ac rf kn) (fun qP qD qF => va_runV (As := [.long r2, .long r3, .int 0]) (rest := []) ⟨hx, hb, hml, hown, hts⟩ (c_X1_addSpan l dC dI cB cI cJ cZ a _ ce fr un sb se so sc wb we wo wc fb fe fo fc rm ac rf kn r2 r3 0 r4 g4) (kcwV hts kw_581 kv_X1_addSpan rfl rfl ⟨(Nat.le_of_ble_eq_true rfl), (Nat.le_of_ble_eq_true rfl)⟩) (kpV (A := A) qP hK qD hG (krecv_3 (q0 := 0) hK hP rfl)) rfl rfl hl.1 rfl (lv_room (Nat.le_of_ble_eq_true rfl)) (kdr dgX1_grant_0 1 4 rfl rfl) ⟨(Nat.le_of_ble_eq_true rfl), (Nat.le_of_ble_eq_true rfl)⟩) hP hD hS hA kFr_SB (fun H locs hP hD hS br4 => ?_)
  refine lv_istore_n (lv' := (kvI 2 r4.1 (kvA 0 (a 0) (kvI 1 p0 kvE)))) hx hb (kdr dgX1_grant_0 1 5 rfl rfl) rfl hl (by decide) rfl (fun ls hl => ?_)
  refine lv_iload_n hx hb (kdr dgX1_grant_0 1 6 rfl rfl) rfl (lv_at hl 0 rfl) ?_
  refine lv_iconst (v := (-1)) hx hb (kdr dgX1_grant_0 1 7 rfl rfl) (by decide) ?_
  refine lv_icmp_ne (tgt := 40) hx hb (kdr dgX1_grant_0 1 8 rfl rfl) (by decide) (fun c5 => ?_) (fun c5 => ?_)
  · have h := g_f c5 h
    refine lv_aload_n hx hb (kdr dgX1_grant_0 2 2 rfl rfl) rfl (lv_at hl 1 rfl) ?_
    refine va_get (D := (dC, dI)) (ci := 3) (v := .ref (a 6)) (C := RX1) (T := TX1) (N := 10) hx hb hts hiX1 hown hK hP 0 rfl rfl 4 (by decide) hw0 (fun _ h9 => h9) rfl (kdr dgX1_grant_0 2 3 rfl rfl) ?_
    refine lv_iload_n hx hb (kdr dgX1_grant_0 2 4 rfl rfl) rfl (lv_at hl 2 rfl) ?_
    obtain ⟨r6, g6, h⟩ := g_b h
    refine kq_i (wSB cI cJ cZ a ce fr un r4.2.1 r4.2.2.1 r4.2.2.2.1 r4.2.2.2.2 r6.2.1 r6.2.2.1 r6.2.2.2.1 r6.2.2.2.2 fb fe fo fc rm ac rf kn) (fun qP qD qF => va_runV (As := [.int p0]) (rest := []) ⟨hx, hb, hml, hown, hts⟩ (c_X0_remove l dC dI cB cI cJ cZ (a 6) (a 7) (a 8) (a 9) _ wb we wo wc p0 r6 g6) (kcwV hts kw_596 kv_X0_remove rfl rfl ⟨(Nat.le_of_ble_eq_true rfl), (Nat.le_of_ble_eq_true rfl)⟩) (kpV (A := A) qP hK qD hG (krecv_2 (q0 := 6) hK hP rfl)) rfl rfl hl.1 rfl (lv_room (Nat.le_of_ble_eq_true rfl)) (kdr dgX1_grant_0 2 5 rfl rfl) ⟨(Nat.le_of_ble_eq_true rfl), (Nat.le_of_ble_eq_true rfl)⟩) hP hD hS hA kFr_SBw (fun H locs hP hD hS br6 => ?_)
    refine lv_pop hx hb (kdr dgX1_grant_0 2 6 rfl rfl) rfl ?_
    refine lv_aload_n hx hb (kdr dgX1_grant_0 2 7 rfl rfl) rfl (lv_at hl 1 rfl) ?_
    refine lv_iload_n hx hb (kdr dgX1_grant_0 2 8 rfl rfl) rfl (lv_at hl 0 rfl) ?_
    obtain ⟨r7, g7, h⟩ := g_b h
    refine kq_i (wSB cI cJ cZ a ce fr un r4.2.1 r4.2.2.1 r4.2.2.2.1 r4.2.2.2.2 r6.2.1 r6.2.2.1 r6.2.2.2.1 r6.2.2.2.2 fb fe fo fc rm r7.2 rf kn) (fun qP qD qF => va_runV (As := [.int r4.1]) (rest := []) ⟨hx, hb, hml, hown, hts⟩ (c_X1_done l dC dI cB cI cJ cZ a _ ce fr un r4.2.1 r4.2.2.1 r4.2.2.2.1 r4.2.2.2.2 r6.2.1 r6.2.2.1 r6.2.2.2.1 r6.2.2.2.2 fb fe fo fc rm ac rf kn r4.1 r7 g7) (kcwV hts kw_147 kv_X1_done rfl rfl ⟨(Nat.le_of_ble_eq_true rfl), (Nat.le_of_ble_eq_true rfl)⟩) (kpV (A := A) qP hK qD hG (krecv_3 (q0 := 0) hK hP rfl)) rfl rfl hl.1 rfl (lv_room (Nat.le_of_ble_eq_true rfl)) (kdr dgX1_grant_0 2 9 rfl rfl) ⟨(Nat.le_of_ble_eq_true rfl), (Nat.le_of_ble_eq_true rfl)⟩) hP hD hS hA kFr_SB (fun H locs hP hD hS br7 => ?_)
    have h := Option.some.inj h
    subst h
    exact kret_i (v := r7.1) hx hb hr rfl hlocks hS hP (kdr dgX1_grant_0 3 0 rfl rfl)
  · have h := g_t c5 h
    refine lv_aload_n hx hb (kdr dgX1_grant_0 1 9 rfl rfl) rfl (lv_at hl 1 rfl) ?_
    obtain ⟨r6, g6, h⟩ := g_b h
    refine kq_i (wSB cI cJ cZ a ce fr un r4.2.1 r4.2.2.1 r4.2.2.2.1 r4.2.2.2.2 wb we wo wc fb fe fo fc rm ac r6.2 kn) (fun qP qD qF => va_runV (As := []) (rest := []) ⟨hx, hb, hml, hown, hts⟩ (c_X1_refuse l dC dI cB cI cJ cZ a _ ce fr un r4.2.1 r4.2.2.1 r4.2.2.2.1 r4.2.2.2.2 wb we wo wc fb fe fo fc rm ac rf kn  r6 g6) (kcwV hts kw_501 kv_X1_refuse rfl rfl ⟨(Nat.le_of_ble_eq_true rfl), (Nat.le_of_ble_eq_true rfl)⟩) (kpV (A := A) qP hK qD hG (krecv_3 (q0 := 0) hK hP rfl)) rfl rfl hl.1 rfl (lv_room (Nat.le_of_ble_eq_true rfl)) (kdr dgX1_grant_0 2 0 rfl rfl) ⟨(Nat.le_of_ble_eq_true rfl), (Nat.le_of_ble_eq_true rfl)⟩) hP hD hS hA kFr_SB (fun H locs hP hD hS br6 => ?_)
    have h := Option.some.inj h
    subst h
    exact kret_i (v := r6.1) hx hb hr rfl hlocks hS hP (kdr dgX1_grant_0 2 1 rfl rfl)
noncomputable def fx_X1_grant (wc : Int32) (p0 : Int32) : Option (Nat) :=
  xb (fx_X1_needNumberIn wc p0) (fun k1 => some k1) (
  none)
theorem fx_X1_grant_e {wc : Int32} {p0 : Int32} : fx_X1_grant wc p0 = 
  xb (fx_X1_needNumberIn wc p0) (fun k1 => some k1) (
  none) := rfl
set_option maxHeartbeats 4000000 in
set_option maxRecDepth 100000 in
theorem x_X1_grant (l : Launch) (hl9 : l.stackTraces = false) (dC : Nat → ClassId) (dI : Nat → Nat → Nat) (cB cI cJ cZ : ClassId) (a : Nat → Nat) (sz : Nat) (ce : Nat → Int64) (fr : Int64) (un : Int64) (sb : Nat → Int64) (se : Nat → Int64) (so : Nat → Int32) (sc : Int32) (wb : Nat → Int64) (we : Nat → Int64) (wo : Nat → Int32) (wc : Int32) (fb : Nat → Int64) (fe : Nat → Int64) (fo : Nat → Int32) (fc : Int32) (rm : Nat → Int32) (ac : Int32) (rf : Int32) (kn : Int32) (p0 : Int32) (res : Nat) (hf : fx_X1_grant wc p0 = some res) : kMX l yX1_grant wsX1_grant (kRm 7 1 6 111) dC dI cB cI cJ cZ [.ref (a 0), .int p0] sz (wSB cI cJ cZ a ce fr un sb se so sc wb we wo wc fb fe fo fc rm ac rf kn) (res) (wSB cI cJ cZ a ce fr un sb se so sc wb we wo wc fb fe fo fc rm ac rf kn) 1 6 := by
  refine kmet_x (y := yX1_grant) (cc := cX1_grant) (maxL := 3) (ret := (some .int)) RX1 (kvA 0 (a 0) (kvI 1 p0 kvE)) kpl_X1 rfl rfl (Nat.le_of_ble_eq_true rfl) rfl (fun p e s m below meth c A ls hx hb hr hml ht hts hown hlocks hP hK hG hZ hD hA hS hl => ?_)
  have hw0 := hts (.fieldLink RX1 29 "Spanbooker" "wishRow" "LSpanbooker$Row;") (List.mem_cons_of_mem _ kw_111)
  have hiX1 : ∀ w ∈ u_ws RX1 TX1 10, w ∈ wsX1_grant := fun w h => List.mem_cons_of_mem _ (ku_X1 w h)
  have h := fx_X1_grant_e.symm.trans hf
  refine lv_aload_n hx hb (kdr dgX1_grant_0 0 0 rfl rfl) rfl (lv_at hl 0 rfl) ?_
  refine va_get (D := (dC, dI)) (ci := 3) (v := .ref (a 6)) (C := RX1) (T := TX1) (N := 10) hx hb hts hiX1 hown hK hP 0 rfl rfl 4 (by decide) hw0 (fun _ h9 => h9) rfl (kdr dgX1_grant_0 0 1 rfl rfl) ?_
  refine lv_iload_n hx hb (kdr dgX1_grant_0 0 2 rfl rfl) rfl (lv_at hl 1 rfl) ?_
  rcases g_x h with ⟨k1, j1, h⟩ | ⟨-, h⟩
  · have h := Option.some.inj h
    subst h
    exact kq_x (wSB cI cJ cZ a ce fr un sb se so sc wb we wo wc fb fe fo fc rm ac rf kn) (fun qP qD qF => vx_runS (As := [.ref (a 6), .int p0]) (rest := []) ⟨hx, hb, hml, hown, hts⟩ (x_X1_needNumberIn l hl9 dC dI cB cI cJ cZ (a 6) (a 7) (a 8) (a 9) _ wb we wo wc p0 k1 j1) (kcwS hts kw_592 kv_X1_needNumberIn rfl rfl ⟨(Nat.le_of_ble_eq_true rfl), (Nat.le_of_ble_eq_true rfl)⟩) (kpSXq (A := A) qP hK qD hG hZ hS qF) rfl rfl hl.1 rfl (lv_room (Nat.le_of_ble_eq_true rfl)) (kdr dgX1_grant_0 0 3 rfl rfl) ⟨(Nat.le_of_ble_eq_true rfl), (Nat.le_of_ble_eq_true rfl)⟩) hP hD hS hA kFr_SBw ht hlocks (Nat.le_of_ble_eq_true rfl) (Nat.le_of_ble_eq_true rfl)
  · cases h
noncomputable abbrev wsX1_second : List Cond := kWs yX1_second cX1_second 2 (some .int)
noncomputable def f_X1_second (ce : Nat → Int64) (p0 : Int32) : Option (Int32) :=
  (f_X1_needCell p0).bind fun r1 =>
  if ix p0 4 then
    (f_X1_secondOf (ce p0.toNatClampNeg)).bind fun r3 =>
    some r3
  else none
theorem f_X1_second_e {ce : Nat → Int64} {p0 : Int32} : f_X1_second ce p0 = 
  (f_X1_needCell p0).bind fun r1 =>
  if ix p0 4 then
    (f_X1_secondOf (ce p0.toNatClampNeg)).bind fun r3 =>
    some r3
  else none := rfl
set_option maxHeartbeats 4000000 in
set_option maxRecDepth 100000 in
theorem c_X1_second (l : Launch) (dC : Nat → ClassId) (dI : Nat → Nat → Nat) (cB cI cJ cZ : ClassId) (a : Nat → Nat) (sz : Nat) (ce : Nat → Int64) (fr : Int64) (un : Int64) (sb : Nat → Int64) (se : Nat → Int64) (so : Nat → Int32) (sc : Int32) (wb : Nat → Int64) (we : Nat → Int64) (wo : Nat → Int32) (wc : Int32) (fb : Nat → Int64) (fe : Nat → Int64) (fo : Nat → Int32) (fc : Int32) (rm : Nat → Int32) (ac : Int32) (rf : Int32) (kn : Int32) (p0 : Int32) (res : Int32) (hf : f_X1_second ce p0 = some res) : kMi l yX1_second wsX1_second (kRm 2 0 0 46) dC dI cB cI cJ cZ [.ref (a 0), .int p0] sz (wSB cI cJ cZ a ce fr un sb se so sc wb we wo wc fb fe fo fc rm ac rf kn) .int (res) (wSB cI cJ cZ a ce fr un sb se so sc wb we wo wc fb fe fo fc rm ac rf kn) 0 0 := by
  refine kmet_i (y := yX1_second) (cc := cX1_second) (maxL := 2) (ret := (some .int)) RX1 (kvA 0 (a 0) (kvI 1 p0 kvE)) kpl_X1 rfl rfl (Nat.le_of_ble_eq_true rfl) rfl (fun p e s m below meth c A ls hx hb hr hml hts hown hlocks hP hK hG hD hA hS hl => ?_)
  have hw0 := hts (.fieldLink RX1 9 "Spanbooker" "cells" "[J") (List.mem_cons_of_mem _ kw_107)
  have hiX1 : ∀ w ∈ u_ws RX1 TX1 10, w ∈ wsX1_second := fun w h => List.mem_cons_of_mem _ (ku_X1 w h)
  have h := f_X1_second_e.symm.trans hf
  refine lv_iload_n hx hb (kdr dgX1_second_0 0 0 rfl rfl) rfl (lv_at hl 1 rfl) ?_
  obtain ⟨r1, g1, h⟩ := g_b h
  refine kq_v (wSB cI cJ cZ a ce fr un sb se so sc wb we wo wc fb fe fo fc rm ac rf kn) (fun qP qD qF => va_runS (As := [.int p0]) (rest := []) ⟨hx, hb, hml, hown, hts⟩ (c_X1_needCell l dC dI cB cI cJ cZ  _  p0 r1 g1) (kcwS hts kw_473 kv_X1_needCell rfl rfl ⟨(Nat.le_of_ble_eq_true rfl), (Nat.le_of_ble_eq_true rfl)⟩) (kpS (A := A) (kPnil) hK ((kDnil (A := A))) hG) rfl rfl hl.1 rfl (lv_room (Nat.le_of_ble_eq_true rfl)) (kdr dgX1_second_0 0 1 rfl rfl) ⟨(Nat.le_of_ble_eq_true rfl), (Nat.le_of_ble_eq_true rfl)⟩) hP hD hS hA kFr_n (fun H locs hP hD hS => ?_)
  refine lv_aload_n hx hb (kdr dgX1_second_0 0 2 rfl rfl) rfl (lv_at hl 0 rfl) ?_
  refine va_get (D := (dC, dI)) (ci := 3) (v := .ref (a 1)) (C := RX1) (T := TX1) (N := 10) hx hb hts hiX1 hown hK hP 0 rfl rfl 0 (by decide) hw0 (fun _ h9 => h9) rfl (kdr dgX1_second_0 0 3 rfl rfl) ?_
  refine lv_iload_n hx hb (kdr dgX1_second_0 0 4 rfl rfl) rfl (lv_at hl 1 rfl) ?_
  obtain ⟨z1, h⟩ := g_if h
  refine va_lald hx hb hK hP 1 2 rfl rfl (ix_in z1) (kdr dgX1_second_0 0 5 rfl rfl) ?_
  obtain ⟨r3, g3, h⟩ := g_b h
  refine kq_i (wSB cI cJ cZ a ce fr un sb se so sc wb we wo wc fb fe fo fc rm ac rf kn) (fun qP qD qF => va_runS (As := [.long (ce p0.toNatClampNeg)]) (rest := []) ⟨hx, hb, hml, hown, hts⟩ (c_X1_secondOf l dC dI cB cI cJ cZ  _  (ce p0.toNatClampNeg) r3 g3) (kcwS hts kw_329 kv_X1_secondOf rfl rfl ⟨(Nat.le_of_ble_eq_true rfl), (Nat.le_of_ble_eq_true rfl)⟩) (kpS (A := A) (kPnil) hK ((kDnil (A := A))) hG) rfl rfl hl.1 rfl (lv_room (Nat.le_of_ble_eq_true rfl)) (kdr dgX1_second_0 0 6 rfl rfl) ⟨(Nat.le_of_ble_eq_true rfl), (Nat.le_of_ble_eq_true rfl)⟩) hP hD hS hA kFr_n (fun H locs hP hD hS br3 => ?_)
  have h := Option.some.inj h
  subst h
  exact kret_i (v := r3) hx hb hr rfl hlocks hS hP (kdr dgX1_second_0 0 7 rfl rfl)
noncomputable def fx_X1_second (p0 : Int32) : Option (Nat) :=
  xb (fx_X1_needCell p0) (fun k1 => some k1) (
  none)
theorem fx_X1_second_e {p0 : Int32} : fx_X1_second p0 = 
  xb (fx_X1_needCell p0) (fun k1 => some k1) (
  none) := rfl
set_option maxHeartbeats 4000000 in
set_option maxRecDepth 100000 in
theorem x_X1_second (l : Launch) (hl9 : l.stackTraces = false) (dC : Nat → ClassId) (dI : Nat → Nat → Nat) (cB cI cJ cZ : ClassId) (a : Nat → Nat) (sz : Nat) (ce : Nat → Int64) (fr : Int64) (un : Int64) (sb : Nat → Int64) (se : Nat → Int64) (so : Nat → Int32) (sc : Int32) (wb : Nat → Int64) (we : Nat → Int64) (wo : Nat → Int32) (wc : Int32) (fb : Nat → Int64) (fe : Nat → Int64) (fo : Nat → Int32) (fc : Int32) (rm : Nat → Int32) (ac : Int32) (rf : Int32) (kn : Int32) (p0 : Int32) (res : Nat) (hf : fx_X1_second p0 = some res) : kMX l yX1_second wsX1_second (kRm 7 1 6 110) dC dI cB cI cJ cZ [.ref (a 0), .int p0] sz (wSB cI cJ cZ a ce fr un sb se so sc wb we wo wc fb fe fo fc rm ac rf kn) (res) (wSB cI cJ cZ a ce fr un sb se so sc wb we wo wc fb fe fo fc rm ac rf kn) 1 6 := by
  refine kmet_x (y := yX1_second) (cc := cX1_second) (maxL := 2) (ret := (some .int)) RX1 (kvA 0 (a 0) (kvI 1 p0 kvE)) kpl_X1 rfl rfl (Nat.le_of_ble_eq_true rfl) rfl (fun p e s m below meth c A ls hx hb hr hml ht hts hown hlocks hP hK hG hZ hD hA hS hl => ?_)
  have h := fx_X1_second_e.symm.trans hf
  refine lv_iload_n hx hb (kdr dgX1_second_0 0 0 rfl rfl) rfl (lv_at hl 1 rfl) ?_
  rcases g_x h with ⟨k1, j1, h⟩ | ⟨-, h⟩
  · have h := Option.some.inj h
    subst h
    exact kq_x (wSB cI cJ cZ a ce fr un sb se so sc wb we wo wc fb fe fo fc rm ac rf kn) (fun qP qD qF => vx_runS (As := [.int p0]) (rest := []) ⟨hx, hb, hml, hown, hts⟩ (x_X1_needCell l hl9 dC dI cB cI cJ cZ  _  p0 k1 j1) (kcwS hts kw_473 kv_X1_needCell rfl rfl ⟨(Nat.le_of_ble_eq_true rfl), (Nat.le_of_ble_eq_true rfl)⟩) (kpSXq (A := A) (kPnil) hK ((kDnil (A := A))) hG hZ hS qF) rfl rfl hl.1 rfl (lv_room (Nat.le_of_ble_eq_true rfl)) (kdr dgX1_second_0 0 1 rfl rfl) ⟨(Nat.le_of_ble_eq_true rfl), (Nat.le_of_ble_eq_true rfl)⟩) hP hD hS hA kFr_n ht hlocks (Nat.le_of_ble_eq_true rfl) (Nat.le_of_ble_eq_true rfl)
  · cases h
noncomputable abbrev wsX1_nano : List Cond := kWs yX1_nano cX1_nano 2 (some .int)
noncomputable def f_X1_nano (ce : Nat → Int64) (p0 : Int32) : Option (Int32) :=
  (f_X1_needCell p0).bind fun r1 =>
  if ix p0 4 then
    (f_X1_nanoOf (ce p0.toNatClampNeg)).bind fun r3 =>
    some r3
  else none
theorem f_X1_nano_e {ce : Nat → Int64} {p0 : Int32} : f_X1_nano ce p0 = 
  (f_X1_needCell p0).bind fun r1 =>
  if ix p0 4 then
    (f_X1_nanoOf (ce p0.toNatClampNeg)).bind fun r3 =>
    some r3
  else none := rfl
set_option maxHeartbeats 4000000 in
set_option maxRecDepth 100000 in
theorem c_X1_nano (l : Launch) (dC : Nat → ClassId) (dI : Nat → Nat → Nat) (cB cI cJ cZ : ClassId) (a : Nat → Nat) (sz : Nat) (ce : Nat → Int64) (fr : Int64) (un : Int64) (sb : Nat → Int64) (se : Nat → Int64) (so : Nat → Int32) (sc : Int32) (wb : Nat → Int64) (we : Nat → Int64) (wo : Nat → Int32) (wc : Int32) (fb : Nat → Int64) (fe : Nat → Int64) (fo : Nat → Int32) (fc : Int32) (rm : Nat → Int32) (ac : Int32) (rf : Int32) (kn : Int32) (p0 : Int32) (res : Int32) (hf : f_X1_nano ce p0 = some res) : kMi l yX1_nano wsX1_nano (kRm 2 0 0 46) dC dI cB cI cJ cZ [.ref (a 0), .int p0] sz (wSB cI cJ cZ a ce fr un sb se so sc wb we wo wc fb fe fo fc rm ac rf kn) .int (res) (wSB cI cJ cZ a ce fr un sb se so sc wb we wo wc fb fe fo fc rm ac rf kn) 0 0 := by
  refine kmet_i (y := yX1_nano) (cc := cX1_nano) (maxL := 2) (ret := (some .int)) RX1 (kvA 0 (a 0) (kvI 1 p0 kvE)) kpl_X1 rfl rfl (Nat.le_of_ble_eq_true rfl) rfl (fun p e s m below meth c A ls hx hb hr hml hts hown hlocks hP hK hG hD hA hS hl => ?_)
  have hw0 := hts (.fieldLink RX1 9 "Spanbooker" "cells" "[J") (List.mem_cons_of_mem _ kw_107)
  have hiX1 : ∀ w ∈ u_ws RX1 TX1 10, w ∈ wsX1_nano := fun w h => List.mem_cons_of_mem _ (ku_X1 w h)
  have h := f_X1_nano_e.symm.trans hf
  refine lv_iload_n hx hb (kdr dgX1_nano_0 0 0 rfl rfl) rfl (lv_at hl 1 rfl) ?_
  obtain ⟨r1, g1, h⟩ := g_b h
  refine kq_v (wSB cI cJ cZ a ce fr un sb se so sc wb we wo wc fb fe fo fc rm ac rf kn) (fun qP qD qF => va_runS (As := [.int p0]) (rest := []) ⟨hx, hb, hml, hown, hts⟩ (c_X1_needCell l dC dI cB cI cJ cZ  _  p0 r1 g1) (kcwS hts kw_473 kv_X1_needCell rfl rfl ⟨(Nat.le_of_ble_eq_true rfl), (Nat.le_of_ble_eq_true rfl)⟩) (kpS (A := A) (kPnil) hK ((kDnil (A := A))) hG) rfl rfl hl.1 rfl (lv_room (Nat.le_of_ble_eq_true rfl)) (kdr dgX1_nano_0 0 1 rfl rfl) ⟨(Nat.le_of_ble_eq_true rfl), (Nat.le_of_ble_eq_true rfl)⟩) hP hD hS hA kFr_n (fun H locs hP hD hS => ?_)
  refine lv_aload_n hx hb (kdr dgX1_nano_0 0 2 rfl rfl) rfl (lv_at hl 0 rfl) ?_
  refine va_get (D := (dC, dI)) (ci := 3) (v := .ref (a 1)) (C := RX1) (T := TX1) (N := 10) hx hb hts hiX1 hown hK hP 0 rfl rfl 0 (by decide) hw0 (fun _ h9 => h9) rfl (kdr dgX1_nano_0 0 3 rfl rfl) ?_
  refine lv_iload_n hx hb (kdr dgX1_nano_0 0 4 rfl rfl) rfl (lv_at hl 1 rfl) ?_
  obtain ⟨z1, h⟩ := g_if h
  refine va_lald hx hb hK hP 1 2 rfl rfl (ix_in z1) (kdr dgX1_nano_0 0 5 rfl rfl) ?_
  obtain ⟨r3, g3, h⟩ := g_b h
  refine kq_i (wSB cI cJ cZ a ce fr un sb se so sc wb we wo wc fb fe fo fc rm ac rf kn) (fun qP qD qF => va_runS (As := [.long (ce p0.toNatClampNeg)]) (rest := []) ⟨hx, hb, hml, hown, hts⟩ (c_X1_nanoOf l dC dI cB cI cJ cZ  _  (ce p0.toNatClampNeg) r3 g3) (kcwS hts kw_340 kv_X1_nanoOf rfl rfl ⟨(Nat.le_of_ble_eq_true rfl), (Nat.le_of_ble_eq_true rfl)⟩) (kpS (A := A) (kPnil) hK ((kDnil (A := A))) hG) rfl rfl hl.1 rfl (lv_room (Nat.le_of_ble_eq_true rfl)) (kdr dgX1_nano_0 0 6 rfl rfl) ⟨(Nat.le_of_ble_eq_true rfl), (Nat.le_of_ble_eq_true rfl)⟩) hP hD hS hA kFr_n (fun H locs hP hD hS br3 => ?_)
  have h := Option.some.inj h
  subst h
  exact kret_i (v := r3) hx hb hr rfl hlocks hS hP (kdr dgX1_nano_0 0 7 rfl rfl)
noncomputable def fx_X1_nano (p0 : Int32) : Option (Nat) :=
  xb (fx_X1_needCell p0) (fun k1 => some k1) (
  none)
theorem fx_X1_nano_e {p0 : Int32} : fx_X1_nano p0 = 
  xb (fx_X1_needCell p0) (fun k1 => some k1) (
  none) := rfl
set_option maxHeartbeats 4000000 in
set_option maxRecDepth 100000 in
theorem x_X1_nano (l : Launch) (hl9 : l.stackTraces = false) (dC : Nat → ClassId) (dI : Nat → Nat → Nat) (cB cI cJ cZ : ClassId) (a : Nat → Nat) (sz : Nat) (ce : Nat → Int64) (fr : Int64) (un : Int64) (sb : Nat → Int64) (se : Nat → Int64) (so : Nat → Int32) (sc : Int32) (wb : Nat → Int64) (we : Nat → Int64) (wo : Nat → Int32) (wc : Int32) (fb : Nat → Int64) (fe : Nat → Int64) (fo : Nat → Int32) (fc : Int32) (rm : Nat → Int32) (ac : Int32) (rf : Int32) (kn : Int32) (p0 : Int32) (res : Nat) (hf : fx_X1_nano p0 = some res) : kMX l yX1_nano wsX1_nano (kRm 7 1 6 110) dC dI cB cI cJ cZ [.ref (a 0), .int p0] sz (wSB cI cJ cZ a ce fr un sb se so sc wb we wo wc fb fe fo fc rm ac rf kn) (res) (wSB cI cJ cZ a ce fr un sb se so sc wb we wo wc fb fe fo fc rm ac rf kn) 1 6 := by
  refine kmet_x (y := yX1_nano) (cc := cX1_nano) (maxL := 2) (ret := (some .int)) RX1 (kvA 0 (a 0) (kvI 1 p0 kvE)) kpl_X1 rfl rfl (Nat.le_of_ble_eq_true rfl) rfl (fun p e s m below meth c A ls hx hb hr hml ht hts hown hlocks hP hK hG hZ hD hA hS hl => ?_)
  have h := fx_X1_nano_e.symm.trans hf
  refine lv_iload_n hx hb (kdr dgX1_nano_0 0 0 rfl rfl) rfl (lv_at hl 1 rfl) ?_
  rcases g_x h with ⟨k1, j1, h⟩ | ⟨-, h⟩
  · have h := Option.some.inj h
    subst h
    exact kq_x (wSB cI cJ cZ a ce fr un sb se so sc wb we wo wc fb fe fo fc rm ac rf kn) (fun qP qD qF => vx_runS (As := [.int p0]) (rest := []) ⟨hx, hb, hml, hown, hts⟩ (x_X1_needCell l hl9 dC dI cB cI cJ cZ  _  p0 k1 j1) (kcwS hts kw_473 kv_X1_needCell rfl rfl ⟨(Nat.le_of_ble_eq_true rfl), (Nat.le_of_ble_eq_true rfl)⟩) (kpSXq (A := A) (kPnil) hK ((kDnil (A := A))) hG hZ hS qF) rfl rfl hl.1 rfl (lv_room (Nat.le_of_ble_eq_true rfl)) (kdr dgX1_nano_0 0 1 rfl rfl) ⟨(Nat.le_of_ble_eq_true rfl), (Nat.le_of_ble_eq_true rfl)⟩) hP hD hS hA kFr_n ht hlocks (Nat.le_of_ble_eq_true rfl) (Nat.le_of_ble_eq_true rfl)
  · cases h
noncomputable abbrev wsX1_order : List Cond := kWs yX1_order cX1_order 3 (some .int)
noncomputable def f_X1_order (ce : Nat → Int64) (p0 : Int32) (p1 : Int32) : Option (Int32) :=
  (f_X1_needCell p0).bind fun r1 =>
  (f_X1_needCell p1).bind fun r2 =>
  if ix p0 4 then
    if ix p1 4 then
      (f_X1_sideOf (ce p0.toNatClampNeg) (ce p1.toNatClampNeg)).bind fun r5 =>
      some r5
    else none
  else none
theorem f_X1_order_e {ce : Nat → Int64} {p0 : Int32} {p1 : Int32} : f_X1_order ce p0 p1 = 
  (f_X1_needCell p0).bind fun r1 =>
  (f_X1_needCell p1).bind fun r2 =>
  if ix p0 4 then
    if ix p1 4 then
      (f_X1_sideOf (ce p0.toNatClampNeg) (ce p1.toNatClampNeg)).bind fun r5 =>
      some r5
    else none
  else none := rfl
set_option maxHeartbeats 4000000 in
set_option maxRecDepth 100000 in
theorem c_X1_order (l : Launch) (dC : Nat → ClassId) (dI : Nat → Nat → Nat) (cB cI cJ cZ : ClassId) (a : Nat → Nat) (sz : Nat) (ce : Nat → Int64) (fr : Int64) (un : Int64) (sb : Nat → Int64) (se : Nat → Int64) (so : Nat → Int32) (sc : Int32) (wb : Nat → Int64) (we : Nat → Int64) (wo : Nat → Int32) (wc : Int32) (fb : Nat → Int64) (fe : Nat → Int64) (fo : Nat → Int32) (fc : Int32) (rm : Nat → Int32) (ac : Int32) (rf : Int32) (kn : Int32) (p0 : Int32) (p1 : Int32) (res : Int32) (hf : f_X1_order ce p0 p1 = some res) : kMi l yX1_order wsX1_order (kRm 2 0 0 42) dC dI cB cI cJ cZ [.ref (a 0), .int p0, .int p1] sz (wSB cI cJ cZ a ce fr un sb se so sc wb we wo wc fb fe fo fc rm ac rf kn) .int (res) (wSB cI cJ cZ a ce fr un sb se so sc wb we wo wc fb fe fo fc rm ac rf kn) 0 0 := by
  refine kmet_i (y := yX1_order) (cc := cX1_order) (maxL := 3) (ret := (some .int)) RX1 (kvA 0 (a 0) (kvI 1 p0 (kvI 2 p1 kvE))) kpl_X1 rfl rfl (Nat.le_of_ble_eq_true rfl) rfl (fun p e s m below meth c A ls hx hb hr hml hts hown hlocks hP hK hG hD hA hS hl => ?_)
  have hw0 := hts (.fieldLink RX1 9 "Spanbooker" "cells" "[J") (List.mem_cons_of_mem _ kw_107)
  have hiX1 : ∀ w ∈ u_ws RX1 TX1 10, w ∈ wsX1_order := fun w h => List.mem_cons_of_mem _ (ku_X1 w h)
  have h := f_X1_order_e.symm.trans hf
  refine lv_iload_n hx hb (kdr dgX1_order_0 0 0 rfl rfl) rfl (lv_at hl 1 rfl) ?_
  obtain ⟨r1, g1, h⟩ := g_b h
  refine kq_v (wSB cI cJ cZ a ce fr un sb se so sc wb we wo wc fb fe fo fc rm ac rf kn) (fun qP qD qF => va_runS (As := [.int p0]) (rest := []) ⟨hx, hb, hml, hown, hts⟩ (c_X1_needCell l dC dI cB cI cJ cZ  _  p0 r1 g1) (kcwS hts kw_473 kv_X1_needCell rfl rfl ⟨(Nat.le_of_ble_eq_true rfl), (Nat.le_of_ble_eq_true rfl)⟩) (kpS (A := A) (kPnil) hK ((kDnil (A := A))) hG) rfl rfl hl.1 rfl (lv_room (Nat.le_of_ble_eq_true rfl)) (kdr dgX1_order_0 0 1 rfl rfl) ⟨(Nat.le_of_ble_eq_true rfl), (Nat.le_of_ble_eq_true rfl)⟩) hP hD hS hA kFr_n (fun H locs hP hD hS => ?_)
  refine lv_iload_n hx hb (kdr dgX1_order_0 0 2 rfl rfl) rfl (lv_at hl 2 rfl) ?_
  obtain ⟨r2, g2, h⟩ := g_b h
  refine kq_v (wSB cI cJ cZ a ce fr un sb se so sc wb we wo wc fb fe fo fc rm ac rf kn) (fun qP qD qF => va_runS (As := [.int p1]) (rest := []) ⟨hx, hb, hml, hown, hts⟩ (c_X1_needCell l dC dI cB cI cJ cZ  _  p1 r2 g2) (kcwS hts kw_473 kv_X1_needCell rfl rfl ⟨(Nat.le_of_ble_eq_true rfl), (Nat.le_of_ble_eq_true rfl)⟩) (kpS (A := A) (kPnil) hK ((kDnil (A := A))) hG) rfl rfl hl.1 rfl (lv_room (Nat.le_of_ble_eq_true rfl)) (kdr dgX1_order_0 0 3 rfl rfl) ⟨(Nat.le_of_ble_eq_true rfl), (Nat.le_of_ble_eq_true rfl)⟩) hP hD hS hA kFr_n (fun H locs hP hD hS => ?_)
  refine lv_aload_n hx hb (kdr dgX1_order_0 0 4 rfl rfl) rfl (lv_at hl 0 rfl) ?_
  refine va_get (D := (dC, dI)) (ci := 3) (v := .ref (a 1)) (C := RX1) (T := TX1) (N := 10) hx hb hts hiX1 hown hK hP 0 rfl rfl 0 (by decide) hw0 (fun _ h9 => h9) rfl (kdr dgX1_order_0 0 5 rfl rfl) ?_
  refine lv_iload_n hx hb (kdr dgX1_order_0 0 6 rfl rfl) rfl (lv_at hl 1 rfl) ?_
  obtain ⟨z2, h⟩ := g_if h
  refine va_lald hx hb hK hP 1 2 rfl rfl (ix_in z2) (kdr dgX1_order_0 0 7 rfl rfl) ?_
  refine lv_aload_n hx hb (kdr dgX1_order_0 0 8 rfl rfl) rfl (lv_at hl 0 rfl) ?_
  refine va_get (D := (dC, dI)) (ci := 3) (v := .ref (a 1)) (C := RX1) (T := TX1) (N := 10) hx hb hts hiX1 hown hK hP 0 rfl rfl 0 (by decide) hw0 (fun _ h9 => h9) rfl (kdr dgX1_order_0 0 9 rfl rfl) ?_
  refine lv_iload_n hx hb (kdr dgX1_order_0 1 0 rfl rfl) rfl (lv_at hl 2 rfl) ?_
  obtain ⟨z3, h⟩ := g_if h
  refine va_lald hx hb hK hP 1 2 rfl rfl (ix_in z3) (kdr dgX1_order_0 1 1 rfl rfl) ?_
  obtain ⟨r5, g5, h⟩ := g_b h
  refine kq_i (wSB cI cJ cZ a ce fr un sb se so sc wb we wo wc fb fe fo fc rm ac rf kn) (fun qP qD qF => va_runS (As := [.long (ce p0.toNatClampNeg), .long (ce p1.toNatClampNeg)]) (rest := []) ⟨hx, hb, hml, hown, hts⟩ (c_X1_sideOf l dC dI cB cI cJ cZ  _  (ce p0.toNatClampNeg) (ce p1.toNatClampNeg) r5 g5) (kcwS hts kw_519 kv_X1_sideOf rfl rfl ⟨(Nat.le_of_ble_eq_true rfl), (Nat.le_of_ble_eq_true rfl)⟩) (kpS (A := A) (kPnil) hK ((kDnil (A := A))) hG) rfl rfl hl.1 rfl (lv_room (Nat.le_of_ble_eq_true rfl)) (kdr dgX1_order_0 1 2 rfl rfl) ⟨(Nat.le_of_ble_eq_true rfl), (Nat.le_of_ble_eq_true rfl)⟩) hP hD hS hA kFr_n (fun H locs hP hD hS br5 => ?_)
  have h := Option.some.inj h
  subst h
  exact kret_i (v := r5) hx hb hr rfl hlocks hS hP (kdr dgX1_order_0 1 3 rfl rfl)
noncomputable def fx_X1_order (p0 : Int32) (p1 : Int32) : Option (Nat) :=
  xb (fx_X1_needCell p0) (fun k1 => some k1) (
  (f_X1_needCell p0).bind fun r1 =>
  xb (fx_X1_needCell p1) (fun k2 => some k2) (
  none))
theorem fx_X1_order_e {p0 : Int32} {p1 : Int32} : fx_X1_order p0 p1 = 
  xb (fx_X1_needCell p0) (fun k1 => some k1) (
  (f_X1_needCell p0).bind fun r1 =>
  xb (fx_X1_needCell p1) (fun k2 => some k2) (
  none)) := rfl
set_option maxHeartbeats 4000000 in
set_option maxRecDepth 100000 in
theorem x_X1_order (l : Launch) (hl9 : l.stackTraces = false) (dC : Nat → ClassId) (dI : Nat → Nat → Nat) (cB cI cJ cZ : ClassId) (a : Nat → Nat) (sz : Nat) (ce : Nat → Int64) (fr : Int64) (un : Int64) (sb : Nat → Int64) (se : Nat → Int64) (so : Nat → Int32) (sc : Int32) (wb : Nat → Int64) (we : Nat → Int64) (wo : Nat → Int32) (wc : Int32) (fb : Nat → Int64) (fe : Nat → Int64) (fo : Nat → Int32) (fc : Int32) (rm : Nat → Int32) (ac : Int32) (rf : Int32) (kn : Int32) (p0 : Int32) (p1 : Int32) (res : Nat) (hf : fx_X1_order p0 p1 = some res) : kMX l yX1_order wsX1_order (kRm 7 1 6 110) dC dI cB cI cJ cZ [.ref (a 0), .int p0, .int p1] sz (wSB cI cJ cZ a ce fr un sb se so sc wb we wo wc fb fe fo fc rm ac rf kn) (res) (wSB cI cJ cZ a ce fr un sb se so sc wb we wo wc fb fe fo fc rm ac rf kn) 1 6 := by
  refine kmet_x (y := yX1_order) (cc := cX1_order) (maxL := 3) (ret := (some .int)) RX1 (kvA 0 (a 0) (kvI 1 p0 (kvI 2 p1 kvE))) kpl_X1 rfl rfl (Nat.le_of_ble_eq_true rfl) rfl (fun p e s m below meth c A ls hx hb hr hml ht hts hown hlocks hP hK hG hZ hD hA hS hl => ?_)
  have h := fx_X1_order_e.symm.trans hf
  refine lv_iload_n hx hb (kdr dgX1_order_0 0 0 rfl rfl) rfl (lv_at hl 1 rfl) ?_
  rcases g_x h with ⟨k1, j1, h⟩ | ⟨-, h⟩
  · have h := Option.some.inj h
    subst h
    exact kq_x (wSB cI cJ cZ a ce fr un sb se so sc wb we wo wc fb fe fo fc rm ac rf kn) (fun qP qD qF => vx_runS (As := [.int p0]) (rest := []) ⟨hx, hb, hml, hown, hts⟩ (x_X1_needCell l hl9 dC dI cB cI cJ cZ  _  p0 k1 j1) (kcwS hts kw_473 kv_X1_needCell rfl rfl ⟨(Nat.le_of_ble_eq_true rfl), (Nat.le_of_ble_eq_true rfl)⟩) (kpSXq (A := A) (kPnil) hK ((kDnil (A := A))) hG hZ hS qF) rfl rfl hl.1 rfl (lv_room (Nat.le_of_ble_eq_true rfl)) (kdr dgX1_order_0 0 1 rfl rfl) ⟨(Nat.le_of_ble_eq_true rfl), (Nat.le_of_ble_eq_true rfl)⟩) hP hD hS hA kFr_n ht hlocks (Nat.le_of_ble_eq_true rfl) (Nat.le_of_ble_eq_true rfl)
  · obtain ⟨r1, g1, h⟩ := g_b h
    refine kq_v (wSB cI cJ cZ a ce fr un sb se so sc wb we wo wc fb fe fo fc rm ac rf kn) (fun qP qD qF => va_runS (As := [.int p0]) (rest := []) ⟨hx, hb, hml, hown, hts⟩ (c_X1_needCell l dC dI cB cI cJ cZ  _  p0 r1 g1) (kcwS hts kw_473 kv_X1_needCell rfl rfl ⟨(Nat.le_of_ble_eq_true rfl), (Nat.le_of_ble_eq_true rfl)⟩) (kpS (A := A) (kPnil) hK ((kDnil (A := A))) hG) rfl rfl hl.1 rfl (lv_room (Nat.le_of_ble_eq_true rfl)) (kdr dgX1_order_0 0 1 rfl rfl) ⟨(Nat.le_of_ble_eq_true rfl), (Nat.le_of_ble_eq_true rfl)⟩) hP hD hS hA kFr_n (fun H locs hP hD hS => ?_)
    refine lv_iload_n hx hb (kdr dgX1_order_0 0 2 rfl rfl) rfl (lv_at hl 2 rfl) ?_
    rcases g_x h with ⟨k2, j2, h⟩ | ⟨-, h⟩
    · have h := Option.some.inj h
      subst h
      exact kq_x (wSB cI cJ cZ a ce fr un sb se so sc wb we wo wc fb fe fo fc rm ac rf kn) (fun qP qD qF => vx_runS (As := [.int p1]) (rest := []) ⟨hx, hb, hml, hown, hts⟩ (x_X1_needCell l hl9 dC dI cB cI cJ cZ  _  p1 k2 j2) (kcwS hts kw_473 kv_X1_needCell rfl rfl ⟨(Nat.le_of_ble_eq_true rfl), (Nat.le_of_ble_eq_true rfl)⟩) (kpSXq (A := A) (kPnil) hK ((kDnil (A := A))) hG hZ hS qF) rfl rfl hl.1 rfl (lv_room (Nat.le_of_ble_eq_true rfl)) (kdr dgX1_order_0 0 3 rfl rfl) ⟨(Nat.le_of_ble_eq_true rfl), (Nat.le_of_ble_eq_true rfl)⟩) hP hD hS hA kFr_n ht hlocks (Nat.le_of_ble_eq_true rfl) (Nat.le_of_ble_eq_true rfl)
    · cases h
noncomputable abbrev wsX1_isBefore : List Cond := kWs yX1_isBefore cX1_isBefore 3 (some .boolean)
noncomputable def f_X1_isBefore (ce : Nat → Int64) (p0 : Int32) (p1 : Int32) : Option (Int32) :=
  (f_X1_needCell p0).bind fun r1 =>
  (f_X1_needCell p1).bind fun r2 =>
  if ix p0 4 then
    if ix p1 4 then
      if (ce p1.toNatClampNeg) ≤ (ce p0.toNatClampNeg) then
        some 0
      else
        some 1
    else none
  else none
theorem f_X1_isBefore_e {ce : Nat → Int64} {p0 : Int32} {p1 : Int32} : f_X1_isBefore ce p0 p1 = 
  (f_X1_needCell p0).bind fun r1 =>
  (f_X1_needCell p1).bind fun r2 =>
  if ix p0 4 then
    if ix p1 4 then
      if (ce p1.toNatClampNeg) ≤ (ce p0.toNatClampNeg) then
        some 0
      else
        some 1
    else none
  else none := rfl
set_option maxHeartbeats 4000000 in
set_option maxRecDepth 100000 in
theorem c_X1_isBefore (l : Launch) (dC : Nat → ClassId) (dI : Nat → Nat → Nat) (cB cI cJ cZ : ClassId) (a : Nat → Nat) (sz : Nat) (ce : Nat → Int64) (fr : Int64) (un : Int64) (sb : Nat → Int64) (se : Nat → Int64) (so : Nat → Int32) (sc : Int32) (wb : Nat → Int64) (we : Nat → Int64) (wo : Nat → Int32) (wc : Int32) (fb : Nat → Int64) (fe : Nat → Int64) (fo : Nat → Int32) (fc : Int32) (rm : Nat → Int32) (ac : Int32) (rf : Int32) (kn : Int32) (p0 : Int32) (p1 : Int32) (res : Int32) (hf : f_X1_isBefore ce p0 p1 = some res) : kMi l yX1_isBefore wsX1_isBefore (kRm 2 0 0 42) dC dI cB cI cJ cZ [.ref (a 0), .int p0, .int p1] sz (wSB cI cJ cZ a ce fr un sb se so sc wb we wo wc fb fe fo fc rm ac rf kn) .boolean (res) (wSB cI cJ cZ a ce fr un sb se so sc wb we wo wc fb fe fo fc rm ac rf kn) 0 0 := by
  refine kmet_i (y := yX1_isBefore) (cc := cX1_isBefore) (maxL := 3) (ret := (some .boolean)) RX1 (kvA 0 (a 0) (kvI 1 p0 (kvI 2 p1 kvE))) kpl_X1 rfl rfl (Nat.le_of_ble_eq_true rfl) rfl (fun p e s m below meth c A ls hx hb hr hml hts hown hlocks hP hK hG hD hA hS hl => ?_)
  have hw0 := hts (.fieldLink RX1 9 "Spanbooker" "cells" "[J") (List.mem_cons_of_mem _ kw_107)
  have hiX1 : ∀ w ∈ u_ws RX1 TX1 10, w ∈ wsX1_isBefore := fun w h => List.mem_cons_of_mem _ (ku_X1 w h)
  have h := f_X1_isBefore_e.symm.trans hf
  refine lv_iload_n hx hb (kdr dgX1_isBefore_0 0 0 rfl rfl) rfl (lv_at hl 1 rfl) ?_
  obtain ⟨r1, g1, h⟩ := g_b h
  refine kq_v (wSB cI cJ cZ a ce fr un sb se so sc wb we wo wc fb fe fo fc rm ac rf kn) (fun qP qD qF => va_runS (As := [.int p0]) (rest := []) ⟨hx, hb, hml, hown, hts⟩ (c_X1_needCell l dC dI cB cI cJ cZ  _  p0 r1 g1) (kcwS hts kw_473 kv_X1_needCell rfl rfl ⟨(Nat.le_of_ble_eq_true rfl), (Nat.le_of_ble_eq_true rfl)⟩) (kpS (A := A) (kPnil) hK ((kDnil (A := A))) hG) rfl rfl hl.1 rfl (lv_room (Nat.le_of_ble_eq_true rfl)) (kdr dgX1_isBefore_0 0 1 rfl rfl) ⟨(Nat.le_of_ble_eq_true rfl), (Nat.le_of_ble_eq_true rfl)⟩) hP hD hS hA kFr_n (fun H locs hP hD hS => ?_)
  refine lv_iload_n hx hb (kdr dgX1_isBefore_0 0 2 rfl rfl) rfl (lv_at hl 2 rfl) ?_
  obtain ⟨r2, g2, h⟩ := g_b h
  refine kq_v (wSB cI cJ cZ a ce fr un sb se so sc wb we wo wc fb fe fo fc rm ac rf kn) (fun qP qD qF => va_runS (As := [.int p1]) (rest := []) ⟨hx, hb, hml, hown, hts⟩ (c_X1_needCell l dC dI cB cI cJ cZ  _  p1 r2 g2) (kcwS hts kw_473 kv_X1_needCell rfl rfl ⟨(Nat.le_of_ble_eq_true rfl), (Nat.le_of_ble_eq_true rfl)⟩) (kpS (A := A) (kPnil) hK ((kDnil (A := A))) hG) rfl rfl hl.1 rfl (lv_room (Nat.le_of_ble_eq_true rfl)) (kdr dgX1_isBefore_0 0 3 rfl rfl) ⟨(Nat.le_of_ble_eq_true rfl), (Nat.le_of_ble_eq_true rfl)⟩) hP hD hS hA kFr_n (fun H locs hP hD hS => ?_)
  refine lv_aload_n hx hb (kdr dgX1_isBefore_0 0 4 rfl rfl) rfl (lv_at hl 0 rfl) ?_
  refine va_get (D := (dC, dI)) (ci := 3) (v := .ref (a 1)) (C := RX1) (T := TX1) (N := 10) hx hb hts hiX1 hown hK hP 0 rfl rfl 0 (by decide) hw0 (fun _ h9 => h9) rfl (kdr dgX1_isBefore_0 0 5 rfl rfl) ?_
  refine lv_iload_n hx hb (kdr dgX1_isBefore_0 0 6 rfl rfl) rfl (lv_at hl 1 rfl) ?_
  obtain ⟨z2, h⟩ := g_if h
  refine va_lald hx hb hK hP 1 2 rfl rfl (ix_in z2) (kdr dgX1_isBefore_0 0 7 rfl rfl) ?_
  refine lv_aload_n hx hb (kdr dgX1_isBefore_0 0 8 rfl rfl) rfl (lv_at hl 0 rfl) ?_
  refine va_get (D := (dC, dI)) (ci := 3) (v := .ref (a 1)) (C := RX1) (T := TX1) (N := 10) hx hb hts hiX1 hown hK hP 0 rfl rfl 0 (by decide) hw0 (fun _ h9 => h9) rfl (kdr dgX1_isBefore_0 0 9 rfl rfl) ?_
  refine lv_iload_n hx hb (kdr dgX1_isBefore_0 1 0 rfl rfl) rfl (lv_at hl 2 rfl) ?_
  obtain ⟨z3, h⟩ := g_if h
  refine va_lald hx hb hK hP 1 2 rfl rfl (ix_in z3) (kdr dgX1_isBefore_0 1 1 rfl rfl) ?_
  refine kl_ge (pc := 20) (tgt := 28) hx hb (kdr dgX1_isBefore_0 1 2 rfl rfl) (kdr dgX1_isBefore_0 1 3 rfl rfl) (by decide) (fun c5 => ?_) (fun c5 => ?_)
  · have h := g_t c5 h
    refine lv_iconst (v := 0) hx hb (kdr dgX1_isBefore_0 1 6 rfl rfl) (by decide) ?_
    have h := Option.some.inj h
    subst h
    exact kret_i (v := 0) hx hb hr rfl hlocks hS hP (kdr dgX1_isBefore_0 1 7 rfl rfl)
  · have h := g_f c5 h
    refine lv_iconst (v := 1) hx hb (kdr dgX1_isBefore_0 1 4 rfl rfl) (by decide) ?_
    refine lv_goto (tgt := 29) hx hb (kdr dgX1_isBefore_0 1 5 rfl rfl) (by decide) ?_
    have h := Option.some.inj h
    subst h
    exact kret_i (v := 1) hx hb hr rfl hlocks hS hP (kdr dgX1_isBefore_0 1 7 rfl rfl)
noncomputable def fx_X1_isBefore (p0 : Int32) (p1 : Int32) : Option (Nat) :=
  xb (fx_X1_needCell p0) (fun k1 => some k1) (
  (f_X1_needCell p0).bind fun r1 =>
  xb (fx_X1_needCell p1) (fun k2 => some k2) (
  none))
theorem fx_X1_isBefore_e {p0 : Int32} {p1 : Int32} : fx_X1_isBefore p0 p1 = 
  xb (fx_X1_needCell p0) (fun k1 => some k1) (
  (f_X1_needCell p0).bind fun r1 =>
  xb (fx_X1_needCell p1) (fun k2 => some k2) (
  none)) := rfl
set_option maxHeartbeats 4000000 in
set_option maxRecDepth 100000 in
theorem x_X1_isBefore (l : Launch) (hl9 : l.stackTraces = false) (dC : Nat → ClassId) (dI : Nat → Nat → Nat) (cB cI cJ cZ : ClassId) (a : Nat → Nat) (sz : Nat) (ce : Nat → Int64) (fr : Int64) (un : Int64) (sb : Nat → Int64) (se : Nat → Int64) (so : Nat → Int32) (sc : Int32) (wb : Nat → Int64) (we : Nat → Int64) (wo : Nat → Int32) (wc : Int32) (fb : Nat → Int64) (fe : Nat → Int64) (fo : Nat → Int32) (fc : Int32) (rm : Nat → Int32) (ac : Int32) (rf : Int32) (kn : Int32) (p0 : Int32) (p1 : Int32) (res : Nat) (hf : fx_X1_isBefore p0 p1 = some res) : kMX l yX1_isBefore wsX1_isBefore (kRm 7 1 6 110) dC dI cB cI cJ cZ [.ref (a 0), .int p0, .int p1] sz (wSB cI cJ cZ a ce fr un sb se so sc wb we wo wc fb fe fo fc rm ac rf kn) (res) (wSB cI cJ cZ a ce fr un sb se so sc wb we wo wc fb fe fo fc rm ac rf kn) 1 6 := by
  refine kmet_x (y := yX1_isBefore) (cc := cX1_isBefore) (maxL := 3) (ret := (some .boolean)) RX1 (kvA 0 (a 0) (kvI 1 p0 (kvI 2 p1 kvE))) kpl_X1 rfl rfl (Nat.le_of_ble_eq_true rfl) rfl (fun p e s m below meth c A ls hx hb hr hml ht hts hown hlocks hP hK hG hZ hD hA hS hl => ?_)
  have h := fx_X1_isBefore_e.symm.trans hf
  refine lv_iload_n hx hb (kdr dgX1_isBefore_0 0 0 rfl rfl) rfl (lv_at hl 1 rfl) ?_
  rcases g_x h with ⟨k1, j1, h⟩ | ⟨-, h⟩
  · have h := Option.some.inj h
    subst h
    exact kq_x (wSB cI cJ cZ a ce fr un sb se so sc wb we wo wc fb fe fo fc rm ac rf kn) (fun qP qD qF => vx_runS (As := [.int p0]) (rest := []) ⟨hx, hb, hml, hown, hts⟩ (x_X1_needCell l hl9 dC dI cB cI cJ cZ  _  p0 k1 j1) (kcwS hts kw_473 kv_X1_needCell rfl rfl ⟨(Nat.le_of_ble_eq_true rfl), (Nat.le_of_ble_eq_true rfl)⟩) (kpSXq (A := A) (kPnil) hK ((kDnil (A := A))) hG hZ hS qF) rfl rfl hl.1 rfl (lv_room (Nat.le_of_ble_eq_true rfl)) (kdr dgX1_isBefore_0 0 1 rfl rfl) ⟨(Nat.le_of_ble_eq_true rfl), (Nat.le_of_ble_eq_true rfl)⟩) hP hD hS hA kFr_n ht hlocks (Nat.le_of_ble_eq_true rfl) (Nat.le_of_ble_eq_true rfl)
  · obtain ⟨r1, g1, h⟩ := g_b h
    refine kq_v (wSB cI cJ cZ a ce fr un sb se so sc wb we wo wc fb fe fo fc rm ac rf kn) (fun qP qD qF => va_runS (As := [.int p0]) (rest := []) ⟨hx, hb, hml, hown, hts⟩ (c_X1_needCell l dC dI cB cI cJ cZ  _  p0 r1 g1) (kcwS hts kw_473 kv_X1_needCell rfl rfl ⟨(Nat.le_of_ble_eq_true rfl), (Nat.le_of_ble_eq_true rfl)⟩) (kpS (A := A) (kPnil) hK ((kDnil (A := A))) hG) rfl rfl hl.1 rfl (lv_room (Nat.le_of_ble_eq_true rfl)) (kdr dgX1_isBefore_0 0 1 rfl rfl) ⟨(Nat.le_of_ble_eq_true rfl), (Nat.le_of_ble_eq_true rfl)⟩) hP hD hS hA kFr_n (fun H locs hP hD hS => ?_)
    refine lv_iload_n hx hb (kdr dgX1_isBefore_0 0 2 rfl rfl) rfl (lv_at hl 2 rfl) ?_
    rcases g_x h with ⟨k2, j2, h⟩ | ⟨-, h⟩
    · have h := Option.some.inj h
      subst h
      exact kq_x (wSB cI cJ cZ a ce fr un sb se so sc wb we wo wc fb fe fo fc rm ac rf kn) (fun qP qD qF => vx_runS (As := [.int p1]) (rest := []) ⟨hx, hb, hml, hown, hts⟩ (x_X1_needCell l hl9 dC dI cB cI cJ cZ  _  p1 k2 j2) (kcwS hts kw_473 kv_X1_needCell rfl rfl ⟨(Nat.le_of_ble_eq_true rfl), (Nat.le_of_ble_eq_true rfl)⟩) (kpSXq (A := A) (kPnil) hK ((kDnil (A := A))) hG hZ hS qF) rfl rfl hl.1 rfl (lv_room (Nat.le_of_ble_eq_true rfl)) (kdr dgX1_isBefore_0 0 3 rfl rfl) ⟨(Nat.le_of_ble_eq_true rfl), (Nat.le_of_ble_eq_true rfl)⟩) hP hD hS hA kFr_n ht hlocks (Nat.le_of_ble_eq_true rfl) (Nat.le_of_ble_eq_true rfl)
    · cases h
noncomputable abbrev wsX1_isAfter : List Cond := kWs yX1_isAfter cX1_isAfter 3 (some .boolean)
noncomputable def f_X1_isAfter (ce : Nat → Int64) (p0 : Int32) (p1 : Int32) : Option (Int32) :=
  (f_X1_needCell p0).bind fun r1 =>
  (f_X1_needCell p1).bind fun r2 =>
  if ix p0 4 then
    if ix p1 4 then
      if (ce p0.toNatClampNeg) ≤ (ce p1.toNatClampNeg) then
        some 0
      else
        some 1
    else none
  else none
theorem f_X1_isAfter_e {ce : Nat → Int64} {p0 : Int32} {p1 : Int32} : f_X1_isAfter ce p0 p1 = 
  (f_X1_needCell p0).bind fun r1 =>
  (f_X1_needCell p1).bind fun r2 =>
  if ix p0 4 then
    if ix p1 4 then
      if (ce p0.toNatClampNeg) ≤ (ce p1.toNatClampNeg) then
        some 0
      else
        some 1
    else none
  else none := rfl
set_option maxHeartbeats 4000000 in
set_option maxRecDepth 100000 in
theorem c_X1_isAfter (l : Launch) (dC : Nat → ClassId) (dI : Nat → Nat → Nat) (cB cI cJ cZ : ClassId) (a : Nat → Nat) (sz : Nat) (ce : Nat → Int64) (fr : Int64) (un : Int64) (sb : Nat → Int64) (se : Nat → Int64) (so : Nat → Int32) (sc : Int32) (wb : Nat → Int64) (we : Nat → Int64) (wo : Nat → Int32) (wc : Int32) (fb : Nat → Int64) (fe : Nat → Int64) (fo : Nat → Int32) (fc : Int32) (rm : Nat → Int32) (ac : Int32) (rf : Int32) (kn : Int32) (p0 : Int32) (p1 : Int32) (res : Int32) (hf : f_X1_isAfter ce p0 p1 = some res) : kMi l yX1_isAfter wsX1_isAfter (kRm 2 0 0 42) dC dI cB cI cJ cZ [.ref (a 0), .int p0, .int p1] sz (wSB cI cJ cZ a ce fr un sb se so sc wb we wo wc fb fe fo fc rm ac rf kn) .boolean (res) (wSB cI cJ cZ a ce fr un sb se so sc wb we wo wc fb fe fo fc rm ac rf kn) 0 0 := by
  refine kmet_i (y := yX1_isAfter) (cc := cX1_isAfter) (maxL := 3) (ret := (some .boolean)) RX1 (kvA 0 (a 0) (kvI 1 p0 (kvI 2 p1 kvE))) kpl_X1 rfl rfl (Nat.le_of_ble_eq_true rfl) rfl (fun p e s m below meth c A ls hx hb hr hml hts hown hlocks hP hK hG hD hA hS hl => ?_)
  have hw0 := hts (.fieldLink RX1 9 "Spanbooker" "cells" "[J") (List.mem_cons_of_mem _ kw_107)
  have hiX1 : ∀ w ∈ u_ws RX1 TX1 10, w ∈ wsX1_isAfter := fun w h => List.mem_cons_of_mem _ (ku_X1 w h)
  have h := f_X1_isAfter_e.symm.trans hf
  refine lv_iload_n hx hb (kdr dgX1_isAfter_0 0 0 rfl rfl) rfl (lv_at hl 1 rfl) ?_
  obtain ⟨r1, g1, h⟩ := g_b h
  refine kq_v (wSB cI cJ cZ a ce fr un sb se so sc wb we wo wc fb fe fo fc rm ac rf kn) (fun qP qD qF => va_runS (As := [.int p0]) (rest := []) ⟨hx, hb, hml, hown, hts⟩ (c_X1_needCell l dC dI cB cI cJ cZ  _  p0 r1 g1) (kcwS hts kw_473 kv_X1_needCell rfl rfl ⟨(Nat.le_of_ble_eq_true rfl), (Nat.le_of_ble_eq_true rfl)⟩) (kpS (A := A) (kPnil) hK ((kDnil (A := A))) hG) rfl rfl hl.1 rfl (lv_room (Nat.le_of_ble_eq_true rfl)) (kdr dgX1_isAfter_0 0 1 rfl rfl) ⟨(Nat.le_of_ble_eq_true rfl), (Nat.le_of_ble_eq_true rfl)⟩) hP hD hS hA kFr_n (fun H locs hP hD hS => ?_)
  refine lv_iload_n hx hb (kdr dgX1_isAfter_0 0 2 rfl rfl) rfl (lv_at hl 2 rfl) ?_
  obtain ⟨r2, g2, h⟩ := g_b h
  refine kq_v (wSB cI cJ cZ a ce fr un sb se so sc wb we wo wc fb fe fo fc rm ac rf kn) (fun qP qD qF => va_runS (As := [.int p1]) (rest := []) ⟨hx, hb, hml, hown, hts⟩ (c_X1_needCell l dC dI cB cI cJ cZ  _  p1 r2 g2) (kcwS hts kw_473 kv_X1_needCell rfl rfl ⟨(Nat.le_of_ble_eq_true rfl), (Nat.le_of_ble_eq_true rfl)⟩) (kpS (A := A) (kPnil) hK ((kDnil (A := A))) hG) rfl rfl hl.1 rfl (lv_room (Nat.le_of_ble_eq_true rfl)) (kdr dgX1_isAfter_0 0 3 rfl rfl) ⟨(Nat.le_of_ble_eq_true rfl), (Nat.le_of_ble_eq_true rfl)⟩) hP hD hS hA kFr_n (fun H locs hP hD hS => ?_)
  refine lv_aload_n hx hb (kdr dgX1_isAfter_0 0 4 rfl rfl) rfl (lv_at hl 0 rfl) ?_
  refine va_get (D := (dC, dI)) (ci := 3) (v := .ref (a 1)) (C := RX1) (T := TX1) (N := 10) hx hb hts hiX1 hown hK hP 0 rfl rfl 0 (by decide) hw0 (fun _ h9 => h9) rfl (kdr dgX1_isAfter_0 0 5 rfl rfl) ?_
  refine lv_iload_n hx hb (kdr dgX1_isAfter_0 0 6 rfl rfl) rfl (lv_at hl 1 rfl) ?_
  obtain ⟨z2, h⟩ := g_if h
  refine va_lald hx hb hK hP 1 2 rfl rfl (ix_in z2) (kdr dgX1_isAfter_0 0 7 rfl rfl) ?_
  refine lv_aload_n hx hb (kdr dgX1_isAfter_0 0 8 rfl rfl) rfl (lv_at hl 0 rfl) ?_
  refine va_get (D := (dC, dI)) (ci := 3) (v := .ref (a 1)) (C := RX1) (T := TX1) (N := 10) hx hb hts hiX1 hown hK hP 0 rfl rfl 0 (by decide) hw0 (fun _ h9 => h9) rfl (kdr dgX1_isAfter_0 0 9 rfl rfl) ?_
  refine lv_iload_n hx hb (kdr dgX1_isAfter_0 1 0 rfl rfl) rfl (lv_at hl 2 rfl) ?_
  obtain ⟨z3, h⟩ := g_if h
  refine va_lald hx hb hK hP 1 2 rfl rfl (ix_in z3) (kdr dgX1_isAfter_0 1 1 rfl rfl) ?_
  refine kl_le (pc := 20) (tgt := 28) hx hb (kdr dgX1_isAfter_0 1 2 rfl rfl) (kdr dgX1_isAfter_0 1 3 rfl rfl) (by decide) (fun c5 => ?_) (fun c5 => ?_)
  · have h := g_t c5 h
    refine lv_iconst (v := 0) hx hb (kdr dgX1_isAfter_0 1 6 rfl rfl) (by decide) ?_
    have h := Option.some.inj h
    subst h
    exact kret_i (v := 0) hx hb hr rfl hlocks hS hP (kdr dgX1_isAfter_0 1 7 rfl rfl)
  · have h := g_f c5 h
    refine lv_iconst (v := 1) hx hb (kdr dgX1_isAfter_0 1 4 rfl rfl) (by decide) ?_
    refine lv_goto (tgt := 29) hx hb (kdr dgX1_isAfter_0 1 5 rfl rfl) (by decide) ?_
    have h := Option.some.inj h
    subst h
    exact kret_i (v := 1) hx hb hr rfl hlocks hS hP (kdr dgX1_isAfter_0 1 7 rfl rfl)
noncomputable def fx_X1_isAfter (p0 : Int32) (p1 : Int32) : Option (Nat) :=
  xb (fx_X1_needCell p0) (fun k1 => some k1) (
  (f_X1_needCell p0).bind fun r1 =>
  xb (fx_X1_needCell p1) (fun k2 => some k2) (
  none))
theorem fx_X1_isAfter_e {p0 : Int32} {p1 : Int32} : fx_X1_isAfter p0 p1 = 
  xb (fx_X1_needCell p0) (fun k1 => some k1) (
  (f_X1_needCell p0).bind fun r1 =>
  xb (fx_X1_needCell p1) (fun k2 => some k2) (
  none)) := rfl
set_option maxHeartbeats 4000000 in
set_option maxRecDepth 100000 in
theorem x_X1_isAfter (l : Launch) (hl9 : l.stackTraces = false) (dC : Nat → ClassId) (dI : Nat → Nat → Nat) (cB cI cJ cZ : ClassId) (a : Nat → Nat) (sz : Nat) (ce : Nat → Int64) (fr : Int64) (un : Int64) (sb : Nat → Int64) (se : Nat → Int64) (so : Nat → Int32) (sc : Int32) (wb : Nat → Int64) (we : Nat → Int64) (wo : Nat → Int32) (wc : Int32) (fb : Nat → Int64) (fe : Nat → Int64) (fo : Nat → Int32) (fc : Int32) (rm : Nat → Int32) (ac : Int32) (rf : Int32) (kn : Int32) (p0 : Int32) (p1 : Int32) (res : Nat) (hf : fx_X1_isAfter p0 p1 = some res) : kMX l yX1_isAfter wsX1_isAfter (kRm 7 1 6 110) dC dI cB cI cJ cZ [.ref (a 0), .int p0, .int p1] sz (wSB cI cJ cZ a ce fr un sb se so sc wb we wo wc fb fe fo fc rm ac rf kn) (res) (wSB cI cJ cZ a ce fr un sb se so sc wb we wo wc fb fe fo fc rm ac rf kn) 1 6 := by
  refine kmet_x (y := yX1_isAfter) (cc := cX1_isAfter) (maxL := 3) (ret := (some .boolean)) RX1 (kvA 0 (a 0) (kvI 1 p0 (kvI 2 p1 kvE))) kpl_X1 rfl rfl (Nat.le_of_ble_eq_true rfl) rfl (fun p e s m below meth c A ls hx hb hr hml ht hts hown hlocks hP hK hG hZ hD hA hS hl => ?_)
  have h := fx_X1_isAfter_e.symm.trans hf
  refine lv_iload_n hx hb (kdr dgX1_isAfter_0 0 0 rfl rfl) rfl (lv_at hl 1 rfl) ?_
  rcases g_x h with ⟨k1, j1, h⟩ | ⟨-, h⟩
  · have h := Option.some.inj h
    subst h
    exact kq_x (wSB cI cJ cZ a ce fr un sb se so sc wb we wo wc fb fe fo fc rm ac rf kn) (fun qP qD qF => vx_runS (As := [.int p0]) (rest := []) ⟨hx, hb, hml, hown, hts⟩ (x_X1_needCell l hl9 dC dI cB cI cJ cZ  _  p0 k1 j1) (kcwS hts kw_473 kv_X1_needCell rfl rfl ⟨(Nat.le_of_ble_eq_true rfl), (Nat.le_of_ble_eq_true rfl)⟩) (kpSXq (A := A) (kPnil) hK ((kDnil (A := A))) hG hZ hS qF) rfl rfl hl.1 rfl (lv_room (Nat.le_of_ble_eq_true rfl)) (kdr dgX1_isAfter_0 0 1 rfl rfl) ⟨(Nat.le_of_ble_eq_true rfl), (Nat.le_of_ble_eq_true rfl)⟩) hP hD hS hA kFr_n ht hlocks (Nat.le_of_ble_eq_true rfl) (Nat.le_of_ble_eq_true rfl)
  · obtain ⟨r1, g1, h⟩ := g_b h
    refine kq_v (wSB cI cJ cZ a ce fr un sb se so sc wb we wo wc fb fe fo fc rm ac rf kn) (fun qP qD qF => va_runS (As := [.int p0]) (rest := []) ⟨hx, hb, hml, hown, hts⟩ (c_X1_needCell l dC dI cB cI cJ cZ  _  p0 r1 g1) (kcwS hts kw_473 kv_X1_needCell rfl rfl ⟨(Nat.le_of_ble_eq_true rfl), (Nat.le_of_ble_eq_true rfl)⟩) (kpS (A := A) (kPnil) hK ((kDnil (A := A))) hG) rfl rfl hl.1 rfl (lv_room (Nat.le_of_ble_eq_true rfl)) (kdr dgX1_isAfter_0 0 1 rfl rfl) ⟨(Nat.le_of_ble_eq_true rfl), (Nat.le_of_ble_eq_true rfl)⟩) hP hD hS hA kFr_n (fun H locs hP hD hS => ?_)
    refine lv_iload_n hx hb (kdr dgX1_isAfter_0 0 2 rfl rfl) rfl (lv_at hl 2 rfl) ?_
    rcases g_x h with ⟨k2, j2, h⟩ | ⟨-, h⟩
    · have h := Option.some.inj h
      subst h
      exact kq_x (wSB cI cJ cZ a ce fr un sb se so sc wb we wo wc fb fe fo fc rm ac rf kn) (fun qP qD qF => vx_runS (As := [.int p1]) (rest := []) ⟨hx, hb, hml, hown, hts⟩ (x_X1_needCell l hl9 dC dI cB cI cJ cZ  _  p1 k2 j2) (kcwS hts kw_473 kv_X1_needCell rfl rfl ⟨(Nat.le_of_ble_eq_true rfl), (Nat.le_of_ble_eq_true rfl)⟩) (kpSXq (A := A) (kPnil) hK ((kDnil (A := A))) hG hZ hS qF) rfl rfl hl.1 rfl (lv_room (Nat.le_of_ble_eq_true rfl)) (kdr dgX1_isAfter_0 0 3 rfl rfl) ⟨(Nat.le_of_ble_eq_true rfl), (Nat.le_of_ble_eq_true rfl)⟩) hP hD hS hA kFr_n ht hlocks (Nat.le_of_ble_eq_true rfl) (Nat.le_of_ble_eq_true rfl)
    · cases h
noncomputable abbrev wsX1_same : List Cond := kWs yX1_same cX1_same 4 (some .boolean)
noncomputable def f_X1_same (ce : Nat → Int64) (p0 : Int32) (p1 : Int32) (p2 : Int32) : Option (Int32) :=
  (f_X1_needCell p0).bind fun r1 =>
  (f_X1_needCell p1).bind fun r2 =>
  (f_X1_isWithin p2 0 2).bind fun r3 =>
  (f_X1_needThat r3).bind fun r4 =>
  if p2 = 2 then
    some 1
  else
    if ix p0 4 then
      if ix p1 4 then
        if (ce p0.toNatClampNeg) = (ce p1.toNatClampNeg) then
          some 1
        else
          some 0
      else none
    else none
theorem f_X1_same_e {ce : Nat → Int64} {p0 : Int32} {p1 : Int32} {p2 : Int32} : f_X1_same ce p0 p1 p2 = 
  (f_X1_needCell p0).bind fun r1 =>
  (f_X1_needCell p1).bind fun r2 =>
  (f_X1_isWithin p2 0 2).bind fun r3 =>
  (f_X1_needThat r3).bind fun r4 =>
  if p2 = 2 then
    some 1
  else
    if ix p0 4 then
      if ix p1 4 then
        if (ce p0.toNatClampNeg) = (ce p1.toNatClampNeg) then
          some 1
        else
          some 0
      else none
    else none := rfl
set_option maxHeartbeats 4000000 in
set_option maxRecDepth 100000 in
theorem c_X1_same (l : Launch) (dC : Nat → ClassId) (dI : Nat → Nat → Nat) (cB cI cJ cZ : ClassId) (a : Nat → Nat) (sz : Nat) (ce : Nat → Int64) (fr : Int64) (un : Int64) (sb : Nat → Int64) (se : Nat → Int64) (so : Nat → Int32) (sc : Int32) (wb : Nat → Int64) (we : Nat → Int64) (wo : Nat → Int32) (wc : Int32) (fb : Nat → Int64) (fe : Nat → Int64) (fo : Nat → Int32) (fc : Int32) (rm : Nat → Int32) (ac : Int32) (rf : Int32) (kn : Int32) (p0 : Int32) (p1 : Int32) (p2 : Int32) (res : Int32) (hf : f_X1_same ce p0 p1 p2 = some res) : kMi l yX1_same wsX1_same (kRm 2 0 0 42) dC dI cB cI cJ cZ [.ref (a 0), .int p0, .int p1, .int p2] sz (wSB cI cJ cZ a ce fr un sb se so sc wb we wo wc fb fe fo fc rm ac rf kn) .boolean (res) (wSB cI cJ cZ a ce fr un sb se so sc wb we wo wc fb fe fo fc rm ac rf kn) 0 0 := by
  refine kmet_i (y := yX1_same) (cc := cX1_same) (maxL := 4) (ret := (some .boolean)) RX1 (kvA 0 (a 0) (kvI 1 p0 (kvI 2 p1 (kvI 3 p2 kvE)))) kpl_X1 rfl rfl (Nat.le_of_ble_eq_true rfl) rfl (fun p e s m below meth c A ls hx hb hr hml hts hown hlocks hP hK hG hD hA hS hl => ?_)
  have hw0 := hts (.fieldLink RX1 9 "Spanbooker" "cells" "[J") (List.mem_cons_of_mem _ kw_107)
  have hiX1 : ∀ w ∈ u_ws RX1 TX1 10, w ∈ wsX1_same := fun w h => List.mem_cons_of_mem _ (ku_X1 w h)
  have h := f_X1_same_e.symm.trans hf
  refine lv_iload_n hx hb (kdr dgX1_same_0 0 0 rfl rfl) rfl (lv_at hl 1 rfl) ?_
  obtain ⟨r1, g1, h⟩ := g_b h
  refine kq_v (wSB cI cJ cZ a ce fr un sb se so sc wb we wo wc fb fe fo fc rm ac rf kn) (fun qP qD qF => va_runS (As := [.int p0]) (rest := []) ⟨hx, hb, hml, hown, hts⟩ (c_X1_needCell l dC dI cB cI cJ cZ  _  p0 r1 g1) (kcwS hts kw_473 kv_X1_needCell rfl rfl ⟨(Nat.le_of_ble_eq_true rfl), (Nat.le_of_ble_eq_true rfl)⟩) (kpS (A := A) (kPnil) hK ((kDnil (A := A))) hG) rfl rfl hl.1 rfl (lv_room (Nat.le_of_ble_eq_true rfl)) (kdr dgX1_same_0 0 1 rfl rfl) ⟨(Nat.le_of_ble_eq_true rfl), (Nat.le_of_ble_eq_true rfl)⟩) hP hD hS hA kFr_n (fun H locs hP hD hS => ?_)
  refine lv_iload_n hx hb (kdr dgX1_same_0 0 2 rfl rfl) rfl (lv_at hl 2 rfl) ?_
  obtain ⟨r2, g2, h⟩ := g_b h
  refine kq_v (wSB cI cJ cZ a ce fr un sb se so sc wb we wo wc fb fe fo fc rm ac rf kn) (fun qP qD qF => va_runS (As := [.int p1]) (rest := []) ⟨hx, hb, hml, hown, hts⟩ (c_X1_needCell l dC dI cB cI cJ cZ  _  p1 r2 g2) (kcwS hts kw_473 kv_X1_needCell rfl rfl ⟨(Nat.le_of_ble_eq_true rfl), (Nat.le_of_ble_eq_true rfl)⟩) (kpS (A := A) (kPnil) hK ((kDnil (A := A))) hG) rfl rfl hl.1 rfl (lv_room (Nat.le_of_ble_eq_true rfl)) (kdr dgX1_same_0 0 3 rfl rfl) ⟨(Nat.le_of_ble_eq_true rfl), (Nat.le_of_ble_eq_true rfl)⟩) hP hD hS hA kFr_n (fun H locs hP hD hS => ?_)
  refine lv_iload_n hx hb (kdr dgX1_same_0 0 4 rfl rfl) rfl (lv_at hl 3 rfl) ?_
  refine lv_iconst (v := 0) hx hb (kdr dgX1_same_0 0 5 rfl rfl) (by decide) ?_
  refine lv_iconst (v := 2) hx hb (kdr dgX1_same_0 0 6 rfl rfl) (by decide) ?_
  obtain ⟨r3, g3, h⟩ := g_b h
  refine kq_i (wSB cI cJ cZ a ce fr un sb se so sc wb we wo wc fb fe fo fc rm ac rf kn) (fun qP qD qF => va_runS (As := [.int p2, .int 0, .int 2]) (rest := []) ⟨hx, hb, hml, hown, hts⟩ (c_X1_isWithin l dC dI cB cI cJ cZ  _  p2 0 2 r3 g3) (kcwS hts kw_354 kv_X1_isWithin rfl rfl ⟨(Nat.le_of_ble_eq_true rfl), (Nat.le_of_ble_eq_true rfl)⟩) (kpS (A := A) (kPnil) hK ((kDnil (A := A))) hG) rfl rfl hl.1 rfl (lv_room (Nat.le_of_ble_eq_true rfl)) (kdr dgX1_same_0 0 7 rfl rfl) ⟨(Nat.le_of_ble_eq_true rfl), (Nat.le_of_ble_eq_true rfl)⟩) hP hD hS hA kFr_n (fun H locs hP hD hS br3 => ?_)
  obtain ⟨r4, g4, h⟩ := g_b h
  refine kq_v (wSB cI cJ cZ a ce fr un sb se so sc wb we wo wc fb fe fo fc rm ac rf kn) (fun qP qD qF => va_runS (As := [.int r3]) (rest := []) ⟨hx, hb, hml, hown, hts⟩ (c_X1_needThat l dC dI cB cI cJ cZ  _  r3 r4 g4) (kcwS hts kw_357 kv_X1_needThat rfl rfl ⟨(Nat.le_of_ble_eq_true rfl), (Nat.le_of_ble_eq_true rfl)⟩) (kpS (A := A) (kPnil) hK ((kDnil (A := A))) hG) rfl rfl hl.1 rfl (lv_room (Nat.le_of_ble_eq_true rfl)) (kdr dgX1_same_0 0 8 rfl rfl) ⟨(Nat.le_of_ble_eq_true rfl), (Nat.le_of_ble_eq_true rfl)⟩) hP hD hS hA kFr_n (fun H locs hP hD hS => ?_)
  refine lv_iload_n hx hb (kdr dgX1_same_0 0 9 rfl rfl) rfl (lv_at hl 3 rfl) ?_
  refine lv_iconst (v := 2) hx hb (kdr dgX1_same_0 1 0 rfl rfl) (by decide) ?_
  refine lv_icmp_eq (tgt := 38) hx hb (kdr dgX1_same_0 1 1 rfl rfl) (by decide) (fun c5 => ?_) (fun c5 => ?_)
  · have h := g_t c5 h
    refine lv_iconst (v := 1) hx hb (kdr dgX1_same_0 2 2 rfl rfl) (by decide) ?_
    refine lv_goto (tgt := 43) hx hb (kdr dgX1_same_0 2 3 rfl rfl) (by decide) ?_
    have h := Option.some.inj h
    subst h
    exact kret_i (v := 1) hx hb hr rfl hlocks hS hP (kdr dgX1_same_0 2 5 rfl rfl)
  · have h := g_f c5 h
    refine lv_aload_n hx hb (kdr dgX1_same_0 1 2 rfl rfl) rfl (lv_at hl 0 rfl) ?_
    refine va_get (D := (dC, dI)) (ci := 3) (v := .ref (a 1)) (C := RX1) (T := TX1) (N := 10) hx hb hts hiX1 hown hK hP 0 rfl rfl 0 (by decide) hw0 (fun _ h9 => h9) rfl (kdr dgX1_same_0 1 3 rfl rfl) ?_
    refine lv_iload_n hx hb (kdr dgX1_same_0 1 4 rfl rfl) rfl (lv_at hl 1 rfl) ?_
    obtain ⟨z5, h⟩ := g_if h
    refine va_lald hx hb hK hP 1 2 rfl rfl (ix_in z5) (kdr dgX1_same_0 1 5 rfl rfl) ?_
    refine lv_aload_n hx hb (kdr dgX1_same_0 1 6 rfl rfl) rfl (lv_at hl 0 rfl) ?_
    refine va_get (D := (dC, dI)) (ci := 3) (v := .ref (a 1)) (C := RX1) (T := TX1) (N := 10) hx hb hts hiX1 hown hK hP 0 rfl rfl 0 (by decide) hw0 (fun _ h9 => h9) rfl (kdr dgX1_same_0 1 7 rfl rfl) ?_
    refine lv_iload_n hx hb (kdr dgX1_same_0 1 8 rfl rfl) rfl (lv_at hl 2 rfl) ?_
    obtain ⟨z6, h⟩ := g_if h
    refine va_lald hx hb hK hP 1 2 rfl rfl (ix_in z6) (kdr dgX1_same_0 1 9 rfl rfl) ?_
    refine kl_ne (pc := 34) (tgt := 42) hx hb (kdr dgX1_same_0 2 0 rfl rfl) (kdr dgX1_same_0 2 1 rfl rfl) (by decide) (fun c8 => ?_) (fun c8 => ?_)
    · have h := g_f c8 h
      refine lv_iconst (v := 0) hx hb (kdr dgX1_same_0 2 4 rfl rfl) (by decide) ?_
      have h := Option.some.inj h
      subst h
      exact kret_i (v := 0) hx hb hr rfl hlocks hS hP (kdr dgX1_same_0 2 5 rfl rfl)
    · have h := g_t c8 h
      refine lv_iconst (v := 1) hx hb (kdr dgX1_same_0 2 2 rfl rfl) (by decide) ?_
      refine lv_goto (tgt := 43) hx hb (kdr dgX1_same_0 2 3 rfl rfl) (by decide) ?_
      have h := Option.some.inj h
      subst h
      exact kret_i (v := 1) hx hb hr rfl hlocks hS hP (kdr dgX1_same_0 2 5 rfl rfl)
noncomputable def fx_X1_same (p0 : Int32) (p1 : Int32) (p2 : Int32) : Option (Nat) :=
  xb (fx_X1_needCell p0) (fun k1 => some k1) (
  (f_X1_needCell p0).bind fun r1 =>
  xb (fx_X1_needCell p1) (fun k2 => some k2) (
  (f_X1_needCell p1).bind fun r2 =>
  (f_X1_isWithin p2 0 2).bind fun r3 =>
  xb (fx_X1_needThat r3) (fun k4 => some k4) (
  none)))
theorem fx_X1_same_e {p0 : Int32} {p1 : Int32} {p2 : Int32} : fx_X1_same p0 p1 p2 = 
  xb (fx_X1_needCell p0) (fun k1 => some k1) (
  (f_X1_needCell p0).bind fun r1 =>
  xb (fx_X1_needCell p1) (fun k2 => some k2) (
  (f_X1_needCell p1).bind fun r2 =>
  (f_X1_isWithin p2 0 2).bind fun r3 =>
  xb (fx_X1_needThat r3) (fun k4 => some k4) (
  none))) := rfl
set_option maxHeartbeats 4000000 in
set_option maxRecDepth 100000 in
theorem x_X1_same (l : Launch) (hl9 : l.stackTraces = false) (dC : Nat → ClassId) (dI : Nat → Nat → Nat) (cB cI cJ cZ : ClassId) (a : Nat → Nat) (sz : Nat) (ce : Nat → Int64) (fr : Int64) (un : Int64) (sb : Nat → Int64) (se : Nat → Int64) (so : Nat → Int32) (sc : Int32) (wb : Nat → Int64) (we : Nat → Int64) (wo : Nat → Int32) (wc : Int32) (fb : Nat → Int64) (fe : Nat → Int64) (fo : Nat → Int32) (fc : Int32) (rm : Nat → Int32) (ac : Int32) (rf : Int32) (kn : Int32) (p0 : Int32) (p1 : Int32) (p2 : Int32) (res : Nat) (hf : fx_X1_same p0 p1 p2 = some res) : kMX l yX1_same wsX1_same (kRm 7 1 6 110) dC dI cB cI cJ cZ [.ref (a 0), .int p0, .int p1, .int p2] sz (wSB cI cJ cZ a ce fr un sb se so sc wb we wo wc fb fe fo fc rm ac rf kn) (res) (wSB cI cJ cZ a ce fr un sb se so sc wb we wo wc fb fe fo fc rm ac rf kn) 1 6 := by
  refine kmet_x (y := yX1_same) (cc := cX1_same) (maxL := 4) (ret := (some .boolean)) RX1 (kvA 0 (a 0) (kvI 1 p0 (kvI 2 p1 (kvI 3 p2 kvE)))) kpl_X1 rfl rfl (Nat.le_of_ble_eq_true rfl) rfl (fun p e s m below meth c A ls hx hb hr hml ht hts hown hlocks hP hK hG hZ hD hA hS hl => ?_)
  have h := fx_X1_same_e.symm.trans hf
  refine lv_iload_n hx hb (kdr dgX1_same_0 0 0 rfl rfl) rfl (lv_at hl 1 rfl) ?_
  rcases g_x h with ⟨k1, j1, h⟩ | ⟨-, h⟩
  · have h := Option.some.inj h
    subst h
    exact kq_x (wSB cI cJ cZ a ce fr un sb se so sc wb we wo wc fb fe fo fc rm ac rf kn) (fun qP qD qF => vx_runS (As := [.int p0]) (rest := []) ⟨hx, hb, hml, hown, hts⟩ (x_X1_needCell l hl9 dC dI cB cI cJ cZ  _  p0 k1 j1) (kcwS hts kw_473 kv_X1_needCell rfl rfl ⟨(Nat.le_of_ble_eq_true rfl), (Nat.le_of_ble_eq_true rfl)⟩) (kpSXq (A := A) (kPnil) hK ((kDnil (A := A))) hG hZ hS qF) rfl rfl hl.1 rfl (lv_room (Nat.le_of_ble_eq_true rfl)) (kdr dgX1_same_0 0 1 rfl rfl) ⟨(Nat.le_of_ble_eq_true rfl), (Nat.le_of_ble_eq_true rfl)⟩) hP hD hS hA kFr_n ht hlocks (Nat.le_of_ble_eq_true rfl) (Nat.le_of_ble_eq_true rfl)
  · obtain ⟨r1, g1, h⟩ := g_b h
    refine kq_v (wSB cI cJ cZ a ce fr un sb se so sc wb we wo wc fb fe fo fc rm ac rf kn) (fun qP qD qF => va_runS (As := [.int p0]) (rest := []) ⟨hx, hb, hml, hown, hts⟩ (c_X1_needCell l dC dI cB cI cJ cZ  _  p0 r1 g1) (kcwS hts kw_473 kv_X1_needCell rfl rfl ⟨(Nat.le_of_ble_eq_true rfl), (Nat.le_of_ble_eq_true rfl)⟩) (kpS (A := A) (kPnil) hK ((kDnil (A := A))) hG) rfl rfl hl.1 rfl (lv_room (Nat.le_of_ble_eq_true rfl)) (kdr dgX1_same_0 0 1 rfl rfl) ⟨(Nat.le_of_ble_eq_true rfl), (Nat.le_of_ble_eq_true rfl)⟩) hP hD hS hA kFr_n (fun H locs hP hD hS => ?_)
    refine lv_iload_n hx hb (kdr dgX1_same_0 0 2 rfl rfl) rfl (lv_at hl 2 rfl) ?_
    rcases g_x h with ⟨k2, j2, h⟩ | ⟨-, h⟩
    · have h := Option.some.inj h
      subst h
      exact kq_x (wSB cI cJ cZ a ce fr un sb se so sc wb we wo wc fb fe fo fc rm ac rf kn) (fun qP qD qF => vx_runS (As := [.int p1]) (rest := []) ⟨hx, hb, hml, hown, hts⟩ (x_X1_needCell l hl9 dC dI cB cI cJ cZ  _  p1 k2 j2) (kcwS hts kw_473 kv_X1_needCell rfl rfl ⟨(Nat.le_of_ble_eq_true rfl), (Nat.le_of_ble_eq_true rfl)⟩) (kpSXq (A := A) (kPnil) hK ((kDnil (A := A))) hG hZ hS qF) rfl rfl hl.1 rfl (lv_room (Nat.le_of_ble_eq_true rfl)) (kdr dgX1_same_0 0 3 rfl rfl) ⟨(Nat.le_of_ble_eq_true rfl), (Nat.le_of_ble_eq_true rfl)⟩) hP hD hS hA kFr_n ht hlocks (Nat.le_of_ble_eq_true rfl) (Nat.le_of_ble_eq_true rfl)
    · obtain ⟨r2, g2, h⟩ := g_b h
      refine kq_v (wSB cI cJ cZ a ce fr un sb se so sc wb we wo wc fb fe fo fc rm ac rf kn) (fun qP qD qF => va_runS (As := [.int p1]) (rest := []) ⟨hx, hb, hml, hown, hts⟩ (c_X1_needCell l dC dI cB cI cJ cZ  _  p1 r2 g2) (kcwS hts kw_473 kv_X1_needCell rfl rfl ⟨(Nat.le_of_ble_eq_true rfl), (Nat.le_of_ble_eq_true rfl)⟩) (kpS (A := A) (kPnil) hK ((kDnil (A := A))) hG) rfl rfl hl.1 rfl (lv_room (Nat.le_of_ble_eq_true rfl)) (kdr dgX1_same_0 0 3 rfl rfl) ⟨(Nat.le_of_ble_eq_true rfl), (Nat.le_of_ble_eq_true rfl)⟩) hP hD hS hA kFr_n (fun H locs hP hD hS => ?_)
      refine lv_iload_n hx hb (kdr dgX1_same_0 0 4 rfl rfl) rfl (lv_at hl 3 rfl) ?_
      refine lv_iconst (v := 0) hx hb (kdr dgX1_same_0 0 5 rfl rfl) (by decide) ?_
      refine lv_iconst (v := 2) hx hb (kdr dgX1_same_0 0 6 rfl rfl) (by decide) ?_
      obtain ⟨r3, g3, h⟩ := g_b h
      refine kq_i (wSB cI cJ cZ a ce fr un sb se so sc wb we wo wc fb fe fo fc rm ac rf kn) (fun qP qD qF => va_runS (As := [.int p2, .int 0, .int 2]) (rest := []) ⟨hx, hb, hml, hown, hts⟩ (c_X1_isWithin l dC dI cB cI cJ cZ  _  p2 0 2 r3 g3) (kcwS hts kw_354 kv_X1_isWithin rfl rfl ⟨(Nat.le_of_ble_eq_true rfl), (Nat.le_of_ble_eq_true rfl)⟩) (kpS (A := A) (kPnil) hK ((kDnil (A := A))) hG) rfl rfl hl.1 rfl (lv_room (Nat.le_of_ble_eq_true rfl)) (kdr dgX1_same_0 0 7 rfl rfl) ⟨(Nat.le_of_ble_eq_true rfl), (Nat.le_of_ble_eq_true rfl)⟩) hP hD hS hA kFr_n (fun H locs hP hD hS br3 => ?_)
      rcases g_x h with ⟨k4, j4, h⟩ | ⟨-, h⟩
      · have h := Option.some.inj h
        subst h
        exact kq_x (wSB cI cJ cZ a ce fr un sb se so sc wb we wo wc fb fe fo fc rm ac rf kn) (fun qP qD qF => vx_runS (As := [.int r3]) (rest := []) ⟨hx, hb, hml, hown, hts⟩ (x_X1_needThat l hl9 dC dI cB cI cJ cZ  _  r3 k4 j4) (kcwS hts kw_357 kv_X1_needThat rfl rfl ⟨(Nat.le_of_ble_eq_true rfl), (Nat.le_of_ble_eq_true rfl)⟩) (kpSXq (A := A) (kPnil) hK ((kDnil (A := A))) hG hZ hS qF) rfl rfl hl.1 rfl (lv_room (Nat.le_of_ble_eq_true rfl)) (kdr dgX1_same_0 0 8 rfl rfl) ⟨(Nat.le_of_ble_eq_true rfl), (Nat.le_of_ble_eq_true rfl)⟩) hP hD hS hA kFr_n ht hlocks (Nat.le_of_ble_eq_true rfl) (Nat.le_of_ble_eq_true rfl)
      · cases h
end
