noncomputable abbrev wsX3_secondOf : List Cond := kWs yX3_secondOf cX3_secondOf 2 (some .int)
noncomputable def f_X3_secondOf (p0 : Int64) : Option (Int32) :=
  if p0 < 0 then
    some ((-((999999999 - p0) / 1000000000)).toInt32)
  else
    some ((p0 / 1000000000).toInt32)
theorem f_X3_secondOf_e {p0 : Int64} : f_X3_secondOf p0 = 
  if p0 < 0 then
    some ((-((999999999 - p0) / 1000000000)).toInt32)
  else
    some ((p0 / 1000000000).toInt32) := rfl
set_option maxHeartbeats 4000000 in
set_option maxRecDepth 100000 in
theorem c_X3_secondOf (l : Launch) (dC : Nat → ClassId) (dI : Nat → Nat → Nat) (cB cI cJ cZ : ClassId) (sz : Nat) (p0 : Int64) (res : Int32) (hf : f_X3_secondOf p0 = some res) : kMi l yX3_secondOf wsX3_secondOf (kRm 0 0 0 0) dC dI cB cI cJ cZ [.long p0] sz [] .int (res) [] 0 0 := by
  refine kmet_i (y := yX3_secondOf) (cc := cX3_secondOf) (maxL := 2) (ret := (some .int)) RX3 (kvJ 0 p0 kvE) kpl_X3 rfl rfl (Nat.le_of_ble_eq_true rfl) rfl (fun p e s m below meth c A ls hx hb hr hml hts hown hlocks hP hK hG hD hA hS hl => ?_)
  have hw0 := hts (.constantLong RX3 41 (999999999)) (List.mem_cons_of_mem _ kw_1147)
  have hw1 := hts (.constantLong RX3 39 (1000000000)) (List.mem_cons_of_mem _ kw_1134)
  have h := f_X3_secondOf_e.symm.trans hf
  refine lv_lload_n hx hb (kdr dgX3_secondOf_0 0 0 rfl rfl) rfl (lv_at hl 0 rfl) ?_
  refine lv_lconst (v := 0) hx hb (kdr dgX3_secondOf_0 0 1 rfl rfl) (by decide) ?_
  refine kl_lt (pc := 2) (tgt := 14) hx hb (kdr dgX3_secondOf_0 0 2 rfl rfl) (kdr dgX3_secondOf_0 0 3 rfl rfl) (by decide) (fun c1 => ?_) (fun c1 => ?_)
  · have h := g_t c1 h
    refine lv_ldc2 (v := (999999999)) hx hb hown hw0 (kdr dgX3_secondOf_0 0 8 rfl rfl) ?_
    refine lv_lload_n hx hb (kdr dgX3_secondOf_0 0 9 rfl rfl) rfl (lv_at hl 0 rfl) ?_
    refine lv_lsub hx hb (kdr dgX3_secondOf_0 1 0 rfl rfl) ?_
    refine lv_ldc2 (v := (1000000000)) hx hb hown hw1 (kdr dgX3_secondOf_0 1 1 rfl rfl) ?_
    refine lv_ldiv hx hb (kdr dgX3_secondOf_0 1 2 rfl rfl) (by decide) ?_
    refine lv_lneg hx hb (kdr dgX3_secondOf_0 1 3 rfl rfl) ?_
    refine lv_l2i (v := (-((999999999 - p0) / 1000000000)).toInt32) hx hb (kdr dgX3_secondOf_0 1 4 rfl rfl) rfl ?_
    have h := Option.some.inj h
    subst h
    exact kret_i (v := (-((999999999 - p0) / 1000000000)).toInt32) hx hb hr rfl hlocks hS hP (kdr dgX3_secondOf_0 1 5 rfl rfl)
  · have h := g_f c1 h
    refine lv_lload_n hx hb (kdr dgX3_secondOf_0 0 4 rfl rfl) rfl (lv_at hl 0 rfl) ?_
    refine lv_ldc2 (v := (1000000000)) hx hb hown hw1 (kdr dgX3_secondOf_0 0 5 rfl rfl) ?_
    refine lv_ldiv hx hb (kdr dgX3_secondOf_0 0 6 rfl rfl) (by decide) ?_
    refine lv_goto (tgt := 24) hx hb (kdr dgX3_secondOf_0 0 7 rfl rfl) (by decide) ?_
    refine lv_l2i (v := (p0 / 1000000000).toInt32) hx hb (kdr dgX3_secondOf_0 1 4 rfl rfl) rfl ?_
    have h := Option.some.inj h
    subst h
    exact kret_i (v := (p0 / 1000000000).toInt32) hx hb hr rfl hlocks hS hP (kdr dgX3_secondOf_0 1 5 rfl rfl)
noncomputable abbrev wsX3_nanoOf : List Cond := kWs yX3_nanoOf cX3_nanoOf 2 (some .int)
noncomputable def f_X3_nanoOf (p0 : Int64) : Option (Int32) :=
  (f_X3_secondOf p0).bind fun r1 =>
  some ((p0 - (r1.toInt64 * 1000000000)).toInt32)
theorem f_X3_nanoOf_e {p0 : Int64} : f_X3_nanoOf p0 = 
  (f_X3_secondOf p0).bind fun r1 =>
  some ((p0 - (r1.toInt64 * 1000000000)).toInt32) := rfl
set_option maxHeartbeats 4000000 in
set_option maxRecDepth 100000 in
theorem c_X3_nanoOf (l : Launch) (dC : Nat → ClassId) (dI : Nat → Nat → Nat) (cB cI cJ cZ : ClassId) (sz : Nat) (p0 : Int64) (res : Int32) (hf : f_X3_nanoOf p0 = some res) : kMi l yX3_nanoOf wsX3_nanoOf (kRm 1 0 0 21) dC dI cB cI cJ cZ [.long p0] sz [] .int (res) [] 0 0 := by
  refine kmet_i (y := yX3_nanoOf) (cc := cX3_nanoOf) (maxL := 2) (ret := (some .int)) RX3 (kvJ 0 p0 kvE) kpl_X3 rfl rfl (Nat.le_of_ble_eq_true rfl) rfl (fun p e s m below meth c A ls hx hb hr hml hts hown hlocks hP hK hG hD hA hS hl => ?_)
  have hw0 := hts (.constantLong RX3 39 (1000000000)) (List.mem_cons_of_mem _ kw_1134)
  have h := f_X3_nanoOf_e.symm.trans hf
  refine lv_lload_n hx hb (kdr dgX3_nanoOf_0 0 0 rfl rfl) rfl (lv_at hl 0 rfl) ?_
  refine lv_lload_n hx hb (kdr dgX3_nanoOf_0 0 1 rfl rfl) rfl (lv_at hl 0 rfl) ?_
  obtain ⟨r1, g1, h⟩ := g_b h
  refine kq_i [] (fun qP qD qF => va_runS (As := [.long p0]) (rest := [.long p0]) ⟨hx, hb, hml, hown, hts⟩ (c_X3_secondOf l dC dI cB cI cJ cZ  _  p0 r1 g1) (kcwS hts kw_1144 kv_X3_secondOf rfl rfl ⟨(Nat.le_of_ble_eq_true rfl), (Nat.le_of_ble_eq_true rfl)⟩) (kpS (A := A) (kPnil) hK ((kDnil (A := A))) hG) rfl rfl hl.1 rfl (lv_room (Nat.le_of_ble_eq_true rfl)) (kdr dgX3_nanoOf_0 0 2 rfl rfl) ⟨(Nat.le_of_ble_eq_true rfl), (Nat.le_of_ble_eq_true rfl)⟩) hP hD hS hA kFr_n (fun H locs hP hD hS br1 => ?_)
  refine lv_i2l (v := r1.toInt64) hx hb (kdr dgX3_nanoOf_0 0 3 rfl rfl) rfl ?_
  refine lv_ldc2 (v := (1000000000)) hx hb hown hw0 (kdr dgX3_nanoOf_0 0 4 rfl rfl) ?_
  refine lv_lmul hx hb (kdr dgX3_nanoOf_0 0 5 rfl rfl) ?_
  refine lv_lsub hx hb (kdr dgX3_nanoOf_0 0 6 rfl rfl) ?_
  refine lv_l2i (v := (p0 - (r1.toInt64 * 1000000000)).toInt32) hx hb (kdr dgX3_nanoOf_0 0 7 rfl rfl) rfl ?_
  have h := Option.some.inj h
  subst h
  exact kret_i (v := (p0 - (r1.toInt64 * 1000000000)).toInt32) hx hb hr rfl hlocks hS hP (kdr dgX3_nanoOf_0 0 8 rfl rfl)
noncomputable abbrev wsX3_isLet : List Cond := kWs yX3_isLet cX3_isLet 2 (some .boolean)
noncomputable def f_X3_isLet (p0 : Int64) : Option (Int32) :=
  if p0 < (-1000000000000000000) then
    some 0
  else
    if 1000000001000000000 ≤ p0 then
      some 0
    else
      some 1
theorem f_X3_isLet_e {p0 : Int64} : f_X3_isLet p0 = 
  if p0 < (-1000000000000000000) then
    some 0
  else
    if 1000000001000000000 ≤ p0 then
      some 0
    else
      some 1 := rfl
set_option maxHeartbeats 4000000 in
set_option maxRecDepth 100000 in
theorem c_X3_isLet (l : Launch) (dC : Nat → ClassId) (dI : Nat → Nat → Nat) (cB cI cJ cZ : ClassId) (sz : Nat) (p0 : Int64) (res : Int32) (hf : f_X3_isLet p0 = some res) : kMi l yX3_isLet wsX3_isLet (kRm 0 0 0 0) dC dI cB cI cJ cZ [.long p0] sz [] .boolean (res) [] 0 0 := by
  refine kmet_i (y := yX3_isLet) (cc := cX3_isLet) (maxL := 2) (ret := (some .boolean)) RX3 (kvJ 0 p0 kvE) kpl_X3 rfl rfl (Nat.le_of_ble_eq_true rfl) rfl (fun p e s m below meth c A ls hx hb hr hml hts hown hlocks hP hK hG hD hA hS hl => ?_)
  have hw0 := hts (.constantLong RX3 47 (-1000000000000000000)) (List.mem_cons_of_mem _ kw_1138)
  have hw1 := hts (.constantLong RX3 49 (1000000001000000000)) (List.mem_cons_of_mem _ kw_1139)
  have h := f_X3_isLet_e.symm.trans hf
  refine lv_lload_n hx hb (kdr dgX3_isLet_0 0 0 rfl rfl) rfl (lv_at hl 0 rfl) ?_
  refine lv_ldc2 (v := (-1000000000000000000)) hx hb hown hw0 (kdr dgX3_isLet_0 0 1 rfl rfl) ?_
  refine kl_lt (pc := 4) (tgt := 20) hx hb (kdr dgX3_isLet_0 0 2 rfl rfl) (kdr dgX3_isLet_0 0 3 rfl rfl) (by decide) (fun c1 => ?_) (fun c1 => ?_)
  · have h := g_t c1 h
    refine lv_iconst (v := 0) hx hb (kdr dgX3_isLet_0 1 0 rfl rfl) (by decide) ?_
    have h := Option.some.inj h
    subst h
    exact kret_i (v := 0) hx hb hr rfl hlocks hS hP (kdr dgX3_isLet_0 1 1 rfl rfl)
  · have h := g_f c1 h
    refine lv_lload_n hx hb (kdr dgX3_isLet_0 0 4 rfl rfl) rfl (lv_at hl 0 rfl) ?_
    refine lv_ldc2 (v := (1000000001000000000)) hx hb hown hw1 (kdr dgX3_isLet_0 0 5 rfl rfl) ?_
    refine kl_ge (pc := 12) (tgt := 20) hx hb (kdr dgX3_isLet_0 0 6 rfl rfl) (kdr dgX3_isLet_0 0 7 rfl rfl) (by decide) (fun c2 => ?_) (fun c2 => ?_)
    · have h := g_t c2 h
      refine lv_iconst (v := 0) hx hb (kdr dgX3_isLet_0 1 0 rfl rfl) (by decide) ?_
      have h := Option.some.inj h
      subst h
      exact kret_i (v := 0) hx hb hr rfl hlocks hS hP (kdr dgX3_isLet_0 1 1 rfl rfl)
    · have h := g_f c2 h
      refine lv_iconst (v := 1) hx hb (kdr dgX3_isLet_0 0 8 rfl rfl) (by decide) ?_
      refine lv_goto (tgt := 21) hx hb (kdr dgX3_isLet_0 0 9 rfl rfl) (by decide) ?_
      have h := Option.some.inj h
      subst h
      exact kret_i (v := 1) hx hb hr rfl hlocks hS hP (kdr dgX3_isLet_0 1 1 rfl rfl)
noncomputable abbrev wsX3_units : List Cond := kWs yX3_units cX3_units 2 (some .long)
noncomputable def f_X3_units (p0 : Int32) (p1 : Int32) : Option (Int64) :=
  if p0 = 0 then
    some (p1.toInt64 * 1000000000)
  else
    if p0 = 1 then
      some (p1.toInt64 * 1000000)
    else
      some (p1.toInt64 * 1)
theorem f_X3_units_e {p0 : Int32} {p1 : Int32} : f_X3_units p0 p1 = 
  if p0 = 0 then
    some (p1.toInt64 * 1000000000)
  else
    if p0 = 1 then
      some (p1.toInt64 * 1000000)
    else
      some (p1.toInt64 * 1) := rfl
set_option maxHeartbeats 4000000 in
set_option maxRecDepth 100000 in
theorem c_X3_units (l : Launch) (dC : Nat → ClassId) (dI : Nat → Nat → Nat) (cB cI cJ cZ : ClassId) (sz : Nat) (p0 : Int32) (p1 : Int32) (res : Int64) (hf : f_X3_units p0 p1 = some res) : kMl l yX3_units wsX3_units (kRm 0 0 0 0) dC dI cB cI cJ cZ [.int p0, .int p1] sz [] (res) [] 0 0 := by
  refine kmet_l (y := yX3_units) (cc := cX3_units) (maxL := 2) (ret := (some .long)) RX3 (kvI 0 p0 (kvI 1 p1 kvE)) kpl_X3 rfl rfl (Nat.le_of_ble_eq_true rfl) rfl (fun p e s m below meth c A ls hx hb hr hml hts hown hlocks hP hK hG hD hA hS hl => ?_)
  have hw0 := hts (.constantLong RX3 51 (1000000)) (List.mem_cons_of_mem _ kw_1162)
  have hw1 := hts (.constantLong RX3 39 (1000000000)) (List.mem_cons_of_mem _ kw_1134)
  have h := f_X3_units_e.symm.trans hf
  refine lv_iload_n hx hb (kdr dgX3_units_0 0 0 rfl rfl) rfl (lv_at hl 1 rfl) ?_
  refine lv_i2l (v := p1.toInt64) hx hb (kdr dgX3_units_0 0 1 rfl rfl) rfl ?_
  refine lv_iload_n hx hb (kdr dgX3_units_0 0 2 rfl rfl) rfl (lv_at hl 0 rfl) ?_
  refine lv_if_ne (tgt := 12) hx hb (kdr dgX3_units_0 0 3 rfl rfl) (by decide) (fun c1 => ?_) (fun c1 => ?_)
  · have h := g_f c1 h
    refine lv_iload_n hx hb (kdr dgX3_units_0 0 6 rfl rfl) rfl (lv_at hl 0 rfl) ?_
    refine lv_iconst (v := 1) hx hb (kdr dgX3_units_0 0 7 rfl rfl) (by decide) ?_
    refine lv_icmp_ne (tgt := 23) hx hb (kdr dgX3_units_0 0 8 rfl rfl) (by decide) (fun c2 => ?_) (fun c2 => ?_)
    · have h := g_f c2 h
      refine lv_lconst (v := 1) hx hb (kdr dgX3_units_0 1 1 rfl rfl) (by decide) ?_
      refine lv_lmul hx hb (kdr dgX3_units_0 1 2 rfl rfl) ?_
      have h := Option.some.inj h
      subst h
      exact kret_l (v := p1.toInt64 * 1) hx hb hr hlocks hS hP (kdr dgX3_units_0 1 3 rfl rfl)
    · have h := g_t c2 h
      refine lv_ldc2 (v := (1000000)) hx hb hown hw0 (kdr dgX3_units_0 0 9 rfl rfl) ?_
      refine lv_goto (tgt := 24) hx hb (kdr dgX3_units_0 1 0 rfl rfl) (by decide) ?_
      refine lv_lmul hx hb (kdr dgX3_units_0 1 2 rfl rfl) ?_
      have h := Option.some.inj h
      subst h
      exact kret_l (v := p1.toInt64 * 1000000) hx hb hr hlocks hS hP (kdr dgX3_units_0 1 3 rfl rfl)
  · have h := g_t c1 h
    refine lv_ldc2 (v := (1000000000)) hx hb hown hw1 (kdr dgX3_units_0 0 4 rfl rfl) ?_
    refine lv_goto (tgt := 24) hx hb (kdr dgX3_units_0 0 5 rfl rfl) (by decide) ?_
    refine lv_lmul hx hb (kdr dgX3_units_0 1 2 rfl rfl) ?_
    have h := Option.some.inj h
    subst h
    exact kret_l (v := p1.toInt64 * 1000000000) hx hb hr hlocks hS hP (kdr dgX3_units_0 1 3 rfl rfl)
noncomputable abbrev wsX3_sign : List Cond := kWs yX3_sign cX3_sign 2 (some .int)
noncomputable def f_X3_sign (p0 : Int64) : Option (Int32) :=
  if 0 ≤ p0 then
    if p0 ≤ 0 then
      some 0
    else
      some 1
  else
    some (-1)
theorem f_X3_sign_e {p0 : Int64} : f_X3_sign p0 = 
  if 0 ≤ p0 then
    if p0 ≤ 0 then
      some 0
    else
      some 1
  else
    some (-1) := rfl
set_option maxHeartbeats 4000000 in
set_option maxRecDepth 100000 in
theorem c_X3_sign (l : Launch) (dC : Nat → ClassId) (dI : Nat → Nat → Nat) (cB cI cJ cZ : ClassId) (sz : Nat) (p0 : Int64) (res : Int32) (hf : f_X3_sign p0 = some res) : kMi l yX3_sign wsX3_sign (kRm 0 0 0 0) dC dI cB cI cJ cZ [.long p0] sz [] .int (res) [] 0 0 := by
  refine kmet_i (y := yX3_sign) (cc := cX3_sign) (maxL := 2) (ret := (some .int)) RX3 (kvJ 0 p0 kvE) kpl_X3 rfl rfl (Nat.le_of_ble_eq_true rfl) rfl (fun p e s m below meth c A ls hx hb hr hml hts hown hlocks hP hK hG hD hA hS hl => ?_)
  have h := f_X3_sign_e.symm.trans hf
  refine lv_lload_n hx hb (kdr dgX3_sign_0 0 0 rfl rfl) rfl (lv_at hl 0 rfl) ?_
  refine lv_lconst (v := 0) hx hb (kdr dgX3_sign_0 0 1 rfl rfl) (by decide) ?_
  refine kl_ge (pc := 2) (tgt := 10) hx hb (kdr dgX3_sign_0 0 2 rfl rfl) (kdr dgX3_sign_0 0 3 rfl rfl) (by decide) (fun c1 => ?_) (fun c1 => ?_)
  · have h := g_t c1 h
    refine lv_lload_n hx hb (kdr dgX3_sign_0 0 6 rfl rfl) rfl (lv_at hl 0 rfl) ?_
    refine lv_lconst (v := 0) hx hb (kdr dgX3_sign_0 0 7 rfl rfl) (by decide) ?_
    refine kl_le (pc := 12) (tgt := 20) hx hb (kdr dgX3_sign_0 0 8 rfl rfl) (kdr dgX3_sign_0 0 9 rfl rfl) (by decide) (fun c2 => ?_) (fun c2 => ?_)
    · have h := g_t c2 h
      refine lv_iconst (v := 0) hx hb (kdr dgX3_sign_0 1 2 rfl rfl) (by decide) ?_
      have h := Option.some.inj h
      subst h
      exact kret_i (v := 0) hx hb hr rfl hlocks hS hP (kdr dgX3_sign_0 1 3 rfl rfl)
    · have h := g_f c2 h
      refine lv_iconst (v := 1) hx hb (kdr dgX3_sign_0 1 0 rfl rfl) (by decide) ?_
      refine lv_goto (tgt := 21) hx hb (kdr dgX3_sign_0 1 1 rfl rfl) (by decide) ?_
      have h := Option.some.inj h
      subst h
      exact kret_i (v := 1) hx hb hr rfl hlocks hS hP (kdr dgX3_sign_0 1 3 rfl rfl)
  · have h := g_f c1 h
    refine lv_iconst (v := (-1)) hx hb (kdr dgX3_sign_0 0 4 rfl rfl) (by decide) ?_
    refine lv_goto (tgt := 21) hx hb (kdr dgX3_sign_0 0 5 rfl rfl) (by decide) ?_
    have h := Option.some.inj h
    subst h
    exact kret_i (v := (-1)) hx hb hr rfl hlocks hS hP (kdr dgX3_sign_0 1 3 rfl rfl)
noncomputable abbrev wsX3_meet : List Cond := kWs yX3_meet cX3_meet 8 (some .boolean)
noncomputable def f_X3_meet (p0 : Int64) (p1 : Int64) (p2 : Int64) (p3 : Int64) : Option (Int32) :=
  if p3 ≤ p0 then
    some 0
  else
    if p1 ≤ p2 then
      some 0
    else
      some 1
theorem f_X3_meet_e {p0 : Int64} {p1 : Int64} {p2 : Int64} {p3 : Int64} : f_X3_meet p0 p1 p2 p3 = 
  if p3 ≤ p0 then
    some 0
  else
    if p1 ≤ p2 then
      some 0
    else
      some 1 := rfl
set_option maxHeartbeats 4000000 in
set_option maxRecDepth 100000 in
theorem c_X3_meet (l : Launch) (dC : Nat → ClassId) (dI : Nat → Nat → Nat) (cB cI cJ cZ : ClassId) (sz : Nat) (p0 : Int64) (p1 : Int64) (p2 : Int64) (p3 : Int64) (res : Int32) (hf : f_X3_meet p0 p1 p2 p3 = some res) : kMi l yX3_meet wsX3_meet (kRm 0 0 0 0) dC dI cB cI cJ cZ [.long p0, .long p1, .long p2, .long p3] sz [] .boolean (res) [] 0 0 := by
  refine kmet_i (y := yX3_meet) (cc := cX3_meet) (maxL := 8) (ret := (some .boolean)) RX3 (kvJ 0 p0 (kvJ 2 p1 (kvJ 4 p2 (kvJ 6 p3 kvE)))) kpl_X3 rfl rfl (Nat.le_of_ble_eq_true rfl) rfl (fun p e s m below meth c A ls hx hb hr hml hts hown hlocks hP hK hG hD hA hS hl => ?_)
  have h := f_X3_meet_e.symm.trans hf
  refine lv_lload_n hx hb (kdr dgX3_meet_0 0 0 rfl rfl) rfl (lv_at hl 0 rfl) ?_
  refine lv_lload hx hb (kdr dgX3_meet_0 0 1 rfl rfl) (lv_at hl 3 rfl) ?_
  refine kl_ge (pc := 3) (tgt := 18) hx hb (kdr dgX3_meet_0 0 2 rfl rfl) (kdr dgX3_meet_0 0 3 rfl rfl) (by decide) (fun c1 => ?_) (fun c1 => ?_)
  · have h := g_t c1 h
    refine lv_iconst (v := 0) hx hb (kdr dgX3_meet_0 1 0 rfl rfl) (by decide) ?_
    have h := Option.some.inj h
    subst h
    exact kret_i (v := 0) hx hb hr rfl hlocks hS hP (kdr dgX3_meet_0 1 1 rfl rfl)
  · have h := g_f c1 h
    refine lv_lload hx hb (kdr dgX3_meet_0 0 4 rfl rfl) (lv_at hl 2 rfl) ?_
    refine lv_lload_n hx hb (kdr dgX3_meet_0 0 5 rfl rfl) rfl (lv_at hl 1 rfl) ?_
    refine kl_ge (pc := 10) (tgt := 18) hx hb (kdr dgX3_meet_0 0 6 rfl rfl) (kdr dgX3_meet_0 0 7 rfl rfl) (by decide) (fun c2 => ?_) (fun c2 => ?_)
    · have h := g_t c2 h
      refine lv_iconst (v := 0) hx hb (kdr dgX3_meet_0 1 0 rfl rfl) (by decide) ?_
      have h := Option.some.inj h
      subst h
      exact kret_i (v := 0) hx hb hr rfl hlocks hS hP (kdr dgX3_meet_0 1 1 rfl rfl)
    · have h := g_f c2 h
      refine lv_iconst (v := 1) hx hb (kdr dgX3_meet_0 0 8 rfl rfl) (by decide) ?_
      refine lv_goto (tgt := 19) hx hb (kdr dgX3_meet_0 0 9 rfl rfl) (by decide) ?_
      have h := Option.some.inj h
      subst h
      exact kret_i (v := 1) hx hb hr rfl hlocks hS hP (kdr dgX3_meet_0 1 1 rfl rfl)
noncomputable abbrev wsX3_isIn : List Cond := kWs yX3_isIn cX3_isIn 5 (some .boolean)
noncomputable def f_X3_isIn (mfr : Int64) (mun : Int64) (p0 : Int64) (p1 : Int64) : Option (Int32) :=
  if p0 < mfr then
    some 0
  else
    if mun < p1 then
      some 0
    else
      some 1
theorem f_X3_isIn_e {mfr : Int64} {mun : Int64} {p0 : Int64} {p1 : Int64} : f_X3_isIn mfr mun p0 p1 = 
  if p0 < mfr then
    some 0
  else
    if mun < p1 then
      some 0
    else
      some 1 := rfl
set_option maxHeartbeats 4000000 in
set_option maxRecDepth 100000 in
theorem c_X3_isIn (l : Launch) (dC : Nat → ClassId) (dI : Nat → Nat → Nat) (cB cI cJ cZ : ClassId) (b : Nat → Nat) (sz : Nat) (mce : Nat → Int64) (mfr : Int64) (mun : Int64) (mbe : Nat → Int64) (men : Nat → Int64) (mov : Nat → Int32) (msp : Int32) (mwb : Nat → Int64) (mwe : Nat → Int64) (mwi : Int32) (mac : Int32) (mre : Int32) (mkn : Int32) (mth : Int32) (p0 : Int64) (p1 : Int64) (res : Int32) (hf : f_X3_isIn mfr mun p0 p1 = some res) : kMi l yX3_isIn wsX3_isIn (kRm 0 0 0 0) dC dI cB cI cJ cZ [.ref (b 0), .long p0, .long p1] sz (wMo cJ cZ b mce mfr mun mbe men mov msp mwb mwe mwi mac mre mkn mth) .boolean (res) (wMo cJ cZ b mce mfr mun mbe men mov msp mwb mwe mwi mac mre mkn mth) 0 0 := by
  refine kmet_i (y := yX3_isIn) (cc := cX3_isIn) (maxL := 5) (ret := (some .boolean)) RX3 (kvA 0 (b 0) (kvJ 1 p0 (kvJ 3 p1 kvE))) kpl_X3 rfl rfl (Nat.le_of_ble_eq_true rfl) rfl (fun p e s m below meth c A ls hx hb hr hml hts hown hlocks hP hK hG hD hA hS hl => ?_)
  have hw0 := hts (.fieldLink RX3 53 "SpanbookerModel" "from" "J") (List.mem_cons_of_mem _ kw_1073)
  have hw1 := hts (.fieldLink RX3 15 "SpanbookerModel" "until" "J") (List.mem_cons_of_mem _ kw_1074)
  have hiX3 : ∀ w ∈ u_ws RX3 TX3 14, w ∈ wsX3_isIn := fun w h => List.mem_cons_of_mem _ (ku_X3 w h)
  have h := f_X3_isIn_e.symm.trans hf
  refine lv_lload_n hx hb (kdr dgX3_isIn_0 0 0 rfl rfl) rfl (lv_at hl 1 rfl) ?_
  refine lv_aload_n hx hb (kdr dgX3_isIn_0 0 1 rfl rfl) rfl (lv_at hl 0 rfl) ?_
  refine va_get (D := (dC, dI)) (ci := 5) (v := .long mfr) (C := RX3) (T := TX3) (N := 14) hx hb hts hiX3 hown hK hP 0 rfl rfl 1 (by decide) hw0 (fun _ h9 => h9) rfl (kdr dgX3_isIn_0 0 2 rfl rfl) ?_
  refine kl_lt (pc := 5) (tgt := 22) hx hb (kdr dgX3_isIn_0 0 3 rfl rfl) (kdr dgX3_isIn_0 0 4 rfl rfl) (by decide) (fun c1 => ?_) (fun c1 => ?_)
  · have h := g_t c1 h
    refine lv_iconst (v := 0) hx hb (kdr dgX3_isIn_0 1 2 rfl rfl) (by decide) ?_
    have h := Option.some.inj h
    subst h
    exact kret_i (v := 0) hx hb hr rfl hlocks hS hP (kdr dgX3_isIn_0 1 3 rfl rfl)
  · have h := g_f c1 h
    refine lv_lload_n hx hb (kdr dgX3_isIn_0 0 5 rfl rfl) rfl (lv_at hl 2 rfl) ?_
    refine lv_aload_n hx hb (kdr dgX3_isIn_0 0 6 rfl rfl) rfl (lv_at hl 0 rfl) ?_
    refine va_get (D := (dC, dI)) (ci := 5) (v := .long mun) (C := RX3) (T := TX3) (N := 14) hx hb hts hiX3 hown hK hP 0 rfl rfl 2 (by decide) hw1 (fun _ h9 => h9) rfl (kdr dgX3_isIn_0 0 7 rfl rfl) ?_
    refine kl_gt (pc := 14) (tgt := 22) hx hb (kdr dgX3_isIn_0 0 8 rfl rfl) (kdr dgX3_isIn_0 0 9 rfl rfl) (by decide) (fun c2 => ?_) (fun c2 => ?_)
    · have h := g_t c2 h
      refine lv_iconst (v := 0) hx hb (kdr dgX3_isIn_0 1 2 rfl rfl) (by decide) ?_
      have h := Option.some.inj h
      subst h
      exact kret_i (v := 0) hx hb hr rfl hlocks hS hP (kdr dgX3_isIn_0 1 3 rfl rfl)
    · have h := g_f c2 h
      refine lv_iconst (v := 1) hx hb (kdr dgX3_isIn_0 1 0 rfl rfl) (by decide) ?_
      refine lv_goto (tgt := 23) hx hb (kdr dgX3_isIn_0 1 1 rfl rfl) (by decide) ?_
      have h := Option.some.inj h
      subst h
      exact kret_i (v := 1) hx hb hr rfl hlocks hS hP (kdr dgX3_isIn_0 1 3 rfl rfl)
noncomputable abbrev wsX3_meetsSome : List Cond := kWs yX3_meetsSome cX3_meetsSome 7 (some .boolean)
noncomputable def f_X3_meetsSome_3 : Nat → (Nat → Int64) → (Nat → Int64) → (Int32) → (Int64) → (Int64) → (Int32) → (Int32) → Option (Int32)
  | 0, _, _, _, _, _, _, _ => none
  | n + 1, mbe, men, msp, x1, x3, x5, x6 =>
    if msp ≤ x6 then
      some 0
    else
      if x6 = x5 then
        f_X3_meetsSome_3 n mbe men msp x1 x3 x5 (x6 + 1)
      else
        if ix x6 10 then
          (f_X3_meet x1 x3 (mbe x6.toNatClampNeg) (men x6.toNatClampNeg)).bind fun r4 =>
          if r4 = 0 then
            f_X3_meetsSome_3 n mbe men msp x1 x3 x5 (x6 + 1)
          else
            some 1
        else none
theorem f_X3_meetsSome_3_0 {mbe : Nat → Int64} {men : Nat → Int64} {msp : Int32} {x1 : Int64} {x3 : Int64} {x5 : Int32} {x6 : Int32} : f_X3_meetsSome_3 0 mbe men msp x1 x3 x5 x6 = none := rfl
theorem f_X3_meetsSome_3_s {n : Nat} {mbe : Nat → Int64} {men : Nat → Int64} {msp : Int32} {x1 : Int64} {x3 : Int64} {x5 : Int32} {x6 : Int32} : f_X3_meetsSome_3 (n + 1) mbe men msp x1 x3 x5 x6 =
  if msp ≤ x6 then
    some 0
  else
    if x6 = x5 then
      f_X3_meetsSome_3 n mbe men msp x1 x3 x5 (x6 + 1)
    else
      if ix x6 10 then
        (f_X3_meet x1 x3 (mbe x6.toNatClampNeg) (men x6.toNatClampNeg)).bind fun r4 =>
        if r4 = 0 then
          f_X3_meetsSome_3 n mbe men msp x1 x3 x5 (x6 + 1)
        else
          some 1
      else none := rfl
noncomputable def f_X3_meetsSome (mbe : Nat → Int64) (men : Nat → Int64) (msp : Int32) (p0 : Int64) (p1 : Int64) (p2 : Int32) : Option (Int32) :=
  f_X3_meetsSome_3 24 mbe men msp p0 p1 p2 0
theorem f_X3_meetsSome_e {mbe : Nat → Int64} {men : Nat → Int64} {msp : Int32} {p0 : Int64} {p1 : Int64} {p2 : Int32} : f_X3_meetsSome mbe men msp p0 p1 p2 = 
  f_X3_meetsSome_3 24 mbe men msp p0 p1 p2 0 := rfl
set_option maxHeartbeats 4000000 in
set_option maxRecDepth 100000 in
theorem c_X3_meetsSome (l : Launch) (dC : Nat → ClassId) (dI : Nat → Nat → Nat) (cB cI cJ cZ : ClassId) (b : Nat → Nat) (sz : Nat) (mce : Nat → Int64) (mfr : Int64) (mun : Int64) (mbe : Nat → Int64) (men : Nat → Int64) (mov : Nat → Int32) (msp : Int32) (mwb : Nat → Int64) (mwe : Nat → Int64) (mwi : Int32) (mac : Int32) (mre : Int32) (mkn : Int32) (mth : Int32) (p0 : Int64) (p1 : Int64) (p2 : Int32) (res : Int32) (hf : f_X3_meetsSome mbe men msp p0 p1 p2 = some res) : kMi l yX3_meetsSome wsX3_meetsSome (kRm 1 0 0 27) dC dI cB cI cJ cZ [.ref (b 0), .long p0, .long p1, .int p2] sz (wMo cJ cZ b mce mfr mun mbe men mov msp mwb mwe mwi mac mre mkn mth) .boolean (res) (wMo cJ cZ b mce mfr mun mbe men mov msp mwb mwe mwi mac mre mkn mth) 0 0 := by
  refine kmet_i (y := yX3_meetsSome) (cc := cX3_meetsSome) (maxL := 7) (ret := (some .boolean)) RX3 (kvA 0 (b 0) (kvJ 1 p0 (kvJ 3 p1 (kvI 5 p2 kvE)))) kpl_X3 rfl rfl (Nat.le_of_ble_eq_true rfl) rfl (fun p e s m below meth c A ls hx hb hr hml hts hown hlocks hP hK hG hD hA hS hl => ?_)
  have hw0 := hts (.fieldLink RX3 56 "SpanbookerModel" "spans" "I") (List.mem_cons_of_mem _ kw_1078)
  have hw1 := hts (.fieldLink RX3 19 "SpanbookerModel" "begins" "[J") (List.mem_cons_of_mem _ kw_1075)
  have hw2 := hts (.fieldLink RX3 22 "SpanbookerModel" "ends" "[J") (List.mem_cons_of_mem _ kw_1076)
  have hiX3 : ∀ w ∈ u_ws RX3 TX3 14, w ∈ wsX3_meetsSome := fun w h => List.mem_cons_of_mem _ (ku_X3 w h)
  have J3 : ∀ (n : Nat), ∀ (mce : Nat → Int64) (mfr : Int64) (mun : Int64) (mbe : Nat → Int64) (men : Nat → Int64) (mov : Nat → Int32) (msp : Int32) (mwb : Nat → Int64) (mwe : Nat → Int64) (mwi : Int32) (mac : Int32) (mre : Int32) (mkn : Int32) (mth : Int32) (x1 : Int64) (x3 : Int64) (x5 : Int32) (x6 : Int32) (H : Heap) (locs : List Loc), va_P (dC, dI) vwCl (wMo cJ cZ b mce mfr mun mbe men mov msp mwb mwe mwi mac mre mkn mth) H → va_D A (wMo cJ cZ b mce mfr mun mbe men mov msp mwb mwe mwi mac mre mkn mth) → va_S A s.heap H locs → ∀ (ls : Array Slot), lv_has ls 7 (kvA 0 (b 0) (kvJ 1 x1 (kvJ 3 x3 (kvI 5 x5 (kvI 6 x6 kvE))))) → f_X3_meetsSome_3 n mbe men msp x1 x3 x5 x6 = some res → W p l e (headSpec wsX3_meetsSome (kRm 1 0 0 27)).room s m ([.ref (b 0), .long p0, .long p1, .int p2] : List Value).toArray below meth c H locs 0 0 (MQ below (kI (dC, dI) .boolean (res) (wMo cJ cZ b mce mfr mun mbe men mov msp mwb mwe mwi mac mre mkn mth) A) ([.ref (b 0), .long p0, .long p1, .int p2] : List Value).toArray s 0 0 A) (F0 m 3 ls []) := by
    intro n
    induction n with
    | zero =>
      intro mce mfr mun mbe men mov msp mwb mwe mwi mac mre mkn mth x1 x3 x5 x6 H locs hP hD hS ls hl h
      have h := f_X3_meetsSome_3_0.symm.trans h
      cases h
    | succ n ih =>
      intro mce mfr mun mbe men mov msp mwb mwe mwi mac mre mkn mth x1 x3 x5 x6 H locs hP hD hS ls hl h
      have h := f_X3_meetsSome_3_s.symm.trans h
      refine lv_iload hx hb (kdr dgX3_meetsSome_0 0 2 rfl rfl) (lv_at hl 4 rfl) ?_
      refine lv_aload_n hx hb (kdr dgX3_meetsSome_0 0 3 rfl rfl) rfl (lv_at hl 0 rfl) ?_
      refine va_get (D := (dC, dI)) (ci := 5) (v := .int msp) (C := RX3) (T := TX3) (N := 14) hx hb hts hiX3 hown hK hP 0 rfl rfl 6 (by decide) hw0 (fun _ h9 => h9) rfl (kdr dgX3_meetsSome_0 0 4 rfl rfl) ?_
      refine lv_icmp_ge (tgt := 49) hx hb (kdr dgX3_meetsSome_0 0 5 rfl rfl) (by decide) (fun c1 => ?_) (fun c1 => ?_)
      · have h := g_t c1 h
        refine lv_iconst (v := 0) hx hb (kdr dgX3_meetsSome_0 2 5 rfl rfl) (by decide) ?_
        have h := Option.some.inj h
        subst h
        exact kret_i (v := 0) hx hb hr rfl hlocks hS hP (kdr dgX3_meetsSome_0 2 6 rfl rfl)
      · have h := g_f c1 h
        refine lv_iload hx hb (kdr dgX3_meetsSome_0 0 6 rfl rfl) (lv_at hl 4 rfl) ?_
        refine lv_iload hx hb (kdr dgX3_meetsSome_0 0 7 rfl rfl) (lv_at hl 3 rfl) ?_
        refine lv_icmp_eq (tgt := 43) hx hb (kdr dgX3_meetsSome_0 0 8 rfl rfl) (by decide) (fun c2 => ?_) (fun c2 => ?_)
        · have h := g_t c2 h
          refine lv_iinc (v := x6 + 1) (lv' := (kvI 6 (x6 + 1) (kvA 0 (b 0) (kvJ 1 x1 (kvJ 3 x3 (kvI 5 x5 kvE)))))) hx hb (kdr dgX3_meetsSome_0 2 3 rfl rfl) hl (k := 4) rfl rfl (by decide) rfl (fun ls hl => ?_)
          refine lv_goto (tgt := 3) hx hb (kdr dgX3_meetsSome_0 2 4 rfl rfl) (by decide) ?_
          exact ih mce mfr mun mbe men mov msp mwb mwe mwi mac mre mkn mth x1 x3 x5 (x6 + 1) _ _ hP hD hS ls (lv_sub hl [1, 2, 3, 4, 0] rfl) h
        · have h := g_f c2 h
          refine lv_lload_n hx hb (kdr dgX3_meetsSome_0 0 9 rfl rfl) rfl (lv_at hl 1 rfl) ?_
          refine lv_lload_n hx hb (kdr dgX3_meetsSome_0 1 0 rfl rfl) rfl (lv_at hl 2 rfl) ?_
          refine lv_aload_n hx hb (kdr dgX3_meetsSome_0 1 1 rfl rfl) rfl (lv_at hl 0 rfl) ?_
          refine va_get (D := (dC, dI)) (ci := 5) (v := .ref (b 2)) (C := RX3) (T := TX3) (N := 14) hx hb hts hiX3 hown hK hP 0 rfl rfl 3 (by decide) hw1 (fun _ h9 => h9) rfl (kdr dgX3_meetsSome_0 1 2 rfl rfl) ?_
          refine lv_iload hx hb (kdr dgX3_meetsSome_0 1 3 rfl rfl) (lv_at hl 4 rfl) ?_
          obtain ⟨z2, h⟩ := g_if h
          refine va_lald hx hb hK hP 2 2 rfl rfl (ix_in z2) (kdr dgX3_meetsSome_0 1 4 rfl rfl) ?_
          refine lv_aload_n hx hb (kdr dgX3_meetsSome_0 1 5 rfl rfl) rfl (lv_at hl 0 rfl) ?_
          refine va_get (D := (dC, dI)) (ci := 5) (v := .ref (b 3)) (C := RX3) (T := TX3) (N := 14) hx hb hts hiX3 hown hK hP 0 rfl rfl 4 (by decide) hw2 (fun _ h9 => h9) rfl (kdr dgX3_meetsSome_0 1 6 rfl rfl) ?_
          refine lv_iload hx hb (kdr dgX3_meetsSome_0 1 7 rfl rfl) (lv_at hl 4 rfl) ?_
          refine va_lald hx hb hK hP 3 2 rfl rfl (ix_in z2) (kdr dgX3_meetsSome_0 1 8 rfl rfl) ?_
          obtain ⟨r4, g4, h⟩ := g_b h
          refine kq_i (wMo cJ cZ b mce mfr mun mbe men mov msp mwb mwe mwi mac mre mkn mth) (fun qP qD qF => va_runS (As := [.long x1, .long x3, .long (mbe x6.toNatClampNeg), .long (men x6.toNatClampNeg)]) (rest := []) ⟨hx, hb, hml, hown, hts⟩ (c_X3_meet l dC dI cB cI cJ cZ  _  x1 x3 (mbe x6.toNatClampNeg) (men x6.toNatClampNeg) r4 g4) (kcwS hts kw_1212 kv_X3_meet rfl rfl ⟨(Nat.le_of_ble_eq_true rfl), (Nat.le_of_ble_eq_true rfl)⟩) (kpS (A := A) (kPnil) hK ((kDnil (A := A))) hG) rfl rfl hl.1 rfl (lv_room (Nat.le_of_ble_eq_true rfl)) (kdr dgX3_meetsSome_0 1 9 rfl rfl) ⟨(Nat.le_of_ble_eq_true rfl), (Nat.le_of_ble_eq_true rfl)⟩) hP hD hS hA kFr_n (fun H locs hP hD hS br4 => ?_)
          refine lv_if_eq (tgt := 43) hx hb (kdr dgX3_meetsSome_0 2 0 rfl rfl) (by decide) (fun c5 => ?_) (fun c5 => ?_)
          · have h := g_t c5 h
            refine lv_iinc (v := x6 + 1) (lv' := (kvI 6 (x6 + 1) (kvA 0 (b 0) (kvJ 1 x1 (kvJ 3 x3 (kvI 5 x5 kvE)))))) hx hb (kdr dgX3_meetsSome_0 2 3 rfl rfl) hl (k := 4) rfl rfl (by decide) rfl (fun ls hl => ?_)
            refine lv_goto (tgt := 3) hx hb (kdr dgX3_meetsSome_0 2 4 rfl rfl) (by decide) ?_
            exact ih mce mfr mun mbe men mov msp mwb mwe mwi mac mre mkn mth x1 x3 x5 (x6 + 1) _ _ hP hD hS ls (lv_sub hl [1, 2, 3, 4, 0] rfl) h
          · have h := g_f c5 h
            refine lv_iconst (v := 1) hx hb (kdr dgX3_meetsSome_0 2 1 rfl rfl) (by decide) ?_
            have h := Option.some.inj h
            subst h
            exact kret_i (v := 1) hx hb hr rfl hlocks hS hP (kdr dgX3_meetsSome_0 2 2 rfl rfl)
  have h := f_X3_meetsSome_e.symm.trans hf
  refine lv_iconst (v := 0) hx hb (kdr dgX3_meetsSome_0 0 0 rfl rfl) (by decide) ?_
  refine lv_istore (lv' := (kvI 6 0 (kvA 0 (b 0) (kvJ 1 p0 (kvJ 3 p1 (kvI 5 p2 kvE)))))) hx hb (kdr dgX3_meetsSome_0 0 1 rfl rfl) hl (by decide) rfl (fun ls hl => ?_)
  exact J3 24 mce mfr mun mbe men mov msp mwb mwe mwi mac mre mkn mth p0 p1 p2 0 _ _ hP hD hS ls (lv_sub hl [1, 2, 3, 4, 0] rfl) h
noncomputable abbrev wsX3_spanAt : List Cond := kWs yX3_spanAt cX3_spanAt 4 (some .int)
noncomputable def f_X3_spanAt_2 : Nat → (Nat → Int64) → (Nat → Int64) → (Int32) → (Int64) → (Int32) → Option (Int32)
  | 0, _, _, _, _, _ => none
  | n + 1, mbe, men, msp, x1, x3 =>
    if msp ≤ x3 then
      some (-1)
    else
      if ix x3 10 then
        if x1 < (mbe x3.toNatClampNeg) then
          f_X3_spanAt_2 n mbe men msp x1 (x3 + 1)
        else
          if (men x3.toNatClampNeg) ≤ x1 then
            f_X3_spanAt_2 n mbe men msp x1 (x3 + 1)
          else
            some x3
      else none
theorem f_X3_spanAt_2_0 {mbe : Nat → Int64} {men : Nat → Int64} {msp : Int32} {x1 : Int64} {x3 : Int32} : f_X3_spanAt_2 0 mbe men msp x1 x3 = none := rfl
theorem f_X3_spanAt_2_s {n : Nat} {mbe : Nat → Int64} {men : Nat → Int64} {msp : Int32} {x1 : Int64} {x3 : Int32} : f_X3_spanAt_2 (n + 1) mbe men msp x1 x3 =
  if msp ≤ x3 then
    some (-1)
  else
    if ix x3 10 then
      if x1 < (mbe x3.toNatClampNeg) then
        f_X3_spanAt_2 n mbe men msp x1 (x3 + 1)
      else
        if (men x3.toNatClampNeg) ≤ x1 then
          f_X3_spanAt_2 n mbe men msp x1 (x3 + 1)
        else
          some x3
    else none := rfl
noncomputable def f_X3_spanAt (mbe : Nat → Int64) (men : Nat → Int64) (msp : Int32) (p0 : Int64) : Option (Int32) :=
  f_X3_spanAt_2 24 mbe men msp p0 0
theorem f_X3_spanAt_e {mbe : Nat → Int64} {men : Nat → Int64} {msp : Int32} {p0 : Int64} : f_X3_spanAt mbe men msp p0 = 
  f_X3_spanAt_2 24 mbe men msp p0 0 := rfl
set_option maxHeartbeats 4000000 in
set_option maxRecDepth 100000 in
theorem c_X3_spanAt (l : Launch) (dC : Nat → ClassId) (dI : Nat → Nat → Nat) (cB cI cJ cZ : ClassId) (b : Nat → Nat) (sz : Nat) (mce : Nat → Int64) (mfr : Int64) (mun : Int64) (mbe : Nat → Int64) (men : Nat → Int64) (mov : Nat → Int32) (msp : Int32) (mwb : Nat → Int64) (mwe : Nat → Int64) (mwi : Int32) (mac : Int32) (mre : Int32) (mkn : Int32) (mth : Int32) (p0 : Int64) (res : Int32) (hf : f_X3_spanAt mbe men msp p0 = some res) : kMi l yX3_spanAt wsX3_spanAt (kRm 0 0 0 0) dC dI cB cI cJ cZ [.ref (b 0), .long p0] sz (wMo cJ cZ b mce mfr mun mbe men mov msp mwb mwe mwi mac mre mkn mth) .int (res) (wMo cJ cZ b mce mfr mun mbe men mov msp mwb mwe mwi mac mre mkn mth) 0 0 := by
  refine kmet_i (y := yX3_spanAt) (cc := cX3_spanAt) (maxL := 4) (ret := (some .int)) RX3 (kvA 0 (b 0) (kvJ 1 p0 kvE)) kpl_X3 rfl rfl (Nat.le_of_ble_eq_true rfl) rfl (fun p e s m below meth c A ls hx hb hr hml hts hown hlocks hP hK hG hD hA hS hl => ?_)
  have hw0 := hts (.fieldLink RX3 56 "SpanbookerModel" "spans" "I") (List.mem_cons_of_mem _ kw_1078)
  have hw1 := hts (.fieldLink RX3 19 "SpanbookerModel" "begins" "[J") (List.mem_cons_of_mem _ kw_1075)
  have hw2 := hts (.fieldLink RX3 22 "SpanbookerModel" "ends" "[J") (List.mem_cons_of_mem _ kw_1076)
  have hiX3 : ∀ w ∈ u_ws RX3 TX3 14, w ∈ wsX3_spanAt := fun w h => List.mem_cons_of_mem _ (ku_X3 w h)
  have J2 : ∀ (n : Nat), ∀ (mce : Nat → Int64) (mfr : Int64) (mun : Int64) (mbe : Nat → Int64) (men : Nat → Int64) (mov : Nat → Int32) (msp : Int32) (mwb : Nat → Int64) (mwe : Nat → Int64) (mwi : Int32) (mac : Int32) (mre : Int32) (mkn : Int32) (mth : Int32) (x1 : Int64) (x3 : Int32) (H : Heap) (locs : List Loc), va_P (dC, dI) vwCl (wMo cJ cZ b mce mfr mun mbe men mov msp mwb mwe mwi mac mre mkn mth) H → va_D A (wMo cJ cZ b mce mfr mun mbe men mov msp mwb mwe mwi mac mre mkn mth) → va_S A s.heap H locs → ∀ (ls : Array Slot), lv_has ls 4 (kvA 0 (b 0) (kvJ 1 x1 (kvI 3 x3 kvE))) → f_X3_spanAt_2 n mbe men msp x1 x3 = some res → W p l e (headSpec wsX3_spanAt (kRm 0 0 0 0)).room s m ([.ref (b 0), .long p0] : List Value).toArray below meth c H locs 0 0 (MQ below (kI (dC, dI) .int (res) (wMo cJ cZ b mce mfr mun mbe men mov msp mwb mwe mwi mac mre mkn mth) A) ([.ref (b 0), .long p0] : List Value).toArray s 0 0 A) (F0 m 2 ls []) := by
    intro n
    induction n with
    | zero =>
      intro mce mfr mun mbe men mov msp mwb mwe mwi mac mre mkn mth x1 x3 H locs hP hD hS ls hl h
      have h := f_X3_spanAt_2_0.symm.trans h
      cases h
    | succ n ih =>
      intro mce mfr mun mbe men mov msp mwb mwe mwi mac mre mkn mth x1 x3 H locs hP hD hS ls hl h
      have h := f_X3_spanAt_2_s.symm.trans h
      refine lv_iload_n hx hb (kdr dgX3_spanAt_0 0 2 rfl rfl) rfl (lv_at hl 2 rfl) ?_
      refine lv_aload_n hx hb (kdr dgX3_spanAt_0 0 3 rfl rfl) rfl (lv_at hl 0 rfl) ?_
      refine va_get (D := (dC, dI)) (ci := 5) (v := .int msp) (C := RX3) (T := TX3) (N := 14) hx hb hts hiX3 hown hK hP 0 rfl rfl 6 (by decide) hw0 (fun _ h9 => h9) rfl (kdr dgX3_spanAt_0 0 4 rfl rfl) ?_
      refine lv_icmp_ge (tgt := 40) hx hb (kdr dgX3_spanAt_0 0 5 rfl rfl) (by decide) (fun c1 => ?_) (fun c1 => ?_)
      · have h := g_t c1 h
        refine lv_iconst (v := (-1)) hx hb (kdr dgX3_spanAt_0 2 4 rfl rfl) (by decide) ?_
        have h := Option.some.inj h
        subst h
        exact kret_i (v := (-1)) hx hb hr rfl hlocks hS hP (kdr dgX3_spanAt_0 2 5 rfl rfl)
      · have h := g_f c1 h
        refine lv_aload_n hx hb (kdr dgX3_spanAt_0 0 6 rfl rfl) rfl (lv_at hl 0 rfl) ?_
        refine va_get (D := (dC, dI)) (ci := 5) (v := .ref (b 2)) (C := RX3) (T := TX3) (N := 14) hx hb hts hiX3 hown hK hP 0 rfl rfl 3 (by decide) hw1 (fun _ h9 => h9) rfl (kdr dgX3_spanAt_0 0 7 rfl rfl) ?_
        refine lv_iload_n hx hb (kdr dgX3_spanAt_0 0 8 rfl rfl) rfl (lv_at hl 2 rfl) ?_
        obtain ⟨z1, h⟩ := g_if h
        refine va_lald hx hb hK hP 2 2 rfl rfl (ix_in z1) (kdr dgX3_spanAt_0 0 9 rfl rfl) ?_
        refine lv_lload_n hx hb (kdr dgX3_spanAt_0 1 0 rfl rfl) rfl (lv_at hl 1 rfl) ?_
        refine kl_gt (pc := 17) (tgt := 34) hx hb (kdr dgX3_spanAt_0 1 1 rfl rfl) (kdr dgX3_spanAt_0 1 2 rfl rfl) (by decide) (fun c3 => ?_) (fun c3 => ?_)
        · have h := g_t c3 h
          refine lv_iinc (v := x3 + 1) (lv' := (kvI 3 (x3 + 1) (kvA 0 (b 0) (kvJ 1 x1 kvE)))) hx hb (kdr dgX3_spanAt_0 2 2 rfl rfl) hl (k := 2) rfl rfl (by decide) rfl (fun ls hl => ?_)
          refine lv_goto (tgt := 2) hx hb (kdr dgX3_spanAt_0 2 3 rfl rfl) (by decide) ?_
          exact ih mce mfr mun mbe men mov msp mwb mwe mwi mac mre mkn mth x1 (x3 + 1) _ _ hP hD hS ls (lv_sub hl [1, 2, 0] rfl) h
        · have h := g_f c3 h
          refine lv_lload_n hx hb (kdr dgX3_spanAt_0 1 3 rfl rfl) rfl (lv_at hl 1 rfl) ?_
          refine lv_aload_n hx hb (kdr dgX3_spanAt_0 1 4 rfl rfl) rfl (lv_at hl 0 rfl) ?_
          refine va_get (D := (dC, dI)) (ci := 5) (v := .ref (b 3)) (C := RX3) (T := TX3) (N := 14) hx hb hts hiX3 hown hK hP 0 rfl rfl 4 (by decide) hw2 (fun _ h9 => h9) rfl (kdr dgX3_spanAt_0 1 5 rfl rfl) ?_
          refine lv_iload_n hx hb (kdr dgX3_spanAt_0 1 6 rfl rfl) rfl (lv_at hl 2 rfl) ?_
          refine va_lald hx hb hK hP 3 2 rfl rfl (ix_in z1) (kdr dgX3_spanAt_0 1 7 rfl rfl) ?_
          refine kl_ge (pc := 28) (tgt := 34) hx hb (kdr dgX3_spanAt_0 1 8 rfl rfl) (kdr dgX3_spanAt_0 1 9 rfl rfl) (by decide) (fun c4 => ?_) (fun c4 => ?_)
          · have h := g_t c4 h
            refine lv_iinc (v := x3 + 1) (lv' := (kvI 3 (x3 + 1) (kvA 0 (b 0) (kvJ 1 x1 kvE)))) hx hb (kdr dgX3_spanAt_0 2 2 rfl rfl) hl (k := 2) rfl rfl (by decide) rfl (fun ls hl => ?_)
            refine lv_goto (tgt := 2) hx hb (kdr dgX3_spanAt_0 2 3 rfl rfl) (by decide) ?_
            exact ih mce mfr mun mbe men mov msp mwb mwe mwi mac mre mkn mth x1 (x3 + 1) _ _ hP hD hS ls (lv_sub hl [1, 2, 0] rfl) h
          · have h := g_f c4 h
            refine lv_iload_n hx hb (kdr dgX3_spanAt_0 2 0 rfl rfl) rfl (lv_at hl 2 rfl) ?_
            have h := Option.some.inj h
            subst h
            exact kret_i (v := x3) hx hb hr rfl hlocks hS hP (kdr dgX3_spanAt_0 2 1 rfl rfl)
  have h := f_X3_spanAt_e.symm.trans hf
  refine lv_iconst (v := 0) hx hb (kdr dgX3_spanAt_0 0 0 rfl rfl) (by decide) ?_
  refine lv_istore_n (lv' := (kvI 3 0 (kvA 0 (b 0) (kvJ 1 p0 kvE)))) hx hb (kdr dgX3_spanAt_0 0 1 rfl rfl) rfl hl (by decide) rfl (fun ls hl => ?_)
  exact J2 24 mce mfr mun mbe men mov msp mwb mwe mwi mac mre mkn mth p0 0 _ _ hP hD hS ls (lv_sub hl [1, 2, 0] rfl) h
noncomputable abbrev wsX3_free : List Cond := kWs yX3_free cX3_free 7 (some (.array .long))
noncomputable def f_X3_free_56 (K12 : (Int64) → (Nat → Int64) → (Nat → Int64) → (Int32) → (Nat → Int64) → (Int32) → (Int64) → Option (Nat → Int64)) : Nat → (Int64) → (Nat → Int64) → (Nat → Int64) → (Int32) → (Nat → Int64) → (Int32) → (Int64) → (Int32) → Option (Nat → Int64)
  | 0, _, _, _, _, _, _, _, _ => none
  | n + 1, mun, mbe, men, msp, ext0, x2, x3, x6 =>
    if msp ≤ x6 then
      if ix (x2 + 1) 22 then
        K12 mun mbe men msp (vp_updL ext0 (x2 + 1).toNatClampNeg x3) (x2 + 2) x3
      else none
    else
      if ix x6 10 then
        if ix x2 22 then
          if (mbe x6.toNatClampNeg) ≤ (ext0 x2.toNatClampNeg) then
            f_X3_free_56 K12 n mun mbe men msp ext0 x2 x3 (x6 + 1)
          else
            if x3 ≤ (mbe x6.toNatClampNeg) then
              f_X3_free_56 K12 n mun mbe men msp ext0 x2 x3 (x6 + 1)
            else
              f_X3_free_56 K12 n mun mbe men msp ext0 x2 (mbe x6.toNatClampNeg) (x6 + 1)
        else none
      else none
theorem f_X3_free_56_0 {K12 : (Int64) → (Nat → Int64) → (Nat → Int64) → (Int32) → (Nat → Int64) → (Int32) → (Int64) → Option (Nat → Int64)} {mun : Int64} {mbe : Nat → Int64} {men : Nat → Int64} {msp : Int32} {ext0 : Nat → Int64} {x2 : Int32} {x3 : Int64} {x6 : Int32} : f_X3_free_56 K12 0 mun mbe men msp ext0 x2 x3 x6 = none := rfl
theorem f_X3_free_56_s {K12 : (Int64) → (Nat → Int64) → (Nat → Int64) → (Int32) → (Nat → Int64) → (Int32) → (Int64) → Option (Nat → Int64)} {n : Nat} {mun : Int64} {mbe : Nat → Int64} {men : Nat → Int64} {msp : Int32} {ext0 : Nat → Int64} {x2 : Int32} {x3 : Int64} {x6 : Int32} : f_X3_free_56 K12 (n + 1) mun mbe men msp ext0 x2 x3 x6 =
  if msp ≤ x6 then
    if ix (x2 + 1) 22 then
      K12 mun mbe men msp (vp_updL ext0 (x2 + 1).toNatClampNeg x3) (x2 + 2) x3
    else none
  else
    if ix x6 10 then
      if ix x2 22 then
        if (mbe x6.toNatClampNeg) ≤ (ext0 x2.toNatClampNeg) then
          f_X3_free_56 K12 n mun mbe men msp ext0 x2 x3 (x6 + 1)
        else
          if x3 ≤ (mbe x6.toNatClampNeg) then
            f_X3_free_56 K12 n mun mbe men msp ext0 x2 x3 (x6 + 1)
          else
            f_X3_free_56 K12 n mun mbe men msp ext0 x2 (mbe x6.toNatClampNeg) (x6 + 1)
      else none
    else none := rfl
noncomputable def f_X3_free_12 : Nat → (Int64) → (Nat → Int64) → (Nat → Int64) → (Int32) → (Nat → Int64) → (Int32) → (Int64) → Option (Nat → Int64)
  | 0, _, _, _, _, _, _, _ => none
  | n + 1, mun, mbe, men, msp, ext0, x2, x3 =>
    if mun ≤ x3 then
      some ext0
    else
      (f_X3_spanAt mbe men msp x3).bind fun r2 =>
      if r2 < 0 then
        if ix x2 22 then
          f_X3_free_56 (f_X3_free_12 n) 24 mun mbe men msp (vp_updL ext0 x2.toNatClampNeg x3) x2 mun 0
        else none
      else
        if ix r2 10 then
          f_X3_free_12 n mun mbe men msp ext0 x2 (men r2.toNatClampNeg)
        else none
theorem f_X3_free_12_0 {mun : Int64} {mbe : Nat → Int64} {men : Nat → Int64} {msp : Int32} {ext0 : Nat → Int64} {x2 : Int32} {x3 : Int64} : f_X3_free_12 0 mun mbe men msp ext0 x2 x3 = none := rfl
theorem f_X3_free_12_s {n : Nat} {mun : Int64} {mbe : Nat → Int64} {men : Nat → Int64} {msp : Int32} {ext0 : Nat → Int64} {x2 : Int32} {x3 : Int64} : f_X3_free_12 (n + 1) mun mbe men msp ext0 x2 x3 =
  if mun ≤ x3 then
    some ext0
  else
    (f_X3_spanAt mbe men msp x3).bind fun r2 =>
    if r2 < 0 then
      if ix x2 22 then
        f_X3_free_56 (f_X3_free_12 n) 24 mun mbe men msp (vp_updL ext0 x2.toNatClampNeg x3) x2 mun 0
      else none
    else
      if ix r2 10 then
        f_X3_free_12 n mun mbe men msp ext0 x2 (men r2.toNatClampNeg)
      else none := rfl
noncomputable def f_X3_free (mfr : Int64) (mun : Int64) (mbe : Nat → Int64) (men : Nat → Int64) (msp : Int32) : Option (Nat → Int64) :=
  f_X3_free_12 24 mun mbe men msp (fun _ => 0) 0 mfr
theorem f_X3_free_e {mfr : Int64} {mun : Int64} {mbe : Nat → Int64} {men : Nat → Int64} {msp : Int32} : f_X3_free mfr mun mbe men msp = 
  f_X3_free_12 24 mun mbe men msp (fun _ => 0) 0 mfr := rfl
set_option maxHeartbeats 4000000 in
set_option maxRecDepth 100000 in
theorem c_X3_free (l : Launch) (dC : Nat → ClassId) (dI : Nat → Nat → Nat) (cB cI cJ cZ : ClassId) (b : Nat → Nat) (sz : Nat) (mce : Nat → Int64) (mfr : Int64) (mun : Int64) (mbe : Nat → Int64) (men : Nat → Int64) (mov : Nat → Int32) (msp : Int32) (mwb : Nat → Int64) (mwe : Nat → Int64) (mwi : Int32) (mac : Int32) (mre : Int32) (mkn : Int32) (mth : Int32) (res : Nat → Int64) (hf : f_X3_free mfr mun mbe men msp = some res) : Met l yX3_free wsX3_free (kRm 1 1 22 23) (kPre (dC, dI) (kTy cB cI cJ cZ) [.ref (b 0)] sz (wMo cJ cZ b mce mfr mun mbe men mov msp mwb mwe mwi mac mre mkn mth)) (kR (dC, dI) (.inl (cJ, 22, .inr (.inl (res)))) (wMo cJ cZ b mce mfr mun mbe men mov msp mwb mwe mwi mac mre mkn mth) (va_A (wMo cJ cZ b mce mfr mun mbe men mov msp mwb mwe mwi mac mre mkn mth) sz)) 1 22 (va_A (wMo cJ cZ b mce mfr mun mbe men mov msp mwb mwe mwi mac mre mkn mth) sz) := by
  refine Met.ofW (cc := cX3_free) (maxL := 7) (ret := (some (.array .long))) (by decide) rfl ?_
  intro p e s m args below meth c s₁ B hml hv
  obtain ⟨rfl, hsz, hP, hK, hD0, hG⟩ := hv
  have hx := B.exec
  have hb := B.bytes
  have hr := B.returns
  have hts := atoms_spec (ws := wsX3_free) B.pre
  have hown : s.vm.findClass RX3 = some m.cls := findClass_of_methodNamed B.named
  have hlocks := B.notSynchronized
  subst hsz
  have hD := hD0.self (sz := s.heap.size)
  generalize hAe : va_A (wMo cJ cZ b mce mfr mun mbe men mov msp mwb mwe mwi mac mre mkn mth) s.heap.size = A at hD ⊢
  have hA : ∀ q : Nat, s.heap.size ≤ q → A q := fun q h => by rw [← hAe]; exact Or.inr h
  have hS : va_S A s.heap s.heap [] := va_S.rf
  clear hAe
  have hw0 := hts (.arrayClass .long) (List.mem_cons_of_mem _ kw_105)
  have hw1 := hts (.fieldLink RX3 53 "SpanbookerModel" "from" "J") (List.mem_cons_of_mem _ kw_1073)
  have hw2 := hts (.fieldLink RX3 15 "SpanbookerModel" "until" "J") (List.mem_cons_of_mem _ kw_1074)
  have hw3 := hts (.fieldLink RX3 56 "SpanbookerModel" "spans" "I") (List.mem_cons_of_mem _ kw_1078)
  have hw4 := hts (.fieldLink RX3 19 "SpanbookerModel" "begins" "[J") (List.mem_cons_of_mem _ kw_1075)
  have hw5 := hts (.fieldLink RX3 22 "SpanbookerModel" "ends" "[J") (List.mem_cons_of_mem _ kw_1076)
  have hiX3 : ∀ w ∈ u_ws RX3 TX3 14, w ∈ wsX3_free := fun w h => List.mem_cons_of_mem _ (ku_X3 w h)
  have J56 : ∀ (K12 : (Int64) → (Nat → Int64) → (Nat → Int64) → (Int32) → (Nat → Int64) → (Int32) → (Int64) → Option (Nat → Int64)), (∀ (mce : Nat → Int64) (mfr : Int64) (mun : Int64) (mbe : Nat → Int64) (men : Nat → Int64) (mov : Nat → Int32) (msp : Int32) (mwb : Nat → Int64) (mwe : Nat → Int64) (mwi : Int32) (mac : Int32) (mre : Int32) (mkn : Int32) (mth : Int32) (ext0 : Nat → Int64) (x2 : Int32) (x3 : Int64) (qn0 : Nat) (H : Heap) (locs : List Loc), va_P (dC, dI) vwCl ((wMo cJ cZ b mce mfr mun mbe men mov msp mwb mwe mwi mac mre mkn mth) ++ [(qn0, .inl (cJ, 22, .inr (.inl ext0)))]) H → va_D A ((wMo cJ cZ b mce mfr mun mbe men mov msp mwb mwe mwi mac mre mkn mth) ++ [(qn0, .inl (cJ, 22, .inr (.inl ext0)))]) → va_S A s.heap H locs → ∀ (ls : Array Slot), lv_has ls 7 (kvA 0 (b 0) (kvA 1 qn0 (kvI 2 x2 (kvJ 3 x3 kvE)))) → K12 mun mbe men msp ext0 x2 x3 = some res → W p l e (headSpec wsX3_free (kRm 1 1 22 23)).room s m ([.ref (b 0)] : List Value).toArray below meth c H locs 1 22 (MQ below (kR (dC, dI) (.inl (cJ, 22, .inr (.inl (res)))) (wMo cJ cZ b mce mfr mun mbe men mov msp mwb mwe mwi mac mre mkn mth) A) ([.ref (b 0)] : List Value).toArray s 1 22 A) (F0 m 12 ls [])) → ∀ (n : Nat), ∀ (mce : Nat → Int64) (mfr : Int64) (mun : Int64) (mbe : Nat → Int64) (men : Nat → Int64) (mov : Nat → Int32) (msp : Int32) (mwb : Nat → Int64) (mwe : Nat → Int64) (mwi : Int32) (mac : Int32) (mre : Int32) (mkn : Int32) (mth : Int32) (ext0 : Nat → Int64) (x2 : Int32) (x3 : Int64) (x6 : Int32) (qn0 : Nat) (H : Heap) (locs : List Loc), va_P (dC, dI) vwCl ((wMo cJ cZ b mce mfr mun mbe men mov msp mwb mwe mwi mac mre mkn mth) ++ [(qn0, .inl (cJ, 22, .inr (.inl ext0)))]) H → va_D A ((wMo cJ cZ b mce mfr mun mbe men mov msp mwb mwe mwi mac mre mkn mth) ++ [(qn0, .inl (cJ, 22, .inr (.inl ext0)))]) → va_S A s.heap H locs → ∀ (ls : Array Slot), lv_has ls 7 (kvA 0 (b 0) (kvA 1 qn0 (kvI 2 x2 (kvJ 3 x3 (kvI 6 x6 kvE))))) → f_X3_free_56 K12 n mun mbe men msp ext0 x2 x3 x6 = some res → W p l e (headSpec wsX3_free (kRm 1 1 22 23)).room s m ([.ref (b 0)] : List Value).toArray below meth c H locs 1 22 (MQ below (kR (dC, dI) (.inl (cJ, 22, .inr (.inl (res)))) (wMo cJ cZ b mce mfr mun mbe men mov msp mwb mwe mwi mac mre mkn mth) A) ([.ref (b 0)] : List Value).toArray s 1 22 A) (F0 m 56 ls []) := by
    intro K12 hK12 n
    induction n with
    | zero =>
      intro mce mfr mun mbe men mov msp mwb mwe mwi mac mre mkn mth ext0 x2 x3 x6 qn0 H locs hP hD hS ls hl h
      have h := f_X3_free_56_0.symm.trans h
      cases h
    | succ n ih =>
      intro mce mfr mun mbe men mov msp mwb mwe mwi mac mre mkn mth ext0 x2 x3 x6 qn0 H locs hP hD hS ls hl h
      have h := f_X3_free_56_s.symm.trans h
      refine lv_iload hx hb (kdr dgX3_free_4 3 2 rfl rfl) (lv_at hl 4 rfl) ?_
      refine lv_aload_n hx hb (kdr dgX3_free_4 3 3 rfl rfl) rfl (lv_at hl 0 rfl) ?_
      refine va_get (D := (dC, dI)) (ci := 5) (v := .int msp) (C := RX3) (T := TX3) (N := 14) hx hb hts hiX3 hown hK hP 0 rfl rfl 6 (by decide) hw3 (fun _ h9 => h9) rfl (kdr dgX3_free_4 3 4 rfl rfl) ?_
      refine lv_icmp_ge (tgt := 105) hx hb (kdr dgX3_free_4 3 5 rfl rfl) (by decide) (fun c1 => ?_) (fun c1 => ?_)
      · have h := g_t c1 h
        refine lv_aload_n hx hb (kdr dgX3_free_4 5 9 rfl rfl) rfl (lv_at hl 1 rfl) ?_
        refine lv_iload_n hx hb (kdr dgX3_free_4 6 0 rfl rfl) rfl (lv_at hl 2 rfl) ?_
        refine lv_iconst (v := 1) hx hb (kdr dgX3_free_4 6 1 rfl rfl) (by decide) ?_
        refine lv_iadd hx hb (kdr dgX3_free_4 6 2 rfl rfl) ?_
        refine lv_lload_n hx hb (kdr dgX3_free_4 6 3 rfl rfl) rfl (lv_at hl 3 rfl) ?_
        obtain ⟨z1, h⟩ := g_if h
        refine va_last hx hb hK hP hD hS 7 2 rfl rfl (ix_in z1) (kdr dgX3_free_4 6 4 rfl rfl) (fun H locs hP hD hS => ?_)
        have hP : va_P (dC, dI) vwCl ((wMo cJ cZ b mce mfr mun mbe men mov msp mwb mwe mwi mac mre mkn mth) ++ [(qn0, .inl (cJ, 22, .inr (.inl (vp_updL ext0 (x2 + 1).toNatClampNeg x3))))]) H := hP
        have hD : va_D A ((wMo cJ cZ b mce mfr mun mbe men mov msp mwb mwe mwi mac mre mkn mth) ++ [(qn0, .inl (cJ, 22, .inr (.inl (vp_updL ext0 (x2 + 1).toNatClampNeg x3))))]) := hD
        refine lv_iinc (v := x2 + 2) (lv' := (kvI 2 (x2 + 2) (kvA 0 (b 0) (kvA 1 qn0 (kvJ 3 x3 (kvI 6 x6 kvE)))))) hx hb (kdr dgX3_free_4 6 5 rfl rfl) hl (k := 2) rfl rfl (by decide) rfl (fun ls hl => ?_)
        refine lv_goto (tgt := 12) hx hb (kdr dgX3_free_4 6 6 rfl rfl) (by decide) ?_
        exact hK12 mce mfr mun mbe men mov msp mwb mwe mwi mac mre mkn mth (vp_updL ext0 (x2 + 1).toNatClampNeg x3) (x2 + 2) x3 qn0 _ _ hP hD hS ls (lv_sub hl [1, 2, 0, 3] rfl) h
      · have h := g_f c1 h
        refine lv_aload_n hx hb (kdr dgX3_free_4 3 6 rfl rfl) rfl (lv_at hl 0 rfl) ?_
        refine va_get (D := (dC, dI)) (ci := 5) (v := .ref (b 2)) (C := RX3) (T := TX3) (N := 14) hx hb hts hiX3 hown hK hP 0 rfl rfl 3 (by decide) hw4 (fun _ h9 => h9) rfl (kdr dgX3_free_4 3 7 rfl rfl) ?_
        refine lv_iload hx hb (kdr dgX3_free_4 3 8 rfl rfl) (lv_at hl 4 rfl) ?_
        obtain ⟨z1, h⟩ := g_if h
        refine va_lald hx hb hK hP 2 2 rfl rfl (ix_in z1) (kdr dgX3_free_4 3 9 rfl rfl) ?_
        refine lv_aload_n hx hb (kdr dgX3_free_4 4 0 rfl rfl) rfl (lv_at hl 1 rfl) ?_
        refine lv_iload_n hx hb (kdr dgX3_free_4 4 1 rfl rfl) rfl (lv_at hl 2 rfl) ?_
        obtain ⟨z2, h⟩ := g_if h
        refine va_lald hx hb hK hP 7 2 rfl rfl (ix_in z2) (kdr dgX3_free_4 4 2 rfl rfl) ?_
        refine kl_le (pc := 75) (tgt := 99) hx hb (kdr dgX3_free_4 4 3 rfl rfl) (kdr dgX3_free_4 4 4 rfl rfl) (by decide) (fun c4 => ?_) (fun c4 => ?_)
        · have h := g_t c4 h
          refine lv_iinc (v := x6 + 1) (lv' := (kvI 6 (x6 + 1) (kvA 0 (b 0) (kvA 1 qn0 (kvI 2 x2 (kvJ 3 x3 kvE)))))) hx hb (kdr dgX3_free_4 5 7 rfl rfl) hl (k := 4) rfl rfl (by decide) rfl (fun ls hl => ?_)
          refine lv_goto (tgt := 56) hx hb (kdr dgX3_free_4 5 8 rfl rfl) (by decide) ?_
          exact ih mce mfr mun mbe men mov msp mwb mwe mwi mac mre mkn mth ext0 x2 x3 (x6 + 1) qn0 _ _ hP hD hS ls (lv_sub hl [1, 2, 3, 4, 0] rfl) h
        · have h := g_f c4 h
          refine lv_aload_n hx hb (kdr dgX3_free_4 4 5 rfl rfl) rfl (lv_at hl 0 rfl) ?_
          refine va_get (D := (dC, dI)) (ci := 5) (v := .ref (b 2)) (C := RX3) (T := TX3) (N := 14) hx hb hts hiX3 hown hK hP 0 rfl rfl 3 (by decide) hw4 (fun _ h9 => h9) rfl (kdr dgX3_free_4 4 6 rfl rfl) ?_
          refine lv_iload hx hb (kdr dgX3_free_4 4 7 rfl rfl) (lv_at hl 4 rfl) ?_
          refine va_lald hx hb hK hP 2 2 rfl rfl (ix_in z1) (kdr dgX3_free_4 4 8 rfl rfl) ?_
          refine lv_lload_n hx hb (kdr dgX3_free_4 4 9 rfl rfl) rfl (lv_at hl 3 rfl) ?_
          refine kl_ge (pc := 87) (tgt := 99) hx hb (kdr dgX3_free_4 5 0 rfl rfl) (kdr dgX3_free_4 5 1 rfl rfl) (by decide) (fun c5 => ?_) (fun c5 => ?_)
          · have h := g_t c5 h
            refine lv_iinc (v := x6 + 1) (lv' := (kvI 6 (x6 + 1) (kvA 0 (b 0) (kvA 1 qn0 (kvI 2 x2 (kvJ 3 x3 kvE)))))) hx hb (kdr dgX3_free_4 5 7 rfl rfl) hl (k := 4) rfl rfl (by decide) rfl (fun ls hl => ?_)
            refine lv_goto (tgt := 56) hx hb (kdr dgX3_free_4 5 8 rfl rfl) (by decide) ?_
            exact ih mce mfr mun mbe men mov msp mwb mwe mwi mac mre mkn mth ext0 x2 x3 (x6 + 1) qn0 _ _ hP hD hS ls (lv_sub hl [1, 2, 3, 4, 0] rfl) h
          · have h := g_f c5 h
            refine lv_aload_n hx hb (kdr dgX3_free_4 5 2 rfl rfl) rfl (lv_at hl 0 rfl) ?_
            refine va_get (D := (dC, dI)) (ci := 5) (v := .ref (b 2)) (C := RX3) (T := TX3) (N := 14) hx hb hts hiX3 hown hK hP 0 rfl rfl 3 (by decide) hw4 (fun _ h9 => h9) rfl (kdr dgX3_free_4 5 3 rfl rfl) ?_
            refine lv_iload hx hb (kdr dgX3_free_4 5 4 rfl rfl) (lv_at hl 4 rfl) ?_
            refine va_lald hx hb hK hP 2 2 rfl rfl (ix_in z1) (kdr dgX3_free_4 5 5 rfl rfl) ?_
            refine lv_lstore_n (lv' := (kvJ 3 (mbe x6.toNatClampNeg) (kvA 0 (b 0) (kvA 1 qn0 (kvI 2 x2 (kvI 6 x6 kvE)))))) hx hb (kdr dgX3_free_4 5 6 rfl rfl) rfl hl (by decide) rfl (fun ls hl => ?_)
            refine lv_iinc (v := x6 + 1) (lv' := (kvI 6 (x6 + 1) (kvJ 3 (mbe x6.toNatClampNeg) (kvA 0 (b 0) (kvA 1 qn0 (kvI 2 x2 kvE)))))) hx hb (kdr dgX3_free_4 5 7 rfl rfl) hl (k := 4) rfl rfl (by decide) rfl (fun ls hl => ?_)
            refine lv_goto (tgt := 56) hx hb (kdr dgX3_free_4 5 8 rfl rfl) (by decide) ?_
            exact ih mce mfr mun mbe men mov msp mwb mwe mwi mac mre mkn mth ext0 x2 (mbe x6.toNatClampNeg) (x6 + 1) qn0 _ _ hP hD hS ls (lv_sub hl [2, 3, 4, 1, 0] rfl) h
  have J12 : ∀ (n : Nat), ∀ (mce : Nat → Int64) (mfr : Int64) (mun : Int64) (mbe : Nat → Int64) (men : Nat → Int64) (mov : Nat → Int32) (msp : Int32) (mwb : Nat → Int64) (mwe : Nat → Int64) (mwi : Int32) (mac : Int32) (mre : Int32) (mkn : Int32) (mth : Int32) (ext0 : Nat → Int64) (x2 : Int32) (x3 : Int64) (qn0 : Nat) (H : Heap) (locs : List Loc), va_P (dC, dI) vwCl ((wMo cJ cZ b mce mfr mun mbe men mov msp mwb mwe mwi mac mre mkn mth) ++ [(qn0, .inl (cJ, 22, .inr (.inl ext0)))]) H → va_D A ((wMo cJ cZ b mce mfr mun mbe men mov msp mwb mwe mwi mac mre mkn mth) ++ [(qn0, .inl (cJ, 22, .inr (.inl ext0)))]) → va_S A s.heap H locs → ∀ (ls : Array Slot), lv_has ls 7 (kvA 0 (b 0) (kvA 1 qn0 (kvI 2 x2 (kvJ 3 x3 kvE)))) → f_X3_free_12 n mun mbe men msp ext0 x2 x3 = some res → W p l e (headSpec wsX3_free (kRm 1 1 22 23)).room s m ([.ref (b 0)] : List Value).toArray below meth c H locs 1 22 (MQ below (kR (dC, dI) (.inl (cJ, 22, .inr (.inl (res)))) (wMo cJ cZ b mce mfr mun mbe men mov msp mwb mwe mwi mac mre mkn mth) A) ([.ref (b 0)] : List Value).toArray s 1 22 A) (F0 m 12 ls []) := by
    intro n
    induction n with
    | zero =>
      intro mce mfr mun mbe men mov msp mwb mwe mwi mac mre mkn mth ext0 x2 x3 qn0 H locs hP hD hS ls hl h
      have h := f_X3_free_12_0.symm.trans h
      cases h
    | succ n ih =>
      intro mce mfr mun mbe men mov msp mwb mwe mwi mac mre mkn mth ext0 x2 x3 qn0 H locs hP hD hS ls hl h
      have h := f_X3_free_12_s.symm.trans h
      refine lv_lload_n hx hb (kdr dgX3_free_4 0 6 rfl rfl) rfl (lv_at hl 3 rfl) ?_
      refine lv_aload_n hx hb (kdr dgX3_free_4 0 7 rfl rfl) rfl (lv_at hl 0 rfl) ?_
      refine va_get (D := (dC, dI)) (ci := 5) (v := .long mun) (C := RX3) (T := TX3) (N := 14) hx hb hts hiX3 hown hK hP 0 rfl rfl 2 (by decide) hw2 (fun _ h9 => h9) rfl (kdr dgX3_free_4 0 8 rfl rfl) ?_
      refine kl_ge (pc := 17) (tgt := 117) hx hb (kdr dgX3_free_4 0 9 rfl rfl) (kdr dgX3_free_4 1 0 rfl rfl) (by decide) (fun c1 => ?_) (fun c1 => ?_)
      · have h := g_t c1 h
        refine lv_aload_n hx hb (kdr dgX3_free_4 6 7 rfl rfl) rfl (lv_at hl 1 rfl) ?_
        have h := Option.some.inj h
        subst h
        refine W.widen (k := 1) (n := 22) (Nat.le_of_ble_eq_true rfl) (Nat.le_of_ble_eq_true rfl) ?_
        exact kret_r (q := qn0) hx hb hr (Or.inr ⟨_, rfl⟩) hlocks hS hP hD (kdr dgX3_free_4 6 8 rfl rfl)
      · have h := g_f c1 h
        refine lv_aload_n hx hb (kdr dgX3_free_4 1 1 rfl rfl) rfl (lv_at hl 0 rfl) ?_
        refine lv_lload_n hx hb (kdr dgX3_free_4 1 2 rfl rfl) rfl (lv_at hl 3 rfl) ?_
        obtain ⟨r2, g2, h⟩ := g_b h
        refine kq_i ((wMo cJ cZ b mce mfr mun mbe men mov msp mwb mwe mwi mac mre mkn mth) ++ [(qn0, .inl (cJ, 22, .inr (.inl ext0)))]) (fun qP qD qF => va_runV (As := [.long x3]) (rest := []) ⟨hx, hb, hml, hown, hts⟩ (c_X3_spanAt l dC dI cB cI cJ cZ b _ mce mfr mun mbe men mov msp mwb mwe mwi mac mre mkn mth x3 r2 g2) (kcwV hts kw_1344 kv_X3_spanAt rfl rfl ⟨(Nat.le_of_ble_eq_true rfl), (Nat.le_of_ble_eq_true rfl)⟩) (kpV (A := A) qP hK qD hG (krecv_5 (q0 := 0) hK hP rfl)) rfl rfl hl.1 rfl (lv_room (Nat.le_of_ble_eq_true rfl)) (kdr dgX3_free_4 1 3 rfl rfl) ⟨(Nat.le_of_ble_eq_true rfl), (Nat.le_of_ble_eq_true rfl)⟩) hP hD hS hA (kFr_l kFr_Mo) (fun H locs hP hD hS br2 => ?_)
        refine lv_istore (lv' := (kvI 5 r2 (kvA 0 (b 0) (kvA 1 qn0 (kvI 2 x2 (kvJ 3 x3 kvE)))))) hx hb (kdr dgX3_free_4 1 4 rfl rfl) hl (by decide) rfl (fun ls hl => ?_)
        refine lv_iload hx hb (kdr dgX3_free_4 1 5 rfl rfl) (lv_at hl 0 rfl) ?_
        refine lv_if_lt (tgt := 44) hx hb (kdr dgX3_free_4 1 6 rfl rfl) (by decide) (fun c3 => ?_) (fun c3 => ?_)
        · have h := g_t c3 h
          refine lv_aload_n hx hb (kdr dgX3_free_4 2 3 rfl rfl) rfl (lv_at hl 2 rfl) ?_
          refine lv_iload_n hx hb (kdr dgX3_free_4 2 4 rfl rfl) rfl (lv_at hl 3 rfl) ?_
          refine lv_lload_n hx hb (kdr dgX3_free_4 2 5 rfl rfl) rfl (lv_at hl 4 rfl) ?_
          obtain ⟨z3, h⟩ := g_if h
          refine va_last hx hb hK hP hD hS 7 2 rfl rfl (ix_in z3) (kdr dgX3_free_4 2 6 rfl rfl) (fun H locs hP hD hS => ?_)
          have hP : va_P (dC, dI) vwCl ((wMo cJ cZ b mce mfr mun mbe men mov msp mwb mwe mwi mac mre mkn mth) ++ [(qn0, .inl (cJ, 22, .inr (.inl (vp_updL ext0 x2.toNatClampNeg x3))))]) H := hP
          have hD : va_D A ((wMo cJ cZ b mce mfr mun mbe men mov msp mwb mwe mwi mac mre mkn mth) ++ [(qn0, .inl (cJ, 22, .inr (.inl (vp_updL ext0 x2.toNatClampNeg x3))))]) := hD
          refine lv_aload_n hx hb (kdr dgX3_free_4 2 7 rfl rfl) rfl (lv_at hl 1 rfl) ?_
          refine va_get (D := (dC, dI)) (ci := 5) (v := .long mun) (C := RX3) (T := TX3) (N := 14) hx hb hts hiX3 hown hK hP 0 rfl rfl 2 (by decide) hw2 (fun _ h9 => h9) rfl (kdr dgX3_free_4 2 8 rfl rfl) ?_
          refine lv_lstore_n (lv' := (kvJ 3 mun (kvI 5 r2 (kvA 0 (b 0) (kvA 1 qn0 (kvI 2 x2 kvE)))))) hx hb (kdr dgX3_free_4 2 9 rfl rfl) rfl hl (by decide) rfl (fun ls hl => ?_)
          refine lv_iconst (v := 0) hx hb (kdr dgX3_free_4 3 0 rfl rfl) (by decide) ?_
          refine lv_istore (lv' := (kvI 6 0 (kvJ 3 mun (kvI 5 r2 (kvA 0 (b 0) (kvA 1 qn0 (kvI 2 x2 kvE))))))) hx hb (kdr dgX3_free_4 3 1 rfl rfl) hl (by decide) rfl (fun ls hl => ?_)
          exact J56 (f_X3_free_12 n) ih 24 mce mfr mun mbe men mov msp mwb mwe mwi mac mre mkn mth (vp_updL ext0 x2.toNatClampNeg x3) x2 mun 0 qn0 _ _ hP hD hS ls (lv_sub hl [3, 4, 5, 1, 0] rfl) h
        · have h := g_f c3 h
          refine lv_aload_n hx hb (kdr dgX3_free_4 1 7 rfl rfl) rfl (lv_at hl 1 rfl) ?_
          refine va_get (D := (dC, dI)) (ci := 5) (v := .ref (b 3)) (C := RX3) (T := TX3) (N := 14) hx hb hts hiX3 hown hK hP 0 rfl rfl 4 (by decide) hw5 (fun _ h9 => h9) rfl (kdr dgX3_free_4 1 8 rfl rfl) ?_
          refine lv_iload hx hb (kdr dgX3_free_4 1 9 rfl rfl) (lv_at hl 0 rfl) ?_
          obtain ⟨z3, h⟩ := g_if h
          refine va_lald hx hb hK hP 3 2 rfl rfl (ix_in z3) (kdr dgX3_free_4 2 0 rfl rfl) ?_
          refine lv_lstore_n (lv' := (kvJ 3 (men r2.toNatClampNeg) (kvI 5 r2 (kvA 0 (b 0) (kvA 1 qn0 (kvI 2 x2 kvE)))))) hx hb (kdr dgX3_free_4 2 1 rfl rfl) rfl hl (by decide) rfl (fun ls hl => ?_)
          refine lv_goto (tgt := 12) hx hb (kdr dgX3_free_4 2 2 rfl rfl) (by decide) ?_
          exact ih mce mfr mun mbe men mov msp mwb mwe mwi mac mre mkn mth ext0 x2 (men r2.toNatClampNeg) qn0 _ _ hP hD hS ls (lv_sub hl [2, 3, 4, 0] rfl) h
  have hl := lv_entry ([.ref (b 0)]) (n := 7) (Nat.le_of_ble_eq_true rfl)
  rw [lg_entry_eq]
  generalize (lg_sl ([.ref (b 0)]) ++ List.replicate (7 - (lg_sl ([.ref (b 0)])).length) Slot.unset).toArray = ls at hl ⊢
  have hl : lv_has ls 7 (kvA 0 (b 0) kvE) := hl
  have h := f_X3_free_e.symm.trans hf
  refine lv_bipush (v := 22) hx hb (kdr dgX3_free_0 0 0 rfl rfl) (by decide) ?_
  refine va_newa (atype := .long) (ty := .long) (a0 := (22, .inr (.inl (fun _ => 0)))) hx hb hw0 rfl hK hP hD hS hA (fun _ => rfl) (by decide) (by decide) (Nat.le_of_ble_eq_true rfl) (Nat.le_of_ble_eq_true rfl) (Nat.le_of_ble_eq_true rfl) dX3_free_2 (fun qn0 cA H hK9 hP hD hS => ?_)
  have e9 : cA = cJ := k_cA hK9 2 rfl
  rw [e9] at hP hD
  have hP : va_P (dC, dI) vwCl ((wMo cJ cZ b mce mfr mun mbe men mov msp mwb mwe mwi mac mre mkn mth) ++ [(qn0, .inl (cJ, 22, .inr (.inl (fun _ => 0))))]) H := hP
  have hD : va_D A ((wMo cJ cZ b mce mfr mun mbe men mov msp mwb mwe mwi mac mre mkn mth) ++ [(qn0, .inl (cJ, 22, .inr (.inl (fun _ => 0))))]) := hD
  refine lv_astore_n (lv' := (kvA 1 qn0 (kvA 0 (b 0) kvE))) hx hb (kdr dgX3_free_4 0 0 rfl rfl) rfl hl (by decide) rfl (fun ls hl => ?_)
  refine lv_iconst (v := 0) hx hb (kdr dgX3_free_4 0 1 rfl rfl) (by decide) ?_
  refine lv_istore_n (lv' := (kvI 2 0 (kvA 1 qn0 (kvA 0 (b 0) kvE)))) hx hb (kdr dgX3_free_4 0 2 rfl rfl) rfl hl (by decide) rfl (fun ls hl => ?_)
  refine lv_aload_n hx hb (kdr dgX3_free_4 0 3 rfl rfl) rfl (lv_at hl 2 rfl) ?_
  refine va_get (D := (dC, dI)) (ci := 5) (v := .long mfr) (C := RX3) (T := TX3) (N := 14) hx hb hts hiX3 hown hK hP 0 rfl rfl 1 (by decide) hw1 (fun _ h9 => h9) rfl (kdr dgX3_free_4 0 4 rfl rfl) ?_
  refine lv_lstore_n (lv' := (kvJ 3 mfr (kvI 2 0 (kvA 1 qn0 (kvA 0 (b 0) kvE))))) hx hb (kdr dgX3_free_4 0 5 rfl rfl) rfl hl (by decide) rfl (fun ls hl => ?_)
  exact J12 24 mce mfr mun mbe men mov msp mwb mwe mwi mac mre mkn mth (fun _ => 0) 0 mfr qn0 _ _ hP hD hS ls (lv_sub hl [3, 2, 1, 0] rfl) h
noncomputable abbrev wsX3_freesOf : List Cond := kWs yX3_freesOf cX3_freesOf 2 (some .int)
noncomputable def f_X3_freesOf_2 (n0 : Nat) : Nat → (Nat → Int64) → (Int32) → Option (Int32)
  | 0, _, _ => none
  | n + 1, v0, x1 =>
    if (Int32.ofNat n0) ≤ (2 * x1) then
      some x1
    else
      if ix ((2 * x1) + 1) n0 then
        if ix (2 * x1) n0 then
          if (v0 ((2 * x1) + 1).toNatClampNeg) = (v0 (2 * x1).toNatClampNeg) then
            some x1
          else
            f_X3_freesOf_2 n0 n v0 (x1 + 1)
        else none
      else none
theorem f_X3_freesOf_2_0 {n0 : Nat} {v0 : Nat → Int64} {x1 : Int32} : f_X3_freesOf_2 n0 0 v0 x1 = none := rfl
theorem f_X3_freesOf_2_s {n0 : Nat} {n : Nat} {v0 : Nat → Int64} {x1 : Int32} : f_X3_freesOf_2 n0 (n + 1) v0 x1 =
  if (Int32.ofNat n0) ≤ (2 * x1) then
    some x1
  else
    if ix ((2 * x1) + 1) n0 then
      if ix (2 * x1) n0 then
        if (v0 ((2 * x1) + 1).toNatClampNeg) = (v0 (2 * x1).toNatClampNeg) then
          some x1
        else
          f_X3_freesOf_2 n0 n v0 (x1 + 1)
      else none
    else none := rfl
noncomputable def f_X3_freesOf (n0 : Nat) (v0 : Nat → Int64) : Option (Int32) :=
  f_X3_freesOf_2 n0 24 v0 0
theorem f_X3_freesOf_e {n0 : Nat} {v0 : Nat → Int64} : f_X3_freesOf n0 v0 = 
  f_X3_freesOf_2 n0 24 v0 0 := rfl
set_option maxHeartbeats 4000000 in
set_option maxRecDepth 100000 in
theorem c_X3_freesOf (l : Launch) (dC : Nat → ClassId) (dI : Nat → Nat → Nat) (cB cI cJ cZ : ClassId) (q0 : Nat) (n0 : Nat) (sz : Nat) (v0 : Nat → Int64) (res : Int32) (hf : f_X3_freesOf n0 v0 = some res) : kMi l yX3_freesOf wsX3_freesOf (kRm 0 0 0 0) dC dI cB cI cJ cZ [.ref q0] sz [(q0, .inl (cJ, n0, .inr (.inl v0)))] .int (res) [(q0, .inl (cJ, n0, .inr (.inl v0)))] 0 0 := by
  refine kmet_i (y := yX3_freesOf) (cc := cX3_freesOf) (maxL := 2) (ret := (some .int)) RX3 (kvA 0 q0 kvE) kpl_X3 rfl rfl (Nat.le_of_ble_eq_true rfl) rfl (fun p e s m below meth c A ls hx hb hr hml hts hown hlocks hP hK hG hD hA hS hl => ?_)
  have J2 : ∀ (n : Nat), ∀ (v0 : Nat → Int64) (x1 : Int32) (H : Heap) (locs : List Loc), va_P (dC, dI) vwCl [(q0, .inl (cJ, n0, .inr (.inl v0)))] H → va_D A [(q0, .inl (cJ, n0, .inr (.inl v0)))] → va_S A s.heap H locs → ∀ (ls : Array Slot), lv_has ls 2 (kvA 0 q0 (kvI 1 x1 kvE)) → f_X3_freesOf_2 n0 n v0 x1 = some res → W p l e (headSpec wsX3_freesOf (kRm 0 0 0 0)).room s m ([.ref q0] : List Value).toArray below meth c H locs 0 0 (MQ below (kI (dC, dI) .int (res) [(q0, .inl (cJ, n0, .inr (.inl v0)))] A) ([.ref q0] : List Value).toArray s 0 0 A) (F0 m 2 ls []) := by
    intro n
    induction n with
    | zero =>
      intro v0 x1 H locs hP hD hS ls hl h
      have h := f_X3_freesOf_2_0.symm.trans h
      cases h
    | succ n ih =>
      intro v0 x1 H locs hP hD hS ls hl h
      have h := f_X3_freesOf_2_s.symm.trans h
      refine lv_iconst (v := 2) hx hb (kdr dgX3_freesOf_0 0 2 rfl rfl) (by decide) ?_
      refine lv_iload_n hx hb (kdr dgX3_freesOf_0 0 3 rfl rfl) rfl (lv_at hl 1 rfl) ?_
      refine lv_imul hx hb (kdr dgX3_freesOf_0 0 4 rfl rfl) ?_
      refine lv_aload_n hx hb (kdr dgX3_freesOf_0 0 5 rfl rfl) rfl (lv_at hl 0 rfl) ?_
      refine va_alen (v := Int32.ofNat n0) hx hb hK hP 0 2 rfl rfl rfl (kdr dgX3_freesOf_0 0 6 rfl rfl) ?_
      refine lv_icmp_ge (tgt := 32) hx hb (kdr dgX3_freesOf_0 0 7 rfl rfl) (by decide) (fun c1 => ?_) (fun c1 => ?_)
      · have h := g_t c1 h
        refine lv_iload_n hx hb (kdr dgX3_freesOf_0 2 4 rfl rfl) rfl (lv_at hl 1 rfl) ?_
        have h := Option.some.inj h
        subst h
        exact kret_i (v := x1) hx hb hr rfl hlocks hS hP (kdr dgX3_freesOf_0 2 5 rfl rfl)
      · have h := g_f c1 h
        refine lv_aload_n hx hb (kdr dgX3_freesOf_0 0 8 rfl rfl) rfl (lv_at hl 0 rfl) ?_
        refine lv_iconst (v := 2) hx hb (kdr dgX3_freesOf_0 0 9 rfl rfl) (by decide) ?_
        refine lv_iload_n hx hb (kdr dgX3_freesOf_0 1 0 rfl rfl) rfl (lv_at hl 1 rfl) ?_
        refine lv_imul hx hb (kdr dgX3_freesOf_0 1 1 rfl rfl) ?_
        refine lv_iconst (v := 1) hx hb (kdr dgX3_freesOf_0 1 2 rfl rfl) (by decide) ?_
        refine lv_iadd hx hb (kdr dgX3_freesOf_0 1 3 rfl rfl) ?_
        obtain ⟨z1, h⟩ := g_if h
        refine va_lald hx hb hK hP 0 2 rfl rfl (ix_in z1) (kdr dgX3_freesOf_0 1 4 rfl rfl) ?_
        refine lv_aload_n hx hb (kdr dgX3_freesOf_0 1 5 rfl rfl) rfl (lv_at hl 0 rfl) ?_
        refine lv_iconst (v := 2) hx hb (kdr dgX3_freesOf_0 1 6 rfl rfl) (by decide) ?_
        refine lv_iload_n hx hb (kdr dgX3_freesOf_0 1 7 rfl rfl) rfl (lv_at hl 1 rfl) ?_
        refine lv_imul hx hb (kdr dgX3_freesOf_0 1 8 rfl rfl) ?_
        obtain ⟨z2, h⟩ := g_if h
        refine va_lald hx hb hK hP 0 2 rfl rfl (ix_in z2) (kdr dgX3_freesOf_0 1 9 rfl rfl) ?_
        refine kl_eq (pc := 22) (tgt := 32) hx hb (kdr dgX3_freesOf_0 2 0 rfl rfl) (kdr dgX3_freesOf_0 2 1 rfl rfl) (by decide) (fun c4 => ?_) (fun c4 => ?_)
        · have h := g_t c4 h
          refine lv_iload_n hx hb (kdr dgX3_freesOf_0 2 4 rfl rfl) rfl (lv_at hl 1 rfl) ?_
          have h := Option.some.inj h
          subst h
          exact kret_i (v := x1) hx hb hr rfl hlocks hS hP (kdr dgX3_freesOf_0 2 5 rfl rfl)
        · have h := g_f c4 h
          refine lv_iinc (v := x1 + 1) (lv' := (kvI 1 (x1 + 1) (kvA 0 q0 kvE))) hx hb (kdr dgX3_freesOf_0 2 2 rfl rfl) hl (k := 1) rfl rfl (by decide) rfl (fun ls hl => ?_)
          refine lv_goto (tgt := 2) hx hb (kdr dgX3_freesOf_0 2 3 rfl rfl) (by decide) ?_
          exact ih v0 (x1 + 1) _ _ hP hD hS ls (lv_sub hl [1, 0] rfl) h
  have h := f_X3_freesOf_e.symm.trans hf
  refine lv_iconst (v := 0) hx hb (kdr dgX3_freesOf_0 0 0 rfl rfl) (by decide) ?_
  refine lv_istore_n (lv' := (kvI 1 0 (kvA 0 q0 kvE))) hx hb (kdr dgX3_freesOf_0 0 1 rfl rfl) rfl hl (by decide) rfl (fun ls hl => ?_)
  exact J2 24 v0 0 _ _ hP hD hS ls (lv_sub hl [1, 0] rfl) h
noncomputable abbrev wsX3_freeLength : List Cond := kWs yX3_freeLength cX3_freeLength 5 (some .long)
noncomputable def f_X3_freeLength_10 : Nat → (Nat → Int64) → (Int64) → (Int32) → Option (Int64)
  | 0, _, _, _ => none
  | n + 1, ext0, x2, x4 =>
    (f_X3_freesOf 22 ext0).bind fun r1 =>
    if r1 ≤ x4 then
      some x2
    else
      if ix ((2 * x4) + 1) 22 then
        if ix (2 * x4) 22 then
          f_X3_freeLength_10 n ext0 (x2 + ((ext0 ((2 * x4) + 1).toNatClampNeg) - (ext0 (2 * x4).toNatClampNeg))) (x4 + 1)
        else none
      else none
theorem f_X3_freeLength_10_0 {ext0 : Nat → Int64} {x2 : Int64} {x4 : Int32} : f_X3_freeLength_10 0 ext0 x2 x4 = none := rfl
theorem f_X3_freeLength_10_s {n : Nat} {ext0 : Nat → Int64} {x2 : Int64} {x4 : Int32} : f_X3_freeLength_10 (n + 1) ext0 x2 x4 =
  (f_X3_freesOf 22 ext0).bind fun r1 =>
  if r1 ≤ x4 then
    some x2
  else
    if ix ((2 * x4) + 1) 22 then
      if ix (2 * x4) 22 then
        f_X3_freeLength_10 n ext0 (x2 + ((ext0 ((2 * x4) + 1).toNatClampNeg) - (ext0 (2 * x4).toNatClampNeg))) (x4 + 1)
      else none
    else none := rfl
noncomputable def f_X3_freeLength (mfr : Int64) (mun : Int64) (mbe : Nat → Int64) (men : Nat → Int64) (msp : Int32) : Option (Int64) :=
  (f_X3_free mfr mun mbe men msp).bind fun r1 =>
  f_X3_freeLength_10 24 r1 0 0
theorem f_X3_freeLength_e {mfr : Int64} {mun : Int64} {mbe : Nat → Int64} {men : Nat → Int64} {msp : Int32} : f_X3_freeLength mfr mun mbe men msp = 
  (f_X3_free mfr mun mbe men msp).bind fun r1 =>
  f_X3_freeLength_10 24 r1 0 0 := rfl
set_option maxHeartbeats 4000000 in
set_option maxRecDepth 100000 in
theorem c_X3_freeLength (l : Launch) (dC : Nat → ClassId) (dI : Nat → Nat → Nat) (cB cI cJ cZ : ClassId) (b : Nat → Nat) (sz : Nat) (mce : Nat → Int64) (mfr : Int64) (mun : Int64) (mbe : Nat → Int64) (men : Nat → Int64) (mov : Nat → Int32) (msp : Int32) (mwb : Nat → Int64) (mwe : Nat → Int64) (mwi : Int32) (mac : Int32) (mre : Int32) (mkn : Int32) (mth : Int32) (res : Int64) (hf : f_X3_freeLength mfr mun mbe men msp = some res) : kMl l yX3_freeLength wsX3_freeLength (kRm 2 1 22 49) dC dI cB cI cJ cZ [.ref (b 0)] sz (wMo cJ cZ b mce mfr mun mbe men mov msp mwb mwe mwi mac mre mkn mth) (res) (wMo cJ cZ b mce mfr mun mbe men mov msp mwb mwe mwi mac mre mkn mth) 1 22 := by
  refine kmet_l (y := yX3_freeLength) (cc := cX3_freeLength) (maxL := 5) (ret := (some .long)) RX3 (kvA 0 (b 0) kvE) kpl_X3 rfl rfl (Nat.le_of_ble_eq_true rfl) rfl (fun p e s m below meth c A ls hx hb hr hml hts hown hlocks hP hK hG hD hA hS hl => ?_)
  have J10 : ∀ (n : Nat), ∀ (mce : Nat → Int64) (mfr : Int64) (mun : Int64) (mbe : Nat → Int64) (men : Nat → Int64) (mov : Nat → Int32) (msp : Int32) (mwb : Nat → Int64) (mwe : Nat → Int64) (mwi : Int32) (mac : Int32) (mre : Int32) (mkn : Int32) (mth : Int32) (ext0 : Nat → Int64) (x2 : Int64) (x4 : Int32) (qn0 : Nat) (H : Heap) (locs : List Loc), va_P (dC, dI) vwCl ((wMo cJ cZ b mce mfr mun mbe men mov msp mwb mwe mwi mac mre mkn mth) ++ [(qn0, .inl (cJ, 22, .inr (.inl ext0)))]) H → va_D A ((wMo cJ cZ b mce mfr mun mbe men mov msp mwb mwe mwi mac mre mkn mth) ++ [(qn0, .inl (cJ, 22, .inr (.inl ext0)))]) → va_S A s.heap H locs → ∀ (ls : Array Slot), lv_has ls 5 (kvA 1 qn0 (kvJ 2 x2 (kvI 4 x4 kvE))) → f_X3_freeLength_10 n ext0 x2 x4 = some res → W p l e (headSpec wsX3_freeLength (kRm 2 1 22 49)).room s m ([.ref (b 0)] : List Value).toArray below meth c H locs 1 22 (MQ below (kL (dC, dI) (res) (wMo cJ cZ b mce mfr mun mbe men mov msp mwb mwe mwi mac mre mkn mth) A) ([.ref (b 0)] : List Value).toArray s 1 22 A) (F0 m 10 ls []) := by
    intro n
    induction n with
    | zero =>
      intro mce mfr mun mbe men mov msp mwb mwe mwi mac mre mkn mth ext0 x2 x4 qn0 H locs hP hD hS ls hl h
      have h := f_X3_freeLength_10_0.symm.trans h
      cases h
    | succ n ih =>
      intro mce mfr mun mbe men mov msp mwb mwe mwi mac mre mkn mth ext0 x2 x4 qn0 H locs hP hD hS ls hl h
      have h := f_X3_freeLength_10_s.symm.trans h
      refine lv_iload hx hb (kdr dgX3_freeLength_0 0 7 rfl rfl) (lv_at hl 2 rfl) ?_
      refine lv_aload_n hx hb (kdr dgX3_freeLength_0 0 8 rfl rfl) rfl (lv_at hl 0 rfl) ?_
      obtain ⟨r1, g1, h⟩ := g_b h
      refine kq_i ((wMo cJ cZ b mce mfr mun mbe men mov msp mwb mwe mwi mac mre mkn mth) ++ [(qn0, .inl (cJ, 22, .inr (.inl ext0)))]) (fun qP qD qF => va_runS (As := [.ref qn0]) (rest := [.int x4]) ⟨hx, hb, hml, hown, hts⟩ (c_X3_freesOf l dC dI cB cI cJ cZ qn0 22 _ ext0  r1 g1) (kcwS hts kw_1368 kv_X3_freesOf rfl rfl ⟨(Nat.le_of_ble_eq_true rfl), (Nat.le_of_ble_eq_true rfl)⟩) (kpS (A := A) qP hK qD hG) rfl rfl hl.1 rfl (lv_room (Nat.le_of_ble_eq_true rfl)) (kdr dgX3_freeLength_0 0 9 rfl rfl) ⟨(Nat.le_of_ble_eq_true rfl), (Nat.le_of_ble_eq_true rfl)⟩) hP hD hS hA (kFr_r kFr_o) (fun H locs hP hD hS br1 => ?_)
      refine lv_icmp_ge (tgt := 43) hx hb (kdr dgX3_freeLength_0 1 0 rfl rfl) (by decide) (fun c2 => ?_) (fun c2 => ?_)
      · have h := g_t c2 h
        refine lv_lload_n hx hb (kdr dgX3_freeLength_0 2 9 rfl rfl) rfl (lv_at hl 1 rfl) ?_
        have hP := hP.sub (ws' := (wMo cJ cZ b mce mfr mun mbe men mov msp mwb mwe mwi mac mre mkn mth)) [0, 1, 2, 3, 4, 5, 6] rfl
        have h := Option.some.inj h
        subst h
        refine W.widen (k := 1) (n := 22) (Nat.le_of_ble_eq_true rfl) (Nat.le_of_ble_eq_true rfl) ?_
        exact kret_l (v := x2) hx hb hr hlocks hS hP (kdr dgX3_freeLength_0 3 0 rfl rfl)
      · have h := g_f c2 h
        refine lv_lload_n hx hb (kdr dgX3_freeLength_0 1 1 rfl rfl) rfl (lv_at hl 1 rfl) ?_
        refine lv_aload_n hx hb (kdr dgX3_freeLength_0 1 2 rfl rfl) rfl (lv_at hl 0 rfl) ?_
        refine lv_iconst (v := 2) hx hb (kdr dgX3_freeLength_0 1 3 rfl rfl) (by decide) ?_
        refine lv_iload hx hb (kdr dgX3_freeLength_0 1 4 rfl rfl) (lv_at hl 2 rfl) ?_
        refine lv_imul hx hb (kdr dgX3_freeLength_0 1 5 rfl rfl) ?_
        refine lv_iconst (v := 1) hx hb (kdr dgX3_freeLength_0 1 6 rfl rfl) (by decide) ?_
        refine lv_iadd hx hb (kdr dgX3_freeLength_0 1 7 rfl rfl) ?_
        obtain ⟨z2, h⟩ := g_if h
        refine va_lald hx hb hK hP 7 2 rfl rfl (ix_in z2) (kdr dgX3_freeLength_0 1 8 rfl rfl) ?_
        refine lv_aload_n hx hb (kdr dgX3_freeLength_0 1 9 rfl rfl) rfl (lv_at hl 0 rfl) ?_
        refine lv_iconst (v := 2) hx hb (kdr dgX3_freeLength_0 2 0 rfl rfl) (by decide) ?_
        refine lv_iload hx hb (kdr dgX3_freeLength_0 2 1 rfl rfl) (lv_at hl 2 rfl) ?_
        refine lv_imul hx hb (kdr dgX3_freeLength_0 2 2 rfl rfl) ?_
        obtain ⟨z3, h⟩ := g_if h
        refine va_lald hx hb hK hP 7 2 rfl rfl (ix_in z3) (kdr dgX3_freeLength_0 2 3 rfl rfl) ?_
        refine lv_lsub hx hb (kdr dgX3_freeLength_0 2 4 rfl rfl) ?_
        refine lv_ladd hx hb (kdr dgX3_freeLength_0 2 5 rfl rfl) ?_
        refine lv_lstore_n (lv' := (kvJ 2 (x2 + ((ext0 ((2 * x4) + 1).toNatClampNeg) - (ext0 (2 * x4).toNatClampNeg))) (kvA 1 qn0 (kvI 4 x4 kvE)))) hx hb (kdr dgX3_freeLength_0 2 6 rfl rfl) rfl hl (by decide) rfl (fun ls hl => ?_)
        refine lv_iinc (v := x4 + 1) (lv' := (kvI 4 (x4 + 1) (kvJ 2 (x2 + ((ext0 ((2 * x4) + 1).toNatClampNeg) - (ext0 (2 * x4).toNatClampNeg))) (kvA 1 qn0 kvE)))) hx hb (kdr dgX3_freeLength_0 2 7 rfl rfl) hl (k := 2) rfl rfl (by decide) rfl (fun ls hl => ?_)
        refine lv_goto (tgt := 10) hx hb (kdr dgX3_freeLength_0 2 8 rfl rfl) (by decide) ?_
        exact ih mce mfr mun mbe men mov msp mwb mwe mwi mac mre mkn mth ext0 (x2 + ((ext0 ((2 * x4) + 1).toNatClampNeg) - (ext0 (2 * x4).toNatClampNeg))) (x4 + 1) qn0 _ _ hP hD hS ls (lv_sub hl [2, 1, 0] rfl) h
  have h := f_X3_freeLength_e.symm.trans hf
  refine lv_aload_n hx hb (kdr dgX3_freeLength_0 0 0 rfl rfl) rfl (lv_at hl 0 rfl) ?_
  obtain ⟨r1, g1, h⟩ := g_b h
  refine kcall_r (wMo cJ cZ b mce mfr mun mbe men mov msp mwb mwe mwi mac mre mkn mth) (va_runV (As := []) (rest := []) ⟨hx, hb, hml, hown, hts⟩ (c_X3_free l dC dI cB cI cJ cZ b _ mce mfr mun mbe men mov msp mwb mwe mwi mac mre mkn mth  r1 g1) (kcwV hts kw_1364 kv_X3_free rfl rfl ⟨(Nat.le_of_ble_eq_true rfl), (Nat.le_of_ble_eq_true rfl)⟩) (kpV (A := A) (hP.sub [0, 1, 2, 3, 4, 5, 6] rfl) hK (hD.sub [0, 1, 2, 3, 4, 5, 6] (by decide) rfl) hG (krecv_5 (q0 := 0) hK hP rfl)) rfl rfl hl.1 rfl (lv_room (Nat.le_of_ble_eq_true rfl)) (kdr dgX3_freeLength_0 0 1 rfl rfl) ⟨(Nat.le_of_ble_eq_true rfl), (Nat.le_of_ble_eq_true rfl)⟩) hP hD hS hA [0, 1, 2, 3, 4, 5, 6] [] rfl rfl [] rfl rfl rfl (by decide) rfl rfl (fun qn0 H locs hP hD hS => ?_)
  have hP : va_P (dC, dI) vwCl ((wMo cJ cZ b mce mfr mun mbe men mov msp mwb mwe mwi mac mre mkn mth) ++ [(qn0, .inl (cJ, 22, .inr (.inl r1)))]) H := hP
  have hD : va_D A ((wMo cJ cZ b mce mfr mun mbe men mov msp mwb mwe mwi mac mre mkn mth) ++ [(qn0, .inl (cJ, 22, .inr (.inl r1)))]) := hD
  refine lv_astore_n (lv' := (kvA 1 qn0 (kvA 0 (b 0) kvE))) hx hb (kdr dgX3_freeLength_0 0 2 rfl rfl) rfl hl (by decide) rfl (fun ls hl => ?_)
  refine lv_lconst (v := 0) hx hb (kdr dgX3_freeLength_0 0 3 rfl rfl) (by decide) ?_
  refine lv_lstore_n (lv' := (kvJ 2 0 (kvA 1 qn0 (kvA 0 (b 0) kvE)))) hx hb (kdr dgX3_freeLength_0 0 4 rfl rfl) rfl hl (by decide) rfl (fun ls hl => ?_)
  refine lv_iconst (v := 0) hx hb (kdr dgX3_freeLength_0 0 5 rfl rfl) (by decide) ?_
  refine lv_istore (lv' := (kvI 4 0 (kvJ 2 0 (kvA 1 qn0 (kvA 0 (b 0) kvE))))) hx hb (kdr dgX3_freeLength_0 0 6 rfl rfl) hl (by decide) rfl (fun ls hl => ?_)
  exact J10 24 mce mfr mun mbe men mov msp mwb mwe mwi mac mre mkn mth r1 0 0 qn0 _ _ hP hD hS ls (lv_sub hl [2, 1, 0] rfl) h
noncomputable abbrev wsX3_takenLength : List Cond := kWs yX3_takenLength cX3_takenLength 9 (some .long)
noncomputable def f_X3_takenLength_100 (K7 : (Int64) → (Nat → Int64) → (Nat → Int64) → (Int32) → (Int64) → (Int64) → Option (Int64)) (mun : Int64) (mbe : Nat → Int64) (men : Nat → Int64) (msp : Int32) (x1 : Int64) (x3 : Int64) (x5 : Int32) (x6 : Int64) : Option (Int64) :=
  if x5 < 0 then
    K7 mun mbe men msp (x1 + 0) x6
  else
    K7 mun mbe men msp (x1 + (x6 - x3)) x6
theorem f_X3_takenLength_100_e {K7 : (Int64) → (Nat → Int64) → (Nat → Int64) → (Int32) → (Int64) → (Int64) → Option (Int64)} {mun : Int64} {mbe : Nat → Int64} {men : Nat → Int64} {msp : Int32} {x1 : Int64} {x3 : Int64} {x5 : Int32} {x6 : Int64} : f_X3_takenLength_100 K7 mun mbe men msp x1 x3 x5 x6 =
  if x5 < 0 then
    K7 mun mbe men msp (x1 + 0) x6
  else
    K7 mun mbe men msp (x1 + (x6 - x3)) x6 := rfl
noncomputable def f_X3_takenLength_46 (K7 : (Int64) → (Nat → Int64) → (Nat → Int64) → (Int32) → (Int64) → (Int64) → Option (Int64)) : Nat → (Int64) → (Nat → Int64) → (Nat → Int64) → (Int32) → (Int64) → (Int64) → (Int32) → (Int64) → (Int32) → Option (Int64)
  | 0, _, _, _, _, _, _, _, _, _ => none
  | n + 1, mun, mbe, men, msp, x1, x3, x5, x6, x8 =>
    if msp ≤ x8 then
      f_X3_takenLength_100 K7 mun mbe men msp x1 x3 x5 x6
    else
      if 0 ≤ x5 then
        f_X3_takenLength_100 K7 mun mbe men msp x1 x3 x5 x6
      else
        if ix x8 10 then
          if (mbe x8.toNatClampNeg) ≤ x3 then
            f_X3_takenLength_46 K7 n mun mbe men msp x1 x3 x5 x6 (x8 + 1)
          else
            if x6 ≤ (mbe x8.toNatClampNeg) then
              f_X3_takenLength_46 K7 n mun mbe men msp x1 x3 x5 x6 (x8 + 1)
            else
              f_X3_takenLength_46 K7 n mun mbe men msp x1 x3 x5 (mbe x8.toNatClampNeg) (x8 + 1)
        else none
theorem f_X3_takenLength_46_0 {K7 : (Int64) → (Nat → Int64) → (Nat → Int64) → (Int32) → (Int64) → (Int64) → Option (Int64)} {mun : Int64} {mbe : Nat → Int64} {men : Nat → Int64} {msp : Int32} {x1 : Int64} {x3 : Int64} {x5 : Int32} {x6 : Int64} {x8 : Int32} : f_X3_takenLength_46 K7 0 mun mbe men msp x1 x3 x5 x6 x8 = none := rfl
theorem f_X3_takenLength_46_s {K7 : (Int64) → (Nat → Int64) → (Nat → Int64) → (Int32) → (Int64) → (Int64) → Option (Int64)} {n : Nat} {mun : Int64} {mbe : Nat → Int64} {men : Nat → Int64} {msp : Int32} {x1 : Int64} {x3 : Int64} {x5 : Int32} {x6 : Int64} {x8 : Int32} : f_X3_takenLength_46 K7 (n + 1) mun mbe men msp x1 x3 x5 x6 x8 =
  if msp ≤ x8 then
    f_X3_takenLength_100 K7 mun mbe men msp x1 x3 x5 x6
  else
    if 0 ≤ x5 then
      f_X3_takenLength_100 K7 mun mbe men msp x1 x3 x5 x6
    else
      if ix x8 10 then
        if (mbe x8.toNatClampNeg) ≤ x3 then
          f_X3_takenLength_46 K7 n mun mbe men msp x1 x3 x5 x6 (x8 + 1)
        else
          if x6 ≤ (mbe x8.toNatClampNeg) then
            f_X3_takenLength_46 K7 n mun mbe men msp x1 x3 x5 x6 (x8 + 1)
          else
            f_X3_takenLength_46 K7 n mun mbe men msp x1 x3 x5 (mbe x8.toNatClampNeg) (x8 + 1)
      else none := rfl
noncomputable def f_X3_takenLength_7 : Nat → (Int64) → (Nat → Int64) → (Nat → Int64) → (Int32) → (Int64) → (Int64) → Option (Int64)
  | 0, _, _, _, _, _, _ => none
  | n + 1, mun, mbe, men, msp, x1, x3 =>
    if mun ≤ x3 then
      some x1
    else
      (f_X3_spanAt mbe men msp x3).bind fun r2 =>
      if r2 < 0 then
        f_X3_takenLength_46 (f_X3_takenLength_7 n) 24 mun mbe men msp x1 x3 r2 mun 0
      else
        if ix r2 10 then
          f_X3_takenLength_46 (f_X3_takenLength_7 n) 24 mun mbe men msp x1 x3 r2 (men r2.toNatClampNeg) 0
        else none
theorem f_X3_takenLength_7_0 {mun : Int64} {mbe : Nat → Int64} {men : Nat → Int64} {msp : Int32} {x1 : Int64} {x3 : Int64} : f_X3_takenLength_7 0 mun mbe men msp x1 x3 = none := rfl
theorem f_X3_takenLength_7_s {n : Nat} {mun : Int64} {mbe : Nat → Int64} {men : Nat → Int64} {msp : Int32} {x1 : Int64} {x3 : Int64} : f_X3_takenLength_7 (n + 1) mun mbe men msp x1 x3 =
  if mun ≤ x3 then
    some x1
  else
    (f_X3_spanAt mbe men msp x3).bind fun r2 =>
    if r2 < 0 then
      f_X3_takenLength_46 (f_X3_takenLength_7 n) 24 mun mbe men msp x1 x3 r2 mun 0
    else
      if ix r2 10 then
        f_X3_takenLength_46 (f_X3_takenLength_7 n) 24 mun mbe men msp x1 x3 r2 (men r2.toNatClampNeg) 0
      else none := rfl
noncomputable def f_X3_takenLength (mfr : Int64) (mun : Int64) (mbe : Nat → Int64) (men : Nat → Int64) (msp : Int32) : Option (Int64) :=
  f_X3_takenLength_7 24 mun mbe men msp 0 mfr
theorem f_X3_takenLength_e {mfr : Int64} {mun : Int64} {mbe : Nat → Int64} {men : Nat → Int64} {msp : Int32} : f_X3_takenLength mfr mun mbe men msp = 
  f_X3_takenLength_7 24 mun mbe men msp 0 mfr := rfl
set_option maxHeartbeats 4000000 in
set_option maxRecDepth 100000 in
theorem c_X3_takenLength (l : Launch) (dC : Nat → ClassId) (dI : Nat → Nat → Nat) (cB cI cJ cZ : ClassId) (b : Nat → Nat) (sz : Nat) (mce : Nat → Int64) (mfr : Int64) (mun : Int64) (mbe : Nat → Int64) (men : Nat → Int64) (mov : Nat → Int32) (msp : Int32) (mwb : Nat → Int64) (mwe : Nat → Int64) (mwi : Int32) (mac : Int32) (mre : Int32) (mkn : Int32) (mth : Int32) (res : Int64) (hf : f_X3_takenLength mfr mun mbe men msp = some res) : kMl l yX3_takenLength wsX3_takenLength (kRm 1 0 0 23) dC dI cB cI cJ cZ [.ref (b 0)] sz (wMo cJ cZ b mce mfr mun mbe men mov msp mwb mwe mwi mac mre mkn mth) (res) (wMo cJ cZ b mce mfr mun mbe men mov msp mwb mwe mwi mac mre mkn mth) 0 0 := by
  refine kmet_l (y := yX3_takenLength) (cc := cX3_takenLength) (maxL := 9) (ret := (some .long)) RX3 (kvA 0 (b 0) kvE) kpl_X3 rfl rfl (Nat.le_of_ble_eq_true rfl) rfl (fun p e s m below meth c A ls hx hb hr hml hts hown hlocks hP hK hG hD hA hS hl => ?_)
  have hw0 := hts (.fieldLink RX3 53 "SpanbookerModel" "from" "J") (List.mem_cons_of_mem _ kw_1073)
  have hw1 := hts (.fieldLink RX3 15 "SpanbookerModel" "until" "J") (List.mem_cons_of_mem _ kw_1074)
  have hw2 := hts (.fieldLink RX3 56 "SpanbookerModel" "spans" "I") (List.mem_cons_of_mem _ kw_1078)
  have hw3 := hts (.fieldLink RX3 19 "SpanbookerModel" "begins" "[J") (List.mem_cons_of_mem _ kw_1075)
  have hw4 := hts (.fieldLink RX3 22 "SpanbookerModel" "ends" "[J") (List.mem_cons_of_mem _ kw_1076)
  have hiX3 : ∀ w ∈ u_ws RX3 TX3 14, w ∈ wsX3_takenLength := fun w h => List.mem_cons_of_mem _ (ku_X3 w h)
  have J100 : ∀ (K7 : (Int64) → (Nat → Int64) → (Nat → Int64) → (Int32) → (Int64) → (Int64) → Option (Int64)), (∀ (mce : Nat → Int64) (mfr : Int64) (mun : Int64) (mbe : Nat → Int64) (men : Nat → Int64) (mov : Nat → Int32) (msp : Int32) (mwb : Nat → Int64) (mwe : Nat → Int64) (mwi : Int32) (mac : Int32) (mre : Int32) (mkn : Int32) (mth : Int32) (x1 : Int64) (x3 : Int64) (H : Heap) (locs : List Loc), va_P (dC, dI) vwCl (wMo cJ cZ b mce mfr mun mbe men mov msp mwb mwe mwi mac mre mkn mth) H → va_D A (wMo cJ cZ b mce mfr mun mbe men mov msp mwb mwe mwi mac mre mkn mth) → va_S A s.heap H locs → ∀ (ls : Array Slot), lv_has ls 9 (kvA 0 (b 0) (kvJ 1 x1 (kvJ 3 x3 kvE))) → K7 mun mbe men msp x1 x3 = some res → W p l e (headSpec wsX3_takenLength (kRm 1 0 0 23)).room s m ([.ref (b 0)] : List Value).toArray below meth c H locs 0 0 (MQ below (kL (dC, dI) (res) (wMo cJ cZ b mce mfr mun mbe men mov msp mwb mwe mwi mac mre mkn mth) A) ([.ref (b 0)] : List Value).toArray s 0 0 A) (F0 m 7 ls [])) → ∀ (mce : Nat → Int64) (mfr : Int64) (mun : Int64) (mbe : Nat → Int64) (men : Nat → Int64) (mov : Nat → Int32) (msp : Int32) (mwb : Nat → Int64) (mwe : Nat → Int64) (mwi : Int32) (mac : Int32) (mre : Int32) (mkn : Int32) (mth : Int32) (x1 : Int64) (x3 : Int64) (x5 : Int32) (x6 : Int64) (H : Heap) (locs : List Loc), va_P (dC, dI) vwCl (wMo cJ cZ b mce mfr mun mbe men mov msp mwb mwe mwi mac mre mkn mth) H → va_D A (wMo cJ cZ b mce mfr mun mbe men mov msp mwb mwe mwi mac mre mkn mth) → va_S A s.heap H locs → ∀ (ls : Array Slot), lv_has ls 9 (kvA 0 (b 0) (kvJ 1 x1 (kvJ 3 x3 (kvI 5 x5 (kvJ 6 x6 kvE))))) → f_X3_takenLength_100 K7 mun mbe men msp x1 x3 x5 x6 = some res → W p l e (headSpec wsX3_takenLength (kRm 1 0 0 23)).room s m ([.ref (b 0)] : List Value).toArray below meth c H locs 0 0 (MQ below (kL (dC, dI) (res) (wMo cJ cZ b mce mfr mun mbe men mov msp mwb mwe mwi mac mre mkn mth) A) ([.ref (b 0)] : List Value).toArray s 0 0 A) (F0 m 100 ls []) := by
    intro K7 hK7 mce mfr mun mbe men mov msp mwb mwe mwi mac mre mkn mth x1 x3 x5 x6 H locs hP hD hS ls hl h
    have h := f_X3_takenLength_100_e.symm.trans h
    refine lv_lload_n hx hb (kdr dgX3_takenLength_0 5 3 rfl rfl) rfl (lv_at hl 1 rfl) ?_
    refine lv_iload hx hb (kdr dgX3_takenLength_0 5 4 rfl rfl) (lv_at hl 3 rfl) ?_
    refine lv_if_lt (tgt := 113) hx hb (kdr dgX3_takenLength_0 5 5 rfl rfl) (by decide) (fun c1 => ?_) (fun c1 => ?_)
    · have h := g_t c1 h
      refine lv_lconst (v := 0) hx hb (kdr dgX3_takenLength_0 6 0 rfl rfl) (by decide) ?_
      refine lv_ladd hx hb (kdr dgX3_takenLength_0 6 1 rfl rfl) ?_
      refine lv_lstore_n (lv' := (kvJ 1 (x1 + 0) (kvA 0 (b 0) (kvJ 3 x3 (kvI 5 x5 (kvJ 6 x6 kvE)))))) hx hb (kdr dgX3_takenLength_0 6 2 rfl rfl) rfl hl (by decide) rfl (fun ls hl => ?_)
      refine lv_lload hx hb (kdr dgX3_takenLength_0 6 3 rfl rfl) (lv_at hl 4 rfl) ?_
      refine lv_lstore_n (lv' := (kvJ 3 x6 (kvJ 1 (x1 + 0) (kvA 0 (b 0) (kvI 5 x5 (kvJ 6 x6 kvE)))))) hx hb (kdr dgX3_takenLength_0 6 4 rfl rfl) rfl hl (by decide) rfl (fun ls hl => ?_)
      refine lv_goto (tgt := 7) hx hb (kdr dgX3_takenLength_0 6 5 rfl rfl) (by decide) ?_
      exact hK7 mce mfr mun mbe men mov msp mwb mwe mwi mac mre mkn mth (x1 + 0) x6 _ _ hP hD hS ls (lv_sub hl [2, 1, 0] rfl) h
    · have h := g_f c1 h
      refine lv_lload hx hb (kdr dgX3_takenLength_0 5 6 rfl rfl) (lv_at hl 4 rfl) ?_
      refine lv_lload_n hx hb (kdr dgX3_takenLength_0 5 7 rfl rfl) rfl (lv_at hl 2 rfl) ?_
      refine lv_lsub hx hb (kdr dgX3_takenLength_0 5 8 rfl rfl) ?_
      refine lv_goto (tgt := 114) hx hb (kdr dgX3_takenLength_0 5 9 rfl rfl) (by decide) ?_
      refine lv_ladd hx hb (kdr dgX3_takenLength_0 6 1 rfl rfl) ?_
      refine lv_lstore_n (lv' := (kvJ 1 (x1 + (x6 - x3)) (kvA 0 (b 0) (kvJ 3 x3 (kvI 5 x5 (kvJ 6 x6 kvE)))))) hx hb (kdr dgX3_takenLength_0 6 2 rfl rfl) rfl hl (by decide) rfl (fun ls hl => ?_)
      refine lv_lload hx hb (kdr dgX3_takenLength_0 6 3 rfl rfl) (lv_at hl 4 rfl) ?_
      refine lv_lstore_n (lv' := (kvJ 3 x6 (kvJ 1 (x1 + (x6 - x3)) (kvA 0 (b 0) (kvI 5 x5 (kvJ 6 x6 kvE)))))) hx hb (kdr dgX3_takenLength_0 6 4 rfl rfl) rfl hl (by decide) rfl (fun ls hl => ?_)
      refine lv_goto (tgt := 7) hx hb (kdr dgX3_takenLength_0 6 5 rfl rfl) (by decide) ?_
      exact hK7 mce mfr mun mbe men mov msp mwb mwe mwi mac mre mkn mth (x1 + (x6 - x3)) x6 _ _ hP hD hS ls (lv_sub hl [2, 1, 0] rfl) h
  have J46 : ∀ (K7 : (Int64) → (Nat → Int64) → (Nat → Int64) → (Int32) → (Int64) → (Int64) → Option (Int64)), (∀ (mce : Nat → Int64) (mfr : Int64) (mun : Int64) (mbe : Nat → Int64) (men : Nat → Int64) (mov : Nat → Int32) (msp : Int32) (mwb : Nat → Int64) (mwe : Nat → Int64) (mwi : Int32) (mac : Int32) (mre : Int32) (mkn : Int32) (mth : Int32) (x1 : Int64) (x3 : Int64) (H : Heap) (locs : List Loc), va_P (dC, dI) vwCl (wMo cJ cZ b mce mfr mun mbe men mov msp mwb mwe mwi mac mre mkn mth) H → va_D A (wMo cJ cZ b mce mfr mun mbe men mov msp mwb mwe mwi mac mre mkn mth) → va_S A s.heap H locs → ∀ (ls : Array Slot), lv_has ls 9 (kvA 0 (b 0) (kvJ 1 x1 (kvJ 3 x3 kvE))) → K7 mun mbe men msp x1 x3 = some res → W p l e (headSpec wsX3_takenLength (kRm 1 0 0 23)).room s m ([.ref (b 0)] : List Value).toArray below meth c H locs 0 0 (MQ below (kL (dC, dI) (res) (wMo cJ cZ b mce mfr mun mbe men mov msp mwb mwe mwi mac mre mkn mth) A) ([.ref (b 0)] : List Value).toArray s 0 0 A) (F0 m 7 ls [])) → ∀ (n : Nat), ∀ (mce : Nat → Int64) (mfr : Int64) (mun : Int64) (mbe : Nat → Int64) (men : Nat → Int64) (mov : Nat → Int32) (msp : Int32) (mwb : Nat → Int64) (mwe : Nat → Int64) (mwi : Int32) (mac : Int32) (mre : Int32) (mkn : Int32) (mth : Int32) (x1 : Int64) (x3 : Int64) (x5 : Int32) (x6 : Int64) (x8 : Int32) (H : Heap) (locs : List Loc), va_P (dC, dI) vwCl (wMo cJ cZ b mce mfr mun mbe men mov msp mwb mwe mwi mac mre mkn mth) H → va_D A (wMo cJ cZ b mce mfr mun mbe men mov msp mwb mwe mwi mac mre mkn mth) → va_S A s.heap H locs → ∀ (ls : Array Slot), lv_has ls 9 (kvA 0 (b 0) (kvJ 1 x1 (kvJ 3 x3 (kvI 5 x5 (kvJ 6 x6 (kvI 8 x8 kvE)))))) → f_X3_takenLength_46 K7 n mun mbe men msp x1 x3 x5 x6 x8 = some res → W p l e (headSpec wsX3_takenLength (kRm 1 0 0 23)).room s m ([.ref (b 0)] : List Value).toArray below meth c H locs 0 0 (MQ below (kL (dC, dI) (res) (wMo cJ cZ b mce mfr mun mbe men mov msp mwb mwe mwi mac mre mkn mth) A) ([.ref (b 0)] : List Value).toArray s 0 0 A) (F0 m 46 ls []) := by
    intro K7 hK7 n
    induction n with
    | zero =>
      intro mce mfr mun mbe men mov msp mwb mwe mwi mac mre mkn mth x1 x3 x5 x6 x8 H locs hP hD hS ls hl h
      have h := f_X3_takenLength_46_0.symm.trans h
      cases h
    | succ n ih =>
      intro mce mfr mun mbe men mov msp mwb mwe mwi mac mre mkn mth x1 x3 x5 x6 x8 H locs hP hD hS ls hl h
      have h := f_X3_takenLength_46_s.symm.trans h
      refine lv_iload hx hb (kdr dgX3_takenLength_0 2 6 rfl rfl) (lv_at hl 5 rfl) ?_
      refine lv_aload_n hx hb (kdr dgX3_takenLength_0 2 7 rfl rfl) rfl (lv_at hl 0 rfl) ?_
      refine va_get (D := (dC, dI)) (ci := 5) (v := .int msp) (C := RX3) (T := TX3) (N := 14) hx hb hts hiX3 hown hK hP 0 rfl rfl 6 (by decide) hw2 (fun _ h9 => h9) rfl (kdr dgX3_takenLength_0 2 8 rfl rfl) ?_
      refine lv_icmp_ge (tgt := 100) hx hb (kdr dgX3_takenLength_0 2 9 rfl rfl) (by decide) (fun c1 => ?_) (fun c1 => ?_)
      · have h := g_t c1 h
        exact J100 K7 hK7 mce mfr mun mbe men mov msp mwb mwe mwi mac mre mkn mth x1 x3 x5 x6 _ _ hP hD hS ls (lv_sub hl [0, 1, 2, 3, 4] rfl) h
      · have h := g_f c1 h
        refine lv_iload hx hb (kdr dgX3_takenLength_0 3 0 rfl rfl) (lv_at hl 3 rfl) ?_
        refine lv_if_ge (tgt := 100) hx hb (kdr dgX3_takenLength_0 3 1 rfl rfl) (by decide) (fun c2 => ?_) (fun c2 => ?_)
        · have h := g_t c2 h
          exact J100 K7 hK7 mce mfr mun mbe men mov msp mwb mwe mwi mac mre mkn mth x1 x3 x5 x6 _ _ hP hD hS ls (lv_sub hl [0, 1, 2, 3, 4] rfl) h
        · have h := g_f c2 h
          refine lv_aload_n hx hb (kdr dgX3_takenLength_0 3 2 rfl rfl) rfl (lv_at hl 0 rfl) ?_
          refine va_get (D := (dC, dI)) (ci := 5) (v := .ref (b 2)) (C := RX3) (T := TX3) (N := 14) hx hb hts hiX3 hown hK hP 0 rfl rfl 3 (by decide) hw3 (fun _ h9 => h9) rfl (kdr dgX3_takenLength_0 3 3 rfl rfl) ?_
          refine lv_iload hx hb (kdr dgX3_takenLength_0 3 4 rfl rfl) (lv_at hl 5 rfl) ?_
          obtain ⟨z2, h⟩ := g_if h
          refine va_lald hx hb hK hP 2 2 rfl rfl (ix_in z2) (kdr dgX3_takenLength_0 3 5 rfl rfl) ?_
          refine lv_lload_n hx hb (kdr dgX3_takenLength_0 3 6 rfl rfl) rfl (lv_at hl 2 rfl) ?_
          refine kl_le (pc := 68) (tgt := 94) hx hb (kdr dgX3_takenLength_0 3 7 rfl rfl) (kdr dgX3_takenLength_0 3 8 rfl rfl) (by decide) (fun c4 => ?_) (fun c4 => ?_)
          · have h := g_t c4 h
            refine lv_iinc (v := x8 + 1) (lv' := (kvI 8 (x8 + 1) (kvA 0 (b 0) (kvJ 1 x1 (kvJ 3 x3 (kvI 5 x5 (kvJ 6 x6 kvE))))))) hx hb (kdr dgX3_takenLength_0 5 1 rfl rfl) hl (k := 5) rfl rfl (by decide) rfl (fun ls hl => ?_)
            refine lv_goto (tgt := 46) hx hb (kdr dgX3_takenLength_0 5 2 rfl rfl) (by decide) ?_
            exact ih mce mfr mun mbe men mov msp mwb mwe mwi mac mre mkn mth x1 x3 x5 x6 (x8 + 1) _ _ hP hD hS ls (lv_sub hl [1, 2, 3, 4, 5, 0] rfl) h
          · have h := g_f c4 h
            refine lv_aload_n hx hb (kdr dgX3_takenLength_0 3 9 rfl rfl) rfl (lv_at hl 0 rfl) ?_
            refine va_get (D := (dC, dI)) (ci := 5) (v := .ref (b 2)) (C := RX3) (T := TX3) (N := 14) hx hb hts hiX3 hown hK hP 0 rfl rfl 3 (by decide) hw3 (fun _ h9 => h9) rfl (kdr dgX3_takenLength_0 4 0 rfl rfl) ?_
            refine lv_iload hx hb (kdr dgX3_takenLength_0 4 1 rfl rfl) (lv_at hl 5 rfl) ?_
            refine va_lald hx hb hK hP 2 2 rfl rfl (ix_in z2) (kdr dgX3_takenLength_0 4 2 rfl rfl) ?_
            refine lv_lload hx hb (kdr dgX3_takenLength_0 4 3 rfl rfl) (lv_at hl 4 rfl) ?_
            refine kl_ge (pc := 81) (tgt := 94) hx hb (kdr dgX3_takenLength_0 4 4 rfl rfl) (kdr dgX3_takenLength_0 4 5 rfl rfl) (by decide) (fun c5 => ?_) (fun c5 => ?_)
            · have h := g_t c5 h
              refine lv_iinc (v := x8 + 1) (lv' := (kvI 8 (x8 + 1) (kvA 0 (b 0) (kvJ 1 x1 (kvJ 3 x3 (kvI 5 x5 (kvJ 6 x6 kvE))))))) hx hb (kdr dgX3_takenLength_0 5 1 rfl rfl) hl (k := 5) rfl rfl (by decide) rfl (fun ls hl => ?_)
              refine lv_goto (tgt := 46) hx hb (kdr dgX3_takenLength_0 5 2 rfl rfl) (by decide) ?_
              exact ih mce mfr mun mbe men mov msp mwb mwe mwi mac mre mkn mth x1 x3 x5 x6 (x8 + 1) _ _ hP hD hS ls (lv_sub hl [1, 2, 3, 4, 5, 0] rfl) h
            · have h := g_f c5 h
              refine lv_aload_n hx hb (kdr dgX3_takenLength_0 4 6 rfl rfl) rfl (lv_at hl 0 rfl) ?_
              refine va_get (D := (dC, dI)) (ci := 5) (v := .ref (b 2)) (C := RX3) (T := TX3) (N := 14) hx hb hts hiX3 hown hK hP 0 rfl rfl 3 (by decide) hw3 (fun _ h9 => h9) rfl (kdr dgX3_takenLength_0 4 7 rfl rfl) ?_
              refine lv_iload hx hb (kdr dgX3_takenLength_0 4 8 rfl rfl) (lv_at hl 5 rfl) ?_
              refine va_lald hx hb hK hP 2 2 rfl rfl (ix_in z2) (kdr dgX3_takenLength_0 4 9 rfl rfl) ?_
              refine lv_lstore (lv' := (kvJ 6 (mbe x8.toNatClampNeg) (kvA 0 (b 0) (kvJ 1 x1 (kvJ 3 x3 (kvI 5 x5 (kvI 8 x8 kvE))))))) hx hb (kdr dgX3_takenLength_0 5 0 rfl rfl) hl (by decide) rfl (fun ls hl => ?_)
              refine lv_iinc (v := x8 + 1) (lv' := (kvI 8 (x8 + 1) (kvJ 6 (mbe x8.toNatClampNeg) (kvA 0 (b 0) (kvJ 1 x1 (kvJ 3 x3 (kvI 5 x5 kvE))))))) hx hb (kdr dgX3_takenLength_0 5 1 rfl rfl) hl (k := 5) rfl rfl (by decide) rfl (fun ls hl => ?_)
              refine lv_goto (tgt := 46) hx hb (kdr dgX3_takenLength_0 5 2 rfl rfl) (by decide) ?_
              exact ih mce mfr mun mbe men mov msp mwb mwe mwi mac mre mkn mth x1 x3 x5 (mbe x8.toNatClampNeg) (x8 + 1) _ _ hP hD hS ls (lv_sub hl [2, 3, 4, 5, 1, 0] rfl) h
  have J7 : ∀ (n : Nat), ∀ (mce : Nat → Int64) (mfr : Int64) (mun : Int64) (mbe : Nat → Int64) (men : Nat → Int64) (mov : Nat → Int32) (msp : Int32) (mwb : Nat → Int64) (mwe : Nat → Int64) (mwi : Int32) (mac : Int32) (mre : Int32) (mkn : Int32) (mth : Int32) (x1 : Int64) (x3 : Int64) (H : Heap) (locs : List Loc), va_P (dC, dI) vwCl (wMo cJ cZ b mce mfr mun mbe men mov msp mwb mwe mwi mac mre mkn mth) H → va_D A (wMo cJ cZ b mce mfr mun mbe men mov msp mwb mwe mwi mac mre mkn mth) → va_S A s.heap H locs → ∀ (ls : Array Slot), lv_has ls 9 (kvA 0 (b 0) (kvJ 1 x1 (kvJ 3 x3 kvE))) → f_X3_takenLength_7 n mun mbe men msp x1 x3 = some res → W p l e (headSpec wsX3_takenLength (kRm 1 0 0 23)).room s m ([.ref (b 0)] : List Value).toArray below meth c H locs 0 0 (MQ below (kL (dC, dI) (res) (wMo cJ cZ b mce mfr mun mbe men mov msp mwb mwe mwi mac mre mkn mth) A) ([.ref (b 0)] : List Value).toArray s 0 0 A) (F0 m 7 ls []) := by
    intro n
    induction n with
    | zero =>
      intro mce mfr mun mbe men mov msp mwb mwe mwi mac mre mkn mth x1 x3 H locs hP hD hS ls hl h
      have h := f_X3_takenLength_7_0.symm.trans h
      cases h
    | succ n ih =>
      intro mce mfr mun mbe men mov msp mwb mwe mwi mac mre mkn mth x1 x3 H locs hP hD hS ls hl h
      have h := f_X3_takenLength_7_s.symm.trans h
      refine lv_lload_n hx hb (kdr dgX3_takenLength_0 0 5 rfl rfl) rfl (lv_at hl 2 rfl) ?_
      refine lv_aload_n hx hb (kdr dgX3_takenLength_0 0 6 rfl rfl) rfl (lv_at hl 0 rfl) ?_
      refine va_get (D := (dC, dI)) (ci := 5) (v := .long mun) (C := RX3) (T := TX3) (N := 14) hx hb hts hiX3 hown hK hP 0 rfl rfl 2 (by decide) hw1 (fun _ h9 => h9) rfl (kdr dgX3_takenLength_0 0 7 rfl rfl) ?_
      refine kl_ge (pc := 12) (tgt := 122) hx hb (kdr dgX3_takenLength_0 0 8 rfl rfl) (kdr dgX3_takenLength_0 0 9 rfl rfl) (by decide) (fun c1 => ?_) (fun c1 => ?_)
      · have h := g_t c1 h
        refine lv_lload_n hx hb (kdr dgX3_takenLength_0 6 6 rfl rfl) rfl (lv_at hl 1 rfl) ?_
        have h := Option.some.inj h
        subst h
        exact kret_l (v := x1) hx hb hr hlocks hS hP (kdr dgX3_takenLength_0 6 7 rfl rfl)
      · have h := g_f c1 h
        refine lv_aload_n hx hb (kdr dgX3_takenLength_0 1 0 rfl rfl) rfl (lv_at hl 0 rfl) ?_
        refine lv_lload_n hx hb (kdr dgX3_takenLength_0 1 1 rfl rfl) rfl (lv_at hl 2 rfl) ?_
        obtain ⟨r2, g2, h⟩ := g_b h
        refine kq_i (wMo cJ cZ b mce mfr mun mbe men mov msp mwb mwe mwi mac mre mkn mth) (fun qP qD qF => va_runV (As := [.long x3]) (rest := []) ⟨hx, hb, hml, hown, hts⟩ (c_X3_spanAt l dC dI cB cI cJ cZ b _ mce mfr mun mbe men mov msp mwb mwe mwi mac mre mkn mth x3 r2 g2) (kcwV hts kw_1344 kv_X3_spanAt rfl rfl ⟨(Nat.le_of_ble_eq_true rfl), (Nat.le_of_ble_eq_true rfl)⟩) (kpV (A := A) qP hK qD hG (krecv_5 (q0 := 0) hK hP rfl)) rfl rfl hl.1 rfl (lv_room (Nat.le_of_ble_eq_true rfl)) (kdr dgX3_takenLength_0 1 2 rfl rfl) ⟨(Nat.le_of_ble_eq_true rfl), (Nat.le_of_ble_eq_true rfl)⟩) hP hD hS hA kFr_Mo (fun H locs hP hD hS br2 => ?_)
        refine lv_istore (lv' := (kvI 5 r2 (kvA 0 (b 0) (kvJ 1 x1 (kvJ 3 x3 kvE))))) hx hb (kdr dgX3_takenLength_0 1 3 rfl rfl) hl (by decide) rfl (fun ls hl => ?_)
        refine lv_aload_n hx hb (kdr dgX3_takenLength_0 1 4 rfl rfl) rfl (lv_at hl 1 rfl) ?_
        refine va_get (D := (dC, dI)) (ci := 5) (v := .long mun) (C := RX3) (T := TX3) (N := 14) hx hb hts hiX3 hown hK hP 0 rfl rfl 2 (by decide) hw1 (fun _ h9 => h9) rfl (kdr dgX3_takenLength_0 1 5 rfl rfl) ?_
        refine lv_lstore (lv' := (kvJ 6 mun (kvI 5 r2 (kvA 0 (b 0) (kvJ 1 x1 (kvJ 3 x3 kvE)))))) hx hb (kdr dgX3_takenLength_0 1 6 rfl rfl) hl (by decide) rfl (fun ls hl => ?_)
        refine lv_iload hx hb (kdr dgX3_takenLength_0 1 7 rfl rfl) (lv_at hl 1 rfl) ?_
        refine lv_if_lt (tgt := 43) hx hb (kdr dgX3_takenLength_0 1 8 rfl rfl) (by decide) (fun c3 => ?_) (fun c3 => ?_)
        · have h := g_t c3 h
          refine lv_iconst (v := 0) hx hb (kdr dgX3_takenLength_0 2 4 rfl rfl) (by decide) ?_
          refine lv_istore (lv' := (kvI 8 0 (kvJ 6 mun (kvI 5 r2 (kvA 0 (b 0) (kvJ 1 x1 (kvJ 3 x3 kvE))))))) hx hb (kdr dgX3_takenLength_0 2 5 rfl rfl) hl (by decide) rfl (fun ls hl => ?_)
          exact J46 (f_X3_takenLength_7 n) ih 24 mce mfr mun mbe men mov msp mwb mwe mwi mac mre mkn mth x1 x3 r2 mun 0 _ _ hP hD hS ls (lv_sub hl [3, 4, 5, 2, 1, 0] rfl) h
        · have h := g_f c3 h
          refine lv_aload_n hx hb (kdr dgX3_takenLength_0 1 9 rfl rfl) rfl (lv_at hl 2 rfl) ?_
          refine va_get (D := (dC, dI)) (ci := 5) (v := .ref (b 3)) (C := RX3) (T := TX3) (N := 14) hx hb hts hiX3 hown hK hP 0 rfl rfl 4 (by decide) hw4 (fun _ h9 => h9) rfl (kdr dgX3_takenLength_0 2 0 rfl rfl) ?_
          refine lv_iload hx hb (kdr dgX3_takenLength_0 2 1 rfl rfl) (lv_at hl 1 rfl) ?_
          obtain ⟨z3, h⟩ := g_if h
          refine va_lald hx hb hK hP 3 2 rfl rfl (ix_in z3) (kdr dgX3_takenLength_0 2 2 rfl rfl) ?_
          refine lv_lstore (lv' := (kvJ 6 (men r2.toNatClampNeg) (kvI 5 r2 (kvA 0 (b 0) (kvJ 1 x1 (kvJ 3 x3 kvE)))))) hx hb (kdr dgX3_takenLength_0 2 3 rfl rfl) hl (by decide) rfl (fun ls hl => ?_)
          refine lv_iconst (v := 0) hx hb (kdr dgX3_takenLength_0 2 4 rfl rfl) (by decide) ?_
          refine lv_istore (lv' := (kvI 8 0 (kvJ 6 (men r2.toNatClampNeg) (kvI 5 r2 (kvA 0 (b 0) (kvJ 1 x1 (kvJ 3 x3 kvE))))))) hx hb (kdr dgX3_takenLength_0 2 5 rfl rfl) hl (by decide) rfl (fun ls hl => ?_)
          exact J46 (f_X3_takenLength_7 n) ih 24 mce mfr mun mbe men mov msp mwb mwe mwi mac mre mkn mth x1 x3 r2 (men r2.toNatClampNeg) 0 _ _ hP hD hS ls (lv_sub hl [3, 4, 5, 2, 1, 0] rfl) h
  have h := f_X3_takenLength_e.symm.trans hf
  refine lv_lconst (v := 0) hx hb (kdr dgX3_takenLength_0 0 0 rfl rfl) (by decide) ?_
  refine lv_lstore_n (lv' := (kvJ 1 0 (kvA 0 (b 0) kvE))) hx hb (kdr dgX3_takenLength_0 0 1 rfl rfl) rfl hl (by decide) rfl (fun ls hl => ?_)
  refine lv_aload_n hx hb (kdr dgX3_takenLength_0 0 2 rfl rfl) rfl (lv_at hl 1 rfl) ?_
  refine va_get (D := (dC, dI)) (ci := 5) (v := .long mfr) (C := RX3) (T := TX3) (N := 14) hx hb hts hiX3 hown hK hP 0 rfl rfl 1 (by decide) hw0 (fun _ h9 => h9) rfl (kdr dgX3_takenLength_0 0 3 rfl rfl) ?_
  refine lv_lstore_n (lv' := (kvJ 3 mfr (kvJ 1 0 (kvA 0 (b 0) kvE)))) hx hb (kdr dgX3_takenLength_0 0 4 rfl rfl) rfl hl (by decide) rfl (fun ls hl => ?_)
  exact J7 24 mce mfr mun mbe men mov msp mwb mwe mwi mac mre mkn mth 0 mfr _ _ hP hD hS ls (lv_sub hl [2, 1, 0] rfl) h
noncomputable abbrev wsX3_deepest : List Cond := kWs yX3_deepest cX3_deepest 7 (some .int)
noncomputable def f_X3_deepest_17 (n0 : Nat) (n1 : Nat) (K5 : (Nat → Int64) → (Nat → Int64) → (Int32) → (Int32) → (Int32) → Option (Int32)) : Nat → (Nat → Int64) → (Nat → Int64) → (Int32) → (Int32) → (Int32) → (Int32) → (Int32) → Option (Int32)
  | 0, _, _, _, _, _, _, _ => none
  | n + 1, v0, v1, x2, x3, x4, x5, x6 =>
    if x2 ≤ x6 then
      K5 v0 v1 x2 (if x3 < x5 then x5 else x3) (x4 + 1)
    else
      if ix x6 n0 then
        if ix x4 n0 then
          if (v0 x4.toNatClampNeg) < (v0 x6.toNatClampNeg) then
            f_X3_deepest_17 n0 n1 K5 n v0 v1 x2 x3 x4 (x5 + 0) (x6 + 1)
          else
            if ix x6 n1 then
              if (v1 x6.toNatClampNeg) ≤ (v0 x4.toNatClampNeg) then
                f_X3_deepest_17 n0 n1 K5 n v0 v1 x2 x3 x4 (x5 + 0) (x6 + 1)
              else
                f_X3_deepest_17 n0 n1 K5 n v0 v1 x2 x3 x4 (x5 + 1) (x6 + 1)
            else none
        else none
      else none
theorem f_X3_deepest_17_0 {n0 : Nat} {n1 : Nat} {K5 : (Nat → Int64) → (Nat → Int64) → (Int32) → (Int32) → (Int32) → Option (Int32)} {v0 : Nat → Int64} {v1 : Nat → Int64} {x2 : Int32} {x3 : Int32} {x4 : Int32} {x5 : Int32} {x6 : Int32} : f_X3_deepest_17 n0 n1 K5 0 v0 v1 x2 x3 x4 x5 x6 = none := rfl
theorem f_X3_deepest_17_s {n0 : Nat} {n1 : Nat} {K5 : (Nat → Int64) → (Nat → Int64) → (Int32) → (Int32) → (Int32) → Option (Int32)} {n : Nat} {v0 : Nat → Int64} {v1 : Nat → Int64} {x2 : Int32} {x3 : Int32} {x4 : Int32} {x5 : Int32} {x6 : Int32} : f_X3_deepest_17 n0 n1 K5 (n + 1) v0 v1 x2 x3 x4 x5 x6 =
  if x2 ≤ x6 then
    K5 v0 v1 x2 (if x3 < x5 then x5 else x3) (x4 + 1)
  else
    if ix x6 n0 then
      if ix x4 n0 then
        if (v0 x4.toNatClampNeg) < (v0 x6.toNatClampNeg) then
          f_X3_deepest_17 n0 n1 K5 n v0 v1 x2 x3 x4 (x5 + 0) (x6 + 1)
        else
          if ix x6 n1 then
            if (v1 x6.toNatClampNeg) ≤ (v0 x4.toNatClampNeg) then
              f_X3_deepest_17 n0 n1 K5 n v0 v1 x2 x3 x4 (x5 + 0) (x6 + 1)
            else
              f_X3_deepest_17 n0 n1 K5 n v0 v1 x2 x3 x4 (x5 + 1) (x6 + 1)
          else none
      else none
    else none := rfl
noncomputable def f_X3_deepest_5 (n0 : Nat) (n1 : Nat) : Nat → (Nat → Int64) → (Nat → Int64) → (Int32) → (Int32) → (Int32) → Option (Int32)
  | 0, _, _, _, _, _ => none
  | n + 1, v0, v1, x2, x3, x4 =>
    if x2 ≤ x4 then
      some x3
    else
      f_X3_deepest_17 n0 n1 (f_X3_deepest_5 n0 n1 n) 24 v0 v1 x2 x3 x4 0 0
theorem f_X3_deepest_5_0 {n0 : Nat} {n1 : Nat} {v0 : Nat → Int64} {v1 : Nat → Int64} {x2 : Int32} {x3 : Int32} {x4 : Int32} : f_X3_deepest_5 n0 n1 0 v0 v1 x2 x3 x4 = none := rfl
theorem f_X3_deepest_5_s {n0 : Nat} {n1 : Nat} {n : Nat} {v0 : Nat → Int64} {v1 : Nat → Int64} {x2 : Int32} {x3 : Int32} {x4 : Int32} : f_X3_deepest_5 n0 n1 (n + 1) v0 v1 x2 x3 x4 =
  if x2 ≤ x4 then
    some x3
  else
    f_X3_deepest_17 n0 n1 (f_X3_deepest_5 n0 n1 n) 24 v0 v1 x2 x3 x4 0 0 := rfl
noncomputable def f_X3_deepest (n0 : Nat) (n1 : Nat) (v0 : Nat → Int64) (v1 : Nat → Int64) (p2 : Int32) : Option (Int32) :=
  f_X3_deepest_5 n0 n1 24 v0 v1 p2 0 0
theorem f_X3_deepest_e {n0 : Nat} {n1 : Nat} {v0 : Nat → Int64} {v1 : Nat → Int64} {p2 : Int32} : f_X3_deepest n0 n1 v0 v1 p2 = 
  f_X3_deepest_5 n0 n1 24 v0 v1 p2 0 0 := rfl
set_option maxHeartbeats 4000000 in
set_option maxRecDepth 100000 in
theorem c_X3_deepest (l : Launch) (dC : Nat → ClassId) (dI : Nat → Nat → Nat) (cB cI cJ cZ : ClassId) (q0 : Nat) (n0 : Nat) (q1 : Nat) (n1 : Nat) (sz : Nat) (v0 : Nat → Int64) (v1 : Nat → Int64) (p2 : Int32) (res : Int32) (hf : f_X3_deepest n0 n1 v0 v1 p2 = some res) : kMi l yX3_deepest wsX3_deepest (kRm 1 0 0 40) dC dI cB cI cJ cZ [.ref q0, .ref q1, .int p2] sz ([(q0, .inl (cJ, n0, .inr (.inl v0)))] ++ [(q1, .inl (cJ, n1, .inr (.inl v1)))]) .int (res) ([(q0, .inl (cJ, n0, .inr (.inl v0)))] ++ [(q1, .inl (cJ, n1, .inr (.inl v1)))]) 0 0 := by
  refine kmet_i (y := yX3_deepest) (cc := cX3_deepest) (maxL := 7) (ret := (some .int)) RX3 (kvA 0 q0 (kvA 1 q1 (kvI 2 p2 kvE))) kpl_X3 rfl rfl (Nat.le_of_ble_eq_true rfl) rfl (fun p e s m below meth c A ls hx hb hr hml hts hown hlocks hP hK hG hD hA hS hl => ?_)
  have hw0 := hts (.methodLink RX3 74 Lib.Math.max.name) (List.mem_cons_of_mem _ kw_1355)
  have hw1 := hts (.static Lib.Math.max.name) (List.mem_cons_of_mem _ kw_176)
  have hw2 := hts (.initialized "java/lang/Math") (List.mem_cons_of_mem _ kw_66)
  have hw3 := hts (.code Lib.Math.max.name Lib.Math.max.code 2 (some .int)) (List.mem_cons_of_mem _ kw_177)
  have J17 : ∀ (K5 : (Nat → Int64) → (Nat → Int64) → (Int32) → (Int32) → (Int32) → Option (Int32)), (∀ (v0 : Nat → Int64) (v1 : Nat → Int64) (x2 : Int32) (x3 : Int32) (x4 : Int32) (H : Heap) (locs : List Loc), va_P (dC, dI) vwCl ([(q0, .inl (cJ, n0, .inr (.inl v0)))] ++ [(q1, .inl (cJ, n1, .inr (.inl v1)))]) H → va_D A ([(q0, .inl (cJ, n0, .inr (.inl v0)))] ++ [(q1, .inl (cJ, n1, .inr (.inl v1)))]) → va_S A s.heap H locs → ∀ (ls : Array Slot), lv_has ls 7 (kvA 0 q0 (kvA 1 q1 (kvI 2 x2 (kvI 3 x3 (kvI 4 x4 kvE))))) → K5 v0 v1 x2 x3 x4 = some res → W p l e (headSpec wsX3_deepest (kRm 1 0 0 40)).room s m ([.ref q0, .ref q1, .int p2] : List Value).toArray below meth c H locs 0 0 (MQ below (kI (dC, dI) .int (res) ([(q0, .inl (cJ, n0, .inr (.inl v0)))] ++ [(q1, .inl (cJ, n1, .inr (.inl v1)))]) A) ([.ref q0, .ref q1, .int p2] : List Value).toArray s 0 0 A) (F0 m 5 ls [])) → ∀ (n : Nat), ∀ (v0 : Nat → Int64) (v1 : Nat → Int64) (x2 : Int32) (x3 : Int32) (x4 : Int32) (x5 : Int32) (x6 : Int32) (H : Heap) (locs : List Loc), va_P (dC, dI) vwCl ([(q0, .inl (cJ, n0, .inr (.inl v0)))] ++ [(q1, .inl (cJ, n1, .inr (.inl v1)))]) H → va_D A ([(q0, .inl (cJ, n0, .inr (.inl v0)))] ++ [(q1, .inl (cJ, n1, .inr (.inl v1)))]) → va_S A s.heap H locs → ∀ (ls : Array Slot), lv_has ls 7 (kvA 0 q0 (kvA 1 q1 (kvI 2 x2 (kvI 3 x3 (kvI 4 x4 (kvI 5 x5 (kvI 6 x6 kvE))))))) → f_X3_deepest_17 n0 n1 K5 n v0 v1 x2 x3 x4 x5 x6 = some res → W p l e (headSpec wsX3_deepest (kRm 1 0 0 40)).room s m ([.ref q0, .ref q1, .int p2] : List Value).toArray below meth c H locs 0 0 (MQ below (kI (dC, dI) .int (res) ([(q0, .inl (cJ, n0, .inr (.inl v0)))] ++ [(q1, .inl (cJ, n1, .inr (.inl v1)))]) A) ([.ref q0, .ref q1, .int p2] : List Value).toArray s 0 0 A) (F0 m 17 ls []) := by
    intro K5 hK5 n
    induction n with
    | zero =>
      intro v0 v1 x2 x3 x4 x5 x6 H locs hP hD hS ls hl h
      have h := f_X3_deepest_17_0.symm.trans h
      cases h
    | succ n ih =>
      intro v0 v1 x2 x3 x4 x5 x6 H locs hP hD hS ls hl h
      have h := f_X3_deepest_17_s.symm.trans h
      refine lv_iload hx hb (kdr dgX3_deepest_0 1 1 rfl rfl) (lv_at hl 6 rfl) ?_
      refine lv_iload_n hx hb (kdr dgX3_deepest_0 1 2 rfl rfl) rfl (lv_at hl 2 rfl) ?_
      refine lv_icmp_ge (tgt := 63) hx hb (kdr dgX3_deepest_0 1 3 rfl rfl) (by decide) (fun c1 => ?_) (fun c1 => ?_)
      · have h := g_t c1 h
        refine lv_iload_n hx hb (kdr dgX3_deepest_0 3 8 rfl rfl) rfl (lv_at hl 3 rfl) ?_
        refine lv_iload hx hb (kdr dgX3_deepest_0 3 9 rfl rfl) (lv_at hl 5 rfl) ?_
        refine va_mmax hx hb (hml.trans hl.1.symm) hown hw0 hw1 hw2 hw3 (Nat.le_of_ble_eq_true rfl) (Nat.le_of_ble_eq_true rfl) (Nat.le_of_ble_eq_true rfl) (Nat.le_of_ble_eq_true rfl) (kdr dgX3_deepest_0 4 0 rfl rfl) ?_
        refine lv_istore_n (lv' := (kvI 3 (if x3 < x5 then x5 else x3) (kvA 0 q0 (kvA 1 q1 (kvI 2 x2 (kvI 4 x4 (kvI 5 x5 (kvI 6 x6 kvE)))))))) hx hb (kdr dgX3_deepest_0 4 1 rfl rfl) rfl hl (by decide) rfl (fun ls hl => ?_)
        refine lv_iinc (v := x4 + 1) (lv' := (kvI 4 (x4 + 1) (kvI 3 (if x3 < x5 then x5 else x3) (kvA 0 q0 (kvA 1 q1 (kvI 2 x2 (kvI 5 x5 (kvI 6 x6 kvE)))))))) hx hb (kdr dgX3_deepest_0 4 2 rfl rfl) hl (k := 4) rfl rfl (by decide) rfl (fun ls hl => ?_)
        refine lv_goto (tgt := 5) hx hb (kdr dgX3_deepest_0 4 3 rfl rfl) (by decide) ?_
        exact hK5 v0 v1 x2 (if x3 < x5 then x5 else x3) (x4 + 1) _ _ hP hD hS ls (lv_sub hl [2, 3, 4, 1, 0] rfl) h
      · have h := g_f c1 h
        refine lv_iload hx hb (kdr dgX3_deepest_0 1 4 rfl rfl) (lv_at hl 5 rfl) ?_
        refine lv_aload_n hx hb (kdr dgX3_deepest_0 1 5 rfl rfl) rfl (lv_at hl 0 rfl) ?_
        refine lv_iload hx hb (kdr dgX3_deepest_0 1 6 rfl rfl) (lv_at hl 6 rfl) ?_
        obtain ⟨z1, h⟩ := g_if h
        refine va_lald hx hb hK hP 0 2 rfl rfl (ix_in z1) (kdr dgX3_deepest_0 1 7 rfl rfl) ?_
        refine lv_aload_n hx hb (kdr dgX3_deepest_0 1 8 rfl rfl) rfl (lv_at hl 0 rfl) ?_
        refine lv_iload hx hb (kdr dgX3_deepest_0 1 9 rfl rfl) (lv_at hl 4 rfl) ?_
        obtain ⟨z2, h⟩ := g_if h
        refine va_lald hx hb hK hP 0 2 rfl rfl (ix_in z2) (kdr dgX3_deepest_0 2 0 rfl rfl) ?_
        refine kl_gt (pc := 33) (tgt := 53) hx hb (kdr dgX3_deepest_0 2 1 rfl rfl) (kdr dgX3_deepest_0 2 2 rfl rfl) (by decide) (fun c4 => ?_) (fun c4 => ?_)
        · have h := g_t c4 h
          refine lv_iconst (v := 0) hx hb (kdr dgX3_deepest_0 3 3 rfl rfl) (by decide) ?_
          refine lv_iadd hx hb (kdr dgX3_deepest_0 3 4 rfl rfl) ?_
          refine lv_istore (lv' := (kvI 5 (x5 + 0) (kvA 0 q0 (kvA 1 q1 (kvI 2 x2 (kvI 3 x3 (kvI 4 x4 (kvI 6 x6 kvE)))))))) hx hb (kdr dgX3_deepest_0 3 5 rfl rfl) hl (by decide) rfl (fun ls hl => ?_)
          refine lv_iinc (v := x6 + 1) (lv' := (kvI 6 (x6 + 1) (kvI 5 (x5 + 0) (kvA 0 q0 (kvA 1 q1 (kvI 2 x2 (kvI 3 x3 (kvI 4 x4 kvE)))))))) hx hb (kdr dgX3_deepest_0 3 6 rfl rfl) hl (k := 6) rfl rfl (by decide) rfl (fun ls hl => ?_)
          refine lv_goto (tgt := 17) hx hb (kdr dgX3_deepest_0 3 7 rfl rfl) (by decide) ?_
          exact ih v0 v1 x2 x3 x4 (x5 + 0) (x6 + 1) _ _ hP hD hS ls (lv_sub hl [2, 3, 4, 5, 6, 1, 0] rfl) h
        · have h := g_f c4 h
          refine lv_aload_n hx hb (kdr dgX3_deepest_0 2 3 rfl rfl) rfl (lv_at hl 0 rfl) ?_
          refine lv_iload hx hb (kdr dgX3_deepest_0 2 4 rfl rfl) (lv_at hl 4 rfl) ?_
          refine va_lald hx hb hK hP 0 2 rfl rfl (ix_in z2) (kdr dgX3_deepest_0 2 5 rfl rfl) ?_
          refine lv_aload_n hx hb (kdr dgX3_deepest_0 2 6 rfl rfl) rfl (lv_at hl 1 rfl) ?_
          refine lv_iload hx hb (kdr dgX3_deepest_0 2 7 rfl rfl) (lv_at hl 6 rfl) ?_
          obtain ⟨z4, h⟩ := g_if h
          refine va_lald hx hb hK hP 1 2 rfl rfl (ix_in z4) (kdr dgX3_deepest_0 2 8 rfl rfl) ?_
          refine kl_ge (pc := 45) (tgt := 53) hx hb (kdr dgX3_deepest_0 2 9 rfl rfl) (kdr dgX3_deepest_0 3 0 rfl rfl) (by decide) (fun c6 => ?_) (fun c6 => ?_)
          · have h := g_t c6 h
            refine lv_iconst (v := 0) hx hb (kdr dgX3_deepest_0 3 3 rfl rfl) (by decide) ?_
            refine lv_iadd hx hb (kdr dgX3_deepest_0 3 4 rfl rfl) ?_
            refine lv_istore (lv' := (kvI 5 (x5 + 0) (kvA 0 q0 (kvA 1 q1 (kvI 2 x2 (kvI 3 x3 (kvI 4 x4 (kvI 6 x6 kvE)))))))) hx hb (kdr dgX3_deepest_0 3 5 rfl rfl) hl (by decide) rfl (fun ls hl => ?_)
            refine lv_iinc (v := x6 + 1) (lv' := (kvI 6 (x6 + 1) (kvI 5 (x5 + 0) (kvA 0 q0 (kvA 1 q1 (kvI 2 x2 (kvI 3 x3 (kvI 4 x4 kvE)))))))) hx hb (kdr dgX3_deepest_0 3 6 rfl rfl) hl (k := 6) rfl rfl (by decide) rfl (fun ls hl => ?_)
            refine lv_goto (tgt := 17) hx hb (kdr dgX3_deepest_0 3 7 rfl rfl) (by decide) ?_
            exact ih v0 v1 x2 x3 x4 (x5 + 0) (x6 + 1) _ _ hP hD hS ls (lv_sub hl [2, 3, 4, 5, 6, 1, 0] rfl) h
          · have h := g_f c6 h
            refine lv_iconst (v := 1) hx hb (kdr dgX3_deepest_0 3 1 rfl rfl) (by decide) ?_
            refine lv_goto (tgt := 54) hx hb (kdr dgX3_deepest_0 3 2 rfl rfl) (by decide) ?_
            refine lv_iadd hx hb (kdr dgX3_deepest_0 3 4 rfl rfl) ?_
            refine lv_istore (lv' := (kvI 5 (x5 + 1) (kvA 0 q0 (kvA 1 q1 (kvI 2 x2 (kvI 3 x3 (kvI 4 x4 (kvI 6 x6 kvE)))))))) hx hb (kdr dgX3_deepest_0 3 5 rfl rfl) hl (by decide) rfl (fun ls hl => ?_)
            refine lv_iinc (v := x6 + 1) (lv' := (kvI 6 (x6 + 1) (kvI 5 (x5 + 1) (kvA 0 q0 (kvA 1 q1 (kvI 2 x2 (kvI 3 x3 (kvI 4 x4 kvE)))))))) hx hb (kdr dgX3_deepest_0 3 6 rfl rfl) hl (k := 6) rfl rfl (by decide) rfl (fun ls hl => ?_)
            refine lv_goto (tgt := 17) hx hb (kdr dgX3_deepest_0 3 7 rfl rfl) (by decide) ?_
            exact ih v0 v1 x2 x3 x4 (x5 + 1) (x6 + 1) _ _ hP hD hS ls (lv_sub hl [2, 3, 4, 5, 6, 1, 0] rfl) h
  have J5 : ∀ (n : Nat), ∀ (v0 : Nat → Int64) (v1 : Nat → Int64) (x2 : Int32) (x3 : Int32) (x4 : Int32) (H : Heap) (locs : List Loc), va_P (dC, dI) vwCl ([(q0, .inl (cJ, n0, .inr (.inl v0)))] ++ [(q1, .inl (cJ, n1, .inr (.inl v1)))]) H → va_D A ([(q0, .inl (cJ, n0, .inr (.inl v0)))] ++ [(q1, .inl (cJ, n1, .inr (.inl v1)))]) → va_S A s.heap H locs → ∀ (ls : Array Slot), lv_has ls 7 (kvA 0 q0 (kvA 1 q1 (kvI 2 x2 (kvI 3 x3 (kvI 4 x4 kvE))))) → f_X3_deepest_5 n0 n1 n v0 v1 x2 x3 x4 = some res → W p l e (headSpec wsX3_deepest (kRm 1 0 0 40)).room s m ([.ref q0, .ref q1, .int p2] : List Value).toArray below meth c H locs 0 0 (MQ below (kI (dC, dI) .int (res) ([(q0, .inl (cJ, n0, .inr (.inl v0)))] ++ [(q1, .inl (cJ, n1, .inr (.inl v1)))]) A) ([.ref q0, .ref q1, .int p2] : List Value).toArray s 0 0 A) (F0 m 5 ls []) := by
    intro n
    induction n with
    | zero =>
      intro v0 v1 x2 x3 x4 H locs hP hD hS ls hl h
      have h := f_X3_deepest_5_0.symm.trans h
      cases h
    | succ n ih =>
      intro v0 v1 x2 x3 x4 H locs hP hD hS ls hl h
      have h := f_X3_deepest_5_s.symm.trans h
      refine lv_iload hx hb (kdr dgX3_deepest_0 0 4 rfl rfl) (lv_at hl 4 rfl) ?_
      refine lv_iload_n hx hb (kdr dgX3_deepest_0 0 5 rfl rfl) rfl (lv_at hl 2 rfl) ?_
      refine lv_icmp_ge (tgt := 76) hx hb (kdr dgX3_deepest_0 0 6 rfl rfl) (by decide) (fun c1 => ?_) (fun c1 => ?_)
      · have h := g_t c1 h
        refine lv_iload_n hx hb (kdr dgX3_deepest_0 4 4 rfl rfl) rfl (lv_at hl 3 rfl) ?_
        have h := Option.some.inj h
        subst h
        exact kret_i (v := x3) hx hb hr rfl hlocks hS hP (kdr dgX3_deepest_0 4 5 rfl rfl)
      · have h := g_f c1 h
        refine lv_iconst (v := 0) hx hb (kdr dgX3_deepest_0 0 7 rfl rfl) (by decide) ?_
        refine lv_istore (lv' := (kvI 5 0 (kvA 0 q0 (kvA 1 q1 (kvI 2 x2 (kvI 3 x3 (kvI 4 x4 kvE))))))) hx hb (kdr dgX3_deepest_0 0 8 rfl rfl) hl (by decide) rfl (fun ls hl => ?_)
        refine lv_iconst (v := 0) hx hb (kdr dgX3_deepest_0 0 9 rfl rfl) (by decide) ?_
        refine lv_istore (lv' := (kvI 6 0 (kvI 5 0 (kvA 0 q0 (kvA 1 q1 (kvI 2 x2 (kvI 3 x3 (kvI 4 x4 kvE)))))))) hx hb (kdr dgX3_deepest_0 1 0 rfl rfl) hl (by decide) rfl (fun ls hl => ?_)
        exact J17 (f_X3_deepest_5 n0 n1 n) ih 24 v0 v1 x2 x3 x4 0 0 _ _ hP hD hS ls (lv_sub hl [2, 3, 4, 5, 6, 1, 0] rfl) h
  have h := f_X3_deepest_e.symm.trans hf
  refine lv_iconst (v := 0) hx hb (kdr dgX3_deepest_0 0 0 rfl rfl) (by decide) ?_
  refine lv_istore_n (lv' := (kvI 3 0 (kvA 0 q0 (kvA 1 q1 (kvI 2 p2 kvE))))) hx hb (kdr dgX3_deepest_0 0 1 rfl rfl) rfl hl (by decide) rfl (fun ls hl => ?_)
  refine lv_iconst (v := 0) hx hb (kdr dgX3_deepest_0 0 2 rfl rfl) (by decide) ?_
  refine lv_istore (lv' := (kvI 4 0 (kvI 3 0 (kvA 0 q0 (kvA 1 q1 (kvI 2 p2 kvE)))))) hx hb (kdr dgX3_deepest_0 0 3 rfl rfl) hl (by decide) rfl (fun ls hl => ?_)
  exact J5 24 v0 v1 p2 0 0 _ _ hP hD hS ls (lv_sub hl [2, 3, 4, 1, 0] rfl) h
noncomputable abbrev wsX3_fits : List Cond := kWs yX3_fits cX3_fits 5 (some .boolean)
noncomputable def f_X3_fits (mfr : Int64) (mun : Int64) (mbe : Nat → Int64) (men : Nat → Int64) (msp : Int32) (p0 : Int64) (p1 : Int64) : Option (Int32) :=
  (f_X3_isIn mfr mun p0 (p0 + p1)).bind fun r1 =>
  if r1 = 0 then
    some 0
  else
    (f_X3_meetsSome mbe men msp p0 (p0 + p1) (-1)).bind fun r3 =>
    if r3 = 0 then
      some 1
    else
      some 0
theorem f_X3_fits_e {mfr : Int64} {mun : Int64} {mbe : Nat → Int64} {men : Nat → Int64} {msp : Int32} {p0 : Int64} {p1 : Int64} : f_X3_fits mfr mun mbe men msp p0 p1 = 
  (f_X3_isIn mfr mun p0 (p0 + p1)).bind fun r1 =>
  if r1 = 0 then
    some 0
  else
    (f_X3_meetsSome mbe men msp p0 (p0 + p1) (-1)).bind fun r3 =>
    if r3 = 0 then
      some 1
    else
      some 0 := rfl
set_option maxHeartbeats 4000000 in
set_option maxRecDepth 100000 in
theorem c_X3_fits (l : Launch) (dC : Nat → ClassId) (dI : Nat → Nat → Nat) (cB cI cJ cZ : ClassId) (b : Nat → Nat) (sz : Nat) (mce : Nat → Int64) (mfr : Int64) (mun : Int64) (mbe : Nat → Int64) (men : Nat → Int64) (mov : Nat → Int32) (msp : Int32) (mwb : Nat → Int64) (mwe : Nat → Int64) (mwi : Int32) (mac : Int32) (mre : Int32) (mkn : Int32) (mth : Int32) (p0 : Int64) (p1 : Int64) (res : Int32) (hf : f_X3_fits mfr mun mbe men msp p0 p1 = some res) : kMi l yX3_fits wsX3_fits (kRm 2 0 0 53) dC dI cB cI cJ cZ [.ref (b 0), .long p0, .long p1] sz (wMo cJ cZ b mce mfr mun mbe men mov msp mwb mwe mwi mac mre mkn mth) .boolean (res) (wMo cJ cZ b mce mfr mun mbe men mov msp mwb mwe mwi mac mre mkn mth) 0 0 := by
  refine kmet_i (y := yX3_fits) (cc := cX3_fits) (maxL := 5) (ret := (some .boolean)) RX3 (kvA 0 (b 0) (kvJ 1 p0 (kvJ 3 p1 kvE))) kpl_X3 rfl rfl (Nat.le_of_ble_eq_true rfl) rfl (fun p e s m below meth c A ls hx hb hr hml hts hown hlocks hP hK hG hD hA hS hl => ?_)
  have h := f_X3_fits_e.symm.trans hf
  refine lv_aload_n hx hb (kdr dgX3_fits_0 0 0 rfl rfl) rfl (lv_at hl 0 rfl) ?_
  refine lv_lload_n hx hb (kdr dgX3_fits_0 0 1 rfl rfl) rfl (lv_at hl 1 rfl) ?_
  refine lv_lload_n hx hb (kdr dgX3_fits_0 0 2 rfl rfl) rfl (lv_at hl 1 rfl) ?_
  refine lv_lload_n hx hb (kdr dgX3_fits_0 0 3 rfl rfl) rfl (lv_at hl 2 rfl) ?_
  refine lv_ladd hx hb (kdr dgX3_fits_0 0 4 rfl rfl) ?_
  obtain ⟨r1, g1, h⟩ := g_b h
  refine kq_i (wMo cJ cZ b mce mfr mun mbe men mov msp mwb mwe mwi mac mre mkn mth) (fun qP qD qF => va_runV (As := [.long p0, .long (p0 + p1)]) (rest := []) ⟨hx, hb, hml, hown, hts⟩ (c_X3_isIn l dC dI cB cI cJ cZ b _ mce mfr mun mbe men mov msp mwb mwe mwi mac mre mkn mth p0 (p0 + p1) r1 g1) (kcwV hts kw_1204 kv_X3_isIn rfl rfl ⟨(Nat.le_of_ble_eq_true rfl), (Nat.le_of_ble_eq_true rfl)⟩) (kpV (A := A) qP hK qD hG (krecv_5 (q0 := 0) hK hP rfl)) rfl rfl hl.1 rfl (lv_room (Nat.le_of_ble_eq_true rfl)) (kdr dgX3_fits_0 0 5 rfl rfl) ⟨(Nat.le_of_ble_eq_true rfl), (Nat.le_of_ble_eq_true rfl)⟩) hP hD hS hA kFr_Mo (fun H locs hP hD hS br1 => ?_)
  refine lv_if_eq (tgt := 27) hx hb (kdr dgX3_fits_0 0 6 rfl rfl) (by decide) (fun c2 => ?_) (fun c2 => ?_)
  · have h := g_t c2 h
    refine lv_iconst (v := 0) hx hb (kdr dgX3_fits_0 1 7 rfl rfl) (by decide) ?_
    have h := Option.some.inj h
    subst h
    exact kret_i (v := 0) hx hb hr rfl hlocks hS hP (kdr dgX3_fits_0 1 8 rfl rfl)
  · have h := g_f c2 h
    refine lv_aload_n hx hb (kdr dgX3_fits_0 0 7 rfl rfl) rfl (lv_at hl 0 rfl) ?_
    refine lv_lload_n hx hb (kdr dgX3_fits_0 0 8 rfl rfl) rfl (lv_at hl 1 rfl) ?_
    refine lv_lload_n hx hb (kdr dgX3_fits_0 0 9 rfl rfl) rfl (lv_at hl 1 rfl) ?_
    refine lv_lload_n hx hb (kdr dgX3_fits_0 1 0 rfl rfl) rfl (lv_at hl 2 rfl) ?_
    refine lv_ladd hx hb (kdr dgX3_fits_0 1 1 rfl rfl) ?_
    refine lv_iconst (v := (-1)) hx hb (kdr dgX3_fits_0 1 2 rfl rfl) (by decide) ?_
    obtain ⟨r3, g3, h⟩ := g_b h
    refine kq_i (wMo cJ cZ b mce mfr mun mbe men mov msp mwb mwe mwi mac mre mkn mth) (fun qP qD qF => va_runV (As := [.long p0, .long (p0 + p1), .int (-1)]) (rest := []) ⟨hx, hb, hml, hown, hts⟩ (c_X3_meetsSome l dC dI cB cI cJ cZ b _ mce mfr mun mbe men mov msp mwb mwe mwi mac mre mkn mth p0 (p0 + p1) (-1) r3 g3) (kcwV hts kw_1208 kv_X3_meetsSome rfl rfl ⟨(Nat.le_of_ble_eq_true rfl), (Nat.le_of_ble_eq_true rfl)⟩) (kpV (A := A) qP hK qD hG (krecv_5 (q0 := 0) hK hP rfl)) rfl rfl hl.1 rfl (lv_room (Nat.le_of_ble_eq_true rfl)) (kdr dgX3_fits_0 1 3 rfl rfl) ⟨(Nat.le_of_ble_eq_true rfl), (Nat.le_of_ble_eq_true rfl)⟩) hP hD hS hA kFr_Mo (fun H locs hP hD hS br3 => ?_)
    refine lv_if_ne (tgt := 27) hx hb (kdr dgX3_fits_0 1 4 rfl rfl) (by decide) (fun c4 => ?_) (fun c4 => ?_)
    · have h := g_f c4 h
      refine lv_iconst (v := 0) hx hb (kdr dgX3_fits_0 1 7 rfl rfl) (by decide) ?_
      have h := Option.some.inj h
      subst h
      exact kret_i (v := 0) hx hb hr rfl hlocks hS hP (kdr dgX3_fits_0 1 8 rfl rfl)
    · have h := g_t c4 h
      refine lv_iconst (v := 1) hx hb (kdr dgX3_fits_0 1 5 rfl rfl) (by decide) ?_
      refine lv_goto (tgt := 28) hx hb (kdr dgX3_fits_0 1 6 rfl rfl) (by decide) ?_
      have h := Option.some.inj h
      subst h
      exact kret_i (v := 1) hx hb hr rfl hlocks hS hP (kdr dgX3_fits_0 1 8 rfl rfl)
noncomputable abbrev wsX3_wishesMeet : List Cond := kWs yX3_wishesMeet cX3_wishesMeet 3 (some .boolean)
noncomputable def f_X3_wishesMeet (mwb : Nat → Int64) (mwe : Nat → Int64) (p0 : Int32) (p1 : Int32) : Option (Int32) :=
  if ix p0 8 then
    if ix p1 8 then
      (f_X3_meet (mwb p0.toNatClampNeg) (mwe p0.toNatClampNeg) (mwb p1.toNatClampNeg) (mwe p1.toNatClampNeg)).bind fun r3 =>
      some r3
    else none
  else none
theorem f_X3_wishesMeet_e {mwb : Nat → Int64} {mwe : Nat → Int64} {p0 : Int32} {p1 : Int32} : f_X3_wishesMeet mwb mwe p0 p1 = 
  if ix p0 8 then
    if ix p1 8 then
      (f_X3_meet (mwb p0.toNatClampNeg) (mwe p0.toNatClampNeg) (mwb p1.toNatClampNeg) (mwe p1.toNatClampNeg)).bind fun r3 =>
      some r3
    else none
  else none := rfl
set_option maxHeartbeats 4000000 in
set_option maxRecDepth 100000 in
theorem c_X3_wishesMeet (l : Launch) (dC : Nat → ClassId) (dI : Nat → Nat → Nat) (cB cI cJ cZ : ClassId) (b : Nat → Nat) (sz : Nat) (mce : Nat → Int64) (mfr : Int64) (mun : Int64) (mbe : Nat → Int64) (men : Nat → Int64) (mov : Nat → Int32) (msp : Int32) (mwb : Nat → Int64) (mwe : Nat → Int64) (mwi : Int32) (mac : Int32) (mre : Int32) (mkn : Int32) (mth : Int32) (p0 : Int32) (p1 : Int32) (res : Int32) (hf : f_X3_wishesMeet mwb mwe p0 p1 = some res) : kMi l yX3_wishesMeet wsX3_wishesMeet (kRm 1 0 0 27) dC dI cB cI cJ cZ [.ref (b 0), .int p0, .int p1] sz (wMo cJ cZ b mce mfr mun mbe men mov msp mwb mwe mwi mac mre mkn mth) .boolean (res) (wMo cJ cZ b mce mfr mun mbe men mov msp mwb mwe mwi mac mre mkn mth) 0 0 := by
  refine kmet_i (y := yX3_wishesMeet) (cc := cX3_wishesMeet) (maxL := 3) (ret := (some .boolean)) RX3 (kvA 0 (b 0) (kvI 1 p0 (kvI 2 p1 kvE))) kpl_X3 rfl rfl (Nat.le_of_ble_eq_true rfl) rfl (fun p e s m below meth c A ls hx hb hr hml hts hown hlocks hP hK hG hD hA hS hl => ?_)
  have hw0 := hts (.fieldLink RX3 29 "SpanbookerModel" "wishBegins" "[J") (List.mem_cons_of_mem _ kw_1079)
  have hw1 := hts (.fieldLink RX3 32 "SpanbookerModel" "wishEnds" "[J") (List.mem_cons_of_mem _ kw_1080)
  have hiX3 : ∀ w ∈ u_ws RX3 TX3 14, w ∈ wsX3_wishesMeet := fun w h => List.mem_cons_of_mem _ (ku_X3 w h)
  have h := f_X3_wishesMeet_e.symm.trans hf
  refine lv_aload_n hx hb (kdr dgX3_wishesMeet_0 0 0 rfl rfl) rfl (lv_at hl 0 rfl) ?_
  refine va_get (D := (dC, dI)) (ci := 5) (v := .ref (b 5)) (C := RX3) (T := TX3) (N := 14) hx hb hts hiX3 hown hK hP 0 rfl rfl 7 (by decide) hw0 (fun _ h9 => h9) rfl (kdr dgX3_wishesMeet_0 0 1 rfl rfl) ?_
  refine lv_iload_n hx hb (kdr dgX3_wishesMeet_0 0 2 rfl rfl) rfl (lv_at hl 1 rfl) ?_
  obtain ⟨z0, h⟩ := g_if h
  refine va_lald hx hb hK hP 5 2 rfl rfl (ix_in z0) (kdr dgX3_wishesMeet_0 0 3 rfl rfl) ?_
  refine lv_aload_n hx hb (kdr dgX3_wishesMeet_0 0 4 rfl rfl) rfl (lv_at hl 0 rfl) ?_
  refine va_get (D := (dC, dI)) (ci := 5) (v := .ref (b 6)) (C := RX3) (T := TX3) (N := 14) hx hb hts hiX3 hown hK hP 0 rfl rfl 8 (by decide) hw1 (fun _ h9 => h9) rfl (kdr dgX3_wishesMeet_0 0 5 rfl rfl) ?_
  refine lv_iload_n hx hb (kdr dgX3_wishesMeet_0 0 6 rfl rfl) rfl (lv_at hl 1 rfl) ?_
  refine va_lald hx hb hK hP 6 2 rfl rfl (ix_in z0) (kdr dgX3_wishesMeet_0 0 7 rfl rfl) ?_
  refine lv_aload_n hx hb (kdr dgX3_wishesMeet_0 0 8 rfl rfl) rfl (lv_at hl 0 rfl) ?_
  refine va_get (D := (dC, dI)) (ci := 5) (v := .ref (b 5)) (C := RX3) (T := TX3) (N := 14) hx hb hts hiX3 hown hK hP 0 rfl rfl 7 (by decide) hw0 (fun _ h9 => h9) rfl (kdr dgX3_wishesMeet_0 0 9 rfl rfl) ?_
  refine lv_iload_n hx hb (kdr dgX3_wishesMeet_0 1 0 rfl rfl) rfl (lv_at hl 2 rfl) ?_
  obtain ⟨z1, h⟩ := g_if h
  refine va_lald hx hb hK hP 5 2 rfl rfl (ix_in z1) (kdr dgX3_wishesMeet_0 1 1 rfl rfl) ?_
  refine lv_aload_n hx hb (kdr dgX3_wishesMeet_0 1 2 rfl rfl) rfl (lv_at hl 0 rfl) ?_
  refine va_get (D := (dC, dI)) (ci := 5) (v := .ref (b 6)) (C := RX3) (T := TX3) (N := 14) hx hb hts hiX3 hown hK hP 0 rfl rfl 8 (by decide) hw1 (fun _ h9 => h9) rfl (kdr dgX3_wishesMeet_0 1 3 rfl rfl) ?_
  refine lv_iload_n hx hb (kdr dgX3_wishesMeet_0 1 4 rfl rfl) rfl (lv_at hl 2 rfl) ?_
  refine va_lald hx hb hK hP 6 2 rfl rfl (ix_in z1) (kdr dgX3_wishesMeet_0 1 5 rfl rfl) ?_
  obtain ⟨r3, g3, h⟩ := g_b h
  refine kq_i (wMo cJ cZ b mce mfr mun mbe men mov msp mwb mwe mwi mac mre mkn mth) (fun qP qD qF => va_runS (As := [.long (mwb p0.toNatClampNeg), .long (mwe p0.toNatClampNeg), .long (mwb p1.toNatClampNeg), .long (mwe p1.toNatClampNeg)]) (rest := []) ⟨hx, hb, hml, hown, hts⟩ (c_X3_meet l dC dI cB cI cJ cZ  _  (mwb p0.toNatClampNeg) (mwe p0.toNatClampNeg) (mwb p1.toNatClampNeg) (mwe p1.toNatClampNeg) r3 g3) (kcwS hts kw_1212 kv_X3_meet rfl rfl ⟨(Nat.le_of_ble_eq_true rfl), (Nat.le_of_ble_eq_true rfl)⟩) (kpS (A := A) (kPnil) hK ((kDnil (A := A))) hG) rfl rfl hl.1 rfl (lv_room (Nat.le_of_ble_eq_true rfl)) (kdr dgX3_wishesMeet_0 1 6 rfl rfl) ⟨(Nat.le_of_ble_eq_true rfl), (Nat.le_of_ble_eq_true rfl)⟩) hP hD hS hA kFr_n (fun H locs hP hD hS br3 => ?_)
  have h := Option.some.inj h
  subst h
  exact kret_i (v := r3) hx hb hr br3 hlocks hS hP (kdr dgX3_wishesMeet_0 1 7 rfl rfl)
noncomputable abbrev wsX3_areApart : List Cond := kWs yX3_areApart cX3_areApart 4 (some .boolean)
noncomputable def f_X3_areApart_12 (K2 : (Nat → Int64) → (Nat → Int64) → (Int32) → (Int32) → (Int32) → Option (Int32)) : Nat → (Nat → Int64) → (Nat → Int64) → (Int32) → (Int32) → (Int32) → (Int32) → Option (Int32)
  | 0, _, _, _, _, _, _ => none
  | n + 1, mwb, mwe, mwi, x1, x2, x3 =>
    if x2 ≤ x3 then
      K2 mwb mwe mwi x1 (x2 + 1)
    else
      if (((x1 >>> (x2 &&& 31)) &&& (x1 >>> (x3 &&& 31))) &&& 1) = 1 then
        (f_X3_wishesMeet mwb mwe x2 x3).bind fun r3 =>
        if r3 = 0 then
          f_X3_areApart_12 K2 n mwb mwe mwi x1 x2 (x3 + 1)
        else
          some 0
      else
        f_X3_areApart_12 K2 n mwb mwe mwi x1 x2 (x3 + 1)
theorem f_X3_areApart_12_0 {K2 : (Nat → Int64) → (Nat → Int64) → (Int32) → (Int32) → (Int32) → Option (Int32)} {mwb : Nat → Int64} {mwe : Nat → Int64} {mwi : Int32} {x1 : Int32} {x2 : Int32} {x3 : Int32} : f_X3_areApart_12 K2 0 mwb mwe mwi x1 x2 x3 = none := rfl
theorem f_X3_areApart_12_s {K2 : (Nat → Int64) → (Nat → Int64) → (Int32) → (Int32) → (Int32) → Option (Int32)} {n : Nat} {mwb : Nat → Int64} {mwe : Nat → Int64} {mwi : Int32} {x1 : Int32} {x2 : Int32} {x3 : Int32} : f_X3_areApart_12 K2 (n + 1) mwb mwe mwi x1 x2 x3 =
  if x2 ≤ x3 then
    K2 mwb mwe mwi x1 (x2 + 1)
  else
    if (((x1 >>> (x2 &&& 31)) &&& (x1 >>> (x3 &&& 31))) &&& 1) = 1 then
      (f_X3_wishesMeet mwb mwe x2 x3).bind fun r3 =>
      if r3 = 0 then
        f_X3_areApart_12 K2 n mwb mwe mwi x1 x2 (x3 + 1)
      else
        some 0
    else
      f_X3_areApart_12 K2 n mwb mwe mwi x1 x2 (x3 + 1) := rfl
noncomputable def f_X3_areApart_2 : Nat → (Nat → Int64) → (Nat → Int64) → (Int32) → (Int32) → (Int32) → Option (Int32)
  | 0, _, _, _, _, _ => none
  | n + 1, mwb, mwe, mwi, x1, x2 =>
    if mwi ≤ x2 then
      some 1
    else
      f_X3_areApart_12 (f_X3_areApart_2 n) 24 mwb mwe mwi x1 x2 0
theorem f_X3_areApart_2_0 {mwb : Nat → Int64} {mwe : Nat → Int64} {mwi : Int32} {x1 : Int32} {x2 : Int32} : f_X3_areApart_2 0 mwb mwe mwi x1 x2 = none := rfl
theorem f_X3_areApart_2_s {n : Nat} {mwb : Nat → Int64} {mwe : Nat → Int64} {mwi : Int32} {x1 : Int32} {x2 : Int32} : f_X3_areApart_2 (n + 1) mwb mwe mwi x1 x2 =
  if mwi ≤ x2 then
    some 1
  else
    f_X3_areApart_12 (f_X3_areApart_2 n) 24 mwb mwe mwi x1 x2 0 := rfl
noncomputable def f_X3_areApart (mwb : Nat → Int64) (mwe : Nat → Int64) (mwi : Int32) (p0 : Int32) : Option (Int32) :=
  f_X3_areApart_2 24 mwb mwe mwi p0 0
theorem f_X3_areApart_e {mwb : Nat → Int64} {mwe : Nat → Int64} {mwi : Int32} {p0 : Int32} : f_X3_areApart mwb mwe mwi p0 = 
  f_X3_areApart_2 24 mwb mwe mwi p0 0 := rfl
set_option maxHeartbeats 4000000 in
set_option maxRecDepth 100000 in
theorem c_X3_areApart (l : Launch) (dC : Nat → ClassId) (dI : Nat → Nat → Nat) (cB cI cJ cZ : ClassId) (b : Nat → Nat) (sz : Nat) (mce : Nat → Int64) (mfr : Int64) (mun : Int64) (mbe : Nat → Int64) (men : Nat → Int64) (mov : Nat → Int32) (msp : Int32) (mwb : Nat → Int64) (mwe : Nat → Int64) (mwi : Int32) (mac : Int32) (mre : Int32) (mkn : Int32) (mth : Int32) (p0 : Int32) (res : Int32) (hf : f_X3_areApart mwb mwe mwi p0 = some res) : kMi l yX3_areApart wsX3_areApart (kRm 2 0 0 49) dC dI cB cI cJ cZ [.ref (b 0), .int p0] sz (wMo cJ cZ b mce mfr mun mbe men mov msp mwb mwe mwi mac mre mkn mth) .boolean (res) (wMo cJ cZ b mce mfr mun mbe men mov msp mwb mwe mwi mac mre mkn mth) 0 0 := by
  refine kmet_i (y := yX3_areApart) (cc := cX3_areApart) (maxL := 4) (ret := (some .boolean)) RX3 (kvA 0 (b 0) (kvI 1 p0 kvE)) kpl_X3 rfl rfl (Nat.le_of_ble_eq_true rfl) rfl (fun p e s m below meth c A ls hx hb hr hml hts hown hlocks hP hK hG hD hA hS hl => ?_)
  have hw0 := hts (.fieldLink RX3 88 "SpanbookerModel" "wishes" "I") (List.mem_cons_of_mem _ kw_1081)
  have hiX3 : ∀ w ∈ u_ws RX3 TX3 14, w ∈ wsX3_areApart := fun w h => List.mem_cons_of_mem _ (ku_X3 w h)
  have J12 : ∀ (K2 : (Nat → Int64) → (Nat → Int64) → (Int32) → (Int32) → (Int32) → Option (Int32)), (∀ (mce : Nat → Int64) (mfr : Int64) (mun : Int64) (mbe : Nat → Int64) (men : Nat → Int64) (mov : Nat → Int32) (msp : Int32) (mwb : Nat → Int64) (mwe : Nat → Int64) (mwi : Int32) (mac : Int32) (mre : Int32) (mkn : Int32) (mth : Int32) (x1 : Int32) (x2 : Int32) (H : Heap) (locs : List Loc), va_P (dC, dI) vwCl (wMo cJ cZ b mce mfr mun mbe men mov msp mwb mwe mwi mac mre mkn mth) H → va_D A (wMo cJ cZ b mce mfr mun mbe men mov msp mwb mwe mwi mac mre mkn mth) → va_S A s.heap H locs → ∀ (ls : Array Slot), lv_has ls 4 (kvA 0 (b 0) (kvI 1 x1 (kvI 2 x2 kvE))) → K2 mwb mwe mwi x1 x2 = some res → W p l e (headSpec wsX3_areApart (kRm 2 0 0 49)).room s m ([.ref (b 0), .int p0] : List Value).toArray below meth c H locs 0 0 (MQ below (kI (dC, dI) .boolean (res) (wMo cJ cZ b mce mfr mun mbe men mov msp mwb mwe mwi mac mre mkn mth) A) ([.ref (b 0), .int p0] : List Value).toArray s 0 0 A) (F0 m 2 ls [])) → ∀ (n : Nat), ∀ (mce : Nat → Int64) (mfr : Int64) (mun : Int64) (mbe : Nat → Int64) (men : Nat → Int64) (mov : Nat → Int32) (msp : Int32) (mwb : Nat → Int64) (mwe : Nat → Int64) (mwi : Int32) (mac : Int32) (mre : Int32) (mkn : Int32) (mth : Int32) (x1 : Int32) (x2 : Int32) (x3 : Int32) (H : Heap) (locs : List Loc), va_P (dC, dI) vwCl (wMo cJ cZ b mce mfr mun mbe men mov msp mwb mwe mwi mac mre mkn mth) H → va_D A (wMo cJ cZ b mce mfr mun mbe men mov msp mwb mwe mwi mac mre mkn mth) → va_S A s.heap H locs → ∀ (ls : Array Slot), lv_has ls 4 (kvA 0 (b 0) (kvI 1 x1 (kvI 2 x2 (kvI 3 x3 kvE)))) → f_X3_areApart_12 K2 n mwb mwe mwi x1 x2 x3 = some res → W p l e (headSpec wsX3_areApart (kRm 2 0 0 49)).room s m ([.ref (b 0), .int p0] : List Value).toArray below meth c H locs 0 0 (MQ below (kI (dC, dI) .boolean (res) (wMo cJ cZ b mce mfr mun mbe men mov msp mwb mwe mwi mac mre mkn mth) A) ([.ref (b 0), .int p0] : List Value).toArray s 0 0 A) (F0 m 12 ls []) := by
    intro K2 hK2 n
    induction n with
    | zero =>
      intro mce mfr mun mbe men mov msp mwb mwe mwi mac mre mkn mth x1 x2 x3 H locs hP hD hS ls hl h
      have h := f_X3_areApart_12_0.symm.trans h
      cases h
    | succ n ih =>
      intro mce mfr mun mbe men mov msp mwb mwe mwi mac mre mkn mth x1 x2 x3 H locs hP hD hS ls hl h
      have h := f_X3_areApart_12_s.symm.trans h
      refine lv_iload_n hx hb (kdr dgX3_areApart_0 0 8 rfl rfl) rfl (lv_at hl 3 rfl) ?_
      refine lv_iload_n hx hb (kdr dgX3_areApart_0 0 9 rfl rfl) rfl (lv_at hl 2 rfl) ?_
      refine lv_icmp_ge (tgt := 47) hx hb (kdr dgX3_areApart_0 1 0 rfl rfl) (by decide) (fun c1 => ?_) (fun c1 => ?_)
      · have h := g_t c1 h
        refine lv_iinc (v := x2 + 1) (lv' := (kvI 2 (x2 + 1) (kvA 0 (b 0) (kvI 1 x1 (kvI 3 x3 kvE))))) hx hb (kdr dgX3_areApart_0 3 1 rfl rfl) hl (k := 2) rfl rfl (by decide) rfl (fun ls hl => ?_)
        refine lv_goto (tgt := 2) hx hb (kdr dgX3_areApart_0 3 2 rfl rfl) (by decide) ?_
        exact hK2 mce mfr mun mbe men mov msp mwb mwe mwi mac mre mkn mth x1 (x2 + 1) _ _ hP hD hS ls (lv_sub hl [1, 2, 0] rfl) h
      · have h := g_f c1 h
        refine lv_iload_n hx hb (kdr dgX3_areApart_0 1 1 rfl rfl) rfl (lv_at hl 1 rfl) ?_
        refine lv_iload_n hx hb (kdr dgX3_areApart_0 1 2 rfl rfl) rfl (lv_at hl 2 rfl) ?_
        refine lv_ishr hx hb (kdr dgX3_areApart_0 1 3 rfl rfl) ?_
        refine lv_iload_n hx hb (kdr dgX3_areApart_0 1 4 rfl rfl) rfl (lv_at hl 1 rfl) ?_
        refine lv_iload_n hx hb (kdr dgX3_areApart_0 1 5 rfl rfl) rfl (lv_at hl 3 rfl) ?_
        refine lv_ishr hx hb (kdr dgX3_areApart_0 1 6 rfl rfl) ?_
        refine lv_iand hx hb (kdr dgX3_areApart_0 1 7 rfl rfl) ?_
        refine lv_iconst (v := 1) hx hb (kdr dgX3_areApart_0 1 8 rfl rfl) (by decide) ?_
        refine lv_iand hx hb (kdr dgX3_areApart_0 1 9 rfl rfl) ?_
        refine lv_iconst (v := 1) hx hb (kdr dgX3_areApart_0 2 0 rfl rfl) (by decide) ?_
        refine lv_icmp_ne (tgt := 41) hx hb (kdr dgX3_areApart_0 2 1 rfl rfl) (by decide) (fun c2 => ?_) (fun c2 => ?_)
        · have h := g_f c2 h
          refine lv_iinc (v := x3 + 1) (lv' := (kvI 3 (x3 + 1) (kvA 0 (b 0) (kvI 1 x1 (kvI 2 x2 kvE))))) hx hb (kdr dgX3_areApart_0 2 9 rfl rfl) hl (k := 3) rfl rfl (by decide) rfl (fun ls hl => ?_)
          refine lv_goto (tgt := 12) hx hb (kdr dgX3_areApart_0 3 0 rfl rfl) (by decide) ?_
          exact ih mce mfr mun mbe men mov msp mwb mwe mwi mac mre mkn mth x1 x2 (x3 + 1) _ _ hP hD hS ls (lv_sub hl [1, 2, 3, 0] rfl) h
        · have h := g_t c2 h
          refine lv_aload_n hx hb (kdr dgX3_areApart_0 2 2 rfl rfl) rfl (lv_at hl 0 rfl) ?_
          refine lv_iload_n hx hb (kdr dgX3_areApart_0 2 3 rfl rfl) rfl (lv_at hl 2 rfl) ?_
          refine lv_iload_n hx hb (kdr dgX3_areApart_0 2 4 rfl rfl) rfl (lv_at hl 3 rfl) ?_
          obtain ⟨r3, g3, h⟩ := g_b h
          refine kq_i (wMo cJ cZ b mce mfr mun mbe men mov msp mwb mwe mwi mac mre mkn mth) (fun qP qD qF => va_runV (As := [.int x2, .int x3]) (rest := []) ⟨hx, hb, hml, hown, hts⟩ (c_X3_wishesMeet l dC dI cB cI cJ cZ b _ mce mfr mun mbe men mov msp mwb mwe mwi mac mre mkn mth x2 x3 r3 g3) (kcwV hts kw_1407 kv_X3_wishesMeet rfl rfl ⟨(Nat.le_of_ble_eq_true rfl), (Nat.le_of_ble_eq_true rfl)⟩) (kpV (A := A) qP hK qD hG (krecv_5 (q0 := 0) hK hP rfl)) rfl rfl hl.1 rfl (lv_room (Nat.le_of_ble_eq_true rfl)) (kdr dgX3_areApart_0 2 5 rfl rfl) ⟨(Nat.le_of_ble_eq_true rfl), (Nat.le_of_ble_eq_true rfl)⟩) hP hD hS hA kFr_Mo (fun H locs hP hD hS br3 => ?_)
          refine lv_if_eq (tgt := 41) hx hb (kdr dgX3_areApart_0 2 6 rfl rfl) (by decide) (fun c4 => ?_) (fun c4 => ?_)
          · have h := g_t c4 h
            refine lv_iinc (v := x3 + 1) (lv' := (kvI 3 (x3 + 1) (kvA 0 (b 0) (kvI 1 x1 (kvI 2 x2 kvE))))) hx hb (kdr dgX3_areApart_0 2 9 rfl rfl) hl (k := 3) rfl rfl (by decide) rfl (fun ls hl => ?_)
            refine lv_goto (tgt := 12) hx hb (kdr dgX3_areApart_0 3 0 rfl rfl) (by decide) ?_
            exact ih mce mfr mun mbe men mov msp mwb mwe mwi mac mre mkn mth x1 x2 (x3 + 1) _ _ hP hD hS ls (lv_sub hl [1, 2, 3, 0] rfl) h
          · have h := g_f c4 h
            refine lv_iconst (v := 0) hx hb (kdr dgX3_areApart_0 2 7 rfl rfl) (by decide) ?_
            have h := Option.some.inj h
            subst h
            exact kret_i (v := 0) hx hb hr rfl hlocks hS hP (kdr dgX3_areApart_0 2 8 rfl rfl)
  have J2 : ∀ (n : Nat), ∀ (mce : Nat → Int64) (mfr : Int64) (mun : Int64) (mbe : Nat → Int64) (men : Nat → Int64) (mov : Nat → Int32) (msp : Int32) (mwb : Nat → Int64) (mwe : Nat → Int64) (mwi : Int32) (mac : Int32) (mre : Int32) (mkn : Int32) (mth : Int32) (x1 : Int32) (x2 : Int32) (H : Heap) (locs : List Loc), va_P (dC, dI) vwCl (wMo cJ cZ b mce mfr mun mbe men mov msp mwb mwe mwi mac mre mkn mth) H → va_D A (wMo cJ cZ b mce mfr mun mbe men mov msp mwb mwe mwi mac mre mkn mth) → va_S A s.heap H locs → ∀ (ls : Array Slot), lv_has ls 4 (kvA 0 (b 0) (kvI 1 x1 (kvI 2 x2 kvE))) → f_X3_areApart_2 n mwb mwe mwi x1 x2 = some res → W p l e (headSpec wsX3_areApart (kRm 2 0 0 49)).room s m ([.ref (b 0), .int p0] : List Value).toArray below meth c H locs 0 0 (MQ below (kI (dC, dI) .boolean (res) (wMo cJ cZ b mce mfr mun mbe men mov msp mwb mwe mwi mac mre mkn mth) A) ([.ref (b 0), .int p0] : List Value).toArray s 0 0 A) (F0 m 2 ls []) := by
    intro n
    induction n with
    | zero =>
      intro mce mfr mun mbe men mov msp mwb mwe mwi mac mre mkn mth x1 x2 H locs hP hD hS ls hl h
      have h := f_X3_areApart_2_0.symm.trans h
      cases h
    | succ n ih =>
      intro mce mfr mun mbe men mov msp mwb mwe mwi mac mre mkn mth x1 x2 H locs hP hD hS ls hl h
      have h := f_X3_areApart_2_s.symm.trans h
      refine lv_iload_n hx hb (kdr dgX3_areApart_0 0 2 rfl rfl) rfl (lv_at hl 2 rfl) ?_
      refine lv_aload_n hx hb (kdr dgX3_areApart_0 0 3 rfl rfl) rfl (lv_at hl 0 rfl) ?_
      refine va_get (D := (dC, dI)) (ci := 5) (v := .int mwi) (C := RX3) (T := TX3) (N := 14) hx hb hts hiX3 hown hK hP 0 rfl rfl 9 (by decide) hw0 (fun _ h9 => h9) rfl (kdr dgX3_areApart_0 0 4 rfl rfl) ?_
      refine lv_icmp_ge (tgt := 53) hx hb (kdr dgX3_areApart_0 0 5 rfl rfl) (by decide) (fun c1 => ?_) (fun c1 => ?_)
      · have h := g_t c1 h
        refine lv_iconst (v := 1) hx hb (kdr dgX3_areApart_0 3 3 rfl rfl) (by decide) ?_
        have h := Option.some.inj h
        subst h
        exact kret_i (v := 1) hx hb hr rfl hlocks hS hP (kdr dgX3_areApart_0 3 4 rfl rfl)
      · have h := g_f c1 h
        refine lv_iconst (v := 0) hx hb (kdr dgX3_areApart_0 0 6 rfl rfl) (by decide) ?_
        refine lv_istore_n (lv' := (kvI 3 0 (kvA 0 (b 0) (kvI 1 x1 (kvI 2 x2 kvE))))) hx hb (kdr dgX3_areApart_0 0 7 rfl rfl) rfl hl (by decide) rfl (fun ls hl => ?_)
        exact J12 (f_X3_areApart_2 n) ih 24 mce mfr mun mbe men mov msp mwb mwe mwi mac mre mkn mth x1 x2 0 _ _ hP hD hS ls (lv_sub hl [1, 2, 3, 0] rfl) h
  have h := f_X3_areApart_e.symm.trans hf
  refine lv_iconst (v := 0) hx hb (kdr dgX3_areApart_0 0 0 rfl rfl) (by decide) ?_
  refine lv_istore_n (lv' := (kvI 2 0 (kvA 0 (b 0) (kvI 1 p0 kvE)))) hx hb (kdr dgX3_areApart_0 0 1 rfl rfl) rfl hl (by decide) rfl (fun ls hl => ?_)
  exact J2 24 mce mfr mun mbe men mov msp mwb mwe mwi mac mre mkn mth p0 0 _ _ hP hD hS ls (lv_sub hl [1, 2, 0] rfl) h
noncomputable abbrev wsX3_chosenNow : List Cond := kWs yX3_chosenNow cX3_chosenNow 4 (some .int)
noncomputable def f_X3_chosenNow_6 (K2 : (Nat → Int64) → (Nat → Int64) → (Int32) → (Int32) → Option (Int32)) : Nat → (Nat → Int64) → (Nat → Int64) → (Int32) → (Int32) → (Int32) → (Int32) → Option (Int32)
  | 0, _, _, _, _, _, _ => none
  | n + 1, mwb, mwe, mwi, x1, x2, x3 =>
    if mwi ≤ x3 then
      if 0 ≤ x2 then
        K2 mwb mwe mwi (x1 ||| (1 <<< (x2 &&& 31)))
      else
        some x1
    else
      if ((x1 >>> (x3 &&& 31)) &&& 1) = 0 then
        (f_X3_areApart mwb mwe mwi (x1 ||| (1 <<< (x3 &&& 31)))).bind fun r3 =>
        if r3 = 0 then
          f_X3_chosenNow_6 K2 n mwb mwe mwi x1 x2 (x3 + 1)
        else
          if x2 < 0 then
            f_X3_chosenNow_6 K2 n mwb mwe mwi x1 x3 (x3 + 1)
          else
            if ix x3 8 then
              if ix x2 8 then
                if (mwe x2.toNatClampNeg) ≤ (mwe x3.toNatClampNeg) then
                  f_X3_chosenNow_6 K2 n mwb mwe mwi x1 x2 (x3 + 1)
                else
                  f_X3_chosenNow_6 K2 n mwb mwe mwi x1 x3 (x3 + 1)
              else none
            else none
      else
        f_X3_chosenNow_6 K2 n mwb mwe mwi x1 x2 (x3 + 1)
theorem f_X3_chosenNow_6_0 {K2 : (Nat → Int64) → (Nat → Int64) → (Int32) → (Int32) → Option (Int32)} {mwb : Nat → Int64} {mwe : Nat → Int64} {mwi : Int32} {x1 : Int32} {x2 : Int32} {x3 : Int32} : f_X3_chosenNow_6 K2 0 mwb mwe mwi x1 x2 x3 = none := rfl
theorem f_X3_chosenNow_6_s {K2 : (Nat → Int64) → (Nat → Int64) → (Int32) → (Int32) → Option (Int32)} {n : Nat} {mwb : Nat → Int64} {mwe : Nat → Int64} {mwi : Int32} {x1 : Int32} {x2 : Int32} {x3 : Int32} : f_X3_chosenNow_6 K2 (n + 1) mwb mwe mwi x1 x2 x3 =
  if mwi ≤ x3 then
    if 0 ≤ x2 then
      K2 mwb mwe mwi (x1 ||| (1 <<< (x2 &&& 31)))
    else
      some x1
  else
    if ((x1 >>> (x3 &&& 31)) &&& 1) = 0 then
      (f_X3_areApart mwb mwe mwi (x1 ||| (1 <<< (x3 &&& 31)))).bind fun r3 =>
      if r3 = 0 then
        f_X3_chosenNow_6 K2 n mwb mwe mwi x1 x2 (x3 + 1)
      else
        if x2 < 0 then
          f_X3_chosenNow_6 K2 n mwb mwe mwi x1 x3 (x3 + 1)
        else
          if ix x3 8 then
            if ix x2 8 then
              if (mwe x2.toNatClampNeg) ≤ (mwe x3.toNatClampNeg) then
                f_X3_chosenNow_6 K2 n mwb mwe mwi x1 x2 (x3 + 1)
              else
                f_X3_chosenNow_6 K2 n mwb mwe mwi x1 x3 (x3 + 1)
            else none
          else none
    else
      f_X3_chosenNow_6 K2 n mwb mwe mwi x1 x2 (x3 + 1) := rfl
noncomputable def f_X3_chosenNow_2 : Nat → (Nat → Int64) → (Nat → Int64) → (Int32) → (Int32) → Option (Int32)
  | 0, _, _, _, _ => none
  | n + 1, mwb, mwe, mwi, x1 =>
    f_X3_chosenNow_6 (f_X3_chosenNow_2 n) 24 mwb mwe mwi x1 (-1) 0
theorem f_X3_chosenNow_2_0 {mwb : Nat → Int64} {mwe : Nat → Int64} {mwi : Int32} {x1 : Int32} : f_X3_chosenNow_2 0 mwb mwe mwi x1 = none := rfl
theorem f_X3_chosenNow_2_s {n : Nat} {mwb : Nat → Int64} {mwe : Nat → Int64} {mwi : Int32} {x1 : Int32} : f_X3_chosenNow_2 (n + 1) mwb mwe mwi x1 =
  f_X3_chosenNow_6 (f_X3_chosenNow_2 n) 24 mwb mwe mwi x1 (-1) 0 := rfl
noncomputable def f_X3_chosenNow (mwb : Nat → Int64) (mwe : Nat → Int64) (mwi : Int32) : Option (Int32) :=
  f_X3_chosenNow_2 24 mwb mwe mwi 0
theorem f_X3_chosenNow_e {mwb : Nat → Int64} {mwe : Nat → Int64} {mwi : Int32} : f_X3_chosenNow mwb mwe mwi = 
  f_X3_chosenNow_2 24 mwb mwe mwi 0 := rfl
set_option maxHeartbeats 4000000 in
set_option maxRecDepth 100000 in
theorem c_X3_chosenNow (l : Launch) (dC : Nat → ClassId) (dI : Nat → Nat → Nat) (cB cI cJ cZ : ClassId) (b : Nat → Nat) (sz : Nat) (mce : Nat → Int64) (mfr : Int64) (mun : Int64) (mbe : Nat → Int64) (men : Nat → Int64) (mov : Nat → Int32) (msp : Int32) (mwb : Nat → Int64) (mwe : Nat → Int64) (mwi : Int32) (mac : Int32) (mre : Int32) (mkn : Int32) (mth : Int32) (res : Int32) (hf : f_X3_chosenNow mwb mwe mwi = some res) : kMi l yX3_chosenNow wsX3_chosenNow (kRm 3 0 0 72) dC dI cB cI cJ cZ [.ref (b 0)] sz (wMo cJ cZ b mce mfr mun mbe men mov msp mwb mwe mwi mac mre mkn mth) .int (res) (wMo cJ cZ b mce mfr mun mbe men mov msp mwb mwe mwi mac mre mkn mth) 0 0 := by
  refine kmet_i (y := yX3_chosenNow) (cc := cX3_chosenNow) (maxL := 4) (ret := (some .int)) RX3 (kvA 0 (b 0) kvE) kpl_X3 rfl rfl (Nat.le_of_ble_eq_true rfl) rfl (fun p e s m below meth c A ls hx hb hr hml hts hown hlocks hP hK hG hD hA hS hl => ?_)
  have hw0 := hts (.fieldLink RX3 88 "SpanbookerModel" "wishes" "I") (List.mem_cons_of_mem _ kw_1081)
  have hw1 := hts (.fieldLink RX3 32 "SpanbookerModel" "wishEnds" "[J") (List.mem_cons_of_mem _ kw_1080)
  have hiX3 : ∀ w ∈ u_ws RX3 TX3 14, w ∈ wsX3_chosenNow := fun w h => List.mem_cons_of_mem _ (ku_X3 w h)
  have J6 : ∀ (K2 : (Nat → Int64) → (Nat → Int64) → (Int32) → (Int32) → Option (Int32)), (∀ (mce : Nat → Int64) (mfr : Int64) (mun : Int64) (mbe : Nat → Int64) (men : Nat → Int64) (mov : Nat → Int32) (msp : Int32) (mwb : Nat → Int64) (mwe : Nat → Int64) (mwi : Int32) (mac : Int32) (mre : Int32) (mkn : Int32) (mth : Int32) (x1 : Int32) (H : Heap) (locs : List Loc), va_P (dC, dI) vwCl (wMo cJ cZ b mce mfr mun mbe men mov msp mwb mwe mwi mac mre mkn mth) H → va_D A (wMo cJ cZ b mce mfr mun mbe men mov msp mwb mwe mwi mac mre mkn mth) → va_S A s.heap H locs → ∀ (ls : Array Slot), lv_has ls 4 (kvA 0 (b 0) (kvI 1 x1 kvE)) → K2 mwb mwe mwi x1 = some res → W p l e (headSpec wsX3_chosenNow (kRm 3 0 0 72)).room s m ([.ref (b 0)] : List Value).toArray below meth c H locs 0 0 (MQ below (kI (dC, dI) .int (res) (wMo cJ cZ b mce mfr mun mbe men mov msp mwb mwe mwi mac mre mkn mth) A) ([.ref (b 0)] : List Value).toArray s 0 0 A) (F0 m 2 ls [])) → ∀ (n : Nat), ∀ (mce : Nat → Int64) (mfr : Int64) (mun : Int64) (mbe : Nat → Int64) (men : Nat → Int64) (mov : Nat → Int32) (msp : Int32) (mwb : Nat → Int64) (mwe : Nat → Int64) (mwi : Int32) (mac : Int32) (mre : Int32) (mkn : Int32) (mth : Int32) (x1 : Int32) (x2 : Int32) (x3 : Int32) (H : Heap) (locs : List Loc), va_P (dC, dI) vwCl (wMo cJ cZ b mce mfr mun mbe men mov msp mwb mwe mwi mac mre mkn mth) H → va_D A (wMo cJ cZ b mce mfr mun mbe men mov msp mwb mwe mwi mac mre mkn mth) → va_S A s.heap H locs → ∀ (ls : Array Slot), lv_has ls 4 (kvA 0 (b 0) (kvI 1 x1 (kvI 2 x2 (kvI 3 x3 kvE)))) → f_X3_chosenNow_6 K2 n mwb mwe mwi x1 x2 x3 = some res → W p l e (headSpec wsX3_chosenNow (kRm 3 0 0 72)).room s m ([.ref (b 0)] : List Value).toArray below meth c H locs 0 0 (MQ below (kI (dC, dI) .int (res) (wMo cJ cZ b mce mfr mun mbe men mov msp mwb mwe mwi mac mre mkn mth) A) ([.ref (b 0)] : List Value).toArray s 0 0 A) (F0 m 6 ls []) := by
    intro K2 hK2 n
    induction n with
    | zero =>
      intro mce mfr mun mbe men mov msp mwb mwe mwi mac mre mkn mth x1 x2 x3 H locs hP hD hS ls hl h
      have h := f_X3_chosenNow_6_0.symm.trans h
      cases h
    | succ n ih =>
      intro mce mfr mun mbe men mov msp mwb mwe mwi mac mre mkn mth x1 x2 x3 H locs hP hD hS ls hl h
      have h := f_X3_chosenNow_6_s.symm.trans h
      refine lv_iload_n hx hb (kdr dgX3_chosenNow_0 0 6 rfl rfl) rfl (lv_at hl 3 rfl) ?_
      refine lv_aload_n hx hb (kdr dgX3_chosenNow_0 0 7 rfl rfl) rfl (lv_at hl 0 rfl) ?_
      refine va_get (D := (dC, dI)) (ci := 5) (v := .int mwi) (C := RX3) (T := TX3) (N := 14) hx hb hts hiX3 hown hK hP 0 rfl rfl 9 (by decide) hw0 (fun _ h9 => h9) rfl (kdr dgX3_chosenNow_0 0 8 rfl rfl) ?_
      refine lv_icmp_ge (tgt := 62) hx hb (kdr dgX3_chosenNow_0 0 9 rfl rfl) (by decide) (fun c1 => ?_) (fun c1 => ?_)
      · have h := g_t c1 h
        refine lv_iload_n hx hb (kdr dgX3_chosenNow_0 4 0 rfl rfl) rfl (lv_at hl 2 rfl) ?_
        refine lv_if_ge (tgt := 68) hx hb (kdr dgX3_chosenNow_0 4 1 rfl rfl) (by decide) (fun c2 => ?_) (fun c2 => ?_)
        · have h := g_t c2 h
          refine lv_iload_n hx hb (kdr dgX3_chosenNow_0 4 4 rfl rfl) rfl (lv_at hl 1 rfl) ?_
          refine lv_iconst (v := 1) hx hb (kdr dgX3_chosenNow_0 4 5 rfl rfl) (by decide) ?_
          refine lv_iload_n hx hb (kdr dgX3_chosenNow_0 4 6 rfl rfl) rfl (lv_at hl 2 rfl) ?_
          refine lv_ishl hx hb (kdr dgX3_chosenNow_0 4 7 rfl rfl) ?_
          refine lv_ior hx hb (kdr dgX3_chosenNow_0 4 8 rfl rfl) ?_
          refine lv_istore_n (lv' := (kvI 1 (x1 ||| (1 <<< (x2 &&& 31))) (kvA 0 (b 0) (kvI 2 x2 (kvI 3 x3 kvE))))) hx hb (kdr dgX3_chosenNow_0 4 9 rfl rfl) rfl hl (by decide) rfl (fun ls hl => ?_)
          refine lv_goto (tgt := 2) hx hb (kdr dgX3_chosenNow_0 5 0 rfl rfl) (by decide) ?_
          exact hK2 mce mfr mun mbe men mov msp mwb mwe mwi mac mre mkn mth (x1 ||| (1 <<< (x2 &&& 31))) _ _ hP hD hS ls (lv_sub hl [1, 0] rfl) h
        · have h := g_f c2 h
          refine lv_iload_n hx hb (kdr dgX3_chosenNow_0 4 2 rfl rfl) rfl (lv_at hl 1 rfl) ?_
          have h := Option.some.inj h
          subst h
          exact kret_i (v := x1) hx hb hr rfl hlocks hS hP (kdr dgX3_chosenNow_0 4 3 rfl rfl)
      · have h := g_f c1 h
        refine lv_iload_n hx hb (kdr dgX3_chosenNow_0 1 0 rfl rfl) rfl (lv_at hl 1 rfl) ?_
        refine lv_iload_n hx hb (kdr dgX3_chosenNow_0 1 1 rfl rfl) rfl (lv_at hl 3 rfl) ?_
        refine lv_ishr hx hb (kdr dgX3_chosenNow_0 1 2 rfl rfl) ?_
        refine lv_iconst (v := 1) hx hb (kdr dgX3_chosenNow_0 1 3 rfl rfl) (by decide) ?_
        refine lv_iand hx hb (kdr dgX3_chosenNow_0 1 4 rfl rfl) ?_
        refine lv_if_ne (tgt := 56) hx hb (kdr dgX3_chosenNow_0 1 5 rfl rfl) (by decide) (fun c2 => ?_) (fun c2 => ?_)
        · have h := g_f c2 h
          refine lv_iinc (v := x3 + 1) (lv' := (kvI 3 (x3 + 1) (kvA 0 (b 0) (kvI 1 x1 (kvI 2 x2 kvE))))) hx hb (kdr dgX3_chosenNow_0 3 8 rfl rfl) hl (k := 3) rfl rfl (by decide) rfl (fun ls hl => ?_)
          refine lv_goto (tgt := 6) hx hb (kdr dgX3_chosenNow_0 3 9 rfl rfl) (by decide) ?_
          exact ih mce mfr mun mbe men mov msp mwb mwe mwi mac mre mkn mth x1 x2 (x3 + 1) _ _ hP hD hS ls (lv_sub hl [1, 2, 3, 0] rfl) h
        · have h := g_t c2 h
          refine lv_aload_n hx hb (kdr dgX3_chosenNow_0 1 6 rfl rfl) rfl (lv_at hl 0 rfl) ?_
          refine lv_iload_n hx hb (kdr dgX3_chosenNow_0 1 7 rfl rfl) rfl (lv_at hl 1 rfl) ?_
          refine lv_iconst (v := 1) hx hb (kdr dgX3_chosenNow_0 1 8 rfl rfl) (by decide) ?_
          refine lv_iload_n hx hb (kdr dgX3_chosenNow_0 1 9 rfl rfl) rfl (lv_at hl 3 rfl) ?_
          refine lv_ishl hx hb (kdr dgX3_chosenNow_0 2 0 rfl rfl) ?_
          refine lv_ior hx hb (kdr dgX3_chosenNow_0 2 1 rfl rfl) ?_
          obtain ⟨r3, g3, h⟩ := g_b h
          refine kq_i (wMo cJ cZ b mce mfr mun mbe men mov msp mwb mwe mwi mac mre mkn mth) (fun qP qD qF => va_runV (As := [.int (x1 ||| (1 <<< (x3 &&& 31)))]) (rest := []) ⟨hx, hb, hml, hown, hts⟩ (c_X3_areApart l dC dI cB cI cJ cZ b _ mce mfr mun mbe men mov msp mwb mwe mwi mac mre mkn mth (x1 ||| (1 <<< (x3 &&& 31))) r3 g3) (kcwV hts kw_1403 kv_X3_areApart rfl rfl ⟨(Nat.le_of_ble_eq_true rfl), (Nat.le_of_ble_eq_true rfl)⟩) (kpV (A := A) qP hK qD hG (krecv_5 (q0 := 0) hK hP rfl)) rfl rfl hl.1 rfl (lv_room (Nat.le_of_ble_eq_true rfl)) (kdr dgX3_chosenNow_0 2 2 rfl rfl) ⟨(Nat.le_of_ble_eq_true rfl), (Nat.le_of_ble_eq_true rfl)⟩) hP hD hS hA kFr_Mo (fun H locs hP hD hS br3 => ?_)
          refine lv_if_eq (tgt := 56) hx hb (kdr dgX3_chosenNow_0 2 3 rfl rfl) (by decide) (fun c4 => ?_) (fun c4 => ?_)
          · have h := g_t c4 h
            refine lv_iinc (v := x3 + 1) (lv' := (kvI 3 (x3 + 1) (kvA 0 (b 0) (kvI 1 x1 (kvI 2 x2 kvE))))) hx hb (kdr dgX3_chosenNow_0 3 8 rfl rfl) hl (k := 3) rfl rfl (by decide) rfl (fun ls hl => ?_)
            refine lv_goto (tgt := 6) hx hb (kdr dgX3_chosenNow_0 3 9 rfl rfl) (by decide) ?_
            exact ih mce mfr mun mbe men mov msp mwb mwe mwi mac mre mkn mth x1 x2 (x3 + 1) _ _ hP hD hS ls (lv_sub hl [1, 2, 3, 0] rfl) h
          · have h := g_f c4 h
            refine lv_iload_n hx hb (kdr dgX3_chosenNow_0 2 4 rfl rfl) rfl (lv_at hl 2 rfl) ?_
            refine lv_if_lt (tgt := 54) hx hb (kdr dgX3_chosenNow_0 2 5 rfl rfl) (by decide) (fun c5 => ?_) (fun c5 => ?_)
            · have h := g_t c5 h
              refine lv_iload_n hx hb (kdr dgX3_chosenNow_0 3 6 rfl rfl) rfl (lv_at hl 3 rfl) ?_
              refine lv_istore_n (lv' := (kvI 2 x3 (kvA 0 (b 0) (kvI 1 x1 (kvI 3 x3 kvE))))) hx hb (kdr dgX3_chosenNow_0 3 7 rfl rfl) rfl hl (by decide) rfl (fun ls hl => ?_)
              refine lv_iinc (v := x3 + 1) (lv' := (kvI 3 (x3 + 1) (kvI 2 x3 (kvA 0 (b 0) (kvI 1 x1 kvE))))) hx hb (kdr dgX3_chosenNow_0 3 8 rfl rfl) hl (k := 3) rfl rfl (by decide) rfl (fun ls hl => ?_)
              refine lv_goto (tgt := 6) hx hb (kdr dgX3_chosenNow_0 3 9 rfl rfl) (by decide) ?_
              exact ih mce mfr mun mbe men mov msp mwb mwe mwi mac mre mkn mth x1 x3 (x3 + 1) _ _ hP hD hS ls (lv_sub hl [2, 3, 1, 0] rfl) h
            · have h := g_f c5 h
              refine lv_aload_n hx hb (kdr dgX3_chosenNow_0 2 6 rfl rfl) rfl (lv_at hl 0 rfl) ?_
              refine va_get (D := (dC, dI)) (ci := 5) (v := .ref (b 6)) (C := RX3) (T := TX3) (N := 14) hx hb hts hiX3 hown hK hP 0 rfl rfl 8 (by decide) hw1 (fun _ h9 => h9) rfl (kdr dgX3_chosenNow_0 2 7 rfl rfl) ?_
              refine lv_iload_n hx hb (kdr dgX3_chosenNow_0 2 8 rfl rfl) rfl (lv_at hl 3 rfl) ?_
              obtain ⟨z5, h⟩ := g_if h
              refine va_lald hx hb hK hP 6 2 rfl rfl (ix_in z5) (kdr dgX3_chosenNow_0 2 9 rfl rfl) ?_
              refine lv_aload_n hx hb (kdr dgX3_chosenNow_0 3 0 rfl rfl) rfl (lv_at hl 0 rfl) ?_
              refine va_get (D := (dC, dI)) (ci := 5) (v := .ref (b 6)) (C := RX3) (T := TX3) (N := 14) hx hb hts hiX3 hown hK hP 0 rfl rfl 8 (by decide) hw1 (fun _ h9 => h9) rfl (kdr dgX3_chosenNow_0 3 1 rfl rfl) ?_
              refine lv_iload_n hx hb (kdr dgX3_chosenNow_0 3 2 rfl rfl) rfl (lv_at hl 2 rfl) ?_
              obtain ⟨z6, h⟩ := g_if h
              refine va_lald hx hb hK hP 6 2 rfl rfl (ix_in z6) (kdr dgX3_chosenNow_0 3 3 rfl rfl) ?_
              refine kl_ge (pc := 50) (tgt := 56) hx hb (kdr dgX3_chosenNow_0 3 4 rfl rfl) (kdr dgX3_chosenNow_0 3 5 rfl rfl) (by decide) (fun c8 => ?_) (fun c8 => ?_)
              · have h := g_t c8 h
                refine lv_iinc (v := x3 + 1) (lv' := (kvI 3 (x3 + 1) (kvA 0 (b 0) (kvI 1 x1 (kvI 2 x2 kvE))))) hx hb (kdr dgX3_chosenNow_0 3 8 rfl rfl) hl (k := 3) rfl rfl (by decide) rfl (fun ls hl => ?_)
                refine lv_goto (tgt := 6) hx hb (kdr dgX3_chosenNow_0 3 9 rfl rfl) (by decide) ?_
                exact ih mce mfr mun mbe men mov msp mwb mwe mwi mac mre mkn mth x1 x2 (x3 + 1) _ _ hP hD hS ls (lv_sub hl [1, 2, 3, 0] rfl) h
              · have h := g_f c8 h
                refine lv_iload_n hx hb (kdr dgX3_chosenNow_0 3 6 rfl rfl) rfl (lv_at hl 3 rfl) ?_
                refine lv_istore_n (lv' := (kvI 2 x3 (kvA 0 (b 0) (kvI 1 x1 (kvI 3 x3 kvE))))) hx hb (kdr dgX3_chosenNow_0 3 7 rfl rfl) rfl hl (by decide) rfl (fun ls hl => ?_)
                refine lv_iinc (v := x3 + 1) (lv' := (kvI 3 (x3 + 1) (kvI 2 x3 (kvA 0 (b 0) (kvI 1 x1 kvE))))) hx hb (kdr dgX3_chosenNow_0 3 8 rfl rfl) hl (k := 3) rfl rfl (by decide) rfl (fun ls hl => ?_)
                refine lv_goto (tgt := 6) hx hb (kdr dgX3_chosenNow_0 3 9 rfl rfl) (by decide) ?_
                exact ih mce mfr mun mbe men mov msp mwb mwe mwi mac mre mkn mth x1 x3 (x3 + 1) _ _ hP hD hS ls (lv_sub hl [2, 3, 1, 0] rfl) h
  have J2 : ∀ (n : Nat), ∀ (mce : Nat → Int64) (mfr : Int64) (mun : Int64) (mbe : Nat → Int64) (men : Nat → Int64) (mov : Nat → Int32) (msp : Int32) (mwb : Nat → Int64) (mwe : Nat → Int64) (mwi : Int32) (mac : Int32) (mre : Int32) (mkn : Int32) (mth : Int32) (x1 : Int32) (H : Heap) (locs : List Loc), va_P (dC, dI) vwCl (wMo cJ cZ b mce mfr mun mbe men mov msp mwb mwe mwi mac mre mkn mth) H → va_D A (wMo cJ cZ b mce mfr mun mbe men mov msp mwb mwe mwi mac mre mkn mth) → va_S A s.heap H locs → ∀ (ls : Array Slot), lv_has ls 4 (kvA 0 (b 0) (kvI 1 x1 kvE)) → f_X3_chosenNow_2 n mwb mwe mwi x1 = some res → W p l e (headSpec wsX3_chosenNow (kRm 3 0 0 72)).room s m ([.ref (b 0)] : List Value).toArray below meth c H locs 0 0 (MQ below (kI (dC, dI) .int (res) (wMo cJ cZ b mce mfr mun mbe men mov msp mwb mwe mwi mac mre mkn mth) A) ([.ref (b 0)] : List Value).toArray s 0 0 A) (F0 m 2 ls []) := by
    intro n
    induction n with
    | zero =>
      intro mce mfr mun mbe men mov msp mwb mwe mwi mac mre mkn mth x1 H locs hP hD hS ls hl h
      have h := f_X3_chosenNow_2_0.symm.trans h
      cases h
    | succ n ih =>
      intro mce mfr mun mbe men mov msp mwb mwe mwi mac mre mkn mth x1 H locs hP hD hS ls hl h
      have h := f_X3_chosenNow_2_s.symm.trans h
      refine lv_iconst (v := (-1)) hx hb (kdr dgX3_chosenNow_0 0 2 rfl rfl) (by decide) ?_
      refine lv_istore_n (lv' := (kvI 2 (-1) (kvA 0 (b 0) (kvI 1 x1 kvE)))) hx hb (kdr dgX3_chosenNow_0 0 3 rfl rfl) rfl hl (by decide) rfl (fun ls hl => ?_)
      refine lv_iconst (v := 0) hx hb (kdr dgX3_chosenNow_0 0 4 rfl rfl) (by decide) ?_
      refine lv_istore_n (lv' := (kvI 3 0 (kvI 2 (-1) (kvA 0 (b 0) (kvI 1 x1 kvE))))) hx hb (kdr dgX3_chosenNow_0 0 5 rfl rfl) rfl hl (by decide) rfl (fun ls hl => ?_)
      exact J6 (f_X3_chosenNow_2 n) ih 24 mce mfr mun mbe men mov msp mwb mwe mwi mac mre mkn mth x1 (-1) 0 _ _ hP hD hS ls (lv_sub hl [2, 3, 1, 0] rfl) h
  have h := f_X3_chosenNow_e.symm.trans hf
  refine lv_iconst (v := 0) hx hb (kdr dgX3_chosenNow_0 0 0 rfl rfl) (by decide) ?_
  refine lv_istore_n (lv' := (kvI 1 0 (kvA 0 (b 0) kvE))) hx hb (kdr dgX3_chosenNow_0 0 1 rfl rfl) rfl hl (by decide) rfl (fun ls hl => ?_)
  exact J2 24 mce mfr mun mbe men mov msp mwb mwe mwi mac mre mkn mth 0 _ _ hP hD hS ls (lv_sub hl [1, 0] rfl) h
noncomputable abbrev wsX3_ones : List Cond := kWs yX3_ones cX3_ones 3 (some .int)
noncomputable def f_X3_ones_4 : Nat → (Int32) → (Int32) → (Int32) → Option (Int32)
  | 0, _, _, _ => none
  | n + 1, x0, x1, x2 =>
    if 31 ≤ x2 then
      some x1
    else
      f_X3_ones_4 n x0 (x1 + ((x0 >>> (x2 &&& 31)) &&& 1)) (x2 + 1)
theorem f_X3_ones_4_0 {x0 : Int32} {x1 : Int32} {x2 : Int32} : f_X3_ones_4 0 x0 x1 x2 = none := rfl
theorem f_X3_ones_4_s {n : Nat} {x0 : Int32} {x1 : Int32} {x2 : Int32} : f_X3_ones_4 (n + 1) x0 x1 x2 =
  if 31 ≤ x2 then
    some x1
  else
    f_X3_ones_4 n x0 (x1 + ((x0 >>> (x2 &&& 31)) &&& 1)) (x2 + 1) := rfl
noncomputable def f_X3_ones (p0 : Int32) : Option (Int32) :=
  f_X3_ones_4 40 p0 0 0
theorem f_X3_ones_e {p0 : Int32} : f_X3_ones p0 = 
  f_X3_ones_4 40 p0 0 0 := rfl
set_option maxHeartbeats 4000000 in
set_option maxRecDepth 100000 in
theorem c_X3_ones (l : Launch) (dC : Nat → ClassId) (dI : Nat → Nat → Nat) (cB cI cJ cZ : ClassId) (sz : Nat) (p0 : Int32) (res : Int32) (hf : f_X3_ones p0 = some res) : kMi l yX3_ones wsX3_ones (kRm 0 0 0 0) dC dI cB cI cJ cZ [.int p0] sz [] .int (res) [] 0 0 := by
  refine kmet_i (y := yX3_ones) (cc := cX3_ones) (maxL := 3) (ret := (some .int)) RX3 (kvI 0 p0 kvE) kpl_X3 rfl rfl (Nat.le_of_ble_eq_true rfl) rfl (fun p e s m below meth c A ls hx hb hr hml hts hown hlocks hP hK hG hD hA hS hl => ?_)
  have J4 : ∀ (n : Nat), ∀ (x0 : Int32) (x1 : Int32) (x2 : Int32) (H : Heap) (locs : List Loc), va_P (dC, dI) vwCl [] H → va_D A [] → va_S A s.heap H locs → ∀ (ls : Array Slot), lv_has ls 3 (kvI 0 x0 (kvI 1 x1 (kvI 2 x2 kvE))) → f_X3_ones_4 n x0 x1 x2 = some res → W p l e (headSpec wsX3_ones (kRm 0 0 0 0)).room s m ([.int p0] : List Value).toArray below meth c H locs 0 0 (MQ below (kI (dC, dI) .int (res) [] A) ([.int p0] : List Value).toArray s 0 0 A) (F0 m 4 ls []) := by
    intro n
    induction n with
    | zero =>
      intro x0 x1 x2 H locs hP hD hS ls hl h
      have h := f_X3_ones_4_0.symm.trans h
      cases h
    | succ n ih =>
      intro x0 x1 x2 H locs hP hD hS ls hl h
      have h := f_X3_ones_4_s.symm.trans h
      refine lv_iload_n hx hb (kdr dgX3_ones_0 0 4 rfl rfl) rfl (lv_at hl 2 rfl) ?_
      refine lv_bipush (v := 31) hx hb (kdr dgX3_ones_0 0 5 rfl rfl) (by decide) ?_
      refine lv_icmp_ge (tgt := 24) hx hb (kdr dgX3_ones_0 0 6 rfl rfl) (by decide) (fun c1 => ?_) (fun c1 => ?_)
      · have h := g_t c1 h
        refine lv_iload_n hx hb (kdr dgX3_ones_0 1 7 rfl rfl) rfl (lv_at hl 1 rfl) ?_
        have h := Option.some.inj h
        subst h
        exact kret_i (v := x1) hx hb hr rfl hlocks hS hP (kdr dgX3_ones_0 1 8 rfl rfl)
      · have h := g_f c1 h
        refine lv_iload_n hx hb (kdr dgX3_ones_0 0 7 rfl rfl) rfl (lv_at hl 1 rfl) ?_
        refine lv_iload_n hx hb (kdr dgX3_ones_0 0 8 rfl rfl) rfl (lv_at hl 0 rfl) ?_
        refine lv_iload_n hx hb (kdr dgX3_ones_0 0 9 rfl rfl) rfl (lv_at hl 2 rfl) ?_
        refine lv_ishr hx hb (kdr dgX3_ones_0 1 0 rfl rfl) ?_
        refine lv_iconst (v := 1) hx hb (kdr dgX3_ones_0 1 1 rfl rfl) (by decide) ?_
        refine lv_iand hx hb (kdr dgX3_ones_0 1 2 rfl rfl) ?_
        refine lv_iadd hx hb (kdr dgX3_ones_0 1 3 rfl rfl) ?_
        refine lv_istore_n (lv' := (kvI 1 (x1 + ((x0 >>> (x2 &&& 31)) &&& 1)) (kvI 0 x0 (kvI 2 x2 kvE)))) hx hb (kdr dgX3_ones_0 1 4 rfl rfl) rfl hl (by decide) rfl (fun ls hl => ?_)
        refine lv_iinc (v := x2 + 1) (lv' := (kvI 2 (x2 + 1) (kvI 1 (x1 + ((x0 >>> (x2 &&& 31)) &&& 1)) (kvI 0 x0 kvE)))) hx hb (kdr dgX3_ones_0 1 5 rfl rfl) hl (k := 2) rfl rfl (by decide) rfl (fun ls hl => ?_)
        refine lv_goto (tgt := 4) hx hb (kdr dgX3_ones_0 1 6 rfl rfl) (by decide) ?_
        exact ih x0 (x1 + ((x0 >>> (x2 &&& 31)) &&& 1)) (x2 + 1) _ _ hP hD hS ls (lv_sub hl [2, 1, 0] rfl) h
  have h := f_X3_ones_e.symm.trans hf
  refine lv_iconst (v := 0) hx hb (kdr dgX3_ones_0 0 0 rfl rfl) (by decide) ?_
  refine lv_istore_n (lv' := (kvI 1 0 (kvI 0 p0 kvE))) hx hb (kdr dgX3_ones_0 0 1 rfl rfl) rfl hl (by decide) rfl (fun ls hl => ?_)
  refine lv_iconst (v := 0) hx hb (kdr dgX3_ones_0 0 2 rfl rfl) (by decide) ?_
  refine lv_istore_n (lv' := (kvI 2 0 (kvI 1 0 (kvI 0 p0 kvE)))) hx hb (kdr dgX3_ones_0 0 3 rfl rfl) rfl hl (by decide) rfl (fun ls hl => ?_)
  exact J4 40 p0 0 0 _ _ hP hD hS ls (lv_sub hl [2, 1, 0] rfl) h
noncomputable abbrev wsX3_mostOfAll : List Cond := kWs yX3_mostOfAll cX3_mostOfAll 3 (some .int)
noncomputable def f_X3_mostOfAll_4 : Nat → (Nat → Int64) → (Nat → Int64) → (Int32) → (Int32) → (Int32) → Option (Int32)
  | 0, _, _, _, _, _ => none
  | n + 1, mwb, mwe, mwi, x1, x2 =>
    if (1 <<< (mwi &&& 31)) ≤ x2 then
      some x1
    else
      (f_X3_areApart mwb mwe mwi x2).bind fun r2 =>
      if r2 = 0 then
        f_X3_mostOfAll_4 n mwb mwe mwi x1 (x2 + 1)
      else
        (f_X3_ones x2).bind fun r4 =>
        f_X3_mostOfAll_4 n mwb mwe mwi (if x1 < r4 then r4 else x1) (x2 + 1)
theorem f_X3_mostOfAll_4_0 {mwb : Nat → Int64} {mwe : Nat → Int64} {mwi : Int32} {x1 : Int32} {x2 : Int32} : f_X3_mostOfAll_4 0 mwb mwe mwi x1 x2 = none := rfl
theorem f_X3_mostOfAll_4_s {n : Nat} {mwb : Nat → Int64} {mwe : Nat → Int64} {mwi : Int32} {x1 : Int32} {x2 : Int32} : f_X3_mostOfAll_4 (n + 1) mwb mwe mwi x1 x2 =
  if (1 <<< (mwi &&& 31)) ≤ x2 then
    some x1
  else
    (f_X3_areApart mwb mwe mwi x2).bind fun r2 =>
    if r2 = 0 then
      f_X3_mostOfAll_4 n mwb mwe mwi x1 (x2 + 1)
    else
      (f_X3_ones x2).bind fun r4 =>
      f_X3_mostOfAll_4 n mwb mwe mwi (if x1 < r4 then r4 else x1) (x2 + 1) := rfl
noncomputable def f_X3_mostOfAll (mwb : Nat → Int64) (mwe : Nat → Int64) (mwi : Int32) : Option (Int32) :=
  f_X3_mostOfAll_4 300 mwb mwe mwi 0 0
theorem f_X3_mostOfAll_e {mwb : Nat → Int64} {mwe : Nat → Int64} {mwi : Int32} : f_X3_mostOfAll mwb mwe mwi = 
  f_X3_mostOfAll_4 300 mwb mwe mwi 0 0 := rfl
set_option maxHeartbeats 4000000 in
set_option maxRecDepth 100000 in
theorem c_X3_mostOfAll (l : Launch) (dC : Nat → ClassId) (dI : Nat → Nat → Nat) (cB cI cJ cZ : ClassId) (b : Nat → Nat) (sz : Nat) (mce : Nat → Int64) (mfr : Int64) (mun : Int64) (mbe : Nat → Int64) (men : Nat → Int64) (mov : Nat → Int32) (msp : Int32) (mwb : Nat → Int64) (mwe : Nat → Int64) (mwi : Int32) (mac : Int32) (mre : Int32) (mkn : Int32) (mth : Int32) (res : Int32) (hf : f_X3_mostOfAll mwb mwe mwi = some res) : kMi l yX3_mostOfAll wsX3_mostOfAll (kRm 3 0 0 72) dC dI cB cI cJ cZ [.ref (b 0)] sz (wMo cJ cZ b mce mfr mun mbe men mov msp mwb mwe mwi mac mre mkn mth) .int (res) (wMo cJ cZ b mce mfr mun mbe men mov msp mwb mwe mwi mac mre mkn mth) 0 0 := by
  refine kmet_i (y := yX3_mostOfAll) (cc := cX3_mostOfAll) (maxL := 3) (ret := (some .int)) RX3 (kvA 0 (b 0) kvE) kpl_X3 rfl rfl (Nat.le_of_ble_eq_true rfl) rfl (fun p e s m below meth c A ls hx hb hr hml hts hown hlocks hP hK hG hD hA hS hl => ?_)
  have hw0 := hts (.fieldLink RX3 88 "SpanbookerModel" "wishes" "I") (List.mem_cons_of_mem _ kw_1081)
  have hw1 := hts (.methodLink RX3 74 Lib.Math.max.name) (List.mem_cons_of_mem _ kw_1355)
  have hw2 := hts (.static Lib.Math.max.name) (List.mem_cons_of_mem _ kw_176)
  have hw3 := hts (.initialized "java/lang/Math") (List.mem_cons_of_mem _ kw_66)
  have hw4 := hts (.code Lib.Math.max.name Lib.Math.max.code 2 (some .int)) (List.mem_cons_of_mem _ kw_177)
  have hiX3 : ∀ w ∈ u_ws RX3 TX3 14, w ∈ wsX3_mostOfAll := fun w h => List.mem_cons_of_mem _ (ku_X3 w h)
  have J4 : ∀ (n : Nat), ∀ (mce : Nat → Int64) (mfr : Int64) (mun : Int64) (mbe : Nat → Int64) (men : Nat → Int64) (mov : Nat → Int32) (msp : Int32) (mwb : Nat → Int64) (mwe : Nat → Int64) (mwi : Int32) (mac : Int32) (mre : Int32) (mkn : Int32) (mth : Int32) (x1 : Int32) (x2 : Int32) (H : Heap) (locs : List Loc), va_P (dC, dI) vwCl (wMo cJ cZ b mce mfr mun mbe men mov msp mwb mwe mwi mac mre mkn mth) H → va_D A (wMo cJ cZ b mce mfr mun mbe men mov msp mwb mwe mwi mac mre mkn mth) → va_S A s.heap H locs → ∀ (ls : Array Slot), lv_has ls 3 (kvA 0 (b 0) (kvI 1 x1 (kvI 2 x2 kvE))) → f_X3_mostOfAll_4 n mwb mwe mwi x1 x2 = some res → W p l e (headSpec wsX3_mostOfAll (kRm 3 0 0 72)).room s m ([.ref (b 0)] : List Value).toArray below meth c H locs 0 0 (MQ below (kI (dC, dI) .int (res) (wMo cJ cZ b mce mfr mun mbe men mov msp mwb mwe mwi mac mre mkn mth) A) ([.ref (b 0)] : List Value).toArray s 0 0 A) (F0 m 4 ls []) := by
    intro n
    induction n with
    | zero =>
      intro mce mfr mun mbe men mov msp mwb mwe mwi mac mre mkn mth x1 x2 H locs hP hD hS ls hl h
      have h := f_X3_mostOfAll_4_0.symm.trans h
      cases h
    | succ n ih =>
      intro mce mfr mun mbe men mov msp mwb mwe mwi mac mre mkn mth x1 x2 H locs hP hD hS ls hl h
      have h := f_X3_mostOfAll_4_s.symm.trans h
      refine lv_iload_n hx hb (kdr dgX3_mostOfAll_0 0 4 rfl rfl) rfl (lv_at hl 2 rfl) ?_
      refine lv_iconst (v := 1) hx hb (kdr dgX3_mostOfAll_0 0 5 rfl rfl) (by decide) ?_
      refine lv_aload_n hx hb (kdr dgX3_mostOfAll_0 0 6 rfl rfl) rfl (lv_at hl 0 rfl) ?_
      refine va_get (D := (dC, dI)) (ci := 5) (v := .int mwi) (C := RX3) (T := TX3) (N := 14) hx hb hts hiX3 hown hK hP 0 rfl rfl 9 (by decide) hw0 (fun _ h9 => h9) rfl (kdr dgX3_mostOfAll_0 0 7 rfl rfl) ?_
      refine lv_ishl hx hb (kdr dgX3_mostOfAll_0 0 8 rfl rfl) ?_
      refine lv_icmp_ge (tgt := 37) hx hb (kdr dgX3_mostOfAll_0 0 9 rfl rfl) (by decide) (fun c1 => ?_) (fun c1 => ?_)
      · have h := g_t c1 h
        refine lv_iload_n hx hb (kdr dgX3_mostOfAll_0 2 1 rfl rfl) rfl (lv_at hl 1 rfl) ?_
        have h := Option.some.inj h
        subst h
        exact kret_i (v := x1) hx hb hr rfl hlocks hS hP (kdr dgX3_mostOfAll_0 2 2 rfl rfl)
      · have h := g_f c1 h
        refine lv_aload_n hx hb (kdr dgX3_mostOfAll_0 1 0 rfl rfl) rfl (lv_at hl 0 rfl) ?_
        refine lv_iload_n hx hb (kdr dgX3_mostOfAll_0 1 1 rfl rfl) rfl (lv_at hl 2 rfl) ?_
        obtain ⟨r2, g2, h⟩ := g_b h
        refine kq_i (wMo cJ cZ b mce mfr mun mbe men mov msp mwb mwe mwi mac mre mkn mth) (fun qP qD qF => va_runV (As := [.int x2]) (rest := []) ⟨hx, hb, hml, hown, hts⟩ (c_X3_areApart l dC dI cB cI cJ cZ b _ mce mfr mun mbe men mov msp mwb mwe mwi mac mre mkn mth x2 r2 g2) (kcwV hts kw_1403 kv_X3_areApart rfl rfl ⟨(Nat.le_of_ble_eq_true rfl), (Nat.le_of_ble_eq_true rfl)⟩) (kpV (A := A) qP hK qD hG (krecv_5 (q0 := 0) hK hP rfl)) rfl rfl hl.1 rfl (lv_room (Nat.le_of_ble_eq_true rfl)) (kdr dgX3_mostOfAll_0 1 2 rfl rfl) ⟨(Nat.le_of_ble_eq_true rfl), (Nat.le_of_ble_eq_true rfl)⟩) hP hD hS hA kFr_Mo (fun H locs hP hD hS br2 => ?_)
        refine lv_if_eq (tgt := 31) hx hb (kdr dgX3_mostOfAll_0 1 3 rfl rfl) (by decide) (fun c3 => ?_) (fun c3 => ?_)
        · have h := g_t c3 h
          refine lv_iinc (v := x2 + 1) (lv' := (kvI 2 (x2 + 1) (kvA 0 (b 0) (kvI 1 x1 kvE)))) hx hb (kdr dgX3_mostOfAll_0 1 9 rfl rfl) hl (k := 2) rfl rfl (by decide) rfl (fun ls hl => ?_)
          refine lv_goto (tgt := 4) hx hb (kdr dgX3_mostOfAll_0 2 0 rfl rfl) (by decide) ?_
          exact ih mce mfr mun mbe men mov msp mwb mwe mwi mac mre mkn mth x1 (x2 + 1) _ _ hP hD hS ls (lv_sub hl [1, 2, 0] rfl) h
        · have h := g_f c3 h
          refine lv_iload_n hx hb (kdr dgX3_mostOfAll_0 1 4 rfl rfl) rfl (lv_at hl 1 rfl) ?_
          refine lv_iload_n hx hb (kdr dgX3_mostOfAll_0 1 5 rfl rfl) rfl (lv_at hl 2 rfl) ?_
          obtain ⟨r4, g4, h⟩ := g_b h
          refine kq_i (wMo cJ cZ b mce mfr mun mbe men mov msp mwb mwe mwi mac mre mkn mth) (fun qP qD qF => va_runS (As := [.int x2]) (rest := [.int x1]) ⟨hx, hb, hml, hown, hts⟩ (c_X3_ones l dC dI cB cI cJ cZ  _  x2 r4 g4) (kcwS hts kw_1423 kv_X3_ones rfl rfl ⟨(Nat.le_of_ble_eq_true rfl), (Nat.le_of_ble_eq_true rfl)⟩) (kpS (A := A) (kPnil) hK ((kDnil (A := A))) hG) rfl rfl hl.1 rfl (lv_room (Nat.le_of_ble_eq_true rfl)) (kdr dgX3_mostOfAll_0 1 6 rfl rfl) ⟨(Nat.le_of_ble_eq_true rfl), (Nat.le_of_ble_eq_true rfl)⟩) hP hD hS hA kFr_n (fun H locs hP hD hS br4 => ?_)
          refine va_mmax hx hb (hml.trans hl.1.symm) hown hw1 hw2 hw3 hw4 (Nat.le_of_ble_eq_true rfl) (Nat.le_of_ble_eq_true rfl) (Nat.le_of_ble_eq_true rfl) (Nat.le_of_ble_eq_true rfl) (kdr dgX3_mostOfAll_0 1 7 rfl rfl) ?_
          refine lv_istore_n (lv' := (kvI 1 (if x1 < r4 then r4 else x1) (kvA 0 (b 0) (kvI 2 x2 kvE)))) hx hb (kdr dgX3_mostOfAll_0 1 8 rfl rfl) rfl hl (by decide) rfl (fun ls hl => ?_)
          refine lv_iinc (v := x2 + 1) (lv' := (kvI 2 (x2 + 1) (kvI 1 (if x1 < r4 then r4 else x1) (kvA 0 (b 0) kvE)))) hx hb (kdr dgX3_mostOfAll_0 1 9 rfl rfl) hl (k := 2) rfl rfl (by decide) rfl (fun ls hl => ?_)
          refine lv_goto (tgt := 4) hx hb (kdr dgX3_mostOfAll_0 2 0 rfl rfl) (by decide) ?_
          exact ih mce mfr mun mbe men mov msp mwb mwe mwi mac mre mkn mth (if x1 < r4 then r4 else x1) (x2 + 1) _ _ hP hD hS ls (lv_sub hl [2, 1, 0] rfl) h
  have h := f_X3_mostOfAll_e.symm.trans hf
  refine lv_iconst (v := 0) hx hb (kdr dgX3_mostOfAll_0 0 0 rfl rfl) (by decide) ?_
  refine lv_istore_n (lv' := (kvI 1 0 (kvA 0 (b 0) kvE))) hx hb (kdr dgX3_mostOfAll_0 0 1 rfl rfl) rfl hl (by decide) rfl (fun ls hl => ?_)
  refine lv_iconst (v := 0) hx hb (kdr dgX3_mostOfAll_0 0 2 rfl rfl) (by decide) ?_
  refine lv_istore_n (lv' := (kvI 2 0 (kvI 1 0 (kvA 0 (b 0) kvE)))) hx hb (kdr dgX3_mostOfAll_0 0 3 rfl rfl) rfl hl (by decide) rfl (fun ls hl => ?_)
  exact J4 300 mce mfr mun mbe men mov msp mwb mwe mwi mac mre mkn mth 0 0 _ _ hP hD hS ls (lv_sub hl [2, 1, 0] rfl) h
noncomputable abbrev wsX3_nextWish : List Cond := kWs yX3_nextWish cX3_nextWish 4 (some .int)
noncomputable def f_X3_nextWish_4 (n0 : Nat) : Nat → (Nat → Int64) → (Int32) → (Nat → Int32) → (Int32) → (Int32) → Option (Int32)
  | 0, _, _, _, _, _ => none
  | n + 1, mwb, mwi, v0, x2, x3 =>
    if mwi ≤ x3 then
      some x2
    else
      if ix x3 n0 then
        if 0 ≤ (v0 x3.toNatClampNeg) then
          f_X3_nextWish_4 n0 n mwb mwi v0 x2 (x3 + 1)
        else
          if x2 < 0 then
            f_X3_nextWish_4 n0 n mwb mwi v0 x3 (x3 + 1)
          else
            if ix x3 8 then
              if ix x2 8 then
                if (mwb x2.toNatClampNeg) ≤ (mwb x3.toNatClampNeg) then
                  f_X3_nextWish_4 n0 n mwb mwi v0 x2 (x3 + 1)
                else
                  f_X3_nextWish_4 n0 n mwb mwi v0 x3 (x3 + 1)
              else none
            else none
      else none
theorem f_X3_nextWish_4_0 {n0 : Nat} {mwb : Nat → Int64} {mwi : Int32} {v0 : Nat → Int32} {x2 : Int32} {x3 : Int32} : f_X3_nextWish_4 n0 0 mwb mwi v0 x2 x3 = none := rfl
theorem f_X3_nextWish_4_s {n0 : Nat} {n : Nat} {mwb : Nat → Int64} {mwi : Int32} {v0 : Nat → Int32} {x2 : Int32} {x3 : Int32} : f_X3_nextWish_4 n0 (n + 1) mwb mwi v0 x2 x3 =
  if mwi ≤ x3 then
    some x2
  else
    if ix x3 n0 then
      if 0 ≤ (v0 x3.toNatClampNeg) then
        f_X3_nextWish_4 n0 n mwb mwi v0 x2 (x3 + 1)
      else
        if x2 < 0 then
          f_X3_nextWish_4 n0 n mwb mwi v0 x3 (x3 + 1)
        else
          if ix x3 8 then
            if ix x2 8 then
              if (mwb x2.toNatClampNeg) ≤ (mwb x3.toNatClampNeg) then
                f_X3_nextWish_4 n0 n mwb mwi v0 x2 (x3 + 1)
              else
                f_X3_nextWish_4 n0 n mwb mwi v0 x3 (x3 + 1)
            else none
          else none
    else none := rfl
noncomputable def f_X3_nextWish (n0 : Nat) (mwb : Nat → Int64) (mwi : Int32) (v0 : Nat → Int32) : Option (Int32) :=
  f_X3_nextWish_4 n0 24 mwb mwi v0 (-1) 0
theorem f_X3_nextWish_e {n0 : Nat} {mwb : Nat → Int64} {mwi : Int32} {v0 : Nat → Int32} : f_X3_nextWish n0 mwb mwi v0 = 
  f_X3_nextWish_4 n0 24 mwb mwi v0 (-1) 0 := rfl
set_option maxHeartbeats 4000000 in
set_option maxRecDepth 100000 in
theorem c_X3_nextWish (l : Launch) (dC : Nat → ClassId) (dI : Nat → Nat → Nat) (cB cI cJ cZ : ClassId) (b : Nat → Nat) (q0 : Nat) (n0 : Nat) (sz : Nat) (mce : Nat → Int64) (mfr : Int64) (mun : Int64) (mbe : Nat → Int64) (men : Nat → Int64) (mov : Nat → Int32) (msp : Int32) (mwb : Nat → Int64) (mwe : Nat → Int64) (mwi : Int32) (mac : Int32) (mre : Int32) (mkn : Int32) (mth : Int32) (v0 : Nat → Int32) (res : Int32) (hf : f_X3_nextWish n0 mwb mwi v0 = some res) : kMi l yX3_nextWish wsX3_nextWish (kRm 0 0 0 0) dC dI cB cI cJ cZ [.ref (b 0), .ref q0] sz ((wMo cJ cZ b mce mfr mun mbe men mov msp mwb mwe mwi mac mre mkn mth) ++ [(q0, .inl (cI, n0, .inl v0))]) .int (res) ((wMo cJ cZ b mce mfr mun mbe men mov msp mwb mwe mwi mac mre mkn mth) ++ [(q0, .inl (cI, n0, .inl v0))]) 0 0 := by
  refine kmet_i (y := yX3_nextWish) (cc := cX3_nextWish) (maxL := 4) (ret := (some .int)) RX3 (kvA 0 (b 0) (kvA 1 q0 kvE)) kpl_X3 rfl rfl (Nat.le_of_ble_eq_true rfl) rfl (fun p e s m below meth c A ls hx hb hr hml hts hown hlocks hP hK hG hD hA hS hl => ?_)
  have hw0 := hts (.fieldLink RX3 88 "SpanbookerModel" "wishes" "I") (List.mem_cons_of_mem _ kw_1081)
  have hw1 := hts (.fieldLink RX3 29 "SpanbookerModel" "wishBegins" "[J") (List.mem_cons_of_mem _ kw_1079)
  have hiX3 : ∀ w ∈ u_ws RX3 TX3 14, w ∈ wsX3_nextWish := fun w h => List.mem_cons_of_mem _ (ku_X3 w h)
  have J4 : ∀ (n : Nat), ∀ (mce : Nat → Int64) (mfr : Int64) (mun : Int64) (mbe : Nat → Int64) (men : Nat → Int64) (mov : Nat → Int32) (msp : Int32) (mwb : Nat → Int64) (mwe : Nat → Int64) (mwi : Int32) (mac : Int32) (mre : Int32) (mkn : Int32) (mth : Int32) (v0 : Nat → Int32) (x2 : Int32) (x3 : Int32) (H : Heap) (locs : List Loc), va_P (dC, dI) vwCl ((wMo cJ cZ b mce mfr mun mbe men mov msp mwb mwe mwi mac mre mkn mth) ++ [(q0, .inl (cI, n0, .inl v0))]) H → va_D A ((wMo cJ cZ b mce mfr mun mbe men mov msp mwb mwe mwi mac mre mkn mth) ++ [(q0, .inl (cI, n0, .inl v0))]) → va_S A s.heap H locs → ∀ (ls : Array Slot), lv_has ls 4 (kvA 0 (b 0) (kvA 1 q0 (kvI 2 x2 (kvI 3 x3 kvE)))) → f_X3_nextWish_4 n0 n mwb mwi v0 x2 x3 = some res → W p l e (headSpec wsX3_nextWish (kRm 0 0 0 0)).room s m ([.ref (b 0), .ref q0] : List Value).toArray below meth c H locs 0 0 (MQ below (kI (dC, dI) .int (res) ((wMo cJ cZ b mce mfr mun mbe men mov msp mwb mwe mwi mac mre mkn mth) ++ [(q0, .inl (cI, n0, .inl v0))]) A) ([.ref (b 0), .ref q0] : List Value).toArray s 0 0 A) (F0 m 4 ls []) := by
    intro n
    induction n with
    | zero =>
      intro mce mfr mun mbe men mov msp mwb mwe mwi mac mre mkn mth v0 x2 x3 H locs hP hD hS ls hl h
      have h := f_X3_nextWish_4_0.symm.trans h
      cases h
    | succ n ih =>
      intro mce mfr mun mbe men mov msp mwb mwe mwi mac mre mkn mth v0 x2 x3 H locs hP hD hS ls hl h
      have h := f_X3_nextWish_4_s.symm.trans h
      refine lv_iload_n hx hb (kdr dgX3_nextWish_0 0 4 rfl rfl) rfl (lv_at hl 3 rfl) ?_
      refine lv_aload_n hx hb (kdr dgX3_nextWish_0 0 5 rfl rfl) rfl (lv_at hl 0 rfl) ?_
      refine va_get (D := (dC, dI)) (ci := 5) (v := .int mwi) (C := RX3) (T := TX3) (N := 14) hx hb hts hiX3 hown hK hP 0 rfl rfl 9 (by decide) hw0 (fun _ h9 => h9) rfl (kdr dgX3_nextWish_0 0 6 rfl rfl) ?_
      refine lv_icmp_ge (tgt := 46) hx hb (kdr dgX3_nextWish_0 0 7 rfl rfl) (by decide) (fun c1 => ?_) (fun c1 => ?_)
      · have h := g_t c1 h
        refine lv_iload_n hx hb (kdr dgX3_nextWish_0 2 8 rfl rfl) rfl (lv_at hl 2 rfl) ?_
        have h := Option.some.inj h
        subst h
        exact kret_i (v := x2) hx hb hr rfl hlocks hS hP (kdr dgX3_nextWish_0 2 9 rfl rfl)
      · have h := g_f c1 h
        refine lv_aload_n hx hb (kdr dgX3_nextWish_0 0 8 rfl rfl) rfl (lv_at hl 1 rfl) ?_
        refine lv_iload_n hx hb (kdr dgX3_nextWish_0 0 9 rfl rfl) rfl (lv_at hl 3 rfl) ?_
        obtain ⟨z1, h⟩ := g_if h
        refine va_iald hx hb hK hP 7 1 rfl rfl (ix_in z1) (kdr dgX3_nextWish_0 1 0 rfl rfl) ?_
        refine lv_if_ge (tgt := 40) hx hb (kdr dgX3_nextWish_0 1 1 rfl rfl) (by decide) (fun c3 => ?_) (fun c3 => ?_)
        · have h := g_t c3 h
          refine lv_iinc (v := x3 + 1) (lv' := (kvI 3 (x3 + 1) (kvA 0 (b 0) (kvA 1 q0 (kvI 2 x2 kvE))))) hx hb (kdr dgX3_nextWish_0 2 6 rfl rfl) hl (k := 3) rfl rfl (by decide) rfl (fun ls hl => ?_)
          refine lv_goto (tgt := 4) hx hb (kdr dgX3_nextWish_0 2 7 rfl rfl) (by decide) ?_
          exact ih mce mfr mun mbe men mov msp mwb mwe mwi mac mre mkn mth v0 x2 (x3 + 1) _ _ hP hD hS ls (lv_sub hl [1, 2, 3, 0] rfl) h
        · have h := g_f c3 h
          refine lv_iload_n hx hb (kdr dgX3_nextWish_0 1 2 rfl rfl) rfl (lv_at hl 2 rfl) ?_
          refine lv_if_lt (tgt := 38) hx hb (kdr dgX3_nextWish_0 1 3 rfl rfl) (by decide) (fun c4 => ?_) (fun c4 => ?_)
          · have h := g_t c4 h
            refine lv_iload_n hx hb (kdr dgX3_nextWish_0 2 4 rfl rfl) rfl (lv_at hl 3 rfl) ?_
            refine lv_istore_n (lv' := (kvI 2 x3 (kvA 0 (b 0) (kvA 1 q0 (kvI 3 x3 kvE))))) hx hb (kdr dgX3_nextWish_0 2 5 rfl rfl) rfl hl (by decide) rfl (fun ls hl => ?_)
            refine lv_iinc (v := x3 + 1) (lv' := (kvI 3 (x3 + 1) (kvI 2 x3 (kvA 0 (b 0) (kvA 1 q0 kvE))))) hx hb (kdr dgX3_nextWish_0 2 6 rfl rfl) hl (k := 3) rfl rfl (by decide) rfl (fun ls hl => ?_)
            refine lv_goto (tgt := 4) hx hb (kdr dgX3_nextWish_0 2 7 rfl rfl) (by decide) ?_
            exact ih mce mfr mun mbe men mov msp mwb mwe mwi mac mre mkn mth v0 x3 (x3 + 1) _ _ hP hD hS ls (lv_sub hl [2, 3, 1, 0] rfl) h
          · have h := g_f c4 h
            refine lv_aload_n hx hb (kdr dgX3_nextWish_0 1 4 rfl rfl) rfl (lv_at hl 0 rfl) ?_
            refine va_get (D := (dC, dI)) (ci := 5) (v := .ref (b 5)) (C := RX3) (T := TX3) (N := 14) hx hb hts hiX3 hown hK hP 0 rfl rfl 7 (by decide) hw1 (fun _ h9 => h9) rfl (kdr dgX3_nextWish_0 1 5 rfl rfl) ?_
            refine lv_iload_n hx hb (kdr dgX3_nextWish_0 1 6 rfl rfl) rfl (lv_at hl 3 rfl) ?_
            obtain ⟨z4, h⟩ := g_if h
            refine va_lald hx hb hK hP 5 2 rfl rfl (ix_in z4) (kdr dgX3_nextWish_0 1 7 rfl rfl) ?_
            refine lv_aload_n hx hb (kdr dgX3_nextWish_0 1 8 rfl rfl) rfl (lv_at hl 0 rfl) ?_
            refine va_get (D := (dC, dI)) (ci := 5) (v := .ref (b 5)) (C := RX3) (T := TX3) (N := 14) hx hb hts hiX3 hown hK hP 0 rfl rfl 7 (by decide) hw1 (fun _ h9 => h9) rfl (kdr dgX3_nextWish_0 1 9 rfl rfl) ?_
            refine lv_iload_n hx hb (kdr dgX3_nextWish_0 2 0 rfl rfl) rfl (lv_at hl 2 rfl) ?_
            obtain ⟨z5, h⟩ := g_if h
            refine va_lald hx hb hK hP 5 2 rfl rfl (ix_in z5) (kdr dgX3_nextWish_0 2 1 rfl rfl) ?_
            refine kl_ge (pc := 34) (tgt := 40) hx hb (kdr dgX3_nextWish_0 2 2 rfl rfl) (kdr dgX3_nextWish_0 2 3 rfl rfl) (by decide) (fun c7 => ?_) (fun c7 => ?_)
            · have h := g_t c7 h
              refine lv_iinc (v := x3 + 1) (lv' := (kvI 3 (x3 + 1) (kvA 0 (b 0) (kvA 1 q0 (kvI 2 x2 kvE))))) hx hb (kdr dgX3_nextWish_0 2 6 rfl rfl) hl (k := 3) rfl rfl (by decide) rfl (fun ls hl => ?_)
              refine lv_goto (tgt := 4) hx hb (kdr dgX3_nextWish_0 2 7 rfl rfl) (by decide) ?_
              exact ih mce mfr mun mbe men mov msp mwb mwe mwi mac mre mkn mth v0 x2 (x3 + 1) _ _ hP hD hS ls (lv_sub hl [1, 2, 3, 0] rfl) h
            · have h := g_f c7 h
              refine lv_iload_n hx hb (kdr dgX3_nextWish_0 2 4 rfl rfl) rfl (lv_at hl 3 rfl) ?_
              refine lv_istore_n (lv' := (kvI 2 x3 (kvA 0 (b 0) (kvA 1 q0 (kvI 3 x3 kvE))))) hx hb (kdr dgX3_nextWish_0 2 5 rfl rfl) rfl hl (by decide) rfl (fun ls hl => ?_)
              refine lv_iinc (v := x3 + 1) (lv' := (kvI 3 (x3 + 1) (kvI 2 x3 (kvA 0 (b 0) (kvA 1 q0 kvE))))) hx hb (kdr dgX3_nextWish_0 2 6 rfl rfl) hl (k := 3) rfl rfl (by decide) rfl (fun ls hl => ?_)
              refine lv_goto (tgt := 4) hx hb (kdr dgX3_nextWish_0 2 7 rfl rfl) (by decide) ?_
              exact ih mce mfr mun mbe men mov msp mwb mwe mwi mac mre mkn mth v0 x3 (x3 + 1) _ _ hP hD hS ls (lv_sub hl [2, 3, 1, 0] rfl) h
  have h := f_X3_nextWish_e.symm.trans hf
  refine lv_iconst (v := (-1)) hx hb (kdr dgX3_nextWish_0 0 0 rfl rfl) (by decide) ?_
  refine lv_istore_n (lv' := (kvI 2 (-1) (kvA 0 (b 0) (kvA 1 q0 kvE)))) hx hb (kdr dgX3_nextWish_0 0 1 rfl rfl) rfl hl (by decide) rfl (fun ls hl => ?_)
  refine lv_iconst (v := 0) hx hb (kdr dgX3_nextWish_0 0 2 rfl rfl) (by decide) ?_
  refine lv_istore_n (lv' := (kvI 3 0 (kvI 2 (-1) (kvA 0 (b 0) (kvA 1 q0 kvE))))) hx hb (kdr dgX3_nextWish_0 0 3 rfl rfl) rfl hl (by decide) rfl (fun ls hl => ?_)
  exact J4 24 mce mfr mun mbe men mov msp mwb mwe mwi mac mre mkn mth v0 (-1) 0 _ _ hP hD hS ls (lv_sub hl [2, 3, 1, 0] rfl) h
noncomputable abbrev wsX3_roomsNow : List Cond := kWs yX3_roomsNow cX3_roomsNow 5 (some (.array .int))
noncomputable def f_X3_roomsNow_42 (K33 : (Nat → Int64) → (Nat → Int64) → (Int32) → (Nat → Int32) → (Int32) → Option (Nat → Int32)) : Nat → (Nat → Int64) → (Nat → Int64) → (Int32) → (Nat → Int32) → (Int32) → (Int32) → (Int32) → Option (Nat → Int32)
  | 0, _, _, _, _, _, _, _ => none
  | n + 1, mwb, mwe, mwi, ext0, x2, x3, x4 =>
    if mwi ≤ x4 then
      if ix x2 mwi.toNatClampNeg then
        (f_X3_nextWish mwi.toNatClampNeg mwb mwi (upd ext0 x2.toNatClampNeg x3)).bind fun r3 =>
        K33 mwb mwe mwi (upd ext0 x2.toNatClampNeg x3) r3
      else none
    else
      if ix x4 mwi.toNatClampNeg then
        if (ext0 x4.toNatClampNeg) = x3 then
          (f_X3_wishesMeet mwb mwe x2 x4).bind fun r4 =>
          if r4 = 0 then
            f_X3_roomsNow_42 K33 n mwb mwe mwi ext0 x2 x3 (x4 + 1)
          else
            f_X3_roomsNow_42 K33 n mwb mwe mwi ext0 x2 (x3 + 1) ((-1) + 1)
        else
          f_X3_roomsNow_42 K33 n mwb mwe mwi ext0 x2 x3 (x4 + 1)
      else none
theorem f_X3_roomsNow_42_0 {K33 : (Nat → Int64) → (Nat → Int64) → (Int32) → (Nat → Int32) → (Int32) → Option (Nat → Int32)} {mwb : Nat → Int64} {mwe : Nat → Int64} {mwi : Int32} {ext0 : Nat → Int32} {x2 : Int32} {x3 : Int32} {x4 : Int32} : f_X3_roomsNow_42 K33 0 mwb mwe mwi ext0 x2 x3 x4 = none := rfl
theorem f_X3_roomsNow_42_s {K33 : (Nat → Int64) → (Nat → Int64) → (Int32) → (Nat → Int32) → (Int32) → Option (Nat → Int32)} {n : Nat} {mwb : Nat → Int64} {mwe : Nat → Int64} {mwi : Int32} {ext0 : Nat → Int32} {x2 : Int32} {x3 : Int32} {x4 : Int32} : f_X3_roomsNow_42 K33 (n + 1) mwb mwe mwi ext0 x2 x3 x4 =
  if mwi ≤ x4 then
    if ix x2 mwi.toNatClampNeg then
      (f_X3_nextWish mwi.toNatClampNeg mwb mwi (upd ext0 x2.toNatClampNeg x3)).bind fun r3 =>
      K33 mwb mwe mwi (upd ext0 x2.toNatClampNeg x3) r3
    else none
  else
    if ix x4 mwi.toNatClampNeg then
      if (ext0 x4.toNatClampNeg) = x3 then
        (f_X3_wishesMeet mwb mwe x2 x4).bind fun r4 =>
        if r4 = 0 then
          f_X3_roomsNow_42 K33 n mwb mwe mwi ext0 x2 x3 (x4 + 1)
        else
          f_X3_roomsNow_42 K33 n mwb mwe mwi ext0 x2 (x3 + 1) ((-1) + 1)
      else
        f_X3_roomsNow_42 K33 n mwb mwe mwi ext0 x2 x3 (x4 + 1)
    else none := rfl
noncomputable def f_X3_roomsNow_33 : Nat → (Nat → Int64) → (Nat → Int64) → (Int32) → (Nat → Int32) → (Int32) → Option (Nat → Int32)
  | 0, _, _, _, _, _ => none
  | n + 1, mwb, mwe, mwi, ext0, x2 =>
    if x2 < 0 then
      some ext0
    else
      f_X3_roomsNow_42 (f_X3_roomsNow_33 n) 120 mwb mwe mwi ext0 x2 0 0
theorem f_X3_roomsNow_33_0 {mwb : Nat → Int64} {mwe : Nat → Int64} {mwi : Int32} {ext0 : Nat → Int32} {x2 : Int32} : f_X3_roomsNow_33 0 mwb mwe mwi ext0 x2 = none := rfl
theorem f_X3_roomsNow_33_s {n : Nat} {mwb : Nat → Int64} {mwe : Nat → Int64} {mwi : Int32} {ext0 : Nat → Int32} {x2 : Int32} : f_X3_roomsNow_33 (n + 1) mwb mwe mwi ext0 x2 =
  if x2 < 0 then
    some ext0
  else
    f_X3_roomsNow_42 (f_X3_roomsNow_33 n) 120 mwb mwe mwi ext0 x2 0 0 := rfl
noncomputable def f_X3_roomsNow_9 : Nat → (Nat → Int64) → (Nat → Int64) → (Int32) → (Nat → Int32) → (Int32) → Option (Nat → Int32)
  | 0, _, _, _, _, _ => none
  | n + 1, mwb, mwe, mwi, ext0, x2 =>
    if mwi ≤ x2 then
      (f_X3_nextWish mwi.toNatClampNeg mwb mwi ext0).bind fun r2 =>
      f_X3_roomsNow_33 24 mwb mwe mwi ext0 r2
    else
      if ix x2 mwi.toNatClampNeg then
        f_X3_roomsNow_9 n mwb mwe mwi (upd ext0 x2.toNatClampNeg (-1)) (x2 + 1)
      else none
theorem f_X3_roomsNow_9_0 {mwb : Nat → Int64} {mwe : Nat → Int64} {mwi : Int32} {ext0 : Nat → Int32} {x2 : Int32} : f_X3_roomsNow_9 0 mwb mwe mwi ext0 x2 = none := rfl
theorem f_X3_roomsNow_9_s {n : Nat} {mwb : Nat → Int64} {mwe : Nat → Int64} {mwi : Int32} {ext0 : Nat → Int32} {x2 : Int32} : f_X3_roomsNow_9 (n + 1) mwb mwe mwi ext0 x2 =
  if mwi ≤ x2 then
    (f_X3_nextWish mwi.toNatClampNeg mwb mwi ext0).bind fun r2 =>
    f_X3_roomsNow_33 24 mwb mwe mwi ext0 r2
  else
    if ix x2 mwi.toNatClampNeg then
      f_X3_roomsNow_9 n mwb mwe mwi (upd ext0 x2.toNatClampNeg (-1)) (x2 + 1)
    else none := rfl
noncomputable def f_X3_roomsNow (mwb : Nat → Int64) (mwe : Nat → Int64) (mwi : Int32) : Option (Nat → Int32) :=
  if ix mwi 17 then
    f_X3_roomsNow_9 24 mwb mwe mwi (fun _ => 0) 0
  else none
theorem f_X3_roomsNow_e {mwb : Nat → Int64} {mwe : Nat → Int64} {mwi : Int32} : f_X3_roomsNow mwb mwe mwi = 
  if ix mwi 17 then
    f_X3_roomsNow_9 24 mwb mwe mwi (fun _ => 0) 0
  else none := rfl
set_option maxHeartbeats 4000000 in
set_option maxRecDepth 100000 in
theorem c_X3_roomsNow (l : Launch) (dC : Nat → ClassId) (dI : Nat → Nat → Nat) (cB cI cJ cZ : ClassId) (b : Nat → Nat) (sz : Nat) (mce : Nat → Int64) (mfr : Int64) (mun : Int64) (mbe : Nat → Int64) (men : Nat → Int64) (mov : Nat → Int32) (msp : Int32) (mwb : Nat → Int64) (mwe : Nat → Int64) (mwi : Int32) (mac : Int32) (mre : Int32) (mkn : Int32) (mth : Int32) (res : Nat → Int32) (hf : f_X3_roomsNow mwb mwe mwi = some res) : Met l yX3_roomsNow wsX3_roomsNow (kRm 2 1 16 49) (kPre (dC, dI) (kTy cB cI cJ cZ) [.ref (b 0)] sz (wMo cJ cZ b mce mfr mun mbe men mov msp mwb mwe mwi mac mre mkn mth)) (kR (dC, dI) (.inl (cI, mwi.toNatClampNeg, .inl (res))) (wMo cJ cZ b mce mfr mun mbe men mov msp mwb mwe mwi mac mre mkn mth) (va_A (wMo cJ cZ b mce mfr mun mbe men mov msp mwb mwe mwi mac mre mkn mth) sz)) 1 16 (va_A (wMo cJ cZ b mce mfr mun mbe men mov msp mwb mwe mwi mac mre mkn mth) sz) := by
  refine Met.ofW (cc := cX3_roomsNow) (maxL := 5) (ret := (some (.array .int))) (by decide) rfl ?_
  intro p e s m args below meth c s₁ B hml hv
  obtain ⟨rfl, hsz, hP, hK, hD0, hG⟩ := hv
  have hx := B.exec
  have hb := B.bytes
  have hr := B.returns
  have hts := atoms_spec (ws := wsX3_roomsNow) B.pre
  have hown : s.vm.findClass RX3 = some m.cls := findClass_of_methodNamed B.named
  have hlocks := B.notSynchronized
  subst hsz
  have hD := hD0.self (sz := s.heap.size)
  generalize hAe : va_A (wMo cJ cZ b mce mfr mun mbe men mov msp mwb mwe mwi mac mre mkn mth) s.heap.size = A at hD ⊢
  have hA : ∀ q : Nat, s.heap.size ≤ q → A q := fun q h => by rw [← hAe]; exact Or.inr h
  have hS : va_S A s.heap s.heap [] := va_S.rf
  clear hAe
  have hw0 := hts (.fieldLink RX3 88 "SpanbookerModel" "wishes" "I") (List.mem_cons_of_mem _ kw_1081)
  have hw1 := hts (.arrayClass .int) (List.mem_cons_of_mem _ kw_138)
  have hiX3 : ∀ w ∈ u_ws RX3 TX3 14, w ∈ wsX3_roomsNow := fun w h => List.mem_cons_of_mem _ (ku_X3 w h)
  have J42 : ∀ (K33 : (Nat → Int64) → (Nat → Int64) → (Int32) → (Nat → Int32) → (Int32) → Option (Nat → Int32)), (∀ (mce : Nat → Int64) (mfr : Int64) (mun : Int64) (mbe : Nat → Int64) (men : Nat → Int64) (mov : Nat → Int32) (msp : Int32) (mwb : Nat → Int64) (mwe : Nat → Int64) (mwi : Int32) (mac : Int32) (mre : Int32) (mkn : Int32) (mth : Int32) (ext0 : Nat → Int32) (x2 : Int32) (qn0 : Nat) (H : Heap) (locs : List Loc), va_P (dC, dI) vwCl ((wMo cJ cZ b mce mfr mun mbe men mov msp mwb mwe mwi mac mre mkn mth) ++ [(qn0, .inl (cI, mwi.toNatClampNeg, .inl ext0))]) H → va_D A ((wMo cJ cZ b mce mfr mun mbe men mov msp mwb mwe mwi mac mre mkn mth) ++ [(qn0, .inl (cI, mwi.toNatClampNeg, .inl ext0))]) → va_S A s.heap H locs → ∀ (ls : Array Slot), lv_has ls 5 (kvA 0 (b 0) (kvA 1 qn0 (kvI 2 x2 kvE))) → K33 mwb mwe mwi ext0 x2 = some res → W p l e (headSpec wsX3_roomsNow (kRm 2 1 16 49)).room s m ([.ref (b 0)] : List Value).toArray below meth c H locs 1 16 (MQ below (kR (dC, dI) (.inl (cI, mwi.toNatClampNeg, .inl (res))) (wMo cJ cZ b mce mfr mun mbe men mov msp mwb mwe mwi mac mre mkn mth) A) ([.ref (b 0)] : List Value).toArray s 1 16 A) (F0 m 33 ls [])) → ∀ (n : Nat), ∀ (mce : Nat → Int64) (mfr : Int64) (mun : Int64) (mbe : Nat → Int64) (men : Nat → Int64) (mov : Nat → Int32) (msp : Int32) (mwb : Nat → Int64) (mwe : Nat → Int64) (mwi : Int32) (mac : Int32) (mre : Int32) (mkn : Int32) (mth : Int32) (ext0 : Nat → Int32) (x2 : Int32) (x3 : Int32) (x4 : Int32) (qn0 : Nat) (H : Heap) (locs : List Loc), va_P (dC, dI) vwCl ((wMo cJ cZ b mce mfr mun mbe men mov msp mwb mwe mwi mac mre mkn mth) ++ [(qn0, .inl (cI, mwi.toNatClampNeg, .inl ext0))]) H → va_D A ((wMo cJ cZ b mce mfr mun mbe men mov msp mwb mwe mwi mac mre mkn mth) ++ [(qn0, .inl (cI, mwi.toNatClampNeg, .inl ext0))]) → va_S A s.heap H locs → ∀ (ls : Array Slot), lv_has ls 5 (kvA 0 (b 0) (kvA 1 qn0 (kvI 2 x2 (kvI 3 x3 (kvI 4 x4 kvE))))) → f_X3_roomsNow_42 K33 n mwb mwe mwi ext0 x2 x3 x4 = some res → W p l e (headSpec wsX3_roomsNow (kRm 2 1 16 49)).room s m ([.ref (b 0)] : List Value).toArray below meth c H locs 1 16 (MQ below (kR (dC, dI) (.inl (cI, mwi.toNatClampNeg, .inl (res))) (wMo cJ cZ b mce mfr mun mbe men mov msp mwb mwe mwi mac mre mkn mth) A) ([.ref (b 0)] : List Value).toArray s 1 16 A) (F0 m 42 ls []) := by
    intro K33 hK33 n
    induction n with
    | zero =>
      intro mce mfr mun mbe men mov msp mwb mwe mwi mac mre mkn mth ext0 x2 x3 x4 qn0 H locs hP hD hS ls hl h
      have h := f_X3_roomsNow_42_0.symm.trans h
      cases h
    | succ n ih =>
      intro mce mfr mun mbe men mov msp mwb mwe mwi mac mre mkn mth ext0 x2 x3 x4 qn0 H locs hP hD hS ls hl h
      have h := f_X3_roomsNow_42_s.symm.trans h
      refine lv_iload hx hb (kdr dgX3_roomsNow_6 2 3 rfl rfl) (lv_at hl 4 rfl) ?_
      refine lv_aload_n hx hb (kdr dgX3_roomsNow_6 2 4 rfl rfl) rfl (lv_at hl 0 rfl) ?_
      refine va_get (D := (dC, dI)) (ci := 5) (v := .int mwi) (C := RX3) (T := TX3) (N := 14) hx hb hts hiX3 hown hK hP 0 rfl rfl 9 (by decide) hw0 (fun _ h9 => h9) rfl (kdr dgX3_roomsNow_6 2 5 rfl rfl) ?_
      refine lv_icmp_ge (tgt := 81) hx hb (kdr dgX3_roomsNow_6 2 6 rfl rfl) (by decide) (fun c1 => ?_) (fun c1 => ?_)
      · have h := g_t c1 h
        refine lv_aload_n hx hb (kdr dgX3_roomsNow_6 4 2 rfl rfl) rfl (lv_at hl 1 rfl) ?_
        refine lv_iload_n hx hb (kdr dgX3_roomsNow_6 4 3 rfl rfl) rfl (lv_at hl 2 rfl) ?_
        refine lv_iload_n hx hb (kdr dgX3_roomsNow_6 4 4 rfl rfl) rfl (lv_at hl 3 rfl) ?_
        obtain ⟨z1, h⟩ := g_if h
        refine va_iast hx hb hK hP hD hS 7 1 rfl rfl (ix_in z1) (kdr dgX3_roomsNow_6 4 5 rfl rfl) (fun H locs hP hD hS => ?_)
        have hP : va_P (dC, dI) vwCl ((wMo cJ cZ b mce mfr mun mbe men mov msp mwb mwe mwi mac mre mkn mth) ++ [(qn0, .inl (cI, mwi.toNatClampNeg, .inl (upd ext0 x2.toNatClampNeg x3)))]) H := hP
        have hD : va_D A ((wMo cJ cZ b mce mfr mun mbe men mov msp mwb mwe mwi mac mre mkn mth) ++ [(qn0, .inl (cI, mwi.toNatClampNeg, .inl (upd ext0 x2.toNatClampNeg x3)))]) := hD
        refine lv_aload_n hx hb (kdr dgX3_roomsNow_6 4 6 rfl rfl) rfl (lv_at hl 0 rfl) ?_
        refine lv_aload_n hx hb (kdr dgX3_roomsNow_6 4 7 rfl rfl) rfl (lv_at hl 1 rfl) ?_
        obtain ⟨r3, g3, h⟩ := g_b h
        refine kq_i ((wMo cJ cZ b mce mfr mun mbe men mov msp mwb mwe mwi mac mre mkn mth) ++ [(qn0, .inl (cI, mwi.toNatClampNeg, .inl (upd ext0 x2.toNatClampNeg x3)))]) (fun qP qD qF => va_runV (As := [.ref qn0]) (rest := []) ⟨hx, hb, hml, hown, hts⟩ (c_X3_nextWish l dC dI cB cI cJ cZ b qn0 mwi.toNatClampNeg _ mce mfr mun mbe men mov msp mwb mwe mwi mac mre mkn mth (upd ext0 x2.toNatClampNeg x3)  r3 g3) (kcwV hts kw_1442 kv_X3_nextWish rfl rfl ⟨(Nat.le_of_ble_eq_true rfl), (Nat.le_of_ble_eq_true rfl)⟩) (kpV (A := A) qP hK qD hG (krecv_5 (q0 := 0) hK hP rfl)) rfl rfl hl.1 rfl (lv_room (Nat.le_of_ble_eq_true rfl)) (kdr dgX3_roomsNow_6 4 8 rfl rfl) ⟨(Nat.le_of_ble_eq_true rfl), (Nat.le_of_ble_eq_true rfl)⟩) hP hD hS hA (kFr_2 kFr_Mo kFr_o) (fun H locs hP hD hS br3 => ?_)
        refine lv_istore_n (lv' := (kvI 2 r3 (kvA 0 (b 0) (kvA 1 qn0 (kvI 3 x3 (kvI 4 x4 kvE)))))) hx hb (kdr dgX3_roomsNow_6 4 9 rfl rfl) rfl hl (by decide) rfl (fun ls hl => ?_)
        refine lv_goto (tgt := 33) hx hb (kdr dgX3_roomsNow_6 5 0 rfl rfl) (by decide) ?_
        exact hK33 mce mfr mun mbe men mov msp mwb mwe mwi mac mre mkn mth (upd ext0 x2.toNatClampNeg x3) r3 qn0 _ _ hP hD hS ls (lv_sub hl [1, 2, 0] rfl) h
      · have h := g_f c1 h
        refine lv_aload_n hx hb (kdr dgX3_roomsNow_6 2 7 rfl rfl) rfl (lv_at hl 1 rfl) ?_
        refine lv_iload hx hb (kdr dgX3_roomsNow_6 2 8 rfl rfl) (lv_at hl 4 rfl) ?_
        obtain ⟨z1, h⟩ := g_if h
        refine va_iald hx hb hK hP 7 1 rfl rfl (ix_in z1) (kdr dgX3_roomsNow_6 2 9 rfl rfl) ?_
        refine lv_iload_n hx hb (kdr dgX3_roomsNow_6 3 0 rfl rfl) rfl (lv_at hl 3 rfl) ?_
        refine lv_icmp_ne (tgt := 75) hx hb (kdr dgX3_roomsNow_6 3 1 rfl rfl) (by decide) (fun c3 => ?_) (fun c3 => ?_)
        · have h := g_f c3 h
          refine lv_iinc (v := x4 + 1) (lv' := (kvI 4 (x4 + 1) (kvA 0 (b 0) (kvA 1 qn0 (kvI 2 x2 (kvI 3 x3 kvE)))))) hx hb (kdr dgX3_roomsNow_6 4 0 rfl rfl) hl (k := 4) rfl rfl (by decide) rfl (fun ls hl => ?_)
          refine lv_goto (tgt := 42) hx hb (kdr dgX3_roomsNow_6 4 1 rfl rfl) (by decide) ?_
          exact ih mce mfr mun mbe men mov msp mwb mwe mwi mac mre mkn mth ext0 x2 x3 (x4 + 1) qn0 _ _ hP hD hS ls (lv_sub hl [1, 2, 3, 4, 0] rfl) h
        · have h := g_t c3 h
          refine lv_aload_n hx hb (kdr dgX3_roomsNow_6 3 2 rfl rfl) rfl (lv_at hl 0 rfl) ?_
          refine lv_iload_n hx hb (kdr dgX3_roomsNow_6 3 3 rfl rfl) rfl (lv_at hl 2 rfl) ?_
          refine lv_iload hx hb (kdr dgX3_roomsNow_6 3 4 rfl rfl) (lv_at hl 4 rfl) ?_
          obtain ⟨r4, g4, h⟩ := g_b h
          refine kq_i ((wMo cJ cZ b mce mfr mun mbe men mov msp mwb mwe mwi mac mre mkn mth) ++ [(qn0, .inl (cI, mwi.toNatClampNeg, .inl ext0))]) (fun qP qD qF => va_runV (As := [.int x2, .int x4]) (rest := []) ⟨hx, hb, hml, hown, hts⟩ (c_X3_wishesMeet l dC dI cB cI cJ cZ b _ mce mfr mun mbe men mov msp mwb mwe mwi mac mre mkn mth x2 x4 r4 g4) (kcwV hts kw_1407 kv_X3_wishesMeet rfl rfl ⟨(Nat.le_of_ble_eq_true rfl), (Nat.le_of_ble_eq_true rfl)⟩) (kpV (A := A) qP hK qD hG (krecv_5 (q0 := 0) hK hP rfl)) rfl rfl hl.1 rfl (lv_room (Nat.le_of_ble_eq_true rfl)) (kdr dgX3_roomsNow_6 3 5 rfl rfl) ⟨(Nat.le_of_ble_eq_true rfl), (Nat.le_of_ble_eq_true rfl)⟩) hP hD hS hA (kFr_l kFr_Mo) (fun H locs hP hD hS br4 => ?_)
          refine lv_if_eq (tgt := 75) hx hb (kdr dgX3_roomsNow_6 3 6 rfl rfl) (by decide) (fun c5 => ?_) (fun c5 => ?_)
          · have h := g_t c5 h
            refine lv_iinc (v := x4 + 1) (lv' := (kvI 4 (x4 + 1) (kvA 0 (b 0) (kvA 1 qn0 (kvI 2 x2 (kvI 3 x3 kvE)))))) hx hb (kdr dgX3_roomsNow_6 4 0 rfl rfl) hl (k := 4) rfl rfl (by decide) rfl (fun ls hl => ?_)
            refine lv_goto (tgt := 42) hx hb (kdr dgX3_roomsNow_6 4 1 rfl rfl) (by decide) ?_
            exact ih mce mfr mun mbe men mov msp mwb mwe mwi mac mre mkn mth ext0 x2 x3 (x4 + 1) qn0 _ _ hP hD hS ls (lv_sub hl [1, 2, 3, 4, 0] rfl) h
          · have h := g_f c5 h
            refine lv_iinc (v := x3 + 1) (lv' := (kvI 3 (x3 + 1) (kvA 0 (b 0) (kvA 1 qn0 (kvI 2 x2 (kvI 4 x4 kvE)))))) hx hb (kdr dgX3_roomsNow_6 3 7 rfl rfl) hl (k := 3) rfl rfl (by decide) rfl (fun ls hl => ?_)
            refine lv_iconst (v := (-1)) hx hb (kdr dgX3_roomsNow_6 3 8 rfl rfl) (by decide) ?_
            refine lv_istore (lv' := (kvI 4 (-1) (kvI 3 (x3 + 1) (kvA 0 (b 0) (kvA 1 qn0 (kvI 2 x2 kvE)))))) hx hb (kdr dgX3_roomsNow_6 3 9 rfl rfl) hl (by decide) rfl (fun ls hl => ?_)
            refine lv_iinc (v := (-1) + 1) (lv' := (kvI 4 ((-1) + 1) (kvI 3 (x3 + 1) (kvA 0 (b 0) (kvA 1 qn0 (kvI 2 x2 kvE)))))) hx hb (kdr dgX3_roomsNow_6 4 0 rfl rfl) hl (k := 0) rfl rfl (by decide) rfl (fun ls hl => ?_)
            refine lv_goto (tgt := 42) hx hb (kdr dgX3_roomsNow_6 4 1 rfl rfl) (by decide) ?_
            exact ih mce mfr mun mbe men mov msp mwb mwe mwi mac mre mkn mth ext0 x2 (x3 + 1) ((-1) + 1) qn0 _ _ hP hD hS ls (lv_sub hl [2, 3, 4, 1, 0] rfl) h
  have J33 : ∀ (n : Nat), ∀ (mce : Nat → Int64) (mfr : Int64) (mun : Int64) (mbe : Nat → Int64) (men : Nat → Int64) (mov : Nat → Int32) (msp : Int32) (mwb : Nat → Int64) (mwe : Nat → Int64) (mwi : Int32) (mac : Int32) (mre : Int32) (mkn : Int32) (mth : Int32) (ext0 : Nat → Int32) (x2 : Int32) (qn0 : Nat) (H : Heap) (locs : List Loc), va_P (dC, dI) vwCl ((wMo cJ cZ b mce mfr mun mbe men mov msp mwb mwe mwi mac mre mkn mth) ++ [(qn0, .inl (cI, mwi.toNatClampNeg, .inl ext0))]) H → va_D A ((wMo cJ cZ b mce mfr mun mbe men mov msp mwb mwe mwi mac mre mkn mth) ++ [(qn0, .inl (cI, mwi.toNatClampNeg, .inl ext0))]) → va_S A s.heap H locs → ∀ (ls : Array Slot), lv_has ls 5 (kvA 0 (b 0) (kvA 1 qn0 (kvI 2 x2 kvE))) → f_X3_roomsNow_33 n mwb mwe mwi ext0 x2 = some res → W p l e (headSpec wsX3_roomsNow (kRm 2 1 16 49)).room s m ([.ref (b 0)] : List Value).toArray below meth c H locs 1 16 (MQ below (kR (dC, dI) (.inl (cI, mwi.toNatClampNeg, .inl (res))) (wMo cJ cZ b mce mfr mun mbe men mov msp mwb mwe mwi mac mre mkn mth) A) ([.ref (b 0)] : List Value).toArray s 1 16 A) (F0 m 33 ls []) := by
    intro n
    induction n with
    | zero =>
      intro mce mfr mun mbe men mov msp mwb mwe mwi mac mre mkn mth ext0 x2 qn0 H locs hP hD hS ls hl h
      have h := f_X3_roomsNow_33_0.symm.trans h
      cases h
    | succ n ih =>
      intro mce mfr mun mbe men mov msp mwb mwe mwi mac mre mkn mth ext0 x2 qn0 H locs hP hD hS ls hl h
      have h := f_X3_roomsNow_33_s.symm.trans h
      refine lv_iload_n hx hb (kdr dgX3_roomsNow_6 1 7 rfl rfl) rfl (lv_at hl 2 rfl) ?_
      refine lv_if_lt (tgt := 94) hx hb (kdr dgX3_roomsNow_6 1 8 rfl rfl) (by decide) (fun c1 => ?_) (fun c1 => ?_)
      · have h := g_t c1 h
        refine lv_aload_n hx hb (kdr dgX3_roomsNow_6 5 1 rfl rfl) rfl (lv_at hl 1 rfl) ?_
        have h := Option.some.inj h
        subst h
        refine W.widen (k := 1) (n := 16) (Nat.le_of_ble_eq_true rfl) (Nat.le_of_ble_eq_true rfl) ?_
        exact kret_r (q := qn0) hx hb hr (Or.inr ⟨_, rfl⟩) hlocks hS hP hD (kdr dgX3_roomsNow_6 5 2 rfl rfl)
      · have h := g_f c1 h
        refine lv_iconst (v := 0) hx hb (kdr dgX3_roomsNow_6 1 9 rfl rfl) (by decide) ?_
        refine lv_istore_n (lv' := (kvI 3 0 (kvA 0 (b 0) (kvA 1 qn0 (kvI 2 x2 kvE))))) hx hb (kdr dgX3_roomsNow_6 2 0 rfl rfl) rfl hl (by decide) rfl (fun ls hl => ?_)
        refine lv_iconst (v := 0) hx hb (kdr dgX3_roomsNow_6 2 1 rfl rfl) (by decide) ?_
        refine lv_istore (lv' := (kvI 4 0 (kvI 3 0 (kvA 0 (b 0) (kvA 1 qn0 (kvI 2 x2 kvE)))))) hx hb (kdr dgX3_roomsNow_6 2 2 rfl rfl) hl (by decide) rfl (fun ls hl => ?_)
        exact J42 (f_X3_roomsNow_33 n) ih 120 mce mfr mun mbe men mov msp mwb mwe mwi mac mre mkn mth ext0 x2 0 0 qn0 _ _ hP hD hS ls (lv_sub hl [2, 3, 4, 1, 0] rfl) h
  have J9 : ∀ (n : Nat), ∀ (mce : Nat → Int64) (mfr : Int64) (mun : Int64) (mbe : Nat → Int64) (men : Nat → Int64) (mov : Nat → Int32) (msp : Int32) (mwb : Nat → Int64) (mwe : Nat → Int64) (mwi : Int32) (mac : Int32) (mre : Int32) (mkn : Int32) (mth : Int32) (ext0 : Nat → Int32) (x2 : Int32) (qn0 : Nat) (H : Heap) (locs : List Loc), va_P (dC, dI) vwCl ((wMo cJ cZ b mce mfr mun mbe men mov msp mwb mwe mwi mac mre mkn mth) ++ [(qn0, .inl (cI, mwi.toNatClampNeg, .inl ext0))]) H → va_D A ((wMo cJ cZ b mce mfr mun mbe men mov msp mwb mwe mwi mac mre mkn mth) ++ [(qn0, .inl (cI, mwi.toNatClampNeg, .inl ext0))]) → va_S A s.heap H locs → ∀ (ls : Array Slot), lv_has ls 5 (kvA 0 (b 0) (kvA 1 qn0 (kvI 2 x2 kvE))) → f_X3_roomsNow_9 n mwb mwe mwi ext0 x2 = some res → W p l e (headSpec wsX3_roomsNow (kRm 2 1 16 49)).room s m ([.ref (b 0)] : List Value).toArray below meth c H locs 1 16 (MQ below (kR (dC, dI) (.inl (cI, mwi.toNatClampNeg, .inl (res))) (wMo cJ cZ b mce mfr mun mbe men mov msp mwb mwe mwi mac mre mkn mth) A) ([.ref (b 0)] : List Value).toArray s 1 16 A) (F0 m 9 ls []) := by
    intro n
    induction n with
    | zero =>
      intro mce mfr mun mbe men mov msp mwb mwe mwi mac mre mkn mth ext0 x2 qn0 H locs hP hD hS ls hl h
      have h := f_X3_roomsNow_9_0.symm.trans h
      cases h
    | succ n ih =>
      intro mce mfr mun mbe men mov msp mwb mwe mwi mac mre mkn mth ext0 x2 qn0 H locs hP hD hS ls hl h
      have h := f_X3_roomsNow_9_s.symm.trans h
      refine lv_iload_n hx hb (kdr dgX3_roomsNow_6 0 3 rfl rfl) rfl (lv_at hl 2 rfl) ?_
      refine lv_aload_n hx hb (kdr dgX3_roomsNow_6 0 4 rfl rfl) rfl (lv_at hl 0 rfl) ?_
      refine va_get (D := (dC, dI)) (ci := 5) (v := .int mwi) (C := RX3) (T := TX3) (N := 14) hx hb hts hiX3 hown hK hP 0 rfl rfl 9 (by decide) hw0 (fun _ h9 => h9) rfl (kdr dgX3_roomsNow_6 0 5 rfl rfl) ?_
      refine lv_icmp_ge (tgt := 27) hx hb (kdr dgX3_roomsNow_6 0 6 rfl rfl) (by decide) (fun c1 => ?_) (fun c1 => ?_)
      · have h := g_t c1 h
        refine lv_aload_n hx hb (kdr dgX3_roomsNow_6 1 3 rfl rfl) rfl (lv_at hl 0 rfl) ?_
        refine lv_aload_n hx hb (kdr dgX3_roomsNow_6 1 4 rfl rfl) rfl (lv_at hl 1 rfl) ?_
        obtain ⟨r2, g2, h⟩ := g_b h
        refine kq_i ((wMo cJ cZ b mce mfr mun mbe men mov msp mwb mwe mwi mac mre mkn mth) ++ [(qn0, .inl (cI, mwi.toNatClampNeg, .inl ext0))]) (fun qP qD qF => va_runV (As := [.ref qn0]) (rest := []) ⟨hx, hb, hml, hown, hts⟩ (c_X3_nextWish l dC dI cB cI cJ cZ b qn0 mwi.toNatClampNeg _ mce mfr mun mbe men mov msp mwb mwe mwi mac mre mkn mth ext0  r2 g2) (kcwV hts kw_1442 kv_X3_nextWish rfl rfl ⟨(Nat.le_of_ble_eq_true rfl), (Nat.le_of_ble_eq_true rfl)⟩) (kpV (A := A) qP hK qD hG (krecv_5 (q0 := 0) hK hP rfl)) rfl rfl hl.1 rfl (lv_room (Nat.le_of_ble_eq_true rfl)) (kdr dgX3_roomsNow_6 1 5 rfl rfl) ⟨(Nat.le_of_ble_eq_true rfl), (Nat.le_of_ble_eq_true rfl)⟩) hP hD hS hA (kFr_2 kFr_Mo kFr_o) (fun H locs hP hD hS br2 => ?_)
        refine lv_istore_n (lv' := (kvI 2 r2 (kvA 0 (b 0) (kvA 1 qn0 kvE)))) hx hb (kdr dgX3_roomsNow_6 1 6 rfl rfl) rfl hl (by decide) rfl (fun ls hl => ?_)
        exact J33 24 mce mfr mun mbe men mov msp mwb mwe mwi mac mre mkn mth ext0 r2 qn0 _ _ hP hD hS ls (lv_sub hl [1, 2, 0] rfl) h
      · have h := g_f c1 h
        refine lv_aload_n hx hb (kdr dgX3_roomsNow_6 0 7 rfl rfl) rfl (lv_at hl 1 rfl) ?_
        refine lv_iload_n hx hb (kdr dgX3_roomsNow_6 0 8 rfl rfl) rfl (lv_at hl 2 rfl) ?_
        refine lv_iconst (v := (-1)) hx hb (kdr dgX3_roomsNow_6 0 9 rfl rfl) (by decide) ?_
        obtain ⟨z1, h⟩ := g_if h
        refine va_iast hx hb hK hP hD hS 7 1 rfl rfl (ix_in z1) (kdr dgX3_roomsNow_6 1 0 rfl rfl) (fun H locs hP hD hS => ?_)
        have hP : va_P (dC, dI) vwCl ((wMo cJ cZ b mce mfr mun mbe men mov msp mwb mwe mwi mac mre mkn mth) ++ [(qn0, .inl (cI, mwi.toNatClampNeg, .inl (upd ext0 x2.toNatClampNeg (-1))))]) H := hP
        have hD : va_D A ((wMo cJ cZ b mce mfr mun mbe men mov msp mwb mwe mwi mac mre mkn mth) ++ [(qn0, .inl (cI, mwi.toNatClampNeg, .inl (upd ext0 x2.toNatClampNeg (-1))))]) := hD
        refine lv_iinc (v := x2 + 1) (lv' := (kvI 2 (x2 + 1) (kvA 0 (b 0) (kvA 1 qn0 kvE)))) hx hb (kdr dgX3_roomsNow_6 1 1 rfl rfl) hl (k := 2) rfl rfl (by decide) rfl (fun ls hl => ?_)
        refine lv_goto (tgt := 9) hx hb (kdr dgX3_roomsNow_6 1 2 rfl rfl) (by decide) ?_
        exact ih mce mfr mun mbe men mov msp mwb mwe mwi mac mre mkn mth (upd ext0 x2.toNatClampNeg (-1)) (x2 + 1) qn0 _ _ hP hD hS ls (lv_sub hl [1, 2, 0] rfl) h
  have hl := lv_entry ([.ref (b 0)]) (n := 5) (Nat.le_of_ble_eq_true rfl)
  rw [lg_entry_eq]
  generalize (lg_sl ([.ref (b 0)]) ++ List.replicate (5 - (lg_sl ([.ref (b 0)])).length) Slot.unset).toArray = ls at hl ⊢
  have hl : lv_has ls 5 (kvA 0 (b 0) kvE) := hl
  have h := f_X3_roomsNow_e.symm.trans hf
  refine lv_aload_n hx hb (kdr dgX3_roomsNow_0 0 0 rfl rfl) rfl (lv_at hl 0 rfl) ?_
  refine va_get (D := (dC, dI)) (ci := 5) (v := .int mwi) (C := RX3) (T := TX3) (N := 14) hx hb hts hiX3 hown hK hP 0 rfl rfl 9 (by decide) hw0 (fun _ h9 => h9) rfl (kdr dgX3_roomsNow_0 0 1 rfl rfl) ?_
  obtain ⟨z0, h⟩ := g_if h
  refine va_newa (atype := .int) (ty := .int) (a0 := (mwi.toNatClampNeg, .inl (fun _ => 0))) hx hb hw1 rfl hK hP hD hS hA (fun _ => rfl) (kn_pos z0) rfl (kn_by z0 (by decide)) (Nat.le_of_ble_eq_true rfl) (kn_slg z0 (Nat.le_of_ble_eq_true rfl)) dX3_roomsNow_4 (fun qn0 cA H hK9 hP hD hS => ?_)
  have e9 : cA = cI := k_cA hK9 1 rfl
  rw [e9] at hP hD
  have hP : va_P (dC, dI) vwCl ((wMo cJ cZ b mce mfr mun mbe men mov msp mwb mwe mwi mac mre mkn mth) ++ [(qn0, .inl (cI, mwi.toNatClampNeg, .inl (fun _ => 0)))]) H := hP
  have hD : va_D A ((wMo cJ cZ b mce mfr mun mbe men mov msp mwb mwe mwi mac mre mkn mth) ++ [(qn0, .inl (cI, mwi.toNatClampNeg, .inl (fun _ => 0)))]) := hD
  refine W.widen (k := 1) (n := 16) (Nat.le_of_ble_eq_true rfl) (kn_slg z0 (Nat.le_of_ble_eq_true rfl)) ?_
  refine lv_astore_n (lv' := (kvA 1 qn0 (kvA 0 (b 0) kvE))) hx hb (kdr dgX3_roomsNow_6 0 0 rfl rfl) rfl hl (by decide) rfl (fun ls hl => ?_)
  refine lv_iconst (v := 0) hx hb (kdr dgX3_roomsNow_6 0 1 rfl rfl) (by decide) ?_
  refine lv_istore_n (lv' := (kvI 2 0 (kvA 1 qn0 (kvA 0 (b 0) kvE)))) hx hb (kdr dgX3_roomsNow_6 0 2 rfl rfl) rfl hl (by decide) rfl (fun ls hl => ?_)
  exact J9 24 mce mfr mun mbe men mov msp mwb mwe mwi mac mre mkn mth (fun _ => 0) 0 qn0 _ _ hP hD hS ls (lv_sub hl [2, 1, 0] rfl) h
noncomputable abbrev wsX3_roomsOf : List Cond := kWs yX3_roomsOf cX3_roomsOf 6 (some .int)
noncomputable def f_X3_roomsOf_13 : Nat → (Int32) → (Nat → Int32) → (Int32) → (Int32) → (Int32) → Option (Int32)
  | 0, _, _, _, _, _ => none
  | n + 1, mwi, ext0, x1, x3, x4 =>
    if x3 ≤ x4 then
      some x1
    else
      if ix x4 mwi.toNatClampNeg then
        f_X3_roomsOf_13 n mwi ext0 (if x1 < ((ext0 x4.toNatClampNeg) + 1) then (ext0 x4.toNatClampNeg) + 1 else x1) x3 (x4 + 1)
      else none
theorem f_X3_roomsOf_13_0 {mwi : Int32} {ext0 : Nat → Int32} {x1 : Int32} {x3 : Int32} {x4 : Int32} : f_X3_roomsOf_13 0 mwi ext0 x1 x3 x4 = none := rfl
theorem f_X3_roomsOf_13_s {n : Nat} {mwi : Int32} {ext0 : Nat → Int32} {x1 : Int32} {x3 : Int32} {x4 : Int32} : f_X3_roomsOf_13 (n + 1) mwi ext0 x1 x3 x4 =
  if x3 ≤ x4 then
    some x1
  else
    if ix x4 mwi.toNatClampNeg then
      f_X3_roomsOf_13 n mwi ext0 (if x1 < ((ext0 x4.toNatClampNeg) + 1) then (ext0 x4.toNatClampNeg) + 1 else x1) x3 (x4 + 1)
    else none := rfl
noncomputable def f_X3_roomsOf (mwb : Nat → Int64) (mwe : Nat → Int64) (mwi : Int32) : Option (Int32) :=
  (f_X3_roomsNow mwb mwe mwi).bind fun r1 =>
  f_X3_roomsOf_13 24 mwi r1 0 (Int32.ofNat mwi.toNatClampNeg) 0
theorem f_X3_roomsOf_e {mwb : Nat → Int64} {mwe : Nat → Int64} {mwi : Int32} : f_X3_roomsOf mwb mwe mwi = 
  (f_X3_roomsNow mwb mwe mwi).bind fun r1 =>
  f_X3_roomsOf_13 24 mwi r1 0 (Int32.ofNat mwi.toNatClampNeg) 0 := rfl
set_option maxHeartbeats 4000000 in
set_option maxRecDepth 100000 in
theorem c_X3_roomsOf (l : Launch) (dC : Nat → ClassId) (dI : Nat → Nat → Nat) (cB cI cJ cZ : ClassId) (b : Nat → Nat) (sz : Nat) (mce : Nat → Int64) (mfr : Int64) (mun : Int64) (mbe : Nat → Int64) (men : Nat → Int64) (mov : Nat → Int32) (msp : Int32) (mwb : Nat → Int64) (mwe : Nat → Int64) (mwi : Int32) (mac : Int32) (mre : Int32) (mkn : Int32) (mth : Int32) (res : Int32) (hf : f_X3_roomsOf mwb mwe mwi = some res) : kMi l yX3_roomsOf wsX3_roomsOf (kRm 3 1 16 73) dC dI cB cI cJ cZ [.ref (b 0)] sz (wMo cJ cZ b mce mfr mun mbe men mov msp mwb mwe mwi mac mre mkn mth) .int (res) (wMo cJ cZ b mce mfr mun mbe men mov msp mwb mwe mwi mac mre mkn mth) 1 16 := by
  refine kmet_i (y := yX3_roomsOf) (cc := cX3_roomsOf) (maxL := 6) (ret := (some .int)) RX3 (kvA 0 (b 0) kvE) kpl_X3 rfl rfl (Nat.le_of_ble_eq_true rfl) rfl (fun p e s m below meth c A ls hx hb hr hml hts hown hlocks hP hK hG hD hA hS hl => ?_)
  have hw0 := hts (.methodLink RX3 74 Lib.Math.max.name) (List.mem_cons_of_mem _ kw_1355)
  have hw1 := hts (.static Lib.Math.max.name) (List.mem_cons_of_mem _ kw_176)
  have hw2 := hts (.initialized "java/lang/Math") (List.mem_cons_of_mem _ kw_66)
  have hw3 := hts (.code Lib.Math.max.name Lib.Math.max.code 2 (some .int)) (List.mem_cons_of_mem _ kw_177)
  have J13 : ∀ (n : Nat), ∀ (mce : Nat → Int64) (mfr : Int64) (mun : Int64) (mbe : Nat → Int64) (men : Nat → Int64) (mov : Nat → Int32) (msp : Int32) (mwb : Nat → Int64) (mwe : Nat → Int64) (mwi : Int32) (mac : Int32) (mre : Int32) (mkn : Int32) (mth : Int32) (ext0 : Nat → Int32) (x1 : Int32) (x3 : Int32) (x4 : Int32) (qn0 : Nat) (H : Heap) (locs : List Loc), va_P (dC, dI) vwCl ((wMo cJ cZ b mce mfr mun mbe men mov msp mwb mwe mwi mac mre mkn mth) ++ [(qn0, .inl (cI, mwi.toNatClampNeg, .inl ext0))]) H → va_D A ((wMo cJ cZ b mce mfr mun mbe men mov msp mwb mwe mwi mac mre mkn mth) ++ [(qn0, .inl (cI, mwi.toNatClampNeg, .inl ext0))]) → va_S A s.heap H locs → ∀ (ls : Array Slot), lv_has ls 6 (kvI 1 x1 (kvA 2 qn0 (kvI 3 x3 (kvI 4 x4 kvE)))) → f_X3_roomsOf_13 n mwi ext0 x1 x3 x4 = some res → W p l e (headSpec wsX3_roomsOf (kRm 3 1 16 73)).room s m ([.ref (b 0)] : List Value).toArray below meth c H locs 1 16 (MQ below (kI (dC, dI) .int (res) (wMo cJ cZ b mce mfr mun mbe men mov msp mwb mwe mwi mac mre mkn mth) A) ([.ref (b 0)] : List Value).toArray s 1 16 A) (F0 m 13 ls []) := by
    intro n
    induction n with
    | zero =>
      intro mce mfr mun mbe men mov msp mwb mwe mwi mac mre mkn mth ext0 x1 x3 x4 qn0 H locs hP hD hS ls hl h
      have h := f_X3_roomsOf_13_0.symm.trans h
      cases h
    | succ n ih =>
      intro mce mfr mun mbe men mov msp mwb mwe mwi mac mre mkn mth ext0 x1 x3 x4 qn0 H locs hP hD hS ls hl h
      have h := f_X3_roomsOf_13_s.symm.trans h
      refine lv_iload hx hb (kdr dgX3_roomsOf_0 1 0 rfl rfl) (lv_at hl 3 rfl) ?_
      refine lv_iload_n hx hb (kdr dgX3_roomsOf_0 1 1 rfl rfl) rfl (lv_at hl 2 rfl) ?_
      refine lv_icmp_ge (tgt := 40) hx hb (kdr dgX3_roomsOf_0 1 2 rfl rfl) (by decide) (fun c1 => ?_) (fun c1 => ?_)
      · have h := g_t c1 h
        refine lv_iload_n hx hb (kdr dgX3_roomsOf_0 2 5 rfl rfl) rfl (lv_at hl 0 rfl) ?_
        have hP := hP.sub (ws' := (wMo cJ cZ b mce mfr mun mbe men mov msp mwb mwe mwi mac mre mkn mth)) [0, 1, 2, 3, 4, 5, 6] rfl
        have h := Option.some.inj h
        subst h
        refine W.widen (k := 1) (n := 16) (Nat.le_of_ble_eq_true rfl) (Nat.le_of_ble_eq_true rfl) ?_
        exact kret_i (v := x1) hx hb hr rfl hlocks hS hP (kdr dgX3_roomsOf_0 2 6 rfl rfl)
      · have h := g_f c1 h
        refine lv_aload_n hx hb (kdr dgX3_roomsOf_0 1 3 rfl rfl) rfl (lv_at hl 1 rfl) ?_
        refine lv_iload hx hb (kdr dgX3_roomsOf_0 1 4 rfl rfl) (lv_at hl 3 rfl) ?_
        obtain ⟨z1, h⟩ := g_if h
        refine va_iald hx hb hK hP 7 1 rfl rfl (ix_in z1) (kdr dgX3_roomsOf_0 1 5 rfl rfl) ?_
        refine lv_istore (lv' := (kvI 5 (ext0 x4.toNatClampNeg) (kvI 1 x1 (kvA 2 qn0 (kvI 3 x3 (kvI 4 x4 kvE)))))) hx hb (kdr dgX3_roomsOf_0 1 6 rfl rfl) hl (by decide) rfl (fun ls hl => ?_)
        refine lv_iload_n hx hb (kdr dgX3_roomsOf_0 1 7 rfl rfl) rfl (lv_at hl 1 rfl) ?_
        refine lv_iload hx hb (kdr dgX3_roomsOf_0 1 8 rfl rfl) (lv_at hl 0 rfl) ?_
        refine lv_iconst (v := 1) hx hb (kdr dgX3_roomsOf_0 1 9 rfl rfl) (by decide) ?_
        refine lv_iadd hx hb (kdr dgX3_roomsOf_0 2 0 rfl rfl) ?_
        refine va_mmax hx hb (hml.trans hl.1.symm) hown hw0 hw1 hw2 hw3 (Nat.le_of_ble_eq_true rfl) (Nat.le_of_ble_eq_true rfl) (Nat.le_of_ble_eq_true rfl) (Nat.le_of_ble_eq_true rfl) (kdr dgX3_roomsOf_0 2 1 rfl rfl) ?_
        refine lv_istore_n (lv' := (kvI 1 (if x1 < ((ext0 x4.toNatClampNeg) + 1) then (ext0 x4.toNatClampNeg) + 1 else x1) (kvI 5 (ext0 x4.toNatClampNeg) (kvA 2 qn0 (kvI 3 x3 (kvI 4 x4 kvE)))))) hx hb (kdr dgX3_roomsOf_0 2 2 rfl rfl) rfl hl (by decide) rfl (fun ls hl => ?_)
        refine lv_iinc (v := x4 + 1) (lv' := (kvI 4 (x4 + 1) (kvI 1 (if x1 < ((ext0 x4.toNatClampNeg) + 1) then (ext0 x4.toNatClampNeg) + 1 else x1) (kvI 5 (ext0 x4.toNatClampNeg) (kvA 2 qn0 (kvI 3 x3 kvE)))))) hx hb (kdr dgX3_roomsOf_0 2 3 rfl rfl) hl (k := 4) rfl rfl (by decide) rfl (fun ls hl => ?_)
        refine lv_goto (tgt := 13) hx hb (kdr dgX3_roomsOf_0 2 4 rfl rfl) (by decide) ?_
        exact ih mce mfr mun mbe men mov msp mwb mwe mwi mac mre mkn mth ext0 (if x1 < ((ext0 x4.toNatClampNeg) + 1) then (ext0 x4.toNatClampNeg) + 1 else x1) x3 (x4 + 1) qn0 _ _ hP hD hS ls (lv_sub hl [1, 3, 4, 0] rfl) h
  have h := f_X3_roomsOf_e.symm.trans hf
  refine lv_iconst (v := 0) hx hb (kdr dgX3_roomsOf_0 0 0 rfl rfl) (by decide) ?_
  refine lv_istore_n (lv' := (kvI 1 0 (kvA 0 (b 0) kvE))) hx hb (kdr dgX3_roomsOf_0 0 1 rfl rfl) rfl hl (by decide) rfl (fun ls hl => ?_)
  refine lv_aload_n hx hb (kdr dgX3_roomsOf_0 0 2 rfl rfl) rfl (lv_at hl 1 rfl) ?_
  obtain ⟨r1, g1, h⟩ := g_b h
  refine kcall_r (wMo cJ cZ b mce mfr mun mbe men mov msp mwb mwe mwi mac mre mkn mth) (va_runV (As := []) (rest := []) ⟨hx, hb, hml, hown, hts⟩ (c_X3_roomsNow l dC dI cB cI cJ cZ b _ mce mfr mun mbe men mov msp mwb mwe mwi mac mre mkn mth  r1 g1) (kcwV hts kw_1438 kv_X3_roomsNow rfl rfl ⟨(Nat.le_of_ble_eq_true rfl), (Nat.le_of_ble_eq_true rfl)⟩) (kpV (A := A) (hP.sub [0, 1, 2, 3, 4, 5, 6] rfl) hK (hD.sub [0, 1, 2, 3, 4, 5, 6] (by decide) rfl) hG (krecv_5 (q0 := 0) hK hP rfl)) rfl rfl hl.1 rfl (lv_room (Nat.le_of_ble_eq_true rfl)) (kdr dgX3_roomsOf_0 0 3 rfl rfl) ⟨(Nat.le_of_ble_eq_true rfl), (Nat.le_of_ble_eq_true rfl)⟩) hP hD hS hA [0, 1, 2, 3, 4, 5, 6] [] rfl rfl [] rfl rfl rfl (by decide) rfl rfl (fun qn0 H locs hP hD hS => ?_)
  have hP : va_P (dC, dI) vwCl ((wMo cJ cZ b mce mfr mun mbe men mov msp mwb mwe mwi mac mre mkn mth) ++ [(qn0, .inl (cI, mwi.toNatClampNeg, .inl r1))]) H := hP
  have hD : va_D A ((wMo cJ cZ b mce mfr mun mbe men mov msp mwb mwe mwi mac mre mkn mth) ++ [(qn0, .inl (cI, mwi.toNatClampNeg, .inl r1))]) := hD
  refine lv_astore_n (lv' := (kvA 2 qn0 (kvI 1 0 (kvA 0 (b 0) kvE)))) hx hb (kdr dgX3_roomsOf_0 0 4 rfl rfl) rfl hl (by decide) rfl (fun ls hl => ?_)
  refine lv_aload_n hx hb (kdr dgX3_roomsOf_0 0 5 rfl rfl) rfl (lv_at hl 0 rfl) ?_
  refine va_alen (v := Int32.ofNat mwi.toNatClampNeg) hx hb hK hP 7 1 rfl rfl rfl (kdr dgX3_roomsOf_0 0 6 rfl rfl) ?_
  refine lv_istore_n (lv' := (kvI 3 (Int32.ofNat mwi.toNatClampNeg) (kvA 2 qn0 (kvI 1 0 (kvA 0 (b 0) kvE))))) hx hb (kdr dgX3_roomsOf_0 0 7 rfl rfl) rfl hl (by decide) rfl (fun ls hl => ?_)
  refine lv_iconst (v := 0) hx hb (kdr dgX3_roomsOf_0 0 8 rfl rfl) (by decide) ?_
  refine lv_istore (lv' := (kvI 4 0 (kvI 3 (Int32.ofNat mwi.toNatClampNeg) (kvA 2 qn0 (kvI 1 0 (kvA 0 (b 0) kvE)))))) hx hb (kdr dgX3_roomsOf_0 0 9 rfl rfl) hl (by decide) rfl (fun ls hl => ?_)
  exact J13 24 mce mfr mun mbe men mov msp mwb mwe mwi mac mre mkn mth r1 0 (Int32.ofNat mwi.toNatClampNeg) 0 qn0 _ _ hP hD hS ls (lv_sub hl [3, 2, 1, 0] rfl) h
noncomputable abbrev wsX3_is : List Cond := kWs yX3_is cX3_is 1 (some .boolean)
noncomputable def f_X3_is (p0 : Int32) : Option (Int32) :=
  if p0 < 0 then
    some 0
  else
    if 4 ≤ p0 then
      some 0
    else
      some 1
theorem f_X3_is_e {p0 : Int32} : f_X3_is p0 = 
  if p0 < 0 then
    some 0
  else
    if 4 ≤ p0 then
      some 0
    else
      some 1 := rfl
set_option maxHeartbeats 4000000 in
set_option maxRecDepth 100000 in
theorem c_X3_is (l : Launch) (dC : Nat → ClassId) (dI : Nat → Nat → Nat) (cB cI cJ cZ : ClassId) (sz : Nat) (p0 : Int32) (res : Int32) (hf : f_X3_is p0 = some res) : kMi l yX3_is wsX3_is (kRm 0 0 0 0) dC dI cB cI cJ cZ [.int p0] sz [] .boolean (res) [] 0 0 := by
  refine kmet_i (y := yX3_is) (cc := cX3_is) (maxL := 1) (ret := (some .boolean)) RX3 (kvI 0 p0 kvE) kpl_X3 rfl rfl (Nat.le_of_ble_eq_true rfl) rfl (fun p e s m below meth c A ls hx hb hr hml hts hown hlocks hP hK hG hD hA hS hl => ?_)
  have h := f_X3_is_e.symm.trans hf
  refine lv_iload_n hx hb (kdr dgX3_is_0 0 0 rfl rfl) rfl (lv_at hl 0 rfl) ?_
  refine lv_if_lt (tgt := 13) hx hb (kdr dgX3_is_0 0 1 rfl rfl) (by decide) (fun c1 => ?_) (fun c1 => ?_)
  · have h := g_t c1 h
    refine lv_iconst (v := 0) hx hb (kdr dgX3_is_0 0 7 rfl rfl) (by decide) ?_
    have h := Option.some.inj h
    subst h
    exact kret_i (v := 0) hx hb hr rfl hlocks hS hP (kdr dgX3_is_0 0 8 rfl rfl)
  · have h := g_f c1 h
    refine lv_iload_n hx hb (kdr dgX3_is_0 0 2 rfl rfl) rfl (lv_at hl 0 rfl) ?_
    refine lv_iconst (v := 4) hx hb (kdr dgX3_is_0 0 3 rfl rfl) (by decide) ?_
    refine lv_icmp_ge (tgt := 13) hx hb (kdr dgX3_is_0 0 4 rfl rfl) (by decide) (fun c2 => ?_) (fun c2 => ?_)
    · have h := g_t c2 h
      refine lv_iconst (v := 0) hx hb (kdr dgX3_is_0 0 7 rfl rfl) (by decide) ?_
      have h := Option.some.inj h
      subst h
      exact kret_i (v := 0) hx hb hr rfl hlocks hS hP (kdr dgX3_is_0 0 8 rfl rfl)
    · have h := g_f c2 h
      refine lv_iconst (v := 1) hx hb (kdr dgX3_is_0 0 5 rfl rfl) (by decide) ?_
      refine lv_goto (tgt := 14) hx hb (kdr dgX3_is_0 0 6 rfl rfl) (by decide) ?_
      have h := Option.some.inj h
      subst h
      exact kret_i (v := 1) hx hb hr rfl hlocks hS hP (kdr dgX3_is_0 0 8 rfl rfl)
noncomputable abbrev wsX3_isSpan : List Cond := kWs yX3_isSpan cX3_isSpan 2 (some .boolean)
noncomputable def f_X3_isSpan (msp : Int32) (p0 : Int32) : Option (Int32) :=
  if p0 < 0 then
    some 0
  else
    if msp ≤ p0 then
      some 0
    else
      some 1
theorem f_X3_isSpan_e {msp : Int32} {p0 : Int32} : f_X3_isSpan msp p0 = 
  if p0 < 0 then
    some 0
  else
    if msp ≤ p0 then
      some 0
    else
      some 1 := rfl
set_option maxHeartbeats 4000000 in
set_option maxRecDepth 100000 in
theorem c_X3_isSpan (l : Launch) (dC : Nat → ClassId) (dI : Nat → Nat → Nat) (cB cI cJ cZ : ClassId) (b : Nat → Nat) (sz : Nat) (mce : Nat → Int64) (mfr : Int64) (mun : Int64) (mbe : Nat → Int64) (men : Nat → Int64) (mov : Nat → Int32) (msp : Int32) (mwb : Nat → Int64) (mwe : Nat → Int64) (mwi : Int32) (mac : Int32) (mre : Int32) (mkn : Int32) (mth : Int32) (p0 : Int32) (res : Int32) (hf : f_X3_isSpan msp p0 = some res) : kMi l yX3_isSpan wsX3_isSpan (kRm 0 0 0 0) dC dI cB cI cJ cZ [.ref (b 0), .int p0] sz (wMo cJ cZ b mce mfr mun mbe men mov msp mwb mwe mwi mac mre mkn mth) .boolean (res) (wMo cJ cZ b mce mfr mun mbe men mov msp mwb mwe mwi mac mre mkn mth) 0 0 := by
  refine kmet_i (y := yX3_isSpan) (cc := cX3_isSpan) (maxL := 2) (ret := (some .boolean)) RX3 (kvA 0 (b 0) (kvI 1 p0 kvE)) kpl_X3 rfl rfl (Nat.le_of_ble_eq_true rfl) rfl (fun p e s m below meth c A ls hx hb hr hml hts hown hlocks hP hK hG hD hA hS hl => ?_)
  have hw0 := hts (.fieldLink RX3 56 "SpanbookerModel" "spans" "I") (List.mem_cons_of_mem _ kw_1078)
  have hiX3 : ∀ w ∈ u_ws RX3 TX3 14, w ∈ wsX3_isSpan := fun w h => List.mem_cons_of_mem _ (ku_X3 w h)
  have h := f_X3_isSpan_e.symm.trans hf
  refine lv_iload_n hx hb (kdr dgX3_isSpan_0 0 0 rfl rfl) rfl (lv_at hl 1 rfl) ?_
  refine lv_if_lt (tgt := 16) hx hb (kdr dgX3_isSpan_0 0 1 rfl rfl) (by decide) (fun c1 => ?_) (fun c1 => ?_)
  · have h := g_t c1 h
    refine lv_iconst (v := 0) hx hb (kdr dgX3_isSpan_0 0 8 rfl rfl) (by decide) ?_
    have h := Option.some.inj h
    subst h
    exact kret_i (v := 0) hx hb hr rfl hlocks hS hP (kdr dgX3_isSpan_0 0 9 rfl rfl)
  · have h := g_f c1 h
    refine lv_iload_n hx hb (kdr dgX3_isSpan_0 0 2 rfl rfl) rfl (lv_at hl 1 rfl) ?_
    refine lv_aload_n hx hb (kdr dgX3_isSpan_0 0 3 rfl rfl) rfl (lv_at hl 0 rfl) ?_
    refine va_get (D := (dC, dI)) (ci := 5) (v := .int msp) (C := RX3) (T := TX3) (N := 14) hx hb hts hiX3 hown hK hP 0 rfl rfl 6 (by decide) hw0 (fun _ h9 => h9) rfl (kdr dgX3_isSpan_0 0 4 rfl rfl) ?_
    refine lv_icmp_ge (tgt := 16) hx hb (kdr dgX3_isSpan_0 0 5 rfl rfl) (by decide) (fun c2 => ?_) (fun c2 => ?_)
    · have h := g_t c2 h
      refine lv_iconst (v := 0) hx hb (kdr dgX3_isSpan_0 0 8 rfl rfl) (by decide) ?_
      have h := Option.some.inj h
      subst h
      exact kret_i (v := 0) hx hb hr rfl hlocks hS hP (kdr dgX3_isSpan_0 0 9 rfl rfl)
    · have h := g_f c2 h
      refine lv_iconst (v := 1) hx hb (kdr dgX3_isSpan_0 0 6 rfl rfl) (by decide) ?_
      refine lv_goto (tgt := 17) hx hb (kdr dgX3_isSpan_0 0 7 rfl rfl) (by decide) ?_
      have h := Option.some.inj h
      subst h
      exact kret_i (v := 1) hx hb hr rfl hlocks hS hP (kdr dgX3_isSpan_0 0 9 rfl rfl)
noncomputable abbrev wsX3_isWish : List Cond := kWs yX3_isWish cX3_isWish 2 (some .boolean)
noncomputable def f_X3_isWish (mwi : Int32) (p0 : Int32) : Option (Int32) :=
  if p0 < 0 then
    some 0
  else
    if mwi ≤ p0 then
      some 0
    else
      some 1
theorem f_X3_isWish_e {mwi : Int32} {p0 : Int32} : f_X3_isWish mwi p0 = 
  if p0 < 0 then
    some 0
  else
    if mwi ≤ p0 then
      some 0
    else
      some 1 := rfl
set_option maxHeartbeats 4000000 in
set_option maxRecDepth 100000 in
theorem c_X3_isWish (l : Launch) (dC : Nat → ClassId) (dI : Nat → Nat → Nat) (cB cI cJ cZ : ClassId) (b : Nat → Nat) (sz : Nat) (mce : Nat → Int64) (mfr : Int64) (mun : Int64) (mbe : Nat → Int64) (men : Nat → Int64) (mov : Nat → Int32) (msp : Int32) (mwb : Nat → Int64) (mwe : Nat → Int64) (mwi : Int32) (mac : Int32) (mre : Int32) (mkn : Int32) (mth : Int32) (p0 : Int32) (res : Int32) (hf : f_X3_isWish mwi p0 = some res) : kMi l yX3_isWish wsX3_isWish (kRm 0 0 0 0) dC dI cB cI cJ cZ [.ref (b 0), .int p0] sz (wMo cJ cZ b mce mfr mun mbe men mov msp mwb mwe mwi mac mre mkn mth) .boolean (res) (wMo cJ cZ b mce mfr mun mbe men mov msp mwb mwe mwi mac mre mkn mth) 0 0 := by
  refine kmet_i (y := yX3_isWish) (cc := cX3_isWish) (maxL := 2) (ret := (some .boolean)) RX3 (kvA 0 (b 0) (kvI 1 p0 kvE)) kpl_X3 rfl rfl (Nat.le_of_ble_eq_true rfl) rfl (fun p e s m below meth c A ls hx hb hr hml hts hown hlocks hP hK hG hD hA hS hl => ?_)
  have hw0 := hts (.fieldLink RX3 88 "SpanbookerModel" "wishes" "I") (List.mem_cons_of_mem _ kw_1081)
  have hiX3 : ∀ w ∈ u_ws RX3 TX3 14, w ∈ wsX3_isWish := fun w h => List.mem_cons_of_mem _ (ku_X3 w h)
  have h := f_X3_isWish_e.symm.trans hf
  refine lv_iload_n hx hb (kdr dgX3_isWish_0 0 0 rfl rfl) rfl (lv_at hl 1 rfl) ?_
  refine lv_if_lt (tgt := 16) hx hb (kdr dgX3_isWish_0 0 1 rfl rfl) (by decide) (fun c1 => ?_) (fun c1 => ?_)
  · have h := g_t c1 h
    refine lv_iconst (v := 0) hx hb (kdr dgX3_isWish_0 0 8 rfl rfl) (by decide) ?_
    have h := Option.some.inj h
    subst h
    exact kret_i (v := 0) hx hb hr rfl hlocks hS hP (kdr dgX3_isWish_0 0 9 rfl rfl)
  · have h := g_f c1 h
    refine lv_iload_n hx hb (kdr dgX3_isWish_0 0 2 rfl rfl) rfl (lv_at hl 1 rfl) ?_
    refine lv_aload_n hx hb (kdr dgX3_isWish_0 0 3 rfl rfl) rfl (lv_at hl 0 rfl) ?_
    refine va_get (D := (dC, dI)) (ci := 5) (v := .int mwi) (C := RX3) (T := TX3) (N := 14) hx hb hts hiX3 hown hK hP 0 rfl rfl 9 (by decide) hw0 (fun _ h9 => h9) rfl (kdr dgX3_isWish_0 0 4 rfl rfl) ?_
    refine lv_icmp_ge (tgt := 16) hx hb (kdr dgX3_isWish_0 0 5 rfl rfl) (by decide) (fun c2 => ?_) (fun c2 => ?_)
    · have h := g_t c2 h
      refine lv_iconst (v := 0) hx hb (kdr dgX3_isWish_0 0 8 rfl rfl) (by decide) ?_
      have h := Option.some.inj h
      subst h
      exact kret_i (v := 0) hx hb hr rfl hlocks hS hP (kdr dgX3_isWish_0 0 9 rfl rfl)
    · have h := g_f c2 h
      refine lv_iconst (v := 1) hx hb (kdr dgX3_isWish_0 0 6 rfl rfl) (by decide) ?_
      refine lv_goto (tgt := 17) hx hb (kdr dgX3_isWish_0 0 7 rfl rfl) (by decide) ?_
      have h := Option.some.inj h
      subst h
      exact kret_i (v := 1) hx hb hr rfl hlocks hS hP (kdr dgX3_isWish_0 0 9 rfl rfl)
noncomputable abbrev wsX3_isNoUnit : List Cond := kWs yX3_isNoUnit cX3_isNoUnit 2 (some .boolean)
noncomputable def f_X3_isNoUnit (p0 : Int32) (p1 : Int32) : Option (Int32) :=
  if p0 < 0 then
    some 1
  else
    if 2 < p0 then
      some 1
    else
      if p1 < (-2000000000) then
        some 1
      else
        if p1 ≤ 2000000000 then
          some 0
        else
          some 1
theorem f_X3_isNoUnit_e {p0 : Int32} {p1 : Int32} : f_X3_isNoUnit p0 p1 = 
  if p0 < 0 then
    some 1
  else
    if 2 < p0 then
      some 1
    else
      if p1 < (-2000000000) then
        some 1
      else
        if p1 ≤ 2000000000 then
          some 0
        else
          some 1 := rfl
set_option maxHeartbeats 4000000 in
set_option maxRecDepth 100000 in
theorem c_X3_isNoUnit (l : Launch) (dC : Nat → ClassId) (dI : Nat → Nat → Nat) (cB cI cJ cZ : ClassId) (sz : Nat) (p0 : Int32) (p1 : Int32) (res : Int32) (hf : f_X3_isNoUnit p0 p1 = some res) : kMi l yX3_isNoUnit wsX3_isNoUnit (kRm 0 0 0 0) dC dI cB cI cJ cZ [.int p0, .int p1] sz [] .boolean (res) [] 0 0 := by
  refine kmet_i (y := yX3_isNoUnit) (cc := cX3_isNoUnit) (maxL := 2) (ret := (some .boolean)) RX3 (kvI 0 p0 (kvI 1 p1 kvE)) kpl_X3 rfl rfl (Nat.le_of_ble_eq_true rfl) rfl (fun p e s m below meth c A ls hx hb hr hml hts hown hlocks hP hK hG hD hA hS hl => ?_)
  have hw0 := hts (.constant RX3 111 (-2000000000)) (List.mem_cons_of_mem _ kw_1128)
  have hw1 := hts (.constant RX3 112 (2000000000)) (List.mem_cons_of_mem _ kw_1129)
  have h := f_X3_isNoUnit_e.symm.trans hf
  refine lv_iload_n hx hb (kdr dgX3_isNoUnit_0 0 0 rfl rfl) rfl (lv_at hl 0 rfl) ?_
  refine lv_if_lt (tgt := 21) hx hb (kdr dgX3_isNoUnit_0 0 1 rfl rfl) (by decide) (fun c1 => ?_) (fun c1 => ?_)
  · have h := g_t c1 h
    refine lv_iconst (v := 1) hx hb (kdr dgX3_isNoUnit_0 1 1 rfl rfl) (by decide) ?_
    refine lv_goto (tgt := 26) hx hb (kdr dgX3_isNoUnit_0 1 2 rfl rfl) (by decide) ?_
    have h := Option.some.inj h
    subst h
    exact kret_i (v := 1) hx hb hr rfl hlocks hS hP (kdr dgX3_isNoUnit_0 1 4 rfl rfl)
  · have h := g_f c1 h
    refine lv_iload_n hx hb (kdr dgX3_isNoUnit_0 0 2 rfl rfl) rfl (lv_at hl 0 rfl) ?_
    refine lv_iconst (v := 2) hx hb (kdr dgX3_isNoUnit_0 0 3 rfl rfl) (by decide) ?_
    refine lv_icmp_gt (tgt := 21) hx hb (kdr dgX3_isNoUnit_0 0 4 rfl rfl) (by decide) (fun c2 => ?_) (fun c2 => ?_)
    · have h := g_t c2 h
      refine lv_iconst (v := 1) hx hb (kdr dgX3_isNoUnit_0 1 1 rfl rfl) (by decide) ?_
      refine lv_goto (tgt := 26) hx hb (kdr dgX3_isNoUnit_0 1 2 rfl rfl) (by decide) ?_
      have h := Option.some.inj h
      subst h
      exact kret_i (v := 1) hx hb hr rfl hlocks hS hP (kdr dgX3_isNoUnit_0 1 4 rfl rfl)
    · have h := g_f c2 h
      refine lv_iload_n hx hb (kdr dgX3_isNoUnit_0 0 5 rfl rfl) rfl (lv_at hl 1 rfl) ?_
      refine lv_ldc (v := (-2000000000)) hx hb hown hw0 (kdr dgX3_isNoUnit_0 0 6 rfl rfl) ?_
      refine lv_icmp_lt (tgt := 21) hx hb (kdr dgX3_isNoUnit_0 0 7 rfl rfl) (by decide) (fun c3 => ?_) (fun c3 => ?_)
      · have h := g_t c3 h
        refine lv_iconst (v := 1) hx hb (kdr dgX3_isNoUnit_0 1 1 rfl rfl) (by decide) ?_
        refine lv_goto (tgt := 26) hx hb (kdr dgX3_isNoUnit_0 1 2 rfl rfl) (by decide) ?_
        have h := Option.some.inj h
        subst h
        exact kret_i (v := 1) hx hb hr rfl hlocks hS hP (kdr dgX3_isNoUnit_0 1 4 rfl rfl)
      · have h := g_f c3 h
        refine lv_iload_n hx hb (kdr dgX3_isNoUnit_0 0 8 rfl rfl) rfl (lv_at hl 1 rfl) ?_
        refine lv_ldc (v := (2000000000)) hx hb hown hw1 (kdr dgX3_isNoUnit_0 0 9 rfl rfl) ?_
        refine lv_icmp_le (tgt := 25) hx hb (kdr dgX3_isNoUnit_0 1 0 rfl rfl) (by decide) (fun c4 => ?_) (fun c4 => ?_)
        · have h := g_t c4 h
          refine lv_iconst (v := 0) hx hb (kdr dgX3_isNoUnit_0 1 3 rfl rfl) (by decide) ?_
          have h := Option.some.inj h
          subst h
          exact kret_i (v := 0) hx hb hr rfl hlocks hS hP (kdr dgX3_isNoUnit_0 1 4 rfl rfl)
        · have h := g_f c4 h
          refine lv_iconst (v := 1) hx hb (kdr dgX3_isNoUnit_0 1 1 rfl rfl) (by decide) ?_
          refine lv_goto (tgt := 26) hx hb (kdr dgX3_isNoUnit_0 1 2 rfl rfl) (by decide) ?_
          have h := Option.some.inj h
          subst h
          exact kret_i (v := 1) hx hb hr rfl hlocks hS hP (kdr dgX3_isNoUnit_0 1 4 rfl rfl)
noncomputable abbrev wsX3_isThrown : List Cond := kWs yX3_isThrown cX3_isThrown 3 (some .boolean)
noncomputable def f_X3_isThrown (p0 : Int32) (p1 : Int32) : Option ((Int32) × (Int32)) :=
  if p0 = 0 then
    if p1 = 0 then
      if (0 : Int32) ≤ 0 then
        some (0, 0)
      else
        some (1, 0)
    else
      if (2 : Int32) ≤ 0 then
        some (0, 2)
      else
        some (1, 2)
  else
    if (1 : Int32) ≤ 0 then
      some (0, 1)
    else
      some (1, 1)
theorem f_X3_isThrown_e {p0 : Int32} {p1 : Int32} : f_X3_isThrown p0 p1 = 
  if p0 = 0 then
    if p1 = 0 then
      if (0 : Int32) ≤ 0 then
        some (0, 0)
      else
        some (1, 0)
    else
      if (2 : Int32) ≤ 0 then
        some (0, 2)
      else
        some (1, 2)
  else
    if (1 : Int32) ≤ 0 then
      some (0, 1)
    else
      some (1, 1) := rfl
set_option maxHeartbeats 4000000 in
set_option maxRecDepth 100000 in
theorem c_X3_isThrown (l : Launch) (dC : Nat → ClassId) (dI : Nat → Nat → Nat) (cB cI cJ cZ : ClassId) (b : Nat → Nat) (sz : Nat) (mce : Nat → Int64) (mfr : Int64) (mun : Int64) (mbe : Nat → Int64) (men : Nat → Int64) (mov : Nat → Int32) (msp : Int32) (mwb : Nat → Int64) (mwe : Nat → Int64) (mwi : Int32) (mac : Int32) (mre : Int32) (mkn : Int32) (mth : Int32) (p0 : Int32) (p1 : Int32) (res : (Int32) × (Int32)) (hf : f_X3_isThrown p0 p1 = some res) : kMi l yX3_isThrown wsX3_isThrown (kRm 0 0 0 0) dC dI cB cI cJ cZ [.ref (b 0), .int p0, .int p1] sz (wMo cJ cZ b mce mfr mun mbe men mov msp mwb mwe mwi mac mre mkn mth) .boolean (res.1) (wMo cJ cZ b mce mfr mun mbe men mov msp mwb mwe mwi mac mre mkn (res.2)) 0 0 := by
  refine kmet_i (y := yX3_isThrown) (cc := cX3_isThrown) (maxL := 3) (ret := (some .boolean)) RX3 (kvA 0 (b 0) (kvI 1 p0 (kvI 2 p1 kvE))) kpl_X3 rfl rfl (Nat.le_of_ble_eq_true rfl) rfl (fun p e s m below meth c A ls hx hb hr hml hts hown hlocks hP hK hG hD hA hS hl => ?_)
  have hw0 := hts (.fieldLink RX3 35 "SpanbookerModel" "thrown" "I") (List.mem_cons_of_mem _ kw_1085)
  have hiX3 : ∀ w ∈ u_ws RX3 TX3 14, w ∈ wsX3_isThrown := fun w h => List.mem_cons_of_mem _ (ku_X3 w h)
  have h := f_X3_isThrown_e.symm.trans hf
  refine lv_aload_n hx hb (kdr dgX3_isThrown_0 0 0 rfl rfl) rfl (lv_at hl 0 rfl) ?_
  refine lv_iload_n hx hb (kdr dgX3_isThrown_0 0 1 rfl rfl) rfl (lv_at hl 1 rfl) ?_
  refine lv_if_eq (tgt := 9) hx hb (kdr dgX3_isThrown_0 0 2 rfl rfl) (by decide) (fun c1 => ?_) (fun c1 => ?_)
  · have h := g_t c1 h
    refine lv_iload_n hx hb (kdr dgX3_isThrown_0 0 5 rfl rfl) rfl (lv_at hl 2 rfl) ?_
    refine lv_if_eq (tgt := 17) hx hb (kdr dgX3_isThrown_0 0 6 rfl rfl) (by decide) (fun c2 => ?_) (fun c2 => ?_)
    · have h := g_t c2 h
      refine lv_iconst (v := 0) hx hb (kdr dgX3_isThrown_0 0 9 rfl rfl) (by decide) ?_
      refine va_put (D := (dC, dI)) (ci := 5) (v := .int 0) (ty := .int) (C := RX3) (T := TX3) (N := 14) hx hb hts hiX3 tyX3 tyX3_ok nmX3 hown hK hP hD hS 0 rfl rfl 13 (by decide) hw0 (fun _ h9 => h9) rfl (by decide +kernel) rfl rfl (Nat.le_of_ble_eq_true rfl) (kdr dgX3_isThrown_0 1 0 rfl rfl) (fun H locs hP hD hS => ?_)
      have hP : va_P (dC, dI) vwCl (wMo cJ cZ b mce mfr mun mbe men mov msp mwb mwe mwi mac mre mkn 0) H := hP
      have hD : va_D A (wMo cJ cZ b mce mfr mun mbe men mov msp mwb mwe mwi mac mre mkn 0) := hD
      refine lv_aload_n hx hb (kdr dgX3_isThrown_0 1 1 rfl rfl) rfl (lv_at hl 0 rfl) ?_
      refine va_get (D := (dC, dI)) (ci := 5) (v := .int 0) (C := RX3) (T := TX3) (N := 14) hx hb hts hiX3 hown hK hP 0 rfl rfl 13 (by decide) hw0 (fun _ h9 => h9) rfl (kdr dgX3_isThrown_0 1 2 rfl rfl) ?_
      refine lv_if_le (tgt := 32) hx hb (kdr dgX3_isThrown_0 1 3 rfl rfl) (by decide) (fun c3 => ?_) (fun c3 => ?_)
      · have h := g_t c3 h
        refine lv_iconst (v := 0) hx hb (kdr dgX3_isThrown_0 1 6 rfl rfl) (by decide) ?_
        have h := Option.some.inj h
        subst h
        exact kret_i (v := 0) hx hb hr rfl hlocks hS hP (kdr dgX3_isThrown_0 1 7 rfl rfl)
      · have h := g_f c3 h
        refine lv_iconst (v := 1) hx hb (kdr dgX3_isThrown_0 1 4 rfl rfl) (by decide) ?_
        refine lv_goto (tgt := 33) hx hb (kdr dgX3_isThrown_0 1 5 rfl rfl) (by decide) ?_
        have h := Option.some.inj h
        subst h
        exact kret_i (v := 1) hx hb hr rfl hlocks hS hP (kdr dgX3_isThrown_0 1 7 rfl rfl)
    · have h := g_f c2 h
      refine lv_iconst (v := 2) hx hb (kdr dgX3_isThrown_0 0 7 rfl rfl) (by decide) ?_
      refine lv_goto (tgt := 18) hx hb (kdr dgX3_isThrown_0 0 8 rfl rfl) (by decide) ?_
      refine va_put (D := (dC, dI)) (ci := 5) (v := .int 2) (ty := .int) (C := RX3) (T := TX3) (N := 14) hx hb hts hiX3 tyX3 tyX3_ok nmX3 hown hK hP hD hS 0 rfl rfl 13 (by decide) hw0 (fun _ h9 => h9) rfl (by decide +kernel) rfl rfl (Nat.le_of_ble_eq_true rfl) (kdr dgX3_isThrown_0 1 0 rfl rfl) (fun H locs hP hD hS => ?_)
      have hP : va_P (dC, dI) vwCl (wMo cJ cZ b mce mfr mun mbe men mov msp mwb mwe mwi mac mre mkn 2) H := hP
      have hD : va_D A (wMo cJ cZ b mce mfr mun mbe men mov msp mwb mwe mwi mac mre mkn 2) := hD
      refine lv_aload_n hx hb (kdr dgX3_isThrown_0 1 1 rfl rfl) rfl (lv_at hl 0 rfl) ?_
      refine va_get (D := (dC, dI)) (ci := 5) (v := .int 2) (C := RX3) (T := TX3) (N := 14) hx hb hts hiX3 hown hK hP 0 rfl rfl 13 (by decide) hw0 (fun _ h9 => h9) rfl (kdr dgX3_isThrown_0 1 2 rfl rfl) ?_
      refine lv_if_le (tgt := 32) hx hb (kdr dgX3_isThrown_0 1 3 rfl rfl) (by decide) (fun c3 => ?_) (fun c3 => ?_)
      · have h := g_t c3 h
        refine lv_iconst (v := 0) hx hb (kdr dgX3_isThrown_0 1 6 rfl rfl) (by decide) ?_
        have h := Option.some.inj h
        subst h
        exact kret_i (v := 0) hx hb hr rfl hlocks hS hP (kdr dgX3_isThrown_0 1 7 rfl rfl)
      · have h := g_f c3 h
        refine lv_iconst (v := 1) hx hb (kdr dgX3_isThrown_0 1 4 rfl rfl) (by decide) ?_
        refine lv_goto (tgt := 33) hx hb (kdr dgX3_isThrown_0 1 5 rfl rfl) (by decide) ?_
        have h := Option.some.inj h
        subst h
        exact kret_i (v := 1) hx hb hr rfl hlocks hS hP (kdr dgX3_isThrown_0 1 7 rfl rfl)
  · have h := g_f c1 h
    refine lv_iconst (v := 1) hx hb (kdr dgX3_isThrown_0 0 3 rfl rfl) (by decide) ?_
    refine lv_goto (tgt := 18) hx hb (kdr dgX3_isThrown_0 0 4 rfl rfl) (by decide) ?_
    refine va_put (D := (dC, dI)) (ci := 5) (v := .int 1) (ty := .int) (C := RX3) (T := TX3) (N := 14) hx hb hts hiX3 tyX3 tyX3_ok nmX3 hown hK hP hD hS 0 rfl rfl 13 (by decide) hw0 (fun _ h9 => h9) rfl (by decide +kernel) rfl rfl (Nat.le_of_ble_eq_true rfl) (kdr dgX3_isThrown_0 1 0 rfl rfl) (fun H locs hP hD hS => ?_)
    have hP : va_P (dC, dI) vwCl (wMo cJ cZ b mce mfr mun mbe men mov msp mwb mwe mwi mac mre mkn 1) H := hP
    have hD : va_D A (wMo cJ cZ b mce mfr mun mbe men mov msp mwb mwe mwi mac mre mkn 1) := hD
    refine lv_aload_n hx hb (kdr dgX3_isThrown_0 1 1 rfl rfl) rfl (lv_at hl 0 rfl) ?_
    refine va_get (D := (dC, dI)) (ci := 5) (v := .int 1) (C := RX3) (T := TX3) (N := 14) hx hb hts hiX3 hown hK hP 0 rfl rfl 13 (by decide) hw0 (fun _ h9 => h9) rfl (kdr dgX3_isThrown_0 1 2 rfl rfl) ?_
    refine lv_if_le (tgt := 32) hx hb (kdr dgX3_isThrown_0 1 3 rfl rfl) (by decide) (fun c2 => ?_) (fun c2 => ?_)
    · have h := g_t c2 h
      refine lv_iconst (v := 0) hx hb (kdr dgX3_isThrown_0 1 6 rfl rfl) (by decide) ?_
      have h := Option.some.inj h
      subst h
      exact kret_i (v := 0) hx hb hr rfl hlocks hS hP (kdr dgX3_isThrown_0 1 7 rfl rfl)
    · have h := g_f c2 h
      refine lv_iconst (v := 1) hx hb (kdr dgX3_isThrown_0 1 4 rfl rfl) (by decide) ?_
      refine lv_goto (tgt := 33) hx hb (kdr dgX3_isThrown_0 1 5 rfl rfl) (by decide) ?_
      have h := Option.some.inj h
      subst h
      exact kret_i (v := 1) hx hb hr rfl hlocks hS hP (kdr dgX3_isThrown_0 1 7 rfl rfl)
noncomputable abbrev wsX3_isThrown_ : List Cond := kWs yX3_isThrown_ cX3_isThrown_ 2 (some .boolean)
noncomputable def f_X3_isThrown_ (p0 : Int32) : Option ((Int32) × (Int32)) :=
  (f_X3_isThrown p0 0).bind fun r1 =>
  some (r1.1, r1.2)
theorem f_X3_isThrown__e {p0 : Int32} : f_X3_isThrown_ p0 = 
  (f_X3_isThrown p0 0).bind fun r1 =>
  some (r1.1, r1.2) := rfl
set_option maxHeartbeats 4000000 in
set_option maxRecDepth 100000 in
theorem c_X3_isThrown_ (l : Launch) (dC : Nat → ClassId) (dI : Nat → Nat → Nat) (cB cI cJ cZ : ClassId) (b : Nat → Nat) (sz : Nat) (mce : Nat → Int64) (mfr : Int64) (mun : Int64) (mbe : Nat → Int64) (men : Nat → Int64) (mov : Nat → Int32) (msp : Int32) (mwb : Nat → Int64) (mwe : Nat → Int64) (mwi : Int32) (mac : Int32) (mre : Int32) (mkn : Int32) (mth : Int32) (p0 : Int32) (res : (Int32) × (Int32)) (hf : f_X3_isThrown_ p0 = some res) : kMi l yX3_isThrown_ wsX3_isThrown_ (kRm 1 0 0 22) dC dI cB cI cJ cZ [.ref (b 0), .int p0] sz (wMo cJ cZ b mce mfr mun mbe men mov msp mwb mwe mwi mac mre mkn mth) .boolean (res.1) (wMo cJ cZ b mce mfr mun mbe men mov msp mwb mwe mwi mac mre mkn (res.2)) 0 0 := by
  refine kmet_i (y := yX3_isThrown_) (cc := cX3_isThrown_) (maxL := 2) (ret := (some .boolean)) RX3 (kvA 0 (b 0) (kvI 1 p0 kvE)) kpl_X3 rfl rfl (Nat.le_of_ble_eq_true rfl) rfl (fun p e s m below meth c A ls hx hb hr hml hts hown hlocks hP hK hG hD hA hS hl => ?_)
  have h := f_X3_isThrown__e.symm.trans hf
  refine lv_aload_n hx hb (kdr dgX3_isThrown__0 0 0 rfl rfl) rfl (lv_at hl 0 rfl) ?_
  refine lv_iload_n hx hb (kdr dgX3_isThrown__0 0 1 rfl rfl) rfl (lv_at hl 1 rfl) ?_
  refine lv_iconst (v := 0) hx hb (kdr dgX3_isThrown__0 0 2 rfl rfl) (by decide) ?_
  obtain ⟨r1, g1, h⟩ := g_b h
  refine kq_i (wMo cJ cZ b mce mfr mun mbe men mov msp mwb mwe mwi mac mre mkn r1.2) (fun qP qD qF => va_runV (As := [.int p0, .int 0]) (rest := []) ⟨hx, hb, hml, hown, hts⟩ (c_X3_isThrown l dC dI cB cI cJ cZ b _ mce mfr mun mbe men mov msp mwb mwe mwi mac mre mkn mth p0 0 r1 g1) (kcwV hts kw_1130 kv_X3_isThrown rfl rfl ⟨(Nat.le_of_ble_eq_true rfl), (Nat.le_of_ble_eq_true rfl)⟩) (kpV (A := A) qP hK qD hG (krecv_5 (q0 := 0) hK hP rfl)) rfl rfl hl.1 rfl (lv_room (Nat.le_of_ble_eq_true rfl)) (kdr dgX3_isThrown__0 0 3 rfl rfl) ⟨(Nat.le_of_ble_eq_true rfl), (Nat.le_of_ble_eq_true rfl)⟩) hP hD hS hA kFr_Mo (fun H locs hP hD hS br1 => ?_)
  have h := Option.some.inj h
  subst h
  exact kret_i (v := r1.1) hx hb hr br1 hlocks hS hP (kdr dgX3_isThrown__0 0 4 rfl rfl)
