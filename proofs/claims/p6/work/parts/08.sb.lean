abbrev wsX1_isWithin : List Cond := kWs yX1_isWithin cX1_isWithin 3 (some .boolean)
def f_X1_isWithin (p0 : Int32) (p1 : Int32) (p2 : Int32) : Option (Int32) :=
  if p0 < p1 then
    some 0
  else
    if p2 < p0 then
      some 0
    else
      some 1
theorem f_X1_isWithin_e {p0 : Int32} {p1 : Int32} {p2 : Int32} : f_X1_isWithin p0 p1 p2 = 
  if p0 < p1 then
    some 0
  else
    if p2 < p0 then
      some 0
    else
      some 1 := rfl
set_option maxHeartbeats 4000000 in
set_option maxRecDepth 100000 in
theorem c_X1_isWithin (l : Launch) (dC : Nat → ClassId) (dI : Nat → Nat → Nat) (cB cI cJ cZ : ClassId) (sz : Nat) (p0 : Int32) (p1 : Int32) (p2 : Int32) (res : Int32) (hf : f_X1_isWithin p0 p1 p2 = some res) : Met l yX1_isWithin wsX1_isWithin ({ frames := 0, cells := 0, slots := 0, locals := 0 } : Room) (kPre (dC, dI) (kTy cB cI cJ cZ) [.int p0, .int p1, .int p2] sz []) (kI (dC, dI) .boolean (res) [] (va_A [] sz)) 0 0 (va_A [] sz) := by
  refine Met.ofW (cc := cX1_isWithin) (maxL := 3) (ret := (some .boolean)) (by decide) rfl ?_
  intro p e s m args below meth c s₁ B hml hv
  obtain ⟨rfl, hsz, hP, hK, hD0, hG⟩ := hv
  have hx := B.exec
  have hb := B.bytes
  have hr := B.returns
  have hts := atoms_spec (ws := wsX1_isWithin) B.pre
  have hown : s.vm.findClass RX1 = some m.cls := findClass_of_methodNamed B.named
  have hlocks := B.notSynchronized
  subst hsz
  have hD := hD0.self (sz := s.heap.size)
  generalize hAe : va_A [] s.heap.size = A at hD ⊢
  have hA : ∀ q : Nat, s.heap.size ≤ q → A q := fun q h => by rw [← hAe]; exact Or.inr h
  have hS : va_S A s.heap s.heap [] := va_S.rf
  clear hAe
  have hl := lv_entry ([.int p0, .int p1, .int p2]) (n := 3) (Nat.le_of_ble_eq_true rfl)
  rw [lg_entry_eq]
  generalize (lg_sl ([.int p0, .int p1, .int p2]) ++ List.replicate (3 - (lg_sl ([.int p0, .int p1, .int p2])).length) Slot.unset).toArray = ls at hl ⊢
  have hl : lv_has ls 3 [(0, .int p0), (1, .int p1), (2, .int p2)] := hl
  have h := f_X1_isWithin_e.symm.trans hf
  refine lv_iload_n hx hb dX1_isWithin_0 rfl (lv_at hl 0 rfl) ?_
  refine lv_iload_n hx hb dX1_isWithin_1 rfl (lv_at hl 1 rfl) ?_
  refine lv_icmp_lt (tgt := 14) hx hb dX1_isWithin_2 (by decide) (fun c1 => ?_) (fun c1 => ?_)
  · have h := g_t c1 h
    refine lv_iconst (v := 0) hx hb dX1_isWithin_14 (by decide) ?_
    have h := Option.some.inj h
    subst h
    exact kret_i (v := 0) hx hb hr rfl hlocks hS hP dX1_isWithin_15
  · have h := g_f c1 h
    refine lv_iload_n hx hb dX1_isWithin_5 rfl (lv_at hl 0 rfl) ?_
    refine lv_iload_n hx hb dX1_isWithin_6 rfl (lv_at hl 2 rfl) ?_
    refine lv_icmp_gt (tgt := 14) hx hb dX1_isWithin_7 (by decide) (fun c2 => ?_) (fun c2 => ?_)
    · have h := g_t c2 h
      refine lv_iconst (v := 0) hx hb dX1_isWithin_14 (by decide) ?_
      have h := Option.some.inj h
      subst h
      exact kret_i (v := 0) hx hb hr rfl hlocks hS hP dX1_isWithin_15
    · have h := g_f c2 h
      refine lv_iconst (v := 1) hx hb dX1_isWithin_10 (by decide) ?_
      refine lv_goto (tgt := 15) hx hb dX1_isWithin_11 (by decide) ?_
      have h := Option.some.inj h
      subst h
      exact kret_i (v := 1) hx hb hr rfl hlocks hS hP dX1_isWithin_15
abbrev wsX1_done : List Cond := kWs yX1_done cX1_done 2 (some .int)
def f_X1_done (ac : Int32) (p0 : Int32) : Option ((Int32) × (Int32)) :=
  some (p0, ac + 1)
theorem f_X1_done_e {ac : Int32} {p0 : Int32} : f_X1_done ac p0 = 
  some (p0, ac + 1) := rfl
set_option maxHeartbeats 4000000 in
set_option maxRecDepth 100000 in
theorem c_X1_done (l : Launch) (dC : Nat → ClassId) (dI : Nat → Nat → Nat) (cB cI cJ cZ : ClassId) (a : Nat → Nat) (sz : Nat) (ce : Nat → Int64) (fr : Int64) (un : Int64) (sb : Nat → Int64) (se : Nat → Int64) (so : Nat → Int32) (sc : Int32) (wb : Nat → Int64) (we : Nat → Int64) (wo : Nat → Int32) (wc : Int32) (fb : Nat → Int64) (fe : Nat → Int64) (fo : Nat → Int32) (fc : Int32) (rm : Nat → Int32) (ac : Int32) (rf : Int32) (kn : Int32) (p0 : Int32) (res : (Int32) × (Int32)) (hf : f_X1_done ac p0 = some res) : Met l yX1_done wsX1_done ({ frames := 0, cells := 0, slots := 0, locals := 0 } : Room) (kPre (dC, dI) (kTy cB cI cJ cZ) [.ref (a 0), .int p0] sz (wSB cI cJ cZ a ce fr un sb se so sc wb we wo wc fb fe fo fc rm ac rf kn)) (kI (dC, dI) .int (res.1) (wSB cI cJ cZ a ce fr un sb se so sc wb we wo wc fb fe fo fc rm (res.2) rf kn) (va_A (wSB cI cJ cZ a ce fr un sb se so sc wb we wo wc fb fe fo fc rm ac rf kn) sz)) 0 0 (va_A (wSB cI cJ cZ a ce fr un sb se so sc wb we wo wc fb fe fo fc rm ac rf kn) sz) := by
  refine Met.ofW (cc := cX1_done) (maxL := 2) (ret := (some .int)) (by decide) rfl ?_
  intro p e s m args below meth c s₁ B hml hv
  obtain ⟨rfl, hsz, hP, hK, hD0, hG⟩ := hv
  have hx := B.exec
  have hb := B.bytes
  have hr := B.returns
  have hts := atoms_spec (ws := wsX1_done) B.pre
  have hown : s.vm.findClass RX1 = some m.cls := findClass_of_methodNamed B.named
  have hlocks := B.notSynchronized
  subst hsz
  have hD := hD0.self (sz := s.heap.size)
  generalize hAe : va_A (wSB cI cJ cZ a ce fr un sb se so sc wb we wo wc fb fe fo fc rm ac rf kn) s.heap.size = A at hD ⊢
  have hA : ∀ q : Nat, s.heap.size ≤ q → A q := fun q h => by rw [← hAe]; exact Or.inr h
  have hS : va_S A s.heap s.heap [] := va_S.rf
  clear hAe
  have hw0 := hts (.fieldLink RX1 224 "Spanbooker" "acts" "I") (List.mem_cons_of_mem _ kw_114)
  have hiX1 : ∀ w ∈ u_ws RX1 TX1 10, w ∈ wsX1_done := fun w h => List.mem_cons_of_mem _ (ku_X1 w h)
  have hl := lv_entry ([.ref (a 0), .int p0]) (n := 2) (Nat.le_of_ble_eq_true rfl)
  rw [lg_entry_eq]
  generalize (lg_sl ([.ref (a 0), .int p0]) ++ List.replicate (2 - (lg_sl ([.ref (a 0), .int p0])).length) Slot.unset).toArray = ls at hl ⊢
  have hl : lv_has ls 2 [(0, .ref (a 0)), (1, .int p0)] := hl
  have h := f_X1_done_e.symm.trans hf
  refine lv_aload_n hx hb dX1_done_0 rfl (lv_at hl 0 rfl) ?_
  refine lv_dup hx hb dX1_done_1 rfl ?_
  refine va_get (D := (dC, dI)) (ci := 3) (v := .int ac) (C := RX1) (T := TX1) (N := 10) hx hb hts hiX1 hown hK hP 0 rfl rfl 7 (by decide) hw0 (fun _ h9 => h9) rfl dX1_done_2 ?_
  refine lv_iconst (v := 1) hx hb dX1_done_5 (by decide) ?_
  refine lv_iadd hx hb dX1_done_6 ?_
  refine va_put (D := (dC, dI)) (ci := 3) (v := .int (ac + 1)) (ty := .int) (C := RX1) (T := TX1) (N := 10) hx hb hts hiX1 tyX1 tyX1_ok nmX1 hown hK hP hD hS 0 rfl rfl 7 (by decide) hw0 (fun _ h9 => h9) rfl (by decide +kernel) rfl rfl (Nat.le_of_ble_eq_true rfl) dX1_done_7 (fun H locs hP hD hS => ?_)
  have hP : va_P (dC, dI) vwCl (wSB cI cJ cZ a ce fr un sb se so sc wb we wo wc fb fe fo fc rm (ac + 1) rf kn) H := hP
  have hD : va_D A (wSB cI cJ cZ a ce fr un sb se so sc wb we wo wc fb fe fo fc rm (ac + 1) rf kn) := hD
  refine lv_iload_n hx hb dX1_done_10 rfl (lv_at hl 1 rfl) ?_
  have h := Option.some.inj h
  subst h
  exact kret_i (v := p0) hx hb hr rfl hlocks hS hP dX1_done_11
abbrev wsX1_refuse : List Cond := kWs yX1_refuse cX1_refuse 1 (some .int)
def f_X1_refuse (rf : Int32) : Option ((Int32) × (Int32)) :=
  some ((-9), rf + 1)
theorem f_X1_refuse_e {rf : Int32} : f_X1_refuse rf = 
  some ((-9), rf + 1) := rfl
set_option maxHeartbeats 4000000 in
set_option maxRecDepth 100000 in
theorem c_X1_refuse (l : Launch) (dC : Nat → ClassId) (dI : Nat → Nat → Nat) (cB cI cJ cZ : ClassId) (a : Nat → Nat) (sz : Nat) (ce : Nat → Int64) (fr : Int64) (un : Int64) (sb : Nat → Int64) (se : Nat → Int64) (so : Nat → Int32) (sc : Int32) (wb : Nat → Int64) (we : Nat → Int64) (wo : Nat → Int32) (wc : Int32) (fb : Nat → Int64) (fe : Nat → Int64) (fo : Nat → Int32) (fc : Int32) (rm : Nat → Int32) (ac : Int32) (rf : Int32) (kn : Int32) (res : (Int32) × (Int32)) (hf : f_X1_refuse rf = some res) : Met l yX1_refuse wsX1_refuse ({ frames := 0, cells := 0, slots := 0, locals := 0 } : Room) (kPre (dC, dI) (kTy cB cI cJ cZ) [.ref (a 0)] sz (wSB cI cJ cZ a ce fr un sb se so sc wb we wo wc fb fe fo fc rm ac rf kn)) (kI (dC, dI) .int (res.1) (wSB cI cJ cZ a ce fr un sb se so sc wb we wo wc fb fe fo fc rm ac (res.2) kn) (va_A (wSB cI cJ cZ a ce fr un sb se so sc wb we wo wc fb fe fo fc rm ac rf kn) sz)) 0 0 (va_A (wSB cI cJ cZ a ce fr un sb se so sc wb we wo wc fb fe fo fc rm ac rf kn) sz) := by
  refine Met.ofW (cc := cX1_refuse) (maxL := 1) (ret := (some .int)) (by decide) rfl ?_
  intro p e s m args below meth c s₁ B hml hv
  obtain ⟨rfl, hsz, hP, hK, hD0, hG⟩ := hv
  have hx := B.exec
  have hb := B.bytes
  have hr := B.returns
  have hts := atoms_spec (ws := wsX1_refuse) B.pre
  have hown : s.vm.findClass RX1 = some m.cls := findClass_of_methodNamed B.named
  have hlocks := B.notSynchronized
  subst hsz
  have hD := hD0.self (sz := s.heap.size)
  generalize hAe : va_A (wSB cI cJ cZ a ce fr un sb se so sc wb we wo wc fb fe fo fc rm ac rf kn) s.heap.size = A at hD ⊢
  have hA : ∀ q : Nat, s.heap.size ≤ q → A q := fun q h => by rw [← hAe]; exact Or.inr h
  have hS : va_S A s.heap s.heap [] := va_S.rf
  clear hAe
  have hw0 := hts (.fieldLink RX1 228 "Spanbooker" "refusals" "I") (List.mem_cons_of_mem _ kw_115)
  have hiX1 : ∀ w ∈ u_ws RX1 TX1 10, w ∈ wsX1_refuse := fun w h => List.mem_cons_of_mem _ (ku_X1 w h)
  have hl := lv_entry ([.ref (a 0)]) (n := 1) (Nat.le_of_ble_eq_true rfl)
  rw [lg_entry_eq]
  generalize (lg_sl ([.ref (a 0)]) ++ List.replicate (1 - (lg_sl ([.ref (a 0)])).length) Slot.unset).toArray = ls at hl ⊢
  have hl : lv_has ls 1 [(0, .ref (a 0))] := hl
  have h := f_X1_refuse_e.symm.trans hf
  refine lv_aload_n hx hb dX1_refuse_0 rfl (lv_at hl 0 rfl) ?_
  refine lv_dup hx hb dX1_refuse_1 rfl ?_
  refine va_get (D := (dC, dI)) (ci := 3) (v := .int rf) (C := RX1) (T := TX1) (N := 10) hx hb hts hiX1 hown hK hP 0 rfl rfl 8 (by decide) hw0 (fun _ h9 => h9) rfl dX1_refuse_2 ?_
  refine lv_iconst (v := 1) hx hb dX1_refuse_5 (by decide) ?_
  refine lv_iadd hx hb dX1_refuse_6 ?_
  refine va_put (D := (dC, dI)) (ci := 3) (v := .int (rf + 1)) (ty := .int) (C := RX1) (T := TX1) (N := 10) hx hb hts hiX1 tyX1 tyX1_ok nmX1 hown hK hP hD hS 0 rfl rfl 8 (by decide) hw0 (fun _ h9 => h9) rfl (by decide +kernel) rfl rfl (Nat.le_of_ble_eq_true rfl) dX1_refuse_7 (fun H locs hP hD hS => ?_)
  have hP : va_P (dC, dI) vwCl (wSB cI cJ cZ a ce fr un sb se so sc wb we wo wc fb fe fo fc rm ac (rf + 1) kn) H := hP
  have hD : va_D A (wSB cI cJ cZ a ce fr un sb se so sc wb we wo wc fb fe fo fc rm ac (rf + 1) kn) := hD
  refine lv_bipush (v := (-9)) hx hb dX1_refuse_10 (by decide) ?_
  have h := Option.some.inj h
  subst h
  exact kret_i (v := (-9)) hx hb hr rfl hlocks hS hP dX1_refuse_12
abbrev wsX1_secondOf : List Cond := kWs yX1_secondOf cX1_secondOf 2 (some .int)
def f_X1_secondOf (p0 : Int64) : Option (Int32) :=
  (f_J9_floorDiv_f86c9 p0 1000000000).bind fun r1 =>
  some r1.toInt32
theorem f_X1_secondOf_e {p0 : Int64} : f_X1_secondOf p0 = 
  (f_J9_floorDiv_f86c9 p0 1000000000).bind fun r1 =>
  some r1.toInt32 := rfl
set_option maxHeartbeats 4000000 in
set_option maxRecDepth 100000 in
theorem c_X1_secondOf (l : Launch) (dC : Nat → ClassId) (dI : Nat → Nat → Nat) (cB cI cJ cZ : ClassId) (sz : Nat) (p0 : Int64) (res : Int32) (hf : f_X1_secondOf p0 = some res) : Met l yX1_secondOf wsX1_secondOf ({ frames := 1, cells := 0, slots := 0, locals := 25 } : Room) (kPre (dC, dI) (kTy cB cI cJ cZ) [.long p0] sz []) (kI (dC, dI) .int (res) [] (va_A [] sz)) 0 0 (va_A [] sz) := by
  refine Met.ofW (cc := cX1_secondOf) (maxL := 2) (ret := (some .int)) (by decide) rfl ?_
  intro p e s m args below meth c s₁ B hml hv
  obtain ⟨rfl, hsz, hP, hK, hD0, hG⟩ := hv
  have hx := B.exec
  have hb := B.bytes
  have hr := B.returns
  have hts := atoms_spec (ws := wsX1_secondOf) B.pre
  have hown : s.vm.findClass RX1 = some m.cls := findClass_of_methodNamed B.named
  have hlocks := B.notSynchronized
  subst hsz
  have hD := hD0.self (sz := s.heap.size)
  generalize hAe : va_A [] s.heap.size = A at hD ⊢
  have hA : ∀ q : Nat, s.heap.size ≤ q → A q := fun q h => by rw [← hAe]; exact Or.inr h
  have hS : va_S A s.heap s.heap [] := va_S.rf
  clear hAe
  have hw0 := hts (.constantLong RX1 55 (1000000000)) (List.mem_cons_of_mem _ kw_332)
  have hl := lv_entry ([.long p0]) (n := 2) (Nat.le_of_ble_eq_true rfl)
  rw [lg_entry_eq]
  generalize (lg_sl ([.long p0]) ++ List.replicate (2 - (lg_sl ([.long p0])).length) Slot.unset).toArray = ls at hl ⊢
  have hl : lv_has ls 2 [(0, .long p0)] := hl
  have h := f_X1_secondOf_e.symm.trans hf
  refine lv_lload_n hx hb dX1_secondOf_0 rfl (lv_at hl 0 rfl) ?_
  refine lv_ldc2 (v := (1000000000)) hx hb hown hw0 dX1_secondOf_1 ?_
  obtain ⟨r1, g1, h⟩ := g_b h
  refine kcall_l [] (va_runS (As := [.long p0, .long 1000000000]) (rest := []) ⟨hx, hb, hml, hown, hts⟩ (c_J9_floorDiv_f86c9 l dC dI cB cI cJ cZ  _  p0 1000000000 r1 g1) (kcwS hts kw_333 kv_J9_floorDiv_f86c9 rfl rfl ⟨(Nat.le_of_ble_eq_true rfl), (Nat.le_of_ble_eq_true rfl)⟩) (kpS (A := A) (kPnil) hK ((kDnil (A := A))) hG) rfl rfl hl.1 rfl (lv_room (Nat.le_of_ble_eq_true rfl)) dX1_secondOf_4 ⟨(Nat.le_of_ble_eq_true rfl), (Nat.le_of_ble_eq_true rfl)⟩) hP hD hS hA (kIT mk_10 0) (kIT mk_10 0) (km_T (m := mk_10) rfl rfl) (km_T (m := mk_10) rfl rfl) [] (km_T (m := mk_10) rfl rfl) (km_T (m := mk_10) rfl rfl) (km_cov (m := mk_10) (n := mk_10) rfl rfl) (km_dis (m := mk_10) (n := mk_10) rfl) rfl (fun H locs hP hD hS => ?_)
  refine lv_l2i (v := r1.toInt32) hx hb dX1_secondOf_7 rfl ?_
  have h := Option.some.inj h
  subst h
  exact kret_i (v := r1.toInt32) hx hb hr rfl hlocks hS hP dX1_secondOf_8
abbrev wsX1_nanoOf : List Cond := kWs yX1_nanoOf cX1_nanoOf 2 (some .int)
def f_X1_nanoOf (p0 : Int64) : Option (Int32) :=
  (f_J9_floorMod_f86c9 p0 1000000000).bind fun r1 =>
  some r1.toInt32
theorem f_X1_nanoOf_e {p0 : Int64} : f_X1_nanoOf p0 = 
  (f_J9_floorMod_f86c9 p0 1000000000).bind fun r1 =>
  some r1.toInt32 := rfl
set_option maxHeartbeats 4000000 in
set_option maxRecDepth 100000 in
theorem c_X1_nanoOf (l : Launch) (dC : Nat → ClassId) (dI : Nat → Nat → Nat) (cB cI cJ cZ : ClassId) (sz : Nat) (p0 : Int64) (res : Int32) (hf : f_X1_nanoOf p0 = some res) : Met l yX1_nanoOf wsX1_nanoOf ({ frames := 1, cells := 0, slots := 0, locals := 25 } : Room) (kPre (dC, dI) (kTy cB cI cJ cZ) [.long p0] sz []) (kI (dC, dI) .int (res) [] (va_A [] sz)) 0 0 (va_A [] sz) := by
  refine Met.ofW (cc := cX1_nanoOf) (maxL := 2) (ret := (some .int)) (by decide) rfl ?_
  intro p e s m args below meth c s₁ B hml hv
  obtain ⟨rfl, hsz, hP, hK, hD0, hG⟩ := hv
  have hx := B.exec
  have hb := B.bytes
  have hr := B.returns
  have hts := atoms_spec (ws := wsX1_nanoOf) B.pre
  have hown : s.vm.findClass RX1 = some m.cls := findClass_of_methodNamed B.named
  have hlocks := B.notSynchronized
  subst hsz
  have hD := hD0.self (sz := s.heap.size)
  generalize hAe : va_A [] s.heap.size = A at hD ⊢
  have hA : ∀ q : Nat, s.heap.size ≤ q → A q := fun q h => by rw [← hAe]; exact Or.inr h
  have hS : va_S A s.heap s.heap [] := va_S.rf
  clear hAe
  have hw0 := hts (.constantLong RX1 55 (1000000000)) (List.mem_cons_of_mem _ kw_332)
  have hl := lv_entry ([.long p0]) (n := 2) (Nat.le_of_ble_eq_true rfl)
  rw [lg_entry_eq]
  generalize (lg_sl ([.long p0]) ++ List.replicate (2 - (lg_sl ([.long p0])).length) Slot.unset).toArray = ls at hl ⊢
  have hl : lv_has ls 2 [(0, .long p0)] := hl
  have h := f_X1_nanoOf_e.symm.trans hf
  refine lv_lload_n hx hb dX1_nanoOf_0 rfl (lv_at hl 0 rfl) ?_
  refine lv_ldc2 (v := (1000000000)) hx hb hown hw0 dX1_nanoOf_1 ?_
  obtain ⟨r1, g1, h⟩ := g_b h
  refine kcall_l [] (va_runS (As := [.long p0, .long 1000000000]) (rest := []) ⟨hx, hb, hml, hown, hts⟩ (c_J9_floorMod_f86c9 l dC dI cB cI cJ cZ  _  p0 1000000000 r1 g1) (kcwS hts kw_343 kv_J9_floorMod_f86c9 rfl rfl ⟨(Nat.le_of_ble_eq_true rfl), (Nat.le_of_ble_eq_true rfl)⟩) (kpS (A := A) (kPnil) hK ((kDnil (A := A))) hG) rfl rfl hl.1 rfl (lv_room (Nat.le_of_ble_eq_true rfl)) dX1_nanoOf_4 ⟨(Nat.le_of_ble_eq_true rfl), (Nat.le_of_ble_eq_true rfl)⟩) hP hD hS hA (kIT mk_10 0) (kIT mk_10 0) (km_T (m := mk_10) rfl rfl) (km_T (m := mk_10) rfl rfl) [] (km_T (m := mk_10) rfl rfl) (km_T (m := mk_10) rfl rfl) (km_cov (m := mk_10) (n := mk_10) rfl rfl) (km_dis (m := mk_10) (n := mk_10) rfl) rfl (fun H locs hP hD hS => ?_)
  refine lv_l2i (v := r1.toInt32) hx hb dX1_nanoOf_7 rfl ?_
  have h := Option.some.inj h
  subst h
  exact kret_i (v := r1.toInt32) hx hb hr rfl hlocks hS hP dX1_nanoOf_8
abbrev wsX1_partOf : List Cond := kWs yX1_partOf cX1_partOf 3 (some .int)
def f_X1_partOf (p0 : Int64) (p1 : Int32) : Option (Int32) :=
  if (p1 &&& 1) = 0 then
    (f_X1_secondOf p0).bind fun r2 =>
    some r2
  else
    (f_X1_nanoOf p0).bind fun r2 =>
    some r2
theorem f_X1_partOf_e {p0 : Int64} {p1 : Int32} : f_X1_partOf p0 p1 = 
  if (p1 &&& 1) = 0 then
    (f_X1_secondOf p0).bind fun r2 =>
    some r2
  else
    (f_X1_nanoOf p0).bind fun r2 =>
    some r2 := rfl
set_option maxHeartbeats 4000000 in
set_option maxRecDepth 100000 in
theorem c_X1_partOf (l : Launch) (dC : Nat → ClassId) (dI : Nat → Nat → Nat) (cB cI cJ cZ : ClassId) (sz : Nat) (p0 : Int64) (p1 : Int32) (res : Int32) (hf : f_X1_partOf p0 p1 = some res) : Met l yX1_partOf wsX1_partOf ({ frames := 2, cells := 0, slots := 0, locals := 46 } : Room) (kPre (dC, dI) (kTy cB cI cJ cZ) [.long p0, .int p1] sz []) (kI (dC, dI) .int (res) [] (va_A [] sz)) 0 0 (va_A [] sz) := by
  refine Met.ofW (cc := cX1_partOf) (maxL := 3) (ret := (some .int)) (by decide) rfl ?_
  intro p e s m args below meth c s₁ B hml hv
  obtain ⟨rfl, hsz, hP, hK, hD0, hG⟩ := hv
  have hx := B.exec
  have hb := B.bytes
  have hr := B.returns
  have hts := atoms_spec (ws := wsX1_partOf) B.pre
  have hown : s.vm.findClass RX1 = some m.cls := findClass_of_methodNamed B.named
  have hlocks := B.notSynchronized
  subst hsz
  have hD := hD0.self (sz := s.heap.size)
  generalize hAe : va_A [] s.heap.size = A at hD ⊢
  have hA : ∀ q : Nat, s.heap.size ≤ q → A q := fun q h => by rw [← hAe]; exact Or.inr h
  have hS : va_S A s.heap s.heap [] := va_S.rf
  clear hAe
  have hl := lv_entry ([.long p0, .int p1]) (n := 3) (Nat.le_of_ble_eq_true rfl)
  rw [lg_entry_eq]
  generalize (lg_sl ([.long p0, .int p1]) ++ List.replicate (3 - (lg_sl ([.long p0, .int p1])).length) Slot.unset).toArray = ls at hl ⊢
  have hl : lv_has ls 3 [(0, .long p0), (2, .int p1)] := hl
  have h := f_X1_partOf_e.symm.trans hf
  refine lv_iload_n hx hb dX1_partOf_0 rfl (lv_at hl 1 rfl) ?_
  refine lv_iconst (v := 1) hx hb dX1_partOf_1 (by decide) ?_
  refine lv_iand hx hb dX1_partOf_2 ?_
  refine lv_if_ne (tgt := 13) hx hb dX1_partOf_3 (by decide) (fun c1 => ?_) (fun c1 => ?_)
  · have h := g_f c1 h
    refine lv_lload_n hx hb dX1_partOf_13 rfl (lv_at hl 0 rfl) ?_
    obtain ⟨r2, g2, h⟩ := g_b h
    refine kcall_i [] (va_runS (As := [.long p0]) (rest := []) ⟨hx, hb, hml, hown, hts⟩ (c_X1_nanoOf l dC dI cB cI cJ cZ  _  p0 r2 g2) (kcwS hts kw_340 kv_X1_nanoOf rfl rfl ⟨(Nat.le_of_ble_eq_true rfl), (Nat.le_of_ble_eq_true rfl)⟩) (kpS (A := A) (kPnil) hK ((kDnil (A := A))) hG) rfl rfl hl.1 rfl (lv_room (Nat.le_of_ble_eq_true rfl)) dX1_partOf_14 ⟨(Nat.le_of_ble_eq_true rfl), (Nat.le_of_ble_eq_true rfl)⟩) hP hD hS hA (kIT mk_10 0) (kIT mk_10 0) (km_T (m := mk_10) rfl rfl) (km_T (m := mk_10) rfl rfl) [] (km_T (m := mk_10) rfl rfl) (km_T (m := mk_10) rfl rfl) (km_cov (m := mk_10) (n := mk_10) rfl rfl) (km_dis (m := mk_10) (n := mk_10) rfl) rfl (fun H locs hP hD hS br2 => ?_)
    have h := Option.some.inj h
    subst h
    exact kret_i (v := r2) hx hb hr rfl hlocks hS hP dX1_partOf_17
  · have h := g_t c1 h
    refine lv_lload_n hx hb dX1_partOf_6 rfl (lv_at hl 0 rfl) ?_
    obtain ⟨r2, g2, h⟩ := g_b h
    refine kcall_i [] (va_runS (As := [.long p0]) (rest := []) ⟨hx, hb, hml, hown, hts⟩ (c_X1_secondOf l dC dI cB cI cJ cZ  _  p0 r2 g2) (kcwS hts kw_329 kv_X1_secondOf rfl rfl ⟨(Nat.le_of_ble_eq_true rfl), (Nat.le_of_ble_eq_true rfl)⟩) (kpS (A := A) (kPnil) hK ((kDnil (A := A))) hG) rfl rfl hl.1 rfl (lv_room (Nat.le_of_ble_eq_true rfl)) dX1_partOf_7 ⟨(Nat.le_of_ble_eq_true rfl), (Nat.le_of_ble_eq_true rfl)⟩) hP hD hS hA (kIT mk_10 0) (kIT mk_10 0) (km_T (m := mk_10) rfl rfl) (km_T (m := mk_10) rfl rfl) [] (km_T (m := mk_10) rfl rfl) (km_T (m := mk_10) rfl rfl) (km_cov (m := mk_10) (n := mk_10) rfl rfl) (km_dis (m := mk_10) (n := mk_10) rfl) rfl (fun H locs hP hD hS br2 => ?_)
    refine lv_goto (tgt := 17) hx hb dX1_partOf_10 (by decide) ?_
    have h := Option.some.inj h
    subst h
    exact kret_i (v := r2) hx hb hr rfl hlocks hS hP dX1_partOf_17
abbrev wsX1_partIn : List Cond := kWs yX1_partIn cX1_partIn 3 (some .int)
def f_X1_partIn_18 (x2 : Int32) (y0 : Int64) : Option (Int32) :=
  (f_X1_partOf y0 x2).bind fun r1 =>
  some r1
theorem f_X1_partIn_18_e {x2 : Int32} {y0 : Int64} : f_X1_partIn_18 x2 y0 =
  (f_X1_partOf y0 x2).bind fun r1 =>
  some r1 := rfl
def f_X1_partIn (rb : Nat → Int64) (re : Nat → Int64) (rc : Int32) (p1 : Int32) (p2 : Int32) : Option (Int32) :=
  if 2 ≤ p2 then
    (f_X0_end re rc p1).bind fun r2 =>
    f_X1_partIn_18 p2 r2
  else
    (f_X0_begin rb rc p1).bind fun r2 =>
    f_X1_partIn_18 p2 r2
theorem f_X1_partIn_e {rb : Nat → Int64} {re : Nat → Int64} {rc : Int32} {p1 : Int32} {p2 : Int32} : f_X1_partIn rb re rc p1 p2 = 
  if 2 ≤ p2 then
    (f_X0_end re rc p1).bind fun r2 =>
    f_X1_partIn_18 p2 r2
  else
    (f_X0_begin rb rc p1).bind fun r2 =>
    f_X1_partIn_18 p2 r2 := rfl
set_option maxHeartbeats 4000000 in
set_option maxRecDepth 100000 in
theorem c_X1_partIn (l : Launch) (dC : Nat → ClassId) (dI : Nat → Nat → Nat) (cB cI cJ cZ : ClassId) (h0 : Nat) (h1 : Nat) (h2 : Nat) (h3 : Nat) (sz : Nat) (rb : Nat → Int64) (re : Nat → Int64) (ro : Nat → Int32) (rc : Int32) (p1 : Int32) (p2 : Int32) (res : Int32) (hf : f_X1_partIn rb re rc p1 p2 = some res) : Met l yX1_partIn wsX1_partIn ({ frames := 3, cells := 0, slots := 0, locals := 68 } : Room) (kPre (dC, dI) (kTy cB cI cJ cZ) [.ref h0, .int p1, .int p2] sz (wRow cJ cZ h0 h1 h2 h3 rb re ro rc)) (kI (dC, dI) .int (res) (wRow cJ cZ h0 h1 h2 h3 rb re ro rc) (va_A (wRow cJ cZ h0 h1 h2 h3 rb re ro rc) sz)) 0 0 (va_A (wRow cJ cZ h0 h1 h2 h3 rb re ro rc) sz) := by
  refine Met.ofW (cc := cX1_partIn) (maxL := 3) (ret := (some .int)) (by decide) rfl ?_
  intro p e s m args below meth c s₁ B hml hv
  obtain ⟨rfl, hsz, hP, hK, hD0, hG⟩ := hv
  have hx := B.exec
  have hb := B.bytes
  have hr := B.returns
  have hts := atoms_spec (ws := wsX1_partIn) B.pre
  have hown : s.vm.findClass RX1 = some m.cls := findClass_of_methodNamed B.named
  have hlocks := B.notSynchronized
  subst hsz
  have hD := hD0.self (sz := s.heap.size)
  generalize hAe : va_A (wRow cJ cZ h0 h1 h2 h3 rb re ro rc) s.heap.size = A at hD ⊢
  have hA : ∀ q : Nat, s.heap.size ≤ q → A q := fun q h => by rw [← hAe]; exact Or.inr h
  have hS : va_S A s.heap s.heap [] := va_S.rf
  clear hAe
  have J18 : ∀ (rb : Nat → Int64) (re : Nat → Int64) (ro : Nat → Int32) (rc : Int32) (x2 : Int32) (y0 : Int64) (H : Heap) (locs : List Loc), va_P (dC, dI) vwCl (wRow cJ cZ h0 h1 h2 h3 rb re ro rc) H → va_D A (wRow cJ cZ h0 h1 h2 h3 rb re ro rc) → va_S A s.heap H locs → ∀ (ls : Array Slot), lv_has ls 3 [(2, .int x2)] → f_X1_partIn_18 x2 y0 = some res → W p l e (headSpec wsX1_partIn ({ frames := 3, cells := 0, slots := 0, locals := 68 } : Room)).room s m ([.ref h0, .int p1, .int p2] : List Value).toArray below meth c H locs 0 0 (MQ below (kI (dC, dI) .int (res) (wRow cJ cZ h0 h1 h2 h3 rb re ro rc) A) ([.ref h0, .int p1, .int p2] : List Value).toArray s 0 0 A) (F0 m 18 ls [.long y0]) := by
    intro rb re ro rc x2 y0 H locs hP hD hS ls hl h
    have h := f_X1_partIn_18_e.symm.trans h
    refine lv_iload_n hx hb dX1_partIn_18 rfl (lv_at hl 0 rfl) ?_
    obtain ⟨r1, g1, h⟩ := g_b h
    refine kcall_i (wRow cJ cZ h0 h1 h2 h3 rb re ro rc) (va_runS (As := [.long y0, .int x2]) (rest := []) ⟨hx, hb, hml, hown, hts⟩ (c_X1_partOf l dC dI cB cI cJ cZ  _  y0 x2 r1 g1) (kcwS hts kw_427 kv_X1_partOf rfl rfl ⟨(Nat.le_of_ble_eq_true rfl), (Nat.le_of_ble_eq_true rfl)⟩) (kpS (A := A) (kPnil) hK ((kDnil (A := A))) hG) rfl rfl hl.1 rfl (lv_room (Nat.le_of_ble_eq_true rfl)) dX1_partIn_19 ⟨(Nat.le_of_ble_eq_true rfl), (Nat.le_of_ble_eq_true rfl)⟩) hP hD hS hA (kIT mk_12 0) (kIT mk_11 0) (km_T (m := mk_12) rfl rfl) (km_T (m := mk_12) rfl rfl) [(h0, .inr (2, [.ref h1, .ref h2, .ref h3, .int rc])), (h1, .inl (cJ, 11, .inr (.inl rb))), (h2, .inl (cJ, 11, .inr (.inl re))), (h3, .inl (cZ, 11, .inl ro))] (km_T (m := mk_11) rfl rfl) (km_T (m := mk_11) rfl rfl) (km_cov (m := mk_12) (n := mk_11) rfl rfl) (km_dis (m := mk_12) (n := mk_11) rfl) rfl (fun H locs hP hD hS br1 => ?_)
    have h := Option.some.inj h
    subst h
    exact kret_i (v := r1) hx hb hr rfl hlocks hS hP dX1_partIn_22
  have hl := lv_entry ([.ref h0, .int p1, .int p2]) (n := 3) (Nat.le_of_ble_eq_true rfl)
  rw [lg_entry_eq]
  generalize (lg_sl ([.ref h0, .int p1, .int p2]) ++ List.replicate (3 - (lg_sl ([.ref h0, .int p1, .int p2])).length) Slot.unset).toArray = ls at hl ⊢
  have hl : lv_has ls 3 [(0, .ref h0), (1, .int p1), (2, .int p2)] := hl
  have h := f_X1_partIn_e.symm.trans hf
  refine lv_iload_n hx hb dX1_partIn_0 rfl (lv_at hl 2 rfl) ?_
  refine lv_iconst (v := 2) hx hb dX1_partIn_1 (by decide) ?_
  refine lv_icmp_ge (tgt := 13) hx hb dX1_partIn_2 (by decide) (fun c1 => ?_) (fun c1 => ?_)
  · have h := g_t c1 h
    refine lv_aload_n hx hb dX1_partIn_13 rfl (lv_at hl 0 rfl) ?_
    refine lv_iload_n hx hb dX1_partIn_14 rfl (lv_at hl 1 rfl) ?_
    obtain ⟨r2, g2, h⟩ := g_b h
    refine kcall_l (wRow cJ cZ h0 h1 h2 h3 rb re ro rc) (va_runV (As := [.int p1]) (rest := []) ⟨hx, hb, hml, hown, hts⟩ (c_X0_end l dC dI cB cI cJ cZ h0 h1 h2 h3 _ rb re ro rc p1 r2 g2) (kcwV hts kw_194 kv_X0_end rfl rfl ⟨(Nat.le_of_ble_eq_true rfl), (Nat.le_of_ble_eq_true rfl)⟩) (kpV (A := A) (hP.sub (kIT mk_11 0) (km_f (m := mk_11) rfl rfl)) hK (hD.sub (kIT mk_11 0) (km_nd mk_11) (km_T (m := mk_11) rfl rfl)) hG (va_recv hK hP (ci := 2) (q0 := 0) rfl rfl)) rfl rfl hl.1 rfl (lv_room (Nat.le_of_ble_eq_true rfl)) dX1_partIn_15 ⟨(Nat.le_of_ble_eq_true rfl), (Nat.le_of_ble_eq_true rfl)⟩) hP hD hS hA (kIT mk_11 0) (kIT mk_12 0) (km_T (m := mk_11) rfl rfl) (km_T (m := mk_11) rfl rfl) [] (km_T (m := mk_12) rfl rfl) (km_T (m := mk_12) rfl rfl) (km_cov (m := mk_11) (n := mk_12) rfl rfl) (km_dis (m := mk_11) (n := mk_12) rfl) rfl (fun H locs hP hD hS => ?_)
    exact J18 rb re ro rc p2 r2 _ _ hP hD hS ls (lv_sub hl [2] rfl) h
  · have h := g_f c1 h
    refine lv_aload_n hx hb dX1_partIn_5 rfl (lv_at hl 0 rfl) ?_
    refine lv_iload_n hx hb dX1_partIn_6 rfl (lv_at hl 1 rfl) ?_
    obtain ⟨r2, g2, h⟩ := g_b h
    refine kcall_l (wRow cJ cZ h0 h1 h2 h3 rb re ro rc) (va_runV (As := [.int p1]) (rest := []) ⟨hx, hb, hml, hown, hts⟩ (c_X0_begin l dC dI cB cI cJ cZ h0 h1 h2 h3 _ rb re ro rc p1 r2 g2) (kcwV hts kw_251 kv_X0_begin rfl rfl ⟨(Nat.le_of_ble_eq_true rfl), (Nat.le_of_ble_eq_true rfl)⟩) (kpV (A := A) (hP.sub (kIT mk_11 0) (km_f (m := mk_11) rfl rfl)) hK (hD.sub (kIT mk_11 0) (km_nd mk_11) (km_T (m := mk_11) rfl rfl)) hG (va_recv hK hP (ci := 2) (q0 := 0) rfl rfl)) rfl rfl hl.1 rfl (lv_room (Nat.le_of_ble_eq_true rfl)) dX1_partIn_7 ⟨(Nat.le_of_ble_eq_true rfl), (Nat.le_of_ble_eq_true rfl)⟩) hP hD hS hA (kIT mk_11 0) (kIT mk_12 0) (km_T (m := mk_11) rfl rfl) (km_T (m := mk_11) rfl rfl) [] (km_T (m := mk_12) rfl rfl) (km_T (m := mk_12) rfl rfl) (km_cov (m := mk_11) (n := mk_12) rfl rfl) (km_dis (m := mk_11) (n := mk_12) rfl) rfl (fun H locs hP hD hS => ?_)
    refine lv_goto (tgt := 18) hx hb dX1_partIn_10 (by decide) ?_
    exact J18 rb re ro rc p2 r2 _ _ hP hD hS ls (lv_sub hl [2] rfl) h
abbrev wsX1_lengthOf : List Cond := kWs yX1_lengthOf cX1_lengthOf 2 (some .long)
def f_X1_lengthOf (p0 : Int32) (p1 : Int32) : Option (Int64) :=
  if p0 = 0 then
    some (p1.toInt64 * 1000000000)
  else
    if p0 = 1 then
      some (p1.toInt64 * 1000000)
    else
      some (p1.toInt64 * 1)
theorem f_X1_lengthOf_e {p0 : Int32} {p1 : Int32} : f_X1_lengthOf p0 p1 = 
  if p0 = 0 then
    some (p1.toInt64 * 1000000000)
  else
    if p0 = 1 then
      some (p1.toInt64 * 1000000)
    else
      some (p1.toInt64 * 1) := rfl
set_option maxHeartbeats 4000000 in
set_option maxRecDepth 100000 in
theorem c_X1_lengthOf (l : Launch) (dC : Nat → ClassId) (dI : Nat → Nat → Nat) (cB cI cJ cZ : ClassId) (sz : Nat) (p0 : Int32) (p1 : Int32) (res : Int64) (hf : f_X1_lengthOf p0 p1 = some res) : Met l yX1_lengthOf wsX1_lengthOf ({ frames := 0, cells := 0, slots := 0, locals := 0 } : Room) (kPre (dC, dI) (kTy cB cI cJ cZ) [.int p0, .int p1] sz []) (kL (dC, dI) (res) [] (va_A [] sz)) 0 0 (va_A [] sz) := by
  refine Met.ofW (cc := cX1_lengthOf) (maxL := 2) (ret := (some .long)) (by decide) rfl ?_
  intro p e s m args below meth c s₁ B hml hv
  obtain ⟨rfl, hsz, hP, hK, hD0, hG⟩ := hv
  have hx := B.exec
  have hb := B.bytes
  have hr := B.returns
  have hts := atoms_spec (ws := wsX1_lengthOf) B.pre
  have hown : s.vm.findClass RX1 = some m.cls := findClass_of_methodNamed B.named
  have hlocks := B.notSynchronized
  subst hsz
  have hD := hD0.self (sz := s.heap.size)
  generalize hAe : va_A [] s.heap.size = A at hD ⊢
  have hA : ∀ q : Nat, s.heap.size ≤ q → A q := fun q h => by rw [← hAe]; exact Or.inr h
  have hS : va_S A s.heap s.heap [] := va_S.rf
  clear hAe
  have hw0 := hts (.constantLong RX1 290 (1000000)) (List.mem_cons_of_mem _ kw_518)
  have hw1 := hts (.constantLong RX1 55 (1000000000)) (List.mem_cons_of_mem _ kw_332)
  have hl := lv_entry ([.int p0, .int p1]) (n := 2) (Nat.le_of_ble_eq_true rfl)
  rw [lg_entry_eq]
  generalize (lg_sl ([.int p0, .int p1]) ++ List.replicate (2 - (lg_sl ([.int p0, .int p1])).length) Slot.unset).toArray = ls at hl ⊢
  have hl : lv_has ls 2 [(0, .int p0), (1, .int p1)] := hl
  have h := f_X1_lengthOf_e.symm.trans hf
  refine lv_iload_n hx hb dX1_lengthOf_0 rfl (lv_at hl 0 rfl) ?_
  refine lv_if_ne (tgt := 11) hx hb dX1_lengthOf_1 (by decide) (fun c1 => ?_) (fun c1 => ?_)
  · have h := g_f c1 h
    refine lv_iload_n hx hb dX1_lengthOf_11 rfl (lv_at hl 1 rfl) ?_
    refine lv_i2l (v := p1.toInt64) hx hb dX1_lengthOf_12 rfl ?_
    refine lv_iload_n hx hb dX1_lengthOf_13 rfl (lv_at hl 0 rfl) ?_
    refine lv_iconst (v := 1) hx hb dX1_lengthOf_14 (by decide) ?_
    refine lv_icmp_ne (tgt := 24) hx hb dX1_lengthOf_15 (by decide) (fun c2 => ?_) (fun c2 => ?_)
    · have h := g_f c2 h
      refine lv_lconst (v := 1) hx hb dX1_lengthOf_24 (by decide) ?_
      refine lv_lmul hx hb dX1_lengthOf_25 ?_
      have h := Option.some.inj h
      subst h
      exact kret_l (v := p1.toInt64 * 1) hx hb hr hlocks hS hP dX1_lengthOf_26
    · have h := g_t c2 h
      refine lv_ldc2 (v := (1000000)) hx hb hown hw0 dX1_lengthOf_18 ?_
      refine lv_goto (tgt := 25) hx hb dX1_lengthOf_21 (by decide) ?_
      refine lv_lmul hx hb dX1_lengthOf_25 ?_
      have h := Option.some.inj h
      subst h
      exact kret_l (v := p1.toInt64 * 1000000) hx hb hr hlocks hS hP dX1_lengthOf_26
  · have h := g_t c1 h
    refine lv_iload_n hx hb dX1_lengthOf_4 rfl (lv_at hl 1 rfl) ?_
    refine lv_i2l (v := p1.toInt64) hx hb dX1_lengthOf_5 rfl ?_
    refine lv_ldc2 (v := (1000000000)) hx hb hown hw1 dX1_lengthOf_6 ?_
    refine lv_lmul hx hb dX1_lengthOf_9 ?_
    have h := Option.some.inj h
    subst h
    exact kret_l (v := p1.toInt64 * 1000000000) hx hb hr hlocks hS hP dX1_lengthOf_10
abbrev wsX1_sideOf : List Cond := kWs yX1_sideOf cX1_sideOf 4 (some .int)
def f_X1_sideOf (p0 : Int64) (p1 : Int64) : Option (Int32) :=
  if p0 = p1 then
    some 0
  else
    if p1 ≤ p0 then
      some 1
    else
      some (-1)
theorem f_X1_sideOf_e {p0 : Int64} {p1 : Int64} : f_X1_sideOf p0 p1 = 
  if p0 = p1 then
    some 0
  else
    if p1 ≤ p0 then
      some 1
    else
      some (-1) := rfl
set_option maxHeartbeats 4000000 in
set_option maxRecDepth 100000 in
theorem c_X1_sideOf (l : Launch) (dC : Nat → ClassId) (dI : Nat → Nat → Nat) (cB cI cJ cZ : ClassId) (sz : Nat) (p0 : Int64) (p1 : Int64) (res : Int32) (hf : f_X1_sideOf p0 p1 = some res) : Met l yX1_sideOf wsX1_sideOf ({ frames := 0, cells := 0, slots := 0, locals := 0 } : Room) (kPre (dC, dI) (kTy cB cI cJ cZ) [.long p0, .long p1] sz []) (kI (dC, dI) .int (res) [] (va_A [] sz)) 0 0 (va_A [] sz) := by
  refine Met.ofW (cc := cX1_sideOf) (maxL := 4) (ret := (some .int)) (by decide) rfl ?_
  intro p e s m args below meth c s₁ B hml hv
  obtain ⟨rfl, hsz, hP, hK, hD0, hG⟩ := hv
  have hx := B.exec
  have hb := B.bytes
  have hr := B.returns
  have hts := atoms_spec (ws := wsX1_sideOf) B.pre
  have hown : s.vm.findClass RX1 = some m.cls := findClass_of_methodNamed B.named
  have hlocks := B.notSynchronized
  subst hsz
  have hD := hD0.self (sz := s.heap.size)
  generalize hAe : va_A [] s.heap.size = A at hD ⊢
  have hA : ∀ q : Nat, s.heap.size ≤ q → A q := fun q h => by rw [← hAe]; exact Or.inr h
  have hS : va_S A s.heap s.heap [] := va_S.rf
  clear hAe
  have hl := lv_entry ([.long p0, .long p1]) (n := 4) (Nat.le_of_ble_eq_true rfl)
  rw [lg_entry_eq]
  generalize (lg_sl ([.long p0, .long p1]) ++ List.replicate (4 - (lg_sl ([.long p0, .long p1])).length) Slot.unset).toArray = ls at hl ⊢
  have hl : lv_has ls 4 [(0, .long p0), (2, .long p1)] := hl
  have h := f_X1_sideOf_e.symm.trans hf
  refine lv_lload_n hx hb dX1_sideOf_0 rfl (lv_at hl 0 rfl) ?_
  refine lv_lload_n hx hb dX1_sideOf_1 rfl (lv_at hl 1 rfl) ?_
  refine kl_ne (pc := 2) (tgt := 8) hx hb dX1_sideOf_2 dX1_sideOf_3 (by decide) (fun c1 => ?_) (fun c1 => ?_)
  · have h := g_f c1 h
    refine lv_lload_n hx hb dX1_sideOf_8 rfl (lv_at hl 0 rfl) ?_
    refine lv_lload_n hx hb dX1_sideOf_9 rfl (lv_at hl 1 rfl) ?_
    refine kl_ge (pc := 10) (tgt := 18) hx hb dX1_sideOf_10 dX1_sideOf_11 (by decide) (fun c2 => ?_) (fun c2 => ?_)
    · have h := g_t c2 h
      refine lv_iconst (v := 1) hx hb dX1_sideOf_18 (by decide) ?_
      have h := Option.some.inj h
      subst h
      exact kret_i (v := 1) hx hb hr rfl hlocks hS hP dX1_sideOf_19
    · have h := g_f c2 h
      refine lv_iconst (v := (-1)) hx hb dX1_sideOf_14 (by decide) ?_
      refine lv_goto (tgt := 19) hx hb dX1_sideOf_15 (by decide) ?_
      have h := Option.some.inj h
      subst h
      exact kret_i (v := (-1)) hx hb hr rfl hlocks hS hP dX1_sideOf_19
  · have h := g_t c1 h
    refine lv_iconst (v := 0) hx hb dX1_sideOf_6 (by decide) ?_
    have h := Option.some.inj h
    subst h
    exact kret_i (v := 0) hx hb hr rfl hlocks hS hP dX1_sideOf_7
abbrev wsX1_bring : List Cond := kWs yX1_bring cX1_bring 5 (some .int)
def f_X1_bring (ce : Nat → Int64) (p0 : Int64) (p1 : Int32) : Option ((Int32) × (Nat → Int64)) :=
  if ix p1 4 then
    if (ce p1.toNatClampNeg) = p0 then
      some (0, vp_updL ce p1.toNatClampNeg p0)
    else
      some (1, vp_updL ce p1.toNatClampNeg p0)
  else none
theorem f_X1_bring_e {ce : Nat → Int64} {p0 : Int64} {p1 : Int32} : f_X1_bring ce p0 p1 = 
  if ix p1 4 then
    if (ce p1.toNatClampNeg) = p0 then
      some (0, vp_updL ce p1.toNatClampNeg p0)
    else
      some (1, vp_updL ce p1.toNatClampNeg p0)
  else none := rfl
set_option maxHeartbeats 4000000 in
set_option maxRecDepth 100000 in
theorem c_X1_bring (l : Launch) (dC : Nat → ClassId) (dI : Nat → Nat → Nat) (cB cI cJ cZ : ClassId) (a : Nat → Nat) (sz : Nat) (ce : Nat → Int64) (fr : Int64) (un : Int64) (sb : Nat → Int64) (se : Nat → Int64) (so : Nat → Int32) (sc : Int32) (wb : Nat → Int64) (we : Nat → Int64) (wo : Nat → Int32) (wc : Int32) (fb : Nat → Int64) (fe : Nat → Int64) (fo : Nat → Int32) (fc : Int32) (rm : Nat → Int32) (ac : Int32) (rf : Int32) (kn : Int32) (p0 : Int64) (p1 : Int32) (res : (Int32) × (Nat → Int64)) (hf : f_X1_bring ce p0 p1 = some res) : Met l yX1_bring wsX1_bring ({ frames := 0, cells := 0, slots := 0, locals := 0 } : Room) (kPre (dC, dI) (kTy cB cI cJ cZ) [.ref (a 0), .long p0, .int p1] sz (wSB cI cJ cZ a ce fr un sb se so sc wb we wo wc fb fe fo fc rm ac rf kn)) (kI (dC, dI) .int (res.1) (wSB cI cJ cZ a (res.2) fr un sb se so sc wb we wo wc fb fe fo fc rm ac rf kn) (va_A (wSB cI cJ cZ a ce fr un sb se so sc wb we wo wc fb fe fo fc rm ac rf kn) sz)) 0 0 (va_A (wSB cI cJ cZ a ce fr un sb se so sc wb we wo wc fb fe fo fc rm ac rf kn) sz) := by
  refine Met.ofW (cc := cX1_bring) (maxL := 5) (ret := (some .int)) (by decide) rfl ?_
  intro p e s m args below meth c s₁ B hml hv
  obtain ⟨rfl, hsz, hP, hK, hD0, hG⟩ := hv
  have hx := B.exec
  have hb := B.bytes
  have hr := B.returns
  have hts := atoms_spec (ws := wsX1_bring) B.pre
  have hown : s.vm.findClass RX1 = some m.cls := findClass_of_methodNamed B.named
  have hlocks := B.notSynchronized
  subst hsz
  have hD := hD0.self (sz := s.heap.size)
  generalize hAe : va_A (wSB cI cJ cZ a ce fr un sb se so sc wb we wo wc fb fe fo fc rm ac rf kn) s.heap.size = A at hD ⊢
  have hA : ∀ q : Nat, s.heap.size ≤ q → A q := fun q h => by rw [← hAe]; exact Or.inr h
  have hS : va_S A s.heap s.heap [] := va_S.rf
  clear hAe
  have hw0 := hts (.fieldLink RX1 9 "Spanbooker" "cells" "[J") (List.mem_cons_of_mem _ kw_107)
  have hiX1 : ∀ w ∈ u_ws RX1 TX1 10, w ∈ wsX1_bring := fun w h => List.mem_cons_of_mem _ (ku_X1 w h)
  have hl := lv_entry ([.ref (a 0), .long p0, .int p1]) (n := 5) (Nat.le_of_ble_eq_true rfl)
  rw [lg_entry_eq]
  generalize (lg_sl ([.ref (a 0), .long p0, .int p1]) ++ List.replicate (5 - (lg_sl ([.ref (a 0), .long p0, .int p1])).length) Slot.unset).toArray = ls at hl ⊢
  have hl : lv_has ls 5 [(0, .ref (a 0)), (1, .long p0), (3, .int p1)] := hl
  have h := f_X1_bring_e.symm.trans hf
  refine lv_aload_n hx hb dX1_bring_0 rfl (lv_at hl 0 rfl) ?_
  refine va_get (D := (dC, dI)) (ci := 3) (v := .ref (a 1)) (C := RX1) (T := TX1) (N := 10) hx hb hts hiX1 hown hK hP 0 rfl rfl 0 (by decide) hw0 (fun _ h9 => h9) rfl dX1_bring_1 ?_
  refine lv_iload_n hx hb dX1_bring_4 rfl (lv_at hl 2 rfl) ?_
  obtain ⟨z0, h⟩ := g_if h
  refine va_lald hx hb hK hP 1 2 rfl rfl (ix_in z0) dX1_bring_5 ?_
  refine lv_lload_n hx hb dX1_bring_6 rfl (lv_at hl 1 rfl) ?_
  refine kl_ne (pc := 7) (tgt := 15) hx hb dX1_bring_7 dX1_bring_8 (by decide) (fun c2 => ?_) (fun c2 => ?_)
  · have h := g_f c2 h
    refine lv_iconst (v := 1) hx hb dX1_bring_15 (by decide) ?_
    refine lv_istore (lv' := [(4, .int 1), (0, .ref (a 0)), (1, .long p0), (3, .int p1)]) hx hb dX1_bring_16 hl (by decide) rfl (fun ls hl => ?_)
    refine lv_aload_n hx hb dX1_bring_18 rfl (lv_at hl 1 rfl) ?_
    refine va_get (D := (dC, dI)) (ci := 3) (v := .ref (a 1)) (C := RX1) (T := TX1) (N := 10) hx hb hts hiX1 hown hK hP 0 rfl rfl 0 (by decide) hw0 (fun _ h9 => h9) rfl dX1_bring_19 ?_
    refine lv_iload_n hx hb dX1_bring_22 rfl (lv_at hl 3 rfl) ?_
    refine lv_lload_n hx hb dX1_bring_23 rfl (lv_at hl 2 rfl) ?_
    refine va_last hx hb hK hP hD hS 1 2 rfl rfl (ix_in z0) dX1_bring_24 (fun H locs hP hD hS => ?_)
    have hP : va_P (dC, dI) vwCl (wSB cI cJ cZ a (vp_updL ce p1.toNatClampNeg p0) fr un sb se so sc wb we wo wc fb fe fo fc rm ac rf kn) H := hP
    have hD : va_D A (wSB cI cJ cZ a (vp_updL ce p1.toNatClampNeg p0) fr un sb se so sc wb we wo wc fb fe fo fc rm ac rf kn) := hD
    refine lv_iload hx hb dX1_bring_25 (lv_at hl 0 rfl) ?_
    have h := Option.some.inj h
    subst h
    exact kret_i (v := 1) hx hb hr rfl hlocks hS hP dX1_bring_27
  · have h := g_t c2 h
    refine lv_iconst (v := 0) hx hb dX1_bring_11 (by decide) ?_
    refine lv_goto (tgt := 16) hx hb dX1_bring_12 (by decide) ?_
    refine lv_istore (lv' := [(4, .int 0), (0, .ref (a 0)), (1, .long p0), (3, .int p1)]) hx hb dX1_bring_16 hl (by decide) rfl (fun ls hl => ?_)
    refine lv_aload_n hx hb dX1_bring_18 rfl (lv_at hl 1 rfl) ?_
    refine va_get (D := (dC, dI)) (ci := 3) (v := .ref (a 1)) (C := RX1) (T := TX1) (N := 10) hx hb hts hiX1 hown hK hP 0 rfl rfl 0 (by decide) hw0 (fun _ h9 => h9) rfl dX1_bring_19 ?_
    refine lv_iload_n hx hb dX1_bring_22 rfl (lv_at hl 3 rfl) ?_
    refine lv_lload_n hx hb dX1_bring_23 rfl (lv_at hl 2 rfl) ?_
    refine va_last hx hb hK hP hD hS 1 2 rfl rfl (ix_in z0) dX1_bring_24 (fun H locs hP hD hS => ?_)
    have hP : va_P (dC, dI) vwCl (wSB cI cJ cZ a (vp_updL ce p1.toNatClampNeg p0) fr un sb se so sc wb we wo wc fb fe fo fc rm ac rf kn) H := hP
    have hD : va_D A (wSB cI cJ cZ a (vp_updL ce p1.toNatClampNeg p0) fr un sb se so sc wb we wo wc fb fe fo fc rm ac rf kn) := hD
    refine lv_iload hx hb dX1_bring_25 (lv_at hl 0 rfl) ?_
    have h := Option.some.inj h
    subst h
    exact kret_i (v := 0) hx hb hr rfl hlocks hS hP dX1_bring_27
abbrev wsX1_isAllLetAfter : List Cond := kWs yX1_isAllLetAfter cX1_isAllLetAfter 4 (some .boolean)
def f_X1_isAllLetAfter_2 : Nat → (Nat → Int64) → (Int64) → (Int64) → (Nat → Int64) → (Nat → Int64) → (Int32) → (Nat → Int64) → (Nat → Int64) → (Int32) → (Int64) → (Int32) → Option (Int32)
  | 0, _, _, _, _, _, _, _, _, _, _, _ => none
  | n + 1, ce, fr, un, sb, se, sc, wb, we, wc, x1, x3 =>
    if 4 ≤ x3 then
      (f_X1_isLet (fr + x1)).bind fun r2 =>
      if r2 = 0 then
        some 0
      else
        (f_X1_isLet (un + x1)).bind fun r4 =>
        if r4 = 0 then
          some 0
        else
          (f_X0_isLetAfter sb se sc x1).bind fun r6 =>
          if r6 = 0 then
            some 0
          else
            (f_X0_isLetAfter wb we wc x1).bind fun r8 =>
            if r8 = 0 then
              some 0
            else
              some 1
    else
      if ix x3 4 then
        (f_X1_isLet ((ce x3.toNatClampNeg) + x1)).bind fun r3 =>
        if r3 = 0 then
          some 0
        else
          f_X1_isAllLetAfter_2 n ce fr un sb se sc wb we wc x1 (x3 + 1)
      else none
theorem f_X1_isAllLetAfter_2_0 {ce : Nat → Int64} {fr : Int64} {un : Int64} {sb : Nat → Int64} {se : Nat → Int64} {sc : Int32} {wb : Nat → Int64} {we : Nat → Int64} {wc : Int32} {x1 : Int64} {x3 : Int32} : f_X1_isAllLetAfter_2 0 ce fr un sb se sc wb we wc x1 x3 = none := rfl
theorem f_X1_isAllLetAfter_2_s {n : Nat} {ce : Nat → Int64} {fr : Int64} {un : Int64} {sb : Nat → Int64} {se : Nat → Int64} {sc : Int32} {wb : Nat → Int64} {we : Nat → Int64} {wc : Int32} {x1 : Int64} {x3 : Int32} : f_X1_isAllLetAfter_2 (n + 1) ce fr un sb se sc wb we wc x1 x3 =
  if 4 ≤ x3 then
    (f_X1_isLet (fr + x1)).bind fun r2 =>
    if r2 = 0 then
      some 0
    else
      (f_X1_isLet (un + x1)).bind fun r4 =>
      if r4 = 0 then
        some 0
      else
        (f_X0_isLetAfter sb se sc x1).bind fun r6 =>
        if r6 = 0 then
          some 0
        else
          (f_X0_isLetAfter wb we wc x1).bind fun r8 =>
          if r8 = 0 then
            some 0
          else
            some 1
  else
    if ix x3 4 then
      (f_X1_isLet ((ce x3.toNatClampNeg) + x1)).bind fun r3 =>
      if r3 = 0 then
        some 0
      else
        f_X1_isAllLetAfter_2 n ce fr un sb se sc wb we wc x1 (x3 + 1)
    else none := rfl
def f_X1_isAllLetAfter (ce : Nat → Int64) (fr : Int64) (un : Int64) (sb : Nat → Int64) (se : Nat → Int64) (sc : Int32) (wb : Nat → Int64) (we : Nat → Int64) (wc : Int32) (p0 : Int64) : Option (Int32) :=
  f_X1_isAllLetAfter_2 24 ce fr un sb se sc wb we wc p0 0
theorem f_X1_isAllLetAfter_e {ce : Nat → Int64} {fr : Int64} {un : Int64} {sb : Nat → Int64} {se : Nat → Int64} {sc : Int32} {wb : Nat → Int64} {we : Nat → Int64} {wc : Int32} {p0 : Int64} : f_X1_isAllLetAfter ce fr un sb se sc wb we wc p0 = 
  f_X1_isAllLetAfter_2 24 ce fr un sb se sc wb we wc p0 0 := rfl
set_option maxHeartbeats 4000000 in
set_option maxRecDepth 100000 in
theorem c_X1_isAllLetAfter (l : Launch) (dC : Nat → ClassId) (dI : Nat → Nat → Nat) (cB cI cJ cZ : ClassId) (a : Nat → Nat) (sz : Nat) (ce : Nat → Int64) (fr : Int64) (un : Int64) (sb : Nat → Int64) (se : Nat → Int64) (so : Nat → Int32) (sc : Int32) (wb : Nat → Int64) (we : Nat → Int64) (wo : Nat → Int32) (wc : Int32) (fb : Nat → Int64) (fe : Nat → Int64) (fo : Nat → Int32) (fc : Int32) (rm : Nat → Int32) (ac : Int32) (rf : Int32) (kn : Int32) (p0 : Int64) (res : Int32) (hf : f_X1_isAllLetAfter ce fr un sb se sc wb we wc p0 = some res) : Met l yX1_isAllLetAfter wsX1_isAllLetAfter ({ frames := 2, cells := 0, slots := 0, locals := 44 } : Room) (kPre (dC, dI) (kTy cB cI cJ cZ) [.ref (a 0), .long p0] sz (wSB cI cJ cZ a ce fr un sb se so sc wb we wo wc fb fe fo fc rm ac rf kn)) (kI (dC, dI) .boolean (res) (wSB cI cJ cZ a ce fr un sb se so sc wb we wo wc fb fe fo fc rm ac rf kn) (va_A (wSB cI cJ cZ a ce fr un sb se so sc wb we wo wc fb fe fo fc rm ac rf kn) sz)) 0 0 (va_A (wSB cI cJ cZ a ce fr un sb se so sc wb we wo wc fb fe fo fc rm ac rf kn) sz) := by
  refine Met.ofW (cc := cX1_isAllLetAfter) (maxL := 4) (ret := (some .boolean)) (by decide) rfl ?_
  intro p e s m args below meth c s₁ B hml hv
  obtain ⟨rfl, hsz, hP, hK, hD0, hG⟩ := hv
  have hx := B.exec
  have hb := B.bytes
  have hr := B.returns
  have hts := atoms_spec (ws := wsX1_isAllLetAfter) B.pre
  have hown : s.vm.findClass RX1 = some m.cls := findClass_of_methodNamed B.named
  have hlocks := B.notSynchronized
  subst hsz
  have hD := hD0.self (sz := s.heap.size)
  generalize hAe : va_A (wSB cI cJ cZ a ce fr un sb se so sc wb we wo wc fb fe fo fc rm ac rf kn) s.heap.size = A at hD ⊢
  have hA : ∀ q : Nat, s.heap.size ≤ q → A q := fun q h => by rw [← hAe]; exact Or.inr h
  have hS : va_S A s.heap s.heap [] := va_S.rf
  clear hAe
  have hw0 := hts (.fieldLink RX1 13 "Spanbooker" "from" "J") (List.mem_cons_of_mem _ kw_108)
  have hw1 := hts (.fieldLink RX1 19 "Spanbooker" "until" "J") (List.mem_cons_of_mem _ kw_109)
  have hw2 := hts (.fieldLink RX1 25 "Spanbooker" "spanRow" "LSpanbooker$Row;") (List.mem_cons_of_mem _ kw_110)
  have hw3 := hts (.fieldLink RX1 29 "Spanbooker" "wishRow" "LSpanbooker$Row;") (List.mem_cons_of_mem _ kw_111)
  have hw4 := hts (.fieldLink RX1 9 "Spanbooker" "cells" "[J") (List.mem_cons_of_mem _ kw_107)
  have hiX1 : ∀ w ∈ u_ws RX1 TX1 10, w ∈ wsX1_isAllLetAfter := fun w h => List.mem_cons_of_mem _ (ku_X1 w h)
  have J2 : ∀ (n : Nat), ∀ (ce : Nat → Int64) (fr : Int64) (un : Int64) (sb : Nat → Int64) (se : Nat → Int64) (so : Nat → Int32) (sc : Int32) (wb : Nat → Int64) (we : Nat → Int64) (wo : Nat → Int32) (wc : Int32) (fb : Nat → Int64) (fe : Nat → Int64) (fo : Nat → Int32) (fc : Int32) (rm : Nat → Int32) (ac : Int32) (rf : Int32) (kn : Int32) (x1 : Int64) (x3 : Int32) (H : Heap) (locs : List Loc), va_P (dC, dI) vwCl (wSB cI cJ cZ a ce fr un sb se so sc wb we wo wc fb fe fo fc rm ac rf kn) H → va_D A (wSB cI cJ cZ a ce fr un sb se so sc wb we wo wc fb fe fo fc rm ac rf kn) → va_S A s.heap H locs → ∀ (ls : Array Slot), lv_has ls 4 [(0, .ref (a 0)), (1, .long x1), (3, .int x3)] → f_X1_isAllLetAfter_2 n ce fr un sb se sc wb we wc x1 x3 = some res → W p l e (headSpec wsX1_isAllLetAfter ({ frames := 2, cells := 0, slots := 0, locals := 44 } : Room)).room s m ([.ref (a 0), .long p0] : List Value).toArray below meth c H locs 0 0 (MQ below (kI (dC, dI) .boolean (res) (wSB cI cJ cZ a ce fr un sb se so sc wb we wo wc fb fe fo fc rm ac rf kn) A) ([.ref (a 0), .long p0] : List Value).toArray s 0 0 A) (F0 m 2 ls []) := by
    intro n
    induction n with
    | zero =>
      intro ce fr un sb se so sc wb we wo wc fb fe fo fc rm ac rf kn x1 x3 H locs hP hD hS ls hl h
      have h := f_X1_isAllLetAfter_2_0.symm.trans h
      cases h
    | succ n ih =>
      intro ce fr un sb se so sc wb we wo wc fb fe fo fc rm ac rf kn x1 x3 H locs hP hD hS ls hl h
      have h := f_X1_isAllLetAfter_2_s.symm.trans h
      refine lv_iload_n hx hb dX1_isAllLetAfter_2 rfl (lv_at hl 2 rfl) ?_
      refine lv_iconst (v := 4) hx hb dX1_isAllLetAfter_3 (by decide) ?_
      refine lv_icmp_ge (tgt := 29) hx hb dX1_isAllLetAfter_4 (by decide) (fun c1 => ?_) (fun c1 => ?_)
      · have h := g_t c1 h
        refine lv_aload_n hx hb dX1_isAllLetAfter_29 rfl (lv_at hl 0 rfl) ?_
        refine va_get (D := (dC, dI)) (ci := 3) (v := .long fr) (C := RX1) (T := TX1) (N := 10) hx hb hts hiX1 hown hK hP 0 rfl rfl 1 (by decide) hw0 (fun _ h9 => h9) rfl dX1_isAllLetAfter_30 ?_
        refine lv_lload_n hx hb dX1_isAllLetAfter_33 rfl (lv_at hl 1 rfl) ?_
        refine lv_ladd hx hb dX1_isAllLetAfter_34 ?_
        obtain ⟨r2, g2, h⟩ := g_b h
        refine kcall_i (wSB cI cJ cZ a ce fr un sb se so sc wb we wo wc fb fe fo fc rm ac rf kn) (va_runS (As := [.long (fr + x1)]) (rest := []) ⟨hx, hb, hml, hown, hts⟩ (c_X1_isLet l dC dI cB cI cJ cZ  _  (fr + x1) r2 g2) (kcwS hts kw_496 kv_X1_isLet rfl rfl ⟨(Nat.le_of_ble_eq_true rfl), (Nat.le_of_ble_eq_true rfl)⟩) (kpS (A := A) (kPnil) hK ((kDnil (A := A))) hG) rfl rfl hl.1 rfl (lv_room (Nat.le_of_ble_eq_true rfl)) dX1_isAllLetAfter_35 ⟨(Nat.le_of_ble_eq_true rfl), (Nat.le_of_ble_eq_true rfl)⟩) hP hD hS hA (kIT mk_13 0) (kIT mk_14 0) (km_T (m := mk_13) rfl rfl) (km_T (m := mk_13) rfl rfl) [((a 0), .inr (3, [.ref (a 1), .long fr, .long un, .ref (a 2), .ref (a 6), .ref (a 10), .ref (a 14), .int ac, .int rf, .int kn])), ((a 1), .inl (cJ, 4, .inr (.inl ce))), ((a 2), .inr (2, [.ref (a 3), .ref (a 4), .ref (a 5), .int sc])), ((a 3), .inl (cJ, 11, .inr (.inl sb))), ((a 4), .inl (cJ, 11, .inr (.inl se))), ((a 5), .inl (cZ, 11, .inl so)), ((a 6), .inr (2, [.ref (a 7), .ref (a 8), .ref (a 9), .int wc])), ((a 7), .inl (cJ, 11, .inr (.inl wb))), ((a 8), .inl (cJ, 11, .inr (.inl we))), ((a 9), .inl (cZ, 11, .inl wo)), ((a 10), .inr (2, [.ref (a 11), .ref (a 12), .ref (a 13), .int fc])), ((a 11), .inl (cJ, 11, .inr (.inl fb))), ((a 12), .inl (cJ, 11, .inr (.inl fe))), ((a 13), .inl (cZ, 11, .inl fo)), ((a 14), .inl (cI, 11, .inl rm))] (km_T (m := mk_14) rfl rfl) (km_T (m := mk_14) rfl rfl) (km_cov (m := mk_13) (n := mk_14) rfl rfl) (km_dis (m := mk_13) (n := mk_14) rfl) rfl (fun H locs hP hD hS br2 => ?_)
        refine lv_if_eq (tgt := 79) hx hb dX1_isAllLetAfter_38 (by decide) (fun c3 => ?_) (fun c3 => ?_)
        · have h := g_t c3 h
          refine lv_iconst (v := 0) hx hb dX1_isAllLetAfter_79 (by decide) ?_
          have h := Option.some.inj h
          subst h
          exact kret_i (v := 0) hx hb hr rfl hlocks hS hP dX1_isAllLetAfter_80
        · have h := g_f c3 h
          refine lv_aload_n hx hb dX1_isAllLetAfter_41 rfl (lv_at hl 0 rfl) ?_
          refine va_get (D := (dC, dI)) (ci := 3) (v := .long un) (C := RX1) (T := TX1) (N := 10) hx hb hts hiX1 hown hK hP 0 rfl rfl 2 (by decide) hw1 (fun _ h9 => h9) rfl dX1_isAllLetAfter_42 ?_
          refine lv_lload_n hx hb dX1_isAllLetAfter_45 rfl (lv_at hl 1 rfl) ?_
          refine lv_ladd hx hb dX1_isAllLetAfter_46 ?_
          obtain ⟨r4, g4, h⟩ := g_b h
          refine kcall_i (wSB cI cJ cZ a ce fr un sb se so sc wb we wo wc fb fe fo fc rm ac rf kn) (va_runS (As := [.long (un + x1)]) (rest := []) ⟨hx, hb, hml, hown, hts⟩ (c_X1_isLet l dC dI cB cI cJ cZ  _  (un + x1) r4 g4) (kcwS hts kw_496 kv_X1_isLet rfl rfl ⟨(Nat.le_of_ble_eq_true rfl), (Nat.le_of_ble_eq_true rfl)⟩) (kpS (A := A) (kPnil) hK ((kDnil (A := A))) hG) rfl rfl hl.1 rfl (lv_room (Nat.le_of_ble_eq_true rfl)) dX1_isAllLetAfter_47 ⟨(Nat.le_of_ble_eq_true rfl), (Nat.le_of_ble_eq_true rfl)⟩) hP hD hS hA (kIT mk_13 0) (kIT mk_14 0) (km_T (m := mk_13) rfl rfl) (km_T (m := mk_13) rfl rfl) [((a 0), .inr (3, [.ref (a 1), .long fr, .long un, .ref (a 2), .ref (a 6), .ref (a 10), .ref (a 14), .int ac, .int rf, .int kn])), ((a 1), .inl (cJ, 4, .inr (.inl ce))), ((a 2), .inr (2, [.ref (a 3), .ref (a 4), .ref (a 5), .int sc])), ((a 3), .inl (cJ, 11, .inr (.inl sb))), ((a 4), .inl (cJ, 11, .inr (.inl se))), ((a 5), .inl (cZ, 11, .inl so)), ((a 6), .inr (2, [.ref (a 7), .ref (a 8), .ref (a 9), .int wc])), ((a 7), .inl (cJ, 11, .inr (.inl wb))), ((a 8), .inl (cJ, 11, .inr (.inl we))), ((a 9), .inl (cZ, 11, .inl wo)), ((a 10), .inr (2, [.ref (a 11), .ref (a 12), .ref (a 13), .int fc])), ((a 11), .inl (cJ, 11, .inr (.inl fb))), ((a 12), .inl (cJ, 11, .inr (.inl fe))), ((a 13), .inl (cZ, 11, .inl fo)), ((a 14), .inl (cI, 11, .inl rm))] (km_T (m := mk_14) rfl rfl) (km_T (m := mk_14) rfl rfl) (km_cov (m := mk_13) (n := mk_14) rfl rfl) (km_dis (m := mk_13) (n := mk_14) rfl) rfl (fun H locs hP hD hS br4 => ?_)
          refine lv_if_eq (tgt := 79) hx hb dX1_isAllLetAfter_50 (by decide) (fun c5 => ?_) (fun c5 => ?_)
          · have h := g_t c5 h
            refine lv_iconst (v := 0) hx hb dX1_isAllLetAfter_79 (by decide) ?_
            have h := Option.some.inj h
            subst h
            exact kret_i (v := 0) hx hb hr rfl hlocks hS hP dX1_isAllLetAfter_80
          · have h := g_f c5 h
            refine lv_aload_n hx hb dX1_isAllLetAfter_53 rfl (lv_at hl 0 rfl) ?_
            refine va_get (D := (dC, dI)) (ci := 3) (v := .ref (a 2)) (C := RX1) (T := TX1) (N := 10) hx hb hts hiX1 hown hK hP 0 rfl rfl 3 (by decide) hw2 (fun _ h9 => h9) rfl dX1_isAllLetAfter_54 ?_
            refine lv_lload_n hx hb dX1_isAllLetAfter_57 rfl (lv_at hl 1 rfl) ?_
            obtain ⟨r6, g6, h⟩ := g_b h
            refine kcall_i (wSB cI cJ cZ a ce fr un sb se so sc wb we wo wc fb fe fo fc rm ac rf kn) (va_runV (As := [.long x1]) (rest := []) ⟨hx, hb, hml, hown, hts⟩ (c_X0_isLetAfter l dC dI cB cI cJ cZ (a 2) (a 3) (a 4) (a 5) _ sb se so sc x1 r6 g6) (kcwV hts kw_558 kv_X0_isLetAfter rfl rfl ⟨(Nat.le_of_ble_eq_true rfl), (Nat.le_of_ble_eq_true rfl)⟩) (kpV (A := A) (hP.sub (kIT mk_15 0) (km_f (m := mk_15) rfl rfl)) hK (hD.sub (kIT mk_15 0) (km_nd mk_15) (km_T (m := mk_15) rfl rfl)) hG (va_recv hK hP (ci := 2) (q0 := 2) rfl rfl)) rfl rfl hl.1 rfl (lv_room (Nat.le_of_ble_eq_true rfl)) dX1_isAllLetAfter_58 ⟨(Nat.le_of_ble_eq_true rfl), (Nat.le_of_ble_eq_true rfl)⟩) hP hD hS hA (kIT mk_15 0) (kIT mk_16 0) (km_T (m := mk_15) rfl rfl) (km_T (m := mk_15) rfl rfl) [((a 0), .inr (3, [.ref (a 1), .long fr, .long un, .ref (a 2), .ref (a 6), .ref (a 10), .ref (a 14), .int ac, .int rf, .int kn])), ((a 1), .inl (cJ, 4, .inr (.inl ce))), ((a 6), .inr (2, [.ref (a 7), .ref (a 8), .ref (a 9), .int wc])), ((a 7), .inl (cJ, 11, .inr (.inl wb))), ((a 8), .inl (cJ, 11, .inr (.inl we))), ((a 9), .inl (cZ, 11, .inl wo)), ((a 10), .inr (2, [.ref (a 11), .ref (a 12), .ref (a 13), .int fc])), ((a 11), .inl (cJ, 11, .inr (.inl fb))), ((a 12), .inl (cJ, 11, .inr (.inl fe))), ((a 13), .inl (cZ, 11, .inl fo)), ((a 14), .inl (cI, 11, .inl rm))] (km_T (m := mk_16) rfl rfl) (km_T (m := mk_16) rfl rfl) (km_cov (m := mk_15) (n := mk_16) rfl rfl) (km_dis (m := mk_15) (n := mk_16) rfl) rfl (fun H locs hP hD hS br6 => ?_)
            refine lv_if_eq (tgt := 79) hx hb dX1_isAllLetAfter_61 (by decide) (fun c7 => ?_) (fun c7 => ?_)
            · have h := g_t c7 h
              refine lv_iconst (v := 0) hx hb dX1_isAllLetAfter_79 (by decide) ?_
              have h := Option.some.inj h
              subst h
              exact kret_i (v := 0) hx hb hr rfl hlocks hS hP dX1_isAllLetAfter_80
            · have h := g_f c7 h
              refine lv_aload_n hx hb dX1_isAllLetAfter_64 rfl (lv_at hl 0 rfl) ?_
              refine va_get (D := (dC, dI)) (ci := 3) (v := .ref (a 6)) (C := RX1) (T := TX1) (N := 10) hx hb hts hiX1 hown hK hP 0 rfl rfl 4 (by decide) hw3 (fun _ h9 => h9) rfl dX1_isAllLetAfter_65 ?_
              refine lv_lload_n hx hb dX1_isAllLetAfter_68 rfl (lv_at hl 1 rfl) ?_
              obtain ⟨r8, g8, h⟩ := g_b h
              refine kcall_i (wSB cI cJ cZ a ce fr un sb se so sc wb we wo wc fb fe fo fc rm ac rf kn) (va_runV (As := [.long x1]) (rest := []) ⟨hx, hb, hml, hown, hts⟩ (c_X0_isLetAfter l dC dI cB cI cJ cZ (a 6) (a 7) (a 8) (a 9) _ wb we wo wc x1 r8 g8) (kcwV hts kw_558 kv_X0_isLetAfter rfl rfl ⟨(Nat.le_of_ble_eq_true rfl), (Nat.le_of_ble_eq_true rfl)⟩) (kpV (A := A) (hP.sub (kIT mk_17 0) (km_f (m := mk_17) rfl rfl)) hK (hD.sub (kIT mk_17 0) (km_nd mk_17) (km_T (m := mk_17) rfl rfl)) hG (va_recv hK hP (ci := 2) (q0 := 6) rfl rfl)) rfl rfl hl.1 rfl (lv_room (Nat.le_of_ble_eq_true rfl)) dX1_isAllLetAfter_69 ⟨(Nat.le_of_ble_eq_true rfl), (Nat.le_of_ble_eq_true rfl)⟩) hP hD hS hA (kIT mk_17 0) (kIT mk_18 0) (km_T (m := mk_17) rfl rfl) (km_T (m := mk_17) rfl rfl) [((a 0), .inr (3, [.ref (a 1), .long fr, .long un, .ref (a 2), .ref (a 6), .ref (a 10), .ref (a 14), .int ac, .int rf, .int kn])), ((a 1), .inl (cJ, 4, .inr (.inl ce))), ((a 2), .inr (2, [.ref (a 3), .ref (a 4), .ref (a 5), .int sc])), ((a 3), .inl (cJ, 11, .inr (.inl sb))), ((a 4), .inl (cJ, 11, .inr (.inl se))), ((a 5), .inl (cZ, 11, .inl so)), ((a 10), .inr (2, [.ref (a 11), .ref (a 12), .ref (a 13), .int fc])), ((a 11), .inl (cJ, 11, .inr (.inl fb))), ((a 12), .inl (cJ, 11, .inr (.inl fe))), ((a 13), .inl (cZ, 11, .inl fo)), ((a 14), .inl (cI, 11, .inl rm))] (km_T (m := mk_18) rfl rfl) (km_T (m := mk_18) rfl rfl) (km_cov (m := mk_17) (n := mk_18) rfl rfl) (km_dis (m := mk_17) (n := mk_18) rfl) rfl (fun H locs hP hD hS br8 => ?_)
              refine lv_if_eq (tgt := 79) hx hb dX1_isAllLetAfter_72 (by decide) (fun c9 => ?_) (fun c9 => ?_)
              · have h := g_t c9 h
                refine lv_iconst (v := 0) hx hb dX1_isAllLetAfter_79 (by decide) ?_
                have h := Option.some.inj h
                subst h
                exact kret_i (v := 0) hx hb hr rfl hlocks hS hP dX1_isAllLetAfter_80
              · have h := g_f c9 h
                refine lv_iconst (v := 1) hx hb dX1_isAllLetAfter_75 (by decide) ?_
                refine lv_goto (tgt := 80) hx hb dX1_isAllLetAfter_76 (by decide) ?_
                have h := Option.some.inj h
                subst h
                exact kret_i (v := 1) hx hb hr rfl hlocks hS hP dX1_isAllLetAfter_80
      · have h := g_f c1 h
        refine lv_aload_n hx hb dX1_isAllLetAfter_7 rfl (lv_at hl 0 rfl) ?_
        refine va_get (D := (dC, dI)) (ci := 3) (v := .ref (a 1)) (C := RX1) (T := TX1) (N := 10) hx hb hts hiX1 hown hK hP 0 rfl rfl 0 (by decide) hw4 (fun _ h9 => h9) rfl dX1_isAllLetAfter_8 ?_
        refine lv_iload_n hx hb dX1_isAllLetAfter_11 rfl (lv_at hl 2 rfl) ?_
        obtain ⟨z1, h⟩ := g_if h
        refine va_lald hx hb hK hP 1 2 rfl rfl (ix_in z1) dX1_isAllLetAfter_12 ?_
        refine lv_lload_n hx hb dX1_isAllLetAfter_13 rfl (lv_at hl 1 rfl) ?_
        refine lv_ladd hx hb dX1_isAllLetAfter_14 ?_
        obtain ⟨r3, g3, h⟩ := g_b h
        refine kcall_i (wSB cI cJ cZ a ce fr un sb se so sc wb we wo wc fb fe fo fc rm ac rf kn) (va_runS (As := [.long ((ce x3.toNatClampNeg) + x1)]) (rest := []) ⟨hx, hb, hml, hown, hts⟩ (c_X1_isLet l dC dI cB cI cJ cZ  _  ((ce x3.toNatClampNeg) + x1) r3 g3) (kcwS hts kw_496 kv_X1_isLet rfl rfl ⟨(Nat.le_of_ble_eq_true rfl), (Nat.le_of_ble_eq_true rfl)⟩) (kpS (A := A) (kPnil) hK ((kDnil (A := A))) hG) rfl rfl hl.1 rfl (lv_room (Nat.le_of_ble_eq_true rfl)) dX1_isAllLetAfter_15 ⟨(Nat.le_of_ble_eq_true rfl), (Nat.le_of_ble_eq_true rfl)⟩) hP hD hS hA (kIT mk_13 0) (kIT mk_14 0) (km_T (m := mk_13) rfl rfl) (km_T (m := mk_13) rfl rfl) [((a 0), .inr (3, [.ref (a 1), .long fr, .long un, .ref (a 2), .ref (a 6), .ref (a 10), .ref (a 14), .int ac, .int rf, .int kn])), ((a 1), .inl (cJ, 4, .inr (.inl ce))), ((a 2), .inr (2, [.ref (a 3), .ref (a 4), .ref (a 5), .int sc])), ((a 3), .inl (cJ, 11, .inr (.inl sb))), ((a 4), .inl (cJ, 11, .inr (.inl se))), ((a 5), .inl (cZ, 11, .inl so)), ((a 6), .inr (2, [.ref (a 7), .ref (a 8), .ref (a 9), .int wc])), ((a 7), .inl (cJ, 11, .inr (.inl wb))), ((a 8), .inl (cJ, 11, .inr (.inl we))), ((a 9), .inl (cZ, 11, .inl wo)), ((a 10), .inr (2, [.ref (a 11), .ref (a 12), .ref (a 13), .int fc])), ((a 11), .inl (cJ, 11, .inr (.inl fb))), ((a 12), .inl (cJ, 11, .inr (.inl fe))), ((a 13), .inl (cZ, 11, .inl fo)), ((a 14), .inl (cI, 11, .inl rm))] (km_T (m := mk_14) rfl rfl) (km_T (m := mk_14) rfl rfl) (km_cov (m := mk_13) (n := mk_14) rfl rfl) (km_dis (m := mk_13) (n := mk_14) rfl) rfl (fun H locs hP hD hS br3 => ?_)
        refine lv_if_ne (tgt := 23) hx hb dX1_isAllLetAfter_18 (by decide) (fun c4 => ?_) (fun c4 => ?_)
        · have h := g_f c4 h
          refine lv_iinc (v := x3 + 1) (lv' := [(3, .int (x3 + 1)), (0, .ref (a 0)), (1, .long x1)]) hx hb dX1_isAllLetAfter_23 hl (k := 2) rfl rfl (by decide) rfl (fun ls hl => ?_)
          refine lv_goto (tgt := 2) hx hb dX1_isAllLetAfter_26 (by decide) ?_
          exact ih ce fr un sb se so sc wb we wo wc fb fe fo fc rm ac rf kn x1 (x3 + 1) _ _ hP hD hS ls (lv_sub hl [1, 2, 0] rfl) h
        · have h := g_t c4 h
          refine lv_iconst (v := 0) hx hb dX1_isAllLetAfter_21 (by decide) ?_
          have h := Option.some.inj h
          subst h
          exact kret_i (v := 0) hx hb hr rfl hlocks hS hP dX1_isAllLetAfter_22
  have hl := lv_entry ([.ref (a 0), .long p0]) (n := 4) (Nat.le_of_ble_eq_true rfl)
  rw [lg_entry_eq]
  generalize (lg_sl ([.ref (a 0), .long p0]) ++ List.replicate (4 - (lg_sl ([.ref (a 0), .long p0])).length) Slot.unset).toArray = ls at hl ⊢
  have hl : lv_has ls 4 [(0, .ref (a 0)), (1, .long p0)] := hl
  have h := f_X1_isAllLetAfter_e.symm.trans hf
  refine lv_iconst (v := 0) hx hb dX1_isAllLetAfter_0 (by decide) ?_
  refine lv_istore_n (lv' := [(3, .int 0), (0, .ref (a 0)), (1, .long p0)]) hx hb dX1_isAllLetAfter_1 rfl hl (by decide) rfl (fun ls hl => ?_)
  exact J2 24 ce fr un sb se so sc wb we wo wc fb fe fo fc rm ac rf kn p0 0 _ _ hP hD hS ls (lv_sub hl [1, 2, 0] rfl) h
abbrev wsX1_isInCalendar : List Cond := kWs yX1_isInCalendar cX1_isInCalendar 5 (some .boolean)
def f_X1_isInCalendar (fr : Int64) (un : Int64) (p0 : Int64) (p1 : Int64) : Option (Int32) :=
  if p0 < fr then
    some 0
  else
    if un < p1 then
      some 0
    else
      some 1
theorem f_X1_isInCalendar_e {fr : Int64} {un : Int64} {p0 : Int64} {p1 : Int64} : f_X1_isInCalendar fr un p0 p1 = 
  if p0 < fr then
    some 0
  else
    if un < p1 then
      some 0
    else
      some 1 := rfl
set_option maxHeartbeats 4000000 in
set_option maxRecDepth 100000 in
theorem c_X1_isInCalendar (l : Launch) (dC : Nat → ClassId) (dI : Nat → Nat → Nat) (cB cI cJ cZ : ClassId) (a : Nat → Nat) (sz : Nat) (ce : Nat → Int64) (fr : Int64) (un : Int64) (sb : Nat → Int64) (se : Nat → Int64) (so : Nat → Int32) (sc : Int32) (wb : Nat → Int64) (we : Nat → Int64) (wo : Nat → Int32) (wc : Int32) (fb : Nat → Int64) (fe : Nat → Int64) (fo : Nat → Int32) (fc : Int32) (rm : Nat → Int32) (ac : Int32) (rf : Int32) (kn : Int32) (p0 : Int64) (p1 : Int64) (res : Int32) (hf : f_X1_isInCalendar fr un p0 p1 = some res) : Met l yX1_isInCalendar wsX1_isInCalendar ({ frames := 0, cells := 0, slots := 0, locals := 0 } : Room) (kPre (dC, dI) (kTy cB cI cJ cZ) [.ref (a 0), .long p0, .long p1] sz (wSB cI cJ cZ a ce fr un sb se so sc wb we wo wc fb fe fo fc rm ac rf kn)) (kI (dC, dI) .boolean (res) (wSB cI cJ cZ a ce fr un sb se so sc wb we wo wc fb fe fo fc rm ac rf kn) (va_A (wSB cI cJ cZ a ce fr un sb se so sc wb we wo wc fb fe fo fc rm ac rf kn) sz)) 0 0 (va_A (wSB cI cJ cZ a ce fr un sb se so sc wb we wo wc fb fe fo fc rm ac rf kn) sz) := by
  refine Met.ofW (cc := cX1_isInCalendar) (maxL := 5) (ret := (some .boolean)) (by decide) rfl ?_
  intro p e s m args below meth c s₁ B hml hv
  obtain ⟨rfl, hsz, hP, hK, hD0, hG⟩ := hv
  have hx := B.exec
  have hb := B.bytes
  have hr := B.returns
  have hts := atoms_spec (ws := wsX1_isInCalendar) B.pre
  have hown : s.vm.findClass RX1 = some m.cls := findClass_of_methodNamed B.named
  have hlocks := B.notSynchronized
  subst hsz
  have hD := hD0.self (sz := s.heap.size)
  generalize hAe : va_A (wSB cI cJ cZ a ce fr un sb se so sc wb we wo wc fb fe fo fc rm ac rf kn) s.heap.size = A at hD ⊢
  have hA : ∀ q : Nat, s.heap.size ≤ q → A q := fun q h => by rw [← hAe]; exact Or.inr h
  have hS : va_S A s.heap s.heap [] := va_S.rf
  clear hAe
  have hw0 := hts (.fieldLink RX1 13 "Spanbooker" "from" "J") (List.mem_cons_of_mem _ kw_108)
  have hw1 := hts (.fieldLink RX1 19 "Spanbooker" "until" "J") (List.mem_cons_of_mem _ kw_109)
  have hiX1 : ∀ w ∈ u_ws RX1 TX1 10, w ∈ wsX1_isInCalendar := fun w h => List.mem_cons_of_mem _ (ku_X1 w h)
  have hl := lv_entry ([.ref (a 0), .long p0, .long p1]) (n := 5) (Nat.le_of_ble_eq_true rfl)
  rw [lg_entry_eq]
  generalize (lg_sl ([.ref (a 0), .long p0, .long p1]) ++ List.replicate (5 - (lg_sl ([.ref (a 0), .long p0, .long p1])).length) Slot.unset).toArray = ls at hl ⊢
  have hl : lv_has ls 5 [(0, .ref (a 0)), (1, .long p0), (3, .long p1)] := hl
  have h := f_X1_isInCalendar_e.symm.trans hf
  refine lv_lload_n hx hb dX1_isInCalendar_0 rfl (lv_at hl 1 rfl) ?_
  refine lv_aload_n hx hb dX1_isInCalendar_1 rfl (lv_at hl 0 rfl) ?_
  refine va_get (D := (dC, dI)) (ci := 3) (v := .long fr) (C := RX1) (T := TX1) (N := 10) hx hb hts hiX1 hown hK hP 0 rfl rfl 1 (by decide) hw0 (fun _ h9 => h9) rfl dX1_isInCalendar_2 ?_
  refine kl_lt (pc := 5) (tgt := 22) hx hb dX1_isInCalendar_5 dX1_isInCalendar_6 (by decide) (fun c1 => ?_) (fun c1 => ?_)
  · have h := g_t c1 h
    refine lv_iconst (v := 0) hx hb dX1_isInCalendar_22 (by decide) ?_
    have h := Option.some.inj h
    subst h
    exact kret_i (v := 0) hx hb hr rfl hlocks hS hP dX1_isInCalendar_23
  · have h := g_f c1 h
    refine lv_lload_n hx hb dX1_isInCalendar_9 rfl (lv_at hl 2 rfl) ?_
    refine lv_aload_n hx hb dX1_isInCalendar_10 rfl (lv_at hl 0 rfl) ?_
    refine va_get (D := (dC, dI)) (ci := 3) (v := .long un) (C := RX1) (T := TX1) (N := 10) hx hb hts hiX1 hown hK hP 0 rfl rfl 2 (by decide) hw1 (fun _ h9 => h9) rfl dX1_isInCalendar_11 ?_
    refine kl_gt (pc := 14) (tgt := 22) hx hb dX1_isInCalendar_14 dX1_isInCalendar_15 (by decide) (fun c2 => ?_) (fun c2 => ?_)
    · have h := g_t c2 h
      refine lv_iconst (v := 0) hx hb dX1_isInCalendar_22 (by decide) ?_
      have h := Option.some.inj h
      subst h
      exact kret_i (v := 0) hx hb hr rfl hlocks hS hP dX1_isInCalendar_23
    · have h := g_f c2 h
      refine lv_iconst (v := 1) hx hb dX1_isInCalendar_18 (by decide) ?_
      refine lv_goto (tgt := 23) hx hb dX1_isInCalendar_19 (by decide) ?_
      have h := Option.some.inj h
      subst h
      exact kret_i (v := 1) hx hb hr rfl hlocks hS hP dX1_isInCalendar_23
abbrev wsX1_addSpan : List Cond := kWs yX1_addSpan cX1_addSpan 6 (some .int)
def f_X1_addSpan_50 (sb : Nat → Int64) (se : Nat → Int64) (so : Nat → Int32) (sc : Int32) (x1 : Int64) (x3 : Int64) (x5 : Int32) : Option ((Int32) × (Nat → Int64) × (Nat → Int64) × (Nat → Int32) × (Int32)) :=
  (f_X0_add sb se so sc x1 x3 x5).bind fun r1 =>
  some (r1.1, r1.2.1, r1.2.2.1, r1.2.2.2.1, r1.2.2.2.2)
theorem f_X1_addSpan_50_e {sb : Nat → Int64} {se : Nat → Int64} {so : Nat → Int32} {sc : Int32} {x1 : Int64} {x3 : Int64} {x5 : Int32} : f_X1_addSpan_50 sb se so sc x1 x3 x5 =
  (f_X0_add sb se so sc x1 x3 x5).bind fun r1 =>
  some (r1.1, r1.2.1, r1.2.2.1, r1.2.2.2.1, r1.2.2.2.2) := rfl
def f_X1_addSpan (fr : Int64) (un : Int64) (sb : Nat → Int64) (se : Nat → Int64) (so : Nat → Int32) (sc : Int32) (p0 : Int64) (p1 : Int64) (p2 : Int32) : Option ((Int32) × (Nat → Int64) × (Nat → Int64) × (Nat → Int32) × (Int32)) :=
  if p1 ≤ p0 then
    some ((-1), sb, se, so, sc)
  else
    (f_X1_isInCalendar fr un p0 p1).bind fun r2 =>
    if r2 = 0 then
      some ((-1), sb, se, so, sc)
    else
      (f_X0_count sc).bind fun r4 =>
      if r4 < 10 then
        if p2 = 0 then
          (f_X0_firstMeeting sb se sc p0 p1 (-1)).bind fun r7 =>
          if r7 = (-1) then
            f_X1_addSpan_50 sb se so sc p0 p1 p2
          else
            some ((-1), sb, se, so, sc)
        else
          f_X1_addSpan_50 sb se so sc p0 p1 p2
      else
        some ((-1), sb, se, so, sc)
theorem f_X1_addSpan_e {fr : Int64} {un : Int64} {sb : Nat → Int64} {se : Nat → Int64} {so : Nat → Int32} {sc : Int32} {p0 : Int64} {p1 : Int64} {p2 : Int32} : f_X1_addSpan fr un sb se so sc p0 p1 p2 = 
  if p1 ≤ p0 then
    some ((-1), sb, se, so, sc)
  else
    (f_X1_isInCalendar fr un p0 p1).bind fun r2 =>
    if r2 = 0 then
      some ((-1), sb, se, so, sc)
    else
      (f_X0_count sc).bind fun r4 =>
      if r4 < 10 then
        if p2 = 0 then
          (f_X0_firstMeeting sb se sc p0 p1 (-1)).bind fun r7 =>
          if r7 = (-1) then
            f_X1_addSpan_50 sb se so sc p0 p1 p2
          else
            some ((-1), sb, se, so, sc)
        else
          f_X1_addSpan_50 sb se so sc p0 p1 p2
      else
        some ((-1), sb, se, so, sc) := rfl
set_option maxHeartbeats 4000000 in
set_option maxRecDepth 100000 in
theorem c_X1_addSpan (l : Launch) (dC : Nat → ClassId) (dI : Nat → Nat → Nat) (cB cI cJ cZ : ClassId) (a : Nat → Nat) (sz : Nat) (ce : Nat → Int64) (fr : Int64) (un : Int64) (sb : Nat → Int64) (se : Nat → Int64) (so : Nat → Int32) (sc : Int32) (wb : Nat → Int64) (we : Nat → Int64) (wo : Nat → Int32) (wc : Int32) (fb : Nat → Int64) (fe : Nat → Int64) (fo : Nat → Int32) (fc : Int32) (rm : Nat → Int32) (ac : Int32) (rf : Int32) (kn : Int32) (p0 : Int64) (p1 : Int64) (p2 : Int32) (res : (Int32) × (Nat → Int64) × (Nat → Int64) × (Nat → Int32) × (Int32)) (hf : f_X1_addSpan fr un sb se so sc p0 p1 p2 = some res) : Met l yX1_addSpan wsX1_addSpan ({ frames := 1, cells := 0, slots := 0, locals := 26 } : Room) (kPre (dC, dI) (kTy cB cI cJ cZ) [.ref (a 0), .long p0, .long p1, .int p2] sz (wSB cI cJ cZ a ce fr un sb se so sc wb we wo wc fb fe fo fc rm ac rf kn)) (kI (dC, dI) .int (res.1) (wSB cI cJ cZ a ce fr un (res.2.1) (res.2.2.1) (res.2.2.2.1) (res.2.2.2.2) wb we wo wc fb fe fo fc rm ac rf kn) (va_A (wSB cI cJ cZ a ce fr un sb se so sc wb we wo wc fb fe fo fc rm ac rf kn) sz)) 0 0 (va_A (wSB cI cJ cZ a ce fr un sb se so sc wb we wo wc fb fe fo fc rm ac rf kn) sz) := by
  refine Met.ofW (cc := cX1_addSpan) (maxL := 6) (ret := (some .int)) (by decide) rfl ?_
  intro p e s m args below meth c s₁ B hml hv
  obtain ⟨rfl, hsz, hP, hK, hD0, hG⟩ := hv
  have hx := B.exec
  have hb := B.bytes
  have hr := B.returns
  have hts := atoms_spec (ws := wsX1_addSpan) B.pre
  have hown : s.vm.findClass RX1 = some m.cls := findClass_of_methodNamed B.named
  have hlocks := B.notSynchronized
  subst hsz
  have hD := hD0.self (sz := s.heap.size)
  generalize hAe : va_A (wSB cI cJ cZ a ce fr un sb se so sc wb we wo wc fb fe fo fc rm ac rf kn) s.heap.size = A at hD ⊢
  have hA : ∀ q : Nat, s.heap.size ≤ q → A q := fun q h => by rw [← hAe]; exact Or.inr h
  have hS : va_S A s.heap s.heap [] := va_S.rf
  clear hAe
  have hw0 := hts (.fieldLink RX1 25 "Spanbooker" "spanRow" "LSpanbooker$Row;") (List.mem_cons_of_mem _ kw_110)
  have hiX1 : ∀ w ∈ u_ws RX1 TX1 10, w ∈ wsX1_addSpan := fun w h => List.mem_cons_of_mem _ (ku_X1 w h)
  have J50 : ∀ (ce : Nat → Int64) (fr : Int64) (un : Int64) (sb : Nat → Int64) (se : Nat → Int64) (so : Nat → Int32) (sc : Int32) (wb : Nat → Int64) (we : Nat → Int64) (wo : Nat → Int32) (wc : Int32) (fb : Nat → Int64) (fe : Nat → Int64) (fo : Nat → Int32) (fc : Int32) (rm : Nat → Int32) (ac : Int32) (rf : Int32) (kn : Int32) (x1 : Int64) (x3 : Int64) (x5 : Int32) (H : Heap) (locs : List Loc), va_P (dC, dI) vwCl (wSB cI cJ cZ a ce fr un sb se so sc wb we wo wc fb fe fo fc rm ac rf kn) H → va_D A (wSB cI cJ cZ a ce fr un sb se so sc wb we wo wc fb fe fo fc rm ac rf kn) → va_S A s.heap H locs → ∀ (ls : Array Slot), lv_has ls 6 [(0, .ref (a 0)), (1, .long x1), (3, .long x3), (5, .int x5)] → f_X1_addSpan_50 sb se so sc x1 x3 x5 = some res → W p l e (headSpec wsX1_addSpan ({ frames := 1, cells := 0, slots := 0, locals := 26 } : Room)).room s m ([.ref (a 0), .long p0, .long p1, .int p2] : List Value).toArray below meth c H locs 0 0 (MQ below (kI (dC, dI) .int (res.1) (wSB cI cJ cZ a ce fr un (res.2.1) (res.2.2.1) (res.2.2.2.1) (res.2.2.2.2) wb we wo wc fb fe fo fc rm ac rf kn) A) ([.ref (a 0), .long p0, .long p1, .int p2] : List Value).toArray s 0 0 A) (F0 m 50 ls []) := by
    intro ce fr un sb se so sc wb we wo wc fb fe fo fc rm ac rf kn x1 x3 x5 H locs hP hD hS ls hl h
    have h := f_X1_addSpan_50_e.symm.trans h
    refine lv_aload_n hx hb dX1_addSpan_50 rfl (lv_at hl 0 rfl) ?_
    refine va_get (D := (dC, dI)) (ci := 3) (v := .ref (a 2)) (C := RX1) (T := TX1) (N := 10) hx hb hts hiX1 hown hK hP 0 rfl rfl 3 (by decide) hw0 (fun _ h9 => h9) rfl dX1_addSpan_51 ?_
    refine lv_lload_n hx hb dX1_addSpan_54 rfl (lv_at hl 1 rfl) ?_
    refine lv_lload_n hx hb dX1_addSpan_55 rfl (lv_at hl 2 rfl) ?_
    refine lv_iload hx hb dX1_addSpan_56 (lv_at hl 3 rfl) ?_
    obtain ⟨r1, g1, h⟩ := g_b h
    refine kcall_i (wSB cI cJ cZ a ce fr un r1.2.1 r1.2.2.1 r1.2.2.2.1 r1.2.2.2.2 wb we wo wc fb fe fo fc rm ac rf kn) (va_runV (As := [.long x1, .long x3, .int x5]) (rest := []) ⟨hx, hb, hml, hown, hts⟩ (c_X0_add l dC dI cB cI cJ cZ (a 2) (a 3) (a 4) (a 5) _ sb se so sc x1 x3 x5 r1 g1) (kcwV hts kw_215 kv_X0_add rfl rfl ⟨(Nat.le_of_ble_eq_true rfl), (Nat.le_of_ble_eq_true rfl)⟩) (kpV (A := A) (hP.sub (kIT mk_15 0) (km_f (m := mk_15) rfl rfl)) hK (hD.sub (kIT mk_15 0) (km_nd mk_15) (km_T (m := mk_15) rfl rfl)) hG (va_recv hK hP (ci := 2) (q0 := 2) rfl rfl)) rfl rfl hl.1 rfl (lv_room (Nat.le_of_ble_eq_true rfl)) dX1_addSpan_58 ⟨(Nat.le_of_ble_eq_true rfl), (Nat.le_of_ble_eq_true rfl)⟩) hP hD hS hA (kIT mk_15 0) (kIT mk_16 0) (km_T (m := mk_15) rfl rfl) (km_T (m := mk_15) rfl rfl) [((a 0), .inr (3, [.ref (a 1), .long fr, .long un, .ref (a 2), .ref (a 6), .ref (a 10), .ref (a 14), .int ac, .int rf, .int kn])), ((a 1), .inl (cJ, 4, .inr (.inl ce))), ((a 6), .inr (2, [.ref (a 7), .ref (a 8), .ref (a 9), .int wc])), ((a 7), .inl (cJ, 11, .inr (.inl wb))), ((a 8), .inl (cJ, 11, .inr (.inl we))), ((a 9), .inl (cZ, 11, .inl wo)), ((a 10), .inr (2, [.ref (a 11), .ref (a 12), .ref (a 13), .int fc])), ((a 11), .inl (cJ, 11, .inr (.inl fb))), ((a 12), .inl (cJ, 11, .inr (.inl fe))), ((a 13), .inl (cZ, 11, .inl fo)), ((a 14), .inl (cI, 11, .inl rm))] (km_T (m := mk_16) rfl rfl) (km_T (m := mk_16) rfl rfl) (km_cov (m := mk_15) (n := mk_16) rfl rfl) (km_dis (m := mk_15) (n := mk_16) rfl) rfl (fun H locs hP hD hS br1 => ?_)
    have h := Option.some.inj h
    subst h
    exact kret_i (v := r1.1) hx hb hr rfl hlocks hS hP dX1_addSpan_61
  have hl := lv_entry ([.ref (a 0), .long p0, .long p1, .int p2]) (n := 6) (Nat.le_of_ble_eq_true rfl)
  rw [lg_entry_eq]
  generalize (lg_sl ([.ref (a 0), .long p0, .long p1, .int p2]) ++ List.replicate (6 - (lg_sl ([.ref (a 0), .long p0, .long p1, .int p2])).length) Slot.unset).toArray = ls at hl ⊢
  have hl : lv_has ls 6 [(0, .ref (a 0)), (1, .long p0), (3, .long p1), (5, .int p2)] := hl
  have h := f_X1_addSpan_e.symm.trans hf
  refine lv_lload_n hx hb dX1_addSpan_0 rfl (lv_at hl 1 rfl) ?_
  refine lv_lload_n hx hb dX1_addSpan_1 rfl (lv_at hl 2 rfl) ?_
  refine kl_ge (pc := 2) (tgt := 27) hx hb dX1_addSpan_2 dX1_addSpan_3 (by decide) (fun c1 => ?_) (fun c1 => ?_)
  · have h := g_t c1 h
    refine lv_iconst (v := (-1)) hx hb dX1_addSpan_27 (by decide) ?_
    have h := Option.some.inj h
    subst h
    exact kret_i (v := (-1)) hx hb hr rfl hlocks hS hP dX1_addSpan_28
  · have h := g_f c1 h
    refine lv_aload_n hx hb dX1_addSpan_6 rfl (lv_at hl 0 rfl) ?_
    refine lv_lload_n hx hb dX1_addSpan_7 rfl (lv_at hl 1 rfl) ?_
    refine lv_lload_n hx hb dX1_addSpan_8 rfl (lv_at hl 2 rfl) ?_
    obtain ⟨r2, g2, h⟩ := g_b h
    refine kcall_i (wSB cI cJ cZ a ce fr un sb se so sc wb we wo wc fb fe fo fc rm ac rf kn) (va_runV (As := [.long p0, .long p1]) (rest := []) ⟨hx, hb, hml, hown, hts⟩ (c_X1_isInCalendar l dC dI cB cI cJ cZ a _ ce fr un sb se so sc wb we wo wc fb fe fo fc rm ac rf kn p0 p1 r2 g2) (kcwV hts kw_276 kv_X1_isInCalendar rfl rfl ⟨(Nat.le_of_ble_eq_true rfl), (Nat.le_of_ble_eq_true rfl)⟩) (kpV (A := A) (hP.sub (kIT mk_14 0) (km_f (m := mk_14) rfl rfl)) hK (hD.sub (kIT mk_14 0) (km_nd mk_14) (km_T (m := mk_14) rfl rfl)) hG (va_recv hK hP (ci := 3) (q0 := 0) rfl rfl)) rfl rfl hl.1 rfl (lv_room (Nat.le_of_ble_eq_true rfl)) dX1_addSpan_9 ⟨(Nat.le_of_ble_eq_true rfl), (Nat.le_of_ble_eq_true rfl)⟩) hP hD hS hA (kIT mk_14 0) (kIT mk_13 0) (km_T (m := mk_14) rfl rfl) (km_T (m := mk_14) rfl rfl) [] (km_T (m := mk_13) rfl rfl) (km_T (m := mk_13) rfl rfl) (km_cov (m := mk_14) (n := mk_13) rfl rfl) (km_dis (m := mk_14) (n := mk_13) rfl) rfl (fun H locs hP hD hS br2 => ?_)
    refine lv_if_eq (tgt := 27) hx hb dX1_addSpan_12 (by decide) (fun c3 => ?_) (fun c3 => ?_)
    · have h := g_t c3 h
      refine lv_iconst (v := (-1)) hx hb dX1_addSpan_27 (by decide) ?_
      have h := Option.some.inj h
      subst h
      exact kret_i (v := (-1)) hx hb hr rfl hlocks hS hP dX1_addSpan_28
    · have h := g_f c3 h
      refine lv_aload_n hx hb dX1_addSpan_15 rfl (lv_at hl 0 rfl) ?_
      refine va_get (D := (dC, dI)) (ci := 3) (v := .ref (a 2)) (C := RX1) (T := TX1) (N := 10) hx hb hts hiX1 hown hK hP 0 rfl rfl 3 (by decide) hw0 (fun _ h9 => h9) rfl dX1_addSpan_16 ?_
      obtain ⟨r4, g4, h⟩ := g_b h
      refine kcall_i (wSB cI cJ cZ a ce fr un sb se so sc wb we wo wc fb fe fo fc rm ac rf kn) (va_runV (As := []) (rest := []) ⟨hx, hb, hml, hown, hts⟩ (c_X0_count l dC dI cB cI cJ cZ (a 2) (a 3) (a 4) (a 5) _ sb se so sc  r4 g4) (kcwV hts kw_155 kv_X0_count rfl rfl ⟨(Nat.le_of_ble_eq_true rfl), (Nat.le_of_ble_eq_true rfl)⟩) (kpV (A := A) (hP.sub (kIT mk_15 0) (km_f (m := mk_15) rfl rfl)) hK (hD.sub (kIT mk_15 0) (km_nd mk_15) (km_T (m := mk_15) rfl rfl)) hG (va_recv hK hP (ci := 2) (q0 := 2) rfl rfl)) rfl rfl hl.1 rfl (lv_room (Nat.le_of_ble_eq_true rfl)) dX1_addSpan_19 ⟨(Nat.le_of_ble_eq_true rfl), (Nat.le_of_ble_eq_true rfl)⟩) hP hD hS hA (kIT mk_15 0) (kIT mk_16 0) (km_T (m := mk_15) rfl rfl) (km_T (m := mk_15) rfl rfl) [((a 0), .inr (3, [.ref (a 1), .long fr, .long un, .ref (a 2), .ref (a 6), .ref (a 10), .ref (a 14), .int ac, .int rf, .int kn])), ((a 1), .inl (cJ, 4, .inr (.inl ce))), ((a 6), .inr (2, [.ref (a 7), .ref (a 8), .ref (a 9), .int wc])), ((a 7), .inl (cJ, 11, .inr (.inl wb))), ((a 8), .inl (cJ, 11, .inr (.inl we))), ((a 9), .inl (cZ, 11, .inl wo)), ((a 10), .inr (2, [.ref (a 11), .ref (a 12), .ref (a 13), .int fc])), ((a 11), .inl (cJ, 11, .inr (.inl fb))), ((a 12), .inl (cJ, 11, .inr (.inl fe))), ((a 13), .inl (cZ, 11, .inl fo)), ((a 14), .inl (cI, 11, .inl rm))] (km_T (m := mk_16) rfl rfl) (km_T (m := mk_16) rfl rfl) (km_cov (m := mk_15) (n := mk_16) rfl rfl) (km_dis (m := mk_15) (n := mk_16) rfl) rfl (fun H locs hP hD hS br4 => ?_)
      refine lv_bipush (v := 10) hx hb dX1_addSpan_22 (by decide) ?_
      refine lv_icmp_lt (tgt := 29) hx hb dX1_addSpan_24 (by decide) (fun c5 => ?_) (fun c5 => ?_)
      · have h := g_t c5 h
        refine lv_iload hx hb dX1_addSpan_29 (lv_at hl 3 rfl) ?_
        refine lv_if_ne (tgt := 50) hx hb dX1_addSpan_31 (by decide) (fun c6 => ?_) (fun c6 => ?_)
        · have h := g_f c6 h
          exact J50 ce fr un sb se so sc wb we wo wc fb fe fo fc rm ac rf kn p0 p1 p2 _ _ hP hD hS ls (lv_sub hl [0, 1, 2, 3] rfl) h
        · have h := g_t c6 h
          refine lv_aload_n hx hb dX1_addSpan_34 rfl (lv_at hl 0 rfl) ?_
          refine va_get (D := (dC, dI)) (ci := 3) (v := .ref (a 2)) (C := RX1) (T := TX1) (N := 10) hx hb hts hiX1 hown hK hP 0 rfl rfl 3 (by decide) hw0 (fun _ h9 => h9) rfl dX1_addSpan_35 ?_
          refine lv_lload_n hx hb dX1_addSpan_38 rfl (lv_at hl 1 rfl) ?_
          refine lv_lload_n hx hb dX1_addSpan_39 rfl (lv_at hl 2 rfl) ?_
          refine lv_iconst (v := (-1)) hx hb dX1_addSpan_40 (by decide) ?_
          obtain ⟨r7, g7, h⟩ := g_b h
          refine kcall_i (wSB cI cJ cZ a ce fr un sb se so sc wb we wo wc fb fe fo fc rm ac rf kn) (va_runV (As := [.long p0, .long p1, .int (-1)]) (rest := []) ⟨hx, hb, hml, hown, hts⟩ (c_X0_firstMeeting l dC dI cB cI cJ cZ (a 2) (a 3) (a 4) (a 5) _ sb se so sc p0 p1 (-1) r7 g7) (kcwV hts kw_190 kv_X0_firstMeeting rfl rfl ⟨(Nat.le_of_ble_eq_true rfl), (Nat.le_of_ble_eq_true rfl)⟩) (kpV (A := A) (hP.sub (kIT mk_15 0) (km_f (m := mk_15) rfl rfl)) hK (hD.sub (kIT mk_15 0) (km_nd mk_15) (km_T (m := mk_15) rfl rfl)) hG (va_recv hK hP (ci := 2) (q0 := 2) rfl rfl)) rfl rfl hl.1 rfl (lv_room (Nat.le_of_ble_eq_true rfl)) dX1_addSpan_41 ⟨(Nat.le_of_ble_eq_true rfl), (Nat.le_of_ble_eq_true rfl)⟩) hP hD hS hA (kIT mk_15 0) (kIT mk_16 0) (km_T (m := mk_15) rfl rfl) (km_T (m := mk_15) rfl rfl) [((a 0), .inr (3, [.ref (a 1), .long fr, .long un, .ref (a 2), .ref (a 6), .ref (a 10), .ref (a 14), .int ac, .int rf, .int kn])), ((a 1), .inl (cJ, 4, .inr (.inl ce))), ((a 6), .inr (2, [.ref (a 7), .ref (a 8), .ref (a 9), .int wc])), ((a 7), .inl (cJ, 11, .inr (.inl wb))), ((a 8), .inl (cJ, 11, .inr (.inl we))), ((a 9), .inl (cZ, 11, .inl wo)), ((a 10), .inr (2, [.ref (a 11), .ref (a 12), .ref (a 13), .int fc])), ((a 11), .inl (cJ, 11, .inr (.inl fb))), ((a 12), .inl (cJ, 11, .inr (.inl fe))), ((a 13), .inl (cZ, 11, .inl fo)), ((a 14), .inl (cI, 11, .inl rm))] (km_T (m := mk_16) rfl rfl) (km_T (m := mk_16) rfl rfl) (km_cov (m := mk_15) (n := mk_16) rfl rfl) (km_dis (m := mk_15) (n := mk_16) rfl) rfl (fun H locs hP hD hS br7 => ?_)
          refine lv_iconst (v := (-1)) hx hb dX1_addSpan_44 (by decide) ?_
          refine lv_icmp_eq (tgt := 50) hx hb dX1_addSpan_45 (by decide) (fun c8 => ?_) (fun c8 => ?_)
          · have h := g_t c8 h
            exact J50 ce fr un sb se so sc wb we wo wc fb fe fo fc rm ac rf kn p0 p1 p2 _ _ hP hD hS ls (lv_sub hl [0, 1, 2, 3] rfl) h
          · have h := g_f c8 h
            refine lv_iconst (v := (-1)) hx hb dX1_addSpan_48 (by decide) ?_
            have h := Option.some.inj h
            subst h
            exact kret_i (v := (-1)) hx hb hr rfl hlocks hS hP dX1_addSpan_49
      · have h := g_f c5 h
        refine lv_iconst (v := (-1)) hx hb dX1_addSpan_27 (by decide) ?_
        have h := Option.some.inj h
        subst h
        exact kret_i (v := (-1)) hx hb hr rfl hlocks hS hP dX1_addSpan_28
abbrev wsX1_changeSpan : List Cond := kWs yX1_changeSpan cX1_changeSpan 6 (some .boolean)
def f_X1_changeSpan (fr : Int64) (un : Int64) (sb : Nat → Int64) (se : Nat → Int64) (sc : Int32) (p0 : Int32) (p1 : Int64) (p2 : Int64) : Option ((Int32) × (Nat → Int64) × (Nat → Int64)) :=
  if p2 ≤ p1 then
    some (0, sb, se)
  else
    (f_X1_isInCalendar fr un p1 p2).bind fun r2 =>
    if r2 = 0 then
      some (0, sb, se)
    else
      (f_X0_firstMeeting sb se sc p1 p2 p0).bind fun r4 =>
      if r4 = (-1) then
        (f_X0_put sb se sc p0 p1 p2).bind fun r6 =>
        some (1, r6.1, r6.2)
      else
        some (0, sb, se)
theorem f_X1_changeSpan_e {fr : Int64} {un : Int64} {sb : Nat → Int64} {se : Nat → Int64} {sc : Int32} {p0 : Int32} {p1 : Int64} {p2 : Int64} : f_X1_changeSpan fr un sb se sc p0 p1 p2 = 
  if p2 ≤ p1 then
    some (0, sb, se)
  else
    (f_X1_isInCalendar fr un p1 p2).bind fun r2 =>
    if r2 = 0 then
      some (0, sb, se)
    else
      (f_X0_firstMeeting sb se sc p1 p2 p0).bind fun r4 =>
      if r4 = (-1) then
        (f_X0_put sb se sc p0 p1 p2).bind fun r6 =>
        some (1, r6.1, r6.2)
      else
        some (0, sb, se) := rfl
set_option maxHeartbeats 4000000 in
set_option maxRecDepth 100000 in
theorem c_X1_changeSpan (l : Launch) (dC : Nat → ClassId) (dI : Nat → Nat → Nat) (cB cI cJ cZ : ClassId) (a : Nat → Nat) (sz : Nat) (ce : Nat → Int64) (fr : Int64) (un : Int64) (sb : Nat → Int64) (se : Nat → Int64) (so : Nat → Int32) (sc : Int32) (wb : Nat → Int64) (we : Nat → Int64) (wo : Nat → Int32) (wc : Int32) (fb : Nat → Int64) (fe : Nat → Int64) (fo : Nat → Int32) (fc : Int32) (rm : Nat → Int32) (ac : Int32) (rf : Int32) (kn : Int32) (p0 : Int32) (p1 : Int64) (p2 : Int64) (res : (Int32) × (Nat → Int64) × (Nat → Int64)) (hf : f_X1_changeSpan fr un sb se sc p0 p1 p2 = some res) : Met l yX1_changeSpan wsX1_changeSpan ({ frames := 2, cells := 0, slots := 0, locals := 46 } : Room) (kPre (dC, dI) (kTy cB cI cJ cZ) [.ref (a 0), .int p0, .long p1, .long p2] sz (wSB cI cJ cZ a ce fr un sb se so sc wb we wo wc fb fe fo fc rm ac rf kn)) (kI (dC, dI) .boolean (res.1) (wSB cI cJ cZ a ce fr un (res.2.1) (res.2.2) so sc wb we wo wc fb fe fo fc rm ac rf kn) (va_A (wSB cI cJ cZ a ce fr un sb se so sc wb we wo wc fb fe fo fc rm ac rf kn) sz)) 0 0 (va_A (wSB cI cJ cZ a ce fr un sb se so sc wb we wo wc fb fe fo fc rm ac rf kn) sz) := by
  refine Met.ofW (cc := cX1_changeSpan) (maxL := 6) (ret := (some .boolean)) (by decide) rfl ?_
  intro p e s m args below meth c s₁ B hml hv
  obtain ⟨rfl, hsz, hP, hK, hD0, hG⟩ := hv
  have hx := B.exec
  have hb := B.bytes
  have hr := B.returns
  have hts := atoms_spec (ws := wsX1_changeSpan) B.pre
  have hown : s.vm.findClass RX1 = some m.cls := findClass_of_methodNamed B.named
  have hlocks := B.notSynchronized
  subst hsz
  have hD := hD0.self (sz := s.heap.size)
  generalize hAe : va_A (wSB cI cJ cZ a ce fr un sb se so sc wb we wo wc fb fe fo fc rm ac rf kn) s.heap.size = A at hD ⊢
  have hA : ∀ q : Nat, s.heap.size ≤ q → A q := fun q h => by rw [← hAe]; exact Or.inr h
  have hS : va_S A s.heap s.heap [] := va_S.rf
  clear hAe
  have hw0 := hts (.fieldLink RX1 25 "Spanbooker" "spanRow" "LSpanbooker$Row;") (List.mem_cons_of_mem _ kw_110)
  have hiX1 : ∀ w ∈ u_ws RX1 TX1 10, w ∈ wsX1_changeSpan := fun w h => List.mem_cons_of_mem _ (ku_X1 w h)
  have hl := lv_entry ([.ref (a 0), .int p0, .long p1, .long p2]) (n := 6) (Nat.le_of_ble_eq_true rfl)
  rw [lg_entry_eq]
  generalize (lg_sl ([.ref (a 0), .int p0, .long p1, .long p2]) ++ List.replicate (6 - (lg_sl ([.ref (a 0), .int p0, .long p1, .long p2])).length) Slot.unset).toArray = ls at hl ⊢
  have hl : lv_has ls 6 [(0, .ref (a 0)), (1, .int p0), (2, .long p1), (4, .long p2)] := hl
  have h := f_X1_changeSpan_e.symm.trans hf
  refine lv_lload_n hx hb dX1_changeSpan_0 rfl (lv_at hl 2 rfl) ?_
  refine lv_lload hx hb dX1_changeSpan_1 (lv_at hl 3 rfl) ?_
  refine kl_ge (pc := 3) (tgt := 32) hx hb dX1_changeSpan_3 dX1_changeSpan_4 (by decide) (fun c1 => ?_) (fun c1 => ?_)
  · have h := g_t c1 h
    refine lv_iconst (v := 0) hx hb dX1_changeSpan_32 (by decide) ?_
    have h := Option.some.inj h
    subst h
    exact kret_i (v := 0) hx hb hr rfl hlocks hS hP dX1_changeSpan_33
  · have h := g_f c1 h
    refine lv_aload_n hx hb dX1_changeSpan_7 rfl (lv_at hl 0 rfl) ?_
    refine lv_lload_n hx hb dX1_changeSpan_8 rfl (lv_at hl 2 rfl) ?_
    refine lv_lload hx hb dX1_changeSpan_9 (lv_at hl 3 rfl) ?_
    obtain ⟨r2, g2, h⟩ := g_b h
    refine kcall_i (wSB cI cJ cZ a ce fr un sb se so sc wb we wo wc fb fe fo fc rm ac rf kn) (va_runV (As := [.long p1, .long p2]) (rest := []) ⟨hx, hb, hml, hown, hts⟩ (c_X1_isInCalendar l dC dI cB cI cJ cZ a _ ce fr un sb se so sc wb we wo wc fb fe fo fc rm ac rf kn p1 p2 r2 g2) (kcwV hts kw_276 kv_X1_isInCalendar rfl rfl ⟨(Nat.le_of_ble_eq_true rfl), (Nat.le_of_ble_eq_true rfl)⟩) (kpV (A := A) (hP.sub (kIT mk_14 0) (km_f (m := mk_14) rfl rfl)) hK (hD.sub (kIT mk_14 0) (km_nd mk_14) (km_T (m := mk_14) rfl rfl)) hG (va_recv hK hP (ci := 3) (q0 := 0) rfl rfl)) rfl rfl hl.1 rfl (lv_room (Nat.le_of_ble_eq_true rfl)) dX1_changeSpan_11 ⟨(Nat.le_of_ble_eq_true rfl), (Nat.le_of_ble_eq_true rfl)⟩) hP hD hS hA (kIT mk_14 0) (kIT mk_13 0) (km_T (m := mk_14) rfl rfl) (km_T (m := mk_14) rfl rfl) [] (km_T (m := mk_13) rfl rfl) (km_T (m := mk_13) rfl rfl) (km_cov (m := mk_14) (n := mk_13) rfl rfl) (km_dis (m := mk_14) (n := mk_13) rfl) rfl (fun H locs hP hD hS br2 => ?_)
    refine lv_if_eq (tgt := 32) hx hb dX1_changeSpan_14 (by decide) (fun c3 => ?_) (fun c3 => ?_)
    · have h := g_t c3 h
      refine lv_iconst (v := 0) hx hb dX1_changeSpan_32 (by decide) ?_
      have h := Option.some.inj h
      subst h
      exact kret_i (v := 0) hx hb hr rfl hlocks hS hP dX1_changeSpan_33
    · have h := g_f c3 h
      refine lv_aload_n hx hb dX1_changeSpan_17 rfl (lv_at hl 0 rfl) ?_
      refine va_get (D := (dC, dI)) (ci := 3) (v := .ref (a 2)) (C := RX1) (T := TX1) (N := 10) hx hb hts hiX1 hown hK hP 0 rfl rfl 3 (by decide) hw0 (fun _ h9 => h9) rfl dX1_changeSpan_18 ?_
      refine lv_lload_n hx hb dX1_changeSpan_21 rfl (lv_at hl 2 rfl) ?_
      refine lv_lload hx hb dX1_changeSpan_22 (lv_at hl 3 rfl) ?_
      refine lv_iload_n hx hb dX1_changeSpan_24 rfl (lv_at hl 1 rfl) ?_
      obtain ⟨r4, g4, h⟩ := g_b h
      refine kcall_i (wSB cI cJ cZ a ce fr un sb se so sc wb we wo wc fb fe fo fc rm ac rf kn) (va_runV (As := [.long p1, .long p2, .int p0]) (rest := []) ⟨hx, hb, hml, hown, hts⟩ (c_X0_firstMeeting l dC dI cB cI cJ cZ (a 2) (a 3) (a 4) (a 5) _ sb se so sc p1 p2 p0 r4 g4) (kcwV hts kw_190 kv_X0_firstMeeting rfl rfl ⟨(Nat.le_of_ble_eq_true rfl), (Nat.le_of_ble_eq_true rfl)⟩) (kpV (A := A) (hP.sub (kIT mk_15 0) (km_f (m := mk_15) rfl rfl)) hK (hD.sub (kIT mk_15 0) (km_nd mk_15) (km_T (m := mk_15) rfl rfl)) hG (va_recv hK hP (ci := 2) (q0 := 2) rfl rfl)) rfl rfl hl.1 rfl (lv_room (Nat.le_of_ble_eq_true rfl)) dX1_changeSpan_25 ⟨(Nat.le_of_ble_eq_true rfl), (Nat.le_of_ble_eq_true rfl)⟩) hP hD hS hA (kIT mk_15 0) (kIT mk_16 0) (km_T (m := mk_15) rfl rfl) (km_T (m := mk_15) rfl rfl) [((a 0), .inr (3, [.ref (a 1), .long fr, .long un, .ref (a 2), .ref (a 6), .ref (a 10), .ref (a 14), .int ac, .int rf, .int kn])), ((a 1), .inl (cJ, 4, .inr (.inl ce))), ((a 6), .inr (2, [.ref (a 7), .ref (a 8), .ref (a 9), .int wc])), ((a 7), .inl (cJ, 11, .inr (.inl wb))), ((a 8), .inl (cJ, 11, .inr (.inl we))), ((a 9), .inl (cZ, 11, .inl wo)), ((a 10), .inr (2, [.ref (a 11), .ref (a 12), .ref (a 13), .int fc])), ((a 11), .inl (cJ, 11, .inr (.inl fb))), ((a 12), .inl (cJ, 11, .inr (.inl fe))), ((a 13), .inl (cZ, 11, .inl fo)), ((a 14), .inl (cI, 11, .inl rm))] (km_T (m := mk_16) rfl rfl) (km_T (m := mk_16) rfl rfl) (km_cov (m := mk_15) (n := mk_16) rfl rfl) (km_dis (m := mk_15) (n := mk_16) rfl) rfl (fun H locs hP hD hS br4 => ?_)
      refine lv_iconst (v := (-1)) hx hb dX1_changeSpan_28 (by decide) ?_
      refine lv_icmp_eq (tgt := 34) hx hb dX1_changeSpan_29 (by decide) (fun c5 => ?_) (fun c5 => ?_)
      · have h := g_t c5 h
        refine lv_aload_n hx hb dX1_changeSpan_34 rfl (lv_at hl 0 rfl) ?_
        refine va_get (D := (dC, dI)) (ci := 3) (v := .ref (a 2)) (C := RX1) (T := TX1) (N := 10) hx hb hts hiX1 hown hK hP 0 rfl rfl 3 (by decide) hw0 (fun _ h9 => h9) rfl dX1_changeSpan_35 ?_
        refine lv_iload_n hx hb dX1_changeSpan_38 rfl (lv_at hl 1 rfl) ?_
        refine lv_lload_n hx hb dX1_changeSpan_39 rfl (lv_at hl 2 rfl) ?_
        refine lv_lload hx hb dX1_changeSpan_40 (lv_at hl 3 rfl) ?_
        obtain ⟨r6, g6, h⟩ := g_b h
        refine kcall_v (wSB cI cJ cZ a ce fr un r6.1 r6.2 so sc wb we wo wc fb fe fo fc rm ac rf kn) (va_runV (As := [.int p0, .long p1, .long p2]) (rest := []) ⟨hx, hb, hml, hown, hts⟩ (c_X0_put l dC dI cB cI cJ cZ (a 2) (a 3) (a 4) (a 5) _ sb se so sc p0 p1 p2 r6 g6) (kcwV hts kw_611 kv_X0_put rfl rfl ⟨(Nat.le_of_ble_eq_true rfl), (Nat.le_of_ble_eq_true rfl)⟩) (kpV (A := A) (hP.sub (kIT mk_15 0) (km_f (m := mk_15) rfl rfl)) hK (hD.sub (kIT mk_15 0) (km_nd mk_15) (km_T (m := mk_15) rfl rfl)) hG (va_recv hK hP (ci := 2) (q0 := 2) rfl rfl)) rfl rfl hl.1 rfl (lv_room (Nat.le_of_ble_eq_true rfl)) dX1_changeSpan_42 ⟨(Nat.le_of_ble_eq_true rfl), (Nat.le_of_ble_eq_true rfl)⟩) hP hD hS hA (kIT mk_15 0) (kIT mk_16 0) (km_T (m := mk_15) rfl rfl) (km_T (m := mk_15) rfl rfl) [((a 0), .inr (3, [.ref (a 1), .long fr, .long un, .ref (a 2), .ref (a 6), .ref (a 10), .ref (a 14), .int ac, .int rf, .int kn])), ((a 1), .inl (cJ, 4, .inr (.inl ce))), ((a 6), .inr (2, [.ref (a 7), .ref (a 8), .ref (a 9), .int wc])), ((a 7), .inl (cJ, 11, .inr (.inl wb))), ((a 8), .inl (cJ, 11, .inr (.inl we))), ((a 9), .inl (cZ, 11, .inl wo)), ((a 10), .inr (2, [.ref (a 11), .ref (a 12), .ref (a 13), .int fc])), ((a 11), .inl (cJ, 11, .inr (.inl fb))), ((a 12), .inl (cJ, 11, .inr (.inl fe))), ((a 13), .inl (cZ, 11, .inl fo)), ((a 14), .inl (cI, 11, .inl rm))] (km_T (m := mk_16) rfl rfl) (km_T (m := mk_16) rfl rfl) (km_cov (m := mk_15) (n := mk_16) rfl rfl) (km_dis (m := mk_15) (n := mk_16) rfl) rfl (fun H locs hP hD hS => ?_)
        refine lv_iconst (v := 1) hx hb dX1_changeSpan_45 (by decide) ?_
        have h := Option.some.inj h
        subst h
        exact kret_i (v := 1) hx hb hr rfl hlocks hS hP dX1_changeSpan_46
      · have h := g_f c5 h
        refine lv_iconst (v := 0) hx hb dX1_changeSpan_32 (by decide) ?_
        have h := Option.some.inj h
        subst h
        exact kret_i (v := 0) hx hb hr rfl hlocks hS hP dX1_changeSpan_33
abbrev wsX1_firstWithoutSpan : List Cond := kWs yX1_firstWithoutSpan cX1_firstWithoutSpan 9 (some .long)
def f_X1_firstWithoutSpan_6 : Nat → (Nat → Int64) → (Nat → Int64) → (Int32) → (Int64) → (Int64) → (Int32) → Option (Int64)
  | 0, _, _, _, _, _, _ => none
  | n + 1, sb, se, sc, x3, x5, x7 =>
    (f_X0_count sc).bind fun r1 =>
    if r1 ≤ x7 then
      some x5
    else
      (f_X0_firstMeeting sb se sc x5 (x5 + x3) (-1)).bind fun r3 =>
      if r3 = (-1) then
        some x5
      else
        (f_X0_end se sc r3).bind fun r5 =>
        f_X1_firstWithoutSpan_6 n sb se sc x3 r5 (x7 + 1)
theorem f_X1_firstWithoutSpan_6_0 {sb : Nat → Int64} {se : Nat → Int64} {sc : Int32} {x3 : Int64} {x5 : Int64} {x7 : Int32} : f_X1_firstWithoutSpan_6 0 sb se sc x3 x5 x7 = none := rfl
theorem f_X1_firstWithoutSpan_6_s {n : Nat} {sb : Nat → Int64} {se : Nat → Int64} {sc : Int32} {x3 : Int64} {x5 : Int64} {x7 : Int32} : f_X1_firstWithoutSpan_6 (n + 1) sb se sc x3 x5 x7 =
  (f_X0_count sc).bind fun r1 =>
  if r1 ≤ x7 then
    some x5
  else
    (f_X0_firstMeeting sb se sc x5 (x5 + x3) (-1)).bind fun r3 =>
    if r3 = (-1) then
      some x5
    else
      (f_X0_end se sc r3).bind fun r5 =>
      f_X1_firstWithoutSpan_6 n sb se sc x3 r5 (x7 + 1) := rfl
def f_X1_firstWithoutSpan (sb : Nat → Int64) (se : Nat → Int64) (sc : Int32) (p0 : Int64) (p1 : Int64) : Option (Int64) :=
  f_X1_firstWithoutSpan_6 24 sb se sc p1 p0 0
theorem f_X1_firstWithoutSpan_e {sb : Nat → Int64} {se : Nat → Int64} {sc : Int32} {p0 : Int64} {p1 : Int64} : f_X1_firstWithoutSpan sb se sc p0 p1 = 
  f_X1_firstWithoutSpan_6 24 sb se sc p1 p0 0 := rfl
set_option maxHeartbeats 4000000 in
set_option maxRecDepth 100000 in
theorem c_X1_firstWithoutSpan (l : Launch) (dC : Nat → ClassId) (dI : Nat → Nat → Nat) (cB cI cJ cZ : ClassId) (a : Nat → Nat) (sz : Nat) (ce : Nat → Int64) (fr : Int64) (un : Int64) (sb : Nat → Int64) (se : Nat → Int64) (so : Nat → Int32) (sc : Int32) (wb : Nat → Int64) (we : Nat → Int64) (wo : Nat → Int32) (wc : Int32) (fb : Nat → Int64) (fe : Nat → Int64) (fo : Nat → Int32) (fc : Int32) (rm : Nat → Int32) (ac : Int32) (rf : Int32) (kn : Int32) (p0 : Int64) (p1 : Int64) (res : Int64) (hf : f_X1_firstWithoutSpan sb se sc p0 p1 = some res) : Met l yX1_firstWithoutSpan wsX1_firstWithoutSpan ({ frames := 2, cells := 0, slots := 0, locals := 42 } : Room) (kPre (dC, dI) (kTy cB cI cJ cZ) [.ref (a 0), .long p0, .long p1] sz (wSB cI cJ cZ a ce fr un sb se so sc wb we wo wc fb fe fo fc rm ac rf kn)) (kL (dC, dI) (res) (wSB cI cJ cZ a ce fr un sb se so sc wb we wo wc fb fe fo fc rm ac rf kn) (va_A (wSB cI cJ cZ a ce fr un sb se so sc wb we wo wc fb fe fo fc rm ac rf kn) sz)) 0 0 (va_A (wSB cI cJ cZ a ce fr un sb se so sc wb we wo wc fb fe fo fc rm ac rf kn) sz) := by
  refine Met.ofW (cc := cX1_firstWithoutSpan) (maxL := 9) (ret := (some .long)) (by decide) rfl ?_
  intro p e s m args below meth c s₁ B hml hv
  obtain ⟨rfl, hsz, hP, hK, hD0, hG⟩ := hv
  have hx := B.exec
  have hb := B.bytes
  have hr := B.returns
  have hts := atoms_spec (ws := wsX1_firstWithoutSpan) B.pre
  have hown : s.vm.findClass RX1 = some m.cls := findClass_of_methodNamed B.named
  have hlocks := B.notSynchronized
  subst hsz
  have hD := hD0.self (sz := s.heap.size)
  generalize hAe : va_A (wSB cI cJ cZ a ce fr un sb se so sc wb we wo wc fb fe fo fc rm ac rf kn) s.heap.size = A at hD ⊢
  have hA : ∀ q : Nat, s.heap.size ≤ q → A q := fun q h => by rw [← hAe]; exact Or.inr h
  have hS : va_S A s.heap s.heap [] := va_S.rf
  clear hAe
  have hw0 := hts (.fieldLink RX1 25 "Spanbooker" "spanRow" "LSpanbooker$Row;") (List.mem_cons_of_mem _ kw_110)
  have hiX1 : ∀ w ∈ u_ws RX1 TX1 10, w ∈ wsX1_firstWithoutSpan := fun w h => List.mem_cons_of_mem _ (ku_X1 w h)
  have J6 : ∀ (n : Nat), ∀ (ce : Nat → Int64) (fr : Int64) (un : Int64) (sb : Nat → Int64) (se : Nat → Int64) (so : Nat → Int32) (sc : Int32) (wb : Nat → Int64) (we : Nat → Int64) (wo : Nat → Int32) (wc : Int32) (fb : Nat → Int64) (fe : Nat → Int64) (fo : Nat → Int32) (fc : Int32) (rm : Nat → Int32) (ac : Int32) (rf : Int32) (kn : Int32) (x3 : Int64) (x5 : Int64) (x7 : Int32) (H : Heap) (locs : List Loc), va_P (dC, dI) vwCl (wSB cI cJ cZ a ce fr un sb se so sc wb we wo wc fb fe fo fc rm ac rf kn) H → va_D A (wSB cI cJ cZ a ce fr un sb se so sc wb we wo wc fb fe fo fc rm ac rf kn) → va_S A s.heap H locs → ∀ (ls : Array Slot), lv_has ls 9 [(0, .ref (a 0)), (3, .long x3), (5, .long x5), (7, .int x7)] → f_X1_firstWithoutSpan_6 n sb se sc x3 x5 x7 = some res → W p l e (headSpec wsX1_firstWithoutSpan ({ frames := 2, cells := 0, slots := 0, locals := 42 } : Room)).room s m ([.ref (a 0), .long p0, .long p1] : List Value).toArray below meth c H locs 0 0 (MQ below (kL (dC, dI) (res) (wSB cI cJ cZ a ce fr un sb se so sc wb we wo wc fb fe fo fc rm ac rf kn) A) ([.ref (a 0), .long p0, .long p1] : List Value).toArray s 0 0 A) (F0 m 6 ls []) := by
    intro n
    induction n with
    | zero =>
      intro ce fr un sb se so sc wb we wo wc fb fe fo fc rm ac rf kn x3 x5 x7 H locs hP hD hS ls hl h
      have h := f_X1_firstWithoutSpan_6_0.symm.trans h
      cases h
    | succ n ih =>
      intro ce fr un sb se so sc wb we wo wc fb fe fo fc rm ac rf kn x3 x5 x7 H locs hP hD hS ls hl h
      have h := f_X1_firstWithoutSpan_6_s.symm.trans h
      refine lv_iload hx hb dX1_firstWithoutSpan_6 (lv_at hl 3 rfl) ?_
      refine lv_aload_n hx hb dX1_firstWithoutSpan_8 rfl (lv_at hl 0 rfl) ?_
      refine va_get (D := (dC, dI)) (ci := 3) (v := .ref (a 2)) (C := RX1) (T := TX1) (N := 10) hx hb hts hiX1 hown hK hP 0 rfl rfl 3 (by decide) hw0 (fun _ h9 => h9) rfl dX1_firstWithoutSpan_9 ?_
      obtain ⟨r1, g1, h⟩ := g_b h
      refine kcall_i (wSB cI cJ cZ a ce fr un sb se so sc wb we wo wc fb fe fo fc rm ac rf kn) (va_runV (As := []) (rest := [.int x7]) ⟨hx, hb, hml, hown, hts⟩ (c_X0_count l dC dI cB cI cJ cZ (a 2) (a 3) (a 4) (a 5) _ sb se so sc  r1 g1) (kcwV hts kw_155 kv_X0_count rfl rfl ⟨(Nat.le_of_ble_eq_true rfl), (Nat.le_of_ble_eq_true rfl)⟩) (kpV (A := A) (hP.sub (kIT mk_15 0) (km_f (m := mk_15) rfl rfl)) hK (hD.sub (kIT mk_15 0) (km_nd mk_15) (km_T (m := mk_15) rfl rfl)) hG (va_recv hK hP (ci := 2) (q0 := 2) rfl rfl)) rfl rfl hl.1 rfl (lv_room (Nat.le_of_ble_eq_true rfl)) dX1_firstWithoutSpan_12 ⟨(Nat.le_of_ble_eq_true rfl), (Nat.le_of_ble_eq_true rfl)⟩) hP hD hS hA (kIT mk_15 0) (kIT mk_16 0) (km_T (m := mk_15) rfl rfl) (km_T (m := mk_15) rfl rfl) [((a 0), .inr (3, [.ref (a 1), .long fr, .long un, .ref (a 2), .ref (a 6), .ref (a 10), .ref (a 14), .int ac, .int rf, .int kn])), ((a 1), .inl (cJ, 4, .inr (.inl ce))), ((a 6), .inr (2, [.ref (a 7), .ref (a 8), .ref (a 9), .int wc])), ((a 7), .inl (cJ, 11, .inr (.inl wb))), ((a 8), .inl (cJ, 11, .inr (.inl we))), ((a 9), .inl (cZ, 11, .inl wo)), ((a 10), .inr (2, [.ref (a 11), .ref (a 12), .ref (a 13), .int fc])), ((a 11), .inl (cJ, 11, .inr (.inl fb))), ((a 12), .inl (cJ, 11, .inr (.inl fe))), ((a 13), .inl (cZ, 11, .inl fo)), ((a 14), .inl (cI, 11, .inl rm))] (km_T (m := mk_16) rfl rfl) (km_T (m := mk_16) rfl rfl) (km_cov (m := mk_15) (n := mk_16) rfl rfl) (km_dis (m := mk_15) (n := mk_16) rfl) rfl (fun H locs hP hD hS br1 => ?_)
      refine lv_icmp_ge (tgt := 60) hx hb dX1_firstWithoutSpan_15 (by decide) (fun c2 => ?_) (fun c2 => ?_)
      · have h := g_t c2 h
        refine lv_lload hx hb dX1_firstWithoutSpan_60 (lv_at hl 2 rfl) ?_
        have h := Option.some.inj h
        subst h
        exact kret_l (v := x5) hx hb hr hlocks hS hP dX1_firstWithoutSpan_62
      · have h := g_f c2 h
        refine lv_aload_n hx hb dX1_firstWithoutSpan_18 rfl (lv_at hl 0 rfl) ?_
        refine va_get (D := (dC, dI)) (ci := 3) (v := .ref (a 2)) (C := RX1) (T := TX1) (N := 10) hx hb hts hiX1 hown hK hP 0 rfl rfl 3 (by decide) hw0 (fun _ h9 => h9) rfl dX1_firstWithoutSpan_19 ?_
        refine lv_lload hx hb dX1_firstWithoutSpan_22 (lv_at hl 2 rfl) ?_
        refine lv_lload hx hb dX1_firstWithoutSpan_24 (lv_at hl 2 rfl) ?_
        refine lv_lload_n hx hb dX1_firstWithoutSpan_26 rfl (lv_at hl 1 rfl) ?_
        refine lv_ladd hx hb dX1_firstWithoutSpan_27 ?_
        refine lv_iconst (v := (-1)) hx hb dX1_firstWithoutSpan_28 (by decide) ?_
        obtain ⟨r3, g3, h⟩ := g_b h
        refine kcall_i (wSB cI cJ cZ a ce fr un sb se so sc wb we wo wc fb fe fo fc rm ac rf kn) (va_runV (As := [.long x5, .long (x5 + x3), .int (-1)]) (rest := []) ⟨hx, hb, hml, hown, hts⟩ (c_X0_firstMeeting l dC dI cB cI cJ cZ (a 2) (a 3) (a 4) (a 5) _ sb se so sc x5 (x5 + x3) (-1) r3 g3) (kcwV hts kw_190 kv_X0_firstMeeting rfl rfl ⟨(Nat.le_of_ble_eq_true rfl), (Nat.le_of_ble_eq_true rfl)⟩) (kpV (A := A) (hP.sub (kIT mk_15 0) (km_f (m := mk_15) rfl rfl)) hK (hD.sub (kIT mk_15 0) (km_nd mk_15) (km_T (m := mk_15) rfl rfl)) hG (va_recv hK hP (ci := 2) (q0 := 2) rfl rfl)) rfl rfl hl.1 rfl (lv_room (Nat.le_of_ble_eq_true rfl)) dX1_firstWithoutSpan_29 ⟨(Nat.le_of_ble_eq_true rfl), (Nat.le_of_ble_eq_true rfl)⟩) hP hD hS hA (kIT mk_15 0) (kIT mk_16 0) (km_T (m := mk_15) rfl rfl) (km_T (m := mk_15) rfl rfl) [((a 0), .inr (3, [.ref (a 1), .long fr, .long un, .ref (a 2), .ref (a 6), .ref (a 10), .ref (a 14), .int ac, .int rf, .int kn])), ((a 1), .inl (cJ, 4, .inr (.inl ce))), ((a 6), .inr (2, [.ref (a 7), .ref (a 8), .ref (a 9), .int wc])), ((a 7), .inl (cJ, 11, .inr (.inl wb))), ((a 8), .inl (cJ, 11, .inr (.inl we))), ((a 9), .inl (cZ, 11, .inl wo)), ((a 10), .inr (2, [.ref (a 11), .ref (a 12), .ref (a 13), .int fc])), ((a 11), .inl (cJ, 11, .inr (.inl fb))), ((a 12), .inl (cJ, 11, .inr (.inl fe))), ((a 13), .inl (cZ, 11, .inl fo)), ((a 14), .inl (cI, 11, .inl rm))] (km_T (m := mk_16) rfl rfl) (km_T (m := mk_16) rfl rfl) (km_cov (m := mk_15) (n := mk_16) rfl rfl) (km_dis (m := mk_15) (n := mk_16) rfl) rfl (fun H locs hP hD hS br3 => ?_)
        refine lv_istore (lv' := [(8, .int r3), (0, .ref (a 0)), (3, .long x3), (5, .long x5), (7, .int x7)]) hx hb dX1_firstWithoutSpan_32 hl (by decide) rfl (fun ls hl => ?_)
        refine lv_iload hx hb dX1_firstWithoutSpan_34 (lv_at hl 0 rfl) ?_
        refine lv_iconst (v := (-1)) hx hb dX1_firstWithoutSpan_36 (by decide) ?_
        refine lv_icmp_ne (tgt := 43) hx hb dX1_firstWithoutSpan_37 (by decide) (fun c4 => ?_) (fun c4 => ?_)
        · have h := g_f c4 h
          refine lv_aload_n hx hb dX1_firstWithoutSpan_43 rfl (lv_at hl 1 rfl) ?_
          refine va_get (D := (dC, dI)) (ci := 3) (v := .ref (a 2)) (C := RX1) (T := TX1) (N := 10) hx hb hts hiX1 hown hK hP 0 rfl rfl 3 (by decide) hw0 (fun _ h9 => h9) rfl dX1_firstWithoutSpan_44 ?_
          refine lv_iload hx hb dX1_firstWithoutSpan_47 (lv_at hl 0 rfl) ?_
          obtain ⟨r5, g5, h⟩ := g_b h
          refine kcall_l (wSB cI cJ cZ a ce fr un sb se so sc wb we wo wc fb fe fo fc rm ac rf kn) (va_runV (As := [.int r3]) (rest := []) ⟨hx, hb, hml, hown, hts⟩ (c_X0_end l dC dI cB cI cJ cZ (a 2) (a 3) (a 4) (a 5) _ sb se so sc r3 r5 g5) (kcwV hts kw_194 kv_X0_end rfl rfl ⟨(Nat.le_of_ble_eq_true rfl), (Nat.le_of_ble_eq_true rfl)⟩) (kpV (A := A) (hP.sub (kIT mk_15 0) (km_f (m := mk_15) rfl rfl)) hK (hD.sub (kIT mk_15 0) (km_nd mk_15) (km_T (m := mk_15) rfl rfl)) hG (va_recv hK hP (ci := 2) (q0 := 2) rfl rfl)) rfl rfl hl.1 rfl (lv_room (Nat.le_of_ble_eq_true rfl)) dX1_firstWithoutSpan_49 ⟨(Nat.le_of_ble_eq_true rfl), (Nat.le_of_ble_eq_true rfl)⟩) hP hD hS hA (kIT mk_15 0) (kIT mk_16 0) (km_T (m := mk_15) rfl rfl) (km_T (m := mk_15) rfl rfl) [((a 0), .inr (3, [.ref (a 1), .long fr, .long un, .ref (a 2), .ref (a 6), .ref (a 10), .ref (a 14), .int ac, .int rf, .int kn])), ((a 1), .inl (cJ, 4, .inr (.inl ce))), ((a 6), .inr (2, [.ref (a 7), .ref (a 8), .ref (a 9), .int wc])), ((a 7), .inl (cJ, 11, .inr (.inl wb))), ((a 8), .inl (cJ, 11, .inr (.inl we))), ((a 9), .inl (cZ, 11, .inl wo)), ((a 10), .inr (2, [.ref (a 11), .ref (a 12), .ref (a 13), .int fc])), ((a 11), .inl (cJ, 11, .inr (.inl fb))), ((a 12), .inl (cJ, 11, .inr (.inl fe))), ((a 13), .inl (cZ, 11, .inl fo)), ((a 14), .inl (cI, 11, .inl rm))] (km_T (m := mk_16) rfl rfl) (km_T (m := mk_16) rfl rfl) (km_cov (m := mk_15) (n := mk_16) rfl rfl) (km_dis (m := mk_15) (n := mk_16) rfl) rfl (fun H locs hP hD hS => ?_)
          refine lv_lstore (lv' := [(5, .long r5), (8, .int r3), (0, .ref (a 0)), (3, .long x3), (7, .int x7)]) hx hb dX1_firstWithoutSpan_52 hl (by decide) rfl (fun ls hl => ?_)
          refine lv_iinc (v := x7 + 1) (lv' := [(7, .int (x7 + 1)), (5, .long r5), (8, .int r3), (0, .ref (a 0)), (3, .long x3)]) hx hb dX1_firstWithoutSpan_54 hl (k := 4) rfl rfl (by decide) rfl (fun ls hl => ?_)
          refine lv_goto (tgt := 6) hx hb dX1_firstWithoutSpan_57 (by decide) ?_
          exact ih ce fr un sb se so sc wb we wo wc fb fe fo fc rm ac rf kn x3 r5 (x7 + 1) _ _ hP hD hS ls (lv_sub hl [3, 4, 1, 0] rfl) h
        · have h := g_t c4 h
          refine lv_lload hx hb dX1_firstWithoutSpan_40 (lv_at hl 3 rfl) ?_
          have h := Option.some.inj h
          subst h
          exact kret_l (v := x5) hx hb hr hlocks hS hP dX1_firstWithoutSpan_42
  have hl := lv_entry ([.ref (a 0), .long p0, .long p1]) (n := 9) (Nat.le_of_ble_eq_true rfl)
  rw [lg_entry_eq]
  generalize (lg_sl ([.ref (a 0), .long p0, .long p1]) ++ List.replicate (9 - (lg_sl ([.ref (a 0), .long p0, .long p1])).length) Slot.unset).toArray = ls at hl ⊢
  have hl : lv_has ls 9 [(0, .ref (a 0)), (1, .long p0), (3, .long p1)] := hl
  have h := f_X1_firstWithoutSpan_e.symm.trans hf
  refine lv_lload_n hx hb dX1_firstWithoutSpan_0 rfl (lv_at hl 1 rfl) ?_
  refine lv_lstore (lv' := [(5, .long p0), (0, .ref (a 0)), (1, .long p0), (3, .long p1)]) hx hb dX1_firstWithoutSpan_1 hl (by decide) rfl (fun ls hl => ?_)
  refine lv_iconst (v := 0) hx hb dX1_firstWithoutSpan_3 (by decide) ?_
  refine lv_istore (lv' := [(7, .int 0), (5, .long p0), (0, .ref (a 0)), (1, .long p0), (3, .long p1)]) hx hb dX1_firstWithoutSpan_4 hl (by decide) rfl (fun ls hl => ?_)
  exact J6 24 ce fr un sb se so sc wb we wo wc fb fe fo fc rm ac rf kn p1 p0 0 _ _ hP hD hS ls (lv_sub hl [2, 4, 1, 0] rfl) h
abbrev wsX1_firstTaken : List Cond := kWs yX1_firstTaken cX1_firstTaken 3 (some .long)
def f_X1_firstTaken (un : Int64) (sb : Nat → Int64) (se : Nat → Int64) (sc : Int32) (p0 : Int64) : Option (Int64) :=
  (f_X0_firstWith sb se sc p0).bind fun r1 =>
  if r1 = (-1) then
    (f_X0_nextBegin sb sc p0 un).bind fun r3 =>
    some r3
  else
    some p0
theorem f_X1_firstTaken_e {un : Int64} {sb : Nat → Int64} {se : Nat → Int64} {sc : Int32} {p0 : Int64} : f_X1_firstTaken un sb se sc p0 = 
  (f_X0_firstWith sb se sc p0).bind fun r1 =>
  if r1 = (-1) then
    (f_X0_nextBegin sb sc p0 un).bind fun r3 =>
    some r3
  else
    some p0 := rfl
set_option maxHeartbeats 4000000 in
set_option maxRecDepth 100000 in
theorem c_X1_firstTaken (l : Launch) (dC : Nat → ClassId) (dI : Nat → Nat → Nat) (cB cI cJ cZ : ClassId) (a : Nat → Nat) (sz : Nat) (ce : Nat → Int64) (fr : Int64) (un : Int64) (sb : Nat → Int64) (se : Nat → Int64) (so : Nat → Int32) (sc : Int32) (wb : Nat → Int64) (we : Nat → Int64) (wo : Nat → Int32) (wc : Int32) (fb : Nat → Int64) (fe : Nat → Int64) (fo : Nat → Int32) (fc : Int32) (rm : Nat → Int32) (ac : Int32) (rf : Int32) (kn : Int32) (p0 : Int64) (res : Int64) (hf : f_X1_firstTaken un sb se sc p0 = some res) : Met l yX1_firstTaken wsX1_firstTaken ({ frames := 2, cells := 0, slots := 0, locals := 48 } : Room) (kPre (dC, dI) (kTy cB cI cJ cZ) [.ref (a 0), .long p0] sz (wSB cI cJ cZ a ce fr un sb se so sc wb we wo wc fb fe fo fc rm ac rf kn)) (kL (dC, dI) (res) (wSB cI cJ cZ a ce fr un sb se so sc wb we wo wc fb fe fo fc rm ac rf kn) (va_A (wSB cI cJ cZ a ce fr un sb se so sc wb we wo wc fb fe fo fc rm ac rf kn) sz)) 0 0 (va_A (wSB cI cJ cZ a ce fr un sb se so sc wb we wo wc fb fe fo fc rm ac rf kn) sz) := by
  refine Met.ofW (cc := cX1_firstTaken) (maxL := 3) (ret := (some .long)) (by decide) rfl ?_
  intro p e s m args below meth c s₁ B hml hv
  obtain ⟨rfl, hsz, hP, hK, hD0, hG⟩ := hv
  have hx := B.exec
  have hb := B.bytes
  have hr := B.returns
  have hts := atoms_spec (ws := wsX1_firstTaken) B.pre
  have hown : s.vm.findClass RX1 = some m.cls := findClass_of_methodNamed B.named
  have hlocks := B.notSynchronized
  subst hsz
  have hD := hD0.self (sz := s.heap.size)
  generalize hAe : va_A (wSB cI cJ cZ a ce fr un sb se so sc wb we wo wc fb fe fo fc rm ac rf kn) s.heap.size = A at hD ⊢
  have hA : ∀ q : Nat, s.heap.size ≤ q → A q := fun q h => by rw [← hAe]; exact Or.inr h
  have hS : va_S A s.heap s.heap [] := va_S.rf
  clear hAe
  have hw0 := hts (.fieldLink RX1 25 "Spanbooker" "spanRow" "LSpanbooker$Row;") (List.mem_cons_of_mem _ kw_110)
  have hw1 := hts (.fieldLink RX1 19 "Spanbooker" "until" "J") (List.mem_cons_of_mem _ kw_109)
  have hiX1 : ∀ w ∈ u_ws RX1 TX1 10, w ∈ wsX1_firstTaken := fun w h => List.mem_cons_of_mem _ (ku_X1 w h)
  have hl := lv_entry ([.ref (a 0), .long p0]) (n := 3) (Nat.le_of_ble_eq_true rfl)
  rw [lg_entry_eq]
  generalize (lg_sl ([.ref (a 0), .long p0]) ++ List.replicate (3 - (lg_sl ([.ref (a 0), .long p0])).length) Slot.unset).toArray = ls at hl ⊢
  have hl : lv_has ls 3 [(0, .ref (a 0)), (1, .long p0)] := hl
  have h := f_X1_firstTaken_e.symm.trans hf
  refine lv_aload_n hx hb dX1_firstTaken_0 rfl (lv_at hl 0 rfl) ?_
  refine va_get (D := (dC, dI)) (ci := 3) (v := .ref (a 2)) (C := RX1) (T := TX1) (N := 10) hx hb hts hiX1 hown hK hP 0 rfl rfl 3 (by decide) hw0 (fun _ h9 => h9) rfl dX1_firstTaken_1 ?_
  refine lv_lload_n hx hb dX1_firstTaken_4 rfl (lv_at hl 1 rfl) ?_
  obtain ⟨r1, g1, h⟩ := g_b h
  refine kcall_i (wSB cI cJ cZ a ce fr un sb se so sc wb we wo wc fb fe fo fc rm ac rf kn) (va_runV (As := [.long p0]) (rest := []) ⟨hx, hb, hml, hown, hts⟩ (c_X0_firstWith l dC dI cB cI cJ cZ (a 2) (a 3) (a 4) (a 5) _ sb se so sc p0 r1 g1) (kcwV hts kw_206 kv_X0_firstWith rfl rfl ⟨(Nat.le_of_ble_eq_true rfl), (Nat.le_of_ble_eq_true rfl)⟩) (kpV (A := A) (hP.sub (kIT mk_15 0) (km_f (m := mk_15) rfl rfl)) hK (hD.sub (kIT mk_15 0) (km_nd mk_15) (km_T (m := mk_15) rfl rfl)) hG (va_recv hK hP (ci := 2) (q0 := 2) rfl rfl)) rfl rfl hl.1 rfl (lv_room (Nat.le_of_ble_eq_true rfl)) dX1_firstTaken_5 ⟨(Nat.le_of_ble_eq_true rfl), (Nat.le_of_ble_eq_true rfl)⟩) hP hD hS hA (kIT mk_15 0) (kIT mk_16 0) (km_T (m := mk_15) rfl rfl) (km_T (m := mk_15) rfl rfl) [((a 0), .inr (3, [.ref (a 1), .long fr, .long un, .ref (a 2), .ref (a 6), .ref (a 10), .ref (a 14), .int ac, .int rf, .int kn])), ((a 1), .inl (cJ, 4, .inr (.inl ce))), ((a 6), .inr (2, [.ref (a 7), .ref (a 8), .ref (a 9), .int wc])), ((a 7), .inl (cJ, 11, .inr (.inl wb))), ((a 8), .inl (cJ, 11, .inr (.inl we))), ((a 9), .inl (cZ, 11, .inl wo)), ((a 10), .inr (2, [.ref (a 11), .ref (a 12), .ref (a 13), .int fc])), ((a 11), .inl (cJ, 11, .inr (.inl fb))), ((a 12), .inl (cJ, 11, .inr (.inl fe))), ((a 13), .inl (cZ, 11, .inl fo)), ((a 14), .inl (cI, 11, .inl rm))] (km_T (m := mk_16) rfl rfl) (km_T (m := mk_16) rfl rfl) (km_cov (m := mk_15) (n := mk_16) rfl rfl) (km_dis (m := mk_15) (n := mk_16) rfl) rfl (fun H locs hP hD hS br1 => ?_)
  refine lv_iconst (v := (-1)) hx hb dX1_firstTaken_8 (by decide) ?_
  refine lv_icmp_ne (tgt := 27) hx hb dX1_firstTaken_9 (by decide) (fun c2 => ?_) (fun c2 => ?_)
  · have h := g_f c2 h
    refine lv_lload_n hx hb dX1_firstTaken_27 rfl (lv_at hl 1 rfl) ?_
    have h := Option.some.inj h
    subst h
    exact kret_l (v := p0) hx hb hr hlocks hS hP dX1_firstTaken_28
  · have h := g_t c2 h
    refine lv_aload_n hx hb dX1_firstTaken_12 rfl (lv_at hl 0 rfl) ?_
    refine va_get (D := (dC, dI)) (ci := 3) (v := .ref (a 2)) (C := RX1) (T := TX1) (N := 10) hx hb hts hiX1 hown hK hP 0 rfl rfl 3 (by decide) hw0 (fun _ h9 => h9) rfl dX1_firstTaken_13 ?_
    refine lv_lload_n hx hb dX1_firstTaken_16 rfl (lv_at hl 1 rfl) ?_
    refine lv_aload_n hx hb dX1_firstTaken_17 rfl (lv_at hl 0 rfl) ?_
    refine va_get (D := (dC, dI)) (ci := 3) (v := .long un) (C := RX1) (T := TX1) (N := 10) hx hb hts hiX1 hown hK hP 0 rfl rfl 2 (by decide) hw1 (fun _ h9 => h9) rfl dX1_firstTaken_18 ?_
    obtain ⟨r3, g3, h⟩ := g_b h
    refine kcall_l (wSB cI cJ cZ a ce fr un sb se so sc wb we wo wc fb fe fo fc rm ac rf kn) (va_runV (As := [.long p0, .long un]) (rest := []) ⟨hx, hb, hml, hown, hts⟩ (c_X0_nextBegin l dC dI cB cI cJ cZ (a 2) (a 3) (a 4) (a 5) _ sb se so sc p0 un r3 g3) (kcwV hts kw_211 kv_X0_nextBegin rfl rfl ⟨(Nat.le_of_ble_eq_true rfl), (Nat.le_of_ble_eq_true rfl)⟩) (kpV (A := A) (hP.sub (kIT mk_15 0) (km_f (m := mk_15) rfl rfl)) hK (hD.sub (kIT mk_15 0) (km_nd mk_15) (km_T (m := mk_15) rfl rfl)) hG (va_recv hK hP (ci := 2) (q0 := 2) rfl rfl)) rfl rfl hl.1 rfl (lv_room (Nat.le_of_ble_eq_true rfl)) dX1_firstTaken_21 ⟨(Nat.le_of_ble_eq_true rfl), (Nat.le_of_ble_eq_true rfl)⟩) hP hD hS hA (kIT mk_15 0) (kIT mk_16 0) (km_T (m := mk_15) rfl rfl) (km_T (m := mk_15) rfl rfl) [((a 0), .inr (3, [.ref (a 1), .long fr, .long un, .ref (a 2), .ref (a 6), .ref (a 10), .ref (a 14), .int ac, .int rf, .int kn])), ((a 1), .inl (cJ, 4, .inr (.inl ce))), ((a 6), .inr (2, [.ref (a 7), .ref (a 8), .ref (a 9), .int wc])), ((a 7), .inl (cJ, 11, .inr (.inl wb))), ((a 8), .inl (cJ, 11, .inr (.inl we))), ((a 9), .inl (cZ, 11, .inl wo)), ((a 10), .inr (2, [.ref (a 11), .ref (a 12), .ref (a 13), .int fc])), ((a 11), .inl (cJ, 11, .inr (.inl fb))), ((a 12), .inl (cJ, 11, .inr (.inl fe))), ((a 13), .inl (cZ, 11, .inl fo)), ((a 14), .inl (cI, 11, .inl rm))] (km_T (m := mk_16) rfl rfl) (km_T (m := mk_16) rfl rfl) (km_cov (m := mk_15) (n := mk_16) rfl rfl) (km_dis (m := mk_15) (n := mk_16) rfl) rfl (fun H locs hP hD hS => ?_)
    refine lv_goto (tgt := 28) hx hb dX1_firstTaken_24 (by decide) ?_
    have h := Option.some.inj h
    subst h
    exact kret_l (v := r3) hx hb hr hlocks hS hP dX1_firstTaken_28
abbrev wsX1_findFrees : List Cond := kWs yX1_findFrees cX1_findFrees 6 none
def f_X1_findFrees_15 : Nat → (Int64) → (Nat → Int64) → (Nat → Int64) → (Int32) → (Nat → Int64) → (Nat → Int64) → (Nat → Int32) → (Int32) → (Int64) → (Int32) → Option ((Nat → Int64) × (Nat → Int64) × (Nat → Int32) × (Int32))
  | 0, _, _, _, _, _, _, _, _, _, _ => none
  | n + 1, un, sb, se, sc, fb, fe, fo, fc, x1, x3 =>
    (f_X0_count sc).bind fun r1 =>
    if r1 < x3 then
      some (fb, fe, fo, fc)
    else
      if un ≤ x1 then
        some (fb, fe, fo, fc)
      else
        (f_X1_firstWithoutSpan sb se sc x1 1).bind fun r4 =>
        (f_X1_firstTaken un sb se sc r4).bind fun r5 =>
        if r5 ≤ r4 then
          f_X1_findFrees_15 n un sb se sc fb fe fo fc r5 (x3 + 1)
        else
          (f_X0_add fb fe fo fc r4 r5 0).bind fun r7 =>
          f_X1_findFrees_15 n un sb se sc r7.2.1 r7.2.2.1 r7.2.2.2.1 r7.2.2.2.2 r5 (x3 + 1)
theorem f_X1_findFrees_15_0 {un : Int64} {sb : Nat → Int64} {se : Nat → Int64} {sc : Int32} {fb : Nat → Int64} {fe : Nat → Int64} {fo : Nat → Int32} {fc : Int32} {x1 : Int64} {x3 : Int32} : f_X1_findFrees_15 0 un sb se sc fb fe fo fc x1 x3 = none := rfl
theorem f_X1_findFrees_15_s {n : Nat} {un : Int64} {sb : Nat → Int64} {se : Nat → Int64} {sc : Int32} {fb : Nat → Int64} {fe : Nat → Int64} {fo : Nat → Int32} {fc : Int32} {x1 : Int64} {x3 : Int32} : f_X1_findFrees_15 (n + 1) un sb se sc fb fe fo fc x1 x3 =
  (f_X0_count sc).bind fun r1 =>
  if r1 < x3 then
    some (fb, fe, fo, fc)
  else
    if un ≤ x1 then
      some (fb, fe, fo, fc)
    else
      (f_X1_firstWithoutSpan sb se sc x1 1).bind fun r4 =>
      (f_X1_firstTaken un sb se sc r4).bind fun r5 =>
      if r5 ≤ r4 then
        f_X1_findFrees_15 n un sb se sc fb fe fo fc r5 (x3 + 1)
      else
        (f_X0_add fb fe fo fc r4 r5 0).bind fun r7 =>
        f_X1_findFrees_15 n un sb se sc r7.2.1 r7.2.2.1 r7.2.2.2.1 r7.2.2.2.2 r5 (x3 + 1) := rfl
def f_X1_findFrees (fr : Int64) (un : Int64) (sb : Nat → Int64) (se : Nat → Int64) (sc : Int32) (fb : Nat → Int64) (fe : Nat → Int64) (fo : Nat → Int32) (fc : Int32) : Option ((Nat → Int64) × (Nat → Int64) × (Nat → Int32) × (Int32)) :=
  (f_X0_clear fc).bind fun r1 =>
  f_X1_findFrees_15 24 un sb se sc fb fe fo r1.2 fr 0
theorem f_X1_findFrees_e {fr : Int64} {un : Int64} {sb : Nat → Int64} {se : Nat → Int64} {sc : Int32} {fb : Nat → Int64} {fe : Nat → Int64} {fo : Nat → Int32} {fc : Int32} : f_X1_findFrees fr un sb se sc fb fe fo fc = 
  (f_X0_clear fc).bind fun r1 =>
  f_X1_findFrees_15 24 un sb se sc fb fe fo r1.2 fr 0 := rfl
set_option maxHeartbeats 4000000 in
set_option maxRecDepth 100000 in
theorem c_X1_findFrees (l : Launch) (dC : Nat → ClassId) (dI : Nat → Nat → Nat) (cB cI cJ cZ : ClassId) (a : Nat → Nat) (sz : Nat) (ce : Nat → Int64) (fr : Int64) (un : Int64) (sb : Nat → Int64) (se : Nat → Int64) (so : Nat → Int32) (sc : Int32) (wb : Nat → Int64) (we : Nat → Int64) (wo : Nat → Int32) (wc : Int32) (fb : Nat → Int64) (fe : Nat → Int64) (fo : Nat → Int32) (fc : Int32) (rm : Nat → Int32) (ac : Int32) (rf : Int32) (kn : Int32) (res : (Nat → Int64) × (Nat → Int64) × (Nat → Int32) × (Int32)) (hf : f_X1_findFrees fr un sb se sc fb fe fo fc = some res) : Met l yX1_findFrees wsX1_findFrees ({ frames := 3, cells := 0, slots := 0, locals := 70 } : Room) (kPre (dC, dI) (kTy cB cI cJ cZ) [.ref (a 0)] sz (wSB cI cJ cZ a ce fr un sb se so sc wb we wo wc fb fe fo fc rm ac rf kn)) (kV (dC, dI) (wSB cI cJ cZ a ce fr un sb se so sc wb we wo wc (res.1) (res.2.1) (res.2.2.1) (res.2.2.2) rm ac rf kn) (va_A (wSB cI cJ cZ a ce fr un sb se so sc wb we wo wc fb fe fo fc rm ac rf kn) sz)) 0 0 (va_A (wSB cI cJ cZ a ce fr un sb se so sc wb we wo wc fb fe fo fc rm ac rf kn) sz) := by
  refine Met.ofW (cc := cX1_findFrees) (maxL := 6) (ret := none) (by decide) rfl ?_
  intro p e s m args below meth c s₁ B hml hv
  obtain ⟨rfl, hsz, hP, hK, hD0, hG⟩ := hv
  have hx := B.exec
  have hb := B.bytes
  have hr := B.returns
  have hts := atoms_spec (ws := wsX1_findFrees) B.pre
  have hown : s.vm.findClass RX1 = some m.cls := findClass_of_methodNamed B.named
  have hlocks := B.notSynchronized
  subst hsz
  have hD := hD0.self (sz := s.heap.size)
  generalize hAe : va_A (wSB cI cJ cZ a ce fr un sb se so sc wb we wo wc fb fe fo fc rm ac rf kn) s.heap.size = A at hD ⊢
  have hA : ∀ q : Nat, s.heap.size ≤ q → A q := fun q h => by rw [← hAe]; exact Or.inr h
  have hS : va_S A s.heap s.heap [] := va_S.rf
  clear hAe
  have hw0 := hts (.fieldLink RX1 32 "Spanbooker" "freeRow" "LSpanbooker$Row;") (List.mem_cons_of_mem _ kw_112)
  have hw1 := hts (.fieldLink RX1 13 "Spanbooker" "from" "J") (List.mem_cons_of_mem _ kw_108)
  have hw2 := hts (.fieldLink RX1 25 "Spanbooker" "spanRow" "LSpanbooker$Row;") (List.mem_cons_of_mem _ kw_110)
  have hw3 := hts (.fieldLink RX1 19 "Spanbooker" "until" "J") (List.mem_cons_of_mem _ kw_109)
  have hiX1 : ∀ w ∈ u_ws RX1 TX1 10, w ∈ wsX1_findFrees := fun w h => List.mem_cons_of_mem _ (ku_X1 w h)
  have J15 : ∀ (n : Nat), ∀ (ce : Nat → Int64) (fr : Int64) (un : Int64) (sb : Nat → Int64) (se : Nat → Int64) (so : Nat → Int32) (sc : Int32) (wb : Nat → Int64) (we : Nat → Int64) (wo : Nat → Int32) (wc : Int32) (fb : Nat → Int64) (fe : Nat → Int64) (fo : Nat → Int32) (fc : Int32) (rm : Nat → Int32) (ac : Int32) (rf : Int32) (kn : Int32) (x1 : Int64) (x3 : Int32) (H : Heap) (locs : List Loc), va_P (dC, dI) vwCl (wSB cI cJ cZ a ce fr un sb se so sc wb we wo wc fb fe fo fc rm ac rf kn) H → va_D A (wSB cI cJ cZ a ce fr un sb se so sc wb we wo wc fb fe fo fc rm ac rf kn) → va_S A s.heap H locs → ∀ (ls : Array Slot), lv_has ls 6 [(0, .ref (a 0)), (1, .long x1), (3, .int x3)] → f_X1_findFrees_15 n un sb se sc fb fe fo fc x1 x3 = some res → W p l e (headSpec wsX1_findFrees ({ frames := 3, cells := 0, slots := 0, locals := 70 } : Room)).room s m ([.ref (a 0)] : List Value).toArray below meth c H locs 0 0 (MQ below (kV (dC, dI) (wSB cI cJ cZ a ce fr un sb se so sc wb we wo wc (res.1) (res.2.1) (res.2.2.1) (res.2.2.2) rm ac rf kn) A) ([.ref (a 0)] : List Value).toArray s 0 0 A) (F0 m 15 ls []) := by
    intro n
    induction n with
    | zero =>
      intro ce fr un sb se so sc wb we wo wc fb fe fo fc rm ac rf kn x1 x3 H locs hP hD hS ls hl h
      have h := f_X1_findFrees_15_0.symm.trans h
      cases h
    | succ n ih =>
      intro ce fr un sb se so sc wb we wo wc fb fe fo fc rm ac rf kn x1 x3 H locs hP hD hS ls hl h
      have h := f_X1_findFrees_15_s.symm.trans h
      refine lv_iload_n hx hb dX1_findFrees_15 rfl (lv_at hl 2 rfl) ?_
      refine lv_aload_n hx hb dX1_findFrees_16 rfl (lv_at hl 0 rfl) ?_
      refine va_get (D := (dC, dI)) (ci := 3) (v := .ref (a 2)) (C := RX1) (T := TX1) (N := 10) hx hb hts hiX1 hown hK hP 0 rfl rfl 3 (by decide) hw2 (fun _ h9 => h9) rfl dX1_findFrees_17 ?_
      obtain ⟨r1, g1, h⟩ := g_b h
      refine kcall_i (wSB cI cJ cZ a ce fr un sb se so sc wb we wo wc fb fe fo fc rm ac rf kn) (va_runV (As := []) (rest := [.int x3]) ⟨hx, hb, hml, hown, hts⟩ (c_X0_count l dC dI cB cI cJ cZ (a 2) (a 3) (a 4) (a 5) _ sb se so sc  r1 g1) (kcwV hts kw_155 kv_X0_count rfl rfl ⟨(Nat.le_of_ble_eq_true rfl), (Nat.le_of_ble_eq_true rfl)⟩) (kpV (A := A) (hP.sub (kIT mk_15 0) (km_f (m := mk_15) rfl rfl)) hK (hD.sub (kIT mk_15 0) (km_nd mk_15) (km_T (m := mk_15) rfl rfl)) hG (va_recv hK hP (ci := 2) (q0 := 2) rfl rfl)) rfl rfl hl.1 rfl (lv_room (Nat.le_of_ble_eq_true rfl)) dX1_findFrees_20 ⟨(Nat.le_of_ble_eq_true rfl), (Nat.le_of_ble_eq_true rfl)⟩) hP hD hS hA (kIT mk_15 0) (kIT mk_16 0) (km_T (m := mk_15) rfl rfl) (km_T (m := mk_15) rfl rfl) [((a 0), .inr (3, [.ref (a 1), .long fr, .long un, .ref (a 2), .ref (a 6), .ref (a 10), .ref (a 14), .int ac, .int rf, .int kn])), ((a 1), .inl (cJ, 4, .inr (.inl ce))), ((a 6), .inr (2, [.ref (a 7), .ref (a 8), .ref (a 9), .int wc])), ((a 7), .inl (cJ, 11, .inr (.inl wb))), ((a 8), .inl (cJ, 11, .inr (.inl we))), ((a 9), .inl (cZ, 11, .inl wo)), ((a 10), .inr (2, [.ref (a 11), .ref (a 12), .ref (a 13), .int fc])), ((a 11), .inl (cJ, 11, .inr (.inl fb))), ((a 12), .inl (cJ, 11, .inr (.inl fe))), ((a 13), .inl (cZ, 11, .inl fo)), ((a 14), .inl (cI, 11, .inl rm))] (km_T (m := mk_16) rfl rfl) (km_T (m := mk_16) rfl rfl) (km_cov (m := mk_15) (n := mk_16) rfl rfl) (km_dis (m := mk_15) (n := mk_16) rfl) rfl (fun H locs hP hD hS br1 => ?_)
      refine lv_icmp_gt (tgt := 75) hx hb dX1_findFrees_23 (by decide) (fun c2 => ?_) (fun c2 => ?_)
      · have h := g_t c2 h
        have h := Option.some.inj h
        subst h
        exact kret_v hx hb hr hlocks hS hP dX1_findFrees_75
      · have h := g_f c2 h
        refine lv_lload_n hx hb dX1_findFrees_26 rfl (lv_at hl 1 rfl) ?_
        refine lv_aload_n hx hb dX1_findFrees_27 rfl (lv_at hl 0 rfl) ?_
        refine va_get (D := (dC, dI)) (ci := 3) (v := .long un) (C := RX1) (T := TX1) (N := 10) hx hb hts hiX1 hown hK hP 0 rfl rfl 2 (by decide) hw3 (fun _ h9 => h9) rfl dX1_findFrees_28 ?_
        refine kl_ge (pc := 31) (tgt := 75) hx hb dX1_findFrees_31 dX1_findFrees_32 (by decide) (fun c3 => ?_) (fun c3 => ?_)
        · have h := g_t c3 h
          have h := Option.some.inj h
          subst h
          exact kret_v hx hb hr hlocks hS hP dX1_findFrees_75
        · have h := g_f c3 h
          refine lv_aload_n hx hb dX1_findFrees_35 rfl (lv_at hl 0 rfl) ?_
          refine lv_lload_n hx hb dX1_findFrees_36 rfl (lv_at hl 1 rfl) ?_
          refine lv_lconst (v := 1) hx hb dX1_findFrees_37 (by decide) ?_
          obtain ⟨r4, g4, h⟩ := g_b h
          refine kcall_l (wSB cI cJ cZ a ce fr un sb se so sc wb we wo wc fb fe fo fc rm ac rf kn) (va_runV (As := [.long x1, .long 1]) (rest := []) ⟨hx, hb, hml, hown, hts⟩ (c_X1_firstWithoutSpan l dC dI cB cI cJ cZ a _ ce fr un sb se so sc wb we wo wc fb fe fo fc rm ac rf kn x1 1 r4 g4) (kcwV hts kw_186 kv_X1_firstWithoutSpan rfl rfl ⟨(Nat.le_of_ble_eq_true rfl), (Nat.le_of_ble_eq_true rfl)⟩) (kpV (A := A) (hP.sub (kIT mk_14 0) (km_f (m := mk_14) rfl rfl)) hK (hD.sub (kIT mk_14 0) (km_nd mk_14) (km_T (m := mk_14) rfl rfl)) hG (va_recv hK hP (ci := 3) (q0 := 0) rfl rfl)) rfl rfl hl.1 rfl (lv_room (Nat.le_of_ble_eq_true rfl)) dX1_findFrees_38 ⟨(Nat.le_of_ble_eq_true rfl), (Nat.le_of_ble_eq_true rfl)⟩) hP hD hS hA (kIT mk_14 0) (kIT mk_13 0) (km_T (m := mk_14) rfl rfl) (km_T (m := mk_14) rfl rfl) [] (km_T (m := mk_13) rfl rfl) (km_T (m := mk_13) rfl rfl) (km_cov (m := mk_14) (n := mk_13) rfl rfl) (km_dis (m := mk_14) (n := mk_13) rfl) rfl (fun H locs hP hD hS => ?_)
          refine lv_lstore (lv' := [(4, .long r4), (0, .ref (a 0)), (1, .long x1), (3, .int x3)]) hx hb dX1_findFrees_41 hl (by decide) rfl (fun ls hl => ?_)
          refine lv_aload_n hx hb dX1_findFrees_43 rfl (lv_at hl 1 rfl) ?_
          refine lv_lload hx hb dX1_findFrees_44 (lv_at hl 0 rfl) ?_
          obtain ⟨r5, g5, h⟩ := g_b h
          refine kcall_l (wSB cI cJ cZ a ce fr un sb se so sc wb we wo wc fb fe fo fc rm ac rf kn) (va_runV (As := [.long r4]) (rest := []) ⟨hx, hb, hml, hown, hts⟩ (c_X1_firstTaken l dC dI cB cI cJ cZ a _ ce fr un sb se so sc wb we wo wc fb fe fo fc rm ac rf kn r4 r5 g5) (kcwV hts kw_202 kv_X1_firstTaken rfl rfl ⟨(Nat.le_of_ble_eq_true rfl), (Nat.le_of_ble_eq_true rfl)⟩) (kpV (A := A) (hP.sub (kIT mk_14 0) (km_f (m := mk_14) rfl rfl)) hK (hD.sub (kIT mk_14 0) (km_nd mk_14) (km_T (m := mk_14) rfl rfl)) hG (va_recv hK hP (ci := 3) (q0 := 0) rfl rfl)) rfl rfl hl.1 rfl (lv_room (Nat.le_of_ble_eq_true rfl)) dX1_findFrees_46 ⟨(Nat.le_of_ble_eq_true rfl), (Nat.le_of_ble_eq_true rfl)⟩) hP hD hS hA (kIT mk_14 0) (kIT mk_13 0) (km_T (m := mk_14) rfl rfl) (km_T (m := mk_14) rfl rfl) [] (km_T (m := mk_13) rfl rfl) (km_T (m := mk_13) rfl rfl) (km_cov (m := mk_14) (n := mk_13) rfl rfl) (km_dis (m := mk_14) (n := mk_13) rfl) rfl (fun H locs hP hD hS => ?_)
          refine lv_lstore_n (lv' := [(1, .long r5), (4, .long r4), (0, .ref (a 0)), (3, .int x3)]) hx hb dX1_findFrees_49 rfl hl (by decide) rfl (fun ls hl => ?_)
          refine lv_lload hx hb dX1_findFrees_50 (lv_at hl 1 rfl) ?_
          refine lv_lload_n hx hb dX1_findFrees_52 rfl (lv_at hl 0 rfl) ?_
          refine kl_ge (pc := 53) (tgt := 69) hx hb dX1_findFrees_53 dX1_findFrees_54 (by decide) (fun c6 => ?_) (fun c6 => ?_)
          · have h := g_t c6 h
            refine lv_iinc (v := x3 + 1) (lv' := [(3, .int (x3 + 1)), (1, .long r5), (4, .long r4), (0, .ref (a 0))]) hx hb dX1_findFrees_69 hl (k := 3) rfl rfl (by decide) rfl (fun ls hl => ?_)
            refine lv_goto (tgt := 15) hx hb dX1_findFrees_72 (by decide) ?_
            exact ih ce fr un sb se so sc wb we wo wc fb fe fo fc rm ac rf kn r5 (x3 + 1) _ _ hP hD hS ls (lv_sub hl [3, 1, 0] rfl) h
          · have h := g_f c6 h
            refine lv_aload_n hx hb dX1_findFrees_57 rfl (lv_at hl 2 rfl) ?_
            refine va_get (D := (dC, dI)) (ci := 3) (v := .ref (a 10)) (C := RX1) (T := TX1) (N := 10) hx hb hts hiX1 hown hK hP 0 rfl rfl 5 (by decide) hw0 (fun _ h9 => h9) rfl dX1_findFrees_58 ?_
            refine lv_lload hx hb dX1_findFrees_61 (lv_at hl 1 rfl) ?_
            refine lv_lload_n hx hb dX1_findFrees_63 rfl (lv_at hl 0 rfl) ?_
            refine lv_iconst (v := 0) hx hb dX1_findFrees_64 (by decide) ?_
            obtain ⟨r7, g7, h⟩ := g_b h
            refine kcall_i (wSB cI cJ cZ a ce fr un sb se so sc wb we wo wc r7.2.1 r7.2.2.1 r7.2.2.2.1 r7.2.2.2.2 rm ac rf kn) (va_runV (As := [.long r4, .long r5, .int 0]) (rest := []) ⟨hx, hb, hml, hown, hts⟩ (c_X0_add l dC dI cB cI cJ cZ (a 10) (a 11) (a 12) (a 13) _ fb fe fo fc r4 r5 0 r7 g7) (kcwV hts kw_215 kv_X0_add rfl rfl ⟨(Nat.le_of_ble_eq_true rfl), (Nat.le_of_ble_eq_true rfl)⟩) (kpV (A := A) (hP.sub (kIT mk_19 0) (km_f (m := mk_19) rfl rfl)) hK (hD.sub (kIT mk_19 0) (km_nd mk_19) (km_T (m := mk_19) rfl rfl)) hG (va_recv hK hP (ci := 2) (q0 := 10) rfl rfl)) rfl rfl hl.1 rfl (lv_room (Nat.le_of_ble_eq_true rfl)) dX1_findFrees_65 ⟨(Nat.le_of_ble_eq_true rfl), (Nat.le_of_ble_eq_true rfl)⟩) hP hD hS hA (kIT mk_19 0) (kIT mk_20 0) (km_T (m := mk_19) rfl rfl) (km_T (m := mk_19) rfl rfl) [((a 0), .inr (3, [.ref (a 1), .long fr, .long un, .ref (a 2), .ref (a 6), .ref (a 10), .ref (a 14), .int ac, .int rf, .int kn])), ((a 1), .inl (cJ, 4, .inr (.inl ce))), ((a 2), .inr (2, [.ref (a 3), .ref (a 4), .ref (a 5), .int sc])), ((a 3), .inl (cJ, 11, .inr (.inl sb))), ((a 4), .inl (cJ, 11, .inr (.inl se))), ((a 5), .inl (cZ, 11, .inl so)), ((a 6), .inr (2, [.ref (a 7), .ref (a 8), .ref (a 9), .int wc])), ((a 7), .inl (cJ, 11, .inr (.inl wb))), ((a 8), .inl (cJ, 11, .inr (.inl we))), ((a 9), .inl (cZ, 11, .inl wo)), ((a 14), .inl (cI, 11, .inl rm))] (km_T (m := mk_20) rfl rfl) (km_T (m := mk_20) rfl rfl) (km_cov (m := mk_19) (n := mk_20) rfl rfl) (km_dis (m := mk_19) (n := mk_20) rfl) rfl (fun H locs hP hD hS br7 => ?_)
            refine lv_pop hx hb dX1_findFrees_68 rfl ?_
            refine lv_iinc (v := x3 + 1) (lv' := [(3, .int (x3 + 1)), (1, .long r5), (4, .long r4), (0, .ref (a 0))]) hx hb dX1_findFrees_69 hl (k := 3) rfl rfl (by decide) rfl (fun ls hl => ?_)
            refine lv_goto (tgt := 15) hx hb dX1_findFrees_72 (by decide) ?_
            exact ih ce fr un sb se so sc wb we wo wc r7.2.1 r7.2.2.1 r7.2.2.2.1 r7.2.2.2.2 rm ac rf kn r5 (x3 + 1) _ _ hP hD hS ls (lv_sub hl [3, 1, 0] rfl) h
  have hl := lv_entry ([.ref (a 0)]) (n := 6) (Nat.le_of_ble_eq_true rfl)
  rw [lg_entry_eq]
  generalize (lg_sl ([.ref (a 0)]) ++ List.replicate (6 - (lg_sl ([.ref (a 0)])).length) Slot.unset).toArray = ls at hl ⊢
  have hl : lv_has ls 6 [(0, .ref (a 0))] := hl
  have h := f_X1_findFrees_e.symm.trans hf
  refine lv_aload_n hx hb dX1_findFrees_0 rfl (lv_at hl 0 rfl) ?_
  refine va_get (D := (dC, dI)) (ci := 3) (v := .ref (a 10)) (C := RX1) (T := TX1) (N := 10) hx hb hts hiX1 hown hK hP 0 rfl rfl 5 (by decide) hw0 (fun _ h9 => h9) rfl dX1_findFrees_1 ?_
  obtain ⟨r1, g1, h⟩ := g_b h
  refine kcall_i (wSB cI cJ cZ a ce fr un sb se so sc wb we wo wc fb fe fo r1.2 rm ac rf kn) (va_runV (As := []) (rest := []) ⟨hx, hb, hml, hown, hts⟩ (c_X0_clear l dC dI cB cI cJ cZ (a 10) (a 11) (a 12) (a 13) _ fb fe fo fc  r1 g1) (kcwV hts kw_143 kv_X0_clear rfl rfl ⟨(Nat.le_of_ble_eq_true rfl), (Nat.le_of_ble_eq_true rfl)⟩) (kpV (A := A) (hP.sub (kIT mk_19 0) (km_f (m := mk_19) rfl rfl)) hK (hD.sub (kIT mk_19 0) (km_nd mk_19) (km_T (m := mk_19) rfl rfl)) hG (va_recv hK hP (ci := 2) (q0 := 10) rfl rfl)) rfl rfl hl.1 rfl (lv_room (Nat.le_of_ble_eq_true rfl)) dX1_findFrees_4 ⟨(Nat.le_of_ble_eq_true rfl), (Nat.le_of_ble_eq_true rfl)⟩) hP hD hS hA (kIT mk_19 0) (kIT mk_20 0) (km_T (m := mk_19) rfl rfl) (km_T (m := mk_19) rfl rfl) [((a 0), .inr (3, [.ref (a 1), .long fr, .long un, .ref (a 2), .ref (a 6), .ref (a 10), .ref (a 14), .int ac, .int rf, .int kn])), ((a 1), .inl (cJ, 4, .inr (.inl ce))), ((a 2), .inr (2, [.ref (a 3), .ref (a 4), .ref (a 5), .int sc])), ((a 3), .inl (cJ, 11, .inr (.inl sb))), ((a 4), .inl (cJ, 11, .inr (.inl se))), ((a 5), .inl (cZ, 11, .inl so)), ((a 6), .inr (2, [.ref (a 7), .ref (a 8), .ref (a 9), .int wc])), ((a 7), .inl (cJ, 11, .inr (.inl wb))), ((a 8), .inl (cJ, 11, .inr (.inl we))), ((a 9), .inl (cZ, 11, .inl wo)), ((a 14), .inl (cI, 11, .inl rm))] (km_T (m := mk_20) rfl rfl) (km_T (m := mk_20) rfl rfl) (km_cov (m := mk_19) (n := mk_20) rfl rfl) (km_dis (m := mk_19) (n := mk_20) rfl) rfl (fun H locs hP hD hS br1 => ?_)
  refine lv_pop hx hb dX1_findFrees_7 rfl ?_
  refine lv_aload_n hx hb dX1_findFrees_8 rfl (lv_at hl 0 rfl) ?_
  refine va_get (D := (dC, dI)) (ci := 3) (v := .long fr) (C := RX1) (T := TX1) (N := 10) hx hb hts hiX1 hown hK hP 0 rfl rfl 1 (by decide) hw1 (fun _ h9 => h9) rfl dX1_findFrees_9 ?_
  refine lv_lstore_n (lv' := [(1, .long fr), (0, .ref (a 0))]) hx hb dX1_findFrees_12 rfl hl (by decide) rfl (fun ls hl => ?_)
  refine lv_iconst (v := 0) hx hb dX1_findFrees_13 (by decide) ?_
  refine lv_istore_n (lv' := [(3, .int 0), (1, .long fr), (0, .ref (a 0))]) hx hb dX1_findFrees_14 rfl hl (by decide) rfl (fun ls hl => ?_)
  exact J15 24 ce fr un sb se so sc wb we wo wc fb fe fo r1.2 rm ac rf kn fr 0 _ _ hP hD hS ls (lv_sub hl [2, 1, 0] rfl) h
abbrev wsX1_freeLength : List Cond := kWs yX1_freeLength cX1_freeLength 4 (some .long)
def f_X1_freeLength_4 : Nat → (Nat → Int64) → (Nat → Int64) → (Int32) → (Int64) → (Int32) → Option (Int64)
  | 0, _, _, _, _, _ => none
  | n + 1, fb, fe, fc, x1, x3 =>
    (f_X0_count fc).bind fun r1 =>
    if r1 ≤ x3 then
      some x1
    else
      (f_X0_end fe fc x3).bind fun r3 =>
      (f_X0_begin fb fc x3).bind fun r4 =>
      f_X1_freeLength_4 n fb fe fc (x1 + (r3 - r4)) (x3 + 1)
theorem f_X1_freeLength_4_0 {fb : Nat → Int64} {fe : Nat → Int64} {fc : Int32} {x1 : Int64} {x3 : Int32} : f_X1_freeLength_4 0 fb fe fc x1 x3 = none := rfl
theorem f_X1_freeLength_4_s {n : Nat} {fb : Nat → Int64} {fe : Nat → Int64} {fc : Int32} {x1 : Int64} {x3 : Int32} : f_X1_freeLength_4 (n + 1) fb fe fc x1 x3 =
  (f_X0_count fc).bind fun r1 =>
  if r1 ≤ x3 then
    some x1
  else
    (f_X0_end fe fc x3).bind fun r3 =>
    (f_X0_begin fb fc x3).bind fun r4 =>
    f_X1_freeLength_4 n fb fe fc (x1 + (r3 - r4)) (x3 + 1) := rfl
def f_X1_freeLength (fb : Nat → Int64) (fe : Nat → Int64) (fc : Int32) : Option (Int64) :=
  f_X1_freeLength_4 24 fb fe fc 0 0
theorem f_X1_freeLength_e {fb : Nat → Int64} {fe : Nat → Int64} {fc : Int32} : f_X1_freeLength fb fe fc = 
  f_X1_freeLength_4 24 fb fe fc 0 0 := rfl
set_option maxHeartbeats 4000000 in
set_option maxRecDepth 100000 in
theorem c_X1_freeLength (l : Launch) (dC : Nat → ClassId) (dI : Nat → Nat → Nat) (cB cI cJ cZ : ClassId) (a : Nat → Nat) (sz : Nat) (ce : Nat → Int64) (fr : Int64) (un : Int64) (sb : Nat → Int64) (se : Nat → Int64) (so : Nat → Int32) (sc : Int32) (wb : Nat → Int64) (we : Nat → Int64) (wo : Nat → Int32) (wc : Int32) (fb : Nat → Int64) (fe : Nat → Int64) (fo : Nat → Int32) (fc : Int32) (rm : Nat → Int32) (ac : Int32) (rf : Int32) (kn : Int32) (res : Int64) (hf : f_X1_freeLength fb fe fc = some res) : Met l yX1_freeLength wsX1_freeLength ({ frames := 2, cells := 0, slots := 0, locals := 42 } : Room) (kPre (dC, dI) (kTy cB cI cJ cZ) [.ref (a 0)] sz (wSB cI cJ cZ a ce fr un sb se so sc wb we wo wc fb fe fo fc rm ac rf kn)) (kL (dC, dI) (res) (wSB cI cJ cZ a ce fr un sb se so sc wb we wo wc fb fe fo fc rm ac rf kn) (va_A (wSB cI cJ cZ a ce fr un sb se so sc wb we wo wc fb fe fo fc rm ac rf kn) sz)) 0 0 (va_A (wSB cI cJ cZ a ce fr un sb se so sc wb we wo wc fb fe fo fc rm ac rf kn) sz) := by
  refine Met.ofW (cc := cX1_freeLength) (maxL := 4) (ret := (some .long)) (by decide) rfl ?_
  intro p e s m args below meth c s₁ B hml hv
  obtain ⟨rfl, hsz, hP, hK, hD0, hG⟩ := hv
  have hx := B.exec
  have hb := B.bytes
  have hr := B.returns
  have hts := atoms_spec (ws := wsX1_freeLength) B.pre
  have hown : s.vm.findClass RX1 = some m.cls := findClass_of_methodNamed B.named
  have hlocks := B.notSynchronized
  subst hsz
  have hD := hD0.self (sz := s.heap.size)
  generalize hAe : va_A (wSB cI cJ cZ a ce fr un sb se so sc wb we wo wc fb fe fo fc rm ac rf kn) s.heap.size = A at hD ⊢
  have hA : ∀ q : Nat, s.heap.size ≤ q → A q := fun q h => by rw [← hAe]; exact Or.inr h
  have hS : va_S A s.heap s.heap [] := va_S.rf
  clear hAe
  have hw0 := hts (.fieldLink RX1 32 "Spanbooker" "freeRow" "LSpanbooker$Row;") (List.mem_cons_of_mem _ kw_112)
  have hiX1 : ∀ w ∈ u_ws RX1 TX1 10, w ∈ wsX1_freeLength := fun w h => List.mem_cons_of_mem _ (ku_X1 w h)
  have J4 : ∀ (n : Nat), ∀ (ce : Nat → Int64) (fr : Int64) (un : Int64) (sb : Nat → Int64) (se : Nat → Int64) (so : Nat → Int32) (sc : Int32) (wb : Nat → Int64) (we : Nat → Int64) (wo : Nat → Int32) (wc : Int32) (fb : Nat → Int64) (fe : Nat → Int64) (fo : Nat → Int32) (fc : Int32) (rm : Nat → Int32) (ac : Int32) (rf : Int32) (kn : Int32) (x1 : Int64) (x3 : Int32) (H : Heap) (locs : List Loc), va_P (dC, dI) vwCl (wSB cI cJ cZ a ce fr un sb se so sc wb we wo wc fb fe fo fc rm ac rf kn) H → va_D A (wSB cI cJ cZ a ce fr un sb se so sc wb we wo wc fb fe fo fc rm ac rf kn) → va_S A s.heap H locs → ∀ (ls : Array Slot), lv_has ls 4 [(0, .ref (a 0)), (1, .long x1), (3, .int x3)] → f_X1_freeLength_4 n fb fe fc x1 x3 = some res → W p l e (headSpec wsX1_freeLength ({ frames := 2, cells := 0, slots := 0, locals := 42 } : Room)).room s m ([.ref (a 0)] : List Value).toArray below meth c H locs 0 0 (MQ below (kL (dC, dI) (res) (wSB cI cJ cZ a ce fr un sb se so sc wb we wo wc fb fe fo fc rm ac rf kn) A) ([.ref (a 0)] : List Value).toArray s 0 0 A) (F0 m 4 ls []) := by
    intro n
    induction n with
    | zero =>
      intro ce fr un sb se so sc wb we wo wc fb fe fo fc rm ac rf kn x1 x3 H locs hP hD hS ls hl h
      have h := f_X1_freeLength_4_0.symm.trans h
      cases h
    | succ n ih =>
      intro ce fr un sb se so sc wb we wo wc fb fe fo fc rm ac rf kn x1 x3 H locs hP hD hS ls hl h
      have h := f_X1_freeLength_4_s.symm.trans h
      refine lv_iload_n hx hb dX1_freeLength_4 rfl (lv_at hl 2 rfl) ?_
      refine lv_aload_n hx hb dX1_freeLength_5 rfl (lv_at hl 0 rfl) ?_
      refine va_get (D := (dC, dI)) (ci := 3) (v := .ref (a 10)) (C := RX1) (T := TX1) (N := 10) hx hb hts hiX1 hown hK hP 0 rfl rfl 5 (by decide) hw0 (fun _ h9 => h9) rfl dX1_freeLength_6 ?_
      obtain ⟨r1, g1, h⟩ := g_b h
      refine kcall_i (wSB cI cJ cZ a ce fr un sb se so sc wb we wo wc fb fe fo fc rm ac rf kn) (va_runV (As := []) (rest := [.int x3]) ⟨hx, hb, hml, hown, hts⟩ (c_X0_count l dC dI cB cI cJ cZ (a 10) (a 11) (a 12) (a 13) _ fb fe fo fc  r1 g1) (kcwV hts kw_155 kv_X0_count rfl rfl ⟨(Nat.le_of_ble_eq_true rfl), (Nat.le_of_ble_eq_true rfl)⟩) (kpV (A := A) (hP.sub (kIT mk_19 0) (km_f (m := mk_19) rfl rfl)) hK (hD.sub (kIT mk_19 0) (km_nd mk_19) (km_T (m := mk_19) rfl rfl)) hG (va_recv hK hP (ci := 2) (q0 := 10) rfl rfl)) rfl rfl hl.1 rfl (lv_room (Nat.le_of_ble_eq_true rfl)) dX1_freeLength_9 ⟨(Nat.le_of_ble_eq_true rfl), (Nat.le_of_ble_eq_true rfl)⟩) hP hD hS hA (kIT mk_19 0) (kIT mk_20 0) (km_T (m := mk_19) rfl rfl) (km_T (m := mk_19) rfl rfl) [((a 0), .inr (3, [.ref (a 1), .long fr, .long un, .ref (a 2), .ref (a 6), .ref (a 10), .ref (a 14), .int ac, .int rf, .int kn])), ((a 1), .inl (cJ, 4, .inr (.inl ce))), ((a 2), .inr (2, [.ref (a 3), .ref (a 4), .ref (a 5), .int sc])), ((a 3), .inl (cJ, 11, .inr (.inl sb))), ((a 4), .inl (cJ, 11, .inr (.inl se))), ((a 5), .inl (cZ, 11, .inl so)), ((a 6), .inr (2, [.ref (a 7), .ref (a 8), .ref (a 9), .int wc])), ((a 7), .inl (cJ, 11, .inr (.inl wb))), ((a 8), .inl (cJ, 11, .inr (.inl we))), ((a 9), .inl (cZ, 11, .inl wo)), ((a 14), .inl (cI, 11, .inl rm))] (km_T (m := mk_20) rfl rfl) (km_T (m := mk_20) rfl rfl) (km_cov (m := mk_19) (n := mk_20) rfl rfl) (km_dis (m := mk_19) (n := mk_20) rfl) rfl (fun H locs hP hD hS br1 => ?_)
      refine lv_icmp_ge (tgt := 41) hx hb dX1_freeLength_12 (by decide) (fun c2 => ?_) (fun c2 => ?_)
      · have h := g_t c2 h
        refine lv_lload_n hx hb dX1_freeLength_41 rfl (lv_at hl 1 rfl) ?_
        have h := Option.some.inj h
        subst h
        exact kret_l (v := x1) hx hb hr hlocks hS hP dX1_freeLength_42
      · have h := g_f c2 h
        refine lv_lload_n hx hb dX1_freeLength_15 rfl (lv_at hl 1 rfl) ?_
        refine lv_aload_n hx hb dX1_freeLength_16 rfl (lv_at hl 0 rfl) ?_
        refine va_get (D := (dC, dI)) (ci := 3) (v := .ref (a 10)) (C := RX1) (T := TX1) (N := 10) hx hb hts hiX1 hown hK hP 0 rfl rfl 5 (by decide) hw0 (fun _ h9 => h9) rfl dX1_freeLength_17 ?_
        refine lv_iload_n hx hb dX1_freeLength_20 rfl (lv_at hl 2 rfl) ?_
        obtain ⟨r3, g3, h⟩ := g_b h
        refine kcall_l (wSB cI cJ cZ a ce fr un sb se so sc wb we wo wc fb fe fo fc rm ac rf kn) (va_runV (As := [.int x3]) (rest := [.long x1]) ⟨hx, hb, hml, hown, hts⟩ (c_X0_end l dC dI cB cI cJ cZ (a 10) (a 11) (a 12) (a 13) _ fb fe fo fc x3 r3 g3) (kcwV hts kw_194 kv_X0_end rfl rfl ⟨(Nat.le_of_ble_eq_true rfl), (Nat.le_of_ble_eq_true rfl)⟩) (kpV (A := A) (hP.sub (kIT mk_19 0) (km_f (m := mk_19) rfl rfl)) hK (hD.sub (kIT mk_19 0) (km_nd mk_19) (km_T (m := mk_19) rfl rfl)) hG (va_recv hK hP (ci := 2) (q0 := 10) rfl rfl)) rfl rfl hl.1 rfl (lv_room (Nat.le_of_ble_eq_true rfl)) dX1_freeLength_21 ⟨(Nat.le_of_ble_eq_true rfl), (Nat.le_of_ble_eq_true rfl)⟩) hP hD hS hA (kIT mk_19 0) (kIT mk_20 0) (km_T (m := mk_19) rfl rfl) (km_T (m := mk_19) rfl rfl) [((a 0), .inr (3, [.ref (a 1), .long fr, .long un, .ref (a 2), .ref (a 6), .ref (a 10), .ref (a 14), .int ac, .int rf, .int kn])), ((a 1), .inl (cJ, 4, .inr (.inl ce))), ((a 2), .inr (2, [.ref (a 3), .ref (a 4), .ref (a 5), .int sc])), ((a 3), .inl (cJ, 11, .inr (.inl sb))), ((a 4), .inl (cJ, 11, .inr (.inl se))), ((a 5), .inl (cZ, 11, .inl so)), ((a 6), .inr (2, [.ref (a 7), .ref (a 8), .ref (a 9), .int wc])), ((a 7), .inl (cJ, 11, .inr (.inl wb))), ((a 8), .inl (cJ, 11, .inr (.inl we))), ((a 9), .inl (cZ, 11, .inl wo)), ((a 14), .inl (cI, 11, .inl rm))] (km_T (m := mk_20) rfl rfl) (km_T (m := mk_20) rfl rfl) (km_cov (m := mk_19) (n := mk_20) rfl rfl) (km_dis (m := mk_19) (n := mk_20) rfl) rfl (fun H locs hP hD hS => ?_)
        refine lv_aload_n hx hb dX1_freeLength_24 rfl (lv_at hl 0 rfl) ?_
        refine va_get (D := (dC, dI)) (ci := 3) (v := .ref (a 10)) (C := RX1) (T := TX1) (N := 10) hx hb hts hiX1 hown hK hP 0 rfl rfl 5 (by decide) hw0 (fun _ h9 => h9) rfl dX1_freeLength_25 ?_
        refine lv_iload_n hx hb dX1_freeLength_28 rfl (lv_at hl 2 rfl) ?_
        obtain ⟨r4, g4, h⟩ := g_b h
        refine kcall_l (wSB cI cJ cZ a ce fr un sb se so sc wb we wo wc fb fe fo fc rm ac rf kn) (va_runV (As := [.int x3]) (rest := [.long r3, .long x1]) ⟨hx, hb, hml, hown, hts⟩ (c_X0_begin l dC dI cB cI cJ cZ (a 10) (a 11) (a 12) (a 13) _ fb fe fo fc x3 r4 g4) (kcwV hts kw_251 kv_X0_begin rfl rfl ⟨(Nat.le_of_ble_eq_true rfl), (Nat.le_of_ble_eq_true rfl)⟩) (kpV (A := A) (hP.sub (kIT mk_19 0) (km_f (m := mk_19) rfl rfl)) hK (hD.sub (kIT mk_19 0) (km_nd mk_19) (km_T (m := mk_19) rfl rfl)) hG (va_recv hK hP (ci := 2) (q0 := 10) rfl rfl)) rfl rfl hl.1 rfl (lv_room (Nat.le_of_ble_eq_true rfl)) dX1_freeLength_29 ⟨(Nat.le_of_ble_eq_true rfl), (Nat.le_of_ble_eq_true rfl)⟩) hP hD hS hA (kIT mk_19 0) (kIT mk_20 0) (km_T (m := mk_19) rfl rfl) (km_T (m := mk_19) rfl rfl) [((a 0), .inr (3, [.ref (a 1), .long fr, .long un, .ref (a 2), .ref (a 6), .ref (a 10), .ref (a 14), .int ac, .int rf, .int kn])), ((a 1), .inl (cJ, 4, .inr (.inl ce))), ((a 2), .inr (2, [.ref (a 3), .ref (a 4), .ref (a 5), .int sc])), ((a 3), .inl (cJ, 11, .inr (.inl sb))), ((a 4), .inl (cJ, 11, .inr (.inl se))), ((a 5), .inl (cZ, 11, .inl so)), ((a 6), .inr (2, [.ref (a 7), .ref (a 8), .ref (a 9), .int wc])), ((a 7), .inl (cJ, 11, .inr (.inl wb))), ((a 8), .inl (cJ, 11, .inr (.inl we))), ((a 9), .inl (cZ, 11, .inl wo)), ((a 14), .inl (cI, 11, .inl rm))] (km_T (m := mk_20) rfl rfl) (km_T (m := mk_20) rfl rfl) (km_cov (m := mk_19) (n := mk_20) rfl rfl) (km_dis (m := mk_19) (n := mk_20) rfl) rfl (fun H locs hP hD hS => ?_)
        refine lv_lsub hx hb dX1_freeLength_32 ?_
        refine lv_ladd hx hb dX1_freeLength_33 ?_
        refine lv_lstore_n (lv' := [(1, .long (x1 + (r3 - r4))), (0, .ref (a 0)), (3, .int x3)]) hx hb dX1_freeLength_34 rfl hl (by decide) rfl (fun ls hl => ?_)
        refine lv_iinc (v := x3 + 1) (lv' := [(3, .int (x3 + 1)), (1, .long (x1 + (r3 - r4))), (0, .ref (a 0))]) hx hb dX1_freeLength_35 hl (k := 2) rfl rfl (by decide) rfl (fun ls hl => ?_)
        refine lv_goto (tgt := 4) hx hb dX1_freeLength_38 (by decide) ?_
        exact ih ce fr un sb se so sc wb we wo wc fb fe fo fc rm ac rf kn (x1 + (r3 - r4)) (x3 + 1) _ _ hP hD hS ls (lv_sub hl [2, 1, 0] rfl) h
  have hl := lv_entry ([.ref (a 0)]) (n := 4) (Nat.le_of_ble_eq_true rfl)
  rw [lg_entry_eq]
  generalize (lg_sl ([.ref (a 0)]) ++ List.replicate (4 - (lg_sl ([.ref (a 0)])).length) Slot.unset).toArray = ls at hl ⊢
  have hl : lv_has ls 4 [(0, .ref (a 0))] := hl
  have h := f_X1_freeLength_e.symm.trans hf
  refine lv_lconst (v := 0) hx hb dX1_freeLength_0 (by decide) ?_
  refine lv_lstore_n (lv' := [(1, .long 0), (0, .ref (a 0))]) hx hb dX1_freeLength_1 rfl hl (by decide) rfl (fun ls hl => ?_)
  refine lv_iconst (v := 0) hx hb dX1_freeLength_2 (by decide) ?_
  refine lv_istore_n (lv' := [(3, .int 0), (1, .long 0), (0, .ref (a 0))]) hx hb dX1_freeLength_3 rfl hl (by decide) rfl (fun ls hl => ?_)
  exact J4 24 ce fr un sb se so sc wb we wo wc fb fe fo fc rm ac rf kn 0 0 _ _ hP hD hS ls (lv_sub hl [2, 1, 0] rfl) h
abbrev wsX1_takenLength : List Cond := kWs yX1_takenLength cX1_takenLength 8 (some .long)
def f_X1_takenLength_10 : Nat → (Int64) → (Nat → Int64) → (Nat → Int64) → (Int32) → (Int64) → (Int64) → (Int32) → Option (Int64)
  | 0, _, _, _, _, _, _, _ => none
  | n + 1, un, sb, se, sc, x1, x3, x5 =>
    (f_X0_count sc).bind fun r1 =>
    if r1 < x5 then
      some x1
    else
      if un ≤ x3 then
        some x1
      else
        (f_X1_firstTaken un sb se sc x3).bind fun r4 =>
        (f_X1_firstWithoutSpan sb se sc r4 1).bind fun r5 =>
        f_X1_takenLength_10 n un sb se sc (x1 + (r5 - r4)) r5 (x5 + 1)
theorem f_X1_takenLength_10_0 {un : Int64} {sb : Nat → Int64} {se : Nat → Int64} {sc : Int32} {x1 : Int64} {x3 : Int64} {x5 : Int32} : f_X1_takenLength_10 0 un sb se sc x1 x3 x5 = none := rfl
theorem f_X1_takenLength_10_s {n : Nat} {un : Int64} {sb : Nat → Int64} {se : Nat → Int64} {sc : Int32} {x1 : Int64} {x3 : Int64} {x5 : Int32} : f_X1_takenLength_10 (n + 1) un sb se sc x1 x3 x5 =
  (f_X0_count sc).bind fun r1 =>
  if r1 < x5 then
    some x1
  else
    if un ≤ x3 then
      some x1
    else
      (f_X1_firstTaken un sb se sc x3).bind fun r4 =>
      (f_X1_firstWithoutSpan sb se sc r4 1).bind fun r5 =>
      f_X1_takenLength_10 n un sb se sc (x1 + (r5 - r4)) r5 (x5 + 1) := rfl
def f_X1_takenLength (fr : Int64) (un : Int64) (sb : Nat → Int64) (se : Nat → Int64) (sc : Int32) : Option (Int64) :=
  f_X1_takenLength_10 24 un sb se sc 0 fr 0
theorem f_X1_takenLength_e {fr : Int64} {un : Int64} {sb : Nat → Int64} {se : Nat → Int64} {sc : Int32} : f_X1_takenLength fr un sb se sc = 
  f_X1_takenLength_10 24 un sb se sc 0 fr 0 := rfl
set_option maxHeartbeats 4000000 in
set_option maxRecDepth 100000 in
theorem c_X1_takenLength (l : Launch) (dC : Nat → ClassId) (dI : Nat → Nat → Nat) (cB cI cJ cZ : ClassId) (a : Nat → Nat) (sz : Nat) (ce : Nat → Int64) (fr : Int64) (un : Int64) (sb : Nat → Int64) (se : Nat → Int64) (so : Nat → Int32) (sc : Int32) (wb : Nat → Int64) (we : Nat → Int64) (wo : Nat → Int32) (wc : Int32) (fb : Nat → Int64) (fe : Nat → Int64) (fo : Nat → Int32) (fc : Int32) (rm : Nat → Int32) (ac : Int32) (rf : Int32) (kn : Int32) (res : Int64) (hf : f_X1_takenLength fr un sb se sc = some res) : Met l yX1_takenLength wsX1_takenLength ({ frames := 3, cells := 0, slots := 0, locals := 70 } : Room) (kPre (dC, dI) (kTy cB cI cJ cZ) [.ref (a 0)] sz (wSB cI cJ cZ a ce fr un sb se so sc wb we wo wc fb fe fo fc rm ac rf kn)) (kL (dC, dI) (res) (wSB cI cJ cZ a ce fr un sb se so sc wb we wo wc fb fe fo fc rm ac rf kn) (va_A (wSB cI cJ cZ a ce fr un sb se so sc wb we wo wc fb fe fo fc rm ac rf kn) sz)) 0 0 (va_A (wSB cI cJ cZ a ce fr un sb se so sc wb we wo wc fb fe fo fc rm ac rf kn) sz) := by
  refine Met.ofW (cc := cX1_takenLength) (maxL := 8) (ret := (some .long)) (by decide) rfl ?_
  intro p e s m args below meth c s₁ B hml hv
  obtain ⟨rfl, hsz, hP, hK, hD0, hG⟩ := hv
  have hx := B.exec
  have hb := B.bytes
  have hr := B.returns
  have hts := atoms_spec (ws := wsX1_takenLength) B.pre
  have hown : s.vm.findClass RX1 = some m.cls := findClass_of_methodNamed B.named
  have hlocks := B.notSynchronized
  subst hsz
  have hD := hD0.self (sz := s.heap.size)
  generalize hAe : va_A (wSB cI cJ cZ a ce fr un sb se so sc wb we wo wc fb fe fo fc rm ac rf kn) s.heap.size = A at hD ⊢
  have hA : ∀ q : Nat, s.heap.size ≤ q → A q := fun q h => by rw [← hAe]; exact Or.inr h
  have hS : va_S A s.heap s.heap [] := va_S.rf
  clear hAe
  have hw0 := hts (.fieldLink RX1 13 "Spanbooker" "from" "J") (List.mem_cons_of_mem _ kw_108)
  have hw1 := hts (.fieldLink RX1 25 "Spanbooker" "spanRow" "LSpanbooker$Row;") (List.mem_cons_of_mem _ kw_110)
  have hw2 := hts (.fieldLink RX1 19 "Spanbooker" "until" "J") (List.mem_cons_of_mem _ kw_109)
  have hiX1 : ∀ w ∈ u_ws RX1 TX1 10, w ∈ wsX1_takenLength := fun w h => List.mem_cons_of_mem _ (ku_X1 w h)
  have J10 : ∀ (n : Nat), ∀ (ce : Nat → Int64) (fr : Int64) (un : Int64) (sb : Nat → Int64) (se : Nat → Int64) (so : Nat → Int32) (sc : Int32) (wb : Nat → Int64) (we : Nat → Int64) (wo : Nat → Int32) (wc : Int32) (fb : Nat → Int64) (fe : Nat → Int64) (fo : Nat → Int32) (fc : Int32) (rm : Nat → Int32) (ac : Int32) (rf : Int32) (kn : Int32) (x1 : Int64) (x3 : Int64) (x5 : Int32) (H : Heap) (locs : List Loc), va_P (dC, dI) vwCl (wSB cI cJ cZ a ce fr un sb se so sc wb we wo wc fb fe fo fc rm ac rf kn) H → va_D A (wSB cI cJ cZ a ce fr un sb se so sc wb we wo wc fb fe fo fc rm ac rf kn) → va_S A s.heap H locs → ∀ (ls : Array Slot), lv_has ls 8 [(0, .ref (a 0)), (1, .long x1), (3, .long x3), (5, .int x5)] → f_X1_takenLength_10 n un sb se sc x1 x3 x5 = some res → W p l e (headSpec wsX1_takenLength ({ frames := 3, cells := 0, slots := 0, locals := 70 } : Room)).room s m ([.ref (a 0)] : List Value).toArray below meth c H locs 0 0 (MQ below (kL (dC, dI) (res) (wSB cI cJ cZ a ce fr un sb se so sc wb we wo wc fb fe fo fc rm ac rf kn) A) ([.ref (a 0)] : List Value).toArray s 0 0 A) (F0 m 10 ls []) := by
    intro n
    induction n with
    | zero =>
      intro ce fr un sb se so sc wb we wo wc fb fe fo fc rm ac rf kn x1 x3 x5 H locs hP hD hS ls hl h
      have h := f_X1_takenLength_10_0.symm.trans h
      cases h
    | succ n ih =>
      intro ce fr un sb se so sc wb we wo wc fb fe fo fc rm ac rf kn x1 x3 x5 H locs hP hD hS ls hl h
      have h := f_X1_takenLength_10_s.symm.trans h
      refine lv_iload hx hb dX1_takenLength_10 (lv_at hl 3 rfl) ?_
      refine lv_aload_n hx hb dX1_takenLength_12 rfl (lv_at hl 0 rfl) ?_
      refine va_get (D := (dC, dI)) (ci := 3) (v := .ref (a 2)) (C := RX1) (T := TX1) (N := 10) hx hb hts hiX1 hown hK hP 0 rfl rfl 3 (by decide) hw1 (fun _ h9 => h9) rfl dX1_takenLength_13 ?_
      obtain ⟨r1, g1, h⟩ := g_b h
      refine kcall_i (wSB cI cJ cZ a ce fr un sb se so sc wb we wo wc fb fe fo fc rm ac rf kn) (va_runV (As := []) (rest := [.int x5]) ⟨hx, hb, hml, hown, hts⟩ (c_X0_count l dC dI cB cI cJ cZ (a 2) (a 3) (a 4) (a 5) _ sb se so sc  r1 g1) (kcwV hts kw_155 kv_X0_count rfl rfl ⟨(Nat.le_of_ble_eq_true rfl), (Nat.le_of_ble_eq_true rfl)⟩) (kpV (A := A) (hP.sub (kIT mk_15 0) (km_f (m := mk_15) rfl rfl)) hK (hD.sub (kIT mk_15 0) (km_nd mk_15) (km_T (m := mk_15) rfl rfl)) hG (va_recv hK hP (ci := 2) (q0 := 2) rfl rfl)) rfl rfl hl.1 rfl (lv_room (Nat.le_of_ble_eq_true rfl)) dX1_takenLength_16 ⟨(Nat.le_of_ble_eq_true rfl), (Nat.le_of_ble_eq_true rfl)⟩) hP hD hS hA (kIT mk_15 0) (kIT mk_16 0) (km_T (m := mk_15) rfl rfl) (km_T (m := mk_15) rfl rfl) [((a 0), .inr (3, [.ref (a 1), .long fr, .long un, .ref (a 2), .ref (a 6), .ref (a 10), .ref (a 14), .int ac, .int rf, .int kn])), ((a 1), .inl (cJ, 4, .inr (.inl ce))), ((a 6), .inr (2, [.ref (a 7), .ref (a 8), .ref (a 9), .int wc])), ((a 7), .inl (cJ, 11, .inr (.inl wb))), ((a 8), .inl (cJ, 11, .inr (.inl we))), ((a 9), .inl (cZ, 11, .inl wo)), ((a 10), .inr (2, [.ref (a 11), .ref (a 12), .ref (a 13), .int fc])), ((a 11), .inl (cJ, 11, .inr (.inl fb))), ((a 12), .inl (cJ, 11, .inr (.inl fe))), ((a 13), .inl (cZ, 11, .inl fo)), ((a 14), .inl (cI, 11, .inl rm))] (km_T (m := mk_16) rfl rfl) (km_T (m := mk_16) rfl rfl) (km_cov (m := mk_15) (n := mk_16) rfl rfl) (km_dis (m := mk_15) (n := mk_16) rfl) rfl (fun H locs hP hD hS br1 => ?_)
      refine lv_icmp_gt (tgt := 59) hx hb dX1_takenLength_19 (by decide) (fun c2 => ?_) (fun c2 => ?_)
      · have h := g_t c2 h
        refine lv_lload_n hx hb dX1_takenLength_59 rfl (lv_at hl 1 rfl) ?_
        have h := Option.some.inj h
        subst h
        exact kret_l (v := x1) hx hb hr hlocks hS hP dX1_takenLength_60
      · have h := g_f c2 h
        refine lv_lload_n hx hb dX1_takenLength_22 rfl (lv_at hl 2 rfl) ?_
        refine lv_aload_n hx hb dX1_takenLength_23 rfl (lv_at hl 0 rfl) ?_
        refine va_get (D := (dC, dI)) (ci := 3) (v := .long un) (C := RX1) (T := TX1) (N := 10) hx hb hts hiX1 hown hK hP 0 rfl rfl 2 (by decide) hw2 (fun _ h9 => h9) rfl dX1_takenLength_24 ?_
        refine kl_ge (pc := 27) (tgt := 59) hx hb dX1_takenLength_27 dX1_takenLength_28 (by decide) (fun c3 => ?_) (fun c3 => ?_)
        · have h := g_t c3 h
          refine lv_lload_n hx hb dX1_takenLength_59 rfl (lv_at hl 1 rfl) ?_
          have h := Option.some.inj h
          subst h
          exact kret_l (v := x1) hx hb hr hlocks hS hP dX1_takenLength_60
        · have h := g_f c3 h
          refine lv_aload_n hx hb dX1_takenLength_31 rfl (lv_at hl 0 rfl) ?_
          refine lv_lload_n hx hb dX1_takenLength_32 rfl (lv_at hl 2 rfl) ?_
          obtain ⟨r4, g4, h⟩ := g_b h
          refine kcall_l (wSB cI cJ cZ a ce fr un sb se so sc wb we wo wc fb fe fo fc rm ac rf kn) (va_runV (As := [.long x3]) (rest := []) ⟨hx, hb, hml, hown, hts⟩ (c_X1_firstTaken l dC dI cB cI cJ cZ a _ ce fr un sb se so sc wb we wo wc fb fe fo fc rm ac rf kn x3 r4 g4) (kcwV hts kw_202 kv_X1_firstTaken rfl rfl ⟨(Nat.le_of_ble_eq_true rfl), (Nat.le_of_ble_eq_true rfl)⟩) (kpV (A := A) (hP.sub (kIT mk_14 0) (km_f (m := mk_14) rfl rfl)) hK (hD.sub (kIT mk_14 0) (km_nd mk_14) (km_T (m := mk_14) rfl rfl)) hG (va_recv hK hP (ci := 3) (q0 := 0) rfl rfl)) rfl rfl hl.1 rfl (lv_room (Nat.le_of_ble_eq_true rfl)) dX1_takenLength_33 ⟨(Nat.le_of_ble_eq_true rfl), (Nat.le_of_ble_eq_true rfl)⟩) hP hD hS hA (kIT mk_14 0) (kIT mk_13 0) (km_T (m := mk_14) rfl rfl) (km_T (m := mk_14) rfl rfl) [] (km_T (m := mk_13) rfl rfl) (km_T (m := mk_13) rfl rfl) (km_cov (m := mk_14) (n := mk_13) rfl rfl) (km_dis (m := mk_14) (n := mk_13) rfl) rfl (fun H locs hP hD hS => ?_)
          refine lv_lstore (lv' := [(6, .long r4), (0, .ref (a 0)), (1, .long x1), (3, .long x3), (5, .int x5)]) hx hb dX1_takenLength_36 hl (by decide) rfl (fun ls hl => ?_)
          refine lv_aload_n hx hb dX1_takenLength_38 rfl (lv_at hl 1 rfl) ?_
          refine lv_lload hx hb dX1_takenLength_39 (lv_at hl 0 rfl) ?_
          refine lv_lconst (v := 1) hx hb dX1_takenLength_41 (by decide) ?_
          obtain ⟨r5, g5, h⟩ := g_b h
          refine kcall_l (wSB cI cJ cZ a ce fr un sb se so sc wb we wo wc fb fe fo fc rm ac rf kn) (va_runV (As := [.long r4, .long 1]) (rest := []) ⟨hx, hb, hml, hown, hts⟩ (c_X1_firstWithoutSpan l dC dI cB cI cJ cZ a _ ce fr un sb se so sc wb we wo wc fb fe fo fc rm ac rf kn r4 1 r5 g5) (kcwV hts kw_186 kv_X1_firstWithoutSpan rfl rfl ⟨(Nat.le_of_ble_eq_true rfl), (Nat.le_of_ble_eq_true rfl)⟩) (kpV (A := A) (hP.sub (kIT mk_14 0) (km_f (m := mk_14) rfl rfl)) hK (hD.sub (kIT mk_14 0) (km_nd mk_14) (km_T (m := mk_14) rfl rfl)) hG (va_recv hK hP (ci := 3) (q0 := 0) rfl rfl)) rfl rfl hl.1 rfl (lv_room (Nat.le_of_ble_eq_true rfl)) dX1_takenLength_42 ⟨(Nat.le_of_ble_eq_true rfl), (Nat.le_of_ble_eq_true rfl)⟩) hP hD hS hA (kIT mk_14 0) (kIT mk_13 0) (km_T (m := mk_14) rfl rfl) (km_T (m := mk_14) rfl rfl) [] (km_T (m := mk_13) rfl rfl) (km_T (m := mk_13) rfl rfl) (km_cov (m := mk_14) (n := mk_13) rfl rfl) (km_dis (m := mk_14) (n := mk_13) rfl) rfl (fun H locs hP hD hS => ?_)
          refine lv_lstore_n (lv' := [(3, .long r5), (6, .long r4), (0, .ref (a 0)), (1, .long x1), (5, .int x5)]) hx hb dX1_takenLength_45 rfl hl (by decide) rfl (fun ls hl => ?_)
          refine lv_lload_n hx hb dX1_takenLength_46 rfl (lv_at hl 3 rfl) ?_
          refine lv_lload_n hx hb dX1_takenLength_47 rfl (lv_at hl 0 rfl) ?_
          refine lv_lload hx hb dX1_takenLength_48 (lv_at hl 1 rfl) ?_
          refine lv_lsub hx hb dX1_takenLength_50 ?_
          refine lv_ladd hx hb dX1_takenLength_51 ?_
          refine lv_lstore_n (lv' := [(1, .long (x1 + (r5 - r4))), (3, .long r5), (6, .long r4), (0, .ref (a 0)), (5, .int x5)]) hx hb dX1_takenLength_52 rfl hl (by decide) rfl (fun ls hl => ?_)
          refine lv_iinc (v := x5 + 1) (lv' := [(5, .int (x5 + 1)), (1, .long (x1 + (r5 - r4))), (3, .long r5), (6, .long r4), (0, .ref (a 0))]) hx hb dX1_takenLength_53 hl (k := 4) rfl rfl (by decide) rfl (fun ls hl => ?_)
          refine lv_goto (tgt := 10) hx hb dX1_takenLength_56 (by decide) ?_
          exact ih ce fr un sb se so sc wb we wo wc fb fe fo fc rm ac rf kn (x1 + (r5 - r4)) r5 (x5 + 1) _ _ hP hD hS ls (lv_sub hl [4, 1, 2, 0] rfl) h
  have hl := lv_entry ([.ref (a 0)]) (n := 8) (Nat.le_of_ble_eq_true rfl)
  rw [lg_entry_eq]
  generalize (lg_sl ([.ref (a 0)]) ++ List.replicate (8 - (lg_sl ([.ref (a 0)])).length) Slot.unset).toArray = ls at hl ⊢
  have hl : lv_has ls 8 [(0, .ref (a 0))] := hl
  have h := f_X1_takenLength_e.symm.trans hf
  refine lv_lconst (v := 0) hx hb dX1_takenLength_0 (by decide) ?_
  refine lv_lstore_n (lv' := [(1, .long 0), (0, .ref (a 0))]) hx hb dX1_takenLength_1 rfl hl (by decide) rfl (fun ls hl => ?_)
  refine lv_aload_n hx hb dX1_takenLength_2 rfl (lv_at hl 1 rfl) ?_
  refine va_get (D := (dC, dI)) (ci := 3) (v := .long fr) (C := RX1) (T := TX1) (N := 10) hx hb hts hiX1 hown hK hP 0 rfl rfl 1 (by decide) hw0 (fun _ h9 => h9) rfl dX1_takenLength_3 ?_
  refine lv_lstore_n (lv' := [(3, .long fr), (1, .long 0), (0, .ref (a 0))]) hx hb dX1_takenLength_6 rfl hl (by decide) rfl (fun ls hl => ?_)
  refine lv_iconst (v := 0) hx hb dX1_takenLength_7 (by decide) ?_
  refine lv_istore (lv' := [(5, .int 0), (3, .long fr), (1, .long 0), (0, .ref (a 0))]) hx hb dX1_takenLength_8 hl (by decide) rfl (fun ls hl => ?_)
  exact J10 24 ce fr un sb se so sc wb we wo wc fb fe fo fc rm ac rf kn 0 fr 0 _ _ hP hD hS ls (lv_sub hl [3, 2, 1, 0] rfl) h
abbrev wsX1_setOfAllWishes : List Cond := kWs yX1_setOfAllWishes cX1_setOfAllWishes 1 (some .int)
def f_X1_setOfAllWishes (wc : Int32) : Option (Int32) :=
  (f_X0_count wc).bind fun r1 =>
  some ((1 <<< (r1 &&& 31)) - 1)
theorem f_X1_setOfAllWishes_e {wc : Int32} : f_X1_setOfAllWishes wc = 
  (f_X0_count wc).bind fun r1 =>
  some ((1 <<< (r1 &&& 31)) - 1) := rfl
set_option maxHeartbeats 4000000 in
set_option maxRecDepth 100000 in
theorem c_X1_setOfAllWishes (l : Launch) (dC : Nat → ClassId) (dI : Nat → Nat → Nat) (cB cI cJ cZ : ClassId) (a : Nat → Nat) (sz : Nat) (ce : Nat → Int64) (fr : Int64) (un : Int64) (sb : Nat → Int64) (se : Nat → Int64) (so : Nat → Int32) (sc : Int32) (wb : Nat → Int64) (we : Nat → Int64) (wo : Nat → Int32) (wc : Int32) (fb : Nat → Int64) (fe : Nat → Int64) (fo : Nat → Int32) (fc : Int32) (rm : Nat → Int32) (ac : Int32) (rf : Int32) (kn : Int32) (res : Int32) (hf : f_X1_setOfAllWishes wc = some res) : Met l yX1_setOfAllWishes wsX1_setOfAllWishes ({ frames := 1, cells := 0, slots := 0, locals := 20 } : Room) (kPre (dC, dI) (kTy cB cI cJ cZ) [.ref (a 0)] sz (wSB cI cJ cZ a ce fr un sb se so sc wb we wo wc fb fe fo fc rm ac rf kn)) (kI (dC, dI) .int (res) (wSB cI cJ cZ a ce fr un sb se so sc wb we wo wc fb fe fo fc rm ac rf kn) (va_A (wSB cI cJ cZ a ce fr un sb se so sc wb we wo wc fb fe fo fc rm ac rf kn) sz)) 0 0 (va_A (wSB cI cJ cZ a ce fr un sb se so sc wb we wo wc fb fe fo fc rm ac rf kn) sz) := by
  refine Met.ofW (cc := cX1_setOfAllWishes) (maxL := 1) (ret := (some .int)) (by decide) rfl ?_
  intro p e s m args below meth c s₁ B hml hv
  obtain ⟨rfl, hsz, hP, hK, hD0, hG⟩ := hv
  have hx := B.exec
  have hb := B.bytes
  have hr := B.returns
  have hts := atoms_spec (ws := wsX1_setOfAllWishes) B.pre
  have hown : s.vm.findClass RX1 = some m.cls := findClass_of_methodNamed B.named
  have hlocks := B.notSynchronized
  subst hsz
  have hD := hD0.self (sz := s.heap.size)
  generalize hAe : va_A (wSB cI cJ cZ a ce fr un sb se so sc wb we wo wc fb fe fo fc rm ac rf kn) s.heap.size = A at hD ⊢
  have hA : ∀ q : Nat, s.heap.size ≤ q → A q := fun q h => by rw [← hAe]; exact Or.inr h
  have hS : va_S A s.heap s.heap [] := va_S.rf
  clear hAe
  have hw0 := hts (.fieldLink RX1 29 "Spanbooker" "wishRow" "LSpanbooker$Row;") (List.mem_cons_of_mem _ kw_111)
  have hiX1 : ∀ w ∈ u_ws RX1 TX1 10, w ∈ wsX1_setOfAllWishes := fun w h => List.mem_cons_of_mem _ (ku_X1 w h)
  have hl := lv_entry ([.ref (a 0)]) (n := 1) (Nat.le_of_ble_eq_true rfl)
  rw [lg_entry_eq]
  generalize (lg_sl ([.ref (a 0)]) ++ List.replicate (1 - (lg_sl ([.ref (a 0)])).length) Slot.unset).toArray = ls at hl ⊢
  have hl : lv_has ls 1 [(0, .ref (a 0))] := hl
  have h := f_X1_setOfAllWishes_e.symm.trans hf
  refine lv_iconst (v := 1) hx hb dX1_setOfAllWishes_0 (by decide) ?_
  refine lv_aload_n hx hb dX1_setOfAllWishes_1 rfl (lv_at hl 0 rfl) ?_
  refine va_get (D := (dC, dI)) (ci := 3) (v := .ref (a 6)) (C := RX1) (T := TX1) (N := 10) hx hb hts hiX1 hown hK hP 0 rfl rfl 4 (by decide) hw0 (fun _ h9 => h9) rfl dX1_setOfAllWishes_2 ?_
  obtain ⟨r1, g1, h⟩ := g_b h
  refine kcall_i (wSB cI cJ cZ a ce fr un sb se so sc wb we wo wc fb fe fo fc rm ac rf kn) (va_runV (As := []) (rest := [.int 1]) ⟨hx, hb, hml, hown, hts⟩ (c_X0_count l dC dI cB cI cJ cZ (a 6) (a 7) (a 8) (a 9) _ wb we wo wc  r1 g1) (kcwV hts kw_155 kv_X0_count rfl rfl ⟨(Nat.le_of_ble_eq_true rfl), (Nat.le_of_ble_eq_true rfl)⟩) (kpV (A := A) (hP.sub (kIT mk_17 0) (km_f (m := mk_17) rfl rfl)) hK (hD.sub (kIT mk_17 0) (km_nd mk_17) (km_T (m := mk_17) rfl rfl)) hG (va_recv hK hP (ci := 2) (q0 := 6) rfl rfl)) rfl rfl hl.1 rfl (lv_room (Nat.le_of_ble_eq_true rfl)) dX1_setOfAllWishes_5 ⟨(Nat.le_of_ble_eq_true rfl), (Nat.le_of_ble_eq_true rfl)⟩) hP hD hS hA (kIT mk_17 0) (kIT mk_18 0) (km_T (m := mk_17) rfl rfl) (km_T (m := mk_17) rfl rfl) [((a 0), .inr (3, [.ref (a 1), .long fr, .long un, .ref (a 2), .ref (a 6), .ref (a 10), .ref (a 14), .int ac, .int rf, .int kn])), ((a 1), .inl (cJ, 4, .inr (.inl ce))), ((a 2), .inr (2, [.ref (a 3), .ref (a 4), .ref (a 5), .int sc])), ((a 3), .inl (cJ, 11, .inr (.inl sb))), ((a 4), .inl (cJ, 11, .inr (.inl se))), ((a 5), .inl (cZ, 11, .inl so)), ((a 10), .inr (2, [.ref (a 11), .ref (a 12), .ref (a 13), .int fc])), ((a 11), .inl (cJ, 11, .inr (.inl fb))), ((a 12), .inl (cJ, 11, .inr (.inl fe))), ((a 13), .inl (cZ, 11, .inl fo)), ((a 14), .inl (cI, 11, .inl rm))] (km_T (m := mk_18) rfl rfl) (km_T (m := mk_18) rfl rfl) (km_cov (m := mk_17) (n := mk_18) rfl rfl) (km_dis (m := mk_17) (n := mk_18) rfl) rfl (fun H locs hP hD hS br1 => ?_)
  refine lv_ishl hx hb dX1_setOfAllWishes_8 ?_
  refine lv_iconst (v := 1) hx hb dX1_setOfAllWishes_9 (by decide) ?_
  refine lv_isub hx hb dX1_setOfAllWishes_10 ?_
  have h := Option.some.inj h
  subst h
  exact kret_i (v := (1 <<< (r1 &&& 31)) - 1) hx hb hr rfl hlocks hS hP dX1_setOfAllWishes_11
abbrev wsX1_meetsOneOf : List Cond := kWs yX1_meetsOneOf cX1_meetsOneOf 4 (some .boolean)
def f_X1_meetsOneOf_2 : Nat → (Nat → Int64) → (Nat → Int64) → (Int32) → (Int32) → (Int32) → (Int32) → Option (Int32)
  | 0, _, _, _, _, _, _ => none
  | n + 1, wb, we, wc, x1, x2, x3 =>
    (f_X0_count wc).bind fun r1 =>
    if r1 ≤ x3 then
      some 0
    else
      if ((x2 >>> (x3 &&& 31)) &&& 1) = 1 then
        (f_X0_doMeet wb we wc x1 x3).bind fun r4 =>
        if r4 = 0 then
          f_X1_meetsOneOf_2 n wb we wc x1 x2 (x3 + 1)
        else
          some 1
      else
        f_X1_meetsOneOf_2 n wb we wc x1 x2 (x3 + 1)
theorem f_X1_meetsOneOf_2_0 {wb : Nat → Int64} {we : Nat → Int64} {wc : Int32} {x1 : Int32} {x2 : Int32} {x3 : Int32} : f_X1_meetsOneOf_2 0 wb we wc x1 x2 x3 = none := rfl
theorem f_X1_meetsOneOf_2_s {n : Nat} {wb : Nat → Int64} {we : Nat → Int64} {wc : Int32} {x1 : Int32} {x2 : Int32} {x3 : Int32} : f_X1_meetsOneOf_2 (n + 1) wb we wc x1 x2 x3 =
  (f_X0_count wc).bind fun r1 =>
  if r1 ≤ x3 then
    some 0
  else
    if ((x2 >>> (x3 &&& 31)) &&& 1) = 1 then
      (f_X0_doMeet wb we wc x1 x3).bind fun r4 =>
      if r4 = 0 then
        f_X1_meetsOneOf_2 n wb we wc x1 x2 (x3 + 1)
      else
        some 1
    else
      f_X1_meetsOneOf_2 n wb we wc x1 x2 (x3 + 1) := rfl
def f_X1_meetsOneOf (wb : Nat → Int64) (we : Nat → Int64) (wc : Int32) (p0 : Int32) (p1 : Int32) : Option (Int32) :=
  f_X1_meetsOneOf_2 24 wb we wc p0 p1 0
theorem f_X1_meetsOneOf_e {wb : Nat → Int64} {we : Nat → Int64} {wc : Int32} {p0 : Int32} {p1 : Int32} : f_X1_meetsOneOf wb we wc p0 p1 = 
  f_X1_meetsOneOf_2 24 wb we wc p0 p1 0 := rfl
set_option maxHeartbeats 4000000 in
set_option maxRecDepth 100000 in
theorem c_X1_meetsOneOf (l : Launch) (dC : Nat → ClassId) (dI : Nat → Nat → Nat) (cB cI cJ cZ : ClassId) (a : Nat → Nat) (sz : Nat) (ce : Nat → Int64) (fr : Int64) (un : Int64) (sb : Nat → Int64) (se : Nat → Int64) (so : Nat → Int32) (sc : Int32) (wb : Nat → Int64) (we : Nat → Int64) (wo : Nat → Int32) (wc : Int32) (fb : Nat → Int64) (fe : Nat → Int64) (fo : Nat → Int32) (fc : Int32) (rm : Nat → Int32) (ac : Int32) (rf : Int32) (kn : Int32) (p0 : Int32) (p1 : Int32) (res : Int32) (hf : f_X1_meetsOneOf wb we wc p0 p1 = some res) : Met l yX1_meetsOneOf wsX1_meetsOneOf ({ frames := 1, cells := 0, slots := 0, locals := 22 } : Room) (kPre (dC, dI) (kTy cB cI cJ cZ) [.ref (a 0), .int p0, .int p1] sz (wSB cI cJ cZ a ce fr un sb se so sc wb we wo wc fb fe fo fc rm ac rf kn)) (kI (dC, dI) .boolean (res) (wSB cI cJ cZ a ce fr un sb se so sc wb we wo wc fb fe fo fc rm ac rf kn) (va_A (wSB cI cJ cZ a ce fr un sb se so sc wb we wo wc fb fe fo fc rm ac rf kn) sz)) 0 0 (va_A (wSB cI cJ cZ a ce fr un sb se so sc wb we wo wc fb fe fo fc rm ac rf kn) sz) := by
  refine Met.ofW (cc := cX1_meetsOneOf) (maxL := 4) (ret := (some .boolean)) (by decide) rfl ?_
  intro p e s m args below meth c s₁ B hml hv
  obtain ⟨rfl, hsz, hP, hK, hD0, hG⟩ := hv
  have hx := B.exec
  have hb := B.bytes
  have hr := B.returns
  have hts := atoms_spec (ws := wsX1_meetsOneOf) B.pre
  have hown : s.vm.findClass RX1 = some m.cls := findClass_of_methodNamed B.named
  have hlocks := B.notSynchronized
  subst hsz
  have hD := hD0.self (sz := s.heap.size)
  generalize hAe : va_A (wSB cI cJ cZ a ce fr un sb se so sc wb we wo wc fb fe fo fc rm ac rf kn) s.heap.size = A at hD ⊢
  have hA : ∀ q : Nat, s.heap.size ≤ q → A q := fun q h => by rw [← hAe]; exact Or.inr h
  have hS : va_S A s.heap s.heap [] := va_S.rf
  clear hAe
  have hw0 := hts (.fieldLink RX1 29 "Spanbooker" "wishRow" "LSpanbooker$Row;") (List.mem_cons_of_mem _ kw_111)
  have hiX1 : ∀ w ∈ u_ws RX1 TX1 10, w ∈ wsX1_meetsOneOf := fun w h => List.mem_cons_of_mem _ (ku_X1 w h)
  have J2 : ∀ (n : Nat), ∀ (ce : Nat → Int64) (fr : Int64) (un : Int64) (sb : Nat → Int64) (se : Nat → Int64) (so : Nat → Int32) (sc : Int32) (wb : Nat → Int64) (we : Nat → Int64) (wo : Nat → Int32) (wc : Int32) (fb : Nat → Int64) (fe : Nat → Int64) (fo : Nat → Int32) (fc : Int32) (rm : Nat → Int32) (ac : Int32) (rf : Int32) (kn : Int32) (x1 : Int32) (x2 : Int32) (x3 : Int32) (H : Heap) (locs : List Loc), va_P (dC, dI) vwCl (wSB cI cJ cZ a ce fr un sb se so sc wb we wo wc fb fe fo fc rm ac rf kn) H → va_D A (wSB cI cJ cZ a ce fr un sb se so sc wb we wo wc fb fe fo fc rm ac rf kn) → va_S A s.heap H locs → ∀ (ls : Array Slot), lv_has ls 4 [(0, .ref (a 0)), (1, .int x1), (2, .int x2), (3, .int x3)] → f_X1_meetsOneOf_2 n wb we wc x1 x2 x3 = some res → W p l e (headSpec wsX1_meetsOneOf ({ frames := 1, cells := 0, slots := 0, locals := 22 } : Room)).room s m ([.ref (a 0), .int p0, .int p1] : List Value).toArray below meth c H locs 0 0 (MQ below (kI (dC, dI) .boolean (res) (wSB cI cJ cZ a ce fr un sb se so sc wb we wo wc fb fe fo fc rm ac rf kn) A) ([.ref (a 0), .int p0, .int p1] : List Value).toArray s 0 0 A) (F0 m 2 ls []) := by
    intro n
    induction n with
    | zero =>
      intro ce fr un sb se so sc wb we wo wc fb fe fo fc rm ac rf kn x1 x2 x3 H locs hP hD hS ls hl h
      have h := f_X1_meetsOneOf_2_0.symm.trans h
      cases h
    | succ n ih =>
      intro ce fr un sb se so sc wb we wo wc fb fe fo fc rm ac rf kn x1 x2 x3 H locs hP hD hS ls hl h
      have h := f_X1_meetsOneOf_2_s.symm.trans h
      refine lv_iload_n hx hb dX1_meetsOneOf_2 rfl (lv_at hl 3 rfl) ?_
      refine lv_aload_n hx hb dX1_meetsOneOf_3 rfl (lv_at hl 0 rfl) ?_
      refine va_get (D := (dC, dI)) (ci := 3) (v := .ref (a 6)) (C := RX1) (T := TX1) (N := 10) hx hb hts hiX1 hown hK hP 0 rfl rfl 4 (by decide) hw0 (fun _ h9 => h9) rfl dX1_meetsOneOf_4 ?_
      obtain ⟨r1, g1, h⟩ := g_b h
      refine kcall_i (wSB cI cJ cZ a ce fr un sb se so sc wb we wo wc fb fe fo fc rm ac rf kn) (va_runV (As := []) (rest := [.int x3]) ⟨hx, hb, hml, hown, hts⟩ (c_X0_count l dC dI cB cI cJ cZ (a 6) (a 7) (a 8) (a 9) _ wb we wo wc  r1 g1) (kcwV hts kw_155 kv_X0_count rfl rfl ⟨(Nat.le_of_ble_eq_true rfl), (Nat.le_of_ble_eq_true rfl)⟩) (kpV (A := A) (hP.sub (kIT mk_17 0) (km_f (m := mk_17) rfl rfl)) hK (hD.sub (kIT mk_17 0) (km_nd mk_17) (km_T (m := mk_17) rfl rfl)) hG (va_recv hK hP (ci := 2) (q0 := 6) rfl rfl)) rfl rfl hl.1 rfl (lv_room (Nat.le_of_ble_eq_true rfl)) dX1_meetsOneOf_7 ⟨(Nat.le_of_ble_eq_true rfl), (Nat.le_of_ble_eq_true rfl)⟩) hP hD hS hA (kIT mk_17 0) (kIT mk_18 0) (km_T (m := mk_17) rfl rfl) (km_T (m := mk_17) rfl rfl) [((a 0), .inr (3, [.ref (a 1), .long fr, .long un, .ref (a 2), .ref (a 6), .ref (a 10), .ref (a 14), .int ac, .int rf, .int kn])), ((a 1), .inl (cJ, 4, .inr (.inl ce))), ((a 2), .inr (2, [.ref (a 3), .ref (a 4), .ref (a 5), .int sc])), ((a 3), .inl (cJ, 11, .inr (.inl sb))), ((a 4), .inl (cJ, 11, .inr (.inl se))), ((a 5), .inl (cZ, 11, .inl so)), ((a 10), .inr (2, [.ref (a 11), .ref (a 12), .ref (a 13), .int fc])), ((a 11), .inl (cJ, 11, .inr (.inl fb))), ((a 12), .inl (cJ, 11, .inr (.inl fe))), ((a 13), .inl (cZ, 11, .inl fo)), ((a 14), .inl (cI, 11, .inl rm))] (km_T (m := mk_18) rfl rfl) (km_T (m := mk_18) rfl rfl) (km_cov (m := mk_17) (n := mk_18) rfl rfl) (km_dis (m := mk_17) (n := mk_18) rfl) rfl (fun H locs hP hD hS br1 => ?_)
      refine lv_icmp_ge (tgt := 42) hx hb dX1_meetsOneOf_10 (by decide) (fun c2 => ?_) (fun c2 => ?_)
      · have h := g_t c2 h
        refine lv_iconst (v := 0) hx hb dX1_meetsOneOf_42 (by decide) ?_
        have h := Option.some.inj h
        subst h
        exact kret_i (v := 0) hx hb hr rfl hlocks hS hP dX1_meetsOneOf_43
      · have h := g_f c2 h
        refine lv_iload_n hx hb dX1_meetsOneOf_13 rfl (lv_at hl 2 rfl) ?_
        refine lv_iload_n hx hb dX1_meetsOneOf_14 rfl (lv_at hl 3 rfl) ?_
        refine lv_ishr hx hb dX1_meetsOneOf_15 ?_
        refine lv_iconst (v := 1) hx hb dX1_meetsOneOf_16 (by decide) ?_
        refine lv_iand hx hb dX1_meetsOneOf_17 ?_
        refine lv_iconst (v := 1) hx hb dX1_meetsOneOf_18 (by decide) ?_
        refine lv_icmp_ne (tgt := 36) hx hb dX1_meetsOneOf_19 (by decide) (fun c3 => ?_) (fun c3 => ?_)
        · have h := g_f c3 h
          refine lv_iinc (v := x3 + 1) (lv' := [(3, .int (x3 + 1)), (0, .ref (a 0)), (1, .int x1), (2, .int x2)]) hx hb dX1_meetsOneOf_36 hl (k := 3) rfl rfl (by decide) rfl (fun ls hl => ?_)
          refine lv_goto (tgt := 2) hx hb dX1_meetsOneOf_39 (by decide) ?_
          exact ih ce fr un sb se so sc wb we wo wc fb fe fo fc rm ac rf kn x1 x2 (x3 + 1) _ _ hP hD hS ls (lv_sub hl [1, 2, 3, 0] rfl) h
        · have h := g_t c3 h
          refine lv_aload_n hx hb dX1_meetsOneOf_22 rfl (lv_at hl 0 rfl) ?_
          refine va_get (D := (dC, dI)) (ci := 3) (v := .ref (a 6)) (C := RX1) (T := TX1) (N := 10) hx hb hts hiX1 hown hK hP 0 rfl rfl 4 (by decide) hw0 (fun _ h9 => h9) rfl dX1_meetsOneOf_23 ?_
          refine lv_iload_n hx hb dX1_meetsOneOf_26 rfl (lv_at hl 1 rfl) ?_
          refine lv_iload_n hx hb dX1_meetsOneOf_27 rfl (lv_at hl 3 rfl) ?_
          obtain ⟨r4, g4, h⟩ := g_b h
          refine kcall_i (wSB cI cJ cZ a ce fr un sb se so sc wb we wo wc fb fe fo fc rm ac rf kn) (va_runV (As := [.int x1, .int x3]) (rest := []) ⟨hx, hb, hml, hown, hts⟩ (c_X0_doMeet l dC dI cB cI cJ cZ (a 6) (a 7) (a 8) (a 9) _ wb we wo wc x1 x3 r4 g4) (kcwV hts kw_163 kv_X0_doMeet rfl rfl ⟨(Nat.le_of_ble_eq_true rfl), (Nat.le_of_ble_eq_true rfl)⟩) (kpV (A := A) (hP.sub (kIT mk_17 0) (km_f (m := mk_17) rfl rfl)) hK (hD.sub (kIT mk_17 0) (km_nd mk_17) (km_T (m := mk_17) rfl rfl)) hG (va_recv hK hP (ci := 2) (q0 := 6) rfl rfl)) rfl rfl hl.1 rfl (lv_room (Nat.le_of_ble_eq_true rfl)) dX1_meetsOneOf_28 ⟨(Nat.le_of_ble_eq_true rfl), (Nat.le_of_ble_eq_true rfl)⟩) hP hD hS hA (kIT mk_17 0) (kIT mk_18 0) (km_T (m := mk_17) rfl rfl) (km_T (m := mk_17) rfl rfl) [((a 0), .inr (3, [.ref (a 1), .long fr, .long un, .ref (a 2), .ref (a 6), .ref (a 10), .ref (a 14), .int ac, .int rf, .int kn])), ((a 1), .inl (cJ, 4, .inr (.inl ce))), ((a 2), .inr (2, [.ref (a 3), .ref (a 4), .ref (a 5), .int sc])), ((a 3), .inl (cJ, 11, .inr (.inl sb))), ((a 4), .inl (cJ, 11, .inr (.inl se))), ((a 5), .inl (cZ, 11, .inl so)), ((a 10), .inr (2, [.ref (a 11), .ref (a 12), .ref (a 13), .int fc])), ((a 11), .inl (cJ, 11, .inr (.inl fb))), ((a 12), .inl (cJ, 11, .inr (.inl fe))), ((a 13), .inl (cZ, 11, .inl fo)), ((a 14), .inl (cI, 11, .inl rm))] (km_T (m := mk_18) rfl rfl) (km_T (m := mk_18) rfl rfl) (km_cov (m := mk_17) (n := mk_18) rfl rfl) (km_dis (m := mk_17) (n := mk_18) rfl) rfl (fun H locs hP hD hS br4 => ?_)
          refine lv_if_eq (tgt := 36) hx hb dX1_meetsOneOf_31 (by decide) (fun c5 => ?_) (fun c5 => ?_)
          · have h := g_t c5 h
            refine lv_iinc (v := x3 + 1) (lv' := [(3, .int (x3 + 1)), (0, .ref (a 0)), (1, .int x1), (2, .int x2)]) hx hb dX1_meetsOneOf_36 hl (k := 3) rfl rfl (by decide) rfl (fun ls hl => ?_)
            refine lv_goto (tgt := 2) hx hb dX1_meetsOneOf_39 (by decide) ?_
            exact ih ce fr un sb se so sc wb we wo wc fb fe fo fc rm ac rf kn x1 x2 (x3 + 1) _ _ hP hD hS ls (lv_sub hl [1, 2, 3, 0] rfl) h
          · have h := g_f c5 h
            refine lv_iconst (v := 1) hx hb dX1_meetsOneOf_34 (by decide) ?_
            have h := Option.some.inj h
            subst h
            exact kret_i (v := 1) hx hb hr rfl hlocks hS hP dX1_meetsOneOf_35
  have hl := lv_entry ([.ref (a 0), .int p0, .int p1]) (n := 4) (Nat.le_of_ble_eq_true rfl)
  rw [lg_entry_eq]
  generalize (lg_sl ([.ref (a 0), .int p0, .int p1]) ++ List.replicate (4 - (lg_sl ([.ref (a 0), .int p0, .int p1])).length) Slot.unset).toArray = ls at hl ⊢
  have hl : lv_has ls 4 [(0, .ref (a 0)), (1, .int p0), (2, .int p1)] := hl
  have h := f_X1_meetsOneOf_e.symm.trans hf
  refine lv_iconst (v := 0) hx hb dX1_meetsOneOf_0 (by decide) ?_
  refine lv_istore_n (lv' := [(3, .int 0), (0, .ref (a 0)), (1, .int p0), (2, .int p1)]) hx hb dX1_meetsOneOf_1 rfl hl (by decide) rfl (fun ls hl => ?_)
  exact J2 24 ce fr un sb se so sc wb we wo wc fb fe fo fc rm ac rf kn p0 p1 0 _ _ hP hD hS ls (lv_sub hl [1, 2, 3, 0] rfl) h
abbrev wsX1_isWithoutMeeting : List Cond := kWs yX1_isWithoutMeeting cX1_isWithoutMeeting 4 (some .boolean)
def f_X1_isWithoutMeeting_2 : Nat → (Nat → Int64) → (Nat → Int64) → (Int32) → (Int32) → (Int32) → Option (Int32)
  | 0, _, _, _, _, _ => none
  | n + 1, wb, we, wc, x1, x2 =>
    (f_X0_count wc).bind fun r1 =>
    if r1 ≤ x2 then
      some 1
    else
      if (x1 &&& (1 <<< (x2 &&& 31))) = 0 then
        f_X1_isWithoutMeeting_2 n wb we wc x1 (x2 + 1)
      else
        (f_X1_meetsOneOf wb we wc x2 (x1 - (1 <<< (x2 &&& 31)))).bind fun r4 =>
        if r4 = 0 then
          f_X1_isWithoutMeeting_2 n wb we wc x1 (x2 + 1)
        else
          some 0
theorem f_X1_isWithoutMeeting_2_0 {wb : Nat → Int64} {we : Nat → Int64} {wc : Int32} {x1 : Int32} {x2 : Int32} : f_X1_isWithoutMeeting_2 0 wb we wc x1 x2 = none := rfl
theorem f_X1_isWithoutMeeting_2_s {n : Nat} {wb : Nat → Int64} {we : Nat → Int64} {wc : Int32} {x1 : Int32} {x2 : Int32} : f_X1_isWithoutMeeting_2 (n + 1) wb we wc x1 x2 =
  (f_X0_count wc).bind fun r1 =>
  if r1 ≤ x2 then
    some 1
  else
    if (x1 &&& (1 <<< (x2 &&& 31))) = 0 then
      f_X1_isWithoutMeeting_2 n wb we wc x1 (x2 + 1)
    else
      (f_X1_meetsOneOf wb we wc x2 (x1 - (1 <<< (x2 &&& 31)))).bind fun r4 =>
      if r4 = 0 then
        f_X1_isWithoutMeeting_2 n wb we wc x1 (x2 + 1)
      else
        some 0 := rfl
def f_X1_isWithoutMeeting (wb : Nat → Int64) (we : Nat → Int64) (wc : Int32) (p0 : Int32) : Option (Int32) :=
  f_X1_isWithoutMeeting_2 24 wb we wc p0 0
theorem f_X1_isWithoutMeeting_e {wb : Nat → Int64} {we : Nat → Int64} {wc : Int32} {p0 : Int32} : f_X1_isWithoutMeeting wb we wc p0 = 
  f_X1_isWithoutMeeting_2 24 wb we wc p0 0 := rfl
set_option maxHeartbeats 4000000 in
set_option maxRecDepth 100000 in
theorem c_X1_isWithoutMeeting (l : Launch) (dC : Nat → ClassId) (dI : Nat → Nat → Nat) (cB cI cJ cZ : ClassId) (a : Nat → Nat) (sz : Nat) (ce : Nat → Int64) (fr : Int64) (un : Int64) (sb : Nat → Int64) (se : Nat → Int64) (so : Nat → Int32) (sc : Int32) (wb : Nat → Int64) (we : Nat → Int64) (wo : Nat → Int32) (wc : Int32) (fb : Nat → Int64) (fe : Nat → Int64) (fo : Nat → Int32) (fc : Int32) (rm : Nat → Int32) (ac : Int32) (rf : Int32) (kn : Int32) (p0 : Int32) (res : Int32) (hf : f_X1_isWithoutMeeting wb we wc p0 = some res) : Met l yX1_isWithoutMeeting wsX1_isWithoutMeeting ({ frames := 2, cells := 0, slots := 0, locals := 45 } : Room) (kPre (dC, dI) (kTy cB cI cJ cZ) [.ref (a 0), .int p0] sz (wSB cI cJ cZ a ce fr un sb se so sc wb we wo wc fb fe fo fc rm ac rf kn)) (kI (dC, dI) .boolean (res) (wSB cI cJ cZ a ce fr un sb se so sc wb we wo wc fb fe fo fc rm ac rf kn) (va_A (wSB cI cJ cZ a ce fr un sb se so sc wb we wo wc fb fe fo fc rm ac rf kn) sz)) 0 0 (va_A (wSB cI cJ cZ a ce fr un sb se so sc wb we wo wc fb fe fo fc rm ac rf kn) sz) := by
  refine Met.ofW (cc := cX1_isWithoutMeeting) (maxL := 4) (ret := (some .boolean)) (by decide) rfl ?_
  intro p e s m args below meth c s₁ B hml hv
  obtain ⟨rfl, hsz, hP, hK, hD0, hG⟩ := hv
  have hx := B.exec
  have hb := B.bytes
  have hr := B.returns
  have hts := atoms_spec (ws := wsX1_isWithoutMeeting) B.pre
  have hown : s.vm.findClass RX1 = some m.cls := findClass_of_methodNamed B.named
  have hlocks := B.notSynchronized
  subst hsz
  have hD := hD0.self (sz := s.heap.size)
  generalize hAe : va_A (wSB cI cJ cZ a ce fr un sb se so sc wb we wo wc fb fe fo fc rm ac rf kn) s.heap.size = A at hD ⊢
  have hA : ∀ q : Nat, s.heap.size ≤ q → A q := fun q h => by rw [← hAe]; exact Or.inr h
  have hS : va_S A s.heap s.heap [] := va_S.rf
  clear hAe
  have hw0 := hts (.fieldLink RX1 29 "Spanbooker" "wishRow" "LSpanbooker$Row;") (List.mem_cons_of_mem _ kw_111)
  have hiX1 : ∀ w ∈ u_ws RX1 TX1 10, w ∈ wsX1_isWithoutMeeting := fun w h => List.mem_cons_of_mem _ (ku_X1 w h)
  have J2 : ∀ (n : Nat), ∀ (ce : Nat → Int64) (fr : Int64) (un : Int64) (sb : Nat → Int64) (se : Nat → Int64) (so : Nat → Int32) (sc : Int32) (wb : Nat → Int64) (we : Nat → Int64) (wo : Nat → Int32) (wc : Int32) (fb : Nat → Int64) (fe : Nat → Int64) (fo : Nat → Int32) (fc : Int32) (rm : Nat → Int32) (ac : Int32) (rf : Int32) (kn : Int32) (x1 : Int32) (x2 : Int32) (H : Heap) (locs : List Loc), va_P (dC, dI) vwCl (wSB cI cJ cZ a ce fr un sb se so sc wb we wo wc fb fe fo fc rm ac rf kn) H → va_D A (wSB cI cJ cZ a ce fr un sb se so sc wb we wo wc fb fe fo fc rm ac rf kn) → va_S A s.heap H locs → ∀ (ls : Array Slot), lv_has ls 4 [(0, .ref (a 0)), (1, .int x1), (2, .int x2)] → f_X1_isWithoutMeeting_2 n wb we wc x1 x2 = some res → W p l e (headSpec wsX1_isWithoutMeeting ({ frames := 2, cells := 0, slots := 0, locals := 45 } : Room)).room s m ([.ref (a 0), .int p0] : List Value).toArray below meth c H locs 0 0 (MQ below (kI (dC, dI) .boolean (res) (wSB cI cJ cZ a ce fr un sb se so sc wb we wo wc fb fe fo fc rm ac rf kn) A) ([.ref (a 0), .int p0] : List Value).toArray s 0 0 A) (F0 m 2 ls []) := by
    intro n
    induction n with
    | zero =>
      intro ce fr un sb se so sc wb we wo wc fb fe fo fc rm ac rf kn x1 x2 H locs hP hD hS ls hl h
      have h := f_X1_isWithoutMeeting_2_0.symm.trans h
      cases h
    | succ n ih =>
      intro ce fr un sb se so sc wb we wo wc fb fe fo fc rm ac rf kn x1 x2 H locs hP hD hS ls hl h
      have h := f_X1_isWithoutMeeting_2_s.symm.trans h
      refine lv_iload_n hx hb dX1_isWithoutMeeting_2 rfl (lv_at hl 2 rfl) ?_
      refine lv_aload_n hx hb dX1_isWithoutMeeting_3 rfl (lv_at hl 0 rfl) ?_
      refine va_get (D := (dC, dI)) (ci := 3) (v := .ref (a 6)) (C := RX1) (T := TX1) (N := 10) hx hb hts hiX1 hown hK hP 0 rfl rfl 4 (by decide) hw0 (fun _ h9 => h9) rfl dX1_isWithoutMeeting_4 ?_
      obtain ⟨r1, g1, h⟩ := g_b h
      refine kcall_i (wSB cI cJ cZ a ce fr un sb se so sc wb we wo wc fb fe fo fc rm ac rf kn) (va_runV (As := []) (rest := [.int x2]) ⟨hx, hb, hml, hown, hts⟩ (c_X0_count l dC dI cB cI cJ cZ (a 6) (a 7) (a 8) (a 9) _ wb we wo wc  r1 g1) (kcwV hts kw_155 kv_X0_count rfl rfl ⟨(Nat.le_of_ble_eq_true rfl), (Nat.le_of_ble_eq_true rfl)⟩) (kpV (A := A) (hP.sub (kIT mk_17 0) (km_f (m := mk_17) rfl rfl)) hK (hD.sub (kIT mk_17 0) (km_nd mk_17) (km_T (m := mk_17) rfl rfl)) hG (va_recv hK hP (ci := 2) (q0 := 6) rfl rfl)) rfl rfl hl.1 rfl (lv_room (Nat.le_of_ble_eq_true rfl)) dX1_isWithoutMeeting_7 ⟨(Nat.le_of_ble_eq_true rfl), (Nat.le_of_ble_eq_true rfl)⟩) hP hD hS hA (kIT mk_17 0) (kIT mk_18 0) (km_T (m := mk_17) rfl rfl) (km_T (m := mk_17) rfl rfl) [((a 0), .inr (3, [.ref (a 1), .long fr, .long un, .ref (a 2), .ref (a 6), .ref (a 10), .ref (a 14), .int ac, .int rf, .int kn])), ((a 1), .inl (cJ, 4, .inr (.inl ce))), ((a 2), .inr (2, [.ref (a 3), .ref (a 4), .ref (a 5), .int sc])), ((a 3), .inl (cJ, 11, .inr (.inl sb))), ((a 4), .inl (cJ, 11, .inr (.inl se))), ((a 5), .inl (cZ, 11, .inl so)), ((a 10), .inr (2, [.ref (a 11), .ref (a 12), .ref (a 13), .int fc])), ((a 11), .inl (cJ, 11, .inr (.inl fb))), ((a 12), .inl (cJ, 11, .inr (.inl fe))), ((a 13), .inl (cZ, 11, .inl fo)), ((a 14), .inl (cI, 11, .inl rm))] (km_T (m := mk_18) rfl rfl) (km_T (m := mk_18) rfl rfl) (km_cov (m := mk_17) (n := mk_18) rfl rfl) (km_dis (m := mk_17) (n := mk_18) rfl) rfl (fun H locs hP hD hS br1 => ?_)
      refine lv_icmp_ge (tgt := 42) hx hb dX1_isWithoutMeeting_10 (by decide) (fun c2 => ?_) (fun c2 => ?_)
      · have h := g_t c2 h
        refine lv_iconst (v := 1) hx hb dX1_isWithoutMeeting_42 (by decide) ?_
        have h := Option.some.inj h
        subst h
        exact kret_i (v := 1) hx hb hr rfl hlocks hS hP dX1_isWithoutMeeting_43
      · have h := g_f c2 h
        refine lv_iconst (v := 1) hx hb dX1_isWithoutMeeting_13 (by decide) ?_
        refine lv_iload_n hx hb dX1_isWithoutMeeting_14 rfl (lv_at hl 2 rfl) ?_
        refine lv_ishl hx hb dX1_isWithoutMeeting_15 ?_
        refine lv_istore_n (lv' := [(3, .int (1 <<< (x2 &&& 31))), (0, .ref (a 0)), (1, .int x1), (2, .int x2)]) hx hb dX1_isWithoutMeeting_16 rfl hl (by decide) rfl (fun ls hl => ?_)
        refine lv_iload_n hx hb dX1_isWithoutMeeting_17 rfl (lv_at hl 2 rfl) ?_
        refine lv_iload_n hx hb dX1_isWithoutMeeting_18 rfl (lv_at hl 0 rfl) ?_
        refine lv_iand hx hb dX1_isWithoutMeeting_19 ?_
        refine lv_if_eq (tgt := 36) hx hb dX1_isWithoutMeeting_20 (by decide) (fun c3 => ?_) (fun c3 => ?_)
        · have h := g_t c3 h
          refine lv_iinc (v := x2 + 1) (lv' := [(2, .int (x2 + 1)), (3, .int (1 <<< (x2 &&& 31))), (0, .ref (a 0)), (1, .int x1)]) hx hb dX1_isWithoutMeeting_36 hl (k := 3) rfl rfl (by decide) rfl (fun ls hl => ?_)
          refine lv_goto (tgt := 2) hx hb dX1_isWithoutMeeting_39 (by decide) ?_
          exact ih ce fr un sb se so sc wb we wo wc fb fe fo fc rm ac rf kn x1 (x2 + 1) _ _ hP hD hS ls (lv_sub hl [2, 3, 0] rfl) h
        · have h := g_f c3 h
          refine lv_aload_n hx hb dX1_isWithoutMeeting_23 rfl (lv_at hl 1 rfl) ?_
          refine lv_iload_n hx hb dX1_isWithoutMeeting_24 rfl (lv_at hl 3 rfl) ?_
          refine lv_iload_n hx hb dX1_isWithoutMeeting_25 rfl (lv_at hl 2 rfl) ?_
          refine lv_iload_n hx hb dX1_isWithoutMeeting_26 rfl (lv_at hl 0 rfl) ?_
          refine lv_isub hx hb dX1_isWithoutMeeting_27 ?_
          obtain ⟨r4, g4, h⟩ := g_b h
          refine kcall_i (wSB cI cJ cZ a ce fr un sb se so sc wb we wo wc fb fe fo fc rm ac rf kn) (va_runV (As := [.int x2, .int (x1 - (1 <<< (x2 &&& 31)))]) (rest := []) ⟨hx, hb, hml, hown, hts⟩ (c_X1_meetsOneOf l dC dI cB cI cJ cZ a _ ce fr un sb se so sc wb we wo wc fb fe fo fc rm ac rf kn x2 (x1 - (1 <<< (x2 &&& 31))) r4 g4) (kcwV hts kw_231 kv_X1_meetsOneOf rfl rfl ⟨(Nat.le_of_ble_eq_true rfl), (Nat.le_of_ble_eq_true rfl)⟩) (kpV (A := A) (hP.sub (kIT mk_14 0) (km_f (m := mk_14) rfl rfl)) hK (hD.sub (kIT mk_14 0) (km_nd mk_14) (km_T (m := mk_14) rfl rfl)) hG (va_recv hK hP (ci := 3) (q0 := 0) rfl rfl)) rfl rfl hl.1 rfl (lv_room (Nat.le_of_ble_eq_true rfl)) dX1_isWithoutMeeting_28 ⟨(Nat.le_of_ble_eq_true rfl), (Nat.le_of_ble_eq_true rfl)⟩) hP hD hS hA (kIT mk_14 0) (kIT mk_13 0) (km_T (m := mk_14) rfl rfl) (km_T (m := mk_14) rfl rfl) [] (km_T (m := mk_13) rfl rfl) (km_T (m := mk_13) rfl rfl) (km_cov (m := mk_14) (n := mk_13) rfl rfl) (km_dis (m := mk_14) (n := mk_13) rfl) rfl (fun H locs hP hD hS br4 => ?_)
          refine lv_if_eq (tgt := 36) hx hb dX1_isWithoutMeeting_31 (by decide) (fun c5 => ?_) (fun c5 => ?_)
          · have h := g_t c5 h
            refine lv_iinc (v := x2 + 1) (lv' := [(2, .int (x2 + 1)), (3, .int (1 <<< (x2 &&& 31))), (0, .ref (a 0)), (1, .int x1)]) hx hb dX1_isWithoutMeeting_36 hl (k := 3) rfl rfl (by decide) rfl (fun ls hl => ?_)
            refine lv_goto (tgt := 2) hx hb dX1_isWithoutMeeting_39 (by decide) ?_
            exact ih ce fr un sb se so sc wb we wo wc fb fe fo fc rm ac rf kn x1 (x2 + 1) _ _ hP hD hS ls (lv_sub hl [2, 3, 0] rfl) h
          · have h := g_f c5 h
            refine lv_iconst (v := 0) hx hb dX1_isWithoutMeeting_34 (by decide) ?_
            have h := Option.some.inj h
            subst h
            exact kret_i (v := 0) hx hb hr rfl hlocks hS hP dX1_isWithoutMeeting_35
  have hl := lv_entry ([.ref (a 0), .int p0]) (n := 4) (Nat.le_of_ble_eq_true rfl)
  rw [lg_entry_eq]
  generalize (lg_sl ([.ref (a 0), .int p0]) ++ List.replicate (4 - (lg_sl ([.ref (a 0), .int p0])).length) Slot.unset).toArray = ls at hl ⊢
  have hl : lv_has ls 4 [(0, .ref (a 0)), (1, .int p0)] := hl
  have h := f_X1_isWithoutMeeting_e.symm.trans hf
  refine lv_iconst (v := 0) hx hb dX1_isWithoutMeeting_0 (by decide) ?_
  refine lv_istore_n (lv' := [(2, .int 0), (0, .ref (a 0)), (1, .int p0)]) hx hb dX1_isWithoutMeeting_1 rfl hl (by decide) rfl (fun ls hl => ?_)
  exact J2 24 ce fr un sb se so sc wb we wo wc fb fe fo fc rm ac rf kn p0 0 _ _ hP hD hS ls (lv_sub hl [1, 2, 0] rfl) h
abbrev wsX1_nextChosen : List Cond := kWs yX1_nextChosen cX1_nextChosen 4 (some .int)
def f_X1_nextChosen_4 : Nat → (Nat → Int64) → (Nat → Int64) → (Int32) → (Int32) → (Int32) → (Int32) → Option (Int32)
  | 0, _, _, _, _, _, _ => none
  | n + 1, wb, we, wc, x1, x2, x3 =>
    (f_X0_count wc).bind fun r1 =>
    if r1 ≤ x3 then
      some x2
    else
      (f_X1_meetsOneOf wb we wc x3 x1).bind fun r3 =>
      if r3 = 0 then
        if x2 = (-1) then
          f_X1_nextChosen_4 n wb we wc x1 x3 (x3 + 1)
        else
          (f_X0_end we wc x3).bind fun r6 =>
          (f_X0_end we wc x2).bind fun r7 =>
          if r7 ≤ r6 then
            f_X1_nextChosen_4 n wb we wc x1 x2 (x3 + 1)
          else
            f_X1_nextChosen_4 n wb we wc x1 x3 (x3 + 1)
      else
        f_X1_nextChosen_4 n wb we wc x1 x2 (x3 + 1)
theorem f_X1_nextChosen_4_0 {wb : Nat → Int64} {we : Nat → Int64} {wc : Int32} {x1 : Int32} {x2 : Int32} {x3 : Int32} : f_X1_nextChosen_4 0 wb we wc x1 x2 x3 = none := rfl
theorem f_X1_nextChosen_4_s {n : Nat} {wb : Nat → Int64} {we : Nat → Int64} {wc : Int32} {x1 : Int32} {x2 : Int32} {x3 : Int32} : f_X1_nextChosen_4 (n + 1) wb we wc x1 x2 x3 =
  (f_X0_count wc).bind fun r1 =>
  if r1 ≤ x3 then
    some x2
  else
    (f_X1_meetsOneOf wb we wc x3 x1).bind fun r3 =>
    if r3 = 0 then
      if x2 = (-1) then
        f_X1_nextChosen_4 n wb we wc x1 x3 (x3 + 1)
      else
        (f_X0_end we wc x3).bind fun r6 =>
        (f_X0_end we wc x2).bind fun r7 =>
        if r7 ≤ r6 then
          f_X1_nextChosen_4 n wb we wc x1 x2 (x3 + 1)
        else
          f_X1_nextChosen_4 n wb we wc x1 x3 (x3 + 1)
    else
      f_X1_nextChosen_4 n wb we wc x1 x2 (x3 + 1) := rfl
def f_X1_nextChosen (wb : Nat → Int64) (we : Nat → Int64) (wc : Int32) (p0 : Int32) : Option (Int32) :=
  f_X1_nextChosen_4 24 wb we wc p0 (-1) 0
theorem f_X1_nextChosen_e {wb : Nat → Int64} {we : Nat → Int64} {wc : Int32} {p0 : Int32} : f_X1_nextChosen wb we wc p0 = 
  f_X1_nextChosen_4 24 wb we wc p0 (-1) 0 := rfl
set_option maxHeartbeats 4000000 in
set_option maxRecDepth 100000 in
theorem c_X1_nextChosen (l : Launch) (dC : Nat → ClassId) (dI : Nat → Nat → Nat) (cB cI cJ cZ : ClassId) (a : Nat → Nat) (sz : Nat) (ce : Nat → Int64) (fr : Int64) (un : Int64) (sb : Nat → Int64) (se : Nat → Int64) (so : Nat → Int32) (sc : Int32) (wb : Nat → Int64) (we : Nat → Int64) (wo : Nat → Int32) (wc : Int32) (fb : Nat → Int64) (fe : Nat → Int64) (fo : Nat → Int32) (fc : Int32) (rm : Nat → Int32) (ac : Int32) (rf : Int32) (kn : Int32) (p0 : Int32) (res : Int32) (hf : f_X1_nextChosen wb we wc p0 = some res) : Met l yX1_nextChosen wsX1_nextChosen ({ frames := 2, cells := 0, slots := 0, locals := 45 } : Room) (kPre (dC, dI) (kTy cB cI cJ cZ) [.ref (a 0), .int p0] sz (wSB cI cJ cZ a ce fr un sb se so sc wb we wo wc fb fe fo fc rm ac rf kn)) (kI (dC, dI) .int (res) (wSB cI cJ cZ a ce fr un sb se so sc wb we wo wc fb fe fo fc rm ac rf kn) (va_A (wSB cI cJ cZ a ce fr un sb se so sc wb we wo wc fb fe fo fc rm ac rf kn) sz)) 0 0 (va_A (wSB cI cJ cZ a ce fr un sb se so sc wb we wo wc fb fe fo fc rm ac rf kn) sz) := by
  refine Met.ofW (cc := cX1_nextChosen) (maxL := 4) (ret := (some .int)) (by decide) rfl ?_
  intro p e s m args below meth c s₁ B hml hv
  obtain ⟨rfl, hsz, hP, hK, hD0, hG⟩ := hv
  have hx := B.exec
  have hb := B.bytes
  have hr := B.returns
  have hts := atoms_spec (ws := wsX1_nextChosen) B.pre
  have hown : s.vm.findClass RX1 = some m.cls := findClass_of_methodNamed B.named
  have hlocks := B.notSynchronized
  subst hsz
  have hD := hD0.self (sz := s.heap.size)
  generalize hAe : va_A (wSB cI cJ cZ a ce fr un sb se so sc wb we wo wc fb fe fo fc rm ac rf kn) s.heap.size = A at hD ⊢
  have hA : ∀ q : Nat, s.heap.size ≤ q → A q := fun q h => by rw [← hAe]; exact Or.inr h
  have hS : va_S A s.heap s.heap [] := va_S.rf
  clear hAe
  have hw0 := hts (.fieldLink RX1 29 "Spanbooker" "wishRow" "LSpanbooker$Row;") (List.mem_cons_of_mem _ kw_111)
  have hiX1 : ∀ w ∈ u_ws RX1 TX1 10, w ∈ wsX1_nextChosen := fun w h => List.mem_cons_of_mem _ (ku_X1 w h)
  have J4 : ∀ (n : Nat), ∀ (ce : Nat → Int64) (fr : Int64) (un : Int64) (sb : Nat → Int64) (se : Nat → Int64) (so : Nat → Int32) (sc : Int32) (wb : Nat → Int64) (we : Nat → Int64) (wo : Nat → Int32) (wc : Int32) (fb : Nat → Int64) (fe : Nat → Int64) (fo : Nat → Int32) (fc : Int32) (rm : Nat → Int32) (ac : Int32) (rf : Int32) (kn : Int32) (x1 : Int32) (x2 : Int32) (x3 : Int32) (H : Heap) (locs : List Loc), va_P (dC, dI) vwCl (wSB cI cJ cZ a ce fr un sb se so sc wb we wo wc fb fe fo fc rm ac rf kn) H → va_D A (wSB cI cJ cZ a ce fr un sb se so sc wb we wo wc fb fe fo fc rm ac rf kn) → va_S A s.heap H locs → ∀ (ls : Array Slot), lv_has ls 4 [(0, .ref (a 0)), (1, .int x1), (2, .int x2), (3, .int x3)] → f_X1_nextChosen_4 n wb we wc x1 x2 x3 = some res → W p l e (headSpec wsX1_nextChosen ({ frames := 2, cells := 0, slots := 0, locals := 45 } : Room)).room s m ([.ref (a 0), .int p0] : List Value).toArray below meth c H locs 0 0 (MQ below (kI (dC, dI) .int (res) (wSB cI cJ cZ a ce fr un sb se so sc wb we wo wc fb fe fo fc rm ac rf kn) A) ([.ref (a 0), .int p0] : List Value).toArray s 0 0 A) (F0 m 4 ls []) := by
    intro n
    induction n with
    | zero =>
      intro ce fr un sb se so sc wb we wo wc fb fe fo fc rm ac rf kn x1 x2 x3 H locs hP hD hS ls hl h
      have h := f_X1_nextChosen_4_0.symm.trans h
      cases h
    | succ n ih =>
      intro ce fr un sb se so sc wb we wo wc fb fe fo fc rm ac rf kn x1 x2 x3 H locs hP hD hS ls hl h
      have h := f_X1_nextChosen_4_s.symm.trans h
      refine lv_iload_n hx hb dX1_nextChosen_4 rfl (lv_at hl 3 rfl) ?_
      refine lv_aload_n hx hb dX1_nextChosen_5 rfl (lv_at hl 0 rfl) ?_
      refine va_get (D := (dC, dI)) (ci := 3) (v := .ref (a 6)) (C := RX1) (T := TX1) (N := 10) hx hb hts hiX1 hown hK hP 0 rfl rfl 4 (by decide) hw0 (fun _ h9 => h9) rfl dX1_nextChosen_6 ?_
      obtain ⟨r1, g1, h⟩ := g_b h
      refine kcall_i (wSB cI cJ cZ a ce fr un sb se so sc wb we wo wc fb fe fo fc rm ac rf kn) (va_runV (As := []) (rest := [.int x3]) ⟨hx, hb, hml, hown, hts⟩ (c_X0_count l dC dI cB cI cJ cZ (a 6) (a 7) (a 8) (a 9) _ wb we wo wc  r1 g1) (kcwV hts kw_155 kv_X0_count rfl rfl ⟨(Nat.le_of_ble_eq_true rfl), (Nat.le_of_ble_eq_true rfl)⟩) (kpV (A := A) (hP.sub (kIT mk_17 0) (km_f (m := mk_17) rfl rfl)) hK (hD.sub (kIT mk_17 0) (km_nd mk_17) (km_T (m := mk_17) rfl rfl)) hG (va_recv hK hP (ci := 2) (q0 := 6) rfl rfl)) rfl rfl hl.1 rfl (lv_room (Nat.le_of_ble_eq_true rfl)) dX1_nextChosen_9 ⟨(Nat.le_of_ble_eq_true rfl), (Nat.le_of_ble_eq_true rfl)⟩) hP hD hS hA (kIT mk_17 0) (kIT mk_18 0) (km_T (m := mk_17) rfl rfl) (km_T (m := mk_17) rfl rfl) [((a 0), .inr (3, [.ref (a 1), .long fr, .long un, .ref (a 2), .ref (a 6), .ref (a 10), .ref (a 14), .int ac, .int rf, .int kn])), ((a 1), .inl (cJ, 4, .inr (.inl ce))), ((a 2), .inr (2, [.ref (a 3), .ref (a 4), .ref (a 5), .int sc])), ((a 3), .inl (cJ, 11, .inr (.inl sb))), ((a 4), .inl (cJ, 11, .inr (.inl se))), ((a 5), .inl (cZ, 11, .inl so)), ((a 10), .inr (2, [.ref (a 11), .ref (a 12), .ref (a 13), .int fc])), ((a 11), .inl (cJ, 11, .inr (.inl fb))), ((a 12), .inl (cJ, 11, .inr (.inl fe))), ((a 13), .inl (cZ, 11, .inl fo)), ((a 14), .inl (cI, 11, .inl rm))] (km_T (m := mk_18) rfl rfl) (km_T (m := mk_18) rfl rfl) (km_cov (m := mk_17) (n := mk_18) rfl rfl) (km_dis (m := mk_17) (n := mk_18) rfl) rfl (fun H locs hP hD hS br1 => ?_)
      refine lv_icmp_ge (tgt := 57) hx hb dX1_nextChosen_12 (by decide) (fun c2 => ?_) (fun c2 => ?_)
      · have h := g_t c2 h
        refine lv_iload_n hx hb dX1_nextChosen_57 rfl (lv_at hl 2 rfl) ?_
        have h := Option.some.inj h
        subst h
        exact kret_i (v := x2) hx hb hr rfl hlocks hS hP dX1_nextChosen_58
      · have h := g_f c2 h
        refine lv_aload_n hx hb dX1_nextChosen_15 rfl (lv_at hl 0 rfl) ?_
        refine lv_iload_n hx hb dX1_nextChosen_16 rfl (lv_at hl 3 rfl) ?_
        refine lv_iload_n hx hb dX1_nextChosen_17 rfl (lv_at hl 1 rfl) ?_
        obtain ⟨r3, g3, h⟩ := g_b h
        refine kcall_i (wSB cI cJ cZ a ce fr un sb se so sc wb we wo wc fb fe fo fc rm ac rf kn) (va_runV (As := [.int x3, .int x1]) (rest := []) ⟨hx, hb, hml, hown, hts⟩ (c_X1_meetsOneOf l dC dI cB cI cJ cZ a _ ce fr un sb se so sc wb we wo wc fb fe fo fc rm ac rf kn x3 x1 r3 g3) (kcwV hts kw_231 kv_X1_meetsOneOf rfl rfl ⟨(Nat.le_of_ble_eq_true rfl), (Nat.le_of_ble_eq_true rfl)⟩) (kpV (A := A) (hP.sub (kIT mk_14 0) (km_f (m := mk_14) rfl rfl)) hK (hD.sub (kIT mk_14 0) (km_nd mk_14) (km_T (m := mk_14) rfl rfl)) hG (va_recv hK hP (ci := 3) (q0 := 0) rfl rfl)) rfl rfl hl.1 rfl (lv_room (Nat.le_of_ble_eq_true rfl)) dX1_nextChosen_18 ⟨(Nat.le_of_ble_eq_true rfl), (Nat.le_of_ble_eq_true rfl)⟩) hP hD hS hA (kIT mk_14 0) (kIT mk_13 0) (km_T (m := mk_14) rfl rfl) (km_T (m := mk_14) rfl rfl) [] (km_T (m := mk_13) rfl rfl) (km_T (m := mk_13) rfl rfl) (km_cov (m := mk_14) (n := mk_13) rfl rfl) (km_dis (m := mk_14) (n := mk_13) rfl) rfl (fun H locs hP hD hS br3 => ?_)
        refine lv_if_ne (tgt := 51) hx hb dX1_nextChosen_21 (by decide) (fun c4 => ?_) (fun c4 => ?_)
        · have h := g_f c4 h
          refine lv_iinc (v := x3 + 1) (lv' := [(3, .int (x3 + 1)), (0, .ref (a 0)), (1, .int x1), (2, .int x2)]) hx hb dX1_nextChosen_51 hl (k := 3) rfl rfl (by decide) rfl (fun ls hl => ?_)
          refine lv_goto (tgt := 4) hx hb dX1_nextChosen_54 (by decide) ?_
          exact ih ce fr un sb se so sc wb we wo wc fb fe fo fc rm ac rf kn x1 x2 (x3 + 1) _ _ hP hD hS ls (lv_sub hl [1, 2, 3, 0] rfl) h
        · have h := g_t c4 h
          refine lv_iload_n hx hb dX1_nextChosen_24 rfl (lv_at hl 2 rfl) ?_
          refine lv_iconst (v := (-1)) hx hb dX1_nextChosen_25 (by decide) ?_
          refine lv_icmp_eq (tgt := 49) hx hb dX1_nextChosen_26 (by decide) (fun c5 => ?_) (fun c5 => ?_)
          · have h := g_t c5 h
            refine lv_iload_n hx hb dX1_nextChosen_49 rfl (lv_at hl 3 rfl) ?_
            refine lv_istore_n (lv' := [(2, .int x3), (0, .ref (a 0)), (1, .int x1), (3, .int x3)]) hx hb dX1_nextChosen_50 rfl hl (by decide) rfl (fun ls hl => ?_)
            refine lv_iinc (v := x3 + 1) (lv' := [(3, .int (x3 + 1)), (2, .int x3), (0, .ref (a 0)), (1, .int x1)]) hx hb dX1_nextChosen_51 hl (k := 3) rfl rfl (by decide) rfl (fun ls hl => ?_)
            refine lv_goto (tgt := 4) hx hb dX1_nextChosen_54 (by decide) ?_
            exact ih ce fr un sb se so sc wb we wo wc fb fe fo fc rm ac rf kn x1 x3 (x3 + 1) _ _ hP hD hS ls (lv_sub hl [2, 3, 1, 0] rfl) h
          · have h := g_f c5 h
            refine lv_aload_n hx hb dX1_nextChosen_29 rfl (lv_at hl 0 rfl) ?_
            refine va_get (D := (dC, dI)) (ci := 3) (v := .ref (a 6)) (C := RX1) (T := TX1) (N := 10) hx hb hts hiX1 hown hK hP 0 rfl rfl 4 (by decide) hw0 (fun _ h9 => h9) rfl dX1_nextChosen_30 ?_
            refine lv_iload_n hx hb dX1_nextChosen_33 rfl (lv_at hl 3 rfl) ?_
            obtain ⟨r6, g6, h⟩ := g_b h
            refine kcall_l (wSB cI cJ cZ a ce fr un sb se so sc wb we wo wc fb fe fo fc rm ac rf kn) (va_runV (As := [.int x3]) (rest := []) ⟨hx, hb, hml, hown, hts⟩ (c_X0_end l dC dI cB cI cJ cZ (a 6) (a 7) (a 8) (a 9) _ wb we wo wc x3 r6 g6) (kcwV hts kw_194 kv_X0_end rfl rfl ⟨(Nat.le_of_ble_eq_true rfl), (Nat.le_of_ble_eq_true rfl)⟩) (kpV (A := A) (hP.sub (kIT mk_17 0) (km_f (m := mk_17) rfl rfl)) hK (hD.sub (kIT mk_17 0) (km_nd mk_17) (km_T (m := mk_17) rfl rfl)) hG (va_recv hK hP (ci := 2) (q0 := 6) rfl rfl)) rfl rfl hl.1 rfl (lv_room (Nat.le_of_ble_eq_true rfl)) dX1_nextChosen_34 ⟨(Nat.le_of_ble_eq_true rfl), (Nat.le_of_ble_eq_true rfl)⟩) hP hD hS hA (kIT mk_17 0) (kIT mk_18 0) (km_T (m := mk_17) rfl rfl) (km_T (m := mk_17) rfl rfl) [((a 0), .inr (3, [.ref (a 1), .long fr, .long un, .ref (a 2), .ref (a 6), .ref (a 10), .ref (a 14), .int ac, .int rf, .int kn])), ((a 1), .inl (cJ, 4, .inr (.inl ce))), ((a 2), .inr (2, [.ref (a 3), .ref (a 4), .ref (a 5), .int sc])), ((a 3), .inl (cJ, 11, .inr (.inl sb))), ((a 4), .inl (cJ, 11, .inr (.inl se))), ((a 5), .inl (cZ, 11, .inl so)), ((a 10), .inr (2, [.ref (a 11), .ref (a 12), .ref (a 13), .int fc])), ((a 11), .inl (cJ, 11, .inr (.inl fb))), ((a 12), .inl (cJ, 11, .inr (.inl fe))), ((a 13), .inl (cZ, 11, .inl fo)), ((a 14), .inl (cI, 11, .inl rm))] (km_T (m := mk_18) rfl rfl) (km_T (m := mk_18) rfl rfl) (km_cov (m := mk_17) (n := mk_18) rfl rfl) (km_dis (m := mk_17) (n := mk_18) rfl) rfl (fun H locs hP hD hS => ?_)
            refine lv_aload_n hx hb dX1_nextChosen_37 rfl (lv_at hl 0 rfl) ?_
            refine va_get (D := (dC, dI)) (ci := 3) (v := .ref (a 6)) (C := RX1) (T := TX1) (N := 10) hx hb hts hiX1 hown hK hP 0 rfl rfl 4 (by decide) hw0 (fun _ h9 => h9) rfl dX1_nextChosen_38 ?_
            refine lv_iload_n hx hb dX1_nextChosen_41 rfl (lv_at hl 2 rfl) ?_
            obtain ⟨r7, g7, h⟩ := g_b h
            refine kcall_l (wSB cI cJ cZ a ce fr un sb se so sc wb we wo wc fb fe fo fc rm ac rf kn) (va_runV (As := [.int x2]) (rest := [.long r6]) ⟨hx, hb, hml, hown, hts⟩ (c_X0_end l dC dI cB cI cJ cZ (a 6) (a 7) (a 8) (a 9) _ wb we wo wc x2 r7 g7) (kcwV hts kw_194 kv_X0_end rfl rfl ⟨(Nat.le_of_ble_eq_true rfl), (Nat.le_of_ble_eq_true rfl)⟩) (kpV (A := A) (hP.sub (kIT mk_17 0) (km_f (m := mk_17) rfl rfl)) hK (hD.sub (kIT mk_17 0) (km_nd mk_17) (km_T (m := mk_17) rfl rfl)) hG (va_recv hK hP (ci := 2) (q0 := 6) rfl rfl)) rfl rfl hl.1 rfl (lv_room (Nat.le_of_ble_eq_true rfl)) dX1_nextChosen_42 ⟨(Nat.le_of_ble_eq_true rfl), (Nat.le_of_ble_eq_true rfl)⟩) hP hD hS hA (kIT mk_17 0) (kIT mk_18 0) (km_T (m := mk_17) rfl rfl) (km_T (m := mk_17) rfl rfl) [((a 0), .inr (3, [.ref (a 1), .long fr, .long un, .ref (a 2), .ref (a 6), .ref (a 10), .ref (a 14), .int ac, .int rf, .int kn])), ((a 1), .inl (cJ, 4, .inr (.inl ce))), ((a 2), .inr (2, [.ref (a 3), .ref (a 4), .ref (a 5), .int sc])), ((a 3), .inl (cJ, 11, .inr (.inl sb))), ((a 4), .inl (cJ, 11, .inr (.inl se))), ((a 5), .inl (cZ, 11, .inl so)), ((a 10), .inr (2, [.ref (a 11), .ref (a 12), .ref (a 13), .int fc])), ((a 11), .inl (cJ, 11, .inr (.inl fb))), ((a 12), .inl (cJ, 11, .inr (.inl fe))), ((a 13), .inl (cZ, 11, .inl fo)), ((a 14), .inl (cI, 11, .inl rm))] (km_T (m := mk_18) rfl rfl) (km_T (m := mk_18) rfl rfl) (km_cov (m := mk_17) (n := mk_18) rfl rfl) (km_dis (m := mk_17) (n := mk_18) rfl) rfl (fun H locs hP hD hS => ?_)
            refine kl_ge (pc := 45) (tgt := 51) hx hb dX1_nextChosen_45 dX1_nextChosen_46 (by decide) (fun c8 => ?_) (fun c8 => ?_)
            · have h := g_t c8 h
              refine lv_iinc (v := x3 + 1) (lv' := [(3, .int (x3 + 1)), (0, .ref (a 0)), (1, .int x1), (2, .int x2)]) hx hb dX1_nextChosen_51 hl (k := 3) rfl rfl (by decide) rfl (fun ls hl => ?_)
              refine lv_goto (tgt := 4) hx hb dX1_nextChosen_54 (by decide) ?_
              exact ih ce fr un sb se so sc wb we wo wc fb fe fo fc rm ac rf kn x1 x2 (x3 + 1) _ _ hP hD hS ls (lv_sub hl [1, 2, 3, 0] rfl) h
            · have h := g_f c8 h
              refine lv_iload_n hx hb dX1_nextChosen_49 rfl (lv_at hl 3 rfl) ?_
              refine lv_istore_n (lv' := [(2, .int x3), (0, .ref (a 0)), (1, .int x1), (3, .int x3)]) hx hb dX1_nextChosen_50 rfl hl (by decide) rfl (fun ls hl => ?_)
              refine lv_iinc (v := x3 + 1) (lv' := [(3, .int (x3 + 1)), (2, .int x3), (0, .ref (a 0)), (1, .int x1)]) hx hb dX1_nextChosen_51 hl (k := 3) rfl rfl (by decide) rfl (fun ls hl => ?_)
              refine lv_goto (tgt := 4) hx hb dX1_nextChosen_54 (by decide) ?_
              exact ih ce fr un sb se so sc wb we wo wc fb fe fo fc rm ac rf kn x1 x3 (x3 + 1) _ _ hP hD hS ls (lv_sub hl [2, 3, 1, 0] rfl) h
  have hl := lv_entry ([.ref (a 0), .int p0]) (n := 4) (Nat.le_of_ble_eq_true rfl)
  rw [lg_entry_eq]
  generalize (lg_sl ([.ref (a 0), .int p0]) ++ List.replicate (4 - (lg_sl ([.ref (a 0), .int p0])).length) Slot.unset).toArray = ls at hl ⊢
  have hl : lv_has ls 4 [(0, .ref (a 0)), (1, .int p0)] := hl
  have h := f_X1_nextChosen_e.symm.trans hf
  refine lv_iconst (v := (-1)) hx hb dX1_nextChosen_0 (by decide) ?_
  refine lv_istore_n (lv' := [(2, .int (-1)), (0, .ref (a 0)), (1, .int p0)]) hx hb dX1_nextChosen_1 rfl hl (by decide) rfl (fun ls hl => ?_)
  refine lv_iconst (v := 0) hx hb dX1_nextChosen_2 (by decide) ?_
  refine lv_istore_n (lv' := [(3, .int 0), (2, .int (-1)), (0, .ref (a 0)), (1, .int p0)]) hx hb dX1_nextChosen_3 rfl hl (by decide) rfl (fun ls hl => ?_)
  exact J4 24 ce fr un sb se so sc wb we wo wc fb fe fo fc rm ac rf kn p0 (-1) 0 _ _ hP hD hS ls (lv_sub hl [2, 3, 1, 0] rfl) h
abbrev wsX1_mostOfAllSets : List Cond := kWs yX1_mostOfAllSets cX1_mostOfAllSets 5 (some .int)
def f_X1_mostOfAllSets_9 : Nat → (Nat → Int64) → (Nat → Int64) → (Int32) → (Int32) → (Int32) → (Int32) → Option (Int32)
  | 0, _, _, _, _, _, _ => none
  | n + 1, wb, we, wc, x1, x2, x3 =>
    if x2 < x3 then
      some x1
    else
      (f_J6_bitCount_0f7a4 x3).bind fun r2 =>
      if r2 ≤ x1 then
        f_X1_mostOfAllSets_9 n wb we wc x1 x2 (x3 + 1)
      else
        (f_X1_isWithoutMeeting wb we wc x3).bind fun r4 =>
        if r4 = 0 then
          f_X1_mostOfAllSets_9 n wb we wc x1 x2 (x3 + 1)
        else
          f_X1_mostOfAllSets_9 n wb we wc r2 x2 (x3 + 1)
theorem f_X1_mostOfAllSets_9_0 {wb : Nat → Int64} {we : Nat → Int64} {wc : Int32} {x1 : Int32} {x2 : Int32} {x3 : Int32} : f_X1_mostOfAllSets_9 0 wb we wc x1 x2 x3 = none := rfl
theorem f_X1_mostOfAllSets_9_s {n : Nat} {wb : Nat → Int64} {we : Nat → Int64} {wc : Int32} {x1 : Int32} {x2 : Int32} {x3 : Int32} : f_X1_mostOfAllSets_9 (n + 1) wb we wc x1 x2 x3 =
  if x2 < x3 then
    some x1
  else
    (f_J6_bitCount_0f7a4 x3).bind fun r2 =>
    if r2 ≤ x1 then
      f_X1_mostOfAllSets_9 n wb we wc x1 x2 (x3 + 1)
    else
      (f_X1_isWithoutMeeting wb we wc x3).bind fun r4 =>
      if r4 = 0 then
        f_X1_mostOfAllSets_9 n wb we wc x1 x2 (x3 + 1)
      else
        f_X1_mostOfAllSets_9 n wb we wc r2 x2 (x3 + 1) := rfl
def f_X1_mostOfAllSets (wb : Nat → Int64) (we : Nat → Int64) (wc : Int32) : Option (Int32) :=
  (f_X1_setOfAllWishes wc).bind fun r1 =>
  f_X1_mostOfAllSets_9 300 wb we wc 0 r1 0
theorem f_X1_mostOfAllSets_e {wb : Nat → Int64} {we : Nat → Int64} {wc : Int32} : f_X1_mostOfAllSets wb we wc = 
  (f_X1_setOfAllWishes wc).bind fun r1 =>
  f_X1_mostOfAllSets_9 300 wb we wc 0 r1 0 := rfl
set_option maxHeartbeats 4000000 in
set_option maxRecDepth 100000 in
theorem c_X1_mostOfAllSets (l : Launch) (dC : Nat → ClassId) (dI : Nat → Nat → Nat) (cB cI cJ cZ : ClassId) (a : Nat → Nat) (sz : Nat) (ce : Nat → Int64) (fr : Int64) (un : Int64) (sb : Nat → Int64) (se : Nat → Int64) (so : Nat → Int32) (sc : Int32) (wb : Nat → Int64) (we : Nat → Int64) (wo : Nat → Int32) (wc : Int32) (fb : Nat → Int64) (fe : Nat → Int64) (fo : Nat → Int32) (fc : Int32) (rm : Nat → Int32) (ac : Int32) (rf : Int32) (kn : Int32) (res : Int32) (hf : f_X1_mostOfAllSets wb we wc = some res) : Met l yX1_mostOfAllSets wsX1_mostOfAllSets ({ frames := 3, cells := 0, slots := 0, locals := 68 } : Room) (kPre (dC, dI) (kTy cB cI cJ cZ) [.ref (a 0)] sz (wSB cI cJ cZ a ce fr un sb se so sc wb we wo wc fb fe fo fc rm ac rf kn)) (kI (dC, dI) .int (res) (wSB cI cJ cZ a ce fr un sb se so sc wb we wo wc fb fe fo fc rm ac rf kn) (va_A (wSB cI cJ cZ a ce fr un sb se so sc wb we wo wc fb fe fo fc rm ac rf kn) sz)) 0 0 (va_A (wSB cI cJ cZ a ce fr un sb se so sc wb we wo wc fb fe fo fc rm ac rf kn) sz) := by
  refine Met.ofW (cc := cX1_mostOfAllSets) (maxL := 5) (ret := (some .int)) (by decide) rfl ?_
  intro p e s m args below meth c s₁ B hml hv
  obtain ⟨rfl, hsz, hP, hK, hD0, hG⟩ := hv
  have hx := B.exec
  have hb := B.bytes
  have hr := B.returns
  have hts := atoms_spec (ws := wsX1_mostOfAllSets) B.pre
  have hown : s.vm.findClass RX1 = some m.cls := findClass_of_methodNamed B.named
  have hlocks := B.notSynchronized
  subst hsz
  have hD := hD0.self (sz := s.heap.size)
  generalize hAe : va_A (wSB cI cJ cZ a ce fr un sb se so sc wb we wo wc fb fe fo fc rm ac rf kn) s.heap.size = A at hD ⊢
  have hA : ∀ q : Nat, s.heap.size ≤ q → A q := fun q h => by rw [← hAe]; exact Or.inr h
  have hS : va_S A s.heap s.heap [] := va_S.rf
  clear hAe
  have J9 : ∀ (n : Nat), ∀ (ce : Nat → Int64) (fr : Int64) (un : Int64) (sb : Nat → Int64) (se : Nat → Int64) (so : Nat → Int32) (sc : Int32) (wb : Nat → Int64) (we : Nat → Int64) (wo : Nat → Int32) (wc : Int32) (fb : Nat → Int64) (fe : Nat → Int64) (fo : Nat → Int32) (fc : Int32) (rm : Nat → Int32) (ac : Int32) (rf : Int32) (kn : Int32) (x1 : Int32) (x2 : Int32) (x3 : Int32) (H : Heap) (locs : List Loc), va_P (dC, dI) vwCl (wSB cI cJ cZ a ce fr un sb se so sc wb we wo wc fb fe fo fc rm ac rf kn) H → va_D A (wSB cI cJ cZ a ce fr un sb se so sc wb we wo wc fb fe fo fc rm ac rf kn) → va_S A s.heap H locs → ∀ (ls : Array Slot), lv_has ls 5 [(0, .ref (a 0)), (1, .int x1), (2, .int x2), (3, .int x3)] → f_X1_mostOfAllSets_9 n wb we wc x1 x2 x3 = some res → W p l e (headSpec wsX1_mostOfAllSets ({ frames := 3, cells := 0, slots := 0, locals := 68 } : Room)).room s m ([.ref (a 0)] : List Value).toArray below meth c H locs 0 0 (MQ below (kI (dC, dI) .int (res) (wSB cI cJ cZ a ce fr un sb se so sc wb we wo wc fb fe fo fc rm ac rf kn) A) ([.ref (a 0)] : List Value).toArray s 0 0 A) (F0 m 9 ls []) := by
    intro n
    induction n with
    | zero =>
      intro ce fr un sb se so sc wb we wo wc fb fe fo fc rm ac rf kn x1 x2 x3 H locs hP hD hS ls hl h
      have h := f_X1_mostOfAllSets_9_0.symm.trans h
      cases h
    | succ n ih =>
      intro ce fr un sb se so sc wb we wo wc fb fe fo fc rm ac rf kn x1 x2 x3 H locs hP hD hS ls hl h
      have h := f_X1_mostOfAllSets_9_s.symm.trans h
      refine lv_iload_n hx hb dX1_mostOfAllSets_9 rfl (lv_at hl 3 rfl) ?_
      refine lv_iload_n hx hb dX1_mostOfAllSets_10 rfl (lv_at hl 2 rfl) ?_
      refine lv_icmp_gt (tgt := 43) hx hb dX1_mostOfAllSets_11 (by decide) (fun c1 => ?_) (fun c1 => ?_)
      · have h := g_t c1 h
        refine lv_iload_n hx hb dX1_mostOfAllSets_43 rfl (lv_at hl 1 rfl) ?_
        have h := Option.some.inj h
        subst h
        exact kret_i (v := x1) hx hb hr rfl hlocks hS hP dX1_mostOfAllSets_44
      · have h := g_f c1 h
        refine lv_iload_n hx hb dX1_mostOfAllSets_14 rfl (lv_at hl 3 rfl) ?_
        obtain ⟨r2, g2, h⟩ := g_b h
        refine kcall_i (wSB cI cJ cZ a ce fr un sb se so sc wb we wo wc fb fe fo fc rm ac rf kn) (va_runS (As := [.int x3]) (rest := []) ⟨hx, hb, hml, hown, hts⟩ (c_J6_bitCount_0f7a4 l dC dI cB cI cJ cZ  _  x3 r2 g2) (kcwS hts kw_305 kv_J6_bitCount_0f7a4 rfl rfl ⟨(Nat.le_of_ble_eq_true rfl), (Nat.le_of_ble_eq_true rfl)⟩) (kpS (A := A) (kPnil) hK ((kDnil (A := A))) hG) rfl rfl hl.1 rfl (lv_room (Nat.le_of_ble_eq_true rfl)) dX1_mostOfAllSets_15 ⟨(Nat.le_of_ble_eq_true rfl), (Nat.le_of_ble_eq_true rfl)⟩) hP hD hS hA (kIT mk_13 0) (kIT mk_14 0) (km_T (m := mk_13) rfl rfl) (km_T (m := mk_13) rfl rfl) [((a 0), .inr (3, [.ref (a 1), .long fr, .long un, .ref (a 2), .ref (a 6), .ref (a 10), .ref (a 14), .int ac, .int rf, .int kn])), ((a 1), .inl (cJ, 4, .inr (.inl ce))), ((a 2), .inr (2, [.ref (a 3), .ref (a 4), .ref (a 5), .int sc])), ((a 3), .inl (cJ, 11, .inr (.inl sb))), ((a 4), .inl (cJ, 11, .inr (.inl se))), ((a 5), .inl (cZ, 11, .inl so)), ((a 6), .inr (2, [.ref (a 7), .ref (a 8), .ref (a 9), .int wc])), ((a 7), .inl (cJ, 11, .inr (.inl wb))), ((a 8), .inl (cJ, 11, .inr (.inl we))), ((a 9), .inl (cZ, 11, .inl wo)), ((a 10), .inr (2, [.ref (a 11), .ref (a 12), .ref (a 13), .int fc])), ((a 11), .inl (cJ, 11, .inr (.inl fb))), ((a 12), .inl (cJ, 11, .inr (.inl fe))), ((a 13), .inl (cZ, 11, .inl fo)), ((a 14), .inl (cI, 11, .inl rm))] (km_T (m := mk_14) rfl rfl) (km_T (m := mk_14) rfl rfl) (km_cov (m := mk_13) (n := mk_14) rfl rfl) (km_dis (m := mk_13) (n := mk_14) rfl) rfl (fun H locs hP hD hS br2 => ?_)
        refine lv_istore (lv' := [(4, .int r2), (0, .ref (a 0)), (1, .int x1), (2, .int x2), (3, .int x3)]) hx hb dX1_mostOfAllSets_18 hl (by decide) rfl (fun ls hl => ?_)
        refine lv_iload hx hb dX1_mostOfAllSets_20 (lv_at hl 0 rfl) ?_
        refine lv_iload_n hx hb dX1_mostOfAllSets_22 rfl (lv_at hl 2 rfl) ?_
        refine lv_icmp_le (tgt := 37) hx hb dX1_mostOfAllSets_23 (by decide) (fun c3 => ?_) (fun c3 => ?_)
        · have h := g_t c3 h
          refine lv_iinc (v := x3 + 1) (lv' := [(3, .int (x3 + 1)), (4, .int r2), (0, .ref (a 0)), (1, .int x1), (2, .int x2)]) hx hb dX1_mostOfAllSets_37 hl (k := 4) rfl rfl (by decide) rfl (fun ls hl => ?_)
          refine lv_goto (tgt := 9) hx hb dX1_mostOfAllSets_40 (by decide) ?_
          exact ih ce fr un sb se so sc wb we wo wc fb fe fo fc rm ac rf kn x1 x2 (x3 + 1) _ _ hP hD hS ls (lv_sub hl [2, 3, 4, 0] rfl) h
        · have h := g_f c3 h
          refine lv_aload_n hx hb dX1_mostOfAllSets_26 rfl (lv_at hl 1 rfl) ?_
          refine lv_iload_n hx hb dX1_mostOfAllSets_27 rfl (lv_at hl 4 rfl) ?_
          obtain ⟨r4, g4, h⟩ := g_b h
          refine kcall_i (wSB cI cJ cZ a ce fr un sb se so sc wb we wo wc fb fe fo fc rm ac rf kn) (va_runV (As := [.int x3]) (rest := []) ⟨hx, hb, hml, hown, hts⟩ (c_X1_isWithoutMeeting l dC dI cB cI cJ cZ a _ ce fr un sb se so sc wb we wo wc fb fe fo fc rm ac rf kn x3 r4 g4) (kcwV hts kw_301 kv_X1_isWithoutMeeting rfl rfl ⟨(Nat.le_of_ble_eq_true rfl), (Nat.le_of_ble_eq_true rfl)⟩) (kpV (A := A) (hP.sub (kIT mk_14 0) (km_f (m := mk_14) rfl rfl)) hK (hD.sub (kIT mk_14 0) (km_nd mk_14) (km_T (m := mk_14) rfl rfl)) hG (va_recv hK hP (ci := 3) (q0 := 0) rfl rfl)) rfl rfl hl.1 rfl (lv_room (Nat.le_of_ble_eq_true rfl)) dX1_mostOfAllSets_28 ⟨(Nat.le_of_ble_eq_true rfl), (Nat.le_of_ble_eq_true rfl)⟩) hP hD hS hA (kIT mk_14 0) (kIT mk_13 0) (km_T (m := mk_14) rfl rfl) (km_T (m := mk_14) rfl rfl) [] (km_T (m := mk_13) rfl rfl) (km_T (m := mk_13) rfl rfl) (km_cov (m := mk_14) (n := mk_13) rfl rfl) (km_dis (m := mk_14) (n := mk_13) rfl) rfl (fun H locs hP hD hS br4 => ?_)
          refine lv_if_eq (tgt := 37) hx hb dX1_mostOfAllSets_31 (by decide) (fun c5 => ?_) (fun c5 => ?_)
          · have h := g_t c5 h
            refine lv_iinc (v := x3 + 1) (lv' := [(3, .int (x3 + 1)), (4, .int r2), (0, .ref (a 0)), (1, .int x1), (2, .int x2)]) hx hb dX1_mostOfAllSets_37 hl (k := 4) rfl rfl (by decide) rfl (fun ls hl => ?_)
            refine lv_goto (tgt := 9) hx hb dX1_mostOfAllSets_40 (by decide) ?_
            exact ih ce fr un sb se so sc wb we wo wc fb fe fo fc rm ac rf kn x1 x2 (x3 + 1) _ _ hP hD hS ls (lv_sub hl [2, 3, 4, 0] rfl) h
          · have h := g_f c5 h
            refine lv_iload hx hb dX1_mostOfAllSets_34 (lv_at hl 0 rfl) ?_
            refine lv_istore_n (lv' := [(1, .int r2), (4, .int r2), (0, .ref (a 0)), (2, .int x2), (3, .int x3)]) hx hb dX1_mostOfAllSets_36 rfl hl (by decide) rfl (fun ls hl => ?_)
            refine lv_iinc (v := x3 + 1) (lv' := [(3, .int (x3 + 1)), (1, .int r2), (4, .int r2), (0, .ref (a 0)), (2, .int x2)]) hx hb dX1_mostOfAllSets_37 hl (k := 4) rfl rfl (by decide) rfl (fun ls hl => ?_)
            refine lv_goto (tgt := 9) hx hb dX1_mostOfAllSets_40 (by decide) ?_
            exact ih ce fr un sb se so sc wb we wo wc fb fe fo fc rm ac rf kn r2 x2 (x3 + 1) _ _ hP hD hS ls (lv_sub hl [3, 1, 4, 0] rfl) h
  have hl := lv_entry ([.ref (a 0)]) (n := 5) (Nat.le_of_ble_eq_true rfl)
  rw [lg_entry_eq]
  generalize (lg_sl ([.ref (a 0)]) ++ List.replicate (5 - (lg_sl ([.ref (a 0)])).length) Slot.unset).toArray = ls at hl ⊢
  have hl : lv_has ls 5 [(0, .ref (a 0))] := hl
  have h := f_X1_mostOfAllSets_e.symm.trans hf
  refine lv_iconst (v := 0) hx hb dX1_mostOfAllSets_0 (by decide) ?_
  refine lv_istore_n (lv' := [(1, .int 0), (0, .ref (a 0))]) hx hb dX1_mostOfAllSets_1 rfl hl (by decide) rfl (fun ls hl => ?_)
  refine lv_aload_n hx hb dX1_mostOfAllSets_2 rfl (lv_at hl 1 rfl) ?_
  obtain ⟨r1, g1, h⟩ := g_b h
  refine kcall_i (wSB cI cJ cZ a ce fr un sb se so sc wb we wo wc fb fe fo fc rm ac rf kn) (va_runV (As := []) (rest := []) ⟨hx, hb, hml, hown, hts⟩ (c_X1_setOfAllWishes l dC dI cB cI cJ cZ a _ ce fr un sb se so sc wb we wo wc fb fe fo fc rm ac rf kn  r1 g1) (kcwV hts kw_315 kv_X1_setOfAllWishes rfl rfl ⟨(Nat.le_of_ble_eq_true rfl), (Nat.le_of_ble_eq_true rfl)⟩) (kpV (A := A) (hP.sub (kIT mk_14 0) (km_f (m := mk_14) rfl rfl)) hK (hD.sub (kIT mk_14 0) (km_nd mk_14) (km_T (m := mk_14) rfl rfl)) hG (va_recv hK hP (ci := 3) (q0 := 0) rfl rfl)) rfl rfl hl.1 rfl (lv_room (Nat.le_of_ble_eq_true rfl)) dX1_mostOfAllSets_3 ⟨(Nat.le_of_ble_eq_true rfl), (Nat.le_of_ble_eq_true rfl)⟩) hP hD hS hA (kIT mk_14 0) (kIT mk_13 0) (km_T (m := mk_14) rfl rfl) (km_T (m := mk_14) rfl rfl) [] (km_T (m := mk_13) rfl rfl) (km_T (m := mk_13) rfl rfl) (km_cov (m := mk_14) (n := mk_13) rfl rfl) (km_dis (m := mk_14) (n := mk_13) rfl) rfl (fun H locs hP hD hS br1 => ?_)
  refine lv_istore_n (lv' := [(2, .int r1), (1, .int 0), (0, .ref (a 0))]) hx hb dX1_mostOfAllSets_6 rfl hl (by decide) rfl (fun ls hl => ?_)
  refine lv_iconst (v := 0) hx hb dX1_mostOfAllSets_7 (by decide) ?_
  refine lv_istore_n (lv' := [(3, .int 0), (2, .int r1), (1, .int 0), (0, .ref (a 0))]) hx hb dX1_mostOfAllSets_8 rfl hl (by decide) rfl (fun ls hl => ?_)
  exact J9 300 ce fr un sb se so sc wb we wo wc fb fe fo fc rm ac rf kn 0 r1 0 _ _ hP hD hS ls (lv_sub hl [3, 2, 1, 0] rfl) h
abbrev wsX1_firstWithoutRoom : List Cond := kWs yX1_firstWithoutRoom cX1_firstWithoutRoom 3 (some .int)
def f_X1_firstWithoutRoom_4 : Nat → (Nat → Int64) → (Int32) → (Nat → Int32) → (Int32) → (Int32) → Option (Int32)
  | 0, _, _, _, _, _ => none
  | n + 1, wb, wc, rm, x1, x2 =>
    (f_X0_count wc).bind fun r1 =>
    if r1 ≤ x2 then
      some x1
    else
      if ix x2 11 then
        if (rm x2.toNatClampNeg) = (-1) then
          if x1 = (-1) then
            f_X1_firstWithoutRoom_4 n wb wc rm x2 (x2 + 1)
          else
            (f_X0_begin wb wc x2).bind fun r6 =>
            (f_X0_begin wb wc x1).bind fun r7 =>
            if r7 ≤ r6 then
              f_X1_firstWithoutRoom_4 n wb wc rm x1 (x2 + 1)
            else
              f_X1_firstWithoutRoom_4 n wb wc rm x2 (x2 + 1)
        else
          f_X1_firstWithoutRoom_4 n wb wc rm x1 (x2 + 1)
      else none
theorem f_X1_firstWithoutRoom_4_0 {wb : Nat → Int64} {wc : Int32} {rm : Nat → Int32} {x1 : Int32} {x2 : Int32} : f_X1_firstWithoutRoom_4 0 wb wc rm x1 x2 = none := rfl
theorem f_X1_firstWithoutRoom_4_s {n : Nat} {wb : Nat → Int64} {wc : Int32} {rm : Nat → Int32} {x1 : Int32} {x2 : Int32} : f_X1_firstWithoutRoom_4 (n + 1) wb wc rm x1 x2 =
  (f_X0_count wc).bind fun r1 =>
  if r1 ≤ x2 then
    some x1
  else
    if ix x2 11 then
      if (rm x2.toNatClampNeg) = (-1) then
        if x1 = (-1) then
          f_X1_firstWithoutRoom_4 n wb wc rm x2 (x2 + 1)
        else
          (f_X0_begin wb wc x2).bind fun r6 =>
          (f_X0_begin wb wc x1).bind fun r7 =>
          if r7 ≤ r6 then
            f_X1_firstWithoutRoom_4 n wb wc rm x1 (x2 + 1)
          else
            f_X1_firstWithoutRoom_4 n wb wc rm x2 (x2 + 1)
      else
        f_X1_firstWithoutRoom_4 n wb wc rm x1 (x2 + 1)
    else none := rfl
def f_X1_firstWithoutRoom (wb : Nat → Int64) (wc : Int32) (rm : Nat → Int32) : Option (Int32) :=
  f_X1_firstWithoutRoom_4 24 wb wc rm (-1) 0
theorem f_X1_firstWithoutRoom_e {wb : Nat → Int64} {wc : Int32} {rm : Nat → Int32} : f_X1_firstWithoutRoom wb wc rm = 
  f_X1_firstWithoutRoom_4 24 wb wc rm (-1) 0 := rfl
set_option maxHeartbeats 4000000 in
set_option maxRecDepth 100000 in
theorem c_X1_firstWithoutRoom (l : Launch) (dC : Nat → ClassId) (dI : Nat → Nat → Nat) (cB cI cJ cZ : ClassId) (a : Nat → Nat) (sz : Nat) (ce : Nat → Int64) (fr : Int64) (un : Int64) (sb : Nat → Int64) (se : Nat → Int64) (so : Nat → Int32) (sc : Int32) (wb : Nat → Int64) (we : Nat → Int64) (wo : Nat → Int32) (wc : Int32) (fb : Nat → Int64) (fe : Nat → Int64) (fo : Nat → Int32) (fc : Int32) (rm : Nat → Int32) (ac : Int32) (rf : Int32) (kn : Int32) (res : Int32) (hf : f_X1_firstWithoutRoom wb wc rm = some res) : Met l yX1_firstWithoutRoom wsX1_firstWithoutRoom ({ frames := 2, cells := 0, slots := 0, locals := 42 } : Room) (kPre (dC, dI) (kTy cB cI cJ cZ) [.ref (a 0)] sz (wSB cI cJ cZ a ce fr un sb se so sc wb we wo wc fb fe fo fc rm ac rf kn)) (kI (dC, dI) .int (res) (wSB cI cJ cZ a ce fr un sb se so sc wb we wo wc fb fe fo fc rm ac rf kn) (va_A (wSB cI cJ cZ a ce fr un sb se so sc wb we wo wc fb fe fo fc rm ac rf kn) sz)) 0 0 (va_A (wSB cI cJ cZ a ce fr un sb se so sc wb we wo wc fb fe fo fc rm ac rf kn) sz) := by
  refine Met.ofW (cc := cX1_firstWithoutRoom) (maxL := 3) (ret := (some .int)) (by decide) rfl ?_
  intro p e s m args below meth c s₁ B hml hv
  obtain ⟨rfl, hsz, hP, hK, hD0, hG⟩ := hv
  have hx := B.exec
  have hb := B.bytes
  have hr := B.returns
  have hts := atoms_spec (ws := wsX1_firstWithoutRoom) B.pre
  have hown : s.vm.findClass RX1 = some m.cls := findClass_of_methodNamed B.named
  have hlocks := B.notSynchronized
  subst hsz
  have hD := hD0.self (sz := s.heap.size)
  generalize hAe : va_A (wSB cI cJ cZ a ce fr un sb se so sc wb we wo wc fb fe fo fc rm ac rf kn) s.heap.size = A at hD ⊢
  have hA : ∀ q : Nat, s.heap.size ≤ q → A q := fun q h => by rw [← hAe]; exact Or.inr h
  have hS : va_S A s.heap s.heap [] := va_S.rf
  clear hAe
  have hw0 := hts (.fieldLink RX1 29 "Spanbooker" "wishRow" "LSpanbooker$Row;") (List.mem_cons_of_mem _ kw_111)
  have hw1 := hts (.fieldLink RX1 35 "Spanbooker" "roomOf" "[I") (List.mem_cons_of_mem _ kw_113)
  have hiX1 : ∀ w ∈ u_ws RX1 TX1 10, w ∈ wsX1_firstWithoutRoom := fun w h => List.mem_cons_of_mem _ (ku_X1 w h)
  have J4 : ∀ (n : Nat), ∀ (ce : Nat → Int64) (fr : Int64) (un : Int64) (sb : Nat → Int64) (se : Nat → Int64) (so : Nat → Int32) (sc : Int32) (wb : Nat → Int64) (we : Nat → Int64) (wo : Nat → Int32) (wc : Int32) (fb : Nat → Int64) (fe : Nat → Int64) (fo : Nat → Int32) (fc : Int32) (rm : Nat → Int32) (ac : Int32) (rf : Int32) (kn : Int32) (x1 : Int32) (x2 : Int32) (H : Heap) (locs : List Loc), va_P (dC, dI) vwCl (wSB cI cJ cZ a ce fr un sb se so sc wb we wo wc fb fe fo fc rm ac rf kn) H → va_D A (wSB cI cJ cZ a ce fr un sb se so sc wb we wo wc fb fe fo fc rm ac rf kn) → va_S A s.heap H locs → ∀ (ls : Array Slot), lv_has ls 3 [(0, .ref (a 0)), (1, .int x1), (2, .int x2)] → f_X1_firstWithoutRoom_4 n wb wc rm x1 x2 = some res → W p l e (headSpec wsX1_firstWithoutRoom ({ frames := 2, cells := 0, slots := 0, locals := 42 } : Room)).room s m ([.ref (a 0)] : List Value).toArray below meth c H locs 0 0 (MQ below (kI (dC, dI) .int (res) (wSB cI cJ cZ a ce fr un sb se so sc wb we wo wc fb fe fo fc rm ac rf kn) A) ([.ref (a 0)] : List Value).toArray s 0 0 A) (F0 m 4 ls []) := by
    intro n
    induction n with
    | zero =>
      intro ce fr un sb se so sc wb we wo wc fb fe fo fc rm ac rf kn x1 x2 H locs hP hD hS ls hl h
      have h := f_X1_firstWithoutRoom_4_0.symm.trans h
      cases h
    | succ n ih =>
      intro ce fr un sb se so sc wb we wo wc fb fe fo fc rm ac rf kn x1 x2 H locs hP hD hS ls hl h
      have h := f_X1_firstWithoutRoom_4_s.symm.trans h
      refine lv_iload_n hx hb dX1_firstWithoutRoom_4 rfl (lv_at hl 2 rfl) ?_
      refine lv_aload_n hx hb dX1_firstWithoutRoom_5 rfl (lv_at hl 0 rfl) ?_
      refine va_get (D := (dC, dI)) (ci := 3) (v := .ref (a 6)) (C := RX1) (T := TX1) (N := 10) hx hb hts hiX1 hown hK hP 0 rfl rfl 4 (by decide) hw0 (fun _ h9 => h9) rfl dX1_firstWithoutRoom_6 ?_
      obtain ⟨r1, g1, h⟩ := g_b h
      refine kcall_i (wSB cI cJ cZ a ce fr un sb se so sc wb we wo wc fb fe fo fc rm ac rf kn) (va_runV (As := []) (rest := [.int x2]) ⟨hx, hb, hml, hown, hts⟩ (c_X0_count l dC dI cB cI cJ cZ (a 6) (a 7) (a 8) (a 9) _ wb we wo wc  r1 g1) (kcwV hts kw_155 kv_X0_count rfl rfl ⟨(Nat.le_of_ble_eq_true rfl), (Nat.le_of_ble_eq_true rfl)⟩) (kpV (A := A) (hP.sub (kIT mk_17 0) (km_f (m := mk_17) rfl rfl)) hK (hD.sub (kIT mk_17 0) (km_nd mk_17) (km_T (m := mk_17) rfl rfl)) hG (va_recv hK hP (ci := 2) (q0 := 6) rfl rfl)) rfl rfl hl.1 rfl (lv_room (Nat.le_of_ble_eq_true rfl)) dX1_firstWithoutRoom_9 ⟨(Nat.le_of_ble_eq_true rfl), (Nat.le_of_ble_eq_true rfl)⟩) hP hD hS hA (kIT mk_17 0) (kIT mk_18 0) (km_T (m := mk_17) rfl rfl) (km_T (m := mk_17) rfl rfl) [((a 0), .inr (3, [.ref (a 1), .long fr, .long un, .ref (a 2), .ref (a 6), .ref (a 10), .ref (a 14), .int ac, .int rf, .int kn])), ((a 1), .inl (cJ, 4, .inr (.inl ce))), ((a 2), .inr (2, [.ref (a 3), .ref (a 4), .ref (a 5), .int sc])), ((a 3), .inl (cJ, 11, .inr (.inl sb))), ((a 4), .inl (cJ, 11, .inr (.inl se))), ((a 5), .inl (cZ, 11, .inl so)), ((a 10), .inr (2, [.ref (a 11), .ref (a 12), .ref (a 13), .int fc])), ((a 11), .inl (cJ, 11, .inr (.inl fb))), ((a 12), .inl (cJ, 11, .inr (.inl fe))), ((a 13), .inl (cZ, 11, .inl fo)), ((a 14), .inl (cI, 11, .inl rm))] (km_T (m := mk_18) rfl rfl) (km_T (m := mk_18) rfl rfl) (km_cov (m := mk_17) (n := mk_18) rfl rfl) (km_dis (m := mk_17) (n := mk_18) rfl) rfl (fun H locs hP hD hS br1 => ?_)
      refine lv_icmp_ge (tgt := 58) hx hb dX1_firstWithoutRoom_12 (by decide) (fun c2 => ?_) (fun c2 => ?_)
      · have h := g_t c2 h
        refine lv_iload_n hx hb dX1_firstWithoutRoom_58 rfl (lv_at hl 1 rfl) ?_
        have h := Option.some.inj h
        subst h
        exact kret_i (v := x1) hx hb hr rfl hlocks hS hP dX1_firstWithoutRoom_59
      · have h := g_f c2 h
        refine lv_aload_n hx hb dX1_firstWithoutRoom_15 rfl (lv_at hl 0 rfl) ?_
        refine va_get (D := (dC, dI)) (ci := 3) (v := .ref (a 14)) (C := RX1) (T := TX1) (N := 10) hx hb hts hiX1 hown hK hP 0 rfl rfl 6 (by decide) hw1 (fun _ h9 => h9) rfl dX1_firstWithoutRoom_16 ?_
        refine lv_iload_n hx hb dX1_firstWithoutRoom_19 rfl (lv_at hl 2 rfl) ?_
        obtain ⟨z2, h⟩ := g_if h
        refine va_iald hx hb hK hP 14 1 rfl rfl (ix_in z2) dX1_firstWithoutRoom_20 ?_
        refine lv_iconst (v := (-1)) hx hb dX1_firstWithoutRoom_21 (by decide) ?_
        refine lv_icmp_ne (tgt := 52) hx hb dX1_firstWithoutRoom_22 (by decide) (fun c4 => ?_) (fun c4 => ?_)
        · have h := g_f c4 h
          refine lv_iinc (v := x2 + 1) (lv' := [(2, .int (x2 + 1)), (0, .ref (a 0)), (1, .int x1)]) hx hb dX1_firstWithoutRoom_52 hl (k := 2) rfl rfl (by decide) rfl (fun ls hl => ?_)
          refine lv_goto (tgt := 4) hx hb dX1_firstWithoutRoom_55 (by decide) ?_
          exact ih ce fr un sb se so sc wb we wo wc fb fe fo fc rm ac rf kn x1 (x2 + 1) _ _ hP hD hS ls (lv_sub hl [1, 2, 0] rfl) h
        · have h := g_t c4 h
          refine lv_iload_n hx hb dX1_firstWithoutRoom_25 rfl (lv_at hl 1 rfl) ?_
          refine lv_iconst (v := (-1)) hx hb dX1_firstWithoutRoom_26 (by decide) ?_
          refine lv_icmp_eq (tgt := 50) hx hb dX1_firstWithoutRoom_27 (by decide) (fun c5 => ?_) (fun c5 => ?_)
          · have h := g_t c5 h
            refine lv_iload_n hx hb dX1_firstWithoutRoom_50 rfl (lv_at hl 2 rfl) ?_
            refine lv_istore_n (lv' := [(1, .int x2), (0, .ref (a 0)), (2, .int x2)]) hx hb dX1_firstWithoutRoom_51 rfl hl (by decide) rfl (fun ls hl => ?_)
            refine lv_iinc (v := x2 + 1) (lv' := [(2, .int (x2 + 1)), (1, .int x2), (0, .ref (a 0))]) hx hb dX1_firstWithoutRoom_52 hl (k := 2) rfl rfl (by decide) rfl (fun ls hl => ?_)
            refine lv_goto (tgt := 4) hx hb dX1_firstWithoutRoom_55 (by decide) ?_
            exact ih ce fr un sb se so sc wb we wo wc fb fe fo fc rm ac rf kn x2 (x2 + 1) _ _ hP hD hS ls (lv_sub hl [2, 1, 0] rfl) h
          · have h := g_f c5 h
            refine lv_aload_n hx hb dX1_firstWithoutRoom_30 rfl (lv_at hl 0 rfl) ?_
            refine va_get (D := (dC, dI)) (ci := 3) (v := .ref (a 6)) (C := RX1) (T := TX1) (N := 10) hx hb hts hiX1 hown hK hP 0 rfl rfl 4 (by decide) hw0 (fun _ h9 => h9) rfl dX1_firstWithoutRoom_31 ?_
            refine lv_iload_n hx hb dX1_firstWithoutRoom_34 rfl (lv_at hl 2 rfl) ?_
            obtain ⟨r6, g6, h⟩ := g_b h
            refine kcall_l (wSB cI cJ cZ a ce fr un sb se so sc wb we wo wc fb fe fo fc rm ac rf kn) (va_runV (As := [.int x2]) (rest := []) ⟨hx, hb, hml, hown, hts⟩ (c_X0_begin l dC dI cB cI cJ cZ (a 6) (a 7) (a 8) (a 9) _ wb we wo wc x2 r6 g6) (kcwV hts kw_251 kv_X0_begin rfl rfl ⟨(Nat.le_of_ble_eq_true rfl), (Nat.le_of_ble_eq_true rfl)⟩) (kpV (A := A) (hP.sub (kIT mk_17 0) (km_f (m := mk_17) rfl rfl)) hK (hD.sub (kIT mk_17 0) (km_nd mk_17) (km_T (m := mk_17) rfl rfl)) hG (va_recv hK hP (ci := 2) (q0 := 6) rfl rfl)) rfl rfl hl.1 rfl (lv_room (Nat.le_of_ble_eq_true rfl)) dX1_firstWithoutRoom_35 ⟨(Nat.le_of_ble_eq_true rfl), (Nat.le_of_ble_eq_true rfl)⟩) hP hD hS hA (kIT mk_17 0) (kIT mk_18 0) (km_T (m := mk_17) rfl rfl) (km_T (m := mk_17) rfl rfl) [((a 0), .inr (3, [.ref (a 1), .long fr, .long un, .ref (a 2), .ref (a 6), .ref (a 10), .ref (a 14), .int ac, .int rf, .int kn])), ((a 1), .inl (cJ, 4, .inr (.inl ce))), ((a 2), .inr (2, [.ref (a 3), .ref (a 4), .ref (a 5), .int sc])), ((a 3), .inl (cJ, 11, .inr (.inl sb))), ((a 4), .inl (cJ, 11, .inr (.inl se))), ((a 5), .inl (cZ, 11, .inl so)), ((a 10), .inr (2, [.ref (a 11), .ref (a 12), .ref (a 13), .int fc])), ((a 11), .inl (cJ, 11, .inr (.inl fb))), ((a 12), .inl (cJ, 11, .inr (.inl fe))), ((a 13), .inl (cZ, 11, .inl fo)), ((a 14), .inl (cI, 11, .inl rm))] (km_T (m := mk_18) rfl rfl) (km_T (m := mk_18) rfl rfl) (km_cov (m := mk_17) (n := mk_18) rfl rfl) (km_dis (m := mk_17) (n := mk_18) rfl) rfl (fun H locs hP hD hS => ?_)
            refine lv_aload_n hx hb dX1_firstWithoutRoom_38 rfl (lv_at hl 0 rfl) ?_
            refine va_get (D := (dC, dI)) (ci := 3) (v := .ref (a 6)) (C := RX1) (T := TX1) (N := 10) hx hb hts hiX1 hown hK hP 0 rfl rfl 4 (by decide) hw0 (fun _ h9 => h9) rfl dX1_firstWithoutRoom_39 ?_
            refine lv_iload_n hx hb dX1_firstWithoutRoom_42 rfl (lv_at hl 1 rfl) ?_
            obtain ⟨r7, g7, h⟩ := g_b h
            refine kcall_l (wSB cI cJ cZ a ce fr un sb se so sc wb we wo wc fb fe fo fc rm ac rf kn) (va_runV (As := [.int x1]) (rest := [.long r6]) ⟨hx, hb, hml, hown, hts⟩ (c_X0_begin l dC dI cB cI cJ cZ (a 6) (a 7) (a 8) (a 9) _ wb we wo wc x1 r7 g7) (kcwV hts kw_251 kv_X0_begin rfl rfl ⟨(Nat.le_of_ble_eq_true rfl), (Nat.le_of_ble_eq_true rfl)⟩) (kpV (A := A) (hP.sub (kIT mk_17 0) (km_f (m := mk_17) rfl rfl)) hK (hD.sub (kIT mk_17 0) (km_nd mk_17) (km_T (m := mk_17) rfl rfl)) hG (va_recv hK hP (ci := 2) (q0 := 6) rfl rfl)) rfl rfl hl.1 rfl (lv_room (Nat.le_of_ble_eq_true rfl)) dX1_firstWithoutRoom_43 ⟨(Nat.le_of_ble_eq_true rfl), (Nat.le_of_ble_eq_true rfl)⟩) hP hD hS hA (kIT mk_17 0) (kIT mk_18 0) (km_T (m := mk_17) rfl rfl) (km_T (m := mk_17) rfl rfl) [((a 0), .inr (3, [.ref (a 1), .long fr, .long un, .ref (a 2), .ref (a 6), .ref (a 10), .ref (a 14), .int ac, .int rf, .int kn])), ((a 1), .inl (cJ, 4, .inr (.inl ce))), ((a 2), .inr (2, [.ref (a 3), .ref (a 4), .ref (a 5), .int sc])), ((a 3), .inl (cJ, 11, .inr (.inl sb))), ((a 4), .inl (cJ, 11, .inr (.inl se))), ((a 5), .inl (cZ, 11, .inl so)), ((a 10), .inr (2, [.ref (a 11), .ref (a 12), .ref (a 13), .int fc])), ((a 11), .inl (cJ, 11, .inr (.inl fb))), ((a 12), .inl (cJ, 11, .inr (.inl fe))), ((a 13), .inl (cZ, 11, .inl fo)), ((a 14), .inl (cI, 11, .inl rm))] (km_T (m := mk_18) rfl rfl) (km_T (m := mk_18) rfl rfl) (km_cov (m := mk_17) (n := mk_18) rfl rfl) (km_dis (m := mk_17) (n := mk_18) rfl) rfl (fun H locs hP hD hS => ?_)
            refine kl_ge (pc := 46) (tgt := 52) hx hb dX1_firstWithoutRoom_46 dX1_firstWithoutRoom_47 (by decide) (fun c8 => ?_) (fun c8 => ?_)
            · have h := g_t c8 h
              refine lv_iinc (v := x2 + 1) (lv' := [(2, .int (x2 + 1)), (0, .ref (a 0)), (1, .int x1)]) hx hb dX1_firstWithoutRoom_52 hl (k := 2) rfl rfl (by decide) rfl (fun ls hl => ?_)
              refine lv_goto (tgt := 4) hx hb dX1_firstWithoutRoom_55 (by decide) ?_
              exact ih ce fr un sb se so sc wb we wo wc fb fe fo fc rm ac rf kn x1 (x2 + 1) _ _ hP hD hS ls (lv_sub hl [1, 2, 0] rfl) h
            · have h := g_f c8 h
              refine lv_iload_n hx hb dX1_firstWithoutRoom_50 rfl (lv_at hl 2 rfl) ?_
              refine lv_istore_n (lv' := [(1, .int x2), (0, .ref (a 0)), (2, .int x2)]) hx hb dX1_firstWithoutRoom_51 rfl hl (by decide) rfl (fun ls hl => ?_)
              refine lv_iinc (v := x2 + 1) (lv' := [(2, .int (x2 + 1)), (1, .int x2), (0, .ref (a 0))]) hx hb dX1_firstWithoutRoom_52 hl (k := 2) rfl rfl (by decide) rfl (fun ls hl => ?_)
              refine lv_goto (tgt := 4) hx hb dX1_firstWithoutRoom_55 (by decide) ?_
              exact ih ce fr un sb se so sc wb we wo wc fb fe fo fc rm ac rf kn x2 (x2 + 1) _ _ hP hD hS ls (lv_sub hl [2, 1, 0] rfl) h
  have hl := lv_entry ([.ref (a 0)]) (n := 3) (Nat.le_of_ble_eq_true rfl)
  rw [lg_entry_eq]
  generalize (lg_sl ([.ref (a 0)]) ++ List.replicate (3 - (lg_sl ([.ref (a 0)])).length) Slot.unset).toArray = ls at hl ⊢
  have hl : lv_has ls 3 [(0, .ref (a 0))] := hl
  have h := f_X1_firstWithoutRoom_e.symm.trans hf
  refine lv_iconst (v := (-1)) hx hb dX1_firstWithoutRoom_0 (by decide) ?_
  refine lv_istore_n (lv' := [(1, .int (-1)), (0, .ref (a 0))]) hx hb dX1_firstWithoutRoom_1 rfl hl (by decide) rfl (fun ls hl => ?_)
  refine lv_iconst (v := 0) hx hb dX1_firstWithoutRoom_2 (by decide) ?_
  refine lv_istore_n (lv' := [(2, .int 0), (1, .int (-1)), (0, .ref (a 0))]) hx hb dX1_firstWithoutRoom_3 rfl hl (by decide) rfl (fun ls hl => ?_)
  exact J4 24 ce fr un sb se so sc wb we wo wc fb fe fo fc rm ac rf kn (-1) 0 _ _ hP hD hS ls (lv_sub hl [2, 1, 0] rfl) h
abbrev wsX1_smallestRoom : List Cond := kWs yX1_smallestRoom cX1_smallestRoom 4 (some .int)
def f_X1_smallestRoom_56 : Nat → (Int32) → (Int32) → Option (Int32)
  | 0, _, _ => none
  | n + 1, x2, x3 =>
    if 8 ≤ x3 then
      some x3
    else
      if ((x2 >>> (x3 &&& 31)) &&& 1) = 1 then
        f_X1_smallestRoom_56 n x2 (x3 + 1)
      else
        some x3
theorem f_X1_smallestRoom_56_0 {x2 : Int32} {x3 : Int32} : f_X1_smallestRoom_56 0 x2 x3 = none := rfl
theorem f_X1_smallestRoom_56_s {n : Nat} {x2 : Int32} {x3 : Int32} : f_X1_smallestRoom_56 (n + 1) x2 x3 =
  if 8 ≤ x3 then
    some x3
  else
    if ((x2 >>> (x3 &&& 31)) &&& 1) = 1 then
      f_X1_smallestRoom_56 n x2 (x3 + 1)
    else
      some x3 := rfl
def f_X1_smallestRoom_4 : Nat → (Nat → Int64) → (Nat → Int64) → (Int32) → (Nat → Int32) → (Int32) → (Int32) → (Int32) → Option (Int32)
  | 0, _, _, _, _, _, _, _ => none
  | n + 1, wb, we, wc, rm, x1, x2, x3 =>
    (f_X0_count wc).bind fun r1 =>
    if r1 ≤ x3 then
      f_X1_smallestRoom_56 24 x2 0
    else
      if ix x3 11 then
        if (rm x3.toNatClampNeg) = (-1) then
          f_X1_smallestRoom_4 n wb we wc rm x1 x2 (x3 + 1)
        else
          (f_X0_doMeet wb we wc x1 x3).bind fun r5 =>
          if r5 = 0 then
            f_X1_smallestRoom_4 n wb we wc rm x1 x2 (x3 + 1)
          else
            f_X1_smallestRoom_4 n wb we wc rm x1 (x2 ||| (1 <<< ((rm x3.toNatClampNeg) &&& 31))) (x3 + 1)
      else none
theorem f_X1_smallestRoom_4_0 {wb : Nat → Int64} {we : Nat → Int64} {wc : Int32} {rm : Nat → Int32} {x1 : Int32} {x2 : Int32} {x3 : Int32} : f_X1_smallestRoom_4 0 wb we wc rm x1 x2 x3 = none := rfl
theorem f_X1_smallestRoom_4_s {n : Nat} {wb : Nat → Int64} {we : Nat → Int64} {wc : Int32} {rm : Nat → Int32} {x1 : Int32} {x2 : Int32} {x3 : Int32} : f_X1_smallestRoom_4 (n + 1) wb we wc rm x1 x2 x3 =
  (f_X0_count wc).bind fun r1 =>
  if r1 ≤ x3 then
    f_X1_smallestRoom_56 24 x2 0
  else
    if ix x3 11 then
      if (rm x3.toNatClampNeg) = (-1) then
        f_X1_smallestRoom_4 n wb we wc rm x1 x2 (x3 + 1)
      else
        (f_X0_doMeet wb we wc x1 x3).bind fun r5 =>
        if r5 = 0 then
          f_X1_smallestRoom_4 n wb we wc rm x1 x2 (x3 + 1)
        else
          f_X1_smallestRoom_4 n wb we wc rm x1 (x2 ||| (1 <<< ((rm x3.toNatClampNeg) &&& 31))) (x3 + 1)
    else none := rfl
def f_X1_smallestRoom (wb : Nat → Int64) (we : Nat → Int64) (wc : Int32) (rm : Nat → Int32) (p0 : Int32) : Option (Int32) :=
  f_X1_smallestRoom_4 24 wb we wc rm p0 0 0
theorem f_X1_smallestRoom_e {wb : Nat → Int64} {we : Nat → Int64} {wc : Int32} {rm : Nat → Int32} {p0 : Int32} : f_X1_smallestRoom wb we wc rm p0 = 
  f_X1_smallestRoom_4 24 wb we wc rm p0 0 0 := rfl
set_option maxHeartbeats 4000000 in
set_option maxRecDepth 100000 in
theorem c_X1_smallestRoom (l : Launch) (dC : Nat → ClassId) (dI : Nat → Nat → Nat) (cB cI cJ cZ : ClassId) (a : Nat → Nat) (sz : Nat) (ce : Nat → Int64) (fr : Int64) (un : Int64) (sb : Nat → Int64) (se : Nat → Int64) (so : Nat → Int32) (sc : Int32) (wb : Nat → Int64) (we : Nat → Int64) (wo : Nat → Int32) (wc : Int32) (fb : Nat → Int64) (fe : Nat → Int64) (fo : Nat → Int32) (fc : Int32) (rm : Nat → Int32) (ac : Int32) (rf : Int32) (kn : Int32) (p0 : Int32) (res : Int32) (hf : f_X1_smallestRoom wb we wc rm p0 = some res) : Met l yX1_smallestRoom wsX1_smallestRoom ({ frames := 1, cells := 0, slots := 0, locals := 22 } : Room) (kPre (dC, dI) (kTy cB cI cJ cZ) [.ref (a 0), .int p0] sz (wSB cI cJ cZ a ce fr un sb se so sc wb we wo wc fb fe fo fc rm ac rf kn)) (kI (dC, dI) .int (res) (wSB cI cJ cZ a ce fr un sb se so sc wb we wo wc fb fe fo fc rm ac rf kn) (va_A (wSB cI cJ cZ a ce fr un sb se so sc wb we wo wc fb fe fo fc rm ac rf kn) sz)) 0 0 (va_A (wSB cI cJ cZ a ce fr un sb se so sc wb we wo wc fb fe fo fc rm ac rf kn) sz) := by
  refine Met.ofW (cc := cX1_smallestRoom) (maxL := 4) (ret := (some .int)) (by decide) rfl ?_
  intro p e s m args below meth c s₁ B hml hv
  obtain ⟨rfl, hsz, hP, hK, hD0, hG⟩ := hv
  have hx := B.exec
  have hb := B.bytes
  have hr := B.returns
  have hts := atoms_spec (ws := wsX1_smallestRoom) B.pre
  have hown : s.vm.findClass RX1 = some m.cls := findClass_of_methodNamed B.named
  have hlocks := B.notSynchronized
  subst hsz
  have hD := hD0.self (sz := s.heap.size)
  generalize hAe : va_A (wSB cI cJ cZ a ce fr un sb se so sc wb we wo wc fb fe fo fc rm ac rf kn) s.heap.size = A at hD ⊢
  have hA : ∀ q : Nat, s.heap.size ≤ q → A q := fun q h => by rw [← hAe]; exact Or.inr h
  have hS : va_S A s.heap s.heap [] := va_S.rf
  clear hAe
  have hw0 := hts (.fieldLink RX1 29 "Spanbooker" "wishRow" "LSpanbooker$Row;") (List.mem_cons_of_mem _ kw_111)
  have hw1 := hts (.fieldLink RX1 35 "Spanbooker" "roomOf" "[I") (List.mem_cons_of_mem _ kw_113)
  have hiX1 : ∀ w ∈ u_ws RX1 TX1 10, w ∈ wsX1_smallestRoom := fun w h => List.mem_cons_of_mem _ (ku_X1 w h)
  have J56 : ∀ (n : Nat), ∀ (ce : Nat → Int64) (fr : Int64) (un : Int64) (sb : Nat → Int64) (se : Nat → Int64) (so : Nat → Int32) (sc : Int32) (wb : Nat → Int64) (we : Nat → Int64) (wo : Nat → Int32) (wc : Int32) (fb : Nat → Int64) (fe : Nat → Int64) (fo : Nat → Int32) (fc : Int32) (rm : Nat → Int32) (ac : Int32) (rf : Int32) (kn : Int32) (x2 : Int32) (x3 : Int32) (H : Heap) (locs : List Loc), va_P (dC, dI) vwCl (wSB cI cJ cZ a ce fr un sb se so sc wb we wo wc fb fe fo fc rm ac rf kn) H → va_D A (wSB cI cJ cZ a ce fr un sb se so sc wb we wo wc fb fe fo fc rm ac rf kn) → va_S A s.heap H locs → ∀ (ls : Array Slot), lv_has ls 4 [(2, .int x2), (3, .int x3)] → f_X1_smallestRoom_56 n x2 x3 = some res → W p l e (headSpec wsX1_smallestRoom ({ frames := 1, cells := 0, slots := 0, locals := 22 } : Room)).room s m ([.ref (a 0), .int p0] : List Value).toArray below meth c H locs 0 0 (MQ below (kI (dC, dI) .int (res) (wSB cI cJ cZ a ce fr un sb se so sc wb we wo wc fb fe fo fc rm ac rf kn) A) ([.ref (a 0), .int p0] : List Value).toArray s 0 0 A) (F0 m 56 ls []) := by
    intro n
    induction n with
    | zero =>
      intro ce fr un sb se so sc wb we wo wc fb fe fo fc rm ac rf kn x2 x3 H locs hP hD hS ls hl h
      have h := f_X1_smallestRoom_56_0.symm.trans h
      cases h
    | succ n ih =>
      intro ce fr un sb se so sc wb we wo wc fb fe fo fc rm ac rf kn x2 x3 H locs hP hD hS ls hl h
      have h := f_X1_smallestRoom_56_s.symm.trans h
      refine lv_iload_n hx hb dX1_smallestRoom_56 rfl (lv_at hl 1 rfl) ?_
      refine lv_bipush (v := 8) hx hb dX1_smallestRoom_57 (by decide) ?_
      refine lv_icmp_ge (tgt := 77) hx hb dX1_smallestRoom_59 (by decide) (fun c1 => ?_) (fun c1 => ?_)
      · have h := g_t c1 h
        refine lv_iload_n hx hb dX1_smallestRoom_77 rfl (lv_at hl 1 rfl) ?_
        have h := Option.some.inj h
        subst h
        exact kret_i (v := x3) hx hb hr rfl hlocks hS hP dX1_smallestRoom_78
      · have h := g_f c1 h
        refine lv_iload_n hx hb dX1_smallestRoom_62 rfl (lv_at hl 0 rfl) ?_
        refine lv_iload_n hx hb dX1_smallestRoom_63 rfl (lv_at hl 1 rfl) ?_
        refine lv_ishr hx hb dX1_smallestRoom_64 ?_
        refine lv_iconst (v := 1) hx hb dX1_smallestRoom_65 (by decide) ?_
        refine lv_iand hx hb dX1_smallestRoom_66 ?_
        refine lv_iconst (v := 1) hx hb dX1_smallestRoom_67 (by decide) ?_
        refine lv_icmp_ne (tgt := 77) hx hb dX1_smallestRoom_68 (by decide) (fun c2 => ?_) (fun c2 => ?_)
        · have h := g_f c2 h
          refine lv_iload_n hx hb dX1_smallestRoom_77 rfl (lv_at hl 1 rfl) ?_
          have h := Option.some.inj h
          subst h
          exact kret_i (v := x3) hx hb hr rfl hlocks hS hP dX1_smallestRoom_78
        · have h := g_t c2 h
          refine lv_iinc (v := x3 + 1) (lv' := [(3, .int (x3 + 1)), (2, .int x2)]) hx hb dX1_smallestRoom_71 hl (k := 1) rfl rfl (by decide) rfl (fun ls hl => ?_)
          refine lv_goto (tgt := 56) hx hb dX1_smallestRoom_74 (by decide) ?_
          exact ih ce fr un sb se so sc wb we wo wc fb fe fo fc rm ac rf kn x2 (x3 + 1) _ _ hP hD hS ls (lv_sub hl [1, 0] rfl) h
  have J4 : ∀ (n : Nat), ∀ (ce : Nat → Int64) (fr : Int64) (un : Int64) (sb : Nat → Int64) (se : Nat → Int64) (so : Nat → Int32) (sc : Int32) (wb : Nat → Int64) (we : Nat → Int64) (wo : Nat → Int32) (wc : Int32) (fb : Nat → Int64) (fe : Nat → Int64) (fo : Nat → Int32) (fc : Int32) (rm : Nat → Int32) (ac : Int32) (rf : Int32) (kn : Int32) (x1 : Int32) (x2 : Int32) (x3 : Int32) (H : Heap) (locs : List Loc), va_P (dC, dI) vwCl (wSB cI cJ cZ a ce fr un sb se so sc wb we wo wc fb fe fo fc rm ac rf kn) H → va_D A (wSB cI cJ cZ a ce fr un sb se so sc wb we wo wc fb fe fo fc rm ac rf kn) → va_S A s.heap H locs → ∀ (ls : Array Slot), lv_has ls 4 [(0, .ref (a 0)), (1, .int x1), (2, .int x2), (3, .int x3)] → f_X1_smallestRoom_4 n wb we wc rm x1 x2 x3 = some res → W p l e (headSpec wsX1_smallestRoom ({ frames := 1, cells := 0, slots := 0, locals := 22 } : Room)).room s m ([.ref (a 0), .int p0] : List Value).toArray below meth c H locs 0 0 (MQ below (kI (dC, dI) .int (res) (wSB cI cJ cZ a ce fr un sb se so sc wb we wo wc fb fe fo fc rm ac rf kn) A) ([.ref (a 0), .int p0] : List Value).toArray s 0 0 A) (F0 m 4 ls []) := by
    intro n
    induction n with
    | zero =>
      intro ce fr un sb se so sc wb we wo wc fb fe fo fc rm ac rf kn x1 x2 x3 H locs hP hD hS ls hl h
      have h := f_X1_smallestRoom_4_0.symm.trans h
      cases h
    | succ n ih =>
      intro ce fr un sb se so sc wb we wo wc fb fe fo fc rm ac rf kn x1 x2 x3 H locs hP hD hS ls hl h
      have h := f_X1_smallestRoom_4_s.symm.trans h
      refine lv_iload_n hx hb dX1_smallestRoom_4 rfl (lv_at hl 3 rfl) ?_
      refine lv_aload_n hx hb dX1_smallestRoom_5 rfl (lv_at hl 0 rfl) ?_
      refine va_get (D := (dC, dI)) (ci := 3) (v := .ref (a 6)) (C := RX1) (T := TX1) (N := 10) hx hb hts hiX1 hown hK hP 0 rfl rfl 4 (by decide) hw0 (fun _ h9 => h9) rfl dX1_smallestRoom_6 ?_
      obtain ⟨r1, g1, h⟩ := g_b h
      refine kcall_i (wSB cI cJ cZ a ce fr un sb se so sc wb we wo wc fb fe fo fc rm ac rf kn) (va_runV (As := []) (rest := [.int x3]) ⟨hx, hb, hml, hown, hts⟩ (c_X0_count l dC dI cB cI cJ cZ (a 6) (a 7) (a 8) (a 9) _ wb we wo wc  r1 g1) (kcwV hts kw_155 kv_X0_count rfl rfl ⟨(Nat.le_of_ble_eq_true rfl), (Nat.le_of_ble_eq_true rfl)⟩) (kpV (A := A) (hP.sub (kIT mk_17 0) (km_f (m := mk_17) rfl rfl)) hK (hD.sub (kIT mk_17 0) (km_nd mk_17) (km_T (m := mk_17) rfl rfl)) hG (va_recv hK hP (ci := 2) (q0 := 6) rfl rfl)) rfl rfl hl.1 rfl (lv_room (Nat.le_of_ble_eq_true rfl)) dX1_smallestRoom_9 ⟨(Nat.le_of_ble_eq_true rfl), (Nat.le_of_ble_eq_true rfl)⟩) hP hD hS hA (kIT mk_17 0) (kIT mk_18 0) (km_T (m := mk_17) rfl rfl) (km_T (m := mk_17) rfl rfl) [((a 0), .inr (3, [.ref (a 1), .long fr, .long un, .ref (a 2), .ref (a 6), .ref (a 10), .ref (a 14), .int ac, .int rf, .int kn])), ((a 1), .inl (cJ, 4, .inr (.inl ce))), ((a 2), .inr (2, [.ref (a 3), .ref (a 4), .ref (a 5), .int sc])), ((a 3), .inl (cJ, 11, .inr (.inl sb))), ((a 4), .inl (cJ, 11, .inr (.inl se))), ((a 5), .inl (cZ, 11, .inl so)), ((a 10), .inr (2, [.ref (a 11), .ref (a 12), .ref (a 13), .int fc])), ((a 11), .inl (cJ, 11, .inr (.inl fb))), ((a 12), .inl (cJ, 11, .inr (.inl fe))), ((a 13), .inl (cZ, 11, .inl fo)), ((a 14), .inl (cI, 11, .inl rm))] (km_T (m := mk_18) rfl rfl) (km_T (m := mk_18) rfl rfl) (km_cov (m := mk_17) (n := mk_18) rfl rfl) (km_dis (m := mk_17) (n := mk_18) rfl) rfl (fun H locs hP hD hS br1 => ?_)
      refine lv_icmp_ge (tgt := 54) hx hb dX1_smallestRoom_12 (by decide) (fun c2 => ?_) (fun c2 => ?_)
      · have h := g_t c2 h
        refine lv_iconst (v := 0) hx hb dX1_smallestRoom_54 (by decide) ?_
        refine lv_istore_n (lv' := [(3, .int 0), (0, .ref (a 0)), (1, .int x1), (2, .int x2)]) hx hb dX1_smallestRoom_55 rfl hl (by decide) rfl (fun ls hl => ?_)
        exact J56 24 ce fr un sb se so sc wb we wo wc fb fe fo fc rm ac rf kn x2 0 _ _ hP hD hS ls (lv_sub hl [3, 0] rfl) h
      · have h := g_f c2 h
        refine lv_aload_n hx hb dX1_smallestRoom_15 rfl (lv_at hl 0 rfl) ?_
        refine va_get (D := (dC, dI)) (ci := 3) (v := .ref (a 14)) (C := RX1) (T := TX1) (N := 10) hx hb hts hiX1 hown hK hP 0 rfl rfl 6 (by decide) hw1 (fun _ h9 => h9) rfl dX1_smallestRoom_16 ?_
        refine lv_iload_n hx hb dX1_smallestRoom_19 rfl (lv_at hl 3 rfl) ?_
        obtain ⟨z2, h⟩ := g_if h
        refine va_iald hx hb hK hP 14 1 rfl rfl (ix_in z2) dX1_smallestRoom_20 ?_
        refine lv_iconst (v := (-1)) hx hb dX1_smallestRoom_21 (by decide) ?_
        refine lv_icmp_eq (tgt := 48) hx hb dX1_smallestRoom_22 (by decide) (fun c4 => ?_) (fun c4 => ?_)
        · have h := g_t c4 h
          refine lv_iinc (v := x3 + 1) (lv' := [(3, .int (x3 + 1)), (0, .ref (a 0)), (1, .int x1), (2, .int x2)]) hx hb dX1_smallestRoom_48 hl (k := 3) rfl rfl (by decide) rfl (fun ls hl => ?_)
          refine lv_goto (tgt := 4) hx hb dX1_smallestRoom_51 (by decide) ?_
          exact ih ce fr un sb se so sc wb we wo wc fb fe fo fc rm ac rf kn x1 x2 (x3 + 1) _ _ hP hD hS ls (lv_sub hl [1, 2, 3, 0] rfl) h
        · have h := g_f c4 h
          refine lv_aload_n hx hb dX1_smallestRoom_25 rfl (lv_at hl 0 rfl) ?_
          refine va_get (D := (dC, dI)) (ci := 3) (v := .ref (a 6)) (C := RX1) (T := TX1) (N := 10) hx hb hts hiX1 hown hK hP 0 rfl rfl 4 (by decide) hw0 (fun _ h9 => h9) rfl dX1_smallestRoom_26 ?_
          refine lv_iload_n hx hb dX1_smallestRoom_29 rfl (lv_at hl 1 rfl) ?_
          refine lv_iload_n hx hb dX1_smallestRoom_30 rfl (lv_at hl 3 rfl) ?_
          obtain ⟨r5, g5, h⟩ := g_b h
          refine kcall_i (wSB cI cJ cZ a ce fr un sb se so sc wb we wo wc fb fe fo fc rm ac rf kn) (va_runV (As := [.int x1, .int x3]) (rest := []) ⟨hx, hb, hml, hown, hts⟩ (c_X0_doMeet l dC dI cB cI cJ cZ (a 6) (a 7) (a 8) (a 9) _ wb we wo wc x1 x3 r5 g5) (kcwV hts kw_163 kv_X0_doMeet rfl rfl ⟨(Nat.le_of_ble_eq_true rfl), (Nat.le_of_ble_eq_true rfl)⟩) (kpV (A := A) (hP.sub (kIT mk_17 0) (km_f (m := mk_17) rfl rfl)) hK (hD.sub (kIT mk_17 0) (km_nd mk_17) (km_T (m := mk_17) rfl rfl)) hG (va_recv hK hP (ci := 2) (q0 := 6) rfl rfl)) rfl rfl hl.1 rfl (lv_room (Nat.le_of_ble_eq_true rfl)) dX1_smallestRoom_31 ⟨(Nat.le_of_ble_eq_true rfl), (Nat.le_of_ble_eq_true rfl)⟩) hP hD hS hA (kIT mk_17 0) (kIT mk_18 0) (km_T (m := mk_17) rfl rfl) (km_T (m := mk_17) rfl rfl) [((a 0), .inr (3, [.ref (a 1), .long fr, .long un, .ref (a 2), .ref (a 6), .ref (a 10), .ref (a 14), .int ac, .int rf, .int kn])), ((a 1), .inl (cJ, 4, .inr (.inl ce))), ((a 2), .inr (2, [.ref (a 3), .ref (a 4), .ref (a 5), .int sc])), ((a 3), .inl (cJ, 11, .inr (.inl sb))), ((a 4), .inl (cJ, 11, .inr (.inl se))), ((a 5), .inl (cZ, 11, .inl so)), ((a 10), .inr (2, [.ref (a 11), .ref (a 12), .ref (a 13), .int fc])), ((a 11), .inl (cJ, 11, .inr (.inl fb))), ((a 12), .inl (cJ, 11, .inr (.inl fe))), ((a 13), .inl (cZ, 11, .inl fo)), ((a 14), .inl (cI, 11, .inl rm))] (km_T (m := mk_18) rfl rfl) (km_T (m := mk_18) rfl rfl) (km_cov (m := mk_17) (n := mk_18) rfl rfl) (km_dis (m := mk_17) (n := mk_18) rfl) rfl (fun H locs hP hD hS br5 => ?_)
          refine lv_if_eq (tgt := 48) hx hb dX1_smallestRoom_34 (by decide) (fun c6 => ?_) (fun c6 => ?_)
          · have h := g_t c6 h
            refine lv_iinc (v := x3 + 1) (lv' := [(3, .int (x3 + 1)), (0, .ref (a 0)), (1, .int x1), (2, .int x2)]) hx hb dX1_smallestRoom_48 hl (k := 3) rfl rfl (by decide) rfl (fun ls hl => ?_)
            refine lv_goto (tgt := 4) hx hb dX1_smallestRoom_51 (by decide) ?_
            exact ih ce fr un sb se so sc wb we wo wc fb fe fo fc rm ac rf kn x1 x2 (x3 + 1) _ _ hP hD hS ls (lv_sub hl [1, 2, 3, 0] rfl) h
          · have h := g_f c6 h
            refine lv_iload_n hx hb dX1_smallestRoom_37 rfl (lv_at hl 2 rfl) ?_
            refine lv_iconst (v := 1) hx hb dX1_smallestRoom_38 (by decide) ?_
            refine lv_aload_n hx hb dX1_smallestRoom_39 rfl (lv_at hl 0 rfl) ?_
            refine va_get (D := (dC, dI)) (ci := 3) (v := .ref (a 14)) (C := RX1) (T := TX1) (N := 10) hx hb hts hiX1 hown hK hP 0 rfl rfl 6 (by decide) hw1 (fun _ h9 => h9) rfl dX1_smallestRoom_40 ?_
            refine lv_iload_n hx hb dX1_smallestRoom_43 rfl (lv_at hl 3 rfl) ?_
            refine va_iald hx hb hK hP 14 1 rfl rfl (ix_in z2) dX1_smallestRoom_44 ?_
            refine lv_ishl hx hb dX1_smallestRoom_45 ?_
            refine lv_ior hx hb dX1_smallestRoom_46 ?_
            refine lv_istore_n (lv' := [(2, .int (x2 ||| (1 <<< ((rm x3.toNatClampNeg) &&& 31)))), (0, .ref (a 0)), (1, .int x1), (3, .int x3)]) hx hb dX1_smallestRoom_47 rfl hl (by decide) rfl (fun ls hl => ?_)
            refine lv_iinc (v := x3 + 1) (lv' := [(3, .int (x3 + 1)), (2, .int (x2 ||| (1 <<< ((rm x3.toNatClampNeg) &&& 31)))), (0, .ref (a 0)), (1, .int x1)]) hx hb dX1_smallestRoom_48 hl (k := 3) rfl rfl (by decide) rfl (fun ls hl => ?_)
            refine lv_goto (tgt := 4) hx hb dX1_smallestRoom_51 (by decide) ?_
            exact ih ce fr un sb se so sc wb we wo wc fb fe fo fc rm ac rf kn x1 (x2 ||| (1 <<< ((rm x3.toNatClampNeg) &&& 31))) (x3 + 1) _ _ hP hD hS ls (lv_sub hl [2, 3, 1, 0] rfl) h
  have hl := lv_entry ([.ref (a 0), .int p0]) (n := 4) (Nat.le_of_ble_eq_true rfl)
  rw [lg_entry_eq]
  generalize (lg_sl ([.ref (a 0), .int p0]) ++ List.replicate (4 - (lg_sl ([.ref (a 0), .int p0])).length) Slot.unset).toArray = ls at hl ⊢
  have hl : lv_has ls 4 [(0, .ref (a 0)), (1, .int p0)] := hl
  have h := f_X1_smallestRoom_e.symm.trans hf
  refine lv_iconst (v := 0) hx hb dX1_smallestRoom_0 (by decide) ?_
  refine lv_istore_n (lv' := [(2, .int 0), (0, .ref (a 0)), (1, .int p0)]) hx hb dX1_smallestRoom_1 rfl hl (by decide) rfl (fun ls hl => ?_)
  refine lv_iconst (v := 0) hx hb dX1_smallestRoom_2 (by decide) ?_
  refine lv_istore_n (lv' := [(3, .int 0), (2, .int 0), (0, .ref (a 0)), (1, .int p0)]) hx hb dX1_smallestRoom_3 rfl hl (by decide) rfl (fun ls hl => ?_)
  exact J4 24 ce fr un sb se so sc wb we wo wc fb fe fo fc rm ac rf kn p0 0 0 _ _ hP hD hS ls (lv_sub hl [2, 3, 1, 0] rfl) h
abbrev wsX1_findRooms : List Cond := kWs yX1_findRooms cX1_findRooms 3 none
def f_X1_findRooms_23 : Nat → (Nat → Int64) → (Nat → Int64) → (Int32) → (Nat → Int32) → (Int32) → Option (Nat → Int32)
  | 0, _, _, _, _, _ => none
  | n + 1, wb, we, wc, rm, x1 =>
    (f_X0_count wc).bind fun r1 =>
    if r1 ≤ x1 then
      some rm
    else
      (f_X1_firstWithoutRoom wb wc rm).bind fun r3 =>
      if r3 = (-1) then
        f_X1_findRooms_23 n wb we wc rm (x1 + 1)
      else
        (f_X1_smallestRoom wb we wc rm r3).bind fun r5 =>
        if ix r3 11 then
          f_X1_findRooms_23 n wb we wc (upd rm r3.toNatClampNeg r5) (x1 + 1)
        else none
theorem f_X1_findRooms_23_0 {wb : Nat → Int64} {we : Nat → Int64} {wc : Int32} {rm : Nat → Int32} {x1 : Int32} : f_X1_findRooms_23 0 wb we wc rm x1 = none := rfl
theorem f_X1_findRooms_23_s {n : Nat} {wb : Nat → Int64} {we : Nat → Int64} {wc : Int32} {rm : Nat → Int32} {x1 : Int32} : f_X1_findRooms_23 (n + 1) wb we wc rm x1 =
  (f_X0_count wc).bind fun r1 =>
  if r1 ≤ x1 then
    some rm
  else
    (f_X1_firstWithoutRoom wb wc rm).bind fun r3 =>
    if r3 = (-1) then
      f_X1_findRooms_23 n wb we wc rm (x1 + 1)
    else
      (f_X1_smallestRoom wb we wc rm r3).bind fun r5 =>
      if ix r3 11 then
        f_X1_findRooms_23 n wb we wc (upd rm r3.toNatClampNeg r5) (x1 + 1)
      else none := rfl
def f_X1_findRooms_2 : Nat → (Nat → Int64) → (Nat → Int64) → (Int32) → (Nat → Int32) → (Int32) → Option (Nat → Int32)
  | 0, _, _, _, _, _ => none
  | n + 1, wb, we, wc, rm, x1 =>
    if 11 ≤ x1 then
      f_X1_findRooms_23 24 wb we wc rm 0
    else
      if ix x1 11 then
        f_X1_findRooms_2 n wb we wc (upd rm x1.toNatClampNeg (-1)) (x1 + 1)
      else none
theorem f_X1_findRooms_2_0 {wb : Nat → Int64} {we : Nat → Int64} {wc : Int32} {rm : Nat → Int32} {x1 : Int32} : f_X1_findRooms_2 0 wb we wc rm x1 = none := rfl
theorem f_X1_findRooms_2_s {n : Nat} {wb : Nat → Int64} {we : Nat → Int64} {wc : Int32} {rm : Nat → Int32} {x1 : Int32} : f_X1_findRooms_2 (n + 1) wb we wc rm x1 =
  if 11 ≤ x1 then
    f_X1_findRooms_23 24 wb we wc rm 0
  else
    if ix x1 11 then
      f_X1_findRooms_2 n wb we wc (upd rm x1.toNatClampNeg (-1)) (x1 + 1)
    else none := rfl
def f_X1_findRooms (wb : Nat → Int64) (we : Nat → Int64) (wc : Int32) (rm : Nat → Int32) : Option (Nat → Int32) :=
  f_X1_findRooms_2 24 wb we wc rm 0
theorem f_X1_findRooms_e {wb : Nat → Int64} {we : Nat → Int64} {wc : Int32} {rm : Nat → Int32} : f_X1_findRooms wb we wc rm = 
  f_X1_findRooms_2 24 wb we wc rm 0 := rfl
set_option maxHeartbeats 4000000 in
set_option maxRecDepth 100000 in
theorem c_X1_findRooms (l : Launch) (dC : Nat → ClassId) (dI : Nat → Nat → Nat) (cB cI cJ cZ : ClassId) (a : Nat → Nat) (sz : Nat) (ce : Nat → Int64) (fr : Int64) (un : Int64) (sb : Nat → Int64) (se : Nat → Int64) (so : Nat → Int32) (sc : Int32) (wb : Nat → Int64) (we : Nat → Int64) (wo : Nat → Int32) (wc : Int32) (fb : Nat → Int64) (fe : Nat → Int64) (fo : Nat → Int32) (fc : Int32) (rm : Nat → Int32) (ac : Int32) (rf : Int32) (kn : Int32) (res : Nat → Int32) (hf : f_X1_findRooms wb we wc rm = some res) : Met l yX1_findRooms wsX1_findRooms ({ frames := 3, cells := 0, slots := 0, locals := 64 } : Room) (kPre (dC, dI) (kTy cB cI cJ cZ) [.ref (a 0)] sz (wSB cI cJ cZ a ce fr un sb se so sc wb we wo wc fb fe fo fc rm ac rf kn)) (kV (dC, dI) (wSB cI cJ cZ a ce fr un sb se so sc wb we wo wc fb fe fo fc (res) ac rf kn) (va_A (wSB cI cJ cZ a ce fr un sb se so sc wb we wo wc fb fe fo fc rm ac rf kn) sz)) 0 0 (va_A (wSB cI cJ cZ a ce fr un sb se so sc wb we wo wc fb fe fo fc rm ac rf kn) sz) := by
  refine Met.ofW (cc := cX1_findRooms) (maxL := 3) (ret := none) (by decide) rfl ?_
  intro p e s m args below meth c s₁ B hml hv
  obtain ⟨rfl, hsz, hP, hK, hD0, hG⟩ := hv
  have hx := B.exec
  have hb := B.bytes
  have hr := B.returns
  have hts := atoms_spec (ws := wsX1_findRooms) B.pre
  have hown : s.vm.findClass RX1 = some m.cls := findClass_of_methodNamed B.named
  have hlocks := B.notSynchronized
  subst hsz
  have hD := hD0.self (sz := s.heap.size)
  generalize hAe : va_A (wSB cI cJ cZ a ce fr un sb se so sc wb we wo wc fb fe fo fc rm ac rf kn) s.heap.size = A at hD ⊢
  have hA : ∀ q : Nat, s.heap.size ≤ q → A q := fun q h => by rw [← hAe]; exact Or.inr h
  have hS : va_S A s.heap s.heap [] := va_S.rf
  clear hAe
  have hw0 := hts (.fieldLink RX1 29 "Spanbooker" "wishRow" "LSpanbooker$Row;") (List.mem_cons_of_mem _ kw_111)
  have hw1 := hts (.fieldLink RX1 35 "Spanbooker" "roomOf" "[I") (List.mem_cons_of_mem _ kw_113)
  have hiX1 : ∀ w ∈ u_ws RX1 TX1 10, w ∈ wsX1_findRooms := fun w h => List.mem_cons_of_mem _ (ku_X1 w h)
  have J23 : ∀ (n : Nat), ∀ (ce : Nat → Int64) (fr : Int64) (un : Int64) (sb : Nat → Int64) (se : Nat → Int64) (so : Nat → Int32) (sc : Int32) (wb : Nat → Int64) (we : Nat → Int64) (wo : Nat → Int32) (wc : Int32) (fb : Nat → Int64) (fe : Nat → Int64) (fo : Nat → Int32) (fc : Int32) (rm : Nat → Int32) (ac : Int32) (rf : Int32) (kn : Int32) (x1 : Int32) (H : Heap) (locs : List Loc), va_P (dC, dI) vwCl (wSB cI cJ cZ a ce fr un sb se so sc wb we wo wc fb fe fo fc rm ac rf kn) H → va_D A (wSB cI cJ cZ a ce fr un sb se so sc wb we wo wc fb fe fo fc rm ac rf kn) → va_S A s.heap H locs → ∀ (ls : Array Slot), lv_has ls 3 [(0, .ref (a 0)), (1, .int x1)] → f_X1_findRooms_23 n wb we wc rm x1 = some res → W p l e (headSpec wsX1_findRooms ({ frames := 3, cells := 0, slots := 0, locals := 64 } : Room)).room s m ([.ref (a 0)] : List Value).toArray below meth c H locs 0 0 (MQ below (kV (dC, dI) (wSB cI cJ cZ a ce fr un sb se so sc wb we wo wc fb fe fo fc (res) ac rf kn) A) ([.ref (a 0)] : List Value).toArray s 0 0 A) (F0 m 23 ls []) := by
    intro n
    induction n with
    | zero =>
      intro ce fr un sb se so sc wb we wo wc fb fe fo fc rm ac rf kn x1 H locs hP hD hS ls hl h
      have h := f_X1_findRooms_23_0.symm.trans h
      cases h
    | succ n ih =>
      intro ce fr un sb se so sc wb we wo wc fb fe fo fc rm ac rf kn x1 H locs hP hD hS ls hl h
      have h := f_X1_findRooms_23_s.symm.trans h
      refine lv_iload_n hx hb dX1_findRooms_23 rfl (lv_at hl 1 rfl) ?_
      refine lv_aload_n hx hb dX1_findRooms_24 rfl (lv_at hl 0 rfl) ?_
      refine va_get (D := (dC, dI)) (ci := 3) (v := .ref (a 6)) (C := RX1) (T := TX1) (N := 10) hx hb hts hiX1 hown hK hP 0 rfl rfl 4 (by decide) hw0 (fun _ h9 => h9) rfl dX1_findRooms_25 ?_
      obtain ⟨r1, g1, h⟩ := g_b h
      refine kcall_i (wSB cI cJ cZ a ce fr un sb se so sc wb we wo wc fb fe fo fc rm ac rf kn) (va_runV (As := []) (rest := [.int x1]) ⟨hx, hb, hml, hown, hts⟩ (c_X0_count l dC dI cB cI cJ cZ (a 6) (a 7) (a 8) (a 9) _ wb we wo wc  r1 g1) (kcwV hts kw_155 kv_X0_count rfl rfl ⟨(Nat.le_of_ble_eq_true rfl), (Nat.le_of_ble_eq_true rfl)⟩) (kpV (A := A) (hP.sub (kIT mk_17 0) (km_f (m := mk_17) rfl rfl)) hK (hD.sub (kIT mk_17 0) (km_nd mk_17) (km_T (m := mk_17) rfl rfl)) hG (va_recv hK hP (ci := 2) (q0 := 6) rfl rfl)) rfl rfl hl.1 rfl (lv_room (Nat.le_of_ble_eq_true rfl)) dX1_findRooms_28 ⟨(Nat.le_of_ble_eq_true rfl), (Nat.le_of_ble_eq_true rfl)⟩) hP hD hS hA (kIT mk_17 0) (kIT mk_18 0) (km_T (m := mk_17) rfl rfl) (km_T (m := mk_17) rfl rfl) [((a 0), .inr (3, [.ref (a 1), .long fr, .long un, .ref (a 2), .ref (a 6), .ref (a 10), .ref (a 14), .int ac, .int rf, .int kn])), ((a 1), .inl (cJ, 4, .inr (.inl ce))), ((a 2), .inr (2, [.ref (a 3), .ref (a 4), .ref (a 5), .int sc])), ((a 3), .inl (cJ, 11, .inr (.inl sb))), ((a 4), .inl (cJ, 11, .inr (.inl se))), ((a 5), .inl (cZ, 11, .inl so)), ((a 10), .inr (2, [.ref (a 11), .ref (a 12), .ref (a 13), .int fc])), ((a 11), .inl (cJ, 11, .inr (.inl fb))), ((a 12), .inl (cJ, 11, .inr (.inl fe))), ((a 13), .inl (cZ, 11, .inl fo)), ((a 14), .inl (cI, 11, .inl rm))] (km_T (m := mk_18) rfl rfl) (km_T (m := mk_18) rfl rfl) (km_cov (m := mk_17) (n := mk_18) rfl rfl) (km_dis (m := mk_17) (n := mk_18) rfl) rfl (fun H locs hP hD hS br1 => ?_)
      refine lv_icmp_ge (tgt := 61) hx hb dX1_findRooms_31 (by decide) (fun c2 => ?_) (fun c2 => ?_)
      · have h := g_t c2 h
        have h := Option.some.inj h
        subst h
        exact kret_v hx hb hr hlocks hS hP dX1_findRooms_61
      · have h := g_f c2 h
        refine lv_aload_n hx hb dX1_findRooms_34 rfl (lv_at hl 0 rfl) ?_
        obtain ⟨r3, g3, h⟩ := g_b h
        refine kcall_i (wSB cI cJ cZ a ce fr un sb se so sc wb we wo wc fb fe fo fc rm ac rf kn) (va_runV (As := []) (rest := []) ⟨hx, hb, hml, hown, hts⟩ (c_X1_firstWithoutRoom l dC dI cB cI cJ cZ a _ ce fr un sb se so sc wb we wo wc fb fe fo fc rm ac rf kn  r3 g3) (kcwV hts kw_247 kv_X1_firstWithoutRoom rfl rfl ⟨(Nat.le_of_ble_eq_true rfl), (Nat.le_of_ble_eq_true rfl)⟩) (kpV (A := A) (hP.sub (kIT mk_14 0) (km_f (m := mk_14) rfl rfl)) hK (hD.sub (kIT mk_14 0) (km_nd mk_14) (km_T (m := mk_14) rfl rfl)) hG (va_recv hK hP (ci := 3) (q0 := 0) rfl rfl)) rfl rfl hl.1 rfl (lv_room (Nat.le_of_ble_eq_true rfl)) dX1_findRooms_35 ⟨(Nat.le_of_ble_eq_true rfl), (Nat.le_of_ble_eq_true rfl)⟩) hP hD hS hA (kIT mk_14 0) (kIT mk_13 0) (km_T (m := mk_14) rfl rfl) (km_T (m := mk_14) rfl rfl) [] (km_T (m := mk_13) rfl rfl) (km_T (m := mk_13) rfl rfl) (km_cov (m := mk_14) (n := mk_13) rfl rfl) (km_dis (m := mk_14) (n := mk_13) rfl) rfl (fun H locs hP hD hS br3 => ?_)
        refine lv_istore_n (lv' := [(2, .int r3), (0, .ref (a 0)), (1, .int x1)]) hx hb dX1_findRooms_38 rfl hl (by decide) rfl (fun ls hl => ?_)
        refine lv_iload_n hx hb dX1_findRooms_39 rfl (lv_at hl 0 rfl) ?_
        refine lv_iconst (v := (-1)) hx hb dX1_findRooms_40 (by decide) ?_
        refine lv_icmp_eq (tgt := 55) hx hb dX1_findRooms_41 (by decide) (fun c4 => ?_) (fun c4 => ?_)
        · have h := g_t c4 h
          refine lv_iinc (v := x1 + 1) (lv' := [(1, .int (x1 + 1)), (2, .int r3), (0, .ref (a 0))]) hx hb dX1_findRooms_55 hl (k := 2) rfl rfl (by decide) rfl (fun ls hl => ?_)
          refine lv_goto (tgt := 23) hx hb dX1_findRooms_58 (by decide) ?_
          exact ih ce fr un sb se so sc wb we wo wc fb fe fo fc rm ac rf kn (x1 + 1) _ _ hP hD hS ls (lv_sub hl [2, 0] rfl) h
        · have h := g_f c4 h
          refine lv_aload_n hx hb dX1_findRooms_44 rfl (lv_at hl 1 rfl) ?_
          refine va_get (D := (dC, dI)) (ci := 3) (v := .ref (a 14)) (C := RX1) (T := TX1) (N := 10) hx hb hts hiX1 hown hK hP 0 rfl rfl 6 (by decide) hw1 (fun _ h9 => h9) rfl dX1_findRooms_45 ?_
          refine lv_iload_n hx hb dX1_findRooms_48 rfl (lv_at hl 0 rfl) ?_
          refine lv_aload_n hx hb dX1_findRooms_49 rfl (lv_at hl 1 rfl) ?_
          refine lv_iload_n hx hb dX1_findRooms_50 rfl (lv_at hl 0 rfl) ?_
          obtain ⟨r5, g5, h⟩ := g_b h
          refine kcall_i (wSB cI cJ cZ a ce fr un sb se so sc wb we wo wc fb fe fo fc rm ac rf kn) (va_runV (As := [.int r3]) (rest := [.int r3, .ref (a 14)]) ⟨hx, hb, hml, hown, hts⟩ (c_X1_smallestRoom l dC dI cB cI cJ cZ a _ ce fr un sb se so sc wb we wo wc fb fe fo fc rm ac rf kn r3 r5 g5) (kcwV hts kw_255 kv_X1_smallestRoom rfl rfl ⟨(Nat.le_of_ble_eq_true rfl), (Nat.le_of_ble_eq_true rfl)⟩) (kpV (A := A) (hP.sub (kIT mk_14 0) (km_f (m := mk_14) rfl rfl)) hK (hD.sub (kIT mk_14 0) (km_nd mk_14) (km_T (m := mk_14) rfl rfl)) hG (va_recv hK hP (ci := 3) (q0 := 0) rfl rfl)) rfl rfl hl.1 rfl (lv_room (Nat.le_of_ble_eq_true rfl)) dX1_findRooms_51 ⟨(Nat.le_of_ble_eq_true rfl), (Nat.le_of_ble_eq_true rfl)⟩) hP hD hS hA (kIT mk_14 0) (kIT mk_13 0) (km_T (m := mk_14) rfl rfl) (km_T (m := mk_14) rfl rfl) [] (km_T (m := mk_13) rfl rfl) (km_T (m := mk_13) rfl rfl) (km_cov (m := mk_14) (n := mk_13) rfl rfl) (km_dis (m := mk_14) (n := mk_13) rfl) rfl (fun H locs hP hD hS br5 => ?_)
          obtain ⟨z5, h⟩ := g_if h
          refine va_iast hx hb hK hP hD hS 14 1 rfl rfl (ix_in z5) dX1_findRooms_54 (fun H locs hP hD hS => ?_)
          have hP : va_P (dC, dI) vwCl (wSB cI cJ cZ a ce fr un sb se so sc wb we wo wc fb fe fo fc (upd rm r3.toNatClampNeg r5) ac rf kn) H := hP
          have hD : va_D A (wSB cI cJ cZ a ce fr un sb se so sc wb we wo wc fb fe fo fc (upd rm r3.toNatClampNeg r5) ac rf kn) := hD
          refine lv_iinc (v := x1 + 1) (lv' := [(1, .int (x1 + 1)), (2, .int r3), (0, .ref (a 0))]) hx hb dX1_findRooms_55 hl (k := 2) rfl rfl (by decide) rfl (fun ls hl => ?_)
          refine lv_goto (tgt := 23) hx hb dX1_findRooms_58 (by decide) ?_
          exact ih ce fr un sb se so sc wb we wo wc fb fe fo fc (upd rm r3.toNatClampNeg r5) ac rf kn (x1 + 1) _ _ hP hD hS ls (lv_sub hl [2, 0] rfl) h
  have J2 : ∀ (n : Nat), ∀ (ce : Nat → Int64) (fr : Int64) (un : Int64) (sb : Nat → Int64) (se : Nat → Int64) (so : Nat → Int32) (sc : Int32) (wb : Nat → Int64) (we : Nat → Int64) (wo : Nat → Int32) (wc : Int32) (fb : Nat → Int64) (fe : Nat → Int64) (fo : Nat → Int32) (fc : Int32) (rm : Nat → Int32) (ac : Int32) (rf : Int32) (kn : Int32) (x1 : Int32) (H : Heap) (locs : List Loc), va_P (dC, dI) vwCl (wSB cI cJ cZ a ce fr un sb se so sc wb we wo wc fb fe fo fc rm ac rf kn) H → va_D A (wSB cI cJ cZ a ce fr un sb se so sc wb we wo wc fb fe fo fc rm ac rf kn) → va_S A s.heap H locs → ∀ (ls : Array Slot), lv_has ls 3 [(0, .ref (a 0)), (1, .int x1)] → f_X1_findRooms_2 n wb we wc rm x1 = some res → W p l e (headSpec wsX1_findRooms ({ frames := 3, cells := 0, slots := 0, locals := 64 } : Room)).room s m ([.ref (a 0)] : List Value).toArray below meth c H locs 0 0 (MQ below (kV (dC, dI) (wSB cI cJ cZ a ce fr un sb se so sc wb we wo wc fb fe fo fc (res) ac rf kn) A) ([.ref (a 0)] : List Value).toArray s 0 0 A) (F0 m 2 ls []) := by
    intro n
    induction n with
    | zero =>
      intro ce fr un sb se so sc wb we wo wc fb fe fo fc rm ac rf kn x1 H locs hP hD hS ls hl h
      have h := f_X1_findRooms_2_0.symm.trans h
      cases h
    | succ n ih =>
      intro ce fr un sb se so sc wb we wo wc fb fe fo fc rm ac rf kn x1 H locs hP hD hS ls hl h
      have h := f_X1_findRooms_2_s.symm.trans h
      refine lv_iload_n hx hb dX1_findRooms_2 rfl (lv_at hl 1 rfl) ?_
      refine lv_bipush (v := 11) hx hb dX1_findRooms_3 (by decide) ?_
      refine lv_icmp_ge (tgt := 21) hx hb dX1_findRooms_5 (by decide) (fun c1 => ?_) (fun c1 => ?_)
      · have h := g_t c1 h
        refine lv_iconst (v := 0) hx hb dX1_findRooms_21 (by decide) ?_
        refine lv_istore_n (lv' := [(1, .int 0), (0, .ref (a 0))]) hx hb dX1_findRooms_22 rfl hl (by decide) rfl (fun ls hl => ?_)
        exact J23 24 ce fr un sb se so sc wb we wo wc fb fe fo fc rm ac rf kn 0 _ _ hP hD hS ls (lv_sub hl [1, 0] rfl) h
      · have h := g_f c1 h
        refine lv_aload_n hx hb dX1_findRooms_8 rfl (lv_at hl 0 rfl) ?_
        refine va_get (D := (dC, dI)) (ci := 3) (v := .ref (a 14)) (C := RX1) (T := TX1) (N := 10) hx hb hts hiX1 hown hK hP 0 rfl rfl 6 (by decide) hw1 (fun _ h9 => h9) rfl dX1_findRooms_9 ?_
        refine lv_iload_n hx hb dX1_findRooms_12 rfl (lv_at hl 1 rfl) ?_
        refine lv_iconst (v := (-1)) hx hb dX1_findRooms_13 (by decide) ?_
        obtain ⟨z1, h⟩ := g_if h
        refine va_iast hx hb hK hP hD hS 14 1 rfl rfl (ix_in z1) dX1_findRooms_14 (fun H locs hP hD hS => ?_)
        have hP : va_P (dC, dI) vwCl (wSB cI cJ cZ a ce fr un sb se so sc wb we wo wc fb fe fo fc (upd rm x1.toNatClampNeg (-1)) ac rf kn) H := hP
        have hD : va_D A (wSB cI cJ cZ a ce fr un sb se so sc wb we wo wc fb fe fo fc (upd rm x1.toNatClampNeg (-1)) ac rf kn) := hD
        refine lv_iinc (v := x1 + 1) (lv' := [(1, .int (x1 + 1)), (0, .ref (a 0))]) hx hb dX1_findRooms_15 hl (k := 1) rfl rfl (by decide) rfl (fun ls hl => ?_)
        refine lv_goto (tgt := 2) hx hb dX1_findRooms_18 (by decide) ?_
        exact ih ce fr un sb se so sc wb we wo wc fb fe fo fc (upd rm x1.toNatClampNeg (-1)) ac rf kn (x1 + 1) _ _ hP hD hS ls (lv_sub hl [1, 0] rfl) h
  have hl := lv_entry ([.ref (a 0)]) (n := 3) (Nat.le_of_ble_eq_true rfl)
  rw [lg_entry_eq]
  generalize (lg_sl ([.ref (a 0)]) ++ List.replicate (3 - (lg_sl ([.ref (a 0)])).length) Slot.unset).toArray = ls at hl ⊢
  have hl : lv_has ls 3 [(0, .ref (a 0))] := hl
  have h := f_X1_findRooms_e.symm.trans hf
  refine lv_iconst (v := 0) hx hb dX1_findRooms_0 (by decide) ?_
  refine lv_istore_n (lv' := [(1, .int 0), (0, .ref (a 0))]) hx hb dX1_findRooms_1 rfl hl (by decide) rfl (fun ls hl => ?_)
  exact J2 24 ce fr un sb se so sc wb we wo wc fb fe fo fc rm ac rf kn 0 _ _ hP hD hS ls (lv_sub hl [1, 0] rfl) h
abbrev wsX1_roomCount : List Cond := kWs yX1_roomCount cX1_roomCount 3 (some .int)
def f_X1_roomCount_4 : Nat → (Int32) → (Nat → Int32) → (Int32) → (Int32) → Option (Int32)
  | 0, _, _, _, _ => none
  | n + 1, wc, rm, x1, x2 =>
    (f_X0_count wc).bind fun r1 =>
    if r1 ≤ x2 then
      some x1
    else
      if ix x2 11 then
        f_X1_roomCount_4 n wc rm (if x1 < ((rm x2.toNatClampNeg) + 1) then (rm x2.toNatClampNeg) + 1 else x1) (x2 + 1)
      else none
theorem f_X1_roomCount_4_0 {wc : Int32} {rm : Nat → Int32} {x1 : Int32} {x2 : Int32} : f_X1_roomCount_4 0 wc rm x1 x2 = none := rfl
theorem f_X1_roomCount_4_s {n : Nat} {wc : Int32} {rm : Nat → Int32} {x1 : Int32} {x2 : Int32} : f_X1_roomCount_4 (n + 1) wc rm x1 x2 =
  (f_X0_count wc).bind fun r1 =>
  if r1 ≤ x2 then
    some x1
  else
    if ix x2 11 then
      f_X1_roomCount_4 n wc rm (if x1 < ((rm x2.toNatClampNeg) + 1) then (rm x2.toNatClampNeg) + 1 else x1) (x2 + 1)
    else none := rfl
def f_X1_roomCount (wc : Int32) (rm : Nat → Int32) : Option (Int32) :=
  f_X1_roomCount_4 24 wc rm 0 0
theorem f_X1_roomCount_e {wc : Int32} {rm : Nat → Int32} : f_X1_roomCount wc rm = 
  f_X1_roomCount_4 24 wc rm 0 0 := rfl
set_option maxHeartbeats 4000000 in
set_option maxRecDepth 100000 in
theorem c_X1_roomCount (l : Launch) (dC : Nat → ClassId) (dI : Nat → Nat → Nat) (cB cI cJ cZ : ClassId) (a : Nat → Nat) (sz : Nat) (ce : Nat → Int64) (fr : Int64) (un : Int64) (sb : Nat → Int64) (se : Nat → Int64) (so : Nat → Int32) (sc : Int32) (wb : Nat → Int64) (we : Nat → Int64) (wo : Nat → Int32) (wc : Int32) (fb : Nat → Int64) (fe : Nat → Int64) (fo : Nat → Int32) (fc : Int32) (rm : Nat → Int32) (ac : Int32) (rf : Int32) (kn : Int32) (res : Int32) (hf : f_X1_roomCount wc rm = some res) : Met l yX1_roomCount wsX1_roomCount ({ frames := 1, cells := 0, slots := 0, locals := 40 } : Room) (kPre (dC, dI) (kTy cB cI cJ cZ) [.ref (a 0)] sz (wSB cI cJ cZ a ce fr un sb se so sc wb we wo wc fb fe fo fc rm ac rf kn)) (kI (dC, dI) .int (res) (wSB cI cJ cZ a ce fr un sb se so sc wb we wo wc fb fe fo fc rm ac rf kn) (va_A (wSB cI cJ cZ a ce fr un sb se so sc wb we wo wc fb fe fo fc rm ac rf kn) sz)) 0 0 (va_A (wSB cI cJ cZ a ce fr un sb se so sc wb we wo wc fb fe fo fc rm ac rf kn) sz) := by
  refine Met.ofW (cc := cX1_roomCount) (maxL := 3) (ret := (some .int)) (by decide) rfl ?_
  intro p e s m args below meth c s₁ B hml hv
  obtain ⟨rfl, hsz, hP, hK, hD0, hG⟩ := hv
  have hx := B.exec
  have hb := B.bytes
  have hr := B.returns
  have hts := atoms_spec (ws := wsX1_roomCount) B.pre
  have hown : s.vm.findClass RX1 = some m.cls := findClass_of_methodNamed B.named
  have hlocks := B.notSynchronized
  subst hsz
  have hD := hD0.self (sz := s.heap.size)
  generalize hAe : va_A (wSB cI cJ cZ a ce fr un sb se so sc wb we wo wc fb fe fo fc rm ac rf kn) s.heap.size = A at hD ⊢
  have hA : ∀ q : Nat, s.heap.size ≤ q → A q := fun q h => by rw [← hAe]; exact Or.inr h
  have hS : va_S A s.heap s.heap [] := va_S.rf
  clear hAe
  have hw0 := hts (.fieldLink RX1 29 "Spanbooker" "wishRow" "LSpanbooker$Row;") (List.mem_cons_of_mem _ kw_111)
  have hw1 := hts (.fieldLink RX1 35 "Spanbooker" "roomOf" "[I") (List.mem_cons_of_mem _ kw_113)
  have hw2 := hts (.methodLink RX1 314 Lib.Math.max.name) (List.mem_cons_of_mem _ kw_263)
  have hw3 := hts (.static Lib.Math.max.name) (List.mem_cons_of_mem _ kw_176)
  have hw4 := hts (.initialized "java/lang/Math") (List.mem_cons_of_mem _ kw_66)
  have hw5 := hts (.code Lib.Math.max.name Lib.Math.max.code 2 (some .int)) (List.mem_cons_of_mem _ kw_177)
  have hiX1 : ∀ w ∈ u_ws RX1 TX1 10, w ∈ wsX1_roomCount := fun w h => List.mem_cons_of_mem _ (ku_X1 w h)
  have J4 : ∀ (n : Nat), ∀ (ce : Nat → Int64) (fr : Int64) (un : Int64) (sb : Nat → Int64) (se : Nat → Int64) (so : Nat → Int32) (sc : Int32) (wb : Nat → Int64) (we : Nat → Int64) (wo : Nat → Int32) (wc : Int32) (fb : Nat → Int64) (fe : Nat → Int64) (fo : Nat → Int32) (fc : Int32) (rm : Nat → Int32) (ac : Int32) (rf : Int32) (kn : Int32) (x1 : Int32) (x2 : Int32) (H : Heap) (locs : List Loc), va_P (dC, dI) vwCl (wSB cI cJ cZ a ce fr un sb se so sc wb we wo wc fb fe fo fc rm ac rf kn) H → va_D A (wSB cI cJ cZ a ce fr un sb se so sc wb we wo wc fb fe fo fc rm ac rf kn) → va_S A s.heap H locs → ∀ (ls : Array Slot), lv_has ls 3 [(0, .ref (a 0)), (1, .int x1), (2, .int x2)] → f_X1_roomCount_4 n wc rm x1 x2 = some res → W p l e (headSpec wsX1_roomCount ({ frames := 1, cells := 0, slots := 0, locals := 40 } : Room)).room s m ([.ref (a 0)] : List Value).toArray below meth c H locs 0 0 (MQ below (kI (dC, dI) .int (res) (wSB cI cJ cZ a ce fr un sb se so sc wb we wo wc fb fe fo fc rm ac rf kn) A) ([.ref (a 0)] : List Value).toArray s 0 0 A) (F0 m 4 ls []) := by
    intro n
    induction n with
    | zero =>
      intro ce fr un sb se so sc wb we wo wc fb fe fo fc rm ac rf kn x1 x2 H locs hP hD hS ls hl h
      have h := f_X1_roomCount_4_0.symm.trans h
      cases h
    | succ n ih =>
      intro ce fr un sb se so sc wb we wo wc fb fe fo fc rm ac rf kn x1 x2 H locs hP hD hS ls hl h
      have h := f_X1_roomCount_4_s.symm.trans h
      refine lv_iload_n hx hb dX1_roomCount_4 rfl (lv_at hl 2 rfl) ?_
      refine lv_aload_n hx hb dX1_roomCount_5 rfl (lv_at hl 0 rfl) ?_
      refine va_get (D := (dC, dI)) (ci := 3) (v := .ref (a 6)) (C := RX1) (T := TX1) (N := 10) hx hb hts hiX1 hown hK hP 0 rfl rfl 4 (by decide) hw0 (fun _ h9 => h9) rfl dX1_roomCount_6 ?_
      obtain ⟨r1, g1, h⟩ := g_b h
      refine kcall_i (wSB cI cJ cZ a ce fr un sb se so sc wb we wo wc fb fe fo fc rm ac rf kn) (va_runV (As := []) (rest := [.int x2]) ⟨hx, hb, hml, hown, hts⟩ (c_X0_count l dC dI cB cI cJ cZ (a 6) (a 7) (a 8) (a 9) _ wb we wo wc  r1 g1) (kcwV hts kw_155 kv_X0_count rfl rfl ⟨(Nat.le_of_ble_eq_true rfl), (Nat.le_of_ble_eq_true rfl)⟩) (kpV (A := A) (hP.sub (kIT mk_17 0) (km_f (m := mk_17) rfl rfl)) hK (hD.sub (kIT mk_17 0) (km_nd mk_17) (km_T (m := mk_17) rfl rfl)) hG (va_recv hK hP (ci := 2) (q0 := 6) rfl rfl)) rfl rfl hl.1 rfl (lv_room (Nat.le_of_ble_eq_true rfl)) dX1_roomCount_9 ⟨(Nat.le_of_ble_eq_true rfl), (Nat.le_of_ble_eq_true rfl)⟩) hP hD hS hA (kIT mk_17 0) (kIT mk_18 0) (km_T (m := mk_17) rfl rfl) (km_T (m := mk_17) rfl rfl) [((a 0), .inr (3, [.ref (a 1), .long fr, .long un, .ref (a 2), .ref (a 6), .ref (a 10), .ref (a 14), .int ac, .int rf, .int kn])), ((a 1), .inl (cJ, 4, .inr (.inl ce))), ((a 2), .inr (2, [.ref (a 3), .ref (a 4), .ref (a 5), .int sc])), ((a 3), .inl (cJ, 11, .inr (.inl sb))), ((a 4), .inl (cJ, 11, .inr (.inl se))), ((a 5), .inl (cZ, 11, .inl so)), ((a 10), .inr (2, [.ref (a 11), .ref (a 12), .ref (a 13), .int fc])), ((a 11), .inl (cJ, 11, .inr (.inl fb))), ((a 12), .inl (cJ, 11, .inr (.inl fe))), ((a 13), .inl (cZ, 11, .inl fo)), ((a 14), .inl (cI, 11, .inl rm))] (km_T (m := mk_18) rfl rfl) (km_T (m := mk_18) rfl rfl) (km_cov (m := mk_17) (n := mk_18) rfl rfl) (km_dis (m := mk_17) (n := mk_18) rfl) rfl (fun H locs hP hD hS br1 => ?_)
      refine lv_icmp_ge (tgt := 34) hx hb dX1_roomCount_12 (by decide) (fun c2 => ?_) (fun c2 => ?_)
      · have h := g_t c2 h
        refine lv_iload_n hx hb dX1_roomCount_34 rfl (lv_at hl 1 rfl) ?_
        have h := Option.some.inj h
        subst h
        exact kret_i (v := x1) hx hb hr rfl hlocks hS hP dX1_roomCount_35
      · have h := g_f c2 h
        refine lv_iload_n hx hb dX1_roomCount_15 rfl (lv_at hl 1 rfl) ?_
        refine lv_aload_n hx hb dX1_roomCount_16 rfl (lv_at hl 0 rfl) ?_
        refine va_get (D := (dC, dI)) (ci := 3) (v := .ref (a 14)) (C := RX1) (T := TX1) (N := 10) hx hb hts hiX1 hown hK hP 0 rfl rfl 6 (by decide) hw1 (fun _ h9 => h9) rfl dX1_roomCount_17 ?_
        refine lv_iload_n hx hb dX1_roomCount_20 rfl (lv_at hl 2 rfl) ?_
        obtain ⟨z2, h⟩ := g_if h
        refine va_iald hx hb hK hP 14 1 rfl rfl (ix_in z2) dX1_roomCount_21 ?_
        refine lv_iconst (v := 1) hx hb dX1_roomCount_22 (by decide) ?_
        refine lv_iadd hx hb dX1_roomCount_23 ?_
        refine va_mmax hx hb (hml.trans hl.1.symm) hown hw2 hw3 hw4 hw5 (Nat.le_of_ble_eq_true rfl) (Nat.le_of_ble_eq_true rfl) (Nat.le_of_ble_eq_true rfl) (Nat.le_of_ble_eq_true rfl) dX1_roomCount_24 ?_
        refine lv_istore_n (lv' := [(1, .int (if x1 < ((rm x2.toNatClampNeg) + 1) then (rm x2.toNatClampNeg) + 1 else x1)), (0, .ref (a 0)), (2, .int x2)]) hx hb dX1_roomCount_27 rfl hl (by decide) rfl (fun ls hl => ?_)
        refine lv_iinc (v := x2 + 1) (lv' := [(2, .int (x2 + 1)), (1, .int (if x1 < ((rm x2.toNatClampNeg) + 1) then (rm x2.toNatClampNeg) + 1 else x1)), (0, .ref (a 0))]) hx hb dX1_roomCount_28 hl (k := 2) rfl rfl (by decide) rfl (fun ls hl => ?_)
        refine lv_goto (tgt := 4) hx hb dX1_roomCount_31 (by decide) ?_
        exact ih ce fr un sb se so sc wb we wo wc fb fe fo fc rm ac rf kn (if x1 < ((rm x2.toNatClampNeg) + 1) then (rm x2.toNatClampNeg) + 1 else x1) (x2 + 1) _ _ hP hD hS ls (lv_sub hl [2, 1, 0] rfl) h
  have hl := lv_entry ([.ref (a 0)]) (n := 3) (Nat.le_of_ble_eq_true rfl)
  rw [lg_entry_eq]
  generalize (lg_sl ([.ref (a 0)]) ++ List.replicate (3 - (lg_sl ([.ref (a 0)])).length) Slot.unset).toArray = ls at hl ⊢
  have hl : lv_has ls 3 [(0, .ref (a 0))] := hl
  have h := f_X1_roomCount_e.symm.trans hf
  refine lv_iconst (v := 0) hx hb dX1_roomCount_0 (by decide) ?_
  refine lv_istore_n (lv' := [(1, .int 0), (0, .ref (a 0))]) hx hb dX1_roomCount_1 rfl hl (by decide) rfl (fun ls hl => ?_)
  refine lv_iconst (v := 0) hx hb dX1_roomCount_2 (by decide) ?_
  refine lv_istore_n (lv' := [(2, .int 0), (1, .int 0), (0, .ref (a 0))]) hx hb dX1_roomCount_3 rfl hl (by decide) rfl (fun ls hl => ?_)
  exact J4 24 ce fr un sb se so sc wb we wo wc fb fe fo fc rm ac rf kn 0 0 _ _ hP hD hS ls (lv_sub hl [2, 1, 0] rfl) h
