noncomputable abbrev wsJ9_floorDiv_f86c9 : List Cond := kWs yJ9_floorDiv_f86c9 cJ9_floorDiv_f86c9 6 (some .long)
noncomputable def f_J9_floorDiv_f86c9 (p0 : Int64) (p1 : Int64) : Option (Int64) :=
  if ¬ p1 = 0 then
    if 0 ≤ (p0 ^^^ p1) then
      some (p0 / p1)
    else
      if ((p0 / p1) * p1) = p0 then
        some (p0 / p1)
      else
        some ((p0 / p1) - 1)
  else none
theorem f_J9_floorDiv_f86c9_e {p0 : Int64} {p1 : Int64} : f_J9_floorDiv_f86c9 p0 p1 = 
  if ¬ p1 = 0 then
    if 0 ≤ (p0 ^^^ p1) then
      some (p0 / p1)
    else
      if ((p0 / p1) * p1) = p0 then
        some (p0 / p1)
      else
        some ((p0 / p1) - 1)
  else none := rfl
set_option maxHeartbeats 4000000 in
set_option maxRecDepth 100000 in
theorem c_J9_floorDiv_f86c9 (l : Launch) (dC : Nat → ClassId) (dI : Nat → Nat → Nat) (cB cI cJ cZ : ClassId) (sz : Nat) (p0 : Int64) (p1 : Int64) (res : Int64) (hf : f_J9_floorDiv_f86c9 p0 p1 = some res) : kMl l yJ9_floorDiv_f86c9 wsJ9_floorDiv_f86c9 (kRm 0 0 0 0) dC dI cB cI cJ cZ [.long p0, .long p1] sz [] (res) [] 0 0 := by
  refine kofW (cc := cJ9_floorDiv_f86c9) (maxL := 6) (ret := (some .long)) (by decide +kernel) rfl ?_
  intro p e s m args below meth c s₁ B hml hv
  obtain ⟨rfl, hsz, hP, hK, hD0, hG⟩ := hv
  have hx := B.exec
  have hb := B.bytes
  have hr := B.returns
  have hts := atoms_spec (ws := wsJ9_floorDiv_f86c9) B.pre
  have hown : s.vm.findClass RJ9 = some m.cls := findClass_of_methodNamed B.named
  have hlocks := B.notSynchronized
  subst hsz
  have hD := hD0.self (sz := s.heap.size)
  generalize hAe : va_A [] s.heap.size = A at hD ⊢
  have hA : ∀ q : Nat, s.heap.size ≤ q → A q := fun q h => by rw [← hAe]; exact Or.inr h
  have hS : va_S A s.heap s.heap [] := va_S.rf
  clear hAe
  have hl := lv_entry ([.long p0, .long p1]) (n := 6) (Nat.le_of_ble_eq_true rfl)
  rw [lg_entry_eq]
  generalize (lg_sl ([.long p0, .long p1]) ++ List.replicate (6 - (lg_sl ([.long p0, .long p1])).length) Slot.unset).toArray = ls at hl ⊢
  have hl : lv_has ls 6 (kvJ 0 p0 (kvJ 2 p1 kvE)) := hl
  have h := f_J9_floorDiv_f86c9_e.symm.trans hf
  refine lv_lload_n hx hb (kdr dgJ9_floorDiv_f86c9_0 0 0 rfl rfl) rfl (lv_at hl 0 rfl) ?_
  refine lv_lload_n hx hb (kdr dgJ9_floorDiv_f86c9_0 0 1 rfl rfl) rfl (lv_at hl 1 rfl) ?_
  obtain ⟨z0, h⟩ := g_if h
  refine lv_ldiv hx hb (kdr dgJ9_floorDiv_f86c9_0 0 2 rfl rfl) z0 ?_
  refine lv_lstore (lv' := (kvJ 4 (p0 / p1) (kvJ 0 p0 (kvJ 2 p1 kvE)))) hx hb (kdr dgJ9_floorDiv_f86c9_0 0 3 rfl rfl) hl (by decide) rfl (fun ls hl => ?_)
  refine lv_lload_n hx hb (kdr dgJ9_floorDiv_f86c9_0 0 4 rfl rfl) rfl (lv_at hl 1 rfl) ?_
  refine lv_lload_n hx hb (kdr dgJ9_floorDiv_f86c9_0 0 5 rfl rfl) rfl (lv_at hl 2 rfl) ?_
  refine lv_lxor hx hb (kdr dgJ9_floorDiv_f86c9_0 0 6 rfl rfl) ?_
  refine lv_lconst (v := 0) hx hb (kdr dgJ9_floorDiv_f86c9_0 0 7 rfl rfl) (by decide) ?_
  refine kl_ge (pc := 9) (tgt := 27) hx hb (kdr dgJ9_floorDiv_f86c9_0 0 8 rfl rfl) (kdr dgJ9_floorDiv_f86c9_0 0 9 rfl rfl) (by decide) (fun c2 => ?_) (fun c2 => ?_)
  · have h := g_t c2 h
    refine lv_lload hx hb (kdr dgJ9_floorDiv_f86c9_0 2 0 rfl rfl) (lv_at hl 0 rfl) ?_
    have h := Option.some.inj h
    subst h
    exact kret_l (v := p0 / p1) hx hb hr hlocks hS hP (kdr dgJ9_floorDiv_f86c9_0 2 1 rfl rfl)
  · have h := g_f c2 h
    refine lv_lload hx hb (kdr dgJ9_floorDiv_f86c9_0 1 0 rfl rfl) (lv_at hl 0 rfl) ?_
    refine lv_lload_n hx hb (kdr dgJ9_floorDiv_f86c9_0 1 1 rfl rfl) rfl (lv_at hl 2 rfl) ?_
    refine lv_lmul hx hb (kdr dgJ9_floorDiv_f86c9_0 1 2 rfl rfl) ?_
    refine lv_lload_n hx hb (kdr dgJ9_floorDiv_f86c9_0 1 3 rfl rfl) rfl (lv_at hl 1 rfl) ?_
    refine kl_eq (pc := 18) (tgt := 27) hx hb (kdr dgJ9_floorDiv_f86c9_0 1 4 rfl rfl) (kdr dgJ9_floorDiv_f86c9_0 1 5 rfl rfl) (by decide) (fun c3 => ?_) (fun c3 => ?_)
    · have h := g_t c3 h
      refine lv_lload hx hb (kdr dgJ9_floorDiv_f86c9_0 2 0 rfl rfl) (lv_at hl 0 rfl) ?_
      have h := Option.some.inj h
      subst h
      exact kret_l (v := p0 / p1) hx hb hr hlocks hS hP (kdr dgJ9_floorDiv_f86c9_0 2 1 rfl rfl)
    · have h := g_f c3 h
      refine lv_lload hx hb (kdr dgJ9_floorDiv_f86c9_0 1 6 rfl rfl) (lv_at hl 0 rfl) ?_
      refine lv_lconst (v := 1) hx hb (kdr dgJ9_floorDiv_f86c9_0 1 7 rfl rfl) (by decide) ?_
      refine lv_lsub hx hb (kdr dgJ9_floorDiv_f86c9_0 1 8 rfl rfl) ?_
      have h := Option.some.inj h
      subst h
      exact kret_l (v := (p0 / p1) - 1) hx hb hr hlocks hS hP (kdr dgJ9_floorDiv_f86c9_0 1 9 rfl rfl)
noncomputable abbrev wsJ9_floorMod_f86c9 : List Cond := kWs yJ9_floorMod_f86c9 cJ9_floorMod_f86c9 6 (some .long)
noncomputable def f_J9_floorMod_f86c9 (p0 : Int64) (p1 : Int64) : Option (Int64) :=
  if ¬ p1 = 0 then
    if 0 ≤ (p0 ^^^ p1) then
      some (p0 - p0 / p1 * p1)
    else
      if (p0 - p0 / p1 * p1) = 0 then
        some (p0 - p0 / p1 * p1)
      else
        some ((p0 - p0 / p1 * p1) + p1)
  else none
theorem f_J9_floorMod_f86c9_e {p0 : Int64} {p1 : Int64} : f_J9_floorMod_f86c9 p0 p1 = 
  if ¬ p1 = 0 then
    if 0 ≤ (p0 ^^^ p1) then
      some (p0 - p0 / p1 * p1)
    else
      if (p0 - p0 / p1 * p1) = 0 then
        some (p0 - p0 / p1 * p1)
      else
        some ((p0 - p0 / p1 * p1) + p1)
  else none := rfl
set_option maxHeartbeats 4000000 in
set_option maxRecDepth 100000 in
theorem c_J9_floorMod_f86c9 (l : Launch) (dC : Nat → ClassId) (dI : Nat → Nat → Nat) (cB cI cJ cZ : ClassId) (sz : Nat) (p0 : Int64) (p1 : Int64) (res : Int64) (hf : f_J9_floorMod_f86c9 p0 p1 = some res) : kMl l yJ9_floorMod_f86c9 wsJ9_floorMod_f86c9 (kRm 0 0 0 0) dC dI cB cI cJ cZ [.long p0, .long p1] sz [] (res) [] 0 0 := by
  refine kofW (cc := cJ9_floorMod_f86c9) (maxL := 6) (ret := (some .long)) (by decide +kernel) rfl ?_
  intro p e s m args below meth c s₁ B hml hv
  obtain ⟨rfl, hsz, hP, hK, hD0, hG⟩ := hv
  have hx := B.exec
  have hb := B.bytes
  have hr := B.returns
  have hts := atoms_spec (ws := wsJ9_floorMod_f86c9) B.pre
  have hown : s.vm.findClass RJ9 = some m.cls := findClass_of_methodNamed B.named
  have hlocks := B.notSynchronized
  subst hsz
  have hD := hD0.self (sz := s.heap.size)
  generalize hAe : va_A [] s.heap.size = A at hD ⊢
  have hA : ∀ q : Nat, s.heap.size ≤ q → A q := fun q h => by rw [← hAe]; exact Or.inr h
  have hS : va_S A s.heap s.heap [] := va_S.rf
  clear hAe
  have hl := lv_entry ([.long p0, .long p1]) (n := 6) (Nat.le_of_ble_eq_true rfl)
  rw [lg_entry_eq]
  generalize (lg_sl ([.long p0, .long p1]) ++ List.replicate (6 - (lg_sl ([.long p0, .long p1])).length) Slot.unset).toArray = ls at hl ⊢
  have hl : lv_has ls 6 (kvJ 0 p0 (kvJ 2 p1 kvE)) := hl
  have h := f_J9_floorMod_f86c9_e.symm.trans hf
  refine lv_lload_n hx hb (kdr dgJ9_floorMod_f86c9_0 0 0 rfl rfl) rfl (lv_at hl 0 rfl) ?_
  refine lv_lload_n hx hb (kdr dgJ9_floorMod_f86c9_0 0 1 rfl rfl) rfl (lv_at hl 1 rfl) ?_
  obtain ⟨z0, h⟩ := g_if h
  refine lv_lrem hx hb (kdr dgJ9_floorMod_f86c9_0 0 2 rfl rfl) z0 ?_
  refine lv_lstore (lv' := (kvJ 4 (p0 - p0 / p1 * p1) (kvJ 0 p0 (kvJ 2 p1 kvE)))) hx hb (kdr dgJ9_floorMod_f86c9_0 0 3 rfl rfl) hl (by decide) rfl (fun ls hl => ?_)
  refine lv_lload_n hx hb (kdr dgJ9_floorMod_f86c9_0 0 4 rfl rfl) rfl (lv_at hl 1 rfl) ?_
  refine lv_lload_n hx hb (kdr dgJ9_floorMod_f86c9_0 0 5 rfl rfl) rfl (lv_at hl 2 rfl) ?_
  refine lv_lxor hx hb (kdr dgJ9_floorMod_f86c9_0 0 6 rfl rfl) ?_
  refine lv_lconst (v := 0) hx hb (kdr dgJ9_floorMod_f86c9_0 0 7 rfl rfl) (by decide) ?_
  refine kl_ge (pc := 9) (tgt := 25) hx hb (kdr dgJ9_floorMod_f86c9_0 0 8 rfl rfl) (kdr dgJ9_floorMod_f86c9_0 0 9 rfl rfl) (by decide) (fun c2 => ?_) (fun c2 => ?_)
  · have h := g_t c2 h
    refine lv_lload hx hb (kdr dgJ9_floorMod_f86c9_0 1 8 rfl rfl) (lv_at hl 0 rfl) ?_
    have h := Option.some.inj h
    subst h
    exact kret_l (v := p0 - p0 / p1 * p1) hx hb hr hlocks hS hP (kdr dgJ9_floorMod_f86c9_0 1 9 rfl rfl)
  · have h := g_f c2 h
    refine lv_lload hx hb (kdr dgJ9_floorMod_f86c9_0 1 0 rfl rfl) (lv_at hl 0 rfl) ?_
    refine lv_lconst (v := 0) hx hb (kdr dgJ9_floorMod_f86c9_0 1 1 rfl rfl) (by decide) ?_
    refine kl_eq (pc := 16) (tgt := 25) hx hb (kdr dgJ9_floorMod_f86c9_0 1 2 rfl rfl) (kdr dgJ9_floorMod_f86c9_0 1 3 rfl rfl) (by decide) (fun c3 => ?_) (fun c3 => ?_)
    · have h := g_t c3 h
      refine lv_lload hx hb (kdr dgJ9_floorMod_f86c9_0 1 8 rfl rfl) (lv_at hl 0 rfl) ?_
      have h := Option.some.inj h
      subst h
      exact kret_l (v := p0 - p0 / p1 * p1) hx hb hr hlocks hS hP (kdr dgJ9_floorMod_f86c9_0 1 9 rfl rfl)
    · have h := g_f c3 h
      refine lv_lload hx hb (kdr dgJ9_floorMod_f86c9_0 1 4 rfl rfl) (lv_at hl 0 rfl) ?_
      refine lv_lload_n hx hb (kdr dgJ9_floorMod_f86c9_0 1 5 rfl rfl) rfl (lv_at hl 2 rfl) ?_
      refine lv_ladd hx hb (kdr dgJ9_floorMod_f86c9_0 1 6 rfl rfl) ?_
      have h := Option.some.inj h
      subst h
      exact kret_l (v := (p0 - p0 / p1 * p1) + p1) hx hb hr hlocks hS hP (kdr dgJ9_floorMod_f86c9_0 1 7 rfl rfl)
noncomputable abbrev wsJ6_bitCount_0f7a4 : List Cond := kWs yJ6_bitCount_0f7a4 cJ6_bitCount_0f7a4 1 (some .int)
noncomputable def f_J6_bitCount_0f7a4 (p0 : Int32) : Option (Int32) :=
  some ((((((((p0 - (((p0.toUInt32 >>> ((1 : Int32).toUInt32 &&& Int32.toUInt32 31)).toInt32) &&& 1431655765)) &&& 858993459) + ((((p0 - (((p0.toUInt32 >>> ((1 : Int32).toUInt32 &&& Int32.toUInt32 31)).toInt32) &&& 1431655765)).toUInt32 >>> ((2 : Int32).toUInt32 &&& Int32.toUInt32 31)).toInt32) &&& 858993459)) + (((((p0 - (((p0.toUInt32 >>> ((1 : Int32).toUInt32 &&& Int32.toUInt32 31)).toInt32) &&& 1431655765)) &&& 858993459) + ((((p0 - (((p0.toUInt32 >>> ((1 : Int32).toUInt32 &&& Int32.toUInt32 31)).toInt32) &&& 1431655765)).toUInt32 >>> ((2 : Int32).toUInt32 &&& Int32.toUInt32 31)).toInt32) &&& 858993459)).toUInt32 >>> ((4 : Int32).toUInt32 &&& Int32.toUInt32 31)).toInt32)) &&& 252645135) + (((((((p0 - (((p0.toUInt32 >>> ((1 : Int32).toUInt32 &&& Int32.toUInt32 31)).toInt32) &&& 1431655765)) &&& 858993459) + ((((p0 - (((p0.toUInt32 >>> ((1 : Int32).toUInt32 &&& Int32.toUInt32 31)).toInt32) &&& 1431655765)).toUInt32 >>> ((2 : Int32).toUInt32 &&& Int32.toUInt32 31)).toInt32) &&& 858993459)) + (((((p0 - (((p0.toUInt32 >>> ((1 : Int32).toUInt32 &&& Int32.toUInt32 31)).toInt32) &&& 1431655765)) &&& 858993459) + ((((p0 - (((p0.toUInt32 >>> ((1 : Int32).toUInt32 &&& Int32.toUInt32 31)).toInt32) &&& 1431655765)).toUInt32 >>> ((2 : Int32).toUInt32 &&& Int32.toUInt32 31)).toInt32) &&& 858993459)).toUInt32 >>> ((4 : Int32).toUInt32 &&& Int32.toUInt32 31)).toInt32)) &&& 252645135).toUInt32 >>> ((8 : Int32).toUInt32 &&& Int32.toUInt32 31)).toInt32)) + ((((((((p0 - (((p0.toUInt32 >>> ((1 : Int32).toUInt32 &&& Int32.toUInt32 31)).toInt32) &&& 1431655765)) &&& 858993459) + ((((p0 - (((p0.toUInt32 >>> ((1 : Int32).toUInt32 &&& Int32.toUInt32 31)).toInt32) &&& 1431655765)).toUInt32 >>> ((2 : Int32).toUInt32 &&& Int32.toUInt32 31)).toInt32) &&& 858993459)) + (((((p0 - (((p0.toUInt32 >>> ((1 : Int32).toUInt32 &&& Int32.toUInt32 31)).toInt32) &&& 1431655765)) &&& 858993459) + ((((p0 - (((p0.toUInt32 >>> ((1 : Int32).toUInt32 &&& Int32.toUInt32 31)).toInt32) &&& 1431655765)).toUInt32 >>> ((2 : Int32).toUInt32 &&& Int32.toUInt32 31)).toInt32) &&& 858993459)).toUInt32 >>> ((4 : Int32).toUInt32 &&& Int32.toUInt32 31)).toInt32)) &&& 252645135) + (((((((p0 - (((p0.toUInt32 >>> ((1 : Int32).toUInt32 &&& Int32.toUInt32 31)).toInt32) &&& 1431655765)) &&& 858993459) + ((((p0 - (((p0.toUInt32 >>> ((1 : Int32).toUInt32 &&& Int32.toUInt32 31)).toInt32) &&& 1431655765)).toUInt32 >>> ((2 : Int32).toUInt32 &&& Int32.toUInt32 31)).toInt32) &&& 858993459)) + (((((p0 - (((p0.toUInt32 >>> ((1 : Int32).toUInt32 &&& Int32.toUInt32 31)).toInt32) &&& 1431655765)) &&& 858993459) + ((((p0 - (((p0.toUInt32 >>> ((1 : Int32).toUInt32 &&& Int32.toUInt32 31)).toInt32) &&& 1431655765)).toUInt32 >>> ((2 : Int32).toUInt32 &&& Int32.toUInt32 31)).toInt32) &&& 858993459)).toUInt32 >>> ((4 : Int32).toUInt32 &&& Int32.toUInt32 31)).toInt32)) &&& 252645135).toUInt32 >>> ((8 : Int32).toUInt32 &&& Int32.toUInt32 31)).toInt32)).toUInt32 >>> ((16 : Int32).toUInt32 &&& Int32.toUInt32 31)).toInt32)) &&& 63)
theorem f_J6_bitCount_0f7a4_e {p0 : Int32} : f_J6_bitCount_0f7a4 p0 = 
  some ((((((((p0 - (((p0.toUInt32 >>> ((1 : Int32).toUInt32 &&& Int32.toUInt32 31)).toInt32) &&& 1431655765)) &&& 858993459) + ((((p0 - (((p0.toUInt32 >>> ((1 : Int32).toUInt32 &&& Int32.toUInt32 31)).toInt32) &&& 1431655765)).toUInt32 >>> ((2 : Int32).toUInt32 &&& Int32.toUInt32 31)).toInt32) &&& 858993459)) + (((((p0 - (((p0.toUInt32 >>> ((1 : Int32).toUInt32 &&& Int32.toUInt32 31)).toInt32) &&& 1431655765)) &&& 858993459) + ((((p0 - (((p0.toUInt32 >>> ((1 : Int32).toUInt32 &&& Int32.toUInt32 31)).toInt32) &&& 1431655765)).toUInt32 >>> ((2 : Int32).toUInt32 &&& Int32.toUInt32 31)).toInt32) &&& 858993459)).toUInt32 >>> ((4 : Int32).toUInt32 &&& Int32.toUInt32 31)).toInt32)) &&& 252645135) + (((((((p0 - (((p0.toUInt32 >>> ((1 : Int32).toUInt32 &&& Int32.toUInt32 31)).toInt32) &&& 1431655765)) &&& 858993459) + ((((p0 - (((p0.toUInt32 >>> ((1 : Int32).toUInt32 &&& Int32.toUInt32 31)).toInt32) &&& 1431655765)).toUInt32 >>> ((2 : Int32).toUInt32 &&& Int32.toUInt32 31)).toInt32) &&& 858993459)) + (((((p0 - (((p0.toUInt32 >>> ((1 : Int32).toUInt32 &&& Int32.toUInt32 31)).toInt32) &&& 1431655765)) &&& 858993459) + ((((p0 - (((p0.toUInt32 >>> ((1 : Int32).toUInt32 &&& Int32.toUInt32 31)).toInt32) &&& 1431655765)).toUInt32 >>> ((2 : Int32).toUInt32 &&& Int32.toUInt32 31)).toInt32) &&& 858993459)).toUInt32 >>> ((4 : Int32).toUInt32 &&& Int32.toUInt32 31)).toInt32)) &&& 252645135).toUInt32 >>> ((8 : Int32).toUInt32 &&& Int32.toUInt32 31)).toInt32)) + ((((((((p0 - (((p0.toUInt32 >>> ((1 : Int32).toUInt32 &&& Int32.toUInt32 31)).toInt32) &&& 1431655765)) &&& 858993459) + ((((p0 - (((p0.toUInt32 >>> ((1 : Int32).toUInt32 &&& Int32.toUInt32 31)).toInt32) &&& 1431655765)).toUInt32 >>> ((2 : Int32).toUInt32 &&& Int32.toUInt32 31)).toInt32) &&& 858993459)) + (((((p0 - (((p0.toUInt32 >>> ((1 : Int32).toUInt32 &&& Int32.toUInt32 31)).toInt32) &&& 1431655765)) &&& 858993459) + ((((p0 - (((p0.toUInt32 >>> ((1 : Int32).toUInt32 &&& Int32.toUInt32 31)).toInt32) &&& 1431655765)).toUInt32 >>> ((2 : Int32).toUInt32 &&& Int32.toUInt32 31)).toInt32) &&& 858993459)).toUInt32 >>> ((4 : Int32).toUInt32 &&& Int32.toUInt32 31)).toInt32)) &&& 252645135) + (((((((p0 - (((p0.toUInt32 >>> ((1 : Int32).toUInt32 &&& Int32.toUInt32 31)).toInt32) &&& 1431655765)) &&& 858993459) + ((((p0 - (((p0.toUInt32 >>> ((1 : Int32).toUInt32 &&& Int32.toUInt32 31)).toInt32) &&& 1431655765)).toUInt32 >>> ((2 : Int32).toUInt32 &&& Int32.toUInt32 31)).toInt32) &&& 858993459)) + (((((p0 - (((p0.toUInt32 >>> ((1 : Int32).toUInt32 &&& Int32.toUInt32 31)).toInt32) &&& 1431655765)) &&& 858993459) + ((((p0 - (((p0.toUInt32 >>> ((1 : Int32).toUInt32 &&& Int32.toUInt32 31)).toInt32) &&& 1431655765)).toUInt32 >>> ((2 : Int32).toUInt32 &&& Int32.toUInt32 31)).toInt32) &&& 858993459)).toUInt32 >>> ((4 : Int32).toUInt32 &&& Int32.toUInt32 31)).toInt32)) &&& 252645135).toUInt32 >>> ((8 : Int32).toUInt32 &&& Int32.toUInt32 31)).toInt32)).toUInt32 >>> ((16 : Int32).toUInt32 &&& Int32.toUInt32 31)).toInt32)) &&& 63) := rfl
set_option maxHeartbeats 4000000 in
set_option maxRecDepth 100000 in
theorem c_J6_bitCount_0f7a4 (l : Launch) (dC : Nat → ClassId) (dI : Nat → Nat → Nat) (cB cI cJ cZ : ClassId) (sz : Nat) (p0 : Int32) (res : Int32) (hf : f_J6_bitCount_0f7a4 p0 = some res) : kMi l yJ6_bitCount_0f7a4 wsJ6_bitCount_0f7a4 (kRm 0 0 0 0) dC dI cB cI cJ cZ [.int p0] sz [] .int (res) [] 0 0 := by
  refine kmet_i (y := yJ6_bitCount_0f7a4) (cc := cJ6_bitCount_0f7a4) (maxL := 1) (ret := (some .int)) RJ6 (kvI 0 p0 kvE) (by decide) rfl rfl (Nat.le_of_ble_eq_true rfl) rfl (fun p e s m below meth c A ls hx hb hr hml hts hown hlocks hP hK hG hD hA hS hl => ?_)
  have hw0 := hts (.constant RJ6 265 (1431655765)) (List.mem_cons_of_mem _ kw_308)
  have hw1 := hts (.constant RJ6 266 (858993459)) (List.mem_cons_of_mem _ kw_309)
  have hw2 := hts (.constant RJ6 267 (252645135)) (List.mem_cons_of_mem _ kw_310)
  have h := f_J6_bitCount_0f7a4_e.symm.trans hf
  refine lv_iload_n hx hb (kdr dgJ6_bitCount_0f7a4_0 0 0 rfl rfl) rfl (lv_at hl 0 rfl) ?_
  refine lv_iload_n hx hb (kdr dgJ6_bitCount_0f7a4_0 0 1 rfl rfl) rfl (lv_at hl 0 rfl) ?_
  refine lv_iconst (v := 1) hx hb (kdr dgJ6_bitCount_0f7a4_0 0 2 rfl rfl) (by decide) ?_
  refine lv_iushr (v := (p0.toUInt32 >>> ((1 : Int32).toUInt32 &&& Int32.toUInt32 31)).toInt32) hx hb (kdr dgJ6_bitCount_0f7a4_0 0 3 rfl rfl) rfl ?_
  refine lv_ldcw (v := (1431655765)) hx hb hown hw0 (kdr dgJ6_bitCount_0f7a4_0 0 4 rfl rfl) ?_
  refine lv_iand hx hb (kdr dgJ6_bitCount_0f7a4_0 0 5 rfl rfl) ?_
  refine lv_isub hx hb (kdr dgJ6_bitCount_0f7a4_0 0 6 rfl rfl) ?_
  refine lv_istore_n (lv' := (kvI 0 (p0 - (((p0.toUInt32 >>> ((1 : Int32).toUInt32 &&& Int32.toUInt32 31)).toInt32) &&& 1431655765)) kvE)) hx hb (kdr dgJ6_bitCount_0f7a4_0 0 7 rfl rfl) rfl hl (by decide) rfl (fun ls hl => ?_)
  refine lv_iload_n hx hb (kdr dgJ6_bitCount_0f7a4_0 0 8 rfl rfl) rfl (lv_at hl 0 rfl) ?_
  refine lv_ldcw (v := (858993459)) hx hb hown hw1 (kdr dgJ6_bitCount_0f7a4_0 0 9 rfl rfl) ?_
  refine lv_iand hx hb (kdr dgJ6_bitCount_0f7a4_0 1 0 rfl rfl) ?_
  refine lv_iload_n hx hb (kdr dgJ6_bitCount_0f7a4_0 1 1 rfl rfl) rfl (lv_at hl 0 rfl) ?_
  refine lv_iconst (v := 2) hx hb (kdr dgJ6_bitCount_0f7a4_0 1 2 rfl rfl) (by decide) ?_
  refine lv_iushr (v := ((p0 - (((p0.toUInt32 >>> ((1 : Int32).toUInt32 &&& Int32.toUInt32 31)).toInt32) &&& 1431655765)).toUInt32 >>> ((2 : Int32).toUInt32 &&& Int32.toUInt32 31)).toInt32) hx hb (kdr dgJ6_bitCount_0f7a4_0 1 3 rfl rfl) rfl ?_
  refine lv_ldcw (v := (858993459)) hx hb hown hw1 (kdr dgJ6_bitCount_0f7a4_0 1 4 rfl rfl) ?_
  refine lv_iand hx hb (kdr dgJ6_bitCount_0f7a4_0 1 5 rfl rfl) ?_
  refine lv_iadd hx hb (kdr dgJ6_bitCount_0f7a4_0 1 6 rfl rfl) ?_
  refine lv_istore_n (lv' := (kvI 0 (((p0 - (((p0.toUInt32 >>> ((1 : Int32).toUInt32 &&& Int32.toUInt32 31)).toInt32) &&& 1431655765)) &&& 858993459) + ((((p0 - (((p0.toUInt32 >>> ((1 : Int32).toUInt32 &&& Int32.toUInt32 31)).toInt32) &&& 1431655765)).toUInt32 >>> ((2 : Int32).toUInt32 &&& Int32.toUInt32 31)).toInt32) &&& 858993459)) kvE)) hx hb (kdr dgJ6_bitCount_0f7a4_0 1 7 rfl rfl) rfl hl (by decide) rfl (fun ls hl => ?_)
  refine lv_iload_n hx hb (kdr dgJ6_bitCount_0f7a4_0 1 8 rfl rfl) rfl (lv_at hl 0 rfl) ?_
  refine lv_iload_n hx hb (kdr dgJ6_bitCount_0f7a4_0 1 9 rfl rfl) rfl (lv_at hl 0 rfl) ?_
  refine lv_iconst (v := 4) hx hb (kdr dgJ6_bitCount_0f7a4_0 2 0 rfl rfl) (by decide) ?_
  refine lv_iushr (v := ((((p0 - (((p0.toUInt32 >>> ((1 : Int32).toUInt32 &&& Int32.toUInt32 31)).toInt32) &&& 1431655765)) &&& 858993459) + ((((p0 - (((p0.toUInt32 >>> ((1 : Int32).toUInt32 &&& Int32.toUInt32 31)).toInt32) &&& 1431655765)).toUInt32 >>> ((2 : Int32).toUInt32 &&& Int32.toUInt32 31)).toInt32) &&& 858993459)).toUInt32 >>> ((4 : Int32).toUInt32 &&& Int32.toUInt32 31)).toInt32) hx hb (kdr dgJ6_bitCount_0f7a4_0 2 1 rfl rfl) rfl ?_
  refine lv_iadd hx hb (kdr dgJ6_bitCount_0f7a4_0 2 2 rfl rfl) ?_
  refine lv_ldcw (v := (252645135)) hx hb hown hw2 (kdr dgJ6_bitCount_0f7a4_0 2 3 rfl rfl) ?_
  refine lv_iand hx hb (kdr dgJ6_bitCount_0f7a4_0 2 4 rfl rfl) ?_
  refine lv_istore_n (lv' := (kvI 0 (((((p0 - (((p0.toUInt32 >>> ((1 : Int32).toUInt32 &&& Int32.toUInt32 31)).toInt32) &&& 1431655765)) &&& 858993459) + ((((p0 - (((p0.toUInt32 >>> ((1 : Int32).toUInt32 &&& Int32.toUInt32 31)).toInt32) &&& 1431655765)).toUInt32 >>> ((2 : Int32).toUInt32 &&& Int32.toUInt32 31)).toInt32) &&& 858993459)) + (((((p0 - (((p0.toUInt32 >>> ((1 : Int32).toUInt32 &&& Int32.toUInt32 31)).toInt32) &&& 1431655765)) &&& 858993459) + ((((p0 - (((p0.toUInt32 >>> ((1 : Int32).toUInt32 &&& Int32.toUInt32 31)).toInt32) &&& 1431655765)).toUInt32 >>> ((2 : Int32).toUInt32 &&& Int32.toUInt32 31)).toInt32) &&& 858993459)).toUInt32 >>> ((4 : Int32).toUInt32 &&& Int32.toUInt32 31)).toInt32)) &&& 252645135) kvE)) hx hb (kdr dgJ6_bitCount_0f7a4_0 2 5 rfl rfl) rfl hl (by decide) rfl (fun ls hl => ?_)
  refine lv_iload_n hx hb (kdr dgJ6_bitCount_0f7a4_0 2 6 rfl rfl) rfl (lv_at hl 0 rfl) ?_
  refine lv_iload_n hx hb (kdr dgJ6_bitCount_0f7a4_0 2 7 rfl rfl) rfl (lv_at hl 0 rfl) ?_
  refine lv_bipush (v := 8) hx hb (kdr dgJ6_bitCount_0f7a4_0 2 8 rfl rfl) (by decide) ?_
  refine lv_iushr (v := ((((((p0 - (((p0.toUInt32 >>> ((1 : Int32).toUInt32 &&& Int32.toUInt32 31)).toInt32) &&& 1431655765)) &&& 858993459) + ((((p0 - (((p0.toUInt32 >>> ((1 : Int32).toUInt32 &&& Int32.toUInt32 31)).toInt32) &&& 1431655765)).toUInt32 >>> ((2 : Int32).toUInt32 &&& Int32.toUInt32 31)).toInt32) &&& 858993459)) + (((((p0 - (((p0.toUInt32 >>> ((1 : Int32).toUInt32 &&& Int32.toUInt32 31)).toInt32) &&& 1431655765)) &&& 858993459) + ((((p0 - (((p0.toUInt32 >>> ((1 : Int32).toUInt32 &&& Int32.toUInt32 31)).toInt32) &&& 1431655765)).toUInt32 >>> ((2 : Int32).toUInt32 &&& Int32.toUInt32 31)).toInt32) &&& 858993459)).toUInt32 >>> ((4 : Int32).toUInt32 &&& Int32.toUInt32 31)).toInt32)) &&& 252645135).toUInt32 >>> ((8 : Int32).toUInt32 &&& Int32.toUInt32 31)).toInt32) hx hb (kdr dgJ6_bitCount_0f7a4_0 2 9 rfl rfl) rfl ?_
  refine lv_iadd hx hb (kdr dgJ6_bitCount_0f7a4_0 3 0 rfl rfl) ?_
  refine lv_istore_n (lv' := (kvI 0 ((((((p0 - (((p0.toUInt32 >>> ((1 : Int32).toUInt32 &&& Int32.toUInt32 31)).toInt32) &&& 1431655765)) &&& 858993459) + ((((p0 - (((p0.toUInt32 >>> ((1 : Int32).toUInt32 &&& Int32.toUInt32 31)).toInt32) &&& 1431655765)).toUInt32 >>> ((2 : Int32).toUInt32 &&& Int32.toUInt32 31)).toInt32) &&& 858993459)) + (((((p0 - (((p0.toUInt32 >>> ((1 : Int32).toUInt32 &&& Int32.toUInt32 31)).toInt32) &&& 1431655765)) &&& 858993459) + ((((p0 - (((p0.toUInt32 >>> ((1 : Int32).toUInt32 &&& Int32.toUInt32 31)).toInt32) &&& 1431655765)).toUInt32 >>> ((2 : Int32).toUInt32 &&& Int32.toUInt32 31)).toInt32) &&& 858993459)).toUInt32 >>> ((4 : Int32).toUInt32 &&& Int32.toUInt32 31)).toInt32)) &&& 252645135) + (((((((p0 - (((p0.toUInt32 >>> ((1 : Int32).toUInt32 &&& Int32.toUInt32 31)).toInt32) &&& 1431655765)) &&& 858993459) + ((((p0 - (((p0.toUInt32 >>> ((1 : Int32).toUInt32 &&& Int32.toUInt32 31)).toInt32) &&& 1431655765)).toUInt32 >>> ((2 : Int32).toUInt32 &&& Int32.toUInt32 31)).toInt32) &&& 858993459)) + (((((p0 - (((p0.toUInt32 >>> ((1 : Int32).toUInt32 &&& Int32.toUInt32 31)).toInt32) &&& 1431655765)) &&& 858993459) + ((((p0 - (((p0.toUInt32 >>> ((1 : Int32).toUInt32 &&& Int32.toUInt32 31)).toInt32) &&& 1431655765)).toUInt32 >>> ((2 : Int32).toUInt32 &&& Int32.toUInt32 31)).toInt32) &&& 858993459)).toUInt32 >>> ((4 : Int32).toUInt32 &&& Int32.toUInt32 31)).toInt32)) &&& 252645135).toUInt32 >>> ((8 : Int32).toUInt32 &&& Int32.toUInt32 31)).toInt32)) kvE)) hx hb (kdr dgJ6_bitCount_0f7a4_0 3 1 rfl rfl) rfl hl (by decide) rfl (fun ls hl => ?_)
  refine lv_iload_n hx hb (kdr dgJ6_bitCount_0f7a4_0 3 2 rfl rfl) rfl (lv_at hl 0 rfl) ?_
  refine lv_iload_n hx hb (kdr dgJ6_bitCount_0f7a4_0 3 3 rfl rfl) rfl (lv_at hl 0 rfl) ?_
  refine lv_bipush (v := 16) hx hb (kdr dgJ6_bitCount_0f7a4_0 3 4 rfl rfl) (by decide) ?_
  refine lv_iushr (v := (((((((p0 - (((p0.toUInt32 >>> ((1 : Int32).toUInt32 &&& Int32.toUInt32 31)).toInt32) &&& 1431655765)) &&& 858993459) + ((((p0 - (((p0.toUInt32 >>> ((1 : Int32).toUInt32 &&& Int32.toUInt32 31)).toInt32) &&& 1431655765)).toUInt32 >>> ((2 : Int32).toUInt32 &&& Int32.toUInt32 31)).toInt32) &&& 858993459)) + (((((p0 - (((p0.toUInt32 >>> ((1 : Int32).toUInt32 &&& Int32.toUInt32 31)).toInt32) &&& 1431655765)) &&& 858993459) + ((((p0 - (((p0.toUInt32 >>> ((1 : Int32).toUInt32 &&& Int32.toUInt32 31)).toInt32) &&& 1431655765)).toUInt32 >>> ((2 : Int32).toUInt32 &&& Int32.toUInt32 31)).toInt32) &&& 858993459)).toUInt32 >>> ((4 : Int32).toUInt32 &&& Int32.toUInt32 31)).toInt32)) &&& 252645135) + (((((((p0 - (((p0.toUInt32 >>> ((1 : Int32).toUInt32 &&& Int32.toUInt32 31)).toInt32) &&& 1431655765)) &&& 858993459) + ((((p0 - (((p0.toUInt32 >>> ((1 : Int32).toUInt32 &&& Int32.toUInt32 31)).toInt32) &&& 1431655765)).toUInt32 >>> ((2 : Int32).toUInt32 &&& Int32.toUInt32 31)).toInt32) &&& 858993459)) + (((((p0 - (((p0.toUInt32 >>> ((1 : Int32).toUInt32 &&& Int32.toUInt32 31)).toInt32) &&& 1431655765)) &&& 858993459) + ((((p0 - (((p0.toUInt32 >>> ((1 : Int32).toUInt32 &&& Int32.toUInt32 31)).toInt32) &&& 1431655765)).toUInt32 >>> ((2 : Int32).toUInt32 &&& Int32.toUInt32 31)).toInt32) &&& 858993459)).toUInt32 >>> ((4 : Int32).toUInt32 &&& Int32.toUInt32 31)).toInt32)) &&& 252645135).toUInt32 >>> ((8 : Int32).toUInt32 &&& Int32.toUInt32 31)).toInt32)).toUInt32 >>> ((16 : Int32).toUInt32 &&& Int32.toUInt32 31)).toInt32) hx hb (kdr dgJ6_bitCount_0f7a4_0 3 5 rfl rfl) rfl ?_
  refine lv_iadd hx hb (kdr dgJ6_bitCount_0f7a4_0 3 6 rfl rfl) ?_
  refine lv_istore_n (lv' := (kvI 0 (((((((p0 - (((p0.toUInt32 >>> ((1 : Int32).toUInt32 &&& Int32.toUInt32 31)).toInt32) &&& 1431655765)) &&& 858993459) + ((((p0 - (((p0.toUInt32 >>> ((1 : Int32).toUInt32 &&& Int32.toUInt32 31)).toInt32) &&& 1431655765)).toUInt32 >>> ((2 : Int32).toUInt32 &&& Int32.toUInt32 31)).toInt32) &&& 858993459)) + (((((p0 - (((p0.toUInt32 >>> ((1 : Int32).toUInt32 &&& Int32.toUInt32 31)).toInt32) &&& 1431655765)) &&& 858993459) + ((((p0 - (((p0.toUInt32 >>> ((1 : Int32).toUInt32 &&& Int32.toUInt32 31)).toInt32) &&& 1431655765)).toUInt32 >>> ((2 : Int32).toUInt32 &&& Int32.toUInt32 31)).toInt32) &&& 858993459)).toUInt32 >>> ((4 : Int32).toUInt32 &&& Int32.toUInt32 31)).toInt32)) &&& 252645135) + (((((((p0 - (((p0.toUInt32 >>> ((1 : Int32).toUInt32 &&& Int32.toUInt32 31)).toInt32) &&& 1431655765)) &&& 858993459) + ((((p0 - (((p0.toUInt32 >>> ((1 : Int32).toUInt32 &&& Int32.toUInt32 31)).toInt32) &&& 1431655765)).toUInt32 >>> ((2 : Int32).toUInt32 &&& Int32.toUInt32 31)).toInt32) &&& 858993459)) + (((((p0 - (((p0.toUInt32 >>> ((1 : Int32).toUInt32 &&& Int32.toUInt32 31)).toInt32) &&& 1431655765)) &&& 858993459) + ((((p0 - (((p0.toUInt32 >>> ((1 : Int32).toUInt32 &&& Int32.toUInt32 31)).toInt32) &&& 1431655765)).toUInt32 >>> ((2 : Int32).toUInt32 &&& Int32.toUInt32 31)).toInt32) &&& 858993459)).toUInt32 >>> ((4 : Int32).toUInt32 &&& Int32.toUInt32 31)).toInt32)) &&& 252645135).toUInt32 >>> ((8 : Int32).toUInt32 &&& Int32.toUInt32 31)).toInt32)) + ((((((((p0 - (((p0.toUInt32 >>> ((1 : Int32).toUInt32 &&& Int32.toUInt32 31)).toInt32) &&& 1431655765)) &&& 858993459) + ((((p0 - (((p0.toUInt32 >>> ((1 : Int32).toUInt32 &&& Int32.toUInt32 31)).toInt32) &&& 1431655765)).toUInt32 >>> ((2 : Int32).toUInt32 &&& Int32.toUInt32 31)).toInt32) &&& 858993459)) + (((((p0 - (((p0.toUInt32 >>> ((1 : Int32).toUInt32 &&& Int32.toUInt32 31)).toInt32) &&& 1431655765)) &&& 858993459) + ((((p0 - (((p0.toUInt32 >>> ((1 : Int32).toUInt32 &&& Int32.toUInt32 31)).toInt32) &&& 1431655765)).toUInt32 >>> ((2 : Int32).toUInt32 &&& Int32.toUInt32 31)).toInt32) &&& 858993459)).toUInt32 >>> ((4 : Int32).toUInt32 &&& Int32.toUInt32 31)).toInt32)) &&& 252645135) + (((((((p0 - (((p0.toUInt32 >>> ((1 : Int32).toUInt32 &&& Int32.toUInt32 31)).toInt32) &&& 1431655765)) &&& 858993459) + ((((p0 - (((p0.toUInt32 >>> ((1 : Int32).toUInt32 &&& Int32.toUInt32 31)).toInt32) &&& 1431655765)).toUInt32 >>> ((2 : Int32).toUInt32 &&& Int32.toUInt32 31)).toInt32) &&& 858993459)) + (((((p0 - (((p0.toUInt32 >>> ((1 : Int32).toUInt32 &&& Int32.toUInt32 31)).toInt32) &&& 1431655765)) &&& 858993459) + ((((p0 - (((p0.toUInt32 >>> ((1 : Int32).toUInt32 &&& Int32.toUInt32 31)).toInt32) &&& 1431655765)).toUInt32 >>> ((2 : Int32).toUInt32 &&& Int32.toUInt32 31)).toInt32) &&& 858993459)).toUInt32 >>> ((4 : Int32).toUInt32 &&& Int32.toUInt32 31)).toInt32)) &&& 252645135).toUInt32 >>> ((8 : Int32).toUInt32 &&& Int32.toUInt32 31)).toInt32)).toUInt32 >>> ((16 : Int32).toUInt32 &&& Int32.toUInt32 31)).toInt32)) kvE)) hx hb (kdr dgJ6_bitCount_0f7a4_0 3 7 rfl rfl) rfl hl (by decide) rfl (fun ls hl => ?_)
  refine lv_iload_n hx hb (kdr dgJ6_bitCount_0f7a4_0 3 8 rfl rfl) rfl (lv_at hl 0 rfl) ?_
  refine lv_bipush (v := 63) hx hb (kdr dgJ6_bitCount_0f7a4_0 3 9 rfl rfl) (by decide) ?_
  refine lv_iand hx hb (kdr dgJ6_bitCount_0f7a4_0 4 0 rfl rfl) ?_
  have h := Option.some.inj h
  subst h
  exact kret_i (v := (((((((p0 - (((p0.toUInt32 >>> ((1 : Int32).toUInt32 &&& Int32.toUInt32 31)).toInt32) &&& 1431655765)) &&& 858993459) + ((((p0 - (((p0.toUInt32 >>> ((1 : Int32).toUInt32 &&& Int32.toUInt32 31)).toInt32) &&& 1431655765)).toUInt32 >>> ((2 : Int32).toUInt32 &&& Int32.toUInt32 31)).toInt32) &&& 858993459)) + (((((p0 - (((p0.toUInt32 >>> ((1 : Int32).toUInt32 &&& Int32.toUInt32 31)).toInt32) &&& 1431655765)) &&& 858993459) + ((((p0 - (((p0.toUInt32 >>> ((1 : Int32).toUInt32 &&& Int32.toUInt32 31)).toInt32) &&& 1431655765)).toUInt32 >>> ((2 : Int32).toUInt32 &&& Int32.toUInt32 31)).toInt32) &&& 858993459)).toUInt32 >>> ((4 : Int32).toUInt32 &&& Int32.toUInt32 31)).toInt32)) &&& 252645135) + (((((((p0 - (((p0.toUInt32 >>> ((1 : Int32).toUInt32 &&& Int32.toUInt32 31)).toInt32) &&& 1431655765)) &&& 858993459) + ((((p0 - (((p0.toUInt32 >>> ((1 : Int32).toUInt32 &&& Int32.toUInt32 31)).toInt32) &&& 1431655765)).toUInt32 >>> ((2 : Int32).toUInt32 &&& Int32.toUInt32 31)).toInt32) &&& 858993459)) + (((((p0 - (((p0.toUInt32 >>> ((1 : Int32).toUInt32 &&& Int32.toUInt32 31)).toInt32) &&& 1431655765)) &&& 858993459) + ((((p0 - (((p0.toUInt32 >>> ((1 : Int32).toUInt32 &&& Int32.toUInt32 31)).toInt32) &&& 1431655765)).toUInt32 >>> ((2 : Int32).toUInt32 &&& Int32.toUInt32 31)).toInt32) &&& 858993459)).toUInt32 >>> ((4 : Int32).toUInt32 &&& Int32.toUInt32 31)).toInt32)) &&& 252645135).toUInt32 >>> ((8 : Int32).toUInt32 &&& Int32.toUInt32 31)).toInt32)) + ((((((((p0 - (((p0.toUInt32 >>> ((1 : Int32).toUInt32 &&& Int32.toUInt32 31)).toInt32) &&& 1431655765)) &&& 858993459) + ((((p0 - (((p0.toUInt32 >>> ((1 : Int32).toUInt32 &&& Int32.toUInt32 31)).toInt32) &&& 1431655765)).toUInt32 >>> ((2 : Int32).toUInt32 &&& Int32.toUInt32 31)).toInt32) &&& 858993459)) + (((((p0 - (((p0.toUInt32 >>> ((1 : Int32).toUInt32 &&& Int32.toUInt32 31)).toInt32) &&& 1431655765)) &&& 858993459) + ((((p0 - (((p0.toUInt32 >>> ((1 : Int32).toUInt32 &&& Int32.toUInt32 31)).toInt32) &&& 1431655765)).toUInt32 >>> ((2 : Int32).toUInt32 &&& Int32.toUInt32 31)).toInt32) &&& 858993459)).toUInt32 >>> ((4 : Int32).toUInt32 &&& Int32.toUInt32 31)).toInt32)) &&& 252645135) + (((((((p0 - (((p0.toUInt32 >>> ((1 : Int32).toUInt32 &&& Int32.toUInt32 31)).toInt32) &&& 1431655765)) &&& 858993459) + ((((p0 - (((p0.toUInt32 >>> ((1 : Int32).toUInt32 &&& Int32.toUInt32 31)).toInt32) &&& 1431655765)).toUInt32 >>> ((2 : Int32).toUInt32 &&& Int32.toUInt32 31)).toInt32) &&& 858993459)) + (((((p0 - (((p0.toUInt32 >>> ((1 : Int32).toUInt32 &&& Int32.toUInt32 31)).toInt32) &&& 1431655765)) &&& 858993459) + ((((p0 - (((p0.toUInt32 >>> ((1 : Int32).toUInt32 &&& Int32.toUInt32 31)).toInt32) &&& 1431655765)).toUInt32 >>> ((2 : Int32).toUInt32 &&& Int32.toUInt32 31)).toInt32) &&& 858993459)).toUInt32 >>> ((4 : Int32).toUInt32 &&& Int32.toUInt32 31)).toInt32)) &&& 252645135).toUInt32 >>> ((8 : Int32).toUInt32 &&& Int32.toUInt32 31)).toInt32)).toUInt32 >>> ((16 : Int32).toUInt32 &&& Int32.toUInt32 31)).toInt32)) &&& 63) hx hb hr rfl hlocks hS hP (kdr dgJ6_bitCount_0f7a4_0 4 1 rfl rfl)
