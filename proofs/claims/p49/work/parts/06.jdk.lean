-- 06.jdk.lean.txt
section
noncomputable abbrev wsJ9_floorDiv_f86c9 : List Cond := kWs yJ9_floorDiv_f86c9 cJ9_floorDiv_f86c9 6 (some .long)
noncomputable def f_J9_floorDiv_f86c9 (p0 : Int64) (p1 : Int64) : Option (Int64) :=
  if ¬ p1 = 0 then
    if 0 ≤ (p0 ^^^ p1) then
      some (p0 / p1)
    else
      if ((p0 / p1) * p1) = p0 then
        some (p0 / p1)
      else
        some ((p0 / p1) - 1)
  else none
theorem f_J9_floorDiv_f86c9_e {p0 : Int64} {p1 : Int64} : f_J9_floorDiv_f86c9 p0 p1 = 
  if ¬ p1 = 0 then
    if 0 ≤ (p0 ^^^ p1) then
      some (p0 / p1)
    else
      if ((p0 / p1) * p1) = p0 then
        some (p0 / p1)
      else
        some ((p0 / p1) - 1)
  else none := rfl
set_option maxHeartbeats 4000000 in
set_option maxRecDepth 100000 in
theorem c_J9_floorDiv_f86c9 (l : Launch) (dC : Nat → ClassId) (dI : Nat → Nat → Nat) (cB cI cJ cZ : ClassId) (sz : Nat) (p0 : Int64) (p1 : Int64) (res : Int64) (hf : f_J9_floorDiv_f86c9 p0 p1 = some res) : kMl l yJ9_floorDiv_f86c9 wsJ9_floorDiv_f86c9 (kRm 0 0 0 0) dC dI cB cI cJ cZ [.long p0, .long p1] sz [] (res) [] 0 0 := by
  refine kofW (cc := cJ9_floorDiv_f86c9) (maxL := 6) (ret := (some .long)) (by decide +kernel) rfl ?_
  intro p e s m args below meth c s₁ B hml hv
  obtain ⟨rfl, hsz, hP, hK, hD0, hG⟩ := hv
  have hx := B.exec
  have hb := B.bytes
  have hr := B.returns
  have hts := atoms_spec (ws := wsJ9_floorDiv_f86c9) B.pre
  have hown : s.vm.findClass RJ9 = some m.cls := findClass_of_methodNamed B.named
  have hlocks := B.notSynchronized
  subst hsz
  have hD := hD0.self (sz := s.heap.size)
  generalize hAe : va_A [] s.heap.size = A at hD ⊢
  have hA : ∀ q : Nat, s.heap.size ≤ q → A q := fun q h => by rw [← hAe]; exact Or.inr h
  have hS : va_S A s.heap s.heap [] := va_S.rf
  clear hAe
  have hl := lv_entry ([.long p0, .long p1]) (n := 6) (Nat.le_of_ble_eq_true rfl)
  rw [lg_entry_eq]
  generalize (lg_sl ([.long p0, .long p1]) ++ List.replicate (6 - (lg_sl ([.long p0, .long p1])).length) Slot.unset).toArray = ls at hl ⊢
  have hl : lv_has ls 6 (kvJ 0 p0 (kvJ 2 p1 kvE)) := hl
  have h := f_J9_floorDiv_f86c9_e.symm.trans hf
  refine lv_lload_n hx hb (kdr dgJ9_floorDiv_f86c9_0 0 0 rfl rfl) rfl (lv_at hl 0 rfl) ?_
  refine lv_lload_n hx hb (kdr dgJ9_floorDiv_f86c9_0 0 1 rfl rfl) rfl (lv_at hl 1 rfl) ?_
  obtain ⟨z0, h⟩ := g_if h
  refine lv_ldiv hx hb (kdr dgJ9_floorDiv_f86c9_0 0 2 rfl rfl) z0 ?_
  refine lv_lstore (lv' := (kvJ 4 (p0 / p1) (kvJ 0 p0 (kvJ 2 p1 kvE)))) hx hb (kdr dgJ9_floorDiv_f86c9_0 0 3 rfl rfl) hl (by decide) rfl (fun ls hl => ?_)
  refine lv_lload_n hx hb (kdr dgJ9_floorDiv_f86c9_0 0 4 rfl rfl) rfl (lv_at hl 1 rfl) ?_
  refine lv_lload_n hx hb (kdr dgJ9_floorDiv_f86c9_0 0 5 rfl rfl) rfl (lv_at hl 2 rfl) ?_
  refine lv_lxor hx hb (kdr dgJ9_floorDiv_f86c9_0 0 6 rfl rfl) ?_
  refine lv_lconst (v := 0) hx hb (kdr dgJ9_floorDiv_f86c9_0 0 7 rfl rfl) (by decide) ?_
  refine kl_ge (pc := 9) (tgt := 27) hx hb (kdr dgJ9_floorDiv_f86c9_0 0 8 rfl rfl) (kdr dgJ9_floorDiv_f86c9_0 0 9 rfl rfl) (by decide) (fun c2 => ?_) (fun c2 => ?_)
  · have h := g_t c2 h
    refine lv_lload hx hb (kdr dgJ9_floorDiv_f86c9_0 2 0 rfl rfl) (lv_at hl 0 rfl) ?_
    have h := Option.some.inj h
    subst h
    exact kret_l (v := p0 / p1) hx hb hr hlocks hS hP (kdr dgJ9_floorDiv_f86c9_0 2 1 rfl rfl)
  · have h := g_f c2 h
    refine lv_lload hx hb (kdr dgJ9_floorDiv_f86c9_0 1 0 rfl rfl) (lv_at hl 0 rfl) ?_
    refine lv_lload_n hx hb (kdr dgJ9_floorDiv_f86c9_0 1 1 rfl rfl) rfl (lv_at hl 2 rfl) ?_
    refine lv_lmul hx hb (kdr dgJ9_floorDiv_f86c9_0 1 2 rfl rfl) ?_
    refine lv_lload_n hx hb (kdr dgJ9_floorDiv_f86c9_0 1 3 rfl rfl) rfl (lv_at hl 1 rfl) ?_
    refine kl_eq (pc := 18) (tgt := 27) hx hb (kdr dgJ9_floorDiv_f86c9_0 1 4 rfl rfl) (kdr dgJ9_floorDiv_f86c9_0 1 5 rfl rfl) (by decide) (fun c3 => ?_) (fun c3 => ?_)
    · have h := g_t c3 h
      refine lv_lload hx hb (kdr dgJ9_floorDiv_f86c9_0 2 0 rfl rfl) (lv_at hl 0 rfl) ?_
      have h := Option.some.inj h
      subst h
      exact kret_l (v := p0 / p1) hx hb hr hlocks hS hP (kdr dgJ9_floorDiv_f86c9_0 2 1 rfl rfl)
    · have h := g_f c3 h
      refine lv_lload hx hb (kdr dgJ9_floorDiv_f86c9_0 1 6 rfl rfl) (lv_at hl 0 rfl) ?_
      refine lv_lconst (v := 1) hx hb (kdr dgJ9_floorDiv_f86c9_0 1 7 rfl rfl) (by decide) ?_
      refine lv_lsub hx hb (kdr dgJ9_floorDiv_f86c9_0 1 8 rfl rfl) ?_
      have h := Option.some.inj h
      subst h
      exact kret_l (v := (p0 / p1) - 1) hx hb hr hlocks hS hP (kdr dgJ9_floorDiv_f86c9_0 1 9 rfl rfl)
noncomputable abbrev wsJ9_floorMod_f86c9 : List Cond := kWs yJ9_floorMod_f86c9 cJ9_floorMod_f86c9 6 (some .long)
noncomputable def f_J9_floorMod_f86c9 (p0 : Int64) (p1 : Int64) : Option (Int64) :=
  if ¬ p1 = 0 then
    if 0 ≤ (p0 ^^^ p1) then
      some (p0 - p0 / p1 * p1)
    else
      if (p0 - p0 / p1 * p1) = 0 then
        some (p0 - p0 / p1 * p1)
      else
        some ((p0 - p0 / p1 * p1) + p1)
  else none
theorem f_J9_floorMod_f86c9_e {p0 : Int64} {p1 : Int64} : f_J9_floorMod_f86c9 p0 p1 = 
  if ¬ p1 = 0 then
    if 0 ≤ (p0 ^^^ p1) then
      some (p0 - p0 / p1 * p1)
    else
      if (p0 - p0 / p1 * p1) = 0 then
        some (p0 - p0 / p1 * p1)
      else
        some ((p0 - p0 / p1 * p1) + p1)
  else none := rfl
set_option maxHeartbeats 4000000 in
set_option maxRecDepth 100000 in
theorem c_J9_floorMod_f86c9 (l : Launch) (dC : Nat → ClassId) (dI : Nat → Nat → Nat) (cB cI cJ cZ : ClassId) (sz : Nat) (p0 : Int64) (p1 : Int64) (res : Int64) (hf : f_J9_floorMod_f86c9 p0 p1 = some res) : kMl l yJ9_floorMod_f86c9 wsJ9_floorMod_f86c9 (kRm 0 0 0 0) dC dI cB cI cJ cZ [.long p0, .long p1] sz [] (res) [] 0 0 := by
  refine kofW (cc := cJ9_floorMod_f86c9) (maxL := 6) (ret := (some .long)) (by decide +kernel) rfl ?_
  intro p e s m args below meth c s₁ B hml hv
  obtain ⟨rfl, hsz, hP, hK, hD0, hG⟩ := hv
  have hx := B.exec
  have hb := B.bytes
  have hr := B.returns
  have hts := atoms_spec (ws := wsJ9_floorMod_f86c9) B.pre
  have hown : s.vm.findClass RJ9 = some m.cls := findClass_of_methodNamed B.named
  have hlocks := B.notSynchronized
  subst hsz
  have hD := hD0.self (sz := s.heap.size)
  generalize hAe : va_A [] s.heap.size = A at hD ⊢
  have hA : ∀ q : Nat, s.heap.size ≤ q → A q := fun q h => by rw [← hAe]; exact Or.inr h
  have hS : va_S A s.heap s.heap [] := va_S.rf
  clear hAe
  have hl := lv_entry ([.long p0, .long p1]) (n := 6) (Nat.le_of_ble_eq_true rfl)
  rw [lg_entry_eq]
  generalize (lg_sl ([.long p0, .long p1]) ++ List.replicate (6 - (lg_sl ([.long p0, .long p1])).length) Slot.unset).toArray = ls at hl ⊢
  have hl : lv_has ls 6 (kvJ 0 p0 (kvJ 2 p1 kvE)) := hl
  have h := f_J9_floorMod_f86c9_e.symm.trans hf
  refine lv_lload_n hx hb (kdr dgJ9_floorMod_f86c9_0 0 0 rfl rfl) rfl (lv_at hl 0 rfl) ?_
  refine lv_lload_n hx hb (kdr dgJ9_floorMod_f86c9_0 0 1 rfl rfl) rfl (lv_at hl 1 rfl) ?_
  obtain ⟨z0, h⟩ := g_if h
  refine lv_lrem hx hb (kdr dgJ9_floorMod_f86c9_0 0 2 rfl rfl) z0 ?_
  refine lv_lstore (lv' := (kvJ 4 (p0 - p0 / p1 * p1) (kvJ 0 p0 (kvJ 2 p1 kvE)))) hx hb (kdr dgJ9_floorMod_f86c9_0 0 3 rfl rfl) hl (by decide) rfl (fun ls hl => ?_)
  refine lv_lload_n hx hb (kdr dgJ9_floorMod_f86c9_0 0 4 rfl rfl) rfl (lv_at hl 1 rfl) ?_
  refine lv_lload_n hx hb (kdr dgJ9_floorMod_f86c9_0 0 5 rfl rfl) rfl (lv_at hl 2 rfl) ?_
  refine lv_lxor hx hb (kdr dgJ9_floorMod_f86c9_0 0 6 rfl rfl) ?_
  refine lv_lconst (v := 0) hx hb (kdr dgJ9_floorMod_f86c9_0 0 7 rfl rfl) (by decide) ?_
  refine kl_ge (pc := 9) (tgt := 25) hx hb (kdr dgJ9_floorMod_f86c9_0 0 8 rfl rfl) (kdr dgJ9_floorMod_f86c9_0 0 9 rfl rfl) (by decide) (fun c2 => ?_) (fun c2 => ?_)
  · have h := g_t c2 h
    refine lv_lload hx hb (kdr dgJ9_floorMod_f86c9_0 1 8 rfl rfl) (lv_at hl 0 rfl) ?_
    have h := Option.some.inj h
    subst h
    exact kret_l (v := p0 - p0 / p1 * p1) hx hb hr hlocks hS hP (kdr dgJ9_floorMod_f86c9_0 1 9 rfl rfl)
  · have h := g_f c2 h
    refine lv_lload hx hb (kdr dgJ9_floorMod_f86c9_0 1 0 rfl rfl) (lv_at hl 0 rfl) ?_
    refine lv_lconst (v := 0) hx hb (kdr dgJ9_floorMod_f86c9_0 1 1 rfl rfl) (by decide) ?_
    refine kl_eq (pc := 16) (tgt := 25) hx hb (kdr dgJ9_floorMod_f86c9_0 1 2 rfl rfl) (kdr dgJ9_floorMod_f86c9_0 1 3 rfl rfl) (by decide) (fun c3 => ?_) (fun c3 => ?_)
    · have h := g_t c3 h
      refine lv_lload hx hb (kdr dgJ9_floorMod_f86c9_0 1 8 rfl rfl) (lv_at hl 0 rfl) ?_
      have h := Option.some.inj h
      subst h
      exact kret_l (v := p0 - p0 / p1 * p1) hx hb hr hlocks hS hP (kdr dgJ9_floorMod_f86c9_0 1 9 rfl rfl)
    · have h := g_f c3 h
      refine lv_lload hx hb (kdr dgJ9_floorMod_f86c9_0 1 4 rfl rfl) (lv_at hl 0 rfl) ?_
      refine lv_lload_n hx hb (kdr dgJ9_floorMod_f86c9_0 1 5 rfl rfl) rfl (lv_at hl 2 rfl) ?_
      refine lv_ladd hx hb (kdr dgJ9_floorMod_f86c9_0 1 6 rfl rfl) ?_
      have h := Option.some.inj h
      subst h
      exact kret_l (v := (p0 - p0 / p1 * p1) + p1) hx hb hr hlocks hS hP (kdr dgJ9_floorMod_f86c9_0 1 7 rfl rfl)
noncomputable abbrev wsJ6_bitCount_0f7a4 : List Cond := kWs yJ6_bitCount_0f7a4 cJ6_bitCount_0f7a4 1 (some .int)
noncomputable def f_J6_bitCount_0f7a4 (p0 : Int32) : Option (Int32) :=
  some ((((((((p0 - (((p0.toUInt32 >>> ((1 : Int32).toUInt32 &&& Int32.toUInt32 31)).toInt32) &&& 1431655765)) &&& 858993459) + ((((p0 - (((p0.toUInt32 >>> ((1 : Int32).toUInt32 &&& Int32.toUInt32 31)).toInt32) &&& 1431655765)).toUInt32 >>> ((2 : Int32).toUInt32 &&& Int32.toUInt32 31)).toInt32) &&& 858993459)) + (((((p0 - (((p0.toUInt32 >>> ((1 : Int32).toUInt32 &&& Int32.toUInt32 31)).toInt32) &&& 1431655765)) &&& 858993459) + ((((p0 - (((p0.toUInt32 >>> ((1 : Int32).toUInt32 &&& Int32.toUInt32 31)).toInt32) &&& 1431655765)).toUInt32 >>> ((2 : Int32).toUInt32 &&& Int32.toUInt32 31)).toInt32) &&& 858993459)).toUInt32 >>> ((4 : Int32).toUInt32 &&& Int32.toUInt32 31)).toInt32)) &&& 252645135) + (((((((p0 - (((p0.toUInt32 >>> ((1 : Int32).toUInt32 &&& Int32.toUInt32 31)).toInt32) &&& 1431655765)) &&& 858993459) + ((((p0 - (((p0.toUInt32 >>> ((1 : Int32).toUInt32 &&& Int32.toUInt32 31)).toInt32) &&& 1431655765)).toUInt32 >>> ((2 : Int32).toUInt32 &&& Int32.toUInt32 31)).toInt32) &&& 858993459)) + (((((p0 - (((p0.toUInt32 >>> ((1 : Int32).toUInt32 &&& Int32.toUInt32 31)).toInt32) &&& 1431655765)) &&& 858993459) + ((((p0 - (((p0.toUInt32 >>> ((1 : Int32).toUInt32 &&& Int32.toUInt32 31)).toInt32) &&& 1431655765)).toUInt32 >>> ((2 : Int32).toUInt32 &&& Int32.toUInt32 31)).toInt32) &&& 858993459)).toUInt32 >>> ((4 : Int32).toUInt32 &&& Int32.toUInt32 31)).toInt32)) &&& 252645135).toUInt32 >>> ((8 : Int32).toUInt32 &&& Int32.toUInt32 31)).toInt32)) + ((((((((p0 - (((p0.toUInt32 >>> ((1 : Int32).toUInt32 &&& Int32.toUInt32 31)).toInt32) &&& 1431655765)) &&& 858993459) + ((((p0 - (((p0.toUInt32 >>> ((1 : Int32).toUInt32 &&& Int32.toUInt32 31)).toInt32) &&& 1431655765)).toUInt32 >>> ((2 : Int32).toUInt32 &&& Int32.toUInt32 31)).toInt32) &&& 858993459)) + (((((p0 - (((p0.toUInt32 >>> ((1 : Int32).toUInt32 &&& Int32.toUInt32 31)).toInt32) &&& 1431655765)) &&& 858993459) + ((((p0 - (((p0.toUInt32 >>> ((1 : Int32).toUInt32 &&& Int32.toUInt32 31)).toInt32) &&& 1431655765)).toUInt32 >>> ((2 : Int32).toUInt32 &&& Int32.toUInt32 31)).toInt32) &&& 858993459)).toUInt32 >>> ((4 : Int32).toUInt32 &&& Int32.toUInt32 31)).toInt32)) &&& 252645135) + (((((((p0 - (((p0.toUInt32 >>> ((1 : Int32).toUInt32 &&& Int32.toUInt32 31)).toInt32) &&& 1431655765)) &&& 858993459) + ((((p0 - (((p0.toUInt32 >>> ((1 : Int32).toUInt32 &&& Int32.toUInt32 31)).toInt32) &&& 1431655765)).toUInt32 >>> ((2 : Int32).toUInt32 &&& Int32.toUInt32 31)).toInt32) &&& 858993459)) + (((((p0 - (((p0.toUInt32 >>> ((1 : Int32).toUInt32 &&& Int32.toUInt32 31)).toInt32) &&& 1431655765)) &&& 858993459) + ((((p0 - (((p0.toUInt32 >>> ((1 : Int32).toUInt32 &&& Int32.toUInt32 31)).toInt32) &&& 1431655765)).toUInt32 >>> ((2 : Int32).toUInt32 &&& Int32.toUInt32 31)).toInt32) &&& 858993459)).toUInt32 >>> ((4 : Int32).toUInt32 &&& Int32.toUInt32 31)).toInt32)) &&& 252645135).toUInt32 >>> ((8 : Int32).toUInt32 &&& Int32.toUInt32 31)).toInt32)).toUInt32 >>> ((16 : Int32).toUInt32 &&& Int32.toUInt32 31)).toInt32)) &&& 63)
theorem f_J6_bitCount_0f7a4_e {p0 : Int32} : f_J6_bitCount_0f7a4 p0 = 
  some ((((((((p0 - (((p0.toUInt32 >>> ((1 : Int32).toUInt32 &&& Int32.toUInt32 31)).toInt32) &&& 1431655765)) &&& 858993459) + ((((p0 - (((p0.toUInt32 >>> ((1 : Int32).toUInt32 &&& Int32.toUInt32 31)).toInt32) &&& 1431655765)).toUInt32 >>> ((2 : Int32).toUInt32 &&& Int32.toUInt32 31)).toInt32) &&& 858993459)) + (((((p0 - (((p0.toUInt32 >>> ((1 : Int32).toUInt32 &&& Int32.toUInt32 31)).toInt32) &&& 1431655765)) &&& 858993459) + ((((p0 - (((p0.toUInt32 >>> ((1 : Int32).toUInt32 &&& Int32.toUInt32 31)).toInt32) &&& 1431655765)).toUInt32 >>> ((2 : Int32).toUInt32 &&& Int32.toUInt32 31)).toInt32) &&& 858993459)).toUInt32 >>> ((4 : Int32).toUInt32 &&& Int32.toUInt32 31)).toInt32)) &&& 252645135) + (((((((p0 - (((p0.toUInt32 >>> ((1 : Int32).toUInt32 &&& Int32.toUInt32 31)).toInt32) &&& 1431655765)) &&& 858993459) + ((((p0 - (((p0.toUInt32 >>> ((1 : Int32).toUInt32 &&& Int32.toUInt32 31)).toInt32) &&& 1431655765)).toUInt32 >>> ((2 : Int32).toUInt32 &&& Int32.toUInt32 31)).toInt32) &&& 858993459)) + (((((p0 - (((p0.toUInt32 >>> ((1 : Int32).toUInt32 &&& Int32.toUInt32 31)).toInt32) &&& 1431655765)) &&& 858993459) + ((((p0 - (((p0.toUInt32 >>> ((1 : Int32).toUInt32 &&& Int32.toUInt32 31)).toInt32) &&& 1431655765)).toUInt32 >>> ((2 : Int32).toUInt32 &&& Int32.toUInt32 31)).toInt32) &&& 858993459)).toUInt32 >>> ((4 : Int32).toUInt32 &&& Int32.toUInt32 31)).toInt32)) &&& 252645135).toUInt32 >>> ((8 : Int32).toUInt32 &&& Int32.toUInt32 31)).toInt32)) + ((((((((p0 - (((p0.toUInt32 >>> ((1 : Int32).toUInt32 &&& Int32.toUInt32 31)).toInt32) &&& 1431655765)) &&& 858993459) + ((((p0 - (((p0.toUInt32 >>> ((1 : Int32).toUInt32 &&& Int32.toUInt32 31)).toInt32) &&& 1431655765)).toUInt32 >>> ((2 : Int32).toUInt32 &&& Int32.toUInt32 31)).toInt32) &&& 858993459)) + (((((p0 - (((p0.toUInt32 >>> ((1 : Int32).toUInt32 &&& Int32.toUInt32 31)).toInt32) &&& 1431655765)) &&& 858993459) + ((((p0 - (((p0.toUInt32 >>> ((1 : Int32).toUInt32 &&& Int32.toUInt32 31)).toInt32) &&& 1431655765)).toUInt32 >>> ((2 : Int32).toUInt32 &&& Int32.toUInt32 31)).toInt32) &&& 858993459)).toUInt32 >>> ((4 : Int32).toUInt32 &&& Int32.toUInt32 31)).toInt32)) &&& 252645135) + (((((((p0 - (((p0.toUInt32 >>> ((1 : Int32).toUInt32 &&& Int32.toUInt32 31)).toInt32) &&& 1431655765)) &&& 858993459) + ((((p0 - (((p0.toUInt32 >>> ((1 : Int32).toUInt32 &&& Int32.toUInt32 31)).toInt32) &&& 1431655765)).toUInt32 >>> ((2 : Int32).toUInt32 &&& Int32.toUInt32 31)).toInt32) &&& 858993459)) + (((((p0 - (((p0.toUInt32 >>> ((1 : Int32).toUInt32 &&& Int32.toUInt32 31)).toInt32) &&& 1431655765)) &&& 858993459) + ((((p0 - (((p0.toUInt32 >>> ((1 : Int32).toUInt32 &&& Int32.toUInt32 31)).toInt32) &&& 1431655765)).toUInt32 >>> ((2 : Int32).toUInt32 &&& Int32.toUInt32 31)).toInt32) &&& 858993459)).toUInt32 >>> ((4 : Int32).toUInt32 &&& Int32.toUInt32 31)).toInt32)) &&& 252645135).toUInt32 >>> ((8 : Int32).toUInt32 &&& Int32.toUInt32 31)).toInt32)).toUInt32 >>> ((16 : Int32).toUInt32 &&& Int32.toUInt32 31)).toInt32)) &&& 63) := rfl
set_option maxHeartbeats 4000000 in
set_option maxRecDepth 100000 in
theorem c_J6_bitCount_0f7a4 (l : Launch) (dC : Nat → ClassId) (dI : Nat → Nat → Nat) (cB cI cJ cZ : ClassId) (sz : Nat) (p0 : Int32) (res : Int32) (hf : f_J6_bitCount_0f7a4 p0 = some res) : kMi l yJ6_bitCount_0f7a4 wsJ6_bitCount_0f7a4 (kRm 0 0 0 0) dC dI cB cI cJ cZ [.int p0] sz [] .int (res) [] 0 0 := by
  refine kmet_i (y := yJ6_bitCount_0f7a4) (cc := cJ6_bitCount_0f7a4) (maxL := 1) (ret := (some .int)) RJ6 (kvI 0 p0 kvE) (by decide) rfl rfl (Nat.le_of_ble_eq_true rfl) rfl (fun p e s m below meth c A ls hx hb hr hml hts hown hlocks hP hK hG hD hA hS hl => ?_)
  have hw0 := hts (.constant RJ6 265 (1431655765)) (List.mem_cons_of_mem _ kw_308)
  have hw1 := hts (.constant RJ6 266 (858993459)) (List.mem_cons_of_mem _ kw_309)
  have hw2 := hts (.constant RJ6 267 (252645135)) (List.mem_cons_of_mem _ kw_310)
  have h := f_J6_bitCount_0f7a4_e.symm.trans hf
  refine lv_iload_n hx hb (kdr dgJ6_bitCount_0f7a4_0 0 0 rfl rfl) rfl (lv_at hl 0 rfl) ?_
  refine lv_iload_n hx hb (kdr dgJ6_bitCount_0f7a4_0 0 1 rfl rfl) rfl (lv_at hl 0 rfl) ?_
  refine lv_iconst (v := 1) hx hb (kdr dgJ6_bitCount_0f7a4_0 0 2 rfl rfl) (by decide) ?_
  refine lv_iushr (v := (p0.toUInt32 >>> ((1 : Int32).toUInt32 &&& Int32.toUInt32 31)).toInt32) hx hb (kdr dgJ6_bitCount_0f7a4_0 0 3 rfl rfl) rfl ?_
  refine lv_ldcw (v := (1431655765)) hx hb hown hw0 (kdr dgJ6_bitCount_0f7a4_0 0 4 rfl rfl) ?_
  refine lv_iand hx hb (kdr dgJ6_bitCount_0f7a4_0 0 5 rfl rfl) ?_
  refine lv_isub hx hb (kdr dgJ6_bitCount_0f7a4_0 0 6 rfl rfl) ?_
  refine lv_istore_n (lv' := (kvI 0 (p0 - (((p0.toUInt32 >>> ((1 : Int32).toUInt32 &&& Int32.toUInt32 31)).toInt32) &&& 1431655765)) kvE)) hx hb (kdr dgJ6_bitCount_0f7a4_0 0 7 rfl rfl) rfl hl (by decide) rfl (fun ls hl => ?_)
  refine lv_iload_n hx hb (kdr dgJ6_bitCount_0f7a4_0 0 8 rfl rfl) rfl (lv_at hl 0 rfl) ?_
  refine lv_ldcw (v := (858993459)) hx hb hown hw1 (kdr dgJ6_bitCount_0f7a4_0 0 9 rfl rfl) ?_
  refine lv_iand hx hb (kdr dgJ6_bitCount_0f7a4_0 1 0 rfl rfl) ?_
  refine lv_iload_n hx hb (kdr dgJ6_bitCount_0f7a4_0 1 1 rfl rfl) rfl (lv_at hl 0 rfl) ?_
  refine lv_iconst (v := 2) hx hb (kdr dgJ6_bitCount_0f7a4_0 1 2 rfl rfl) (by decide) ?_
  refine lv_iushr (v := ((p0 - (((p0.toUInt32 >>> ((1 : Int32).toUInt32 &&& Int32.toUInt32 31)).toInt32) &&& 1431655765)).toUInt32 >>> ((2 : Int32).toUInt32 &&& Int32.toUInt32 31)).toInt32) hx hb (kdr dgJ6_bitCount_0f7a4_0 1 3 rfl rfl) rfl ?_
  refine lv_ldcw (v := (858993459)) hx hb hown hw1 (kdr dgJ6_bitCount_0f7a4_0 1 4 rfl rfl) ?_
  refine lv_iand hx hb (kdr dgJ6_bitCount_0f7a4_0 1 5 rfl rfl) ?_
  refine lv_iadd hx hb (kdr dgJ6_bitCount_0f7a4_0 1 6 rfl rfl) ?_
  refine lv_istore_n (lv' := (kvI 0 (((p0 - (((p0.toUInt32 >>> ((1 : Int32).toUInt32 &&& Int32.toUInt32 31)).toInt32) &&& 1431655765)) &&& 858993459) + ((((p0 - (((p0.toUInt32 >>> ((1 : Int32).toUInt32 &&& Int32.toUInt32 31)).toInt32) &&& 1431655765)).toUInt32 >>> ((2 : Int32).toUInt32 &&& Int32.toUInt32 31)).toInt32) &&& 858993459)) kvE)) hx hb (kdr dgJ6_bitCount_0f7a4_0 1 7 rfl rfl) rfl hl (by decide) rfl (fun ls hl => ?_)
  refine lv_iload_n hx hb (kdr dgJ6_bitCount_0f7a4_0 1 8 rfl rfl) rfl (lv_at hl 0 rfl) ?_
  refine lv_iload_n hx hb (kdr dgJ6_bitCount_0f7a4_0 1 9 rfl rfl) rfl (lv_at hl 0 rfl) ?_
  refine lv_iconst (v := 4) hx hb (kdr dgJ6_bitCount_0f7a4_0 2 0 rfl rfl) (by decide) ?_
  refine lv_iushr (v := ((((p0 - (((p0.toUInt32 >>> ((1 : Int32).toUInt32 &&& Int32.toUInt32 31)).toInt32) &&& 1431655765)) &&& 858993459) + ((((p0 - (((p0.toUInt32 >>> ((1 : Int32).toUInt32 &&& Int32.toUInt32 31)).toInt32) &&& 1431655765)).toUInt32 >>> ((2 : Int32).toUInt32 &&& Int32.toUInt32 31)).toInt32) &&& 858993459)).toUInt32 >>> ((4 : Int32).toUInt32 &&& Int32.toUInt32 31)).toInt32) hx hb (kdr dgJ6_bitCount_0f7a4_0 2 1 rfl rfl) rfl ?_
  refine lv_iadd hx hb (kdr dgJ6_bitCount_0f7a4_0 2 2 rfl rfl) ?_
  refine lv_ldcw (v := (252645135)) hx hb hown hw2 (kdr dgJ6_bitCount_0f7a4_0 2 3 rfl rfl) ?_
  refine lv_iand hx hb (kdr dgJ6_bitCount_0f7a4_0 2 4 rfl rfl) ?_
  refine lv_istore_n (lv' := (kvI 0 (((((p0 - (((p0.toUInt32 >>> ((1 : Int32).toUInt32 &&& Int32.toUInt32 31)).toInt32) &&& 1431655765)) &&& 858993459) + ((((p0 - (((p0.toUInt32 >>> ((1 : Int32).toUInt32 &&& Int32.toUInt32 31)).toInt32) &&& 1431655765)).toUInt32 >>> ((2 : Int32).toUInt32 &&& Int32.toUInt32 31)).toInt32) &&& 858993459)) + (((((p0 - (((p0.toUInt32 >>> ((1 : Int32).toUInt32 &&& Int32.toUInt32 31)).toInt32) &&& 1431655765)) &&& 858993459) + ((((p0 - (((p0.toUInt32 >>> ((1 : Int32).toUInt32 &&& Int32.toUInt32 31)).toInt32) &&& 1431655765)).toUInt32 >>> ((2 : Int32).toUInt32 &&& Int32.toUInt32 31)).toInt32) &&& 858993459)).toUInt32 >>> ((4 : Int32).toUInt32 &&& Int32.toUInt32 31)).toInt32)) &&& 252645135) kvE)) hx hb (kdr dgJ6_bitCount_0f7a4_0 2 5 rfl rfl) rfl hl (by decide) rfl (fun ls hl => ?_)
  refine lv_iload_n hx hb (kdr dgJ6_bitCount_0f7a4_0 2 6 rfl rfl) rfl (lv_at hl 0 rfl) ?_
  refine lv_iload_n hx hb (kdr dgJ6_bitCount_0f7a4_0 2 7 rfl rfl) rfl (lv_at hl 0 rfl) ?_
  refine lv_bipush (v := 8) hx hb (kdr dgJ6_bitCount_0f7a4_0 2 8 rfl rfl) (by decide) ?_
  refine lv_iushr (v := ((((((p0 - (((p0.toUInt32 >>> ((1 : Int32).toUInt32 &&& Int32.toUInt32 31)).toInt32) &&& 1431655765)) &&& 858993459) + ((((p0 - (((p0.toUInt32 >>> ((1 : Int32).toUInt32 &&& Int32.toUInt32 31)).toInt32) &&& 1431655765)).toUInt32 >>> ((2 : Int32).toUInt32 &&& Int32.toUInt32 31)).toInt32) &&& 858993459)) + (((((p0 - (((p0.toUInt32 >>> ((1 : Int32).toUInt32 &&& Int32.toUInt32 31)).toInt32) &&& 1431655765)) &&& 858993459) + ((((p0 - (((p0.toUInt32 >>> ((1 : Int32).toUInt32 &&& Int32.toUInt32 31)).toInt32) &&& 1431655765)).toUInt32 >>> ((2 : Int32).toUInt32 &&& Int32.toUInt32 31)).toInt32) &&& 858993459)).toUInt32 >>> ((4 : Int32).toUInt32 &&& Int32.toUInt32 31)).toInt32)) &&& 252645135).toUInt32 >>> ((8 : Int32).toUInt32 &&& Int32.toUInt32 31)).toInt32) hx hb (kdr dgJ6_bitCount_0f7a4_0 2 9 rfl rfl) rfl ?_
  refine lv_iadd hx hb (kdr dgJ6_bitCount_0f7a4_0 3 0 rfl rfl) ?_
  refine lv_istore_n (lv' := (kvI 0 ((((((p0 - (((p0.toUInt32 >>> ((1 : Int32).toUInt32 &&& Int32.toUInt32 31)).toInt32) &&& 1431655765)) &&& 858993459) + ((((p0 - (((p0.toUInt32 >>> ((1 : Int32).toUInt32 &&& Int32.toUInt32 31)).toInt32) &&& 1431655765)).toUInt32 >>> ((2 : Int32).toUInt32 &&& Int32.toUInt32 31)).toInt32) &&& 858993459)) + (((((p0 - (((p0.toUInt32 >>> ((1 : Int32).toUInt32 &&& Int32.toUInt32 31)).toInt32) &&& 1431655765)) &&& 858993459) + ((((p0 - (((p0.toUInt32 >>> ((1 : Int32).toUInt32 &&& Int32.toUInt32 31)).toInt32) &&& 1431655765)).toUInt32 >>> ((2 : Int32).toUInt32 &&& Int32.toUInt32 31)).toInt32) &&& 858993459)).toUInt32 >>> ((4 : Int32).toUInt32 &&& Int32.toUInt32 31)).toInt32)) &&& 252645135) + (((((((p0 - (((p0.toUInt32 >>> ((1 : Int32).toUInt32 &&& Int32.toUInt32 31)).toInt32) &&& 1431655765)) &&& 858993459) + ((((p0 - (((p0.toUInt32 >>> ((1 : Int32).toUInt32 &&& Int32.toUInt32 31)).toInt32) &&& 1431655765)).toUInt32 >>> ((2 : Int32).toUInt32 &&& Int32.toUInt32 31)).toInt32) &&& 858993459)) + (((((p0 - (((p0.toUInt32 >>> ((1 : Int32).toUInt32 &&& Int32.toUInt32 31)).toInt32) &&& 1431655765)) &&& 858993459) + ((((p0 - (((p0.toUInt32 >>> ((1 : Int32).toUInt32 &&& Int32.toUInt32 31)).toInt32) &&& 1431655765)).toUInt32 >>> ((2 : Int32).toUInt32 &&& Int32.toUInt32 31)).toInt32) &&& 858993459)).toUInt32 >>> ((4 : Int32).toUInt32 &&& Int32.toUInt32 31)).toInt32)) &&& 252645135).toUInt32 >>> ((8 : Int32).toUInt32 &&& Int32.toUInt32 31)).toInt32)) kvE)) hx hb (kdr dgJ6_bitCount_0f7a4_0 3 1 rfl rfl) rfl hl (by decide) rfl (fun ls hl => ?_)
  refine lv_iload_n hx hb (kdr dgJ6_bitCount_0f7a4_0 3 2 rfl rfl) rfl (lv_at hl 0 rfl) ?_
  refine lv_iload_n hx hb (kdr dgJ6_bitCount_0f7a4_0 3 3 rfl rfl) rfl (lv_at hl 0 rfl) ?_
  refine lv_bipush (v := 16) hx hb (kdr dgJ6_bitCount_0f7a4_0 3 4 rfl rfl) (by decide) ?_
  refine lv_iushr (v := (((((((p0 - (((p0.toUInt32 >>> ((1 : Int32).toUInt32 &&& Int32.toUInt32 31)).toInt32) &&& 1431655765)) &&& 858993459) + ((((p0 - (((p0.toUInt32 >>> ((1 : Int32).toUInt32 &&& Int32.toUInt32 31)).toInt32) &&& 1431655765)).toUInt32 >>> ((2 : Int32).toUInt32 &&& Int32.toUInt32 31)).toInt32) &&& 858993459)) + (((((p0 - (((p0.toUInt32 >>> ((1 : Int32).toUInt32 &&& Int32.toUInt32 31)).toInt32) &&& 1431655765)) &&& 858993459) + ((((p0 - (((p0.toUInt32 >>> ((1 : Int32).toUInt32 &&& Int32.toUInt32 31)).toInt32) &&& 1431655765)).toUInt32 >>> ((2 : Int32).toUInt32 &&& Int32.toUInt32 31)).toInt32) &&& 858993459)).toUInt32 >>> ((4 : Int32).toUInt32 &&& Int32.toUInt32 31)).toInt32)) &&& 252645135) + (((((((p0 - (((p0.toUInt32 >>> ((1 : Int32).toUInt32 &&& Int32.toUInt32 31)).toInt32) &&& 1431655765)) &&& 858993459) + ((((p0 - (((p0.toUInt32 >>> ((1 : Int32).toUInt32 &&& Int32.toUInt32 31)).toInt32) &&& 1431655765)).toUInt32 >>> ((2 : Int32).toUInt32 &&& Int32.toUInt32 31)).toInt32) &&& 858993459)) + (((((p0 - (((p0.toUInt32 >>> ((1 : Int32).toUInt32 &&& Int32.toUInt32 31)).toInt32) &&& 1431655765)) &&& 858993459) + ((((p0 - (((p0.toUInt32 >>> ((1 : Int32).toUInt32 &&& Int32.toUInt32 31)).toInt32) &&& 1431655765)).toUInt32 >>> ((2 : Int32).toUInt32 &&& Int32.toUInt32 31)).toInt32) &&& 858993459)).toUInt32 >>> ((4 : Int32).toUInt32 &&& Int32.toUInt32 31)).toInt32)) &&& 252645135).toUInt32 >>> ((8 : Int32).toUInt32 &&& Int32.toUInt32 31)).toInt32)).toUInt32 >>> ((16 : Int32).toUInt32 &&& Int32.toUInt32 31)).toInt32) hx hb (kdr dgJ6_bitCount_0f7a4_0 3 5 rfl rfl) rfl ?_
  refine lv_iadd hx hb (kdr dgJ6_bitCount_0f7a4_0 3 6 rfl rfl) ?_
  refine lv_istore_n (lv' := (kvI 0 (((((((p0 - (((p0.toUInt32 >>> ((1 : Int32).toUInt32 &&& Int32.toUInt32 31)).toInt32) &&& 1431655765)) &&& 858993459) + ((((p0 - (((p0.toUInt32 >>> ((1 : Int32).toUInt32 &&& Int32.toUInt32 31)).toInt32) &&& 1431655765)).toUInt32 >>> ((2 : Int32).toUInt32 &&& Int32.toUInt32 31)).toInt32) &&& 858993459)) + (((((p0 - (((p0.toUInt32 >>> ((1 : Int32).toUInt32 &&& Int32.toUInt32 31)).toInt32) &&& 1431655765)) &&& 858993459) + ((((p0 - (((p0.toUInt32 >>> ((1 : Int32).toUInt32 &&& Int32.toUInt32 31)).toInt32) &&& 1431655765)).toUInt32 >>> ((2 : Int32).toUInt32 &&& Int32.toUInt32 31)).toInt32) &&& 858993459)).toUInt32 >>> ((4 : Int32).toUInt32 &&& Int32.toUInt32 31)).toInt32)) &&& 252645135) + (((((((p0 - (((p0.toUInt32 >>> ((1 : Int32).toUInt32 &&& Int32.toUInt32 31)).toInt32) &&& 1431655765)) &&& 858993459) + ((((p0 - (((p0.toUInt32 >>> ((1 : Int32).toUInt32 &&& Int32.toUInt32 31)).toInt32) &&& 1431655765)).toUInt32 >>> ((2 : Int32).toUInt32 &&& Int32.toUInt32 31)).toInt32) &&& 858993459)) + (((((p0 - (((p0.toUInt32 >>> ((1 : Int32).toUInt32 &&& Int32.toUInt32 31)).toInt32) &&& 1431655765)) &&& 858993459) + ((((p0 - (((p0.toUInt32 >>> ((1 : Int32).toUInt32 &&& Int32.toUInt32 31)).toInt32) &&& 1431655765)).toUInt32 >>> ((2 : Int32).toUInt32 &&& Int32.toUInt32 31)).toInt32) &&& 858993459)).toUInt32 >>> ((4 : Int32).toUInt32 &&& Int32.toUInt32 31)).toInt32)) &&& 252645135).toUInt32 >>> ((8 : Int32).toUInt32 &&& Int32.toUInt32 31)).toInt32)) + ((((((((p0 - (((p0.toUInt32 >>> ((1 : Int32).toUInt32 &&& Int32.toUInt32 31)).toInt32) &&& 1431655765)) &&& 858993459) + ((((p0 - (((p0.toUInt32 >>> ((1 : Int32).toUInt32 &&& Int32.toUInt32 31)).toInt32) &&& 1431655765)).toUInt32 >>> ((2 : Int32).toUInt32 &&& Int32.toUInt32 31)).toInt32) &&& 858993459)) + (((((p0 - (((p0.toUInt32 >>> ((1 : Int32).toUInt32 &&& Int32.toUInt32 31)).toInt32) &&& 1431655765)) &&& 858993459) + ((((p0 - (((p0.toUInt32 >>> ((1 : Int32).toUInt32 &&& Int32.toUInt32 31)).toInt32) &&& 1431655765)).toUInt32 >>> ((2 : Int32).toUInt32 &&& Int32.toUInt32 31)).toInt32) &&& 858993459)).toUInt32 >>> ((4 : Int32).toUInt32 &&& Int32.toUInt32 31)).toInt32)) &&& 252645135) + (((((((p0 - (((p0.toUInt32 >>> ((1 : Int32).toUInt32 &&& Int32.toUInt32 31)).toInt32) &&& 1431655765)) &&& 858993459) + ((((p0 - (((p0.toUInt32 >>> ((1 : Int32).toUInt32 &&& Int32.toUInt32 31)).toInt32) &&& 1431655765)).toUInt32 >>> ((2 : Int32).toUInt32 &&& Int32.toUInt32 31)).toInt32) &&& 858993459)) + (((((p0 - (((p0.toUInt32 >>> ((1 : Int32).toUInt32 &&& Int32.toUInt32 31)).toInt32) &&& 1431655765)) &&& 858993459) + ((((p0 - (((p0.toUInt32 >>> ((1 : Int32).toUInt32 &&& Int32.toUInt32 31)).toInt32) &&& 1431655765)).toUInt32 >>> ((2 : Int32).toUInt32 &&& Int32.toUInt32 31)).toInt32) &&& 858993459)).toUInt32 >>> ((4 : Int32).toUInt32 &&& Int32.toUInt32 31)).toInt32)) &&& 252645135).toUInt32 >>> ((8 : Int32).toUInt32 &&& Int32.toUInt32 31)).toInt32)).toUInt32 >>> ((16 : Int32).toUInt32 &&& Int32.toUInt32 31)).toInt32)) kvE)) hx hb (kdr dgJ6_bitCount_0f7a4_0 3 7 rfl rfl) rfl hl (by decide) rfl (fun ls hl => ?_)
  refine lv_iload_n hx hb (kdr dgJ6_bitCount_0f7a4_0 3 8 rfl rfl) rfl (lv_at hl 0 rfl) ?_
  refine lv_bipush (v := 63) hx hb (kdr dgJ6_bitCount_0f7a4_0 3 9 rfl rfl) (by decide) ?_
  refine lv_iand hx hb (kdr dgJ6_bitCount_0f7a4_0 4 0 rfl rfl) ?_
  have h := Option.some.inj h
  subst h
  exact kret_i (v := (((((((p0 - (((p0.toUInt32 >>> ((1 : Int32).toUInt32 &&& Int32.toUInt32 31)).toInt32) &&& 1431655765)) &&& 858993459) + ((((p0 - (((p0.toUInt32 >>> ((1 : Int32).toUInt32 &&& Int32.toUInt32 31)).toInt32) &&& 1431655765)).toUInt32 >>> ((2 : Int32).toUInt32 &&& Int32.toUInt32 31)).toInt32) &&& 858993459)) + (((((p0 - (((p0.toUInt32 >>> ((1 : Int32).toUInt32 &&& Int32.toUInt32 31)).toInt32) &&& 1431655765)) &&& 858993459) + ((((p0 - (((p0.toUInt32 >>> ((1 : Int32).toUInt32 &&& Int32.toUInt32 31)).toInt32) &&& 1431655765)).toUInt32 >>> ((2 : Int32).toUInt32 &&& Int32.toUInt32 31)).toInt32) &&& 858993459)).toUInt32 >>> ((4 : Int32).toUInt32 &&& Int32.toUInt32 31)).toInt32)) &&& 252645135) + (((((((p0 - (((p0.toUInt32 >>> ((1 : Int32).toUInt32 &&& Int32.toUInt32 31)).toInt32) &&& 1431655765)) &&& 858993459) + ((((p0 - (((p0.toUInt32 >>> ((1 : Int32).toUInt32 &&& Int32.toUInt32 31)).toInt32) &&& 1431655765)).toUInt32 >>> ((2 : Int32).toUInt32 &&& Int32.toUInt32 31)).toInt32) &&& 858993459)) + (((((p0 - (((p0.toUInt32 >>> ((1 : Int32).toUInt32 &&& Int32.toUInt32 31)).toInt32) &&& 1431655765)) &&& 858993459) + ((((p0 - (((p0.toUInt32 >>> ((1 : Int32).toUInt32 &&& Int32.toUInt32 31)).toInt32) &&& 1431655765)).toUInt32 >>> ((2 : Int32).toUInt32 &&& Int32.toUInt32 31)).toInt32) &&& 858993459)).toUInt32 >>> ((4 : Int32).toUInt32 &&& Int32.toUInt32 31)).toInt32)) &&& 252645135).toUInt32 >>> ((8 : Int32).toUInt32 &&& Int32.toUInt32 31)).toInt32)) + ((((((((p0 - (((p0.toUInt32 >>> ((1 : Int32).toUInt32 &&& Int32.toUInt32 31)).toInt32) &&& 1431655765)) &&& 858993459) + ((((p0 - (((p0.toUInt32 >>> ((1 : Int32).toUInt32 &&& Int32.toUInt32 31)).toInt32) &&& 1431655765)).toUInt32 >>> ((2 : Int32).toUInt32 &&& Int32.toUInt32 31)).toInt32) &&& 858993459)) + (((((p0 - (((p0.toUInt32 >>> ((1 : Int32).toUInt32 &&& Int32.toUInt32 31)).toInt32) &&& 1431655765)) &&& 858993459) + ((((p0 - (((p0.toUInt32 >>> ((1 : Int32).toUInt32 &&& Int32.toUInt32 31)).toInt32) &&& 1431655765)).toUInt32 >>> ((2 : Int32).toUInt32 &&& Int32.toUInt32 31)).toInt32) &&& 858993459)).toUInt32 >>> ((4 : Int32).toUInt32 &&& Int32.toUInt32 31)).toInt32)) &&& 252645135) + (((((((p0 - (((p0.toUInt32 >>> ((1 : Int32).toUInt32 &&& Int32.toUInt32 31)).toInt32) &&& 1431655765)) &&& 858993459) + ((((p0 - (((p0.toUInt32 >>> ((1 : Int32).toUInt32 &&& Int32.toUInt32 31)).toInt32) &&& 1431655765)).toUInt32 >>> ((2 : Int32).toUInt32 &&& Int32.toUInt32 31)).toInt32) &&& 858993459)) + (((((p0 - (((p0.toUInt32 >>> ((1 : Int32).toUInt32 &&& Int32.toUInt32 31)).toInt32) &&& 1431655765)) &&& 858993459) + ((((p0 - (((p0.toUInt32 >>> ((1 : Int32).toUInt32 &&& Int32.toUInt32 31)).toInt32) &&& 1431655765)).toUInt32 >>> ((2 : Int32).toUInt32 &&& Int32.toUInt32 31)).toInt32) &&& 858993459)).toUInt32 >>> ((4 : Int32).toUInt32 &&& Int32.toUInt32 31)).toInt32)) &&& 252645135).toUInt32 >>> ((8 : Int32).toUInt32 &&& Int32.toUInt32 31)).toInt32)).toUInt32 >>> ((16 : Int32).toUInt32 &&& Int32.toUInt32 31)).toInt32)) &&& 63) hx hb hr rfl hlocks hS hP (kdr dgJ6_bitCount_0f7a4_0 4 1 rfl rfl)
end
-- 06b.txt.lean.txt
section
noncomputable abbrev wsJ6_stringSize_0f7a4 : List Cond := kWs yJ6_stringSize_0f7a4 cJ6_stringSize_0f7a4 4 (some .int)
noncomputable def f_J6_stringSize_0f7a4_16 : Nat → (Int32) → (Int32) → (Int32) → (Int32) → Option (Int32)
  | 0, _, _, _, _ => none
  | n + 1, x0, x1, x2, x3 =>
    if 10 ≤ x3 then
      some ((10 : Int32) + x1)
    else
      if x0 ≤ x2 then
        f_J6_stringSize_0f7a4_16 n x0 x1 ((10 : Int32) * x2) (x3 + 1)
      else
        some (x3 + x1)
theorem f_J6_stringSize_0f7a4_16_0 {x0 : Int32} {x1 : Int32} {x2 : Int32} {x3 : Int32} : f_J6_stringSize_0f7a4_16 0 x0 x1 x2 x3 = none := rfl
theorem f_J6_stringSize_0f7a4_16_s {n : Nat} {x0 : Int32} {x1 : Int32} {x2 : Int32} {x3 : Int32} : f_J6_stringSize_0f7a4_16 (n + 1) x0 x1 x2 x3 =
  if 10 ≤ x3 then
    some ((10 : Int32) + x1)
  else
    if x0 ≤ x2 then
      f_J6_stringSize_0f7a4_16 n x0 x1 ((10 : Int32) * x2) (x3 + 1)
    else
      some (x3 + x1) := rfl
noncomputable def f_J6_stringSize_0f7a4 (p0 : Int32) : Option (Int32) :=
  if p0 < 0 then
    f_J6_stringSize_0f7a4_16 24 p0 1 (-10) 1
  else
    f_J6_stringSize_0f7a4_16 24 (-p0) 0 (-10) 1
theorem f_J6_stringSize_0f7a4_e {p0 : Int32} : f_J6_stringSize_0f7a4 p0 = 
  if p0 < 0 then
    f_J6_stringSize_0f7a4_16 24 p0 1 (-10) 1
  else
    f_J6_stringSize_0f7a4_16 24 (-p0) 0 (-10) 1 := rfl
set_option maxHeartbeats 4000000 in
set_option maxRecDepth 100000 in
theorem c_J6_stringSize_0f7a4 (l : Launch) (dC : Nat → ClassId) (dI : Nat → Nat → Nat) (cB cI cJ cZ : ClassId) (sz : Nat) (p0 : Int32) (res : Int32) (hf : f_J6_stringSize_0f7a4 p0 = some res) : kMi l yJ6_stringSize_0f7a4 wsJ6_stringSize_0f7a4 (kRm 0 0 0 0) dC dI cB cI cJ cZ [.int p0] sz [] .int (res) [] 0 0 := by
  refine kofW (y := yJ6_stringSize_0f7a4) (cc := cJ6_stringSize_0f7a4) (maxL := 4) (ret := (some .int)) (plainFor_of_name (x := yJ6_stringSize_0f7a4) kpl_J6) rfl ?_
  intro p e s m args below meth c s₁ B hml hv
  obtain ⟨rfl, hsz, hP, hK, hD0, hG⟩ := hv
  have hx := B.exec
  have hb := B.bytes
  have hr := B.returns
  have hts := atoms_spec (ws := wsJ6_stringSize_0f7a4) B.pre
  have hown : s.vm.findClass RJ6 = some m.cls := findClass_of_methodNamed B.named
  have hlocks := B.notSynchronized
  subst hsz
  have hD := hD0.self (sz := s.heap.size)
  generalize hAe : va_A [] s.heap.size = A at hD ⊢
  have hA : ∀ q : Nat, s.heap.size ≤ q → A q := fun q h => by rw [← hAe]; exact Or.inr h
  have hS : va_S A s.heap s.heap [] := va_S.rf
  clear hAe
  have J16 : ∀ (n : Nat), ∀ (x0 : Int32) (x1 : Int32) (x2 : Int32) (x3 : Int32) (H : Heap) (locs : List Loc), va_P (dC, dI) vwCl [] H → va_D A [] → va_S A s.heap H locs → ∀ (ls : Array Slot), lv_has ls 4 (kvI 0 x0 (kvI 1 x1 (kvI 2 x2 (kvI 3 x3 kvE)))) → f_J6_stringSize_0f7a4_16 n x0 x1 x2 x3 = some res → W p l e (headSpec wsJ6_stringSize_0f7a4 (kRm 0 0 0 0)).room s m ([.int p0] : List Value).toArray below meth c H locs 0 0 (MQ below (kI (dC, dI) .int (res) [] A) ([.int p0] : List Value).toArray s 0 0 A) (F0 m 16 ls []) := by
    intro n
    induction n with
    | zero =>
      intro x0 x1 x2 x3 H locs hP hD hS ls hl h
      have h := f_J6_stringSize_0f7a4_16_0.symm.trans h
      cases h
    | succ n ih =>
      intro x0 x1 x2 x3 H locs hP hD hS ls hl h
      have h := f_J6_stringSize_0f7a4_16_s.symm.trans h
      refine lv_iload_n hx hb (kdr dgJ6_stringSize_0f7a4_0 1 3 rfl rfl) rfl (lv_at hl 3 rfl) ?_
      refine lv_bipush (v := 10) hx hb (kdr dgJ6_stringSize_0f7a4_0 1 4 rfl rfl) (by decide) ?_
      refine lv_icmp_ge (tgt := 42) hx hb (kdr dgJ6_stringSize_0f7a4_0 1 5 rfl rfl) (by decide) (fun c1 => ?_) (fun c1 => ?_)
      · have h := g_t c1 h
        refine lv_bipush (v := 10) hx hb (kdr dgJ6_stringSize_0f7a4_0 2 9 rfl rfl) (by decide) ?_
        refine lv_iload_n hx hb (kdr dgJ6_stringSize_0f7a4_0 3 0 rfl rfl) rfl (lv_at hl 1 rfl) ?_
        refine lv_iadd hx hb (kdr dgJ6_stringSize_0f7a4_0 3 1 rfl rfl) ?_
        have h := Option.some.inj h
        subst h
        exact kret_i (v := (10 : Int32) + x1) hx hb hr rfl hlocks hS hP (kdr dgJ6_stringSize_0f7a4_0 3 2 rfl rfl)
      · have h := g_f c1 h
        refine lv_iload_n hx hb (kdr dgJ6_stringSize_0f7a4_0 1 6 rfl rfl) rfl (lv_at hl 0 rfl) ?_
        refine lv_iload_n hx hb (kdr dgJ6_stringSize_0f7a4_0 1 7 rfl rfl) rfl (lv_at hl 2 rfl) ?_
        refine lv_icmp_le (tgt := 31) hx hb (kdr dgJ6_stringSize_0f7a4_0 1 8 rfl rfl) (by decide) (fun c2 => ?_) (fun c2 => ?_)
        · have h := g_t c2 h
          refine lv_bipush (v := 10) hx hb (kdr dgJ6_stringSize_0f7a4_0 2 3 rfl rfl) (by decide) ?_
          refine lv_iload_n hx hb (kdr dgJ6_stringSize_0f7a4_0 2 4 rfl rfl) rfl (lv_at hl 2 rfl) ?_
          refine lv_imul hx hb (kdr dgJ6_stringSize_0f7a4_0 2 5 rfl rfl) ?_
          refine lv_istore_n (lv' := (kvI 2 ((10 : Int32) * x2) (kvI 0 x0 (kvI 1 x1 (kvI 3 x3 kvE))))) hx hb (kdr dgJ6_stringSize_0f7a4_0 2 6 rfl rfl) rfl hl (by decide) rfl (fun ls hl => ?_)
          refine lv_iinc (v := x3 + 1) (lv' := (kvI 3 (x3 + 1) (kvI 2 ((10 : Int32) * x2) (kvI 0 x0 (kvI 1 x1 kvE))))) hx hb (kdr dgJ6_stringSize_0f7a4_0 2 7 rfl rfl) hl (k := 3) rfl rfl (by decide) rfl (fun ls hl => ?_)
          refine lv_goto (tgt := 16) hx hb (kdr dgJ6_stringSize_0f7a4_0 2 8 rfl rfl) (by decide) ?_
          exact ih x0 x1 ((10 : Int32) * x2) (x3 + 1) _ _ hP hD hS ls (lv_sub hl [2, 3, 1, 0] rfl) h
        · have h := g_f c2 h
          refine lv_iload_n hx hb (kdr dgJ6_stringSize_0f7a4_0 1 9 rfl rfl) rfl (lv_at hl 3 rfl) ?_
          refine lv_iload_n hx hb (kdr dgJ6_stringSize_0f7a4_0 2 0 rfl rfl) rfl (lv_at hl 1 rfl) ?_
          refine lv_iadd hx hb (kdr dgJ6_stringSize_0f7a4_0 2 1 rfl rfl) ?_
          have h := Option.some.inj h
          subst h
          exact kret_i (v := x3 + x1) hx hb hr rfl hlocks hS hP (kdr dgJ6_stringSize_0f7a4_0 2 2 rfl rfl)
  have hl := lv_entry ([.int p0]) (n := 4) (Nat.le_of_ble_eq_true rfl)
  rw [lg_entry_eq]
  generalize (lg_sl ([.int p0]) ++ List.replicate (4 - (lg_sl ([.int p0])).length) Slot.unset).toArray = ls at hl ⊢
  have hl : lv_has ls 4 (kvI 0 p0 kvE) := hl
  have h := f_J6_stringSize_0f7a4_e.symm.trans hf
  refine lv_iconst (v := 1) hx hb (kdr dgJ6_stringSize_0f7a4_0 0 0 rfl rfl) (by decide) ?_
  refine lv_istore_n (lv' := (kvI 1 1 (kvI 0 p0 kvE))) hx hb (kdr dgJ6_stringSize_0f7a4_0 0 1 rfl rfl) rfl hl (by decide) rfl (fun ls hl => ?_)
  refine lv_iload_n hx hb (kdr dgJ6_stringSize_0f7a4_0 0 2 rfl rfl) rfl (lv_at hl 1 rfl) ?_
  refine lv_if_lt (tgt := 11) hx hb (kdr dgJ6_stringSize_0f7a4_0 0 3 rfl rfl) (by decide) (fun c1 => ?_) (fun c1 => ?_)
  · have h := g_t c1 h
    refine lv_bipush (v := (-10)) hx hb (kdr dgJ6_stringSize_0f7a4_0 0 9 rfl rfl) (by decide) ?_
    refine lv_istore_n (lv' := (kvI 2 (-10) (kvI 1 1 (kvI 0 p0 kvE)))) hx hb (kdr dgJ6_stringSize_0f7a4_0 1 0 rfl rfl) rfl hl (by decide) rfl (fun ls hl => ?_)
    refine lv_iconst (v := 1) hx hb (kdr dgJ6_stringSize_0f7a4_0 1 1 rfl rfl) (by decide) ?_
    refine lv_istore_n (lv' := (kvI 3 1 (kvI 2 (-10) (kvI 1 1 (kvI 0 p0 kvE))))) hx hb (kdr dgJ6_stringSize_0f7a4_0 1 2 rfl rfl) rfl hl (by decide) rfl (fun ls hl => ?_)
    exact J16 24 p0 1 (-10) 1 _ _ hP hD hS ls (lv_sub hl [3, 2, 1, 0] rfl) h
  · have h := g_f c1 h
    refine lv_iconst (v := 0) hx hb (kdr dgJ6_stringSize_0f7a4_0 0 4 rfl rfl) (by decide) ?_
    refine lv_istore_n (lv' := (kvI 1 0 (kvI 0 p0 kvE))) hx hb (kdr dgJ6_stringSize_0f7a4_0 0 5 rfl rfl) rfl hl (by decide) rfl (fun ls hl => ?_)
    refine lv_iload_n hx hb (kdr dgJ6_stringSize_0f7a4_0 0 6 rfl rfl) rfl (lv_at hl 1 rfl) ?_
    refine lv_ineg hx hb (kdr dgJ6_stringSize_0f7a4_0 0 7 rfl rfl) ?_
    refine lv_istore_n (lv' := (kvI 0 (-p0) (kvI 1 0 kvE))) hx hb (kdr dgJ6_stringSize_0f7a4_0 0 8 rfl rfl) rfl hl (by decide) rfl (fun ls hl => ?_)
    refine lv_bipush (v := (-10)) hx hb (kdr dgJ6_stringSize_0f7a4_0 0 9 rfl rfl) (by decide) ?_
    refine lv_istore_n (lv' := (kvI 2 (-10) (kvI 0 (-p0) (kvI 1 0 kvE)))) hx hb (kdr dgJ6_stringSize_0f7a4_0 1 0 rfl rfl) rfl hl (by decide) rfl (fun ls hl => ?_)
    refine lv_iconst (v := 1) hx hb (kdr dgJ6_stringSize_0f7a4_0 1 1 rfl rfl) (by decide) ?_
    refine lv_istore_n (lv' := (kvI 3 1 (kvI 2 (-10) (kvI 0 (-p0) (kvI 1 0 kvE))))) hx hb (kdr dgJ6_stringSize_0f7a4_0 1 2 rfl rfl) rfl hl (by decide) rfl (fun ls hl => ?_)
    exact J16 24 (-p0) 0 (-10) 1 _ _ hP hD hS ls (lv_sub hl [2, 3, 1, 0] rfl) h
noncomputable abbrev wsJ8_newLength_cabcc : List Cond := kWs yJ8_newLength_cabcc cJ8_newLength_cabcc 4 (some .int)
noncomputable def f_J8_newLength_cabcc_21 : Option (Int32) :=
  none
theorem f_J8_newLength_cabcc_21_e : f_J8_newLength_cabcc_21 =
  none := rfl
noncomputable def f_J8_newLength_cabcc (p0 : Int32) (p1 : Int32) (p2 : Int32) : Option (Int32) :=
  if (p0 + (if p1 < p2 then p2 else p1)) ≤ (0 : Int32) then
    f_J8_newLength_cabcc_21
  else
    if 2147483639 < (p0 + (if p1 < p2 then p2 else p1)) then
      f_J8_newLength_cabcc_21
    else
      some (p0 + (if p1 < p2 then p2 else p1))
theorem f_J8_newLength_cabcc_e {p0 : Int32} {p1 : Int32} {p2 : Int32} : f_J8_newLength_cabcc p0 p1 p2 = 
  if (p0 + (if p1 < p2 then p2 else p1)) ≤ (0 : Int32) then
    f_J8_newLength_cabcc_21
  else
    if 2147483639 < (p0 + (if p1 < p2 then p2 else p1)) then
      f_J8_newLength_cabcc_21
    else
      some (p0 + (if p1 < p2 then p2 else p1)) := rfl
set_option maxHeartbeats 4000000 in
set_option maxRecDepth 100000 in
theorem c_J8_newLength_cabcc (l : Launch) (dC : Nat → ClassId) (dI : Nat → Nat → Nat) (cB cI cJ cZ : ClassId) (sz : Nat) (p0 : Int32) (p1 : Int32) (p2 : Int32) (res : Int32) (hf : f_J8_newLength_cabcc p0 p1 p2 = some res) : kMi l yJ8_newLength_cabcc wsJ8_newLength_cabcc (kRm 1 0 0 40) dC dI cB cI cJ cZ [.int p0, .int p1, .int p2] sz [] .int (res) [] 0 0 := by
  refine kofW (y := yJ8_newLength_cabcc) (cc := cJ8_newLength_cabcc) (maxL := 4) (ret := (some .int)) (plainFor_of_name (x := yJ8_newLength_cabcc) kpl_J8) rfl ?_
  intro p e s m args below meth c s₁ B hml hv
  obtain ⟨rfl, hsz, hP, hK, hD0, hG⟩ := hv
  have hx := B.exec
  have hb := B.bytes
  have hr := B.returns
  have hts := atoms_spec (ws := wsJ8_newLength_cabcc) B.pre
  have hown : s.vm.findClass RJ8 = some m.cls := findClass_of_methodNamed B.named
  have hlocks := B.notSynchronized
  subst hsz
  have hD := hD0.self (sz := s.heap.size)
  generalize hAe : va_A [] s.heap.size = A at hD ⊢
  have hA : ∀ q : Nat, s.heap.size ≤ q → A q := fun q h => by rw [← hAe]; exact Or.inr h
  have hS : va_S A s.heap s.heap [] := va_S.rf
  clear hAe
  have hw0 := hts (.methodLink RJ8 194 Lib.Math.max.name) (List.mem_cons_of_mem _ kw_734)
  have hw1 := hts (.static Lib.Math.max.name) (List.mem_cons_of_mem _ kw_176)
  have hw2 := hts (.initialized "java/lang/Math") (List.mem_cons_of_mem _ kw_66)
  have hw3 := hts (.code Lib.Math.max.name Lib.Math.max.code 2 (some .int)) (List.mem_cons_of_mem _ kw_177)
  have hw4 := hts (.constant RJ8 200 (2147483639)) (List.mem_cons_of_mem _ kw_735)
  have J21 : ∀ (x0 : Int32) (x1 : Int32) (H : Heap) (locs : List Loc), va_P (dC, dI) vwCl [] H → va_D A [] → va_S A s.heap H locs → ∀ (ls : Array Slot), lv_has ls 4 (kvI 0 x0 (kvI 1 x1 kvE)) → f_J8_newLength_cabcc_21  = some res → W p l e (headSpec wsJ8_newLength_cabcc (kRm 1 0 0 40)).room s m ([.int p0, .int p1, .int p2] : List Value).toArray below meth c H locs 0 0 (MQ below (kI (dC, dI) .int (res) [] A) ([.int p0, .int p1, .int p2] : List Value).toArray s 0 0 A) (F0 m 21 ls []) := by
    intro x0 x1 H locs hP hD hS ls hl h
    have h := f_J8_newLength_cabcc_21_e.symm.trans h
    refine lv_iload_n hx hb (kdr dgJ8_newLength_cabcc_0 1 4 rfl rfl) rfl (lv_at hl 0 rfl) ?_
    refine lv_iload_n hx hb (kdr dgJ8_newLength_cabcc_0 1 5 rfl rfl) rfl (lv_at hl 1 rfl) ?_
    cases h
  have hl := lv_entry ([.int p0, .int p1, .int p2]) (n := 4) (Nat.le_of_ble_eq_true rfl)
  rw [lg_entry_eq]
  generalize (lg_sl ([.int p0, .int p1, .int p2]) ++ List.replicate (4 - (lg_sl ([.int p0, .int p1, .int p2])).length) Slot.unset).toArray = ls at hl ⊢
  have hl : lv_has ls 4 (kvI 0 p0 (kvI 1 p1 (kvI 2 p2 kvE))) := hl
  have h := f_J8_newLength_cabcc_e.symm.trans hf
  refine lv_iload_n hx hb (kdr dgJ8_newLength_cabcc_0 0 0 rfl rfl) rfl (lv_at hl 0 rfl) ?_
  refine lv_iload_n hx hb (kdr dgJ8_newLength_cabcc_0 0 1 rfl rfl) rfl (lv_at hl 1 rfl) ?_
  refine lv_iload_n hx hb (kdr dgJ8_newLength_cabcc_0 0 2 rfl rfl) rfl (lv_at hl 2 rfl) ?_
  refine va_mmax hx hb (hml.trans hl.1.symm) hown hw0 hw1 hw2 hw3 (Nat.le_of_ble_eq_true rfl) (Nat.le_of_ble_eq_true rfl) (Nat.le_of_ble_eq_true rfl) (Nat.le_of_ble_eq_true rfl) (kdr dgJ8_newLength_cabcc_0 0 3 rfl rfl) ?_
  refine lv_iadd hx hb (kdr dgJ8_newLength_cabcc_0 0 4 rfl rfl) ?_
  refine lv_istore_n (lv' := (kvI 3 (p0 + (if p1 < p2 then p2 else p1)) (kvI 0 p0 (kvI 1 p1 (kvI 2 p2 kvE))))) hx hb (kdr dgJ8_newLength_cabcc_0 0 5 rfl rfl) rfl hl (by decide) rfl (fun ls hl => ?_)
  refine lv_iconst (v := 0) hx hb (kdr dgJ8_newLength_cabcc_0 0 6 rfl rfl) (by decide) ?_
  refine lv_iload_n hx hb (kdr dgJ8_newLength_cabcc_0 0 7 rfl rfl) rfl (lv_at hl 0 rfl) ?_
  refine lv_icmp_ge (tgt := 21) hx hb (kdr dgJ8_newLength_cabcc_0 0 8 rfl rfl) (by decide) (fun c1 => ?_) (fun c1 => ?_)
  · have h := g_t c1 h
    exact J21 p0 p1 _ _ hP hD hS ls (lv_sub hl [1, 2] rfl) h
  · have h := g_f c1 h
    refine lv_iload_n hx hb (kdr dgJ8_newLength_cabcc_0 0 9 rfl rfl) rfl (lv_at hl 0 rfl) ?_
    refine lv_ldc (v := (2147483639)) hx hb hown hw4 (kdr dgJ8_newLength_cabcc_0 1 0 rfl rfl) ?_
    refine lv_icmp_gt (tgt := 21) hx hb (kdr dgJ8_newLength_cabcc_0 1 1 rfl rfl) (by decide) (fun c2 => ?_) (fun c2 => ?_)
    · have h := g_t c2 h
      exact J21 p0 p1 _ _ hP hD hS ls (lv_sub hl [1, 2] rfl) h
    · have h := g_f c2 h
      refine lv_iload_n hx hb (kdr dgJ8_newLength_cabcc_0 1 2 rfl rfl) rfl (lv_at hl 0 rfl) ?_
      have h := Option.some.inj h
      subst h
      exact kret_i (v := p0 + (if p1 < p2 then p2 else p1)) hx hb hr rfl hlocks hS hP (kdr dgJ8_newLength_cabcc_0 1 3 rfl rfl)
noncomputable abbrev wsJ5_newCapacity_0f7a4 : List Cond := kWs yJ5_newCapacity_0f7a4 cJ5_newCapacity_0f7a4 6 (some .int)
noncomputable def f_J5_newCapacity_0f7a4 (tn : Nat) (p0 : Int32) : Option (Int32) :=
  (f_J8_newLength_cabcc (Int32.ofNat tn) ((p0 <<< ((0 : Int32) &&& 31)) - (Int32.ofNat tn)) ((Int32.ofNat tn) + ((2 : Int32) <<< ((0 : Int32) &&& 31)))).bind fun r1 =>
  if r1 = 2147483647 then
    none
  else
    some (r1 >>> ((0 : Int32) &&& 31))
theorem f_J5_newCapacity_0f7a4_e {tn : Nat} {p0 : Int32} : f_J5_newCapacity_0f7a4 tn p0 = 
  (f_J8_newLength_cabcc (Int32.ofNat tn) ((p0 <<< ((0 : Int32) &&& 31)) - (Int32.ofNat tn)) ((Int32.ofNat tn) + ((2 : Int32) <<< ((0 : Int32) &&& 31)))).bind fun r1 =>
  if r1 = 2147483647 then
    none
  else
    some (r1 >>> ((0 : Int32) &&& 31)) := rfl
set_option maxHeartbeats 4000000 in
set_option maxRecDepth 100000 in
theorem c_J5_newCapacity_0f7a4 (l : Launch) (dC : Nat → ClassId) (dI : Nat → Nat → Nat) (cB cI cJ cZ : ClassId) (t0 : Nat) (t1 : Nat) (sz : Nat) (tn : Nat) (tv : Nat → Int32) (tk : Int32) (p0 : Int32) (res : Int32) (hf : f_J5_newCapacity_0f7a4 tn p0 = some res) : kMi l yJ5_newCapacity_0f7a4 wsJ5_newCapacity_0f7a4 (kRm 2 0 0 63) dC dI cB cI cJ cZ [.ref t0, .int p0] sz (wTB cB t0 t1 tn tv tk) .int (res) (wTB cB t0 t1 tn tv tk) 0 0 := by
  refine kofW (y := yJ5_newCapacity_0f7a4) (cc := cJ5_newCapacity_0f7a4) (maxL := 6) (ret := (some .int)) (plainFor_of_name (x := yJ5_newCapacity_0f7a4) kpl_J5) rfl ?_
  intro p e s m args below meth c s₁ B hml hv
  obtain ⟨rfl, hsz, hP, hK, hD0, hG⟩ := hv
  have hx := B.exec
  have hb := B.bytes
  have hr := B.returns
  have hts := atoms_spec (ws := wsJ5_newCapacity_0f7a4) B.pre
  have hown : s.vm.findClass RJ5 = some m.cls := findClass_of_methodNamed B.named
  have hlocks := B.notSynchronized
  subst hsz
  have hD := hD0.self (sz := s.heap.size)
  generalize hAe : va_A (wTB cB t0 t1 tn tv tk) s.heap.size = A at hD ⊢
  have hA : ∀ q : Nat, s.heap.size ≤ q → A q := fun q h => by rw [← hAe]; exact Or.inr h
  have hS : va_S A s.heap s.heap [] := va_S.rf
  clear hAe
  have hw0 := hts (.fieldLink RJ5 15 "java/lang/AbstractStringBuilder" "value" "[B") (List.mem_cons_of_mem _ kw_700)
  have hw1 := hts (.fieldLink RJ5 22 "java/lang/AbstractStringBuilder" "coder" "B") (List.mem_cons_of_mem _ kw_701)
  have hw2 := hts (.constant RJ5 39 (2147483647)) (List.mem_cons_of_mem _ kw_739)
  have hiJ4 : ∀ w ∈ u_ws RJ4 TJ4 4, w ∈ wsJ5_newCapacity_0f7a4 := fun w h => List.mem_cons_of_mem _ (ku_J4 w h)
  have hl := lv_entry ([.ref t0, .int p0]) (n := 6) (Nat.le_of_ble_eq_true rfl)
  rw [lg_entry_eq]
  generalize (lg_sl ([.ref t0, .int p0]) ++ List.replicate (6 - (lg_sl ([.ref t0, .int p0])).length) Slot.unset).toArray = ls at hl ⊢
  have hl : lv_has ls 6 (kvA 0 t0 (kvI 1 p0 kvE)) := hl
  have h := f_J5_newCapacity_0f7a4_e.symm.trans hf
  refine lv_aload_n hx hb (kdr dgJ5_newCapacity_0f7a4_0 0 0 rfl rfl) rfl (lv_at hl 0 rfl) ?_
  refine va_get (D := (dC, dI)) (ci := 1) (v := .ref t1) (C := RJ4) (T := TJ4) (N := 4) hx hb hts hiJ4 hown hK hP 0 rfl rfl 0 (by decide) hw0 (fun _ h9 => h9) rfl (kdr dgJ5_newCapacity_0f7a4_0 0 1 rfl rfl) ?_
  refine va_alen (v := Int32.ofNat tn) hx hb hK hP 1 0 rfl rfl rfl (kdr dgJ5_newCapacity_0f7a4_0 0 2 rfl rfl) ?_
  refine lv_istore_n (lv' := (kvI 2 (Int32.ofNat tn) (kvA 0 t0 (kvI 1 p0 kvE)))) hx hb (kdr dgJ5_newCapacity_0f7a4_0 0 3 rfl rfl) rfl hl (by decide) rfl (fun ls hl => ?_)
  refine lv_iload_n hx hb (kdr dgJ5_newCapacity_0f7a4_0 0 4 rfl rfl) rfl (lv_at hl 2 rfl) ?_
  refine lv_aload_n hx hb (kdr dgJ5_newCapacity_0f7a4_0 0 5 rfl rfl) rfl (lv_at hl 1 rfl) ?_
  refine va_get (D := (dC, dI)) (ci := 1) (v := .int 0) (C := RJ4) (T := TJ4) (N := 4) hx hb hts hiJ4 hown hK hP 0 rfl rfl 1 (by decide) hw1 (fun _ h9 => h9) rfl (kdr dgJ5_newCapacity_0f7a4_0 0 6 rfl rfl) ?_
  refine lv_ishl hx hb (kdr dgJ5_newCapacity_0f7a4_0 0 7 rfl rfl) ?_
  refine lv_istore_n (lv' := (kvI 3 (p0 <<< ((0 : Int32) &&& 31)) (kvI 2 (Int32.ofNat tn) (kvA 0 t0 (kvI 1 p0 kvE))))) hx hb (kdr dgJ5_newCapacity_0f7a4_0 0 8 rfl rfl) rfl hl (by decide) rfl (fun ls hl => ?_)
  refine lv_iload_n hx hb (kdr dgJ5_newCapacity_0f7a4_0 0 9 rfl rfl) rfl (lv_at hl 0 rfl) ?_
  refine lv_iload_n hx hb (kdr dgJ5_newCapacity_0f7a4_0 1 0 rfl rfl) rfl (lv_at hl 1 rfl) ?_
  refine lv_isub hx hb (kdr dgJ5_newCapacity_0f7a4_0 1 1 rfl rfl) ?_
  refine lv_istore (lv' := (kvI 4 ((p0 <<< ((0 : Int32) &&& 31)) - (Int32.ofNat tn)) (kvI 3 (p0 <<< ((0 : Int32) &&& 31)) (kvI 2 (Int32.ofNat tn) (kvA 0 t0 (kvI 1 p0 kvE)))))) hx hb (kdr dgJ5_newCapacity_0f7a4_0 1 2 rfl rfl) hl (by decide) rfl (fun ls hl => ?_)
  refine lv_iload_n hx hb (kdr dgJ5_newCapacity_0f7a4_0 1 3 rfl rfl) rfl (lv_at hl 2 rfl) ?_
  refine lv_iload hx hb (kdr dgJ5_newCapacity_0f7a4_0 1 4 rfl rfl) (lv_at hl 0 rfl) ?_
  refine lv_iload_n hx hb (kdr dgJ5_newCapacity_0f7a4_0 1 5 rfl rfl) rfl (lv_at hl 2 rfl) ?_
  refine lv_iconst (v := 2) hx hb (kdr dgJ5_newCapacity_0f7a4_0 1 6 rfl rfl) (by decide) ?_
  refine lv_aload_n hx hb (kdr dgJ5_newCapacity_0f7a4_0 1 7 rfl rfl) rfl (lv_at hl 3 rfl) ?_
  refine va_get (D := (dC, dI)) (ci := 1) (v := .int 0) (C := RJ4) (T := TJ4) (N := 4) hx hb hts hiJ4 hown hK hP 0 rfl rfl 1 (by decide) hw1 (fun _ h9 => h9) rfl (kdr dgJ5_newCapacity_0f7a4_0 1 8 rfl rfl) ?_
  refine lv_ishl hx hb (kdr dgJ5_newCapacity_0f7a4_0 1 9 rfl rfl) ?_
  refine lv_iadd hx hb (kdr dgJ5_newCapacity_0f7a4_0 2 0 rfl rfl) ?_
  obtain ⟨r1, g1, h⟩ := g_b h
  refine kq_i (wTB cB t0 t1 tn tv tk) (fun qP qD qF => va_runS (As := [.int (Int32.ofNat tn), .int ((p0 <<< ((0 : Int32) &&& 31)) - (Int32.ofNat tn)), .int ((Int32.ofNat tn) + ((2 : Int32) <<< ((0 : Int32) &&& 31)))]) (rest := []) ⟨hx, hb, hml, hown, hts⟩ (c_J8_newLength_cabcc l dC dI cB cI cJ cZ  _  (Int32.ofNat tn) ((p0 <<< ((0 : Int32) &&& 31)) - (Int32.ofNat tn)) ((Int32.ofNat tn) + ((2 : Int32) <<< ((0 : Int32) &&& 31))) r1 g1) (kcwS hts kw_731 kv_J8_newLength_cabcc rfl rfl ⟨(Nat.le_of_ble_eq_true rfl), (Nat.le_of_ble_eq_true rfl)⟩) (kpS (A := A) (kPnil) hK ((kDnil (A := A))) hG) rfl rfl hl.1 rfl (lv_room (Nat.le_of_ble_eq_true rfl)) (kdr dgJ5_newCapacity_0f7a4_0 2 1 rfl rfl) ⟨(Nat.le_of_ble_eq_true rfl), (Nat.le_of_ble_eq_true rfl)⟩) hP hD hS hA kFr_n (fun H locs hP hD hS br1 => ?_)
  refine lv_istore (lv' := (kvI 5 r1 (kvI 4 ((p0 <<< ((0 : Int32) &&& 31)) - (Int32.ofNat tn)) (kvI 3 (p0 <<< ((0 : Int32) &&& 31)) (kvI 2 (Int32.ofNat tn) (kvA 0 t0 (kvI 1 p0 kvE))))))) hx hb (kdr dgJ5_newCapacity_0f7a4_0 2 2 rfl rfl) hl (by decide) rfl (fun ls hl => ?_)
  refine lv_iload hx hb (kdr dgJ5_newCapacity_0f7a4_0 2 3 rfl rfl) (lv_at hl 0 rfl) ?_
  refine lv_ldc (v := (2147483647)) hx hb hown hw2 (kdr dgJ5_newCapacity_0f7a4_0 2 4 rfl rfl) ?_
  refine lv_icmp_ne (tgt := 51) hx hb (kdr dgJ5_newCapacity_0f7a4_0 2 5 rfl rfl) (by decide) (fun c2 => ?_) (fun c2 => ?_)
  · have h := g_f c2 h
    refine lv_iload hx hb (kdr dgJ5_newCapacity_0f7a4_0 3 1 rfl rfl) (lv_at hl 0 rfl) ?_
    refine lv_aload_n hx hb (kdr dgJ5_newCapacity_0f7a4_0 3 2 rfl rfl) rfl (lv_at hl 4 rfl) ?_
    refine va_get (D := (dC, dI)) (ci := 1) (v := .int 0) (C := RJ4) (T := TJ4) (N := 4) hx hb hts hiJ4 hown hK hP 0 rfl rfl 1 (by decide) hw1 (fun _ h9 => h9) rfl (kdr dgJ5_newCapacity_0f7a4_0 3 3 rfl rfl) ?_
    refine lv_ishr hx hb (kdr dgJ5_newCapacity_0f7a4_0 3 4 rfl rfl) ?_
    have h := Option.some.inj h
    subst h
    exact kret_i (v := r1 >>> ((0 : Int32) &&& 31)) hx hb hr rfl hlocks hS hP (kdr dgJ5_newCapacity_0f7a4_0 3 5 rfl rfl)
  · have h := g_t c2 h
    cases h
noncomputable abbrev wsJ7_copyOf_9075b : List Cond := kWs yJ7_copyOf_9075b cJ7_copyOf_9075b 3 (some (.array .byte))
noncomputable def f_J7_copyOf_9075b (n0 : Nat) (v0 : Nat → Int32) (p1 : Int32) : Option (Nat → Int32) :=
  if p1 = (Int32.ofNat n0) then
    none
  else
    if ix p1 65 then
      if kcp v0 (0 : Int32) (0 : Int32) (if p1 < (Int32.ofNat n0) then p1 else Int32.ofNat n0) n0 p1.toNatClampNeg then
        some (va_cpy v0 (fun _ => 0) (0 : Int32).toNatClampNeg (0 : Int32).toNatClampNeg (if p1 < (Int32.ofNat n0) then p1 else Int32.ofNat n0).toNatClampNeg)
      else none
    else none
theorem f_J7_copyOf_9075b_e {n0 : Nat} {v0 : Nat → Int32} {p1 : Int32} : f_J7_copyOf_9075b n0 v0 p1 = 
  if p1 = (Int32.ofNat n0) then
    none
  else
    if ix p1 65 then
      if kcp v0 (0 : Int32) (0 : Int32) (if p1 < (Int32.ofNat n0) then p1 else Int32.ofNat n0) n0 p1.toNatClampNeg then
        some (va_cpy v0 (fun _ => 0) (0 : Int32).toNatClampNeg (0 : Int32).toNatClampNeg (if p1 < (Int32.ofNat n0) then p1 else Int32.ofNat n0).toNatClampNeg)
      else none
    else none := rfl
set_option maxHeartbeats 4000000 in
set_option maxRecDepth 100000 in
theorem c_J7_copyOf_9075b (l : Launch) (dC : Nat → ClassId) (dI : Nat → Nat → Nat) (cB cI cJ cZ : ClassId) (q0 : Nat) (n0 : Nat) (sz : Nat) (v0 : Nat → Int32) (p1 : Int32) (res : Nat → Int32) (hf : f_J7_copyOf_9075b n0 v0 p1 = some res) : Met l yJ7_copyOf_9075b wsJ7_copyOf_9075b (kRm 1 1 64 60) (kPre (dC, dI) (kTy cB cI cJ cZ) [.ref q0, .int p1] sz [(q0, .inl (cB, n0, .inl v0))]) (kR (dC, dI) (.inl (cB, p1.toNatClampNeg, .inl (res))) [(q0, .inl (cB, n0, .inl v0))] (va_A [(q0, .inl (cB, n0, .inl v0))] sz)) 1 64 (va_A [(q0, .inl (cB, n0, .inl v0))] sz) := by
  refine kofW (y := yJ7_copyOf_9075b) (cc := cJ7_copyOf_9075b) (maxL := 3) (ret := (some (.array .byte))) (plainFor_of_name (x := yJ7_copyOf_9075b) kpl_J7) rfl ?_
  intro p e s m args below meth c s₁ B hml hv
  obtain ⟨rfl, hsz, hP, hK, hD0, hG⟩ := hv
  have hx := B.exec
  have hb := B.bytes
  have hr := B.returns
  have hts := atoms_spec (ws := wsJ7_copyOf_9075b) B.pre
  have hown : s.vm.findClass RJ7 = some m.cls := findClass_of_methodNamed B.named
  have hlocks := B.notSynchronized
  subst hsz
  have hD := hD0.self (sz := s.heap.size)
  generalize hAe : va_A [(q0, .inl (cB, n0, .inl v0))] s.heap.size = A at hD ⊢
  have hA : ∀ q : Nat, s.heap.size ≤ q → A q := fun q h => by rw [← hAe]; exact Or.inr h
  have hS : va_S A s.heap s.heap [] := va_S.rf
  clear hAe
  have hw0 := hts (.arrayClass .byte) (List.mem_cons_of_mem _ kw_426)
  have hw1 := hts (.methodLink RJ7 304 Lib.Math.min.name) (List.mem_cons_of_mem _ kw_750)
  have hw2 := hts (.static Lib.Math.min.name) (List.mem_cons_of_mem _ kw_751)
  have hw3 := hts (.initialized "java/lang/Math") (List.mem_cons_of_mem _ kw_66)
  have hw4 := hts (.code Lib.Math.min.name Lib.Math.min.code 2 (some .int)) (List.mem_cons_of_mem _ kw_752)
  have hw5 := hts (.methodLink RJ7 150 arraycopyName) (List.mem_cons_of_mem _ kw_753)
  have hw6 := hts (.native arraycopyName) (List.mem_cons_of_mem _ kw_755)
  have hw7 := hts (.static arraycopyName) (List.mem_cons_of_mem _ kw_754)
  have hw8 := hts (.initialized "java/lang/System") (List.mem_cons_of_mem _ kw_74)
  have hl := lv_entry ([.ref q0, .int p1]) (n := 3) (Nat.le_of_ble_eq_true rfl)
  rw [lg_entry_eq]
  generalize (lg_sl ([.ref q0, .int p1]) ++ List.replicate (3 - (lg_sl ([.ref q0, .int p1])).length) Slot.unset).toArray = ls at hl ⊢
  have hl : lv_has ls 3 (kvA 0 q0 (kvI 1 p1 kvE)) := hl
  have h := f_J7_copyOf_9075b_e.symm.trans hf
  refine lv_iload_n hx hb (kdr dgJ7_copyOf_9075b_0 0 0 rfl rfl) rfl (lv_at hl 1 rfl) ?_
  refine lv_aload_n hx hb (kdr dgJ7_copyOf_9075b_0 0 1 rfl rfl) rfl (lv_at hl 0 rfl) ?_
  refine va_alen (v := Int32.ofNat n0) hx hb hK hP 0 0 rfl rfl rfl (kdr dgJ7_copyOf_9075b_0 0 2 rfl rfl) ?_
  refine lv_icmp_ne (tgt := 14) hx hb (kdr dgJ7_copyOf_9075b_0 0 3 rfl rfl) (by decide) (fun c1 => ?_) (fun c1 => ?_)
  · have h := g_f c1 h
    refine lv_iload_n hx hb (kdr dgJ7_copyOf_9075b_0 0 8 rfl rfl) rfl (lv_at hl 1 rfl) ?_
    obtain ⟨z1, h⟩ := g_if h
    refine va_newa (atype := .byte) (ty := .byte) (a0 := (p1.toNatClampNeg, .inl (fun _ => 0))) hx hb hw0 rfl hK hP hD hS hA (fun _ => rfl) (kn_pos z1) rfl (kn_by z1 (by decide)) (Nat.le_of_ble_eq_true rfl) (kn_slg z1 (Nat.le_of_ble_eq_true rfl)) dJ7_copyOf_9075b_15 (fun qn0 cA H hK9 hP hD hS => ?_)
    have e9 : cA = cB := k_cA hK9 0 rfl
    rw [e9] at hP hD
    have hP : va_P (dC, dI) vwCl ([(q0, .inl (cB, n0, .inl v0))] ++ [(qn0, .inl (cB, p1.toNatClampNeg, .inl (fun _ => 0)))]) H := hP
    have hD : va_D A ([(q0, .inl (cB, n0, .inl v0))] ++ [(qn0, .inl (cB, p1.toNatClampNeg, .inl (fun _ => 0)))]) := hD
    refine W.widen (k := 1) (n := 64) (Nat.le_of_ble_eq_true rfl) (kn_slg z1 (Nat.le_of_ble_eq_true rfl)) ?_
    refine lv_astore_n (lv' := (kvA 2 qn0 (kvA 0 q0 (kvI 1 p1 kvE)))) hx hb (kdr dgJ7_copyOf_9075b_17 0 0 rfl rfl) rfl hl (by decide) rfl (fun ls hl => ?_)
    refine lv_aload_n hx hb (kdr dgJ7_copyOf_9075b_17 0 1 rfl rfl) rfl (lv_at hl 1 rfl) ?_
    refine lv_iconst (v := 0) hx hb (kdr dgJ7_copyOf_9075b_17 0 2 rfl rfl) (by decide) ?_
    refine lv_aload_n hx hb (kdr dgJ7_copyOf_9075b_17 0 3 rfl rfl) rfl (lv_at hl 0 rfl) ?_
    refine lv_iconst (v := 0) hx hb (kdr dgJ7_copyOf_9075b_17 0 4 rfl rfl) (by decide) ?_
    refine lv_aload_n hx hb (kdr dgJ7_copyOf_9075b_17 0 5 rfl rfl) rfl (lv_at hl 1 rfl) ?_
    refine va_alen (v := Int32.ofNat n0) hx hb hK hP 0 0 rfl rfl rfl (kdr dgJ7_copyOf_9075b_17 0 6 rfl rfl) ?_
    refine lv_iload_n hx hb (kdr dgJ7_copyOf_9075b_17 0 7 rfl rfl) rfl (lv_at hl 2 rfl) ?_
    refine va_mmin hx hb (hml.trans hl.1.symm) hown hw1 hw2 hw3 hw4 (Nat.le_of_ble_eq_true rfl) (Nat.le_of_ble_eq_true rfl) (Nat.le_of_ble_eq_true rfl) (Nat.le_of_ble_eq_true rfl) (kdr dgJ7_copyOf_9075b_17 0 8 rfl rfl) ?_
    obtain ⟨z2, h⟩ := g_if h
    refine va_copyi (ty := .byte) hx hb (hml.trans hl.1.symm) hown hw5 hw6 hw7 hw8 hK hP hD hS 0 1 0 0 rfl rfl rfl rfl rfl z2.1 z2.2.1 z2.2.2.1 z2.2.2.2.1 z2.2.2.2.2.1 (kfit_at z2.2.2.2.2.2) (Nat.le_of_ble_eq_true rfl) (Nat.le_of_ble_eq_true rfl) (kdr dgJ7_copyOf_9075b_17 0 9 rfl rfl) (fun H locs hP hD hS => ?_)
    have hP : va_P (dC, dI) vwCl ([(q0, .inl (cB, n0, .inl v0))] ++ [(qn0, .inl (cB, p1.toNatClampNeg, .inl (va_cpy v0 (fun _ => 0) (0 : Int32).toNatClampNeg (0 : Int32).toNatClampNeg (if p1 < (Int32.ofNat n0) then p1 else Int32.ofNat n0).toNatClampNeg)))]) H := hP
    have hD : va_D A ([(q0, .inl (cB, n0, .inl v0))] ++ [(qn0, .inl (cB, p1.toNatClampNeg, .inl (va_cpy v0 (fun _ => 0) (0 : Int32).toNatClampNeg (0 : Int32).toNatClampNeg (if p1 < (Int32.ofNat n0) then p1 else Int32.ofNat n0).toNatClampNeg)))]) := hD
    refine lv_aload_n hx hb (kdr dgJ7_copyOf_9075b_17 1 0 rfl rfl) rfl (lv_at hl 0 rfl) ?_
    have h := Option.some.inj h
    subst h
    refine W.widen (k := 1) (n := 64) (Nat.le_of_ble_eq_true rfl) (Nat.le_of_ble_eq_true rfl) ?_
    exact kret_r (q := qn0) hx hb hr (Or.inr ⟨_, rfl⟩) hlocks hS hP hD (kdr dgJ7_copyOf_9075b_17 1 1 rfl rfl)
  · have h := g_t c1 h
    refine lv_aload_n hx hb (kdr dgJ7_copyOf_9075b_0 0 4 rfl rfl) rfl (lv_at hl 0 rfl) ?_
    cases h
noncomputable abbrev wsJ5_ensureCapacityInternal_d00df : List Cond := kWs yJ5_ensureCapacityInternal_d00df cJ5_ensureCapacityInternal_d00df 3 none
noncomputable def f_J5_ensureCapacityInternal_d00df (tn : Nat) (tv : Nat → Int32) (tk : Int32) (p0 : Int32) : Option ((Nat) × (Nat → Int32) × (Int32)) :=
  if (p0 - ((Int32.ofNat tn) >>> ((0 : Int32) &&& 31))) ≤ 0 then
    some (tn, tv, tk)
  else
    (f_J5_newCapacity_0f7a4 tn p0).bind fun r2 =>
    (f_J7_copyOf_9075b tn tv (r2 <<< ((0 : Int32) &&& 31))).bind fun r3 =>
    some ((r2 <<< ((0 : Int32) &&& 31)).toNatClampNeg, r3, tk)
theorem f_J5_ensureCapacityInternal_d00df_e {tn : Nat} {tv : Nat → Int32} {tk : Int32} {p0 : Int32} : f_J5_ensureCapacityInternal_d00df tn tv tk p0 = 
  if (p0 - ((Int32.ofNat tn) >>> ((0 : Int32) &&& 31))) ≤ 0 then
    some (tn, tv, tk)
  else
    (f_J5_newCapacity_0f7a4 tn p0).bind fun r2 =>
    (f_J7_copyOf_9075b tn tv (r2 <<< ((0 : Int32) &&& 31))).bind fun r3 =>
    some ((r2 <<< ((0 : Int32) &&& 31)).toNatClampNeg, r3, tk) := rfl
set_option maxHeartbeats 4000000 in
set_option maxRecDepth 100000 in
theorem c_J5_ensureCapacityInternal_d00df (l : Launch) (dC : Nat → ClassId) (dI : Nat → Nat → Nat) (cB cI cJ cZ : ClassId) (t0 : Nat) (t1 : Nat) (sz : Nat) (tn : Nat) (tv : Nat → Int32) (tk : Int32) (p0 : Int32) (res : (Nat) × (Nat → Int32) × (Int32)) (hf : f_J5_ensureCapacityInternal_d00df tn tv tk p0 = some res) : Met l yJ5_ensureCapacityInternal_d00df wsJ5_ensureCapacityInternal_d00df (kRm 3 1 64 88) (kPre (dC, dI) (kTy cB cI cJ cZ) [.ref t0, .int p0] sz (wTB cB t0 t1 tn tv tk)) (kVu (dC, dI) (fun u => (wTB cB t0 (u 0) (res.1) (res.2.1) (res.2.2))) (va_A (wTB cB t0 t1 tn tv tk) sz)) 1 64 (va_A (wTB cB t0 t1 tn tv tk) sz) := by
  refine kofW (y := yJ5_ensureCapacityInternal_d00df) (cc := cJ5_ensureCapacityInternal_d00df) (maxL := 3) (ret := none) (plainFor_of_name (x := yJ5_ensureCapacityInternal_d00df) kpl_J5) rfl ?_
  intro p e s m args below meth c s₁ B hml hv
  obtain ⟨rfl, hsz, hP, hK, hD0, hG⟩ := hv
  have hx := B.exec
  have hb := B.bytes
  have hr := B.returns
  have hts := atoms_spec (ws := wsJ5_ensureCapacityInternal_d00df) B.pre
  have hown : s.vm.findClass RJ5 = some m.cls := findClass_of_methodNamed B.named
  have hlocks := B.notSynchronized
  subst hsz
  have hD := hD0.self (sz := s.heap.size)
  generalize hAe : va_A (wTB cB t0 t1 tn tv tk) s.heap.size = A at hD ⊢
  have hA : ∀ q : Nat, s.heap.size ≤ q → A q := fun q h => by rw [← hAe]; exact Or.inr h
  have hS : va_S A s.heap s.heap [] := va_S.rf
  clear hAe
  have hw0 := hts (.fieldLink RJ5 15 "java/lang/AbstractStringBuilder" "value" "[B") (List.mem_cons_of_mem _ kw_700)
  have hw1 := hts (.fieldLink RJ5 22 "java/lang/AbstractStringBuilder" "coder" "B") (List.mem_cons_of_mem _ kw_701)
  have hiJ4 : ∀ w ∈ u_ws RJ4 TJ4 4, w ∈ wsJ5_ensureCapacityInternal_d00df := fun w h => List.mem_cons_of_mem _ (ku_J4 w h)
  have hl := lv_entry ([.ref t0, .int p0]) (n := 3) (Nat.le_of_ble_eq_true rfl)
  rw [lg_entry_eq]
  generalize (lg_sl ([.ref t0, .int p0]) ++ List.replicate (3 - (lg_sl ([.ref t0, .int p0])).length) Slot.unset).toArray = ls at hl ⊢
  have hl : lv_has ls 3 (kvA 0 t0 (kvI 1 p0 kvE)) := hl
  have h := f_J5_ensureCapacityInternal_d00df_e.symm.trans hf
  refine lv_aload_n hx hb (kdr dgJ5_ensureCapacityInternal_d00df_0 0 0 rfl rfl) rfl (lv_at hl 0 rfl) ?_
  refine va_get (D := (dC, dI)) (ci := 1) (v := .ref t1) (C := RJ4) (T := TJ4) (N := 4) hx hb hts hiJ4 hown hK hP 0 rfl rfl 0 (by decide) hw0 (fun _ h9 => h9) rfl (kdr dgJ5_ensureCapacityInternal_d00df_0 0 1 rfl rfl) ?_
  refine va_alen (v := Int32.ofNat tn) hx hb hK hP 1 0 rfl rfl rfl (kdr dgJ5_ensureCapacityInternal_d00df_0 0 2 rfl rfl) ?_
  refine lv_aload_n hx hb (kdr dgJ5_ensureCapacityInternal_d00df_0 0 3 rfl rfl) rfl (lv_at hl 0 rfl) ?_
  refine va_get (D := (dC, dI)) (ci := 1) (v := .int 0) (C := RJ4) (T := TJ4) (N := 4) hx hb hts hiJ4 hown hK hP 0 rfl rfl 1 (by decide) hw1 (fun _ h9 => h9) rfl (kdr dgJ5_ensureCapacityInternal_d00df_0 0 4 rfl rfl) ?_
  refine lv_ishr hx hb (kdr dgJ5_ensureCapacityInternal_d00df_0 0 5 rfl rfl) ?_
  refine lv_istore_n (lv' := (kvI 2 ((Int32.ofNat tn) >>> ((0 : Int32) &&& 31)) (kvA 0 t0 (kvI 1 p0 kvE)))) hx hb (kdr dgJ5_ensureCapacityInternal_d00df_0 0 6 rfl rfl) rfl hl (by decide) rfl (fun ls hl => ?_)
  refine lv_iload_n hx hb (kdr dgJ5_ensureCapacityInternal_d00df_0 0 7 rfl rfl) rfl (lv_at hl 2 rfl) ?_
  refine lv_iload_n hx hb (kdr dgJ5_ensureCapacityInternal_d00df_0 0 8 rfl rfl) rfl (lv_at hl 0 rfl) ?_
  refine lv_isub hx hb (kdr dgJ5_ensureCapacityInternal_d00df_0 0 9 rfl rfl) ?_
  refine lv_if_le (tgt := 38) hx hb (kdr dgJ5_ensureCapacityInternal_d00df_0 1 0 rfl rfl) (by decide) (fun c1 => ?_) (fun c1 => ?_)
  · have h := g_t c1 h
    have hP := hP.sub (ws' := (wTB cB t0 t1 tn tv tk)) [0, 1] rfl
    have hD := hD.sub (ws' := (wTB cB t0 t1 tn tv tk)) [0, 1] (by decide) rfl
    have h := Option.some.inj h
    subst h
    refine W.widen (k := 1) (n := 64) (Nat.le_of_ble_eq_true rfl) (Nat.le_of_ble_eq_true rfl) ?_
    exact kret_vu (u := (kcons t1 (fun _ => 0))) hx hb hr hlocks hS hP hD (kdr dgJ5_ensureCapacityInternal_d00df_0 2 2 rfl rfl)
  · have h := g_f c1 h
    refine lv_aload_n hx hb (kdr dgJ5_ensureCapacityInternal_d00df_0 1 1 rfl rfl) rfl (lv_at hl 1 rfl) ?_
    refine lv_aload_n hx hb (kdr dgJ5_ensureCapacityInternal_d00df_0 1 2 rfl rfl) rfl (lv_at hl 1 rfl) ?_
    refine va_get (D := (dC, dI)) (ci := 1) (v := .ref t1) (C := RJ4) (T := TJ4) (N := 4) hx hb hts hiJ4 hown hK hP 0 rfl rfl 0 (by decide) hw0 (fun _ h9 => h9) rfl (kdr dgJ5_ensureCapacityInternal_d00df_0 1 3 rfl rfl) ?_
    refine lv_aload_n hx hb (kdr dgJ5_ensureCapacityInternal_d00df_0 1 4 rfl rfl) rfl (lv_at hl 1 rfl) ?_
    refine lv_iload_n hx hb (kdr dgJ5_ensureCapacityInternal_d00df_0 1 5 rfl rfl) rfl (lv_at hl 2 rfl) ?_
    obtain ⟨r2, g2, h⟩ := g_b h
    refine kq_i (wTB cB t0 t1 tn tv tk) (fun qP qD qF => va_runU (As := [.int p0]) (rest := [.ref t1, .ref t0]) ⟨hx, hb, hml, hown, hts⟩ (c_J5_newCapacity_0f7a4 l dC dI cB cI cJ cZ t0 t1 _ tn tv tk p0 r2 g2) (kcwU hts kw_727 kv_J5_newCapacity_0f7a4 rfl rfl ⟨(Nat.le_of_ble_eq_true rfl), (Nat.le_of_ble_eq_true rfl)⟩) (kpV (A := A) qP hK qD hG (krecv_1 (q0 := 0) hK hP rfl)) rfl rfl hl.1 rfl (lv_room (Nat.le_of_ble_eq_true rfl)) (kdr dgJ5_ensureCapacityInternal_d00df_0 1 6 rfl rfl) ⟨(Nat.le_of_ble_eq_true rfl), (Nat.le_of_ble_eq_true rfl)⟩) hP hD hS hA (kFr_a rfl) (fun H locs hP hD hS br2 => ?_)
    refine lv_aload_n hx hb (kdr dgJ5_ensureCapacityInternal_d00df_0 1 7 rfl rfl) rfl (lv_at hl 1 rfl) ?_
    refine va_get (D := (dC, dI)) (ci := 1) (v := .int 0) (C := RJ4) (T := TJ4) (N := 4) hx hb hts hiJ4 hown hK hP 0 rfl rfl 1 (by decide) hw1 (fun _ h9 => h9) rfl (kdr dgJ5_ensureCapacityInternal_d00df_0 1 8 rfl rfl) ?_
    refine lv_ishl hx hb (kdr dgJ5_ensureCapacityInternal_d00df_0 1 9 rfl rfl) ?_
    obtain ⟨r3, g3, h⟩ := g_b h
    refine kcall_r (wTB cB t0 t1 tn tv tk) (va_runS (As := [.ref t1, .int (r2 <<< ((0 : Int32) &&& 31))]) (rest := [.ref t0]) ⟨hx, hb, hml, hown, hts⟩ (c_J7_copyOf_9075b l dC dI cB cI cJ cZ t1 tn _ tv (r2 <<< ((0 : Int32) &&& 31)) r3 g3) (kcwS hts kw_740 kv_J7_copyOf_9075b rfl rfl ⟨(Nat.le_of_ble_eq_true rfl), (Nat.le_of_ble_eq_true rfl)⟩) (kpS (A := A) (hP.sub [1] rfl) hK (hD.sub [1] (by decide) rfl) hG) rfl rfl hl.1 rfl (lv_room (Nat.le_of_ble_eq_true rfl)) (kdr dgJ5_ensureCapacityInternal_d00df_0 2 0 rfl rfl) ⟨(Nat.le_of_ble_eq_true rfl), (Nat.le_of_ble_eq_true rfl)⟩) hP hD hS hA [1] [0] rfl rfl [(t0, .inr (1, [.ref t1, .int 0, .int 0, .int tk]))] rfl rfl rfl (by decide) rfl rfl (fun qn0 H locs hP hD hS => ?_)
    have hP : va_P (dC, dI) vwCl ((wTB cB t0 t1 tn tv tk) ++ [(qn0, .inl (cB, (r2 <<< ((0 : Int32) &&& 31)).toNatClampNeg, .inl r3))]) H := hP
    have hD : va_D A ((wTB cB t0 t1 tn tv tk) ++ [(qn0, .inl (cB, (r2 <<< ((0 : Int32) &&& 31)).toNatClampNeg, .inl r3))]) := hD
    refine va_put (D := (dC, dI)) (ci := 1) (v := .ref qn0) (ty := (.array .byte)) (C := RJ4) (T := TJ4) (N := 4) hx hb hts hiJ4 tyJ4 tyJ4_ok nmJ4 hown hK hP hD hS 0 rfl rfl 0 (by decide) hw0 (fun _ h9 => h9) rfl (by decide +kernel) rfl rfl (Nat.le_of_ble_eq_true rfl) (kdr dgJ5_ensureCapacityInternal_d00df_0 2 1 rfl rfl) (fun H locs hP hD hS => ?_)
    have hP : va_P (dC, dI) vwCl ([(t0, .inr (1, [.ref qn0, .int 0, .int 0, .int tk])), (t1, .inl (cB, tn, .inl tv))] ++ [(qn0, .inl (cB, (r2 <<< ((0 : Int32) &&& 31)).toNatClampNeg, .inl r3))]) H := hP
    have hD : va_D A ([(t0, .inr (1, [.ref qn0, .int 0, .int 0, .int tk])), (t1, .inl (cB, tn, .inl tv))] ++ [(qn0, .inl (cB, (r2 <<< ((0 : Int32) &&& 31)).toNatClampNeg, .inl r3))]) := hD
    have hP := hP.sub (ws' := (wTB cB t0 qn0 ((r2 <<< ((0 : Int32) &&& 31)).toNatClampNeg) r3 tk)) [0, 2] rfl
    have hD := hD.sub (ws' := (wTB cB t0 qn0 ((r2 <<< ((0 : Int32) &&& 31)).toNatClampNeg) r3 tk)) [0, 2] (by decide) rfl
    have h := Option.some.inj h
    subst h
    refine W.widen (k := 1) (n := 64) (Nat.le_of_ble_eq_true rfl) (Nat.le_of_ble_eq_true rfl) ?_
    exact kret_vu (u := (kcons qn0 (fun _ => 0))) hx hb hr hlocks hS hP hD (kdr dgJ5_ensureCapacityInternal_d00df_0 2 2 rfl rfl)
noncomputable abbrev wsJ5_isLatin1_aae02 : List Cond := kWs yJ5_isLatin1_aae02 cJ5_isLatin1_aae02 1 (some .boolean)
noncomputable def f_J5_isLatin1_aae02 : Option (Int32) :=
  some 1
theorem f_J5_isLatin1_aae02_e : f_J5_isLatin1_aae02 = 
  some 1 := rfl
set_option maxHeartbeats 4000000 in
set_option maxRecDepth 100000 in
theorem c_J5_isLatin1_aae02 (l : Launch) (dC : Nat → ClassId) (dI : Nat → Nat → Nat) (cB cI cJ cZ : ClassId) (t0 : Nat) (t1 : Nat) (sz : Nat) (tn : Nat) (tv : Nat → Int32) (tk : Int32) (res : Int32) (hf : f_J5_isLatin1_aae02 = some res) : kMw l yJ5_isLatin1_aae02 wsJ5_isLatin1_aae02 (kRm 0 0 0 0) dC dI cB cI cJ cZ [.ref t0] sz (wTB cB t0 t1 tn tv tk) .boolean (res) (wTB cB t0 t1 tn tv tk) 0 0 := by
  refine kofW (y := yJ5_isLatin1_aae02) (cc := cJ5_isLatin1_aae02) (maxL := 1) (ret := (some .boolean)) (plainFor_of_name (x := yJ5_isLatin1_aae02) kpl_J5) rfl ?_
  intro p e s m args below meth c s₁ B hml hv
  obtain ⟨rfl, hsz, hP, hK, hD0, hG, hZ⟩ := hv
  have hx := B.exec
  have hb := B.bytes
  have hr := B.returns
  have hts := atoms_spec (ws := wsJ5_isLatin1_aae02) B.pre
  have hown : s.vm.findClass RJ5 = some m.cls := findClass_of_methodNamed B.named
  have hlocks := B.notSynchronized
  subst hsz
  have hD := hD0.self (sz := s.heap.size)
  generalize hAe : va_A (wTB cB t0 t1 tn tv tk) s.heap.size = A at hD hZ ⊢
  have hA : ∀ q : Nat, s.heap.size ≤ q → A q := fun q h => by rw [← hAe]; exact Or.inr h
  have hS : va_S A s.heap s.heap [] := va_S.rf
  clear hAe
  have hw0 := hts (.fieldLink RJ5 18 "java/lang/String" "COMPACT_STRINGS" "Z") (List.mem_cons_of_mem _ kw_691)
  have hw1 := hts (.fieldLink RJ5 22 "java/lang/AbstractStringBuilder" "coder" "B") (List.mem_cons_of_mem _ kw_701)
  have hiJ4 : ∀ w ∈ u_ws RJ4 TJ4 4, w ∈ wsJ5_isLatin1_aae02 := fun w h => List.mem_cons_of_mem _ (ku_J4 w h)
  have hl := lv_entry ([.ref t0]) (n := 1) (Nat.le_of_ble_eq_true rfl)
  rw [lg_entry_eq]
  generalize (lg_sl ([.ref t0]) ++ List.replicate (1 - (lg_sl ([.ref t0])).length) Slot.unset).toArray = ls at hl ⊢
  have hl : lv_has ls 1 (kvA 0 t0 kvE) := hl
  have h := f_J5_isLatin1_aae02_e.symm.trans hf
  refine va_gets hx hb hZ.2.2.2.2.2.1 hS hown hw0 (fun _ h9 => h9) (kdr dgJ5_isLatin1_aae02_0 0 0 rfl rfl) ?_
  refine lv_if_eq (tgt := 17) hx hb (kdr dgJ5_isLatin1_aae02_0 0 1 rfl rfl) (by decide) (fun c9 => absurd c9 (by decide)) (fun _ => ?_)
  refine lv_aload_n hx hb (kdr dgJ5_isLatin1_aae02_0 0 2 rfl rfl) rfl (lv_at hl 0 rfl) ?_
  refine va_get (D := (dC, dI)) (ci := 1) (v := .int 0) (C := RJ4) (T := TJ4) (N := 4) hx hb hts hiJ4 hown hK hP 0 rfl rfl 1 (by decide) hw1 (fun _ h9 => h9) rfl (kdr dgJ5_isLatin1_aae02_0 0 3 rfl rfl) ?_
  refine lv_if_ne (tgt := 17) hx hb (kdr dgJ5_isLatin1_aae02_0 0 4 rfl rfl) (by decide) (fun c9 => absurd (by decide) c9) (fun _ => ?_)
  refine lv_iconst (v := 1) hx hb (kdr dgJ5_isLatin1_aae02_0 0 5 rfl rfl) (by decide) ?_
  refine lv_goto (tgt := 18) hx hb (kdr dgJ5_isLatin1_aae02_0 0 6 rfl rfl) (by decide) ?_
  have h := Option.some.inj h
  subst h
  exact kret_i (v := 1) hx hb hr rfl hlocks hS hP (kdr dgJ5_isLatin1_aae02_0 0 8 rfl rfl)
noncomputable abbrev wsJ1_canEncode_fc78d : List Cond := kWs yJ1_canEncode_fc78d cJ1_canEncode_fc78d 1 (some .boolean)
noncomputable def f_J1_canEncode_fc78d (p0 : Int32) : Option (Int32) :=
  if 255 < p0 then
    some 0
  else
    some 1
theorem f_J1_canEncode_fc78d_e {p0 : Int32} : f_J1_canEncode_fc78d p0 = 
  if 255 < p0 then
    some 0
  else
    some 1 := rfl
set_option maxHeartbeats 4000000 in
set_option maxRecDepth 100000 in
theorem c_J1_canEncode_fc78d (l : Launch) (dC : Nat → ClassId) (dI : Nat → Nat → Nat) (cB cI cJ cZ : ClassId) (sz : Nat) (p0 : Int32) (res : Int32) (hf : f_J1_canEncode_fc78d p0 = some res) : kMi l yJ1_canEncode_fc78d wsJ1_canEncode_fc78d (kRm 0 0 0 0) dC dI cB cI cJ cZ [.int p0] sz [] .boolean (res) [] 0 0 := by
  refine kofW (y := yJ1_canEncode_fc78d) (cc := cJ1_canEncode_fc78d) (maxL := 1) (ret := (some .boolean)) (plainFor_of_name (x := yJ1_canEncode_fc78d) kpl_J1) rfl ?_
  intro p e s m args below meth c s₁ B hml hv
  obtain ⟨rfl, hsz, hP, hK, hD0, hG⟩ := hv
  have hx := B.exec
  have hb := B.bytes
  have hr := B.returns
  have hts := atoms_spec (ws := wsJ1_canEncode_fc78d) B.pre
  have hown : s.vm.findClass RJ1 = some m.cls := findClass_of_methodNamed B.named
  have hlocks := B.notSynchronized
  subst hsz
  have hD := hD0.self (sz := s.heap.size)
  generalize hAe : va_A [] s.heap.size = A at hD ⊢
  have hA : ∀ q : Nat, s.heap.size ≤ q → A q := fun q h => by rw [← hAe]; exact Or.inr h
  have hS : va_S A s.heap s.heap [] := va_S.rf
  clear hAe
  have hl := lv_entry ([.int p0]) (n := 1) (Nat.le_of_ble_eq_true rfl)
  rw [lg_entry_eq]
  generalize (lg_sl ([.int p0]) ++ List.replicate (1 - (lg_sl ([.int p0])).length) Slot.unset).toArray = ls at hl ⊢
  have hl : lv_has ls 1 (kvI 0 p0 kvE) := hl
  have h := f_J1_canEncode_fc78d_e.symm.trans hf
  refine lv_iload_n hx hb (kdr dgJ1_canEncode_fc78d_0 0 0 rfl rfl) rfl (lv_at hl 0 rfl) ?_
  refine lv_sipush (v := 255) hx hb (kdr dgJ1_canEncode_fc78d_0 0 1 rfl rfl) (by decide) ?_
  refine lv_icmp_gt (tgt := 11) hx hb (kdr dgJ1_canEncode_fc78d_0 0 2 rfl rfl) (by decide) (fun c1 => ?_) (fun c1 => ?_)
  · have h := g_t c1 h
    refine lv_iconst (v := 0) hx hb (kdr dgJ1_canEncode_fc78d_0 0 5 rfl rfl) (by decide) ?_
    have h := Option.some.inj h
    subst h
    exact kret_i (v := 0) hx hb hr rfl hlocks hS hP (kdr dgJ1_canEncode_fc78d_0 0 6 rfl rfl)
  · have h := g_f c1 h
    refine lv_iconst (v := 1) hx hb (kdr dgJ1_canEncode_fc78d_0 0 3 rfl rfl) (by decide) ?_
    refine lv_goto (tgt := 12) hx hb (kdr dgJ1_canEncode_fc78d_0 0 4 rfl rfl) (by decide) ?_
    have h := Option.some.inj h
    subst h
    exact kret_i (v := 1) hx hb hr rfl hlocks hS hP (kdr dgJ1_canEncode_fc78d_0 0 6 rfl rfl)
noncomputable abbrev wsJ6_getChars_ba4f3 : List Cond := kWs yJ6_getChars_ba4f3 cJ6_getChars_ba4f3 7 (some .int)
noncomputable def f_J6_getChars_ba4f3_22 (n2 : Nat) : Nat → (Nat → Int32) → (Int32) → (Int32) → (Int32) → Option ((Int32) × (Nat → Int32))
  | 0, _, _, _, _ => none
  | n + 1, v2, x0, x5, x6 =>
    if (-100) < x0 then
      if ix (-x0) 100 then
        if ix (x5 + (-1)) n2 then
          if (-9) ≤ x0 then
            if x6 = 0 then
              some (x5 + (-1), upd v2 (x5 + (-1)).toNatClampNeg (vp_nar .byte (kOnes (-x0).toNatClampNeg)))
            else
              if ix ((x5 + (-1)) + (-1)) n2 then
                some ((x5 + (-1)) + (-1), upd (upd v2 (x5 + (-1)).toNatClampNeg (vp_nar .byte (kOnes (-x0).toNatClampNeg))) ((x5 + (-1)) + (-1)).toNatClampNeg (vp_nar .byte 45))
              else none
          else
            if ix ((x5 + (-1)) + (-1)) n2 then
              if x6 = 0 then
                some ((x5 + (-1)) + (-1), upd (upd v2 (x5 + (-1)).toNatClampNeg (vp_nar .byte (kOnes (-x0).toNatClampNeg))) ((x5 + (-1)) + (-1)).toNatClampNeg (vp_nar .byte (kTens (-x0).toNatClampNeg)))
              else
                if ix (((x5 + (-1)) + (-1)) + (-1)) n2 then
                  some (((x5 + (-1)) + (-1)) + (-1), upd (upd (upd v2 (x5 + (-1)).toNatClampNeg (vp_nar .byte (kOnes (-x0).toNatClampNeg))) ((x5 + (-1)) + (-1)).toNatClampNeg (vp_nar .byte (kTens (-x0).toNatClampNeg))) (((x5 + (-1)) + (-1)) + (-1)).toNatClampNeg (vp_nar .byte 45))
                else none
            else none
        else none
      else none
    else
      if ix (((x0 / 100) * (100 : Int32)) - x0) 100 then
        if ix (x5 + (-1)) n2 then
          if ix ((x5 + (-1)) + (-1)) n2 then
            f_J6_getChars_ba4f3_22 n2 n (upd (upd v2 (x5 + (-1)).toNatClampNeg (vp_nar .byte (kOnes (((x0 / 100) * (100 : Int32)) - x0).toNatClampNeg))) ((x5 + (-1)) + (-1)).toNatClampNeg (vp_nar .byte (kTens (((x0 / 100) * (100 : Int32)) - x0).toNatClampNeg))) (x0 / 100) ((x5 + (-1)) + (-1)) x6
          else none
        else none
      else none
theorem f_J6_getChars_ba4f3_22_0 {n2 : Nat} {v2 : Nat → Int32} {x0 : Int32} {x5 : Int32} {x6 : Int32} : f_J6_getChars_ba4f3_22 n2 0 v2 x0 x5 x6 = none := rfl
theorem f_J6_getChars_ba4f3_22_s {n2 : Nat} {n : Nat} {v2 : Nat → Int32} {x0 : Int32} {x5 : Int32} {x6 : Int32} : f_J6_getChars_ba4f3_22 n2 (n + 1) v2 x0 x5 x6 =
  if (-100) < x0 then
    if ix (-x0) 100 then
      if ix (x5 + (-1)) n2 then
        if (-9) ≤ x0 then
          if x6 = 0 then
            some (x5 + (-1), upd v2 (x5 + (-1)).toNatClampNeg (vp_nar .byte (kOnes (-x0).toNatClampNeg)))
          else
            if ix ((x5 + (-1)) + (-1)) n2 then
              some ((x5 + (-1)) + (-1), upd (upd v2 (x5 + (-1)).toNatClampNeg (vp_nar .byte (kOnes (-x0).toNatClampNeg))) ((x5 + (-1)) + (-1)).toNatClampNeg (vp_nar .byte 45))
            else none
        else
          if ix ((x5 + (-1)) + (-1)) n2 then
            if x6 = 0 then
              some ((x5 + (-1)) + (-1), upd (upd v2 (x5 + (-1)).toNatClampNeg (vp_nar .byte (kOnes (-x0).toNatClampNeg))) ((x5 + (-1)) + (-1)).toNatClampNeg (vp_nar .byte (kTens (-x0).toNatClampNeg)))
            else
              if ix (((x5 + (-1)) + (-1)) + (-1)) n2 then
                some (((x5 + (-1)) + (-1)) + (-1), upd (upd (upd v2 (x5 + (-1)).toNatClampNeg (vp_nar .byte (kOnes (-x0).toNatClampNeg))) ((x5 + (-1)) + (-1)).toNatClampNeg (vp_nar .byte (kTens (-x0).toNatClampNeg))) (((x5 + (-1)) + (-1)) + (-1)).toNatClampNeg (vp_nar .byte 45))
              else none
          else none
      else none
    else none
  else
    if ix (((x0 / 100) * (100 : Int32)) - x0) 100 then
      if ix (x5 + (-1)) n2 then
        if ix ((x5 + (-1)) + (-1)) n2 then
          f_J6_getChars_ba4f3_22 n2 n (upd (upd v2 (x5 + (-1)).toNatClampNeg (vp_nar .byte (kOnes (((x0 / 100) * (100 : Int32)) - x0).toNatClampNeg))) ((x5 + (-1)) + (-1)).toNatClampNeg (vp_nar .byte (kTens (((x0 / 100) * (100 : Int32)) - x0).toNatClampNeg))) (x0 / 100) ((x5 + (-1)) + (-1)) x6
        else none
      else none
    else none := rfl
noncomputable def f_J6_getChars_ba4f3 (n2 : Nat) (v2 : Nat → Int32) (p0 : Int32) (p1 : Int32) : Option ((Int32) × (Nat → Int32)) :=
  if 0 ≤ p0 then
    f_J6_getChars_ba4f3_22 n2 24 v2 (-p0) p1 0
  else
    f_J6_getChars_ba4f3_22 n2 24 v2 p0 p1 1
theorem f_J6_getChars_ba4f3_e {n2 : Nat} {v2 : Nat → Int32} {p0 : Int32} {p1 : Int32} : f_J6_getChars_ba4f3 n2 v2 p0 p1 = 
  if 0 ≤ p0 then
    f_J6_getChars_ba4f3_22 n2 24 v2 (-p0) p1 0
  else
    f_J6_getChars_ba4f3_22 n2 24 v2 p0 p1 1 := rfl
set_option maxHeartbeats 4000000 in
set_option maxRecDepth 100000 in
theorem c_J6_getChars_ba4f3 (l : Launch) (dC : Nat → ClassId) (dI : Nat → Nat → Nat) (cB cI cJ cZ : ClassId) (q2 : Nat) (n2 : Nat) (sz : Nat) (v2 : Nat → Int32) (p0 : Int32) (p1 : Int32) (res : (Int32) × (Nat → Int32)) (hf : f_J6_getChars_ba4f3 n2 v2 p0 p1 = some res) : kMw l yJ6_getChars_ba4f3 wsJ6_getChars_ba4f3 (kRm 0 0 0 0) dC dI cB cI cJ cZ [.int p0, .int p1, .ref q2] sz [(q2, .inl (cB, n2, .inl v2))] .int (res.1) [(q2, .inl (cB, n2, .inl (res.2)))] 0 0 := by
  refine kofW (y := yJ6_getChars_ba4f3) (cc := cJ6_getChars_ba4f3) (maxL := 7) (ret := (some .int)) (plainFor_of_name (x := yJ6_getChars_ba4f3) kpl_J6) rfl ?_
  intro p e s m args below meth c s₁ B hml hv
  obtain ⟨rfl, hsz, hP, hK, hD0, hG, hZ⟩ := hv
  have hx := B.exec
  have hb := B.bytes
  have hr := B.returns
  have hts := atoms_spec (ws := wsJ6_getChars_ba4f3) B.pre
  have hown : s.vm.findClass RJ6 = some m.cls := findClass_of_methodNamed B.named
  have hlocks := B.notSynchronized
  subst hsz
  have hD := hD0.self (sz := s.heap.size)
  generalize hAe : va_A [(q2, .inl (cB, n2, .inl v2))] s.heap.size = A at hD hZ ⊢
  have hA : ∀ q : Nat, s.heap.size ≤ q → A q := fun q h => by rw [← hAe]; exact Or.inr h
  have hS : va_S A s.heap s.heap [] := va_S.rf
  clear hAe
  obtain ⟨tO, hO⟩ := hZ.2.2.2.2.2.2.1
  obtain ⟨tT, hTn⟩ := hZ.2.2.2.2.2.2.2.1
  have hw0 := hts (.fieldLink RJ6 83 "java/lang/Integer" "DigitOnes" "[B") (List.mem_cons_of_mem _ kw_764)
  have hw1 := hts (.fieldLink RJ6 87 "java/lang/Integer" "DigitTens" "[B") (List.mem_cons_of_mem _ kw_766)
  have J22 : ∀ (n : Nat), ∀ (v2 : Nat → Int32) (x0 : Int32) (x5 : Int32) (x6 : Int32) (H : Heap) (locs : List Loc), va_P (dC, dI) vwCl [(q2, .inl (cB, n2, .inl v2))] H → va_D A [(q2, .inl (cB, n2, .inl v2))] → va_S A s.heap H locs → ∀ (ls : Array Slot), lv_has ls 7 (kvI 0 x0 (kvA 2 q2 (kvI 5 x5 (kvI 6 x6 kvE)))) → f_J6_getChars_ba4f3_22 n2 n v2 x0 x5 x6 = some res → W p l e (headSpec wsJ6_getChars_ba4f3 (kRm 0 0 0 0)).room s m ([.int p0, .int p1, .ref q2] : List Value).toArray below meth c H locs 0 0 (MQ below (kI (dC, dI) .int (res.1) [(q2, .inl (cB, n2, .inl (res.2)))] A) ([.int p0, .int p1, .ref q2] : List Value).toArray s 0 0 A) (F0 m 22 ls []) := by
    intro n
    induction n with
    | zero =>
      intro v2 x0 x5 x6 H locs hP hD hS ls hl h
      have h := f_J6_getChars_ba4f3_22_0.symm.trans h
      cases h
    | succ n ih =>
      intro v2 x0 x5 x6 H locs hP hD hS ls hl h
      have h := f_J6_getChars_ba4f3_22_s.symm.trans h
      refine lv_iload_n hx hb (kdr dgJ6_getChars_ba4f3_0 1 3 rfl rfl) rfl (lv_at hl 0 rfl) ?_
      refine lv_bipush (v := (-100)) hx hb (kdr dgJ6_getChars_ba4f3_0 1 4 rfl rfl) (by decide) ?_
      refine lv_icmp_gt (tgt := 72) hx hb (kdr dgJ6_getChars_ba4f3_0 1 5 rfl rfl) (by decide) (fun c1 => ?_) (fun c1 => ?_)
      · have h := g_t c1 h
        refine lv_aload_n hx hb (kdr dgJ6_getChars_ba4f3_0 4 3 rfl rfl) rfl (lv_at hl 1 rfl) ?_
        refine lv_iinc (v := x5 + (-1)) (lv' := (kvI 5 (x5 + (-1)) (kvI 0 x0 (kvA 2 q2 (kvI 6 x6 kvE))))) hx hb (kdr dgJ6_getChars_ba4f3_0 4 4 rfl rfl) hl (k := 2) rfl rfl (by decide) rfl (fun ls hl => ?_)
        refine lv_iload hx hb (kdr dgJ6_getChars_ba4f3_0 4 5 rfl rfl) (lv_at hl 0 rfl) ?_
        refine va_gets hx hb hO.1 hS hown hw0 (fun _ h9 => h9) (kdr dgJ6_getChars_ba4f3_0 4 6 rfl rfl) ?_
        refine lv_iload_n hx hb (kdr dgJ6_getChars_ba4f3_0 4 7 rfl rfl) rfl (lv_at hl 1 rfl) ?_
        refine lv_ineg hx hb (kdr dgJ6_getChars_ba4f3_0 4 8 rfl rfl) ?_
        obtain ⟨z1, h⟩ := g_if h
        refine va_tb hx hb hO.2 hS (ix_in z1) rfl (kdr dgJ6_getChars_ba4f3_0 4 9 rfl rfl) ?_
        obtain ⟨z2, h⟩ := g_if h
        refine va_bast hx hb hK hP hD hS 0 0 rfl rfl (ix_in z2) (kdr dgJ6_getChars_ba4f3_0 5 0 rfl rfl) (fun H locs hP hD hS => ?_)
        have hP : va_P (dC, dI) vwCl [(q2, .inl (cB, n2, .inl (upd v2 (x5 + (-1)).toNatClampNeg (vp_nar .byte (kOnes (-x0).toNatClampNeg)))))] H := hP
        have hD : va_D A [(q2, .inl (cB, n2, .inl (upd v2 (x5 + (-1)).toNatClampNeg (vp_nar .byte (kOnes (-x0).toNatClampNeg)))))] := hD
        refine lv_iload_n hx hb (kdr dgJ6_getChars_ba4f3_0 5 1 rfl rfl) rfl (lv_at hl 1 rfl) ?_
        refine lv_bipush (v := (-9)) hx hb (kdr dgJ6_getChars_ba4f3_0 5 2 rfl rfl) (by decide) ?_
        refine lv_icmp_ge (tgt := 104) hx hb (kdr dgJ6_getChars_ba4f3_0 5 3 rfl rfl) (by decide) (fun c4 => ?_) (fun c4 => ?_)
        · have h := g_t c4 h
          refine lv_iload hx hb (kdr dgJ6_getChars_ba4f3_0 6 2 rfl rfl) (lv_at hl 3 rfl) ?_
          refine lv_if_eq (tgt := 118) hx hb (kdr dgJ6_getChars_ba4f3_0 6 3 rfl rfl) (by decide) (fun c5 => ?_) (fun c5 => ?_)
          · have h := g_t c5 h
            refine lv_iload hx hb (kdr dgJ6_getChars_ba4f3_0 6 9 rfl rfl) (lv_at hl 0 rfl) ?_
            have h := Option.some.inj h
            subst h
            exact kret_i (v := x5 + (-1)) hx hb hr rfl hlocks hS hP (kdr dgJ6_getChars_ba4f3_0 7 0 rfl rfl)
          · have h := g_f c5 h
            refine lv_aload_n hx hb (kdr dgJ6_getChars_ba4f3_0 6 4 rfl rfl) rfl (lv_at hl 2 rfl) ?_
            refine lv_iinc (v := (x5 + (-1)) + (-1)) (lv' := (kvI 5 ((x5 + (-1)) + (-1)) (kvI 0 x0 (kvA 2 q2 (kvI 6 x6 kvE))))) hx hb (kdr dgJ6_getChars_ba4f3_0 6 5 rfl rfl) hl (k := 0) rfl rfl (by decide) rfl (fun ls hl => ?_)
            refine lv_iload hx hb (kdr dgJ6_getChars_ba4f3_0 6 6 rfl rfl) (lv_at hl 0 rfl) ?_
            refine lv_bipush (v := 45) hx hb (kdr dgJ6_getChars_ba4f3_0 6 7 rfl rfl) (by decide) ?_
            obtain ⟨z5, h⟩ := g_if h
            refine va_bast hx hb hK hP hD hS 0 0 rfl rfl (ix_in z5) (kdr dgJ6_getChars_ba4f3_0 6 8 rfl rfl) (fun H locs hP hD hS => ?_)
            have hP : va_P (dC, dI) vwCl [(q2, .inl (cB, n2, .inl (upd (upd v2 (x5 + (-1)).toNatClampNeg (vp_nar .byte (kOnes (-x0).toNatClampNeg))) ((x5 + (-1)) + (-1)).toNatClampNeg (vp_nar .byte 45))))] H := hP
            have hD : va_D A [(q2, .inl (cB, n2, .inl (upd (upd v2 (x5 + (-1)).toNatClampNeg (vp_nar .byte (kOnes (-x0).toNatClampNeg))) ((x5 + (-1)) + (-1)).toNatClampNeg (vp_nar .byte 45))))] := hD
            refine lv_iload hx hb (kdr dgJ6_getChars_ba4f3_0 6 9 rfl rfl) (lv_at hl 0 rfl) ?_
            have h := Option.some.inj h
            subst h
            exact kret_i (v := (x5 + (-1)) + (-1)) hx hb hr rfl hlocks hS hP (kdr dgJ6_getChars_ba4f3_0 7 0 rfl rfl)
        · have h := g_f c4 h
          refine lv_aload_n hx hb (kdr dgJ6_getChars_ba4f3_0 5 4 rfl rfl) rfl (lv_at hl 2 rfl) ?_
          refine lv_iinc (v := (x5 + (-1)) + (-1)) (lv' := (kvI 5 ((x5 + (-1)) + (-1)) (kvI 0 x0 (kvA 2 q2 (kvI 6 x6 kvE))))) hx hb (kdr dgJ6_getChars_ba4f3_0 5 5 rfl rfl) hl (k := 0) rfl rfl (by decide) rfl (fun ls hl => ?_)
          refine lv_iload hx hb (kdr dgJ6_getChars_ba4f3_0 5 6 rfl rfl) (lv_at hl 0 rfl) ?_
          refine va_gets hx hb hTn.1 hS hown hw1 (fun _ h9 => h9) (kdr dgJ6_getChars_ba4f3_0 5 7 rfl rfl) ?_
          refine lv_iload_n hx hb (kdr dgJ6_getChars_ba4f3_0 5 8 rfl rfl) rfl (lv_at hl 1 rfl) ?_
          refine lv_ineg hx hb (kdr dgJ6_getChars_ba4f3_0 5 9 rfl rfl) ?_
          refine va_tb hx hb hTn.2 hS (ix_in z1) rfl (kdr dgJ6_getChars_ba4f3_0 6 0 rfl rfl) ?_
          obtain ⟨z4, h⟩ := g_if h
          refine va_bast hx hb hK hP hD hS 0 0 rfl rfl (ix_in z4) (kdr dgJ6_getChars_ba4f3_0 6 1 rfl rfl) (fun H locs hP hD hS => ?_)
          have hP : va_P (dC, dI) vwCl [(q2, .inl (cB, n2, .inl (upd (upd v2 (x5 + (-1)).toNatClampNeg (vp_nar .byte (kOnes (-x0).toNatClampNeg))) ((x5 + (-1)) + (-1)).toNatClampNeg (vp_nar .byte (kTens (-x0).toNatClampNeg)))))] H := hP
          have hD : va_D A [(q2, .inl (cB, n2, .inl (upd (upd v2 (x5 + (-1)).toNatClampNeg (vp_nar .byte (kOnes (-x0).toNatClampNeg))) ((x5 + (-1)) + (-1)).toNatClampNeg (vp_nar .byte (kTens (-x0).toNatClampNeg)))))] := hD
          refine lv_iload hx hb (kdr dgJ6_getChars_ba4f3_0 6 2 rfl rfl) (lv_at hl 3 rfl) ?_
          refine lv_if_eq (tgt := 118) hx hb (kdr dgJ6_getChars_ba4f3_0 6 3 rfl rfl) (by decide) (fun c6 => ?_) (fun c6 => ?_)
          · have h := g_t c6 h
            refine lv_iload hx hb (kdr dgJ6_getChars_ba4f3_0 6 9 rfl rfl) (lv_at hl 0 rfl) ?_
            have h := Option.some.inj h
            subst h
            exact kret_i (v := (x5 + (-1)) + (-1)) hx hb hr rfl hlocks hS hP (kdr dgJ6_getChars_ba4f3_0 7 0 rfl rfl)
          · have h := g_f c6 h
            refine lv_aload_n hx hb (kdr dgJ6_getChars_ba4f3_0 6 4 rfl rfl) rfl (lv_at hl 2 rfl) ?_
            refine lv_iinc (v := ((x5 + (-1)) + (-1)) + (-1)) (lv' := (kvI 5 (((x5 + (-1)) + (-1)) + (-1)) (kvI 0 x0 (kvA 2 q2 (kvI 6 x6 kvE))))) hx hb (kdr dgJ6_getChars_ba4f3_0 6 5 rfl rfl) hl (k := 0) rfl rfl (by decide) rfl (fun ls hl => ?_)
            refine lv_iload hx hb (kdr dgJ6_getChars_ba4f3_0 6 6 rfl rfl) (lv_at hl 0 rfl) ?_
            refine lv_bipush (v := 45) hx hb (kdr dgJ6_getChars_ba4f3_0 6 7 rfl rfl) (by decide) ?_
            obtain ⟨z6, h⟩ := g_if h
            refine va_bast hx hb hK hP hD hS 0 0 rfl rfl (ix_in z6) (kdr dgJ6_getChars_ba4f3_0 6 8 rfl rfl) (fun H locs hP hD hS => ?_)
            have hP : va_P (dC, dI) vwCl [(q2, .inl (cB, n2, .inl (upd (upd (upd v2 (x5 + (-1)).toNatClampNeg (vp_nar .byte (kOnes (-x0).toNatClampNeg))) ((x5 + (-1)) + (-1)).toNatClampNeg (vp_nar .byte (kTens (-x0).toNatClampNeg))) (((x5 + (-1)) + (-1)) + (-1)).toNatClampNeg (vp_nar .byte 45))))] H := hP
            have hD : va_D A [(q2, .inl (cB, n2, .inl (upd (upd (upd v2 (x5 + (-1)).toNatClampNeg (vp_nar .byte (kOnes (-x0).toNatClampNeg))) ((x5 + (-1)) + (-1)).toNatClampNeg (vp_nar .byte (kTens (-x0).toNatClampNeg))) (((x5 + (-1)) + (-1)) + (-1)).toNatClampNeg (vp_nar .byte 45))))] := hD
            refine lv_iload hx hb (kdr dgJ6_getChars_ba4f3_0 6 9 rfl rfl) (lv_at hl 0 rfl) ?_
            have h := Option.some.inj h
            subst h
            exact kret_i (v := ((x5 + (-1)) + (-1)) + (-1)) hx hb hr rfl hlocks hS hP (kdr dgJ6_getChars_ba4f3_0 7 0 rfl rfl)
      · have h := g_f c1 h
        refine lv_iload_n hx hb (kdr dgJ6_getChars_ba4f3_0 1 6 rfl rfl) rfl (lv_at hl 0 rfl) ?_
        refine lv_bipush (v := 100) hx hb (kdr dgJ6_getChars_ba4f3_0 1 7 rfl rfl) (by decide) ?_
        refine lv_idiv hx hb (kdr dgJ6_getChars_ba4f3_0 1 8 rfl rfl) (by decide) ?_
        refine lv_istore_n (lv' := (kvI 3 (x0 / 100) (kvI 0 x0 (kvA 2 q2 (kvI 5 x5 (kvI 6 x6 kvE)))))) hx hb (kdr dgJ6_getChars_ba4f3_0 1 9 rfl rfl) rfl hl (by decide) rfl (fun ls hl => ?_)
        refine lv_iload_n hx hb (kdr dgJ6_getChars_ba4f3_0 2 0 rfl rfl) rfl (lv_at hl 0 rfl) ?_
        refine lv_bipush (v := 100) hx hb (kdr dgJ6_getChars_ba4f3_0 2 1 rfl rfl) (by decide) ?_
        refine lv_imul hx hb (kdr dgJ6_getChars_ba4f3_0 2 2 rfl rfl) ?_
        refine lv_iload_n hx hb (kdr dgJ6_getChars_ba4f3_0 2 3 rfl rfl) rfl (lv_at hl 1 rfl) ?_
        refine lv_isub hx hb (kdr dgJ6_getChars_ba4f3_0 2 4 rfl rfl) ?_
        refine lv_istore (lv' := (kvI 4 (((x0 / 100) * (100 : Int32)) - x0) (kvI 3 (x0 / 100) (kvI 0 x0 (kvA 2 q2 (kvI 5 x5 (kvI 6 x6 kvE))))))) hx hb (kdr dgJ6_getChars_ba4f3_0 2 5 rfl rfl) hl (by decide) rfl (fun ls hl => ?_)
        refine lv_iload_n hx hb (kdr dgJ6_getChars_ba4f3_0 2 6 rfl rfl) rfl (lv_at hl 1 rfl) ?_
        refine lv_istore_n (lv' := (kvI 0 (x0 / 100) (kvI 4 (((x0 / 100) * (100 : Int32)) - x0) (kvI 3 (x0 / 100) (kvA 2 q2 (kvI 5 x5 (kvI 6 x6 kvE))))))) hx hb (kdr dgJ6_getChars_ba4f3_0 2 7 rfl rfl) rfl hl (by decide) rfl (fun ls hl => ?_)
        refine lv_aload_n hx hb (kdr dgJ6_getChars_ba4f3_0 2 8 rfl rfl) rfl (lv_at hl 3 rfl) ?_
        refine lv_iinc (v := x5 + (-1)) (lv' := (kvI 5 (x5 + (-1)) (kvI 0 (x0 / 100) (kvI 4 (((x0 / 100) * (100 : Int32)) - x0) (kvI 3 (x0 / 100) (kvA 2 q2 (kvI 6 x6 kvE))))))) hx hb (kdr dgJ6_getChars_ba4f3_0 2 9 rfl rfl) hl (k := 4) rfl rfl (by decide) rfl (fun ls hl => ?_)
        refine lv_iload hx hb (kdr dgJ6_getChars_ba4f3_0 3 0 rfl rfl) (lv_at hl 0 rfl) ?_
        refine va_gets hx hb hO.1 hS hown hw0 (fun _ h9 => h9) (kdr dgJ6_getChars_ba4f3_0 3 1 rfl rfl) ?_
        refine lv_iload hx hb (kdr dgJ6_getChars_ba4f3_0 3 2 rfl rfl) (lv_at hl 2 rfl) ?_
        obtain ⟨z1, h⟩ := g_if h
        refine va_tb hx hb hO.2 hS (ix_in z1) rfl (kdr dgJ6_getChars_ba4f3_0 3 3 rfl rfl) ?_
        obtain ⟨z2, h⟩ := g_if h
        refine va_bast hx hb hK hP hD hS 0 0 rfl rfl (ix_in z2) (kdr dgJ6_getChars_ba4f3_0 3 4 rfl rfl) (fun H locs hP hD hS => ?_)
        have hP : va_P (dC, dI) vwCl [(q2, .inl (cB, n2, .inl (upd v2 (x5 + (-1)).toNatClampNeg (vp_nar .byte (kOnes (((x0 / 100) * (100 : Int32)) - x0).toNatClampNeg)))))] H := hP
        have hD : va_D A [(q2, .inl (cB, n2, .inl (upd v2 (x5 + (-1)).toNatClampNeg (vp_nar .byte (kOnes (((x0 / 100) * (100 : Int32)) - x0).toNatClampNeg)))))] := hD
        refine lv_aload_n hx hb (kdr dgJ6_getChars_ba4f3_0 3 5 rfl rfl) rfl (lv_at hl 4 rfl) ?_
        refine lv_iinc (v := (x5 + (-1)) + (-1)) (lv' := (kvI 5 ((x5 + (-1)) + (-1)) (kvI 0 (x0 / 100) (kvI 4 (((x0 / 100) * (100 : Int32)) - x0) (kvI 3 (x0 / 100) (kvA 2 q2 (kvI 6 x6 kvE))))))) hx hb (kdr dgJ6_getChars_ba4f3_0 3 6 rfl rfl) hl (k := 0) rfl rfl (by decide) rfl (fun ls hl => ?_)
        refine lv_iload hx hb (kdr dgJ6_getChars_ba4f3_0 3 7 rfl rfl) (lv_at hl 0 rfl) ?_
        refine va_gets hx hb hTn.1 hS hown hw1 (fun _ h9 => h9) (kdr dgJ6_getChars_ba4f3_0 3 8 rfl rfl) ?_
        refine lv_iload hx hb (kdr dgJ6_getChars_ba4f3_0 3 9 rfl rfl) (lv_at hl 2 rfl) ?_
        refine va_tb hx hb hTn.2 hS (ix_in z1) rfl (kdr dgJ6_getChars_ba4f3_0 4 0 rfl rfl) ?_
        obtain ⟨z3, h⟩ := g_if h
        refine va_bast hx hb hK hP hD hS 0 0 rfl rfl (ix_in z3) (kdr dgJ6_getChars_ba4f3_0 4 1 rfl rfl) (fun H locs hP hD hS => ?_)
        have hP : va_P (dC, dI) vwCl [(q2, .inl (cB, n2, .inl (upd (upd v2 (x5 + (-1)).toNatClampNeg (vp_nar .byte (kOnes (((x0 / 100) * (100 : Int32)) - x0).toNatClampNeg))) ((x5 + (-1)) + (-1)).toNatClampNeg (vp_nar .byte (kTens (((x0 / 100) * (100 : Int32)) - x0).toNatClampNeg)))))] H := hP
        have hD : va_D A [(q2, .inl (cB, n2, .inl (upd (upd v2 (x5 + (-1)).toNatClampNeg (vp_nar .byte (kOnes (((x0 / 100) * (100 : Int32)) - x0).toNatClampNeg))) ((x5 + (-1)) + (-1)).toNatClampNeg (vp_nar .byte (kTens (((x0 / 100) * (100 : Int32)) - x0).toNatClampNeg)))))] := hD
        refine lv_goto (tgt := 22) hx hb (kdr dgJ6_getChars_ba4f3_0 4 2 rfl rfl) (by decide) ?_
        exact ih (upd (upd v2 (x5 + (-1)).toNatClampNeg (vp_nar .byte (kOnes (((x0 / 100) * (100 : Int32)) - x0).toNatClampNeg))) ((x5 + (-1)) + (-1)).toNatClampNeg (vp_nar .byte (kTens (((x0 / 100) * (100 : Int32)) - x0).toNatClampNeg))) (x0 / 100) ((x5 + (-1)) + (-1)) x6 _ _ hP hD hS ls (lv_sub hl [1, 4, 0, 5] rfl) h
  have hl := lv_entry ([.int p0, .int p1, .ref q2]) (n := 7) (Nat.le_of_ble_eq_true rfl)
  rw [lg_entry_eq]
  generalize (lg_sl ([.int p0, .int p1, .ref q2]) ++ List.replicate (7 - (lg_sl ([.int p0, .int p1, .ref q2])).length) Slot.unset).toArray = ls at hl ⊢
  have hl : lv_has ls 7 (kvI 0 p0 (kvI 1 p1 (kvA 2 q2 kvE))) := hl
  have h := f_J6_getChars_ba4f3_e.symm.trans hf
  refine lv_iload_n hx hb (kdr dgJ6_getChars_ba4f3_0 0 0 rfl rfl) rfl (lv_at hl 1 rfl) ?_
  refine lv_istore (lv' := (kvI 5 p1 (kvI 0 p0 (kvI 1 p1 (kvA 2 q2 kvE))))) hx hb (kdr dgJ6_getChars_ba4f3_0 0 1 rfl rfl) hl (by decide) rfl (fun ls hl => ?_)
  refine lv_iload_n hx hb (kdr dgJ6_getChars_ba4f3_0 0 2 rfl rfl) rfl (lv_at hl 1 rfl) ?_
  refine lv_if_ge (tgt := 11) hx hb (kdr dgJ6_getChars_ba4f3_0 0 3 rfl rfl) (by decide) (fun c1 => ?_) (fun c1 => ?_)
  · have h := g_t c1 h
    refine lv_iconst (v := 0) hx hb (kdr dgJ6_getChars_ba4f3_0 0 6 rfl rfl) (by decide) ?_
    refine lv_istore (lv' := (kvI 6 0 (kvI 5 p1 (kvI 0 p0 (kvI 1 p1 (kvA 2 q2 kvE)))))) hx hb (kdr dgJ6_getChars_ba4f3_0 0 7 rfl rfl) hl (by decide) rfl (fun ls hl => ?_)
    refine lv_iload hx hb (kdr dgJ6_getChars_ba4f3_0 0 8 rfl rfl) (lv_at hl 0 rfl) ?_
    refine lv_if_ne (tgt := 22) hx hb (kdr dgJ6_getChars_ba4f3_0 0 9 rfl rfl) (by decide) (fun c9 => absurd (by decide) c9) (fun _ => ?_)
    refine lv_iload_n hx hb (kdr dgJ6_getChars_ba4f3_0 1 0 rfl rfl) rfl (lv_at hl 2 rfl) ?_
    refine lv_ineg hx hb (kdr dgJ6_getChars_ba4f3_0 1 1 rfl rfl) ?_
    refine lv_istore_n (lv' := (kvI 0 (-p0) (kvI 6 0 (kvI 5 p1 (kvI 1 p1 (kvA 2 q2 kvE)))))) hx hb (kdr dgJ6_getChars_ba4f3_0 1 2 rfl rfl) rfl hl (by decide) rfl (fun ls hl => ?_)
    exact J22 24 v2 (-p0) p1 0 _ _ hP hD hS ls (lv_sub hl [0, 4, 2, 1] rfl) h
  · have h := g_f c1 h
    refine lv_iconst (v := 1) hx hb (kdr dgJ6_getChars_ba4f3_0 0 4 rfl rfl) (by decide) ?_
    refine lv_goto (tgt := 12) hx hb (kdr dgJ6_getChars_ba4f3_0 0 5 rfl rfl) (by decide) ?_
    refine lv_istore (lv' := (kvI 6 1 (kvI 5 p1 (kvI 0 p0 (kvI 1 p1 (kvA 2 q2 kvE)))))) hx hb (kdr dgJ6_getChars_ba4f3_0 0 7 rfl rfl) hl (by decide) rfl (fun ls hl => ?_)
    refine lv_iload hx hb (kdr dgJ6_getChars_ba4f3_0 0 8 rfl rfl) (lv_at hl 0 rfl) ?_
    refine lv_if_ne (tgt := 22) hx hb (kdr dgJ6_getChars_ba4f3_0 0 9 rfl rfl) (by decide) (fun _ => ?_) (fun c9 => absurd c9 (by decide))
    exact J22 24 v2 p0 p1 1 _ _ hP hD hS ls (lv_sub hl [2, 4, 1, 0] rfl) h
noncomputable abbrev wsJ5_append_c97b9 : List Cond := kWs yJ5_append_c97b9 cJ5_append_c97b9 4 (some (.object "java/lang/AbstractStringBuilder"))
noncomputable def f_J5_append_c97b9 (tn : Nat) (tv : Nat → Int32) (tk : Int32) (p0 : Int32) : Option ((Nat) × (Nat → Int32) × (Int32)) :=
  (f_J6_stringSize_0f7a4 p0).bind fun r1 =>
  (f_J5_ensureCapacityInternal_d00df tn tv tk (tk + r1)).bind fun r2 =>
  (f_J5_isLatin1_aae02).bind fun r3 =>
  if r3 = 0 then
    none
  else
    (f_J6_getChars_ba4f3 r2.1 r2.2.1 p0 (tk + r1)).bind fun r5 =>
    some (r2.1, r5.2, tk + r1)
theorem f_J5_append_c97b9_e {tn : Nat} {tv : Nat → Int32} {tk : Int32} {p0 : Int32} : f_J5_append_c97b9 tn tv tk p0 = 
  (f_J6_stringSize_0f7a4 p0).bind fun r1 =>
  (f_J5_ensureCapacityInternal_d00df tn tv tk (tk + r1)).bind fun r2 =>
  (f_J5_isLatin1_aae02).bind fun r3 =>
  if r3 = 0 then
    none
  else
    (f_J6_getChars_ba4f3 r2.1 r2.2.1 p0 (tk + r1)).bind fun r5 =>
    some (r2.1, r5.2, tk + r1) := rfl
set_option maxHeartbeats 4000000 in
set_option maxRecDepth 100000 in
theorem c_J5_append_c97b9 (l : Launch) (dC : Nat → ClassId) (dI : Nat → Nat → Nat) (cB cI cJ cZ : ClassId) (t0 : Nat) (t1 : Nat) (sz : Nat) (tn : Nat) (tv : Nat → Int32) (tk : Int32) (p0 : Int32) (res : (Nat) × (Nat → Int32) × (Int32)) (hf : f_J5_append_c97b9 tn tv tk p0 = some res) : Met l yJ5_append_c97b9 wsJ5_append_c97b9 (kRm 4 1 64 110) (kPreX (dC, dI) (kTy cB cI cJ cZ) [.ref t0, .int p0] sz (wTB cB t0 t1 tn tv tk)) (kAu (dC, dI) t0 (fun u => (wTB cB t0 (u 0) (res.1) (res.2.1) (res.2.2))) (va_A (wTB cB t0 t1 tn tv tk) sz)) 1 64 (va_A (wTB cB t0 t1 tn tv tk) sz) := by
  refine kofW (y := yJ5_append_c97b9) (cc := cJ5_append_c97b9) (maxL := 4) (ret := (some (.object "java/lang/AbstractStringBuilder"))) (plainFor_of_name (x := yJ5_append_c97b9) kpl_J5) rfl ?_
  intro p e s m args below meth c s₁ B hml hv
  obtain ⟨rfl, hsz, hP, hK, hD0, hG, hZ⟩ := hv
  have hx := B.exec
  have hb := B.bytes
  have hr := B.returns
  have hts := atoms_spec (ws := wsJ5_append_c97b9) B.pre
  have hown : s.vm.findClass RJ5 = some m.cls := findClass_of_methodNamed B.named
  have hlocks := B.notSynchronized
  subst hsz
  have hD := hD0.self (sz := s.heap.size)
  generalize hAe : va_A (wTB cB t0 t1 tn tv tk) s.heap.size = A at hD hZ ⊢
  have hA : ∀ q : Nat, s.heap.size ≤ q → A q := fun q h => by rw [← hAe]; exact Or.inr h
  have hS : va_S A s.heap s.heap [] := va_S.rf
  clear hAe
  have hw0 := hts (.fieldLink RJ5 79 "java/lang/AbstractStringBuilder" "count" "I") (List.mem_cons_of_mem _ kw_703)
  have hw1 := hts (.fieldLink RJ5 15 "java/lang/AbstractStringBuilder" "value" "[B") (List.mem_cons_of_mem _ kw_700)
  have hiJ4 : ∀ w ∈ u_ws RJ4 TJ4 4, w ∈ wsJ5_append_c97b9 := fun w h => List.mem_cons_of_mem _ (ku_J4 w h)
  have hl := lv_entry ([.ref t0, .int p0]) (n := 4) (Nat.le_of_ble_eq_true rfl)
  rw [lg_entry_eq]
  generalize (lg_sl ([.ref t0, .int p0]) ++ List.replicate (4 - (lg_sl ([.ref t0, .int p0])).length) Slot.unset).toArray = ls at hl ⊢
  have hl : lv_has ls 4 (kvA 0 t0 (kvI 1 p0 kvE)) := hl
  have h := f_J5_append_c97b9_e.symm.trans hf
  refine lv_aload_n hx hb (kdr dgJ5_append_c97b9_0 0 0 rfl rfl) rfl (lv_at hl 0 rfl) ?_
  refine va_get (D := (dC, dI)) (ci := 1) (v := .int tk) (C := RJ4) (T := TJ4) (N := 4) hx hb hts hiJ4 hown hK hP 0 rfl rfl 3 (by decide) hw0 (fun _ h9 => h9) rfl (kdr dgJ5_append_c97b9_0 0 1 rfl rfl) ?_
  refine lv_istore_n (lv' := (kvI 2 tk (kvA 0 t0 (kvI 1 p0 kvE)))) hx hb (kdr dgJ5_append_c97b9_0 0 2 rfl rfl) rfl hl (by decide) rfl (fun ls hl => ?_)
  refine lv_iload_n hx hb (kdr dgJ5_append_c97b9_0 0 3 rfl rfl) rfl (lv_at hl 0 rfl) ?_
  refine lv_iload_n hx hb (kdr dgJ5_append_c97b9_0 0 4 rfl rfl) rfl (lv_at hl 2 rfl) ?_
  obtain ⟨r1, g1, h⟩ := g_b h
  refine kq_i (wTB cB t0 t1 tn tv tk) (fun qP qD qF => va_runS (As := [.int p0]) (rest := [.int tk]) ⟨hx, hb, hml, hown, hts⟩ (c_J6_stringSize_0f7a4 l dC dI cB cI cJ cZ  _  p0 r1 g1) (kcwS hts kw_720 kv_J6_stringSize_0f7a4 rfl rfl ⟨(Nat.le_of_ble_eq_true rfl), (Nat.le_of_ble_eq_true rfl)⟩) (kpS (A := A) (kPnil) hK ((kDnil (A := A))) hG) rfl rfl hl.1 rfl (lv_room (Nat.le_of_ble_eq_true rfl)) (kdr dgJ5_append_c97b9_0 0 5 rfl rfl) ⟨(Nat.le_of_ble_eq_true rfl), (Nat.le_of_ble_eq_true rfl)⟩) hP hD hS hA kFr_n (fun H locs hP hD hS br1 => ?_)
  refine lv_iadd hx hb (kdr dgJ5_append_c97b9_0 0 6 rfl rfl) ?_
  refine lv_istore_n (lv' := (kvI 3 (tk + r1) (kvI 2 tk (kvA 0 t0 (kvI 1 p0 kvE))))) hx hb (kdr dgJ5_append_c97b9_0 0 7 rfl rfl) rfl hl (by decide) rfl (fun ls hl => ?_)
  refine lv_aload_n hx hb (kdr dgJ5_append_c97b9_0 0 8 rfl rfl) rfl (lv_at hl 2 rfl) ?_
  refine lv_iload_n hx hb (kdr dgJ5_append_c97b9_0 0 9 rfl rfl) rfl (lv_at hl 0 rfl) ?_
  obtain ⟨r2, g2, h⟩ := g_b h
  refine kcall_vu (fun u2 => (wTB cB t0 (u2 0) r2.1 r2.2.1 r2.2.2)) (va_runU (As := [.int (tk + r1)]) (rest := []) ⟨hx, hb, hml, hown, hts⟩ (c_J5_ensureCapacityInternal_d00df l dC dI cB cI cJ cZ t0 t1 _ tn tv tk (tk + r1) r2 g2) (kcwU hts kw_723 kv_J5_ensureCapacityInternal_d00df rfl rfl ⟨(Nat.le_of_ble_eq_true rfl), (Nat.le_of_ble_eq_true rfl)⟩) (kpV (A := A) (hP.sub [0, 1] rfl) hK (hD.sub [0, 1] (by decide) rfl) hG (krecv_1 (q0 := 0) hK hP rfl)) rfl rfl hl.1 rfl (lv_room (Nat.le_of_ble_eq_true rfl)) (kdr dgJ5_append_c97b9_0 1 0 rfl rfl) ⟨(Nat.le_of_ble_eq_true rfl), (Nat.le_of_ble_eq_true rfl)⟩) hP hD hS hA [0, 1] [] rfl [] rfl (by decide) (by decide) (fun u2 H locs hP hD hS => ?_)
  have hP := hP.sub (ws' := [(t0, .inr (1, [.ref (u2 0), .int 0, .int 0, .int r2.2.2])), ((u2 0), .inl (cB, r2.1, .inl r2.2.1))]) [0, 1] rfl
  have hD := hD.sub (ws' := [(t0, .inr (1, [.ref (u2 0), .int 0, .int 0, .int r2.2.2])), ((u2 0), .inl (cB, r2.1, .inl r2.2.1))]) [0, 1] (by decide) rfl
  refine lv_aload_n hx hb (kdr dgJ5_append_c97b9_0 1 1 rfl rfl) rfl (lv_at hl 2 rfl) ?_
  obtain ⟨r3, g3, h⟩ := g_b h
  refine kq_i [(t0, .inr (1, [.ref (u2 0), .int 0, .int 0, .int r2.2.2])), ((u2 0), .inl (cB, r2.1, .inl r2.2.1))] (fun qP qD qF => va_runU (As := []) (rest := []) ⟨hx, hb, hml, hown, hts⟩ (c_J5_isLatin1_aae02 l dC dI cB cI cJ cZ t0 (u2 0) _ r2.1 r2.2.1 r2.2.2  r3 g3) (kcwU hts kw_756 kv_J5_isLatin1_aae02 rfl rfl ⟨(Nat.le_of_ble_eq_true rfl), (Nat.le_of_ble_eq_true rfl)⟩) (kpVXq (A := A) qP hK qD hG hZ hS qF (krecv_1 (q0 := 0) hK hP rfl)) rfl rfl hl.1 rfl (lv_room (Nat.le_of_ble_eq_true rfl)) (kdr dgJ5_append_c97b9_0 1 2 rfl rfl) ⟨(Nat.le_of_ble_eq_true rfl), (Nat.le_of_ble_eq_true rfl)⟩) hP hD hS hA (kFr_a rfl) (fun H locs hP hD hS br3 => ?_)
  refine lv_if_eq (tgt := 37) hx hb (kdr dgJ5_append_c97b9_0 1 3 rfl rfl) (by decide) (fun c4 => ?_) (fun c4 => ?_)
  · have h := g_t c4 h
    refine lv_iload_n hx hb (kdr dgJ5_append_c97b9_0 2 1 rfl rfl) rfl (lv_at hl 3 rfl) ?_
    refine lv_iload_n hx hb (kdr dgJ5_append_c97b9_0 2 2 rfl rfl) rfl (lv_at hl 1 rfl) ?_
    refine lv_iload_n hx hb (kdr dgJ5_append_c97b9_0 2 3 rfl rfl) rfl (lv_at hl 0 rfl) ?_
    refine lv_aload_n hx hb (kdr dgJ5_append_c97b9_0 2 4 rfl rfl) rfl (lv_at hl 2 rfl) ?_
    refine va_get (D := (dC, dI)) (ci := 1) (v := .ref (u2 0)) (C := RJ4) (T := TJ4) (N := 4) hx hb hts hiJ4 hown hK hP 0 rfl rfl 0 (by decide) hw1 (fun _ h9 => h9) rfl (kdr dgJ5_append_c97b9_0 2 5 rfl rfl) ?_
    cases h
  · have h := g_f c4 h
    refine lv_iload_n hx hb (kdr dgJ5_append_c97b9_0 1 4 rfl rfl) rfl (lv_at hl 3 rfl) ?_
    refine lv_iload_n hx hb (kdr dgJ5_append_c97b9_0 1 5 rfl rfl) rfl (lv_at hl 0 rfl) ?_
    refine lv_aload_n hx hb (kdr dgJ5_append_c97b9_0 1 6 rfl rfl) rfl (lv_at hl 2 rfl) ?_
    refine va_get (D := (dC, dI)) (ci := 1) (v := .ref (u2 0)) (C := RJ4) (T := TJ4) (N := 4) hx hb hts hiJ4 hown hK hP 0 rfl rfl 0 (by decide) hw1 (fun _ h9 => h9) rfl (kdr dgJ5_append_c97b9_0 1 7 rfl rfl) ?_
    obtain ⟨r5, g5, h⟩ := g_b h
    refine kcall_i [(t0, .inr (1, [.ref (u2 0), .int 0, .int 0, .int r2.2.2])), ((u2 0), .inl (cB, r2.1, .inl r5.2))] (va_runS (As := [.int p0, .int (tk + r1), .ref (u2 0)]) (rest := []) ⟨hx, hb, hml, hown, hts⟩ (c_J6_getChars_ba4f3 l dC dI cB cI cJ cZ (u2 0) r2.1 _ r2.2.1 p0 (tk + r1) r5 g5) (kcwS hts kw_761 kv_J6_getChars_ba4f3 rfl rfl ⟨(Nat.le_of_ble_eq_true rfl), (Nat.le_of_ble_eq_true rfl)⟩) (kpSX (A := A) (hP.sub (kIT mk_0 0) (km_f (m := mk_0) rfl rfl)) hK (hD.sub (kIT mk_0 0) (km_nd mk_0) (km_T (m := mk_0) rfl rfl)) hG hZ hS hD hA (kIT mk_0 0) (km_T (m := mk_0) rfl rfl)) rfl rfl hl.1 rfl (lv_room (Nat.le_of_ble_eq_true rfl)) (kdr dgJ5_append_c97b9_0 1 8 rfl rfl) ⟨(Nat.le_of_ble_eq_true rfl), (Nat.le_of_ble_eq_true rfl)⟩) hP hD hS hA (kIT mk_0 0) (kIT mk_1 0) (km_T (m := mk_0) rfl rfl) (km_T (m := mk_0) rfl rfl) [(t0, .inr (1, [.ref (u2 0), .int 0, .int 0, .int r2.2.2]))] (km_T (m := mk_1) rfl rfl) (km_T (m := mk_1) rfl rfl) (km_cov (m := mk_0) (n := mk_1) rfl rfl) (km_dis (m := mk_0) (n := mk_1) rfl) rfl (fun H locs hP hD hS br5 => ?_)
    refine lv_pop hx hb (kdr dgJ5_append_c97b9_0 1 9 rfl rfl) rfl ?_
    refine lv_goto (tgt := 48) hx hb (kdr dgJ5_append_c97b9_0 2 0 rfl rfl) (by decide) ?_
    refine lv_aload_n hx hb (kdr dgJ5_append_c97b9_0 2 8 rfl rfl) rfl (lv_at hl 2 rfl) ?_
    refine lv_iload_n hx hb (kdr dgJ5_append_c97b9_0 2 9 rfl rfl) rfl (lv_at hl 0 rfl) ?_
    refine va_put (D := (dC, dI)) (ci := 1) (v := .int (tk + r1)) (ty := .int) (C := RJ4) (T := TJ4) (N := 4) hx hb hts hiJ4 tyJ4 tyJ4_ok nmJ4 hown hK hP hD hS 0 rfl rfl 3 (by decide) hw0 (fun _ h9 => h9) rfl (by decide +kernel) rfl rfl (Nat.le_of_ble_eq_true rfl) (kdr dgJ5_append_c97b9_0 3 0 rfl rfl) (fun H locs hP hD hS => ?_)
    have hP : va_P (dC, dI) vwCl [(t0, .inr (1, [.ref (u2 0), .int 0, .int 0, .int (tk + r1)])), ((u2 0), .inl (cB, r2.1, .inl r5.2))] H := hP
    have hD : va_D A [(t0, .inr (1, [.ref (u2 0), .int 0, .int 0, .int (tk + r1)])), ((u2 0), .inl (cB, r2.1, .inl r5.2))] := hD
    refine lv_aload_n hx hb (kdr dgJ5_append_c97b9_0 3 1 rfl rfl) rfl (lv_at hl 2 rfl) ?_
    have hP := hP.sub (ws' := (wTB cB t0 (u2 0) r2.1 r5.2 (tk + r1))) [0, 1] rfl
    have hD := hD.sub (ws' := (wTB cB t0 (u2 0) r2.1 r5.2 (tk + r1))) [0, 1] (by decide) rfl
    have h := Option.some.inj h
    subst h
    refine W.widen (k := 1) (n := 64) (Nat.le_of_ble_eq_true rfl) (Nat.le_of_ble_eq_true rfl) ?_
    exact kret_au (u := (kcons (u2 0) (fun _ => 0))) hx hb hr (Or.inl ⟨_, rfl⟩) hlocks hS hP hD (kdr dgJ5_append_c97b9_0 3 2 rfl rfl)
noncomputable abbrev wsJ5_append_3fe6f : List Cond := kWs yJ5_append_3fe6f cJ5_append_3fe6f 2 (some (.object "java/lang/AbstractStringBuilder"))
noncomputable def f_J5_append_3fe6f (tn : Nat) (tv : Nat → Int32) (tk : Int32) (p0 : Int32) : Option ((Nat) × (Nat → Int32) × (Int32)) :=
  (f_J5_ensureCapacityInternal_d00df tn tv tk (tk + (1 : Int32))).bind fun r1 =>
  (f_J5_isLatin1_aae02).bind fun r2 =>
  if r2 = 0 then
    none
  else
    (f_J1_canEncode_fc78d p0).bind fun r4 =>
    if r4 = 0 then
      none
    else
      if ix r1.2.2 r1.1 then
        some (r1.1, upd r1.2.1 r1.2.2.toNatClampNeg (vp_nar .byte p0.toInt8.toInt32), r1.2.2 + (1 : Int32))
      else none
theorem f_J5_append_3fe6f_e {tn : Nat} {tv : Nat → Int32} {tk : Int32} {p0 : Int32} : f_J5_append_3fe6f tn tv tk p0 = 
  (f_J5_ensureCapacityInternal_d00df tn tv tk (tk + (1 : Int32))).bind fun r1 =>
  (f_J5_isLatin1_aae02).bind fun r2 =>
  if r2 = 0 then
    none
  else
    (f_J1_canEncode_fc78d p0).bind fun r4 =>
    if r4 = 0 then
      none
    else
      if ix r1.2.2 r1.1 then
        some (r1.1, upd r1.2.1 r1.2.2.toNatClampNeg (vp_nar .byte p0.toInt8.toInt32), r1.2.2 + (1 : Int32))
      else none := rfl
set_option maxHeartbeats 4000000 in
set_option maxRecDepth 100000 in
theorem c_J5_append_3fe6f (l : Launch) (dC : Nat → ClassId) (dI : Nat → Nat → Nat) (cB cI cJ cZ : ClassId) (t0 : Nat) (t1 : Nat) (sz : Nat) (tn : Nat) (tv : Nat → Int32) (tk : Int32) (p0 : Int32) (res : (Nat) × (Nat → Int32) × (Int32)) (hf : f_J5_append_3fe6f tn tv tk p0 = some res) : Met l yJ5_append_3fe6f wsJ5_append_3fe6f (kRm 4 1 64 110) (kPreX (dC, dI) (kTy cB cI cJ cZ) [.ref t0, .int p0] sz (wTB cB t0 t1 tn tv tk)) (kAu (dC, dI) t0 (fun u => (wTB cB t0 (u 0) (res.1) (res.2.1) (res.2.2))) (va_A (wTB cB t0 t1 tn tv tk) sz)) 1 64 (va_A (wTB cB t0 t1 tn tv tk) sz) := by
  refine kofW (y := yJ5_append_3fe6f) (cc := cJ5_append_3fe6f) (maxL := 2) (ret := (some (.object "java/lang/AbstractStringBuilder"))) (plainFor_of_name (x := yJ5_append_3fe6f) kpl_J5) rfl ?_
  intro p e s m args below meth c s₁ B hml hv
  obtain ⟨rfl, hsz, hP, hK, hD0, hG, hZ⟩ := hv
  have hx := B.exec
  have hb := B.bytes
  have hr := B.returns
  have hts := atoms_spec (ws := wsJ5_append_3fe6f) B.pre
  have hown : s.vm.findClass RJ5 = some m.cls := findClass_of_methodNamed B.named
  have hlocks := B.notSynchronized
  subst hsz
  have hD := hD0.self (sz := s.heap.size)
  generalize hAe : va_A (wTB cB t0 t1 tn tv tk) s.heap.size = A at hD hZ ⊢
  have hA : ∀ q : Nat, s.heap.size ≤ q → A q := fun q h => by rw [← hAe]; exact Or.inr h
  have hS : va_S A s.heap s.heap [] := va_S.rf
  clear hAe
  have hw0 := hts (.fieldLink RJ5 79 "java/lang/AbstractStringBuilder" "count" "I") (List.mem_cons_of_mem _ kw_703)
  have hw1 := hts (.fieldLink RJ5 15 "java/lang/AbstractStringBuilder" "value" "[B") (List.mem_cons_of_mem _ kw_700)
  have hiJ4 : ∀ w ∈ u_ws RJ4 TJ4 4, w ∈ wsJ5_append_3fe6f := fun w h => List.mem_cons_of_mem _ (ku_J4 w h)
  have hl := lv_entry ([.ref t0, .int p0]) (n := 2) (Nat.le_of_ble_eq_true rfl)
  rw [lg_entry_eq]
  generalize (lg_sl ([.ref t0, .int p0]) ++ List.replicate (2 - (lg_sl ([.ref t0, .int p0])).length) Slot.unset).toArray = ls at hl ⊢
  have hl : lv_has ls 2 (kvA 0 t0 (kvI 1 p0 kvE)) := hl
  have h := f_J5_append_3fe6f_e.symm.trans hf
  refine lv_aload_n hx hb (kdr dgJ5_append_3fe6f_0 0 0 rfl rfl) rfl (lv_at hl 0 rfl) ?_
  refine lv_aload_n hx hb (kdr dgJ5_append_3fe6f_0 0 1 rfl rfl) rfl (lv_at hl 0 rfl) ?_
  refine va_get (D := (dC, dI)) (ci := 1) (v := .int tk) (C := RJ4) (T := TJ4) (N := 4) hx hb hts hiJ4 hown hK hP 0 rfl rfl 3 (by decide) hw0 (fun _ h9 => h9) rfl (kdr dgJ5_append_3fe6f_0 0 2 rfl rfl) ?_
  refine lv_iconst (v := 1) hx hb (kdr dgJ5_append_3fe6f_0 0 3 rfl rfl) (by decide) ?_
  refine lv_iadd hx hb (kdr dgJ5_append_3fe6f_0 0 4 rfl rfl) ?_
  obtain ⟨r1, g1, h⟩ := g_b h
  refine kcall_vu (fun u1 => (wTB cB t0 (u1 0) r1.1 r1.2.1 r1.2.2)) (va_runU (As := [.int (tk + (1 : Int32))]) (rest := []) ⟨hx, hb, hml, hown, hts⟩ (c_J5_ensureCapacityInternal_d00df l dC dI cB cI cJ cZ t0 t1 _ tn tv tk (tk + (1 : Int32)) r1 g1) (kcwU hts kw_723 kv_J5_ensureCapacityInternal_d00df rfl rfl ⟨(Nat.le_of_ble_eq_true rfl), (Nat.le_of_ble_eq_true rfl)⟩) (kpV (A := A) (hP.sub [0, 1] rfl) hK (hD.sub [0, 1] (by decide) rfl) hG (krecv_1 (q0 := 0) hK hP rfl)) rfl rfl hl.1 rfl (lv_room (Nat.le_of_ble_eq_true rfl)) (kdr dgJ5_append_3fe6f_0 0 5 rfl rfl) ⟨(Nat.le_of_ble_eq_true rfl), (Nat.le_of_ble_eq_true rfl)⟩) hP hD hS hA [0, 1] [] rfl [] rfl (by decide) (by decide) (fun u1 H locs hP hD hS => ?_)
  have hP := hP.sub (ws' := [(t0, .inr (1, [.ref (u1 0), .int 0, .int 0, .int r1.2.2])), ((u1 0), .inl (cB, r1.1, .inl r1.2.1))]) [0, 1] rfl
  have hD := hD.sub (ws' := [(t0, .inr (1, [.ref (u1 0), .int 0, .int 0, .int r1.2.2])), ((u1 0), .inl (cB, r1.1, .inl r1.2.1))]) [0, 1] (by decide) rfl
  refine lv_aload_n hx hb (kdr dgJ5_append_3fe6f_0 0 6 rfl rfl) rfl (lv_at hl 0 rfl) ?_
  obtain ⟨r2, g2, h⟩ := g_b h
  refine kq_i [(t0, .inr (1, [.ref (u1 0), .int 0, .int 0, .int r1.2.2])), ((u1 0), .inl (cB, r1.1, .inl r1.2.1))] (fun qP qD qF => va_runU (As := []) (rest := []) ⟨hx, hb, hml, hown, hts⟩ (c_J5_isLatin1_aae02 l dC dI cB cI cJ cZ t0 (u1 0) _ r1.1 r1.2.1 r1.2.2  r2 g2) (kcwU hts kw_756 kv_J5_isLatin1_aae02 rfl rfl ⟨(Nat.le_of_ble_eq_true rfl), (Nat.le_of_ble_eq_true rfl)⟩) (kpVXq (A := A) qP hK qD hG hZ hS qF (krecv_1 (q0 := 0) hK hP rfl)) rfl rfl hl.1 rfl (lv_room (Nat.le_of_ble_eq_true rfl)) (kdr dgJ5_append_3fe6f_0 0 7 rfl rfl) ⟨(Nat.le_of_ble_eq_true rfl), (Nat.le_of_ble_eq_true rfl)⟩) hP hD hS hA (kFr_a rfl) (fun H locs hP hD hS br2 => ?_)
  refine lv_if_eq (tgt := 45) hx hb (kdr dgJ5_append_3fe6f_0 0 8 rfl rfl) (by decide) (fun c3 => ?_) (fun c3 => ?_)
  · have h := g_t c3 h
    cases h
  · have h := g_f c3 h
    refine lv_iload_n hx hb (kdr dgJ5_append_3fe6f_0 0 9 rfl rfl) rfl (lv_at hl 1 rfl) ?_
    obtain ⟨r4, g4, h⟩ := g_b h
    refine kq_i [(t0, .inr (1, [.ref (u1 0), .int 0, .int 0, .int r1.2.2])), ((u1 0), .inl (cB, r1.1, .inl r1.2.1))] (fun qP qD qF => va_runS (As := [.int p0]) (rest := []) ⟨hx, hb, hml, hown, hts⟩ (c_J1_canEncode_fc78d l dC dI cB cI cJ cZ  _  p0 r4 g4) (kcwS hts kw_806 kv_J1_canEncode_fc78d rfl rfl ⟨(Nat.le_of_ble_eq_true rfl), (Nat.le_of_ble_eq_true rfl)⟩) (kpS (A := A) (kPnil) hK ((kDnil (A := A))) hG) rfl rfl hl.1 rfl (lv_room (Nat.le_of_ble_eq_true rfl)) (kdr dgJ5_append_3fe6f_0 1 0 rfl rfl) ⟨(Nat.le_of_ble_eq_true rfl), (Nat.le_of_ble_eq_true rfl)⟩) hP hD hS hA kFr_n (fun H locs hP hD hS br4 => ?_)
    refine lv_if_eq (tgt := 45) hx hb (kdr dgJ5_append_3fe6f_0 1 1 rfl rfl) (by decide) (fun c5 => ?_) (fun c5 => ?_)
    · have h := g_t c5 h
      cases h
    · have h := g_f c5 h
      refine lv_aload_n hx hb (kdr dgJ5_append_3fe6f_0 1 2 rfl rfl) rfl (lv_at hl 0 rfl) ?_
      refine va_get (D := (dC, dI)) (ci := 1) (v := .ref (u1 0)) (C := RJ4) (T := TJ4) (N := 4) hx hb hts hiJ4 hown hK hP 0 rfl rfl 0 (by decide) hw1 (fun _ h9 => h9) rfl (kdr dgJ5_append_3fe6f_0 1 3 rfl rfl) ?_
      refine lv_aload_n hx hb (kdr dgJ5_append_3fe6f_0 1 4 rfl rfl) rfl (lv_at hl 0 rfl) ?_
      refine lv_dup hx hb (kdr dgJ5_append_3fe6f_0 1 5 rfl rfl) rfl ?_
      refine va_get (D := (dC, dI)) (ci := 1) (v := .int r1.2.2) (C := RJ4) (T := TJ4) (N := 4) hx hb hts hiJ4 hown hK hP 0 rfl rfl 3 (by decide) hw0 (fun _ h9 => h9) rfl (kdr dgJ5_append_3fe6f_0 1 6 rfl rfl) ?_
      refine lv_dup_x1 hx hb (kdr dgJ5_append_3fe6f_0 1 7 rfl rfl) rfl rfl ?_
      refine lv_iconst (v := 1) hx hb (kdr dgJ5_append_3fe6f_0 1 8 rfl rfl) (by decide) ?_
      refine lv_iadd hx hb (kdr dgJ5_append_3fe6f_0 1 9 rfl rfl) ?_
      refine va_put (D := (dC, dI)) (ci := 1) (v := .int (r1.2.2 + (1 : Int32))) (ty := .int) (C := RJ4) (T := TJ4) (N := 4) hx hb hts hiJ4 tyJ4 tyJ4_ok nmJ4 hown hK hP hD hS 0 rfl rfl 3 (by decide) hw0 (fun _ h9 => h9) rfl (by decide +kernel) rfl rfl (Nat.le_of_ble_eq_true rfl) (kdr dgJ5_append_3fe6f_0 2 0 rfl rfl) (fun H locs hP hD hS => ?_)
      have hP : va_P (dC, dI) vwCl [(t0, .inr (1, [.ref (u1 0), .int 0, .int 0, .int (r1.2.2 + (1 : Int32))])), ((u1 0), .inl (cB, r1.1, .inl r1.2.1))] H := hP
      have hD : va_D A [(t0, .inr (1, [.ref (u1 0), .int 0, .int 0, .int (r1.2.2 + (1 : Int32))])), ((u1 0), .inl (cB, r1.1, .inl r1.2.1))] := hD
      refine lv_iload_n hx hb (kdr dgJ5_append_3fe6f_0 2 1 rfl rfl) rfl (lv_at hl 1 rfl) ?_
      refine lv_i2b (v := p0.toInt8.toInt32) hx hb (kdr dgJ5_append_3fe6f_0 2 2 rfl rfl) rfl ?_
      obtain ⟨z5, h⟩ := g_if h
      refine va_bast hx hb hK hP hD hS 1 0 rfl rfl (ix_in z5) (kdr dgJ5_append_3fe6f_0 2 3 rfl rfl) (fun H locs hP hD hS => ?_)
      have hP : va_P (dC, dI) vwCl [(t0, .inr (1, [.ref (u1 0), .int 0, .int 0, .int (r1.2.2 + (1 : Int32))])), ((u1 0), .inl (cB, r1.1, .inl (upd r1.2.1 r1.2.2.toNatClampNeg (vp_nar .byte p0.toInt8.toInt32))))] H := hP
      have hD : va_D A [(t0, .inr (1, [.ref (u1 0), .int 0, .int 0, .int (r1.2.2 + (1 : Int32))])), ((u1 0), .inl (cB, r1.1, .inl (upd r1.2.1 r1.2.2.toNatClampNeg (vp_nar .byte p0.toInt8.toInt32))))] := hD
      refine lv_goto (tgt := 75) hx hb (kdr dgJ5_append_3fe6f_0 2 4 rfl rfl) (by decide) ?_
      refine lv_aload_n hx hb (kdr dgJ5_append_3fe6f_0 4 1 rfl rfl) rfl (lv_at hl 0 rfl) ?_
      have hP := hP.sub (ws' := (wTB cB t0 (u1 0) r1.1 (upd r1.2.1 r1.2.2.toNatClampNeg (vp_nar .byte p0.toInt8.toInt32)) (r1.2.2 + (1 : Int32)))) [0, 1] rfl
      have hD := hD.sub (ws' := (wTB cB t0 (u1 0) r1.1 (upd r1.2.1 r1.2.2.toNatClampNeg (vp_nar .byte p0.toInt8.toInt32)) (r1.2.2 + (1 : Int32)))) [0, 1] (by decide) rfl
      have h := Option.some.inj h
      subst h
      refine W.widen (k := 1) (n := 64) (Nat.le_of_ble_eq_true rfl) (Nat.le_of_ble_eq_true rfl) ?_
      exact kret_au (u := (kcons (u1 0) (fun _ => 0))) hx hb hr (Or.inl ⟨_, rfl⟩) hlocks hS hP hD (kdr dgJ5_append_3fe6f_0 4 2 rfl rfl)
noncomputable abbrev wsJ4_append_bf812 : List Cond := kWs yJ4_append_bf812 cJ4_append_bf812 2 (some (.object "java/lang/StringBuilder"))
noncomputable def f_J4_append_bf812 (tn : Nat) (tv : Nat → Int32) (tk : Int32) (p0 : Int32) : Option ((Nat) × (Nat → Int32) × (Int32)) :=
  (f_J5_append_c97b9 tn tv tk p0).bind fun r1 =>
  some (r1.1, r1.2.1, r1.2.2)
theorem f_J4_append_bf812_e {tn : Nat} {tv : Nat → Int32} {tk : Int32} {p0 : Int32} : f_J4_append_bf812 tn tv tk p0 = 
  (f_J5_append_c97b9 tn tv tk p0).bind fun r1 =>
  some (r1.1, r1.2.1, r1.2.2) := rfl
set_option maxHeartbeats 4000000 in
set_option maxRecDepth 100000 in
theorem c_J4_append_bf812 (l : Launch) (dC : Nat → ClassId) (dI : Nat → Nat → Nat) (cB cI cJ cZ : ClassId) (t0 : Nat) (t1 : Nat) (sz : Nat) (tn : Nat) (tv : Nat → Int32) (tk : Int32) (p0 : Int32) (res : (Nat) × (Nat → Int32) × (Int32)) (hf : f_J4_append_bf812 tn tv tk p0 = some res) : Met l yJ4_append_bf812 wsJ4_append_bf812 (kRm 5 1 64 133) (kPreX (dC, dI) (kTy cB cI cJ cZ) [.ref t0, .int p0] sz (wTB cB t0 t1 tn tv tk)) (kAu (dC, dI) t0 (fun u => (wTB cB t0 (u 0) (res.1) (res.2.1) (res.2.2))) (va_A (wTB cB t0 t1 tn tv tk) sz)) 1 64 (va_A (wTB cB t0 t1 tn tv tk) sz) := by
  refine kofW (y := yJ4_append_bf812) (cc := cJ4_append_bf812) (maxL := 2) (ret := (some (.object "java/lang/StringBuilder"))) (plainFor_of_name (x := yJ4_append_bf812) kpl_J4) rfl ?_
  intro p e s m args below meth c s₁ B hml hv
  obtain ⟨rfl, hsz, hP, hK, hD0, hG, hZ⟩ := hv
  have hx := B.exec
  have hb := B.bytes
  have hr := B.returns
  have hts := atoms_spec (ws := wsJ4_append_bf812) B.pre
  have hown : s.vm.findClass RJ4 = some m.cls := findClass_of_methodNamed B.named
  have hlocks := B.notSynchronized
  subst hsz
  have hD := hD0.self (sz := s.heap.size)
  generalize hAe : va_A (wTB cB t0 t1 tn tv tk) s.heap.size = A at hD hZ ⊢
  have hA : ∀ q : Nat, s.heap.size ≤ q → A q := fun q h => by rw [← hAe]; exact Or.inr h
  have hS : va_S A s.heap s.heap [] := va_S.rf
  clear hAe
  have hl := lv_entry ([.ref t0, .int p0]) (n := 2) (Nat.le_of_ble_eq_true rfl)
  rw [lg_entry_eq]
  generalize (lg_sl ([.ref t0, .int p0]) ++ List.replicate (2 - (lg_sl ([.ref t0, .int p0])).length) Slot.unset).toArray = ls at hl ⊢
  have hl : lv_has ls 2 (kvA 0 t0 (kvI 1 p0 kvE)) := hl
  have h := f_J4_append_bf812_e.symm.trans hf
  refine lv_aload_n hx hb (kdr dgJ4_append_bf812_0 0 0 rfl rfl) rfl (lv_at hl 0 rfl) ?_
  refine lv_iload_n hx hb (kdr dgJ4_append_bf812_0 0 1 rfl rfl) rfl (lv_at hl 1 rfl) ?_
  obtain ⟨r1, g1, h⟩ := g_b h
  refine kcall_au (fun u1 => (wTB cB t0 (u1 0) r1.1 r1.2.1 r1.2.2)) (va_runSU (hK.1 1 _ rfl).2 (As := [.int p0]) (rest := []) ⟨hx, hb, hml, hown, hts⟩ (c_J5_append_c97b9 l dC dI cB cI cJ cZ t0 t1 _ tn tv tk p0 r1 g1) (kcwSU hts kw_717 kv_J5_append_c97b9 rfl rfl ⟨(Nat.le_of_ble_eq_true rfl), (Nat.le_of_ble_eq_true rfl)⟩) (kpVX (A := A) (hP.sub [0, 1] rfl) hK (hD.sub [0, 1] (by decide) rfl) hG hZ hS hD hA [0, 1] rfl (krecv_1 (q0 := 0) hK hP rfl)) rfl rfl hl.1 rfl (lv_room (Nat.le_of_ble_eq_true rfl)) (kdr dgJ4_append_bf812_0 0 2 rfl rfl) ⟨(Nat.le_of_ble_eq_true rfl), (Nat.le_of_ble_eq_true rfl)⟩) hP hD hS hA [0, 1] [] rfl [] rfl (by decide) (by decide) (fun u1 H locs hP hD hS => ?_)
  have hP := hP.sub (ws' := [(t0, .inr (1, [.ref (u1 0), .int 0, .int 0, .int r1.2.2])), ((u1 0), .inl (cB, r1.1, .inl r1.2.1))]) [0, 1] rfl
  have hD := hD.sub (ws' := [(t0, .inr (1, [.ref (u1 0), .int 0, .int 0, .int r1.2.2])), ((u1 0), .inl (cB, r1.1, .inl r1.2.1))]) [0, 1] (by decide) rfl
  refine lv_pop hx hb (kdr dgJ4_append_bf812_0 0 3 rfl rfl) rfl ?_
  refine lv_aload_n hx hb (kdr dgJ4_append_bf812_0 0 4 rfl rfl) rfl (lv_at hl 0 rfl) ?_
  have hP := hP.sub (ws' := (wTB cB t0 (u1 0) r1.1 r1.2.1 r1.2.2)) [0, 1] rfl
  have hD := hD.sub (ws' := (wTB cB t0 (u1 0) r1.1 r1.2.1 r1.2.2)) [0, 1] (by decide) rfl
  have h := Option.some.inj h
  subst h
  refine W.widen (k := 1) (n := 64) (Nat.le_of_ble_eq_true rfl) (Nat.le_of_ble_eq_true rfl) ?_
  exact kret_au (u := (kcons (u1 0) (fun _ => 0))) hx hb hr (Or.inl ⟨_, rfl⟩) hlocks hS hP hD (kdr dgJ4_append_bf812_0 0 5 rfl rfl)
noncomputable abbrev wsJ4_append_cf468 : List Cond := kWs yJ4_append_cf468 cJ4_append_cf468 2 (some (.object "java/lang/StringBuilder"))
noncomputable def f_J4_append_cf468 (tn : Nat) (tv : Nat → Int32) (tk : Int32) (p0 : Int32) : Option ((Nat) × (Nat → Int32) × (Int32)) :=
  (f_J5_append_3fe6f tn tv tk p0).bind fun r1 =>
  some (r1.1, r1.2.1, r1.2.2)
theorem f_J4_append_cf468_e {tn : Nat} {tv : Nat → Int32} {tk : Int32} {p0 : Int32} : f_J4_append_cf468 tn tv tk p0 = 
  (f_J5_append_3fe6f tn tv tk p0).bind fun r1 =>
  some (r1.1, r1.2.1, r1.2.2) := rfl
set_option maxHeartbeats 4000000 in
set_option maxRecDepth 100000 in
theorem c_J4_append_cf468 (l : Launch) (dC : Nat → ClassId) (dI : Nat → Nat → Nat) (cB cI cJ cZ : ClassId) (t0 : Nat) (t1 : Nat) (sz : Nat) (tn : Nat) (tv : Nat → Int32) (tk : Int32) (p0 : Int32) (res : (Nat) × (Nat → Int32) × (Int32)) (hf : f_J4_append_cf468 tn tv tk p0 = some res) : Met l yJ4_append_cf468 wsJ4_append_cf468 (kRm 5 1 64 131) (kPreX (dC, dI) (kTy cB cI cJ cZ) [.ref t0, .int p0] sz (wTB cB t0 t1 tn tv tk)) (kAu (dC, dI) t0 (fun u => (wTB cB t0 (u 0) (res.1) (res.2.1) (res.2.2))) (va_A (wTB cB t0 t1 tn tv tk) sz)) 1 64 (va_A (wTB cB t0 t1 tn tv tk) sz) := by
  refine kofW (y := yJ4_append_cf468) (cc := cJ4_append_cf468) (maxL := 2) (ret := (some (.object "java/lang/StringBuilder"))) (plainFor_of_name (x := yJ4_append_cf468) kpl_J4) rfl ?_
  intro p e s m args below meth c s₁ B hml hv
  obtain ⟨rfl, hsz, hP, hK, hD0, hG, hZ⟩ := hv
  have hx := B.exec
  have hb := B.bytes
  have hr := B.returns
  have hts := atoms_spec (ws := wsJ4_append_cf468) B.pre
  have hown : s.vm.findClass RJ4 = some m.cls := findClass_of_methodNamed B.named
  have hlocks := B.notSynchronized
  subst hsz
  have hD := hD0.self (sz := s.heap.size)
  generalize hAe : va_A (wTB cB t0 t1 tn tv tk) s.heap.size = A at hD hZ ⊢
  have hA : ∀ q : Nat, s.heap.size ≤ q → A q := fun q h => by rw [← hAe]; exact Or.inr h
  have hS : va_S A s.heap s.heap [] := va_S.rf
  clear hAe
  have hl := lv_entry ([.ref t0, .int p0]) (n := 2) (Nat.le_of_ble_eq_true rfl)
  rw [lg_entry_eq]
  generalize (lg_sl ([.ref t0, .int p0]) ++ List.replicate (2 - (lg_sl ([.ref t0, .int p0])).length) Slot.unset).toArray = ls at hl ⊢
  have hl : lv_has ls 2 (kvA 0 t0 (kvI 1 p0 kvE)) := hl
  have h := f_J4_append_cf468_e.symm.trans hf
  refine lv_aload_n hx hb (kdr dgJ4_append_cf468_0 0 0 rfl rfl) rfl (lv_at hl 0 rfl) ?_
  refine lv_iload_n hx hb (kdr dgJ4_append_cf468_0 0 1 rfl rfl) rfl (lv_at hl 1 rfl) ?_
  obtain ⟨r1, g1, h⟩ := g_b h
  refine kcall_au (fun u1 => (wTB cB t0 (u1 0) r1.1 r1.2.1 r1.2.2)) (va_runSU (hK.1 1 _ rfl).2 (As := [.int p0]) (rest := []) ⟨hx, hb, hml, hown, hts⟩ (c_J5_append_3fe6f l dC dI cB cI cJ cZ t0 t1 _ tn tv tk p0 r1 g1) (kcwSU hts kw_803 kv_J5_append_3fe6f rfl rfl ⟨(Nat.le_of_ble_eq_true rfl), (Nat.le_of_ble_eq_true rfl)⟩) (kpVX (A := A) (hP.sub [0, 1] rfl) hK (hD.sub [0, 1] (by decide) rfl) hG hZ hS hD hA [0, 1] rfl (krecv_1 (q0 := 0) hK hP rfl)) rfl rfl hl.1 rfl (lv_room (Nat.le_of_ble_eq_true rfl)) (kdr dgJ4_append_cf468_0 0 2 rfl rfl) ⟨(Nat.le_of_ble_eq_true rfl), (Nat.le_of_ble_eq_true rfl)⟩) hP hD hS hA [0, 1] [] rfl [] rfl (by decide) (by decide) (fun u1 H locs hP hD hS => ?_)
  have hP := hP.sub (ws' := [(t0, .inr (1, [.ref (u1 0), .int 0, .int 0, .int r1.2.2])), ((u1 0), .inl (cB, r1.1, .inl r1.2.1))]) [0, 1] rfl
  have hD := hD.sub (ws' := [(t0, .inr (1, [.ref (u1 0), .int 0, .int 0, .int r1.2.2])), ((u1 0), .inl (cB, r1.1, .inl r1.2.1))]) [0, 1] (by decide) rfl
  refine lv_pop hx hb (kdr dgJ4_append_cf468_0 0 3 rfl rfl) rfl ?_
  refine lv_aload_n hx hb (kdr dgJ4_append_cf468_0 0 4 rfl rfl) rfl (lv_at hl 0 rfl) ?_
  have hP := hP.sub (ws' := (wTB cB t0 (u1 0) r1.1 r1.2.1 r1.2.2)) [0, 1] rfl
  have hD := hD.sub (ws' := (wTB cB t0 (u1 0) r1.1 r1.2.1 r1.2.2)) [0, 1] (by decide) rfl
  have h := Option.some.inj h
  subst h
  refine W.widen (k := 1) (n := 64) (Nat.le_of_ble_eq_true rfl) (Nat.le_of_ble_eq_true rfl) ?_
  exact kret_au (u := (kcons (u1 0) (fun _ => 0))) hx hb hr (Or.inl ⟨_, rfl⟩) hlocks hS hP hD (kdr dgJ4_append_cf468_0 0 5 rfl rfl)
noncomputable abbrev wsJ5_init_d00df : List Cond := kWs yJ5_init_d00df cJ5_init_d00df 2 none
noncomputable def f_J5_init_d00df (p0 : Int32) : Option ((Nat) × (Nat → Int32) × (Int32)) :=
  if ix p0 17 then
    some (p0.toNatClampNeg, (fun _ => 0), 0)
  else none
theorem f_J5_init_d00df_e {p0 : Int32} : f_J5_init_d00df p0 = 
  if ix p0 17 then
    some (p0.toNatClampNeg, (fun _ => 0), 0)
  else none := rfl
set_option maxHeartbeats 4000000 in
set_option maxRecDepth 100000 in
theorem c_J5_init_d00df (l : Launch) (dC : Nat → ClassId) (dI : Nat → Nat → Nat) (cB cI cJ cZ : ClassId) (h0 : Nat) (sz : Nat) (p0 : Int32) (res : (Nat) × (Nat → Int32) × (Int32)) (hf : f_J5_init_d00df p0 = some res) : Met l yJ5_init_d00df wsJ5_init_d00df (kRm 1 1 16 20) (kPreX (dC, dI) (kTy cB cI cJ cZ) [.ref h0, .int p0] sz [(h0, .inr (1, [.null, .int 0, .int 0, .int 0]))]) (kVu (dC, dI) (fun u => (wTB cB h0 (u 0) (res.1) (res.2.1) (res.2.2))) (va_A [(h0, .inr (1, [.null, .int 0, .int 0, .int 0]))] sz)) 1 16 (va_A [(h0, .inr (1, [.null, .int 0, .int 0, .int 0]))] sz) := by
  refine kofW (y := yJ5_init_d00df) (cc := cJ5_init_d00df) (maxL := 2) (ret := none) (plainFor_of_name (x := yJ5_init_d00df) kpl_J5) rfl ?_
  intro p e s m args below meth c s₁ B hml hv
  obtain ⟨rfl, hsz, hP, hK, hD0, hG, hZ⟩ := hv
  have hx := B.exec
  have hb := B.bytes
  have hr := B.returns
  have hts := atoms_spec (ws := wsJ5_init_d00df) B.pre
  have hown : s.vm.findClass RJ5 = some m.cls := findClass_of_methodNamed B.named
  have hlocks := B.notSynchronized
  subst hsz
  have hD := hD0.self (sz := s.heap.size)
  generalize hAe : va_A [(h0, .inr (1, [.null, .int 0, .int 0, .int 0]))] s.heap.size = A at hD hZ ⊢
  have hA : ∀ q : Nat, s.heap.size ≤ q → A q := fun q h => by rw [← hAe]; exact Or.inr h
  have hS : va_S A s.heap s.heap [] := va_S.rf
  clear hAe
  have hin : meth.name = "<init>" := (name_of_methodNamed B.named B.method).1
  have hw0 := hts (.methodLink RJ5 3 objectInit) (List.mem_cons_of_mem _ kw_690)
  have hw1 := hts (.instanceMethod objectInit) (List.mem_cons_of_mem _ kw_83)
  have hw2 := hts (.code objectInit ⟨#[0xb1]⟩ 1 none) (List.mem_cons_of_mem _ kw_84)
  have hw3 := hts (.fieldLink RJ5 18 "java/lang/String" "COMPACT_STRINGS" "Z") (List.mem_cons_of_mem _ kw_691)
  have hw4 := hts (.arrayClass .byte) (List.mem_cons_of_mem _ kw_426)
  have hw5 := hts (.fieldLink RJ5 15 "java/lang/AbstractStringBuilder" "value" "[B") (List.mem_cons_of_mem _ kw_700)
  have hw6 := hts (.fieldLink RJ5 22 "java/lang/AbstractStringBuilder" "coder" "B") (List.mem_cons_of_mem _ kw_701)
  have hiJ4 : ∀ w ∈ u_ws RJ4 TJ4 4, w ∈ wsJ5_init_d00df := fun w h => List.mem_cons_of_mem _ (ku_J4 w h)
  have hl := lv_entry ([.ref h0, .int p0]) (n := 2) (Nat.le_of_ble_eq_true rfl)
  rw [lg_entry_eq]
  generalize (lg_sl ([.ref h0, .int p0]) ++ List.replicate (2 - (lg_sl ([.ref h0, .int p0])).length) Slot.unset).toArray = ls at hl ⊢
  have hl : lv_has ls 2 (kvA 0 h0 (kvI 1 p0 kvE)) := hl
  have h := f_J5_init_d00df_e.symm.trans hf
  refine lv_aload_n hx hb (kdr dgJ5_init_d00df_0 0 0 rfl rfl) rfl (lv_at hl 0 rfl) ?_
  refine W.objInit hx hb hown hw0 hw1 hw2 rfl (by rw [hml]; exact hl.1) rfl (kdr dgJ5_init_d00df_0 0 1 rfl rfl) (Nat.le_of_ble_eq_true rfl) (Nat.le_of_ble_eq_true rfl) ?_
  refine W.eq (g2 := F0 m 4 ls []) rfl ?_
  refine va_gets hx hb hZ.2.2.2.2.2.1 hS hown hw3 (fun _ h9 => h9) (kdr dgJ5_init_d00df_0 0 2 rfl rfl) ?_
  refine lv_if_eq (tgt := 25) hx hb (kdr dgJ5_init_d00df_0 0 3 rfl rfl) (by decide) (fun c9 => absurd c9 (by decide)) (fun _ => ?_)
  refine lv_aload_n hx hb (kdr dgJ5_init_d00df_0 0 4 rfl rfl) rfl (lv_at hl 0 rfl) ?_
  refine lv_iload_n hx hb (kdr dgJ5_init_d00df_0 0 5 rfl rfl) rfl (lv_at hl 1 rfl) ?_
  obtain ⟨z0, h⟩ := g_if h
  refine va_newa (atype := .byte) (ty := .byte) (a0 := (p0.toNatClampNeg, .inl (fun _ => 0))) hx hb hw4 rfl hK hP hD hS hA (fun _ => rfl) (kn_pos z0) rfl (kn_by z0 (by decide)) (Nat.le_of_ble_eq_true rfl) (kn_slg z0 (Nat.le_of_ble_eq_true rfl)) dJ5_init_d00df_12 (fun qn0 cA H hK9 hP hD hS => ?_)
  have e9 : cA = cB := k_cA hK9 0 rfl
  rw [e9] at hP hD
  have hP : va_P (dC, dI) vwCl ([(h0, .inr (1, [.null, .int 0, .int 0, .int 0]))] ++ [(qn0, .inl (cB, p0.toNatClampNeg, .inl (fun _ => 0)))]) H := hP
  have hD : va_D A ([(h0, .inr (1, [.null, .int 0, .int 0, .int 0]))] ++ [(qn0, .inl (cB, p0.toNatClampNeg, .inl (fun _ => 0)))]) := hD
  refine W.widen (k := 1) (n := 16) (Nat.le_of_ble_eq_true rfl) (kn_slg z0 (Nat.le_of_ble_eq_true rfl)) ?_
  refine va_put (D := (dC, dI)) (ci := 1) (v := .ref qn0) (ty := (.array .byte)) (C := RJ4) (T := TJ4) (N := 4) hx hb hts hiJ4 tyJ4 tyJ4_ok nmJ4 hown hK hP hD hS 0 rfl rfl 0 (by decide) hw5 (fun _ h9 => h9) rfl (by decide +kernel) rfl rfl (Nat.le_of_ble_eq_true rfl) (kdr dgJ5_init_d00df_14 0 0 rfl rfl) (fun H locs hP hD hS => ?_)
  have hP : va_P (dC, dI) vwCl ([(h0, .inr (1, [.ref qn0, .int 0, .int 0, .int 0]))] ++ [(qn0, .inl (cB, p0.toNatClampNeg, .inl (fun _ => 0)))]) H := hP
  have hD : va_D A ([(h0, .inr (1, [.ref qn0, .int 0, .int 0, .int 0]))] ++ [(qn0, .inl (cB, p0.toNatClampNeg, .inl (fun _ => 0)))]) := hD
  refine lv_aload_n hx hb (kdr dgJ5_init_d00df_14 0 1 rfl rfl) rfl (lv_at hl 0 rfl) ?_
  refine lv_iconst (v := 0) hx hb (kdr dgJ5_init_d00df_14 0 2 rfl rfl) (by decide) ?_
  refine va_put (D := (dC, dI)) (ci := 1) (v := .int 0) (ty := .byte) (C := RJ4) (T := TJ4) (N := 4) hx hb hts hiJ4 tyJ4 tyJ4_ok nmJ4 hown hK hP hD hS 0 rfl rfl 1 (by decide) hw6 (fun _ h9 => h9) rfl (by decide +kernel) rfl rfl (Nat.le_of_ble_eq_true rfl) (kdr dgJ5_init_d00df_14 0 3 rfl rfl) (fun H locs hP hD hS => ?_)
  have hP : va_P (dC, dI) vwCl ([(h0, .inr (1, [.ref qn0, .int 0, .int 0, .int 0]))] ++ [(qn0, .inl (cB, p0.toNatClampNeg, .inl (fun _ => 0)))]) H := hP
  have hD : va_D A ([(h0, .inr (1, [.ref qn0, .int 0, .int 0, .int 0]))] ++ [(qn0, .inl (cB, p0.toNatClampNeg, .inl (fun _ => 0)))]) := hD
  refine lv_goto (tgt := 38) hx hb (kdr dgJ5_init_d00df_14 0 4 rfl rfl) (by decide) ?_
  have hP := hP.sub (ws' := (wTB cB h0 qn0 p0.toNatClampNeg (fun _ => 0) 0)) [0, 1] rfl
  have hD := hD.sub (ws' := (wTB cB h0 qn0 p0.toNatClampNeg (fun _ => 0) 0)) [0, 1] (by decide) rfl
  have h := Option.some.inj h
  subst h
  refine W.widen (k := 1) (n := 16) (Nat.le_of_ble_eq_true rfl) (Nat.le_of_ble_eq_true rfl) ?_
  exact kret_vu (u := (kcons qn0 (fun _ => 0))) hx hb hr hlocks hS hP hD (kdr dgJ5_init_d00df_14 1 2 rfl rfl)
noncomputable abbrev wsJ4_init_da8c8 : List Cond := kWs yJ4_init_da8c8 cJ4_init_da8c8 1 none
noncomputable def f_J4_init_da8c8 : Option ((Nat) × (Nat → Int32) × (Int32)) :=
  (f_J5_init_d00df 16).bind fun r1 =>
  some (r1.1, r1.2.1, r1.2.2)
theorem f_J4_init_da8c8_e : f_J4_init_da8c8 = 
  (f_J5_init_d00df 16).bind fun r1 =>
  some (r1.1, r1.2.1, r1.2.2) := rfl
set_option maxHeartbeats 4000000 in
set_option maxRecDepth 100000 in
theorem c_J4_init_da8c8 (l : Launch) (dC : Nat → ClassId) (dI : Nat → Nat → Nat) (cB cI cJ cZ : ClassId) (h0 : Nat) (sz : Nat) (res : (Nat) × (Nat → Int32) × (Int32)) (hf : f_J4_init_da8c8 = some res) : Met l yJ4_init_da8c8 wsJ4_init_da8c8 (kRm 2 1 16 41) (kPreX (dC, dI) (kTy cB cI cJ cZ) [.ref h0] sz [(h0, .inr (1, [.null, .int 0, .int 0, .int 0]))]) (kVu (dC, dI) (fun u => (wTB cB h0 (u 0) (res.1) (res.2.1) (res.2.2))) (va_A [(h0, .inr (1, [.null, .int 0, .int 0, .int 0]))] sz)) 1 16 (va_A [(h0, .inr (1, [.null, .int 0, .int 0, .int 0]))] sz) := by
  refine kofW (y := yJ4_init_da8c8) (cc := cJ4_init_da8c8) (maxL := 1) (ret := none) (plainFor_of_name (x := yJ4_init_da8c8) kpl_J4) rfl ?_
  intro p e s m args below meth c s₁ B hml hv
  obtain ⟨rfl, hsz, hP, hK, hD0, hG, hZ⟩ := hv
  have hx := B.exec
  have hb := B.bytes
  have hr := B.returns
  have hts := atoms_spec (ws := wsJ4_init_da8c8) B.pre
  have hown : s.vm.findClass RJ4 = some m.cls := findClass_of_methodNamed B.named
  have hlocks := B.notSynchronized
  subst hsz
  have hD := hD0.self (sz := s.heap.size)
  generalize hAe : va_A [(h0, .inr (1, [.null, .int 0, .int 0, .int 0]))] s.heap.size = A at hD hZ ⊢
  have hA : ∀ q : Nat, s.heap.size ≤ q → A q := fun q h => by rw [← hAe]; exact Or.inr h
  have hS : va_S A s.heap s.heap [] := va_S.rf
  clear hAe
  have hin : meth.name = "<init>" := (name_of_methodNamed B.named B.method).1
  have hl := lv_entry ([.ref h0]) (n := 1) (Nat.le_of_ble_eq_true rfl)
  rw [lg_entry_eq]
  generalize (lg_sl ([.ref h0]) ++ List.replicate (1 - (lg_sl ([.ref h0])).length) Slot.unset).toArray = ls at hl ⊢
  have hl : lv_has ls 1 (kvA 0 h0 kvE) := hl
  have h := f_J4_init_da8c8_e.symm.trans hf
  refine lv_aload_n hx hb (kdr dgJ4_init_da8c8_0 0 0 rfl rfl) rfl (lv_at hl 0 rfl) ?_
  refine lv_bipush (v := 16) hx hb (kdr dgJ4_init_da8c8_0 0 1 rfl rfl) (by decide) ?_
  obtain ⟨r1, g1, h⟩ := g_b h
  refine kcall_vu (fun u1 => (wTB cB h0 (u1 0) r1.1 r1.2.1 r1.2.2)) (va_runI (As := [.int 16]) (rest := []) ⟨hx, hb, hml, hown, hts⟩ (c_J5_init_d00df l dC dI cB cI cJ cZ h0 _  16 r1 g1) (kcwI hts kw_687 kv_J5_init_d00df rfl rfl ⟨(Nat.le_of_ble_eq_true rfl), (Nat.le_of_ble_eq_true rfl)⟩) (kpSX (A := A) (hP.sub [0] rfl) hK (hD.sub [0] (by decide) rfl) hG hZ hS hD hA [0] rfl) rfl rfl hl.1 rfl (lv_room (Nat.le_of_ble_eq_true rfl)) (kdr dgJ4_init_da8c8_0 0 2 rfl rfl) ⟨(Nat.le_of_ble_eq_true rfl), (Nat.le_of_ble_eq_true rfl)⟩) hP hD hS hA [0] [] rfl [] rfl (by decide) (by decide) (fun u1 H locs hP hD hS => ?_)
  have hP := hP.sub (ws' := ([(h0, .inr (1, [.ref (u1 0), .int 0, .int 0, .int r1.2.2]))] ++ [((u1 0), .inl (cB, r1.1, .inl r1.2.1))])) [0, 1] rfl
  have hD := hD.sub (ws' := ([(h0, .inr (1, [.ref (u1 0), .int 0, .int 0, .int r1.2.2]))] ++ [((u1 0), .inl (cB, r1.1, .inl r1.2.1))])) [0, 1] (by decide) rfl
  have hP := hP.sub (ws' := (wTB cB h0 (u1 0) r1.1 r1.2.1 r1.2.2)) [0, 1] rfl
  have hD := hD.sub (ws' := (wTB cB h0 (u1 0) r1.1 r1.2.1 r1.2.2)) [0, 1] (by decide) rfl
  have h := Option.some.inj h
  subst h
  refine W.widen (k := 1) (n := 16) (Nat.le_of_ble_eq_true rfl) (Nat.le_of_ble_eq_true rfl) ?_
  exact kret_vu (u := (kcons (u1 0) (fun _ => 0))) hx hb hr hlocks hS hP hD (kdr dgJ4_init_da8c8_0 0 3 rfl rfl)
noncomputable abbrev wsJ5_getValue_6d5f1 : List Cond := kWs yJ5_getValue_6d5f1 cJ5_getValue_6d5f1 1 (some (.array .byte))
noncomputable def f_J5_getValue_6d5f1 : Option (Unit) :=
  some ()
theorem f_J5_getValue_6d5f1_e : f_J5_getValue_6d5f1 = 
  some () := rfl
set_option maxHeartbeats 4000000 in
set_option maxRecDepth 100000 in
theorem c_J5_getValue_6d5f1 (l : Launch) (dC : Nat → ClassId) (dI : Nat → Nat → Nat) (cB cI cJ cZ : ClassId) (t0 : Nat) (t1 : Nat) (sz : Nat) (tn : Nat) (tv : Nat → Int32) (tk : Int32) (res : Unit) (hf : f_J5_getValue_6d5f1 = some res) : Met l yJ5_getValue_6d5f1 wsJ5_getValue_6d5f1 (kRm 0 0 0 0) (kPre (dC, dI) (kTy cB cI cJ cZ) [.ref t0] sz (wTB cB t0 t1 tn tv tk)) (kAu (dC, dI) t1 (fun u => (wTB cB t0 t1 tn tv tk)) (va_A (wTB cB t0 t1 tn tv tk) sz)) 0 0 (va_A (wTB cB t0 t1 tn tv tk) sz) := by
  refine kofW (y := yJ5_getValue_6d5f1) (cc := cJ5_getValue_6d5f1) (maxL := 1) (ret := (some (.array .byte))) (plainFor_of_name (x := yJ5_getValue_6d5f1) kpl_J5) rfl ?_
  intro p e s m args below meth c s₁ B hml hv
  obtain ⟨rfl, hsz, hP, hK, hD0, hG⟩ := hv
  have hx := B.exec
  have hb := B.bytes
  have hr := B.returns
  have hts := atoms_spec (ws := wsJ5_getValue_6d5f1) B.pre
  have hown : s.vm.findClass RJ5 = some m.cls := findClass_of_methodNamed B.named
  have hlocks := B.notSynchronized
  subst hsz
  have hD := hD0.self (sz := s.heap.size)
  generalize hAe : va_A (wTB cB t0 t1 tn tv tk) s.heap.size = A at hD ⊢
  have hA : ∀ q : Nat, s.heap.size ≤ q → A q := fun q h => by rw [← hAe]; exact Or.inr h
  have hS : va_S A s.heap s.heap [] := va_S.rf
  clear hAe
  have hw0 := hts (.fieldLink RJ5 15 "java/lang/AbstractStringBuilder" "value" "[B") (List.mem_cons_of_mem _ kw_700)
  have hiJ4 : ∀ w ∈ u_ws RJ4 TJ4 4, w ∈ wsJ5_getValue_6d5f1 := fun w h => List.mem_cons_of_mem _ (ku_J4 w h)
  have hl := lv_entry ([.ref t0]) (n := 1) (Nat.le_of_ble_eq_true rfl)
  rw [lg_entry_eq]
  generalize (lg_sl ([.ref t0]) ++ List.replicate (1 - (lg_sl ([.ref t0])).length) Slot.unset).toArray = ls at hl ⊢
  have hl : lv_has ls 1 (kvA 0 t0 kvE) := hl
  have h := f_J5_getValue_6d5f1_e.symm.trans hf
  refine lv_aload_n hx hb (kdr dgJ5_getValue_6d5f1_0 0 0 rfl rfl) rfl (lv_at hl 0 rfl) ?_
  refine va_get (D := (dC, dI)) (ci := 1) (v := .ref t1) (C := RJ4) (T := TJ4) (N := 4) hx hb hts hiJ4 hown hK hP 0 rfl rfl 0 (by decide) hw0 (fun _ h9 => h9) rfl (kdr dgJ5_getValue_6d5f1_0 0 1 rfl rfl) ?_
  have hP := hP.sub (ws' := (wTB cB t0 t1 tn tv tk)) [0, 1] rfl
  have hD := hD.sub (ws' := (wTB cB t0 t1 tn tv tk)) [0, 1] (by decide) rfl
  have h := Option.some.inj h
  subst h
  exact kret_au (u := (kcons t1 (fun _ => 0))) hx hb hr (Or.inr ⟨_, rfl⟩) hlocks hS hP hD (kdr dgJ5_getValue_6d5f1_0 0 2 rfl rfl)
noncomputable abbrev wsJ5_length_8abf5 : List Cond := kWs yJ5_length_8abf5 cJ5_length_8abf5 1 (some .int)
noncomputable def f_J5_length_8abf5 (tk : Int32) : Option (Int32) :=
  some tk
theorem f_J5_length_8abf5_e {tk : Int32} : f_J5_length_8abf5 tk = 
  some tk := rfl
set_option maxHeartbeats 4000000 in
set_option maxRecDepth 100000 in
theorem c_J5_length_8abf5 (l : Launch) (dC : Nat → ClassId) (dI : Nat → Nat → Nat) (cB cI cJ cZ : ClassId) (t0 : Nat) (t1 : Nat) (sz : Nat) (tn : Nat) (tv : Nat → Int32) (tk : Int32) (res : Int32) (hf : f_J5_length_8abf5 tk = some res) : kMi l yJ5_length_8abf5 wsJ5_length_8abf5 (kRm 0 0 0 0) dC dI cB cI cJ cZ [.ref t0] sz (wTB cB t0 t1 tn tv tk) .int (res) (wTB cB t0 t1 tn tv tk) 0 0 := by
  refine kofW (y := yJ5_length_8abf5) (cc := cJ5_length_8abf5) (maxL := 1) (ret := (some .int)) (plainFor_of_name (x := yJ5_length_8abf5) kpl_J5) rfl ?_
  intro p e s m args below meth c s₁ B hml hv
  obtain ⟨rfl, hsz, hP, hK, hD0, hG⟩ := hv
  have hx := B.exec
  have hb := B.bytes
  have hr := B.returns
  have hts := atoms_spec (ws := wsJ5_length_8abf5) B.pre
  have hown : s.vm.findClass RJ5 = some m.cls := findClass_of_methodNamed B.named
  have hlocks := B.notSynchronized
  subst hsz
  have hD := hD0.self (sz := s.heap.size)
  generalize hAe : va_A (wTB cB t0 t1 tn tv tk) s.heap.size = A at hD ⊢
  have hA : ∀ q : Nat, s.heap.size ≤ q → A q := fun q h => by rw [← hAe]; exact Or.inr h
  have hS : va_S A s.heap s.heap [] := va_S.rf
  clear hAe
  have hw0 := hts (.fieldLink RJ5 79 "java/lang/AbstractStringBuilder" "count" "I") (List.mem_cons_of_mem _ kw_703)
  have hiJ4 : ∀ w ∈ u_ws RJ4 TJ4 4, w ∈ wsJ5_length_8abf5 := fun w h => List.mem_cons_of_mem _ (ku_J4 w h)
  have hl := lv_entry ([.ref t0]) (n := 1) (Nat.le_of_ble_eq_true rfl)
  rw [lg_entry_eq]
  generalize (lg_sl ([.ref t0]) ++ List.replicate (1 - (lg_sl ([.ref t0])).length) Slot.unset).toArray = ls at hl ⊢
  have hl : lv_has ls 1 (kvA 0 t0 kvE) := hl
  have h := f_J5_length_8abf5_e.symm.trans hf
  refine lv_aload_n hx hb (kdr dgJ5_length_8abf5_0 0 0 rfl rfl) rfl (lv_at hl 0 rfl) ?_
  refine va_get (D := (dC, dI)) (ci := 1) (v := .int tk) (C := RJ4) (T := TJ4) (N := 4) hx hb hts hiJ4 hown hK hP 0 rfl rfl 3 (by decide) hw0 (fun _ h9 => h9) rfl (kdr dgJ5_length_8abf5_0 0 1 rfl rfl) ?_
  have h := Option.some.inj h
  subst h
  exact kret_i (v := tk) hx hb hr rfl hlocks hS hP (kdr dgJ5_length_8abf5_0 0 2 rfl rfl)
noncomputable abbrev wsJ4_length_8abf5 : List Cond := kWs yJ4_length_8abf5 cJ4_length_8abf5 1 (some .int)
noncomputable def f_J4_length_8abf5 (tk : Int32) : Option (Int32) :=
  (f_J5_length_8abf5 tk).bind fun r1 =>
  some r1
theorem f_J4_length_8abf5_e {tk : Int32} : f_J4_length_8abf5 tk = 
  (f_J5_length_8abf5 tk).bind fun r1 =>
  some r1 := rfl
set_option maxHeartbeats 4000000 in
set_option maxRecDepth 100000 in
theorem c_J4_length_8abf5 (l : Launch) (dC : Nat → ClassId) (dI : Nat → Nat → Nat) (cB cI cJ cZ : ClassId) (t0 : Nat) (t1 : Nat) (sz : Nat) (tn : Nat) (tv : Nat → Int32) (tk : Int32) (res : Int32) (hf : f_J4_length_8abf5 tk = some res) : kMi l yJ4_length_8abf5 wsJ4_length_8abf5 (kRm 1 0 0 20) dC dI cB cI cJ cZ [.ref t0] sz (wTB cB t0 t1 tn tv tk) .int (res) (wTB cB t0 t1 tn tv tk) 0 0 := by
  refine kofW (y := yJ4_length_8abf5) (cc := cJ4_length_8abf5) (maxL := 1) (ret := (some .int)) (plainFor_of_name (x := yJ4_length_8abf5) kpl_J4) rfl ?_
  intro p e s m args below meth c s₁ B hml hv
  obtain ⟨rfl, hsz, hP, hK, hD0, hG⟩ := hv
  have hx := B.exec
  have hb := B.bytes
  have hr := B.returns
  have hts := atoms_spec (ws := wsJ4_length_8abf5) B.pre
  have hown : s.vm.findClass RJ4 = some m.cls := findClass_of_methodNamed B.named
  have hlocks := B.notSynchronized
  subst hsz
  have hD := hD0.self (sz := s.heap.size)
  generalize hAe : va_A (wTB cB t0 t1 tn tv tk) s.heap.size = A at hD ⊢
  have hA : ∀ q : Nat, s.heap.size ≤ q → A q := fun q h => by rw [← hAe]; exact Or.inr h
  have hS : va_S A s.heap s.heap [] := va_S.rf
  clear hAe
  have hl := lv_entry ([.ref t0]) (n := 1) (Nat.le_of_ble_eq_true rfl)
  rw [lg_entry_eq]
  generalize (lg_sl ([.ref t0]) ++ List.replicate (1 - (lg_sl ([.ref t0])).length) Slot.unset).toArray = ls at hl ⊢
  have hl : lv_has ls 1 (kvA 0 t0 kvE) := hl
  have h := f_J4_length_8abf5_e.symm.trans hf
  refine lv_aload_n hx hb (kdr dgJ4_length_8abf5_0 0 0 rfl rfl) rfl (lv_at hl 0 rfl) ?_
  obtain ⟨r1, g1, h⟩ := g_b h
  refine kq_i (wTB cB t0 t1 tn tv tk) (fun qP qD qF => va_runSU (hK.1 1 _ rfl).2 (As := []) (rest := []) ⟨hx, hb, hml, hown, hts⟩ (c_J5_length_8abf5 l dC dI cB cI cJ cZ t0 t1 _ tn tv tk  r1 g1) (kcwSU hts kw_864 kv_J5_length_8abf5 rfl rfl ⟨(Nat.le_of_ble_eq_true rfl), (Nat.le_of_ble_eq_true rfl)⟩) (kpV (A := A) qP hK qD hG (krecv_1 (q0 := 0) hK hP rfl)) rfl rfl hl.1 rfl (lv_room (Nat.le_of_ble_eq_true rfl)) (kdr dgJ4_length_8abf5_0 0 1 rfl rfl) ⟨(Nat.le_of_ble_eq_true rfl), (Nat.le_of_ble_eq_true rfl)⟩) hP hD hS hA (kFr_a rfl) (fun H locs hP hD hS br1 => ?_)
  have h := Option.some.inj h
  subst h
  exact kret_i (v := r1) hx hb hr rfl hlocks hS hP (kdr dgJ4_length_8abf5_0 0 2 rfl rfl)
noncomputable abbrev wsJ7_checkLength_df160 : List Cond := kWs yJ7_checkLength_df160 cJ7_checkLength_df160 2 none
noncomputable def f_J7_checkLength_df160 (p0 : Int32) (p1 : Int32) : Option (Unit) :=
  if p0 ≤ p1 then
    some ()
  else
    none
theorem f_J7_checkLength_df160_e {p0 : Int32} {p1 : Int32} : f_J7_checkLength_df160 p0 p1 = 
  if p0 ≤ p1 then
    some ()
  else
    none := rfl
set_option maxHeartbeats 4000000 in
set_option maxRecDepth 100000 in
theorem c_J7_checkLength_df160 (l : Launch) (dC : Nat → ClassId) (dI : Nat → Nat → Nat) (cB cI cJ cZ : ClassId) (sz : Nat) (p0 : Int32) (p1 : Int32) (res : Unit) (hf : f_J7_checkLength_df160 p0 p1 = some res) : kMv l yJ7_checkLength_df160 wsJ7_checkLength_df160 (kRm 0 0 0 0) dC dI cB cI cJ cZ [.int p0, .int p1] sz [] [] 0 0 := by
  refine kofW (y := yJ7_checkLength_df160) (cc := cJ7_checkLength_df160) (maxL := 2) (ret := none) (plainFor_of_name (x := yJ7_checkLength_df160) kpl_J7) rfl ?_
  intro p e s m args below meth c s₁ B hml hv
  obtain ⟨rfl, hsz, hP, hK, hD0, hG⟩ := hv
  have hx := B.exec
  have hb := B.bytes
  have hr := B.returns
  have hts := atoms_spec (ws := wsJ7_checkLength_df160) B.pre
  have hown : s.vm.findClass RJ7 = some m.cls := findClass_of_methodNamed B.named
  have hlocks := B.notSynchronized
  subst hsz
  have hD := hD0.self (sz := s.heap.size)
  generalize hAe : va_A [] s.heap.size = A at hD ⊢
  have hA : ∀ q : Nat, s.heap.size ≤ q → A q := fun q h => by rw [← hAe]; exact Or.inr h
  have hS : va_S A s.heap s.heap [] := va_S.rf
  clear hAe
  have hl := lv_entry ([.int p0, .int p1]) (n := 2) (Nat.le_of_ble_eq_true rfl)
  rw [lg_entry_eq]
  generalize (lg_sl ([.int p0, .int p1]) ++ List.replicate (2 - (lg_sl ([.int p0, .int p1])).length) Slot.unset).toArray = ls at hl ⊢
  have hl : lv_has ls 2 (kvI 0 p0 (kvI 1 p1 kvE)) := hl
  have h := f_J7_checkLength_df160_e.symm.trans hf
  refine lv_iload_n hx hb (kdr dgJ7_checkLength_df160_0 0 0 rfl rfl) rfl (lv_at hl 1 rfl) ?_
  refine lv_iload_n hx hb (kdr dgJ7_checkLength_df160_0 0 1 rfl rfl) rfl (lv_at hl 0 rfl) ?_
  refine lv_icmp_ge (tgt := 37) hx hb (kdr dgJ7_checkLength_df160_0 0 2 rfl rfl) (by decide) (fun c1 => ?_) (fun c1 => ?_)
  · have h := g_t c1 h
    have h := Option.some.inj h
    subst h
    exact kret_v hx hb hr hlocks hS hP (kdr dgJ7_checkLength_df160_0 1 7 rfl rfl)
  · have h := g_f c1 h
    cases h
noncomputable abbrev wsJ7_copyOfRangeByte_39247 : List Cond := kWs yJ7_copyOfRangeByte_39247 cJ7_copyOfRangeByte_39247 5 (some (.array .byte))
noncomputable def f_J7_copyOfRangeByte_39247 (n0 : Nat) (v0 : Nat → Int32) (p1 : Int32) (p2 : Int32) : Option (Nat → Int32) :=
  (f_J7_checkLength_df160 p1 p2).bind fun r1 =>
  if ix (p2 - p1) 65 then
    if kcp v0 p1 (0 : Int32) (if (p2 - p1) < ((Int32.ofNat n0) - p1) then p2 - p1 else (Int32.ofNat n0) - p1) n0 ((p2 - p1).toNatClampNeg) then
      some (va_cpy v0 (fun _ => 0) p1.toNatClampNeg (0 : Int32).toNatClampNeg (if (p2 - p1) < ((Int32.ofNat n0) - p1) then p2 - p1 else (Int32.ofNat n0) - p1).toNatClampNeg)
    else none
  else none
theorem f_J7_copyOfRangeByte_39247_e {n0 : Nat} {v0 : Nat → Int32} {p1 : Int32} {p2 : Int32} : f_J7_copyOfRangeByte_39247 n0 v0 p1 p2 = 
  (f_J7_checkLength_df160 p1 p2).bind fun r1 =>
  if ix (p2 - p1) 65 then
    if kcp v0 p1 (0 : Int32) (if (p2 - p1) < ((Int32.ofNat n0) - p1) then p2 - p1 else (Int32.ofNat n0) - p1) n0 ((p2 - p1).toNatClampNeg) then
      some (va_cpy v0 (fun _ => 0) p1.toNatClampNeg (0 : Int32).toNatClampNeg (if (p2 - p1) < ((Int32.ofNat n0) - p1) then p2 - p1 else (Int32.ofNat n0) - p1).toNatClampNeg)
    else none
  else none := rfl
set_option maxHeartbeats 4000000 in
set_option maxRecDepth 100000 in
theorem c_J7_copyOfRangeByte_39247 (l : Launch) (dC : Nat → ClassId) (dI : Nat → Nat → Nat) (cB cI cJ cZ : ClassId) (q0 : Nat) (n0 : Nat) (sz : Nat) (v0 : Nat → Int32) (p1 : Int32) (p2 : Int32) (res : Nat → Int32) (hf : f_J7_copyOfRangeByte_39247 n0 v0 p1 p2 = some res) : Met l yJ7_copyOfRangeByte_39247 wsJ7_copyOfRangeByte_39247 (kRm 1 1 64 60) (kPre (dC, dI) (kTy cB cI cJ cZ) [.ref q0, .int p1, .int p2] sz [(q0, .inl (cB, n0, .inl v0))]) (kR (dC, dI) (.inl (cB, (p2 - p1).toNatClampNeg, .inl (res))) [(q0, .inl (cB, n0, .inl v0))] (va_A [(q0, .inl (cB, n0, .inl v0))] sz)) 1 64 (va_A [(q0, .inl (cB, n0, .inl v0))] sz) := by
  refine kofW (y := yJ7_copyOfRangeByte_39247) (cc := cJ7_copyOfRangeByte_39247) (maxL := 5) (ret := (some (.array .byte))) (plainFor_of_name (x := yJ7_copyOfRangeByte_39247) kpl_J7) rfl ?_
  intro p e s m args below meth c s₁ B hml hv
  obtain ⟨rfl, hsz, hP, hK, hD0, hG⟩ := hv
  have hx := B.exec
  have hb := B.bytes
  have hr := B.returns
  have hts := atoms_spec (ws := wsJ7_copyOfRangeByte_39247) B.pre
  have hown : s.vm.findClass RJ7 = some m.cls := findClass_of_methodNamed B.named
  have hlocks := B.notSynchronized
  subst hsz
  have hD := hD0.self (sz := s.heap.size)
  generalize hAe : va_A [(q0, .inl (cB, n0, .inl v0))] s.heap.size = A at hD ⊢
  have hA : ∀ q : Nat, s.heap.size ≤ q → A q := fun q h => by rw [← hAe]; exact Or.inr h
  have hS : va_S A s.heap s.heap [] := va_S.rf
  clear hAe
  have hw0 := hts (.arrayClass .byte) (List.mem_cons_of_mem _ kw_426)
  have hw1 := hts (.methodLink RJ7 304 Lib.Math.min.name) (List.mem_cons_of_mem _ kw_750)
  have hw2 := hts (.static Lib.Math.min.name) (List.mem_cons_of_mem _ kw_751)
  have hw3 := hts (.initialized "java/lang/Math") (List.mem_cons_of_mem _ kw_66)
  have hw4 := hts (.code Lib.Math.min.name Lib.Math.min.code 2 (some .int)) (List.mem_cons_of_mem _ kw_752)
  have hw5 := hts (.methodLink RJ7 150 arraycopyName) (List.mem_cons_of_mem _ kw_753)
  have hw6 := hts (.native arraycopyName) (List.mem_cons_of_mem _ kw_755)
  have hw7 := hts (.static arraycopyName) (List.mem_cons_of_mem _ kw_754)
  have hw8 := hts (.initialized "java/lang/System") (List.mem_cons_of_mem _ kw_74)
  have hl := lv_entry ([.ref q0, .int p1, .int p2]) (n := 5) (Nat.le_of_ble_eq_true rfl)
  rw [lg_entry_eq]
  generalize (lg_sl ([.ref q0, .int p1, .int p2]) ++ List.replicate (5 - (lg_sl ([.ref q0, .int p1, .int p2])).length) Slot.unset).toArray = ls at hl ⊢
  have hl : lv_has ls 5 (kvA 0 q0 (kvI 1 p1 (kvI 2 p2 kvE))) := hl
  have h := f_J7_copyOfRangeByte_39247_e.symm.trans hf
  refine lv_iload_n hx hb (kdr dgJ7_copyOfRangeByte_39247_0 0 0 rfl rfl) rfl (lv_at hl 1 rfl) ?_
  refine lv_iload_n hx hb (kdr dgJ7_copyOfRangeByte_39247_0 0 1 rfl rfl) rfl (lv_at hl 2 rfl) ?_
  obtain ⟨r1, g1, h⟩ := g_b h
  refine kq_v [(q0, .inl (cB, n0, .inl v0))] (fun qP qD qF => va_runS (As := [.int p1, .int p2]) (rest := []) ⟨hx, hb, hml, hown, hts⟩ (c_J7_checkLength_df160 l dC dI cB cI cJ cZ  _  p1 p2 r1 g1) (kcwS hts kw_873 kv_J7_checkLength_df160 rfl rfl ⟨(Nat.le_of_ble_eq_true rfl), (Nat.le_of_ble_eq_true rfl)⟩) (kpS (A := A) (kPnil) hK ((kDnil (A := A))) hG) rfl rfl hl.1 rfl (lv_room (Nat.le_of_ble_eq_true rfl)) (kdr dgJ7_copyOfRangeByte_39247_0 0 2 rfl rfl) ⟨(Nat.le_of_ble_eq_true rfl), (Nat.le_of_ble_eq_true rfl)⟩) hP hD hS hA kFr_n (fun H locs hP hD hS => ?_)
  refine lv_iload_n hx hb (kdr dgJ7_copyOfRangeByte_39247_0 0 3 rfl rfl) rfl (lv_at hl 2 rfl) ?_
  refine lv_iload_n hx hb (kdr dgJ7_copyOfRangeByte_39247_0 0 4 rfl rfl) rfl (lv_at hl 1 rfl) ?_
  refine lv_isub hx hb (kdr dgJ7_copyOfRangeByte_39247_0 0 5 rfl rfl) ?_
  refine lv_istore_n (lv' := (kvI 3 (p2 - p1) (kvA 0 q0 (kvI 1 p1 (kvI 2 p2 kvE))))) hx hb (kdr dgJ7_copyOfRangeByte_39247_0 0 6 rfl rfl) rfl hl (by decide) rfl (fun ls hl => ?_)
  refine lv_iload_n hx hb (kdr dgJ7_copyOfRangeByte_39247_0 0 7 rfl rfl) rfl (lv_at hl 0 rfl) ?_
  obtain ⟨z1, h⟩ := g_if h
  refine va_newa (atype := .byte) (ty := .byte) (a0 := ((p2 - p1).toNatClampNeg, .inl (fun _ => 0))) hx hb hw0 rfl hK hP hD hS hA (fun _ => rfl) (kn_pos z1) rfl (kn_by z1 (by decide)) (Nat.le_of_ble_eq_true rfl) (kn_slg z1 (Nat.le_of_ble_eq_true rfl)) dJ7_copyOfRangeByte_39247_10 (fun qn0 cA H hK9 hP hD hS => ?_)
  have e9 : cA = cB := k_cA hK9 0 rfl
  rw [e9] at hP hD
  have hP : va_P (dC, dI) vwCl ([(q0, .inl (cB, n0, .inl v0))] ++ [(qn0, .inl (cB, (p2 - p1).toNatClampNeg, .inl (fun _ => 0)))]) H := hP
  have hD : va_D A ([(q0, .inl (cB, n0, .inl v0))] ++ [(qn0, .inl (cB, (p2 - p1).toNatClampNeg, .inl (fun _ => 0)))]) := hD
  refine W.widen (k := 1) (n := 64) (Nat.le_of_ble_eq_true rfl) (kn_slg z1 (Nat.le_of_ble_eq_true rfl)) ?_
  refine lv_astore (lv' := (kvA 4 qn0 (kvI 3 (p2 - p1) (kvA 0 q0 (kvI 1 p1 (kvI 2 p2 kvE)))))) hx hb (kdr dgJ7_copyOfRangeByte_39247_12 0 0 rfl rfl) hl (by decide) rfl (fun ls hl => ?_)
  refine lv_aload_n hx hb (kdr dgJ7_copyOfRangeByte_39247_12 0 1 rfl rfl) rfl (lv_at hl 2 rfl) ?_
  refine lv_iload_n hx hb (kdr dgJ7_copyOfRangeByte_39247_12 0 2 rfl rfl) rfl (lv_at hl 3 rfl) ?_
  refine lv_aload hx hb (kdr dgJ7_copyOfRangeByte_39247_12 0 3 rfl rfl) (lv_at hl 0 rfl) ?_
  refine lv_iconst (v := 0) hx hb (kdr dgJ7_copyOfRangeByte_39247_12 0 4 rfl rfl) (by decide) ?_
  refine lv_aload_n hx hb (kdr dgJ7_copyOfRangeByte_39247_12 0 5 rfl rfl) rfl (lv_at hl 2 rfl) ?_
  refine va_alen (v := Int32.ofNat n0) hx hb hK hP 0 0 rfl rfl rfl (kdr dgJ7_copyOfRangeByte_39247_12 0 6 rfl rfl) ?_
  refine lv_iload_n hx hb (kdr dgJ7_copyOfRangeByte_39247_12 0 7 rfl rfl) rfl (lv_at hl 3 rfl) ?_
  refine lv_isub hx hb (kdr dgJ7_copyOfRangeByte_39247_12 0 8 rfl rfl) ?_
  refine lv_iload_n hx hb (kdr dgJ7_copyOfRangeByte_39247_12 0 9 rfl rfl) rfl (lv_at hl 1 rfl) ?_
  refine va_mmin hx hb (hml.trans hl.1.symm) hown hw1 hw2 hw3 hw4 (Nat.le_of_ble_eq_true rfl) (Nat.le_of_ble_eq_true rfl) (Nat.le_of_ble_eq_true rfl) (Nat.le_of_ble_eq_true rfl) (kdr dgJ7_copyOfRangeByte_39247_12 1 0 rfl rfl) ?_
  obtain ⟨z2, h⟩ := g_if h
  refine va_copyi (ty := .byte) hx hb (hml.trans hl.1.symm) hown hw5 hw6 hw7 hw8 hK hP hD hS 0 1 0 0 rfl rfl rfl rfl rfl z2.1 z2.2.1 z2.2.2.1 z2.2.2.2.1 z2.2.2.2.2.1 (kfit_at z2.2.2.2.2.2) (Nat.le_of_ble_eq_true rfl) (Nat.le_of_ble_eq_true rfl) (kdr dgJ7_copyOfRangeByte_39247_12 1 1 rfl rfl) (fun H locs hP hD hS => ?_)
  have hP : va_P (dC, dI) vwCl ([(q0, .inl (cB, n0, .inl v0))] ++ [(qn0, .inl (cB, (p2 - p1).toNatClampNeg, .inl (va_cpy v0 (fun _ => 0) p1.toNatClampNeg (0 : Int32).toNatClampNeg (if (p2 - p1) < ((Int32.ofNat n0) - p1) then p2 - p1 else (Int32.ofNat n0) - p1).toNatClampNeg)))]) H := hP
  have hD : va_D A ([(q0, .inl (cB, n0, .inl v0))] ++ [(qn0, .inl (cB, (p2 - p1).toNatClampNeg, .inl (va_cpy v0 (fun _ => 0) p1.toNatClampNeg (0 : Int32).toNatClampNeg (if (p2 - p1) < ((Int32.ofNat n0) - p1) then p2 - p1 else (Int32.ofNat n0) - p1).toNatClampNeg)))]) := hD
  refine lv_aload hx hb (kdr dgJ7_copyOfRangeByte_39247_12 1 2 rfl rfl) (lv_at hl 0 rfl) ?_
  have h := Option.some.inj h
  subst h
  refine W.widen (k := 1) (n := 64) (Nat.le_of_ble_eq_true rfl) (Nat.le_of_ble_eq_true rfl) ?_
  exact kret_r (q := qn0) hx hb hr (Or.inr ⟨_, rfl⟩) hlocks hS hP hD (kdr dgJ7_copyOfRangeByte_39247_12 1 3 rfl rfl)
noncomputable abbrev wsJ7_copyOfRange_39247 : List Cond := kWs yJ7_copyOfRange_39247 cJ7_copyOfRange_39247 3 (some (.array .byte))
noncomputable def f_J7_copyOfRange_39247_10 (n0 : Nat) (v0 : Nat → Int32) (x1 : Int32) (x2 : Int32) : Option (Unit) :=
  (f_J7_copyOfRangeByte_39247 n0 v0 x1 x2).bind fun r1 =>
  some ()
theorem f_J7_copyOfRange_39247_10_e {n0 : Nat} {v0 : Nat → Int32} {x1 : Int32} {x2 : Int32} : f_J7_copyOfRange_39247_10 n0 v0 x1 x2 =
  (f_J7_copyOfRangeByte_39247 n0 v0 x1 x2).bind fun r1 =>
  some () := rfl
noncomputable def f_J7_copyOfRange_39247 (n0 : Nat) (v0 : Nat → Int32) (p1 : Int32) (p2 : Int32) : Option (Unit) :=
  if p1 = 0 then
    if p2 = (Int32.ofNat n0) then
      if kfit v0 0 n0 ∧ n0 ≤ 64 then
        some ()
      else none
    else
      f_J7_copyOfRange_39247_10 n0 v0 p1 p2
  else
    f_J7_copyOfRange_39247_10 n0 v0 p1 p2
theorem f_J7_copyOfRange_39247_e {n0 : Nat} {v0 : Nat → Int32} {p1 : Int32} {p2 : Int32} : f_J7_copyOfRange_39247 n0 v0 p1 p2 = 
  if p1 = 0 then
    if p2 = (Int32.ofNat n0) then
      if kfit v0 0 n0 ∧ n0 ≤ 64 then
        some ()
      else none
    else
      f_J7_copyOfRange_39247_10 n0 v0 p1 p2
  else
    f_J7_copyOfRange_39247_10 n0 v0 p1 p2 := rfl
set_option maxHeartbeats 4000000 in
set_option maxRecDepth 100000 in
theorem c_J7_copyOfRange_39247 (l : Launch) (dC : Nat → ClassId) (dI : Nat → Nat → Nat) (cB cI cJ cZ : ClassId) (q0 : Nat) (n0 : Nat) (sz : Nat) (v0 : Nat → Int32) (p1 : Int32) (p2 : Int32) (res : Unit) (hf : f_J7_copyOfRange_39247 n0 v0 p1 p2 = some res) : Met l yJ7_copyOfRange_39247 wsJ7_copyOfRange_39247 (kRm 2 1 64 84) (kPre (dC, dI) (kTy cB cI cJ cZ) [.ref q0, .int p1, .int p2] sz [(q0, .inl (cB, n0, .inl v0))]) (kNq (dC, dI) [(q0, .inl (cB, n0, .inl v0))] (va_A [(q0, .inl (cB, n0, .inl v0))] sz)) 1 64 (va_A [(q0, .inl (cB, n0, .inl v0))] sz) := by
  refine kofW (y := yJ7_copyOfRange_39247) (cc := cJ7_copyOfRange_39247) (maxL := 3) (ret := (some (.array .byte))) (plainFor_of_name (x := yJ7_copyOfRange_39247) kpl_J7) rfl ?_
  intro p e s m args below meth c s₁ B hml hv
  obtain ⟨rfl, hsz, hP, hK, hD0, hG⟩ := hv
  have hx := B.exec
  have hb := B.bytes
  have hr := B.returns
  have hts := atoms_spec (ws := wsJ7_copyOfRange_39247) B.pre
  have hown : s.vm.findClass RJ7 = some m.cls := findClass_of_methodNamed B.named
  have hlocks := B.notSynchronized
  subst hsz
  have hD := hD0.self (sz := s.heap.size)
  generalize hAe : va_A [(q0, .inl (cB, n0, .inl v0))] s.heap.size = A at hD ⊢
  have hA : ∀ q : Nat, s.heap.size ≤ q → A q := fun q h => by rw [← hAe]; exact Or.inr h
  have hS : va_S A s.heap s.heap [] := va_S.rf
  clear hAe
  have hw0 := hts (.methodLink RJ7 310 kBclone) (List.mem_cons_of_mem _ kw_743)
  have hw1 := hts (.sameMethod "[B" "java/lang/Object" "clone" "()Ljava/lang/Object;") (List.mem_cons_of_mem _ kw_744)
  have hw2 := hts (.native kOclone) (List.mem_cons_of_mem _ kw_745)
  have hw3 := hts (.instanceMethod kOclone) (List.mem_cons_of_mem _ kw_746)
  have hw4 := hts (.selects "[B" kBclone kOclone) (List.mem_cons_of_mem _ kw_747)
  have hw5 := hts (.classLink RJ7 311 "[B") (List.mem_cons_of_mem _ kw_749)
  have J10 : ∀ (v0 : Nat → Int32) (x1 : Int32) (x2 : Int32) (H : Heap) (locs : List Loc), va_P (dC, dI) vwCl [(q0, .inl (cB, n0, .inl v0))] H → va_D A [(q0, .inl (cB, n0, .inl v0))] → va_S A s.heap H locs → ∀ (ls : Array Slot), lv_has ls 3 (kvA 0 q0 (kvI 1 x1 (kvI 2 x2 kvE))) → f_J7_copyOfRange_39247_10 n0 v0 x1 x2 = some res → W p l e (headSpec wsJ7_copyOfRange_39247 (kRm 2 1 64 84)).room s m ([.ref q0, .int p1, .int p2] : List Value).toArray below meth c H locs 0 0 (MQ below (kNq (dC, dI) [(q0, .inl (cB, n0, .inl v0))] A) ([.ref q0, .int p1, .int p2] : List Value).toArray s 1 64 A) (F0 m 10 ls []) := by
    intro v0 x1 x2 H locs hP hD hS ls hl h
    have h := f_J7_copyOfRange_39247_10_e.symm.trans h
    refine lv_aload_n hx hb (kdr dgJ7_copyOfRange_39247_0 0 6 rfl rfl) rfl (lv_at hl 0 rfl) ?_
    refine lv_iload_n hx hb (kdr dgJ7_copyOfRange_39247_0 0 7 rfl rfl) rfl (lv_at hl 1 rfl) ?_
    refine lv_iload_n hx hb (kdr dgJ7_copyOfRange_39247_0 0 8 rfl rfl) rfl (lv_at hl 2 rfl) ?_
    obtain ⟨r1, g1, h⟩ := g_b h
    refine kcall_r [(q0, .inl (cB, n0, .inl v0))] (va_runS (As := [.ref q0, .int x1, .int x2]) (rest := []) ⟨hx, hb, hml, hown, hts⟩ (c_J7_copyOfRangeByte_39247 l dC dI cB cI cJ cZ q0 n0 _ v0 x1 x2 r1 g1) (kcwS hts kw_870 kv_J7_copyOfRangeByte_39247 rfl rfl ⟨(Nat.le_of_ble_eq_true rfl), (Nat.le_of_ble_eq_true rfl)⟩) (kpS (A := A) (hP.sub [0] rfl) hK (hD.sub [0] (by decide) rfl) hG) rfl rfl hl.1 rfl (lv_room (Nat.le_of_ble_eq_true rfl)) (kdr dgJ7_copyOfRange_39247_0 0 9 rfl rfl) ⟨(Nat.le_of_ble_eq_true rfl), (Nat.le_of_ble_eq_true rfl)⟩) hP hD hS hA [0] [] rfl rfl [] rfl rfl rfl (by decide) rfl rfl (fun qn0 H locs hP hD hS => ?_)
    have hP : va_P (dC, dI) vwCl ([(q0, .inl (cB, n0, .inl v0))] ++ [(qn0, .inl (cB, (x2 - x1).toNatClampNeg, .inl r1))]) H := hP
    have hD : va_D A ([(q0, .inl (cB, n0, .inl v0))] ++ [(qn0, .inl (cB, (x2 - x1).toNatClampNeg, .inl r1))]) := hD
    have hP := hP.sub (ws' := [(q0, .inl (cB, n0, .inl v0))]) [0] rfl
    have h := Option.some.inj h
    subst h
    refine W.widen (k := 1) (n := 64) (Nat.le_of_ble_eq_true rfl) (Nat.le_of_ble_eq_true rfl) ?_
    exact kret_n hx hb hr (Or.inr ⟨_, rfl⟩) hlocks hS hP (kdr dgJ7_copyOfRange_39247_0 1 0 rfl rfl)
  have hl := lv_entry ([.ref q0, .int p1, .int p2]) (n := 3) (Nat.le_of_ble_eq_true rfl)
  rw [lg_entry_eq]
  generalize (lg_sl ([.ref q0, .int p1, .int p2]) ++ List.replicate (3 - (lg_sl ([.ref q0, .int p1, .int p2])).length) Slot.unset).toArray = ls at hl ⊢
  have hl : lv_has ls 3 (kvA 0 q0 (kvI 1 p1 (kvI 2 p2 kvE))) := hl
  have h := f_J7_copyOfRange_39247_e.symm.trans hf
  refine lv_iload_n hx hb (kdr dgJ7_copyOfRange_39247_0 0 0 rfl rfl) rfl (lv_at hl 1 rfl) ?_
  refine lv_if_ne (tgt := 10) hx hb (kdr dgJ7_copyOfRange_39247_0 0 1 rfl rfl) (by decide) (fun c1 => ?_) (fun c1 => ?_)
  · have h := g_f c1 h
    exact J10 v0 p1 p2 _ _ hP hD hS ls (lv_sub hl [0, 1, 2] rfl) h
  · have h := g_t c1 h
    refine lv_iload_n hx hb (kdr dgJ7_copyOfRange_39247_0 0 2 rfl rfl) rfl (lv_at hl 2 rfl) ?_
    refine lv_aload_n hx hb (kdr dgJ7_copyOfRange_39247_0 0 3 rfl rfl) rfl (lv_at hl 0 rfl) ?_
    refine va_alen (v := Int32.ofNat n0) hx hb hK hP 0 0 rfl rfl rfl (kdr dgJ7_copyOfRange_39247_0 0 4 rfl rfl) ?_
    refine lv_icmp_eq (tgt := 17) hx hb (kdr dgJ7_copyOfRange_39247_0 0 5 rfl rfl) (by decide) (fun c2 => ?_) (fun c2 => ?_)
    · have h := g_t c2 h
      refine lv_aload_n hx hb (kdr dgJ7_copyOfRange_39247_0 1 1 rfl rfl) rfl (lv_at hl 0 rfl) ?_
      obtain ⟨z2, h⟩ := g_if h
      refine va_clone (ad := "[B") hx hb (hml.trans hl.1.symm) hown hw0 hw1 hw2 hw3 hw4 (hG.at 9 rfl) hK hP hD hS hA 0 0 rfl rfl (hK.2 0 (cB, .byte) rfl).2 (kfit_cell z2.1) (Nat.le_of_ble_eq_true rfl) (Nat.le_of_ble_eq_true rfl) (Nat.le_of_ble_eq_true rfl) (Nat.le_trans (Nat.add_le_add_left z2.2 _) (Nat.le_of_ble_eq_true rfl)) (kdr dgJ7_copyOfRange_39247_0 1 2 rfl rfl) (fun qn0 H hK9 hP hD hS => ?_)
      have hP : va_P (dC, dI) vwCl ([(q0, .inl (cB, n0, .inl v0))] ++ [(qn0, .inl (cB, n0, .inl v0))]) H := hP
      have hD : va_D A ([(q0, .inl (cB, n0, .inl v0))] ++ [(qn0, .inl (cB, n0, .inl v0))]) := hD
      refine W.widen (k := 1) (n := 64) (Nat.le_of_ble_eq_true rfl) (Nat.le_trans (Nat.add_le_add_left z2.2 _) (Nat.le_of_ble_eq_true rfl)) ?_
      refine va_castA hx hb hown hw5 hP 1 rfl (hK.2 0 (cB, .byte) rfl).2 (kdr dgJ7_copyOfRange_39247_0 1 3 rfl rfl) ?_
      have hP := hP.sub (ws' := [(q0, .inl (cB, n0, .inl v0))]) [0] rfl
      have h := Option.some.inj h
      subst h
      refine W.widen (k := 1) (n := 64) (Nat.le_of_ble_eq_true rfl) (Nat.le_of_ble_eq_true rfl) ?_
      exact kret_n hx hb hr (Or.inr ⟨_, rfl⟩) hlocks hS hP (kdr dgJ7_copyOfRange_39247_0 1 4 rfl rfl)
    · have h := g_f c2 h
      exact J10 v0 p1 p2 _ _ hP hD hS ls (lv_sub hl [0, 1, 2] rfl) h
noncomputable abbrev wsJ0_init_db425 : List Cond := kWs yJ0_init_db425 cJ0_init_db425 5 none
noncomputable def f_J0_init_db425_79 (tn : Nat) (tv : Nat → Int32) (x4 : Int32) : Option (Unit) :=
  (f_J7_copyOfRange_39247 tn tv 0 (x4 <<< ((1 : Int32) &&& 31))).bind fun r1 =>
  some ()
theorem f_J0_init_db425_79_e {tn : Nat} {tv : Nat → Int32} {x4 : Int32} : f_J0_init_db425_79 tn tv x4 =
  (f_J7_copyOfRange_39247 tn tv 0 (x4 <<< ((1 : Int32) &&& 31))).bind fun r1 =>
  some () := rfl
noncomputable def f_J0_init_db425 (tn : Nat) (tv : Nat → Int32) (tk : Int32) : Option (Unit) :=
  (f_J5_getValue_6d5f1).bind fun r1 =>
  (f_J4_length_8abf5 tk).bind fun r2 =>
  (f_J5_isLatin1_aae02).bind fun r3 =>
  if r3 = 0 then
    f_J0_init_db425_79 tn tv r2
  else
    (f_J7_copyOfRange_39247 tn tv 0 r2).bind fun r5 =>
    some ()
theorem f_J0_init_db425_e {tn : Nat} {tv : Nat → Int32} {tk : Int32} : f_J0_init_db425 tn tv tk = 
  (f_J5_getValue_6d5f1).bind fun r1 =>
  (f_J4_length_8abf5 tk).bind fun r2 =>
  (f_J5_isLatin1_aae02).bind fun r3 =>
  if r3 = 0 then
    f_J0_init_db425_79 tn tv r2
  else
    (f_J7_copyOfRange_39247 tn tv 0 r2).bind fun r5 =>
    some () := rfl
set_option maxHeartbeats 4000000 in
set_option maxRecDepth 100000 in
theorem c_J0_init_db425 (l : Launch) (dC : Nat → ClassId) (dI : Nat → Nat → Nat) (cB cI cJ cZ : ClassId) (h0 : Nat) (t0 : Nat) (t1 : Nat) (sz : Nat) (tn : Nat) (tv : Nat → Int32) (tk : Int32) (res : Unit) (hf : f_J0_init_db425 tn tv tk = some res) : Met l yJ0_init_db425 wsJ0_init_db425 (kRm 3 1 64 106) (kPreX (dC, dI) (kTy cB cI cJ cZ) [.ref h0, .ref t0, .null] sz ([(h0, .inr (0, [.null, .int 0, .int 0, .int 0]))] ++ (wTB cB t0 t1 tn tv tk))) (kVu (dC, dI) (fun u => (wTB cB t0 t1 tn tv tk)) (va_A ([(h0, .inr (0, [.null, .int 0, .int 0, .int 0]))] ++ (wTB cB t0 t1 tn tv tk)) sz)) 1 64 (va_A ([(h0, .inr (0, [.null, .int 0, .int 0, .int 0]))] ++ (wTB cB t0 t1 tn tv tk)) sz) := by
  refine kofW (y := yJ0_init_db425) (cc := cJ0_init_db425) (maxL := 5) (ret := none) (plainFor_of_name (x := yJ0_init_db425) kpl_J0) rfl ?_
  intro p e s m args below meth c s₁ B hml hv
  obtain ⟨rfl, hsz, hP, hK, hD0, hG, hZ⟩ := hv
  have hx := B.exec
  have hb := B.bytes
  have hr := B.returns
  have hts := atoms_spec (ws := wsJ0_init_db425) B.pre
  have hown : s.vm.findClass RJ0 = some m.cls := findClass_of_methodNamed B.named
  have hlocks := B.notSynchronized
  subst hsz
  have hD := hD0.self (sz := s.heap.size)
  generalize hAe : va_A ([(h0, .inr (0, [.null, .int 0, .int 0, .int 0]))] ++ (wTB cB t0 t1 tn tv tk)) s.heap.size = A at hD hZ ⊢
  have hA : ∀ q : Nat, s.heap.size ≤ q → A q := fun q h => by rw [← hAe]; exact Or.inr h
  have hS : va_S A s.heap s.heap [] := va_S.rf
  clear hAe
  have hin : meth.name = "<init>" := (name_of_methodNamed B.named B.method).1
  have hw0 := hts (.methodLink RJ0 1 objectInit) (List.mem_cons_of_mem _ kw_852)
  have hw1 := hts (.instanceMethod objectInit) (List.mem_cons_of_mem _ kw_83)
  have hw2 := hts (.code objectInit ⟨#[0xb1]⟩ 1 none) (List.mem_cons_of_mem _ kw_84)
  have hw3 := hts (.fieldLink RJ0 38 "java/lang/String" "COMPACT_STRINGS" "Z") (List.mem_cons_of_mem _ kw_903)
  have hw4 := hts (.fieldLink RJ0 1048 "java/lang/AbstractStringBuilder" "maybeLatin1" "Z") (List.mem_cons_of_mem _ kw_702)
  have hw5 := hts (.fieldLink RJ0 15 "java/lang/String" "coder" "B") (List.mem_cons_of_mem _ kw_935)
  have hw6 := hts (.fieldLink RJ0 9 "java/lang/String" "value" "[B") (List.mem_cons_of_mem _ kw_934)
  have hiJ0 : ∀ w ∈ u_ws RJ0 TJ0 4, w ∈ wsJ0_init_db425 := fun w h => List.mem_cons_of_mem _ (ku_J0 w h)
  have hiJ4 : ∀ w ∈ u_ws RJ4 TJ4 4, w ∈ wsJ0_init_db425 := fun w h => List.mem_cons_of_mem _ (ku_J4 w h)
  have J79 : ∀ (tn : Nat) (tv : Nat → Int32) (tk : Int32) (x4 : Int32) (H : Heap) (locs : List Loc), va_P (dC, dI) vwCl ([(h0, .inr (0, [.null, .int 0, .int 0, .int 0]))] ++ (wTB cB t0 t1 tn tv tk)) H → va_D A ([(h0, .inr (0, [.null, .int 0, .int 0, .int 0]))] ++ (wTB cB t0 t1 tn tv tk)) → va_S A s.heap H locs → ∀ (ls : Array Slot), lv_has ls 5 (kvA 0 h0 (kvA 3 t1 (kvI 4 x4 kvE))) → f_J0_init_db425_79 tn tv x4 = some res → W p l e (headSpec wsJ0_init_db425 (kRm 3 1 64 106)).room s m ([.ref h0, .ref t0, .null] : List Value).toArray below meth c H locs 0 0 (MQ below (kVu (dC, dI) (fun u => (wTB cB t0 t1 tn tv tk)) A) ([.ref h0, .ref t0, .null] : List Value).toArray s 1 64 A) (F0 m 79 ls []) := by
    intro tn tv tk x4 H locs hP hD hS ls hl h
    have h := f_J0_init_db425_79_e.symm.trans h
    refine lv_aload_n hx hb (kdr dgJ0_init_db425_0 3 9 rfl rfl) rfl (lv_at hl 0 rfl) ?_
    refine lv_iconst (v := 1) hx hb (kdr dgJ0_init_db425_0 4 0 rfl rfl) (by decide) ?_
    refine va_putF (D := (dC, dI)) (ci := 0) (v := .int 1) (ty := .byte) (C := RJ0) (T := TJ0) (N := 4) hx hb hts hiJ0 tyJ0 tyJ0_ok nmJ0 hown hK hP hD hS 0 rfl rfl 1 (by decide) hw5 (fun _ h9 => h9) rfl hin rfl (by decide +kernel) rfl rfl (Nat.le_of_ble_eq_true rfl) (kdr dgJ0_init_db425_0 4 1 rfl rfl) (fun H locs hP hD hS => ?_)
    have hP : va_P (dC, dI) vwCl ([(h0, .inr (0, [.null, .int 1, .int 0, .int 0]))] ++ (wTB cB t0 t1 tn tv tk)) H := hP
    have hD : va_D A ([(h0, .inr (0, [.null, .int 1, .int 0, .int 0]))] ++ (wTB cB t0 t1 tn tv tk)) := hD
    refine lv_aload_n hx hb (kdr dgJ0_init_db425_0 4 2 rfl rfl) rfl (lv_at hl 0 rfl) ?_
    refine lv_aload_n hx hb (kdr dgJ0_init_db425_0 4 3 rfl rfl) rfl (lv_at hl 1 rfl) ?_
    refine lv_iconst (v := 0) hx hb (kdr dgJ0_init_db425_0 4 4 rfl rfl) (by decide) ?_
    refine lv_iload hx hb (kdr dgJ0_init_db425_0 4 5 rfl rfl) (lv_at hl 2 rfl) ?_
    refine lv_iconst (v := 1) hx hb (kdr dgJ0_init_db425_0 4 6 rfl rfl) (by decide) ?_
    refine lv_ishl hx hb (kdr dgJ0_init_db425_0 4 7 rfl rfl) ?_
    obtain ⟨r1, g1, h⟩ := g_b h
    refine kcall_n ([(h0, .inr (0, [.null, .int 1, .int 0, .int 0]))] ++ (wTB cB t0 t1 tn tv tk)) (va_runS (As := [.ref t1, .int 0, .int (x4 <<< ((1 : Int32) &&& 31))]) (rest := [.ref h0]) ⟨hx, hb, hml, hown, hts⟩ (c_J7_copyOfRange_39247 l dC dI cB cI cJ cZ t1 tn _ tv 0 (x4 <<< ((1 : Int32) &&& 31)) r1 g1) (kcwS hts kw_867 kv_J7_copyOfRange_39247 rfl rfl ⟨(Nat.le_of_ble_eq_true rfl), (Nat.le_of_ble_eq_true rfl)⟩) (kpS (A := A) (hP.sub (kIT mk_4 0) (km_f (m := mk_4) rfl rfl)) hK (hD.sub (kIT mk_4 0) (km_nd mk_4) (km_T (m := mk_4) rfl rfl)) hG) rfl rfl hl.1 rfl (lv_room (Nat.le_of_ble_eq_true rfl)) (kdr dgJ0_init_db425_0 4 8 rfl rfl) ⟨(Nat.le_of_ble_eq_true rfl), (Nat.le_of_ble_eq_true rfl)⟩) hP hD hS hA (kIT mk_4 0) (kIT mk_5 0) (km_T (m := mk_4) rfl rfl) (km_T (m := mk_4) rfl rfl) [(h0, .inr (0, [.null, .int 1, .int 0, .int 0])), (t0, .inr (1, [.ref t1, .int 0, .int 0, .int tk]))] (km_T (m := mk_5) rfl rfl) (km_T (m := mk_5) rfl rfl) (km_cov (m := mk_4) (n := mk_5) rfl rfl) (km_dis (m := mk_4) (n := mk_5) rfl) rfl (fun qa1 H locs hP hD hS => ?_)
    refine va_putF (D := (dC, dI)) (ci := 0) (v := .ref qa1) (ty := (.array .byte)) (C := RJ0) (T := TJ0) (N := 4) hx hb hts hiJ0 tyJ0 tyJ0_ok nmJ0 hown hK hP hD hS 0 rfl rfl 0 (by decide) hw6 (fun _ h9 => h9) rfl hin rfl (by decide +kernel) rfl rfl (Nat.le_of_ble_eq_true rfl) (kdr dgJ0_init_db425_0 4 9 rfl rfl) (fun H locs hP hD hS => ?_)
    have hP : va_P (dC, dI) vwCl ([(h0, .inr (0, [.ref qa1, .int 1, .int 0, .int 0]))] ++ (wTB cB t0 t1 tn tv tk)) H := hP
    have hD : va_D A ([(h0, .inr (0, [.ref qa1, .int 1, .int 0, .int 0]))] ++ (wTB cB t0 t1 tn tv tk)) := hD
    have hP := hP.sub (ws' := (wTB cB t0 t1 tn tv tk)) [1, 2] rfl
    have hD := hD.sub (ws' := (wTB cB t0 t1 tn tv tk)) [1, 2] (by decide) rfl
    have h := Option.some.inj h
    subst h
    refine W.widen (k := 1) (n := 64) (Nat.le_of_ble_eq_true rfl) (Nat.le_of_ble_eq_true rfl) ?_
    exact kret_vu (u := (kcons t1 (fun _ => 0))) hx hb hr hlocks hS hP hD (kdr dgJ0_init_db425_0 5 0 rfl rfl)
  have hl := lv_entry ([.ref h0, .ref t0, .null]) (n := 5) (Nat.le_of_ble_eq_true rfl)
  rw [lg_entry_eq]
  generalize (lg_sl ([.ref h0, .ref t0, .null]) ++ List.replicate (5 - (lg_sl ([.ref h0, .ref t0, .null])).length) Slot.unset).toArray = ls at hl ⊢
  have hl : lv_has ls 5 (kvA 0 h0 (kvA 1 t0 (kvN 2 kvE))) := hl
  have h := f_J0_init_db425_e.symm.trans hf
  refine lv_aload_n hx hb (kdr dgJ0_init_db425_0 0 0 rfl rfl) rfl (lv_at hl 0 rfl) ?_
  refine W.objInit hx hb hown hw0 hw1 hw2 rfl (by rw [hml]; exact hl.1) rfl (kdr dgJ0_init_db425_0 0 1 rfl rfl) (Nat.le_of_ble_eq_true rfl) (Nat.le_of_ble_eq_true rfl) ?_
  refine W.eq (g2 := F0 m 4 ls []) rfl ?_
  refine lv_aload_n hx hb (kdr dgJ0_init_db425_0 0 2 rfl rfl) rfl (lv_at hl 1 rfl) ?_
  obtain ⟨r1, g1, h⟩ := g_b h
  refine kcall_au (fun u1 => (wTB cB t0 t1 tn tv tk)) (va_runU (As := []) (rest := []) ⟨hx, hb, hml, hown, hts⟩ (c_J5_getValue_6d5f1 l dC dI cB cI cJ cZ t0 t1 _ tn tv tk  r1 g1) (kcwU hts kw_853 kv_J5_getValue_6d5f1 rfl rfl ⟨(Nat.le_of_ble_eq_true rfl), (Nat.le_of_ble_eq_true rfl)⟩) (kpV (A := A) (hP.sub [1, 2] rfl) hK (hD.sub [1, 2] (by decide) rfl) hG (krecv_1 (q0 := 1) hK hP rfl)) rfl rfl hl.1 rfl (lv_room (Nat.le_of_ble_eq_true rfl)) (kdr dgJ0_init_db425_0 0 3 rfl rfl) ⟨(Nat.le_of_ble_eq_true rfl), (Nat.le_of_ble_eq_true rfl)⟩) hP hD hS hA [1, 2] [0] rfl [(h0, .inr (0, [.null, .int 0, .int 0, .int 0]))] rfl (by decide) (by decide) (fun u1 H locs hP hD hS => ?_)
  have hP := hP.sub (ws' := ([(h0, .inr (0, [.null, .int 0, .int 0, .int 0]))] ++ (wTB cB t0 t1 tn tv tk))) [0, 1, 2] rfl
  have hD := hD.sub (ws' := ([(h0, .inr (0, [.null, .int 0, .int 0, .int 0]))] ++ (wTB cB t0 t1 tn tv tk))) [0, 1, 2] (by decide) rfl
  refine lv_astore_n (lv' := (kvA 3 t1 (kvA 0 h0 (kvA 1 t0 (kvN 2 kvE))))) hx hb (kdr dgJ0_init_db425_0 0 4 rfl rfl) rfl hl (by decide) rfl (fun ls hl => ?_)
  refine lv_aload_n hx hb (kdr dgJ0_init_db425_0 0 5 rfl rfl) rfl (lv_at hl 2 rfl) ?_
  obtain ⟨r2, g2, h⟩ := g_b h
  refine kq_i ([(h0, .inr (0, [.null, .int 0, .int 0, .int 0]))] ++ (wTB cB t0 t1 tn tv tk)) (fun qP qD qF => va_runU (As := []) (rest := []) ⟨hx, hb, hml, hown, hts⟩ (c_J4_length_8abf5 l dC dI cB cI cJ cZ t0 t1 _ tn tv tk  r2 g2) (kcwO hts kw_858 kv_J4_length_8abf5 rfl rfl ⟨(Nat.le_of_ble_eq_true rfl), (Nat.le_of_ble_eq_true rfl)⟩) (kpV (A := A) qP hK qD hG (krecv_1 (q0 := 1) hK hP rfl)) rfl rfl hl.1 rfl (lv_room (Nat.le_of_ble_eq_true rfl)) (kdr dgJ0_init_db425_0 0 6 rfl rfl) ⟨(Nat.le_of_ble_eq_true rfl), (Nat.le_of_ble_eq_true rfl)⟩) hP hD hS hA (kFr_r (kFr_a rfl)) (fun H locs hP hD hS br2 => ?_)
  refine lv_istore (lv' := (kvI 4 r2 (kvA 3 t1 (kvA 0 h0 (kvA 1 t0 (kvN 2 kvE)))))) hx hb (kdr dgJ0_init_db425_0 0 7 rfl rfl) hl (by decide) rfl (fun ls hl => ?_)
  refine lv_aload_n hx hb (kdr dgJ0_init_db425_0 0 8 rfl rfl) rfl (lv_at hl 3 rfl) ?_
  obtain ⟨r3, g3, h⟩ := g_b h
  refine kq_i ([(h0, .inr (0, [.null, .int 0, .int 0, .int 0]))] ++ (wTB cB t0 t1 tn tv tk)) (fun qP qD qF => va_runU (As := []) (rest := []) ⟨hx, hb, hml, hown, hts⟩ (c_J5_isLatin1_aae02 l dC dI cB cI cJ cZ t0 t1 _ tn tv tk  r3 g3) (kcwU hts kw_866 kv_J5_isLatin1_aae02 rfl rfl ⟨(Nat.le_of_ble_eq_true rfl), (Nat.le_of_ble_eq_true rfl)⟩) (kpVXq (A := A) qP hK qD hG hZ hS qF (krecv_1 (q0 := 1) hK hP rfl)) rfl rfl hl.1 rfl (lv_room (Nat.le_of_ble_eq_true rfl)) (kdr dgJ0_init_db425_0 0 9 rfl rfl) ⟨(Nat.le_of_ble_eq_true rfl), (Nat.le_of_ble_eq_true rfl)⟩) hP hD hS hA (kFr_r (kFr_a rfl)) (fun H locs hP hD hS br3 => ?_)
  refine lv_if_eq (tgt := 41) hx hb (kdr dgJ0_init_db425_0 1 0 rfl rfl) (by decide) (fun c4 => ?_) (fun c4 => ?_)
  · have h := g_t c4 h
    refine va_gets hx hb hZ.2.2.2.2.2.1 hS hown hw3 (fun _ h9 => h9) (kdr dgJ0_init_db425_0 2 1 rfl rfl) ?_
    refine lv_if_eq (tgt := 79) hx hb (kdr dgJ0_init_db425_0 2 2 rfl rfl) (by decide) (fun c9 => absurd c9 (by decide)) (fun _ => ?_)
    refine lv_aload_n hx hb (kdr dgJ0_init_db425_0 2 3 rfl rfl) rfl (lv_at hl 3 rfl) ?_
    refine va_get (D := (dC, dI)) (ci := 1) (v := .int 0) (C := RJ4) (T := TJ4) (N := 4) hx hb hts hiJ4 hown hK hP 1 rfl rfl 2 (by decide) hw4 (fun _ h9 => h9) rfl (kdr dgJ0_init_db425_0 2 4 rfl rfl) ?_
    refine lv_if_eq (tgt := 79) hx hb (kdr dgJ0_init_db425_0 2 5 rfl rfl) (by decide) (fun _ => ?_) (fun c9 => absurd (by decide) c9)
    exact J79 tn tv tk r2 _ _ hP hD hS ls (lv_sub hl [2, 1, 0] rfl) h
  · have h := g_f c4 h
    refine lv_aload_n hx hb (kdr dgJ0_init_db425_0 1 1 rfl rfl) rfl (lv_at hl 2 rfl) ?_
    refine lv_iconst (v := 0) hx hb (kdr dgJ0_init_db425_0 1 2 rfl rfl) (by decide) ?_
    refine va_putF (D := (dC, dI)) (ci := 0) (v := .int 0) (ty := .byte) (C := RJ0) (T := TJ0) (N := 4) hx hb hts hiJ0 tyJ0 tyJ0_ok nmJ0 hown hK hP hD hS 0 rfl rfl 1 (by decide) hw5 (fun _ h9 => h9) rfl hin rfl (by decide +kernel) rfl rfl (Nat.le_of_ble_eq_true rfl) (kdr dgJ0_init_db425_0 1 3 rfl rfl) (fun H locs hP hD hS => ?_)
    have hP : va_P (dC, dI) vwCl ([(h0, .inr (0, [.null, .int 0, .int 0, .int 0]))] ++ (wTB cB t0 t1 tn tv tk)) H := hP
    have hD : va_D A ([(h0, .inr (0, [.null, .int 0, .int 0, .int 0]))] ++ (wTB cB t0 t1 tn tv tk)) := hD
    refine lv_aload_n hx hb (kdr dgJ0_init_db425_0 1 4 rfl rfl) rfl (lv_at hl 2 rfl) ?_
    refine lv_aload_n hx hb (kdr dgJ0_init_db425_0 1 5 rfl rfl) rfl (lv_at hl 1 rfl) ?_
    refine lv_iconst (v := 0) hx hb (kdr dgJ0_init_db425_0 1 6 rfl rfl) (by decide) ?_
    refine lv_iload hx hb (kdr dgJ0_init_db425_0 1 7 rfl rfl) (lv_at hl 0 rfl) ?_
    obtain ⟨r5, g5, h⟩ := g_b h
    refine kcall_n ([(h0, .inr (0, [.null, .int 0, .int 0, .int 0]))] ++ (wTB cB t0 t1 tn tv tk)) (va_runS (As := [.ref t1, .int 0, .int r2]) (rest := [.ref h0]) ⟨hx, hb, hml, hown, hts⟩ (c_J7_copyOfRange_39247 l dC dI cB cI cJ cZ t1 tn _ tv 0 r2 r5 g5) (kcwS hts kw_867 kv_J7_copyOfRange_39247 rfl rfl ⟨(Nat.le_of_ble_eq_true rfl), (Nat.le_of_ble_eq_true rfl)⟩) (kpS (A := A) (hP.sub (kIT mk_4 0) (km_f (m := mk_4) rfl rfl)) hK (hD.sub (kIT mk_4 0) (km_nd mk_4) (km_T (m := mk_4) rfl rfl)) hG) rfl rfl hl.1 rfl (lv_room (Nat.le_of_ble_eq_true rfl)) (kdr dgJ0_init_db425_0 1 8 rfl rfl) ⟨(Nat.le_of_ble_eq_true rfl), (Nat.le_of_ble_eq_true rfl)⟩) hP hD hS hA (kIT mk_4 0) (kIT mk_5 0) (km_T (m := mk_4) rfl rfl) (km_T (m := mk_4) rfl rfl) [(h0, .inr (0, [.null, .int 0, .int 0, .int 0])), (t0, .inr (1, [.ref t1, .int 0, .int 0, .int tk]))] (km_T (m := mk_5) rfl rfl) (km_T (m := mk_5) rfl rfl) (km_cov (m := mk_4) (n := mk_5) rfl rfl) (km_dis (m := mk_4) (n := mk_5) rfl) rfl (fun qa5 H locs hP hD hS => ?_)
    refine va_putF (D := (dC, dI)) (ci := 0) (v := .ref qa5) (ty := (.array .byte)) (C := RJ0) (T := TJ0) (N := 4) hx hb hts hiJ0 tyJ0 tyJ0_ok nmJ0 hown hK hP hD hS 0 rfl rfl 0 (by decide) hw6 (fun _ h9 => h9) rfl hin rfl (by decide +kernel) rfl rfl (Nat.le_of_ble_eq_true rfl) (kdr dgJ0_init_db425_0 1 9 rfl rfl) (fun H locs hP hD hS => ?_)
    have hP : va_P (dC, dI) vwCl ([(h0, .inr (0, [.ref qa5, .int 0, .int 0, .int 0]))] ++ (wTB cB t0 t1 tn tv tk)) H := hP
    have hD : va_D A ([(h0, .inr (0, [.ref qa5, .int 0, .int 0, .int 0]))] ++ (wTB cB t0 t1 tn tv tk)) := hD
    refine lv_goto (tgt := 97) hx hb (kdr dgJ0_init_db425_0 2 0 rfl rfl) (by decide) ?_
    have hP := hP.sub (ws' := (wTB cB t0 t1 tn tv tk)) [1, 2] rfl
    have hD := hD.sub (ws' := (wTB cB t0 t1 tn tv tk)) [1, 2] (by decide) rfl
    have h := Option.some.inj h
    subst h
    refine W.widen (k := 1) (n := 64) (Nat.le_of_ble_eq_true rfl) (Nat.le_of_ble_eq_true rfl) ?_
    exact kret_vu (u := (kcons t1 (fun _ => 0))) hx hb hr hlocks hS hP hD (kdr dgJ0_init_db425_0 5 0 rfl rfl)
noncomputable abbrev wsJ0_init_81219 : List Cond := kWs yJ0_init_81219 cJ0_init_81219 2 none
noncomputable def f_J0_init_81219 (tn : Nat) (tv : Nat → Int32) (tk : Int32) : Option (Unit) :=
  (f_J0_init_db425 tn tv tk).bind fun r1 =>
  some ()
theorem f_J0_init_81219_e {tn : Nat} {tv : Nat → Int32} {tk : Int32} : f_J0_init_81219 tn tv tk = 
  (f_J0_init_db425 tn tv tk).bind fun r1 =>
  some () := rfl
set_option maxHeartbeats 4000000 in
set_option maxRecDepth 100000 in
theorem c_J0_init_81219 (l : Launch) (dC : Nat → ClassId) (dI : Nat → Nat → Nat) (cB cI cJ cZ : ClassId) (h0 : Nat) (t0 : Nat) (t1 : Nat) (sz : Nat) (tn : Nat) (tv : Nat → Int32) (tk : Int32) (res : Unit) (hf : f_J0_init_81219 tn tv tk = some res) : Met l yJ0_init_81219 wsJ0_init_81219 (kRm 4 1 64 130) (kPreX (dC, dI) (kTy cB cI cJ cZ) [.ref h0, .ref t0] sz ([(h0, .inr (0, [.null, .int 0, .int 0, .int 0]))] ++ (wTB cB t0 t1 tn tv tk))) (kVu (dC, dI) (fun u => (wTB cB t0 t1 tn tv tk)) (va_A ([(h0, .inr (0, [.null, .int 0, .int 0, .int 0]))] ++ (wTB cB t0 t1 tn tv tk)) sz)) 1 64 (va_A ([(h0, .inr (0, [.null, .int 0, .int 0, .int 0]))] ++ (wTB cB t0 t1 tn tv tk)) sz) := by
  refine kofW (y := yJ0_init_81219) (cc := cJ0_init_81219) (maxL := 2) (ret := none) (plainFor_of_name (x := yJ0_init_81219) kpl_J0) rfl ?_
  intro p e s m args below meth c s₁ B hml hv
  obtain ⟨rfl, hsz, hP, hK, hD0, hG, hZ⟩ := hv
  have hx := B.exec
  have hb := B.bytes
  have hr := B.returns
  have hts := atoms_spec (ws := wsJ0_init_81219) B.pre
  have hown : s.vm.findClass RJ0 = some m.cls := findClass_of_methodNamed B.named
  have hlocks := B.notSynchronized
  subst hsz
  have hD := hD0.self (sz := s.heap.size)
  generalize hAe : va_A ([(h0, .inr (0, [.null, .int 0, .int 0, .int 0]))] ++ (wTB cB t0 t1 tn tv tk)) s.heap.size = A at hD hZ ⊢
  have hA : ∀ q : Nat, s.heap.size ≤ q → A q := fun q h => by rw [← hAe]; exact Or.inr h
  have hS : va_S A s.heap s.heap [] := va_S.rf
  clear hAe
  have hin : meth.name = "<init>" := (name_of_methodNamed B.named B.method).1
  have hl := lv_entry ([.ref h0, .ref t0]) (n := 2) (Nat.le_of_ble_eq_true rfl)
  rw [lg_entry_eq]
  generalize (lg_sl ([.ref h0, .ref t0]) ++ List.replicate (2 - (lg_sl ([.ref h0, .ref t0])).length) Slot.unset).toArray = ls at hl ⊢
  have hl : lv_has ls 2 (kvA 0 h0 (kvA 1 t0 kvE)) := hl
  have h := f_J0_init_81219_e.symm.trans hf
  refine lv_aload_n hx hb (kdr dgJ0_init_81219_0 0 0 rfl rfl) rfl (lv_at hl 0 rfl) ?_
  refine lv_aload_n hx hb (kdr dgJ0_init_81219_0 0 1 rfl rfl) rfl (lv_at hl 1 rfl) ?_
  refine lv_null hx hb (kdr dgJ0_init_81219_0 0 2 rfl rfl) ?_
  obtain ⟨r1, g1, h⟩ := g_b h
  refine kcall_vu (fun u1 => (wTB cB t0 t1 tn tv tk)) (va_runI (As := [.ref t0, .null]) (rest := []) ⟨hx, hb, hml, hown, hts⟩ (c_J0_init_db425 l dC dI cB cI cJ cZ h0 t0 t1 _ tn tv tk  r1 g1) (kcwI hts kw_849 kv_J0_init_db425 rfl rfl ⟨(Nat.le_of_ble_eq_true rfl), (Nat.le_of_ble_eq_true rfl)⟩) (kpSX (A := A) (hP.sub [0, 1, 2] rfl) hK (hD.sub [0, 1, 2] (by decide) rfl) hG hZ hS hD hA [0, 1, 2] rfl) rfl rfl hl.1 rfl (lv_room (Nat.le_of_ble_eq_true rfl)) (kdr dgJ0_init_81219_0 0 3 rfl rfl) ⟨(Nat.le_of_ble_eq_true rfl), (Nat.le_of_ble_eq_true rfl)⟩) hP hD hS hA [0, 1, 2] [] rfl [] rfl (by decide) (by decide) (fun u1 H locs hP hD hS => ?_)
  have hP := hP.sub (ws' := (wTB cB t0 t1 tn tv tk)) [0, 1] rfl
  have hD := hD.sub (ws' := (wTB cB t0 t1 tn tv tk)) [0, 1] (by decide) rfl
  have hP := hP.sub (ws' := (wTB cB t0 t1 tn tv tk)) [0, 1] rfl
  have hD := hD.sub (ws' := (wTB cB t0 t1 tn tv tk)) [0, 1] (by decide) rfl
  have h := Option.some.inj h
  subst h
  refine W.widen (k := 1) (n := 64) (Nat.le_of_ble_eq_true rfl) (Nat.le_of_ble_eq_true rfl) ?_
  exact kret_vu (u := (kcons t1 (fun _ => 0))) hx hb hr hlocks hS hP hD (kdr dgJ0_init_81219_0 0 4 rfl rfl)
noncomputable abbrev wsJ4_toString_0e30d : List Cond := kWs yJ4_toString_0e30d cJ4_toString_0e30d 1 (some (.object "java/lang/String"))
noncomputable def f_J4_toString_0e30d (tn : Nat) (tv : Nat → Int32) (tk : Int32) : Option (Unit) :=
  (f_J0_init_81219 tn tv tk).bind fun r1 =>
  some ()
theorem f_J4_toString_0e30d_e {tn : Nat} {tv : Nat → Int32} {tk : Int32} : f_J4_toString_0e30d tn tv tk = 
  (f_J0_init_81219 tn tv tk).bind fun r1 =>
  some () := rfl
set_option maxHeartbeats 4000000 in
set_option maxRecDepth 100000 in
theorem c_J4_toString_0e30d (l : Launch) (dC : Nat → ClassId) (dI : Nat → Nat → Nat) (cB cI cJ cZ : ClassId) (t0 : Nat) (t1 : Nat) (sz : Nat) (tn : Nat) (tv : Nat → Int32) (tk : Int32) (res : Unit) (hf : f_J4_toString_0e30d tn tv tk = some res) : Met l yJ4_toString_0e30d wsJ4_toString_0e30d (kRm 5 2 68 151) (kPreX (dC, dI) (kTy cB cI cJ cZ) [.ref t0] sz (wTB cB t0 t1 tn tv tk)) (kNq (dC, dI) (wTB cB t0 t1 tn tv tk) (va_A (wTB cB t0 t1 tn tv tk) sz)) 2 68 (va_A (wTB cB t0 t1 tn tv tk) sz) := by
  refine kofW (y := yJ4_toString_0e30d) (cc := cJ4_toString_0e30d) (maxL := 1) (ret := (some (.object "java/lang/String"))) (plainFor_of_name (x := yJ4_toString_0e30d) kpl_J4) rfl ?_
  intro p e s m args below meth c s₁ B hml hv
  obtain ⟨rfl, hsz, hP, hK, hD0, hG, hZ⟩ := hv
  have hx := B.exec
  have hb := B.bytes
  have hr := B.returns
  have hts := atoms_spec (ws := wsJ4_toString_0e30d) B.pre
  have hown : s.vm.findClass RJ4 = some m.cls := findClass_of_methodNamed B.named
  have hlocks := B.notSynchronized
  subst hsz
  have hD := hD0.self (sz := s.heap.size)
  generalize hAe : va_A (wTB cB t0 t1 tn tv tk) s.heap.size = A at hD hZ ⊢
  have hA : ∀ q : Nat, s.heap.size ≤ q → A q := fun q h => by rw [← hAe]; exact Or.inr h
  have hS : va_S A s.heap s.heap [] := va_S.rf
  clear hAe
  have hw0 := hts (.classLink RJ4 18 RJ0) (List.mem_cons_of_mem _ kw_844)
  have hw1 := hts (.instantiable RJ0 4) (List.mem_cons_of_mem _ kw_845)
  have hw2 := hts (.initialized RJ0) (List.mem_cons_of_mem _ kw_69)
  have hiJ0 : ∀ w ∈ u_ws RJ0 TJ0 4, w ∈ wsJ4_toString_0e30d := fun w h => List.mem_cons_of_mem _ (ku_J0 w h)
  have hl := lv_entry ([.ref t0]) (n := 1) (Nat.le_of_ble_eq_true rfl)
  rw [lg_entry_eq]
  generalize (lg_sl ([.ref t0]) ++ List.replicate (1 - (lg_sl ([.ref t0])).length) Slot.unset).toArray = ls at hl ⊢
  have hl : lv_has ls 1 (kvA 0 t0 kvE) := hl
  have h := f_J4_toString_0e30d_e.symm.trans hf
  refine va_new (ci := 0) (fs := [.null, .int 0, .int 0, .int 0]) (C := RJ0) (T := TJ0) (N := 4) hx hb hts hiJ0 tyJ0 tyJ0_ok hown hw0 hw1 hw2 hK hP hD hS hA rfl (fun j hj => by rcases (show j = 0 ∨ j = 1 ∨ j = 2 ∨ j = 3 by omega) with rfl | rfl | rfl | rfl <;> rfl) (Nat.le_of_ble_eq_true rfl) (Nat.le_of_ble_eq_true rfl) (kdr dgJ4_toString_0e30d_0 0 0 rfl rfl) (fun qn0 H hP hD hS => ?_)
  have hP : va_P (dC, dI) vwCl ((wTB cB t0 t1 tn tv tk) ++ [(qn0, .inr (0, [.null, .int 0, .int 0, .int 0]))]) H := hP
  have hD : va_D A ((wTB cB t0 t1 tn tv tk) ++ [(qn0, .inr (0, [.null, .int 0, .int 0, .int 0]))]) := hD
  refine lv_dup hx hb (kdr dgJ4_toString_0e30d_0 0 1 rfl rfl) rfl ?_
  refine lv_aload_n hx hb (kdr dgJ4_toString_0e30d_0 0 2 rfl rfl) rfl (lv_at hl 0 rfl) ?_
  obtain ⟨r1, g1, h⟩ := g_b h
  refine kcall_vu (fun u1 => (wTB cB t0 t1 tn tv tk)) (va_runI (As := [.ref t0]) (rest := [.ref qn0]) ⟨hx, hb, hml, hown, hts⟩ (c_J0_init_81219 l dC dI cB cI cJ cZ qn0 t0 t1 _ tn tv tk  r1 g1) (kcwI hts kw_846 kv_J0_init_81219 rfl rfl ⟨(Nat.le_of_ble_eq_true rfl), (Nat.le_of_ble_eq_true rfl)⟩) (kpSX (A := A) (hP.sub [2, 0, 1] rfl) hK (hD.sub [2, 0, 1] (by decide) rfl) hG hZ hS hD hA [2, 0, 1] rfl) rfl rfl hl.1 rfl (lv_room (Nat.le_of_ble_eq_true rfl)) (kdr dgJ4_toString_0e30d_0 0 3 rfl rfl) ⟨(Nat.le_of_ble_eq_true rfl), (Nat.le_of_ble_eq_true rfl)⟩) hP hD hS hA [2, 0, 1] [] rfl [] rfl (by decide) (by decide) (fun u1 H locs hP hD hS => ?_)
  have hP := hP.sub (ws' := (wTB cB t0 t1 tn tv tk)) [0, 1] rfl
  have hD := hD.sub (ws' := (wTB cB t0 t1 tn tv tk)) [0, 1] (by decide) rfl
  have h := Option.some.inj h
  subst h
  refine W.widen (k := 2) (n := 68) (Nat.le_of_ble_eq_true rfl) (Nat.le_of_ble_eq_true rfl) ?_
  exact kret_n hx hb hr (Or.inl ⟨_, rfl⟩) hlocks hS hP (kdr dgJ4_toString_0e30d_0 0 4 rfl rfl)
noncomputable abbrev wsJ0_coder_7d493 : List Cond := kWs yJ0_coder_7d493 cJ0_coder_7d493 1 (some .byte)
noncomputable def f_J0_coder_7d493 : Option (Int32) :=
  some 0
theorem f_J0_coder_7d493_e : f_J0_coder_7d493 = 
  some 0 := rfl
set_option maxHeartbeats 4000000 in
set_option maxRecDepth 100000 in
theorem c_J0_coder_7d493 (l : Launch) (dC : Nat → ClassId) (dI : Nat → Nat → Nat) (cB cI cJ cZ : ClassId) (kS : Nat) (zV : Nat) (sz : Nat) (res : Int32) (hf : f_J0_coder_7d493 = some res) : Met l yJ0_coder_7d493 wsJ0_coder_7d493 (kRm 0 0 0 0) (kPreS (dC, dI) (kTy cB cI cJ cZ) [.ref kS] sz [] kS zV) (kI (dC, dI) .byte (res) [] (va_A [] sz)) 0 0 (va_A [] sz) := by
  refine kofW (y := yJ0_coder_7d493) (cc := cJ0_coder_7d493) (maxL := 1) (ret := (some .byte)) (plainFor_of_name (x := yJ0_coder_7d493) kpl_J0) rfl ?_
  intro p e s m args below meth c s₁ B hml hv
  obtain ⟨rfl, hsz, hP, hK, hD0, hG, hZ, hT⟩ := hv
  have hx := B.exec
  have hb := B.bytes
  have hr := B.returns
  have hts := atoms_spec (ws := wsJ0_coder_7d493) B.pre
  have hown : s.vm.findClass RJ0 = some m.cls := findClass_of_methodNamed B.named
  have hlocks := B.notSynchronized
  subst hsz
  have hD := hD0.self (sz := s.heap.size)
  generalize hAe : va_A [] s.heap.size = A at hD hZ hT ⊢
  have hA : ∀ q : Nat, s.heap.size ≤ q → A q := fun q h => by rw [← hAe]; exact Or.inr h
  have hS : va_S A s.heap s.heap [] := va_S.rf
  clear hAe
  have hw0 := hts (.fieldLink RJ0 38 "java/lang/String" "COMPACT_STRINGS" "Z") (List.mem_cons_of_mem _ kw_903)
  have hw1 := hts (.fieldLink RJ0 15 "java/lang/String" "coder" "B") (List.mem_cons_of_mem _ kw_935)
  have hl := lv_entry ([.ref kS]) (n := 1) (Nat.le_of_ble_eq_true rfl)
  rw [lg_entry_eq]
  generalize (lg_sl ([.ref kS]) ++ List.replicate (1 - (lg_sl ([.ref kS])).length) Slot.unset).toArray = ls at hl ⊢
  have hl : lv_has ls 1 (kvA 0 kS kvE) := hl
  have h := f_J0_coder_7d493_e.symm.trans hf
  refine va_gets hx hb hZ.2.2.2.2.2.1 hS hown hw0 (fun _ h9 => h9) (kdr dgJ0_coder_7d493_0 0 0 rfl rfl) ?_
  refine lv_if_eq (tgt := 13) hx hb (kdr dgJ0_coder_7d493_0 0 1 rfl rfl) (by decide) (fun c9 => absurd c9 (by decide)) (fun _ => ?_)
  refine lv_aload_n hx hb (kdr dgJ0_coder_7d493_0 0 2 rfl rfl) rfl (lv_at hl 0 rfl) ?_
  refine vk_getf hx hb hT.2.1 hS hown hw1 (fun _ h9 => h9) (kdr dgJ0_coder_7d493_0 0 3 rfl rfl) ?_
  refine lv_goto (tgt := 14) hx hb (kdr dgJ0_coder_7d493_0 0 4 rfl rfl) (by decide) ?_
  have h := Option.some.inj h
  subst h
  exact kret_i (v := 0) hx hb hr rfl hlocks hS hP (kdr dgJ0_coder_7d493_0 0 6 rfl rfl)
noncomputable abbrev wsJ0_length_8abf5 : List Cond := kWs yJ0_length_8abf5 cJ0_length_8abf5 1 (some .int)
noncomputable def f_J0_length_8abf5 : Option (Int32) :=
  (f_J0_coder_7d493).bind fun r1 =>
  some ((1 : Int32) >>> (r1 &&& 31))
theorem f_J0_length_8abf5_e : f_J0_length_8abf5 = 
  (f_J0_coder_7d493).bind fun r1 =>
  some ((1 : Int32) >>> (r1 &&& 31)) := rfl
set_option maxHeartbeats 4000000 in
set_option maxRecDepth 100000 in
theorem c_J0_length_8abf5 (l : Launch) (dC : Nat → ClassId) (dI : Nat → Nat → Nat) (cB cI cJ cZ : ClassId) (kS : Nat) (zV : Nat) (sz : Nat) (res : Int32) (hf : f_J0_length_8abf5 = some res) : Met l yJ0_length_8abf5 wsJ0_length_8abf5 (kRm 1 0 0 20) (kPreS (dC, dI) (kTy cB cI cJ cZ) [.ref kS] sz [] kS zV) (kI (dC, dI) .int (res) [] (va_A [] sz)) 0 0 (va_A [] sz) := by
  refine kofW (y := yJ0_length_8abf5) (cc := cJ0_length_8abf5) (maxL := 1) (ret := (some .int)) (plainFor_of_name (x := yJ0_length_8abf5) kpl_J0) rfl ?_
  intro p e s m args below meth c s₁ B hml hv
  obtain ⟨rfl, hsz, hP, hK, hD0, hG, hZ, hT⟩ := hv
  have hx := B.exec
  have hb := B.bytes
  have hr := B.returns
  have hts := atoms_spec (ws := wsJ0_length_8abf5) B.pre
  have hown : s.vm.findClass RJ0 = some m.cls := findClass_of_methodNamed B.named
  have hlocks := B.notSynchronized
  subst hsz
  have hD := hD0.self (sz := s.heap.size)
  generalize hAe : va_A [] s.heap.size = A at hD hZ hT ⊢
  have hA : ∀ q : Nat, s.heap.size ≤ q → A q := fun q h => by rw [← hAe]; exact Or.inr h
  have hS : va_S A s.heap s.heap [] := va_S.rf
  clear hAe
  have hw0 := hts (.fieldLink RJ0 9 "java/lang/String" "value" "[B") (List.mem_cons_of_mem _ kw_934)
  have hl := lv_entry ([.ref kS]) (n := 1) (Nat.le_of_ble_eq_true rfl)
  rw [lg_entry_eq]
  generalize (lg_sl ([.ref kS]) ++ List.replicate (1 - (lg_sl ([.ref kS])).length) Slot.unset).toArray = ls at hl ⊢
  have hl : lv_has ls 1 (kvA 0 kS kvE) := hl
  have h := f_J0_length_8abf5_e.symm.trans hf
  refine lv_aload_n hx hb (kdr dgJ0_length_8abf5_0 0 0 rfl rfl) rfl (lv_at hl 0 rfl) ?_
  refine vk_getf hx hb hT.2.2.1 hS hown hw0 (fun _ h9 => h9) (kdr dgJ0_length_8abf5_0 0 1 rfl rfl) ?_
  refine va_tlen (v := 1) hx hb hT.2.2.2 hS rfl (kdr dgJ0_length_8abf5_0 0 2 rfl rfl) ?_
  refine lv_aload_n hx hb (kdr dgJ0_length_8abf5_0 0 3 rfl rfl) rfl (lv_at hl 0 rfl) ?_
  obtain ⟨r1, g1, h⟩ := g_b h
  refine kcall_i [] (va_runV (As := []) (rest := [.int 1]) ⟨hx, hb, hml, hown, hts⟩ (c_J0_coder_7d493 l dC dI cB cI cJ cZ kS zV _   r1 g1) (kcwV hts kw_899 kv_J0_coder_7d493 rfl rfl ⟨(Nat.le_of_ble_eq_true rfl), (Nat.le_of_ble_eq_true rfl)⟩) (kpVT hT (kPnil) hK ((kDnil (A := A))) hG hZ hS hD hA (kIT mk_6 0) (km_T (m := mk_6) rfl rfl) (kSp_recv hT hS)) rfl rfl hl.1 rfl (lv_room (Nat.le_of_ble_eq_true rfl)) (kdr dgJ0_length_8abf5_0 0 4 rfl rfl) ⟨(Nat.le_of_ble_eq_true rfl), (Nat.le_of_ble_eq_true rfl)⟩) hP hD hS hA (kIT mk_6 0) (kIT mk_6 0) (km_T (m := mk_6) rfl rfl) (km_T (m := mk_6) rfl rfl) [] (km_T (m := mk_6) rfl rfl) (km_T (m := mk_6) rfl rfl) (km_cov (m := mk_6) (n := mk_6) rfl rfl) (km_dis (m := mk_6) (n := mk_6) rfl) rfl (fun H locs hP hD hS br1 => ?_)
  refine lv_ishr hx hb (kdr dgJ0_length_8abf5_0 0 5 rfl rfl) ?_
  have h := Option.some.inj h
  subst h
  exact kret_i (v := (1 : Int32) >>> (r1 &&& 31)) hx hb hr rfl hlocks hS hP (kdr dgJ0_length_8abf5_0 0 6 rfl rfl)
noncomputable abbrev wsJ0_getBytes_840e7 : List Cond := kWs yJ0_getBytes_840e7 cJ0_getBytes_840e7 4 none
noncomputable def f_J0_getBytes_840e7 (n0 : Nat) (v0 : Nat → Int32) (p1 : Int32) (p2 : Int32) : Option (Nat → Int32) :=
  (f_J0_coder_7d493).bind fun r1 =>
  if r1 = p2 then
    if kcp (fun _ => 32) (0 : Int32) (p1 <<< (p2 &&& 31)) (1 : Int32) 1 n0 then
      some (va_cpy (fun _ => 32) v0 (0 : Int32).toNatClampNeg (p1 <<< (p2 &&& 31)).toNatClampNeg (1 : Int32).toNatClampNeg)
    else none
  else
    none
theorem f_J0_getBytes_840e7_e {n0 : Nat} {v0 : Nat → Int32} {p1 : Int32} {p2 : Int32} : f_J0_getBytes_840e7 n0 v0 p1 p2 = 
  (f_J0_coder_7d493).bind fun r1 =>
  if r1 = p2 then
    if kcp (fun _ => 32) (0 : Int32) (p1 <<< (p2 &&& 31)) (1 : Int32) 1 n0 then
      some (va_cpy (fun _ => 32) v0 (0 : Int32).toNatClampNeg (p1 <<< (p2 &&& 31)).toNatClampNeg (1 : Int32).toNatClampNeg)
    else none
  else
    none := rfl
set_option maxHeartbeats 4000000 in
set_option maxRecDepth 100000 in
theorem c_J0_getBytes_840e7 (l : Launch) (dC : Nat → ClassId) (dI : Nat → Nat → Nat) (cB cI cJ cZ : ClassId) (kS : Nat) (zV : Nat) (q0 : Nat) (n0 : Nat) (sz : Nat) (v0 : Nat → Int32) (p1 : Int32) (p2 : Int32) (res : Nat → Int32) (hf : f_J0_getBytes_840e7 n0 v0 p1 p2 = some res) : Met l yJ0_getBytes_840e7 wsJ0_getBytes_840e7 (kRm 1 0 0 60) (kPreS (dC, dI) (kTy cB cI cJ cZ) [.ref kS, .ref q0, .int p1, .int p2] sz [(q0, .inl (cB, n0, .inl v0))] kS zV) (kV (dC, dI) [(q0, .inl (cB, n0, .inl (res)))] (va_A [(q0, .inl (cB, n0, .inl v0))] sz)) 0 0 (va_A [(q0, .inl (cB, n0, .inl v0))] sz) := by
  refine kofW (y := yJ0_getBytes_840e7) (cc := cJ0_getBytes_840e7) (maxL := 4) (ret := none) (plainFor_of_name (x := yJ0_getBytes_840e7) kpl_J0) rfl ?_
  intro p e s m args below meth c s₁ B hml hv
  obtain ⟨rfl, hsz, hP, hK, hD0, hG, hZ, hT⟩ := hv
  have hx := B.exec
  have hb := B.bytes
  have hr := B.returns
  have hts := atoms_spec (ws := wsJ0_getBytes_840e7) B.pre
  have hown : s.vm.findClass RJ0 = some m.cls := findClass_of_methodNamed B.named
  have hlocks := B.notSynchronized
  subst hsz
  have hD := hD0.self (sz := s.heap.size)
  generalize hAe : va_A [(q0, .inl (cB, n0, .inl v0))] s.heap.size = A at hD hZ hT ⊢
  have hA : ∀ q : Nat, s.heap.size ≤ q → A q := fun q h => by rw [← hAe]; exact Or.inr h
  have hS : va_S A s.heap s.heap [] := va_S.rf
  clear hAe
  have hw0 := hts (.fieldLink RJ0 9 "java/lang/String" "value" "[B") (List.mem_cons_of_mem _ kw_934)
  have hw1 := hts (.methodLink RJ0 212 arraycopyName) (List.mem_cons_of_mem _ kw_917)
  have hw2 := hts (.native arraycopyName) (List.mem_cons_of_mem _ kw_755)
  have hw3 := hts (.static arraycopyName) (List.mem_cons_of_mem _ kw_754)
  have hw4 := hts (.initialized "java/lang/System") (List.mem_cons_of_mem _ kw_74)
  have hl := lv_entry ([.ref kS, .ref q0, .int p1, .int p2]) (n := 4) (Nat.le_of_ble_eq_true rfl)
  rw [lg_entry_eq]
  generalize (lg_sl ([.ref kS, .ref q0, .int p1, .int p2]) ++ List.replicate (4 - (lg_sl ([.ref kS, .ref q0, .int p1, .int p2])).length) Slot.unset).toArray = ls at hl ⊢
  have hl : lv_has ls 4 (kvA 0 kS (kvA 1 q0 (kvI 2 p1 (kvI 3 p2 kvE)))) := hl
  have h := f_J0_getBytes_840e7_e.symm.trans hf
  refine lv_aload_n hx hb (kdr dgJ0_getBytes_840e7_0 0 0 rfl rfl) rfl (lv_at hl 0 rfl) ?_
  obtain ⟨r1, g1, h⟩ := g_b h
  refine kcall_i [(q0, .inl (cB, n0, .inl v0))] (va_runV (As := []) (rest := []) ⟨hx, hb, hml, hown, hts⟩ (c_J0_coder_7d493 l dC dI cB cI cJ cZ kS zV _   r1 g1) (kcwV hts kw_899 kv_J0_coder_7d493 rfl rfl ⟨(Nat.le_of_ble_eq_true rfl), (Nat.le_of_ble_eq_true rfl)⟩) (kpVT hT (kPnil) hK ((kDnil (A := A))) hG hZ hS hD hA (kIT mk_3 0) (km_T (m := mk_3) rfl rfl) (kSp_recv hT hS)) rfl rfl hl.1 rfl (lv_room (Nat.le_of_ble_eq_true rfl)) (kdr dgJ0_getBytes_840e7_0 0 1 rfl rfl) ⟨(Nat.le_of_ble_eq_true rfl), (Nat.le_of_ble_eq_true rfl)⟩) hP hD hS hA (kIT mk_3 0) (kIT mk_2 0) (km_T (m := mk_3) rfl rfl) (km_T (m := mk_3) rfl rfl) [(q0, .inl (cB, n0, .inl v0))] (km_T (m := mk_2) rfl rfl) (km_T (m := mk_2) rfl rfl) (km_cov (m := mk_3) (n := mk_2) rfl rfl) (km_dis (m := mk_3) (n := mk_2) rfl) rfl (fun H locs hP hD hS br1 => ?_)
  refine lv_iload_n hx hb (kdr dgJ0_getBytes_840e7_0 0 2 rfl rfl) rfl (lv_at hl 3 rfl) ?_
  refine lv_icmp_ne (tgt := 28) hx hb (kdr dgJ0_getBytes_840e7_0 0 3 rfl rfl) (by decide) (fun c2 => ?_) (fun c2 => ?_)
  · have h := g_f c2 h
    refine lv_aload_n hx hb (kdr dgJ0_getBytes_840e7_0 1 6 rfl rfl) rfl (lv_at hl 0 rfl) ?_
    refine vk_getf hx hb hT.2.2.1 hS hown hw0 (fun _ h9 => h9) (kdr dgJ0_getBytes_840e7_0 1 7 rfl rfl) ?_
    refine lv_iconst (v := 0) hx hb (kdr dgJ0_getBytes_840e7_0 1 8 rfl rfl) (by decide) ?_
    refine lv_aload_n hx hb (kdr dgJ0_getBytes_840e7_0 1 9 rfl rfl) rfl (lv_at hl 1 rfl) ?_
    refine lv_iload_n hx hb (kdr dgJ0_getBytes_840e7_0 2 0 rfl rfl) rfl (lv_at hl 2 rfl) ?_
    refine lv_aload_n hx hb (kdr dgJ0_getBytes_840e7_0 2 1 rfl rfl) rfl (lv_at hl 0 rfl) ?_
    refine vk_getf hx hb hT.2.2.1 hS hown hw0 (fun _ h9 => h9) (kdr dgJ0_getBytes_840e7_0 2 2 rfl rfl) ?_
    refine va_tlen (v := 1) hx hb hT.2.2.2 hS rfl (kdr dgJ0_getBytes_840e7_0 2 3 rfl rfl) ?_
    cases h
  · have h := g_t c2 h
    refine lv_aload_n hx hb (kdr dgJ0_getBytes_840e7_0 0 4 rfl rfl) rfl (lv_at hl 0 rfl) ?_
    refine vk_getf hx hb hT.2.2.1 hS hown hw0 (fun _ h9 => h9) (kdr dgJ0_getBytes_840e7_0 0 5 rfl rfl) ?_
    refine lv_iconst (v := 0) hx hb (kdr dgJ0_getBytes_840e7_0 0 6 rfl rfl) (by decide) ?_
    refine lv_aload_n hx hb (kdr dgJ0_getBytes_840e7_0 0 7 rfl rfl) rfl (lv_at hl 1 rfl) ?_
    refine lv_iload_n hx hb (kdr dgJ0_getBytes_840e7_0 0 8 rfl rfl) rfl (lv_at hl 2 rfl) ?_
    refine lv_iload_n hx hb (kdr dgJ0_getBytes_840e7_0 0 9 rfl rfl) rfl (lv_at hl 3 rfl) ?_
    refine lv_ishl hx hb (kdr dgJ0_getBytes_840e7_0 1 0 rfl rfl) ?_
    refine lv_aload_n hx hb (kdr dgJ0_getBytes_840e7_0 1 1 rfl rfl) rfl (lv_at hl 0 rfl) ?_
    refine vk_getf hx hb hT.2.2.1 hS hown hw0 (fun _ h9 => h9) (kdr dgJ0_getBytes_840e7_0 1 2 rfl rfl) ?_
    refine va_tlen (v := 1) hx hb hT.2.2.2 hS rfl (kdr dgJ0_getBytes_840e7_0 1 3 rfl rfl) ?_
    obtain ⟨z2, h⟩ := g_if h
    refine vk_copyt (f := fun _ => 32) hx hb (hml.trans hl.1.symm) hown hw1 hw2 hw3 hw4 hK hP hD hS hT.2.2.2 0 0 rfl rfl z2.1 z2.2.1 z2.2.2.1 z2.2.2.2.1 z2.2.2.2.2.1 (kfit_at z2.2.2.2.2.2) (Nat.le_of_ble_eq_true rfl) (Nat.le_of_ble_eq_true rfl) (kdr dgJ0_getBytes_840e7_0 1 4 rfl rfl) (fun H locs hP hD hS => ?_)
    have hP : va_P (dC, dI) vwCl [(q0, .inl (cB, n0, .inl (va_cpy (fun _ => 32) v0 (0 : Int32).toNatClampNeg (p1 <<< (p2 &&& 31)).toNatClampNeg (1 : Int32).toNatClampNeg)))] H := hP
    have hD : va_D A [(q0, .inl (cB, n0, .inl (va_cpy (fun _ => 32) v0 (0 : Int32).toNatClampNeg (p1 <<< (p2 &&& 31)).toNatClampNeg (1 : Int32).toNatClampNeg)))] := hD
    refine lv_goto (tgt := 43) hx hb (kdr dgJ0_getBytes_840e7_0 1 5 rfl rfl) (by decide) ?_
    have h := Option.some.inj h
    subst h
    exact kret_v hx hb hr hlocks hS hP (kdr dgJ0_getBytes_840e7_0 2 5 rfl rfl)
noncomputable abbrev wsJ5_inflateIfNeededFor_a7421 : List Cond := kWs yJ5_inflateIfNeededFor_a7421 cJ5_inflateIfNeededFor_a7421 2 none
noncomputable def f_J5_inflateIfNeededFor_a7421 : Option (Unit) :=
  (f_J0_coder_7d493).bind fun r1 =>
  if (0 : Int32) = r1 then
    some ()
  else
    none
theorem f_J5_inflateIfNeededFor_a7421_e : f_J5_inflateIfNeededFor_a7421 = 
  (f_J0_coder_7d493).bind fun r1 =>
  if (0 : Int32) = r1 then
    some ()
  else
    none := rfl
set_option maxHeartbeats 4000000 in
set_option maxRecDepth 100000 in
theorem c_J5_inflateIfNeededFor_a7421 (l : Launch) (dC : Nat → ClassId) (dI : Nat → Nat → Nat) (cB cI cJ cZ : ClassId) (kS : Nat) (zV : Nat) (t0 : Nat) (t1 : Nat) (sz : Nat) (tn : Nat) (tv : Nat → Int32) (tk : Int32) (res : Unit) (hf : f_J5_inflateIfNeededFor_a7421 = some res) : Met l yJ5_inflateIfNeededFor_a7421 wsJ5_inflateIfNeededFor_a7421 (kRm 1 0 0 20) (kPreS (dC, dI) (kTy cB cI cJ cZ) [.ref t0, .ref kS] sz (wTB cB t0 t1 tn tv tk) kS zV) (kV (dC, dI) (wTB cB t0 t1 tn tv tk) (va_A (wTB cB t0 t1 tn tv tk) sz)) 0 0 (va_A (wTB cB t0 t1 tn tv tk) sz) := by
  refine kofW (y := yJ5_inflateIfNeededFor_a7421) (cc := cJ5_inflateIfNeededFor_a7421) (maxL := 2) (ret := none) (plainFor_of_name (x := yJ5_inflateIfNeededFor_a7421) kpl_J5) rfl ?_
  intro p e s m args below meth c s₁ B hml hv
  obtain ⟨rfl, hsz, hP, hK, hD0, hG, hZ, hT⟩ := hv
  have hx := B.exec
  have hb := B.bytes
  have hr := B.returns
  have hts := atoms_spec (ws := wsJ5_inflateIfNeededFor_a7421) B.pre
  have hown : s.vm.findClass RJ5 = some m.cls := findClass_of_methodNamed B.named
  have hlocks := B.notSynchronized
  subst hsz
  have hD := hD0.self (sz := s.heap.size)
  generalize hAe : va_A (wTB cB t0 t1 tn tv tk) s.heap.size = A at hD hZ hT ⊢
  have hA : ∀ q : Nat, s.heap.size ≤ q → A q := fun q h => by rw [← hAe]; exact Or.inr h
  have hS : va_S A s.heap s.heap [] := va_S.rf
  clear hAe
  have hw0 := hts (.fieldLink RJ5 18 "java/lang/String" "COMPACT_STRINGS" "Z") (List.mem_cons_of_mem _ kw_691)
  have hw1 := hts (.fieldLink RJ5 22 "java/lang/AbstractStringBuilder" "coder" "B") (List.mem_cons_of_mem _ kw_701)
  have hiJ4 : ∀ w ∈ u_ws RJ4 TJ4 4, w ∈ wsJ5_inflateIfNeededFor_a7421 := fun w h => List.mem_cons_of_mem _ (ku_J4 w h)
  have hl := lv_entry ([.ref t0, .ref kS]) (n := 2) (Nat.le_of_ble_eq_true rfl)
  rw [lg_entry_eq]
  generalize (lg_sl ([.ref t0, .ref kS]) ++ List.replicate (2 - (lg_sl ([.ref t0, .ref kS])).length) Slot.unset).toArray = ls at hl ⊢
  have hl : lv_has ls 2 (kvA 0 t0 (kvA 1 kS kvE)) := hl
  have h := f_J5_inflateIfNeededFor_a7421_e.symm.trans hf
  refine va_gets hx hb hZ.2.2.2.2.2.1 hS hown hw0 (fun _ h9 => h9) (kdr dgJ5_inflateIfNeededFor_a7421_0 0 0 rfl rfl) ?_
  refine lv_if_eq (tgt := 21) hx hb (kdr dgJ5_inflateIfNeededFor_a7421_0 0 1 rfl rfl) (by decide) (fun c9 => absurd c9 (by decide)) (fun _ => ?_)
  refine lv_aload_n hx hb (kdr dgJ5_inflateIfNeededFor_a7421_0 0 2 rfl rfl) rfl (lv_at hl 0 rfl) ?_
  refine va_get (D := (dC, dI)) (ci := 1) (v := .int 0) (C := RJ4) (T := TJ4) (N := 4) hx hb hts hiJ4 hown hK hP 0 rfl rfl 1 (by decide) hw1 (fun _ h9 => h9) rfl (kdr dgJ5_inflateIfNeededFor_a7421_0 0 3 rfl rfl) ?_
  refine lv_aload_n hx hb (kdr dgJ5_inflateIfNeededFor_a7421_0 0 4 rfl rfl) rfl (lv_at hl 1 rfl) ?_
  obtain ⟨r1, g1, h⟩ := g_b h
  refine kcall_i (wTB cB t0 t1 tn tv tk) (va_runV (As := []) (rest := [.int 0]) ⟨hx, hb, hml, hown, hts⟩ (c_J0_coder_7d493 l dC dI cB cI cJ cZ kS zV _   r1 g1) (kcwV hts kw_912 kv_J0_coder_7d493 rfl rfl ⟨(Nat.le_of_ble_eq_true rfl), (Nat.le_of_ble_eq_true rfl)⟩) (kpVT hT (kPnil) hK ((kDnil (A := A))) hG hZ hS hD hA (kIT mk_7 0) (km_T (m := mk_7) rfl rfl) (kSp_recv hT hS)) rfl rfl hl.1 rfl (lv_room (Nat.le_of_ble_eq_true rfl)) (kdr dgJ5_inflateIfNeededFor_a7421_0 0 5 rfl rfl) ⟨(Nat.le_of_ble_eq_true rfl), (Nat.le_of_ble_eq_true rfl)⟩) hP hD hS hA (kIT mk_7 0) (kIT mk_8 0) (km_T (m := mk_7) rfl rfl) (km_T (m := mk_7) rfl rfl) [(t0, .inr (1, [.ref t1, .int 0, .int 0, .int tk])), (t1, .inl (cB, tn, .inl tv))] (km_T (m := mk_8) rfl rfl) (km_T (m := mk_8) rfl rfl) (km_cov (m := mk_7) (n := mk_8) rfl rfl) (km_dis (m := mk_7) (n := mk_8) rfl) rfl (fun H locs hP hD hS br1 => ?_)
  refine lv_icmp_eq (tgt := 21) hx hb (kdr dgJ5_inflateIfNeededFor_a7421_0 0 6 rfl rfl) (by decide) (fun c2 => ?_) (fun c2 => ?_)
  · have h := g_t c2 h
    have h := Option.some.inj h
    subst h
    exact kret_v hx hb hr hlocks hS hP (kdr dgJ5_inflateIfNeededFor_a7421_0 0 9 rfl rfl)
  · have h := g_f c2 h
    refine lv_aload_n hx hb (kdr dgJ5_inflateIfNeededFor_a7421_0 0 7 rfl rfl) rfl (lv_at hl 0 rfl) ?_
    cases h
noncomputable abbrev wsJ5_putStringAt_47b60 : List Cond := kWs yJ5_putStringAt_47b60 cJ5_putStringAt_47b60 3 none
noncomputable def f_J5_putStringAt_47b60 (tn : Nat) (tv : Nat → Int32) (p0 : Int32) : Option (Nat → Int32) :=
  (f_J5_inflateIfNeededFor_a7421).bind fun r1 =>
  (f_J0_getBytes_840e7 tn tv p0 0).bind fun r2 =>
  some r2
theorem f_J5_putStringAt_47b60_e {tn : Nat} {tv : Nat → Int32} {p0 : Int32} : f_J5_putStringAt_47b60 tn tv p0 = 
  (f_J5_inflateIfNeededFor_a7421).bind fun r1 =>
  (f_J0_getBytes_840e7 tn tv p0 0).bind fun r2 =>
  some r2 := rfl
set_option maxHeartbeats 4000000 in
set_option maxRecDepth 100000 in
theorem c_J5_putStringAt_47b60 (l : Launch) (dC : Nat → ClassId) (dI : Nat → Nat → Nat) (cB cI cJ cZ : ClassId) (kS : Nat) (zV : Nat) (t0 : Nat) (t1 : Nat) (sz : Nat) (tn : Nat) (tv : Nat → Int32) (tk : Int32) (p0 : Int32) (res : Nat → Int32) (hf : f_J5_putStringAt_47b60 tn tv p0 = some res) : Met l yJ5_putStringAt_47b60 wsJ5_putStringAt_47b60 (kRm 2 0 0 83) (kPreS (dC, dI) (kTy cB cI cJ cZ) [.ref t0, .int p0, .ref kS] sz (wTB cB t0 t1 tn tv tk) kS zV) (kV (dC, dI) (wTB cB t0 t1 tn (res) tk) (va_A (wTB cB t0 t1 tn tv tk) sz)) 0 0 (va_A (wTB cB t0 t1 tn tv tk) sz) := by
  refine kofW (y := yJ5_putStringAt_47b60) (cc := cJ5_putStringAt_47b60) (maxL := 3) (ret := none) (plainFor_of_name (x := yJ5_putStringAt_47b60) kpl_J5) rfl ?_
  intro p e s m args below meth c s₁ B hml hv
  obtain ⟨rfl, hsz, hP, hK, hD0, hG, hZ, hT⟩ := hv
  have hx := B.exec
  have hb := B.bytes
  have hr := B.returns
  have hts := atoms_spec (ws := wsJ5_putStringAt_47b60) B.pre
  have hown : s.vm.findClass RJ5 = some m.cls := findClass_of_methodNamed B.named
  have hlocks := B.notSynchronized
  subst hsz
  have hD := hD0.self (sz := s.heap.size)
  generalize hAe : va_A (wTB cB t0 t1 tn tv tk) s.heap.size = A at hD hZ hT ⊢
  have hA : ∀ q : Nat, s.heap.size ≤ q → A q := fun q h => by rw [← hAe]; exact Or.inr h
  have hS : va_S A s.heap s.heap [] := va_S.rf
  clear hAe
  have hw0 := hts (.fieldLink RJ5 15 "java/lang/AbstractStringBuilder" "value" "[B") (List.mem_cons_of_mem _ kw_700)
  have hw1 := hts (.fieldLink RJ5 22 "java/lang/AbstractStringBuilder" "coder" "B") (List.mem_cons_of_mem _ kw_701)
  have hiJ4 : ∀ w ∈ u_ws RJ4 TJ4 4, w ∈ wsJ5_putStringAt_47b60 := fun w h => List.mem_cons_of_mem _ (ku_J4 w h)
  have hl := lv_entry ([.ref t0, .int p0, .ref kS]) (n := 3) (Nat.le_of_ble_eq_true rfl)
  rw [lg_entry_eq]
  generalize (lg_sl ([.ref t0, .int p0, .ref kS]) ++ List.replicate (3 - (lg_sl ([.ref t0, .int p0, .ref kS])).length) Slot.unset).toArray = ls at hl ⊢
  have hl : lv_has ls 3 (kvA 0 t0 (kvI 1 p0 (kvA 2 kS kvE))) := hl
  have h := f_J5_putStringAt_47b60_e.symm.trans hf
  refine lv_aload_n hx hb (kdr dgJ5_putStringAt_47b60_0 0 0 rfl rfl) rfl (lv_at hl 0 rfl) ?_
  refine lv_aload_n hx hb (kdr dgJ5_putStringAt_47b60_0 0 1 rfl rfl) rfl (lv_at hl 2 rfl) ?_
  obtain ⟨r1, g1, h⟩ := g_b h
  refine kcall_v (wTB cB t0 t1 tn tv tk) (va_runU (As := [.ref kS]) (rest := []) ⟨hx, hb, hml, hown, hts⟩ (c_J5_inflateIfNeededFor_a7421 l dC dI cB cI cJ cZ kS zV t0 t1 _ tn tv tk  r1 g1) (kcwU hts kw_908 kv_J5_inflateIfNeededFor_a7421 rfl rfl ⟨(Nat.le_of_ble_eq_true rfl), (Nat.le_of_ble_eq_true rfl)⟩) (kpVT hT (hP.sub (kIT mk_8 0) (km_f (m := mk_8) rfl rfl)) hK (hD.sub (kIT mk_8 0) (km_nd mk_8) (km_T (m := mk_8) rfl rfl)) hG hZ hS hD hA (kIT mk_8 0) (km_T (m := mk_8) rfl rfl) (krecv_1 (q0 := 0) hK hP rfl)) rfl rfl hl.1 rfl (lv_room (Nat.le_of_ble_eq_true rfl)) (kdr dgJ5_putStringAt_47b60_0 0 2 rfl rfl) ⟨(Nat.le_of_ble_eq_true rfl), (Nat.le_of_ble_eq_true rfl)⟩) hP hD hS hA (kIT mk_8 0) (kIT mk_7 0) (km_T (m := mk_8) rfl rfl) (km_T (m := mk_8) rfl rfl) [] (km_T (m := mk_7) rfl rfl) (km_T (m := mk_7) rfl rfl) (km_cov (m := mk_8) (n := mk_7) rfl rfl) (km_dis (m := mk_8) (n := mk_7) rfl) rfl (fun H locs hP hD hS => ?_)
  refine lv_aload_n hx hb (kdr dgJ5_putStringAt_47b60_0 0 3 rfl rfl) rfl (lv_at hl 2 rfl) ?_
  refine lv_aload_n hx hb (kdr dgJ5_putStringAt_47b60_0 0 4 rfl rfl) rfl (lv_at hl 0 rfl) ?_
  refine va_get (D := (dC, dI)) (ci := 1) (v := .ref t1) (C := RJ4) (T := TJ4) (N := 4) hx hb hts hiJ4 hown hK hP 0 rfl rfl 0 (by decide) hw0 (fun _ h9 => h9) rfl (kdr dgJ5_putStringAt_47b60_0 0 5 rfl rfl) ?_
  refine lv_iload_n hx hb (kdr dgJ5_putStringAt_47b60_0 0 6 rfl rfl) rfl (lv_at hl 1 rfl) ?_
  refine lv_aload_n hx hb (kdr dgJ5_putStringAt_47b60_0 0 7 rfl rfl) rfl (lv_at hl 0 rfl) ?_
  refine va_get (D := (dC, dI)) (ci := 1) (v := .int 0) (C := RJ4) (T := TJ4) (N := 4) hx hb hts hiJ4 hown hK hP 0 rfl rfl 1 (by decide) hw1 (fun _ h9 => h9) rfl (kdr dgJ5_putStringAt_47b60_0 0 8 rfl rfl) ?_
  obtain ⟨r2, g2, h⟩ := g_b h
  refine kcall_v (wTB cB t0 t1 tn r2 tk) (va_runV (As := [.ref t1, .int p0, .int 0]) (rest := []) ⟨hx, hb, hml, hown, hts⟩ (c_J0_getBytes_840e7 l dC dI cB cI cJ cZ kS zV t1 tn _ tv p0 0 r2 g2) (kcwV hts kw_913 kv_J0_getBytes_840e7 rfl rfl ⟨(Nat.le_of_ble_eq_true rfl), (Nat.le_of_ble_eq_true rfl)⟩) (kpVT hT (hP.sub (kIT mk_0 0) (km_f (m := mk_0) rfl rfl)) hK (hD.sub (kIT mk_0 0) (km_nd mk_0) (km_T (m := mk_0) rfl rfl)) hG hZ hS hD hA (kIT mk_0 0) (km_T (m := mk_0) rfl rfl) (kSp_recv hT hS)) rfl rfl hl.1 rfl (lv_room (Nat.le_of_ble_eq_true rfl)) (kdr dgJ5_putStringAt_47b60_0 0 9 rfl rfl) ⟨(Nat.le_of_ble_eq_true rfl), (Nat.le_of_ble_eq_true rfl)⟩) hP hD hS hA (kIT mk_0 0) (kIT mk_1 0) (km_T (m := mk_0) rfl rfl) (km_T (m := mk_0) rfl rfl) [(t0, .inr (1, [.ref t1, .int 0, .int 0, .int tk]))] (km_T (m := mk_1) rfl rfl) (km_T (m := mk_1) rfl rfl) (km_cov (m := mk_0) (n := mk_1) rfl rfl) (km_dis (m := mk_0) (n := mk_1) rfl) rfl (fun H locs hP hD hS => ?_)
  have h := Option.some.inj h
  subst h
  exact kret_v hx hb hr hlocks hS hP (kdr dgJ5_putStringAt_47b60_0 1 0 rfl rfl)
noncomputable abbrev wsJ5_append_cf1ce : List Cond := kWs yJ5_append_cf1ce cJ5_append_cf1ce 3 (some (.object "java/lang/AbstractStringBuilder"))
noncomputable def f_J5_append_cf1ce (tn : Nat) (tv : Nat → Int32) (tk : Int32) : Option ((Nat) × (Nat → Int32) × (Int32)) :=
  (f_J0_length_8abf5).bind fun r1 =>
  (f_J5_ensureCapacityInternal_d00df tn tv tk (tk + r1)).bind fun r2 =>
  (f_J5_putStringAt_47b60 r2.1 r2.2.1 r2.2.2).bind fun r3 =>
  some (r2.1, r3, r2.2.2 + r1)
theorem f_J5_append_cf1ce_e {tn : Nat} {tv : Nat → Int32} {tk : Int32} : f_J5_append_cf1ce tn tv tk = 
  (f_J0_length_8abf5).bind fun r1 =>
  (f_J5_ensureCapacityInternal_d00df tn tv tk (tk + r1)).bind fun r2 =>
  (f_J5_putStringAt_47b60 r2.1 r2.2.1 r2.2.2).bind fun r3 =>
  some (r2.1, r3, r2.2.2 + r1) := rfl
set_option maxHeartbeats 4000000 in
set_option maxRecDepth 100000 in
theorem c_J5_append_cf1ce (l : Launch) (dC : Nat → ClassId) (dI : Nat → Nat → Nat) (cB cI cJ cZ : ClassId) (kS : Nat) (zV : Nat) (t0 : Nat) (t1 : Nat) (sz : Nat) (tn : Nat) (tv : Nat → Int32) (tk : Int32) (res : (Nat) × (Nat → Int32) × (Int32)) (hf : f_J5_append_cf1ce tn tv tk = some res) : Met l yJ5_append_cf1ce wsJ5_append_cf1ce (kRm 4 1 64 110) (kPreS (dC, dI) (kTy cB cI cJ cZ) [.ref t0, .ref kS] sz (wTB cB t0 t1 tn tv tk) kS zV) (kAu (dC, dI) t0 (fun u => (wTB cB t0 (u 0) (res.1) (res.2.1) (res.2.2))) (va_A (wTB cB t0 t1 tn tv tk) sz)) 1 64 (va_A (wTB cB t0 t1 tn tv tk) sz) := by
  refine kofW (y := yJ5_append_cf1ce) (cc := cJ5_append_cf1ce) (maxL := 3) (ret := (some (.object "java/lang/AbstractStringBuilder"))) (plainFor_of_name (x := yJ5_append_cf1ce) kpl_J5) rfl ?_
  intro p e s m args below meth c s₁ B hml hv
  obtain ⟨rfl, hsz, hP, hK, hD0, hG, hZ, hT⟩ := hv
  have hx := B.exec
  have hb := B.bytes
  have hr := B.returns
  have hts := atoms_spec (ws := wsJ5_append_cf1ce) B.pre
  have hown : s.vm.findClass RJ5 = some m.cls := findClass_of_methodNamed B.named
  have hlocks := B.notSynchronized
  subst hsz
  have hD := hD0.self (sz := s.heap.size)
  generalize hAe : va_A (wTB cB t0 t1 tn tv tk) s.heap.size = A at hD hZ hT ⊢
  have hA : ∀ q : Nat, s.heap.size ≤ q → A q := fun q h => by rw [← hAe]; exact Or.inr h
  have hS : va_S A s.heap s.heap [] := va_S.rf
  clear hAe
  have hw0 := hts (.fieldLink RJ5 79 "java/lang/AbstractStringBuilder" "count" "I") (List.mem_cons_of_mem _ kw_703)
  have hiJ4 : ∀ w ∈ u_ws RJ4 TJ4 4, w ∈ wsJ5_append_cf1ce := fun w h => List.mem_cons_of_mem _ (ku_J4 w h)
  have hl := lv_entry ([.ref t0, .ref kS]) (n := 3) (Nat.le_of_ble_eq_true rfl)
  rw [lg_entry_eq]
  generalize (lg_sl ([.ref t0, .ref kS]) ++ List.replicate (3 - (lg_sl ([.ref t0, .ref kS])).length) Slot.unset).toArray = ls at hl ⊢
  have hl : lv_has ls 3 (kvA 0 t0 (kvA 1 kS kvE)) := hl
  have h := f_J5_append_cf1ce_e.symm.trans hf
  refine lv_aload_n hx hb (kdr dgJ5_append_cf1ce_0 0 0 rfl rfl) rfl (lv_at hl 1 rfl) ?_
  refine lv_ifnonnull (tgt := 9) hx hb (kdr dgJ5_append_cf1ce_0 0 1 rfl rfl) (by decide) ?_
  refine lv_aload_n hx hb (kdr dgJ5_append_cf1ce_0 0 5 rfl rfl) rfl (lv_at hl 1 rfl) ?_
  obtain ⟨r1, g1, h⟩ := g_b h
  refine kcall_i (wTB cB t0 t1 tn tv tk) (va_runV (As := []) (rest := []) ⟨hx, hb, hml, hown, hts⟩ (c_J0_length_8abf5 l dC dI cB cI cJ cZ kS zV _   r1 g1) (kcwV hts kw_895 kv_J0_length_8abf5 rfl rfl ⟨(Nat.le_of_ble_eq_true rfl), (Nat.le_of_ble_eq_true rfl)⟩) (kpVT hT (kPnil) hK ((kDnil (A := A))) hG hZ hS hD hA (kIT mk_7 0) (km_T (m := mk_7) rfl rfl) (kSp_recv hT hS)) rfl rfl hl.1 rfl (lv_room (Nat.le_of_ble_eq_true rfl)) (kdr dgJ5_append_cf1ce_0 0 6 rfl rfl) ⟨(Nat.le_of_ble_eq_true rfl), (Nat.le_of_ble_eq_true rfl)⟩) hP hD hS hA (kIT mk_7 0) (kIT mk_8 0) (km_T (m := mk_7) rfl rfl) (km_T (m := mk_7) rfl rfl) [(t0, .inr (1, [.ref t1, .int 0, .int 0, .int tk])), (t1, .inl (cB, tn, .inl tv))] (km_T (m := mk_8) rfl rfl) (km_T (m := mk_8) rfl rfl) (km_cov (m := mk_7) (n := mk_8) rfl rfl) (km_dis (m := mk_7) (n := mk_8) rfl) rfl (fun H locs hP hD hS br1 => ?_)
  refine lv_istore_n (lv' := (kvI 2 r1 (kvA 0 t0 (kvA 1 kS kvE)))) hx hb (kdr dgJ5_append_cf1ce_0 0 7 rfl rfl) rfl hl (by decide) rfl (fun ls hl => ?_)
  refine lv_aload_n hx hb (kdr dgJ5_append_cf1ce_0 0 8 rfl rfl) rfl (lv_at hl 1 rfl) ?_
  refine lv_aload_n hx hb (kdr dgJ5_append_cf1ce_0 0 9 rfl rfl) rfl (lv_at hl 1 rfl) ?_
  refine va_get (D := (dC, dI)) (ci := 1) (v := .int tk) (C := RJ4) (T := TJ4) (N := 4) hx hb hts hiJ4 hown hK hP 0 rfl rfl 3 (by decide) hw0 (fun _ h9 => h9) rfl (kdr dgJ5_append_cf1ce_0 1 0 rfl rfl) ?_
  refine lv_iload_n hx hb (kdr dgJ5_append_cf1ce_0 1 1 rfl rfl) rfl (lv_at hl 0 rfl) ?_
  refine lv_iadd hx hb (kdr dgJ5_append_cf1ce_0 1 2 rfl rfl) ?_
  obtain ⟨r2, g2, h⟩ := g_b h
  refine kcall_vu (fun u2 => (wTB cB t0 (u2 0) r2.1 r2.2.1 r2.2.2)) (va_runU (As := [.int (tk + r1)]) (rest := []) ⟨hx, hb, hml, hown, hts⟩ (c_J5_ensureCapacityInternal_d00df l dC dI cB cI cJ cZ t0 t1 _ tn tv tk (tk + r1) r2 g2) (kcwU hts kw_723 kv_J5_ensureCapacityInternal_d00df rfl rfl ⟨(Nat.le_of_ble_eq_true rfl), (Nat.le_of_ble_eq_true rfl)⟩) (kpV (A := A) (hP.sub [0, 1] rfl) hK (hD.sub [0, 1] (by decide) rfl) hG (krecv_1 (q0 := 0) hK hP rfl)) rfl rfl hl.1 rfl (lv_room (Nat.le_of_ble_eq_true rfl)) (kdr dgJ5_append_cf1ce_0 1 3 rfl rfl) ⟨(Nat.le_of_ble_eq_true rfl), (Nat.le_of_ble_eq_true rfl)⟩) hP hD hS hA [0, 1] [] rfl [] rfl (by decide) (by decide) (fun u2 H locs hP hD hS => ?_)
  have hP := hP.sub (ws' := [(t0, .inr (1, [.ref (u2 0), .int 0, .int 0, .int r2.2.2])), ((u2 0), .inl (cB, r2.1, .inl r2.2.1))]) [0, 1] rfl
  have hD := hD.sub (ws' := [(t0, .inr (1, [.ref (u2 0), .int 0, .int 0, .int r2.2.2])), ((u2 0), .inl (cB, r2.1, .inl r2.2.1))]) [0, 1] (by decide) rfl
  refine lv_aload_n hx hb (kdr dgJ5_append_cf1ce_0 1 4 rfl rfl) rfl (lv_at hl 1 rfl) ?_
  refine lv_aload_n hx hb (kdr dgJ5_append_cf1ce_0 1 5 rfl rfl) rfl (lv_at hl 1 rfl) ?_
  refine va_get (D := (dC, dI)) (ci := 1) (v := .int r2.2.2) (C := RJ4) (T := TJ4) (N := 4) hx hb hts hiJ4 hown hK hP 0 rfl rfl 3 (by decide) hw0 (fun _ h9 => h9) rfl (kdr dgJ5_append_cf1ce_0 1 6 rfl rfl) ?_
  refine lv_aload_n hx hb (kdr dgJ5_append_cf1ce_0 1 7 rfl rfl) rfl (lv_at hl 2 rfl) ?_
  obtain ⟨r3, g3, h⟩ := g_b h
  refine kcall_v [(t0, .inr (1, [.ref (u2 0), .int 0, .int 0, .int r2.2.2])), ((u2 0), .inl (cB, r2.1, .inl r3))] (va_runU (As := [.int r2.2.2, .ref kS]) (rest := []) ⟨hx, hb, hml, hown, hts⟩ (c_J5_putStringAt_47b60 l dC dI cB cI cJ cZ kS zV t0 (u2 0) _ r2.1 r2.2.1 r2.2.2 r2.2.2 r3 g3) (kcwU hts kw_904 kv_J5_putStringAt_47b60 rfl rfl ⟨(Nat.le_of_ble_eq_true rfl), (Nat.le_of_ble_eq_true rfl)⟩) (kpVT hT (hP.sub (kIT mk_8 0) (km_f (m := mk_8) rfl rfl)) hK (hD.sub (kIT mk_8 0) (km_nd mk_8) (km_T (m := mk_8) rfl rfl)) hG hZ hS hD hA (kIT mk_8 0) (km_T (m := mk_8) rfl rfl) (krecv_1 (q0 := 0) hK hP rfl)) rfl rfl hl.1 rfl (lv_room (Nat.le_of_ble_eq_true rfl)) (kdr dgJ5_append_cf1ce_0 1 8 rfl rfl) ⟨(Nat.le_of_ble_eq_true rfl), (Nat.le_of_ble_eq_true rfl)⟩) hP hD hS hA (kIT mk_8 0) (kIT mk_7 0) (km_T (m := mk_8) rfl rfl) (km_T (m := mk_8) rfl rfl) [] (km_T (m := mk_7) rfl rfl) (km_T (m := mk_7) rfl rfl) (km_cov (m := mk_8) (n := mk_7) rfl rfl) (km_dis (m := mk_8) (n := mk_7) rfl) rfl (fun H locs hP hD hS => ?_)
  refine lv_aload_n hx hb (kdr dgJ5_append_cf1ce_0 1 9 rfl rfl) rfl (lv_at hl 1 rfl) ?_
  refine lv_dup hx hb (kdr dgJ5_append_cf1ce_0 2 0 rfl rfl) rfl ?_
  refine va_get (D := (dC, dI)) (ci := 1) (v := .int r2.2.2) (C := RJ4) (T := TJ4) (N := 4) hx hb hts hiJ4 hown hK hP 0 rfl rfl 3 (by decide) hw0 (fun _ h9 => h9) rfl (kdr dgJ5_append_cf1ce_0 2 1 rfl rfl) ?_
  refine lv_iload_n hx hb (kdr dgJ5_append_cf1ce_0 2 2 rfl rfl) rfl (lv_at hl 0 rfl) ?_
  refine lv_iadd hx hb (kdr dgJ5_append_cf1ce_0 2 3 rfl rfl) ?_
  refine va_put (D := (dC, dI)) (ci := 1) (v := .int (r2.2.2 + r1)) (ty := .int) (C := RJ4) (T := TJ4) (N := 4) hx hb hts hiJ4 tyJ4 tyJ4_ok nmJ4 hown hK hP hD hS 0 rfl rfl 3 (by decide) hw0 (fun _ h9 => h9) rfl (by decide +kernel) rfl rfl (Nat.le_of_ble_eq_true rfl) (kdr dgJ5_append_cf1ce_0 2 4 rfl rfl) (fun H locs hP hD hS => ?_)
  have hP : va_P (dC, dI) vwCl [(t0, .inr (1, [.ref (u2 0), .int 0, .int 0, .int (r2.2.2 + r1)])), ((u2 0), .inl (cB, r2.1, .inl r3))] H := hP
  have hD : va_D A [(t0, .inr (1, [.ref (u2 0), .int 0, .int 0, .int (r2.2.2 + r1)])), ((u2 0), .inl (cB, r2.1, .inl r3))] := hD
  refine lv_aload_n hx hb (kdr dgJ5_append_cf1ce_0 2 5 rfl rfl) rfl (lv_at hl 1 rfl) ?_
  have hP := hP.sub (ws' := (wTB cB t0 (u2 0) r2.1 r3 (r2.2.2 + r1))) [0, 1] rfl
  have hD := hD.sub (ws' := (wTB cB t0 (u2 0) r2.1 r3 (r2.2.2 + r1))) [0, 1] (by decide) rfl
  have h := Option.some.inj h
  subst h
  refine W.widen (k := 1) (n := 64) (Nat.le_of_ble_eq_true rfl) (Nat.le_of_ble_eq_true rfl) ?_
  exact kret_au (u := (kcons (u2 0) (fun _ => 0))) hx hb hr (Or.inl ⟨_, rfl⟩) hlocks hS hP hD (kdr dgJ5_append_cf1ce_0 2 6 rfl rfl)
noncomputable abbrev wsJ4_append_15ec4 : List Cond := kWs yJ4_append_15ec4 cJ4_append_15ec4 2 (some (.object "java/lang/StringBuilder"))
noncomputable def f_J4_append_15ec4 (tn : Nat) (tv : Nat → Int32) (tk : Int32) : Option ((Nat) × (Nat → Int32) × (Int32)) :=
  (f_J5_append_cf1ce tn tv tk).bind fun r1 =>
  some (r1.1, r1.2.1, r1.2.2)
theorem f_J4_append_15ec4_e {tn : Nat} {tv : Nat → Int32} {tk : Int32} : f_J4_append_15ec4 tn tv tk = 
  (f_J5_append_cf1ce tn tv tk).bind fun r1 =>
  some (r1.1, r1.2.1, r1.2.2) := rfl
set_option maxHeartbeats 4000000 in
set_option maxRecDepth 100000 in
theorem c_J4_append_15ec4 (l : Launch) (dC : Nat → ClassId) (dI : Nat → Nat → Nat) (cB cI cJ cZ : ClassId) (kS : Nat) (zV : Nat) (t0 : Nat) (t1 : Nat) (sz : Nat) (tn : Nat) (tv : Nat → Int32) (tk : Int32) (res : (Nat) × (Nat → Int32) × (Int32)) (hf : f_J4_append_15ec4 tn tv tk = some res) : Met l yJ4_append_15ec4 wsJ4_append_15ec4 (kRm 5 1 64 132) (kPreS (dC, dI) (kTy cB cI cJ cZ) [.ref t0, .ref kS] sz (wTB cB t0 t1 tn tv tk) kS zV) (kAu (dC, dI) t0 (fun u => (wTB cB t0 (u 0) (res.1) (res.2.1) (res.2.2))) (va_A (wTB cB t0 t1 tn tv tk) sz)) 1 64 (va_A (wTB cB t0 t1 tn tv tk) sz) := by
  refine kofW (y := yJ4_append_15ec4) (cc := cJ4_append_15ec4) (maxL := 2) (ret := (some (.object "java/lang/StringBuilder"))) (plainFor_of_name (x := yJ4_append_15ec4) kpl_J4) rfl ?_
  intro p e s m args below meth c s₁ B hml hv
  obtain ⟨rfl, hsz, hP, hK, hD0, hG, hZ, hT⟩ := hv
  have hx := B.exec
  have hb := B.bytes
  have hr := B.returns
  have hts := atoms_spec (ws := wsJ4_append_15ec4) B.pre
  have hown : s.vm.findClass RJ4 = some m.cls := findClass_of_methodNamed B.named
  have hlocks := B.notSynchronized
  subst hsz
  have hD := hD0.self (sz := s.heap.size)
  generalize hAe : va_A (wTB cB t0 t1 tn tv tk) s.heap.size = A at hD hZ hT ⊢
  have hA : ∀ q : Nat, s.heap.size ≤ q → A q := fun q h => by rw [← hAe]; exact Or.inr h
  have hS : va_S A s.heap s.heap [] := va_S.rf
  clear hAe
  have hl := lv_entry ([.ref t0, .ref kS]) (n := 2) (Nat.le_of_ble_eq_true rfl)
  rw [lg_entry_eq]
  generalize (lg_sl ([.ref t0, .ref kS]) ++ List.replicate (2 - (lg_sl ([.ref t0, .ref kS])).length) Slot.unset).toArray = ls at hl ⊢
  have hl : lv_has ls 2 (kvA 0 t0 (kvA 1 kS kvE)) := hl
  have h := f_J4_append_15ec4_e.symm.trans hf
  refine lv_aload_n hx hb (kdr dgJ4_append_15ec4_0 0 0 rfl rfl) rfl (lv_at hl 0 rfl) ?_
  refine lv_aload_n hx hb (kdr dgJ4_append_15ec4_0 0 1 rfl rfl) rfl (lv_at hl 1 rfl) ?_
  obtain ⟨r1, g1, h⟩ := g_b h
  refine kcall_au (fun u1 => (wTB cB t0 (u1 0) r1.1 r1.2.1 r1.2.2)) (va_runSU (hK.1 1 _ rfl).2 (As := [.ref kS]) (rest := []) ⟨hx, hb, hml, hown, hts⟩ (c_J5_append_cf1ce l dC dI cB cI cJ cZ kS zV t0 t1 _ tn tv tk  r1 g1) (kcwSU hts kw_885 kv_J5_append_cf1ce rfl rfl ⟨(Nat.le_of_ble_eq_true rfl), (Nat.le_of_ble_eq_true rfl)⟩) (kpVT hT (hP.sub [0, 1] rfl) hK (hD.sub [0, 1] (by decide) rfl) hG hZ hS hD hA [0, 1] rfl (krecv_1 (q0 := 0) hK hP rfl)) rfl rfl hl.1 rfl (lv_room (Nat.le_of_ble_eq_true rfl)) (kdr dgJ4_append_15ec4_0 0 2 rfl rfl) ⟨(Nat.le_of_ble_eq_true rfl), (Nat.le_of_ble_eq_true rfl)⟩) hP hD hS hA [0, 1] [] rfl [] rfl (by decide) (by decide) (fun u1 H locs hP hD hS => ?_)
  have hP := hP.sub (ws' := [(t0, .inr (1, [.ref (u1 0), .int 0, .int 0, .int r1.2.2])), ((u1 0), .inl (cB, r1.1, .inl r1.2.1))]) [0, 1] rfl
  have hD := hD.sub (ws' := [(t0, .inr (1, [.ref (u1 0), .int 0, .int 0, .int r1.2.2])), ((u1 0), .inl (cB, r1.1, .inl r1.2.1))]) [0, 1] (by decide) rfl
  refine lv_pop hx hb (kdr dgJ4_append_15ec4_0 0 3 rfl rfl) rfl ?_
  refine lv_aload_n hx hb (kdr dgJ4_append_15ec4_0 0 4 rfl rfl) rfl (lv_at hl 0 rfl) ?_
  have hP := hP.sub (ws' := (wTB cB t0 (u1 0) r1.1 r1.2.1 r1.2.2)) [0, 1] rfl
  have hD := hD.sub (ws' := (wTB cB t0 (u1 0) r1.1 r1.2.1 r1.2.2)) [0, 1] (by decide) rfl
  have h := Option.some.inj h
  subst h
  refine W.widen (k := 1) (n := 64) (Nat.le_of_ble_eq_true rfl) (Nat.le_of_ble_eq_true rfl) ?_
  exact kret_au (u := (kcons (u1 0) (fun _ => 0))) hx hb hr (Or.inl ⟨_, rfl⟩) hlocks hS hP hD (kdr dgJ4_append_15ec4_0 0 5 rfl rfl)
noncomputable abbrev wsX0_init : List Cond := kWs yX0_init cX0_init 1 none
noncomputable def f_X0_init : Option (Unit) :=
  some ()
theorem f_X0_init_e : f_X0_init = 
  some () := rfl
set_option maxHeartbeats 4000000 in
set_option maxRecDepth 100000 in
theorem c_X0_init (l : Launch) (dC : Nat → ClassId) (dI : Nat → Nat → Nat) (cB cI cJ cZ : ClassId) (h0 : Nat) (sz : Nat) (res : Unit) (hf : f_X0_init = some res) : Met l yX0_init wsX0_init (kRm 1 3 33 20) (kPre (dC, dI) (kTy cB cI cJ cZ) [.ref h0] sz [(h0, .inr (2, [.null, .null, .null, .int 0]))]) (kVu (dC, dI) (fun u => (wRow cJ cZ h0 (u 0) (u 1) (u 2) (fun _ => 0) (fun _ => 0) (fun _ => 0) 0)) (va_A [(h0, .inr (2, [.null, .null, .null, .int 0]))] sz)) 3 33 (va_A [(h0, .inr (2, [.null, .null, .null, .int 0]))] sz) := by
  refine Met.ofW (cc := cX0_init) (maxL := 1) (ret := none) (by decide) rfl ?_
  intro p e s m args below meth c s₁ B hml hv
  obtain ⟨rfl, hsz, hP, hK, hD0, hG⟩ := hv
  have hx := B.exec
  have hb := B.bytes
  have hr := B.returns
  have hts := atoms_spec (ws := wsX0_init) B.pre
  have hown : s.vm.findClass RX0 = some m.cls := findClass_of_methodNamed B.named
  have hlocks := B.notSynchronized
  subst hsz
  have hD := hD0.self (sz := s.heap.size)
  generalize hAe : va_A [(h0, .inr (2, [.null, .null, .null, .int 0]))] s.heap.size = A at hD ⊢
  have hA : ∀ q : Nat, s.heap.size ≤ q → A q := fun q h => by rw [← hAe]; exact Or.inr h
  have hS : va_S A s.heap s.heap [] := va_S.rf
  clear hAe
  have hin : meth.name = "<init>" := (name_of_methodNamed B.named B.method).1
  have hw0 := hts (.methodLink RX0 3 objectInit) (List.mem_cons_of_mem _ kw_91)
  have hw1 := hts (.instanceMethod objectInit) (List.mem_cons_of_mem _ kw_83)
  have hw2 := hts (.code objectInit ⟨#[0xb1]⟩ 1 none) (List.mem_cons_of_mem _ kw_84)
  have hw3 := hts (.arrayClass .long) (List.mem_cons_of_mem _ kw_105)
  have hw4 := hts (.fieldLink RX0 9 "Spanbooker$Row" "begins" "[J") (List.mem_cons_of_mem _ kw_92)
  have hw5 := hts (.fieldLink RX0 15 "Spanbooker$Row" "ends" "[J") (List.mem_cons_of_mem _ kw_93)
  have hw6 := hts (.arrayClass .boolean) (List.mem_cons_of_mem _ kw_106)
  have hw7 := hts (.fieldLink RX0 18 "Spanbooker$Row" "overs" "[Z") (List.mem_cons_of_mem _ kw_94)
  have hiX0 : ∀ w ∈ u_ws RX0 TX0 4, w ∈ wsX0_init := fun w h => List.mem_cons_of_mem _ (ku_X0 w h)
  have hl := lv_entry ([.ref h0]) (n := 1) (Nat.le_of_ble_eq_true rfl)
  rw [lg_entry_eq]
  generalize (lg_sl ([.ref h0]) ++ List.replicate (1 - (lg_sl ([.ref h0])).length) Slot.unset).toArray = ls at hl ⊢
  have hl : lv_has ls 1 (kvA 0 h0 kvE) := hl
  have h := f_X0_init_e.symm.trans hf
  refine lv_aload_n hx hb (kdr dgX0_init_0 0 0 rfl rfl) rfl (lv_at hl 0 rfl) ?_
  refine W.objInit hx hb hown hw0 hw1 hw2 rfl (by rw [hml]; exact hl.1) rfl (kdr dgX0_init_0 0 1 rfl rfl) (Nat.le_of_ble_eq_true rfl) (Nat.le_of_ble_eq_true rfl) ?_
  refine W.eq (g2 := F0 m 4 ls []) rfl ?_
  refine lv_aload_n hx hb (kdr dgX0_init_0 0 2 rfl rfl) rfl (lv_at hl 0 rfl) ?_
  refine lv_bipush (v := 11) hx hb (kdr dgX0_init_0 0 3 rfl rfl) (by decide) ?_
  refine va_newa (atype := .long) (ty := .long) (a0 := (11, .inr (.inl (fun _ => 0)))) hx hb hw3 rfl hK hP hD hS hA (fun _ => rfl) (by decide) (by decide) (Nat.le_of_ble_eq_true rfl) (Nat.le_of_ble_eq_true rfl) (Nat.le_of_ble_eq_true rfl) dX0_init_7 (fun qn0 cA H hK9 hP hD hS => ?_)
  have e9 : cA = cJ := k_cA hK9 2 rfl
  rw [e9] at hP hD
  have hP : va_P (dC, dI) vwCl [(h0, .inr (2, [.null, .null, .null, .int 0])), (qn0, .inl (cJ, 11, .inr (.inl (fun _ => 0))))] H := hP
  have hD : va_D A [(h0, .inr (2, [.null, .null, .null, .int 0])), (qn0, .inl (cJ, 11, .inr (.inl (fun _ => 0))))] := hD
  refine va_putF (D := (dC, dI)) (ci := 2) (v := .ref qn0) (ty := (.array .long)) (C := RX0) (T := TX0) (N := 4) hx hb hts hiX0 tyX0 tyX0_ok nmX0 hown hK hP hD hS 0 rfl rfl 0 (by decide) hw4 (fun _ h9 => h9) rfl hin rfl (by decide +kernel) rfl rfl (Nat.le_of_ble_eq_true rfl) (kdr dgX0_init_9 0 0 rfl rfl) (fun H locs hP hD hS => ?_)
  have hP : va_P (dC, dI) vwCl [(h0, .inr (2, [.ref qn0, .null, .null, .int 0])), (qn0, .inl (cJ, 11, .inr (.inl (fun _ => 0))))] H := hP
  have hD : va_D A [(h0, .inr (2, [.ref qn0, .null, .null, .int 0])), (qn0, .inl (cJ, 11, .inr (.inl (fun _ => 0))))] := hD
  refine lv_aload_n hx hb (kdr dgX0_init_9 0 1 rfl rfl) rfl (lv_at hl 0 rfl) ?_
  refine lv_bipush (v := 11) hx hb (kdr dgX0_init_9 0 2 rfl rfl) (by decide) ?_
  refine va_newa (atype := .long) (ty := .long) (a0 := (11, .inr (.inl (fun _ => 0)))) hx hb hw3 rfl hK hP hD hS hA (fun _ => rfl) (by decide) (by decide) (Nat.le_of_ble_eq_true rfl) (Nat.le_of_ble_eq_true rfl) (Nat.le_of_ble_eq_true rfl) dX0_init_15 (fun qn1 cA H hK9 hP hD hS => ?_)
  have e9 : cA = cJ := k_cA hK9 2 rfl
  rw [e9] at hP hD
  have hP : va_P (dC, dI) vwCl [(h0, .inr (2, [.ref qn0, .null, .null, .int 0])), (qn0, .inl (cJ, 11, .inr (.inl (fun _ => 0)))), (qn1, .inl (cJ, 11, .inr (.inl (fun _ => 0))))] H := hP
  have hD : va_D A [(h0, .inr (2, [.ref qn0, .null, .null, .int 0])), (qn0, .inl (cJ, 11, .inr (.inl (fun _ => 0)))), (qn1, .inl (cJ, 11, .inr (.inl (fun _ => 0))))] := hD
  refine va_putF (D := (dC, dI)) (ci := 2) (v := .ref qn1) (ty := (.array .long)) (C := RX0) (T := TX0) (N := 4) hx hb hts hiX0 tyX0 tyX0_ok nmX0 hown hK hP hD hS 0 rfl rfl 1 (by decide) hw5 (fun _ h9 => h9) rfl hin rfl (by decide +kernel) rfl rfl (Nat.le_of_ble_eq_true rfl) (kdr dgX0_init_17 0 0 rfl rfl) (fun H locs hP hD hS => ?_)
  have hP : va_P (dC, dI) vwCl [(h0, .inr (2, [.ref qn0, .ref qn1, .null, .int 0])), (qn0, .inl (cJ, 11, .inr (.inl (fun _ => 0)))), (qn1, .inl (cJ, 11, .inr (.inl (fun _ => 0))))] H := hP
  have hD : va_D A [(h0, .inr (2, [.ref qn0, .ref qn1, .null, .int 0])), (qn0, .inl (cJ, 11, .inr (.inl (fun _ => 0)))), (qn1, .inl (cJ, 11, .inr (.inl (fun _ => 0))))] := hD
  refine lv_aload_n hx hb (kdr dgX0_init_17 0 1 rfl rfl) rfl (lv_at hl 0 rfl) ?_
  refine lv_bipush (v := 11) hx hb (kdr dgX0_init_17 0 2 rfl rfl) (by decide) ?_
  refine va_newa (atype := .boolean) (ty := .boolean) (a0 := (11, .inl (fun _ => 0))) hx hb hw6 rfl hK hP hD hS hA (fun _ => rfl) (by decide) (by decide) (Nat.le_of_ble_eq_true rfl) (Nat.le_of_ble_eq_true rfl) (Nat.le_of_ble_eq_true rfl) dX0_init_23 (fun qn2 cA H hK9 hP hD hS => ?_)
  have e9 : cA = cZ := k_cA hK9 3 rfl
  rw [e9] at hP hD
  have hP : va_P (dC, dI) vwCl [(h0, .inr (2, [.ref qn0, .ref qn1, .null, .int 0])), (qn0, .inl (cJ, 11, .inr (.inl (fun _ => 0)))), (qn1, .inl (cJ, 11, .inr (.inl (fun _ => 0)))), (qn2, .inl (cZ, 11, .inl (fun _ => 0)))] H := hP
  have hD : va_D A [(h0, .inr (2, [.ref qn0, .ref qn1, .null, .int 0])), (qn0, .inl (cJ, 11, .inr (.inl (fun _ => 0)))), (qn1, .inl (cJ, 11, .inr (.inl (fun _ => 0)))), (qn2, .inl (cZ, 11, .inl (fun _ => 0)))] := hD
  refine va_putF (D := (dC, dI)) (ci := 2) (v := .ref qn2) (ty := (.array .boolean)) (C := RX0) (T := TX0) (N := 4) hx hb hts hiX0 tyX0 tyX0_ok nmX0 hown hK hP hD hS 0 rfl rfl 2 (by decide) hw7 (fun _ h9 => h9) rfl hin rfl (by decide +kernel) rfl rfl (Nat.le_of_ble_eq_true rfl) (kdr dgX0_init_25 0 0 rfl rfl) (fun H locs hP hD hS => ?_)
  have hP : va_P (dC, dI) vwCl [(h0, .inr (2, [.ref qn0, .ref qn1, .ref qn2, .int 0])), (qn0, .inl (cJ, 11, .inr (.inl (fun _ => 0)))), (qn1, .inl (cJ, 11, .inr (.inl (fun _ => 0)))), (qn2, .inl (cZ, 11, .inl (fun _ => 0)))] H := hP
  have hD : va_D A [(h0, .inr (2, [.ref qn0, .ref qn1, .ref qn2, .int 0])), (qn0, .inl (cJ, 11, .inr (.inl (fun _ => 0)))), (qn1, .inl (cJ, 11, .inr (.inl (fun _ => 0)))), (qn2, .inl (cZ, 11, .inl (fun _ => 0)))] := hD
  have hP := hP.sub (ws' := (wRow cJ cZ h0 qn0 qn1 qn2 (fun _ => 0) (fun _ => 0) (fun _ => 0) 0)) [0, 1, 2, 3] rfl
  have hD := hD.sub (ws' := (wRow cJ cZ h0 qn0 qn1 qn2 (fun _ => 0) (fun _ => 0) (fun _ => 0) 0)) [0, 1, 2, 3] (by decide) rfl
  have h := Option.some.inj h
  subst h
  refine W.widen (k := 3) (n := 33) (Nat.le_of_ble_eq_true rfl) (Nat.le_of_ble_eq_true rfl) ?_
  exact kret_vu (u := (kcons qn0 (kcons qn1 (kcons qn2 (fun _ => 0))))) hx hb hr hlocks hS hP hD (kdr dgX0_init_25 0 1 rfl rfl)
end
