noncomputable abbrev wsX1_init : List Cond := kWs yX1_init cX1_init 1 none
noncomputable def f_X1_init : Option (Unit) :=
  (f_X0_init).bind fun r1 =>
  (f_X0_init).bind fun r2 =>
  (f_X0_init).bind fun r3 =>
  some ()
theorem f_X1_init_e : f_X1_init = 
  (f_X0_init).bind fun r1 =>
  (f_X0_init).bind fun r2 =>
  (f_X0_init).bind fun r3 =>
  some () := rfl
set_option maxHeartbeats 4000000 in
set_option maxRecDepth 100000 in
theorem c_X1_init (l : Launch) (dC : Nat → ClassId) (dI : Nat → Nat → Nat) (cB cI cJ cZ : ClassId) (h0 : Nat) (sz : Nat) (res : Unit) (hf : f_X1_init = some res) : Met l yX1_init wsX1_init (kRm 2 14 126 40) (kPre (dC, dI) (kTy cB cI cJ cZ) [.ref h0] sz [(h0, .inr (3, [.null, .long 0, .long 0, .null, .null, .null, .null, .int 0, .int 0, .int 0]))]) (kVu (dC, dI) (fun u => (wSB cI cJ cZ (kcons h0 u) (fun _ => 0) 0 86400000000000 (fun _ => 0) (fun _ => 0) (fun _ => 0) 0 (fun _ => 0) (fun _ => 0) (fun _ => 0) 0 (fun _ => 0) (fun _ => 0) (fun _ => 0) 0 (fun _ => 0) 0 0 0)) (va_A [(h0, .inr (3, [.null, .long 0, .long 0, .null, .null, .null, .null, .int 0, .int 0, .int 0]))] sz)) 14 126 (va_A [(h0, .inr (3, [.null, .long 0, .long 0, .null, .null, .null, .null, .int 0, .int 0, .int 0]))] sz) := by
  refine Met.ofW (cc := cX1_init) (maxL := 1) (ret := none) (by decide) rfl ?_
  intro p e s m args below meth c s₁ B hml hv
  obtain ⟨rfl, hsz, hP, hK, hD0, hG⟩ := hv
  have hx := B.exec
  have hb := B.bytes
  have hr := B.returns
  have hts := atoms_spec (ws := wsX1_init) B.pre
  have hown : s.vm.findClass RX1 = some m.cls := findClass_of_methodNamed B.named
  have hlocks := B.notSynchronized
  subst hsz
  have hD := hD0.self (sz := s.heap.size)
  generalize hAe : va_A [(h0, .inr (3, [.null, .long 0, .long 0, .null, .null, .null, .null, .int 0, .int 0, .int 0]))] s.heap.size = A at hD ⊢
  have hA : ∀ q : Nat, s.heap.size ≤ q → A q := fun q h => by rw [← hAe]; exact Or.inr h
  have hS : va_S A s.heap s.heap [] := va_S.rf
  clear hAe
  have hin : meth.name = "<init>" := (name_of_methodNamed B.named B.method).1
  have hw0 := hts (.methodLink RX1 3 objectInit) (List.mem_cons_of_mem _ kw_82)
  have hw1 := hts (.instanceMethod objectInit) (List.mem_cons_of_mem _ kw_83)
  have hw2 := hts (.code objectInit ⟨#[0xb1]⟩ 1 none) (List.mem_cons_of_mem _ kw_84)
  have hw3 := hts (.arrayClass .long) (List.mem_cons_of_mem _ kw_105)
  have hw4 := hts (.fieldLink RX1 9 "Spanbooker" "cells" "[J") (List.mem_cons_of_mem _ kw_107)
  have hw5 := hts (.fieldLink RX1 13 "Spanbooker" "from" "J") (List.mem_cons_of_mem _ kw_108)
  have hw6 := hts (.constantLong RX1 17 (86400000000000)) (List.mem_cons_of_mem _ kw_85)
  have hw7 := hts (.fieldLink RX1 19 "Spanbooker" "until" "J") (List.mem_cons_of_mem _ kw_109)
  have hw8 := hts (.classLink RX1 22 RX0) (List.mem_cons_of_mem _ kw_86)
  have hw9 := hts (.instantiable RX0 4) (List.mem_cons_of_mem _ kw_87)
  have hw10 := hts (.initialized RX0) (List.mem_cons_of_mem _ kw_58)
  have hw11 := hts (.fieldLink RX1 25 "Spanbooker" "spanRow" "LSpanbooker$Row;") (List.mem_cons_of_mem _ kw_110)
  have hw12 := hts (.fieldLink RX1 29 "Spanbooker" "wishRow" "LSpanbooker$Row;") (List.mem_cons_of_mem _ kw_111)
  have hw13 := hts (.fieldLink RX1 32 "Spanbooker" "freeRow" "LSpanbooker$Row;") (List.mem_cons_of_mem _ kw_112)
  have hw14 := hts (.arrayClass .int) (List.mem_cons_of_mem _ kw_138)
  have hw15 := hts (.fieldLink RX1 35 "Spanbooker" "roomOf" "[I") (List.mem_cons_of_mem _ kw_113)
  have hiX0 : ∀ w ∈ u_ws RX0 TX0 4, w ∈ wsX1_init := fun w h => List.mem_cons_of_mem _ (ku_X0 w h)
  have hiX1 : ∀ w ∈ u_ws RX1 TX1 10, w ∈ wsX1_init := fun w h => List.mem_cons_of_mem _ (ku_X1 w h)
  have hl := lv_entry ([.ref h0]) (n := 1) (Nat.le_of_ble_eq_true rfl)
  rw [lg_entry_eq]
  generalize (lg_sl ([.ref h0]) ++ List.replicate (1 - (lg_sl ([.ref h0])).length) Slot.unset).toArray = ls at hl ⊢
  have hl : lv_has ls 1 (kvA 0 h0 kvE) := hl
  have h := f_X1_init_e.symm.trans hf
  refine lv_aload_n hx hb (kdr dgX1_init_0 0 0 rfl rfl) rfl (lv_at hl 0 rfl) ?_
  refine W.objInit hx hb hown hw0 hw1 hw2 rfl (by rw [hml]; exact hl.1) rfl (kdr dgX1_init_0 0 1 rfl rfl) (Nat.le_of_ble_eq_true rfl) (Nat.le_of_ble_eq_true rfl) ?_
  refine W.eq (g2 := F0 m 4 ls []) rfl ?_
  refine lv_aload_n hx hb (kdr dgX1_init_0 0 2 rfl rfl) rfl (lv_at hl 0 rfl) ?_
  refine lv_iconst (v := 4) hx hb (kdr dgX1_init_0 0 3 rfl rfl) (by decide) ?_
  refine va_newa (atype := .long) (ty := .long) (a0 := (4, .inr (.inl (fun _ => 0)))) hx hb hw3 rfl hK hP hD hS hA (fun _ => rfl) (by decide) (by decide) (Nat.le_of_ble_eq_true rfl) (Nat.le_of_ble_eq_true rfl) (Nat.le_of_ble_eq_true rfl) dX1_init_6 (fun qn0 cA H hK9 hP hD hS => ?_)
  have e9 : cA = cJ := k_cA hK9 2 rfl
  rw [e9] at hP hD
  have hP : va_P (dC, dI) vwCl [(h0, .inr (3, [.null, .long 0, .long 0, .null, .null, .null, .null, .int 0, .int 0, .int 0])), (qn0, .inl (cJ, 4, .inr (.inl (fun _ => 0))))] H := hP
  have hD : va_D A [(h0, .inr (3, [.null, .long 0, .long 0, .null, .null, .null, .null, .int 0, .int 0, .int 0])), (qn0, .inl (cJ, 4, .inr (.inl (fun _ => 0))))] := hD
  refine va_putF (D := (dC, dI)) (ci := 3) (v := .ref qn0) (ty := (.array .long)) (C := RX1) (T := TX1) (N := 10) hx hb hts hiX1 tyX1 tyX1_ok nmX1 hown hK hP hD hS 0 rfl rfl 0 (by decide) hw4 (fun _ h9 => h9) rfl hin rfl (by decide +kernel) rfl rfl (Nat.le_of_ble_eq_true rfl) (kdr dgX1_init_8 0 0 rfl rfl) (fun H locs hP hD hS => ?_)
  have hP : va_P (dC, dI) vwCl [(h0, .inr (3, [.ref qn0, .long 0, .long 0, .null, .null, .null, .null, .int 0, .int 0, .int 0])), (qn0, .inl (cJ, 4, .inr (.inl (fun _ => 0))))] H := hP
  have hD : va_D A [(h0, .inr (3, [.ref qn0, .long 0, .long 0, .null, .null, .null, .null, .int 0, .int 0, .int 0])), (qn0, .inl (cJ, 4, .inr (.inl (fun _ => 0))))] := hD
  refine lv_aload_n hx hb (kdr dgX1_init_8 0 1 rfl rfl) rfl (lv_at hl 0 rfl) ?_
  refine lv_lconst (v := 0) hx hb (kdr dgX1_init_8 0 2 rfl rfl) (by decide) ?_
  refine va_put (D := (dC, dI)) (ci := 3) (v := .long 0) (ty := .long) (C := RX1) (T := TX1) (N := 10) hx hb hts hiX1 tyX1 tyX1_ok nmX1 hown hK hP hD hS 0 rfl rfl 1 (by decide) hw5 (fun _ h9 => h9) rfl (by decide +kernel) rfl rfl (Nat.le_of_ble_eq_true rfl) (kdr dgX1_init_8 0 3 rfl rfl) (fun H locs hP hD hS => ?_)
  have hP : va_P (dC, dI) vwCl [(h0, .inr (3, [.ref qn0, .long 0, .long 0, .null, .null, .null, .null, .int 0, .int 0, .int 0])), (qn0, .inl (cJ, 4, .inr (.inl (fun _ => 0))))] H := hP
  have hD : va_D A [(h0, .inr (3, [.ref qn0, .long 0, .long 0, .null, .null, .null, .null, .int 0, .int 0, .int 0])), (qn0, .inl (cJ, 4, .inr (.inl (fun _ => 0))))] := hD
  refine lv_aload_n hx hb (kdr dgX1_init_8 0 4 rfl rfl) rfl (lv_at hl 0 rfl) ?_
  refine lv_ldc2 (v := (86400000000000)) hx hb hown hw6 (kdr dgX1_init_8 0 5 rfl rfl) ?_
  refine va_put (D := (dC, dI)) (ci := 3) (v := .long 86400000000000) (ty := .long) (C := RX1) (T := TX1) (N := 10) hx hb hts hiX1 tyX1 tyX1_ok nmX1 hown hK hP hD hS 0 rfl rfl 2 (by decide) hw7 (fun _ h9 => h9) rfl (by decide +kernel) rfl rfl (Nat.le_of_ble_eq_true rfl) (kdr dgX1_init_8 0 6 rfl rfl) (fun H locs hP hD hS => ?_)
  have hP : va_P (dC, dI) vwCl [(h0, .inr (3, [.ref qn0, .long 0, .long 86400000000000, .null, .null, .null, .null, .int 0, .int 0, .int 0])), (qn0, .inl (cJ, 4, .inr (.inl (fun _ => 0))))] H := hP
  have hD : va_D A [(h0, .inr (3, [.ref qn0, .long 0, .long 86400000000000, .null, .null, .null, .null, .int 0, .int 0, .int 0])), (qn0, .inl (cJ, 4, .inr (.inl (fun _ => 0))))] := hD
  refine lv_aload_n hx hb (kdr dgX1_init_8 0 7 rfl rfl) rfl (lv_at hl 0 rfl) ?_
  refine va_new (ci := 2) (fs := [.null, .null, .null, .int 0]) (C := RX0) (T := TX0) (N := 4) hx hb hts hiX0 tyX0 tyX0_ok hown hw8 hw9 hw10 hK hP hD hS hA rfl (fun j hj => by rcases (show j = 0 ∨ j = 1 ∨ j = 2 ∨ j = 3 by omega) with rfl | rfl | rfl | rfl <;> rfl) (Nat.le_of_ble_eq_true rfl) (Nat.le_of_ble_eq_true rfl) (kdr dgX1_init_8 0 8 rfl rfl) (fun qn1 H hP hD hS => ?_)
  have hP : va_P (dC, dI) vwCl [(h0, .inr (3, [.ref qn0, .long 0, .long 86400000000000, .null, .null, .null, .null, .int 0, .int 0, .int 0])), (qn0, .inl (cJ, 4, .inr (.inl (fun _ => 0)))), (qn1, .inr (2, [.null, .null, .null, .int 0]))] H := hP
  have hD : va_D A [(h0, .inr (3, [.ref qn0, .long 0, .long 86400000000000, .null, .null, .null, .null, .int 0, .int 0, .int 0])), (qn0, .inl (cJ, 4, .inr (.inl (fun _ => 0)))), (qn1, .inr (2, [.null, .null, .null, .int 0]))] := hD
  refine lv_dup hx hb (kdr dgX1_init_8 0 9 rfl rfl) rfl ?_
  obtain ⟨r1, g1, h⟩ := g_b h
  refine kcall_vu (fun u1 => (wRow cJ cZ qn1 (u1 0) (u1 1) (u1 2) (fun _ => 0) (fun _ => 0) (fun _ => 0) 0)) (va_runI (As := []) (rest := [.ref qn1, .ref h0]) ⟨hx, hb, hml, hown, hts⟩ (c_X0_init l dC dI cB cI cJ cZ qn1 _   r1 g1) (kcwI hts kw_88 kv_X0_init rfl rfl ⟨(Nat.le_of_ble_eq_true rfl), (Nat.le_of_ble_eq_true rfl)⟩) (kpS (A := A) (hP.sub [2] rfl) hK (hD.sub [2] (by decide) rfl) hG) rfl rfl hl.1 rfl (lv_room (Nat.le_of_ble_eq_true rfl)) (kdr dgX1_init_8 1 0 rfl rfl) ⟨(Nat.le_of_ble_eq_true rfl), (Nat.le_of_ble_eq_true rfl)⟩) hP hD hS hA [2] [0, 1] rfl [(h0, .inr (3, [.ref qn0, .long 0, .long 86400000000000, .null, .null, .null, .null, .int 0, .int 0, .int 0])), (qn0, .inl (cJ, 4, .inr (.inl (fun _ => 0))))] rfl (by decide) (by decide) (fun u1 H locs hP hD hS => ?_)
  have hP := hP.sub (ws' := [(h0, .inr (3, [.ref qn0, .long 0, .long 86400000000000, .null, .null, .null, .null, .int 0, .int 0, .int 0])), (qn0, .inl (cJ, 4, .inr (.inl (fun _ => 0)))), (qn1, .inr (2, [.ref (u1 0), .ref (u1 1), .ref (u1 2), .int 0])), ((u1 0), .inl (cJ, 11, .inr (.inl (fun _ => 0)))), ((u1 1), .inl (cJ, 11, .inr (.inl (fun _ => 0)))), ((u1 2), .inl (cZ, 11, .inl (fun _ => 0)))]) [0, 1, 2, 3, 4, 5] rfl
  have hD := hD.sub (ws' := [(h0, .inr (3, [.ref qn0, .long 0, .long 86400000000000, .null, .null, .null, .null, .int 0, .int 0, .int 0])), (qn0, .inl (cJ, 4, .inr (.inl (fun _ => 0)))), (qn1, .inr (2, [.ref (u1 0), .ref (u1 1), .ref (u1 2), .int 0])), ((u1 0), .inl (cJ, 11, .inr (.inl (fun _ => 0)))), ((u1 1), .inl (cJ, 11, .inr (.inl (fun _ => 0)))), ((u1 2), .inl (cZ, 11, .inl (fun _ => 0)))]) [0, 1, 2, 3, 4, 5] (by decide) rfl
  refine va_putF (D := (dC, dI)) (ci := 3) (v := .ref qn1) (ty := (.object "Spanbooker$Row")) (C := RX1) (T := TX1) (N := 10) hx hb hts hiX1 tyX1 tyX1_ok nmX1 hown hK hP hD hS 0 rfl rfl 3 (by decide) hw11 (fun _ h9 => h9) rfl hin rfl (by decide +kernel) rfl rfl (Nat.le_of_ble_eq_true rfl) (kdr dgX1_init_8 1 1 rfl rfl) (fun H locs hP hD hS => ?_)
  have hP : va_P (dC, dI) vwCl [(h0, .inr (3, [.ref qn0, .long 0, .long 86400000000000, .ref qn1, .null, .null, .null, .int 0, .int 0, .int 0])), (qn0, .inl (cJ, 4, .inr (.inl (fun _ => 0)))), (qn1, .inr (2, [.ref (u1 0), .ref (u1 1), .ref (u1 2), .int 0])), ((u1 0), .inl (cJ, 11, .inr (.inl (fun _ => 0)))), ((u1 1), .inl (cJ, 11, .inr (.inl (fun _ => 0)))), ((u1 2), .inl (cZ, 11, .inl (fun _ => 0)))] H := hP
  have hD : va_D A [(h0, .inr (3, [.ref qn0, .long 0, .long 86400000000000, .ref qn1, .null, .null, .null, .int 0, .int 0, .int 0])), (qn0, .inl (cJ, 4, .inr (.inl (fun _ => 0)))), (qn1, .inr (2, [.ref (u1 0), .ref (u1 1), .ref (u1 2), .int 0])), ((u1 0), .inl (cJ, 11, .inr (.inl (fun _ => 0)))), ((u1 1), .inl (cJ, 11, .inr (.inl (fun _ => 0)))), ((u1 2), .inl (cZ, 11, .inl (fun _ => 0)))] := hD
  refine lv_aload_n hx hb (kdr dgX1_init_8 1 2 rfl rfl) rfl (lv_at hl 0 rfl) ?_
  refine va_new (ci := 2) (fs := [.null, .null, .null, .int 0]) (C := RX0) (T := TX0) (N := 4) hx hb hts hiX0 tyX0 tyX0_ok hown hw8 hw9 hw10 hK hP hD hS hA rfl (fun j hj => by rcases (show j = 0 ∨ j = 1 ∨ j = 2 ∨ j = 3 by omega) with rfl | rfl | rfl | rfl <;> rfl) (Nat.le_of_ble_eq_true rfl) (Nat.le_of_ble_eq_true rfl) (kdr dgX1_init_8 1 3 rfl rfl) (fun qn2 H hP hD hS => ?_)
  have hP : va_P (dC, dI) vwCl [(h0, .inr (3, [.ref qn0, .long 0, .long 86400000000000, .ref qn1, .null, .null, .null, .int 0, .int 0, .int 0])), (qn0, .inl (cJ, 4, .inr (.inl (fun _ => 0)))), (qn1, .inr (2, [.ref (u1 0), .ref (u1 1), .ref (u1 2), .int 0])), ((u1 0), .inl (cJ, 11, .inr (.inl (fun _ => 0)))), ((u1 1), .inl (cJ, 11, .inr (.inl (fun _ => 0)))), ((u1 2), .inl (cZ, 11, .inl (fun _ => 0))), (qn2, .inr (2, [.null, .null, .null, .int 0]))] H := hP
  have hD : va_D A [(h0, .inr (3, [.ref qn0, .long 0, .long 86400000000000, .ref qn1, .null, .null, .null, .int 0, .int 0, .int 0])), (qn0, .inl (cJ, 4, .inr (.inl (fun _ => 0)))), (qn1, .inr (2, [.ref (u1 0), .ref (u1 1), .ref (u1 2), .int 0])), ((u1 0), .inl (cJ, 11, .inr (.inl (fun _ => 0)))), ((u1 1), .inl (cJ, 11, .inr (.inl (fun _ => 0)))), ((u1 2), .inl (cZ, 11, .inl (fun _ => 0))), (qn2, .inr (2, [.null, .null, .null, .int 0]))] := hD
  refine lv_dup hx hb (kdr dgX1_init_8 1 4 rfl rfl) rfl ?_
  obtain ⟨r2, g2, h⟩ := g_b h
  refine kcall_vu (fun u2 => (wRow cJ cZ qn2 (u2 0) (u2 1) (u2 2) (fun _ => 0) (fun _ => 0) (fun _ => 0) 0)) (va_runI (As := []) (rest := [.ref qn2, .ref h0]) ⟨hx, hb, hml, hown, hts⟩ (c_X0_init l dC dI cB cI cJ cZ qn2 _   r2 g2) (kcwI hts kw_88 kv_X0_init rfl rfl ⟨(Nat.le_of_ble_eq_true rfl), (Nat.le_of_ble_eq_true rfl)⟩) (kpS (A := A) (hP.sub [6] rfl) hK (hD.sub [6] (by decide) rfl) hG) rfl rfl hl.1 rfl (lv_room (Nat.le_of_ble_eq_true rfl)) (kdr dgX1_init_8 1 5 rfl rfl) ⟨(Nat.le_of_ble_eq_true rfl), (Nat.le_of_ble_eq_true rfl)⟩) hP hD hS hA [6] [0, 1, 2, 3, 4, 5] rfl [(h0, .inr (3, [.ref qn0, .long 0, .long 86400000000000, .ref qn1, .null, .null, .null, .int 0, .int 0, .int 0])), (qn0, .inl (cJ, 4, .inr (.inl (fun _ => 0)))), (qn1, .inr (2, [.ref (u1 0), .ref (u1 1), .ref (u1 2), .int 0])), ((u1 0), .inl (cJ, 11, .inr (.inl (fun _ => 0)))), ((u1 1), .inl (cJ, 11, .inr (.inl (fun _ => 0)))), ((u1 2), .inl (cZ, 11, .inl (fun _ => 0)))] rfl (by decide) (by decide) (fun u2 H locs hP hD hS => ?_)
  have hP := hP.sub (ws' := [(h0, .inr (3, [.ref qn0, .long 0, .long 86400000000000, .ref qn1, .null, .null, .null, .int 0, .int 0, .int 0])), (qn0, .inl (cJ, 4, .inr (.inl (fun _ => 0)))), (qn1, .inr (2, [.ref (u1 0), .ref (u1 1), .ref (u1 2), .int 0])), ((u1 0), .inl (cJ, 11, .inr (.inl (fun _ => 0)))), ((u1 1), .inl (cJ, 11, .inr (.inl (fun _ => 0)))), ((u1 2), .inl (cZ, 11, .inl (fun _ => 0))), (qn2, .inr (2, [.ref (u2 0), .ref (u2 1), .ref (u2 2), .int 0])), ((u2 0), .inl (cJ, 11, .inr (.inl (fun _ => 0)))), ((u2 1), .inl (cJ, 11, .inr (.inl (fun _ => 0)))), ((u2 2), .inl (cZ, 11, .inl (fun _ => 0)))]) [0, 1, 2, 3, 4, 5, 6, 7, 8, 9] rfl
  have hD := hD.sub (ws' := [(h0, .inr (3, [.ref qn0, .long 0, .long 86400000000000, .ref qn1, .null, .null, .null, .int 0, .int 0, .int 0])), (qn0, .inl (cJ, 4, .inr (.inl (fun _ => 0)))), (qn1, .inr (2, [.ref (u1 0), .ref (u1 1), .ref (u1 2), .int 0])), ((u1 0), .inl (cJ, 11, .inr (.inl (fun _ => 0)))), ((u1 1), .inl (cJ, 11, .inr (.inl (fun _ => 0)))), ((u1 2), .inl (cZ, 11, .inl (fun _ => 0))), (qn2, .inr (2, [.ref (u2 0), .ref (u2 1), .ref (u2 2), .int 0])), ((u2 0), .inl (cJ, 11, .inr (.inl (fun _ => 0)))), ((u2 1), .inl (cJ, 11, .inr (.inl (fun _ => 0)))), ((u2 2), .inl (cZ, 11, .inl (fun _ => 0)))]) [0, 1, 2, 3, 4, 5, 6, 7, 8, 9] (by decide) rfl
  refine va_putF (D := (dC, dI)) (ci := 3) (v := .ref qn2) (ty := (.object "Spanbooker$Row")) (C := RX1) (T := TX1) (N := 10) hx hb hts hiX1 tyX1 tyX1_ok nmX1 hown hK hP hD hS 0 rfl rfl 4 (by decide) hw12 (fun _ h9 => h9) rfl hin rfl (by decide +kernel) rfl rfl (Nat.le_of_ble_eq_true rfl) (kdr dgX1_init_8 1 6 rfl rfl) (fun H locs hP hD hS => ?_)
  have hP : va_P (dC, dI) vwCl [(h0, .inr (3, [.ref qn0, .long 0, .long 86400000000000, .ref qn1, .ref qn2, .null, .null, .int 0, .int 0, .int 0])), (qn0, .inl (cJ, 4, .inr (.inl (fun _ => 0)))), (qn1, .inr (2, [.ref (u1 0), .ref (u1 1), .ref (u1 2), .int 0])), ((u1 0), .inl (cJ, 11, .inr (.inl (fun _ => 0)))), ((u1 1), .inl (cJ, 11, .inr (.inl (fun _ => 0)))), ((u1 2), .inl (cZ, 11, .inl (fun _ => 0))), (qn2, .inr (2, [.ref (u2 0), .ref (u2 1), .ref (u2 2), .int 0])), ((u2 0), .inl (cJ, 11, .inr (.inl (fun _ => 0)))), ((u2 1), .inl (cJ, 11, .inr (.inl (fun _ => 0)))), ((u2 2), .inl (cZ, 11, .inl (fun _ => 0)))] H := hP
  have hD : va_D A [(h0, .inr (3, [.ref qn0, .long 0, .long 86400000000000, .ref qn1, .ref qn2, .null, .null, .int 0, .int 0, .int 0])), (qn0, .inl (cJ, 4, .inr (.inl (fun _ => 0)))), (qn1, .inr (2, [.ref (u1 0), .ref (u1 1), .ref (u1 2), .int 0])), ((u1 0), .inl (cJ, 11, .inr (.inl (fun _ => 0)))), ((u1 1), .inl (cJ, 11, .inr (.inl (fun _ => 0)))), ((u1 2), .inl (cZ, 11, .inl (fun _ => 0))), (qn2, .inr (2, [.ref (u2 0), .ref (u2 1), .ref (u2 2), .int 0])), ((u2 0), .inl (cJ, 11, .inr (.inl (fun _ => 0)))), ((u2 1), .inl (cJ, 11, .inr (.inl (fun _ => 0)))), ((u2 2), .inl (cZ, 11, .inl (fun _ => 0)))] := hD
  refine lv_aload_n hx hb (kdr dgX1_init_8 1 7 rfl rfl) rfl (lv_at hl 0 rfl) ?_
  refine va_new (ci := 2) (fs := [.null, .null, .null, .int 0]) (C := RX0) (T := TX0) (N := 4) hx hb hts hiX0 tyX0 tyX0_ok hown hw8 hw9 hw10 hK hP hD hS hA rfl (fun j hj => by rcases (show j = 0 ∨ j = 1 ∨ j = 2 ∨ j = 3 by omega) with rfl | rfl | rfl | rfl <;> rfl) (Nat.le_of_ble_eq_true rfl) (Nat.le_of_ble_eq_true rfl) (kdr dgX1_init_8 1 8 rfl rfl) (fun qn3 H hP hD hS => ?_)
  have hP : va_P (dC, dI) vwCl [(h0, .inr (3, [.ref qn0, .long 0, .long 86400000000000, .ref qn1, .ref qn2, .null, .null, .int 0, .int 0, .int 0])), (qn0, .inl (cJ, 4, .inr (.inl (fun _ => 0)))), (qn1, .inr (2, [.ref (u1 0), .ref (u1 1), .ref (u1 2), .int 0])), ((u1 0), .inl (cJ, 11, .inr (.inl (fun _ => 0)))), ((u1 1), .inl (cJ, 11, .inr (.inl (fun _ => 0)))), ((u1 2), .inl (cZ, 11, .inl (fun _ => 0))), (qn2, .inr (2, [.ref (u2 0), .ref (u2 1), .ref (u2 2), .int 0])), ((u2 0), .inl (cJ, 11, .inr (.inl (fun _ => 0)))), ((u2 1), .inl (cJ, 11, .inr (.inl (fun _ => 0)))), ((u2 2), .inl (cZ, 11, .inl (fun _ => 0))), (qn3, .inr (2, [.null, .null, .null, .int 0]))] H := hP
  have hD : va_D A [(h0, .inr (3, [.ref qn0, .long 0, .long 86400000000000, .ref qn1, .ref qn2, .null, .null, .int 0, .int 0, .int 0])), (qn0, .inl (cJ, 4, .inr (.inl (fun _ => 0)))), (qn1, .inr (2, [.ref (u1 0), .ref (u1 1), .ref (u1 2), .int 0])), ((u1 0), .inl (cJ, 11, .inr (.inl (fun _ => 0)))), ((u1 1), .inl (cJ, 11, .inr (.inl (fun _ => 0)))), ((u1 2), .inl (cZ, 11, .inl (fun _ => 0))), (qn2, .inr (2, [.ref (u2 0), .ref (u2 1), .ref (u2 2), .int 0])), ((u2 0), .inl (cJ, 11, .inr (.inl (fun _ => 0)))), ((u2 1), .inl (cJ, 11, .inr (.inl (fun _ => 0)))), ((u2 2), .inl (cZ, 11, .inl (fun _ => 0))), (qn3, .inr (2, [.null, .null, .null, .int 0]))] := hD
  refine lv_dup hx hb (kdr dgX1_init_8 1 9 rfl rfl) rfl ?_
  obtain ⟨r3, g3, h⟩ := g_b h
  refine kcall_vu (fun u3 => (wRow cJ cZ qn3 (u3 0) (u3 1) (u3 2) (fun _ => 0) (fun _ => 0) (fun _ => 0) 0)) (va_runI (As := []) (rest := [.ref qn3, .ref h0]) ⟨hx, hb, hml, hown, hts⟩ (c_X0_init l dC dI cB cI cJ cZ qn3 _   r3 g3) (kcwI hts kw_88 kv_X0_init rfl rfl ⟨(Nat.le_of_ble_eq_true rfl), (Nat.le_of_ble_eq_true rfl)⟩) (kpS (A := A) (hP.sub [10] rfl) hK (hD.sub [10] (by decide) rfl) hG) rfl rfl hl.1 rfl (lv_room (Nat.le_of_ble_eq_true rfl)) (kdr dgX1_init_8 2 0 rfl rfl) ⟨(Nat.le_of_ble_eq_true rfl), (Nat.le_of_ble_eq_true rfl)⟩) hP hD hS hA [10] [0, 1, 2, 3, 4, 5, 6, 7, 8, 9] rfl [(h0, .inr (3, [.ref qn0, .long 0, .long 86400000000000, .ref qn1, .ref qn2, .null, .null, .int 0, .int 0, .int 0])), (qn0, .inl (cJ, 4, .inr (.inl (fun _ => 0)))), (qn1, .inr (2, [.ref (u1 0), .ref (u1 1), .ref (u1 2), .int 0])), ((u1 0), .inl (cJ, 11, .inr (.inl (fun _ => 0)))), ((u1 1), .inl (cJ, 11, .inr (.inl (fun _ => 0)))), ((u1 2), .inl (cZ, 11, .inl (fun _ => 0))), (qn2, .inr (2, [.ref (u2 0), .ref (u2 1), .ref (u2 2), .int 0])), ((u2 0), .inl (cJ, 11, .inr (.inl (fun _ => 0)))), ((u2 1), .inl (cJ, 11, .inr (.inl (fun _ => 0)))), ((u2 2), .inl (cZ, 11, .inl (fun _ => 0)))] rfl (by decide) (by decide) (fun u3 H locs hP hD hS => ?_)
  have hP := hP.sub (ws' := [(h0, .inr (3, [.ref qn0, .long 0, .long 86400000000000, .ref qn1, .ref qn2, .null, .null, .int 0, .int 0, .int 0])), (qn0, .inl (cJ, 4, .inr (.inl (fun _ => 0)))), (qn1, .inr (2, [.ref (u1 0), .ref (u1 1), .ref (u1 2), .int 0])), ((u1 0), .inl (cJ, 11, .inr (.inl (fun _ => 0)))), ((u1 1), .inl (cJ, 11, .inr (.inl (fun _ => 0)))), ((u1 2), .inl (cZ, 11, .inl (fun _ => 0))), (qn2, .inr (2, [.ref (u2 0), .ref (u2 1), .ref (u2 2), .int 0])), ((u2 0), .inl (cJ, 11, .inr (.inl (fun _ => 0)))), ((u2 1), .inl (cJ, 11, .inr (.inl (fun _ => 0)))), ((u2 2), .inl (cZ, 11, .inl (fun _ => 0))), (qn3, .inr (2, [.ref (u3 0), .ref (u3 1), .ref (u3 2), .int 0])), ((u3 0), .inl (cJ, 11, .inr (.inl (fun _ => 0)))), ((u3 1), .inl (cJ, 11, .inr (.inl (fun _ => 0)))), ((u3 2), .inl (cZ, 11, .inl (fun _ => 0)))]) [0, 1, 2, 3, 4, 5, 6, 7, 8, 9, 10, 11, 12, 13] rfl
  have hD := hD.sub (ws' := [(h0, .inr (3, [.ref qn0, .long 0, .long 86400000000000, .ref qn1, .ref qn2, .null, .null, .int 0, .int 0, .int 0])), (qn0, .inl (cJ, 4, .inr (.inl (fun _ => 0)))), (qn1, .inr (2, [.ref (u1 0), .ref (u1 1), .ref (u1 2), .int 0])), ((u1 0), .inl (cJ, 11, .inr (.inl (fun _ => 0)))), ((u1 1), .inl (cJ, 11, .inr (.inl (fun _ => 0)))), ((u1 2), .inl (cZ, 11, .inl (fun _ => 0))), (qn2, .inr (2, [.ref (u2 0), .ref (u2 1), .ref (u2 2), .int 0])), ((u2 0), .inl (cJ, 11, .inr (.inl (fun _ => 0)))), ((u2 1), .inl (cJ, 11, .inr (.inl (fun _ => 0)))), ((u2 2), .inl (cZ, 11, .inl (fun _ => 0))), (qn3, .inr (2, [.ref (u3 0), .ref (u3 1), .ref (u3 2), .int 0])), ((u3 0), .inl (cJ, 11, .inr (.inl (fun _ => 0)))), ((u3 1), .inl (cJ, 11, .inr (.inl (fun _ => 0)))), ((u3 2), .inl (cZ, 11, .inl (fun _ => 0)))]) [0, 1, 2, 3, 4, 5, 6, 7, 8, 9, 10, 11, 12, 13] (by decide) rfl
  refine va_putF (D := (dC, dI)) (ci := 3) (v := .ref qn3) (ty := (.object "Spanbooker$Row")) (C := RX1) (T := TX1) (N := 10) hx hb hts hiX1 tyX1 tyX1_ok nmX1 hown hK hP hD hS 0 rfl rfl 5 (by decide) hw13 (fun _ h9 => h9) rfl hin rfl (by decide +kernel) rfl rfl (Nat.le_of_ble_eq_true rfl) (kdr dgX1_init_8 2 1 rfl rfl) (fun H locs hP hD hS => ?_)
  have hP : va_P (dC, dI) vwCl [(h0, .inr (3, [.ref qn0, .long 0, .long 86400000000000, .ref qn1, .ref qn2, .ref qn3, .null, .int 0, .int 0, .int 0])), (qn0, .inl (cJ, 4, .inr (.inl (fun _ => 0)))), (qn1, .inr (2, [.ref (u1 0), .ref (u1 1), .ref (u1 2), .int 0])), ((u1 0), .inl (cJ, 11, .inr (.inl (fun _ => 0)))), ((u1 1), .inl (cJ, 11, .inr (.inl (fun _ => 0)))), ((u1 2), .inl (cZ, 11, .inl (fun _ => 0))), (qn2, .inr (2, [.ref (u2 0), .ref (u2 1), .ref (u2 2), .int 0])), ((u2 0), .inl (cJ, 11, .inr (.inl (fun _ => 0)))), ((u2 1), .inl (cJ, 11, .inr (.inl (fun _ => 0)))), ((u2 2), .inl (cZ, 11, .inl (fun _ => 0))), (qn3, .inr (2, [.ref (u3 0), .ref (u3 1), .ref (u3 2), .int 0])), ((u3 0), .inl (cJ, 11, .inr (.inl (fun _ => 0)))), ((u3 1), .inl (cJ, 11, .inr (.inl (fun _ => 0)))), ((u3 2), .inl (cZ, 11, .inl (fun _ => 0)))] H := hP
  have hD : va_D A [(h0, .inr (3, [.ref qn0, .long 0, .long 86400000000000, .ref qn1, .ref qn2, .ref qn3, .null, .int 0, .int 0, .int 0])), (qn0, .inl (cJ, 4, .inr (.inl (fun _ => 0)))), (qn1, .inr (2, [.ref (u1 0), .ref (u1 1), .ref (u1 2), .int 0])), ((u1 0), .inl (cJ, 11, .inr (.inl (fun _ => 0)))), ((u1 1), .inl (cJ, 11, .inr (.inl (fun _ => 0)))), ((u1 2), .inl (cZ, 11, .inl (fun _ => 0))), (qn2, .inr (2, [.ref (u2 0), .ref (u2 1), .ref (u2 2), .int 0])), ((u2 0), .inl (cJ, 11, .inr (.inl (fun _ => 0)))), ((u2 1), .inl (cJ, 11, .inr (.inl (fun _ => 0)))), ((u2 2), .inl (cZ, 11, .inl (fun _ => 0))), (qn3, .inr (2, [.ref (u3 0), .ref (u3 1), .ref (u3 2), .int 0])), ((u3 0), .inl (cJ, 11, .inr (.inl (fun _ => 0)))), ((u3 1), .inl (cJ, 11, .inr (.inl (fun _ => 0)))), ((u3 2), .inl (cZ, 11, .inl (fun _ => 0)))] := hD
  refine lv_aload_n hx hb (kdr dgX1_init_8 2 2 rfl rfl) rfl (lv_at hl 0 rfl) ?_
  refine lv_bipush (v := 11) hx hb (kdr dgX1_init_8 2 3 rfl rfl) (by decide) ?_
  refine va_newa (atype := .int) (ty := .int) (a0 := (11, .inl (fun _ => 0))) hx hb hw14 rfl hK hP hD hS hA (fun _ => rfl) (by decide) (by decide) (Nat.le_of_ble_eq_true rfl) (Nat.le_of_ble_eq_true rfl) (Nat.le_of_ble_eq_true rfl) dX1_init_59 (fun qn4 cA H hK9 hP hD hS => ?_)
  have e9 : cA = cI := k_cA hK9 1 rfl
  rw [e9] at hP hD
  have hP : va_P (dC, dI) vwCl [(h0, .inr (3, [.ref qn0, .long 0, .long 86400000000000, .ref qn1, .ref qn2, .ref qn3, .null, .int 0, .int 0, .int 0])), (qn0, .inl (cJ, 4, .inr (.inl (fun _ => 0)))), (qn1, .inr (2, [.ref (u1 0), .ref (u1 1), .ref (u1 2), .int 0])), ((u1 0), .inl (cJ, 11, .inr (.inl (fun _ => 0)))), ((u1 1), .inl (cJ, 11, .inr (.inl (fun _ => 0)))), ((u1 2), .inl (cZ, 11, .inl (fun _ => 0))), (qn2, .inr (2, [.ref (u2 0), .ref (u2 1), .ref (u2 2), .int 0])), ((u2 0), .inl (cJ, 11, .inr (.inl (fun _ => 0)))), ((u2 1), .inl (cJ, 11, .inr (.inl (fun _ => 0)))), ((u2 2), .inl (cZ, 11, .inl (fun _ => 0))), (qn3, .inr (2, [.ref (u3 0), .ref (u3 1), .ref (u3 2), .int 0])), ((u3 0), .inl (cJ, 11, .inr (.inl (fun _ => 0)))), ((u3 1), .inl (cJ, 11, .inr (.inl (fun _ => 0)))), ((u3 2), .inl (cZ, 11, .inl (fun _ => 0))), (qn4, .inl (cI, 11, .inl (fun _ => 0)))] H := hP
  have hD : va_D A [(h0, .inr (3, [.ref qn0, .long 0, .long 86400000000000, .ref qn1, .ref qn2, .ref qn3, .null, .int 0, .int 0, .int 0])), (qn0, .inl (cJ, 4, .inr (.inl (fun _ => 0)))), (qn1, .inr (2, [.ref (u1 0), .ref (u1 1), .ref (u1 2), .int 0])), ((u1 0), .inl (cJ, 11, .inr (.inl (fun _ => 0)))), ((u1 1), .inl (cJ, 11, .inr (.inl (fun _ => 0)))), ((u1 2), .inl (cZ, 11, .inl (fun _ => 0))), (qn2, .inr (2, [.ref (u2 0), .ref (u2 1), .ref (u2 2), .int 0])), ((u2 0), .inl (cJ, 11, .inr (.inl (fun _ => 0)))), ((u2 1), .inl (cJ, 11, .inr (.inl (fun _ => 0)))), ((u2 2), .inl (cZ, 11, .inl (fun _ => 0))), (qn3, .inr (2, [.ref (u3 0), .ref (u3 1), .ref (u3 2), .int 0])), ((u3 0), .inl (cJ, 11, .inr (.inl (fun _ => 0)))), ((u3 1), .inl (cJ, 11, .inr (.inl (fun _ => 0)))), ((u3 2), .inl (cZ, 11, .inl (fun _ => 0))), (qn4, .inl (cI, 11, .inl (fun _ => 0)))] := hD
  refine va_putF (D := (dC, dI)) (ci := 3) (v := .ref qn4) (ty := (.array .int)) (C := RX1) (T := TX1) (N := 10) hx hb hts hiX1 tyX1 tyX1_ok nmX1 hown hK hP hD hS 0 rfl rfl 6 (by decide) hw15 (fun _ h9 => h9) rfl hin rfl (by decide +kernel) rfl rfl (Nat.le_of_ble_eq_true rfl) (kdr dgX1_init_61 0 0 rfl rfl) (fun H locs hP hD hS => ?_)
  have hP : va_P (dC, dI) vwCl [(h0, .inr (3, [.ref qn0, .long 0, .long 86400000000000, .ref qn1, .ref qn2, .ref qn3, .ref qn4, .int 0, .int 0, .int 0])), (qn0, .inl (cJ, 4, .inr (.inl (fun _ => 0)))), (qn1, .inr (2, [.ref (u1 0), .ref (u1 1), .ref (u1 2), .int 0])), ((u1 0), .inl (cJ, 11, .inr (.inl (fun _ => 0)))), ((u1 1), .inl (cJ, 11, .inr (.inl (fun _ => 0)))), ((u1 2), .inl (cZ, 11, .inl (fun _ => 0))), (qn2, .inr (2, [.ref (u2 0), .ref (u2 1), .ref (u2 2), .int 0])), ((u2 0), .inl (cJ, 11, .inr (.inl (fun _ => 0)))), ((u2 1), .inl (cJ, 11, .inr (.inl (fun _ => 0)))), ((u2 2), .inl (cZ, 11, .inl (fun _ => 0))), (qn3, .inr (2, [.ref (u3 0), .ref (u3 1), .ref (u3 2), .int 0])), ((u3 0), .inl (cJ, 11, .inr (.inl (fun _ => 0)))), ((u3 1), .inl (cJ, 11, .inr (.inl (fun _ => 0)))), ((u3 2), .inl (cZ, 11, .inl (fun _ => 0))), (qn4, .inl (cI, 11, .inl (fun _ => 0)))] H := hP
  have hD : va_D A [(h0, .inr (3, [.ref qn0, .long 0, .long 86400000000000, .ref qn1, .ref qn2, .ref qn3, .ref qn4, .int 0, .int 0, .int 0])), (qn0, .inl (cJ, 4, .inr (.inl (fun _ => 0)))), (qn1, .inr (2, [.ref (u1 0), .ref (u1 1), .ref (u1 2), .int 0])), ((u1 0), .inl (cJ, 11, .inr (.inl (fun _ => 0)))), ((u1 1), .inl (cJ, 11, .inr (.inl (fun _ => 0)))), ((u1 2), .inl (cZ, 11, .inl (fun _ => 0))), (qn2, .inr (2, [.ref (u2 0), .ref (u2 1), .ref (u2 2), .int 0])), ((u2 0), .inl (cJ, 11, .inr (.inl (fun _ => 0)))), ((u2 1), .inl (cJ, 11, .inr (.inl (fun _ => 0)))), ((u2 2), .inl (cZ, 11, .inl (fun _ => 0))), (qn3, .inr (2, [.ref (u3 0), .ref (u3 1), .ref (u3 2), .int 0])), ((u3 0), .inl (cJ, 11, .inr (.inl (fun _ => 0)))), ((u3 1), .inl (cJ, 11, .inr (.inl (fun _ => 0)))), ((u3 2), .inl (cZ, 11, .inl (fun _ => 0))), (qn4, .inl (cI, 11, .inl (fun _ => 0)))] := hD
  have hP := hP.sub (ws' := (wSB cI cJ cZ (kcons h0 (kcons qn0 (kcons qn1 (kcons (u1 0) (kcons (u1 1) (kcons (u1 2) (kcons qn2 (kcons (u2 0) (kcons (u2 1) (kcons (u2 2) (kcons qn3 (kcons (u3 0) (kcons (u3 1) (kcons (u3 2) (kcons qn4 (fun _ => 0)))))))))))))))) (fun _ => 0) 0 86400000000000 (fun _ => 0) (fun _ => 0) (fun _ => 0) 0 (fun _ => 0) (fun _ => 0) (fun _ => 0) 0 (fun _ => 0) (fun _ => 0) (fun _ => 0) 0 (fun _ => 0) 0 0 0)) [0, 1, 2, 3, 4, 5, 6, 7, 8, 9, 10, 11, 12, 13, 14] rfl
  have hD := hD.sub (ws' := (wSB cI cJ cZ (kcons h0 (kcons qn0 (kcons qn1 (kcons (u1 0) (kcons (u1 1) (kcons (u1 2) (kcons qn2 (kcons (u2 0) (kcons (u2 1) (kcons (u2 2) (kcons qn3 (kcons (u3 0) (kcons (u3 1) (kcons (u3 2) (kcons qn4 (fun _ => 0)))))))))))))))) (fun _ => 0) 0 86400000000000 (fun _ => 0) (fun _ => 0) (fun _ => 0) 0 (fun _ => 0) (fun _ => 0) (fun _ => 0) 0 (fun _ => 0) (fun _ => 0) (fun _ => 0) 0 (fun _ => 0) 0 0 0)) [0, 1, 2, 3, 4, 5, 6, 7, 8, 9, 10, 11, 12, 13, 14] (by decide) rfl
  have h := Option.some.inj h
  subst h
  refine W.widen (k := 14) (n := 126) (Nat.le_of_ble_eq_true rfl) (Nat.le_of_ble_eq_true rfl) ?_
  exact kret_vu (u := (kcons qn0 (kcons qn1 (kcons (u1 0) (kcons (u1 1) (kcons (u1 2) (kcons qn2 (kcons (u2 0) (kcons (u2 1) (kcons (u2 2) (kcons qn3 (kcons (u3 0) (kcons (u3 1) (kcons (u3 2) (kcons qn4 (fun _ => 0)))))))))))))))) hx hb hr hlocks hS hP hD (kdr dgX1_init_61 0 1 rfl rfl)
noncomputable abbrev wsX2_init : List Cond := kWs yX2_init cX2_init 1 none
noncomputable def f_X2_init : Option (Unit) :=
  some ()
theorem f_X2_init_e : f_X2_init = 
  some () := rfl
set_option maxHeartbeats 4000000 in
set_option maxRecDepth 100000 in
theorem c_X2_init (l : Launch) (dC : Nat → ClassId) (dI : Nat → Nat → Nat) (cB cI cJ cZ : ClassId) (h0 : Nat) (sz : Nat) (res : Unit) (hf : f_X2_init = some res) : Met l yX2_init wsX2_init (kRm 1 0 0 20) (kPre (dC, dI) (kTy cB cI cJ cZ) [.ref h0] sz [(h0, .inr (4, [.long 0, .null]))]) (kVu (dC, dI) (fun u => [(h0, .inr (4, [.long 0, .null]))]) (va_A [(h0, .inr (4, [.long 0, .null]))] sz)) 0 0 (va_A [(h0, .inr (4, [.long 0, .null]))] sz) := by
  refine Met.ofW (cc := cX2_init) (maxL := 1) (ret := none) (by decide) rfl ?_
  intro p e s m args below meth c s₁ B hml hv
  obtain ⟨rfl, hsz, hP, hK, hD0, hG⟩ := hv
  have hx := B.exec
  have hb := B.bytes
  have hr := B.returns
  have hts := atoms_spec (ws := wsX2_init) B.pre
  have hown : s.vm.findClass RX2 = some m.cls := findClass_of_methodNamed B.named
  have hlocks := B.notSynchronized
  subst hsz
  have hD := hD0.self (sz := s.heap.size)
  generalize hAe : va_A [(h0, .inr (4, [.long 0, .null]))] s.heap.size = A at hD ⊢
  have hA : ∀ q : Nat, s.heap.size ≤ q → A q := fun q h => by rw [← hAe]; exact Or.inr h
  have hS : va_S A s.heap s.heap [] := va_S.rf
  clear hAe
  have hin : meth.name = "<init>" := (name_of_methodNamed B.named B.method).1
  have hw0 := hts (.methodLink RX2 1 objectInit) (List.mem_cons_of_mem _ kw_456)
  have hw1 := hts (.instanceMethod objectInit) (List.mem_cons_of_mem _ kw_83)
  have hw2 := hts (.code objectInit ⟨#[0xb1]⟩ 1 none) (List.mem_cons_of_mem _ kw_84)
  have hl := lv_entry ([.ref h0]) (n := 1) (Nat.le_of_ble_eq_true rfl)
  rw [lg_entry_eq]
  generalize (lg_sl ([.ref h0]) ++ List.replicate (1 - (lg_sl ([.ref h0])).length) Slot.unset).toArray = ls at hl ⊢
  have hl : lv_has ls 1 (kvA 0 h0 kvE) := hl
  have h := f_X2_init_e.symm.trans hf
  refine lv_aload_n hx hb (kdr dgX2_init_0 0 0 rfl rfl) rfl (lv_at hl 0 rfl) ?_
  refine W.objInit hx hb hown hw0 hw1 hw2 rfl (by rw [hml]; exact hl.1) rfl (kdr dgX2_init_0 0 1 rfl rfl) (Nat.le_of_ble_eq_true rfl) (Nat.le_of_ble_eq_true rfl) ?_
  refine W.eq (g2 := F0 m 4 ls []) rfl ?_
  have hP := hP.sub (ws' := [(h0, .inr (4, [.long 0, .null]))]) [0] rfl
  have hD := hD.sub (ws' := [(h0, .inr (4, [.long 0, .null]))]) [0] (by decide) rfl
  have h := Option.some.inj h
  subst h
  exact kret_vu (u := (fun _ => 0)) hx hb hr hlocks hS hP hD (kdr dgX2_init_0 0 2 rfl rfl)
noncomputable abbrev wsX1_text : List Cond := kWs yX1_text cX1_text 3 (some (.object "java/lang/String"))
noncomputable def f_X1_text (ce : Nat → Int64) (p0 : Int32) : Option (Unit) :=
  (f_X1_needCell p0).bind fun r1 =>
  (f_J4_init_da8c8).bind fun r2 =>
  if ix p0 4 then
    (f_X1_secondOf (ce p0.toNatClampNeg)).bind fun r4 =>
    (f_J4_append_bf812 r2.1 r2.2.1 r2.2.2 r4).bind fun r5 =>
    (f_J4_append_cf468 r5.1 r5.2.1 r5.2.2 32).bind fun r6 =>
    (f_X1_nanoOf (ce p0.toNatClampNeg)).bind fun r7 =>
    (f_J4_append_bf812 r6.1 r6.2.1 r6.2.2 r7).bind fun r8 =>
    (f_J4_toString_0e30d r8.1 r8.2.1 r8.2.2).bind fun r9 =>
    some ()
  else none
theorem f_X1_text_e {ce : Nat → Int64} {p0 : Int32} : f_X1_text ce p0 = 
  (f_X1_needCell p0).bind fun r1 =>
  (f_J4_init_da8c8).bind fun r2 =>
  if ix p0 4 then
    (f_X1_secondOf (ce p0.toNatClampNeg)).bind fun r4 =>
    (f_J4_append_bf812 r2.1 r2.2.1 r2.2.2 r4).bind fun r5 =>
    (f_J4_append_cf468 r5.1 r5.2.1 r5.2.2 32).bind fun r6 =>
    (f_X1_nanoOf (ce p0.toNatClampNeg)).bind fun r7 =>
    (f_J4_append_bf812 r6.1 r6.2.1 r6.2.2 r7).bind fun r8 =>
    (f_J4_toString_0e30d r8.1 r8.2.1 r8.2.2).bind fun r9 =>
    some ()
  else none := rfl
set_option maxHeartbeats 4000000 in
set_option maxRecDepth 100000 in
theorem c_X1_text (l : Launch) (dC : Nat → ClassId) (dI : Nat → Nat → Nat) (cB cI cJ cZ : ClassId) (a : Nat → Nat) (sz : Nat) (ce : Nat → Int64) (fr : Int64) (un : Int64) (sb : Nat → Int64) (se : Nat → Int64) (so : Nat → Int32) (sc : Int32) (wb : Nat → Int64) (we : Nat → Int64) (wo : Nat → Int32) (wc : Int32) (fb : Nat → Int64) (fe : Nat → Int64) (fo : Nat → Int32) (fc : Int32) (rm : Nat → Int32) (ac : Int32) (rf : Int32) (kn : Int32) (p0 : Int32) (res : Unit) (hf : f_X1_text ce p0 = some res) : Met l yX1_text wsX1_text (kRm 6 7 280 171) (kPreX (dC, dI) (kTy cB cI cJ cZ) [.ref (a 0), .int p0] sz (wSB cI cJ cZ a ce fr un sb se so sc wb we wo wc fb fe fo fc rm ac rf kn)) (kNq (dC, dI) (wSB cI cJ cZ a ce fr un sb se so sc wb we wo wc fb fe fo fc rm ac rf kn) (va_A (wSB cI cJ cZ a ce fr un sb se so sc wb we wo wc fb fe fo fc rm ac rf kn) sz)) 7 280 (va_A (wSB cI cJ cZ a ce fr un sb se so sc wb we wo wc fb fe fo fc rm ac rf kn) sz) := by
  refine Met.ofW (cc := cX1_text) (maxL := 3) (ret := (some (.object "java/lang/String"))) (by decide) rfl ?_
  intro p e s m args below meth c s₁ B hml hv
  obtain ⟨rfl, hsz, hP, hK, hD0, hG, hZ⟩ := hv
  have hx := B.exec
  have hb := B.bytes
  have hr := B.returns
  have hts := atoms_spec (ws := wsX1_text) B.pre
  have hown : s.vm.findClass RX1 = some m.cls := findClass_of_methodNamed B.named
  have hlocks := B.notSynchronized
  subst hsz
  have hD := hD0.self (sz := s.heap.size)
  generalize hAe : va_A (wSB cI cJ cZ a ce fr un sb se so sc wb we wo wc fb fe fo fc rm ac rf kn) s.heap.size = A at hD hZ ⊢
  have hA : ∀ q : Nat, s.heap.size ≤ q → A q := fun q h => by rw [← hAe]; exact Or.inr h
  have hS : va_S A s.heap s.heap [] := va_S.rf
  clear hAe
  have hw0 := hts (.classLink RX1 145 RJ4) (List.mem_cons_of_mem _ kw_682)
  have hw1 := hts (.instantiable RJ4 4) (List.mem_cons_of_mem _ kw_683)
  have hw2 := hts (.initialized RJ4) (List.mem_cons_of_mem _ kw_68)
  have hw3 := hts (.fieldLink RX1 9 "Spanbooker" "cells" "[J") (List.mem_cons_of_mem _ kw_107)
  have hiJ4 : ∀ w ∈ u_ws RJ4 TJ4 4, w ∈ wsX1_text := fun w h => List.mem_cons_of_mem _ (ku_J4 w h)
  have hiX1 : ∀ w ∈ u_ws RX1 TX1 10, w ∈ wsX1_text := fun w h => List.mem_cons_of_mem _ (ku_X1 w h)
  have hl := lv_entry ([.ref (a 0), .int p0]) (n := 3) (Nat.le_of_ble_eq_true rfl)
  rw [lg_entry_eq]
  generalize (lg_sl ([.ref (a 0), .int p0]) ++ List.replicate (3 - (lg_sl ([.ref (a 0), .int p0])).length) Slot.unset).toArray = ls at hl ⊢
  have hl : lv_has ls 3 (kvA 0 (a 0) (kvI 1 p0 kvE)) := hl
  have h := f_X1_text_e.symm.trans hf
  refine lv_iload_n hx hb (kdr dgX1_text_0 0 0 rfl rfl) rfl (lv_at hl 1 rfl) ?_
  obtain ⟨r1, g1, h⟩ := g_b h
  refine kq_v (wSB cI cJ cZ a ce fr un sb se so sc wb we wo wc fb fe fo fc rm ac rf kn) (fun qP qD qF => va_runS (As := [.int p0]) (rest := []) ⟨hx, hb, hml, hown, hts⟩ (c_X1_needCell l dC dI cB cI cJ cZ  _  p0 r1 g1) (kcwS hts kw_473 kv_X1_needCell rfl rfl ⟨(Nat.le_of_ble_eq_true rfl), (Nat.le_of_ble_eq_true rfl)⟩) (kpS (A := A) (kPnil) hK ((kDnil (A := A))) hG) rfl rfl hl.1 rfl (lv_room (Nat.le_of_ble_eq_true rfl)) (kdr dgX1_text_0 0 1 rfl rfl) ⟨(Nat.le_of_ble_eq_true rfl), (Nat.le_of_ble_eq_true rfl)⟩) hP hD hS hA kFr_n (fun H locs hP hD hS => ?_)
  refine va_new (ci := 1) (fs := [.null, .int 0, .int 0, .int 0]) (C := RJ4) (T := TJ4) (N := 4) hx hb hts hiJ4 tyJ4 tyJ4_ok hown hw0 hw1 hw2 hK hP hD hS hA rfl (fun j hj => by rcases (show j = 0 ∨ j = 1 ∨ j = 2 ∨ j = 3 by omega) with rfl | rfl | rfl | rfl <;> rfl) (Nat.le_of_ble_eq_true rfl) (Nat.le_of_ble_eq_true rfl) (kdr dgX1_text_0 0 2 rfl rfl) (fun qn0 H hP hD hS => ?_)
  have hP : va_P (dC, dI) vwCl ((wSB cI cJ cZ a ce fr un sb se so sc wb we wo wc fb fe fo fc rm ac rf kn) ++ [(qn0, .inr (1, [.null, .int 0, .int 0, .int 0]))]) H := hP
  have hD : va_D A ((wSB cI cJ cZ a ce fr un sb se so sc wb we wo wc fb fe fo fc rm ac rf kn) ++ [(qn0, .inr (1, [.null, .int 0, .int 0, .int 0]))]) := hD
  refine lv_dup hx hb (kdr dgX1_text_0 0 3 rfl rfl) rfl ?_
  obtain ⟨r2, g2, h⟩ := g_b h
  refine kcall_vu (fun u2 => (wTB cB qn0 (u2 0) r2.1 r2.2.1 r2.2.2)) (va_runI (As := []) (rest := [.ref qn0]) ⟨hx, hb, hml, hown, hts⟩ (c_J4_init_da8c8 l dC dI cB cI cJ cZ qn0 _   r2 g2) (kcwI hts kw_684 kv_J4_init_da8c8 rfl rfl ⟨(Nat.le_of_ble_eq_true rfl), (Nat.le_of_ble_eq_true rfl)⟩) (kpSX (A := A) (hP.sub [15] rfl) hK (hD.sub [15] (by decide) rfl) hG hZ hS hD hA [15] rfl) rfl rfl hl.1 rfl (lv_room (Nat.le_of_ble_eq_true rfl)) (kdr dgX1_text_0 0 4 rfl rfl) ⟨(Nat.le_of_ble_eq_true rfl), (Nat.le_of_ble_eq_true rfl)⟩) hP hD hS hA [15] [0, 1, 2, 3, 4, 5, 6, 7, 8, 9, 10, 11, 12, 13, 14] rfl [((a 0), .inr (3, [.ref (a 1), .long fr, .long un, .ref (a 2), .ref (a 6), .ref (a 10), .ref (a 14), .int ac, .int rf, .int kn])), ((a 1), .inl (cJ, 4, .inr (.inl ce))), ((a 2), .inr (2, [.ref (a 3), .ref (a 4), .ref (a 5), .int sc])), ((a 3), .inl (cJ, 11, .inr (.inl sb))), ((a 4), .inl (cJ, 11, .inr (.inl se))), ((a 5), .inl (cZ, 11, .inl so)), ((a 6), .inr (2, [.ref (a 7), .ref (a 8), .ref (a 9), .int wc])), ((a 7), .inl (cJ, 11, .inr (.inl wb))), ((a 8), .inl (cJ, 11, .inr (.inl we))), ((a 9), .inl (cZ, 11, .inl wo)), ((a 10), .inr (2, [.ref (a 11), .ref (a 12), .ref (a 13), .int fc])), ((a 11), .inl (cJ, 11, .inr (.inl fb))), ((a 12), .inl (cJ, 11, .inr (.inl fe))), ((a 13), .inl (cZ, 11, .inl fo)), ((a 14), .inl (cI, 11, .inl rm))] rfl (by decide) (by decide) (fun u2 H locs hP hD hS => ?_)
  have hP := hP.sub (ws' := ((wSB cI cJ cZ a ce fr un sb se so sc wb we wo wc fb fe fo fc rm ac rf kn) ++ [(qn0, .inr (1, [.ref (u2 0), .int 0, .int 0, .int r2.2.2]))] ++ [((u2 0), .inl (cB, r2.1, .inl r2.2.1))])) [0, 1, 2, 3, 4, 5, 6, 7, 8, 9, 10, 11, 12, 13, 14, 15, 16] rfl
  have hD := hD.sub (ws' := ((wSB cI cJ cZ a ce fr un sb se so sc wb we wo wc fb fe fo fc rm ac rf kn) ++ [(qn0, .inr (1, [.ref (u2 0), .int 0, .int 0, .int r2.2.2]))] ++ [((u2 0), .inl (cB, r2.1, .inl r2.2.1))])) [0, 1, 2, 3, 4, 5, 6, 7, 8, 9, 10, 11, 12, 13, 14, 15, 16] (by decide) rfl
  refine lv_astore_n (lv' := (kvA 2 qn0 (kvA 0 (a 0) (kvI 1 p0 kvE)))) hx hb (kdr dgX1_text_0 0 5 rfl rfl) rfl hl (by decide) rfl (fun ls hl => ?_)
  refine lv_aload_n hx hb (kdr dgX1_text_0 0 6 rfl rfl) rfl (lv_at hl 0 rfl) ?_
  refine lv_aload_n hx hb (kdr dgX1_text_0 0 7 rfl rfl) rfl (lv_at hl 1 rfl) ?_
  refine va_get (D := (dC, dI)) (ci := 3) (v := .ref (a 1)) (C := RX1) (T := TX1) (N := 10) hx hb hts hiX1 hown hK hP 0 rfl rfl 0 (by decide) hw3 (fun _ h9 => h9) rfl (kdr dgX1_text_0 0 8 rfl rfl) ?_
  refine lv_iload_n hx hb (kdr dgX1_text_0 0 9 rfl rfl) rfl (lv_at hl 2 rfl) ?_
  obtain ⟨z2, h⟩ := g_if h
  refine va_lald hx hb hK hP 1 2 rfl rfl (ix_in z2) (kdr dgX1_text_0 1 0 rfl rfl) ?_
  obtain ⟨r4, g4, h⟩ := g_b h
  refine kq_i ((wSB cI cJ cZ a ce fr un sb se so sc wb we wo wc fb fe fo fc rm ac rf kn) ++ [(qn0, .inr (1, [.ref (u2 0), .int 0, .int 0, .int r2.2.2]))] ++ [((u2 0), .inl (cB, r2.1, .inl r2.2.1))]) (fun qP qD qF => va_runS (As := [.long (ce p0.toNatClampNeg)]) (rest := [.ref qn0]) ⟨hx, hb, hml, hown, hts⟩ (c_X1_secondOf l dC dI cB cI cJ cZ  _  (ce p0.toNatClampNeg) r4 g4) (kcwS hts kw_329 kv_X1_secondOf rfl rfl ⟨(Nat.le_of_ble_eq_true rfl), (Nat.le_of_ble_eq_true rfl)⟩) (kpS (A := A) (kPnil) hK ((kDnil (A := A))) hG) rfl rfl hl.1 rfl (lv_room (Nat.le_of_ble_eq_true rfl)) (kdr dgX1_text_0 1 1 rfl rfl) ⟨(Nat.le_of_ble_eq_true rfl), (Nat.le_of_ble_eq_true rfl)⟩) hP hD hS hA kFr_n (fun H locs hP hD hS br4 => ?_)
  obtain ⟨r5, g5, h⟩ := g_b h
  refine kcall_au (fun u5 => (wTB cB qn0 (u5 0) r5.1 r5.2.1 r5.2.2)) (va_runV (As := [.int r4]) (rest := []) ⟨hx, hb, hml, hown, hts⟩ (c_J4_append_bf812 l dC dI cB cI cJ cZ qn0 (u2 0) _ r2.1 r2.2.1 r2.2.2 r4 r5 g5) (kcwV hts kw_713 kv_J4_append_bf812 rfl rfl ⟨(Nat.le_of_ble_eq_true rfl), (Nat.le_of_ble_eq_true rfl)⟩) (kpVX (A := A) (hP.sub [15, 16] rfl) hK (hD.sub [15, 16] (by decide) rfl) hG hZ hS hD hA [15, 16] rfl (krecv_1 (q0 := 15) hK hP rfl)) rfl rfl hl.1 rfl (lv_room (Nat.le_of_ble_eq_true rfl)) (kdr dgX1_text_0 1 2 rfl rfl) ⟨(Nat.le_of_ble_eq_true rfl), (Nat.le_of_ble_eq_true rfl)⟩) hP hD hS hA [15, 16] [0, 1, 2, 3, 4, 5, 6, 7, 8, 9, 10, 11, 12, 13, 14] rfl [((a 0), .inr (3, [.ref (a 1), .long fr, .long un, .ref (a 2), .ref (a 6), .ref (a 10), .ref (a 14), .int ac, .int rf, .int kn])), ((a 1), .inl (cJ, 4, .inr (.inl ce))), ((a 2), .inr (2, [.ref (a 3), .ref (a 4), .ref (a 5), .int sc])), ((a 3), .inl (cJ, 11, .inr (.inl sb))), ((a 4), .inl (cJ, 11, .inr (.inl se))), ((a 5), .inl (cZ, 11, .inl so)), ((a 6), .inr (2, [.ref (a 7), .ref (a 8), .ref (a 9), .int wc])), ((a 7), .inl (cJ, 11, .inr (.inl wb))), ((a 8), .inl (cJ, 11, .inr (.inl we))), ((a 9), .inl (cZ, 11, .inl wo)), ((a 10), .inr (2, [.ref (a 11), .ref (a 12), .ref (a 13), .int fc])), ((a 11), .inl (cJ, 11, .inr (.inl fb))), ((a 12), .inl (cJ, 11, .inr (.inl fe))), ((a 13), .inl (cZ, 11, .inl fo)), ((a 14), .inl (cI, 11, .inl rm))] rfl (by decide) (by decide) (fun u5 H locs hP hD hS => ?_)
  have hP := hP.sub (ws' := ((wSB cI cJ cZ a ce fr un sb se so sc wb we wo wc fb fe fo fc rm ac rf kn) ++ [(qn0, .inr (1, [.ref (u5 0), .int 0, .int 0, .int r5.2.2]))] ++ [((u5 0), .inl (cB, r5.1, .inl r5.2.1))])) [0, 1, 2, 3, 4, 5, 6, 7, 8, 9, 10, 11, 12, 13, 14, 15, 16] rfl
  have hD := hD.sub (ws' := ((wSB cI cJ cZ a ce fr un sb se so sc wb we wo wc fb fe fo fc rm ac rf kn) ++ [(qn0, .inr (1, [.ref (u5 0), .int 0, .int 0, .int r5.2.2]))] ++ [((u5 0), .inl (cB, r5.1, .inl r5.2.1))])) [0, 1, 2, 3, 4, 5, 6, 7, 8, 9, 10, 11, 12, 13, 14, 15, 16] (by decide) rfl
  refine lv_pop hx hb (kdr dgX1_text_0 1 3 rfl rfl) rfl ?_
  refine lv_aload_n hx hb (kdr dgX1_text_0 1 4 rfl rfl) rfl (lv_at hl 0 rfl) ?_
  refine lv_bipush (v := 32) hx hb (kdr dgX1_text_0 1 5 rfl rfl) (by decide) ?_
  obtain ⟨r6, g6, h⟩ := g_b h
  refine kcall_au (fun u6 => (wTB cB qn0 (u6 0) r6.1 r6.2.1 r6.2.2)) (va_runV (As := [.int 32]) (rest := []) ⟨hx, hb, hml, hown, hts⟩ (c_J4_append_cf468 l dC dI cB cI cJ cZ qn0 (u5 0) _ r5.1 r5.2.1 r5.2.2 32 r6 g6) (kcwV hts kw_799 kv_J4_append_cf468 rfl rfl ⟨(Nat.le_of_ble_eq_true rfl), (Nat.le_of_ble_eq_true rfl)⟩) (kpVX (A := A) (hP.sub [15, 16] rfl) hK (hD.sub [15, 16] (by decide) rfl) hG hZ hS hD hA [15, 16] rfl (krecv_1 (q0 := 15) hK hP rfl)) rfl rfl hl.1 rfl (lv_room (Nat.le_of_ble_eq_true rfl)) (kdr dgX1_text_0 1 6 rfl rfl) ⟨(Nat.le_of_ble_eq_true rfl), (Nat.le_of_ble_eq_true rfl)⟩) hP hD hS hA [15, 16] [0, 1, 2, 3, 4, 5, 6, 7, 8, 9, 10, 11, 12, 13, 14] rfl [((a 0), .inr (3, [.ref (a 1), .long fr, .long un, .ref (a 2), .ref (a 6), .ref (a 10), .ref (a 14), .int ac, .int rf, .int kn])), ((a 1), .inl (cJ, 4, .inr (.inl ce))), ((a 2), .inr (2, [.ref (a 3), .ref (a 4), .ref (a 5), .int sc])), ((a 3), .inl (cJ, 11, .inr (.inl sb))), ((a 4), .inl (cJ, 11, .inr (.inl se))), ((a 5), .inl (cZ, 11, .inl so)), ((a 6), .inr (2, [.ref (a 7), .ref (a 8), .ref (a 9), .int wc])), ((a 7), .inl (cJ, 11, .inr (.inl wb))), ((a 8), .inl (cJ, 11, .inr (.inl we))), ((a 9), .inl (cZ, 11, .inl wo)), ((a 10), .inr (2, [.ref (a 11), .ref (a 12), .ref (a 13), .int fc])), ((a 11), .inl (cJ, 11, .inr (.inl fb))), ((a 12), .inl (cJ, 11, .inr (.inl fe))), ((a 13), .inl (cZ, 11, .inl fo)), ((a 14), .inl (cI, 11, .inl rm))] rfl (by decide) (by decide) (fun u6 H locs hP hD hS => ?_)
  have hP := hP.sub (ws' := ((wSB cI cJ cZ a ce fr un sb se so sc wb we wo wc fb fe fo fc rm ac rf kn) ++ [(qn0, .inr (1, [.ref (u6 0), .int 0, .int 0, .int r6.2.2]))] ++ [((u6 0), .inl (cB, r6.1, .inl r6.2.1))])) [0, 1, 2, 3, 4, 5, 6, 7, 8, 9, 10, 11, 12, 13, 14, 15, 16] rfl
  have hD := hD.sub (ws' := ((wSB cI cJ cZ a ce fr un sb se so sc wb we wo wc fb fe fo fc rm ac rf kn) ++ [(qn0, .inr (1, [.ref (u6 0), .int 0, .int 0, .int r6.2.2]))] ++ [((u6 0), .inl (cB, r6.1, .inl r6.2.1))])) [0, 1, 2, 3, 4, 5, 6, 7, 8, 9, 10, 11, 12, 13, 14, 15, 16] (by decide) rfl
  refine lv_pop hx hb (kdr dgX1_text_0 1 7 rfl rfl) rfl ?_
  refine lv_aload_n hx hb (kdr dgX1_text_0 1 8 rfl rfl) rfl (lv_at hl 0 rfl) ?_
  refine lv_aload_n hx hb (kdr dgX1_text_0 1 9 rfl rfl) rfl (lv_at hl 1 rfl) ?_
  refine va_get (D := (dC, dI)) (ci := 3) (v := .ref (a 1)) (C := RX1) (T := TX1) (N := 10) hx hb hts hiX1 hown hK hP 0 rfl rfl 0 (by decide) hw3 (fun _ h9 => h9) rfl (kdr dgX1_text_0 2 0 rfl rfl) ?_
  refine lv_iload_n hx hb (kdr dgX1_text_0 2 1 rfl rfl) rfl (lv_at hl 2 rfl) ?_
  refine va_lald hx hb hK hP 1 2 rfl rfl (ix_in z2) (kdr dgX1_text_0 2 2 rfl rfl) ?_
  obtain ⟨r7, g7, h⟩ := g_b h
  refine kq_i ((wSB cI cJ cZ a ce fr un sb se so sc wb we wo wc fb fe fo fc rm ac rf kn) ++ [(qn0, .inr (1, [.ref (u6 0), .int 0, .int 0, .int r6.2.2]))] ++ [((u6 0), .inl (cB, r6.1, .inl r6.2.1))]) (fun qP qD qF => va_runS (As := [.long (ce p0.toNatClampNeg)]) (rest := [.ref qn0]) ⟨hx, hb, hml, hown, hts⟩ (c_X1_nanoOf l dC dI cB cI cJ cZ  _  (ce p0.toNatClampNeg) r7 g7) (kcwS hts kw_340 kv_X1_nanoOf rfl rfl ⟨(Nat.le_of_ble_eq_true rfl), (Nat.le_of_ble_eq_true rfl)⟩) (kpS (A := A) (kPnil) hK ((kDnil (A := A))) hG) rfl rfl hl.1 rfl (lv_room (Nat.le_of_ble_eq_true rfl)) (kdr dgX1_text_0 2 3 rfl rfl) ⟨(Nat.le_of_ble_eq_true rfl), (Nat.le_of_ble_eq_true rfl)⟩) hP hD hS hA kFr_n (fun H locs hP hD hS br7 => ?_)
  obtain ⟨r8, g8, h⟩ := g_b h
  refine kcall_au (fun u8 => (wTB cB qn0 (u8 0) r8.1 r8.2.1 r8.2.2)) (va_runV (As := [.int r7]) (rest := []) ⟨hx, hb, hml, hown, hts⟩ (c_J4_append_bf812 l dC dI cB cI cJ cZ qn0 (u6 0) _ r6.1 r6.2.1 r6.2.2 r7 r8 g8) (kcwV hts kw_713 kv_J4_append_bf812 rfl rfl ⟨(Nat.le_of_ble_eq_true rfl), (Nat.le_of_ble_eq_true rfl)⟩) (kpVX (A := A) (hP.sub [15, 16] rfl) hK (hD.sub [15, 16] (by decide) rfl) hG hZ hS hD hA [15, 16] rfl (krecv_1 (q0 := 15) hK hP rfl)) rfl rfl hl.1 rfl (lv_room (Nat.le_of_ble_eq_true rfl)) (kdr dgX1_text_0 2 4 rfl rfl) ⟨(Nat.le_of_ble_eq_true rfl), (Nat.le_of_ble_eq_true rfl)⟩) hP hD hS hA [15, 16] [0, 1, 2, 3, 4, 5, 6, 7, 8, 9, 10, 11, 12, 13, 14] rfl [((a 0), .inr (3, [.ref (a 1), .long fr, .long un, .ref (a 2), .ref (a 6), .ref (a 10), .ref (a 14), .int ac, .int rf, .int kn])), ((a 1), .inl (cJ, 4, .inr (.inl ce))), ((a 2), .inr (2, [.ref (a 3), .ref (a 4), .ref (a 5), .int sc])), ((a 3), .inl (cJ, 11, .inr (.inl sb))), ((a 4), .inl (cJ, 11, .inr (.inl se))), ((a 5), .inl (cZ, 11, .inl so)), ((a 6), .inr (2, [.ref (a 7), .ref (a 8), .ref (a 9), .int wc])), ((a 7), .inl (cJ, 11, .inr (.inl wb))), ((a 8), .inl (cJ, 11, .inr (.inl we))), ((a 9), .inl (cZ, 11, .inl wo)), ((a 10), .inr (2, [.ref (a 11), .ref (a 12), .ref (a 13), .int fc])), ((a 11), .inl (cJ, 11, .inr (.inl fb))), ((a 12), .inl (cJ, 11, .inr (.inl fe))), ((a 13), .inl (cZ, 11, .inl fo)), ((a 14), .inl (cI, 11, .inl rm))] rfl (by decide) (by decide) (fun u8 H locs hP hD hS => ?_)
  have hP := hP.sub (ws' := ((wSB cI cJ cZ a ce fr un sb se so sc wb we wo wc fb fe fo fc rm ac rf kn) ++ [(qn0, .inr (1, [.ref (u8 0), .int 0, .int 0, .int r8.2.2]))] ++ [((u8 0), .inl (cB, r8.1, .inl r8.2.1))])) [0, 1, 2, 3, 4, 5, 6, 7, 8, 9, 10, 11, 12, 13, 14, 15, 16] rfl
  have hD := hD.sub (ws' := ((wSB cI cJ cZ a ce fr un sb se so sc wb we wo wc fb fe fo fc rm ac rf kn) ++ [(qn0, .inr (1, [.ref (u8 0), .int 0, .int 0, .int r8.2.2]))] ++ [((u8 0), .inl (cB, r8.1, .inl r8.2.1))])) [0, 1, 2, 3, 4, 5, 6, 7, 8, 9, 10, 11, 12, 13, 14, 15, 16] (by decide) rfl
  refine lv_pop hx hb (kdr dgX1_text_0 2 5 rfl rfl) rfl ?_
  refine lv_aload_n hx hb (kdr dgX1_text_0 2 6 rfl rfl) rfl (lv_at hl 0 rfl) ?_
  obtain ⟨r9, g9, h⟩ := g_b h
  refine kcall_n ((wSB cI cJ cZ a ce fr un sb se so sc wb we wo wc fb fe fo fc rm ac rf kn) ++ [(qn0, .inr (1, [.ref (u8 0), .int 0, .int 0, .int r8.2.2]))] ++ [((u8 0), .inl (cB, r8.1, .inl r8.2.1))]) (va_runV (As := []) (rest := []) ⟨hx, hb, hml, hown, hts⟩ (c_J4_toString_0e30d l dC dI cB cI cJ cZ qn0 (u8 0) _ r8.1 r8.2.1 r8.2.2  r9 g9) (kcwV hts kw_840 kv_J4_toString_0e30d rfl rfl ⟨(Nat.le_of_ble_eq_true rfl), (Nat.le_of_ble_eq_true rfl)⟩) (kpVX (A := A) (hP.sub (kIT mk_9 0) (km_f (m := mk_9) rfl rfl)) hK (hD.sub (kIT mk_9 0) (km_nd mk_9) (km_T (m := mk_9) rfl rfl)) hG hZ hS hD hA (kIT mk_9 0) (km_T (m := mk_9) rfl rfl) (krecv_1 (q0 := 15) hK hP rfl)) rfl rfl hl.1 rfl (lv_room (Nat.le_of_ble_eq_true rfl)) (kdr dgX1_text_0 2 7 rfl rfl) ⟨(Nat.le_of_ble_eq_true rfl), (Nat.le_of_ble_eq_true rfl)⟩) hP hD hS hA (kIT mk_9 0) (kIT mk_10 0) (km_T (m := mk_9) rfl rfl) (km_T (m := mk_9) rfl rfl) [((a 0), .inr (3, [.ref (a 1), .long fr, .long un, .ref (a 2), .ref (a 6), .ref (a 10), .ref (a 14), .int ac, .int rf, .int kn])), ((a 1), .inl (cJ, 4, .inr (.inl ce))), ((a 2), .inr (2, [.ref (a 3), .ref (a 4), .ref (a 5), .int sc])), ((a 3), .inl (cJ, 11, .inr (.inl sb))), ((a 4), .inl (cJ, 11, .inr (.inl se))), ((a 5), .inl (cZ, 11, .inl so)), ((a 6), .inr (2, [.ref (a 7), .ref (a 8), .ref (a 9), .int wc])), ((a 7), .inl (cJ, 11, .inr (.inl wb))), ((a 8), .inl (cJ, 11, .inr (.inl we))), ((a 9), .inl (cZ, 11, .inl wo)), ((a 10), .inr (2, [.ref (a 11), .ref (a 12), .ref (a 13), .int fc])), ((a 11), .inl (cJ, 11, .inr (.inl fb))), ((a 12), .inl (cJ, 11, .inr (.inl fe))), ((a 13), .inl (cZ, 11, .inl fo)), ((a 14), .inl (cI, 11, .inl rm))] (km_T (m := mk_10) rfl rfl) (km_T (m := mk_10) rfl rfl) (km_cov (m := mk_9) (n := mk_10) rfl rfl) (km_dis (m := mk_9) (n := mk_10) rfl) rfl (fun qa9 H locs hP hD hS => ?_)
  have hP := hP.sub (ws' := (wSB cI cJ cZ a ce fr un sb se so sc wb we wo wc fb fe fo fc rm ac rf kn)) [0, 1, 2, 3, 4, 5, 6, 7, 8, 9, 10, 11, 12, 13, 14] rfl
  have h := Option.some.inj h
  subst h
  refine W.widen (k := 7) (n := 280) (Nat.le_of_ble_eq_true rfl) (Nat.le_of_ble_eq_true rfl) ?_
  exact kret_n hx hb hr (Or.inl ⟨_, rfl⟩) hlocks hS hP (kdr dgX1_text_0 2 8 rfl rfl)
noncomputable def fx_X1_text (p0 : Int32) : Option (Nat) :=
  xb (fx_X1_needCell p0) (fun k1 => some k1) (
  none)
theorem fx_X1_text_e {p0 : Int32} : fx_X1_text p0 = 
  xb (fx_X1_needCell p0) (fun k1 => some k1) (
  none) := rfl
set_option maxHeartbeats 4000000 in
set_option maxRecDepth 100000 in
theorem x_X1_text (l : Launch) (hl9 : l.stackTraces = false) (dC : Nat → ClassId) (dI : Nat → Nat → Nat) (cB cI cJ cZ : ClassId) (a : Nat → Nat) (sz : Nat) (ce : Nat → Int64) (fr : Int64) (un : Int64) (sb : Nat → Int64) (se : Nat → Int64) (so : Nat → Int32) (sc : Int32) (wb : Nat → Int64) (we : Nat → Int64) (wo : Nat → Int32) (wc : Int32) (fb : Nat → Int64) (fe : Nat → Int64) (fo : Nat → Int32) (fc : Int32) (rm : Nat → Int32) (ac : Int32) (rf : Int32) (kn : Int32) (p0 : Int32) (res : Nat) (hf : fx_X1_text p0 = some res) : kMX l yX1_text wsX1_text (kRm 7 1 6 110) dC dI cB cI cJ cZ [.ref (a 0), .int p0] sz (wSB cI cJ cZ a ce fr un sb se so sc wb we wo wc fb fe fo fc rm ac rf kn) (res) (wSB cI cJ cZ a ce fr un sb se so sc wb we wo wc fb fe fo fc rm ac rf kn) 1 6 := by
  refine kmet_x (y := yX1_text) (cc := cX1_text) (maxL := 3) (ret := (some (.object "java/lang/String"))) RX1 (kvA 0 (a 0) (kvI 1 p0 kvE)) kpl_X1 rfl rfl (Nat.le_of_ble_eq_true rfl) rfl (fun p e s m below meth c A ls hx hb hr hml ht hts hown hlocks hP hK hG hZ hD hA hS hl => ?_)
  have h := fx_X1_text_e.symm.trans hf
  refine lv_iload_n hx hb (kdr dgX1_text_0 0 0 rfl rfl) rfl (lv_at hl 1 rfl) ?_
  rcases g_x h with ⟨k1, j1, h⟩ | ⟨-, h⟩
  · have h := Option.some.inj h
    subst h
    exact kq_x (wSB cI cJ cZ a ce fr un sb se so sc wb we wo wc fb fe fo fc rm ac rf kn) (fun qP qD qF => vx_runS (As := [.int p0]) (rest := []) ⟨hx, hb, hml, hown, hts⟩ (x_X1_needCell l hl9 dC dI cB cI cJ cZ  _  p0 k1 j1) (kcwS hts kw_473 kv_X1_needCell rfl rfl ⟨(Nat.le_of_ble_eq_true rfl), (Nat.le_of_ble_eq_true rfl)⟩) (kpSXq (A := A) (kPnil) hK ((kDnil (A := A))) hG hZ hS qF) rfl rfl hl.1 rfl (lv_room (Nat.le_of_ble_eq_true rfl)) (kdr dgX1_text_0 0 1 rfl rfl) ⟨(Nat.le_of_ble_eq_true rfl), (Nat.le_of_ble_eq_true rfl)⟩) hP hD hS hA kFr_n ht hlocks (Nat.le_of_ble_eq_true rfl) (Nat.le_of_ble_eq_true rfl)
  · cases h
