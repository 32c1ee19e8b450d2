theorem kstart_w {args : Array Value} {s : State} (hts : ∀ w ∈ lw_tbl, w.before args s = true) : ∀ w ∈ kBIG, w.before args s = true := fun w hw => by
  rcases List.mem_append.mp hw with h | h
  · exact hts w (List.mem_filter.mp h).1
  · have hsb : (Cond.selects "java/lang/StringBuilder" ⟨"java/lang/AbstractStringBuilder", "isLatin1", "()Z"⟩ ⟨"java/lang/AbstractStringBuilder", "isLatin1", "()Z"⟩).before args s = true := hts _ (List.mem_of_getElem? (i := 759) (by decide +kernel))
    simp only [kPV, List.mem_cons, List.not_mem_nil, or_false] at h
    rcases h with rfl | rfl | rfl | rfl
    · exact ksel hsb rfl (by decide +kernel) (hts _ (List.mem_of_getElem? (i := 724) (by decide +kernel))) (hts _ (List.mem_of_getElem? (i := 725) (by decide +kernel)))
    · exact ksel hsb rfl (by decide +kernel) (hts _ (List.mem_of_getElem? (i := 728) (by decide +kernel))) (hts _ (List.mem_of_getElem? (i := 729) (by decide +kernel)))
    · exact ksel hsb rfl (by decide +kernel) (hts _ (List.mem_of_getElem? (i := 905) (by decide +kernel))) (hts _ (List.mem_of_getElem? (i := 906) (by decide +kernel)))
    · exact ksel hsb rfl (by decide +kernel) (hts _ (List.mem_of_getElem? (i := 909) (by decide +kernel))) (hts _ (List.mem_of_getElem? (i := 910) (by decide +kernel)))
theorem karr {s : State} {args : Array Value} {ty : FieldType} (h : (Cond.arrayClass ty).before args s = true) : ∃ cA : ClassId, ArrOfT s cA ty ∧ s.vm.findClass ("[" ++ ty.toString) = some cA := by
  obtain ⟨c, k, comp, h1, h2, h3⟩ := Cond.arrayClass_spec h
  exact ⟨c, fun n z => ⟨fun k h => (by cases h), k, h2, comp, h3⟩, h1⟩
theorem kstr {own tx : String} {k : Nat} {args : Array Value} {s : State} (h1 : (Cond.stringRef own k tx).before args s = true) (h2 : (Cond.exactly (.string own k) "java/lang/String").before args s = true) : ∃ a, vk_R own k tx a s := by
  obtain ⟨a, c, cell, kA, q1, -⟩ := Cond.exactly_spec (args := args) (first := s) (o := none) (s := s) (idx := []) h2
  exact ⟨a, vk_R.of h1 q1⟩
theorem kDigitOnes : ∀ j, j < 100 → (flatC (given_1.and narrow_1))[10 + j]? = some (Cond.eq (.elem (.static "java/lang/Integer" "DigitOnes" "[B") (.int (Int32.ofNat j))) (.int (kOnes j))) := by decide +kernel
theorem kDigitTens : ∀ j, j < 100 → (flatC (given_1.and narrow_1))[113 + j]? = some (Cond.eq (.elem (.static "java/lang/Integer" "DigitTens" "[B") (.int (Int32.ofNat j))) (.int (kTens j))) := by decide +kernel
theorem kblank {own tx : String} {k : Nat} {args : Array Value} {s : State} {A : Nat → Prop} (h0 : (Cond.stringRef own k tx).before args s = true) (h1 : (Cond.exactly (.string own k) "java/lang/String").before args s = true) (h2 : (Cond.eq (.field (.string own k) "java/lang/String" "coder" "B") (.int 0)).before args s = true) (h3 : (Cond.arrayOf (.field (.string own k) "java/lang/String" "value" "[B") .byte).before args s = true) (h4 : (Cond.eq (.length (.field (.string own k) "java/lang/String" "value" "[B")) (.int 1)).before args s = true) (h5 : (Cond.eq (.elem (.field (.string own k) "java/lang/String" "value" "[B") (.int 0)) (.int 32)).before args s = true) (hA : ∀ a : Nat, a < s.heap.size → ¬ A a) : ∃ a b, vk_R own k tx a s ∧ kSp A s s.heap a b := by
  obtain ⟨adK, adV, q1, q2⟩ := vk_Sof (tm := fun _ => .string own k) (N := 1) (len := [1]) (byt := [[32]]) (A := A) (fun i hi => by rcases Nat.lt_one_iff.mp hi with rfl; decide) (fun i hi => h1) (fun i hi => h2) (fun i hi => h3) (fun i hi => by rcases Nat.lt_one_iff.mp hi with rfl; exact h4) (fun i hi j hj => by rcases Nat.lt_one_iff.mp hi with rfl; rcases Nat.lt_one_iff.mp (show j < 1 from hj) with rfl; exact h5) (fun i j hi hj hn => absurd (by omega) hn) hA
  obtain ⟨y1, y2, y3, y4⟩ := q1.1 0 (by decide)
  refine ⟨adK 0, adV 0, vk_R.of h0 (q2 0 (by decide)), y1, y2, y3, ?_⟩
  obtain ⟨cell, x1, x2, x3, x4, x5, x6, x7⟩ := y4
  exact ⟨cell, x1, x2, x3, x4, x5, fun j hj => by rcases Nat.lt_one_iff.mp hj with rfl; exact x6 0 hj, x7⟩
set_option maxHeartbeats 8000000 in
set_option maxRecDepth 100000 in
theorem kstart {p : Program} {s : State} {m : MethodId} {meth : Method} {c : Code} {b L : Nat} {xs : Nat → Int32} (C0 : lw_At p s m meth c b L xs) : ∃ (dC : Nat → ClassId) (dI : Nat → Nat → Nat) (cB cI cJ cZ : ClassId), va_K (dC, dI) vwCl (kTy cB cI cJ cZ) s ∧ kG s ∧ kZ (fun q => s.heap.size ≤ q) s s.heap := by
  obtain ⟨-, -, -, -, -, hts, -, -, -, hgv⟩ := C0
  have hk := kstart_w hts
  have hs := flat_of_before _ hgv
  have hA : ∀ a : Nat, a < s.heap.size → ¬ (fun q => s.heap.size ≤ q) a := fun a h => Nat.not_le.mpr h
  obtain ⟨c0, i0, hK0⟩ := u_known (C := RJ0) (T := TJ0) (N := 4) (n := 4) hk ku_J0 (hk _ (kb_d4 69 (by decide +kernel)))
  obtain ⟨c1, i1, hK1⟩ := u_known (C := RJ4) (T := TJ4) (N := 4) (n := 4) hk ku_J4 (hk _ (kb_d3 147 (by decide +kernel)))
  obtain ⟨c2, i2, hK2⟩ := u_known (C := RX0) (T := TX0) (N := 4) (n := 4) hk ku_X0 (hk _ (kb_d1 31 (by decide +kernel)))
  obtain ⟨c3, i3, hK3⟩ := u_known (C := RX1) (T := TX1) (N := 10) (n := 10) hk ku_X1 (hk _ (kb_d1 22 (by decide +kernel)))
  obtain ⟨c4, i4, hK4⟩ := u_known (C := RX2) (T := TX2) (N := 2) (n := 2) hk ku_X2 (hk _ (kb_d2 156 (by decide +kernel)))
  obtain ⟨c5, i5, hK5⟩ := u_known (C := RX3) (T := TX3) (N := 14) (n := 14) hk ku_X3 (hk _ (kb_d5 50 (by decide +kernel)))
  obtain ⟨dC, dI, hKc⟩ : ∃ (dC : Nat → ClassId) (dI : Nat → Nat → Nat), ∀ (k : Nat) (q : vw_C), vwCl[k]? = some q → u_Kn s q.1 q.2.1 q.2.2 (dC k) (dI k) := by
    refine ⟨fun k => match k with | 0 => c0 | 1 => c1 | 2 => c2 | 3 => c3 | 4 => c4 | _ => c5, fun k => match k with | 0 => i0 | 1 => i1 | 2 => i2 | 3 => i3 | 4 => i4 | _ => i5, ?_⟩
    intro k q hq
    match k, hq with
    | 0, hq => cases hq; exact hK0
    | 1, hq => cases hq; exact hK1
    | 2, hq => cases hq; exact hK2
    | 3, hq => cases hq; exact hK3
    | 4, hq => cases hq; exact hK4
    | 5, hq => cases hq; exact hK5
    | k + 6, hq => simp [vwCl] at hq
  obtain ⟨cB, haB, hbB⟩ := karr (ty := .byte) (hk _ (kb_d2 130 (by decide +kernel)))
  obtain ⟨cI, haI, hbI⟩ := karr (ty := .int) (hk _ (kb_d1 82 (by decide +kernel)))
  obtain ⟨cJ, haJ, hbJ⟩ := karr (ty := .long) (hk _ (kb_d1 49 (by decide +kernel)))
  obtain ⟨cZ, haZ, hbZ⟩ := karr (ty := .boolean) (hk _ (kb_d1 50 (by decide +kernel)))
  refine ⟨dC, dI, cB, cI, cJ, cZ, ⟨hKc, fun k q hq => ?_⟩, ⟨fun w hw => ?_, va_Nc.of (hs _ (List.mem_of_getElem? (i := 221) (by decide +kernel)))⟩, ?_⟩
  · match k, hq with
    | 0, hq => cases hq; exact ⟨haB, hbB⟩
    | 1, hq => cases hq; exact ⟨haI, hbI⟩
    | 2, hq => cases hq; exact ⟨haJ, hbJ⟩
    | 3, hq => cases hq; exact ⟨haZ, hbZ⟩
    | k + 4, hq => simp [kTy] at hq
  · refine va_Nw.of (kGw_tab w hw) (A := #[Value.ref b]) ?_
    simp only [kGw, List.mem_cons, List.not_mem_nil, or_false] at hw
    rcases hw with rfl | rfl | rfl | rfl | rfl | rfl | rfl | rfl | rfl | rfl
    · exact hts _ (List.mem_of_getElem? (i := 562) (by decide +kernel))
    · exact hts _ (List.mem_of_getElem? (i := 364) (by decide +kernel))
    · exact hts _ (List.mem_of_getElem? (i := 366) (by decide +kernel))
    · exact hts _ (List.mem_of_getElem? (i := 368) (by decide +kernel))
    · exact hts _ (List.mem_of_getElem? (i := 478) (by decide +kernel))
    · exact hts _ (List.mem_of_getElem? (i := 362) (by decide +kernel))
    · exact hts _ (List.mem_of_getElem? (i := 453) (by decide +kernel))
    · exact hts _ (List.mem_of_getElem? (i := 457) (by decide +kernel))
    · exact hts _ (List.mem_of_getElem? (i := 458) (by decide +kernel))
    · exact hts _ (List.mem_of_getElem? (i := 748) (by decide +kernel))
  · refine ⟨vx_Zqof (hts _ (List.mem_of_getElem? (i := 387) (by decide +kernel))) (hts _ (List.mem_of_getElem? (i := 61) (by decide +kernel))) (hs _ (List.mem_of_getElem? (i := 4) (by decide +kernel))) hA, vx_Zqof (hts _ (List.mem_of_getElem? (i := 389) (by decide +kernel))) (hts _ (List.mem_of_getElem? (i := 61) (by decide +kernel))) (hs _ (List.mem_of_getElem? (i := 5) (by decide +kernel))) hA, ?_, ?_, ?_, ?_⟩
    · exact kstr (hts _ (List.mem_of_getElem? (i := 485) (by decide +kernel))) (hs _ (List.mem_of_getElem? (i := 283) (by decide +kernel)))
    · exact kstr (hts _ (List.mem_of_getElem? (i := 595) (by decide +kernel))) (hs _ (List.mem_of_getElem? (i := 309) (by decide +kernel)))
    · exact kstr (hts _ (List.mem_of_getElem? (i := 400) (by decide +kernel))) (hs _ (List.mem_of_getElem? (i := 231) (by decide +kernel)))
    · refine ⟨va_Zof (hts _ (List.mem_of_getElem? (i := 692) (by decide +kernel))) (hts _ (List.mem_of_getElem? (i := 69) (by decide +kernel))) (va_eqi (hs _ (List.mem_of_getElem? (i := 6) (by decide +kernel)))) hA, ?_, ?_, ?_, ?_⟩
      · obtain ⟨t, ht, hT⟩ := va_Tof (tm := .static "java/lang/Integer" "DigitOnes" "[B") (N := 100) (ty := .byte) (f := fun j => .int (kOnes j)) (by decide) (hs _ (List.mem_of_getElem? (i := 8) (by decide +kernel))) (va_eqt (hs _ (List.mem_of_getElem? (i := 9) (by decide +kernel)))) (fun j hj => va_eqt (hs _ (List.mem_of_getElem? (kDigitOnes j hj)))) hA
        exact ⟨t, va_Zof (hts _ (List.mem_of_getElem? (i := 765) (by decide +kernel))) (hts _ (List.mem_of_getElem? (i := 71) (by decide +kernel))) ht hA, hT⟩
      · obtain ⟨t, ht, hT⟩ := va_Tof (tm := .static "java/lang/Integer" "DigitTens" "[B") (N := 100) (ty := .byte) (f := fun j => .int (kTens j)) (by decide) (hs _ (List.mem_of_getElem? (i := 111) (by decide +kernel))) (va_eqt (hs _ (List.mem_of_getElem? (i := 112) (by decide +kernel)))) (fun j hj => va_eqt (hs _ (List.mem_of_getElem? (kDigitTens j hj)))) hA
        exact ⟨t, va_Zof (hts _ (List.mem_of_getElem? (i := 767) (by decide +kernel))) (hts _ (List.mem_of_getElem? (i := 71) (by decide +kernel))) ht hA, hT⟩
      · exact kstr (hts _ (List.mem_of_getElem? (i := 1286) (by decide +kernel))) (hs _ (List.mem_of_getElem? (i := 348) (by decide +kernel)))
      · exact kblank (own := "SpanbookerModel") (tx := " ") (k := 200) (hts _ (List.mem_of_getElem? (i := 1290) (by decide +kernel))) (hs _ (List.mem_of_getElem? (i := 356) (by decide +kernel))) (hs _ (List.mem_of_getElem? (i := 357) (by decide +kernel))) (hs _ (List.mem_of_getElem? (i := 358) (by decide +kernel))) (hs _ (List.mem_of_getElem? (i := 359) (by decide +kernel))) (hs _ (List.mem_of_getElem? (i := 360) (by decide +kernel))) hA
