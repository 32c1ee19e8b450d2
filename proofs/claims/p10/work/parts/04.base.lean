/-! the writer's own words over the kit: contracts in one form, calls in one row, guards -/
abbrev ix (j : Int32) (n : Nat) : Prop := 0 ≤ j.toInt ∧ j.toInt < n
theorem ix_in {j : Int32} {n : Nat} (h : ix j n) : vp_in j n := vp_in_iff.mpr h
theorem g_if {α : Type} {c : Prop} [Decidable c] {A : Option α} {r : α} (h : (if c then A else none) = some r) : c ∧ A = some r := by
  by_cases hc : c
  · rw [if_pos hc] at h; exact ⟨hc, h⟩
  · rw [if_neg hc] at h; cases h
theorem g_t {α : Type} {c : Prop} [Decidable c] {A B : Option α} {r : α} (hc : c) (h : (if c then A else B) = some r) : A = some r := (if_pos hc).symm.trans h
theorem g_f {α : Type} {c : Prop} [Decidable c] {A B : Option α} {r : α} (hc : ¬ c) (h : (if c then A else B) = some r) : B = some r := (if_neg hc).symm.trans h
theorem g_b {α β : Type} {o : Option α} {k : α → Option β} {r : β} (h : o.bind k = some r) : ∃ a, o = some a ∧ k a = some r := Option.bind_eq_some_iff.mp h
def kEx (k : Nat) : String := if k = 1 then "java/lang/IndexOutOfBoundsException" else "java/lang/IllegalArgumentException"
abbrev kTy (cB cI cJ cZ : ClassId) : List (ClassId × FieldType) := [(cB, .byte), (cI, .int), (cJ, .long), (cZ, .boolean)]
/-- what holds of the machine through the whole run -/
def kGw : List Cond := [.methodLinkNest RX0 30 yX1_isLet RX1, .declares ⟨"java/lang/RuntimeException", "<init>", "(Ljava/lang/String;)V"⟩, .declares ⟨"java/lang/Exception", "<init>", "(Ljava/lang/String;)V"⟩, .declares ⟨"java/lang/Throwable", "<init>", "(Ljava/lang/String;)V"⟩, .castable "java/lang/IndexOutOfBoundsException" "java/lang/IndexOutOfBoundsException", .castable "java/lang/IllegalArgumentException" "java/lang/IllegalArgumentException", .methodLinkNest RL 146 yX2_init RL, .fieldLinkNest RL 13 RX2 "n" "J" RL, .fieldLinkNest RL 81 RX2 "s" "Ljava/lang/String;" RL, .castable "[B" "java/lang/Cloneable"]
def kG (U : State) : Prop := (∀ w ∈ kGw, va_Nw w U) ∧ va_Nc "java/lang/IllegalArgumentException" "java/lang/IndexOutOfBoundsException" U
theorem kGw_tab : ∀ w ∈ kGw, w.onTables = true := by decide +kernel
theorem kG.at {U : State} (g : kG U) (i : Nat) {w : Cond} (h : kGw[i]? = some w) : va_Nw w U := g.1 w (List.mem_of_getElem? h)
theorem kG_warm {s U : State} (hW : s.WarmedH U.vm) (g : kG s) : kG U := by
  refine ⟨fun w hw => ?_, g.2.moved hW.alike⟩
  have h := g.1 w hw
  simp only [kGw, List.mem_cons, List.not_mem_nil, or_false] at hw
  rcases hw with rfl | rfl | rfl | rfl | rfl | rfl | rfl | rfl | rfl | rfl
  · exact va_Nw.warmM hW h
  · exact va_Nw.warmD hW h
  · exact va_Nw.warmD hW h
  · exact va_Nw.warmD hW h
  · exact va_Nw.warmC hW h
  · exact va_Nw.warmC hW h
  · exact va_Nw.warmM hW h
  · exact va_Nw.warmF hW h
  · exact va_Nw.warmF hW h
  · exact va_Nw.warmC hW h
theorem kG_same {u U : State} (h : u.vm = U.vm) (g : kG u) : kG U := ⟨fun w hw => va_Nw.same (kGw_tab w hw) h (g.1 w hw), g.2.moved (by rw [h]; exact Vm.Alike.refl _)⟩
abbrev kPre (D : va_G) (tys : List (ClassId × FieldType)) (av : List Value) (sz : Nat) (ws : va_W) : Array Value → State → Prop := va_Pc av (fun U => U.heap.size = sz ∧ va_P D vwCl ws U.heap ∧ va_K D vwCl tys U ∧ va_D (fun _ => True) ws ∧ kG U)
theorem kPre_blind {D : va_G} {tys : List (ClassId × FieldType)} {av : List Value} {sz : Nat} {ws : va_W} : FrameBlind (kPre D tys av sz ws) := fun a U g mk q => by
  obtain ⟨q0, q1, qP, qK, qD, qG⟩ := q
  exact ⟨q0, q1, qP, va_K.moved (u := U) (U := U.calling g mk a) (Vm.Alike.refl U.vm) qK, qD, kG_same (u := U) rfl qG⟩
theorem kpV {s : State} {H : Heap} {C : String} {b : Addr} {As : List Value} {D : va_G} {tys : List (ClassId × FieldType)} {wc : va_W} {A : Nat → Prop} (hP : va_P D vwCl wc H) (hK : va_K D vwCl tys s) (hD : va_D A wc) (hG : kG s) (hr : ∃ cellB : Cell, H[b]? = some cellB ∧ cellB.vm.isStatics = false ∧ s.vm.findClass C = some cellB.cls) : PreV s H C b (kPre D tys (.ref b :: As) H.size wc) As :=
  ⟨kPre_blind, hr, fun U hU hW => ⟨rfl, by rw [hU], by rw [hU]; exact hP, va_K.moved hW.alike hK, hD.weaken (fun _ _ _ _ => trivial), kG_warm hW hG⟩⟩
theorem kpS {s : State} {H : Heap} {As : List Value} {D : va_G} {tys : List (ClassId × FieldType)} {wc : va_W} {A : Nat → Prop} (hP : va_P D vwCl wc H) (hK : va_K D vwCl tys s) (hD : va_D A wc) (hG : kG s) : PreS s H (kPre D tys As H.size wc) As :=
  ⟨kPre_blind, fun U hU hW => ⟨rfl, by rw [hU], by rw [hU]; exact hP, va_K.moved hW.alike hK, hD.weaken (fun _ _ _ _ => trivial), kG_warm hW hG⟩⟩
theorem kPnil {D : va_G} {H : Heap} : va_P D vwCl [] H := fun _ _ h => by simp at h
theorem kDnil {A : Nat → Prop} : va_D A [] := ⟨fun _ _ _ _ h => by simp at h, fun _ _ h => by simp at h⟩
abbrev kI (D : va_G) (ty : FieldType) (r : Int32) (ws : va_W) (A : Nat → Prop) : Array Value → State → Outcome → State → Prop := va_Qi (fun (r' : Int32) (_ : Unit) => r' = r ∧ narrow ty (.int r) = .int r) (fun _ t => va_P D vwCl ws t.heap) A
abbrev kL (D : va_G) (r : Int64) (ws : va_W) (A : Nat → Prop) : Array Value → State → Outcome → State → Prop := va_Ql (fun (r' : Int64) (_ : Unit) => r' = r) (fun _ t => va_P D vwCl ws t.heap) A
abbrev kV (D : va_G) (ws : va_W) (A : Nat → Prop) : Array Value → State → Outcome → State → Prop := va_Qv (fun (_ : Unit) => True) (fun _ t => va_P D vwCl ws t.heap) A
/-- a new array as the answer: behind the old cells -/
abbrev kR (D : va_G) (e : va_E) (ws : va_W) (A : Nat → Prop) : Array Value → State → Outcome → State → Prop := va_Qr (fun (_ : Unit) => True) (fun _ a t => va_P D vwCl (ws ++ [(a, e)]) t.heap ∧ va_D A (ws ++ [(a, e)])) A
def kadr (x0 x1 x2 x3 x4 x5 x6 : Nat) : Nat → Nat := fun k => match k with
  | 0 => x0
  | 1 => x1
  | 2 => x2
  | 3 => x3
  | 4 => x4
  | 5 => x5
  | _ => x6
/-- an int as the answer, the world at other places -/
abbrev kSh (D : va_G) (r : Int32) (b0 : Nat) (F : (Nat → Nat) → va_W) (A : Nat → Prop) : Array Value → State → Outcome → State → Prop := va_Qi (fun (r' : Int32) (u : Nat → Nat) => r' = r ∧ u 0 = b0) (fun u t => va_P D vwCl (F u) t.heap ∧ va_D A (F u)) A
/-- behind a call: the caller's world, the callee's places as it left them -/
theorem kjoin {A0 : Nat → Prop} {D : va_G} {cl : List vw_C} {ws wc ws' w1 : va_W} {H H1 : Heap} (hP : va_P D cl ws H) (hD : va_D A0 ws) (isC isR : List Nat) (hC : isC.map (fun i => ws[i]?) = wc.map some) (hC' : isC.map (fun i => ws'[i]?) = w1.map some) (wr : va_W) (hR0 : isR.map (fun i => ws[i]?) = wr.map some) (hR1 : isR.map (fun i => ws'[i]?) = wr.map some) (hcov : (List.range ws'.length).all (fun i => isC.contains i || isR.contains i) = true) (hdis : ∀ i ∈ isR, i ∉ isC) (had : ws'.map (·.1) = ws.map (·.1))
    (hk : ∀ q : Nat, q < H.size → ¬ va_A wc H.size q → H1[q]? = H[q]?) (hP1 : va_P D cl w1 H1) : va_P D cl ws' H1 ∧ va_D A0 ws' := by
  have hR : isR.map (fun i => ws'[i]?) = isR.map (fun i => ws[i]?) := hR1.trans hR0.symm
  have hadr : ∀ (k : Nat) (q : Nat × va_E), ws'[k]? = some q → ∃ q0, ws[k]? = some q0 ∧ q0.1 = q.1 := by
    intro k q hq
    have h1 : (ws'.map (·.1))[k]? = some q.1 := by rw [List.getElem?_map, hq]; rfl
    rw [had, List.getElem?_map] at h1
    cases h2 : ws[k]? with
    | none => rw [h2] at h1; cases h1
    | some q0 => rw [h2] at h1; exact ⟨q0, rfl, Option.some.inj h1⟩
  have pick : ∀ {is : List Nat} {w wx : va_W}, is.map (fun i => wx[i]?) = w.map some → ∀ (k : Nat) (i : Nat), is[k]? = some i → ∃ q, w[k]? = some q ∧ wx[i]? = some q := by
    intro is w wx hs k i hi
    have h1 : (is.map (fun i => wx[i]?))[k]? = some (wx[i]?) := by rw [List.getElem?_map, hi]; rfl
    rw [hs, List.getElem?_map] at h1
    cases hq : w[k]? with
    | none => rw [hq] at h1; cases h1
    | some q => rw [hq] at h1; exact ⟨q, rfl, (Option.some.inj h1).symm⟩
  have back : ∀ {is : List Nat} {w wx : va_W}, is.map (fun i => wx[i]?) = w.map some → ∀ (k : Nat) (q : Nat × va_E), w[k]? = some q → ∃ i, is[k]? = some i ∧ wx[i]? = some q := by
    intro is w wx hs k q hq
    have h1 : (is.map (fun i => wx[i]?))[k]? = some (some q) := by rw [hs, List.getElem?_map, hq]; rfl
    rw [List.getElem?_map] at h1
    cases hi : is[k]? with
    | none => rw [hi] at h1; cases h1
    | some i => rw [hi] at h1; exact ⟨i, rfl, Option.some.inj h1⟩
  refine ⟨fun k q hq => ?_, ⟨fun i j x y hi hj hxy => ?_, fun k q hq => ?_⟩⟩
  · have hl : k < ws'.length := (List.getElem?_eq_some_iff.mp hq).1
    have hc := List.all_eq_true.mp hcov k (List.mem_range.mpr hl)
    by_cases hkC : k ∈ isC
    · obtain ⟨j, hj⟩ := List.getElem?_of_mem hkC
      obtain ⟨q', h1, h2⟩ := pick hC' j k hj
      rw [hq] at h2
      cases h2
      exact hP1 j q h1
    · have hkR : k ∈ isR := by
        simp only [Bool.or_eq_true, List.contains_iff_mem] at hc
        exact hc.resolve_left hkC
      obtain ⟨j, hj⟩ := List.getElem?_of_mem hkR
      have h3 : ws[k]? = some q := by
        have e1 : (isR.map (fun i => ws'[i]?))[j]? = some (some q) := by rw [List.getElem?_map, hj]; simp [hq]
        rw [hR, List.getElem?_map, hj] at e1
        exact Option.some.inj e1
      have hlt := (hP k q h3).lt
      refine (hP k q h3).kept (hk q.1 hlt (fun h => ?_))
      rcases h with ⟨k2, e, h⟩ | h
      · obtain ⟨i2, h4, h5⟩ := back hC k2 (q.1, e) h
        have := hD.1 k i2 q (q.1, e) h3 h5 rfl
        subst this
        exact hkC (List.mem_of_getElem? h4)
      · omega
  · obtain ⟨x0, h1, h2⟩ := hadr i x hi
    obtain ⟨y0, h3, h4⟩ := hadr j y hj
    exact hD.1 i j x0 y0 h1 h3 (h2.trans (hxy.trans h4.symm))
  · obtain ⟨q0, h1, h2⟩ := hadr k q hq
    rw [← h2]
    exact hD.2 k q0 h1
theorem kb_all (ws : List Cond) (ps : List Nat) (hp : ws = ps.filterMap (fun i => lw_tbl[i]?)) (h : ws.all goodWord = true) : ∀ w ∈ ws, w ∈ kBIG := fun w hw => by
  have h1 := List.all_eq_true.mp h w hw
  rw [hp] at hw
  obtain ⟨i, -, hi⟩ := List.mem_filterMap.mp hw
  exact kb_in i ⟨hi, h1⟩
abbrev kSt (y : MethodName) (cc : ByteArray) (maxL : Nat) (ret : Option FieldType) (n : Nat) : Prop := Cond.code y cc maxL ret ∈ kBIG ∧ Cond.static y ∈ kBIG ∧ Cond.initialized y.cls ∈ kBIG ∧ y.cls ≠ "java/lang/invoke/MethodHandle" ∧ y.cls ≠ "java/lang/invoke/VarHandle" ∧ (parseMethodDescriptor y.desc).map (fun d => d.parameters.length) = some n
abbrev kVt (y : MethodName) (cc : ByteArray) (maxL : Nat) (ret : Option FieldType) (n : Nat) : Prop := Cond.code y cc maxL ret ∈ kBIG ∧ Cond.instanceMethod y ∈ kBIG ∧ Cond.selects y.cls y y ∈ kBIG ∧ Cond.initialized y.cls ∈ kBIG ∧ y.cls ≠ "java/lang/invoke/MethodHandle" ∧ y.cls ≠ "java/lang/invoke/VarHandle" ∧ (parseMethodDescriptor y.desc).map (fun d => d.parameters.length) = some n
theorem kgood {c0 : Cond} {y : MethodName} {cc : ByteArray} {maxL : Nat} {ret : Option FieldType} (h : Cond.code y cc maxL ret ∈ kBIG) : GoodIn (c0 :: kBIG) (kWs y cc maxL ret) := fun w hw => by
  rcases List.mem_cons.mp hw with e | hw
  · rw [e]; exact ⟨List.mem_cons_of_mem _ h, good_of_word (kBIG_good h)⟩
  · exact ⟨List.mem_cons_of_mem _ hw, good_of_word (kBIG_good hw)⟩
section KW
variable {R : Room} {s : State} {args : Array Value} {c0 : Cond} {own : String} {index maxL mc ms n : Nat} {y : MethodName} {cc : ByteArray} {ret : Option FieldType} {rm : Room}
theorem kcwV (ht : ∀ w ∈ c0 :: kBIG, w.before args s = true) (hl : Cond.methodLink own index y ∈ kBIG) (q : kVt y cc maxL ret n) (hrc : rm.cells = mc) (hrs : rm.slots = ms) (hR : rm.frames + 1 ≤ R.frames ∧ 8 + (maxL + 11) + rm.locals ≤ R.locals) : CallW R s args own y.cls index y cc maxL ret (kWs y cc maxL ret) rm mc ms n :=
  ⟨callB_of n ht (kgood q.1) rfl hrc hrs (ht _ (List.mem_cons_of_mem _ q.2.2.2.1)) (ht _ (List.mem_cons_of_mem _ hl)) q.2.2.2.2 hR, ht _ (List.mem_cons_of_mem _ q.2.1), ht _ (List.mem_cons_of_mem _ q.2.2.1)⟩
theorem kcwS (ht : ∀ w ∈ c0 :: kBIG, w.before args s = true) (hl : Cond.methodLink own index y ∈ kBIG) (q : kSt y cc maxL ret n) (hrc : rm.cells = mc) (hrs : rm.slots = ms) (hR : rm.frames + 1 ≤ R.frames ∧ 8 + (maxL + 11) + rm.locals ≤ R.locals) : CallB R s args own index y cc maxL ret (kWs y cc maxL ret) rm mc ms n ∧ (Cond.static y).before args s = true :=
  ⟨callB_of n ht (kgood q.1) rfl hrc hrs (ht _ (List.mem_cons_of_mem _ q.2.2.1)) (ht _ (List.mem_cons_of_mem _ hl)) q.2.2.2 hR, ht _ (List.mem_cons_of_mem _ q.2.1)⟩
theorem kcwN {host : String} (ht : ∀ w ∈ c0 :: kBIG, w.before args s = true) (hl : va_Nw (.methodLinkNest own index y host) s) (q : kSt y cc maxL ret n) (hrc : rm.cells = mc) (hrs : rm.slots = ms) (hR : rm.frames + 1 ≤ R.frames ∧ 8 + (maxL + 11) + rm.locals ≤ R.locals) : va_CN R s args own index y host cc maxL ret (kWs y cc maxL ret) rm mc ms n ∧ (Cond.static y).before args s = true ∧ True :=
  ⟨va_cnB n ht (kgood q.1) rfl hrc hrs hl (ht _ (List.mem_cons_of_mem _ q.2.2.1)) q.2.2.2 hR, ht _ (List.mem_cons_of_mem _ q.2.1), trivial⟩
end KW
/-- the same for a method of a class that has natives' rows for other methods (java/lang/Math) -/
theorem kofW {l : Launch} {y : MethodName} {ws ws' : List Cond} {rm : Room} {Pc : Array Value → State → Prop} {Qc : Array Value → State → Outcome → State → Prop} {mc ms : Nat} {free : Addr → Prop} {cc : ByteArray} {maxL : Nat} {ret : Option FieldType}
    (hy : plainFor y = true) (hw : ws = Cond.code y cc maxL ret :: ws')
    (body : ∀ p e s m args below meth c s₁, BodyLoose p l y (headSpec ws rm) cc maxL ret e s m args below meth c s₁ → c.maxLocals = maxL → Pc args s →
      W p l e (headSpec ws rm).room s m args below meth c s.heap [] 0 0 (MQ below Qc args s mc ms free) (entryFrame m args maxL)) : Met l y ws rm Pc Qc mc ms free := by
  refine MetFree.of_bodySF (code := cc) (maxLocals := maxL) (ret := ret) hy ?_ ?_
  · intro args s m h hn
    obtain ⟨meth, c, h1, h2, h3, h4, h5, h6, -, -⟩ := Cond.code_spec hn (atoms_spec (ws := ws) h _ (by rw [hw]; exact List.mem_cons_self))
    exact ⟨meth, c, h1, h2, h3, h4, h5, h6⟩
  · intro p e s m args below meth c s₁ B hml hP _
    have hh0 : s₁.heap = s.heap := by rw [B.state]; rfl
    obtain ⟨t, a1, o, b1, b2, b3⟩ := body p e s m args below meth c s₁ B hml hP s₁ hh0 (Stand.of_body B)
    exact ⟨t, o, a1, b1, b2, ⟨b3.1, b3.2⟩⟩
theorem ix_lt {x : Int32} {n : Nat} (h : ix x n) : x.toNatClampNeg < n := Nat.not_le.mp fun q => ix_in h (Or.inr q)
theorem kn_pos {x : Int32} {n : Nat} (h : ix x n) : ¬ x < 0 := fun q => ix_in h (Or.inl q)
theorem kn_by {x : Int32} {n k m : Nat} (g : ix x n) (h : n * k ≤ m) : x.toNatClampNeg * k ≤ m := Nat.le_trans (Nat.mul_le_mul_right _ (Nat.le_of_lt (ix_lt g))) h
theorem kn_slg {x : Int32} {a b n : Nat} (g : ix x (n + 1)) (h : a + n ≤ b) : a + x.toNatClampNeg ≤ b := by have := ix_lt g; omega
theorem kn_sl {x : Int32} {a b : Nat} (g : ix x 17) (h : a + 16 ≤ b) : a + x.toNatClampNeg ≤ b := by have := ix_lt g; omega
theorem k_cA {D : va_G} {cl : List vw_C} {cB cI cJ cZ cA : ClassId} {ty : FieldType} {s : State} (hK : va_K D cl (kTy cB cI cJ cZ ++ [(cA, ty)]) s) (t0 : Nat) {cX : ClassId} (ht : (kTy cB cI cJ cZ)[t0]? = some (cX, ty)) : cA = cX := by
  have h4 := (hK.2 4 (cA, ty) rfl).2
  have h0 := (hK.2 t0 (cX, ty) (by rcases t0 with _ | _ | _ | _ | t0 <;> first | exact ht | cases ht)).2
  rcases t0 with _ | _ | _ | _ | t0
  · cases ht
    exact Option.some.inj ((show s.vm.findClass _ = some cA from h4).symm.trans (show s.vm.findClass _ = some cB from h0))
  · cases ht
    exact Option.some.inj ((show s.vm.findClass _ = some cA from h4).symm.trans (show s.vm.findClass _ = some cI from h0))
  · cases ht
    exact Option.some.inj ((show s.vm.findClass _ = some cA from h4).symm.trans (show s.vm.findClass _ = some cJ from h0))
  · cases ht
    exact Option.some.inj ((show s.vm.findClass _ = some cA from h4).symm.trans (show s.vm.findClass _ = some cZ from h0))
  · cases ht
section KB
variable {p : Program} {l : Launch} {e0 : Env} {R : Room} {s : State} {m : MethodId} {args : Array Value} {below : List Frame} {meth : Method} {c : Code} {H : Heap} {locs : List Loc} {cells slots : Nat} {Q : State → Prop}
variable {cc : ByteArray} {pc : Nat} {ls : Array Slot} {rest st0 : List Value} {D : va_G} {A A0 : Nat → Prop} {tys : List (ClassId × FieldType)} {ws wc ws' w1 : va_W} {H0 : Heap} {a : Array Value} {mc ms : Nat}
theorem kcall_i {ty : FieldType} {r : Int32} (ws' : va_W) (hr : va_Run p l e0 R s m args below meth c H locs cells slots mc ms (F0 m pc ls st0) rest (kI D ty r w1 (va_A wc H.size) a) (va_A wc H.size)) (hP : va_P D vwCl ws H) (hD : va_D A0 ws) (hS : va_S A0 H0 H locs) (hA : ∀ q, H0.size ≤ q → A0 q) (isC isR : List Nat) (hC : isC.map (fun i => ws[i]?) = wc.map some) (hC' : isC.map (fun i => ws'[i]?) = w1.map some) (wr : va_W) (hR0 : isR.map (fun i => ws[i]?) = wr.map some) (hR1 : isR.map (fun i => ws'[i]?) = wr.map some) (hcov : (List.range ws'.length).all (fun i => isC.contains i || isR.contains i) = true) (hdis : ∀ i ∈ isR, i ∉ isC) (had : ws'.map (·.1) = ws.map (·.1))
    (kk : ∀ (H1 : Heap) (locs1 : List Loc), va_P D vwCl ws' H1 → va_D A0 ws' → va_S A0 H0 H1 locs1 → narrow ty (.int r) = .int r → W p l e0 R s m args below meth c H1 locs1 (cells + mc) (slots + ms) Q (F0 m (pc + 3) ls (.int r :: rest))) : W p l e0 R s m args below meth c H locs cells slots Q (F0 m pc ls st0) := by
  have hF := va_free (wc := wc) hD hS hA isC hC
  refine va_calli hr hS (fun q _ h => hF q h) hF (fun r' u t H1 locs1 ht hvm hw hB hz hk hS1 => ?_)
  obtain ⟨rfl, hn⟩ := hw
  rw [ht] at hB
  obtain ⟨hP1, hD1⟩ := kjoin hP hD isC isR hC hC' wr hR0 hR1 hcov hdis had hk hB
  exact kk H1 locs1 hP1 hD1 hS1 hn
theorem kcall_l {r : Int64} (ws' : va_W) (hr : va_Run p l e0 R s m args below meth c H locs cells slots mc ms (F0 m pc ls st0) rest (kL D r w1 (va_A wc H.size) a) (va_A wc H.size)) (hP : va_P D vwCl ws H) (hD : va_D A0 ws) (hS : va_S A0 H0 H locs) (hA : ∀ q, H0.size ≤ q → A0 q) (isC isR : List Nat) (hC : isC.map (fun i => ws[i]?) = wc.map some) (hC' : isC.map (fun i => ws'[i]?) = w1.map some) (wr : va_W) (hR0 : isR.map (fun i => ws[i]?) = wr.map some) (hR1 : isR.map (fun i => ws'[i]?) = wr.map some) (hcov : (List.range ws'.length).all (fun i => isC.contains i || isR.contains i) = true) (hdis : ∀ i ∈ isR, i ∉ isC) (had : ws'.map (·.1) = ws.map (·.1))
    (kk : ∀ (H1 : Heap) (locs1 : List Loc), va_P D vwCl ws' H1 → va_D A0 ws' → va_S A0 H0 H1 locs1 → W p l e0 R s m args below meth c H1 locs1 (cells + mc) (slots + ms) Q (F0 m (pc + 3) ls (.long r :: rest))) : W p l e0 R s m args below meth c H locs cells slots Q (F0 m pc ls st0) := by
  have hF := va_free (wc := wc) hD hS hA isC hC
  refine va_calll hr hS (fun q _ h => hF q h) hF (fun r' u t H1 locs1 ht hvm hw hB hz hk hS1 => ?_)
  obtain rfl := hw
  rw [ht] at hB
  obtain ⟨hP1, hD1⟩ := kjoin hP hD isC isR hC hC' wr hR0 hR1 hcov hdis had hk hB
  exact kk H1 locs1 hP1 hD1 hS1
theorem kcall_v (ws' : va_W) (hr : va_Run p l e0 R s m args below meth c H locs cells slots mc ms (F0 m pc ls st0) rest (kV D w1 (va_A wc H.size) a) (va_A wc H.size)) (hP : va_P D vwCl ws H) (hD : va_D A0 ws) (hS : va_S A0 H0 H locs) (hA : ∀ q, H0.size ≤ q → A0 q) (isC isR : List Nat) (hC : isC.map (fun i => ws[i]?) = wc.map some) (hC' : isC.map (fun i => ws'[i]?) = w1.map some) (wr : va_W) (hR0 : isR.map (fun i => ws[i]?) = wr.map some) (hR1 : isR.map (fun i => ws'[i]?) = wr.map some) (hcov : (List.range ws'.length).all (fun i => isC.contains i || isR.contains i) = true) (hdis : ∀ i ∈ isR, i ∉ isC) (had : ws'.map (·.1) = ws.map (·.1))
    (kk : ∀ (H1 : Heap) (locs1 : List Loc), va_P D vwCl ws' H1 → va_D A0 ws' → va_S A0 H0 H1 locs1 → W p l e0 R s m args below meth c H1 locs1 (cells + mc) (slots + ms) Q (F0 m (pc + 3) ls rest)) : W p l e0 R s m args below meth c H locs cells slots Q (F0 m pc ls st0) := by
  have hF := va_free (wc := wc) hD hS hA isC hC
  refine va_callv hr hS (fun q _ h => hF q h) hF (fun u t H1 locs1 ht hvm hw hB hz hk hS1 => ?_)
  rw [ht] at hB
  obtain ⟨hP1, hD1⟩ := kjoin hP hD isC isR hC hC' wr hR0 hR1 hcov hdis had hk hB
  exact kk H1 locs1 hP1 hD1 hS1
/-- an answer that is a new array -/
theorem kcall_r {e : va_E} (ws' : va_W) (hr : va_Run p l e0 R s m args below meth c H locs cells slots mc ms (F0 m pc ls st0) rest (kR D e w1 (va_A wc H.size) a) (va_A wc H.size)) (hP : va_P D vwCl ws H) (hD : va_D A0 ws) (hS : va_S A0 H0 H locs) (hA : ∀ q, H0.size ≤ q → A0 q) (isC isR : List Nat) (hC : isC.map (fun i => ws[i]?) = wc.map some) (hC' : isC.map (fun i => ws'[i]?) = w1.map some) (wr : va_W) (hR0 : isR.map (fun i => ws[i]?) = wr.map some) (hR1 : isR.map (fun i => ws'[i]?) = wr.map some) (hcov : (List.range ws'.length).all (fun i => isC.contains i || isR.contains i) = true) (hdis : ∀ i ∈ isR, i ∉ isC) (had : ws'.map (·.1) = ws.map (·.1)) (hw : w1.map (·.1) = wc.map (·.1))
    (kk : ∀ (ra : Nat) (H1 : Heap) (locs1 : List Loc), va_P D vwCl (ws' ++ [(ra, e)]) H1 → va_D A0 (ws' ++ [(ra, e)]) → va_S A0 H0 H1 locs1 → W p l e0 R s m args below meth c H1 locs1 (cells + mc) (slots + ms) Q (F0 m (pc + 3) ls (.ref ra :: rest))) : W p l e0 R s m args below meth c H locs cells slots Q (F0 m pc ls st0) := by
  have hF := va_free (wc := wc) hD hS hA isC hC
  refine va_callr hr hS (fun q _ h => hF q h) hF (fun u ra t H1 locs1 ht hvm hw0 hB hz hk hS1 => ?_)
  obtain ⟨hB, hDB⟩ := hB
  rw [ht] at hB
  have hlast : (w1 ++ [(ra, e)])[w1.length]? = some (ra, e) := by simp
  have hleft : ∀ (k : Nat) (q : Nat × va_E), w1[k]? = some q → (w1 ++ [(ra, e)])[k]? = some q := fun k q h => by rw [List.getElem?_append_left (List.getElem?_eq_some_iff.mp h).1]; exact h
  obtain ⟨hP1, hD1⟩ := kjoin hP hD isC isR hC hC' wr hR0 hR1 hcov hdis had hk (fun k q h => hB k q (hleft k q h))
  have hra : H.size ≤ ra := by
    rcases hDB.2 w1.length (ra, e) hlast with ⟨k, e1, h⟩ | h
    · exfalso
      have h1 : (wc.map (·.1))[k]? = some ra := by rw [List.getElem?_map, h]; rfl
      rw [← hw, List.getElem?_map] at h1
      cases h2 : w1[k]? with
      | none => rw [h2] at h1; cases h1
      | some q =>
        rw [h2] at h1
        have h3 := hDB.1 k w1.length q (ra, e) (hleft k q h2) hlast (Option.some.inj h1)
        have h4 := (List.getElem?_eq_some_iff.mp h2).1
        omega
    · exact h
  have hlt : ∀ (k : Nat) (q : Nat × va_E), ws'[k]? = some q → q.1 < H.size := by
    intro k q hq
    have h1 : (ws'.map (·.1))[k]? = some q.1 := by rw [List.getElem?_map, hq]; rfl
    rw [had, List.getElem?_map] at h1
    cases h2 : ws[k]? with
    | none => rw [h2] at h1; cases h1
    | some q0 =>
      rw [h2] at h1
      have h3 := (hP k q0 h2).lt
      have h4 : q0.1 = q.1 := Option.some.inj h1
      omega
  have hone : ∀ (k : Nat) (q : Nat × va_E), ([(ra, e)] : va_W)[k]? = some q → q = (ra, e) := fun k q h => by
    cases k with
    | zero => exact (Option.some.inj h).symm
    | succ k => simp at h
  refine kk ra H1 locs1 (hP1.app (fun k q h => ?_)) (hD1.app ⟨fun i j x y hi hj _ => ?_, fun k q h => ?_⟩ (fun i j x y hi hj => ?_)) hS1
  · rw [hone k q h]; exact hB _ _ hlast
  · have := (List.getElem?_eq_some_iff.mp hi).1
    have := (List.getElem?_eq_some_iff.mp hj).1
    simp at *
    omega
  · rw [hone k q h]; exact hA ra (Nat.le_trans hS.1 hra)
  · have h1 := hlt i x hi
    rw [hone j y hj]
    show x.1 ≠ ra
    omega
/-- ends -/
theorem kret_i {ty : FieldType} {v : Int32} (hx : p.tables.exec = Jvm.exec) (hb : c.code = cc) (hr : meth.sig.returnType = some ty) (hn : narrow ty (.int v) = .int v) (hlocks : meth.locks = false) (hS : va_S A s.heap H locs) (hP : va_P D vwCl ws H) (hd : decode cc pc = .ok (.ireturn, 1)) : W p l e0 R s m args below meth c H locs cells slots (MQ below (kI D ty v ws A) args s cells slots A) (F0 m pc ls [.int v]) :=
  W.zret (v := v) hx hb hr hn (fun t ht _ => ⟨⟨v, (), rfl, ⟨rfl, hn⟩, by show va_P D vwCl ws t.heap; rw [ht]; exact hP⟩, hS.F ht⟩) hS.2.2 hd hlocks
theorem kret_sh {v : Int32} {u : Nat → Nat} {b0 : Nat} {F : (Nat → Nat) → va_W} (hx : p.tables.exec = Jvm.exec) (hb : c.code = cc) (hr : meth.sig.returnType = some .int) (hlocks : meth.locks = false) (hS : va_S A s.heap H locs) (hu : u 0 = b0) (hP : va_P D vwCl (F u) H) (hD : va_D A (F u)) (hd : decode cc pc = .ok (.ireturn, 1)) : W p l e0 R s m args below meth c H locs cells slots (MQ below (kSh D v b0 F A) args s cells slots A) (F0 m pc ls [.int v]) :=
  W.iret (v := v) hx hb hr (fun t ht _ => ⟨⟨v, u, rfl, ⟨rfl, hu⟩, by show va_P D vwCl (F u) t.heap; rw [ht]; exact hP, hD⟩, hS.F ht⟩) hS.2.2 hd hlocks
theorem kret_l {v : Int64} (hx : p.tables.exec = Jvm.exec) (hb : c.code = cc) (hr : meth.sig.returnType = some .long) (hlocks : meth.locks = false) (hS : va_S A s.heap H locs) (hP : va_P D vwCl ws H) (hd : decode cc pc = .ok (.lreturn, 1)) : W p l e0 R s m args below meth c H locs cells slots (MQ below (kL D v ws A) args s cells slots A) (F0 m pc ls [.long v]) :=
  W.lret (v := v) hx hb hr (fun t ht _ => ⟨⟨v, (), rfl, rfl, by show va_P D vwCl ws t.heap; rw [ht]; exact hP⟩, hS.F ht⟩) hS.2.2 hd hlocks
theorem kret_v (hx : p.tables.exec = Jvm.exec) (hb : c.code = cc) (hr : meth.sig.returnType = none) (hlocks : meth.locks = false) (hS : va_S A s.heap H locs) (hP : va_P D vwCl ws H) (hd : decode cc pc = .ok (.return_, 1)) : W p l e0 R s m args below meth c H locs cells slots (MQ below (kV D ws A) args s cells slots A) (F0 m pc ls []) :=
  W.vret hx hb hr (fun t ht _ => ⟨⟨(), rfl, trivial, by show va_P D vwCl ws t.heap; rw [ht]; exact hP⟩, hS.F ht⟩) hS.2.2 hd hlocks
theorem kret_r {q : Nat} {e : va_E} {rt : FieldType} (hx : p.tables.exec = Jvm.exec) (hb : c.code = cc) (hr : meth.sig.returnType = some rt) (hrt : (∃ n, rt = .object n) ∨ ∃ t, rt = .array t) (hlocks : meth.locks = false) (hS : va_S A s.heap H locs) (hP : va_P D vwCl (ws ++ [(q, e)]) H) (hD : va_D A (ws ++ [(q, e)])) (hd : decode cc pc = .ok (.areturn, 1)) : W p l e0 R s m args below meth c H locs cells slots (MQ below (kR D e ws A) args s cells slots A) (F0 m pc ls [.ref q]) :=
  W.aret (v := .ref q) hx hb hr hrt (Or.inr ⟨q, rfl⟩) (fun t ht _ => ⟨⟨(), q, rfl, trivial, by rw [ht]; exact hP, hD⟩, hS.F ht⟩) hS.2.2 hd hlocks
/-- lcmp and the branch behind it -/
theorem lc_ge {x y : Int64} : 0 ≤ lg_cmp x y ↔ y ≤ x := by
  unfold lg_cmp
  by_cases h : y < x
  · simp [h, Int64.le_of_lt h]
  · by_cases h2 : x = y
    · simp [h2]
    · have : ¬ y ≤ x := fun h3 => h2 (Int64.le_antisymm (Int64.not_lt.mp h) h3)
      simp [h, h2, this]
theorem lc_gt {x y : Int64} : 0 < lg_cmp x y ↔ y < x := by
  unfold lg_cmp
  by_cases h : y < x
  · simp [h]
  · by_cases h2 : x = y
    · simp [h2]
    · simp [h, h2]
theorem lc_eq {x y : Int64} : lg_cmp x y = 0 ↔ x = y := by
  unfold lg_cmp
  by_cases h : y < x
  · have : ¬ x = y := fun h3 => by subst h3; exact absurd h (Int64.lt_irrefl)
    simp [h, this]
  · by_cases h2 : x = y
    · simp [h2]
    · simp [h, h2]
theorem lc_lt {x y : Int64} : lg_cmp x y < 0 ↔ x < y := by
  have h := lc_ge (x := x) (y := y)
  rw [← Int32.not_le, h, Int64.not_le]
theorem lc_le {x y : Int64} : lg_cmp x y ≤ 0 ↔ x ≤ y := by
  have h := lc_gt (x := x) (y := y)
  rw [← Int32.not_lt, h, Int64.not_lt]
theorem kl_ge (hx : p.tables.exec = Jvm.exec) (hb : c.code = cc) {x y : Int64} {off : Int} {tgt : Nat} (d0 : decode cc pc = .ok (.lcmp, 1)) (d1 : decode cc (pc + 1) = .ok (.ifCond .ge off, 3)) (ht : ((pc + 1 : Nat) : Int) + off = (tgt : Int)) (kt : y ≤ x → W p l e0 R s m args below meth c H locs cells slots Q (F0 m tgt ls rest)) (kf : ¬ y ≤ x → W p l e0 R s m args below meth c H locs cells slots Q (F0 m (pc + 4) ls rest)) : W p l e0 R s m args below meth c H locs cells slots Q (F0 m pc ls (.long y :: .long x :: rest)) :=
  W.lcmp hx hb d0 (lv_if_ge (tgt := tgt) hx hb d1 ht (fun h => kt (lc_ge.mp h)) (fun h => kf (fun z => h (lc_ge.mpr z))))
theorem kl_lt (hx : p.tables.exec = Jvm.exec) (hb : c.code = cc) {x y : Int64} {off : Int} {tgt : Nat} (d0 : decode cc pc = .ok (.lcmp, 1)) (d1 : decode cc (pc + 1) = .ok (.ifCond .lt off, 3)) (ht : ((pc + 1 : Nat) : Int) + off = (tgt : Int)) (kt : x < y → W p l e0 R s m args below meth c H locs cells slots Q (F0 m tgt ls rest)) (kf : ¬ x < y → W p l e0 R s m args below meth c H locs cells slots Q (F0 m (pc + 4) ls rest)) : W p l e0 R s m args below meth c H locs cells slots Q (F0 m pc ls (.long y :: .long x :: rest)) :=
  W.lcmp hx hb d0 (lv_if_lt (tgt := tgt) hx hb d1 ht (fun h => kt (lc_lt.mp h)) (fun h => kf (fun z => h (lc_lt.mpr z))))
theorem kl_gt (hx : p.tables.exec = Jvm.exec) (hb : c.code = cc) {x y : Int64} {off : Int} {tgt : Nat} (d0 : decode cc pc = .ok (.lcmp, 1)) (d1 : decode cc (pc + 1) = .ok (.ifCond .gt off, 3)) (ht : ((pc + 1 : Nat) : Int) + off = (tgt : Int)) (kt : y < x → W p l e0 R s m args below meth c H locs cells slots Q (F0 m tgt ls rest)) (kf : ¬ y < x → W p l e0 R s m args below meth c H locs cells slots Q (F0 m (pc + 4) ls rest)) : W p l e0 R s m args below meth c H locs cells slots Q (F0 m pc ls (.long y :: .long x :: rest)) :=
  W.lcmp hx hb d0 (lv_if_gt (tgt := tgt) hx hb d1 ht (fun h => kt (lc_gt.mp h)) (fun h => kf (fun z => h (lc_gt.mpr z))))
theorem kl_le (hx : p.tables.exec = Jvm.exec) (hb : c.code = cc) {x y : Int64} {off : Int} {tgt : Nat} (d0 : decode cc pc = .ok (.lcmp, 1)) (d1 : decode cc (pc + 1) = .ok (.ifCond .le off, 3)) (ht : ((pc + 1 : Nat) : Int) + off = (tgt : Int)) (kt : x ≤ y → W p l e0 R s m args below meth c H locs cells slots Q (F0 m tgt ls rest)) (kf : ¬ x ≤ y → W p l e0 R s m args below meth c H locs cells slots Q (F0 m (pc + 4) ls rest)) : W p l e0 R s m args below meth c H locs cells slots Q (F0 m pc ls (.long y :: .long x :: rest)) :=
  W.lcmp hx hb d0 (lv_if_le (tgt := tgt) hx hb d1 ht (fun h => kt (lc_le.mp h)) (fun h => kf (fun z => h (lc_le.mpr z))))
theorem kl_eq (hx : p.tables.exec = Jvm.exec) (hb : c.code = cc) {x y : Int64} {off : Int} {tgt : Nat} (d0 : decode cc pc = .ok (.lcmp, 1)) (d1 : decode cc (pc + 1) = .ok (.ifCond .eq off, 3)) (ht : ((pc + 1 : Nat) : Int) + off = (tgt : Int)) (kt : x = y → W p l e0 R s m args below meth c H locs cells slots Q (F0 m tgt ls rest)) (kf : ¬ x = y → W p l e0 R s m args below meth c H locs cells slots Q (F0 m (pc + 4) ls rest)) : W p l e0 R s m args below meth c H locs cells slots Q (F0 m pc ls (.long y :: .long x :: rest)) :=
  W.lcmp hx hb d0 (lv_if_eq (tgt := tgt) hx hb d1 ht (fun h => kt (lc_eq.mp h)) (fun h => kf (fun z => h (lc_eq.mpr z))))
theorem kl_ne (hx : p.tables.exec = Jvm.exec) (hb : c.code = cc) {x y : Int64} {off : Int} {tgt : Nat} (d0 : decode cc pc = .ok (.lcmp, 1)) (d1 : decode cc (pc + 1) = .ok (.ifCond .ne off, 3)) (ht : ((pc + 1 : Nat) : Int) + off = (tgt : Int)) (kt : ¬ x = y → W p l e0 R s m args below meth c H locs cells slots Q (F0 m tgt ls rest)) (kf : x = y → W p l e0 R s m args below meth c H locs cells slots Q (F0 m (pc + 4) ls rest)) : W p l e0 R s m args below meth c H locs cells slots Q (F0 m pc ls (.long y :: .long x :: rest)) :=
  W.lcmp hx hb d0 (lv_if_ne (tgt := tgt) hx hb d1 ht (fun h => kt (fun z => h (lc_eq.mpr z))) (fun h => kf (lc_eq.mp h)))
end KB
abbrev wRow (cJ cZ : ClassId) (h0 h1 h2 h3 : Nat) (rb re : Nat → Int64) (ro : Nat → Int32) (rc : Int32) : va_W := [(h0, .inr (2, [.ref h1, .ref h2, .ref h3, .int rc])), (h1, .inl (cJ, 11, .inr (.inl rb))), (h2, .inl (cJ, 11, .inr (.inl re))), (h3, .inl (cZ, 11, .inl ro))]
abbrev wSB (cI cJ cZ : ClassId) (a : Nat → Nat) (ce : Nat → Int64) (fr un : Int64) (sb se : Nat → Int64) (so : Nat → Int32) (sc : Int32) (wb we : Nat → Int64) (wo : Nat → Int32) (wc : Int32) (fb fe : Nat → Int64) (fo : Nat → Int32) (fc : Int32) (rm : Nat → Int32) (ac rf kn : Int32) : va_W :=
  [(a 0, .inr (3, [.ref (a 1), .long fr, .long un, .ref (a 2), .ref (a 6), .ref (a 10), .ref (a 14), .int ac, .int rf, .int kn])), (a 1, .inl (cJ, 4, .inr (.inl ce))),
   (a 2, .inr (2, [.ref (a 3), .ref (a 4), .ref (a 5), .int sc])), (a 3, .inl (cJ, 11, .inr (.inl sb))), (a 4, .inl (cJ, 11, .inr (.inl se))), (a 5, .inl (cZ, 11, .inl so)),
   (a 6, .inr (2, [.ref (a 7), .ref (a 8), .ref (a 9), .int wc])), (a 7, .inl (cJ, 11, .inr (.inl wb))), (a 8, .inl (cJ, 11, .inr (.inl we))), (a 9, .inl (cZ, 11, .inl wo)),
   (a 10, .inr (2, [.ref (a 11), .ref (a 12), .ref (a 13), .int fc])), (a 11, .inl (cJ, 11, .inr (.inl fb))), (a 12, .inl (cJ, 11, .inr (.inl fe))), (a 13, .inl (cZ, 11, .inl fo)),
   (a 14, .inl (cI, 11, .inl rm))]
abbrev wMo (cJ cZ : ClassId) (b : Nat → Nat) (mce : Nat → Int64) (mfr mun : Int64) (mbe men : Nat → Int64) (mov : Nat → Int32) (msp : Int32) (mwb mwe : Nat → Int64) (mwi mac mre mkn mth : Int32) : va_W :=
  [(b 0, .inr (5, [.ref (b 1), .long mfr, .long mun, .ref (b 2), .ref (b 3), .ref (b 4), .int msp, .ref (b 5), .ref (b 6), .int mwi, .int mac, .int mre, .int mkn, .int mth])), (b 1, .inl (cJ, 4, .inr (.inl mce))),
   (b 2, .inl (cJ, 10, .inr (.inl mbe))), (b 3, .inl (cJ, 10, .inr (.inl men))), (b 4, .inl (cZ, 10, .inl mov)), (b 5, .inl (cJ, 8, .inr (.inl mwb))), (b 6, .inl (cJ, 8, .inr (.inl mwe)))]
/-! throwing: what a thrower needs of the machine, calls that throw -/
def xb {α β : Type} (o : Option α) (k1 : α → Option β) (k2 : Option β) : Option β := match o with
  | some a => k1 a
  | none => k2
theorem g_x {α β : Type} {o : Option α} {k1 : α → Option β} {k2 : Option β} {r : β} (h : xb o k1 k2 = some r) : (∃ a, o = some a ∧ k1 a = some r) ∨ (o = none ∧ k2 = some r) := by
  cases o with
  | some a => exact Or.inl ⟨a, rfl, h⟩
  | none => exact Or.inr ⟨rfl, h⟩
abbrev kN : List String := ["java/lang/RuntimeException", "java/lang/Exception"]
/-- a text of one letter that stands in the program, and is never written -/
def kSp (A : Nat → Prop) (U : State) (H : Heap) (a b : Nat) : Prop := va_O "java/lang/String" a A U H ∧ va_OF "java/lang/String" "coder" "B" (.int 0) a A U H ∧ va_OF "java/lang/String" "value" "[B" (.ref b) a A U H ∧ va_T .byte b 1 (fun _ => .int 32) A U H
theorem kSp.moved {A : Nat → Prop} {u U : State} {H : Heap} {a b : Nat} (hv : u.vm.Alike U.vm) (h : kSp A u H a b) : kSp A U H a b := ⟨h.1.moved hv, h.2.1.moved hv, h.2.2.1.moved hv, h.2.2.2.moved hv⟩
theorem kSp.kept {A : Nat → Prop} {U : State} {H H1 : Heap} {a b : Nat} (h : kSp A U H a b) (hq : ∀ a : Nat, a < H.size → ¬ A a → H1[a]? = H[a]?) : kSp A U H1 a b := ⟨h.1.kept hq, h.2.1.kept hq, h.2.2.1.kept hq, h.2.2.2.kept hq⟩
theorem kSp.narrow {A B : Nat → Prop} {U : State} {H : Heap} {a b : Nat} (h : kSp A U H a b) (hAB : ∀ q, B q → A q) : kSp B U H a b := ⟨h.1.narrow hAB, h.2.1.narrow hAB, h.2.2.1.narrow hAB, h.2.2.2.narrow hAB⟩
abbrev kOnes : Nat → Int32 := fun j => nI (48 + j % 10)
abbrev kTens : Nat → Int32 := fun j => nI (48 + j / 10)
def kTab (n : String) (f : Nat → Int32) (A : Nat → Prop) (U : State) (H : Heap) (t : Nat) : Prop := va_Z "java/lang/Integer" n "[B" (.ref t) A U H ∧ va_T .byte t 100 (fun j => .int (f j)) A U H
theorem kTab.moved {n : String} {f : Nat → Int32} {A : Nat → Prop} {u U : State} {H : Heap} {t : Nat} (hv : u.vm.Alike U.vm) (h : kTab n f A u H t) : kTab n f A U H t := ⟨h.1.moved hv, h.2.moved hv⟩
theorem kTab.kept {n : String} {f : Nat → Int32} {A : Nat → Prop} {U : State} {H H1 : Heap} {t : Nat} (h : kTab n f A U H t) (hq : ∀ a : Nat, a < H.size → ¬ A a → H1[a]? = H[a]?) : kTab n f A U H1 t := ⟨h.1.kept hq, h.2.kept hq⟩
theorem kTab.narrow {n : String} {f : Nat → Int32} {A B : Nat → Prop} {U : State} {H : Heap} {t : Nat} (h : kTab n f A U H t) (hAB : ∀ q, B q → A q) : kTab n f B U H t := ⟨h.1.narrow hAB, h.2.narrow hAB⟩
/-- what the making of a text needs of the machine -/
def kZt (A : Nat → Prop) (U : State) (H : Heap) : Prop := va_Z "java/lang/String" "COMPACT_STRINGS" "Z" (.int 1) A U H ∧ (∃ t, kTab "DigitOnes" kOnes A U H t) ∧ (∃ t, kTab "DigitTens" kTens A U H t) ∧ (∃ a, vk_R RX3 191 "" a U) ∧ ∃ a b, vk_R RX3 200 " " a U ∧ kSp A U H a b
theorem kZt.kept {A : Nat → Prop} {U : State} {H H1 : Heap} (h : kZt A U H) (hq : ∀ a : Nat, a < H.size → ¬ A a → H1[a]? = H[a]?) : kZt A U H1 := ⟨h.1.kept hq, h.2.1.imp fun _ z => z.kept hq, h.2.2.1.imp fun _ z => z.kept hq, h.2.2.2.1, h.2.2.2.2.imp fun _ z => z.imp fun _ y => ⟨y.1, y.2.kept hq⟩⟩
theorem kZt.narrow {A B : Nat → Prop} {U : State} {H : Heap} (h : kZt A U H) (hAB : ∀ q, B q → A q) : kZt B U H := ⟨h.1.narrow hAB, h.2.1.imp fun _ z => z.narrow hAB, h.2.2.1.imp fun _ z => z.narrow hAB, h.2.2.2.1, h.2.2.2.2.imp fun _ z => z.imp fun _ y => ⟨y.1, y.2.narrow hAB⟩⟩
theorem kZt.warm {A : Nat → Prop} {s U : State} {H : Heap} (hW : s.WarmedH U.vm) (h : kZt A s H) : kZt A U H := ⟨h.1.moved hW.alike, h.2.1.imp fun _ z => z.moved hW.alike, h.2.2.1.imp fun _ z => z.moved hW.alike, h.2.2.2.1.imp fun _ q => vk_R.warm hW q, h.2.2.2.2.imp fun _ z => z.imp fun _ y => ⟨vk_R.warm hW y.1, y.2.moved hW.alike⟩⟩
theorem kZt.same {A : Nat → Prop} {s U : State} {H : Heap} (hv : U.vm = s.vm) (h : kZt A s H) : kZt A U H := by
  have e : s.vm.Alike U.vm := by rw [hv]; exact Vm.Alike.refl _
  exact ⟨h.1.moved e, h.2.1.imp fun _ z => z.moved e, h.2.2.1.imp fun _ z => z.moved e, h.2.2.2.1.imp fun _ q => vk_R.same hv q, h.2.2.2.2.imp fun _ z => z.imp fun _ y => ⟨vk_R.same hv y.1, y.2.moved e⟩⟩
def kZ (A : Nat → Prop) (U : State) (H : Heap) : Prop := vx_Zq Bundle.tN "UNASSIGNED_STACK" Bundle.steD A U H ∧ vx_Zq Bundle.tN "SUPPRESSED_SENTINEL" Bundle.listD A U H ∧ (∃ a, vk_R RX1 268 "there is no such CELL" a U) ∧ (∃ a, vk_R RX1 273 "there is no such number" a U) ∧ (∃ a, vk_R RX1 277 "an argument is not one that the document lets be" a U) ∧ kZt A U H
theorem kZ.kept {A : Nat → Prop} {U : State} {H H1 : Heap} (h : kZ A U H) (hq : ∀ a : Nat, a < H.size → ¬ A a → H1[a]? = H[a]?) : kZ A U H1 := ⟨h.1.kept hq, h.2.1.kept hq, h.2.2.1, h.2.2.2.1, h.2.2.2.2.1, h.2.2.2.2.2.kept hq⟩
theorem kZ.narrow {A B : Nat → Prop} {U : State} {H : Heap} (h : kZ A U H) (hAB : ∀ q, B q → A q) : kZ B U H := ⟨h.1.narrow hAB, h.2.1.narrow hAB, h.2.2.1, h.2.2.2.1, h.2.2.2.2.1, h.2.2.2.2.2.narrow hAB⟩
theorem kZ.warm {A : Nat → Prop} {s U : State} {H : Heap} (hW : s.WarmedH U.vm) (h : kZ A s H) : kZ A U H :=
  ⟨h.1.moved hW.alike, h.2.1.moved hW.alike, h.2.2.1.imp fun _ q => vk_R.warm hW q, h.2.2.2.1.imp fun _ q => vk_R.warm hW q, h.2.2.2.2.1.imp fun _ q => vk_R.warm hW q, h.2.2.2.2.2.warm hW⟩
theorem kZ.same {A : Nat → Prop} {s U : State} {H : Heap} (hv : U.vm = s.vm) (h : kZ A s H) : kZ A U H :=
  ⟨vx_Zq.moved (by rw [hv]; exact Vm.Alike.refl _) h.1, vx_Zq.moved (by rw [hv]; exact Vm.Alike.refl _) h.2.1, h.2.2.1.imp fun _ q => vk_R.same hv q, h.2.2.2.1.imp fun _ q => vk_R.same hv q, h.2.2.2.2.1.imp fun _ q => vk_R.same hv q, h.2.2.2.2.2.same hv⟩
abbrev kPreX (D : va_G) (tys : List (ClassId × FieldType)) (av : List Value) (sz : Nat) (ws : va_W) : Array Value → State → Prop := va_Pc av (fun U => U.heap.size = sz ∧ va_P D vwCl ws U.heap ∧ va_K D vwCl tys U ∧ va_D (fun _ => True) ws ∧ kG U ∧ kZ (va_A ws sz) U U.heap)
theorem kPreX_blind {D : va_G} {tys : List (ClassId × FieldType)} {av : List Value} {sz : Nat} {ws : va_W} : FrameBlind (kPreX D tys av sz ws) := fun a U g mk q => by
  obtain ⟨q0, q1, qP, qK, qD, qG, qZ⟩ := q
  exact ⟨q0, q1, qP, va_K.moved (u := U) (U := U.calling g mk a) (Vm.Alike.refl U.vm) qK, qD, kG_same (u := U) rfl qG, kZ.same (s := U) rfl qZ⟩
theorem kpVX {s : State} {H : Heap} {locs : List Loc} {C : String} {b : Addr} {As : List Value} {D : va_G} {tys : List (ClassId × FieldType)} {ws wc : va_W} {A : Nat → Prop} (hP : va_P D vwCl wc H) (hK : va_K D vwCl tys s) (hD : va_D A wc) (hG : kG s) (hZ : kZ A s s.heap) (hS : va_S A s.heap H locs) (hD0 : va_D A ws) (hA : ∀ q, s.heap.size ≤ q → A q) (is : List Nat) (hC : is.map (fun i => ws[i]?) = wc.map some) (hr : ∃ cellB : Cell, H[b]? = some cellB ∧ cellB.vm.isStatics = false ∧ s.vm.findClass C = some cellB.cls) : PreV s H C b (kPreX D tys (.ref b :: As) H.size wc) As :=
  ⟨kPreX_blind, hr, fun U hU hW => ⟨rfl, by rw [hU], by rw [hU]; exact hP, va_K.moved hW.alike hK, hD.weaken (fun _ _ _ _ => trivial), kG_warm hW hG, by rw [hU]; exact ((hZ.kept hS.2.1).narrow (va_free hD0 hS hA is hC)).warm hW⟩⟩
theorem kpSX {s : State} {H : Heap} {locs : List Loc} {As : List Value} {D : va_G} {tys : List (ClassId × FieldType)} {ws wc : va_W} {A : Nat → Prop} (hP : va_P D vwCl wc H) (hK : va_K D vwCl tys s) (hD : va_D A wc) (hG : kG s) (hZ : kZ A s s.heap) (hS : va_S A s.heap H locs) (hD0 : va_D A ws) (hA : ∀ q, s.heap.size ≤ q → A q) (is : List Nat) (hC : is.map (fun i => ws[i]?) = wc.map some) : PreS s H (kPreX D tys As H.size wc) As :=
  ⟨kPreX_blind, fun U hU hW => ⟨rfl, by rw [hU], by rw [hU]; exact hP, va_K.moved hW.alike hK, hD.weaken (fun _ _ _ _ => trivial), kG_warm hW hG, by rw [hU]; exact ((hZ.kept hS.2.1).narrow (va_free hD0 hS hA is hC)).warm hW⟩⟩
abbrev kX (D : va_G) (k : Nat) (ws : va_W) (A : Nat → Prop) : String → State → State → Prop := fun E st t => E = kEx k ∧ va_P D vwCl ws t.heap ∧ va_F A st t
abbrev kNo : Array Value → State → Outcome → State → Prop := fun _ _ _ _ => False
section KX
variable {p : Program} {l : Launch} {e0 : Env} {R : Room} {s : State} {m : MethodId} {args : Array Value} {below : List Frame} {meth : Method} {c : Code} {H : Heap} {locs : List Loc} {cells slots : Nat} {Q : State → Prop}
variable {cc : ByteArray} {pc : Nat} {ls : Array Slot} {rest st0 : List Value} {D : va_G} {A A0 : Nat → Prop} {tys : List (ClassId × FieldType)} {ws wc ws' w1 : va_W} {a : Array Value} {mc ms : Nat}
theorem kX_of {k : Nat} {E : String} (hE : E = kEx k) (hP : va_P D vwCl ws H) (hS : va_S A s.heap H locs) {t : State} (h2 : H.size ≤ t.heap.size) (h3 : ∀ q : Nat, q < H.size → t.heap[q]? = H[q]?) : kX D k ws A E s t :=
  ⟨hE, hP.kept (fun i q hq => h3 q.1 (hP i q hq).lt), Nat.le_trans hS.1 h2, fun q h4 h5 => (h3 q (Nat.lt_of_lt_of_le h4 hS.1)).trans (hS.2.1 q h4 h5)⟩
/-- a call that throws, and nothing here catches -/
theorem kcall_x {k MC MS : Nat} (ws' : va_W) (hr : vx_Run p l e0 R s m args below meth c H locs cells slots mc ms (F0 m pc ls st0) rest (kNo a) (kX D k w1 (va_A wc H.size)) (va_A wc H.size)) (hP : va_P D vwCl ws H) (hD : va_D A0 ws) (hS : va_S A0 s.heap H locs) (hA : ∀ q, s.heap.size ≤ q → A0 q) (isC isR : List Nat) (hC : isC.map (fun i => ws[i]?) = wc.map some) (hC' : isC.map (fun i => ws'[i]?) = w1.map some) (wr : va_W) (hR0 : isR.map (fun i => ws[i]?) = wr.map some) (hR1 : isR.map (fun i => ws'[i]?) = wr.map some) (hcov : (List.range ws'.length).all (fun i => isC.contains i || isR.contains i) = true) (hdis : ∀ i ∈ isR, i ∉ isC) (had : ws'.map (·.1) = ws.map (·.1))
    (hout : ∀ x ∈ c.exceptionTable.toList, False) (hlocks : meth.locks = false) (hc : cells + mc ≤ MC) (hs : slots + ms ≤ MS) : W p l e0 R s m args below meth c H locs cells slots (vx_MQ below kNo (kX D k ws' A0) args s MC MS A0) (F0 m pc ls st0) := by
  have hF := va_free (wc := wc) hD hS hA isC hC
  intro T hT X
  rcases hr T hT X with ⟨v, st₀, t, T', L, h0, X', hL, e1, e2, hq, st⟩ | ⟨q, st₀, t, T', L, E, ce, h0, X', hL, e1, e2, ⟨hE, hB, hFr⟩, hce, hcv, hcl, st⟩
  · exact hq.elim
  · obtain ⟨k1, k2, k3⟩ := vx_keep h0 e1 hS (fun q _ h => hF q h) hF hL hFr
    rw [← e1] at hB hce
    obtain ⟨hP1, hD1⟩ := kjoin hP hD isC isR hC hC' wr hR0 hR1 hcov hdis had k2 hB
    obtain ⟨t2, a1, b1⟩ := vx_out (pc := pc) (ls := ls) (rest := rest) (below := below) (args := args) (Qc := kNo) (XC := kX D k ws' A0) (fun x hx => (hout x hx).elim) hlocks hce hcv hcl (fun t9 h9 _ => ⟨hE, by rw [h9]; exact hP1, k3.F h9⟩) k3.2.2 hc hs T' rfl X'
    exact ⟨t2, st.trans a1, b1⟩
end KX
def kOk (L : List Cond) : Prop := ∀ w ∈ L, (w ∈ lw_tbl ∧ goodWord w = true) ∨ w ∈ kGw
theorem kOk_of {L T : List Cond} (hT : ∀ w ∈ T, w ∈ lw_tbl) (h : ∀ w ∈ L, (w ∈ T ∧ goodWord w = true) ∨ w ∈ kGw ∨ (w ∈ lw_tbl ∧ goodWord w = true)) : kOk L := fun w hw => by
  rcases h w hw with g | g | g
  · exact Or.inl ⟨hT w g.1, g.2⟩
  · exact Or.inr g
  · exact Or.inl g
theorem kat_c : kOk (vx_atS RX1 270 "java/lang/IndexOutOfBoundsException" kN) := kOk_of (T := tables_1_2.drop 64) (fun w h => List.mem_append_right _ (List.mem_append_right _ (List.mem_append_left _ (List.mem_of_mem_drop h)))) (by decide +kernel)
theorem kat_a : kOk (vx_atS RX1 279 "java/lang/IllegalArgumentException" kN) := kOk_of (T := tables_1_2.drop 64) (fun w h => List.mem_append_right _ (List.mem_append_right _ (List.mem_append_left _ (List.mem_of_mem_drop h)))) (by decide +kernel)
theorem kgw {w : Cond} (h : goodWord w = true) : vx_ot w = true := by unfold vx_ot; rw [h]; simp
theorem kgoods {own cls : String} {ik : Nat} {L : List Cond} (h1 : Cond.classLink own ik cls ∈ kBIG) (h2 : Cond.initialized cls ∈ kBIG) (h3 : kOk L) : ∀ w ∈ Cond.classLink own ik cls :: Cond.initialized cls :: L, vx_ot w = true := fun w hw => by
  rcases List.mem_cons.mp hw with e | hw
  · rw [e]; exact kgw (kBIG_good h1)
  · rcases List.mem_cons.mp hw with e | hw
    · rw [e]; exact kgw (kBIG_good h2)
    · rcases h3 w hw with h | h
      · exact kgw h.2
      · unfold vx_ot; rw [kGw_tab w h]; rfl
theorem kats {args : Array Value} {s : State} {c0 : Cond} {L : List Cond} (hts : ∀ w ∈ c0 :: kBIG, w.before args s = true) (hG : kG s) (h3 : kOk L) : ∀ w ∈ L, w.before args s = true := fun w hw => by
  rcases h3 w hw with h | h
  · exact hts w (List.mem_cons_of_mem _ (List.mem_append_left _ (List.mem_filter.mpr h)))
  · exact va_Nw.use (kGw_tab w h) (hG.1 w h)
/-! methods that make cells and keep them: constructors, the builder of text -/
abbrev wTB (cB : ClassId) (t0 t1 : Nat) (tn : Nat) (tv : Nat → Int32) (tk : Int32) : va_W := [(t0, .inr (1, [.ref t1, .int 0, .int 0, .int tk])), (t1, .inl (cB, tn, .inl tv))]
abbrev kBclone : MethodName := ⟨"[B", "clone", "()Ljava/lang/Object;"⟩
abbrev kOclone : MethodName := ⟨"java/lang/Object", "clone", "()Ljava/lang/Object;"⟩
def kcons (h : Nat) (u : Nat → Nat) : Nat → Nat := fun k => match k with
  | 0 => h
  | k + 1 => u k
abbrev kfit (f : Nat → Int32) (o n : Nat) : Prop := ∀ i : Fin n, fits .byte (.int (f (o + i.val))) = true
abbrev kcp (f : Nat → Int32) (sp dp n : Int32) (n0 n1 : Nat) : Prop := ¬ sp < 0 ∧ ¬ dp < 0 ∧ ¬ n < 0 ∧ sp.toNatClampNeg + n.toNatClampNeg ≤ n0 ∧ dp.toNatClampNeg + n.toNatClampNeg ≤ n1 ∧ kfit f sp.toNatClampNeg n.toNatClampNeg
theorem kfit_at {f : Nat → Int32} {o n : Nat} (h : kfit f o n) : ∀ i, i < n → fits .byte (.int (f (o + i))) = true := fun i hi => h ⟨i, hi⟩
theorem kfit_cell {f : Nat → Int32} {n : Nat} {cA : ClassId} (h : kfit f 0 n) : ∀ (i : Nat) (v : Value), (vp_cell cA (n, .inl f)).slots[i]? = some v → fits .byte v = true := fun i v hi =>
  va_fit (cA := cA) (n := n) (F := fun j => Value.int (f j)) (fun i hi => by have h1 := h ⟨i, hi⟩; rwa [Nat.zero_add] at h1) i v hi
abbrev kVu (D : va_G) (F : (Nat → Nat) → va_W) (A : Nat → Prop) : Array Value → State → Outcome → State → Prop := va_Qv (fun (_ : Nat → Nat) => True) (fun u t => va_P D vwCl (F u) t.heap ∧ va_D A (F u)) A
abbrev kAu (D : va_G) (x : Nat) (F : (Nat → Nat) → va_W) (A : Nat → Prop) : Array Value → State → Outcome → State → Prop := va_Qr (fun (_ : Nat → Nat) => True) (fun u a t => a = x ∧ va_P D vwCl (F u) t.heap ∧ va_D A (F u)) A
abbrev kNq (D : va_G) (ws : va_W) (A : Nat → Prop) : Array Value → State → Outcome → State → Prop := va_Qr (fun (_ : Unit) => True) (fun _ _ t => va_P D vwCl ws t.heap) A
abbrev kIw (D : va_G) (ty : FieldType) (r : Int32) (F : Value → va_W) (A : Nat → Prop) : Array Value → State → Outcome → State → Prop := va_Qi (fun (r' : Int32) (_ : Value) => r' = r ∧ narrow ty (.int r) = .int r) (fun w t => va_P D vwCl (F w) t.heap) A
section KU
variable {p : Program} {l : Launch} {e0 : Env} {R : Room} {s : State} {m : MethodId} {args : Array Value} {below : List Frame} {meth : Method} {c : Code} {H : Heap} {locs : List Loc} {cells slots : Nat} {Q : State → Prop}
variable {cc : ByteArray} {pc : Nat} {ls : Array Slot} {rest st0 : List Value} {D : va_G} {A A0 : Nat → Prop} {tys : List (ClassId × FieldType)} {ws wc ws' w1 : va_W} {a : Array Value} {mc ms : Nat} {H0 : Heap}
theorem kcall_vu (F : (Nat → Nat) → va_W) (hr : va_Run p l e0 R s m args below meth c H locs cells slots mc ms (F0 m pc ls st0) rest (kVu D F (va_A wc H.size) a) (va_A wc H.size)) (hP : va_P D vwCl ws H) (hD : va_D A0 ws) (hS : va_S A0 H0 H locs) (hA : ∀ q, H0.size ≤ q → A0 q) (isC isR : List Nat) (hC : isC.map (fun i => ws[i]?) = wc.map some) (wr : va_W) (hR0 : isR.map (fun i => ws[i]?) = wr.map some) (hn : va_nd isR = true) (hdis : ∀ i ∈ isR, i ∉ isC)
    (kk : ∀ (u : Nat → Nat) (H1 : Heap) (locs1 : List Loc), va_P D vwCl (wr ++ F u) H1 → va_D A0 (wr ++ F u) → va_S A0 H0 H1 locs1 → W p l e0 R s m args below meth c H1 locs1 (cells + mc) (slots + ms) Q (F0 m (pc + 3) ls rest)) : W p l e0 R s m args below meth c H locs cells slots Q (F0 m pc ls st0) := by
  have hF := va_free (wc := wc) hD hS hA isC hC
  refine va_callv hr hS (fun q _ h => hF q h) hF (fun u t H1 locs1 ht hvm hw hB hz hk hS1 => ?_)
  obtain ⟨hB, hDB⟩ := hB
  rw [ht] at hB
  obtain ⟨hP1, hD1⟩ := va_join hP hD isC isR hC hR0 hn hdis hk hF hB hDB
  exact kk u H1 locs1 hP1 hD1 hS1
theorem kcall_au {x : Nat} (F : (Nat → Nat) → va_W) (hr : va_Run p l e0 R s m args below meth c H locs cells slots mc ms (F0 m pc ls st0) rest (kAu D x F (va_A wc H.size) a) (va_A wc H.size)) (hP : va_P D vwCl ws H) (hD : va_D A0 ws) (hS : va_S A0 H0 H locs) (hA : ∀ q, H0.size ≤ q → A0 q) (isC isR : List Nat) (hC : isC.map (fun i => ws[i]?) = wc.map some) (wr : va_W) (hR0 : isR.map (fun i => ws[i]?) = wr.map some) (hn : va_nd isR = true) (hdis : ∀ i ∈ isR, i ∉ isC)
    (kk : ∀ (u : Nat → Nat) (H1 : Heap) (locs1 : List Loc), va_P D vwCl (wr ++ F u) H1 → va_D A0 (wr ++ F u) → va_S A0 H0 H1 locs1 → W p l e0 R s m args below meth c H1 locs1 (cells + mc) (slots + ms) Q (F0 m (pc + 3) ls (.ref x :: rest))) : W p l e0 R s m args below meth c H locs cells slots Q (F0 m pc ls st0) := by
  have hF := va_free (wc := wc) hD hS hA isC hC
  refine va_callr hr hS (fun q _ h => hF q h) hF (fun u ra t H1 locs1 ht hvm hw hB hz hk hS1 => ?_)
  obtain ⟨rfl, hB, hDB⟩ := hB
  rw [ht] at hB
  obtain ⟨hP1, hD1⟩ := va_join hP hD isC isR hC hR0 hn hdis hk hF hB hDB
  exact kk u H1 locs1 hP1 hD1 hS1
theorem kcall_n (ws' : va_W) (hr : va_Run p l e0 R s m args below meth c H locs cells slots mc ms (F0 m pc ls st0) rest (kNq D w1 (va_A wc H.size) a) (va_A wc H.size)) (hP : va_P D vwCl ws H) (hD : va_D A0 ws) (hS : va_S A0 H0 H locs) (hA : ∀ q, H0.size ≤ q → A0 q) (isC isR : List Nat) (hC : isC.map (fun i => ws[i]?) = wc.map some) (hC' : isC.map (fun i => ws'[i]?) = w1.map some) (wr : va_W) (hR0 : isR.map (fun i => ws[i]?) = wr.map some) (hR1 : isR.map (fun i => ws'[i]?) = wr.map some) (hcov : (List.range ws'.length).all (fun i => isC.contains i || isR.contains i) = true) (hdis : ∀ i ∈ isR, i ∉ isC) (had : ws'.map (·.1) = ws.map (·.1))
    (kk : ∀ (q : Nat) (H1 : Heap) (locs1 : List Loc), va_P D vwCl ws' H1 → va_D A0 ws' → va_S A0 H0 H1 locs1 → W p l e0 R s m args below meth c H1 locs1 (cells + mc) (slots + ms) Q (F0 m (pc + 3) ls (.ref q :: rest))) : W p l e0 R s m args below meth c H locs cells slots Q (F0 m pc ls st0) := by
  have hF := va_free (wc := wc) hD hS hA isC hC
  refine va_callr hr hS (fun q _ h => hF q h) hF (fun u ra t H1 locs1 ht hvm hw hB hz hk hS1 => ?_)
  rw [ht] at hB
  obtain ⟨hP1, hD1⟩ := kjoin hP hD isC isR hC hC' wr hR0 hR1 hcov hdis had hk hB
  exact kk ra H1 locs1 hP1 hD1 hS1
theorem kcall_iw {ty : FieldType} {r : Int32} {F : Value → va_W} (ws' : Value → va_W) (hr : va_Run p l e0 R s m args below meth c H locs cells slots mc ms (F0 m pc ls st0) rest (kIw D ty r F (va_A wc H.size) a) (va_A wc H.size)) (hP : va_P D vwCl ws H) (hD : va_D A0 ws) (hS : va_S A0 H0 H locs) (hA : ∀ q, H0.size ≤ q → A0 q) (isC isR : List Nat) (hC : isC.map (fun i => ws[i]?) = wc.map some) (hC' : ∀ w, isC.map (fun i => (ws' w)[i]?) = (F w).map some) (wr : va_W) (hR0 : isR.map (fun i => ws[i]?) = wr.map some) (hR1 : ∀ w, isR.map (fun i => (ws' w)[i]?) = wr.map some) (hcov : ∀ w, (List.range (ws' w).length).all (fun i => isC.contains i || isR.contains i) = true) (hdis : ∀ i ∈ isR, i ∉ isC) (had : ∀ w, (ws' w).map (·.1) = ws.map (·.1))
    (kk : ∀ (w : Value) (H1 : Heap) (locs1 : List Loc), va_P D vwCl (ws' w) H1 → va_D A0 (ws' w) → va_S A0 H0 H1 locs1 → narrow ty (.int r) = .int r → W p l e0 R s m args below meth c H1 locs1 (cells + mc) (slots + ms) Q (F0 m (pc + 3) ls (.int r :: rest))) : W p l e0 R s m args below meth c H locs cells slots Q (F0 m pc ls st0) := by
  have hF := va_free (wc := wc) hD hS hA isC hC
  refine va_calli hr hS (fun q _ h => hF q h) hF (fun r' u t H1 locs1 ht hvm hw hB hz hk hS1 => ?_)
  obtain ⟨rfl, hnar⟩ := hw
  rw [ht] at hB
  obtain ⟨hP1, hD1⟩ := kjoin hP hD isC isR hC (hC' u) wr hR0 (hR1 u) (hcov u) hdis (had u) hk hB
  exact kk u H1 locs1 hP1 hD1 hS1 hnar
theorem kret_vu {u : Nat → Nat} {F : (Nat → Nat) → va_W} (hx : p.tables.exec = Jvm.exec) (hb : c.code = cc) (hr : meth.sig.returnType = none) (hlocks : meth.locks = false) (hS : va_S A s.heap H locs) (hP : va_P D vwCl (F u) H) (hD : va_D A (F u)) (hd : decode cc pc = .ok (.return_, 1)) : W p l e0 R s m args below meth c H locs cells slots (MQ below (kVu D F A) args s cells slots A) (F0 m pc ls []) :=
  W.vret hx hb hr (fun t ht _ => ⟨⟨u, rfl, trivial, by show va_P D vwCl (F u) t.heap; rw [ht]; exact hP, hD⟩, hS.F ht⟩) hS.2.2 hd hlocks
theorem kret_au {u : Nat → Nat} {x : Nat} {F : (Nat → Nat) → va_W} {rt : FieldType} (hx : p.tables.exec = Jvm.exec) (hb : c.code = cc) (hr : meth.sig.returnType = some rt) (hrt : (∃ n, rt = .object n) ∨ ∃ t, rt = .array t) (hlocks : meth.locks = false) (hS : va_S A s.heap H locs) (hP : va_P D vwCl (F u) H) (hD : va_D A (F u)) (hd : decode cc pc = .ok (.areturn, 1)) : W p l e0 R s m args below meth c H locs cells slots (MQ below (kAu D x F A) args s cells slots A) (F0 m pc ls [.ref x]) :=
  W.aret (v := .ref x) hx hb hr hrt (Or.inr ⟨x, rfl⟩) (fun t ht _ => ⟨⟨u, x, rfl, trivial, rfl, by show va_P D vwCl (F u) t.heap; rw [ht]; exact hP, hD⟩, hS.F ht⟩) hS.2.2 hd hlocks
theorem kret_n {x : Nat} {rt : FieldType} (hx : p.tables.exec = Jvm.exec) (hb : c.code = cc) (hr : meth.sig.returnType = some rt) (hrt : (∃ n, rt = .object n) ∨ ∃ t, rt = .array t) (hlocks : meth.locks = false) (hS : va_S A s.heap H locs) (hP : va_P D vwCl ws H) (hd : decode cc pc = .ok (.areturn, 1)) : W p l e0 R s m args below meth c H locs cells slots (MQ below (kNq D ws A) args s cells slots A) (F0 m pc ls [.ref x]) :=
  W.aret (v := .ref x) hx hb hr hrt (Or.inr ⟨x, rfl⟩) (fun t ht _ => ⟨⟨(), x, rfl, trivial, by show va_P D vwCl ws t.heap; rw [ht]; exact hP⟩, hS.F ht⟩) hS.2.2 hd hlocks
theorem kret_iw {ty : FieldType} {v : Int32} {w : Value} {F : Value → va_W} (hx : p.tables.exec = Jvm.exec) (hb : c.code = cc) (hr : meth.sig.returnType = some ty) (hn : narrow ty (.int v) = .int v) (hlocks : meth.locks = false) (hty : ty = .int) (hS : va_S A s.heap H locs) (hP : va_P D vwCl (F w) H) (hd : decode cc pc = .ok (.ireturn, 1)) : W p l e0 R s m args below meth c H locs cells slots (MQ below (kIw D ty v F A) args s cells slots A) (F0 m pc ls [.int v]) := by
  subst hty
  exact W.iret (v := v) hx hb hr (fun t ht _ => ⟨⟨v, w, rfl, ⟨rfl, rfl⟩, by show va_P D vwCl (F w) t.heap; rw [ht]; exact hP⟩, hS.F ht⟩) hS.2.2 hd hlocks
end KU
abbrev kPreS (D : va_G) (tys : List (ClassId × FieldType)) (av : List Value) (sz : Nat) (ws : va_W) (kS kV : Nat) : Array Value → State → Prop := va_Pc av (fun U => U.heap.size = sz ∧ va_P D vwCl ws U.heap ∧ va_K D vwCl tys U ∧ va_D (fun _ => True) ws ∧ kG U ∧ kZ (va_A ws sz) U U.heap ∧ kSp (va_A ws sz) U U.heap kS kV)
theorem kPreS_blind {D : va_G} {tys : List (ClassId × FieldType)} {av : List Value} {sz kS kV : Nat} {ws : va_W} : FrameBlind (kPreS D tys av sz ws kS kV) := fun a U g mk q => by
  obtain ⟨q0, q1, qP, qK, qD, qG, qZ, qT⟩ := q
  exact ⟨q0, q1, qP, va_K.moved (u := U) (U := U.calling g mk a) (Vm.Alike.refl U.vm) qK, qD, kG_same (u := U) rfl qG, kZ.same (s := U) rfl qZ, kSp.moved (u := U) (U := U.calling g mk a) (Vm.Alike.refl U.vm) qT⟩
theorem kpVT {s : State} {H : Heap} {locs : List Loc} {C : String} {b kS kV : Nat} {As : List Value} {D : va_G} {tys : List (ClassId × FieldType)} {ws wc : va_W} {A : Nat → Prop} (hT : kSp A s s.heap kS kV) (hP : va_P D vwCl wc H) (hK : va_K D vwCl tys s) (hD : va_D A wc) (hG : kG s) (hZ : kZ A s s.heap) (hS : va_S A s.heap H locs) (hD0 : va_D A ws) (hA : ∀ q, s.heap.size ≤ q → A q) (is : List Nat) (hC : is.map (fun i => ws[i]?) = wc.map some) (hr : ∃ cellB : Cell, H[b]? = some cellB ∧ cellB.vm.isStatics = false ∧ s.vm.findClass C = some cellB.cls) : PreV s H C b (kPreS D tys (.ref b :: As) H.size wc kS kV) As :=
  ⟨kPreS_blind, hr, fun U hU hW => ⟨rfl, by rw [hU], by rw [hU]; exact hP, va_K.moved hW.alike hK, hD.weaken (fun _ _ _ _ => trivial), kG_warm hW hG, by rw [hU]; exact ((hZ.kept hS.2.1).narrow (va_free hD0 hS hA is hC)).warm hW, by rw [hU]; exact ((hT.kept hS.2.1).narrow (va_free hD0 hS hA is hC)).moved hW.alike⟩⟩
theorem kSp_recv {s : State} {H : Heap} {locs : List Loc} {A : Nat → Prop} {kS kV : Nat} (hT : kSp A s s.heap kS kV) (hS : va_S A s.heap H locs) : ∃ cellB : Cell, H[kS]? = some cellB ∧ cellB.vm.isStatics = false ∧ s.vm.findClass "java/lang/String" = some cellB.cls := by
  obtain ⟨cell, h1, h2, h3, -⟩ := hT.1.kept hS.2.1
  exact ⟨cell, h1, h2, h3⟩
abbrev kIt (y : MethodName) (cc : ByteArray) (maxL : Nat) (n : Nat) : Prop := Cond.code y cc maxL none ∈ kBIG ∧ Cond.instanceMethod y ∈ kBIG ∧ Cond.initialized y.cls ∈ kBIG ∧ y.name = "<init>" ∧ y.cls ≠ "java/lang/invoke/MethodHandle" ∧ y.cls ≠ "java/lang/invoke/VarHandle" ∧ (parseMethodDescriptor y.desc).map (fun d => d.parameters.length) = some n
abbrev kUt (C : String) (y : MethodName) (cc : ByteArray) (maxL : Nat) (ret : Option FieldType) (n : Nat) : Prop := Cond.code y cc maxL ret ∈ kBIG ∧ Cond.instanceMethod y ∈ kBIG ∧ Cond.initialized y.cls ∈ kBIG ∧ Cond.sameMethod y.cls y.cls y.name y.desc ∈ kBIG ∧ Cond.selects C y y ∈ kBIG ∧ y.cls ≠ "java/lang/invoke/MethodHandle" ∧ y.cls ≠ "java/lang/invoke/VarHandle" ∧ (parseMethodDescriptor y.desc).map (fun d => d.parameters.length) = some n
abbrev kUs (y : MethodName) (cc : ByteArray) (maxL : Nat) (ret : Option FieldType) (n : Nat) : Prop := Cond.code y cc maxL ret ∈ kBIG ∧ Cond.instanceMethod y ∈ kBIG ∧ Cond.initialized y.cls ∈ kBIG ∧ Cond.sameMethod y.cls y.cls y.name y.desc ∈ kBIG ∧ Cond.superclass "java/lang/StringBuilder" y.cls ∈ kBIG ∧ y.name ≠ "<init>" ∧ (parseMethodDescriptor y.desc).map (fun d => d.parameters.length) = some n
abbrev kOt (x : MethodName) (b0 : ByteArray) (m0 : Nat) (r0 : Option FieldType) (y : MethodName) (cc : ByteArray) (maxL : Nat) (ret : Option FieldType) (n : Nat) : Prop := Cond.code y cc maxL ret ∈ kBIG ∧ Cond.instanceMethod y ∈ kBIG ∧ Cond.initialized y.cls ∈ kBIG ∧ Cond.sameMethod x.cls x.cls x.name x.desc ∈ kBIG ∧ Cond.selects "java/lang/StringBuilder" x y ∈ kBIG ∧ Cond.instanceMethod x ∈ kBIG ∧ Cond.code x b0 m0 r0 ∈ kBIG ∧ x.cls ≠ "java/lang/invoke/MethodHandle" ∧ x.cls ≠ "java/lang/invoke/VarHandle" ∧ (parseMethodDescriptor x.desc).map (fun d => d.parameters.length) = some n
/-- a private method is what a call of it selects, on a receiver of whatever class -/
theorem ksel {C : String} {y y0 : MethodName} {s : State} {args : Array Value} (h0 : (Cond.selects C y0 y0).before args s = true) (hc0 : y0.cls = y.cls) (hy : y.cls ≠ "java/lang/invoke/MethodHandle" ∧ y.cls ≠ "java/lang/invoke/VarHandle") (hpriv : (Cond.privateMethod y).before args s = true) (hinst : (Cond.instanceMethod y).before args s = true) : (Cond.selects C y y).before args s = true := by
  obtain ⟨c, r, m0, hc, -, hm0, -, k, hk, hni⟩ := Cond.selects_spec h0
  obtain ⟨mk, methM, hnamed, hmethM, -, -⟩ := Cond.instanceMethod_spec hinst
  have hfound : s.methodFound? y.cls y.name y.desc = some mk := State.methodFound?_of_named hnamed hy
  have hcls : mk.cls = m0.cls := Option.some.inj ((findClass_of_methodNamed hnamed).symm.trans (by rw [← hc0]; exact findClass_of_methodNamed hm0))
  have hsel : selectMethod {} s.vm c mk = .method mk := selectMethod_private hmethM (Cond.privateMethod_at hpriv mk methM hnamed hmethM)
  simp only [Cond.before, Cond.holds, Cond.value, hc, hfound, hnamed, hsel, hcls, hk]
  simp; exact hni
section KWU
variable {R : Room} {s : State} {args : Array Value} {c0 : Cond} {own C : String} {index maxL mc ms n : Nat} {y : MethodName} {cc : ByteArray} {ret : Option FieldType} {rm : Room}
theorem klen {d : String} {n : Nat} (h : (parseMethodDescriptor d).map (fun d => d.parameters.length) = some n) : ∀ sig, parseMethodDescriptor d = some sig → n = sig.parameters.length := fun sig e => by
  rw [e] at h
  exact (Option.some.inj h).symm
theorem kcwI (ht : ∀ w ∈ c0 :: kBIG, w.before args s = true) (hl : Cond.methodLink own index y ∈ kBIG) (q : kIt y cc maxL n) (hrc : rm.cells = mc) (hrs : rm.slots = ms) (hR : rm.frames + 1 ≤ R.frames ∧ 8 + (maxL + 11) + rm.locals ≤ R.locals) : CallB R s args own index y cc maxL none (kWs y cc maxL none) rm mc ms n ∧ y.name = "<init>" ∧ (Cond.instanceMethod y).before args s = true :=
  ⟨callB_of n ht (kgood q.1) rfl hrc hrs (ht _ (List.mem_cons_of_mem _ q.2.2.1)) (ht _ (List.mem_cons_of_mem _ hl)) q.2.2.2.2 hR, q.2.2.2.1, ht _ (List.mem_cons_of_mem _ q.2.1)⟩
theorem kcwU (ht : ∀ w ∈ c0 :: kBIG, w.before args s = true) (hl : Cond.methodLink own index y ∈ kBIG) (q : kUt C y cc maxL ret n) (hrc : rm.cells = mc) (hrs : rm.slots = ms) (hR : rm.frames + 1 ≤ R.frames ∧ 8 + (maxL + 11) + rm.locals ≤ R.locals) : va_CU R s args own C y.cls index y y cc maxL ret (kWs y cc maxL ret) rm mc ms n := by
  have t : ∀ {w : Cond}, w ∈ kBIG → w.before args s = true := fun h => ht _ (List.mem_cons_of_mem _ h)
  exact ⟨⟨hrc, hrs, hR.1, hR.2, pay_in ht (kgood q.1), List.mem_cons_self⟩, t q.1, t q.2.2.1, ⟨q.2.2.2.2.2.1, q.2.2.2.2.2.2.1⟩, klen q.2.2.2.2.2.2.2, t hl, t q.2.2.2.1, va_Decl.of (t q.2.1) (t q.1), t q.2.2.2.2.1, t q.2.1⟩
theorem kcwO {x : MethodName} {b0 : ByteArray} {m0 : Nat} {r0 : Option FieldType} (ht : ∀ w ∈ c0 :: kBIG, w.before args s = true) (hl : Cond.methodLink own index x ∈ kBIG) (q : kOt x b0 m0 r0 y cc maxL ret n) (hrc : rm.cells = mc) (hrs : rm.slots = ms) (hR : rm.frames + 1 ≤ R.frames ∧ 8 + (maxL + 11) + rm.locals ≤ R.locals) : va_CU R s args own "java/lang/StringBuilder" x.cls index x y cc maxL ret (kWs y cc maxL ret) rm mc ms n := by
  have t : ∀ {w : Cond}, w ∈ kBIG → w.before args s = true := fun h => ht _ (List.mem_cons_of_mem _ h)
  exact ⟨⟨hrc, hrs, hR.1, hR.2, pay_in ht (kgood q.1), List.mem_cons_self⟩, t q.1, t q.2.2.1, ⟨q.2.2.2.2.2.2.2.1, q.2.2.2.2.2.2.2.2.1⟩, klen q.2.2.2.2.2.2.2.2.2, t hl, t q.2.2.2.1, va_Decl.of (t q.2.2.2.2.2.1) (t q.2.2.2.2.2.2.1), t q.2.2.2.2.1, t q.2.1⟩
theorem kcwSU (ht : ∀ w ∈ c0 :: kBIG, w.before args s = true) (hl : Cond.methodLink "java/lang/StringBuilder" index y ∈ kBIG) (q : kUs y cc maxL ret n) (hrc : rm.cells = mc) (hrs : rm.slots = ms) (hR : rm.frames + 1 ≤ R.frames ∧ 8 + (maxL + 11) + rm.locals ≤ R.locals) : va_CS R s args "java/lang/StringBuilder" index y cc maxL ret (kWs y cc maxL ret) rm mc ms n := by
  have t : ∀ {w : Cond}, w ∈ kBIG → w.before args s = true := fun h => ht _ (List.mem_cons_of_mem _ h)
  exact ⟨⟨hrc, hrs, hR.1, hR.2, pay_in ht (kgood q.1), List.mem_cons_self⟩, t hl, t q.2.2.2.1, t q.2.2.2.2.1, t q.2.1, t q.2.2.1, t q.1, q.2.2.2.2.2.1, klen q.2.2.2.2.2.2⟩
end KWU
/-! a word in its own chunk of the tables -/
theorem kb_d1 {w : Cond} (i : Nat) (h : tables_1_1[i]? = some w ∧ goodWord w = true) : w ∈ kBIG := List.mem_append_left _ (List.mem_filter.mpr ⟨List.mem_append_right _ (List.mem_append_left _ (List.mem_of_getElem? h.1)), h.2⟩)
theorem kb_c1 {w : Cond} (i : Nat) (h : tables_1_1[i]? = some w) (g : goodWord w = true) : w ∈ kBIG := List.mem_append_left _ (List.mem_filter.mpr ⟨List.mem_append_right _ (List.mem_append_left _ (List.mem_of_getElem? h)), g⟩)
theorem kb_d2 {w : Cond} (i : Nat) (h : tables_1_2[i]? = some w ∧ goodWord w = true) : w ∈ kBIG := List.mem_append_left _ (List.mem_filter.mpr ⟨List.mem_append_right _ (List.mem_append_right _ (List.mem_append_left _ (List.mem_of_getElem? h.1))), h.2⟩)
theorem kb_c2 {w : Cond} (i : Nat) (h : tables_1_2[i]? = some w) (g : goodWord w = true) : w ∈ kBIG := List.mem_append_left _ (List.mem_filter.mpr ⟨List.mem_append_right _ (List.mem_append_right _ (List.mem_append_left _ (List.mem_of_getElem? h))), g⟩)
theorem kb_d3 {w : Cond} (i : Nat) (h : tables_1_3[i]? = some w ∧ goodWord w = true) : w ∈ kBIG := List.mem_append_left _ (List.mem_filter.mpr ⟨List.mem_append_right _ (List.mem_append_right _ (List.mem_append_right _ (List.mem_append_left _ (List.mem_of_getElem? h.1)))), h.2⟩)
theorem kb_c3 {w : Cond} (i : Nat) (h : tables_1_3[i]? = some w) (g : goodWord w = true) : w ∈ kBIG := List.mem_append_left _ (List.mem_filter.mpr ⟨List.mem_append_right _ (List.mem_append_right _ (List.mem_append_right _ (List.mem_append_left _ (List.mem_of_getElem? h)))), g⟩)
theorem kb_d4 {w : Cond} (i : Nat) (h : tables_1_4[i]? = some w ∧ goodWord w = true) : w ∈ kBIG := List.mem_append_left _ (List.mem_filter.mpr ⟨List.mem_append_right _ (List.mem_append_right _ (List.mem_append_right _ (List.mem_append_right _ (List.mem_append_left _ (List.mem_of_getElem? h.1))))), h.2⟩)
theorem kb_c4 {w : Cond} (i : Nat) (h : tables_1_4[i]? = some w) (g : goodWord w = true) : w ∈ kBIG := List.mem_append_left _ (List.mem_filter.mpr ⟨List.mem_append_right _ (List.mem_append_right _ (List.mem_append_right _ (List.mem_append_right _ (List.mem_append_left _ (List.mem_of_getElem? h))))), g⟩)
theorem kb_d5 {w : Cond} (i : Nat) (h : tables_1_5[i]? = some w ∧ goodWord w = true) : w ∈ kBIG := List.mem_append_left _ (List.mem_filter.mpr ⟨List.mem_append_right _ (List.mem_append_right _ (List.mem_append_right _ (List.mem_append_right _ (List.mem_append_right _ (List.mem_append_left _ (List.mem_of_getElem? h.1)))))), h.2⟩)
theorem kb_c5 {w : Cond} (i : Nat) (h : tables_1_5[i]? = some w) (g : goodWord w = true) : w ∈ kBIG := List.mem_append_left _ (List.mem_filter.mpr ⟨List.mem_append_right _ (List.mem_append_right _ (List.mem_append_right _ (List.mem_append_right _ (List.mem_append_right _ (List.mem_append_left _ (List.mem_of_getElem? h)))))), g⟩)
theorem kb_d6 {w : Cond} (i : Nat) (h : tables_1_6[i]? = some w ∧ goodWord w = true) : w ∈ kBIG := List.mem_append_left _ (List.mem_filter.mpr ⟨List.mem_append_right _ (List.mem_append_right _ (List.mem_append_right _ (List.mem_append_right _ (List.mem_append_right _ (List.mem_append_right _ (List.mem_append_left _ (List.mem_of_getElem? h.1))))))), h.2⟩)
theorem kb_c6 {w : Cond} (i : Nat) (h : tables_1_6[i]? = some w) (g : goodWord w = true) : w ∈ kBIG := List.mem_append_left _ (List.mem_filter.mpr ⟨List.mem_append_right _ (List.mem_append_right _ (List.mem_append_right _ (List.mem_append_right _ (List.mem_append_right _ (List.mem_append_right _ (List.mem_append_left _ (List.mem_of_getElem? h))))))), g⟩)
theorem kb_d7 {w : Cond} (i : Nat) (h : tables_1_7[i]? = some w ∧ goodWord w = true) : w ∈ kBIG := List.mem_append_left _ (List.mem_filter.mpr ⟨List.mem_append_right _ (List.mem_append_right _ (List.mem_append_right _ (List.mem_append_right _ (List.mem_append_right _ (List.mem_append_right _ (List.mem_append_right _ (List.mem_of_getElem? h.1))))))), h.2⟩)
theorem kb_c7 {w : Cond} (i : Nat) (h : tables_1_7[i]? = some w) (g : goodWord w = true) : w ∈ kBIG := List.mem_append_left _ (List.mem_filter.mpr ⟨List.mem_append_right _ (List.mem_append_right _ (List.mem_append_right _ (List.mem_append_right _ (List.mem_append_right _ (List.mem_append_right _ (List.mem_append_right _ (List.mem_of_getElem? h))))))), g⟩)
