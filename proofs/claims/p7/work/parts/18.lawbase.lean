/-! THE CLAIM OUT OF ONE WALK OF THE LAW'S BODY. Your part is whole_start (and what it stands on); all else here is the same for every law, but numbers. -/
noncomputable def R_law : String := "SpanbookerLaw"
noncomputable def lw_P (b : Addr) (xs : List Int32) (args : Array Value) (s : State) : Prop := args = #[.ref b] ∧ s.IntsAt b xs ∧ xs.length ≤ 320 ∧ (Jvm.Cond.and given_1 narrow_1).before args s = true
noncomputable def lw_Q (_ : Array Value) (s : State) (o : Outcome) (t : State) : Prop := o = .returned (some (.int 1)) ∧ Framed s o t [] 600128 7301098
noncomputable def lw_Z (below : List Frame) (a : Array Value) (s : State) : State → Prop := fun t => ∃ o, t.status = .running ∧ Ended t below o ∧ lw_Q a s o t
/-- the law's own end, with 1 on the stack, nothing written that was there before, its room as the claim has it -/
theorem pd_59 : (parseMethodDescriptor "(LSpanbooker;IIILSpanbookerLaw$Out;)I").map (fun d => d.parameters.length) = some 5 := by decide +kernel
theorem pd_60 : (parseMethodDescriptor "(LSpanbooker;ILSpanbookerLaw$Out;)I").map (fun d => d.parameters.length) = some 3 := by decide +kernel
theorem pd_61 : (parseMethodDescriptor "(LSpanbooker;IIZLSpanbookerLaw$Out;)I").map (fun d => d.parameters.length) = some 5 := by decide +kernel
theorem pd_62 : (parseMethodDescriptor "(LSpanbooker;IILSpanbookerLaw$Out;)I").map (fun d => d.parameters.length) = some 4 := by decide +kernel
theorem pd_63 : (parseMethodDescriptor "(LSpanbooker;IIIILSpanbookerLaw$Out;)I").map (fun d => d.parameters.length) = some 6 := by decide +kernel
theorem pd_64 : (parseMethodDescriptor "(LSpanbooker;IIIZLSpanbookerLaw$Out;)I").map (fun d => d.parameters.length) = some 6 := by decide +kernel
theorem pd_65 : (parseMethodDescriptor "(LSpanbooker;ZILSpanbookerLaw$Out;)I").map (fun d => d.parameters.length) = some 4 := by decide +kernel
theorem pd_66 : (parseMethodDescriptor "(IIZ)I").map (fun d => d.parameters.length) = some 3 := by decide +kernel
theorem pd_67 : (parseMethodDescriptor "(IIII)I").map (fun d => d.parameters.length) = some 4 := by decide +kernel
theorem pd_68 : (parseMethodDescriptor "(IIIZ)I").map (fun d => d.parameters.length) = some 4 := by decide +kernel
theorem pd_69 : (parseMethodDescriptor "(ZI)I").map (fun d => d.parameters.length) = some 2 := by decide +kernel
theorem pd_70 : (parseMethodDescriptor "(I)Ljava/lang/String;").map (fun d => d.parameters.length) = some 1 := by decide +kernel
theorem lw_ret {p : Program} {l : Launch} {e : Env} {s : State} {m : MethodId} {below : List Frame} {meth : Method} {c : Code} {b : Nat} (hx : p.tables.exec = Jvm.exec) (hb : c.code = code) (hr : meth.sig.returnType = ret) (hlocks : meth.locks = false) {pc : Nat} {H : Heap} {ls : Array Slot} (hdg : decode code pc = .ok (.ireturn, 1)) : W p l e room_1 s m #[Value.ref b] below meth c H [] 600128 7301098 (lw_Z below #[Value.ref b] s) (F0 m pc ls [.int 1]) := by
  intro T hT X
  obtain ⟨fs, hret, hrun, hended, hW, hframe⟩ := X.leave (v := some (.int 1)) (hlocks := hlocks) (fun h => by rw [hr] at h; cases h)
  have hmeth' : T.vm.method? m = some meth := X.method'
  refine ⟨T.setFrames fs, ?_, .returned (some (.int 1)), hrun, hended, rfl, ⟨_, rfl⟩, hW, hframe⟩
  jvm_step X.here [X.here.top, hx, hb, hdg, hmeth', hr, ret, narrow_b1]
  (try refine ⟨rfl, ?_⟩); (try refine ⟨rfl, ?_⟩)
  first | (intro acts; rw [hret _ acts rfl rfl rfl]) | rw [hret _ _ rfl rfl rfl]
  exact Steps.refl _
/-- what holds at the law's entry: the machine, the code, the tables' words (any of lw_tbl by 'hts w (by decide +kernel)'), the script of L ints xs at the cell b, what the Statement gives of the start (any of its parts by flat_of_before) -/
noncomputable def lw_At (p : Program) (s : State) (m : MethodId) (meth : Method) (c : Code) (b L : Nat) (xs : Nat → Int32) : Prop :=
  p.tables.exec = Jvm.exec ∧ c.code = code ∧ meth.sig.returnType = ret ∧ c.maxLocals = 7 ∧ s.vm.findClass R_law = some m.cls ∧ (∀ w ∈ lw_tbl, w.before #[Value.ref b] s = true) ∧ va_X b L xs s s.heap ∧ b < s.heap.size ∧ meth.locks = false ∧ (Jvm.Cond.and given_1 narrow_1).before #[Value.ref b] s = true
/-! the law's own: a call in 'try', a call that moves the reference's arrays -/
theorem kEx_1 {k : Nat} (h : k = 1) : kEx k = "java/lang/IndexOutOfBoundsException" := by rw [kEx, if_pos h]
theorem kEx_2 {k : Nat} (h : ¬ k = 1) : kEx k = "java/lang/IllegalArgumentException" := by rw [kEx, if_neg h]
noncomputable abbrev kWt (y : MethodName) (cc : ByteArray) (maxL : Nat) (ret : Option FieldType) (hh : List (Nat × Nat × Nat × Nat)) (n : Nat) : Prop := Cond.codeWith y cc maxL ret hh ∈ kBIG ∧ Cond.static y ∈ kBIG ∧ Cond.initialized y.cls ∈ kBIG ∧ y.cls ≠ "java/lang/invoke/MethodHandle" ∧ y.cls ≠ "java/lang/invoke/VarHandle" ∧ (parseMethodDescriptor y.desc).map (fun d => d.parameters.length) = some n
theorem kcwSW {R : Room} {s : State} {args : Array Value} {c0 : Cond} {own : String} {index maxL mc ms n : Nat} {y : MethodName} {cc : ByteArray} {ret : Option FieldType} {hh : List (Nat × Nat × Nat × Nat)} {rm : Room} (ht : ∀ w ∈ c0 :: kBIG, w.before args s = true) (hl : Cond.methodLink own index y ∈ kBIG) (q : kWt y cc maxL ret hh n) (hrc : rm.cells = mc) (hrs : rm.slots = ms) (hR : rm.frames + 1 ≤ R.frames ∧ 8 + (maxL + 11) + rm.locals ≤ R.locals) : vx_CSW R s args own index y cc maxL ret hh (Cond.codeWith y cc maxL ret hh :: kBIG) rm mc ms n := by
  have hG : GoodIn (c0 :: kBIG) (Cond.codeWith y cc maxL ret hh :: kBIG) := fun w hw => by
    rcases List.mem_cons.mp hw with e | hw
    · rw [e]; exact ⟨List.mem_cons_of_mem _ q.1, good_of_word (kBIG_good q.1)⟩
    · exact ⟨List.mem_cons_of_mem _ hw, good_of_word (kBIG_good hw)⟩
  refine ⟨⟨hrc, hrs, hR.1, hR.2, pay_in ht hG, List.mem_cons_self⟩, ht _ (List.mem_cons_of_mem _ q.1), ht _ (List.mem_cons_of_mem _ q.2.2.1), ⟨q.2.2.2.1, q.2.2.2.2.1⟩, fun sig h => ?_, ht _ (List.mem_cons_of_mem _ hl), ht _ (List.mem_cons_of_mem _ q.2.1)⟩
  have h2 := q.2.2.2.2.2
  rw [h] at h2
  exact (Option.some.inj h2).symm
section KL
variable {p : Program} {l : Launch} {e0 : Env} {R : Room} {s : State} {m : MethodId} {args : Array Value} {below : List Frame} {meth : Method} {c : Code} {H : Heap} {locs : List Loc} {cells slots : Nat} {Q : State → Prop}
variable {cc : ByteArray} {pc : Nat} {ls : Array Slot} {rest st0 : List Value} {D : va_G} {A0 : Nat → Prop} {ws wc ws' w1 : va_W} {H0 : Heap} {a : Array Value} {mc ms : Nat}
theorem kcall_xh {k : Nat} (ws' : va_W) (hr : vx_Run p l e0 R s m args below meth c H locs cells slots mc ms (F0 m pc ls st0) rest (kNo a) (kX D k w1 (va_A wc H.size)) (va_A wc H.size)) (hP : va_P D vwCl ws H) (hD : va_D A0 ws) (hS : va_S A0 H0 H locs) (hA : ∀ q, H0.size ≤ q → A0 q) (isC isR : List Nat) (hC : isC.map (fun i => ws[i]?) = wc.map some) (hC' : isC.map (fun i => ws'[i]?) = w1.map some) (wr : va_W) (hR0 : isR.map (fun i => ws[i]?) = wr.map some) (hR1 : isR.map (fun i => ws'[i]?) = wr.map some) (hcov : (List.range ws'.length).all (fun i => isC.contains i || isR.contains i) = true) (hdis : ∀ i ∈ isR, i ∉ isC) (had : ws'.map (·.1) = ws.map (·.1))
    (kk : ∀ (q : Nat) (ce : Cell) (H1 : Heap) (locs1 : List Loc), va_P D vwCl ws' H1 → va_D A0 ws' → va_S A0 H0 H1 locs1 → H1[q]? = some ce → ce.vm = .none → s.vm.findClass (kEx k) = some ce.cls → vx_W p l e0 R s m args below meth c H1 locs1 (cells + mc) (slots + ms) Q (F0 m pc ls rest) q) : W p l e0 R s m args below meth c H locs cells slots Q (F0 m pc ls st0) := by
  have hF := va_free (wc := wc) hD hS hA isC hC
  intro T hT X
  rcases hr T hT X with ⟨v, st₀, t, T', L, h0, X', hL, e1, e2, hq, st⟩ | ⟨q, st₀, t, T', L, E, ce, h0, X', hL, e1, e2, ⟨hE, hB, hFr⟩, hce, hcv, hcl, st⟩
  · exact hq.elim
  · obtain ⟨k1, k2, k3⟩ := vx_keep h0 e1 hS (fun q _ h => hF q h) hF hL hFr
    rw [← e1] at hB hce
    rw [hE] at hcl
    obtain ⟨hP1, hD1⟩ := kjoin hP hD isC isR hC hC' wr hR0 hR1 hcov hdis had k2 hB
    obtain ⟨t2, a1, b1⟩ := kk q ce T'.heap (locs ++ L) hP1 hD1 k3 hce hcv hcl T' rfl X'
    exact ⟨t2, st.trans a1, b1⟩
theorem kcall_sh {r : Int32} {b0 : Nat} (F : (Nat → Nat) → va_W) (hr : va_Run p l e0 R s m args below meth c H locs cells slots mc ms (F0 m pc ls st0) rest (kSh D r b0 F (va_A wc H.size) a) (va_A wc H.size)) (hP : va_P D vwCl ws H) (hD : va_D A0 ws) (hS : va_S A0 H0 H locs) (hA : ∀ q, H0.size ≤ q → A0 q) (isC isR : List Nat) (hC : isC.map (fun i => ws[i]?) = wc.map some) (wr : va_W) (hR0 : isR.map (fun i => ws[i]?) = wr.map some) (hn : va_nd isR = true) (hdis : ∀ i ∈ isR, i ∉ isC)
    (kk : ∀ (u : Nat → Nat) (H1 : Heap) (locs1 : List Loc), u 0 = b0 → va_P D vwCl (wr ++ F u) H1 → va_D A0 (wr ++ F u) → va_S A0 H0 H1 locs1 → W p l e0 R s m args below meth c H1 locs1 (cells + mc) (slots + ms) Q (F0 m (pc + 3) ls (.int r :: rest))) : W p l e0 R s m args below meth c H locs cells slots Q (F0 m pc ls st0) := by
  have hF := va_free (wc := wc) hD hS hA isC hC
  refine va_calli hr hS (fun q _ h => hF q h) hF (fun r' u t H1 locs1 ht hvm hw hB hz hk hS1 => ?_)
  obtain ⟨rfl, hu⟩ := hw
  obtain ⟨hB, hDB⟩ := hB
  rw [ht] at hB
  obtain ⟨hP1, hD1⟩ := va_join hP hD isC isR hC hR0 hn hdis hk hF hB hDB
  exact kk u H1 locs1 hu hP1 hD1 hS1
/-- one number of the script comes on the stack: five instructions -/
theorem kld {A : Nat → Prop} {b L : Nat} {xs : Nat → Int32} {k : Fin 4} {i0 i4 : Nat} {x v : Int32} {n : Int} (hx : p.tables.exec = Jvm.exec) (hb : c.code = cc) (d0 : decode cc pc = .ok (.aload_n k, 1)) (hi : (k : Nat) = i0) (l0 : ls[i0]? = some (.val (.ref b))) (d1 : decode cc (pc + 1) = .ok (.iload i4, 2)) (l4 : ls[i4]? = some (.val (.int x))) (d2 : decode cc (pc + 3) = .ok (.iconst n, 1)) (hv : Int32.ofInt n = v) (d3 : decode cc (pc + 4) = .ok (.iadd, 1)) (hX : va_X b L xs s H0) (hbl : b < H0.size) (hbA : ¬ A b) (hS : va_S A H0 H locs) (hin : vp_in (x + v) L) (d4 : decode cc (pc + 5) = .ok (.iaload, 1))
    (kk : W p l e0 R s m args below meth c H locs cells slots Q (F0 m (pc + 6) ls (.int (xs (x + v).toNatClampNeg) :: rest))) : W p l e0 R s m args below meth c H locs cells slots Q (F0 m pc ls rest) :=
  lv_aload_n hx hb d0 hi l0 (lv_iload hx hb d1 l4 (lv_iconst hx hb d2 hv (lv_iadd hx hb d3 (va_sld hx hb hX hbl hbA hS hin d4 kk))))
end KL
noncomputable def kLw (p : Program) (s : State) (m : MethodId) (c : Code) (b L : Nat) (xs : Nat → Int32) (A : Nat → Prop) : Prop := p.tables.exec = Jvm.exec ∧ c.code = cL_law ∧ c.maxLocals = 7 ∧ s.vm.findClass RL = some m.cls ∧ (∀ w ∈ Cond.initialized RL :: kBIG, w.before #[Value.ref b] s = true) ∧ va_X b L xs s s.heap ∧ b < s.heap.size ∧ (∀ q : Nat, s.heap.size ≤ q → A q) ∧ ¬ A b ∧ kG s ∧ kZ A s s.heap
theorem kcwIN {R : Room} {s : State} {args : Array Value} {c0 : Cond} {own host : String} {index maxL mc ms n : Nat} {y : MethodName} {cc : ByteArray} {rm : Room} (ht : ∀ w ∈ c0 :: kBIG, w.before args s = true) (hl : va_Nw (.methodLinkNest own index y host) s) (q : kIt y cc maxL n) (hrc : rm.cells = mc) (hrs : rm.slots = ms) (hR : rm.frames + 1 ≤ R.frames ∧ 8 + (maxL + 11) + rm.locals ≤ R.locals) : va_CN R s args own index y host cc maxL none (kWs y cc maxL none) rm mc ms n ∧ y.name = "<init>" ∧ (Cond.instanceMethod y).before args s = true :=
  ⟨va_cnB n ht (kgood q.1) rfl hrc hrs hl (ht _ (List.mem_cons_of_mem _ q.2.2.1)) q.2.2.2.2 hR, q.2.2.2.1, ht _ (List.mem_cons_of_mem _ q.2.1)⟩
theorem kw_139 : Cond.methodLink RL 186 yX1_empty ∈ kBIG := kb_c1 83 rfl (by decide +kernel)
theorem kw_151 : Cond.methodLink RL 236 yX1_spans ∈ kBIG := kb_c1 95 rfl (by decide +kernel)
theorem kw_159 : Cond.methodLink RL 246 yX1_clashes ∈ kBIG := kb_c1 103 rfl (by decide +kernel)
theorem kw_167 : Cond.methodLink RL 253 yX1_deepest ∈ kBIG := kb_c1 111 rfl (by decide +kernel)
theorem kw_178 : Cond.methodLink RL 260 yX1_frees ∈ kBIG := kb_c1 122 rfl (by decide +kernel)
theorem kw_219 : Cond.methodLink RL 273 yX1_wishes ∈ kBIG := kb_c1 163 rfl (by decide +kernel)
theorem kw_223 : Cond.methodLink RL 283 yX1_chosen ∈ kBIG := kb_c1 167 rfl (by decide +kernel)
theorem kw_235 : Cond.methodLink RL 290 yX1_crowd ∈ kBIG := kb_c1 179 rfl (by decide +kernel)
theorem kw_239 : Cond.methodLink RL 297 yX1_rooms ∈ kBIG := kb_c1 183 rfl (by decide +kernel)
theorem kw_264 : Cond.methodLink RL 304 yX1_knock ∈ kBIG := kb_c1 208 rfl (by decide +kernel)
theorem kw_268 : Cond.methodLink RL 308 yX1_isSound ∈ kBIG := kb_c1 212 rfl (by decide +kernel)
theorem kw_320 : Cond.methodLink RL 313 yX1_digest ∈ kBIG := kb_c2 24 rfl (by decide +kernel)
theorem kw_464 : Cond.methodLink RL 147 yL_set ∈ kBIG := kb_c2 168 rfl (by decide +kernel)
theorem kw_467 : Cond.classLink RL 19 "java/lang/IndexOutOfBoundsException" ∈ kBIG := kb_c2 171 rfl (by decide +kernel)
theorem kw_468 : Cond.classLink RL 21 "java/lang/IllegalArgumentException" ∈ kBIG := kb_c2 172 rfl (by decide +kernel)
theorem kw_469 : Cond.methodLink RL 7 yX1_set ∈ kBIG := kb_c2 173 rfl (by decide +kernel)
theorem kw_505 : Cond.methodLink RL 153 yL_go ∈ kBIG := kb_c2 209 rfl (by decide +kernel)
theorem kw_508 : Cond.methodLink RL 23 yX1_go ∈ kBIG := kb_c2 212 rfl (by decide +kernel)
theorem kw_522 : Cond.methodLink RL 157 yL_copy ∈ kBIG := kb_c2 226 rfl (by decide +kernel)
theorem kw_525 : Cond.methodLink RL 27 yX1_copy ∈ kBIG := kb_c2 229 rfl (by decide +kernel)
theorem kw_533 : Cond.methodLink RL 161 yL_swap ∈ kBIG := kb_c2 237 rfl (by decide +kernel)
theorem kw_536 : Cond.methodLink RL 31 yX1_swap ∈ kBIG := kb_c3 0 rfl (by decide +kernel)
theorem kw_540 : Cond.methodLink RL 164 yL_pick ∈ kBIG := kb_c3 4 rfl (by decide +kernel)
theorem kw_543 : Cond.methodLink RL 34 yX1_pick ∈ kBIG := kb_c3 7 rfl (by decide +kernel)
theorem kw_547 : Cond.methodLink RL 168 yL_shift ∈ kBIG := kb_c3 11 rfl (by decide +kernel)
theorem kw_550 : Cond.methodLink RL 38 yX1_shift ∈ kBIG := kb_c3 14 rfl (by decide +kernel)
theorem kw_567 : Cond.methodLink RL 175 yL_open ∈ kBIG := kb_c3 31 rfl (by decide +kernel)
theorem kw_570 : Cond.methodLink RL 41 yX1_open ∈ kBIG := kb_c3 34 rfl (by decide +kernel)
theorem kw_574 : Cond.methodLink RL 178 yL_book ∈ kBIG := kb_c3 38 rfl (by decide +kernel)
theorem kw_577 : Cond.methodLink RL 44 yX1_book ∈ kBIG := kb_c3 41 rfl (by decide +kernel)
theorem kw_585 : Cond.methodLink RL 182 yL_unbook ∈ kBIG := kb_c3 49 rfl (by decide +kernel)
theorem kw_588 : Cond.methodLink RL 48 yX1_unbook ∈ kBIG := kb_c3 52 rfl (by decide +kernel)
theorem kw_600 : Cond.methodLink RL 190 yL_move ∈ kBIG := kb_c3 64 rfl (by decide +kernel)
theorem kw_603 : Cond.methodLink RL 52 yX1_move ∈ kBIG := kb_c3 67 rfl (by decide +kernel)
theorem kw_619 : Cond.methodLink RL 193 yL_stretch ∈ kBIG := kb_c3 83 rfl (by decide +kernel)
theorem kw_622 : Cond.methodLink RL 55 yX1_stretch ∈ kBIG := kb_c3 86 rfl (by decide +kernel)
theorem kw_630 : Cond.methodLink RL 196 yL_fit ∈ kBIG := kb_c3 94 rfl (by decide +kernel)
theorem kw_633 : Cond.methodLink RL 58 yX1_fit ∈ kBIG := kb_c3 97 rfl (by decide +kernel)
theorem kw_640 : Cond.methodLink RL 200 yL_wish ∈ kBIG := kb_c3 104 rfl (by decide +kernel)
theorem kw_643 : Cond.methodLink RL 62 yX1_wish ∈ kBIG := kb_c3 107 rfl (by decide +kernel)
theorem kw_647 : Cond.methodLink RL 203 yL_unwish ∈ kBIG := kb_c3 111 rfl (by decide +kernel)
theorem kw_650 : Cond.methodLink RL 65 yX1_unwish ∈ kBIG := kb_c3 114 rfl (by decide +kernel)
theorem kw_654 : Cond.methodLink RL 206 yL_grant ∈ kBIG := kb_c3 118 rfl (by decide +kernel)
theorem kw_657 : Cond.methodLink RL 68 yX1_grant ∈ kBIG := kb_c3 121 rfl (by decide +kernel)
theorem kw_661 : Cond.methodLink RL 209 yL_second ∈ kBIG := kb_c3 125 rfl (by decide +kernel)
theorem kw_664 : Cond.methodLink RL 71 yX1_second ∈ kBIG := kb_c3 128 rfl (by decide +kernel)
theorem kw_668 : Cond.methodLink RL 212 yL_nano ∈ kBIG := kb_c3 132 rfl (by decide +kernel)
theorem kw_671 : Cond.methodLink RL 74 yX1_nano ∈ kBIG := kb_c3 135 rfl (by decide +kernel)
theorem kw_675 : Cond.methodLink RL 215 yL_text ∈ kBIG := kb_c3 139 rfl (by decide +kernel)
theorem kw_678 : Cond.methodLink RL 77 yX1_text ∈ kBIG := kb_c3 142 rfl (by decide +kernel)
theorem kw_945 : Cond.methodLink RL 218 yL_order ∈ kBIG := kb_c4 169 rfl (by decide +kernel)
theorem kw_948 : Cond.methodLink RL 85 yX1_order ∈ kBIG := kb_c4 172 rfl (by decide +kernel)
theorem kw_952 : Cond.methodLink RL 221 yL_isBefore ∈ kBIG := kb_c4 176 rfl (by decide +kernel)
theorem kw_955 : Cond.methodLink RL 88 yX1_isBefore ∈ kBIG := kb_c4 179 rfl (by decide +kernel)
theorem kw_959 : Cond.methodLink RL 224 yL_isAfter ∈ kBIG := kb_c4 183 rfl (by decide +kernel)
theorem kw_962 : Cond.methodLink RL 92 yX1_isAfter ∈ kBIG := kb_c4 186 rfl (by decide +kernel)
theorem kw_966 : Cond.methodLink RL 227 yL_same ∈ kBIG := kb_c4 190 rfl (by decide +kernel)
theorem kw_969 : Cond.methodLink RL 95 yX1_same ∈ kBIG := kb_c4 193 rfl (by decide +kernel)
theorem kw_973 : Cond.methodLink RL 230 yL_apart ∈ kBIG := kb_c4 197 rfl (by decide +kernel)
theorem kw_976 : Cond.methodLink RL 99 yX1_apart ∈ kBIG := kb_c4 200 rfl (by decide +kernel)
theorem kw_980 : Cond.methodLink RL 233 yL_calendar ∈ kBIG := kb_c4 204 rfl (by decide +kernel)
theorem kw_983 : Cond.methodLink RL 102 yX1_calendar ∈ kBIG := kb_c4 207 rfl (by decide +kernel)
theorem kw_984 : Cond.methodLink RL 240 yL_ofSpan ∈ kBIG := kb_c4 208 rfl (by decide +kernel)
theorem kw_987 : Cond.methodLink RL 105 yX1_ofSpan ∈ kBIG := kb_c4 211 rfl (by decide +kernel)
theorem kw_991 : Cond.methodLink RL 243 yL_meets ∈ kBIG := kb_c4 215 rfl (by decide +kernel)
theorem kw_994 : Cond.methodLink RL 108 yX1_meets ∈ kBIG := kb_c4 218 rfl (by decide +kernel)
theorem kw_998 : Cond.methodLink RL 250 yL_at ∈ kBIG := kb_c4 222 rfl (by decide +kernel)
theorem kw_1001 : Cond.methodLink RL 111 yX1_at ∈ kBIG := kb_c4 225 rfl (by decide +kernel)
theorem kw_1005 : Cond.methodLink RL 257 yL_isFree ∈ kBIG := kb_c4 229 rfl (by decide +kernel)
theorem kw_1008 : Cond.methodLink RL 114 yX1_isFree ∈ kBIG := kb_c4 232 rfl (by decide +kernel)
theorem kw_1012 : Cond.methodLink RL 264 yL_ofFree ∈ kBIG := kb_c4 236 rfl (by decide +kernel)
theorem kw_1015 : Cond.methodLink RL 117 yX1_ofFree ∈ kBIG := kb_c4 239 rfl (by decide +kernel)
theorem kw_1019 : Cond.methodLink RL 267 yL_freeAt ∈ kBIG := kb_c5 3 rfl (by decide +kernel)
theorem kw_1022 : Cond.methodLink RL 120 yX1_freeAt ∈ kBIG := kb_c5 6 rfl (by decide +kernel)
theorem kw_1026 : Cond.methodLink RL 270 yL_length ∈ kBIG := kb_c5 10 rfl (by decide +kernel)
theorem kw_1029 : Cond.methodLink RL 123 yX1_length ∈ kBIG := kb_c5 13 rfl (by decide +kernel)
theorem kw_1030 : Cond.methodLink RL 277 yL_ofWish ∈ kBIG := kb_c5 14 rfl (by decide +kernel)
theorem kw_1033 : Cond.methodLink RL 126 yX1_ofWish ∈ kBIG := kb_c5 17 rfl (by decide +kernel)
theorem kw_1037 : Cond.methodLink RL 280 yL_isApart ∈ kBIG := kb_c5 21 rfl (by decide +kernel)
theorem kw_1040 : Cond.methodLink RL 129 yX1_isApart ∈ kBIG := kb_c5 24 rfl (by decide +kernel)
theorem kw_1044 : Cond.methodLink RL 287 yL_most ∈ kBIG := kb_c5 28 rfl (by decide +kernel)
theorem kw_1047 : Cond.methodLink RL 133 yX1_most ∈ kBIG := kb_c5 31 rfl (by decide +kernel)
theorem kw_1051 : Cond.methodLink RL 294 yL_room ∈ kBIG := kb_c5 35 rfl (by decide +kernel)
theorem kw_1054 : Cond.methodLink RL 136 yX1_room ∈ kBIG := kb_c5 38 rfl (by decide +kernel)
theorem kw_1058 : Cond.methodLink RL 301 yL_house ∈ kBIG := kb_c5 42 rfl (by decide +kernel)
theorem kw_1061 : Cond.methodLink RL 139 yX1_house ∈ kBIG := kb_c5 45 rfl (by decide +kernel)
theorem kw_1115 : Cond.methodLink RL 171 yX3_thrown ∈ kBIG := kb_c5 99 rfl (by decide +kernel)
theorem kw_1119 : Cond.methodLink RL 152 yX3_set ∈ kBIG := kb_c5 103 rfl (by decide +kernel)
theorem kw_1152 : Cond.methodLink RL 156 yX3_go ∈ kBIG := kb_c5 136 rfl (by decide +kernel)
theorem kw_1166 : Cond.methodLink RL 160 yX3_copy ∈ kBIG := kb_c5 150 rfl (by decide +kernel)
theorem kw_1174 : Cond.methodLink RL 163 yX3_swap ∈ kBIG := kb_c5 158 rfl (by decide +kernel)
theorem kw_1178 : Cond.methodLink RL 167 yX3_pick ∈ kBIG := kb_c5 162 rfl (by decide +kernel)
theorem kw_1182 : Cond.methodLink RL 170 yX3_shift ∈ kBIG := kb_c5 166 rfl (by decide +kernel)
theorem kw_1192 : Cond.methodLink RL 177 yX3_open ∈ kBIG := kb_c5 176 rfl (by decide +kernel)
theorem kw_1196 : Cond.methodLink RL 181 yX3_book ∈ kBIG := kb_c5 180 rfl (by decide +kernel)
theorem kw_1219 : Cond.methodLink RL 185 yX3_unbook ∈ kBIG := kb_c5 203 rfl (by decide +kernel)
theorem kw_1227 : Cond.methodLink RL 189 yX3_empty ∈ kBIG := kb_c5 211 rfl (by decide +kernel)
theorem kw_1231 : Cond.methodLink RL 192 yX3_move ∈ kBIG := kb_c5 215 rfl (by decide +kernel)
theorem kw_1238 : Cond.methodLink RL 195 yX3_stretch ∈ kBIG := kb_c5 222 rfl (by decide +kernel)
theorem kw_1242 : Cond.methodLink RL 199 yX3_fit ∈ kBIG := kb_c5 226 rfl (by decide +kernel)
theorem kw_1251 : Cond.methodLink RL 202 yX3_wish ∈ kBIG := kb_c5 235 rfl (by decide +kernel)
theorem kw_1255 : Cond.methodLink RL 205 yX3_unwish ∈ kBIG := kb_c5 239 rfl (by decide +kernel)
theorem kw_1267 : Cond.methodLink RL 208 yX3_grant ∈ kBIG := kb_c6 11 rfl (by decide +kernel)
theorem kw_1271 : Cond.methodLink RL 211 yX3_second ∈ kBIG := kb_c6 15 rfl (by decide +kernel)
theorem kw_1275 : Cond.methodLink RL 214 yX3_nano ∈ kBIG := kb_c6 19 rfl (by decide +kernel)
theorem kw_1282 : Cond.methodLink RL 217 yX3_text ∈ kBIG := kb_c6 26 rfl (by decide +kernel)
theorem kw_1293 : Cond.methodLink RL 220 yX3_order ∈ kBIG := kb_c6 37 rfl (by decide +kernel)
theorem kw_1301 : Cond.methodLink RL 223 yX3_isBefore ∈ kBIG := kb_c6 45 rfl (by decide +kernel)
theorem kw_1305 : Cond.methodLink RL 226 yX3_isAfter ∈ kBIG := kb_c6 49 rfl (by decide +kernel)
theorem kw_1309 : Cond.methodLink RL 229 yX3_same ∈ kBIG := kb_c6 53 rfl (by decide +kernel)
theorem kw_1313 : Cond.methodLink RL 232 yX3_apart ∈ kBIG := kb_c6 57 rfl (by decide +kernel)
theorem kw_1320 : Cond.methodLink RL 235 yX3_calendar ∈ kBIG := kb_c6 64 rfl (by decide +kernel)
theorem kw_1324 : Cond.methodLink RL 239 yX3_spans ∈ kBIG := kb_c6 68 rfl (by decide +kernel)
theorem kw_1328 : Cond.methodLink RL 242 yX3_ofSpan ∈ kBIG := kb_c6 72 rfl (by decide +kernel)
theorem kw_1332 : Cond.methodLink RL 245 yX3_meets ∈ kBIG := kb_c6 76 rfl (by decide +kernel)
theorem kw_1336 : Cond.methodLink RL 249 yX3_clashes ∈ kBIG := kb_c6 80 rfl (by decide +kernel)
theorem kw_1340 : Cond.methodLink RL 252 yX3_at ∈ kBIG := kb_c6 84 rfl (by decide +kernel)
theorem kw_1348 : Cond.methodLink RL 256 yX3_deepest_ ∈ kBIG := kb_c6 92 rfl (by decide +kernel)
theorem kw_1356 : Cond.methodLink RL 259 yX3_isFree ∈ kBIG := kb_c6 100 rfl (by decide +kernel)
theorem kw_1360 : Cond.methodLink RL 263 yX3_frees ∈ kBIG := kb_c6 104 rfl (by decide +kernel)
theorem kw_1371 : Cond.methodLink RL 266 yX3_ofFree ∈ kBIG := kb_c6 115 rfl (by decide +kernel)
theorem kw_1375 : Cond.methodLink RL 269 yX3_freeAt ∈ kBIG := kb_c6 119 rfl (by decide +kernel)
theorem kw_1379 : Cond.methodLink RL 272 yX3_length ∈ kBIG := kb_c6 123 rfl (by decide +kernel)
theorem kw_1391 : Cond.methodLink RL 276 yX3_wishes ∈ kBIG := kb_c6 135 rfl (by decide +kernel)
theorem kw_1395 : Cond.methodLink RL 279 yX3_ofWish ∈ kBIG := kb_c6 139 rfl (by decide +kernel)
theorem kw_1399 : Cond.methodLink RL 282 yX3_isApart ∈ kBIG := kb_c6 143 rfl (by decide +kernel)
theorem kw_1411 : Cond.methodLink RL 286 yX3_chosen ∈ kBIG := kb_c6 155 rfl (by decide +kernel)
theorem kw_1419 : Cond.methodLink RL 289 yX3_most ∈ kBIG := kb_c6 163 rfl (by decide +kernel)
theorem kw_1430 : Cond.methodLink RL 293 yX3_crowd ∈ kBIG := kb_c6 174 rfl (by decide +kernel)
theorem kw_1434 : Cond.methodLink RL 296 yX3_room ∈ kBIG := kb_c6 178 rfl (by decide +kernel)
theorem kw_1446 : Cond.methodLink RL 300 yX3_rooms ∈ kBIG := kb_c6 190 rfl (by decide +kernel)
theorem kw_1454 : Cond.methodLink RL 303 yX3_house ∈ kBIG := kb_c6 198 rfl (by decide +kernel)
theorem kw_1458 : Cond.methodLink RL 307 yX3_knock ∈ kBIG := kb_c6 202 rfl (by decide +kernel)
theorem kw_1462 : Cond.methodLink RL 312 yX3_isSound ∈ kBIG := kb_c6 206 rfl (by decide +kernel)
theorem kw_1470 : Cond.methodLink RL 317 yX3_digest ∈ kBIG := kb_c6 214 rfl (by decide +kernel)
theorem kv_L_apart : kWt yL_apart cL_apart 6 (some .int) [(0, 13, 16, 19), (0, 13, 20, 21)] 5 := ⟨kb_c4 199 rfl (by decide +kernel), kb_c4 198 rfl (by decide +kernel), kb_c1 0 rfl (by decide +kernel), by decide +kernel, by decide +kernel, pd_59⟩
theorem kv_L_at : kWt yL_at cL_at 4 (some .int) [(0, 10, 13, 19)] 3 := ⟨kb_c4 224 rfl (by decide +kernel), kb_c4 223 rfl (by decide +kernel), kb_c1 0 rfl (by decide +kernel), by decide +kernel, by decide +kernel, pd_60⟩
theorem kv_L_book : kWt yL_book cL_book 6 (some .int) [(0, 13, 16, 19)] 5 := ⟨kb_c3 40 rfl (by decide +kernel), kb_c3 39 rfl (by decide +kernel), kb_c1 0 rfl (by decide +kernel), by decide +kernel, by decide +kernel, pd_61⟩
theorem kv_L_calendar : kWt yL_calendar cL_calendar 4 (some .int) [(0, 10, 13, 21)] 3 := ⟨kb_c4 206 rfl (by decide +kernel), kb_c4 205 rfl (by decide +kernel), kb_c1 0 rfl (by decide +kernel), by decide +kernel, by decide +kernel, pd_60⟩
theorem kv_L_copy : kWt yL_copy cL_copy 5 (some .int) [(0, 11, 14, 19)] 4 := ⟨kb_c2 228 rfl (by decide +kernel), kb_c2 227 rfl (by decide +kernel), kb_c1 0 rfl (by decide +kernel), by decide +kernel, by decide +kernel, pd_62⟩
theorem kv_L_fit : kWt yL_fit cL_fit 7 (some .int) [(0, 15, 18, 19), (0, 15, 22, 21)] 6 := ⟨kb_c3 96 rfl (by decide +kernel), kb_c3 95 rfl (by decide +kernel), kb_c1 0 rfl (by decide +kernel), by decide +kernel, by decide +kernel, pd_63⟩
theorem kv_L_freeAt : kWt yL_freeAt cL_freeAt 4 (some .int) [(0, 10, 13, 19)] 3 := ⟨kb_c5 5 rfl (by decide +kernel), kb_c5 4 rfl (by decide +kernel), kb_c1 0 rfl (by decide +kernel), by decide +kernel, by decide +kernel, pd_60⟩
theorem kv_L_go : kWt yL_go cL_go 7 (some .int) [(0, 15, 18, 19), (0, 15, 22, 21)] 6 := ⟨kb_c2 211 rfl (by decide +kernel), kb_c2 210 rfl (by decide +kernel), kb_c1 0 rfl (by decide +kernel), by decide +kernel, by decide +kernel, pd_64⟩
theorem kv_L_grant : kWt yL_grant cL_grant 4 (some .int) [(0, 10, 13, 19)] 3 := ⟨kb_c3 120 rfl (by decide +kernel), kb_c3 119 rfl (by decide +kernel), kb_c1 0 rfl (by decide +kernel), by decide +kernel, by decide +kernel, pd_60⟩
theorem kv_L_house : kWt yL_house cL_house 4 (some .int) [(0, 10, 13, 21)] 3 := ⟨kb_c5 44 rfl (by decide +kernel), kb_c5 43 rfl (by decide +kernel), kb_c1 0 rfl (by decide +kernel), by decide +kernel, by decide +kernel, pd_60⟩
theorem kv_L_isAfter : kWt yL_isAfter cL_isAfter 5 (some .int) [(0, 18, 21, 19)] 4 := ⟨kb_c4 185 rfl (by decide +kernel), kb_c4 184 rfl (by decide +kernel), kb_c1 0 rfl (by decide +kernel), by decide +kernel, by decide +kernel, pd_62⟩
theorem kv_L_isApart : kWt yL_isApart cL_isApart 4 (some .int) [(0, 17, 20, 21)] 3 := ⟨kb_c5 23 rfl (by decide +kernel), kb_c5 22 rfl (by decide +kernel), kb_c1 0 rfl (by decide +kernel), by decide +kernel, by decide +kernel, pd_60⟩
theorem kv_L_isBefore : kWt yL_isBefore cL_isBefore 5 (some .int) [(0, 18, 21, 19)] 4 := ⟨kb_c4 178 rfl (by decide +kernel), kb_c4 177 rfl (by decide +kernel), kb_c1 0 rfl (by decide +kernel), by decide +kernel, by decide +kernel, pd_62⟩
theorem kv_L_isFree : kWt yL_isFree cL_isFree 5 (some .int) [(0, 18, 21, 19)] 4 := ⟨kb_c4 231 rfl (by decide +kernel), kb_c4 230 rfl (by decide +kernel), kb_c1 0 rfl (by decide +kernel), by decide +kernel, by decide +kernel, pd_62⟩
theorem kv_L_length : kWt yL_length cL_length 4 (some .int) [(0, 10, 13, 21)] 3 := ⟨kb_c5 12 rfl (by decide +kernel), kb_c5 11 rfl (by decide +kernel), kb_c1 0 rfl (by decide +kernel), by decide +kernel, by decide +kernel, pd_60⟩
theorem kv_L_meets : kWt yL_meets cL_meets 5 (some .int) [(0, 18, 21, 19)] 4 := ⟨kb_c4 217 rfl (by decide +kernel), kb_c4 216 rfl (by decide +kernel), kb_c1 0 rfl (by decide +kernel), by decide +kernel, by decide +kernel, pd_62⟩
theorem kv_L_most : kWt yL_most cL_most 4 (some .int) [(0, 10, 13, 21)] 3 := ⟨kb_c5 30 rfl (by decide +kernel), kb_c5 29 rfl (by decide +kernel), kb_c1 0 rfl (by decide +kernel), by decide +kernel, by decide +kernel, pd_60⟩
theorem kv_L_move : kWt yL_move cL_move 6 (some .int) [(0, 13, 16, 19), (0, 13, 20, 21)] 5 := ⟨kb_c3 66 rfl (by decide +kernel), kb_c3 65 rfl (by decide +kernel), kb_c1 0 rfl (by decide +kernel), by decide +kernel, by decide +kernel, pd_59⟩
theorem kv_L_nano : kWt yL_nano cL_nano 4 (some .int) [(0, 10, 13, 19)] 3 := ⟨kb_c3 134 rfl (by decide +kernel), kb_c3 133 rfl (by decide +kernel), kb_c1 0 rfl (by decide +kernel), by decide +kernel, by decide +kernel, pd_60⟩
theorem kv_L_ofFree : kWt yL_ofFree cL_ofFree 5 (some .int) [(0, 11, 14, 19), (0, 11, 18, 21)] 4 := ⟨kb_c4 238 rfl (by decide +kernel), kb_c4 237 rfl (by decide +kernel), kb_c1 0 rfl (by decide +kernel), by decide +kernel, by decide +kernel, pd_62⟩
theorem kv_L_ofSpan : kWt yL_ofSpan cL_ofSpan 5 (some .int) [(0, 11, 14, 19), (0, 11, 18, 21)] 4 := ⟨kb_c4 210 rfl (by decide +kernel), kb_c4 209 rfl (by decide +kernel), kb_c1 0 rfl (by decide +kernel), by decide +kernel, by decide +kernel, pd_62⟩
theorem kv_L_ofWish : kWt yL_ofWish cL_ofWish 5 (some .int) [(0, 11, 14, 19), (0, 11, 18, 21)] 4 := ⟨kb_c5 16 rfl (by decide +kernel), kb_c5 15 rfl (by decide +kernel), kb_c1 0 rfl (by decide +kernel), by decide +kernel, by decide +kernel, pd_62⟩
theorem kv_L_open : kWt yL_open cL_open 5 (some .int) [(0, 11, 14, 19)] 4 := ⟨kb_c3 33 rfl (by decide +kernel), kb_c3 32 rfl (by decide +kernel), kb_c1 0 rfl (by decide +kernel), by decide +kernel, by decide +kernel, pd_62⟩
theorem kv_L_order : kWt yL_order cL_order 5 (some .int) [(0, 11, 14, 19)] 4 := ⟨kb_c4 171 rfl (by decide +kernel), kb_c4 170 rfl (by decide +kernel), kb_c1 0 rfl (by decide +kernel), by decide +kernel, by decide +kernel, pd_62⟩
theorem kv_L_pick : kWt yL_pick cL_pick 5 (some .int) [(0, 11, 14, 19)] 4 := ⟨kb_c3 6 rfl (by decide +kernel), kb_c3 5 rfl (by decide +kernel), kb_c1 0 rfl (by decide +kernel), by decide +kernel, by decide +kernel, pd_65⟩
theorem kv_L_room : kWt yL_room cL_room 4 (some .int) [(0, 10, 13, 19)] 3 := ⟨kb_c5 37 rfl (by decide +kernel), kb_c5 36 rfl (by decide +kernel), kb_c1 0 rfl (by decide +kernel), by decide +kernel, by decide +kernel, pd_60⟩
theorem kv_L_same : kWt yL_same cL_same 6 (some .int) [(0, 20, 23, 19), (0, 20, 27, 21)] 5 := ⟨kb_c4 192 rfl (by decide +kernel), kb_c4 191 rfl (by decide +kernel), kb_c1 0 rfl (by decide +kernel), by decide +kernel, by decide +kernel, pd_59⟩
theorem kv_L_second : kWt yL_second cL_second 4 (some .int) [(0, 10, 13, 19)] 3 := ⟨kb_c3 127 rfl (by decide +kernel), kb_c3 126 rfl (by decide +kernel), kb_c1 0 rfl (by decide +kernel), by decide +kernel, by decide +kernel, pd_60⟩
theorem kv_L_set : kWt yL_set cL_set 6 (some .int) [(0, 13, 16, 19), (0, 13, 20, 21)] 5 := ⟨kb_c2 170 rfl (by decide +kernel), kb_c2 169 rfl (by decide +kernel), kb_c1 0 rfl (by decide +kernel), by decide +kernel, by decide +kernel, pd_59⟩
theorem kv_L_shift : kWt yL_shift cL_shift 5 (some .int) [(0, 11, 14, 21)] 4 := ⟨kb_c3 13 rfl (by decide +kernel), kb_c3 12 rfl (by decide +kernel), kb_c1 0 rfl (by decide +kernel), by decide +kernel, by decide +kernel, pd_62⟩
theorem kv_L_stretch : kWt yL_stretch cL_stretch 6 (some .int) [(0, 13, 16, 19), (0, 13, 20, 21)] 5 := ⟨kb_c3 85 rfl (by decide +kernel), kb_c3 84 rfl (by decide +kernel), kb_c1 0 rfl (by decide +kernel), by decide +kernel, by decide +kernel, pd_59⟩
theorem kv_L_swap : kWt yL_swap cL_swap 5 (some .int) [(0, 11, 14, 19)] 4 := ⟨kb_c2 239 rfl (by decide +kernel), kb_c2 238 rfl (by decide +kernel), kb_c1 0 rfl (by decide +kernel), by decide +kernel, by decide +kernel, pd_62⟩
theorem kv_L_text : kWt yL_text cL_text 4 (some .int) [(0, 9, 12, 19)] 3 := ⟨kb_c3 141 rfl (by decide +kernel), kb_c3 140 rfl (by decide +kernel), kb_c1 0 rfl (by decide +kernel), by decide +kernel, by decide +kernel, pd_60⟩
theorem kv_L_unbook : kWt yL_unbook cL_unbook 4 (some .int) [(0, 10, 13, 19)] 3 := ⟨kb_c3 51 rfl (by decide +kernel), kb_c3 50 rfl (by decide +kernel), kb_c1 0 rfl (by decide +kernel), by decide +kernel, by decide +kernel, pd_60⟩
theorem kv_L_unwish : kWt yL_unwish cL_unwish 4 (some .int) [(0, 10, 13, 19)] 3 := ⟨kb_c3 113 rfl (by decide +kernel), kb_c3 112 rfl (by decide +kernel), kb_c1 0 rfl (by decide +kernel), by decide +kernel, by decide +kernel, pd_60⟩
theorem kv_L_wish : kWt yL_wish cL_wish 5 (some .int) [(0, 11, 14, 19)] 4 := ⟨kb_c3 106 rfl (by decide +kernel), kb_c3 105 rfl (by decide +kernel), kb_c1 0 rfl (by decide +kernel), by decide +kernel, by decide +kernel, pd_62⟩
theorem kv_X1_apart : kVt yX1_apart cX1_apart 4 (some .int) 3 := ⟨kb_c4 203 rfl (by decide +kernel), kb_c4 201 rfl (by decide +kernel), kb_c4 202 rfl (by decide +kernel), kb_c1 1 rfl (by decide +kernel), by decide +kernel, by decide +kernel, pd_17⟩
theorem kv_X1_at : kVt yX1_at cX1_at 2 (some .int) 1 := ⟨kb_c4 228 rfl (by decide +kernel), kb_c4 226 rfl (by decide +kernel), kb_c4 227 rfl (by decide +kernel), kb_c1 1 rfl (by decide +kernel), by decide +kernel, by decide +kernel, pd_11⟩
theorem kv_X1_book : kVt yX1_book cX1_book 5 (some .int) 3 := ⟨kb_c3 44 rfl (by decide +kernel), kb_c3 42 rfl (by decide +kernel), kb_c3 43 rfl (by decide +kernel), kb_c1 1 rfl (by decide +kernel), by decide +kernel, by decide +kernel, pd_66⟩
theorem kv_X1_copy : kVt yX1_copy cX1_copy 3 (some .int) 2 := ⟨kb_c2 232 rfl (by decide +kernel), kb_c2 230 rfl (by decide +kernel), kb_c2 231 rfl (by decide +kernel), kb_c1 1 rfl (by decide +kernel), by decide +kernel, by decide +kernel, pd_56⟩
theorem kv_X1_digest : kVt yX1_digest cX1_digest 3 (some .long) 0 := ⟨kb_c2 27 rfl (by decide +kernel), kb_c2 25 rfl (by decide +kernel), kb_c2 26 rfl (by decide +kernel), kb_c1 1 rfl (by decide +kernel), by decide +kernel, by decide +kernel, pd_32⟩
theorem kv_X1_empty : kVt yX1_empty cX1_empty 1 (some .int) 0 := ⟨kb_c1 86 rfl (by decide +kernel), kb_c1 84 rfl (by decide +kernel), kb_c1 85 rfl (by decide +kernel), kb_c1 1 rfl (by decide +kernel), by decide +kernel, by decide +kernel, pd_2⟩
theorem kv_X1_fit : kVt yX1_fit cX1_fit 9 (some .int) 4 := ⟨kb_c3 100 rfl (by decide +kernel), kb_c3 98 rfl (by decide +kernel), kb_c3 99 rfl (by decide +kernel), kb_c1 1 rfl (by decide +kernel), by decide +kernel, by decide +kernel, pd_67⟩
theorem kv_X1_freeAt : kVt yX1_freeAt cX1_freeAt 2 (some .int) 1 := ⟨kb_c5 9 rfl (by decide +kernel), kb_c5 7 rfl (by decide +kernel), kb_c5 8 rfl (by decide +kernel), kb_c1 1 rfl (by decide +kernel), by decide +kernel, by decide +kernel, pd_11⟩
theorem kv_X1_frees : kVt yX1_frees cX1_frees 1 (some .int) 0 := ⟨kb_c1 125 rfl (by decide +kernel), kb_c1 123 rfl (by decide +kernel), kb_c1 124 rfl (by decide +kernel), kb_c1 1 rfl (by decide +kernel), by decide +kernel, by decide +kernel, pd_2⟩
theorem kv_X1_go : kVt yX1_go cX1_go 10 (some .int) 4 := ⟨kb_c2 215 rfl (by decide +kernel), kb_c2 213 rfl (by decide +kernel), kb_c2 214 rfl (by decide +kernel), kb_c1 1 rfl (by decide +kernel), by decide +kernel, by decide +kernel, pd_68⟩
theorem kv_X1_grant : kVt yX1_grant cX1_grant 3 (some .int) 1 := ⟨kb_c3 124 rfl (by decide +kernel), kb_c3 122 rfl (by decide +kernel), kb_c3 123 rfl (by decide +kernel), kb_c1 1 rfl (by decide +kernel), by decide +kernel, by decide +kernel, pd_11⟩
theorem kv_X1_house : kVt yX1_house cX1_house 2 (some .int) 1 := ⟨kb_c5 48 rfl (by decide +kernel), kb_c5 46 rfl (by decide +kernel), kb_c5 47 rfl (by decide +kernel), kb_c1 1 rfl (by decide +kernel), by decide +kernel, by decide +kernel, pd_11⟩
theorem kv_X1_isAfter : kVt yX1_isAfter cX1_isAfter 3 (some .boolean) 2 := ⟨kb_c4 189 rfl (by decide +kernel), kb_c4 187 rfl (by decide +kernel), kb_c4 188 rfl (by decide +kernel), kb_c1 1 rfl (by decide +kernel), by decide +kernel, by decide +kernel, pd_22⟩
theorem kv_X1_isApart : kVt yX1_isApart cX1_isApart 2 (some .boolean) 1 := ⟨kb_c5 27 rfl (by decide +kernel), kb_c5 25 rfl (by decide +kernel), kb_c5 26 rfl (by decide +kernel), kb_c1 1 rfl (by decide +kernel), by decide +kernel, by decide +kernel, pd_25⟩
theorem kv_X1_isBefore : kVt yX1_isBefore cX1_isBefore 3 (some .boolean) 2 := ⟨kb_c4 182 rfl (by decide +kernel), kb_c4 180 rfl (by decide +kernel), kb_c4 181 rfl (by decide +kernel), kb_c1 1 rfl (by decide +kernel), by decide +kernel, by decide +kernel, pd_22⟩
theorem kv_X1_isFree : kVt yX1_isFree cX1_isFree 7 (some .boolean) 2 := ⟨kb_c4 235 rfl (by decide +kernel), kb_c4 233 rfl (by decide +kernel), kb_c4 234 rfl (by decide +kernel), kb_c1 1 rfl (by decide +kernel), by decide +kernel, by decide +kernel, pd_22⟩
theorem kv_X1_knock : kVt yX1_knock cX1_knock 1 (some .int) 0 := ⟨kb_c1 211 rfl (by decide +kernel), kb_c1 209 rfl (by decide +kernel), kb_c1 210 rfl (by decide +kernel), kb_c1 1 rfl (by decide +kernel), by decide +kernel, by decide +kernel, pd_2⟩
theorem kv_X1_meets : kVt yX1_meets cX1_meets 3 (some .boolean) 2 := ⟨kb_c4 221 rfl (by decide +kernel), kb_c4 219 rfl (by decide +kernel), kb_c4 220 rfl (by decide +kernel), kb_c1 1 rfl (by decide +kernel), by decide +kernel, by decide +kernel, pd_22⟩
theorem kv_X1_most : kVt yX1_most cX1_most 2 (some .int) 1 := ⟨kb_c5 34 rfl (by decide +kernel), kb_c5 32 rfl (by decide +kernel), kb_c5 33 rfl (by decide +kernel), kb_c1 1 rfl (by decide +kernel), by decide +kernel, by decide +kernel, pd_11⟩
theorem kv_X1_move : kVt yX1_move cX1_move 6 (some .int) 3 := ⟨kb_c3 70 rfl (by decide +kernel), kb_c3 68 rfl (by decide +kernel), kb_c3 69 rfl (by decide +kernel), kb_c1 1 rfl (by decide +kernel), by decide +kernel, by decide +kernel, pd_17⟩
theorem kv_X1_nano : kVt yX1_nano cX1_nano 2 (some .int) 1 := ⟨kb_c3 138 rfl (by decide +kernel), kb_c3 136 rfl (by decide +kernel), kb_c3 137 rfl (by decide +kernel), kb_c1 1 rfl (by decide +kernel), by decide +kernel, by decide +kernel, pd_11⟩
theorem kv_X1_ofFree : kVt yX1_ofFree cX1_ofFree 3 (some .int) 2 := ⟨kb_c5 2 rfl (by decide +kernel), kb_c5 0 rfl (by decide +kernel), kb_c5 1 rfl (by decide +kernel), kb_c1 1 rfl (by decide +kernel), by decide +kernel, by decide +kernel, pd_56⟩
theorem kv_X1_ofSpan : kVt yX1_ofSpan cX1_ofSpan 3 (some .int) 2 := ⟨kb_c4 214 rfl (by decide +kernel), kb_c4 212 rfl (by decide +kernel), kb_c4 213 rfl (by decide +kernel), kb_c1 1 rfl (by decide +kernel), by decide +kernel, by decide +kernel, pd_56⟩
theorem kv_X1_ofWish : kVt yX1_ofWish cX1_ofWish 3 (some .int) 2 := ⟨kb_c5 20 rfl (by decide +kernel), kb_c5 18 rfl (by decide +kernel), kb_c5 19 rfl (by decide +kernel), kb_c1 1 rfl (by decide +kernel), by decide +kernel, by decide +kernel, pd_56⟩
theorem kv_X1_open : kVt yX1_open cX1_open 3 (some .int) 2 := ⟨kb_c3 37 rfl (by decide +kernel), kb_c3 35 rfl (by decide +kernel), kb_c3 36 rfl (by decide +kernel), kb_c1 1 rfl (by decide +kernel), by decide +kernel, by decide +kernel, pd_56⟩
theorem kv_X1_order : kVt yX1_order cX1_order 3 (some .int) 2 := ⟨kb_c4 175 rfl (by decide +kernel), kb_c4 173 rfl (by decide +kernel), kb_c4 174 rfl (by decide +kernel), kb_c1 1 rfl (by decide +kernel), by decide +kernel, by decide +kernel, pd_56⟩
theorem kv_X1_pick : kVt yX1_pick cX1_pick 6 (some .int) 2 := ⟨kb_c3 10 rfl (by decide +kernel), kb_c3 8 rfl (by decide +kernel), kb_c3 9 rfl (by decide +kernel), kb_c1 1 rfl (by decide +kernel), by decide +kernel, by decide +kernel, pd_69⟩
theorem kv_X1_room : kVt yX1_room cX1_room 2 (some .int) 1 := ⟨kb_c5 41 rfl (by decide +kernel), kb_c5 39 rfl (by decide +kernel), kb_c5 40 rfl (by decide +kernel), kb_c1 1 rfl (by decide +kernel), by decide +kernel, by decide +kernel, pd_11⟩
theorem kv_X1_rooms : kVt yX1_rooms cX1_rooms 1 (some .int) 0 := ⟨kb_c1 186 rfl (by decide +kernel), kb_c1 184 rfl (by decide +kernel), kb_c1 185 rfl (by decide +kernel), kb_c1 1 rfl (by decide +kernel), by decide +kernel, by decide +kernel, pd_2⟩
theorem kv_X1_same : kVt yX1_same cX1_same 4 (some .boolean) 3 := ⟨kb_c4 196 rfl (by decide +kernel), kb_c4 194 rfl (by decide +kernel), kb_c4 195 rfl (by decide +kernel), kb_c1 1 rfl (by decide +kernel), by decide +kernel, by decide +kernel, pd_34⟩
theorem kv_X1_second : kVt yX1_second cX1_second 2 (some .int) 1 := ⟨kb_c3 131 rfl (by decide +kernel), kb_c3 129 rfl (by decide +kernel), kb_c3 130 rfl (by decide +kernel), kb_c1 1 rfl (by decide +kernel), by decide +kernel, by decide +kernel, pd_11⟩
theorem kv_X1_set : kVt yX1_set cX1_set 6 (some .int) 3 := ⟨kb_c2 176 rfl (by decide +kernel), kb_c2 174 rfl (by decide +kernel), kb_c2 175 rfl (by decide +kernel), kb_c1 1 rfl (by decide +kernel), by decide +kernel, by decide +kernel, pd_17⟩
theorem kv_X1_shift : kVt yX1_shift cX1_shift 6 (some .int) 2 := ⟨kb_c3 17 rfl (by decide +kernel), kb_c3 15 rfl (by decide +kernel), kb_c3 16 rfl (by decide +kernel), kb_c1 1 rfl (by decide +kernel), by decide +kernel, by decide +kernel, pd_56⟩
theorem kv_X1_spans : kVt yX1_spans cX1_spans 1 (some .int) 0 := ⟨kb_c1 98 rfl (by decide +kernel), kb_c1 96 rfl (by decide +kernel), kb_c1 97 rfl (by decide +kernel), kb_c1 1 rfl (by decide +kernel), by decide +kernel, by decide +kernel, pd_2⟩
theorem kv_X1_stretch : kVt yX1_stretch cX1_stretch 4 (some .int) 3 := ⟨kb_c3 89 rfl (by decide +kernel), kb_c3 87 rfl (by decide +kernel), kb_c3 88 rfl (by decide +kernel), kb_c1 1 rfl (by decide +kernel), by decide +kernel, by decide +kernel, pd_17⟩
theorem kv_X1_swap : kVt yX1_swap cX1_swap 6 (some .int) 2 := ⟨kb_c3 3 rfl (by decide +kernel), kb_c3 1 rfl (by decide +kernel), kb_c3 2 rfl (by decide +kernel), kb_c1 1 rfl (by decide +kernel), by decide +kernel, by decide +kernel, pd_56⟩
theorem kv_X1_text : kVt yX1_text cX1_text 3 (some (.object "java/lang/String")) 1 := ⟨kb_c3 145 rfl (by decide +kernel), kb_c3 143 rfl (by decide +kernel), kb_c3 144 rfl (by decide +kernel), kb_c1 1 rfl (by decide +kernel), by decide +kernel, by decide +kernel, pd_70⟩
theorem kv_X1_unbook : kVt yX1_unbook cX1_unbook 2 (some .int) 1 := ⟨kb_c3 55 rfl (by decide +kernel), kb_c3 53 rfl (by decide +kernel), kb_c3 54 rfl (by decide +kernel), kb_c1 1 rfl (by decide +kernel), by decide +kernel, by decide +kernel, pd_11⟩
theorem kv_X1_unwish : kVt yX1_unwish cX1_unwish 2 (some .int) 1 := ⟨kb_c3 117 rfl (by decide +kernel), kb_c3 115 rfl (by decide +kernel), kb_c3 116 rfl (by decide +kernel), kb_c1 1 rfl (by decide +kernel), by decide +kernel, by decide +kernel, pd_11⟩
theorem kv_X1_wish : kVt yX1_wish cX1_wish 3 (some .int) 2 := ⟨kb_c3 110 rfl (by decide +kernel), kb_c3 108 rfl (by decide +kernel), kb_c3 109 rfl (by decide +kernel), kb_c1 1 rfl (by decide +kernel), by decide +kernel, by decide +kernel, pd_56⟩
theorem kv_X1_wishes : kVt yX1_wishes cX1_wishes 1 (some .int) 0 := ⟨kb_c1 166 rfl (by decide +kernel), kb_c1 164 rfl (by decide +kernel), kb_c1 165 rfl (by decide +kernel), kb_c1 1 rfl (by decide +kernel), by decide +kernel, by decide +kernel, pd_2⟩
theorem kv_X3_apart : kVt yX3_apart cX3_apart 4 (some .int) 3 := ⟨kb_c6 60 rfl (by decide +kernel), kb_c6 58 rfl (by decide +kernel), kb_c6 59 rfl (by decide +kernel), kb_c1 3 rfl (by decide +kernel), by decide +kernel, by decide +kernel, pd_17⟩
theorem kv_X3_book : kVt yX3_book cX3_book 4 (some .int) 3 := ⟨kb_c5 183 rfl (by decide +kernel), kb_c5 181 rfl (by decide +kernel), kb_c5 182 rfl (by decide +kernel), kb_c1 3 rfl (by decide +kernel), by decide +kernel, by decide +kernel, pd_66⟩
theorem kv_X3_chosen : kVt yX3_chosen cX3_chosen 1 (some .int) 0 := ⟨kb_c6 158 rfl (by decide +kernel), kb_c6 156 rfl (by decide +kernel), kb_c6 157 rfl (by decide +kernel), kb_c1 3 rfl (by decide +kernel), by decide +kernel, by decide +kernel, pd_2⟩
theorem kv_X3_copy : kVt yX3_copy cX3_copy 4 (some .int) 2 := ⟨kb_c5 153 rfl (by decide +kernel), kb_c5 151 rfl (by decide +kernel), kb_c5 152 rfl (by decide +kernel), kb_c1 3 rfl (by decide +kernel), by decide +kernel, by decide +kernel, pd_56⟩
theorem kv_X3_digest : kVt yX3_digest cX3_digest 5 (some .long) 0 := ⟨kb_c6 217 rfl (by decide +kernel), kb_c6 215 rfl (by decide +kernel), kb_c6 216 rfl (by decide +kernel), kb_c1 3 rfl (by decide +kernel), by decide +kernel, by decide +kernel, pd_32⟩
theorem kv_X3_empty : kVt yX3_empty cX3_empty 2 (some .int) 0 := ⟨kb_c5 214 rfl (by decide +kernel), kb_c5 212 rfl (by decide +kernel), kb_c5 213 rfl (by decide +kernel), kb_c1 3 rfl (by decide +kernel), by decide +kernel, by decide +kernel, pd_2⟩
theorem kv_X3_fit : kVt yX3_fit cX3_fit 13 (some .int) 4 := ⟨kb_c5 229 rfl (by decide +kernel), kb_c5 227 rfl (by decide +kernel), kb_c5 228 rfl (by decide +kernel), kb_c1 3 rfl (by decide +kernel), by decide +kernel, by decide +kernel, pd_67⟩
theorem kv_X3_go : kVt yX3_go cX3_go 7 (some .int) 4 := ⟨kb_c5 139 rfl (by decide +kernel), kb_c5 137 rfl (by decide +kernel), kb_c5 138 rfl (by decide +kernel), kb_c1 3 rfl (by decide +kernel), by decide +kernel, by decide +kernel, pd_68⟩
theorem kv_X3_grant : kVt yX3_grant cX3_grant 3 (some .int) 1 := ⟨kb_c6 14 rfl (by decide +kernel), kb_c6 12 rfl (by decide +kernel), kb_c6 13 rfl (by decide +kernel), kb_c1 3 rfl (by decide +kernel), by decide +kernel, by decide +kernel, pd_11⟩
theorem kv_X3_isAfter : kVt yX3_isAfter cX3_isAfter 3 (some .boolean) 2 := ⟨kb_c6 52 rfl (by decide +kernel), kb_c6 50 rfl (by decide +kernel), kb_c6 51 rfl (by decide +kernel), kb_c1 3 rfl (by decide +kernel), by decide +kernel, by decide +kernel, pd_22⟩
theorem kv_X3_isApart : kVt yX3_isApart cX3_isApart 2 (some .boolean) 1 := ⟨kb_c6 146 rfl (by decide +kernel), kb_c6 144 rfl (by decide +kernel), kb_c6 145 rfl (by decide +kernel), kb_c1 3 rfl (by decide +kernel), by decide +kernel, by decide +kernel, pd_25⟩
theorem kv_X3_isBefore : kVt yX3_isBefore cX3_isBefore 3 (some .boolean) 2 := ⟨kb_c6 48 rfl (by decide +kernel), kb_c6 46 rfl (by decide +kernel), kb_c6 47 rfl (by decide +kernel), kb_c1 3 rfl (by decide +kernel), by decide +kernel, by decide +kernel, pd_22⟩
theorem kv_X3_isFree : kVt yX3_isFree cX3_isFree 3 (some .boolean) 2 := ⟨kb_c6 103 rfl (by decide +kernel), kb_c6 101 rfl (by decide +kernel), kb_c6 102 rfl (by decide +kernel), kb_c1 3 rfl (by decide +kernel), by decide +kernel, by decide +kernel, pd_22⟩
theorem kv_X3_knock : kVt yX3_knock cX3_knock 1 (some .int) 0 := ⟨kb_c6 205 rfl (by decide +kernel), kb_c6 203 rfl (by decide +kernel), kb_c6 204 rfl (by decide +kernel), kb_c1 3 rfl (by decide +kernel), by decide +kernel, by decide +kernel, pd_2⟩
theorem kv_X3_meets : kVt yX3_meets cX3_meets 3 (some .boolean) 2 := ⟨kb_c6 79 rfl (by decide +kernel), kb_c6 77 rfl (by decide +kernel), kb_c6 78 rfl (by decide +kernel), kb_c1 3 rfl (by decide +kernel), by decide +kernel, by decide +kernel, pd_22⟩
theorem kv_X3_most : kVt yX3_most cX3_most 2 (some .int) 1 := ⟨kb_c6 166 rfl (by decide +kernel), kb_c6 164 rfl (by decide +kernel), kb_c6 165 rfl (by decide +kernel), kb_c1 3 rfl (by decide +kernel), by decide +kernel, by decide +kernel, pd_11⟩
theorem kv_X3_move : kVt yX3_move cX3_move 8 (some .int) 3 := ⟨kb_c5 218 rfl (by decide +kernel), kb_c5 216 rfl (by decide +kernel), kb_c5 217 rfl (by decide +kernel), kb_c1 3 rfl (by decide +kernel), by decide +kernel, by decide +kernel, pd_17⟩
theorem kv_X3_ofSpan : kVt yX3_ofSpan cX3_ofSpan 3 (some .int) 2 := ⟨kb_c6 75 rfl (by decide +kernel), kb_c6 73 rfl (by decide +kernel), kb_c6 74 rfl (by decide +kernel), kb_c1 3 rfl (by decide +kernel), by decide +kernel, by decide +kernel, pd_56⟩
theorem kv_X3_ofWish : kVt yX3_ofWish cX3_ofWish 3 (some .int) 2 := ⟨kb_c6 142 rfl (by decide +kernel), kb_c6 140 rfl (by decide +kernel), kb_c6 141 rfl (by decide +kernel), kb_c1 3 rfl (by decide +kernel), by decide +kernel, by decide +kernel, pd_56⟩
theorem kv_X3_open : kVt yX3_open cX3_open 4 (some .int) 2 := ⟨kb_c5 179 rfl (by decide +kernel), kb_c5 177 rfl (by decide +kernel), kb_c5 178 rfl (by decide +kernel), kb_c1 3 rfl (by decide +kernel), by decide +kernel, by decide +kernel, pd_56⟩
theorem kv_X3_order : kVt yX3_order cX3_order 3 (some .int) 2 := ⟨kb_c6 40 rfl (by decide +kernel), kb_c6 38 rfl (by decide +kernel), kb_c6 39 rfl (by decide +kernel), kb_c1 3 rfl (by decide +kernel), by decide +kernel, by decide +kernel, pd_56⟩
theorem kv_X3_pick : kVt yX3_pick cX3_pick 5 (some .int) 2 := ⟨kb_c5 165 rfl (by decide +kernel), kb_c5 163 rfl (by decide +kernel), kb_c5 164 rfl (by decide +kernel), kb_c1 3 rfl (by decide +kernel), by decide +kernel, by decide +kernel, pd_69⟩
theorem kv_X3_room : kVt yX3_room cX3_room 2 (some .int) 1 := ⟨kb_c6 181 rfl (by decide +kernel), kb_c6 179 rfl (by decide +kernel), kb_c6 180 rfl (by decide +kernel), kb_c1 3 rfl (by decide +kernel), by decide +kernel, by decide +kernel, pd_11⟩
theorem kv_X3_rooms : kVt yX3_rooms cX3_rooms 1 (some .int) 0 := ⟨kb_c6 193 rfl (by decide +kernel), kb_c6 191 rfl (by decide +kernel), kb_c6 192 rfl (by decide +kernel), kb_c1 3 rfl (by decide +kernel), by decide +kernel, by decide +kernel, pd_2⟩
theorem kv_X3_same : kVt yX3_same cX3_same 4 (some .boolean) 3 := ⟨kb_c6 56 rfl (by decide +kernel), kb_c6 54 rfl (by decide +kernel), kb_c6 55 rfl (by decide +kernel), kb_c1 3 rfl (by decide +kernel), by decide +kernel, by decide +kernel, pd_34⟩
theorem kv_X3_set : kVt yX3_set cX3_set 6 (some .int) 3 := ⟨kb_c5 106 rfl (by decide +kernel), kb_c5 104 rfl (by decide +kernel), kb_c5 105 rfl (by decide +kernel), kb_c1 3 rfl (by decide +kernel), by decide +kernel, by decide +kernel, pd_17⟩
theorem kv_X3_shift : kVt yX3_shift cX3_shift 6 (some .int) 2 := ⟨kb_c5 169 rfl (by decide +kernel), kb_c5 167 rfl (by decide +kernel), kb_c5 168 rfl (by decide +kernel), kb_c1 3 rfl (by decide +kernel), by decide +kernel, by decide +kernel, pd_56⟩
theorem kv_X3_spans : kVt yX3_spans cX3_spans 1 (some .int) 0 := ⟨kb_c6 71 rfl (by decide +kernel), kb_c6 69 rfl (by decide +kernel), kb_c6 70 rfl (by decide +kernel), kb_c1 3 rfl (by decide +kernel), by decide +kernel, by decide +kernel, pd_2⟩
theorem kv_X3_stretch : kVt yX3_stretch cX3_stretch 6 (some .int) 3 := ⟨kb_c5 225 rfl (by decide +kernel), kb_c5 223 rfl (by decide +kernel), kb_c5 224 rfl (by decide +kernel), kb_c1 3 rfl (by decide +kernel), by decide +kernel, by decide +kernel, pd_17⟩
theorem kv_X3_swap : kVt yX3_swap cX3_swap 5 (some .int) 2 := ⟨kb_c5 161 rfl (by decide +kernel), kb_c5 159 rfl (by decide +kernel), kb_c5 160 rfl (by decide +kernel), kb_c1 3 rfl (by decide +kernel), by decide +kernel, by decide +kernel, pd_56⟩
theorem kv_X3_text : kVt yX3_text cX3_text 2 (some (.object "java/lang/String")) 1 := ⟨kb_c6 29 rfl (by decide +kernel), kb_c6 27 rfl (by decide +kernel), kb_c6 28 rfl (by decide +kernel), kb_c1 3 rfl (by decide +kernel), by decide +kernel, by decide +kernel, pd_70⟩
theorem kv_X3_thrown : kVt yX3_thrown cX3_thrown 1 (some .int) 0 := ⟨kb_c5 102 rfl (by decide +kernel), kb_c5 100 rfl (by decide +kernel), kb_c5 101 rfl (by decide +kernel), kb_c1 3 rfl (by decide +kernel), by decide +kernel, by decide +kernel, pd_2⟩
theorem kv_X3_unbook : kVt yX3_unbook cX3_unbook 3 (some .int) 1 := ⟨kb_c5 206 rfl (by decide +kernel), kb_c5 204 rfl (by decide +kernel), kb_c5 205 rfl (by decide +kernel), kb_c1 3 rfl (by decide +kernel), by decide +kernel, by decide +kernel, pd_11⟩
theorem kv_X3_unwish : kVt yX3_unwish cX3_unwish 2 (some .int) 1 := ⟨kb_c6 2 rfl (by decide +kernel), kb_c6 0 rfl (by decide +kernel), kb_c6 1 rfl (by decide +kernel), kb_c1 3 rfl (by decide +kernel), by decide +kernel, by decide +kernel, pd_11⟩
theorem kv_X3_wish : kVt yX3_wish cX3_wish 3 (some .int) 2 := ⟨kb_c5 238 rfl (by decide +kernel), kb_c5 236 rfl (by decide +kernel), kb_c5 237 rfl (by decide +kernel), kb_c1 3 rfl (by decide +kernel), by decide +kernel, by decide +kernel, pd_56⟩
theorem kv_X3_wishes : kVt yX3_wishes cX3_wishes 1 (some .int) 0 := ⟨kb_c6 138 rfl (by decide +kernel), kb_c6 136 rfl (by decide +kernel), kb_c6 137 rfl (by decide +kernel), kb_c1 3 rfl (by decide +kernel), by decide +kernel, by decide +kernel, pd_2⟩
