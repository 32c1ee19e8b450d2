/-! a call reaches a piece of the world: how the pieces lie (no list of cells is compared where the pieces are whole) -/
theorem kST_app {α : Type} : ∀ (m : List Bool) (a : List α) (n : List Bool) (b : List α), kLn m a = true → kST (m ++ n) (a ++ b) = kST m a ++ kST n b := by
  intro m
  induction m with
  | nil =>
    intro a n b h
    cases a with
    | nil => rfl
    | cons x a => exact absurd h (by simp [kLn])
  | cons z m ih =>
    intro a n b h
    cases a with
    | nil => exact absurd h (by simp [kLn])
    | cons x a =>
      have h' : kLn m a = true := h
      have e := ih a n b h'
      cases z with
      | true =>
        show x :: kST (m ++ n) (a ++ b) = x :: (kST m a ++ kST n b)
        rw [e]
      | false => exact e
theorem kLn_app {α : Type} : ∀ {m : List Bool} {a : List α} {n : List Bool} {b : List α}, kLn m a = true → kLn n b = true → kLn (m ++ n) (a ++ b) = true := by
  intro m
  induction m with
  | nil =>
    intro a n b h g
    cases a with
    | nil => exact g
    | cons x a => exact absurd h (by simp [kLn])
  | cons z m ih =>
    intro a n b h g
    cases a with
    | nil => exact absurd h (by simp [kLn])
    | cons x a =>
      have h' : kLn m a = true := h
      exact ih (a := a) h' g
theorem kLn_not {α : Type} : ∀ {m : List Bool} {a : List α}, kLn m a = true → kLn (m.map (!·)) a = true := by
  intro m
  induction m with
  | nil => intro a h; exact h
  | cons z m ih =>
    intro a h
    cases a with
    | nil => exact absurd h (by simp [kLn])
    | cons x a =>
      have h' : kLn m a = true := h
      exact ih (a := a) h'
theorem kLn_rep {α : Type} (z : Bool) : ∀ (l : List α), kLn (List.replicate l.length z) l = true := by
  intro l
  induction l with
  | nil => rfl
  | cons x l ih => exact ih
theorem kST_t {α : Type} : ∀ (l : List α), kST (List.replicate l.length true) l = l := by
  intro l
  induction l with
  | nil => rfl
  | cons x l ih =>
    show x :: kST (List.replicate l.length true) l = x :: l
    rw [ih]
theorem kST_f {α : Type} : ∀ (l : List α), kST (List.replicate l.length false) l = [] := by
  intro l
  induction l with
  | nil => rfl
  | cons x l ih => exact ih
def kFr (wc ws w1 ws' : va_W) : Prop := ∃ m : List Bool, kLn m ws = true ∧ kLn m ws' = true ∧ kST m ws = wc ∧ kST m ws' = w1 ∧ kST (m.map (!·)) ws' = kST (m.map (!·)) ws ∧ ws'.map (·.1) = ws.map (·.1)
theorem kFr_k {wc ws w1 ws' : va_W} (m : List Bool) (h1 : kLn m ws = true) (h2 : kLn m ws' = true) (h3 : kST m ws = wc) (h4 : kST m ws' = w1) (h5 : kST (m.map (!·)) ws' = kST (m.map (!·)) ws) (h6 : ws'.map (·.1) = ws.map (·.1)) : kFr wc ws w1 ws' := ⟨m, h1, h2, h3, h4, h5, h6⟩
theorem kFr_n {ws : va_W} : kFr [] ws [] ws := ⟨List.replicate ws.length false, kLn_rep _ _, kLn_rep _ _, kST_f _, kST_f _, rfl, rfl⟩
theorem kFr_a {wc w1 : va_W} (h : w1.map (·.1) = wc.map (·.1)) : kFr wc wc w1 w1 := by
  have e : wc.length = w1.length := by
    have := congrArg List.length h
    rw [List.length_map, List.length_map] at this
    exact this.symm
  have f1 := kST_f w1
  have t1 := kST_t w1
  have l1 := kLn_rep true w1
  rw [← e] at f1 t1 l1
  refine ⟨List.replicate wc.length true, kLn_rep _ _, l1, kST_t _, t1, ?_, h⟩
  rw [List.map_replicate]
  exact f1.trans (kST_f wc).symm
theorem kFr_2 {wc a w1 a' vc b v1 b' : va_W} (f : kFr wc a w1 a') (g : kFr vc b v1 b') : kFr (wc ++ vc) (a ++ b) (w1 ++ v1) (a' ++ b') := by
  obtain ⟨m, h1, h2, h3, h4, h5, h6⟩ := f
  obtain ⟨n, g1, g2, g3, g4, g5, g6⟩ := g
  refine ⟨m ++ n, kLn_app h1 g1, kLn_app h2 g2, ?_, ?_, ?_, ?_⟩
  · rw [kST_app _ _ _ _ h1, h3, g3]
  · rw [kST_app _ _ _ _ h2, h4, g4]
  · rw [List.map_append, kST_app _ _ _ _ (kLn_not h2), kST_app _ _ _ _ (kLn_not h1), h5, g5]
  · rw [List.map_append, List.map_append, h6, g6]
theorem kFr_l {wc a w1 a' b : va_W} (f : kFr wc a w1 a') : kFr wc (a ++ b) w1 (a' ++ b) := by
  have h := kFr_2 f (kFr_n (ws := b))
  rw [List.append_nil, List.append_nil] at h
  exact h
theorem kFr_r {wc a w1 b b' : va_W} (f : kFr wc b w1 b') : kFr wc (a ++ b) w1 (a ++ b') := kFr_2 (kFr_n (ws := a)) f
theorem kFr_o {o : Nat} {e e' : va_E} : kFr [(o, e)] [(o, e)] [(o, e')] [(o, e')] := kFr_a rfl
section KFA
variable {cI cJ cZ : ClassId} {a b : Nat → Nat} {h0 h1 h2 h3 : Nat} {ce sb se wb we fb fe ce' sb' se' wb' we' fb' fe' rb re rb' re' mce mbe men mwb mwe mce' mbe' men' mwb' mwe' : Nat → Int64} {so wo fo rm so' wo' fo' rm' ro ro' mov mov' : Nat → Int32} {fr un fr' un' mfr mun mfr' mun' : Int64} {sc wc fc ac rf kn sc' wc' fc' ac' rf' kn' rc rc' msp mwi mac mre mkn mth msp' mwi' mac' mre' mkn' mth' : Int32}
theorem kFr_SB : kFr (wSB cI cJ cZ a ce fr un sb se so sc wb we wo wc fb fe fo fc rm ac rf kn) (wSB cI cJ cZ a ce fr un sb se so sc wb we wo wc fb fe fo fc rm ac rf kn) (wSB cI cJ cZ a ce' fr' un' sb' se' so' sc' wb' we' wo' wc' fb' fe' fo' fc' rm' ac' rf' kn') (wSB cI cJ cZ a ce' fr' un' sb' se' so' sc' wb' we' wo' wc' fb' fe' fo' fc' rm' ac' rf' kn') := kFr_a rfl
theorem kFr_Mo : kFr (wMo cJ cZ b mce mfr mun mbe men mov msp mwb mwe mwi mac mre mkn mth) (wMo cJ cZ b mce mfr mun mbe men mov msp mwb mwe mwi mac mre mkn mth) (wMo cJ cZ b mce' mfr' mun' mbe' men' mov' msp' mwb' mwe' mwi' mac' mre' mkn' mth') (wMo cJ cZ b mce' mfr' mun' mbe' men' mov' msp' mwb' mwe' mwi' mac' mre' mkn' mth') := kFr_a rfl
theorem kFr_Row : kFr (wRow cJ cZ h0 h1 h2 h3 rb re ro rc) (wRow cJ cZ h0 h1 h2 h3 rb re ro rc) (wRow cJ cZ h0 h1 h2 h3 rb' re' ro' rc') (wRow cJ cZ h0 h1 h2 h3 rb' re' ro' rc') := kFr_a rfl
theorem kFr_SBs : kFr (wRow cJ cZ (a 2) (a 3) (a 4) (a 5) sb se so sc) (wSB cI cJ cZ a ce fr un sb se so sc wb we wo wc fb fe fo fc rm ac rf kn) (wRow cJ cZ (a 2) (a 3) (a 4) (a 5) sb' se' so' sc') (wSB cI cJ cZ a ce fr un sb' se' so' sc' wb we wo wc fb fe fo fc rm ac rf kn) := kFr_k [false, false, true, true, true, true, false, false, false, false, false, false, false, false, false] rfl rfl rfl rfl rfl rfl
theorem kFr_SBw : kFr (wRow cJ cZ (a 6) (a 7) (a 8) (a 9) wb we wo wc) (wSB cI cJ cZ a ce fr un sb se so sc wb we wo wc fb fe fo fc rm ac rf kn) (wRow cJ cZ (a 6) (a 7) (a 8) (a 9) wb' we' wo' wc') (wSB cI cJ cZ a ce fr un sb se so sc wb' we' wo' wc' fb fe fo fc rm ac rf kn) := kFr_k [false, false, false, false, false, false, true, true, true, true, false, false, false, false, false] rfl rfl rfl rfl rfl rfl
theorem kFr_SBf : kFr (wRow cJ cZ (a 10) (a 11) (a 12) (a 13) fb fe fo fc) (wSB cI cJ cZ a ce fr un sb se so sc wb we wo wc fb fe fo fc rm ac rf kn) (wRow cJ cZ (a 10) (a 11) (a 12) (a 13) fb' fe' fo' fc') (wSB cI cJ cZ a ce fr un sb se so sc wb we wo wc fb' fe' fo' fc' rm ac rf kn) := kFr_k [false, false, false, false, false, false, false, false, false, false, true, true, true, true, false] rfl rfl rfl rfl rfl rfl
end KFA
theorem kpVXq {s : State} {H : Heap} {locs : List Loc} {C : String} {b : Addr} {As : List Value} {D : va_G} {tys : List (ClassId × FieldType)} {wc : va_W} {A : Nat → Prop} (hP : va_P D vwCl wc H) (hK : va_K D vwCl tys s) (hD : va_D A wc) (hG : kG s) (hZ : kZ A s s.heap) (hS : va_S A s.heap H locs) (hF : ∀ q, va_A wc H.size q → A q) (hr : ∃ cellB : Cell, H[b]? = some cellB ∧ cellB.vm.isStatics = false ∧ s.vm.findClass C = some cellB.cls) : PreV s H C b (kPreX D tys (.ref b :: As) H.size wc) As :=
  ⟨kPreX_blind, hr, fun U hU hW => ⟨rfl, by rw [hU], by rw [hU]; exact hP, va_K.moved hW.alike hK, hD.weaken (fun _ _ _ _ => trivial), kG_warm hW hG, by rw [hU]; exact ((hZ.kept hS.2.1).narrow hF).warm hW⟩⟩
theorem kpSXq {s : State} {H : Heap} {locs : List Loc} {As : List Value} {D : va_G} {tys : List (ClassId × FieldType)} {wc : va_W} {A : Nat → Prop} (hP : va_P D vwCl wc H) (hK : va_K D vwCl tys s) (hD : va_D A wc) (hG : kG s) (hZ : kZ A s s.heap) (hS : va_S A s.heap H locs) (hF : ∀ q, va_A wc H.size q → A q) : PreS s H (kPreX D tys As H.size wc) As :=
  ⟨kPreX_blind, fun U hU hW => ⟨rfl, by rw [hU], by rw [hU]; exact hP, va_K.moved hW.alike hK, hD.weaken (fun _ _ _ _ => trivial), kG_warm hW hG, by rw [hU]; exact ((hZ.kept hS.2.1).narrow hF).warm hW⟩⟩
section KQ
variable {p : Program} {l : Launch} {e0 : Env} {R : Room} {s : State} {m : MethodId} {args : Array Value} {below : List Frame} {meth : Method} {c : Code} {H : Heap} {locs : List Loc} {cells slots : Nat} {Q : State → Prop}
variable {cc : ByteArray} {pc : Nat} {ls : Array Slot} {rest st0 : List Value} {D : va_G} {A A0 : Nat → Prop} {ws wc w1 : va_W} {H0 : Heap} {a : Array Value} {mc ms : Nat}
theorem kq_i {ty : FieldType} {r : Int32} (ws' : va_W) (hr : va_P D vwCl wc H → va_D A0 wc → (∀ q, va_A wc H.size q → A0 q) → va_Run p l e0 R s m args below meth c H locs cells slots mc ms (F0 m pc ls st0) rest (kI D ty r w1 (va_A wc H.size) a) (va_A wc H.size)) (hP : va_P D vwCl ws H) (hD : va_D A0 ws) (hS : va_S A0 H0 H locs) (hA : ∀ q, H0.size ≤ q → A0 q) (f : kFr wc ws w1 ws')
    (kk : ∀ (H1 : Heap) (locs1 : List Loc), va_P D vwCl ws' H1 → va_D A0 ws' → va_S A0 H0 H1 locs1 → narrow ty (.int r) = .int r → W p l e0 R s m args below meth c H1 locs1 (cells + mc) (slots + ms) Q (F0 m (pc + 3) ls (.int r :: rest))) : W p l e0 R s m args below meth c H locs cells slots Q (F0 m pc ls st0) := by
  obtain ⟨n, h1, h2, h3, h4, h5, h6⟩ := f
  exact kcall_i ws' (hr (hP.sub (kIT n 0) (km_f h1 h3)) (hD.sub (kIT n 0) (km_nd n) (km_T h1 h3)) (va_free hD hS hA (kIT n 0) (km_T h1 h3))) hP hD hS hA (kIT n 0) (kIT (n.map (!·)) 0) (km_T h1 h3) (km_T h2 h4) (kST (n.map (!·)) ws) (km_T (kLn_not h1) rfl) (km_T (kLn_not h2) h5) (km_cov h2 rfl) (km_dis rfl) h6 kk
theorem kq_l {r : Int64} (ws' : va_W) (hr : va_P D vwCl wc H → va_D A0 wc → (∀ q, va_A wc H.size q → A0 q) → va_Run p l e0 R s m args below meth c H locs cells slots mc ms (F0 m pc ls st0) rest (kL D r w1 (va_A wc H.size) a) (va_A wc H.size)) (hP : va_P D vwCl ws H) (hD : va_D A0 ws) (hS : va_S A0 H0 H locs) (hA : ∀ q, H0.size ≤ q → A0 q) (f : kFr wc ws w1 ws')
    (kk : ∀ (H1 : Heap) (locs1 : List Loc), va_P D vwCl ws' H1 → va_D A0 ws' → va_S A0 H0 H1 locs1 → W p l e0 R s m args below meth c H1 locs1 (cells + mc) (slots + ms) Q (F0 m (pc + 3) ls (.long r :: rest))) : W p l e0 R s m args below meth c H locs cells slots Q (F0 m pc ls st0) := by
  obtain ⟨n, h1, h2, h3, h4, h5, h6⟩ := f
  exact kcall_l ws' (hr (hP.sub (kIT n 0) (km_f h1 h3)) (hD.sub (kIT n 0) (km_nd n) (km_T h1 h3)) (va_free hD hS hA (kIT n 0) (km_T h1 h3))) hP hD hS hA (kIT n 0) (kIT (n.map (!·)) 0) (km_T h1 h3) (km_T h2 h4) (kST (n.map (!·)) ws) (km_T (kLn_not h1) rfl) (km_T (kLn_not h2) h5) (km_cov h2 rfl) (km_dis rfl) h6 kk
theorem kq_v (ws' : va_W) (hr : va_P D vwCl wc H → va_D A0 wc → (∀ q, va_A wc H.size q → A0 q) → va_Run p l e0 R s m args below meth c H locs cells slots mc ms (F0 m pc ls st0) rest (kV D w1 (va_A wc H.size) a) (va_A wc H.size)) (hP : va_P D vwCl ws H) (hD : va_D A0 ws) (hS : va_S A0 H0 H locs) (hA : ∀ q, H0.size ≤ q → A0 q) (f : kFr wc ws w1 ws')
    (kk : ∀ (H1 : Heap) (locs1 : List Loc), va_P D vwCl ws' H1 → va_D A0 ws' → va_S A0 H0 H1 locs1 → W p l e0 R s m args below meth c H1 locs1 (cells + mc) (slots + ms) Q (F0 m (pc + 3) ls rest)) : W p l e0 R s m args below meth c H locs cells slots Q (F0 m pc ls st0) := by
  obtain ⟨n, h1, h2, h3, h4, h5, h6⟩ := f
  exact kcall_v ws' (hr (hP.sub (kIT n 0) (km_f h1 h3)) (hD.sub (kIT n 0) (km_nd n) (km_T h1 h3)) (va_free hD hS hA (kIT n 0) (km_T h1 h3))) hP hD hS hA (kIT n 0) (kIT (n.map (!·)) 0) (km_T h1 h3) (km_T h2 h4) (kST (n.map (!·)) ws) (km_T (kLn_not h1) rfl) (km_T (kLn_not h2) h5) (km_cov h2 rfl) (km_dis rfl) h6 kk
theorem kq_x {k MC MS : Nat} (ws' : va_W) (hr : va_P D vwCl wc H → va_D A0 wc → (∀ q, va_A wc H.size q → A0 q) → vx_Run p l e0 R s m args below meth c H locs cells slots mc ms (F0 m pc ls st0) rest (kNo a) (kX D k w1 (va_A wc H.size)) (va_A wc H.size)) (hP : va_P D vwCl ws H) (hD : va_D A0 ws) (hS : va_S A0 s.heap H locs) (hA : ∀ q, s.heap.size ≤ q → A0 q) (f : kFr wc ws w1 ws')
    (hout : ∀ x ∈ c.exceptionTable.toList, False) (hlocks : meth.locks = false) (hc : cells + mc ≤ MC) (hs : slots + ms ≤ MS) : W p l e0 R s m args below meth c H locs cells slots (vx_MQ below kNo (kX D k ws' A0) args s MC MS A0) (F0 m pc ls st0) := by
  obtain ⟨n, h1, h2, h3, h4, h5, h6⟩ := f
  exact kcall_x ws' (hr (hP.sub (kIT n 0) (km_f h1 h3)) (hD.sub (kIT n 0) (km_nd n) (km_T h1 h3)) (va_free hD hS hA (kIT n 0) (km_T h1 h3))) hP hD hS hA (kIT n 0) (kIT (n.map (!·)) 0) (km_T h1 h3) (km_T h2 h4) (kST (n.map (!·)) ws) (km_T (kLn_not h1) rfl) (km_T (kLn_not h2) h5) (km_cov h2 rfl) (km_dis rfl) h6 hout hlocks hc hs
end KQ
/-! a method's start, in one row: its world's places are forgotten (A), its locals are those of its arguments -/
theorem kmet {l : Launch} {y : MethodName} {ws ws' : List Cond} {rm : Room} {D : va_G} {tys : List (ClassId × FieldType)} {av : List Value} {sz mc ms : Nat} {w : va_W} {cc : ByteArray} {maxL : Nat} {ret : Option FieldType} (G : (Nat → Prop) → Array Value → State → Outcome → State → Prop) (own : String) (L : List (Nat × Value)) (hy : plainName y.cls = true) (hw : ws = Cond.code y cc maxL ret :: ws') (ho : y.cls = own) (hav : (lg_sl av).length ≤ maxL) (hL : lv_args 0 av = L)
    (body : ∀ (p : Program) (e : Env) (s : State) (m : MethodId) (below : List Frame) (meth : Method) (c : Code) (A : Nat → Prop) (ls : Array Slot), p.tables.exec = Jvm.exec → c.code = cc → meth.sig.returnType = ret → c.maxLocals = maxL → (∀ x ∈ ws, x.before av.toArray s = true) → s.vm.findClass own = some m.cls → meth.locks = false → va_P D vwCl w s.heap → va_K D vwCl tys s → kG s → va_D A w → (∀ q : Nat, s.heap.size ≤ q → A q) → va_S A s.heap s.heap [] → lv_has ls maxL L →
      W p l e (headSpec ws rm).room s m av.toArray below meth c s.heap [] 0 0 (MQ below (G A) av.toArray s mc ms A) (F0 m 0 ls [])) : Met l y ws rm (kPre D tys av sz w) (G (va_A w sz)) mc ms (va_A w sz) := by
  refine Met.ofW (cc := cc) (maxL := maxL) (ret := ret) hy hw ?_
  intro p e s m args below meth c s₁ B hml hv
  obtain ⟨rfl, hsz, hP, hK, hD0, hG⟩ := hv
  subst hsz
  have hown : s.vm.findClass own = some m.cls := by rw [← ho]; exact findClass_of_methodNamed B.named
  have hl := lv_entry av hav
  rw [hL] at hl
  rw [lg_entry_eq]
  exact body p e s m below meth c (va_A w s.heap.size) _ B.exec B.bytes B.returns hml (atoms_spec (ws := ws) B.pre) hown B.notSynchronized hP hK hG hD0.self (fun q h => Or.inr h) va_S.rf hl
theorem kmet_i {l : Launch} {y : MethodName} {ws ws' : List Cond} {rm : Room} {D : va_G} {tys : List (ClassId × FieldType)} {av : List Value} {sz mc ms : Nat} {w w1 : va_W} {cc : ByteArray} {maxL : Nat} {ret : Option FieldType} {ty : FieldType} {r : Int32} (own : String) (L : List (Nat × Value)) (hy : plainName y.cls = true) (hw : ws = Cond.code y cc maxL ret :: ws') (ho : y.cls = own) (hav : (lg_sl av).length ≤ maxL) (hL : lv_args 0 av = L)
    (body : ∀ (p : Program) (e : Env) (s : State) (m : MethodId) (below : List Frame) (meth : Method) (c : Code) (A : Nat → Prop) (ls : Array Slot), p.tables.exec = Jvm.exec → c.code = cc → meth.sig.returnType = ret → c.maxLocals = maxL → (∀ x ∈ ws, x.before av.toArray s = true) → s.vm.findClass own = some m.cls → meth.locks = false → va_P D vwCl w s.heap → va_K D vwCl tys s → kG s → va_D A w → (∀ q : Nat, s.heap.size ≤ q → A q) → va_S A s.heap s.heap [] → lv_has ls maxL L →
      W p l e (headSpec ws rm).room s m av.toArray below meth c s.heap [] 0 0 (MQ below (kI D ty r w1 A) av.toArray s mc ms A) (F0 m 0 ls [])) : Met l y ws rm (kPre D tys av sz w) (kI D ty r w1 (va_A w sz)) mc ms (va_A w sz) := kmet (fun A => kI D ty r w1 A) own L hy hw ho hav hL body
theorem kmet_l {l : Launch} {y : MethodName} {ws ws' : List Cond} {rm : Room} {D : va_G} {tys : List (ClassId × FieldType)} {av : List Value} {sz mc ms : Nat} {w w1 : va_W} {cc : ByteArray} {maxL : Nat} {ret : Option FieldType} {r : Int64} (own : String) (L : List (Nat × Value)) (hy : plainName y.cls = true) (hw : ws = Cond.code y cc maxL ret :: ws') (ho : y.cls = own) (hav : (lg_sl av).length ≤ maxL) (hL : lv_args 0 av = L)
    (body : ∀ (p : Program) (e : Env) (s : State) (m : MethodId) (below : List Frame) (meth : Method) (c : Code) (A : Nat → Prop) (ls : Array Slot), p.tables.exec = Jvm.exec → c.code = cc → meth.sig.returnType = ret → c.maxLocals = maxL → (∀ x ∈ ws, x.before av.toArray s = true) → s.vm.findClass own = some m.cls → meth.locks = false → va_P D vwCl w s.heap → va_K D vwCl tys s → kG s → va_D A w → (∀ q : Nat, s.heap.size ≤ q → A q) → va_S A s.heap s.heap [] → lv_has ls maxL L →
      W p l e (headSpec ws rm).room s m av.toArray below meth c s.heap [] 0 0 (MQ below (kL D r w1 A) av.toArray s mc ms A) (F0 m 0 ls [])) : Met l y ws rm (kPre D tys av sz w) (kL D r w1 (va_A w sz)) mc ms (va_A w sz) := kmet (fun A => kL D r w1 A) own L hy hw ho hav hL body
theorem kmet_v {l : Launch} {y : MethodName} {ws ws' : List Cond} {rm : Room} {D : va_G} {tys : List (ClassId × FieldType)} {av : List Value} {sz mc ms : Nat} {w w1 : va_W} {cc : ByteArray} {maxL : Nat} {ret : Option FieldType} (own : String) (L : List (Nat × Value)) (hy : plainName y.cls = true) (hw : ws = Cond.code y cc maxL ret :: ws') (ho : y.cls = own) (hav : (lg_sl av).length ≤ maxL) (hL : lv_args 0 av = L)
    (body : ∀ (p : Program) (e : Env) (s : State) (m : MethodId) (below : List Frame) (meth : Method) (c : Code) (A : Nat → Prop) (ls : Array Slot), p.tables.exec = Jvm.exec → c.code = cc → meth.sig.returnType = ret → c.maxLocals = maxL → (∀ x ∈ ws, x.before av.toArray s = true) → s.vm.findClass own = some m.cls → meth.locks = false → va_P D vwCl w s.heap → va_K D vwCl tys s → kG s → va_D A w → (∀ q : Nat, s.heap.size ≤ q → A q) → va_S A s.heap s.heap [] → lv_has ls maxL L →
      W p l e (headSpec ws rm).room s m av.toArray below meth c s.heap [] 0 0 (MQ below (kV D w1 A) av.toArray s mc ms A) (F0 m 0 ls [])) : Met l y ws rm (kPre D tys av sz w) (kV D w1 (va_A w sz)) mc ms (va_A w sz) := kmet (fun A => kV D w1 A) own L hy hw ho hav hL body
theorem kmet_x {l : Launch} {y : MethodName} {ws ws' : List Cond} {rm : Room} {D : va_G} {tys : List (ClassId × FieldType)} {av : List Value} {sz mc ms k : Nat} {w w1 : va_W} {cc : ByteArray} {maxL : Nat} {ret : Option FieldType} (own : String) (L : List (Nat × Value)) (hy : plainName y.cls = true) (hw : ws = Cond.code y cc maxL ret :: ws') (ho : y.cls = own) (hav : (lg_sl av).length ≤ maxL) (hL : lv_args 0 av = L)
    (body : ∀ (p : Program) (e : Env) (s : State) (m : MethodId) (below : List Frame) (meth : Method) (c : Code) (A : Nat → Prop) (ls : Array Slot), p.tables.exec = Jvm.exec → c.code = cc → meth.sig.returnType = ret → c.maxLocals = maxL → (∀ x ∈ c.exceptionTable.toList, False) → (∀ x ∈ ws, x.before av.toArray s = true) → s.vm.findClass own = some m.cls → meth.locks = false → va_P D vwCl w s.heap → va_K D vwCl tys s → kG s → kZ A s s.heap → va_D A w → (∀ q : Nat, s.heap.size ≤ q → A q) → va_S A s.heap s.heap [] → lv_has ls maxL L →
      W p l e (headSpec ws rm).room s m av.toArray below meth c s.heap [] 0 0 (vx_MQ below kNo (kX D k w1 A) av.toArray s mc ms A) (F0 m 0 ls [])) : vx_Met l y ws rm (kPreX D tys av sz w) kNo (kX D k w1 (va_A w sz)) mc ms (va_A w sz) := by
  refine vx_ofW (cc := cc) (maxL := maxL) (ret := ret) hy hw ?_
  intro p e s m args below meth c s₁ B hml ht hv
  obtain ⟨rfl, hsz, hP, hK, hD0, hG, hZ⟩ := hv
  subst hsz
  have hown : s.vm.findClass own = some m.cls := by rw [← ho]; exact findClass_of_methodNamed B.named
  have hl := lv_entry av hav
  rw [hL] at hl
  rw [lg_entry_eq]
  exact body p e s m below meth c (va_A w s.heap.size) _ B.exec B.bytes B.returns hml ht (atoms_spec (ws := ws) B.pre) hown B.notSynchronized hP hK hG hZ hD0.self (fun q h => Or.inr h) va_S.rf hl
theorem kmet_w {l : Launch} {y : MethodName} {ws ws' : List Cond} {rm : Room} {D : va_G} {tys : List (ClassId × FieldType)} {av : List Value} {sz mc ms : Nat} {w w1 : va_W} {cc : ByteArray} {maxL : Nat} {ret : Option FieldType} {ty : FieldType} {r : Int32} {hh : List (Nat × Nat × Nat × Nat)} (own : String) (L : List (Nat × Value)) (hy : plainName y.cls = true) (hw : ws = Cond.codeWith y cc maxL ret hh :: ws') (ho : y.cls = own) (hav : (lg_sl av).length ≤ maxL) (hL : lv_args 0 av = L)
    (body : ∀ (p : Program) (e : Env) (s : State) (m : MethodId) (below : List Frame) (meth : Method) (c : Code) (A : Nat → Prop) (ls : Array Slot), p.tables.exec = Jvm.exec → c.code = cc → meth.sig.returnType = ret → c.maxLocals = maxL → c.exceptionTable.toList = tableOf hh → (∀ x ∈ ws, x.before av.toArray s = true) → s.vm.findClass own = some m.cls → meth.locks = false → va_P D vwCl w s.heap → va_K D vwCl tys s → kG s → kZ A s s.heap → va_D A w → (∀ q : Nat, s.heap.size ≤ q → A q) → va_S A s.heap s.heap [] → lv_has ls maxL L →
      W p l e (headSpec ws rm).room s m av.toArray below meth c s.heap [] 0 0 (MQ below (kI D ty r w1 A) av.toArray s mc ms A) (F0 m 0 ls [])) : Met l y ws rm (kPreX D tys av sz w) (kI D ty r w1 (va_A w sz)) mc ms (va_A w sz) := by
  refine va_MetW (cc := cc) (maxL := maxL) (ret := ret) (hh := hh) hy hw ?_
  intro p e s m args below meth c s₁ B hml hv
  obtain ⟨rfl, hsz, hP, hK, hD0, hG, hZ⟩ := hv
  subst hsz
  have hts := atoms_spec (ws := ws) B.pre
  have hht := vx_table (x := y) B (hts _ (by rw [hw]; exact List.mem_cons_self))
  have hown : s.vm.findClass own = some m.cls := by rw [← ho]; exact findClass_of_methodNamed B.named
  have hl := lv_entry av hav
  rw [hL] at hl
  rw [lg_entry_eq]
  exact body p e s m below meth c (va_A w s.heap.size) _ B.exec B.bytes B.returns hml hht hts hown B.notSynchronized hP hK hG hZ hD0.self (fun q h => Or.inr h) va_S.rf hl
theorem krecv_0 {s : State} {H : Heap} {D : va_G} {a q0 : Nat} {fs : List Value} {ws : va_W} {tys : List (ClassId × FieldType)} (hK : va_K D vwCl tys s) (hP : va_P D vwCl ws H) (he : ws[q0]? = some (a, .inr (0, fs))) : ∃ cell : Cell, H[a]? = some cell ∧ cell.vm.isStatics = false ∧ s.vm.findClass RJ0 = some cell.cls := va_recv (ci := 0) (q := (RJ0, TJ0, 4)) hK hP rfl he
theorem krecv_1 {s : State} {H : Heap} {D : va_G} {a q0 : Nat} {fs : List Value} {ws : va_W} {tys : List (ClassId × FieldType)} (hK : va_K D vwCl tys s) (hP : va_P D vwCl ws H) (he : ws[q0]? = some (a, .inr (1, fs))) : ∃ cell : Cell, H[a]? = some cell ∧ cell.vm.isStatics = false ∧ s.vm.findClass RJ4 = some cell.cls := va_recv (ci := 1) (q := (RJ4, TJ4, 4)) hK hP rfl he
theorem krecv_2 {s : State} {H : Heap} {D : va_G} {a q0 : Nat} {fs : List Value} {ws : va_W} {tys : List (ClassId × FieldType)} (hK : va_K D vwCl tys s) (hP : va_P D vwCl ws H) (he : ws[q0]? = some (a, .inr (2, fs))) : ∃ cell : Cell, H[a]? = some cell ∧ cell.vm.isStatics = false ∧ s.vm.findClass RX0 = some cell.cls := va_recv (ci := 2) (q := (RX0, TX0, 4)) hK hP rfl he
theorem krecv_3 {s : State} {H : Heap} {D : va_G} {a q0 : Nat} {fs : List Value} {ws : va_W} {tys : List (ClassId × FieldType)} (hK : va_K D vwCl tys s) (hP : va_P D vwCl ws H) (he : ws[q0]? = some (a, .inr (3, fs))) : ∃ cell : Cell, H[a]? = some cell ∧ cell.vm.isStatics = false ∧ s.vm.findClass RX1 = some cell.cls := va_recv (ci := 3) (q := (RX1, TX1, 10)) hK hP rfl he
theorem krecv_4 {s : State} {H : Heap} {D : va_G} {a q0 : Nat} {fs : List Value} {ws : va_W} {tys : List (ClassId × FieldType)} (hK : va_K D vwCl tys s) (hP : va_P D vwCl ws H) (he : ws[q0]? = some (a, .inr (4, fs))) : ∃ cell : Cell, H[a]? = some cell ∧ cell.vm.isStatics = false ∧ s.vm.findClass RX2 = some cell.cls := va_recv (ci := 4) (q := (RX2, TX2, 2)) hK hP rfl he
theorem krecv_5 {s : State} {H : Heap} {D : va_G} {a q0 : Nat} {fs : List Value} {ws : va_W} {tys : List (ClassId × FieldType)} (hK : va_K D vwCl tys s) (hP : va_P D vwCl ws H) (he : ws[q0]? = some (a, .inr (5, fs))) : ∃ cell : Cell, H[a]? = some cell ∧ cell.vm.isStatics = false ∧ s.vm.findClass RX3 = some cell.cls := va_recv (ci := 5) (q := (RX3, TX3, 14)) hK hP rfl he
theorem kpl_X0 : plainName RX0 = true := by decide
theorem kpl_X1 : plainName RX1 = true := by decide
theorem kpl_X2 : plainName RX2 = true := by decide
theorem kpl_X3 : plainName RX3 = true := by decide
theorem kpl_L : plainName RL = true := by decide
theorem kb_g1 {m : List Nat} {LL : List (List Cond)} (h : kPg m tables_1_1 = List.flatten LL) (hg : (kPg m tables_1_1).all goodWord = true) (j k : Nat) {L : List Cond} {w : Cond} (hj : LL[j]? = some L) (hk : L[k]? = some w) : w ∈ kBIG := List.mem_append_left _ (List.mem_filter.mpr ⟨List.mem_append_right _ (kt_g1 h j k hj hk), List.all_eq_true.mp hg w (by rw [h]; exact List.mem_flatten.mpr ⟨L, List.mem_of_getElem? hj, List.mem_of_getElem? hk⟩)⟩)
theorem kb_g2 {m : List Nat} {LL : List (List Cond)} (h : kPg m tables_1_2 = List.flatten LL) (hg : (kPg m tables_1_2).all goodWord = true) (j k : Nat) {L : List Cond} {w : Cond} (hj : LL[j]? = some L) (hk : L[k]? = some w) : w ∈ kBIG := List.mem_append_left _ (List.mem_filter.mpr ⟨List.mem_append_right _ (kt_g2 h j k hj hk), List.all_eq_true.mp hg w (by rw [h]; exact List.mem_flatten.mpr ⟨L, List.mem_of_getElem? hj, List.mem_of_getElem? hk⟩)⟩)
theorem kb_g3 {m : List Nat} {LL : List (List Cond)} (h : kPg m tables_1_3 = List.flatten LL) (hg : (kPg m tables_1_3).all goodWord = true) (j k : Nat) {L : List Cond} {w : Cond} (hj : LL[j]? = some L) (hk : L[k]? = some w) : w ∈ kBIG := List.mem_append_left _ (List.mem_filter.mpr ⟨List.mem_append_right _ (kt_g3 h j k hj hk), List.all_eq_true.mp hg w (by rw [h]; exact List.mem_flatten.mpr ⟨L, List.mem_of_getElem? hj, List.mem_of_getElem? hk⟩)⟩)
theorem kb_g4 {m : List Nat} {LL : List (List Cond)} (h : kPg m tables_1_4 = List.flatten LL) (hg : (kPg m tables_1_4).all goodWord = true) (j k : Nat) {L : List Cond} {w : Cond} (hj : LL[j]? = some L) (hk : L[k]? = some w) : w ∈ kBIG := List.mem_append_left _ (List.mem_filter.mpr ⟨List.mem_append_right _ (kt_g4 h j k hj hk), List.all_eq_true.mp hg w (by rw [h]; exact List.mem_flatten.mpr ⟨L, List.mem_of_getElem? hj, List.mem_of_getElem? hk⟩)⟩)
theorem kb_g5 {m : List Nat} {LL : List (List Cond)} (h : kPg m tables_1_5 = List.flatten LL) (hg : (kPg m tables_1_5).all goodWord = true) (j k : Nat) {L : List Cond} {w : Cond} (hj : LL[j]? = some L) (hk : L[k]? = some w) : w ∈ kBIG := List.mem_append_left _ (List.mem_filter.mpr ⟨List.mem_append_right _ (kt_g5 h j k hj hk), List.all_eq_true.mp hg w (by rw [h]; exact List.mem_flatten.mpr ⟨L, List.mem_of_getElem? hj, List.mem_of_getElem? hk⟩)⟩)
theorem kb_g6 {m : List Nat} {LL : List (List Cond)} (h : kPg m tables_1_6 = List.flatten LL) (hg : (kPg m tables_1_6).all goodWord = true) (j k : Nat) {L : List Cond} {w : Cond} (hj : LL[j]? = some L) (hk : L[k]? = some w) : w ∈ kBIG := List.mem_append_left _ (List.mem_filter.mpr ⟨List.mem_append_right _ (kt_g6 h j k hj hk), List.all_eq_true.mp hg w (by rw [h]; exact List.mem_flatten.mpr ⟨L, List.mem_of_getElem? hj, List.mem_of_getElem? hk⟩)⟩)
theorem kb_g7 {m : List Nat} {LL : List (List Cond)} (h : kPg m tables_1_7 = List.flatten LL) (hg : (kPg m tables_1_7).all goodWord = true) (j k : Nat) {L : List Cond} {w : Cond} (hj : LL[j]? = some L) (hk : L[k]? = some w) : w ∈ kBIG := List.mem_append_left _ (List.mem_filter.mpr ⟨List.mem_append_right _ (kt_g7 h j k hj hk), List.all_eq_true.mp hg w (by rw [h]; exact List.mem_flatten.mpr ⟨L, List.mem_of_getElem? hj, List.mem_of_getElem? hk⟩)⟩)
theorem kmh_RJ0 : RJ0 ≠ "java/lang/invoke/MethodHandle" := by decide +kernel
theorem kvh_RJ0 : RJ0 ≠ "java/lang/invoke/VarHandle" := by decide +kernel
theorem kmh_RJ1 : RJ1 ≠ "java/lang/invoke/MethodHandle" := by decide +kernel
theorem kvh_RJ1 : RJ1 ≠ "java/lang/invoke/VarHandle" := by decide +kernel
theorem kmh_RJ2 : RJ2 ≠ "java/lang/invoke/MethodHandle" := by decide +kernel
theorem kvh_RJ2 : RJ2 ≠ "java/lang/invoke/VarHandle" := by decide +kernel
theorem kmh_RJ3 : RJ3 ≠ "java/lang/invoke/MethodHandle" := by decide +kernel
theorem kvh_RJ3 : RJ3 ≠ "java/lang/invoke/VarHandle" := by decide +kernel
theorem kmh_RJ4 : RJ4 ≠ "java/lang/invoke/MethodHandle" := by decide +kernel
theorem kvh_RJ4 : RJ4 ≠ "java/lang/invoke/VarHandle" := by decide +kernel
theorem kmh_RJ5 : RJ5 ≠ "java/lang/invoke/MethodHandle" := by decide +kernel
theorem kvh_RJ5 : RJ5 ≠ "java/lang/invoke/VarHandle" := by decide +kernel
theorem kmh_RJ6 : RJ6 ≠ "java/lang/invoke/MethodHandle" := by decide +kernel
theorem kvh_RJ6 : RJ6 ≠ "java/lang/invoke/VarHandle" := by decide +kernel
theorem kmh_RJ7 : RJ7 ≠ "java/lang/invoke/MethodHandle" := by decide +kernel
theorem kvh_RJ7 : RJ7 ≠ "java/lang/invoke/VarHandle" := by decide +kernel
theorem kmh_RJ8 : RJ8 ≠ "java/lang/invoke/MethodHandle" := by decide +kernel
theorem kvh_RJ8 : RJ8 ≠ "java/lang/invoke/VarHandle" := by decide +kernel
theorem kmh_RJ9 : RJ9 ≠ "java/lang/invoke/MethodHandle" := by decide +kernel
theorem kvh_RJ9 : RJ9 ≠ "java/lang/invoke/VarHandle" := by decide +kernel
theorem kmh_RL : RL ≠ "java/lang/invoke/MethodHandle" := by decide +kernel
theorem kvh_RL : RL ≠ "java/lang/invoke/VarHandle" := by decide +kernel
theorem kmh_RX0 : RX0 ≠ "java/lang/invoke/MethodHandle" := by decide +kernel
theorem kvh_RX0 : RX0 ≠ "java/lang/invoke/VarHandle" := by decide +kernel
theorem kmh_RX1 : RX1 ≠ "java/lang/invoke/MethodHandle" := by decide +kernel
theorem kvh_RX1 : RX1 ≠ "java/lang/invoke/VarHandle" := by decide +kernel
theorem kmh_RX2 : RX2 ≠ "java/lang/invoke/MethodHandle" := by decide +kernel
theorem kvh_RX2 : RX2 ≠ "java/lang/invoke/VarHandle" := by decide +kernel
theorem kmh_RX3 : RX3 ≠ "java/lang/invoke/MethodHandle" := by decide +kernel
theorem kvh_RX3 : RX3 ≠ "java/lang/invoke/VarHandle" := by decide +kernel
theorem kpl_J0 : plainName RJ0 = true := by decide +kernel
theorem kpl_J1 : plainName RJ1 = true := by decide +kernel
theorem kpl_J4 : plainName RJ4 = true := by decide +kernel
theorem kpl_J5 : plainName RJ5 = true := by decide +kernel
theorem kpl_J6 : plainName RJ6 = true := by decide +kernel
theorem kpl_J7 : plainName RJ7 = true := by decide +kernel
theorem kpl_J8 : plainName RJ8 = true := by decide +kernel
/-! short words for what is said often -/
abbrev kRm (f c s l : Nat) : Room := { frames := f, cells := c, slots := s, locals := l }
abbrev kvI (i : Nat) (x : Int32) (L : List (Nat × Value)) : List (Nat × Value) := (i, .int x) :: L
abbrev kvJ (i : Nat) (x : Int64) (L : List (Nat × Value)) : List (Nat × Value) := (i, .long x) :: L
abbrev kvA (i : Nat) (x : Nat) (L : List (Nat × Value)) : List (Nat × Value) := (i, .ref x) :: L
abbrev kvN (i : Nat) (L : List (Nat × Value)) : List (Nat × Value) := (i, .null) :: L
abbrev kvE : List (Nat × Value) := []
abbrev wO (o : Nat) (on : Int64) (ov : Value) : va_W := [(o, .inr (4, [.long on, ov]))]
abbrev kMi (l : Launch) (y : MethodName) (ws : List Cond) (rm : Room) (dC : Nat → ClassId) (dI : Nat → Nat → Nat) (cB cI cJ cZ : ClassId) (av : List Value) (sz : Nat) (w : va_W) (ty : FieldType) (r : Int32) (w1 : va_W) (mc ms : Nat) : Prop := Met l y ws rm (kPre (dC, dI) (kTy cB cI cJ cZ) av sz w) (kI (dC, dI) ty r w1 (va_A w sz)) mc ms (va_A w sz)
abbrev kMl (l : Launch) (y : MethodName) (ws : List Cond) (rm : Room) (dC : Nat → ClassId) (dI : Nat → Nat → Nat) (cB cI cJ cZ : ClassId) (av : List Value) (sz : Nat) (w : va_W) (r : Int64) (w1 : va_W) (mc ms : Nat) : Prop := Met l y ws rm (kPre (dC, dI) (kTy cB cI cJ cZ) av sz w) (kL (dC, dI) r w1 (va_A w sz)) mc ms (va_A w sz)
abbrev kMv (l : Launch) (y : MethodName) (ws : List Cond) (rm : Room) (dC : Nat → ClassId) (dI : Nat → Nat → Nat) (cB cI cJ cZ : ClassId) (av : List Value) (sz : Nat) (w : va_W) (w1 : va_W) (mc ms : Nat) : Prop := Met l y ws rm (kPre (dC, dI) (kTy cB cI cJ cZ) av sz w) (kV (dC, dI) w1 (va_A w sz)) mc ms (va_A w sz)
abbrev kMw (l : Launch) (y : MethodName) (ws : List Cond) (rm : Room) (dC : Nat → ClassId) (dI : Nat → Nat → Nat) (cB cI cJ cZ : ClassId) (av : List Value) (sz : Nat) (w : va_W) (ty : FieldType) (r : Int32) (w1 : va_W) (mc ms : Nat) : Prop := Met l y ws rm (kPreX (dC, dI) (kTy cB cI cJ cZ) av sz w) (kI (dC, dI) ty r w1 (va_A w sz)) mc ms (va_A w sz)
abbrev kMX (l : Launch) (y : MethodName) (ws : List Cond) (rm : Room) (dC : Nat → ClassId) (dI : Nat → Nat → Nat) (cB cI cJ cZ : ClassId) (av : List Value) (sz : Nat) (w : va_W) (k : Nat) (w1 : va_W) (mc ms : Nat) : Prop := vx_Met l y ws rm (kPreX (dC, dI) (kTy cB cI cJ cZ) av sz w) kNo (kX (dC, dI) k w1 (va_A w sz)) mc ms (va_A w sz)
