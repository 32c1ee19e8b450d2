/-! decode rows, many at once: the bytes are read once, by a table of the opcodes that stand here -/
theorem rd_bind {α β : Type} (r : Jvm.ClassFile.Decoder α) (f : α → Jvm.ClassFile.Decoder β) (d : ByteArray) (k : Nat) : (r >>= f) d k = (match r d k with | .error z => .error z | .ok x => f x.1 d x.2) := by
  have e : (r >>= f) d k = Except.bind (r d k) (fun x => f x.1 d x.2) := rfl
  rw [e]
  cases r d k <;> rfl
theorem rd_u1 (d : ByteArray) (k : Nat) : (Jvm.ClassFile.Reader.u1 : Jvm.ClassFile.Decoder Nat) d k = if h : k < d.size then .ok (d[k].toNat, k + 1) else .error (.truncated k) := by
  by_cases h : k < d.size
  · rw [dif_pos h]
    show (if h : k < d.size then _ else _ : Jvm.ClassFile.Decoder Nat) d k = _
    rw [dif_pos h]; rfl
  · rw [dif_neg h]
    show (if h : k < d.size then _ else _ : Jvm.ClassFile.Decoder Nat) d k = _
    rw [dif_neg h]; rfl
def kAt (c : ByteArray) (p v : Nat) : Prop := ∃ b : UInt8, c.data.toList[p]? = some b ∧ b.toNat = v
theorem rd_at {c : ByteArray} {p v : Nat} (h : kAt c p v) : (Jvm.ClassFile.Reader.u1 : Jvm.ClassFile.Decoder Nat) c p = .ok (v, p + 1) := by
  obtain ⟨b, h1, h2⟩ := h
  obtain ⟨h3, h4⟩ := List.getElem?_eq_some_iff.mp h1
  have h5 : p < c.size := by
    rw [Array.length_toList] at h3; exact h3
  have h6 : c[p] = b := by
    show c.data[p] = b
    rw [← h4, Array.getElem_toList]
  rw [rd_u1, dif_pos h5, h6, h2]
theorem rd_u2 {c : ByteArray} {p x y : Nat} (h : kAt c p x) (g : kAt c (p + 1) y) : (Jvm.ClassFile.Reader.u2 : Jvm.ClassFile.Decoder Nat) c p = .ok (x * 256 + y, p + 2) := by
  have e : (Jvm.ClassFile.Reader.u2 : Jvm.ClassFile.Decoder Nat) = Jvm.ClassFile.Reader.u1 >>= fun hi => Jvm.ClassFile.Reader.u1 >>= fun lo => Pure.pure (hi * 256 + lo) := rfl
  rw [e, rd_bind, rd_at h]
  show (Jvm.ClassFile.Reader.u1 >>= fun lo => Pure.pure (x * 256 + lo) : Jvm.ClassFile.Decoder Nat) c (p + 1) = _
  rw [rd_bind, rd_at g]
  rfl
theorem rd_map {α β : Type} (f : α → β) (r : Jvm.ClassFile.Decoder α) (d : ByteArray) (k : Nat) : (f <$> r) d k = (match r d k with | .error z => .error z | .ok x => .ok (f x.1, x.2)) := by
  have e1 : (f <$> r) d k = Except.bind (r d k) (fun x => .ok (f x.1, x.2)) := rfl
  rw [e1]
  cases r d k <;> rfl
theorem rd_s1 {c : ByteArray} {p x : Nat} (h : kAt c p x) : (Jvm.ClassFile.Reader.s1 : Jvm.ClassFile.Decoder Int) c p = .ok (Jvm.ClassFile.Reader.signed 8 x, p + 1) := by
  have e : (Jvm.ClassFile.Reader.s1 : Jvm.ClassFile.Decoder Int) = Jvm.ClassFile.Reader.signed 8 <$> Jvm.ClassFile.Reader.u1 := rfl
  rw [e, rd_map, rd_at h]
theorem rd_s2 {c : ByteArray} {p x y : Nat} (h : kAt c p x) (g : kAt c (p + 1) y) : (Jvm.ClassFile.Reader.s2 : Jvm.ClassFile.Decoder Int) c p = .ok (Jvm.ClassFile.Reader.signed 16 (x * 256 + y), p + 2) := by
  have e : (Jvm.ClassFile.Reader.s2 : Jvm.ClassFile.Decoder Int) = Jvm.ClassFile.Reader.signed 16 <$> Jvm.ClassFile.Reader.u2 := rfl
  rw [e, rd_map, rd_u2 h g]
theorem kx_run {c : ByteArray} {p q : Nat} {i : Instr} (h : Jvm.ClassFile.Decoder.instr p c p = .ok (i, p + q)) : decode c p = .ok (i, q) := by
  unfold decode Jvm.ClassFile.Reader.runAt
  show Except.bind (Jvm.ClassFile.Decoder.instr p c p) _ = _
  rw [h]
  show Except.ok (i, p + q - p) = _
  rw [Nat.add_sub_cancel_left]
/-- an opcode, how long its instruction is, and the instruction by the two bytes behind it: so it is read -/
def kOkE (e : Nat × Nat × (Nat → Nat → Instr)) : Prop := ∀ (c : ByteArray) (p x y : Nat), kAt c p e.1 → (2 ≤ e.2.1 → kAt c (p + 1) x) → (3 ≤ e.2.1 → kAt c (p + 2) y) → decode c p = .ok (e.2.2 x y, e.2.1)
abbrev kGo1 (b : Nat) (r : Jvm.ClassFile.Decoder Instr) : Prop := ∀ p : Nat, ∃ K : Nat → Jvm.ClassFile.Decoder Instr, Jvm.ClassFile.Decoder.instr p = Jvm.ClassFile.Reader.u1 >>= K ∧ K b = r
theorem kx_0 {b : Nat} {i : Instr} (h : kGo1 b (Pure.pure i)) : kOkE (b, 1, fun _ _ => i) := by
  intro c p x y h0 _ _
  obtain ⟨K, e, hb⟩ := h p
  refine kx_run ?_
  have h0' : kAt c p b := h0
  rw [e, rd_bind, rd_at h0']
  show K b c (p + 1) = _
  rw [hb] <;> rfl
theorem kx_u1 {b : Nat} {f : Nat → Instr} (h : kGo1 b (Jvm.ClassFile.Reader.u1 >>= fun x => Pure.pure (f x))) : kOkE (b, 2, fun x _ => f x) := by
  intro c p x y h0 h1 _
  obtain ⟨K, e, hb⟩ := h p
  refine kx_run ?_
  have h0' : kAt c p b := h0
  rw [e, rd_bind, rd_at h0']
  show K b c (p + 1) = _
  rw [hb, rd_bind, rd_at (h1 (Nat.le_refl 2))] <;> rfl
theorem kx_s1 {b : Nat} {f : Int → Instr} (h : kGo1 b (Jvm.ClassFile.Reader.s1 >>= fun x => Pure.pure (f x))) : kOkE (b, 2, fun x _ => f (Jvm.ClassFile.Reader.signed 8 x)) := by
  intro c p x y h0 h1 _
  obtain ⟨K, e, hb⟩ := h p
  refine kx_run ?_
  have h0' : kAt c p b := h0
  rw [e, rd_bind, rd_at h0']
  show K b c (p + 1) = _
  rw [hb, rd_bind, rd_s1 (h1 (Nat.le_refl 2))] <;> rfl
theorem kx_u2 {b : Nat} {f : Nat → Instr} (h : kGo1 b (Jvm.ClassFile.Reader.u2 >>= fun x => Pure.pure (f x))) : kOkE (b, 3, fun x y => f (x * 256 + y)) := by
  intro c p x y h0 h1 h2
  obtain ⟨K, e, hb⟩ := h p
  refine kx_run ?_
  have h0' : kAt c p b := h0
  rw [e, rd_bind, rd_at h0']
  show K b c (p + 1) = _
  rw [hb, rd_bind, rd_u2 (h1 (Nat.le_succ 2)) (h2 (Nat.le_refl 3))] <;> rfl
theorem kx_s2 {b : Nat} {f : Int → Instr} (h : kGo1 b (Jvm.ClassFile.Reader.s2 >>= fun x => Pure.pure (f x))) : kOkE (b, 3, fun x y => f (Jvm.ClassFile.Reader.signed 16 (x * 256 + y))) := by
  intro c p x y h0 h1 h2
  obtain ⟨K, e, hb⟩ := h p
  refine kx_run ?_
  have h0' : kAt c p b := h0
  rw [e, rd_bind, rd_at h0']
  show K b c (p + 1) = _
  rw [hb, rd_bind, rd_s2 (h1 (Nat.le_succ 2)) (h2 (Nat.le_refl 3))] <;> rfl
theorem kx_us {b : Nat} {f : Nat → Int → Instr} (h : kGo1 b (Jvm.ClassFile.Reader.u1 >>= fun x => Jvm.ClassFile.Reader.s1 >>= fun y => Pure.pure (f x y))) : kOkE (b, 3, fun x y => f x (Jvm.ClassFile.Reader.signed 8 y)) := by
  intro c p x y h0 h1 h2
  obtain ⟨K, e, hb⟩ := h p
  refine kx_run ?_
  have h0' : kAt c p b := h0
  rw [e, rd_bind, rd_at h0']
  show K b c (p + 1) = _
  rw [hb, rd_bind, rd_at (h1 (Nat.le_succ 2))]
  show (Jvm.ClassFile.Reader.s1 >>= fun y => Pure.pure (f x y) : Jvm.ClassFile.Decoder Instr) c (p + 2) = _
  rw [rd_bind, rd_s1 (h2 (Nat.le_refl 3))] <;> rfl
def kFind (b : Nat) : List (Nat × Nat × (Nat → Nat → Instr)) → Option (Nat × (Nat → Nat → Instr))
  | [] => none
  | e :: T => bif Nat.beq b e.1 then some e.2 else kFind b T
theorem kFind_ok {b : Nat} {T : List (Nat × Nat × (Nat → Nat → Instr))} {r : Nat × (Nat → Nat → Instr)} (h : kFind b T = some r) : (b, r) ∈ T := by
  induction T with
  | nil => cases h
  | cons e T ih =>
    rw [kFind] at h
    cases hb : Nat.beq b e.1 with
    | true =>
      rw [hb] at h
      have h1 : e.2 = r := Option.some.inj h
      have h2 : b = e.1 := Nat.eq_of_beq_eq_true hb
      rw [← h1, h2]
      exact List.mem_cons_self
    | false =>
      rw [hb] at h
      exact List.mem_cons_of_mem _ (ih h)
def kHd : List UInt8 → Nat
  | [] => 0
  | b :: _ => b.toNat
def kHas (n : Nat) : List UInt8 → Bool
  | [] => Nat.ble n 1
  | _ :: [] => Nat.ble n 2
  | _ :: _ :: _ => Nat.ble n 3
def kOne (T : List (Nat × Nat × (Nat → Nat → Instr))) (b : UInt8) (t : List UInt8) (i : Instr) (n : Nat) : Bool := match kFind b.toNat T with
  | none => false
  | some e => Nat.beq e.1 n && (kHas n t && decide (e.2 (kHd t) (kHd t.tail) = i))
def kRun (T : List (Nat × Nat × (Nat → Nat → Instr))) : List UInt8 → Nat → List (Nat × Instr × Nat) → Bool
  | _, _, [] => true
  | bs, a, q :: L => match bs.drop (q.1 - a) with
    | [] => false
    | b :: t => Nat.ble a q.1 && (kOne T b t q.2.1 q.2.2 && kRun T (b :: t) q.1 L)
theorem kAt_of {c : ByteArray} {p k : Nat} {bs : List UInt8} {b : UInt8} (h : c.data.toList.drop p = bs) (g : bs[k]? = some b) : kAt c (p + k) b.toNat := by
  refine ⟨b, ?_, rfl⟩
  rw [← h, List.getElem?_drop] at g
  exact g
theorem kOne_ok {T : List (Nat × Nat × (Nat → Nat → Instr))} (hT : ∀ e ∈ T, kOkE e) {c : ByteArray} {p n : Nat} {b : UInt8} {t : List UInt8} {i : Instr} (hd : c.data.toList.drop p = b :: t) (h : kOne T b t i n = true) : decode c p = .ok (i, n) := by
  unfold kOne at h
  cases hf : kFind b.toNat T with
  | none => rw [hf] at h; cases h
  | some e =>
    rw [hf] at h
    have h' : (Nat.beq e.1 n && (kHas n t && decide (e.2 (kHd t) (kHd t.tail) = i))) = true := h
    rw [Bool.and_eq_true, Bool.and_eq_true, decide_eq_true_iff] at h'
    obtain ⟨h1, h2, h3⟩ := h'
    have h4 : e.1 = n := Nat.eq_of_beq_eq_true h1
    have hE := hT _ (kFind_ok hf)
    subst h3
    subst h4
    refine hE c p _ _ (kAt_of (k := 0) hd rfl) (fun g2 => ?_) (fun g3 => ?_)
    · cases t with
      | nil =>
        have k1 : e.1 ≤ 1 := Nat.le_of_ble_eq_true h2
        have k2 : 2 ≤ e.1 := g2
        omega
      | cons x t => exact kAt_of (k := 1) hd rfl
    · have k3 : 3 ≤ e.1 := g3
      cases t with
      | nil =>
        have k1 : e.1 ≤ 1 := Nat.le_of_ble_eq_true h2
        omega
      | cons x t =>
        cases t with
        | nil =>
          have k1 : e.1 ≤ 2 := Nat.le_of_ble_eq_true h2
          omega
        | cons y t => exact kAt_of (k := 2) hd rfl
theorem kRun_ok {T : List (Nat × Nat × (Nat → Nat → Instr))} (hT : ∀ e ∈ T, kOkE e) {c : ByteArray} : ∀ {L : List (Nat × Instr × Nat)} {bs : List UInt8} {a : Nat}, c.data.toList.drop a = bs → kRun T bs a L = true → ∀ (k : Nat) {p : Nat} {i : Instr} {n : Nat}, L[k]? = some (p, i, n) → decode c p = .ok (i, n) := by
  intro L
  induction L with
  | nil => intro bs a _ _ k p i n e; cases e
  | cons q L ih =>
    intro bs a hb h k p i n e
    rw [kRun] at h
    cases hd : bs.drop (q.1 - a) with
    | nil => rw [hd] at h; cases h
    | cons b t =>
      rw [hd] at h
      have h' : (Nat.ble a q.1 && (kOne T b t q.2.1 q.2.2 && kRun T (b :: t) q.1 L)) = true := h
      rw [Bool.and_eq_true, Bool.and_eq_true] at h'
      obtain ⟨h1, h2, h3⟩ := h'
      have h4 : a ≤ q.1 := Nat.le_of_ble_eq_true h1
      have h5 : c.data.toList.drop q.1 = b :: t := by
        rw [← hd, ← hb, List.drop_drop, Nat.add_sub_cancel' h4]
      cases k with
      | zero =>
        have e' : q = (p, i, n) := Option.some.inj e
        subst e'
        exact kOne_ok hT h5 h2
      | succ k => exact ih h5 h3 k e
abbrev iq42 : Instr := .aload_n 0
abbrev iq180 (x : Nat) : Instr := .getfield x
abbrev iq182 (x : Nat) : Instr := .invokevirtual x
abbrev iq27 : Instr := .iload_n 1
abbrev iq167 (x : Int) : Instr := .goto x
abbrev iq172 : Instr := .ireturn
abbrev iq3 : Instr := .iconst 0
abbrev iq21 (x : Nat) : Instr := .iload x
abbrev iq184 (x : Nat) : Instr := .invokestatic x
abbrev iq4 : Instr := .iconst 1
abbrev iq28 : Instr := .iload_n 2
abbrev iq47 : Instr := .laload
abbrev iq96 : Instr := .iadd
abbrev iq29 : Instr := .iload_n 3
abbrev iq46 : Instr := .iaload
abbrev iq153 (x : Int) : Instr := .ifCond .eq x
abbrev iq54 (x : Nat) : Instr := .istore x
abbrev iq181 (x : Nat) : Instr := .putfield x
abbrev iq162 (x : Int) : Instr := .if_icmp .ge x
abbrev iq132 (x : Nat) (y : Int) : Instr := .iinc x y
abbrev iq5 : Instr := .iconst 2
abbrev iq148 : Instr := .lcmp
abbrev iq44 : Instr := .aload_n 2
abbrev iq154 (x : Int) : Instr := .ifCond .ne x
abbrev iq43 : Instr := .aload_n 1
abbrev iq31 : Instr := .lload_n 1
abbrev iq33 : Instr := .lload_n 3
abbrev iq22 (x : Nat) : Instr := .lload x
abbrev iq97 : Instr := .ladd
abbrev iq133 : Instr := .i2l
abbrev iq45 : Instr := .aload_n 3
abbrev iq156 (x : Int) : Instr := .ifCond .ge x
abbrev iq20 (x : Nat) : Instr := .ldc2_w x
abbrev iq62 : Instr := .istore_n 3
abbrev iq26 : Instr := .iload_n 0
abbrev iq16 (x : Int) : Instr := .bipush x
abbrev iq61 : Instr := .istore_n 2
abbrev iq2 : Instr := .iconst (-1)
abbrev iq80 : Instr := .lastore
abbrev iq155 (x : Int) : Instr := .ifCond .lt x
abbrev iq89 : Instr := .dup
abbrev iq58 (x : Nat) : Instr := .astore x
abbrev iq60 : Instr := .istore_n 1
abbrev iq87 : Instr := .pop
abbrev iq66 : Instr := .lstore_n 3
abbrev iq105 : Instr := .lmul
abbrev iq55 (x : Nat) : Instr := .lstore x
abbrev iq64 : Instr := .lstore_n 1
abbrev iq30 : Instr := .lload_n 0
abbrev iq183 (x : Nat) : Instr := .invokespecial x
abbrev iq173 : Instr := .lreturn
abbrev iq7 : Instr := .iconst 4
abbrev iq160 (x : Int) : Instr := .if_icmp .ne x
abbrev iq6 : Instr := .iconst 3
abbrev iq177 : Instr := .return_
abbrev iq9 : Instr := .lconst 0
abbrev iq18 (x : Nat) : Instr := .ldc x
abbrev iq176 : Instr := .areturn
abbrev iq78 : Instr := .astore_n 3
abbrev iq32 : Instr := .lload_n 2
abbrev iq100 : Instr := .isub
abbrev iq101 : Instr := .lsub
abbrev iq104 : Instr := .imul
abbrev iq159 (x : Int) : Instr := .if_icmp .eq x
abbrev iq187 (x : Nat) : Instr := .new x
abbrev iq126 : Instr := .iand
abbrev iq190 : Instr := .arraylength
abbrev iq164 (x : Int) : Instr := .if_icmp .le x
abbrev iq10 : Instr := .lconst 1
abbrev iq120 : Instr := .ishl
abbrev iq158 (x : Int) : Instr := .ifCond .le x
abbrev iq25 (x : Nat) : Instr := .aload x
abbrev iq51 : Instr := .baload
abbrev iq84 : Instr := .bastore
abbrev iq163 (x : Int) : Instr := .if_icmp .gt x
abbrev iq122 : Instr := .ishr
abbrev iq161 (x : Int) : Instr := .if_icmp .lt x
abbrev iq178 (x : Nat) : Instr := .getstatic x
abbrev iq19 (x : Nat) : Instr := .ldc_w x
abbrev iq59 : Instr := .istore_n 0
abbrev iq157 (x : Int) : Instr := .ifCond .gt x
abbrev iq124 : Instr := .iushr
abbrev iq191 : Instr := .athrow
abbrev iq77 : Instr := .astore_n 2
abbrev iq76 : Instr := .astore_n 1
abbrev iq92 : Instr := .dup2
abbrev iq136 : Instr := .l2i
abbrev iq128 : Instr := .ior
abbrev iq79 : Instr := .iastore
abbrev iq116 : Instr := .ineg
abbrev iq109 : Instr := .ldiv
abbrev iq8 : Instr := .iconst 5
abbrev iq131 : Instr := .lxor
abbrev iq192 (x : Nat) : Instr := .checkcast x
abbrev iq108 : Instr := .idiv
abbrev iq90 : Instr := .dup_x1
abbrev iq117 : Instr := .lneg
abbrev iq65 : Instr := .lstore_n 2
abbrev iq88 : Instr := .pop2
abbrev iq113 : Instr := .lrem
abbrev iq17 (x : Int) : Instr := .sipush x
abbrev iq145 : Instr := .i2b
abbrev iq1 : Instr := .aconst_null
abbrev iq199 (x : Int) : Instr := .ifnonnull x
abbrev iq112 : Instr := .irem
abbrev iqr1 (p : Nat) (i : Instr) (L : List (Nat × Instr × Nat)) : List (Nat × Instr × Nat) := (p, i, 1) :: L
abbrev iqr2 (p : Nat) (i : Instr) (L : List (Nat × Instr × Nat)) : List (Nat × Instr × Nat) := (p, i, 2) :: L
abbrev iqr3 (p : Nat) (i : Instr) (L : List (Nat × Instr × Nat)) : List (Nat × Instr × Nat) := (p, i, 3) :: L
abbrev iqE : List (Nat × Instr × Nat) := []
abbrev iqC (L : List (Nat × Instr × Nat)) (M : List (List (Nat × Instr × Nat))) : List (List (Nat × Instr × Nat)) := L :: M
abbrev iqN : List (List (Nat × Instr × Nat)) := []
theorem ko_42 : kOkE (42, 1, fun _ _ => .aload_n 0) := kx_0 (fun _ => ⟨_, rfl, rfl⟩)
theorem ko_180 : kOkE (180, 3, fun x y => .getfield (x * 256 + y)) := kx_u2 (f := fun x => .getfield x) (fun _ => ⟨_, rfl, rfl⟩)
theorem ko_182 : kOkE (182, 3, fun x y => .invokevirtual (x * 256 + y)) := kx_u2 (f := fun x => .invokevirtual x) (fun _ => ⟨_, rfl, rfl⟩)
theorem ko_27 : kOkE (27, 1, fun _ _ => .iload_n 1) := kx_0 (fun _ => ⟨_, rfl, rfl⟩)
theorem ko_167 : kOkE (167, 3, fun x y => .goto (Jvm.ClassFile.Reader.signed 16 (x * 256 + y))) := kx_s2 (f := fun x => .goto x) (fun _ => ⟨_, rfl, rfl⟩)
theorem ko_172 : kOkE (172, 1, fun _ _ => .ireturn) := kx_0 (fun _ => ⟨_, rfl, rfl⟩)
theorem ko_3 : kOkE (3, 1, fun _ _ => .iconst 0) := kx_0 (fun _ => ⟨_, rfl, rfl⟩)
theorem ko_21 : kOkE (21, 2, fun x _ => .iload x) := kx_u1 (f := fun x => .iload x) (fun _ => ⟨_, rfl, rfl⟩)
theorem ko_184 : kOkE (184, 3, fun x y => .invokestatic (x * 256 + y)) := kx_u2 (f := fun x => .invokestatic x) (fun _ => ⟨_, rfl, rfl⟩)
theorem ko_4 : kOkE (4, 1, fun _ _ => .iconst 1) := kx_0 (fun _ => ⟨_, rfl, rfl⟩)
theorem ko_28 : kOkE (28, 1, fun _ _ => .iload_n 2) := kx_0 (fun _ => ⟨_, rfl, rfl⟩)
theorem ko_47 : kOkE (47, 1, fun _ _ => .laload) := kx_0 (fun _ => ⟨_, rfl, rfl⟩)
theorem ko_96 : kOkE (96, 1, fun _ _ => .iadd) := kx_0 (fun _ => ⟨_, rfl, rfl⟩)
theorem ko_29 : kOkE (29, 1, fun _ _ => .iload_n 3) := kx_0 (fun _ => ⟨_, rfl, rfl⟩)
theorem ko_46 : kOkE (46, 1, fun _ _ => .iaload) := kx_0 (fun _ => ⟨_, rfl, rfl⟩)
theorem ko_153 : kOkE (153, 3, fun x y => .ifCond .eq (Jvm.ClassFile.Reader.signed 16 (x * 256 + y))) := kx_s2 (f := fun x => .ifCond .eq x) (fun _ => ⟨_, rfl, rfl⟩)
theorem ko_54 : kOkE (54, 2, fun x _ => .istore x) := kx_u1 (f := fun x => .istore x) (fun _ => ⟨_, rfl, rfl⟩)
theorem ko_181 : kOkE (181, 3, fun x y => .putfield (x * 256 + y)) := kx_u2 (f := fun x => .putfield x) (fun _ => ⟨_, rfl, rfl⟩)
theorem ko_162 : kOkE (162, 3, fun x y => .if_icmp .ge (Jvm.ClassFile.Reader.signed 16 (x * 256 + y))) := kx_s2 (f := fun x => .if_icmp .ge x) (fun _ => ⟨_, rfl, rfl⟩)
theorem ko_132 : kOkE (132, 3, fun x y => .iinc x (Jvm.ClassFile.Reader.signed 8 y)) := kx_us (f := fun x y => .iinc x y) (fun _ => ⟨_, rfl, rfl⟩)
theorem ko_5 : kOkE (5, 1, fun _ _ => .iconst 2) := kx_0 (fun _ => ⟨_, rfl, rfl⟩)
theorem ko_148 : kOkE (148, 1, fun _ _ => .lcmp) := kx_0 (fun _ => ⟨_, rfl, rfl⟩)
theorem ko_44 : kOkE (44, 1, fun _ _ => .aload_n 2) := kx_0 (fun _ => ⟨_, rfl, rfl⟩)
theorem ko_154 : kOkE (154, 3, fun x y => .ifCond .ne (Jvm.ClassFile.Reader.signed 16 (x * 256 + y))) := kx_s2 (f := fun x => .ifCond .ne x) (fun _ => ⟨_, rfl, rfl⟩)
theorem ko_43 : kOkE (43, 1, fun _ _ => .aload_n 1) := kx_0 (fun _ => ⟨_, rfl, rfl⟩)
theorem ko_31 : kOkE (31, 1, fun _ _ => .lload_n 1) := kx_0 (fun _ => ⟨_, rfl, rfl⟩)
theorem ko_33 : kOkE (33, 1, fun _ _ => .lload_n 3) := kx_0 (fun _ => ⟨_, rfl, rfl⟩)
theorem ko_22 : kOkE (22, 2, fun x _ => .lload x) := kx_u1 (f := fun x => .lload x) (fun _ => ⟨_, rfl, rfl⟩)
theorem ko_97 : kOkE (97, 1, fun _ _ => .ladd) := kx_0 (fun _ => ⟨_, rfl, rfl⟩)
theorem ko_133 : kOkE (133, 1, fun _ _ => .i2l) := kx_0 (fun _ => ⟨_, rfl, rfl⟩)
theorem ko_45 : kOkE (45, 1, fun _ _ => .aload_n 3) := kx_0 (fun _ => ⟨_, rfl, rfl⟩)
theorem ko_156 : kOkE (156, 3, fun x y => .ifCond .ge (Jvm.ClassFile.Reader.signed 16 (x * 256 + y))) := kx_s2 (f := fun x => .ifCond .ge x) (fun _ => ⟨_, rfl, rfl⟩)
theorem ko_20 : kOkE (20, 3, fun x y => .ldc2_w (x * 256 + y)) := kx_u2 (f := fun x => .ldc2_w x) (fun _ => ⟨_, rfl, rfl⟩)
theorem ko_62 : kOkE (62, 1, fun _ _ => .istore_n 3) := kx_0 (fun _ => ⟨_, rfl, rfl⟩)
theorem ko_26 : kOkE (26, 1, fun _ _ => .iload_n 0) := kx_0 (fun _ => ⟨_, rfl, rfl⟩)
theorem ko_16 : kOkE (16, 2, fun x _ => .bipush (Jvm.ClassFile.Reader.signed 8 x)) := kx_s1 (f := fun x => .bipush x) (fun _ => ⟨_, rfl, rfl⟩)
theorem ko_61 : kOkE (61, 1, fun _ _ => .istore_n 2) := kx_0 (fun _ => ⟨_, rfl, rfl⟩)
theorem ko_2 : kOkE (2, 1, fun _ _ => .iconst (-1)) := kx_0 (fun _ => ⟨_, rfl, rfl⟩)
theorem ko_80 : kOkE (80, 1, fun _ _ => .lastore) := kx_0 (fun _ => ⟨_, rfl, rfl⟩)
theorem ko_155 : kOkE (155, 3, fun x y => .ifCond .lt (Jvm.ClassFile.Reader.signed 16 (x * 256 + y))) := kx_s2 (f := fun x => .ifCond .lt x) (fun _ => ⟨_, rfl, rfl⟩)
theorem ko_89 : kOkE (89, 1, fun _ _ => .dup) := kx_0 (fun _ => ⟨_, rfl, rfl⟩)
theorem ko_58 : kOkE (58, 2, fun x _ => .astore x) := kx_u1 (f := fun x => .astore x) (fun _ => ⟨_, rfl, rfl⟩)
theorem ko_60 : kOkE (60, 1, fun _ _ => .istore_n 1) := kx_0 (fun _ => ⟨_, rfl, rfl⟩)
theorem ko_87 : kOkE (87, 1, fun _ _ => .pop) := kx_0 (fun _ => ⟨_, rfl, rfl⟩)
theorem ko_66 : kOkE (66, 1, fun _ _ => .lstore_n 3) := kx_0 (fun _ => ⟨_, rfl, rfl⟩)
theorem ko_105 : kOkE (105, 1, fun _ _ => .lmul) := kx_0 (fun _ => ⟨_, rfl, rfl⟩)
theorem ko_55 : kOkE (55, 2, fun x _ => .lstore x) := kx_u1 (f := fun x => .lstore x) (fun _ => ⟨_, rfl, rfl⟩)
theorem ko_64 : kOkE (64, 1, fun _ _ => .lstore_n 1) := kx_0 (fun _ => ⟨_, rfl, rfl⟩)
theorem ko_30 : kOkE (30, 1, fun _ _ => .lload_n 0) := kx_0 (fun _ => ⟨_, rfl, rfl⟩)
theorem ko_183 : kOkE (183, 3, fun x y => .invokespecial (x * 256 + y)) := kx_u2 (f := fun x => .invokespecial x) (fun _ => ⟨_, rfl, rfl⟩)
theorem ko_173 : kOkE (173, 1, fun _ _ => .lreturn) := kx_0 (fun _ => ⟨_, rfl, rfl⟩)
theorem ko_7 : kOkE (7, 1, fun _ _ => .iconst 4) := kx_0 (fun _ => ⟨_, rfl, rfl⟩)
theorem ko_160 : kOkE (160, 3, fun x y => .if_icmp .ne (Jvm.ClassFile.Reader.signed 16 (x * 256 + y))) := kx_s2 (f := fun x => .if_icmp .ne x) (fun _ => ⟨_, rfl, rfl⟩)
theorem ko_6 : kOkE (6, 1, fun _ _ => .iconst 3) := kx_0 (fun _ => ⟨_, rfl, rfl⟩)
theorem ko_177 : kOkE (177, 1, fun _ _ => .return_) := kx_0 (fun _ => ⟨_, rfl, rfl⟩)
theorem ko_9 : kOkE (9, 1, fun _ _ => .lconst 0) := kx_0 (fun _ => ⟨_, rfl, rfl⟩)
theorem ko_18 : kOkE (18, 2, fun x _ => .ldc x) := kx_u1 (f := fun x => .ldc x) (fun _ => ⟨_, rfl, rfl⟩)
theorem ko_176 : kOkE (176, 1, fun _ _ => .areturn) := kx_0 (fun _ => ⟨_, rfl, rfl⟩)
theorem ko_78 : kOkE (78, 1, fun _ _ => .astore_n 3) := kx_0 (fun _ => ⟨_, rfl, rfl⟩)
theorem ko_32 : kOkE (32, 1, fun _ _ => .lload_n 2) := kx_0 (fun _ => ⟨_, rfl, rfl⟩)
theorem ko_100 : kOkE (100, 1, fun _ _ => .isub) := kx_0 (fun _ => ⟨_, rfl, rfl⟩)
theorem ko_101 : kOkE (101, 1, fun _ _ => .lsub) := kx_0 (fun _ => ⟨_, rfl, rfl⟩)
theorem ko_104 : kOkE (104, 1, fun _ _ => .imul) := kx_0 (fun _ => ⟨_, rfl, rfl⟩)
theorem ko_159 : kOkE (159, 3, fun x y => .if_icmp .eq (Jvm.ClassFile.Reader.signed 16 (x * 256 + y))) := kx_s2 (f := fun x => .if_icmp .eq x) (fun _ => ⟨_, rfl, rfl⟩)
theorem ko_187 : kOkE (187, 3, fun x y => .new (x * 256 + y)) := kx_u2 (f := fun x => .new x) (fun _ => ⟨_, rfl, rfl⟩)
theorem ko_126 : kOkE (126, 1, fun _ _ => .iand) := kx_0 (fun _ => ⟨_, rfl, rfl⟩)
theorem ko_190 : kOkE (190, 1, fun _ _ => .arraylength) := kx_0 (fun _ => ⟨_, rfl, rfl⟩)
theorem ko_164 : kOkE (164, 3, fun x y => .if_icmp .le (Jvm.ClassFile.Reader.signed 16 (x * 256 + y))) := kx_s2 (f := fun x => .if_icmp .le x) (fun _ => ⟨_, rfl, rfl⟩)
theorem ko_10 : kOkE (10, 1, fun _ _ => .lconst 1) := kx_0 (fun _ => ⟨_, rfl, rfl⟩)
theorem ko_120 : kOkE (120, 1, fun _ _ => .ishl) := kx_0 (fun _ => ⟨_, rfl, rfl⟩)
theorem ko_158 : kOkE (158, 3, fun x y => .ifCond .le (Jvm.ClassFile.Reader.signed 16 (x * 256 + y))) := kx_s2 (f := fun x => .ifCond .le x) (fun _ => ⟨_, rfl, rfl⟩)
theorem ko_25 : kOkE (25, 2, fun x _ => .aload x) := kx_u1 (f := fun x => .aload x) (fun _ => ⟨_, rfl, rfl⟩)
theorem ko_51 : kOkE (51, 1, fun _ _ => .baload) := kx_0 (fun _ => ⟨_, rfl, rfl⟩)
theorem ko_84 : kOkE (84, 1, fun _ _ => .bastore) := kx_0 (fun _ => ⟨_, rfl, rfl⟩)
theorem ko_163 : kOkE (163, 3, fun x y => .if_icmp .gt (Jvm.ClassFile.Reader.signed 16 (x * 256 + y))) := kx_s2 (f := fun x => .if_icmp .gt x) (fun _ => ⟨_, rfl, rfl⟩)
theorem ko_122 : kOkE (122, 1, fun _ _ => .ishr) := kx_0 (fun _ => ⟨_, rfl, rfl⟩)
theorem ko_161 : kOkE (161, 3, fun x y => .if_icmp .lt (Jvm.ClassFile.Reader.signed 16 (x * 256 + y))) := kx_s2 (f := fun x => .if_icmp .lt x) (fun _ => ⟨_, rfl, rfl⟩)
theorem ko_178 : kOkE (178, 3, fun x y => .getstatic (x * 256 + y)) := kx_u2 (f := fun x => .getstatic x) (fun _ => ⟨_, rfl, rfl⟩)
theorem ko_19 : kOkE (19, 3, fun x y => .ldc_w (x * 256 + y)) := kx_u2 (f := fun x => .ldc_w x) (fun _ => ⟨_, rfl, rfl⟩)
theorem ko_59 : kOkE (59, 1, fun _ _ => .istore_n 0) := kx_0 (fun _ => ⟨_, rfl, rfl⟩)
theorem ko_157 : kOkE (157, 3, fun x y => .ifCond .gt (Jvm.ClassFile.Reader.signed 16 (x * 256 + y))) := kx_s2 (f := fun x => .ifCond .gt x) (fun _ => ⟨_, rfl, rfl⟩)
theorem ko_124 : kOkE (124, 1, fun _ _ => .iushr) := kx_0 (fun _ => ⟨_, rfl, rfl⟩)
theorem ko_191 : kOkE (191, 1, fun _ _ => .athrow) := kx_0 (fun _ => ⟨_, rfl, rfl⟩)
theorem ko_77 : kOkE (77, 1, fun _ _ => .astore_n 2) := kx_0 (fun _ => ⟨_, rfl, rfl⟩)
theorem ko_76 : kOkE (76, 1, fun _ _ => .astore_n 1) := kx_0 (fun _ => ⟨_, rfl, rfl⟩)
theorem ko_92 : kOkE (92, 1, fun _ _ => .dup2) := kx_0 (fun _ => ⟨_, rfl, rfl⟩)
theorem ko_136 : kOkE (136, 1, fun _ _ => .l2i) := kx_0 (fun _ => ⟨_, rfl, rfl⟩)
theorem ko_128 : kOkE (128, 1, fun _ _ => .ior) := kx_0 (fun _ => ⟨_, rfl, rfl⟩)
theorem ko_79 : kOkE (79, 1, fun _ _ => .iastore) := kx_0 (fun _ => ⟨_, rfl, rfl⟩)
theorem ko_116 : kOkE (116, 1, fun _ _ => .ineg) := kx_0 (fun _ => ⟨_, rfl, rfl⟩)
theorem ko_109 : kOkE (109, 1, fun _ _ => .ldiv) := kx_0 (fun _ => ⟨_, rfl, rfl⟩)
theorem ko_8 : kOkE (8, 1, fun _ _ => .iconst 5) := kx_0 (fun _ => ⟨_, rfl, rfl⟩)
theorem ko_131 : kOkE (131, 1, fun _ _ => .lxor) := kx_0 (fun _ => ⟨_, rfl, rfl⟩)
theorem ko_192 : kOkE (192, 3, fun x y => .checkcast (x * 256 + y)) := kx_u2 (f := fun x => .checkcast x) (fun _ => ⟨_, rfl, rfl⟩)
theorem ko_108 : kOkE (108, 1, fun _ _ => .idiv) := kx_0 (fun _ => ⟨_, rfl, rfl⟩)
theorem ko_90 : kOkE (90, 1, fun _ _ => .dup_x1) := kx_0 (fun _ => ⟨_, rfl, rfl⟩)
theorem ko_117 : kOkE (117, 1, fun _ _ => .lneg) := kx_0 (fun _ => ⟨_, rfl, rfl⟩)
theorem ko_65 : kOkE (65, 1, fun _ _ => .lstore_n 2) := kx_0 (fun _ => ⟨_, rfl, rfl⟩)
theorem ko_88 : kOkE (88, 1, fun _ _ => .pop2) := kx_0 (fun _ => ⟨_, rfl, rfl⟩)
theorem ko_113 : kOkE (113, 1, fun _ _ => .lrem) := kx_0 (fun _ => ⟨_, rfl, rfl⟩)
theorem ko_17 : kOkE (17, 3, fun x y => .sipush (Jvm.ClassFile.Reader.signed 16 (x * 256 + y))) := kx_s2 (f := fun x => .sipush x) (fun _ => ⟨_, rfl, rfl⟩)
theorem ko_145 : kOkE (145, 1, fun _ _ => .i2b) := kx_0 (fun _ => ⟨_, rfl, rfl⟩)
theorem ko_1 : kOkE (1, 1, fun _ _ => .aconst_null) := kx_0 (fun _ => ⟨_, rfl, rfl⟩)
theorem ko_199 : kOkE (199, 3, fun x y => .ifnonnull (Jvm.ClassFile.Reader.signed 16 (x * 256 + y))) := kx_s2 (f := fun x => .ifnonnull x) (fun _ => ⟨_, rfl, rfl⟩)
theorem ko_112 : kOkE (112, 1, fun _ _ => .irem) := kx_0 (fun _ => ⟨_, rfl, rfl⟩)
abbrev kT : List (Nat × Nat × (Nat → Nat → Instr)) := [(42, 1, fun _ _ => .aload_n 0), (180, 3, fun x y => .getfield (x * 256 + y)), (182, 3, fun x y => .invokevirtual (x * 256 + y)), (27, 1, fun _ _ => .iload_n 1), (167, 3, fun x y => .goto (Jvm.ClassFile.Reader.signed 16 (x * 256 + y))), (172, 1, fun _ _ => .ireturn), (3, 1, fun _ _ => .iconst 0), (21, 2, fun x _ => .iload x), (184, 3, fun x y => .invokestatic (x * 256 + y)), (4, 1, fun _ _ => .iconst 1), (28, 1, fun _ _ => .iload_n 2), (47, 1, fun _ _ => .laload), (96, 1, fun _ _ => .iadd), (29, 1, fun _ _ => .iload_n 3), (46, 1, fun _ _ => .iaload), (153, 3, fun x y => .ifCond .eq (Jvm.ClassFile.Reader.signed 16 (x * 256 + y))), (54, 2, fun x _ => .istore x), (181, 3, fun x y => .putfield (x * 256 + y)), (162, 3, fun x y => .if_icmp .ge (Jvm.ClassFile.Reader.signed 16 (x * 256 + y))), (132, 3, fun x y => .iinc x (Jvm.ClassFile.Reader.signed 8 y)), (5, 1, fun _ _ => .iconst 2), (148, 1, fun _ _ => .lcmp), (44, 1, fun _ _ => .aload_n 2), (154, 3, fun x y => .ifCond .ne (Jvm.ClassFile.Reader.signed 16 (x * 256 + y))), (43, 1, fun _ _ => .aload_n 1), (31, 1, fun _ _ => .lload_n 1), (33, 1, fun _ _ => .lload_n 3), (22, 2, fun x _ => .lload x), (97, 1, fun _ _ => .ladd), (133, 1, fun _ _ => .i2l), (45, 1, fun _ _ => .aload_n 3), (156, 3, fun x y => .ifCond .ge (Jvm.ClassFile.Reader.signed 16 (x * 256 + y))), (20, 3, fun x y => .ldc2_w (x * 256 + y)), (62, 1, fun _ _ => .istore_n 3), (26, 1, fun _ _ => .iload_n 0), (16, 2, fun x _ => .bipush (Jvm.ClassFile.Reader.signed 8 x)), (61, 1, fun _ _ => .istore_n 2), (2, 1, fun _ _ => .iconst (-1)), (80, 1, fun _ _ => .lastore), (155, 3, fun x y => .ifCond .lt (Jvm.ClassFile.Reader.signed 16 (x * 256 + y))), (89, 1, fun _ _ => .dup), (58, 2, fun x _ => .astore x), (60, 1, fun _ _ => .istore_n 1), (87, 1, fun _ _ => .pop), (66, 1, fun _ _ => .lstore_n 3), (105, 1, fun _ _ => .lmul), (55, 2, fun x _ => .lstore x), (64, 1, fun _ _ => .lstore_n 1), (30, 1, fun _ _ => .lload_n 0), (183, 3, fun x y => .invokespecial (x * 256 + y)), (173, 1, fun _ _ => .lreturn), (7, 1, fun _ _ => .iconst 4), (160, 3, fun x y => .if_icmp .ne (Jvm.ClassFile.Reader.signed 16 (x * 256 + y))), (6, 1, fun _ _ => .iconst 3), (177, 1, fun _ _ => .return_), (9, 1, fun _ _ => .lconst 0), (18, 2, fun x _ => .ldc x), (176, 1, fun _ _ => .areturn), (78, 1, fun _ _ => .astore_n 3), (32, 1, fun _ _ => .lload_n 2), (100, 1, fun _ _ => .isub), (101, 1, fun _ _ => .lsub), (104, 1, fun _ _ => .imul), (159, 3, fun x y => .if_icmp .eq (Jvm.ClassFile.Reader.signed 16 (x * 256 + y))), (187, 3, fun x y => .new (x * 256 + y)), (126, 1, fun _ _ => .iand), (190, 1, fun _ _ => .arraylength), (164, 3, fun x y => .if_icmp .le (Jvm.ClassFile.Reader.signed 16 (x * 256 + y))), (10, 1, fun _ _ => .lconst 1), (120, 1, fun _ _ => .ishl), (158, 3, fun x y => .ifCond .le (Jvm.ClassFile.Reader.signed 16 (x * 256 + y))), (25, 2, fun x _ => .aload x), (51, 1, fun _ _ => .baload), (84, 1, fun _ _ => .bastore), (163, 3, fun x y => .if_icmp .gt (Jvm.ClassFile.Reader.signed 16 (x * 256 + y))), (122, 1, fun _ _ => .ishr), (161, 3, fun x y => .if_icmp .lt (Jvm.ClassFile.Reader.signed 16 (x * 256 + y))), (178, 3, fun x y => .getstatic (x * 256 + y)), (19, 3, fun x y => .ldc_w (x * 256 + y)), (59, 1, fun _ _ => .istore_n 0), (157, 3, fun x y => .ifCond .gt (Jvm.ClassFile.Reader.signed 16 (x * 256 + y))), (124, 1, fun _ _ => .iushr), (191, 1, fun _ _ => .athrow), (77, 1, fun _ _ => .astore_n 2), (76, 1, fun _ _ => .astore_n 1), (92, 1, fun _ _ => .dup2), (136, 1, fun _ _ => .l2i), (128, 1, fun _ _ => .ior), (79, 1, fun _ _ => .iastore), (116, 1, fun _ _ => .ineg), (109, 1, fun _ _ => .ldiv), (8, 1, fun _ _ => .iconst 5), (131, 1, fun _ _ => .lxor), (192, 3, fun x y => .checkcast (x * 256 + y)), (108, 1, fun _ _ => .idiv), (90, 1, fun _ _ => .dup_x1), (117, 1, fun _ _ => .lneg), (65, 1, fun _ _ => .lstore_n 2), (88, 1, fun _ _ => .pop2), (113, 1, fun _ _ => .lrem), (17, 3, fun x y => .sipush (Jvm.ClassFile.Reader.signed 16 (x * 256 + y))), (145, 1, fun _ _ => .i2b), (1, 1, fun _ _ => .aconst_null), (199, 3, fun x y => .ifnonnull (Jvm.ClassFile.Reader.signed 16 (x * 256 + y))), (112, 1, fun _ _ => .irem)]
theorem kT_ok : ∀ e ∈ kT, kOkE e := List.forall_mem_cons.mpr ⟨ko_42, List.forall_mem_cons.mpr ⟨ko_180, List.forall_mem_cons.mpr ⟨ko_182, List.forall_mem_cons.mpr ⟨ko_27, List.forall_mem_cons.mpr ⟨ko_167, List.forall_mem_cons.mpr ⟨ko_172, List.forall_mem_cons.mpr ⟨ko_3, List.forall_mem_cons.mpr ⟨ko_21, List.forall_mem_cons.mpr ⟨ko_184, List.forall_mem_cons.mpr ⟨ko_4, List.forall_mem_cons.mpr ⟨ko_28, List.forall_mem_cons.mpr ⟨ko_47, List.forall_mem_cons.mpr ⟨ko_96, List.forall_mem_cons.mpr ⟨ko_29, List.forall_mem_cons.mpr ⟨ko_46, List.forall_mem_cons.mpr ⟨ko_153, List.forall_mem_cons.mpr ⟨ko_54, List.forall_mem_cons.mpr ⟨ko_181, List.forall_mem_cons.mpr ⟨ko_162, List.forall_mem_cons.mpr ⟨ko_132, List.forall_mem_cons.mpr ⟨ko_5, List.forall_mem_cons.mpr ⟨ko_148, List.forall_mem_cons.mpr ⟨ko_44, List.forall_mem_cons.mpr ⟨ko_154, List.forall_mem_cons.mpr ⟨ko_43, List.forall_mem_cons.mpr ⟨ko_31, List.forall_mem_cons.mpr ⟨ko_33, List.forall_mem_cons.mpr ⟨ko_22, List.forall_mem_cons.mpr ⟨ko_97, List.forall_mem_cons.mpr ⟨ko_133, List.forall_mem_cons.mpr ⟨ko_45, List.forall_mem_cons.mpr ⟨ko_156, List.forall_mem_cons.mpr ⟨ko_20, List.forall_mem_cons.mpr ⟨ko_62, List.forall_mem_cons.mpr ⟨ko_26, List.forall_mem_cons.mpr ⟨ko_16, List.forall_mem_cons.mpr ⟨ko_61, List.forall_mem_cons.mpr ⟨ko_2, List.forall_mem_cons.mpr ⟨ko_80, List.forall_mem_cons.mpr ⟨ko_155, List.forall_mem_cons.mpr ⟨ko_89, List.forall_mem_cons.mpr ⟨ko_58, List.forall_mem_cons.mpr ⟨ko_60, List.forall_mem_cons.mpr ⟨ko_87, List.forall_mem_cons.mpr ⟨ko_66, List.forall_mem_cons.mpr ⟨ko_105, List.forall_mem_cons.mpr ⟨ko_55, List.forall_mem_cons.mpr ⟨ko_64, List.forall_mem_cons.mpr ⟨ko_30, List.forall_mem_cons.mpr ⟨ko_183, List.forall_mem_cons.mpr ⟨ko_173, List.forall_mem_cons.mpr ⟨ko_7, List.forall_mem_cons.mpr ⟨ko_160, List.forall_mem_cons.mpr ⟨ko_6, List.forall_mem_cons.mpr ⟨ko_177, List.forall_mem_cons.mpr ⟨ko_9, List.forall_mem_cons.mpr ⟨ko_18, List.forall_mem_cons.mpr ⟨ko_176, List.forall_mem_cons.mpr ⟨ko_78, List.forall_mem_cons.mpr ⟨ko_32, List.forall_mem_cons.mpr ⟨ko_100, List.forall_mem_cons.mpr ⟨ko_101, List.forall_mem_cons.mpr ⟨ko_104, List.forall_mem_cons.mpr ⟨ko_159, List.forall_mem_cons.mpr ⟨ko_187, List.forall_mem_cons.mpr ⟨ko_126, List.forall_mem_cons.mpr ⟨ko_190, List.forall_mem_cons.mpr ⟨ko_164, List.forall_mem_cons.mpr ⟨ko_10, List.forall_mem_cons.mpr ⟨ko_120, List.forall_mem_cons.mpr ⟨ko_158, List.forall_mem_cons.mpr ⟨ko_25, List.forall_mem_cons.mpr ⟨ko_51, List.forall_mem_cons.mpr ⟨ko_84, List.forall_mem_cons.mpr ⟨ko_163, List.forall_mem_cons.mpr ⟨ko_122, List.forall_mem_cons.mpr ⟨ko_161, List.forall_mem_cons.mpr ⟨ko_178, List.forall_mem_cons.mpr ⟨ko_19, List.forall_mem_cons.mpr ⟨ko_59, List.forall_mem_cons.mpr ⟨ko_157, List.forall_mem_cons.mpr ⟨ko_124, List.forall_mem_cons.mpr ⟨ko_191, List.forall_mem_cons.mpr ⟨ko_77, List.forall_mem_cons.mpr ⟨ko_76, List.forall_mem_cons.mpr ⟨ko_92, List.forall_mem_cons.mpr ⟨ko_136, List.forall_mem_cons.mpr ⟨ko_128, List.forall_mem_cons.mpr ⟨ko_79, List.forall_mem_cons.mpr ⟨ko_116, List.forall_mem_cons.mpr ⟨ko_109, List.forall_mem_cons.mpr ⟨ko_8, List.forall_mem_cons.mpr ⟨ko_131, List.forall_mem_cons.mpr ⟨ko_192, List.forall_mem_cons.mpr ⟨ko_108, List.forall_mem_cons.mpr ⟨ko_90, List.forall_mem_cons.mpr ⟨ko_117, List.forall_mem_cons.mpr ⟨ko_65, List.forall_mem_cons.mpr ⟨ko_88, List.forall_mem_cons.mpr ⟨ko_113, List.forall_mem_cons.mpr ⟨ko_17, List.forall_mem_cons.mpr ⟨ko_145, List.forall_mem_cons.mpr ⟨ko_1, List.forall_mem_cons.mpr ⟨ko_199, List.forall_mem_cons.mpr ⟨ko_112, (fun _ h => nomatch h)⟩⟩⟩⟩⟩⟩⟩⟩⟩⟩⟩⟩⟩⟩⟩⟩⟩⟩⟩⟩⟩⟩⟩⟩⟩⟩⟩⟩⟩⟩⟩⟩⟩⟩⟩⟩⟩⟩⟩⟩⟩⟩⟩⟩⟩⟩⟩⟩⟩⟩⟩⟩⟩⟩⟩⟩⟩⟩⟩⟩⟩⟩⟩⟩⟩⟩⟩⟩⟩⟩⟩⟩⟩⟩⟩⟩⟩⟩⟩⟩⟩⟩⟩⟩⟩⟩⟩⟩⟩⟩⟩⟩⟩⟩⟩⟩⟩⟩⟩⟩⟩⟩⟩⟩⟩
theorem kdr {c : ByteArray} {LL : List (List (Nat × Instr × Nat))} (h : kRun kT c.data.toList 0 (List.flatten LL) = true) (j k : Nat) {L : List (Nat × Instr × Nat)} {p : Nat} {i : Instr} {n : Nat} (hj : LL[j]? = some L) (hk : L[k]? = some (p, i, n)) : decode c p = .ok (i, n) := by
  have hm : (p, i, n) ∈ List.flatten LL := List.mem_flatten.mpr ⟨L, List.mem_of_getElem? hj, List.mem_of_getElem? hk⟩
  obtain ⟨t, ht⟩ := List.getElem?_of_mem hm
  exact kRun_ok kT_ok List.drop_zero h t ht
