/-! decode rows out of windows of a few bytes: what a reader says of a window, it says of the whole code -/
abbrev kWi (c w : ByteArray) (o : Nat) : Prop := ∀ i, (h : i < w.size) → ∃ h' : o + i < c.size, c[o + i] = w[i]
def kShf {α : Type} (r : Jvm.ClassFile.Decoder α) : Prop := ∀ (c w : ByteArray) (o p : Nat) (a : α) (q : Nat), kWi c w o → r w p = .ok (a, q) → r c (o + p) = .ok (a, o + q)
theorem sh_pure {α : Type} (x : α) : kShf (Pure.pure x) := fun c w o p a q hw h => by
  have h' : (Except.ok (x, p) : Except Jvm.ClassFile.DecodeError (α × Nat)) = .ok (a, q) := h
  injection h' with h1
  injection h1 with h2 h3
  subst h2; subst h3; rfl
theorem rd_bind {α β : Type} (r : Jvm.ClassFile.Decoder α) (f : α → Jvm.ClassFile.Decoder β) (d : ByteArray) (k : Nat) : (r >>= f) d k = (match r d k with | .error z => .error z | .ok x => f x.1 d x.2) := by
  have e : (r >>= f) d k = Except.bind (r d k) (fun x => f x.1 d x.2) := rfl
  rw [e]
  cases r d k <;> rfl
theorem sh_bind {α β : Type} {r : Jvm.ClassFile.Decoder α} {f : α → Jvm.ClassFile.Decoder β} (hr : kShf r) (hf : ∀ a, kShf (f a)) : kShf (r >>= f) := fun c w o p a q hw h => by
  rw [rd_bind] at h ⊢
  cases hx : r w p with
  | error z => rw [hx] at h; cases h
  | ok x =>
    rw [hx] at h
    rw [hr c w o p x.1 x.2 hw hx]
    exact hf x.1 c w o x.2 a q hw h
theorem sh_map {α β : Type} {r : Jvm.ClassFile.Decoder α} (f : α → β) (hr : kShf r) : kShf (f <$> r) := fun c w o p a q hw h => by
  have e : ∀ (d : ByteArray) (k : Nat), (f <$> r) d k = (match r d k with | .error z => .error z | .ok x => .ok (f x.1, x.2)) := fun d k => by
    have e1 : (f <$> r) d k = Except.bind (r d k) (fun x => .ok (f x.1, x.2)) := rfl
    rw [e1]
    cases r d k <;> rfl
  rw [e] at h ⊢
  cases hx : r w p with
  | error z => rw [hx] at h; cases h
  | ok x =>
    rw [hx] at h
    rw [hr c w o p x.1 x.2 hw hx]
    have h' : (Except.ok (f x.1, x.2) : Except Jvm.ClassFile.DecodeError (β × Nat)) = .ok (a, q) := h
    injection h' with h1
    injection h1 with h2 h3
    subst h2; subst h3; rfl
theorem rd_u1 (d : ByteArray) (k : Nat) : (Jvm.ClassFile.Reader.u1 : Jvm.ClassFile.Decoder Nat) d k = if h : k < d.size then .ok (d[k].toNat, k + 1) else .error (.truncated k) := by
  by_cases h : k < d.size
  · rw [dif_pos h]
    show (if h : k < d.size then _ else _ : Jvm.ClassFile.Decoder Nat) d k = _
    rw [dif_pos h]; rfl
  · rw [dif_neg h]
    show (if h : k < d.size then _ else _ : Jvm.ClassFile.Decoder Nat) d k = _
    rw [dif_neg h]; rfl
theorem sh_u1 : kShf (Jvm.ClassFile.Reader.u1 : Jvm.ClassFile.Decoder Nat) := fun c w o p a q hw h => by
  rw [rd_u1] at h ⊢
  by_cases hp : p < w.size
  · rw [dif_pos hp] at h
    obtain ⟨h1, e1⟩ := hw p hp
    rw [dif_pos h1, e1]
    injection h with h2
    injection h2 with h3 h4
    subst h3; subst h4; rfl
  · rw [dif_neg hp] at h; cases h
theorem sh_u2 : kShf (Jvm.ClassFile.Reader.u2 : Jvm.ClassFile.Decoder Nat) := sh_bind sh_u1 fun _ => sh_bind sh_u1 fun _ => sh_pure _
theorem sh_s1 : kShf (Jvm.ClassFile.Reader.s1 : Jvm.ClassFile.Decoder Int) := sh_map _ sh_u1
theorem sh_s2 : kShf (Jvm.ClassFile.Reader.s2 : Jvm.ClassFile.Decoder Int) := sh_map _ sh_u2
def kOp (pc b : Nat) : Prop := ∃ K : Nat → Jvm.ClassFile.Decoder Instr, Jvm.ClassFile.Decoder.instr pc = Jvm.ClassFile.Reader.u1 >>= K ∧ kShf (K b)
theorem kWi_of {c : ByteArray} {l : List UInt8} {o : Nat} (h : (c.data.toList.drop o).take l.length = l) : kWi c ⟨⟨l⟩⟩ o := fun i hi => by
  have hi' : i < l.length := hi
  have e : c.data.toList[o + i]? = some l[i] := by
    have e1 : ((c.data.toList.drop o).take l.length)[i]? = some l[i] := by rw [h]; exact List.getElem?_eq_getElem hi'
    rw [List.getElem?_take_of_lt hi', List.getElem?_drop] at e1
    exact e1
  obtain ⟨h1, h2⟩ := List.getElem?_eq_some_iff.mp e
  have h3 : o + i < c.size := by
    rw [Array.length_toList] at h1; exact h1
  refine ⟨h3, ?_⟩
  show c.data[o + i] = l[i]
  rw [← h2, Array.getElem_toList]
theorem kd_row {c : ByteArray} {pc k : Nat} {b0 : UInt8} {bs : List UInt8} {ins : Instr} (hop : kOp pc b0.toNat) (hw : (c.data.toList.drop pc).take (bs.length + 1) = b0 :: bs) (h : Jvm.ClassFile.Decoder.instr pc ⟨⟨b0 :: bs⟩⟩ 0 = .ok (ins, k)) : decode c pc = .ok (ins, k) := by
  obtain ⟨K, e, hK⟩ := hop
  have hwi : kWi c ⟨⟨b0 :: bs⟩⟩ pc := kWi_of hw
  have h0 : (0 : Nat) < (⟨⟨b0 :: bs⟩⟩ : ByteArray).size := Nat.succ_pos _
  have r1 : Jvm.ClassFile.Decoder.instr pc c pc = .ok (ins, pc + k) := by
    rw [e, rd_bind, rd_u1, dif_pos h0] at h
    obtain ⟨h1, e1⟩ := hwi 0 h0
    have h1' : pc < c.size := h1
    have e1' : c[pc] = b0 := e1
    rw [e, rd_bind, rd_u1, dif_pos h1', e1']
    exact hK c ⟨⟨b0 :: bs⟩⟩ pc 1 ins k hwi h
  unfold decode Jvm.ClassFile.Reader.runAt
  show Except.bind (Jvm.ClassFile.Decoder.instr pc c pc) _ = _
  rw [r1]
  show Except.ok (ins, pc + k - pc) = _
  rw [Nat.add_sub_cancel_left]
theorem kd_win {L M : List UInt8} {a j n pc : Nat} {v : List UInt8} (hM : (L.drop a).take 72 = M) (hp : pc = a + j) (hj : (M.drop j).take n = v) (hn : j + n ≤ 72) : (L.drop pc).take n = v := by
  rw [hp, ← hj, ← hM, List.drop_take, List.take_take, List.drop_drop, Nat.min_eq_left (by omega)]
