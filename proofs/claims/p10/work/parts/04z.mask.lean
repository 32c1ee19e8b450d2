/-! a world cut in two by a mask: linear facts, where the indices' own are quadratic -/
def kIT : List Bool → Nat → List Nat
  | [], _ => []
  | true :: m, k => k :: kIT m (k + 1)
  | false :: m, k => kIT m (k + 1)
def kST {α : Type} : List Bool → List α → List α
  | true :: m, x :: l => x :: kST m l
  | false :: m, _ :: l => kST m l
  | _, _ => []
def kLn {α : Type} : List Bool → List α → Bool
  | [], [] => true
  | _ :: m, _ :: l => kLn m l
  | _, _ => false
theorem km_gen {α : Type} : ∀ (m : List Bool) (pre l : List α), kLn m l = true → (kIT m pre.length).map (fun i => (pre ++ l)[i]?) = (kST m l).map some := by
  intro m
  induction m with
  | nil =>
    intro pre l h
    cases l with
    | nil => rfl
    | cons x l => exact absurd h (by simp [kLn])
  | cons b m ih =>
    intro pre l h
    cases l with
    | nil => exact absurd h (by simp [kLn])
    | cons x l =>
      have h' : kLn m l = true := h
      have e := ih (pre ++ [x]) l h'
      rw [List.append_assoc, List.singleton_append, List.length_append, List.length_singleton] at e
      cases b with
      | true =>
        rw [kIT, kST, List.map_cons, List.map_cons, e, List.getElem?_append_right (Nat.le_refl _), Nat.sub_self]
        rfl
      | false =>
        rw [kIT, kST, e]
theorem km_T {α : Type} {m : List Bool} {ws wc : List α} (hl : kLn m ws = true) (h : kST m ws = wc) : (kIT m 0).map (fun i => ws[i]?) = wc.map some := by
  rw [← h]; exact km_gen m [] ws hl
theorem km_fm {α : Type} {f : Nat → Option α} : ∀ (is : List Nat) (l : List α), is.map f = l.map some → is.filterMap f = l := by
  intro is
  induction is with
  | nil =>
    intro l h
    cases l with
    | nil => rfl
    | cons x l => exact absurd h (by simp)
  | cons i is ih =>
    intro l h
    cases l with
    | nil => exact absurd h (by simp)
    | cons x l =>
      rw [List.map_cons, List.map_cons] at h
      injection h with h1 h2
      rw [List.filterMap_cons_some h1, ih l h2]
theorem km_f {α : Type} {m : List Bool} {ws wc : List α} (hl : kLn m ws = true) (h : kST m ws = wc) : (kIT m 0).filterMap (fun i => ws[i]?) = wc := km_fm _ _ (km_T hl h)
theorem kIT_mem : ∀ (m : List Bool) (k i : Nat), i ∈ kIT m k ↔ k ≤ i ∧ m[i - k]? = some true := by
  intro m
  induction m with
  | nil => intro k i; simp [kIT]
  | cons b m ih =>
    intro k i
    by_cases e : i = k
    · subst e
      cases b with
      | true => simp [kIT]
      | false =>
        rw [kIT, ih, Nat.sub_self]
        constructor
        · intro ⟨h, _⟩; omega
        · intro ⟨_, h⟩; simp at h
    · have hs : k + 1 ≤ i → (b :: m)[i - k]? = m[i - (k + 1)]? := fun h => by
        rw [show i - k = (i - (k + 1)) + 1 by omega, List.getElem?_cons_succ]
      have hh : (k + 1 ≤ i ∧ m[i - (k + 1)]? = some true) ↔ (k ≤ i ∧ (b :: m)[i - k]? = some true) := by
        constructor
        · intro ⟨h1, h2⟩; exact ⟨by omega, by rw [hs h1]; exact h2⟩
        · intro ⟨h1, h2⟩
          have h3 : k + 1 ≤ i := by omega
          exact ⟨h3, by rw [← hs h3]; exact h2⟩
      cases b with
      | true =>
        rw [kIT, List.mem_cons, ih, ← hh]
        constructor
        · intro h
          rcases h with h | h
          · exact absurd h e
          · exact h
        · intro h; exact Or.inr h
      | false => rw [kIT, ih, ← hh]
theorem km_ndk : ∀ (m : List Bool) (k : Nat), va_nd (kIT m k) = true := by
  intro m
  induction m with
  | nil => intro k; rfl
  | cons b m ih =>
    intro k
    cases b with
    | true =>
      rw [kIT, va_nd, ih, Bool.and_true, decide_eq_true_iff]
      intro h
      have := ((kIT_mem m (k + 1) k).mp h).1
      omega
    | false => rw [kIT]; exact ih _
theorem km_nd (m : List Bool) : va_nd (kIT m 0) = true := km_ndk m 0
theorem kLn_len {α : Type} : ∀ (m : List Bool) (l : List α), kLn m l = true → l.length = m.length := by
  intro m
  induction m with
  | nil =>
    intro l h
    cases l with
    | nil => rfl
    | cons x l => exact absurd h (by simp [kLn])
  | cons b m ih =>
    intro l h
    cases l with
    | nil => exact absurd h (by simp [kLn])
    | cons x l => rw [List.length_cons, List.length_cons, ih l h]
theorem km_cov {α : Type} {m n : List Bool} {ws : List α} (hl : kLn m ws = true) (hn : n = m.map (!·)) : (List.range ws.length).all (fun i => (kIT m 0).contains i || (kIT n 0).contains i) = true := by
  rw [List.all_eq_true]
  intro i hi
  rw [List.mem_range, kLn_len m ws hl] at hi
  have e : m[i]? = some m[i] := List.getElem?_eq_getElem hi
  rw [Bool.or_eq_true_iff, List.contains_iff_mem, List.contains_iff_mem, kIT_mem, kIT_mem, Nat.sub_zero, hn, List.getElem?_map, e]
  cases hb : m[i] with
  | true => exact Or.inl ⟨Nat.zero_le _, rfl⟩
  | false => exact Or.inr ⟨Nat.zero_le _, rfl⟩
theorem km_dis {m n : List Bool} (hn : n = m.map (!·)) : ∀ i ∈ kIT n 0, i ∉ kIT m 0 := by
  intro i h1 h2
  have a := ((kIT_mem n 0 i).mp h1).2
  have b := ((kIT_mem m 0 i).mp h2).2
  rw [hn, List.getElem?_map] at a
  rw [Nat.sub_zero] at a b
  rw [b] at a
  exact absurd a (by decide)
abbrev mk_0 : List Bool := [false, true]
abbrev mk_1 : List Bool := [true, false]
abbrev mk_2 : List Bool := [true]
abbrev mk_3 : List Bool := [false]
abbrev mk_4 : List Bool := [false, false, true]
abbrev mk_5 : List Bool := [true, true, false]
abbrev mk_6 : List Bool := []
abbrev mk_7 : List Bool := [false, false]
abbrev mk_8 : List Bool := [true, true]
abbrev mk_9 : List Bool := [false, false, false, false, false, false, false, false, false, false, false, false, false, false, false, true, true]
abbrev mk_10 : List Bool := [true, true, true, true, true, true, true, true, true, true, true, true, true, true, true, false, false]
abbrev mk_11 : List Bool := [true, true, true, true, true, true, true]
abbrev mk_12 : List Bool := [false, false, false, false, false, false, false]
abbrev mk_13 : List Bool := [false, false, false, false, false, true, false]
abbrev mk_14 : List Bool := [true, true, true, true, true, false, true]
abbrev mk_15 : List Bool := [false, false, false, false, false, false, true]
abbrev mk_16 : List Bool := [true, true, true, true, true, true, false]
abbrev mk_17 : List Bool := [false, true, false, false, false, false, false]
abbrev mk_18 : List Bool := [true, false, true, true, true, true, true]
abbrev mk_19 : List Bool := [false, false, true, false, false, false, false, false]
abbrev mk_20 : List Bool := [true, true, false, true, true, true, true, true]
abbrev mk_21 : List Bool := [false, false, false, true, false, false, false, false, false]
abbrev mk_22 : List Bool := [true, true, true, false, true, true, true, true, true]
abbrev mk_23 : List Bool := [false, false, false, false, false, true, false, false, false, false]
abbrev mk_24 : List Bool := [true, true, true, true, true, false, true, true, true, true]
abbrev mk_25 : List Bool := [false, false, false, false, false, false, true, false, false, false, false]
abbrev mk_26 : List Bool := [true, true, true, true, true, true, false, true, true, true, true]
abbrev mk_27 : List Bool := [false, false, true, false, false, false, false]
abbrev mk_28 : List Bool := [true, true, false, true, true, true, true]
abbrev mk_29 : List Bool := [false, false, false, true, false, false, false]
abbrev mk_30 : List Bool := [true, true, true, false, true, true, true]
abbrev mk_31 : List Bool := [false, false, true, true, false, false, false]
abbrev mk_32 : List Bool := [true, true, false, false, true, true, true]
abbrev mk_33 : List Bool := [false, false, false, false, false, true, true]
abbrev mk_34 : List Bool := [true, true, true, true, true, false, false]
abbrev mk_35 : List Bool := [false, false, false, false, false, true, true, false]
abbrev mk_36 : List Bool := [true, true, true, true, true, false, false, true]
abbrev mk_37 : List Bool := [false, false, false, false, false, false, false, true, true]
abbrev mk_38 : List Bool := [true, true, true, true, true, true, true, false, false]
abbrev mk_39 : List Bool := [true, true, true, true, true, true, true, true, true, true, true, true, true, true, true, false]
abbrev mk_40 : List Bool := [false, false, false, false, false, false, false, false, false, false, false, false, false, false, false, true]
abbrev mk_41 : List Bool := [false, false, false, false, false, false, false, false, false, false, false, false, false, false, false, true, true, true, true, true, true, true, false]
abbrev mk_42 : List Bool := [true, true, true, true, true, true, true, true, true, true, true, true, true, true, true, false, false, false, false, false, false, false, true]
