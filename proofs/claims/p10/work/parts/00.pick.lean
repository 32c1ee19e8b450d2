/-! words picked out of a chunk of the tables by gaps: one look through the chunk for many words -/
def kPg {α : Type} : List Nat → List α → List α
  | [], _ => []
  | g :: m, l => match l.drop g with
    | [] => []
    | x :: r => x :: kPg m r
abbrev gpC (g : Nat) (m : List Nat) : List Nat := g :: m
abbrev gpE : List Nat := []
theorem kPg_mem {α : Type} : ∀ (m : List Nat) (l : List α) (w : α), w ∈ kPg m l → w ∈ l := by
  intro m
  induction m with
  | nil => intro l w h; simp [kPg] at h
  | cons g m ih =>
    intro l w h
    rw [kPg] at h
    cases hd : l.drop g with
    | nil => rw [hd] at h; simp at h
    | cons x r =>
      rw [hd] at h
      have h' : w ∈ x :: kPg m r := h
      have hs : ∀ y, y ∈ x :: r → y ∈ l := fun y hy => List.mem_of_mem_drop (by rw [hd]; exact hy)
      rcases List.mem_cons.mp h' with e | e
      · rw [e]; exact hs x List.mem_cons_self
      · exact hs w (List.mem_cons_of_mem _ (ih r w e))
theorem kPg_at {α : Type} {m : List Nat} {l : List α} {LL : List (List α)} (h : kPg m l = List.flatten LL) (j k : Nat) {L : List α} {w : α} (hj : LL[j]? = some L) (hk : L[k]? = some w) : w ∈ l := kPg_mem m l w (by rw [h]; exact List.mem_flatten.mpr ⟨L, List.mem_of_getElem? hj, List.mem_of_getElem? hk⟩)
