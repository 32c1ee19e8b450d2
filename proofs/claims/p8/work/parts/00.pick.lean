/-! words picked out of a chunk of the tables by a mask: one look through the chunk for many words -/
def kPk {α : Type} : List Bool → List α → List α
  | true :: m, x :: l => x :: kPk m l
  | false :: m, _ :: l => kPk m l
  | _, _ => []
theorem kPk_mem {α : Type} : ∀ (m : List Bool) (l : List α) (w : α), w ∈ kPk m l → w ∈ l := by
  intro m
  induction m with
  | nil => intro l w h; simp [kPk] at h
  | cons b m ih =>
    intro l w h
    cases l with
    | nil => cases b <;> simp [kPk] at h
    | cons x l =>
      cases b with
      | true =>
        rw [kPk, List.mem_cons] at h
        rcases h with h | h
        · rw [h]; exact List.mem_cons_self
        · exact List.mem_cons_of_mem _ (ih l w h)
      | false =>
        rw [kPk] at h
        exact List.mem_cons_of_mem _ (ih l w h)
theorem kPk_at {α : Type} {m : List Bool} {l L : List α} (h : kPk m l = L) (k : Nat) {w : α} (g : L[k]? = some w) : w ∈ l := kPk_mem m l w (by rw [h]; exact List.mem_of_getElem? g)
