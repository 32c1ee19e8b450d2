-- 00.pick.lean.txt
section
/-! words picked out of a chunk of the tables by gaps: one look through the chunk for many words -/
def kPg {α : Type} : List Nat → List α → List α
  | [], _ => []
  | g :: m, l => match l.drop g with
    | [] => []
    | x :: r => x :: kPg m r
abbrev gpC (g : Nat) (m : List Nat) : List Nat := g :: m
abbrev gpE : List Nat := []
theorem kPg_mem {α : Type} : ∀ (m : List Nat) (l : List α) (w : α), w ∈ kPg m l → w ∈ l := by
  intro m
  induction m with
  | nil => intro l w h; simp [kPg] at h
  | cons g m ih =>
    intro l w h
    rw [kPg] at h
    cases hd : l.drop g with
    | nil => rw [hd] at h; simp at h
    | cons x r =>
      rw [hd] at h
      have h' : w ∈ x :: kPg m r := h
      have hs : ∀ y, y ∈ x :: r → y ∈ l := fun y hy => List.mem_of_mem_drop (by rw [hd]; exact hy)
      rcases List.mem_cons.mp h' with e | e
      · rw [e]; exact hs x List.mem_cons_self
      · exact hs w (List.mem_cons_of_mem _ (ih r w e))
theorem kPg_at {α : Type} {m : List Nat} {l : List α} {LL : List (List α)} (h : kPg m l = List.flatten LL) (j k : Nat) {L : List α} {w : α} (hj : LL[j]? = some L) (hk : L[k]? = some w) : w ∈ l := kPg_mem m l w (by rw [h]; exact List.mem_flatten.mpr ⟨L, List.mem_of_getElem? hj, List.mem_of_getElem? hk⟩)
end
-- 01.tbl.lean.txt
section
-- ===== PART A: goes FIRST, ahead of the names: the tables' words, and 'selects' of the private methods out of them =====
/-- a private method of a class that the tables say can be made, by its rows of tables_1 -/
def lw_okq (q : MethodName × Nat) : Prop := (q.1.cls ≠ "java/lang/invoke/MethodHandle" ∧ q.1.cls ≠ "java/lang/invoke/VarHandle") ∧ Cond.instantiable q.1.cls q.2 ∈ tables_1 ∧ Cond.privateMethod q.1 ∈ tables_1 ∧ Cond.instanceMethod q.1 ∈ tables_1
abbrev wpC (w : Cond) (L : List Cond) : List Cond := w :: L
abbrev wpE : List Cond := []
abbrev wpL (L : List Cond) (M : List (List Cond)) : List (List Cond) := L :: M
abbrev wpN : List (List Cond) := []
theorem kt_g1 {m : List Nat} {LL : List (List Cond)} (h : kPg m tables_1_1 = List.flatten LL) (j k : Nat) {L : List Cond} {w : Cond} (hj : LL[j]? = some L) (hk : L[k]? = some w) : w ∈ tables_1 := (List.mem_append_left _ (kPg_at h j k hj hk))
theorem kt_g2 {m : List Nat} {LL : List (List Cond)} (h : kPg m tables_1_2 = List.flatten LL) (j k : Nat) {L : List Cond} {w : Cond} (hj : LL[j]? = some L) (hk : L[k]? = some w) : w ∈ tables_1 := (List.mem_append_right _ (List.mem_append_left _ (kPg_at h j k hj hk)))
theorem kt_g3 {m : List Nat} {LL : List (List Cond)} (h : kPg m tables_1_3 = List.flatten LL) (j k : Nat) {L : List Cond} {w : Cond} (hj : LL[j]? = some L) (hk : L[k]? = some w) : w ∈ tables_1 := (List.mem_append_right _ (List.mem_append_right _ (List.mem_append_left _ (kPg_at h j k hj hk))))
theorem kt_g4 {m : List Nat} {LL : List (List Cond)} (h : kPg m tables_1_4 = List.flatten LL) (j k : Nat) {L : List Cond} {w : Cond} (hj : LL[j]? = some L) (hk : L[k]? = some w) : w ∈ tables_1 := (List.mem_append_right _ (List.mem_append_right _ (List.mem_append_right _ (List.mem_append_left _ (kPg_at h j k hj hk)))))
theorem kt_g5 {m : List Nat} {LL : List (List Cond)} (h : kPg m tables_1_5 = List.flatten LL) (j k : Nat) {L : List Cond} {w : Cond} (hj : LL[j]? = some L) (hk : L[k]? = some w) : w ∈ tables_1 := (List.mem_append_right _ (List.mem_append_right _ (List.mem_append_right _ (List.mem_append_right _ (List.mem_append_left _ (kPg_at h j k hj hk))))))
theorem kt_g6 {m : List Nat} {LL : List (List Cond)} (h : kPg m tables_1_6 = List.flatten LL) (j k : Nat) {L : List Cond} {w : Cond} (hj : LL[j]? = some L) (hk : L[k]? = some w) : w ∈ tables_1 := (List.mem_append_right _ (List.mem_append_right _ (List.mem_append_right _ (List.mem_append_right _ (List.mem_append_right _ (List.mem_append_left _ (kPg_at h j k hj hk)))))))
theorem kt_g7 {m : List Nat} {LL : List (List Cond)} (h : kPg m tables_1_7 = List.flatten LL) (j k : Nat) {L : List Cond} {w : Cond} (hj : LL[j]? = some L) (hk : L[k]? = some w) : w ∈ tables_1 := (List.mem_append_right _ (List.mem_append_right _ (List.mem_append_right _ (List.mem_append_right _ (List.mem_append_right _ (List.mem_append_right _ (kPg_at h j k hj hk)))))))
set_option maxRecDepth 100000 in
theorem kSp_1 : kPg (gpC 22 (gpC 8 (gpC 60 (gpC 0 (gpC 33 (gpC 0 (gpC 2 (gpC 0 (gpC 10 (gpC 0 (gpC 2 (gpC 0 (gpC 23 (gpC 0 (gpC 2 (gpC 0 (gpC 10 (gpC 0 (gpC 2 (gpC 0 (gpC 6 (gpC 0 (gpC 2 (gpC 0 (gpC 11 (gpC 0 (gpC 2 (gpC 0 (gpC 6 (gpC 0 (gpC 2 (gpC 0 (gpC 2 (gpC 0 gpE)))))))))))))))))))))))))))))))))) tables_1_1 = List.flatten (wpL (wpC (Cond.instantiable "Spanbooker" 10) (wpC (Cond.instantiable "Spanbooker$Row" 4) (wpC (Cond.privateMethod ⟨"Spanbooker", "done", "(I)I"⟩) (wpC (Cond.instanceMethod ⟨"Spanbooker", "done", "(I)I"⟩) (wpC (Cond.privateMethod ⟨"Spanbooker", "findFrees", "()V"⟩) (wpC (Cond.instanceMethod ⟨"Spanbooker", "findFrees", "()V"⟩) (wpC (Cond.privateMethod ⟨"Spanbooker", "firstWithoutSpan", "(JJ)J"⟩) (wpC (Cond.instanceMethod ⟨"Spanbooker", "firstWithoutSpan", "(JJ)J"⟩) (wpC (Cond.privateMethod ⟨"Spanbooker$Row", "isIn", "(I)Z"⟩) (wpC (Cond.instanceMethod ⟨"Spanbooker$Row", "isIn", "(I)Z"⟩) (wpC (Cond.privateMethod ⟨"Spanbooker", "firstTaken", "(J)J"⟩) (wpC (Cond.instanceMethod ⟨"Spanbooker", "firstTaken", "(J)J"⟩) wpE)))))))))))) (wpL (wpC (Cond.privateMethod ⟨"Spanbooker", "nextChosen", "(I)I"⟩) (wpC (Cond.instanceMethod ⟨"Spanbooker", "nextChosen", "(I)I"⟩) (wpC (Cond.privateMethod ⟨"Spanbooker", "meetsOneOf", "(II)Z"⟩) (wpC (Cond.instanceMethod ⟨"Spanbooker", "meetsOneOf", "(II)Z"⟩) (wpC (Cond.privateMethod ⟨"Spanbooker", "findRooms", "()V"⟩) (wpC (Cond.instanceMethod ⟨"Spanbooker", "findRooms", "()V"⟩) (wpC (Cond.privateMethod ⟨"Spanbooker", "firstWithoutRoom", "()I"⟩) (wpC (Cond.instanceMethod ⟨"Spanbooker", "firstWithoutRoom", "()I"⟩) (wpC (Cond.privateMethod ⟨"Spanbooker", "smallestRoom", "(I)I"⟩) (wpC (Cond.instanceMethod ⟨"Spanbooker", "smallestRoom", "(I)I"⟩) (wpC (Cond.privateMethod ⟨"Spanbooker", "roomCount", "()I"⟩) (wpC (Cond.instanceMethod ⟨"Spanbooker", "roomCount", "()I"⟩) wpE)))))))))))) (wpL (wpC (Cond.privateMethod ⟨"Spanbooker", "isSoundInSpans", "()Z"⟩) (wpC (Cond.instanceMethod ⟨"Spanbooker", "isSoundInSpans", "()Z"⟩) (wpC (Cond.privateMethod ⟨"Spanbooker", "isInCalendar", "(JJ)Z"⟩) (wpC (Cond.instanceMethod ⟨"Spanbooker", "isInCalendar", "(JJ)Z"⟩) (wpC (Cond.privateMethod ⟨"Spanbooker", "isSoundInFrees", "()Z"⟩) (wpC (Cond.instanceMethod ⟨"Spanbooker", "isSoundInFrees", "()Z"⟩) (wpC (Cond.privateMethod ⟨"Spanbooker", "takenLength", "()J"⟩) (wpC (Cond.instanceMethod ⟨"Spanbooker", "takenLength", "()J"⟩) (wpC (Cond.privateMethod ⟨"Spanbooker", "freeLength", "()J"⟩) (wpC (Cond.instanceMethod ⟨"Spanbooker", "freeLength", "()J"⟩) wpE)))))))))) wpN))) := rfl
set_option maxRecDepth 100000 in
theorem kSp_2 : kPg (gpC 1 (gpC 0 (gpC 3 (gpC 0 (gpC 8 (gpC 0 (gpC 2 (gpC 0 (gpC 8 (gpC 0 (gpC 19 (gpC 0 (gpC 47 (gpC 0 (gpC 0 (gpC 40 (gpC 0 (gpC 6 (gpC 0 (gpC 53 (gpC 0 (gpC 26 (gpC 0 gpE))))))))))))))))))))))) tables_1_2 = List.flatten (wpL (wpC (Cond.privateMethod ⟨"Spanbooker", "isSoundInWishes", "()Z"⟩) (wpC (Cond.instanceMethod ⟨"Spanbooker", "isSoundInWishes", "()Z"⟩) (wpC (Cond.privateMethod ⟨"Spanbooker", "isWithoutMeeting", "(I)Z"⟩) (wpC (Cond.instanceMethod ⟨"Spanbooker", "isWithoutMeeting", "(I)Z"⟩) (wpC (Cond.privateMethod ⟨"Spanbooker", "mostOfAllSets", "()I"⟩) (wpC (Cond.instanceMethod ⟨"Spanbooker", "mostOfAllSets", "()I"⟩) (wpC (Cond.privateMethod ⟨"Spanbooker", "setOfAllWishes", "()I"⟩) (wpC (Cond.instanceMethod ⟨"Spanbooker", "setOfAllWishes", "()I"⟩) (wpC (Cond.privateMethod ⟨"Spanbooker", "mixCells", "(J)J"⟩) (wpC (Cond.instanceMethod ⟨"Spanbooker", "mixCells", "(J)J"⟩) (wpC (Cond.privateMethod ⟨"Spanbooker", "mixSpans", "(J)J"⟩) (wpC (Cond.instanceMethod ⟨"Spanbooker", "mixSpans", "(J)J"⟩) wpE)))))))))))) (wpL (wpC (Cond.privateMethod ⟨"java/lang/Throwable", "fillInStackTrace", "(I)Ljava/lang/Throwable;"⟩) (wpC (Cond.instanceMethod ⟨"java/lang/Throwable", "fillInStackTrace", "(I)Ljava/lang/Throwable;"⟩) (wpC (Cond.instantiable "java/lang/Throwable" 6) (wpC (Cond.privateMethod ⟨"Spanbooker", "mixFrees", "(J)J"⟩) (wpC (Cond.instanceMethod ⟨"Spanbooker", "mixFrees", "(J)J"⟩) (wpC (Cond.privateMethod ⟨"Spanbooker", "mixWishes", "(J)J"⟩) (wpC (Cond.instanceMethod ⟨"Spanbooker", "mixWishes", "(J)J"⟩) (wpC (Cond.privateMethod ⟨"Spanbooker", "refuse", "()I"⟩) (wpC (Cond.instanceMethod ⟨"Spanbooker", "refuse", "()I"⟩) (wpC (Cond.privateMethod ⟨"Spanbooker", "bring", "(JI)I"⟩) (wpC (Cond.instanceMethod ⟨"Spanbooker", "bring", "(JI)I"⟩) wpE))))))))))) wpN)) := rfl
set_option maxRecDepth 100000 in
theorem kSp_3 : kPg (gpC 19 (gpC 0 (gpC 25 (gpC 0 (gpC 24 (gpC 0 gpE)))))) tables_1_3 = List.flatten (wpL (wpC (Cond.privateMethod ⟨"Spanbooker", "isAllLetAfter", "(J)Z"⟩) (wpC (Cond.instanceMethod ⟨"Spanbooker", "isAllLetAfter", "(J)Z"⟩) (wpC (Cond.privateMethod ⟨"Spanbooker", "addSpan", "(JJZ)I"⟩) (wpC (Cond.instanceMethod ⟨"Spanbooker", "addSpan", "(JJZ)I"⟩) (wpC (Cond.privateMethod ⟨"Spanbooker", "changeSpan", "(IJJ)Z"⟩) (wpC (Cond.instanceMethod ⟨"Spanbooker", "changeSpan", "(IJJ)Z"⟩) wpE)))))) wpN) := rfl
set_option maxRecDepth 100000 in
theorem kSp_5 : kPg (gpC 50 (gpC 60 (gpC 0 (gpC 8 (gpC 0 (gpC 6 (gpC 0 (gpC 20 (gpC 0 (gpC 28 (gpC 0 (gpC 2 (gpC 0 (gpC 2 (gpC 0 (gpC 5 (gpC 0 (gpC 6 (gpC 0 (gpC 22 (gpC 0 gpE))))))))))))))))))))) tables_1_5 = List.flatten (wpL (wpC (Cond.instantiable "SpanbookerModel" 14) (wpC (Cond.privateMethod ⟨"SpanbookerModel", "isThrown", "(ZZ)Z"⟩) (wpC (Cond.instanceMethod ⟨"SpanbookerModel", "isThrown", "(ZZ)Z"⟩) (wpC (Cond.privateMethod ⟨"SpanbookerModel", "no", "()I"⟩) (wpC (Cond.instanceMethod ⟨"SpanbookerModel", "no", "()I"⟩) (wpC (Cond.privateMethod ⟨"SpanbookerModel", "done", "(I)I"⟩) (wpC (Cond.instanceMethod ⟨"SpanbookerModel", "done", "(I)I"⟩) (wpC (Cond.privateMethod ⟨"SpanbookerModel", "isThrown", "(Z)Z"⟩) (wpC (Cond.instanceMethod ⟨"SpanbookerModel", "isThrown", "(Z)Z"⟩) (wpC (Cond.privateMethod ⟨"SpanbookerModel", "mayCome", "(JJZ)Z"⟩) (wpC (Cond.instanceMethod ⟨"SpanbookerModel", "mayCome", "(JJZ)Z"⟩) (wpC (Cond.privateMethod ⟨"SpanbookerModel", "isIn", "(JJ)Z"⟩) wpE)))))))))))) (wpL (wpC (Cond.instanceMethod ⟨"SpanbookerModel", "isIn", "(JJ)Z"⟩) (wpC (Cond.privateMethod ⟨"SpanbookerModel", "meetsSome", "(JJI)Z"⟩) (wpC (Cond.instanceMethod ⟨"SpanbookerModel", "meetsSome", "(JJI)Z"⟩) (wpC (Cond.privateMethod ⟨"SpanbookerModel", "come", "(JJZ)I"⟩) (wpC (Cond.instanceMethod ⟨"SpanbookerModel", "come", "(JJZ)I"⟩) (wpC (Cond.privateMethod ⟨"SpanbookerModel", "isSpan", "(I)Z"⟩) (wpC (Cond.instanceMethod ⟨"SpanbookerModel", "isSpan", "(I)Z"⟩) (wpC (Cond.privateMethod ⟨"SpanbookerModel", "fits", "(JJ)Z"⟩) (wpC (Cond.instanceMethod ⟨"SpanbookerModel", "fits", "(JJ)Z"⟩) wpE))))))))) wpN)) := rfl
set_option maxRecDepth 100000 in
theorem kSp_6 : kPg (gpC 0 (gpC 0 (gpC 2 (gpC 0 (gpC 32 (gpC 0 (gpC 45 (gpC 0 (gpC 18 (gpC 0 (gpC 17 (gpC 0 (gpC 2 (gpC 0 (gpC 14 (gpC 0 (gpC 2 (gpC 0 (gpC 6 (gpC 0 (gpC 9 (gpC 0 (gpC 10 (gpC 0 (gpC 2 (gpC 0 (gpC 6 (gpC 0 (gpC 14 (gpC 0 (gpC 13 (gpC 0 gpE)))))))))))))))))))))))))))))))) tables_1_6 = List.flatten (wpL (wpC (Cond.privateMethod ⟨"SpanbookerModel", "isWish", "(I)Z"⟩) (wpC (Cond.instanceMethod ⟨"SpanbookerModel", "isWish", "(I)Z"⟩) (wpC (Cond.privateMethod ⟨"SpanbookerModel", "gone", "(I)V"⟩) (wpC (Cond.instanceMethod ⟨"SpanbookerModel", "gone", "(I)V"⟩) (wpC (Cond.privateMethod ⟨"SpanbookerModel", "areNone", "(II)Z"⟩) (wpC (Cond.instanceMethod ⟨"SpanbookerModel", "areNone", "(II)Z"⟩) (wpC (Cond.privateMethod ⟨"SpanbookerModel", "spanAt", "(J)I"⟩) (wpC (Cond.instanceMethod ⟨"SpanbookerModel", "spanAt", "(J)I"⟩) (wpC (Cond.privateMethod ⟨"SpanbookerModel", "free", "()[J"⟩) (wpC (Cond.instanceMethod ⟨"SpanbookerModel", "free", "()[J"⟩) (wpC (Cond.privateMethod ⟨"SpanbookerModel", "takenLength", "()J"⟩) (wpC (Cond.instanceMethod ⟨"SpanbookerModel", "takenLength", "()J"⟩) wpE)))))))))))) (wpL (wpC (Cond.privateMethod ⟨"SpanbookerModel", "freeLength", "()J"⟩) (wpC (Cond.instanceMethod ⟨"SpanbookerModel", "freeLength", "()J"⟩) (wpC (Cond.privateMethod ⟨"SpanbookerModel", "areApart", "(I)Z"⟩) (wpC (Cond.instanceMethod ⟨"SpanbookerModel", "areApart", "(I)Z"⟩) (wpC (Cond.privateMethod ⟨"SpanbookerModel", "wishesMeet", "(II)Z"⟩) (wpC (Cond.instanceMethod ⟨"SpanbookerModel", "wishesMeet", "(II)Z"⟩) (wpC (Cond.privateMethod ⟨"SpanbookerModel", "chosenNow", "()I"⟩) (wpC (Cond.instanceMethod ⟨"SpanbookerModel", "chosenNow", "()I"⟩) (wpC (Cond.privateMethod ⟨"SpanbookerModel", "mostOfAll", "()I"⟩) (wpC (Cond.instanceMethod ⟨"SpanbookerModel", "mostOfAll", "()I"⟩) (wpC (Cond.privateMethod ⟨"SpanbookerModel", "roomsNow", "()[I"⟩) (wpC (Cond.instanceMethod ⟨"SpanbookerModel", "roomsNow", "()[I"⟩) wpE)))))))))))) (wpL (wpC (Cond.privateMethod ⟨"SpanbookerModel", "nextWish", "([I)I"⟩) (wpC (Cond.instanceMethod ⟨"SpanbookerModel", "nextWish", "([I)I"⟩) (wpC (Cond.privateMethod ⟨"SpanbookerModel", "roomsOf", "()I"⟩) (wpC (Cond.instanceMethod ⟨"SpanbookerModel", "roomsOf", "()I"⟩) (wpC (Cond.privateMethod ⟨"SpanbookerModel", "areSpans", "()Z"⟩) (wpC (Cond.instanceMethod ⟨"SpanbookerModel", "areSpans", "()Z"⟩) (wpC (Cond.privateMethod ⟨"SpanbookerModel", "added", "(J[J[JI)J"⟩) (wpC (Cond.instanceMethod ⟨"SpanbookerModel", "added", "(J[J[JI)J"⟩) wpE)))))))) wpN))) := rfl
theorem lw_h0 : (("Spanbooker" : String) ≠ "java/lang/invoke/MethodHandle" ∧ ("Spanbooker" : String) ≠ "java/lang/invoke/VarHandle") := ⟨by decide +kernel, by decide +kernel⟩
theorem lw_h1 : (("Spanbooker$Row" : String) ≠ "java/lang/invoke/MethodHandle" ∧ ("Spanbooker$Row" : String) ≠ "java/lang/invoke/VarHandle") := ⟨by decide +kernel, by decide +kernel⟩
theorem lw_h2 : (("java/lang/Throwable" : String) ≠ "java/lang/invoke/MethodHandle" ∧ ("java/lang/Throwable" : String) ≠ "java/lang/invoke/VarHandle") := ⟨by decide +kernel, by decide +kernel⟩
theorem lw_h3 : (("SpanbookerModel" : String) ≠ "java/lang/invoke/MethodHandle" ∧ ("SpanbookerModel" : String) ≠ "java/lang/invoke/VarHandle") := ⟨by decide +kernel, by decide +kernel⟩
theorem lw_p0 : lw_okq (⟨"Spanbooker", "done", "(I)I"⟩, 10) := ⟨lw_h0, (kt_g1 kSp_1 0 0 rfl rfl), (kt_g1 kSp_1 0 2 rfl rfl), (kt_g1 kSp_1 0 3 rfl rfl)⟩
theorem lw_p1 : lw_okq (⟨"Spanbooker", "findFrees", "()V"⟩, 10) := ⟨lw_h0, (kt_g1 kSp_1 0 0 rfl rfl), (kt_g1 kSp_1 0 4 rfl rfl), (kt_g1 kSp_1 0 5 rfl rfl)⟩
theorem lw_p2 : lw_okq (⟨"Spanbooker", "firstWithoutSpan", "(JJ)J"⟩, 10) := ⟨lw_h0, (kt_g1 kSp_1 0 0 rfl rfl), (kt_g1 kSp_1 0 6 rfl rfl), (kt_g1 kSp_1 0 7 rfl rfl)⟩
theorem lw_p3 : lw_okq (⟨"Spanbooker$Row", "isIn", "(I)Z"⟩, 4) := ⟨lw_h1, (kt_g1 kSp_1 0 1 rfl rfl), (kt_g1 kSp_1 0 8 rfl rfl), (kt_g1 kSp_1 0 9 rfl rfl)⟩
theorem lw_p4 : lw_okq (⟨"Spanbooker", "firstTaken", "(J)J"⟩, 10) := ⟨lw_h0, (kt_g1 kSp_1 0 0 rfl rfl), (kt_g1 kSp_1 0 10 rfl rfl), (kt_g1 kSp_1 0 11 rfl rfl)⟩
theorem lw_p5 : lw_okq (⟨"Spanbooker", "nextChosen", "(I)I"⟩, 10) := ⟨lw_h0, (kt_g1 kSp_1 0 0 rfl rfl), (kt_g1 kSp_1 1 0 rfl rfl), (kt_g1 kSp_1 1 1 rfl rfl)⟩
theorem lw_p6 : lw_okq (⟨"Spanbooker", "meetsOneOf", "(II)Z"⟩, 10) := ⟨lw_h0, (kt_g1 kSp_1 0 0 rfl rfl), (kt_g1 kSp_1 1 2 rfl rfl), (kt_g1 kSp_1 1 3 rfl rfl)⟩
theorem lw_p7 : lw_okq (⟨"Spanbooker", "findRooms", "()V"⟩, 10) := ⟨lw_h0, (kt_g1 kSp_1 0 0 rfl rfl), (kt_g1 kSp_1 1 4 rfl rfl), (kt_g1 kSp_1 1 5 rfl rfl)⟩
theorem lw_p8 : lw_okq (⟨"Spanbooker", "firstWithoutRoom", "()I"⟩, 10) := ⟨lw_h0, (kt_g1 kSp_1 0 0 rfl rfl), (kt_g1 kSp_1 1 6 rfl rfl), (kt_g1 kSp_1 1 7 rfl rfl)⟩
theorem lw_p9 : lw_okq (⟨"Spanbooker", "smallestRoom", "(I)I"⟩, 10) := ⟨lw_h0, (kt_g1 kSp_1 0 0 rfl rfl), (kt_g1 kSp_1 1 8 rfl rfl), (kt_g1 kSp_1 1 9 rfl rfl)⟩
theorem lw_p10 : lw_okq (⟨"Spanbooker", "roomCount", "()I"⟩, 10) := ⟨lw_h0, (kt_g1 kSp_1 0 0 rfl rfl), (kt_g1 kSp_1 1 10 rfl rfl), (kt_g1 kSp_1 1 11 rfl rfl)⟩
theorem lw_p11 : lw_okq (⟨"Spanbooker", "isSoundInSpans", "()Z"⟩, 10) := ⟨lw_h0, (kt_g1 kSp_1 0 0 rfl rfl), (kt_g1 kSp_1 2 0 rfl rfl), (kt_g1 kSp_1 2 1 rfl rfl)⟩
theorem lw_p12 : lw_okq (⟨"Spanbooker", "isInCalendar", "(JJ)Z"⟩, 10) := ⟨lw_h0, (kt_g1 kSp_1 0 0 rfl rfl), (kt_g1 kSp_1 2 2 rfl rfl), (kt_g1 kSp_1 2 3 rfl rfl)⟩
theorem lw_p13 : lw_okq (⟨"Spanbooker", "isSoundInFrees", "()Z"⟩, 10) := ⟨lw_h0, (kt_g1 kSp_1 0 0 rfl rfl), (kt_g1 kSp_1 2 4 rfl rfl), (kt_g1 kSp_1 2 5 rfl rfl)⟩
theorem lw_p14 : lw_okq (⟨"Spanbooker", "takenLength", "()J"⟩, 10) := ⟨lw_h0, (kt_g1 kSp_1 0 0 rfl rfl), (kt_g1 kSp_1 2 6 rfl rfl), (kt_g1 kSp_1 2 7 rfl rfl)⟩
theorem lw_p15 : lw_okq (⟨"Spanbooker", "freeLength", "()J"⟩, 10) := ⟨lw_h0, (kt_g1 kSp_1 0 0 rfl rfl), (kt_g1 kSp_1 2 8 rfl rfl), (kt_g1 kSp_1 2 9 rfl rfl)⟩
def lw_privs_1 : List (MethodName × Nat) := [(⟨"Spanbooker", "done", "(I)I"⟩, 10), (⟨"Spanbooker", "findFrees", "()V"⟩, 10), (⟨"Spanbooker", "firstWithoutSpan", "(JJ)J"⟩, 10), (⟨"Spanbooker$Row", "isIn", "(I)Z"⟩, 4), (⟨"Spanbooker", "firstTaken", "(J)J"⟩, 10), (⟨"Spanbooker", "nextChosen", "(I)I"⟩, 10), (⟨"Spanbooker", "meetsOneOf", "(II)Z"⟩, 10), (⟨"Spanbooker", "findRooms", "()V"⟩, 10), (⟨"Spanbooker", "firstWithoutRoom", "()I"⟩, 10), (⟨"Spanbooker", "smallestRoom", "(I)I"⟩, 10), (⟨"Spanbooker", "roomCount", "()I"⟩, 10), (⟨"Spanbooker", "isSoundInSpans", "()Z"⟩, 10), (⟨"Spanbooker", "isInCalendar", "(JJ)Z"⟩, 10), (⟨"Spanbooker", "isSoundInFrees", "()Z"⟩, 10), (⟨"Spanbooker", "takenLength", "()J"⟩, 10), (⟨"Spanbooker", "freeLength", "()J"⟩, 10)]
theorem lw_r1 : ∀ q ∈ lw_privs_1, lw_okq q := List.forall_mem_cons.mpr ⟨lw_p0, List.forall_mem_cons.mpr ⟨lw_p1, List.forall_mem_cons.mpr ⟨lw_p2, List.forall_mem_cons.mpr ⟨lw_p3, List.forall_mem_cons.mpr ⟨lw_p4, List.forall_mem_cons.mpr ⟨lw_p5, List.forall_mem_cons.mpr ⟨lw_p6, List.forall_mem_cons.mpr ⟨lw_p7, List.forall_mem_cons.mpr ⟨lw_p8, List.forall_mem_cons.mpr ⟨lw_p9, List.forall_mem_cons.mpr ⟨lw_p10, List.forall_mem_cons.mpr ⟨lw_p11, List.forall_mem_cons.mpr ⟨lw_p12, List.forall_mem_cons.mpr ⟨lw_p13, List.forall_mem_cons.mpr ⟨lw_p14, List.forall_mem_cons.mpr ⟨lw_p15, fun _ h => absurd h List.not_mem_nil⟩⟩⟩⟩⟩⟩⟩⟩⟩⟩⟩⟩⟩⟩⟩⟩
theorem lw_p16 : lw_okq (⟨"Spanbooker", "isSoundInWishes", "()Z"⟩, 10) := ⟨lw_h0, (kt_g1 kSp_1 0 0 rfl rfl), (kt_g2 kSp_2 0 0 rfl rfl), (kt_g2 kSp_2 0 1 rfl rfl)⟩
theorem lw_p17 : lw_okq (⟨"Spanbooker", "isWithoutMeeting", "(I)Z"⟩, 10) := ⟨lw_h0, (kt_g1 kSp_1 0 0 rfl rfl), (kt_g2 kSp_2 0 2 rfl rfl), (kt_g2 kSp_2 0 3 rfl rfl)⟩
theorem lw_p18 : lw_okq (⟨"Spanbooker", "mostOfAllSets", "()I"⟩, 10) := ⟨lw_h0, (kt_g1 kSp_1 0 0 rfl rfl), (kt_g2 kSp_2 0 4 rfl rfl), (kt_g2 kSp_2 0 5 rfl rfl)⟩
theorem lw_p19 : lw_okq (⟨"Spanbooker", "setOfAllWishes", "()I"⟩, 10) := ⟨lw_h0, (kt_g1 kSp_1 0 0 rfl rfl), (kt_g2 kSp_2 0 6 rfl rfl), (kt_g2 kSp_2 0 7 rfl rfl)⟩
theorem lw_p20 : lw_okq (⟨"Spanbooker", "mixCells", "(J)J"⟩, 10) := ⟨lw_h0, (kt_g1 kSp_1 0 0 rfl rfl), (kt_g2 kSp_2 0 8 rfl rfl), (kt_g2 kSp_2 0 9 rfl rfl)⟩
theorem lw_p21 : lw_okq (⟨"Spanbooker", "mixSpans", "(J)J"⟩, 10) := ⟨lw_h0, (kt_g1 kSp_1 0 0 rfl rfl), (kt_g2 kSp_2 0 10 rfl rfl), (kt_g2 kSp_2 0 11 rfl rfl)⟩
theorem lw_p22 : lw_okq (⟨"java/lang/Throwable", "fillInStackTrace", "(I)Ljava/lang/Throwable;"⟩, 6) := ⟨lw_h2, (kt_g2 kSp_2 1 2 rfl rfl), (kt_g2 kSp_2 1 0 rfl rfl), (kt_g2 kSp_2 1 1 rfl rfl)⟩
theorem lw_p23 : lw_okq (⟨"Spanbooker", "mixFrees", "(J)J"⟩, 10) := ⟨lw_h0, (kt_g1 kSp_1 0 0 rfl rfl), (kt_g2 kSp_2 1 3 rfl rfl), (kt_g2 kSp_2 1 4 rfl rfl)⟩
theorem lw_p24 : lw_okq (⟨"Spanbooker", "mixWishes", "(J)J"⟩, 10) := ⟨lw_h0, (kt_g1 kSp_1 0 0 rfl rfl), (kt_g2 kSp_2 1 5 rfl rfl), (kt_g2 kSp_2 1 6 rfl rfl)⟩
theorem lw_p25 : lw_okq (⟨"Spanbooker", "refuse", "()I"⟩, 10) := ⟨lw_h0, (kt_g1 kSp_1 0 0 rfl rfl), (kt_g2 kSp_2 1 7 rfl rfl), (kt_g2 kSp_2 1 8 rfl rfl)⟩
theorem lw_p26 : lw_okq (⟨"Spanbooker", "bring", "(JI)I"⟩, 10) := ⟨lw_h0, (kt_g1 kSp_1 0 0 rfl rfl), (kt_g2 kSp_2 1 9 rfl rfl), (kt_g2 kSp_2 1 10 rfl rfl)⟩
theorem lw_p27 : lw_okq (⟨"Spanbooker", "isAllLetAfter", "(J)Z"⟩, 10) := ⟨lw_h0, (kt_g1 kSp_1 0 0 rfl rfl), (kt_g3 kSp_3 0 0 rfl rfl), (kt_g3 kSp_3 0 1 rfl rfl)⟩
theorem lw_p28 : lw_okq (⟨"Spanbooker", "addSpan", "(JJZ)I"⟩, 10) := ⟨lw_h0, (kt_g1 kSp_1 0 0 rfl rfl), (kt_g3 kSp_3 0 2 rfl rfl), (kt_g3 kSp_3 0 3 rfl rfl)⟩
theorem lw_p29 : lw_okq (⟨"Spanbooker", "changeSpan", "(IJJ)Z"⟩, 10) := ⟨lw_h0, (kt_g1 kSp_1 0 0 rfl rfl), (kt_g3 kSp_3 0 4 rfl rfl), (kt_g3 kSp_3 0 5 rfl rfl)⟩
theorem lw_p30 : lw_okq (⟨"SpanbookerModel", "isThrown", "(ZZ)Z"⟩, 14) := ⟨lw_h3, (kt_g5 kSp_5 0 0 rfl rfl), (kt_g5 kSp_5 0 1 rfl rfl), (kt_g5 kSp_5 0 2 rfl rfl)⟩
theorem lw_p31 : lw_okq (⟨"SpanbookerModel", "no", "()I"⟩, 14) := ⟨lw_h3, (kt_g5 kSp_5 0 0 rfl rfl), (kt_g5 kSp_5 0 3 rfl rfl), (kt_g5 kSp_5 0 4 rfl rfl)⟩
def lw_privs_2 : List (MethodName × Nat) := [(⟨"Spanbooker", "isSoundInWishes", "()Z"⟩, 10), (⟨"Spanbooker", "isWithoutMeeting", "(I)Z"⟩, 10), (⟨"Spanbooker", "mostOfAllSets", "()I"⟩, 10), (⟨"Spanbooker", "setOfAllWishes", "()I"⟩, 10), (⟨"Spanbooker", "mixCells", "(J)J"⟩, 10), (⟨"Spanbooker", "mixSpans", "(J)J"⟩, 10), (⟨"java/lang/Throwable", "fillInStackTrace", "(I)Ljava/lang/Throwable;"⟩, 6), (⟨"Spanbooker", "mixFrees", "(J)J"⟩, 10), (⟨"Spanbooker", "mixWishes", "(J)J"⟩, 10), (⟨"Spanbooker", "refuse", "()I"⟩, 10), (⟨"Spanbooker", "bring", "(JI)I"⟩, 10), (⟨"Spanbooker", "isAllLetAfter", "(J)Z"⟩, 10), (⟨"Spanbooker", "addSpan", "(JJZ)I"⟩, 10), (⟨"Spanbooker", "changeSpan", "(IJJ)Z"⟩, 10), (⟨"SpanbookerModel", "isThrown", "(ZZ)Z"⟩, 14), (⟨"SpanbookerModel", "no", "()I"⟩, 14)]
theorem lw_r2 : ∀ q ∈ lw_privs_2, lw_okq q := List.forall_mem_cons.mpr ⟨lw_p16, List.forall_mem_cons.mpr ⟨lw_p17, List.forall_mem_cons.mpr ⟨lw_p18, List.forall_mem_cons.mpr ⟨lw_p19, List.forall_mem_cons.mpr ⟨lw_p20, List.forall_mem_cons.mpr ⟨lw_p21, List.forall_mem_cons.mpr ⟨lw_p22, List.forall_mem_cons.mpr ⟨lw_p23, List.forall_mem_cons.mpr ⟨lw_p24, List.forall_mem_cons.mpr ⟨lw_p25, List.forall_mem_cons.mpr ⟨lw_p26, List.forall_mem_cons.mpr ⟨lw_p27, List.forall_mem_cons.mpr ⟨lw_p28, List.forall_mem_cons.mpr ⟨lw_p29, List.forall_mem_cons.mpr ⟨lw_p30, List.forall_mem_cons.mpr ⟨lw_p31, fun _ h => absurd h List.not_mem_nil⟩⟩⟩⟩⟩⟩⟩⟩⟩⟩⟩⟩⟩⟩⟩⟩
theorem lw_p32 : lw_okq (⟨"SpanbookerModel", "done", "(I)I"⟩, 14) := ⟨lw_h3, (kt_g5 kSp_5 0 0 rfl rfl), (kt_g5 kSp_5 0 5 rfl rfl), (kt_g5 kSp_5 0 6 rfl rfl)⟩
theorem lw_p33 : lw_okq (⟨"SpanbookerModel", "isThrown", "(Z)Z"⟩, 14) := ⟨lw_h3, (kt_g5 kSp_5 0 0 rfl rfl), (kt_g5 kSp_5 0 7 rfl rfl), (kt_g5 kSp_5 0 8 rfl rfl)⟩
theorem lw_p34 : lw_okq (⟨"SpanbookerModel", "mayCome", "(JJZ)Z"⟩, 14) := ⟨lw_h3, (kt_g5 kSp_5 0 0 rfl rfl), (kt_g5 kSp_5 0 9 rfl rfl), (kt_g5 kSp_5 0 10 rfl rfl)⟩
theorem lw_p35 : lw_okq (⟨"SpanbookerModel", "isIn", "(JJ)Z"⟩, 14) := ⟨lw_h3, (kt_g5 kSp_5 0 0 rfl rfl), (kt_g5 kSp_5 0 11 rfl rfl), (kt_g5 kSp_5 1 0 rfl rfl)⟩
theorem lw_p36 : lw_okq (⟨"SpanbookerModel", "meetsSome", "(JJI)Z"⟩, 14) := ⟨lw_h3, (kt_g5 kSp_5 0 0 rfl rfl), (kt_g5 kSp_5 1 1 rfl rfl), (kt_g5 kSp_5 1 2 rfl rfl)⟩
theorem lw_p37 : lw_okq (⟨"SpanbookerModel", "come", "(JJZ)I"⟩, 14) := ⟨lw_h3, (kt_g5 kSp_5 0 0 rfl rfl), (kt_g5 kSp_5 1 3 rfl rfl), (kt_g5 kSp_5 1 4 rfl rfl)⟩
theorem lw_p38 : lw_okq (⟨"SpanbookerModel", "isSpan", "(I)Z"⟩, 14) := ⟨lw_h3, (kt_g5 kSp_5 0 0 rfl rfl), (kt_g5 kSp_5 1 5 rfl rfl), (kt_g5 kSp_5 1 6 rfl rfl)⟩
theorem lw_p39 : lw_okq (⟨"SpanbookerModel", "fits", "(JJ)Z"⟩, 14) := ⟨lw_h3, (kt_g5 kSp_5 0 0 rfl rfl), (kt_g5 kSp_5 1 7 rfl rfl), (kt_g5 kSp_5 1 8 rfl rfl)⟩
theorem lw_p40 : lw_okq (⟨"SpanbookerModel", "isWish", "(I)Z"⟩, 14) := ⟨lw_h3, (kt_g5 kSp_5 0 0 rfl rfl), (kt_g6 kSp_6 0 0 rfl rfl), (kt_g6 kSp_6 0 1 rfl rfl)⟩
theorem lw_p41 : lw_okq (⟨"SpanbookerModel", "gone", "(I)V"⟩, 14) := ⟨lw_h3, (kt_g5 kSp_5 0 0 rfl rfl), (kt_g6 kSp_6 0 2 rfl rfl), (kt_g6 kSp_6 0 3 rfl rfl)⟩
theorem lw_p42 : lw_okq (⟨"SpanbookerModel", "areNone", "(II)Z"⟩, 14) := ⟨lw_h3, (kt_g5 kSp_5 0 0 rfl rfl), (kt_g6 kSp_6 0 4 rfl rfl), (kt_g6 kSp_6 0 5 rfl rfl)⟩
theorem lw_p43 : lw_okq (⟨"SpanbookerModel", "spanAt", "(J)I"⟩, 14) := ⟨lw_h3, (kt_g5 kSp_5 0 0 rfl rfl), (kt_g6 kSp_6 0 6 rfl rfl), (kt_g6 kSp_6 0 7 rfl rfl)⟩
theorem lw_p44 : lw_okq (⟨"SpanbookerModel", "free", "()[J"⟩, 14) := ⟨lw_h3, (kt_g5 kSp_5 0 0 rfl rfl), (kt_g6 kSp_6 0 8 rfl rfl), (kt_g6 kSp_6 0 9 rfl rfl)⟩
theorem lw_p45 : lw_okq (⟨"SpanbookerModel", "takenLength", "()J"⟩, 14) := ⟨lw_h3, (kt_g5 kSp_5 0 0 rfl rfl), (kt_g6 kSp_6 0 10 rfl rfl), (kt_g6 kSp_6 0 11 rfl rfl)⟩
theorem lw_p46 : lw_okq (⟨"SpanbookerModel", "freeLength", "()J"⟩, 14) := ⟨lw_h3, (kt_g5 kSp_5 0 0 rfl rfl), (kt_g6 kSp_6 1 0 rfl rfl), (kt_g6 kSp_6 1 1 rfl rfl)⟩
theorem lw_p47 : lw_okq (⟨"SpanbookerModel", "areApart", "(I)Z"⟩, 14) := ⟨lw_h3, (kt_g5 kSp_5 0 0 rfl rfl), (kt_g6 kSp_6 1 2 rfl rfl), (kt_g6 kSp_6 1 3 rfl rfl)⟩
def lw_privs_3 : List (MethodName × Nat) := [(⟨"SpanbookerModel", "done", "(I)I"⟩, 14), (⟨"SpanbookerModel", "isThrown", "(Z)Z"⟩, 14), (⟨"SpanbookerModel", "mayCome", "(JJZ)Z"⟩, 14), (⟨"SpanbookerModel", "isIn", "(JJ)Z"⟩, 14), (⟨"SpanbookerModel", "meetsSome", "(JJI)Z"⟩, 14), (⟨"SpanbookerModel", "come", "(JJZ)I"⟩, 14), (⟨"SpanbookerModel", "isSpan", "(I)Z"⟩, 14), (⟨"SpanbookerModel", "fits", "(JJ)Z"⟩, 14), (⟨"SpanbookerModel", "isWish", "(I)Z"⟩, 14), (⟨"SpanbookerModel", "gone", "(I)V"⟩, 14), (⟨"SpanbookerModel", "areNone", "(II)Z"⟩, 14), (⟨"SpanbookerModel", "spanAt", "(J)I"⟩, 14), (⟨"SpanbookerModel", "free", "()[J"⟩, 14), (⟨"SpanbookerModel", "takenLength", "()J"⟩, 14), (⟨"SpanbookerModel", "freeLength", "()J"⟩, 14), (⟨"SpanbookerModel", "areApart", "(I)Z"⟩, 14)]
theorem lw_r3 : ∀ q ∈ lw_privs_3, lw_okq q := List.forall_mem_cons.mpr ⟨lw_p32, List.forall_mem_cons.mpr ⟨lw_p33, List.forall_mem_cons.mpr ⟨lw_p34, List.forall_mem_cons.mpr ⟨lw_p35, List.forall_mem_cons.mpr ⟨lw_p36, List.forall_mem_cons.mpr ⟨lw_p37, List.forall_mem_cons.mpr ⟨lw_p38, List.forall_mem_cons.mpr ⟨lw_p39, List.forall_mem_cons.mpr ⟨lw_p40, List.forall_mem_cons.mpr ⟨lw_p41, List.forall_mem_cons.mpr ⟨lw_p42, List.forall_mem_cons.mpr ⟨lw_p43, List.forall_mem_cons.mpr ⟨lw_p44, List.forall_mem_cons.mpr ⟨lw_p45, List.forall_mem_cons.mpr ⟨lw_p46, List.forall_mem_cons.mpr ⟨lw_p47, fun _ h => absurd h List.not_mem_nil⟩⟩⟩⟩⟩⟩⟩⟩⟩⟩⟩⟩⟩⟩⟩⟩
theorem lw_p48 : lw_okq (⟨"SpanbookerModel", "wishesMeet", "(II)Z"⟩, 14) := ⟨lw_h3, (kt_g5 kSp_5 0 0 rfl rfl), (kt_g6 kSp_6 1 4 rfl rfl), (kt_g6 kSp_6 1 5 rfl rfl)⟩
theorem lw_p49 : lw_okq (⟨"SpanbookerModel", "chosenNow", "()I"⟩, 14) := ⟨lw_h3, (kt_g5 kSp_5 0 0 rfl rfl), (kt_g6 kSp_6 1 6 rfl rfl), (kt_g6 kSp_6 1 7 rfl rfl)⟩
theorem lw_p50 : lw_okq (⟨"SpanbookerModel", "mostOfAll", "()I"⟩, 14) := ⟨lw_h3, (kt_g5 kSp_5 0 0 rfl rfl), (kt_g6 kSp_6 1 8 rfl rfl), (kt_g6 kSp_6 1 9 rfl rfl)⟩
theorem lw_p51 : lw_okq (⟨"SpanbookerModel", "roomsNow", "()[I"⟩, 14) := ⟨lw_h3, (kt_g5 kSp_5 0 0 rfl rfl), (kt_g6 kSp_6 1 10 rfl rfl), (kt_g6 kSp_6 1 11 rfl rfl)⟩
theorem lw_p52 : lw_okq (⟨"SpanbookerModel", "nextWish", "([I)I"⟩, 14) := ⟨lw_h3, (kt_g5 kSp_5 0 0 rfl rfl), (kt_g6 kSp_6 2 0 rfl rfl), (kt_g6 kSp_6 2 1 rfl rfl)⟩
theorem lw_p53 : lw_okq (⟨"SpanbookerModel", "roomsOf", "()I"⟩, 14) := ⟨lw_h3, (kt_g5 kSp_5 0 0 rfl rfl), (kt_g6 kSp_6 2 2 rfl rfl), (kt_g6 kSp_6 2 3 rfl rfl)⟩
theorem lw_p54 : lw_okq (⟨"SpanbookerModel", "areSpans", "()Z"⟩, 14) := ⟨lw_h3, (kt_g5 kSp_5 0 0 rfl rfl), (kt_g6 kSp_6 2 4 rfl rfl), (kt_g6 kSp_6 2 5 rfl rfl)⟩
theorem lw_p55 : lw_okq (⟨"SpanbookerModel", "added", "(J[J[JI)J"⟩, 14) := ⟨lw_h3, (kt_g5 kSp_5 0 0 rfl rfl), (kt_g6 kSp_6 2 6 rfl rfl), (kt_g6 kSp_6 2 7 rfl rfl)⟩
def lw_privs_4 : List (MethodName × Nat) := [(⟨"SpanbookerModel", "wishesMeet", "(II)Z"⟩, 14), (⟨"SpanbookerModel", "chosenNow", "()I"⟩, 14), (⟨"SpanbookerModel", "mostOfAll", "()I"⟩, 14), (⟨"SpanbookerModel", "roomsNow", "()[I"⟩, 14), (⟨"SpanbookerModel", "nextWish", "([I)I"⟩, 14), (⟨"SpanbookerModel", "roomsOf", "()I"⟩, 14), (⟨"SpanbookerModel", "areSpans", "()Z"⟩, 14), (⟨"SpanbookerModel", "added", "(J[J[JI)J"⟩, 14)]
theorem lw_r4 : ∀ q ∈ lw_privs_4, lw_okq q := List.forall_mem_cons.mpr ⟨lw_p48, List.forall_mem_cons.mpr ⟨lw_p49, List.forall_mem_cons.mpr ⟨lw_p50, List.forall_mem_cons.mpr ⟨lw_p51, List.forall_mem_cons.mpr ⟨lw_p52, List.forall_mem_cons.mpr ⟨lw_p53, List.forall_mem_cons.mpr ⟨lw_p54, List.forall_mem_cons.mpr ⟨lw_p55, fun _ h => absurd h List.not_mem_nil⟩⟩⟩⟩⟩⟩⟩⟩
def lw_privs : List (MethodName × Nat) := lw_privs_1 ++ (lw_privs_2 ++ (lw_privs_3 ++ (lw_privs_4)))
def lw_tbl : List Cond := k2_sels lw_privs ++ tables_1
theorem lw_privs_ok : ∀ q ∈ lw_privs, lw_okq q := by
  show ∀ q ∈ lw_privs_1 ++ (lw_privs_2 ++ (lw_privs_3 ++ (lw_privs_4))), lw_okq q
  exact List.forall_mem_append.mpr ⟨lw_r1, List.forall_mem_append.mpr ⟨lw_r2, List.forall_mem_append.mpr ⟨lw_r3, lw_r4⟩⟩⟩
/-! ===== BEGIN words of one list among another's, by their places ===== -/
theorem goodIn_r {big : List Cond} (ws : List Cond) (ps : List Nat) (hp : ws = ps.filterMap (fun i => big[i]?)) (h : ws.all goodWord = true) : GoodIn big ws := by
  intro w hw
  have h1 := List.all_eq_true.mp h w hw
  rw [hp] at hw
  obtain ⟨i, -, hi⟩ := List.mem_filterMap.mp hw
  have hm : w ∈ big := by first | exact List.mem_of_getElem? hi | exact List.getElem?_mem hi
  exact ⟨hm, good_of_word h1⟩
theorem goodIn_app {big a b : List Cond} (ha : GoodIn big a) (hb : GoodIn big b) : GoodIn big (a ++ b) := fun w h => (List.mem_append.mp h).elim (ha w) (hb w)
theorem goodIn_ca {big a b : List Cond} {c : Cond} (ha : GoodIn big (c :: a)) (hb : GoodIn big b) : GoodIn big (c :: (a ++ b)) := fun w h => (List.mem_cons.mp h).elim (fun e => ha w (List.mem_cons.mpr (Or.inl e))) (fun h => (List.mem_append.mp h).elim (fun h => ha w (List.mem_cons.mpr (Or.inr h))) (hb w))
theorem goodIn_sub {big ws : List Cond} (hm : ∀ w ∈ ws, w ∈ big) (h : ws.all goodWord = true) : GoodIn big ws := fun w hw => ⟨hm w hw, good_of_word (List.all_eq_true.mp h w hw)⟩
/-! ===== END ===== -/

/-! ===== BEGIN exceptions that leave a method, and their catching by the caller (launches without stack traces) ===== -/
section VXA
/-! The laws vx_back, vx_callV, vx_callS, vx_callSW, vx_throw0, vx_throwS follow proofs of the library, with one case more: JvmDerived/Free/Laws.lean (Back.of_free), Shelf42/LK1.lean (callV, callS), Shelf/KitTraced.lean (throwNew0V, throwNewS). -/
/-- where a method has thrown q: the class by its name, the cell, what was written, the world -/
def vx_T (XC : String → State → State → Prop) (st : State) (q : Addr) (t : State) (mc ms : Nat) (free : Addr → Prop) : Prop :=
  ∃ (E : String) (ce : Cell) (L : List Loc), XC E st t ∧ t.heap[q]? = some ce ∧ ce.vm = .none ∧ st.vm.findClass E = some ce.cls ∧ st.WarmedH t.vm ∧ st.sameButNew ({ t with vm := st.vm } : State) L mc ms ∧ ∀ z ∈ L, free z.base
def vx_Q (Qc : Array Value → State → Outcome → State → Prop) (XC : String → State → State → Prop) (mc ms : Nat) (free : Addr → Prop) : Array Value → State → Outcome → State → Prop := fun a st o t =>
  (Qc a st o t ∧ ∃ L, FrameEnd st o t L mc ms ∧ ∀ q ∈ L, free q.base) ∨ ∃ q, o = .threw q ∧ vx_T XC st q t mc ms free
/-- a callee that returns or throws -/
def vx_Met (l : Launch) (y : MethodName) (ws : List Cond) (rm : Room) (Pc : Array Value → State → Prop) (Qc : Array Value → State → Outcome → State → Prop) (XC : String → State → State → Prop) (mc ms : Nat) (free : Addr → Prop) : Prop :=
  MetFree l y (headSpec ws rm) Pc (fun _ _ _ _ _ => True) (vx_Q Qc XC mc ms free)
def vx_Post (XC : String → State → State → Prop) (mc ms : Nat) (free : Addr → Prop) : Pt → Array Value → Addr → Pt → Prop := fun A a q B =>
  ∃ (g : JFrame) (mk : MethodId) (t : State) (L : List Loc) (E : String) (ce : Cell), B.U.heap = t.heap ∧ B.U.vm = t.vm ∧ XC E (A.U.calling g mk a) t ∧ t.heap[q]? = some ce ∧ ce.vm = .none ∧ A.U.vm.findClass E = some ce.cls ∧ B.locs = A.locs ++ L ∧ (∀ z ∈ L, free z.base) ∧ B.cells = A.cells + mc ∧ B.slots = A.slots + ms
def vx_Back (l : Launch) (R : Room) (p : Program) (e : Env) (below : List Frame) (s : State) (sargs : Array Value) (y : MethodName) (len W9 : Nat)
    (Pre : Pt → Array Value → Prop) (Post : Pt → Array Value → Option Value → Pt → Prop) (PostX : Pt → Array Value → Addr → Pt → Prop) : Prop :=
  ∀ (m : MethodId) (meth : Method) (c : Code) (A : Pt) (g : JFrame) (ig : Instr) (mk : MethodId) (a : Array Value),
    Stand p l e R s m sargs below meth c A.U A.locs A.cells A.slots → g.method = m → g.locals.size = c.maxLocals → decode c.code g.pc = .ok (ig, len) →
    2 * g.monitorRoom + (g.stack.map fun v => v.category).sum ≤ W9 → A.U.methodNamed? y = some mk → Pre A a →
    (∃ (v : Option Value) (B : Pt), Stand p l e R s m sargs below meth c B.U B.locs B.cells B.slots ∧ Post A a v B ∧
      Steps p.tables e below (doInvoke e (A.U.setTop g) [] mk a).1 (B.U.setTop { g with pc := g.pc + len, stack := v.toList ++ g.stack })) ∨
    (∃ (q : Addr) (B : Pt), Stand p l e R s m sargs below meth c B.U B.locs B.cells B.slots ∧ PostX A a q B ∧
      Steps p.tables e below (doInvoke e (A.U.setTop g) [] mk a).1 ((B.U.setTop g).pushFrame (.throwing q)))
section Payer
variable {l : Launch} {R : Room} {p : Program} {e : Env} {below : List Frame} {s : State} {sargs : Array Value} {y : MethodName} {len W9 : Nat}
theorem vx_back {ws : List Cond} {rm : Room} {Pc : Array Value → State → Prop} {Qc : Array Value → State → Outcome → State → Prop} {XC : String → State → State → Prop} {mc ms : Nat} {free : Addr → Prop} {bytes : ByteArray} {maxL : Nat} {ret : Option FieldType}
    (hM : vx_Met l y ws rm Pc Qc XC mc ms free) (hblind : FrameBlind Pc) (hrc : rm.cells = mc) (hrs : rm.slots = ms)
    (hframes : rm.frames + 1 ≤ R.frames) (hlocals : W9 + (maxL + 11) + rm.locals ≤ R.locals)
    (hws : ∀ w ∈ ws, ∀ a' U, s.WarmedH U.vm → w.before a' U = true) (hcode : Cond.code y bytes maxL ret ∈ ws) (hinit : ∀ a' U, s.WarmedH U.vm → (Cond.initialized y.cls).before a' U = true) :
    vx_Back l R p e below s sargs y len W9 (PreOf R mc ms Pc) (PostOf Qc mc ms free) (vx_Post XC mc ms free) := by
  intro m meth c A g ig mk a X hg hsize hdg hW hn hp
  have h1 : (headSpec ws rm).pre.before a A.U = true := atoms_intro fun w hw => hws w hw _ _ X.warmed
  have h2 : (Cond.code y bytes maxL ret).before a A.U = true := hws _ hcode _ _ X.warmed
  have h3 : (Cond.initialized y.cls).before a A.U = true := hinit _ _ X.warmed
  have h4 : A.cells + (headSpec ws rm).room.cells ≤ R.cells := by rw [show (headSpec ws rm).room.cells = mc from hrc]; exact hp.1
  have h5 : A.slots + (headSpec ws rm).room.slots ≤ R.slots := by rw [show (headSpec ws rm).room.slots = ms from hrs]; exact hp.2.1
  have hPc : Pc a (A.U.calling g mk a) := hblind _ _ _ _ hp.2.2
  obtain ⟨U, Ls, c0, s0⟩ := A
  dsimp only [Pt.U, Pt.locs, Pt.cells, Pt.slots] at h1 h2 h3 h4 h5 X hn hPc ⊢
  obtain ⟨methY, cY, hmY, hcY, -, hlY, -, -, -, -⟩ := Cond.code_spec hn h2
  obtain ⟨kY, hkY, -⟩ := className_of_methodNamed hn
  have hinitY : kY.init = .initialized := Cond.initialized_spec (findClass_of_methodNamed hn) hkY h3
  have h : At U g.method c below := by rw [hg]; exact X.here
  have hlocals9 : W9 + (maxL + 11) + (headSpec ws rm).room.locals ≤ R.locals := hlocals
  have happ : (headSpec ws rm).appliesLoose y e.platform (U.calling g mk a) = true :=
    Spec.appliesLoose_calling (g := g) h hdg hn hkY hinitY
      (X.room_calling (g := g) (R' := (headSpec ws rm).room) hsize hmY hcY hframes (by rw [hlY]; omega) h4 h5) h1
  obtain ⟨mid, hmid⟩ := h.above
  have hfr : (U.setTop g).frames = (.java g :: mid) ++ below := by rw [State.frames_setTop' g h.top, hmid]; rfl
  obtain ⟨o, s₂, hsteps, -, hend, hq⟩ := Steps.callFree hM p X.admits X.cas X.clock (acts := []) hfr happ hPc trivial
  have hq' : vx_Q Qc XC mc ms free a (U.calling g mk a) o s₂ := hq
  rw [State.frames_setTop' g h.top] at hend
  obtain ⟨g₀, hg0⟩ := Option.isSome_iff_exists.mp h.top
  obtain ⟨r, hr⟩ := State.topJava?_eq_some.mp hg0
  have hr' : (({ U with heap := s₂.heap, slotsUsed := s₂.slotsUsed } : State).setVm s₂.vm).frames = .java g₀ :: r := hr
  rcases hq' with ⟨hqc, L, hfe, hL⟩ | ⟨q, rfl, E, ce, L, hx, hce, hcv, hcl, hW₂, hsm, hL⟩
  · obtain ⟨⟨v, rfl⟩, hW₂, e2, q2, q3, q4, q5, q6⟩ := id hfe
    have e3 : s₂ = ({ (U.calling g mk a).setFrames s₂.frames with heap := s₂.heap, slotsUsed := s₂.slotsUsed } : State).setVm s₂.vm := by
      have : s₂ = ({ s₂ with vm := (U.calling g mk a).vm } : State).setVm s₂.vm := rfl
      rw [e2] at this
      exact this
    obtain ⟨c₂, i₂, len₂, hc₂, hd₂, hf₂⟩ := hend
    have hW' : U.WarmedH s₂.vm := hW₂
    have hcc : c₂ = c := by
      have h1 : s₂.code? g.method = U.code? g.method := by
        rw [State.code?_eq, State.code?_eq, hW'.alike.method?]
      exact Option.some.inj (hc₂.symm.trans (h1.trans h.code))
    subst hcc
    have hlen : len₂ = len := by rw [hdg] at hd₂; cases hd₂; rfl
    subst hlen
    have hs₂ : s₂ = (({ U with heap := s₂.heap, slotsUsed := s₂.slotsUsed } : State).setVm s₂.vm).setTop { g with pc := g.pc + len₂, stack := v.toList ++ g.stack } := by
      refine e3.trans ?_
      rw [hf₂, State.calling_eq h.top, State.setFrames_setFrames, State.setTop_of_frames _ hr', hr]
      rfl
    have hsame : U.sameButNew ({ U with heap := s₂.heap, slotsUsed := s₂.slotsUsed } : State) L mc ms := by
      refine ⟨?_, q2, q3, q4, q5, q6⟩
      obtain ⟨t, ht, -⟩ := State.frames_cons hr
      show ({ U with heap := s₂.heap, slotsUsed := s₂.slotsUsed } : State) = { U.setFrames U.frames with heap := s₂.heap, slotsUsed := s₂.slotsUsed }
      rw [State.setFrames_self ht]
    subst hg
    refine Or.inl ⟨v, ⟨(({ U with heap := s₂.heap, slotsUsed := s₂.slotsUsed } : State).setVm s₂.vm), Ls ++ L, c0 + mc, s0 + ms⟩,
      ⟨X.admits, X.cas, X.clock, X.frames, X.room, X.hears, X.method, X.code, (X.here.setHeapUsed s₂.heap s₂.slotsUsed).setVm hW'.alike, X.tail, State.WarmedH.trans X.warmed hW', X.limits, X.bytes, X.same.trans (hsame.setVm s.vm)⟩,
      ⟨g, mk, s₂, L, rfl, rfl, hqc, rfl, hL, rfl, rfl⟩, ?_⟩
    show Steps p.tables e below _ ((({ U with heap := s₂.heap, slotsUsed := s₂.slotsUsed } : State).setVm s₂.vm).setTop { g with pc := g.pc + len₂, stack := v.toList ++ g.stack })
    rw [← hs₂]
    exact hsteps
  · obtain ⟨e2, q2, q3, q4, q5, q6⟩ := id hsm
    have e3 : s₂ = ({ (U.calling g mk a).setFrames s₂.frames with heap := s₂.heap, slotsUsed := s₂.slotsUsed } : State).setVm s₂.vm := by
      have : s₂ = ({ s₂ with vm := (U.calling g mk a).vm } : State).setVm s₂.vm := rfl
      rw [e2] at this
      exact this
    have hf₂ : s₂.frames = .throwing q :: .java g :: U.frames.tail := hend
    have hW' : U.WarmedH s₂.vm := hW₂
    have hs₂ : s₂ = ((({ U with heap := s₂.heap, slotsUsed := s₂.slotsUsed } : State).setVm s₂.vm).setTop g).pushFrame (.throwing q) := by
      refine e3.trans ?_
      rw [hf₂, State.calling_eq h.top, State.setFrames_setFrames, State.pushFrame, State.frames_setTop _ hr', State.setTop_of_frames _ hr', State.setFrames_setFrames, hr]
      rfl
    have hsame : U.sameButNew ({ U with heap := s₂.heap, slotsUsed := s₂.slotsUsed } : State) L mc ms := by
      refine ⟨?_, q2, q3, q4, q5, q6⟩
      obtain ⟨t, ht, -⟩ := State.frames_cons hr
      show ({ U with heap := s₂.heap, slotsUsed := s₂.slotsUsed } : State) = { U.setFrames U.frames with heap := s₂.heap, slotsUsed := s₂.slotsUsed }
      rw [State.setFrames_self ht]
    subst hg
    refine Or.inr ⟨q, ⟨(({ U with heap := s₂.heap, slotsUsed := s₂.slotsUsed } : State).setVm s₂.vm), Ls ++ L, c0 + mc, s0 + ms⟩,
      ⟨X.admits, X.cas, X.clock, X.frames, X.room, X.hears, X.method, X.code, (X.here.setHeapUsed s₂.heap s₂.slotsUsed).setVm hW'.alike, X.tail, State.WarmedH.trans X.warmed hW', X.limits, X.bytes, X.same.trans (hsame.setVm s.vm)⟩,
      ⟨g, mk, s₂, L, E, ce, rfl, rfl, hx, hce, hcv, hcl, rfl, hL, rfl, rfl⟩, ?_⟩
    show Steps p.tables e below _ (((({ U with heap := s₂.heap, slotsUsed := s₂.slotsUsed } : State).setVm s₂.vm).setTop g).pushFrame (.throwing q))
    rw [← hs₂]
    exact hsteps
end Payer
section Calls
variable {p : Program} {l : Launch} {e : Env} {R : Room} {s : State} {m : MethodId} {args : Array Value} {below : List Frame} {meth : Method} {c : Code} {T : State} {locs : List Loc} {cells slots : Nat}
theorem vx_callV (X : Stand p l e R s m args below meth c T locs cells slots) (hexec : p.tables.exec = Jvm.exec) {own C : String} {index : Nat} {y : MethodName} {bytes : ByteArray} {maxL : Nat} {ret : Option FieldType}
    (hown : s.vm.findClass own = some m.cls) (hlink : (Cond.methodLink own index y).before args s = true) (hinst : (Cond.instanceMethod y).before args s = true) (hsel : (Cond.selects C y y).before args s = true)
    (hcode : (Cond.code y bytes maxL ret).before args s = true) (hy : y.cls ≠ "java/lang/invoke/MethodHandle" ∧ y.cls ≠ "java/lang/invoke/VarHandle")
    {W9 : Nat} {Pre : Pt → Array Value → Prop} {Post : Pt → Array Value → Option Value → Pt → Prop} {PostX : Pt → Array Value → Addr → Pt → Prop} (hK : vx_Back l R p e below s args y 3 W9 Pre Post PostX)
    {b : Addr} {cellB : Cell} (hcell : T.heap[b]? = some cellB) (hobj : cellB.vm.isStatics = false) (hcls : s.vm.findClass C = some cellB.cls)
    {g : JFrame} (hg : g.method = m) (hsize : g.locals.size = c.maxLocals) {argsL rest : List Value} (hlen : ∀ sig, parseMethodDescriptor y.desc = some sig → argsL.length = sig.parameters.length)
    (hstack : g.stack = argsL.reverse ++ .ref b :: rest) (hW : 2 * g.monitorRoom + (rest.map fun v => v.category).sum ≤ W9) (hdg : decode c.code g.pc = .ok (.invokevirtual index, 3))
    (hpre : ∀ vm₁, s.WarmedH vm₁ → Pre ⟨T.setVm vm₁, locs, cells, slots⟩ (Value.ref b :: argsL).toArray) :
    (∃ (v : Option Value) (vm₁ : Vm) (B : Pt), s.WarmedH vm₁ ∧ Stand p l e R s m args below meth c B.U B.locs B.cells B.slots ∧ Post ⟨T.setVm vm₁, locs, cells, slots⟩ (Value.ref b :: argsL).toArray v B ∧
      ∀ target, Steps p.tables e below (B.U.setTop { g with pc := g.pc + 3, stack := v.toList ++ rest }) target → Steps p.tables e below (T.setTop g) target) ∨
    (∃ (q : Addr) (vm₁ : Vm) (B : Pt), s.WarmedH vm₁ ∧ Stand p l e R s m args below meth c B.U B.locs B.cells B.slots ∧ PostX ⟨T.setVm vm₁, locs, cells, slots⟩ (Value.ref b :: argsL).toArray q B ∧
      Steps p.tables e below (T.setTop g) ((B.U.setTop { g with stack := rest }).pushFrame (.throwing q))) := by
  obtain ⟨mk, methM, hnamed, hmethM, hstM, habM⟩ := Cond.instanceMethod_spec hinst
  obtain ⟨methM', cM, hmethM', -, -, -, -, -, -, hsigM⟩ := Cond.code_spec hnamed hcode
  cases hmethM.symm.trans hmethM'
  obtain ⟨c2, r2, m2, q1, q2, q3, q4, kP, hkP, hkPi⟩ := Cond.selects_spec hsel
  cases hcls.symm.trans q1
  cases (State.methodFound?_of_named hnamed hy).symm.trans q2
  cases hnamed.symm.trans q3
  have hselP : selectMethod e.platform s.vm cellB.cls mk = .method mk := by rw [Launch.admits_selectMethod X.admits]; exact q4
  obtain ⟨vm₁, X₁, hstep₁⟩ := X.invokevirtual hexec hown hlink hnamed hmethM hstM hkP hkPi hy (a := b) (cell := cellB) hcell
    (fun z h => by rw [h] at hobj; cases hobj) hselP hmethM habM hkP hkPi (g := g) hg (argsL := argsL) (rest := rest) (hlen _ hsigM) hstack hdg
  rcases hK m meth c ⟨T.setVm vm₁, locs, cells, slots⟩ { g with stack := rest } (.invokevirtual index) mk (Value.ref b :: argsL).toArray X₁ hg hsize hdg hW (X₁.named hnamed) (hpre vm₁ X₁.warmed) with ⟨v, B, X', hpost, hsteps⟩ | ⟨q, B, X', hpost, hsteps⟩
  · exact Or.inl ⟨v, vm₁, B, X₁.warmed, X', hpost, fun target h => hstep₁ _ fun acts => by rw [doInvoke_state]; exact hsteps.trans h⟩
  · exact Or.inr ⟨q, vm₁, B, X₁.warmed, X', hpost, hstep₁ _ fun acts => by rw [doInvoke_state]; exact hsteps⟩
theorem vx_callS (X : Stand p l e R s m args below meth c T locs cells slots) (hexec : p.tables.exec = Jvm.exec) {own : String} {index : Nat} {y : MethodName} {bytes : ByteArray} {maxL : Nat} {ret : Option FieldType}
    (hown : s.vm.findClass own = some m.cls) (hlink : (Cond.methodLink own index y).before args s = true) (hstat : (Cond.static y).before args s = true) (hinit : (Cond.initialized y.cls).before args s = true)
    (hcode : (Cond.code y bytes maxL ret).before args s = true) (hy : y.cls ≠ "java/lang/invoke/MethodHandle" ∧ y.cls ≠ "java/lang/invoke/VarHandle")
    {W9 : Nat} {Pre : Pt → Array Value → Prop} {Post : Pt → Array Value → Option Value → Pt → Prop} {PostX : Pt → Array Value → Addr → Pt → Prop} (hK : vx_Back l R p e below s args y 3 W9 Pre Post PostX)
    {g : JFrame} (hg : g.method = m) (hsize : g.locals.size = c.maxLocals) {argsL rest : List Value} (hlen : ∀ sig, parseMethodDescriptor y.desc = some sig → argsL.length = sig.parameters.length)
    (hstack : g.stack = argsL.reverse ++ rest) (hW : 2 * g.monitorRoom + (rest.map fun v => v.category).sum ≤ W9) (hdg : decode c.code g.pc = .ok (.invokestatic index, 3))
    (hpre : ∀ vm₁, s.WarmedH vm₁ → Pre ⟨T.setVm vm₁, locs, cells, slots⟩ argsL.toArray) :
    (∃ (v : Option Value) (vm₁ : Vm) (B : Pt), s.WarmedH vm₁ ∧ Stand p l e R s m args below meth c B.U B.locs B.cells B.slots ∧ Post ⟨T.setVm vm₁, locs, cells, slots⟩ argsL.toArray v B ∧
      ∀ target, Steps p.tables e below (B.U.setTop { g with pc := g.pc + 3, stack := v.toList ++ rest }) target → Steps p.tables e below (T.setTop g) target) ∨
    (∃ (q : Addr) (vm₁ : Vm) (B : Pt), s.WarmedH vm₁ ∧ Stand p l e R s m args below meth c B.U B.locs B.cells B.slots ∧ PostX ⟨T.setVm vm₁, locs, cells, slots⟩ argsL.toArray q B ∧
      Steps p.tables e below (T.setTop g) ((B.U.setTop { g with stack := rest }).pushFrame (.throwing q))) := by
  obtain ⟨mk, hnamed⟩ := Cond.code_named hcode
  obtain ⟨methM, cM, hmethM, -, -, -, -, -, -, hsigM⟩ := Cond.code_spec hnamed hcode
  have hstatic : methM.isStatic = true := Cond.static_spec hnamed hmethM hstat
  obtain ⟨kP, hkP, -⟩ := className_of_methodNamed hnamed
  have hinitP : kP.init = .initialized := Cond.initialized_spec (findClass_of_methodNamed hnamed) hkP hinit
  obtain ⟨vm₁, X₁, hstep₁⟩ := X.invokestatic hexec hown hlink hnamed hmethM hstatic hkP hinitP hy (g := g) hg (argsL := argsL) (rest := rest) (hlen _ hsigM) hstack hdg
  rcases hK m meth c ⟨T.setVm vm₁, locs, cells, slots⟩ { g with stack := rest } (.invokestatic index) mk argsL.toArray X₁ hg hsize hdg hW (X₁.named hnamed) (hpre vm₁ X₁.warmed) with ⟨v, B, X', hpost, hsteps⟩ | ⟨q, B, X', hpost, hsteps⟩
  · exact Or.inl ⟨v, vm₁, B, X₁.warmed, X', hpost, fun target h => hstep₁ _ fun acts => by rw [doInvoke_state]; exact hsteps.trans h⟩
  · exact Or.inr ⟨q, vm₁, B, X₁.warmed, X', hpost, hstep₁ _ fun acts => by rw [doInvoke_state]; exact hsteps⟩
end Calls
theorem vx_cls {s : State} {T : State} {vm₁ : Vm} {E : String} {k : ClassId} (hW : s.WarmedH vm₁) (h : (T.setVm vm₁).vm.findClass E = some k) : s.vm.findClass E = some k := by
  have h1 : vm₁.findClass E = some k := h
  rw [hW.alike.findClass] at h1
  exact h1
/-- the method's frame g, with q thrown over it -/
def vx_W (p : Program) (l : Launch) (e : Env) (R : Room) (s : State) (m : MethodId) (args : Array Value) (below : List Frame) (meth : Method) (c : Code) (H : Heap) (locs : List Loc) (cells slots : Nat) (Q : State → Prop) (g : JFrame) (q : Addr) : Prop :=
  ∀ T : State, T.heap = H → Stand p l e R s m args below meth c T locs cells slots → ∃ t, Steps p.tables e below ((T.setTop g).pushFrame (.throwing q)) t ∧ Q t
def vx_Run (p : Program) (l : Launch) (e : Env) (R : Room) (s : State) (m : MethodId) (args : Array Value) (below : List Frame) (meth : Method) (c : Code) (H : Heap) (locs : List Loc) (cells slots mc ms : Nat) (g : JFrame) (rest : List Value) (Qa : State → Outcome → State → Prop) (XC : String → State → State → Prop) (free : Addr → Prop) : Prop :=
  ∀ T : State, T.heap = H → Stand p l e R s m args below meth c T locs cells slots →
    (∃ (v : Option Value) (st₀ t T' : State) (L : List Loc), st₀.heap = H ∧ Stand p l e R s m args below meth c T' (locs ++ L) (cells + mc) (slots + ms) ∧ (∀ q ∈ L, free q.base) ∧ T'.heap = t.heap ∧ T'.vm = t.vm ∧ Qa st₀ (.returned v) t ∧
      Goes p e below T g T' { g with pc := g.pc + 3, stack := v.toList ++ rest }) ∨
    (∃ (q : Addr) (st₀ t T' : State) (L : List Loc) (E : String) (ce : Cell), st₀.heap = H ∧ Stand p l e R s m args below meth c T' (locs ++ L) (cells + mc) (slots + ms) ∧ (∀ z ∈ L, free z.base) ∧ T'.heap = t.heap ∧ T'.vm = t.vm ∧ XC E st₀ t ∧ t.heap[q]? = some ce ∧ ce.vm = .none ∧ s.vm.findClass E = some ce.cls ∧
      Steps p.tables e below (T.setTop g) ((T'.setTop { g with stack := rest }).pushFrame (.throwing q)))
def vx_X {S : Type} (px : S → Prop) (B : String → S → State → Prop) (A : Nat → Prop) : String → State → State → Prop := fun E st t => ∃ u : S, px u ∧ B E u t ∧ va_F A st t
section Runs
variable {p : Program} {l : Launch} {e : Env} {R : Room} {s : State} {m : MethodId} {args : Array Value} {below : List Frame} {meth : Method} {c : Code} {H : Heap} {locs : List Loc} {cells slots : Nat}
variable {y : MethodName} {bytes cc : ByteArray} {maxL nL mc ms n index : Nat} {ret : Option FieldType} {ws : List Cond} {rm : Room} {Pc : Array Value → State → Prop} {Qc : Array Value → State → Outcome → State → Prop} {XC : String → State → State → Prop} {free : Addr → Prop} {Ts : List Cond} {own C : String} {b : Addr} {As rest : List Value} {g : JFrame}
theorem vx_callBack (cb : CallB R s args own index y bytes maxL ret ws rm mc ms n) (hM : vx_Met l y ws rm Pc Qc XC mc ms free) (hbl : FrameBlind Pc) : vx_Back l R p e below s args y 3 8 (PreOf R mc ms Pc) (PostOf Qc mc ms free) (vx_Post XC mc ms free) := by
  obtain ⟨hrc, hrs, hfr, hlo, hws, hcw, -, hini, -⟩ := cb
  exact vx_back (bytes := bytes) (maxL := maxL) (ret := ret) hM hbl hrc hrs hfr hlo hws hcw (fun a' U hW => word_at hW (Or.inl (by first | rfl | simp [Cond.onTables, Cond.keeps, Cond.steady])) hini)
theorem vx_runV (S : CallFix p m c cc nL s args Ts own) (hM : vx_Met l y ws rm Pc Qc XC mc ms free) (cw : CallW R s args own C index y bytes maxL ret ws rm mc ms n) (hp : PreV s H C b Pc As)
    (hg : g.method = m) (hn : As.length = n) (hsize : g.locals.size = nL) (hstack : g.stack = As.reverse ++ .ref b :: rest) (hW : 2 * g.monitorRoom + (rest.map fun v => v.category).sum ≤ 8) (hdg : decode cc g.pc = .ok (.invokevirtual index, 3)) (hf : cells + mc ≤ R.cells ∧ slots + ms ≤ R.slots) :
    vx_Run p l e R s m args below meth c H locs cells slots mc ms g rest (Qc (Value.ref b :: As).toArray) XC free := by
  have hK : vx_Back l R p e below s args y 3 8 (PreOf R mc ms Pc) (PostOf Qc mc ms free) (vx_Post XC mc ms free) := vx_callBack cw.1 hM hp.1
  obtain ⟨⟨-, -, -, -, -, -, hcode, -, hy, hlen, hl⟩, hin, hse⟩ := cw
  obtain ⟨hx, hb, hml, ho, -⟩ := S
  obtain ⟨-, ⟨cellB, hcB, hoB, hclB⟩, hPc⟩ := hp
  intro T hT X
  rcases vx_callV X hx (C := C) (bytes := bytes) (maxL := maxL) (ret := ret) ho hl hin hse hcode hy hK (by rw [hT]; exact hcB) hoB hclB hg (hsize.trans hml.symm) (argsL := As) (rest := rest) (fun sig h => hn.trans (hlen sig h)) hstack hW (by rw [hb]; exact hdg)
    (fun vm₁ hW₁ => ⟨hf.1, hf.2, hPc (T.setVm vm₁) hT hW₁⟩) with ⟨v, vm₁, ⟨U', l2, c2, s2⟩, hW₁, X', ⟨g', mk, t, L, e1, e2, hq, h1, hL, h2, h3⟩, st⟩ | ⟨q, vm₁, ⟨U', l2, c2, s2⟩, hW₁, X', ⟨g', mk, t, L, E, ce, e1, e2, hq, hce, hcv, hcl, h1, hL, h2, h3⟩, st⟩
  · dsimp only [Pt.U, Pt.locs, Pt.cells, Pt.slots] at X' e1 e2 h1 h2 h3 st
    subst h1; subst h2; subst h3
    exact Or.inl ⟨v, (T.setVm vm₁).calling g' mk (Value.ref b :: As).toArray, t, U', L, hT, X', hL, e1, e2, hq, st⟩
  · dsimp only [Pt.U, Pt.locs, Pt.cells, Pt.slots] at X' e1 e2 h1 h2 h3 st hcl
    subst h1; subst h2; subst h3
    exact Or.inr ⟨q, (T.setVm vm₁).calling g' mk (Value.ref b :: As).toArray, t, U', L, E, ce, hT, X', hL, e1, e2, hq, hce, hcv, vx_cls hW₁ hcl, st⟩
theorem vx_runS (S : CallFix p m c cc nL s args Ts own) (hM : vx_Met l y ws rm Pc Qc XC mc ms free) (cw : CallB R s args own index y bytes maxL ret ws rm mc ms n ∧ (Cond.static y).before args s = true) (hp : PreS s H Pc As)
    (hg : g.method = m) (hn : As.length = n) (hsize : g.locals.size = nL) (hstack : g.stack = As.reverse ++ rest) (hW : 2 * g.monitorRoom + (rest.map fun v => v.category).sum ≤ 8) (hdg : decode cc g.pc = .ok (.invokestatic index, 3)) (hf : cells + mc ≤ R.cells ∧ slots + ms ≤ R.slots) :
    vx_Run p l e R s m args below meth c H locs cells slots mc ms g rest (Qc As.toArray) XC free := by
  have hK : vx_Back l R p e below s args y 3 8 (PreOf R mc ms Pc) (PostOf Qc mc ms free) (vx_Post XC mc ms free) := vx_callBack cw.1 hM hp.1
  obtain ⟨⟨-, -, -, -, -, -, hcode, hini, hy, hlen, hl⟩, hstt⟩ := cw
  obtain ⟨hx, hb, hml, ho, -⟩ := S
  intro T hT X
  rcases vx_callS X hx (bytes := bytes) (maxL := maxL) (ret := ret) ho hl hstt hini hcode hy hK hg (hsize.trans hml.symm) (argsL := As) (rest := rest) (fun sig h => hn.trans (hlen sig h)) hstack hW (by rw [hb]; exact hdg)
    (fun vm₁ hW₁ => ⟨hf.1, hf.2, hp.2 (T.setVm vm₁) hT hW₁⟩) with ⟨v, vm₁, ⟨U', l2, c2, s2⟩, hW₁, X', ⟨g', mk, t, L, e1, e2, hq, h1, hL, h2, h3⟩, st⟩ | ⟨q, vm₁, ⟨U', l2, c2, s2⟩, hW₁, X', ⟨g', mk, t, L, E, ce, e1, e2, hq, hce, hcv, hcl, h1, hL, h2, h3⟩, st⟩
  · dsimp only [Pt.U, Pt.locs, Pt.cells, Pt.slots] at X' e1 e2 h1 h2 h3 st
    subst h1; subst h2; subst h3
    exact Or.inl ⟨v, (T.setVm vm₁).calling g' mk As.toArray, t, U', L, hT, X', hL, e1, e2, hq, st⟩
  · dsimp only [Pt.U, Pt.locs, Pt.cells, Pt.slots] at X' e1 e2 h1 h2 h3 st hcl
    subst h1; subst h2; subst h3
    exact Or.inr ⟨q, (T.setVm vm₁).calling g' mk As.toArray, t, U', L, E, ce, hT, X', hL, e1, e2, hq, hce, hcv, vx_cls hW₁ hcl, st⟩
end Runs
section Rows
variable {p : Program} {l : Launch} {e : Env} {R : Room} {s : State} {m : MethodId} {args : Array Value} {below : List Frame} {meth : Method} {c : Code} {H : Heap} {locs : List Loc} {cells slots : Nat} {Q : State → Prop}
variable {mc ms : Nat} {free : Addr → Prop} {A0 A1 : Nat → Prop} {H0 : Heap} {a : Array Value} {pc : Nat} {ls : Array Slot} {st0 rest : List Value}
theorem vx_keep {st₀ t T' : State} {L : List Loc} (h0 : st₀.heap = H) (e1 : T'.heap = t.heap) (hS : va_S A0 H0 H locs) (hA : ∀ q, q < H.size → A1 q → A0 q) (hf : ∀ q, free q → A0 q) (hL : ∀ q ∈ L, free q.base) (hF : va_F A1 st₀ t) :
    H.size ≤ T'.heap.size ∧ (∀ q : Nat, q < H.size → ¬ A1 q → T'.heap[q]? = H[q]?) ∧ va_S A0 H0 T'.heap (locs ++ L) := by
  obtain ⟨hz, hk⟩ := hF
  rw [h0] at hz hk
  exact ⟨by rw [e1]; exact hz, fun q h1 h2 => by rw [e1]; exact hk q h1 h2,
    ⟨Nat.le_trans hS.1 (by rw [e1]; exact hz), fun q h1 h2 => by rw [e1, hk q (Nat.lt_of_lt_of_le h1 hS.1) (fun z => h2 (hA q (Nat.lt_of_lt_of_le h1 hS.1) z))]; exact hS.2.1 q h1 h2, fun q hq => by
      rcases List.mem_append.mp hq with h | h
      · exact hS.2.2 q h
      · exact hf _ (hL q h)⟩⟩
theorem vx_calli {S SX : Type} {post : Int32 → S → Prop} {px : SX → Prop} {B : S → State → Prop} {BX : String → SX → State → Prop} {AX : Nat → Prop} (hr : vx_Run p l e R s m args below meth c H locs cells slots mc ms (F0 m pc ls st0) rest (va_Qi post B A1 a) (vx_X px BX AX) free) (hS : va_S A0 H0 H locs) (hA : ∀ q, q < H.size → A1 q → A0 q) (hf : ∀ q, free q → A0 q) (hAX : ∀ q, q < H.size → AX q → A0 q)
    (kx : ∀ (E : String) (ce : Cell) (q9 : Addr) (u : SX) (t : State) (H1 : Heap) (locs1 : List Loc), t.heap = H1 → s.vm.Alike t.vm → px u → BX E u t → H.size ≤ H1.size → (∀ q : Nat, q < H.size → ¬ AX q → H1[q]? = H[q]?) → va_S A0 H0 H1 locs1 → H1[q9]? = some ce → ce.vm = .none → s.vm.findClass E = some ce.cls → vx_W p l e R s m args below meth c H1 locs1 (cells + mc) (slots + ms) Q (F0 m pc ls rest) q9)
    (kk : ∀ (r : Int32) (u : S) (t : State) (H1 : Heap) (locs1 : List Loc), t.heap = H1 → s.vm.Alike t.vm → post r u → B u t → H.size ≤ H1.size → (∀ q : Nat, q < H.size → ¬ A1 q → H1[q]? = H[q]?) → va_S A0 H0 H1 locs1 → W p l e R s m args below meth c H1 locs1 (cells + mc) (slots + ms) Q (F0 m (pc + 3) ls (.int r :: rest))) : W p l e R s m args below meth c H locs cells slots Q (F0 m pc ls st0) := by
  intro T hT X
  rcases hr T hT X with ⟨v, st₀, t, T', L, h0, X', hL, e1, e2, ⟨⟨r, u, hv, hp, hb⟩, hF⟩, st⟩ | ⟨q, st₀, t, T', L, E, ce, h0, X', hL, e1, e2, ⟨u, hp, hb, hF⟩, hce, hcv, hcl, st⟩
  · cases hv
    obtain ⟨k1, k2, k3⟩ := vx_keep h0 e1 hS hA hf hL hF
    obtain ⟨t2, a1, b1⟩ := kk r u t T'.heap (locs ++ L) e1.symm (by rw [← e2]; exact X'.warmed.alike) hp hb k1 k2 k3 T' rfl X'
    exact ⟨t2, st t2 a1, b1⟩
  · obtain ⟨k1, k2, k3⟩ := vx_keep h0 e1 hS hAX hf hL hF
    obtain ⟨t2, a1, b1⟩ := kx E ce q u t T'.heap (locs ++ L) e1.symm (by rw [← e2]; exact X'.warmed.alike) hp hb k1 k2 k3 (by rw [e1]; exact hce) hcv hcl T' rfl X'
    exact ⟨t2, st.trans a1, b1⟩
theorem vx_calll {S SX : Type} {post : Int64 → S → Prop} {px : SX → Prop} {B : S → State → Prop} {BX : String → SX → State → Prop} {AX : Nat → Prop} (hr : vx_Run p l e R s m args below meth c H locs cells slots mc ms (F0 m pc ls st0) rest (va_Ql post B A1 a) (vx_X px BX AX) free) (hS : va_S A0 H0 H locs) (hA : ∀ q, q < H.size → A1 q → A0 q) (hf : ∀ q, free q → A0 q) (hAX : ∀ q, q < H.size → AX q → A0 q)
    (kx : ∀ (E : String) (ce : Cell) (q9 : Addr) (u : SX) (t : State) (H1 : Heap) (locs1 : List Loc), t.heap = H1 → s.vm.Alike t.vm → px u → BX E u t → H.size ≤ H1.size → (∀ q : Nat, q < H.size → ¬ AX q → H1[q]? = H[q]?) → va_S A0 H0 H1 locs1 → H1[q9]? = some ce → ce.vm = .none → s.vm.findClass E = some ce.cls → vx_W p l e R s m args below meth c H1 locs1 (cells + mc) (slots + ms) Q (F0 m pc ls rest) q9)
    (kk : ∀ (r : Int64) (u : S) (t : State) (H1 : Heap) (locs1 : List Loc), t.heap = H1 → s.vm.Alike t.vm → post r u → B u t → H.size ≤ H1.size → (∀ q : Nat, q < H.size → ¬ A1 q → H1[q]? = H[q]?) → va_S A0 H0 H1 locs1 → W p l e R s m args below meth c H1 locs1 (cells + mc) (slots + ms) Q (F0 m (pc + 3) ls (.long r :: rest))) : W p l e R s m args below meth c H locs cells slots Q (F0 m pc ls st0) := by
  intro T hT X
  rcases hr T hT X with ⟨v, st₀, t, T', L, h0, X', hL, e1, e2, ⟨⟨r, u, hv, hp, hb⟩, hF⟩, st⟩ | ⟨q, st₀, t, T', L, E, ce, h0, X', hL, e1, e2, ⟨u, hp, hb, hF⟩, hce, hcv, hcl, st⟩
  · cases hv
    obtain ⟨k1, k2, k3⟩ := vx_keep h0 e1 hS hA hf hL hF
    obtain ⟨t2, a1, b1⟩ := kk r u t T'.heap (locs ++ L) e1.symm (by rw [← e2]; exact X'.warmed.alike) hp hb k1 k2 k3 T' rfl X'
    exact ⟨t2, st t2 a1, b1⟩
  · obtain ⟨k1, k2, k3⟩ := vx_keep h0 e1 hS hAX hf hL hF
    obtain ⟨t2, a1, b1⟩ := kx E ce q u t T'.heap (locs ++ L) e1.symm (by rw [← e2]; exact X'.warmed.alike) hp hb k1 k2 k3 (by rw [e1]; exact hce) hcv hcl T' rfl X'
    exact ⟨t2, st.trans a1, b1⟩
theorem vx_callf {S SX : Type} {post : UInt32 → S → Prop} {px : SX → Prop} {B : S → State → Prop} {BX : String → SX → State → Prop} {AX : Nat → Prop} (hr : vx_Run p l e R s m args below meth c H locs cells slots mc ms (F0 m pc ls st0) rest (va_Qf post B A1 a) (vx_X px BX AX) free) (hS : va_S A0 H0 H locs) (hA : ∀ q, q < H.size → A1 q → A0 q) (hf : ∀ q, free q → A0 q) (hAX : ∀ q, q < H.size → AX q → A0 q)
    (kx : ∀ (E : String) (ce : Cell) (q9 : Addr) (u : SX) (t : State) (H1 : Heap) (locs1 : List Loc), t.heap = H1 → s.vm.Alike t.vm → px u → BX E u t → H.size ≤ H1.size → (∀ q : Nat, q < H.size → ¬ AX q → H1[q]? = H[q]?) → va_S A0 H0 H1 locs1 → H1[q9]? = some ce → ce.vm = .none → s.vm.findClass E = some ce.cls → vx_W p l e R s m args below meth c H1 locs1 (cells + mc) (slots + ms) Q (F0 m pc ls rest) q9)
    (kk : ∀ (r : UInt32) (u : S) (t : State) (H1 : Heap) (locs1 : List Loc), t.heap = H1 → s.vm.Alike t.vm → post r u → B u t → H.size ≤ H1.size → (∀ q : Nat, q < H.size → ¬ A1 q → H1[q]? = H[q]?) → va_S A0 H0 H1 locs1 → W p l e R s m args below meth c H1 locs1 (cells + mc) (slots + ms) Q (F0 m (pc + 3) ls (.float r :: rest))) : W p l e R s m args below meth c H locs cells slots Q (F0 m pc ls st0) := by
  intro T hT X
  rcases hr T hT X with ⟨v, st₀, t, T', L, h0, X', hL, e1, e2, ⟨⟨r, u, hv, hp, hb⟩, hF⟩, st⟩ | ⟨q, st₀, t, T', L, E, ce, h0, X', hL, e1, e2, ⟨u, hp, hb, hF⟩, hce, hcv, hcl, st⟩
  · cases hv
    obtain ⟨k1, k2, k3⟩ := vx_keep h0 e1 hS hA hf hL hF
    obtain ⟨t2, a1, b1⟩ := kk r u t T'.heap (locs ++ L) e1.symm (by rw [← e2]; exact X'.warmed.alike) hp hb k1 k2 k3 T' rfl X'
    exact ⟨t2, st t2 a1, b1⟩
  · obtain ⟨k1, k2, k3⟩ := vx_keep h0 e1 hS hAX hf hL hF
    obtain ⟨t2, a1, b1⟩ := kx E ce q u t T'.heap (locs ++ L) e1.symm (by rw [← e2]; exact X'.warmed.alike) hp hb k1 k2 k3 (by rw [e1]; exact hce) hcv hcl T' rfl X'
    exact ⟨t2, st.trans a1, b1⟩
theorem vx_calld {S SX : Type} {post : UInt64 → S → Prop} {px : SX → Prop} {B : S → State → Prop} {BX : String → SX → State → Prop} {AX : Nat → Prop} (hr : vx_Run p l e R s m args below meth c H locs cells slots mc ms (F0 m pc ls st0) rest (va_Qd post B A1 a) (vx_X px BX AX) free) (hS : va_S A0 H0 H locs) (hA : ∀ q, q < H.size → A1 q → A0 q) (hf : ∀ q, free q → A0 q) (hAX : ∀ q, q < H.size → AX q → A0 q)
    (kx : ∀ (E : String) (ce : Cell) (q9 : Addr) (u : SX) (t : State) (H1 : Heap) (locs1 : List Loc), t.heap = H1 → s.vm.Alike t.vm → px u → BX E u t → H.size ≤ H1.size → (∀ q : Nat, q < H.size → ¬ AX q → H1[q]? = H[q]?) → va_S A0 H0 H1 locs1 → H1[q9]? = some ce → ce.vm = .none → s.vm.findClass E = some ce.cls → vx_W p l e R s m args below meth c H1 locs1 (cells + mc) (slots + ms) Q (F0 m pc ls rest) q9)
    (kk : ∀ (r : UInt64) (u : S) (t : State) (H1 : Heap) (locs1 : List Loc), t.heap = H1 → s.vm.Alike t.vm → post r u → B u t → H.size ≤ H1.size → (∀ q : Nat, q < H.size → ¬ A1 q → H1[q]? = H[q]?) → va_S A0 H0 H1 locs1 → W p l e R s m args below meth c H1 locs1 (cells + mc) (slots + ms) Q (F0 m (pc + 3) ls (.double r :: rest))) : W p l e R s m args below meth c H locs cells slots Q (F0 m pc ls st0) := by
  intro T hT X
  rcases hr T hT X with ⟨v, st₀, t, T', L, h0, X', hL, e1, e2, ⟨⟨r, u, hv, hp, hb⟩, hF⟩, st⟩ | ⟨q, st₀, t, T', L, E, ce, h0, X', hL, e1, e2, ⟨u, hp, hb, hF⟩, hce, hcv, hcl, st⟩
  · cases hv
    obtain ⟨k1, k2, k3⟩ := vx_keep h0 e1 hS hA hf hL hF
    obtain ⟨t2, a1, b1⟩ := kk r u t T'.heap (locs ++ L) e1.symm (by rw [← e2]; exact X'.warmed.alike) hp hb k1 k2 k3 T' rfl X'
    exact ⟨t2, st t2 a1, b1⟩
  · obtain ⟨k1, k2, k3⟩ := vx_keep h0 e1 hS hAX hf hL hF
    obtain ⟨t2, a1, b1⟩ := kx E ce q u t T'.heap (locs ++ L) e1.symm (by rw [← e2]; exact X'.warmed.alike) hp hb k1 k2 k3 (by rw [e1]; exact hce) hcv hcl T' rfl X'
    exact ⟨t2, st.trans a1, b1⟩
theorem vx_callv {S SX : Type} {post : S → Prop} {px : SX → Prop} {B : S → State → Prop} {BX : String → SX → State → Prop} {AX : Nat → Prop} (hr : vx_Run p l e R s m args below meth c H locs cells slots mc ms (F0 m pc ls st0) rest (va_Qv post B A1 a) (vx_X px BX AX) free) (hS : va_S A0 H0 H locs) (hA : ∀ q, q < H.size → A1 q → A0 q) (hf : ∀ q, free q → A0 q) (hAX : ∀ q, q < H.size → AX q → A0 q)
    (kx : ∀ (E : String) (ce : Cell) (q9 : Addr) (u : SX) (t : State) (H1 : Heap) (locs1 : List Loc), t.heap = H1 → s.vm.Alike t.vm → px u → BX E u t → H.size ≤ H1.size → (∀ q : Nat, q < H.size → ¬ AX q → H1[q]? = H[q]?) → va_S A0 H0 H1 locs1 → H1[q9]? = some ce → ce.vm = .none → s.vm.findClass E = some ce.cls → vx_W p l e R s m args below meth c H1 locs1 (cells + mc) (slots + ms) Q (F0 m pc ls rest) q9)
    (kk : ∀ (u : S) (t : State) (H1 : Heap) (locs1 : List Loc), t.heap = H1 → s.vm.Alike t.vm → post u → B u t → H.size ≤ H1.size → (∀ q : Nat, q < H.size → ¬ A1 q → H1[q]? = H[q]?) → va_S A0 H0 H1 locs1 → W p l e R s m args below meth c H1 locs1 (cells + mc) (slots + ms) Q (F0 m (pc + 3) ls (rest))) : W p l e R s m args below meth c H locs cells slots Q (F0 m pc ls st0) := by
  intro T hT X
  rcases hr T hT X with ⟨v, st₀, t, T', L, h0, X', hL, e1, e2, ⟨⟨u, hv, hp, hb⟩, hF⟩, st⟩ | ⟨q, st₀, t, T', L, E, ce, h0, X', hL, e1, e2, ⟨u, hp, hb, hF⟩, hce, hcv, hcl, st⟩
  · cases hv
    obtain ⟨k1, k2, k3⟩ := vx_keep h0 e1 hS hA hf hL hF
    obtain ⟨t2, a1, b1⟩ := kk u t T'.heap (locs ++ L) e1.symm (by rw [← e2]; exact X'.warmed.alike) hp hb k1 k2 k3 T' rfl X'
    exact ⟨t2, st t2 a1, b1⟩
  · obtain ⟨k1, k2, k3⟩ := vx_keep h0 e1 hS hAX hf hL hF
    obtain ⟨t2, a1, b1⟩ := kx E ce q u t T'.heap (locs ++ L) e1.symm (by rw [← e2]; exact X'.warmed.alike) hp hb k1 k2 k3 (by rw [e1]; exact hce) hcv hcl T' rfl X'
    exact ⟨t2, st.trans a1, b1⟩
/-- caught by the row x of this method's table; the rows ahead don't take it -/
theorem vx_catch {own name : String} {E : String} {ce : Cell} {q : Addr} (hown : s.vm.findClass own = some m.cls) (pre : List ExceptionTableEntry) (x : ExceptionTableEntry) (suf : List ExceptionTableEntry) (hsplit : c.exceptionTable.toList = pre ++ x :: suf)
    (hpass : ∀ z ∈ pre, covers z pc = false ∨ (z.catchType ≠ 0 ∧ ∃ nm : String, (Cond.classLink own z.catchType nm).before args s = true ∧ va_Nc E nm s)) (hx : covers x pc = true) (h0 : x.catchType ≠ 0)
    (hlink : (Cond.classLink own x.catchType name).before args s = true) (hcast : (Cond.castable E name).before args s = true) (hcell : H[q]? = some ce) (hv : ce.vm = .none) (hcl : s.vm.findClass E = some ce.cls)
    (kk : W p l e R s m args below meth c H locs cells slots Q (F0 m x.handlerPc ls [.ref q])) : vx_W p l e R s m args below meth c H locs cells slots Q (F0 m pc ls rest) q := by
  intro T hT X
  have hpl : e.platform.magicAccessors = ({} : Platform).magicAccessors := by rw [X.admits.platform]
  obtain ⟨c3, c4, hc3, hc4, hasg⟩ := Cond.castable_spec hcast
  cases Option.some.inj (hc3.symm.trans hcl)
  obtain ⟨c5, hc5, hcl5⟩ := Cond.classLink_spec hown hlink e.platform hpl
  cases Option.some.inj (hc4.symm.trans hc5)
  obtain ⟨vm', X', st⟩ := X.thenCaughtThrough q (g := F0 m pc ls rest) rfl (Steps.refl _) (by rw [hT]; exact hcell) (by rw [hv]; rfl) (by obtain ⟨k9, h9, -⟩ := Vm.findClass_spec hcl; exact ⟨k9, h9⟩) pre x suf hsplit
    (fun z hz => by
      rcases hpass z hz with h | ⟨hz0, nm, hl1, hn1⟩
      · exact Or.inl h
      · obtain ⟨c6, hc6, hcl6⟩ := Cond.classLink_spec hown hl1 e.platform hpl
        obtain ⟨a8, b8, h1, h2, h3⟩ := hn1
        cases Option.some.inj (h1.symm.trans hcl)
        cases Option.some.inj (h2.symm.trans hc6)
        exact Or.inr ⟨hz0, _, hcl6, h3⟩) hx (Or.inr ⟨h0, c4, hcl5, hasg⟩)
  obtain ⟨t, a1, b1⟩ := kk (T.setVm vm') hT X'
  exact ⟨t, st.trans a1, b1⟩
end Rows
section Ends
variable {p : Program} {l : Launch} {e : Env} {R : Room} {s : State} {m : MethodId} {args : Array Value} {below : List Frame} {meth : Method} {c : Code} {H : Heap} {locs : List Loc} {cells slots : Nat} {Q : State → Prop}
variable {mc ms : Nat} {free : Addr → Prop} {A0 A1 : Nat → Prop} {H0 : Heap} {a : Array Value} {ls : Array Slot} {st0 rest : List Value}
variable {Qc : Array Value → State → Outcome → State → Prop} {XC : String → State → State → Prop}
/-- what a body that may throw owes at its end -/
def vx_MQ (below : List Frame) (Qc : Array Value → State → Outcome → State → Prop) (XC : String → State → State → Prop) (a : Array Value) (s : State) (mc ms : Nat) (free : Addr → Prop) : State → Prop := fun t =>
  ∃ o, t.status = .running ∧ Ended t below o ∧ vx_Q Qc XC mc ms free a s o t
theorem vx_ret {g : JFrame} {mc ms : Nat} (k : W p l e R s m args below meth c H locs cells slots (MQ below Qc args s mc ms free) g) : W p l e R s m args below meth c H locs cells slots (vx_MQ below Qc XC args s mc ms free) g := by
  intro T hT X
  obtain ⟨t, a1, o, b1, b2, b3, b4⟩ := k T hT X
  exact ⟨t, a1, o, b1, b2, Or.inl ⟨b3, b4⟩⟩
/-- not caught here: it goes on to the caller -/
theorem vx_widen {g : JFrame} {q : Addr} {k n : Nat} (h1 : cells ≤ k) (h2 : slots ≤ n) (kk : vx_W p l e R s m args below meth c H locs k n Q g q) : vx_W p l e R s m args below meth c H locs cells slots Q g q := fun T hT X => kk T hT (stand_widen X h1 h2)
theorem vx_out {pc : Nat} {E : String} {ce : Cell} {q : Addr} {mc ms : Nat} (hout : ∀ x ∈ c.exceptionTable.toList, covers x pc = false) (hlocks : meth.locks = false) (hcell : H[q]? = some ce) (hv : ce.vm = .none) (hcl : s.vm.findClass E = some ce.cls)
    (hx : ∀ t : State, t.heap = H → s.vm.Alike t.vm → XC E s t) (hf : ∀ z ∈ locs, free z.base) (hc : cells ≤ mc) (hs : slots ≤ ms) :
    vx_W p l e R s m args below meth c H locs cells slots (vx_MQ below Qc XC args s mc ms free) (F0 m pc ls rest) q := by
  intro T hT X
  obtain ⟨st1, hrun, hend, hW, hsm⟩ := X.leaveThrown q (g := F0 m pc ls rest) rfl rfl rfl hout hlocks
  have hcell9 : (T.setFrames (.throwing q :: below)).heap[q]? = some ce := by
    show T.heap[q]? = some ce
    rw [hT]; exact hcell
  exact ⟨_, st1, .threw q, hrun, hend, Or.inr ⟨q, rfl, E, ce, locs, hx _ hT hW.alike, hcell9, hv, hcl, hW, hsm.mono hc hs, hf⟩⟩
theorem vx_frame {U : State} {k n : Nat} (h : s.sameButNew ({ U with vm := s.vm } : State) locs k n) : s.heap.size ≤ U.heap.size ∧ ∀ q : Nat, q < s.heap.size → (∀ z ∈ locs, z.base ≠ q) → U.heap[q]? = s.heap[q]? := by
  obtain ⟨-, h2, -, -, -, h6⟩ := h
  refine ⟨h2, fun q hq hz => ?_⟩
  obtain ⟨c9, e1, e2, e3, e4⟩ := h6 q _ (Array.getElem?_eq_getElem hq)
  have hs : c9.slots = (s.heap[q]).slots := Array.ext_getElem? fun i => e4 i fun hm => hz _ hm rfl
  have h9 : c9 = s.heap[q] := by
    rw [hs] at e2
    exact e2
  have e5 : U.heap[q]? = some c9 := e1
  rw [e5, h9, Array.getElem?_eq_getElem hq]
/-- the words of a throw but the four that speak of the heap -/
def vx_no (w : Cond) : Bool := decide (w ≠ .isRef (.static Bundle.tN "UNASSIGNED_STACK" Bundle.steD)) && decide (w ≠ .isRef (.static Bundle.tN "SUPPRESSED_SENTINEL" Bundle.listD)) && decide (w ≠ .laysStatic Bundle.tN "UNASSIGNED_STACK" Bundle.steD) && decide (w ≠ .laysStatic Bundle.tN "SUPPRESSED_SENTINEL" Bundle.listD)
def vx_at0 (own : String) (ic : Nat) (X : String) (names : List String) : List Cond := (Bundle.ownAtoms0 own ic X names).filter vx_no
def vx_atS (own : String) (ic : Nat) (X : String) (names : List String) : List Cond := (Bundle.ownAtoms own ic X names).filter vx_no
/-- a word that the tables alone decide, or a good one -/
def vx_ot (w : Cond) : Bool := w.onTables || goodWord w
theorem vx_ot_at {args a' : Array Value} {s U : State} {w : Cond} (hW : s.WarmedH U.vm) (hvm : s.vm = U.vm) (hg : vx_ot w = true) (h : w.before args s = true) : w.before a' U = true := by
  simp only [vx_ot, Bool.or_eq_true] at hg
  rcases hg with hg | hg
  · exact va_tabs hg hvm h
  · exact word_at hW (good_of_word hg) h
/-- a list's words: the good ones out of the method's own list, the others by premises of their own -/
theorem vx_hat {args : Array Value} {s : State} {L B : List Cond} (h1 : ∀ w ∈ L.filter goodWord, w.before args s = true) (h2 : ∀ w ∈ L.filter (fun w => !goodWord w), w ∈ B) (h3 : ∀ w ∈ B, w.before args s = true) : ∀ w ∈ L, w.before args s = true := by
  intro w hw
  by_cases g : goodWord w = true
  · exact h1 w (List.mem_filter.mpr ⟨hw, g⟩)
  · refine h3 w (h2 w (List.mem_filter.mpr ⟨hw, ?_⟩))
    show (!goodWord w) = true
    cases hgw : goodWord w
    · rfl
    · exact absurd hgw g
theorem vx_c {args : Array Value} {s : State} {w : Cond} {B : List Cond} (h : w.before args s = true) (t : ∀ w ∈ B, w.before args s = true) : ∀ w' ∈ w :: B, w'.before args s = true := fun w' h' => (List.mem_cons.mp h').elim (fun e => by rw [e]; exact h) (t w')
theorem vx_n {args : Array Value} {s : State} : ∀ w ∈ ([] : List Cond), w.before args s = true := fun _ h => nomatch h
theorem vx_own {args : Array Value} {s : State} {L : List Cond} (h1 : ∀ w ∈ L.filter vx_no, w.before args s = true)
    (hU : (Cond.isRef (.static Bundle.tN "UNASSIGNED_STACK" Bundle.steD)).before args s = true) (hN : (Cond.isRef (.static Bundle.tN "SUPPRESSED_SENTINEL" Bundle.listD)).before args s = true)
    (lU : (Cond.laysStatic Bundle.tN "UNASSIGNED_STACK" Bundle.steD).before args s = true) (lN : (Cond.laysStatic Bundle.tN "SUPPRESSED_SENTINEL" Bundle.listD).before args s = true) : ∀ w ∈ L, w.before args s = true := by
  intro w hw
  by_cases e1 : w = .isRef (.static Bundle.tN "UNASSIGNED_STACK" Bundle.steD)
  · rw [e1]; exact hU
  · by_cases e2 : w = .isRef (.static Bundle.tN "SUPPRESSED_SENTINEL" Bundle.listD)
    · rw [e2]; exact hN
    · by_cases e3 : w = .laysStatic Bundle.tN "UNASSIGNED_STACK" Bundle.steD
      · rw [e3]; exact lU
      · by_cases e4 : w = .laysStatic Bundle.tN "SUPPRESSED_SENTINEL" Bundle.listD
        · rw [e4]; exact lN
        · exact h1 w (List.mem_filter.mpr ⟨hw, by unfold vx_no; rw [decide_eq_true e1, decide_eq_true e2, decide_eq_true e3, decide_eq_true e4]; rfl⟩)
/-- where a static field lies, its class's statics cell in H -/
def vx_L (C n d : String) (A : Nat → Prop) (U : State) (H : Heap) : Prop := ∃ (c : ClassId) (k : Class) (i : Nat) (f : Field) (a : Nat) (cell : Cell), U.vm.findClass C = some c ∧ U.fieldFound? C n d = some (c, k, i, f) ∧ f.isStatic = true ∧ k.statics = some a ∧ H[a]? = some cell ∧ cell.vm.isStatics = true ∧ cell.cls = c ∧ f.slot < cell.slots.size ∧ k.staticTypes[f.slot]? = some f.type ∧ ¬ A a
theorem vx_L.moved {C n d : String} {A : Nat → Prop} {u U : State} {H : Heap} (hvm : u.vm.Alike U.vm) (h : vx_L C n d A u H) : vx_L C n d A U H := by
  obtain ⟨c, k, i, f, a, cell, h1, h2, h3, h4, h5, h6, h7, h8, h9, h10⟩ := h
  obtain ⟨k', hi', he⟩ := State.fieldFound?_setVm hvm h2
  exact ⟨c, k', i, f, a, cell, by rw [hvm.findClass]; exact h1, hi', h3, by rw [he]; exact h4, h5, h6, h7, h8, by rw [he]; exact h9, h10⟩
theorem vx_L.kept {C n d : String} {A : Nat → Prop} {U : State} {H H1 : Heap} (h : vx_L C n d A U H) (hq : ∀ a : Nat, a < H.size → ¬ A a → H1[a]? = H[a]?) : vx_L C n d A U H1 := by
  obtain ⟨c, k, i, f, a, cell, h1, h2, h3, h4, h5, h6, h7, h8, h9, h10⟩ := h
  exact ⟨c, k, i, f, a, cell, h1, h2, h3, h4, by rw [hq a (Array.getElem?_eq_some_iff.mp h5).1 h10]; exact h5, h6, h7, h8, h9, h10⟩
theorem vx_L.narrow {C n d : String} {A B : Nat → Prop} {U : State} {H : Heap} (h : vx_L C n d A U H) (hAB : ∀ q, B q → A q) : vx_L C n d B U H := by
  obtain ⟨c, k, i, f, a, cell, h1, h2, h3, h4, h5, h6, h7, h8, h9, h10⟩ := h
  exact ⟨c, k, i, f, a, cell, h1, h2, h3, h4, h5, h6, h7, h8, h9, fun z => h10 (hAB _ z)⟩
theorem vx_L.word {C n d : String} {A : Nat → Prop} {s : State} {args : Array Value} (h : vx_L C n d A s s.heap) : (Cond.laysStatic C n d).before args s = true := by
  obtain ⟨c, k, i, f, a, cell, h1, h2, h3, h4, h5, h6, h7, h8, h9, -⟩ := h
  show (Cond.laysStatic C n d).holds args s none s [] = true
  exact Cond.laysStatic_of h1 h2 h3 h4 h5 h6 h7 h8 h9
/-- .. and what it holds: null or some reference -/
def vx_Zq (C n d : String) (A : Nat → Prop) (U : State) (H : Heap) : Prop := va_Zq C n d A U H ∧ vx_L C n d A U H
theorem vx_Zq.moved {C n d : String} {A : Nat → Prop} {u U : State} {H : Heap} (hvm : u.vm.Alike U.vm) (h : vx_Zq C n d A u H) : vx_Zq C n d A U H := ⟨va_Zq.moved hvm h.1, vx_L.moved hvm h.2⟩
theorem vx_Zq.kept {C n d : String} {A : Nat → Prop} {U : State} {H H1 : Heap} (h : vx_Zq C n d A U H) (hq : ∀ a : Nat, a < H.size → ¬ A a → H1[a]? = H[a]?) : vx_Zq C n d A U H1 := ⟨va_Zq.kept h.1 hq, vx_L.kept h.2 hq⟩
theorem vx_Zq.narrow {C n d : String} {A B : Nat → Prop} {U : State} {H : Heap} (h : vx_Zq C n d A U H) (hAB : ∀ q, B q → A q) : vx_Zq C n d B U H := ⟨va_Zq.narrow h.1 hAB, vx_L.narrow h.2 hAB⟩
theorem vx_Zqof {args : Array Value} {s : State} {C n d : String} {A : Nat → Prop} (hl : (Cond.laysStatic C n d).before args s = true) (hini : (Cond.initialized C).before args s = true) (h : (Cond.isRef (.static C n d)).before args s = true) (hA : ∀ a : Nat, a < s.heap.size → ¬ A a) : vx_Zq C n d A s s.heap := by
  refine ⟨va_Zqof hl hini h hA, ?_⟩
  obtain ⟨c, k, i, f, a, cell, h1, h2, h3, h4, h5, h6, h7, h8, h9⟩ := Cond.laysStatic_spec hl
  exact ⟨c, k, i, f, a, cell, h1, h2, h3, h4, h5, h6, h7, h8, h9, hA a (Array.getElem?_eq_some_iff.mp h5).1⟩
theorem vx_isRef {C n d : String} {v : Value} {A : Nat → Prop} {s : State} {args : Array Value} (h : va_Z C n d v A s s.heap) (hv : v.isRef = true) : (Cond.isRef (.static C n d)).before args s = true := by
  obtain ⟨cf, kf, fi, f, a, cell, h1, h2, h3, h4, h5, h6, h7, -⟩ := h
  have he : (Term.static C n d).eval args s none [] s = some v := by
    simp [Term.eval, State.fieldNamed?, h1, h2, h4, h5, h6, h7]
  simp only [Cond.before, Cond.holds, Cond.value, he]
  cases v <;> simp_all [Value.isRef]
theorem vx_isRefq {C n d : String} {A : Nat → Prop} {s : State} {args : Array Value} (h : va_Zq C n d A s s.heap) : (Cond.isRef (.static C n d)).before args s = true := by
  rcases h with h | ⟨t, h⟩
  · exact vx_isRef h rfl
  · exact vx_isRef h rfl
/-- the same frame, seen from here: as if the method were called anew in this heap -/
theorem vx_rebase {T : State} (X : Stand p l e R s m args below meth c T locs cells slots) {R' : Room} (hf : R'.frames ≤ R.frames) (hl : R'.locals ≤ R.locals) (hc : cells + R'.cells ≤ R.cells) (hs : slots + R'.slots ≤ R.slots) :
    Stand p l e R' ((T.setVm s.vm).setFrames (.invoking m args :: below)) m args below meth c T [] 0 0 := by
  have htop : (T.setVm s.vm).topJava?.isSome := X.here.top
  have hF : ((T.setVm s.vm).setFrames (.invoking m args :: below)).frames = .invoking m args :: below := State.frames_setFrames _ (State.cur_lt_of_top htop)
  obtain ⟨g₀, hg0⟩ := Option.isSome_iff_exists.mp htop
  obtain ⟨r, hr⟩ := State.topJava?_eq_some.mp hg0
  have hl9 : e.platform.stackLimits (T.setVm s.vm).me = e.platform.stackLimits s.me := X.limits
  have hb9 : (T.setVm s.vm).me.stackBytes = s.me.stackBytes := X.bytes
  refine ⟨X.admits, X.cas, X.clock, hF, ?_, X.hears, X.method, X.code, X.here, X.tail, X.warmed, ?_, ?_, ?_⟩
  · have h := X.room
    have hU : ((T.setVm s.vm).setFrames (.invoking m args :: below)).localsInUse = s.localsInUse := by
      rw [State.localsInUse_invoking hF (meth := meth) (c := c) X.method X.code, State.localsInUse_invoking X.frames X.method X.code]
    simp only [State.hasRoom, Bool.and_eq_true, decide_eq_true_eq] at h ⊢
    obtain ⟨⟨⟨⟨h1, h2, h3, h4, h5, h6⟩, h7⟩, h8⟩, h9⟩ := h
    rw [X.frames, List.length_cons] at h2 h3
    have q1 := X.heapSize
    have q2 := X.used
    simp only [hF, hU, List.length_cons, State.stackLimits_setFrames, State.stackBytes_setFrames, hl9, hb9]
    refine ⟨⟨⟨⟨by omega, by omega, by omega, by omega, by omega, h6⟩, ?_⟩, ?_⟩, X.book⟩
    · show T.heap.size + R'.cells ≤ e.platform.maxCells
      omega
    · show T.slotsUsed + R'.slots ≤ e.platform.maxSlots
      omega
  · rw [State.stackLimits_setFrames]; rfl
  · rw [State.stackBytes_setFrames]; rfl
  · refine ⟨?_, Nat.le_refl _, Nat.le_refl _, ?_, ?_, fun a c9 h9 => ⟨c9, h9, rfl, rfl, fun _ _ => rfl⟩⟩
    · obtain ⟨t, ht, -⟩ := State.frames_cons hr
      show T.setVm s.vm = { ((T.setVm s.vm).setFrames (.invoking m args :: below)).setFrames (T.setVm s.vm).frames with heap := T.heap, slotsUsed := T.slotsUsed }
      rw [State.setFrames_setFrames, State.setFrames_self ht]
      rfl
    · show T.slotsUsed = T.slotsUsed + ((T.heap.toList.drop T.heap.size).map (·.slots.size)).sum
      rw [List.drop_eq_nil_of_le (Nat.le_of_eq Array.length_toList)]
      rfl
    · show ((T.heap.toList.drop T.heap.size).map (·.slots.size)).sum ≤ 0
      rw [List.drop_eq_nil_of_le (Nat.le_of_eq Array.length_toList)]
      exact Nat.le_refl _
/-- 'throw new E()': new; dup; invokespecial; athrow -/
theorem vx_throw0 {cc : ByteArray} {pc : Nat} (hexec : p.tables.exec = Jvm.exec) (hb : c.code = cc) (hl : l.stackTraces = false) {own cls : String} {names : List String} {ik ic mc ms : Nat} {A : Nat → Prop}
    (hown : s.vm.findClass own = some m.cls) (hcls : Bundle.fit cls = true) (hnames : ∀ n ∈ names, Bundle.fit n = true)
    (hk : (Cond.classLink own ik cls).before args s = true) (hini : (Cond.initialized cls).before args s = true) (hat : ∀ w ∈ vx_at0 own ic cls names, w.before args s = true)
    (hgood : ∀ w ∈ Cond.classLink own ik cls :: Cond.initialized cls :: vx_at0 own ic cls names, vx_ot w = true)
    (hU : vx_Zq Bundle.tN "UNASSIGNED_STACK" Bundle.steD A s s.heap) (hN : vx_Zq Bundle.tN "SUPPRESSED_SENTINEL" Bundle.listD A s s.heap) (hS : va_S A s.heap H locs) (hsize : ls.size = c.maxLocals)
    (d0 : decode cc pc = .ok (.new ik, 3)) (d3 : decode cc (pc + 3) = .ok (.dup, 1)) (d4 : decode cc (pc + 4) = .ok (.invokespecial ic, 3)) (d7 : decode cc (pc + 7) = .ok (.athrow, 1))
    (hout : ∀ x ∈ c.exceptionTable.toList, covers x (pc + 7) = false)
    (hRframes : names.length + 3 < R.frames) (hRlocals : (rest.map fun v => v.category).sum + (13 * (names.length + 1) + 42) ≤ R.locals) (hRcells : cells + 1 ≤ R.cells) (hRslots : slots + 6 ≤ R.slots) (hlocks : meth.locks = false)
    (hx : ∀ t : State, s.vm.Alike t.vm → H.size ≤ t.heap.size → (∀ q : Nat, q < H.size → t.heap[q]? = H[q]?) → XC cls s t)
    (hf : ∀ z ∈ locs, free z.base) (hc : cells + 1 ≤ mc) (hs : slots + 6 ≤ ms) :
    W p l e R s m args below meth c H locs cells slots (vx_MQ below Qc XC args s mc ms free) (F0 m pc ls rest) := by
  intro T hT X
  have htr : e.platform.stackTraces = false := (show e.platform.stackTraces = l.stackTraces by rw [X.admits.platform]).trans hl
  have Y := vx_rebase X (R' := { frames := R.frames, locals := R.locals, cells := 1, slots := 6 }) (Nat.le_refl _) (Nat.le_refl _) hRcells hRslots
  obtain ⟨s', hA⟩ : ∃ z, z = (T.setVm s.vm).setFrames (.invoking m args :: below) := ⟨_, rfl⟩
  rw [← hA] at Y
  have hvm : s'.vm = s.vm := by rw [hA]; rfl
  have hhp : s'.heap = H := by rw [hA]; exact hT
  have hW0 : s.WarmedH s'.vm := by rw [hvm]; exact State.WarmedH.refl s
  have hat' : ∀ w ∈ vx_at0 own ic cls names, w.before args s' = true := fun w hw => vx_ot_at hW0 hvm.symm (hgood w (List.mem_cons_of_mem _ (List.mem_cons_of_mem _ hw))) (hat w hw)
  have hk' : (Cond.classLink own ik cls).before args s' = true := vx_ot_at hW0 hvm.symm (hgood _ List.mem_cons_self) hk
  have hini' : (Cond.initialized cls).before args s' = true := vx_ot_at hW0 hvm.symm (hgood _ (List.mem_cons_of_mem _ List.mem_cons_self)) hini
  have hU' : vx_Zq Bundle.tN "UNASSIGNED_STACK" Bundle.steD A s' s'.heap := by rw [hhp]; exact vx_Zq.moved hW0.alike (hU.kept hS.2.1)
  have hN' : vx_Zq Bundle.tN "SUPPRESSED_SENTINEL" Bundle.listD A s' s'.heap := by rw [hhp]; exact vx_Zq.moved hW0.alike (hN.kept hS.2.1)
  have h : ∀ w ∈ Bundle.ownAtoms0 own ic cls names, w.before args s' = true := vx_own hat' (vx_isRefq hU'.1) (vx_isRefq hN'.1) hU'.2.word hN'.2.word
  have hown' : s'.vm.findClass own = some m.cls := by rw [hvm]; exact hown
  have hins : (Cond.instantiable cls 6).before args s' = true := h _ (by simp [Bundle.ownAtoms0])
  obtain ⟨vm₁, cX, kX, hfX, hkX, -, -, X₁, st1⟩ := Y.newCold hexec (own := own) (C := cls) (index := ik) (n := 6) hown' hk' hins hini'
    (g := F0 m pc ls rest) rfl (by rw [hb]; exact d0) (Nat.le_refl _) (Nat.le_refl _)
  generalize hT1 : (T.setVm vm₁).pushCell { cls := cX, slots := kX.instanceTypes.map defaultValue, vm := .none } = T1 at X₁ st1
  have hcat : (Value.ref T.heap.size).category = 1 := rfl
  have hcellA : T1.heap[T.heap.size]? = some (freshCell cX kX) := by rw [← hT1]; exact State.heap_pushCell_size _ _
  have d3' : decode c.code (pc + 3) = .ok (.dup, 1) := by rw [hb]; exact d3
  obtain ⟨U, hsteps, hrun, hend, hW, hsame, ce, hce, hO⟩ := X₁.ctorThrow0 hexec htr (own := own) (cls := cls) (names := names) (ic := ic) hown' hcls hnames h (fun x hx => nomatch hx) hfX hkX hcellA (by rw [hhp, hT]; exact Nat.le_refl _)
    (g := { method := m, pc := pc + 4, locals := ls, stack := .ref T.heap.size :: .ref T.heap.size :: rest, locked := none }) rfl hsize rfl rfl (rest := rest) rfl
    (by rw [hb]; exact d4) (by rw [hb]; exact d7) hout hRframes (by simp only [List.map_cons, List.sum_cons, hcat]; omega) hlocks
  obtain ⟨f1, f2⟩ := vx_frame hsame
  rw [hhp] at f1 f2
  have hWs : s.WarmedH U.vm := State.WarmedH.trans hW0 hW
  have hcl : s.vm.findClass cls = some ce.cls := by
    have h9 := hO.cls
    rw [hvm] at h9
    exact h9
  have hall : s.sameButNew ({ U with vm := s.vm } : State) locs mc ms := by
    subst hA
    obtain ⟨e1, e2⟩ := hsame
    rw [State.setFrames_setFrames] at e1
    have h2 : (T.setVm s.vm).sameButNew ({ U with vm := s.vm } : State) [] (0 + 1) (0 + 6) := ⟨e1, e2⟩
    have h3 := X.same.trans h2
    rw [List.append_nil] at h3
    exact h3.mono hc hs
  refine ⟨U, ?_, .threw T.heap.size, hrun, hend, Or.inr ⟨T.heap.size, rfl, cls, ce, locs, hx U hWs.alike f1 (fun q hq => f2 q hq (fun z hz => nomatch hz)), hce, hO.vm, hcl, hWs, hall, hf⟩⟩
  refine st1 _ ?_
  show Steps p.tables e below (T1.setTop { method := m, pc := pc + 3, locals := ls, stack := .ref T.heap.size :: rest, locked := none }) _
  jvm_step X₁.here [X₁.here.top, hexec, d3', Value.category]
  exact hsteps
/-- 'throw new E("text")': new; dup; ldc; invokespecial; athrow -/
theorem vx_throwS {cc : ByteArray} {pc : Nat} (hexec : p.tables.exec = Jvm.exec) (hb : c.code = cc) (hl : l.stackTraces = false) {own cls text : String} {names : List String} {ik is ic mc ms sa : Nat} {A : Nat → Prop}
    (hown : s.vm.findClass own = some m.cls) (hcls : Bundle.fit cls = true) (hnames : ∀ n ∈ names, Bundle.fit n = true)
    (hk : (Cond.classLink own ik cls).before args s = true) (hini : (Cond.initialized cls).before args s = true) (hstr : vk_R own is text sa s) (hat : ∀ w ∈ vx_atS own ic cls names, w.before args s = true)
    (hgood : ∀ w ∈ Cond.classLink own ik cls :: Cond.initialized cls :: vx_atS own ic cls names, vx_ot w = true)
    (hU : vx_Zq Bundle.tN "UNASSIGNED_STACK" Bundle.steD A s s.heap) (hN : vx_Zq Bundle.tN "SUPPRESSED_SENTINEL" Bundle.listD A s s.heap) (hS : va_S A s.heap H locs) (hsize : ls.size = c.maxLocals)
    (d0 : decode cc pc = .ok (.new ik, 3)) (d3 : decode cc (pc + 3) = .ok (.dup, 1)) (d4 : decode cc (pc + 4) = .ok (.ldc is, 2)) (d6 : decode cc (pc + 6) = .ok (.invokespecial ic, 3)) (d9 : decode cc (pc + 9) = .ok (.athrow, 1))
    (hout : ∀ x ∈ c.exceptionTable.toList, covers x (pc + 9) = false)
    (hRframes : names.length + 3 < R.frames) (hRlocals : (rest.map fun v => v.category).sum + (13 * (names.length + 1) + 43) ≤ R.locals) (hRcells : cells + 1 ≤ R.cells) (hRslots : slots + 6 ≤ R.slots) (hlocks : meth.locks = false)
    (hx : ∀ t : State, s.vm.Alike t.vm → H.size ≤ t.heap.size → (∀ q : Nat, q < H.size → t.heap[q]? = H[q]?) → XC cls s t)
    (hf : ∀ z ∈ locs, free z.base) (hc : cells + 1 ≤ mc) (hs : slots + 6 ≤ ms) :
    W p l e R s m args below meth c H locs cells slots (vx_MQ below Qc XC args s mc ms free) (F0 m pc ls rest) := by
  intro T hT X
  have htr : e.platform.stackTraces = false := (show e.platform.stackTraces = l.stackTraces by rw [X.admits.platform]).trans hl
  have Y := vx_rebase X (R' := { frames := R.frames, locals := R.locals, cells := 1, slots := 6 }) (Nat.le_refl _) (Nat.le_refl _) hRcells hRslots
  obtain ⟨s', hA⟩ : ∃ z, z = (T.setVm s.vm).setFrames (.invoking m args :: below) := ⟨_, rfl⟩
  rw [← hA] at Y
  have hvm : s'.vm = s.vm := by rw [hA]; rfl
  have hhp : s'.heap = H := by rw [hA]; exact hT
  have hW0 : s.WarmedH s'.vm := by rw [hvm]; exact State.WarmedH.refl s
  have hat' : ∀ w ∈ vx_atS own ic cls names, w.before args s' = true := fun w hw => vx_ot_at hW0 hvm.symm (hgood w (List.mem_cons_of_mem _ (List.mem_cons_of_mem _ hw))) (hat w hw)
  have hk' : (Cond.classLink own ik cls).before args s' = true := vx_ot_at hW0 hvm.symm (hgood _ List.mem_cons_self) hk
  have hini' : (Cond.initialized cls).before args s' = true := vx_ot_at hW0 hvm.symm (hgood _ (List.mem_cons_of_mem _ List.mem_cons_self)) hini
  have hU' : vx_Zq Bundle.tN "UNASSIGNED_STACK" Bundle.steD A s' s'.heap := by rw [hhp]; exact vx_Zq.moved hW0.alike (hU.kept hS.2.1)
  have hN' : vx_Zq Bundle.tN "SUPPRESSED_SENTINEL" Bundle.listD A s' s'.heap := by rw [hhp]; exact vx_Zq.moved hW0.alike (hN.kept hS.2.1)
  have h : ∀ w ∈ Bundle.ownAtoms own ic cls names, w.before args s' = true := vx_own hat' (vx_isRefq hU'.1) (vx_isRefq hN'.1) hU'.2.word hN'.2.word
  have hown' : s'.vm.findClass own = some m.cls := by rw [hvm]; exact hown
  have hins : (Cond.instantiable cls 6).before args s' = true := h _ (by simp [Bundle.ownAtoms])
  obtain ⟨vm₁, cX, kX, hfX, hkX, -, -, X₁, st1⟩ := Y.newCold hexec (own := own) (C := cls) (index := ik) (n := 6) hown' hk' hins hini'
    (g := F0 m pc ls rest) rfl (by rw [hb]; exact d0) (Nat.le_refl _) (Nat.le_refl _)
  generalize hT1 : (T.setVm vm₁).pushCell { cls := cX, slots := kX.instanceTypes.map defaultValue, vm := .none } = T1 at X₁ st1
  have hcat : (Value.ref T.heap.size).category = 1 := rfl
  have hcellA : T1.heap[T.heap.size]? = some (freshCell cX kX) := by rw [← hT1]; exact State.heap_pushCell_size _ _
  have d3' : decode c.code (pc + 3) = .ok (.dup, 1) := by rw [hb]; exact d3
  have d4' : decode c.code (pc + 4) = .ok (.ldc is, 2) := by rw [hb]; exact d4
  have hstr' : vk_R own is text sa s' := vk_R.warm hW0 hstr
  obtain ⟨U, hsteps, hrun, hend, hW, hsame, ce, hce, hO⟩ := X₁.ctorThrowS hexec htr (own := own) (cls := cls) (names := names) (ic := ic) hown' hcls hnames h (fun x hx => nomatch hx) hfX hkX hcellA (by rw [hhp, hT]; exact Nat.le_refl _) (msg := .ref sa) rfl
    (g := { method := m, pc := pc + 6, locals := ls, stack := .ref sa :: .ref T.heap.size :: .ref T.heap.size :: rest, locked := none }) rfl hsize rfl rfl (rest := rest) rfl
    (by rw [hb]; exact d6) (by rw [hb]; exact d9) hout hRframes (by simp only [List.map_cons, List.sum_cons, hcat]; omega) hlocks
  obtain ⟨f1, f2⟩ := vx_frame hsame
  rw [hhp] at f1 f2
  have hWs : s.WarmedH U.vm := State.WarmedH.trans hW0 hW
  have hcl : s.vm.findClass cls = some ce.cls := by
    have h9 := hO.cls
    rw [hvm] at h9
    exact h9
  have hall : s.sameButNew ({ U with vm := s.vm } : State) locs mc ms := by
    subst hA
    obtain ⟨e1, e2⟩ := hsame
    rw [State.setFrames_setFrames] at e1
    have h2 : (T.setVm s.vm).sameButNew ({ U with vm := s.vm } : State) [] (0 + 1) (0 + 6) := ⟨e1, e2⟩
    have h3 := X.same.trans h2
    rw [List.append_nil] at h3
    exact h3.mono hc hs
  refine ⟨U, ?_, .threw T.heap.size, hrun, hend, Or.inr ⟨T.heap.size, rfl, cls, ce, locs, hx U hWs.alike f1 (fun q hq => f2 q hq (fun z hz => nomatch hz)), hce, hO.vm, hcl, hWs, hall, hf⟩⟩
  refine st1 _ ?_
  show Steps p.tables e below (T1.setTop { method := m, pc := pc + 3, locals := ls, stack := .ref T.heap.size :: rest, locked := none }) _
  jvm_step X₁.here [X₁.here.top, hexec, d3', Value.category]
  exact X₁.ldcString hexec (own := own) (text := text) (index := is) (a := sa) hown' hstr'.1 hstr'.2
    (g := { method := m, pc := pc + 4, locals := ls, stack := .ref T.heap.size :: .ref T.heap.size :: rest, locked := none }) rfl d4' _ hsteps
/-- 'throw new E("text")', the text by a wide index -/
theorem vx_throwSW {cc : ByteArray} {pc : Nat} (hexec : p.tables.exec = Jvm.exec) (hb : c.code = cc) (hl : l.stackTraces = false) {own cls text : String} {names : List String} {ik is ic mc ms sa : Nat} {A : Nat → Prop}
    (hown : s.vm.findClass own = some m.cls) (hcls : Bundle.fit cls = true) (hnames : ∀ n ∈ names, Bundle.fit n = true)
    (hk : (Cond.classLink own ik cls).before args s = true) (hini : (Cond.initialized cls).before args s = true) (hstr : vk_R own is text sa s) (hat : ∀ w ∈ vx_atS own ic cls names, w.before args s = true)
    (hgood : ∀ w ∈ Cond.classLink own ik cls :: Cond.initialized cls :: vx_atS own ic cls names, vx_ot w = true)
    (hU : vx_Zq Bundle.tN "UNASSIGNED_STACK" Bundle.steD A s s.heap) (hN : vx_Zq Bundle.tN "SUPPRESSED_SENTINEL" Bundle.listD A s s.heap) (hS : va_S A s.heap H locs) (hsize : ls.size = c.maxLocals)
    (d0 : decode cc pc = .ok (.new ik, 3)) (d3 : decode cc (pc + 3) = .ok (.dup, 1)) (d4 : decode cc (pc + 4) = .ok (.ldc_w is, 3)) (d7 : decode cc (pc + 7) = .ok (.invokespecial ic, 3)) (d10 : decode cc (pc + 10) = .ok (.athrow, 1))
    (hout : ∀ x ∈ c.exceptionTable.toList, covers x (pc + 10) = false)
    (hRframes : names.length + 3 < R.frames) (hRlocals : (rest.map fun v => v.category).sum + (13 * (names.length + 1) + 43) ≤ R.locals) (hRcells : cells + 1 ≤ R.cells) (hRslots : slots + 6 ≤ R.slots) (hlocks : meth.locks = false)
    (hx : ∀ t : State, s.vm.Alike t.vm → H.size ≤ t.heap.size → (∀ q : Nat, q < H.size → t.heap[q]? = H[q]?) → XC cls s t)
    (hf : ∀ z ∈ locs, free z.base) (hc : cells + 1 ≤ mc) (hs : slots + 6 ≤ ms) :
    W p l e R s m args below meth c H locs cells slots (vx_MQ below Qc XC args s mc ms free) (F0 m pc ls rest) := by
  intro T hT X
  have htr : e.platform.stackTraces = false := (show e.platform.stackTraces = l.stackTraces by rw [X.admits.platform]).trans hl
  have Y := vx_rebase X (R' := { frames := R.frames, locals := R.locals, cells := 1, slots := 6 }) (Nat.le_refl _) (Nat.le_refl _) hRcells hRslots
  obtain ⟨s', hA⟩ : ∃ z, z = (T.setVm s.vm).setFrames (.invoking m args :: below) := ⟨_, rfl⟩
  rw [← hA] at Y
  have hvm : s'.vm = s.vm := by rw [hA]; rfl
  have hhp : s'.heap = H := by rw [hA]; exact hT
  have hW0 : s.WarmedH s'.vm := by rw [hvm]; exact State.WarmedH.refl s
  have hat' : ∀ w ∈ vx_atS own ic cls names, w.before args s' = true := fun w hw => vx_ot_at hW0 hvm.symm (hgood w (List.mem_cons_of_mem _ (List.mem_cons_of_mem _ hw))) (hat w hw)
  have hk' : (Cond.classLink own ik cls).before args s' = true := vx_ot_at hW0 hvm.symm (hgood _ List.mem_cons_self) hk
  have hini' : (Cond.initialized cls).before args s' = true := vx_ot_at hW0 hvm.symm (hgood _ (List.mem_cons_of_mem _ List.mem_cons_self)) hini
  have hU' : vx_Zq Bundle.tN "UNASSIGNED_STACK" Bundle.steD A s' s'.heap := by rw [hhp]; exact vx_Zq.moved hW0.alike (hU.kept hS.2.1)
  have hN' : vx_Zq Bundle.tN "SUPPRESSED_SENTINEL" Bundle.listD A s' s'.heap := by rw [hhp]; exact vx_Zq.moved hW0.alike (hN.kept hS.2.1)
  have h : ∀ w ∈ Bundle.ownAtoms own ic cls names, w.before args s' = true := vx_own hat' (vx_isRefq hU'.1) (vx_isRefq hN'.1) hU'.2.word hN'.2.word
  have hown' : s'.vm.findClass own = some m.cls := by rw [hvm]; exact hown
  have hins : (Cond.instantiable cls 6).before args s' = true := h _ (by simp [Bundle.ownAtoms])
  obtain ⟨vm₁, cX, kX, hfX, hkX, -, -, X₁, st1⟩ := Y.newCold hexec (own := own) (C := cls) (index := ik) (n := 6) hown' hk' hins hini'
    (g := F0 m pc ls rest) rfl (by rw [hb]; exact d0) (Nat.le_refl _) (Nat.le_refl _)
  generalize hT1 : (T.setVm vm₁).pushCell { cls := cX, slots := kX.instanceTypes.map defaultValue, vm := .none } = T1 at X₁ st1
  have hcat : (Value.ref T.heap.size).category = 1 := rfl
  have hcellA : T1.heap[T.heap.size]? = some (freshCell cX kX) := by rw [← hT1]; exact State.heap_pushCell_size _ _
  have d3' : decode c.code (pc + 3) = .ok (.dup, 1) := by rw [hb]; exact d3
  have d4' : decode c.code (pc + 4) = .ok (.ldc_w is, 3) := by rw [hb]; exact d4
  have hstr' : vk_R own is text sa s' := vk_R.warm hW0 hstr
  obtain ⟨U, hsteps, hrun, hend, hW, hsame, ce, hce, hO⟩ := X₁.ctorThrowS hexec htr (own := own) (cls := cls) (names := names) (ic := ic) hown' hcls hnames h (fun x hx => nomatch hx) hfX hkX hcellA (by rw [hhp, hT]; exact Nat.le_refl _) (msg := .ref sa) rfl
    (g := { method := m, pc := pc + 7, locals := ls, stack := .ref sa :: .ref T.heap.size :: .ref T.heap.size :: rest, locked := none }) rfl hsize rfl rfl (rest := rest) rfl
    (by rw [hb]; exact d7) (by rw [hb]; exact d10) hout hRframes (by simp only [List.map_cons, List.sum_cons, hcat]; omega) hlocks
  obtain ⟨f1, f2⟩ := vx_frame hsame
  rw [hhp] at f1 f2
  have hWs : s.WarmedH U.vm := State.WarmedH.trans hW0 hW
  have hcl : s.vm.findClass cls = some ce.cls := by
    have h9 := hO.cls
    rw [hvm] at h9
    exact h9
  have hall : s.sameButNew ({ U with vm := s.vm } : State) locs mc ms := by
    subst hA
    obtain ⟨e1, e2⟩ := hsame
    rw [State.setFrames_setFrames] at e1
    have h2 : (T.setVm s.vm).sameButNew ({ U with vm := s.vm } : State) [] (0 + 1) (0 + 6) := ⟨e1, e2⟩
    have h3 := X.same.trans h2
    rw [List.append_nil] at h3
    exact h3.mono hc hs
  refine ⟨U, ?_, .threw T.heap.size, hrun, hend, Or.inr ⟨T.heap.size, rfl, cls, ce, locs, hx U hWs.alike f1 (fun q hq => f2 q hq (fun z hz => nomatch hz)), hce, hO.vm, hcl, hWs, hall, hf⟩⟩
  refine st1 _ ?_
  show Steps p.tables e below (T1.setTop { method := m, pc := pc + 3, locals := ls, stack := .ref T.heap.size :: rest, locked := none }) _
  jvm_step X₁.here [X₁.here.top, hexec, d3', Value.category]
  exact X₁.ldcStringW hexec (own := own) (text := text) (index := is) (a := sa) hown' hstr'.1 hstr'.2
    (g := { method := m, pc := pc + 4, locals := ls, stack := .ref T.heap.size :: .ref T.heap.size :: rest, locked := none }) rfl d4' _ hsteps
end Ends
section Bodies
variable {l : Launch}
theorem vx_ofW {y : MethodName} {ws ws' : List Cond} {rm : Room} {Pc : Array Value → State → Prop} {Qc : Array Value → State → Outcome → State → Prop} {XC : String → State → State → Prop} {mc ms : Nat} {free : Addr → Prop} {cc : ByteArray} {maxL : Nat} {ret : Option FieldType}
    (hy : plainName y.cls = true) (hw : ws = Cond.code y cc maxL ret :: ws')
    (body : ∀ p e s m args below meth c s₁, BodyLoose p l y (headSpec ws rm) cc maxL ret e s m args below meth c s₁ → c.maxLocals = maxL → (∀ x ∈ c.exceptionTable.toList, False) → Pc args s →
      W p l e (headSpec ws rm).room s m args below meth c s.heap [] 0 0 (vx_MQ below Qc XC args s mc ms free) (entryFrame m args maxL)) : vx_Met l y ws rm Pc Qc XC mc ms free := by
  refine MetFree.of_bodyS (code := cc) (maxLocals := maxL) (ret := ret) hy ?_ ?_
  · intro args s m h hn
    obtain ⟨meth, c, h1, h2, h3, h4, h5, h6, -, -⟩ := Cond.code_spec hn (atoms_spec (ws := ws) h _ (by rw [hw]; exact List.mem_cons_self))
    exact ⟨meth, c, h1, h2, h3, h4, h5, h6⟩
  · intro p e s m args below meth c s₁ B hml hP _
    have hh0 : s₁.heap = s.heap := by rw [B.state]; rfl
    have ht : ∀ x ∈ c.exceptionTable.toList, False := by
      obtain ⟨meth9, c9, h1, h2, -, -, -, -, h7, -⟩ := Cond.code_spec B.named (atoms_spec (ws := ws) B.pre _ (by rw [hw]; exact List.mem_cons_self))
      cases Option.some.inj (h1.symm.trans B.method)
      cases Option.some.inj (h2.symm.trans (Stand.of_body B).code)
      intro x hx
      rw [Array.isEmpty_iff.mp h7] at hx
      cases hx
    obtain ⟨t, a1, o, b1, b2, b3⟩ := body p e s m args below meth c s₁ B hml ht hP s₁ hh0 (Stand.of_body B)
    exact ⟨t, o, a1, b1, b2, b3⟩
/-- the table of a body with handlers -/
theorem vx_table {p : Program} {x y : MethodName} {S : Spec} {cc bytes : ByteArray} {maxL maxL' : Nat} {ret ret' : Option FieldType} {e : Env} {s s₁ : State} {m : MethodId} {args : Array Value} {below : List Frame} {meth : Method} {c : Code} {hh : List (Nat × Nat × Nat × Nat)}
    (B : BodyLoose p l y S cc maxL ret e s m args below meth c s₁) (h : (Cond.codeWith y bytes maxL' ret' hh).before args s = true) : c.exceptionTable.toList = tableOf hh := by
  obtain ⟨m9, meth9, c9, hn9, h1, h2, -, -, h6, -⟩ := Cond.codeWith_spec h
  cases Option.some.inj (hn9.symm.trans B.named)
  cases Option.some.inj (h1.symm.trans B.method)
  cases Option.some.inj (h2.symm.trans (Stand.of_body B).code)
  rw [← h6, table_eq]
end Bodies
end VXA
/-! ===== END ===== -/
/-! ===== BEGIN a static call of a method with an exception table ===== -/
section VXS
variable {p : Program} {l : Launch} {e : Env} {R : Room} {s : State} {m : MethodId} {args : Array Value} {below : List Frame} {meth : Method} {c : Code} {T : State} {H : Heap} {locs : List Loc} {cells slots : Nat}
abbrev vx_CSW (R : Room) (s : State) (args : Array Value) (own : String) (index : Nat) (y : MethodName) (bytes : ByteArray) (maxL : Nat) (ret : Option FieldType) (hh : List (Nat × Nat × Nat × Nat)) (ws : List Cond) (rm : Room) (mc ms n : Nat) : Prop :=
  (rm.cells = mc ∧ rm.slots = ms ∧ rm.frames + 1 ≤ R.frames ∧ 8 + (maxL + 11) + rm.locals ≤ R.locals ∧ (∀ w ∈ ws, ∀ (a' : Array Value) (U : State), s.WarmedH U.vm → w.before a' U = true) ∧ Cond.codeWith y bytes maxL ret hh ∈ ws) ∧
  (Cond.codeWith y bytes maxL ret hh).before args s = true ∧ (Cond.initialized y.cls).before args s = true ∧ (y.cls ≠ "java/lang/invoke/MethodHandle" ∧ y.cls ≠ "java/lang/invoke/VarHandle") ∧
  (∀ sig, parseMethodDescriptor y.desc = some sig → n = sig.parameters.length) ∧ (Cond.methodLink own index y).before args s = true ∧ (Cond.static y).before args s = true
theorem vx_cwSW {own : String} {index maxL mc ms : Nat} {y : MethodName} {bytes : ByteArray} {ret : Option FieldType} {hh : List (Nat × Nat × Nat × Nat)} {Ts ws ws' : List Cond} {rm : Room} (n : Nat) (ht : ∀ w ∈ Ts, w.before args s = true) (hT : GoodIn Ts (va_wsS own index y ws)) (hw : ws = Cond.codeWith y bytes maxL ret hh :: ws') (hrc : rm.cells = mc) (hrs : rm.slots = ms)
    (hd : y.cls ≠ "java/lang/invoke/MethodHandle" ∧ y.cls ≠ "java/lang/invoke/VarHandle" ∧ (parseMethodDescriptor y.desc).map (fun d => d.parameters.length) = some n) (hR : rm.frames + 1 ≤ R.frames ∧ 8 + (maxL + 11) + rm.locals ≤ R.locals) :
    vx_CSW R s args own index y bytes maxL ret hh ws rm mc ms n := by
  have ok : ∀ w ∈ va_wsS own index y ws, w.before args s = true := fun w h => ht w (hT w h).1
  have hG : GoodIn Ts ws := fun w h => hT w (by unfold va_wsS; exact List.mem_append_right _ h)
  have hc : Cond.codeWith y bytes maxL ret hh ∈ ws := by rw [hw]; exact List.mem_cons_self
  refine ⟨⟨hrc, hrs, hR.1, hR.2, pay_in ht hG, hc⟩, ht _ (hG _ hc).1, ok _ (by simp [va_wsS]), ⟨hd.1, hd.2.1⟩, fun sig h => ?_, ok _ (by simp [va_wsS]), ok _ (by simp [va_wsS])⟩
  have h2 := hd.2.2
  rw [h] at h2
  exact (Option.some.inj h2).symm
theorem vx_callSW (X : Stand p l e R s m args below meth c T locs cells slots) (hexec : p.tables.exec = Jvm.exec) {own : String} {index : Nat} {y : MethodName} {bytes : ByteArray} {maxL : Nat} {ret : Option FieldType} {hh : List (Nat × Nat × Nat × Nat)}
    (hown : s.vm.findClass own = some m.cls) (hlink : (Cond.methodLink own index y).before args s = true) (hstat : (Cond.static y).before args s = true) (hinit : (Cond.initialized y.cls).before args s = true)
    (hcode : (Cond.codeWith y bytes maxL ret hh).before args s = true) (hy : y.cls ≠ "java/lang/invoke/MethodHandle" ∧ y.cls ≠ "java/lang/invoke/VarHandle")
    {W9 : Nat} {Pre : Pt → Array Value → Prop} {Post : Pt → Array Value → Option Value → Pt → Prop} (hK : Back l R p e below s args y 3 W9 Pre Post)
    {g : JFrame} (hg : g.method = m) (hsize : g.locals.size = c.maxLocals) {argsL rest : List Value} (hlen : ∀ sig, parseMethodDescriptor y.desc = some sig → argsL.length = sig.parameters.length)
    (hstack : g.stack = argsL.reverse ++ rest) (hW : 2 * g.monitorRoom + (rest.map fun v => v.category).sum ≤ W9) (hdg : decode c.code g.pc = .ok (.invokestatic index, 3))
    (hpre : ∀ vm₁, s.WarmedH vm₁ → Pre ⟨T.setVm vm₁, locs, cells, slots⟩ argsL.toArray) :
    ∃ (v : Option Value) (vm₁ : Vm) (B : Pt), s.WarmedH vm₁ ∧ Stand p l e R s m args below meth c B.U B.locs B.cells B.slots ∧ Post ⟨T.setVm vm₁, locs, cells, slots⟩ argsL.toArray v B ∧
      ∀ target, Steps p.tables e below (B.U.setTop { g with pc := g.pc + 3, stack := v.toList ++ rest }) target → Steps p.tables e below (T.setTop g) target := by
  obtain ⟨mk, methM, cM, hnamed, hmethM, -, -, -, -, -, -, hsigM⟩ := Cond.codeWith_spec hcode
  have hstatic : methM.isStatic = true := Cond.static_spec hnamed hmethM hstat
  obtain ⟨kP, hkP, -⟩ := className_of_methodNamed hnamed
  have hinitP : kP.init = .initialized := Cond.initialized_spec (findClass_of_methodNamed hnamed) hkP hinit
  obtain ⟨vm₁, X₁, hstep₁⟩ := X.invokestatic hexec hown hlink hnamed hmethM hstatic hkP hinitP hy (g := g) hg (argsL := argsL) (rest := rest) (hlen _ hsigM) hstack hdg
  obtain ⟨v, B, X', hpost, hsteps⟩ := hK m meth c ⟨T.setVm vm₁, locs, cells, slots⟩ { g with stack := rest } (.invokestatic index) mk argsL.toArray X₁ hg hsize hdg hW (X₁.named hnamed) (hpre vm₁ X₁.warmed)
  exact ⟨v, vm₁, B, X₁.warmed, X', hpost, fun target h => hstep₁ _ fun acts => by rw [doInvoke_state]; exact hsteps.trans h⟩
theorem vx_runSW {y : MethodName} {bytes cc : ByteArray} {maxL nL mc ms n index : Nat} {ret : Option FieldType} {hh : List (Nat × Nat × Nat × Nat)} {ws : List Cond} {rm : Room} {Pc : Array Value → State → Prop} {Qc : Array Value → State → Outcome → State → Prop} {free : Addr → Prop} {Ts : List Cond} {own : String} {As rest : List Value} {g : JFrame}
    (S : CallFix p m c cc nL s args Ts own) (hM : Met l y ws rm Pc Qc mc ms free) (cw : vx_CSW R s args own index y bytes maxL ret hh ws rm mc ms n) (hp : PreS s H Pc As)
    (hg : g.method = m) (hn : As.length = n) (hsize : g.locals.size = nL) (hstack : g.stack = As.reverse ++ rest) (hW : 2 * g.monitorRoom + (rest.map fun v => v.category).sum ≤ 8) (hdg : decode cc g.pc = .ok (.invokestatic index, 3)) (hf : cells + mc ≤ R.cells ∧ slots + ms ≤ R.slots) :
    va_Run p l e R s m args below meth c H locs cells slots mc ms g rest (Qc As.toArray) (free) := by
  obtain ⟨⟨hrc, hrs, hfr, hlo, hws, hcw⟩, hcode, hini, hy, hlen, hl, hstt⟩ := cw
  have hK : Back l R p e below s args y 3 8 (PreOf R mc ms Pc) (PostOf Qc mc ms free) := va_backW (hh := hh) (bytes := bytes) (maxL := maxL) (ret := ret) hM hp.1 hrc hrs hfr hlo hws hcw (fun a' U hW => word_at hW (Or.inl (by first | rfl | simp [Cond.onTables, Cond.keeps, Cond.steady])) hini)
  obtain ⟨hx, hb, hml, ho, -⟩ := S
  intro T hT X
  obtain ⟨v, vm₁, ⟨U', l2, c2, s2⟩, hW₁, X', ⟨g', mk, t, L, e1, e2, hq, h1, hL, h2, h3⟩, st⟩ := vx_callSW X hx (hh := hh) (bytes := bytes) (maxL := maxL) (ret := ret) ho hl hstt hini hcode hy hK hg (hsize.trans hml.symm) (argsL := As) (rest := rest) (fun sig h => hn.trans (hlen sig h)) hstack hW (by rw [hb]; exact hdg)
    (fun vm₁ hW₁ => ⟨hf.1, hf.2, hp.2 (T.setVm vm₁) hT hW₁⟩)
  dsimp only [Pt.U, Pt.locs, Pt.cells, Pt.slots] at X' e1 e2 h1 h2 h3 st
  subst h1; subst h2; subst h3
  exact ⟨v, (T.setVm vm₁).calling g' mk As.toArray, t, U', L, hT, X', hL, e1, e2, hq, st⟩
/-- not caught here, past rows that name other classes: it goes on to the caller -/
theorem vx_outP {p : Program} {l : Launch} {e : Env} {R : Room} {s : State} {m : MethodId} {args : Array Value} {below : List Frame} {meth : Method} {c : Code} {H : Heap} {locs : List Loc} {cells slots : Nat} {free : Addr → Prop} {ls : Array Slot} {rest : List Value} {Qc : Array Value → State → Outcome → State → Prop} {XC : String → State → State → Prop}
    {pc : Nat} {own E : String} {ce : Cell} {q : Addr} {mc ms : Nat} (hown : s.vm.findClass own = some m.cls) (hlocks : meth.locks = false)
    (hpass : ∀ z ∈ c.exceptionTable.toList, covers z pc = false ∨ (z.catchType ≠ 0 ∧ ∃ nm : String, (Cond.classLink own z.catchType nm).before args s = true ∧ va_Nc E nm s)) (hcell : H[q]? = some ce) (hv : ce.vm = .none) (hcl : s.vm.findClass E = some ce.cls)
    (hx : ∀ t : State, t.heap = H → s.vm.Alike t.vm → XC E s t) (hf : ∀ z ∈ locs, free z.base) (hc : cells ≤ mc) (hs : slots ≤ ms) :
    vx_W p l e R s m args below meth c H locs cells slots (vx_MQ below Qc XC args s mc ms free) (F0 m pc ls rest) q := by
  intro T hT X
  have hpl : e.platform.magicAccessors = ({} : Platform).magicAccessors := by rw [X.admits.platform]
  obtain ⟨vm', hW', X', st⟩ := X.outThrough hlocks q (g := F0 m pc ls rest) rfl rfl rfl (cell := ce) (by rw [hT]; exact hcell) (by rw [hv]; rfl)
    (by obtain ⟨k9, h9, -⟩ := Vm.findClass_spec hcl; exact ⟨k9, h9⟩) (fun z hz => by
      rcases hpass z hz with h | ⟨hz0, nm, hl1, hn1⟩
      · exact Or.inl h
      · obtain ⟨c6, hc6, hcl6⟩ := Cond.classLink_spec hown hl1 e.platform hpl
        obtain ⟨a8, b8, h1, h2, h3⟩ := hn1
        cases Option.some.inj (h1.symm.trans hcl)
        cases Option.some.inj (h2.symm.trans hc6)
        exact Or.inr ⟨hz0, _, hcl6, h3⟩)
  obtain ⟨g₀, hfr⟩ := X'.frames_eq
  have hcell9 : ((T.setVm vm').setFrames (.throwing q :: below)).heap[q]? = some ce := by
    show T.heap[q]? = some ce
    rw [hT]; exact hcell
  have hend : Ended ((T.setVm vm').setFrames (.throwing q :: below)) below (.threw q) := State.frames_setFrames _ (State.cur_lt_of_frames hfr)
  refine ⟨(T.setVm vm').setFrames (.throwing q :: below), ?_, .threw q, X'.here.running, hend, Or.inr ⟨q, rfl, E, ce, locs, hx _ hT (X'.ends _).1.alike, hcell9, hv, hcl, (X'.ends _).1, (X'.ends _).2.mono hc hs, hf⟩⟩
  rw [X.pushThrowing_eq]
  exact st
/-- a thing of a world lies in the heap -/
theorem vx_lt {D : va_G} {cl : List vw_C} {ws : va_W} {H1 : Heap} (h : va_P D cl ws H1) {k : Nat} {q : Nat × va_E} (hk : ws[k]? = some q) : q.1 < H1.size := (h k q hk).lt
end VXS
/-! ===== END ===== -/
/-! ===== BEGIN methods with a table of their own: called by a name, returning or throwing ===== -/
section VXH
/-! vx_backW, vx_callVX, vx_callSX, vx_callVW, vx_runVW, vx_runVX, vx_runSX, vx_ofWH follow the same proofs as their sisters above (Free/Laws.lean, Shelf42/LK1.lean); vx_outP calls Shelf42/NT130.lean (outThrough). -/
section
variable {l : Launch} {R : Room} {p : Program} {e : Env} {below : List Frame} {s : State} {sargs : Array Value} {y : MethodName} {len W9 : Nat}
theorem vx_backW {ws : List Cond} {rm : Room} {Pc : Array Value → State → Prop} {Qc : Array Value → State → Outcome → State → Prop} {XC : String → State → State → Prop} {mc ms : Nat} {free : Addr → Prop} {bytes : ByteArray} {maxL : Nat} {ret : Option FieldType} {hh : List (Nat × Nat × Nat × Nat)}
    (hM : vx_Met l y ws rm Pc Qc XC mc ms free) (hblind : FrameBlind Pc) (hrc : rm.cells = mc) (hrs : rm.slots = ms)
    (hframes : rm.frames + 1 ≤ R.frames) (hlocals : W9 + (maxL + 11) + rm.locals ≤ R.locals)
    (hws : ∀ w ∈ ws, ∀ a' U, s.WarmedH U.vm → w.before a' U = true) (hcode : Cond.codeWith y bytes maxL ret hh ∈ ws) (hinit : ∀ a' U, s.WarmedH U.vm → (Cond.initialized y.cls).before a' U = true) :
    vx_Back l R p e below s sargs y len W9 (PreOf R mc ms Pc) (PostOf Qc mc ms free) (vx_Post XC mc ms free) := by
  intro m meth c A g ig mk a X hg hsize hdg hW hn hp
  have h1 : (headSpec ws rm).pre.before a A.U = true := atoms_intro fun w hw => hws w hw _ _ X.warmed
  have h2 : (Cond.codeWith y bytes maxL ret hh).before a A.U = true := hws _ hcode _ _ X.warmed
  have h3 : (Cond.initialized y.cls).before a A.U = true := hinit _ _ X.warmed
  have h4 : A.cells + (headSpec ws rm).room.cells ≤ R.cells := by rw [show (headSpec ws rm).room.cells = mc from hrc]; exact hp.1
  have h5 : A.slots + (headSpec ws rm).room.slots ≤ R.slots := by rw [show (headSpec ws rm).room.slots = ms from hrs]; exact hp.2.1
  have hPc : Pc a (A.U.calling g mk a) := hblind _ _ _ _ hp.2.2
  obtain ⟨U, Ls, c0, s0⟩ := A
  dsimp only [Pt.U, Pt.locs, Pt.cells, Pt.slots] at h1 h2 h3 h4 h5 X hn hPc ⊢
  obtain ⟨m9, methY, cY, hn9, hmY, hcY, -, hlY, -⟩ := Cond.codeWith_spec h2
  cases Option.some.inj (hn9.symm.trans hn)
  obtain ⟨kY, hkY, -⟩ := className_of_methodNamed hn
  have hinitY : kY.init = .initialized := Cond.initialized_spec (findClass_of_methodNamed hn) hkY h3
  have h : At U g.method c below := by rw [hg]; exact X.here
  have hlocals9 : W9 + (maxL + 11) + (headSpec ws rm).room.locals ≤ R.locals := hlocals
  have happ : (headSpec ws rm).appliesLoose y e.platform (U.calling g mk a) = true :=
    Spec.appliesLoose_calling (g := g) h hdg hn hkY hinitY
      (X.room_calling (g := g) (R' := (headSpec ws rm).room) hsize hmY hcY hframes (by rw [hlY]; omega) h4 h5) h1
  obtain ⟨mid, hmid⟩ := h.above
  have hfr : (U.setTop g).frames = (.java g :: mid) ++ below := by rw [State.frames_setTop' g h.top, hmid]; rfl
  obtain ⟨o, s₂, hsteps, -, hend, hq⟩ := Steps.callFree hM p X.admits X.cas X.clock (acts := []) hfr happ hPc trivial
  have hq' : vx_Q Qc XC mc ms free a (U.calling g mk a) o s₂ := hq
  rw [State.frames_setTop' g h.top] at hend
  obtain ⟨g₀, hg0⟩ := Option.isSome_iff_exists.mp h.top
  obtain ⟨r, hr⟩ := State.topJava?_eq_some.mp hg0
  have hr' : (({ U with heap := s₂.heap, slotsUsed := s₂.slotsUsed } : State).setVm s₂.vm).frames = .java g₀ :: r := hr
  rcases hq' with ⟨hqc, L, hfe, hL⟩ | ⟨q, rfl, E, ce, L, hx, hce, hcv, hcl, hW₂, hsm, hL⟩
  · obtain ⟨⟨v, rfl⟩, hW₂, e2, q2, q3, q4, q5, q6⟩ := id hfe
    have e3 : s₂ = ({ (U.calling g mk a).setFrames s₂.frames with heap := s₂.heap, slotsUsed := s₂.slotsUsed } : State).setVm s₂.vm := by
      have : s₂ = ({ s₂ with vm := (U.calling g mk a).vm } : State).setVm s₂.vm := rfl
      rw [e2] at this
      exact this
    obtain ⟨c₂, i₂, len₂, hc₂, hd₂, hf₂⟩ := hend
    have hW' : U.WarmedH s₂.vm := hW₂
    have hcc : c₂ = c := by
      have h1 : s₂.code? g.method = U.code? g.method := by
        rw [State.code?_eq, State.code?_eq, hW'.alike.method?]
      exact Option.some.inj (hc₂.symm.trans (h1.trans h.code))
    subst hcc
    have hlen : len₂ = len := by rw [hdg] at hd₂; cases hd₂; rfl
    subst hlen
    have hs₂ : s₂ = (({ U with heap := s₂.heap, slotsUsed := s₂.slotsUsed } : State).setVm s₂.vm).setTop { g with pc := g.pc + len₂, stack := v.toList ++ g.stack } := by
      refine e3.trans ?_
      rw [hf₂, State.calling_eq h.top, State.setFrames_setFrames, State.setTop_of_frames _ hr', hr]
      rfl
    have hsame : U.sameButNew ({ U with heap := s₂.heap, slotsUsed := s₂.slotsUsed } : State) L mc ms := by
      refine ⟨?_, q2, q3, q4, q5, q6⟩
      obtain ⟨t, ht, -⟩ := State.frames_cons hr
      show ({ U with heap := s₂.heap, slotsUsed := s₂.slotsUsed } : State) = { U.setFrames U.frames with heap := s₂.heap, slotsUsed := s₂.slotsUsed }
      rw [State.setFrames_self ht]
    subst hg
    refine Or.inl ⟨v, ⟨(({ U with heap := s₂.heap, slotsUsed := s₂.slotsUsed } : State).setVm s₂.vm), Ls ++ L, c0 + mc, s0 + ms⟩,
      ⟨X.admits, X.cas, X.clock, X.frames, X.room, X.hears, X.method, X.code, (X.here.setHeapUsed s₂.heap s₂.slotsUsed).setVm hW'.alike, X.tail, State.WarmedH.trans X.warmed hW', X.limits, X.bytes, X.same.trans (hsame.setVm s.vm)⟩,
      ⟨g, mk, s₂, L, rfl, rfl, hqc, rfl, hL, rfl, rfl⟩, ?_⟩
    show Steps p.tables e below _ ((({ U with heap := s₂.heap, slotsUsed := s₂.slotsUsed } : State).setVm s₂.vm).setTop { g with pc := g.pc + len₂, stack := v.toList ++ g.stack })
    rw [← hs₂]
    exact hsteps
  · obtain ⟨e2, q2, q3, q4, q5, q6⟩ := id hsm
    have e3 : s₂ = ({ (U.calling g mk a).setFrames s₂.frames with heap := s₂.heap, slotsUsed := s₂.slotsUsed } : State).setVm s₂.vm := by
      have : s₂ = ({ s₂ with vm := (U.calling g mk a).vm } : State).setVm s₂.vm := rfl
      rw [e2] at this
      exact this
    have hf₂ : s₂.frames = .throwing q :: .java g :: U.frames.tail := hend
    have hW' : U.WarmedH s₂.vm := hW₂
    have hs₂ : s₂ = ((({ U with heap := s₂.heap, slotsUsed := s₂.slotsUsed } : State).setVm s₂.vm).setTop g).pushFrame (.throwing q) := by
      refine e3.trans ?_
      rw [hf₂, State.calling_eq h.top, State.setFrames_setFrames, State.pushFrame, State.frames_setTop _ hr', State.setTop_of_frames _ hr', State.setFrames_setFrames, hr]
      rfl
    have hsame : U.sameButNew ({ U with heap := s₂.heap, slotsUsed := s₂.slotsUsed } : State) L mc ms := by
      refine ⟨?_, q2, q3, q4, q5, q6⟩
      obtain ⟨t, ht, -⟩ := State.frames_cons hr
      show ({ U with heap := s₂.heap, slotsUsed := s₂.slotsUsed } : State) = { U.setFrames U.frames with heap := s₂.heap, slotsUsed := s₂.slotsUsed }
      rw [State.setFrames_self ht]
    subst hg
    refine Or.inr ⟨q, ⟨(({ U with heap := s₂.heap, slotsUsed := s₂.slotsUsed } : State).setVm s₂.vm), Ls ++ L, c0 + mc, s0 + ms⟩,
      ⟨X.admits, X.cas, X.clock, X.frames, X.room, X.hears, X.method, X.code, (X.here.setHeapUsed s₂.heap s₂.slotsUsed).setVm hW'.alike, X.tail, State.WarmedH.trans X.warmed hW', X.limits, X.bytes, X.same.trans (hsame.setVm s.vm)⟩,
      ⟨g, mk, s₂, L, E, ce, rfl, rfl, hx, hce, hcv, hcl, rfl, hL, rfl, rfl⟩, ?_⟩
    show Steps p.tables e below _ (((({ U with heap := s₂.heap, slotsUsed := s₂.slotsUsed } : State).setVm s₂.vm).setTop g).pushFrame (.throwing q))
    rw [← hs₂]
    exact hsteps
end
variable {p : Program} {l : Launch} {e : Env} {R : Room} {s : State} {m : MethodId} {args : Array Value} {below : List Frame} {meth : Method} {c : Code} {T : State} {H : Heap} {locs : List Loc} {cells slots : Nat}
theorem vx_callVX (X : Stand p l e R s m args below meth c T locs cells slots) (hexec : p.tables.exec = Jvm.exec) {own C : String} {index : Nat} {y : MethodName} {bytes : ByteArray} {maxL : Nat} {ret : Option FieldType} {hh : List (Nat × Nat × Nat × Nat)}
    (hown : s.vm.findClass own = some m.cls) (hlink : (Cond.methodLink own index y).before args s = true) (hinst : (Cond.instanceMethod y).before args s = true) (hsel : (Cond.selects C y y).before args s = true)
    (hcode : (Cond.codeWith y bytes maxL ret hh).before args s = true) (hy : y.cls ≠ "java/lang/invoke/MethodHandle" ∧ y.cls ≠ "java/lang/invoke/VarHandle")
    {W9 : Nat} {Pre : Pt → Array Value → Prop} {Post : Pt → Array Value → Option Value → Pt → Prop} {PostX : Pt → Array Value → Addr → Pt → Prop} (hK : vx_Back l R p e below s args y 3 W9 Pre Post PostX)
    {b : Addr} {cellB : Cell} (hcell : T.heap[b]? = some cellB) (hobj : cellB.vm.isStatics = false) (hcls : s.vm.findClass C = some cellB.cls)
    {g : JFrame} (hg : g.method = m) (hsize : g.locals.size = c.maxLocals) {argsL rest : List Value} (hlen : ∀ sig, parseMethodDescriptor y.desc = some sig → argsL.length = sig.parameters.length)
    (hstack : g.stack = argsL.reverse ++ .ref b :: rest) (hW : 2 * g.monitorRoom + (rest.map fun v => v.category).sum ≤ W9) (hdg : decode c.code g.pc = .ok (.invokevirtual index, 3))
    (hpre : ∀ vm₁, s.WarmedH vm₁ → Pre ⟨T.setVm vm₁, locs, cells, slots⟩ (Value.ref b :: argsL).toArray) :
    (∃ (v : Option Value) (vm₁ : Vm) (B : Pt), s.WarmedH vm₁ ∧ Stand p l e R s m args below meth c B.U B.locs B.cells B.slots ∧ Post ⟨T.setVm vm₁, locs, cells, slots⟩ (Value.ref b :: argsL).toArray v B ∧
      ∀ target, Steps p.tables e below (B.U.setTop { g with pc := g.pc + 3, stack := v.toList ++ rest }) target → Steps p.tables e below (T.setTop g) target) ∨
    (∃ (q : Addr) (vm₁ : Vm) (B : Pt), s.WarmedH vm₁ ∧ Stand p l e R s m args below meth c B.U B.locs B.cells B.slots ∧ PostX ⟨T.setVm vm₁, locs, cells, slots⟩ (Value.ref b :: argsL).toArray q B ∧
      Steps p.tables e below (T.setTop g) ((B.U.setTop { g with stack := rest }).pushFrame (.throwing q))) := by
  obtain ⟨mk, methM, hnamed, hmethM, hstM, habM⟩ := Cond.instanceMethod_spec hinst
  obtain ⟨m8, methM', cM, hn8, hmethM', -, -, -, -, -, -, hsigM⟩ := Cond.codeWith_spec hcode
  cases Option.some.inj (hn8.symm.trans hnamed)
  cases hmethM.symm.trans hmethM'
  obtain ⟨c2, r2, m2, q1, q2, q3, q4, kP, hkP, hkPi⟩ := Cond.selects_spec hsel
  cases hcls.symm.trans q1
  cases (State.methodFound?_of_named hnamed hy).symm.trans q2
  cases hnamed.symm.trans q3
  have hselP : selectMethod e.platform s.vm cellB.cls mk = .method mk := by rw [Launch.admits_selectMethod X.admits]; exact q4
  obtain ⟨vm₁, X₁, hstep₁⟩ := X.invokevirtual hexec hown hlink hnamed hmethM hstM hkP hkPi hy (a := b) (cell := cellB) hcell
    (fun z h => by rw [h] at hobj; cases hobj) hselP hmethM habM hkP hkPi (g := g) hg (argsL := argsL) (rest := rest) (hlen _ hsigM) hstack hdg
  rcases hK m meth c ⟨T.setVm vm₁, locs, cells, slots⟩ { g with stack := rest } (.invokevirtual index) mk (Value.ref b :: argsL).toArray X₁ hg hsize hdg hW (X₁.named hnamed) (hpre vm₁ X₁.warmed) with ⟨v, B, X', hpost, hsteps⟩ | ⟨q, B, X', hpost, hsteps⟩
  · exact Or.inl ⟨v, vm₁, B, X₁.warmed, X', hpost, fun target h => hstep₁ _ fun acts => by rw [doInvoke_state]; exact hsteps.trans h⟩
  · exact Or.inr ⟨q, vm₁, B, X₁.warmed, X', hpost, hstep₁ _ fun acts => by rw [doInvoke_state]; exact hsteps⟩
theorem vx_callSX (X : Stand p l e R s m args below meth c T locs cells slots) (hexec : p.tables.exec = Jvm.exec) {own : String} {index : Nat} {y : MethodName} {bytes : ByteArray} {maxL : Nat} {ret : Option FieldType} {hh : List (Nat × Nat × Nat × Nat)}
    (hown : s.vm.findClass own = some m.cls) (hlink : (Cond.methodLink own index y).before args s = true) (hstat : (Cond.static y).before args s = true) (hinit : (Cond.initialized y.cls).before args s = true)
    (hcode : (Cond.codeWith y bytes maxL ret hh).before args s = true) (hy : y.cls ≠ "java/lang/invoke/MethodHandle" ∧ y.cls ≠ "java/lang/invoke/VarHandle")
    {W9 : Nat} {Pre : Pt → Array Value → Prop} {Post : Pt → Array Value → Option Value → Pt → Prop} {PostX : Pt → Array Value → Addr → Pt → Prop} (hK : vx_Back l R p e below s args y 3 W9 Pre Post PostX)
    {g : JFrame} (hg : g.method = m) (hsize : g.locals.size = c.maxLocals) {argsL rest : List Value} (hlen : ∀ sig, parseMethodDescriptor y.desc = some sig → argsL.length = sig.parameters.length)
    (hstack : g.stack = argsL.reverse ++ rest) (hW : 2 * g.monitorRoom + (rest.map fun v => v.category).sum ≤ W9) (hdg : decode c.code g.pc = .ok (.invokestatic index, 3))
    (hpre : ∀ vm₁, s.WarmedH vm₁ → Pre ⟨T.setVm vm₁, locs, cells, slots⟩ argsL.toArray) :
    (∃ (v : Option Value) (vm₁ : Vm) (B : Pt), s.WarmedH vm₁ ∧ Stand p l e R s m args below meth c B.U B.locs B.cells B.slots ∧ Post ⟨T.setVm vm₁, locs, cells, slots⟩ argsL.toArray v B ∧
      ∀ target, Steps p.tables e below (B.U.setTop { g with pc := g.pc + 3, stack := v.toList ++ rest }) target → Steps p.tables e below (T.setTop g) target) ∨
    (∃ (q : Addr) (vm₁ : Vm) (B : Pt), s.WarmedH vm₁ ∧ Stand p l e R s m args below meth c B.U B.locs B.cells B.slots ∧ PostX ⟨T.setVm vm₁, locs, cells, slots⟩ argsL.toArray q B ∧
      Steps p.tables e below (T.setTop g) ((B.U.setTop { g with stack := rest }).pushFrame (.throwing q))) := by
  obtain ⟨mk, methM, cM, hnamed, hmethM, -, -, -, -, -, -, hsigM⟩ := Cond.codeWith_spec hcode
  have hstatic : methM.isStatic = true := Cond.static_spec hnamed hmethM hstat
  obtain ⟨kP, hkP, -⟩ := className_of_methodNamed hnamed
  have hinitP : kP.init = .initialized := Cond.initialized_spec (findClass_of_methodNamed hnamed) hkP hinit
  obtain ⟨vm₁, X₁, hstep₁⟩ := X.invokestatic hexec hown hlink hnamed hmethM hstatic hkP hinitP hy (g := g) hg (argsL := argsL) (rest := rest) (hlen _ hsigM) hstack hdg
  rcases hK m meth c ⟨T.setVm vm₁, locs, cells, slots⟩ { g with stack := rest } (.invokestatic index) mk argsL.toArray X₁ hg hsize hdg hW (X₁.named hnamed) (hpre vm₁ X₁.warmed) with ⟨v, B, X', hpost, hsteps⟩ | ⟨q, B, X', hpost, hsteps⟩
  · exact Or.inl ⟨v, vm₁, B, X₁.warmed, X', hpost, fun target h => hstep₁ _ fun acts => by rw [doInvoke_state]; exact hsteps.trans h⟩
  · exact Or.inr ⟨q, vm₁, B, X₁.warmed, X', hpost, hstep₁ _ fun acts => by rw [doInvoke_state]; exact hsteps⟩
theorem vx_callVW (X : Stand p l e R s m args below meth c T locs cells slots) (hexec : p.tables.exec = Jvm.exec) {own C : String} {index : Nat} {y : MethodName} {bytes : ByteArray} {maxL : Nat} {ret : Option FieldType} {hh : List (Nat × Nat × Nat × Nat)}
    (hown : s.vm.findClass own = some m.cls) (hlink : (Cond.methodLink own index y).before args s = true) (hinst : (Cond.instanceMethod y).before args s = true) (hsel : (Cond.selects C y y).before args s = true)
    (hcode : (Cond.codeWith y bytes maxL ret hh).before args s = true) (hy : y.cls ≠ "java/lang/invoke/MethodHandle" ∧ y.cls ≠ "java/lang/invoke/VarHandle")
    {W9 : Nat} {Pre : Pt → Array Value → Prop} {Post : Pt → Array Value → Option Value → Pt → Prop} (hK : Back l R p e below s args y 3 W9 Pre Post)
    {b : Addr} {cellB : Cell} (hcell : T.heap[b]? = some cellB) (hobj : cellB.vm.isStatics = false) (hcls : s.vm.findClass C = some cellB.cls)
    {g : JFrame} (hg : g.method = m) (hsize : g.locals.size = c.maxLocals) {argsL rest : List Value} (hlen : ∀ sig, parseMethodDescriptor y.desc = some sig → argsL.length = sig.parameters.length)
    (hstack : g.stack = argsL.reverse ++ .ref b :: rest) (hW : 2 * g.monitorRoom + (rest.map fun v => v.category).sum ≤ W9) (hdg : decode c.code g.pc = .ok (.invokevirtual index, 3))
    (hpre : ∀ vm₁, s.WarmedH vm₁ → Pre ⟨T.setVm vm₁, locs, cells, slots⟩ (Value.ref b :: argsL).toArray) :
    ∃ (v : Option Value) (vm₁ : Vm) (B : Pt), s.WarmedH vm₁ ∧ Stand p l e R s m args below meth c B.U B.locs B.cells B.slots ∧ Post ⟨T.setVm vm₁, locs, cells, slots⟩ (Value.ref b :: argsL).toArray v B ∧
      ∀ target, Steps p.tables e below (B.U.setTop { g with pc := g.pc + 3, stack := v.toList ++ rest }) target → Steps p.tables e below (T.setTop g) target := by
  obtain ⟨mk, methM, hnamed, hmethM, hstM, habM⟩ := Cond.instanceMethod_spec hinst
  obtain ⟨m8, methM', cM, hn8, hmethM', -, -, -, -, -, -, hsigM⟩ := Cond.codeWith_spec hcode
  cases Option.some.inj (hn8.symm.trans hnamed)
  cases hmethM.symm.trans hmethM'
  obtain ⟨c2, r2, m2, q1, q2, q3, q4, kP, hkP, hkPi⟩ := Cond.selects_spec hsel
  cases hcls.symm.trans q1
  cases (State.methodFound?_of_named hnamed hy).symm.trans q2
  cases hnamed.symm.trans q3
  have hselP : selectMethod e.platform s.vm cellB.cls mk = .method mk := by rw [Launch.admits_selectMethod X.admits]; exact q4
  obtain ⟨vm₁, X₁, hstep₁⟩ := X.invokevirtual hexec hown hlink hnamed hmethM hstM hkP hkPi hy (a := b) (cell := cellB) hcell
    (fun z h => by rw [h] at hobj; cases hobj) hselP hmethM habM hkP hkPi (g := g) hg (argsL := argsL) (rest := rest) (hlen _ hsigM) hstack hdg
  obtain ⟨v, B, X', hpost, hsteps⟩ := hK m meth c ⟨T.setVm vm₁, locs, cells, slots⟩ { g with stack := rest } (.invokevirtual index) mk (Value.ref b :: argsL).toArray X₁ hg hsize hdg hW (X₁.named hnamed) (hpre vm₁ X₁.warmed)
  exact ⟨v, vm₁, B, X₁.warmed, X', hpost, fun target h => hstep₁ _ fun acts => by rw [doInvoke_state]; exact hsteps.trans h⟩
abbrev vx_CVW (R : Room) (s : State) (args : Array Value) (own C : String) (index : Nat) (y : MethodName) (bytes : ByteArray) (maxL : Nat) (ret : Option FieldType) (hh : List (Nat × Nat × Nat × Nat)) (ws : List Cond) (rm : Room) (mc ms n : Nat) : Prop :=
  (rm.cells = mc ∧ rm.slots = ms ∧ rm.frames + 1 ≤ R.frames ∧ 8 + (maxL + 11) + rm.locals ≤ R.locals ∧ (∀ w ∈ ws, ∀ (a' : Array Value) (U : State), s.WarmedH U.vm → w.before a' U = true) ∧ Cond.codeWith y bytes maxL ret hh ∈ ws) ∧
  (Cond.codeWith y bytes maxL ret hh).before args s = true ∧ (Cond.initialized y.cls).before args s = true ∧ (y.cls ≠ "java/lang/invoke/MethodHandle" ∧ y.cls ≠ "java/lang/invoke/VarHandle") ∧
  (∀ sig, parseMethodDescriptor y.desc = some sig → n = sig.parameters.length) ∧ (Cond.methodLink own index y).before args s = true ∧ (Cond.instanceMethod y).before args s = true ∧ (Cond.selects C y y).before args s = true
theorem vx_cwVW {own C : String} {index maxL mc ms : Nat} {y : MethodName} {bytes : ByteArray} {ret : Option FieldType} {hh : List (Nat × Nat × Nat × Nat)} {Ts ws ws' : List Cond} {rm : Room} (n : Nat) (ht : ∀ w ∈ Ts, w.before args s = true) (hT : GoodIn Ts (wsV own index C y ws)) (hw : ws = Cond.codeWith y bytes maxL ret hh :: ws') (hrc : rm.cells = mc) (hrs : rm.slots = ms)
    (hd : y.cls = C ∧ y.cls ≠ "java/lang/invoke/MethodHandle" ∧ y.cls ≠ "java/lang/invoke/VarHandle" ∧ (parseMethodDescriptor y.desc).map (fun d => d.parameters.length) = some n) (hR : rm.frames + 1 ≤ R.frames ∧ 8 + (maxL + 11) + rm.locals ≤ R.locals) :
    vx_CVW R s args own C index y bytes maxL ret hh ws rm mc ms n := by
  obtain ⟨hC, hd⟩ := hd
  subst hC
  have ok : ∀ w ∈ wsV own index y.cls y ws, w.before args s = true := fun w h => ht w (hT w h).1
  have hG : GoodIn Ts ws := fun w h => hT w (by unfold wsV; exact List.mem_append_right _ h)
  have hc : Cond.codeWith y bytes maxL ret hh ∈ ws := by rw [hw]; exact List.mem_cons_self
  refine ⟨⟨hrc, hrs, hR.1, hR.2, pay_in ht hG, hc⟩, ht _ (hG _ hc).1, ok _ (by simp [wsV]), ⟨hd.1, hd.2.1⟩, fun sig h => ?_, ok _ (by simp [wsV]), ok _ (by simp [wsV]), ok _ (by simp [wsV])⟩
  have h2 := hd.2.2
  rw [h] at h2
  exact (Option.some.inj h2).symm
theorem vx_runVW {y : MethodName} {bytes cc : ByteArray} {maxL nL mc ms n index : Nat} {ret : Option FieldType} {hh : List (Nat × Nat × Nat × Nat)} {ws : List Cond} {rm : Room} {Pc : Array Value → State → Prop} {Qc : Array Value → State → Outcome → State → Prop} {free : Addr → Prop} {Ts : List Cond} {own C : String} {b : Addr} {As rest : List Value} {g : JFrame}
    (S : CallFix p m c cc nL s args Ts own) (hM : Met l y ws rm Pc Qc mc ms free) (cw : vx_CVW R s args own C index y bytes maxL ret hh ws rm mc ms n) (hp : PreV s H C b Pc As)
    (hg : g.method = m) (hn : As.length = n) (hsize : g.locals.size = nL) (hstack : g.stack = As.reverse ++ .ref b :: rest) (hW : 2 * g.monitorRoom + (rest.map fun v => v.category).sum ≤ 8) (hdg : decode cc g.pc = .ok (.invokevirtual index, 3)) (hf : cells + mc ≤ R.cells ∧ slots + ms ≤ R.slots) :
    va_Run p l e R s m args below meth c H locs cells slots mc ms g rest (Qc (Value.ref b :: As).toArray) free := by
  obtain ⟨⟨hrc, hrs, hfr, hlo, hws, hcw⟩, hcode, hini, hy, hlen, hl, hin, hse⟩ := cw
  have hK : Back l R p e below s args y 3 8 (PreOf R mc ms Pc) (PostOf Qc mc ms free) := va_backW (hh := hh) (bytes := bytes) (maxL := maxL) (ret := ret) hM hp.1 hrc hrs hfr hlo hws hcw (fun a' U hW => word_at hW (Or.inl (by first | rfl | simp [Cond.onTables, Cond.keeps, Cond.steady])) hini)
  obtain ⟨hx, hb, hml, ho, -⟩ := S
  obtain ⟨-, ⟨cellB, hcB, hoB, hclB⟩, hPc⟩ := hp
  intro T hT X
  obtain ⟨v, vm₁, ⟨U', l2, c2, s2⟩, hW₁, X', ⟨g', mk, t, L, e1, e2, hq, h1, hL, h2, h3⟩, st⟩ := vx_callVW X hx (C := C) (hh := hh) (bytes := bytes) (maxL := maxL) (ret := ret) ho hl hin hse hcode hy hK (by rw [hT]; exact hcB) hoB hclB hg (hsize.trans hml.symm) (argsL := As) (rest := rest) (fun sig h => hn.trans (hlen sig h)) hstack hW (by rw [hb]; exact hdg)
    (fun vm₁ hW₁ => ⟨hf.1, hf.2, hPc (T.setVm vm₁) hT hW₁⟩)
  dsimp only [Pt.U, Pt.locs, Pt.cells, Pt.slots] at X' e1 e2 h1 h2 h3 st
  subst h1; subst h2; subst h3
  exact ⟨v, (T.setVm vm₁).calling g' mk (Value.ref b :: As).toArray, t, U', L, hT, X', hL, e1, e2, hq, st⟩
section
variable {y : MethodName} {bytes cc : ByteArray} {maxL nL mc ms n index : Nat} {ret : Option FieldType} {ws : List Cond} {rm : Room} {Pc : Array Value → State → Prop} {Qc : Array Value → State → Outcome → State → Prop} {XC : String → State → State → Prop} {free : Addr → Prop} {Ts : List Cond} {own C : String} {b : Addr} {As rest : List Value} {g : JFrame}
theorem vx_runVX {hh : List (Nat × Nat × Nat × Nat)} (S : CallFix p m c cc nL s args Ts own) (hM : vx_Met l y ws rm Pc Qc XC mc ms free) (cw : vx_CVW R s args own C index y bytes maxL ret hh ws rm mc ms n) (hp : PreV s H C b Pc As)
    (hg : g.method = m) (hn : As.length = n) (hsize : g.locals.size = nL) (hstack : g.stack = As.reverse ++ .ref b :: rest) (hW : 2 * g.monitorRoom + (rest.map fun v => v.category).sum ≤ 8) (hdg : decode cc g.pc = .ok (.invokevirtual index, 3)) (hf : cells + mc ≤ R.cells ∧ slots + ms ≤ R.slots) :
    vx_Run p l e R s m args below meth c H locs cells slots mc ms g rest (Qc (Value.ref b :: As).toArray) XC free := by
  obtain ⟨⟨hrc, hrs, hfr, hlo, hws, hcw⟩, hcode, hini, hy, hlen, hl, hin, hse⟩ := cw
  have hK : vx_Back l R p e below s args y 3 8 (PreOf R mc ms Pc) (PostOf Qc mc ms free) (vx_Post XC mc ms free) := vx_backW (hh := hh) (bytes := bytes) (maxL := maxL) (ret := ret) hM hp.1 hrc hrs hfr hlo hws hcw (fun a' U hW => word_at hW (Or.inl (by first | rfl | simp [Cond.onTables, Cond.keeps, Cond.steady])) hini)
  obtain ⟨hx, hb, hml, ho, -⟩ := S
  obtain ⟨-, ⟨cellB, hcB, hoB, hclB⟩, hPc⟩ := hp
  intro T hT X
  rcases vx_callVX X hx (C := C) (hh := hh) (bytes := bytes) (maxL := maxL) (ret := ret) ho hl hin hse hcode hy hK (by rw [hT]; exact hcB) hoB hclB hg (hsize.trans hml.symm) (argsL := As) (rest := rest) (fun sig h => hn.trans (hlen sig h)) hstack hW (by rw [hb]; exact hdg)
    (fun vm₁ hW₁ => ⟨hf.1, hf.2, hPc (T.setVm vm₁) hT hW₁⟩) with ⟨v, vm₁, ⟨U', l2, c2, s2⟩, hW₁, X', ⟨g', mk, t, L, e1, e2, hq, h1, hL, h2, h3⟩, st⟩ | ⟨q, vm₁, ⟨U', l2, c2, s2⟩, hW₁, X', ⟨g', mk, t, L, E, ce, e1, e2, hq, hce, hcv, hcl, h1, hL, h2, h3⟩, st⟩
  · dsimp only [Pt.U, Pt.locs, Pt.cells, Pt.slots] at X' e1 e2 h1 h2 h3 st
    subst h1; subst h2; subst h3
    exact Or.inl ⟨v, (T.setVm vm₁).calling g' mk (Value.ref b :: As).toArray, t, U', L, hT, X', hL, e1, e2, hq, st⟩
  · dsimp only [Pt.U, Pt.locs, Pt.cells, Pt.slots] at X' e1 e2 h1 h2 h3 st hcl
    subst h1; subst h2; subst h3
    exact Or.inr ⟨q, (T.setVm vm₁).calling g' mk (Value.ref b :: As).toArray, t, U', L, E, ce, hT, X', hL, e1, e2, hq, hce, hcv, vx_cls hW₁ hcl, st⟩
theorem vx_runSX {hh : List (Nat × Nat × Nat × Nat)} (S : CallFix p m c cc nL s args Ts own) (hM : vx_Met l y ws rm Pc Qc XC mc ms free) (cw : vx_CSW R s args own index y bytes maxL ret hh ws rm mc ms n) (hp : PreS s H Pc As)
    (hg : g.method = m) (hn : As.length = n) (hsize : g.locals.size = nL) (hstack : g.stack = As.reverse ++ rest) (hW : 2 * g.monitorRoom + (rest.map fun v => v.category).sum ≤ 8) (hdg : decode cc g.pc = .ok (.invokestatic index, 3)) (hf : cells + mc ≤ R.cells ∧ slots + ms ≤ R.slots) :
    vx_Run p l e R s m args below meth c H locs cells slots mc ms g rest (Qc As.toArray) XC free := by
  obtain ⟨⟨hrc, hrs, hfr, hlo, hws, hcw⟩, hcode, hini, hy, hlen, hl, hstt⟩ := cw
  have hK : vx_Back l R p e below s args y 3 8 (PreOf R mc ms Pc) (PostOf Qc mc ms free) (vx_Post XC mc ms free) := vx_backW (hh := hh) (bytes := bytes) (maxL := maxL) (ret := ret) hM hp.1 hrc hrs hfr hlo hws hcw (fun a' U hW => word_at hW (Or.inl (by first | rfl | simp [Cond.onTables, Cond.keeps, Cond.steady])) hini)
  obtain ⟨hx, hb, hml, ho, -⟩ := S
  intro T hT X
  rcases vx_callSX X hx (hh := hh) (bytes := bytes) (maxL := maxL) (ret := ret) ho hl hstt hini hcode hy hK hg (hsize.trans hml.symm) (argsL := As) (rest := rest) (fun sig h => hn.trans (hlen sig h)) hstack hW (by rw [hb]; exact hdg)
    (fun vm₁ hW₁ => ⟨hf.1, hf.2, hp.2 (T.setVm vm₁) hT hW₁⟩) with ⟨v, vm₁, ⟨U', l2, c2, s2⟩, hW₁, X', ⟨g', mk, t, L, e1, e2, hq, h1, hL, h2, h3⟩, st⟩ | ⟨q, vm₁, ⟨U', l2, c2, s2⟩, hW₁, X', ⟨g', mk, t, L, E, ce, e1, e2, hq, hce, hcv, hcl, h1, hL, h2, h3⟩, st⟩
  · dsimp only [Pt.U, Pt.locs, Pt.cells, Pt.slots] at X' e1 e2 h1 h2 h3 st
    subst h1; subst h2; subst h3
    exact Or.inl ⟨v, (T.setVm vm₁).calling g' mk As.toArray, t, U', L, hT, X', hL, e1, e2, hq, st⟩
  · dsimp only [Pt.U, Pt.locs, Pt.cells, Pt.slots] at X' e1 e2 h1 h2 h3 st hcl
    subst h1; subst h2; subst h3
    exact Or.inr ⟨q, (T.setVm vm₁).calling g' mk As.toArray, t, U', L, E, ce, hT, X', hL, e1, e2, hq, hce, hcv, vx_cls hW₁ hcl, st⟩
end
end VXH
theorem vx_ofWH {l : Launch} {y : MethodName} {ws ws' : List Cond} {rm : Room} {Pc : Array Value → State → Prop} {Qc : Array Value → State → Outcome → State → Prop} {XC : String → State → State → Prop} {mc ms : Nat} {free : Addr → Prop} {cc : ByteArray} {maxL : Nat} {ret : Option FieldType} {hh : List (Nat × Nat × Nat × Nat)}
    (hy : plainName y.cls = true) (hw : ws = Cond.codeWith y cc maxL ret hh :: ws')
    (body : ∀ p e s m args below meth c s₁, BodyLoose p l y (headSpec ws rm) cc maxL ret e s m args below meth c s₁ → c.maxLocals = maxL → Pc args s →
      W p l e (headSpec ws rm).room s m args below meth c s.heap [] 0 0 (vx_MQ below Qc XC args s mc ms free) (entryFrame m args maxL)) : vx_Met l y ws rm Pc Qc XC mc ms free := by
  refine MetFree.of_bodyS (code := cc) (maxLocals := maxL) (ret := ret) hy ?_ ?_
  · intro args s m h hn
    obtain ⟨m9, meth, c, hn9, h1, h2, h3, h4, -, h5, h6, -⟩ := Cond.codeWith_spec (atoms_spec (ws := ws) h _ (by rw [hw]; exact List.mem_cons_self))
    cases hn.symm.trans hn9
    exact ⟨meth, c, h1, h2, h3, h4, h5, h6⟩
  · intro p e s m args below meth c s₁ B hml hP _
    have hh0 : s₁.heap = s.heap := by rw [B.state]; rfl
    obtain ⟨t, a1, o, b1, b2, b3⟩ := body p e s m args below meth c s₁ B hml hP s₁ hh0 (Stand.of_body B)
    exact ⟨t, o, a1, b1, b2, b3⟩
/-! ===== END ===== -/
end
-- 02.names.lean.txt
section
def RX0 : String := "Spanbooker$Row"
def RX1 : String := "Spanbooker"
def RX2 : String := "SpanbookerLaw$Out"
def RX3 : String := "SpanbookerModel"
def RJ5 : String := "java/lang/AbstractStringBuilder"
def RJx8e188 : String := "java/lang/Cloneable"
def RJ6 : String := "java/lang/Integer"
def RJ9 : String := "java/lang/Math"
def RJ0 : String := "java/lang/String"
def RJ4 : String := "java/lang/StringBuilder"
def RJ1 : String := "java/lang/StringLatin1"
def RJ2 : String := "java/lang/StringUTF16"
def RJ10 : String := "java/lang/System"
def RJ7 : String := "java/util/Arrays"
def RJ8 : String := "jdk/internal/util/ArraysSupport"
def RJ3 : String := "jdk/internal/util/Preconditions"
def RL : String := "SpanbookerLaw"
def TX0 : u_T := fun k => match k with
  | 0 => ("Spanbooker$Row", "begins", "[J", true)
  | 1 => ("Spanbooker$Row", "ends", "[J", true)
  | 2 => ("Spanbooker$Row", "overs", "[Z", true)
  | _ => ("Spanbooker$Row", "count", "I", false)
def TX1 : u_T := fun k => match k with
  | 0 => ("Spanbooker", "cells", "[J", true)
  | 1 => ("Spanbooker", "from", "J", false)
  | 2 => ("Spanbooker", "until", "J", false)
  | 3 => ("Spanbooker", "spanRow", "LSpanbooker$Row;", true)
  | 4 => ("Spanbooker", "wishRow", "LSpanbooker$Row;", true)
  | 5 => ("Spanbooker", "freeRow", "LSpanbooker$Row;", true)
  | 6 => ("Spanbooker", "roomOf", "[I", true)
  | 7 => ("Spanbooker", "acts", "I", false)
  | 8 => ("Spanbooker", "refusals", "I", false)
  | _ => ("Spanbooker", "knocks", "I", false)
def TX2 : u_T := fun k => match k with
  | 0 => ("SpanbookerLaw$Out", "n", "J", false)
  | _ => ("SpanbookerLaw$Out", "s", "Ljava/lang/String;", false)
def TX3 : u_T := fun k => match k with
  | 0 => ("SpanbookerModel", "cells", "[J", false)
  | 1 => ("SpanbookerModel", "from", "J", false)
  | 2 => ("SpanbookerModel", "until", "J", false)
  | 3 => ("SpanbookerModel", "begins", "[J", false)
  | 4 => ("SpanbookerModel", "ends", "[J", false)
  | 5 => ("SpanbookerModel", "over", "[Z", true)
  | 6 => ("SpanbookerModel", "spans", "I", false)
  | 7 => ("SpanbookerModel", "wishBegins", "[J", false)
  | 8 => ("SpanbookerModel", "wishEnds", "[J", false)
  | 9 => ("SpanbookerModel", "wishes", "I", false)
  | 10 => ("SpanbookerModel", "acts", "I", false)
  | 11 => ("SpanbookerModel", "refused", "I", false)
  | 12 => ("SpanbookerModel", "knocks", "I", false)
  | _ => ("SpanbookerModel", "thrown", "I", false)
def TJ5 : u_T := fun k => match k with
  | _ => ("", "", "", false)
def TJx8e188 : u_T := fun k => match k with
  | _ => ("", "", "", false)
def TJ6 : u_T := fun k => match k with
  | _ => ("", "", "", false)
def TJ9 : u_T := fun k => match k with
  | _ => ("", "", "", false)
def TJ0 : u_T := fun k => match k with
  | 0 => ("java/lang/String", "value", "[B", true)
  | 1 => ("java/lang/String", "coder", "B", true)
  | 2 => ("java/lang/String", "hash", "I", false)
  | _ => ("java/lang/String", "hashIsZero", "Z", false)
def TJ4 : u_T := fun k => match k with
  | 0 => ("java/lang/AbstractStringBuilder", "value", "[B", false)
  | 1 => ("java/lang/AbstractStringBuilder", "coder", "B", false)
  | 2 => ("java/lang/AbstractStringBuilder", "maybeLatin1", "Z", false)
  | _ => ("java/lang/AbstractStringBuilder", "count", "I", false)
def TJ1 : u_T := fun k => match k with
  | _ => ("", "", "", false)
def TJ2 : u_T := fun k => match k with
  | _ => ("", "", "", false)
def TJ10 : u_T := fun k => match k with
  | _ => ("", "", "", false)
def TJ7 : u_T := fun k => match k with
  | _ => ("", "", "", false)
def TJ8 : u_T := fun k => match k with
  | _ => ("", "", "", false)
def TJ3 : u_T := fun k => match k with
  | _ => ("", "", "", false)
def tyX0 : Nat → FieldType := fun k => match k with
  | 0 => .array .long
  | 1 => .array .long
  | 2 => .array .boolean
  | _ => .int
def tyX1 : Nat → FieldType := fun k => match k with
  | 0 => .array .long
  | 1 => .long
  | 2 => .long
  | 3 => .object "Spanbooker$Row"
  | 4 => .object "Spanbooker$Row"
  | 5 => .object "Spanbooker$Row"
  | 6 => .array .int
  | 7 => .int
  | 8 => .int
  | _ => .int
def tyX2 : Nat → FieldType := fun k => match k with
  | 0 => .long
  | _ => .object "java/lang/String"
def tyX3 : Nat → FieldType := fun k => match k with
  | 0 => .array .long
  | 1 => .long
  | 2 => .long
  | 3 => .array .long
  | 4 => .array .long
  | 5 => .array .boolean
  | 6 => .int
  | 7 => .array .long
  | 8 => .array .long
  | 9 => .int
  | 10 => .int
  | 11 => .int
  | 12 => .int
  | _ => .int
def tyJ5 : Nat → FieldType := fun k => match k with
  | _ => .int
def tyJx8e188 : Nat → FieldType := fun k => match k with
  | _ => .int
def tyJ6 : Nat → FieldType := fun k => match k with
  | _ => .int
def tyJ9 : Nat → FieldType := fun k => match k with
  | _ => .int
def tyJ0 : Nat → FieldType := fun k => match k with
  | 0 => .array .byte
  | 1 => .byte
  | 2 => .int
  | _ => .boolean
def tyJ4 : Nat → FieldType := fun k => match k with
  | 0 => .array .byte
  | 1 => .byte
  | 2 => .boolean
  | _ => .int
def tyJ1 : Nat → FieldType := fun k => match k with
  | _ => .int
def tyJ2 : Nat → FieldType := fun k => match k with
  | _ => .int
def tyJ10 : Nat → FieldType := fun k => match k with
  | _ => .int
def tyJ7 : Nat → FieldType := fun k => match k with
  | _ => .int
def tyJ8 : Nat → FieldType := fun k => match k with
  | _ => .int
def tyJ3 : Nat → FieldType := fun k => match k with
  | _ => .int
theorem nmX0 : ∀ a, a < 4 → ∀ b, b < 4 → a ≠ b → (TX0 a).2.1 ≠ (TX0 b).2.1 := by decide +kernel
theorem tyX0_ok : ∀ k, k < 4 → parseFieldDescriptor (TX0 k).2.2.1 = some (tyX0 k) := by decide +kernel
theorem nmX1 : ∀ a, a < 10 → ∀ b, b < 10 → a ≠ b → (TX1 a).2.1 ≠ (TX1 b).2.1 := by decide +kernel
theorem tyX1_ok : ∀ k, k < 10 → parseFieldDescriptor (TX1 k).2.2.1 = some (tyX1 k) := by decide +kernel
theorem nmX2 : ∀ a, a < 2 → ∀ b, b < 2 → a ≠ b → (TX2 a).2.1 ≠ (TX2 b).2.1 := by decide +kernel
theorem tyX2_ok : ∀ k, k < 2 → parseFieldDescriptor (TX2 k).2.2.1 = some (tyX2 k) := by decide +kernel
theorem nmX3 : ∀ a, a < 14 → ∀ b, b < 14 → a ≠ b → (TX3 a).2.1 ≠ (TX3 b).2.1 := by decide +kernel
theorem tyX3_ok : ∀ k, k < 14 → parseFieldDescriptor (TX3 k).2.2.1 = some (tyX3 k) := by decide +kernel
theorem nmJ5 : ∀ a, a < 0 → ∀ b, b < 0 → a ≠ b → (TJ5 a).2.1 ≠ (TJ5 b).2.1 := by decide +kernel
theorem tyJ5_ok : ∀ k, k < 0 → parseFieldDescriptor (TJ5 k).2.2.1 = some (tyJ5 k) := by decide +kernel
theorem nmJx8e188 : ∀ a, a < 0 → ∀ b, b < 0 → a ≠ b → (TJx8e188 a).2.1 ≠ (TJx8e188 b).2.1 := by decide +kernel
theorem tyJx8e188_ok : ∀ k, k < 0 → parseFieldDescriptor (TJx8e188 k).2.2.1 = some (tyJx8e188 k) := by decide +kernel
theorem nmJ6 : ∀ a, a < 0 → ∀ b, b < 0 → a ≠ b → (TJ6 a).2.1 ≠ (TJ6 b).2.1 := by decide +kernel
theorem tyJ6_ok : ∀ k, k < 0 → parseFieldDescriptor (TJ6 k).2.2.1 = some (tyJ6 k) := by decide +kernel
theorem nmJ9 : ∀ a, a < 0 → ∀ b, b < 0 → a ≠ b → (TJ9 a).2.1 ≠ (TJ9 b).2.1 := by decide +kernel
theorem tyJ9_ok : ∀ k, k < 0 → parseFieldDescriptor (TJ9 k).2.2.1 = some (tyJ9 k) := by decide +kernel
theorem nmJ0 : ∀ a, a < 4 → ∀ b, b < 4 → a ≠ b → (TJ0 a).2.1 ≠ (TJ0 b).2.1 := by decide +kernel
theorem tyJ0_ok : ∀ k, k < 4 → parseFieldDescriptor (TJ0 k).2.2.1 = some (tyJ0 k) := by decide +kernel
theorem nmJ4 : ∀ a, a < 4 → ∀ b, b < 4 → a ≠ b → (TJ4 a).2.1 ≠ (TJ4 b).2.1 := by decide +kernel
theorem tyJ4_ok : ∀ k, k < 4 → parseFieldDescriptor (TJ4 k).2.2.1 = some (tyJ4 k) := by decide +kernel
theorem nmJ1 : ∀ a, a < 0 → ∀ b, b < 0 → a ≠ b → (TJ1 a).2.1 ≠ (TJ1 b).2.1 := by decide +kernel
theorem tyJ1_ok : ∀ k, k < 0 → parseFieldDescriptor (TJ1 k).2.2.1 = some (tyJ1 k) := by decide +kernel
theorem nmJ2 : ∀ a, a < 0 → ∀ b, b < 0 → a ≠ b → (TJ2 a).2.1 ≠ (TJ2 b).2.1 := by decide +kernel
theorem tyJ2_ok : ∀ k, k < 0 → parseFieldDescriptor (TJ2 k).2.2.1 = some (tyJ2 k) := by decide +kernel
theorem nmJ10 : ∀ a, a < 0 → ∀ b, b < 0 → a ≠ b → (TJ10 a).2.1 ≠ (TJ10 b).2.1 := by decide +kernel
theorem tyJ10_ok : ∀ k, k < 0 → parseFieldDescriptor (TJ10 k).2.2.1 = some (tyJ10 k) := by decide +kernel
theorem nmJ7 : ∀ a, a < 0 → ∀ b, b < 0 → a ≠ b → (TJ7 a).2.1 ≠ (TJ7 b).2.1 := by decide +kernel
theorem tyJ7_ok : ∀ k, k < 0 → parseFieldDescriptor (TJ7 k).2.2.1 = some (tyJ7 k) := by decide +kernel
theorem nmJ8 : ∀ a, a < 0 → ∀ b, b < 0 → a ≠ b → (TJ8 a).2.1 ≠ (TJ8 b).2.1 := by decide +kernel
theorem tyJ8_ok : ∀ k, k < 0 → parseFieldDescriptor (TJ8 k).2.2.1 = some (tyJ8 k) := by decide +kernel
theorem nmJ3 : ∀ a, a < 0 → ∀ b, b < 0 → a ≠ b → (TJ3 a).2.1 ≠ (TJ3 b).2.1 := by decide +kernel
theorem tyJ3_ok : ∀ k, k < 0 → parseFieldDescriptor (TJ3 k).2.2.1 = some (tyJ3 k) := by decide +kernel
abbrev cX0_init : ByteArray := prog_2_method_1_code
def yX0_init : MethodName := ⟨RX0, "<init>", "()V"⟩
abbrev cX0_count : ByteArray := prog_2_method_2_code
def yX0_count : MethodName := ⟨RX0, "count", "()I"⟩
abbrev cX0_isIn : ByteArray := prog_2_method_3_code
def yX0_isIn : MethodName := ⟨RX0, "isIn", "(I)Z"⟩
abbrev cX0_begin : ByteArray := prog_2_method_4_code
def yX0_begin : MethodName := ⟨RX0, "begin", "(I)J"⟩
abbrev cX0_end : ByteArray := prog_2_method_5_code
def yX0_end : MethodName := ⟨RX0, "end", "(I)J"⟩
abbrev cX0_isOver : ByteArray := prog_2_method_6_code
def yX0_isOver : MethodName := ⟨RX0, "isOver", "(I)Z"⟩
abbrev cX0_clear : ByteArray := prog_2_method_7_code
def yX0_clear : MethodName := ⟨RX0, "clear", "()I"⟩
abbrev cX0_add : ByteArray := prog_2_method_8_code
def yX0_add : MethodName := ⟨RX0, "add", "(JJZ)I"⟩
abbrev cX0_remove : ByteArray := prog_2_method_9_code
def yX0_remove : MethodName := ⟨RX0, "remove", "(I)I"⟩
abbrev cX0_put : ByteArray := prog_2_method_10_code
def yX0_put : MethodName := ⟨RX0, "put", "(IJJ)V"⟩
abbrev cX0_isLetAfter : ByteArray := prog_2_method_11_code
def yX0_isLetAfter : MethodName := ⟨RX0, "isLetAfter", "(J)Z"⟩
abbrev cX0_goOn : ByteArray := prog_2_method_12_code
def yX0_goOn : MethodName := ⟨RX0, "goOn", "(J)V"⟩
abbrev cX0_doMeet : ByteArray := prog_2_method_13_code
def yX0_doMeet : MethodName := ⟨RX0, "doMeet", "(II)Z"⟩
abbrev cX0_firstMeeting : ByteArray := prog_2_method_14_code
def yX0_firstMeeting : MethodName := ⟨RX0, "firstMeeting", "(JJI)I"⟩
abbrev cX0_firstWith : ByteArray := prog_2_method_15_code
def yX0_firstWith : MethodName := ⟨RX0, "firstWith", "(J)I"⟩
abbrev cX0_nextBegin : ByteArray := prog_2_method_16_code
def yX0_nextBegin : MethodName := ⟨RX0, "nextBegin", "(JJ)J"⟩
abbrev cX0_beginsBefore : ByteArray := prog_2_method_17_code
def yX0_beginsBefore : MethodName := ⟨RX0, "beginsBefore", "(J)I"⟩
abbrev cX0_endsBefore : ByteArray := prog_2_method_18_code
def yX0_endsBefore : MethodName := ⟨RX0, "endsBefore", "(J)I"⟩
abbrev cX0_depth : ByteArray := prog_2_method_19_code
def yX0_depth : MethodName := ⟨RX0, "depth", "()I"⟩
abbrev cX1_init : ByteArray := prog_1_method_1_code
def yX1_init : MethodName := ⟨RX1, "<init>", "()V"⟩
abbrev cX1_set : ByteArray := prog_1_method_2_code
def yX1_set : MethodName := ⟨RX1, "set", "(III)I"⟩
abbrev cX1_go : ByteArray := prog_1_method_3_code
def yX1_go : MethodName := ⟨RX1, "go", "(IIIZ)I"⟩
abbrev cX1_copy : ByteArray := prog_1_method_4_code
def yX1_copy : MethodName := ⟨RX1, "copy", "(II)I"⟩
abbrev cX1_swap : ByteArray := prog_1_method_5_code
def yX1_swap : MethodName := ⟨RX1, "swap", "(II)I"⟩
abbrev cX1_pick : ByteArray := prog_1_method_6_code
def yX1_pick : MethodName := ⟨RX1, "pick", "(ZI)I"⟩
abbrev cX1_shift : ByteArray := prog_1_method_7_code
def yX1_shift : MethodName := ⟨RX1, "shift", "(II)I"⟩
abbrev cX1_open : ByteArray := prog_1_method_8_code
def yX1_open : MethodName := ⟨RX1, "open", "(II)I"⟩
abbrev cX1_book : ByteArray := prog_1_method_9_code
def yX1_book : MethodName := ⟨RX1, "book", "(IIZ)I"⟩
abbrev cX1_unbook : ByteArray := prog_1_method_10_code
def yX1_unbook : MethodName := ⟨RX1, "unbook", "(I)I"⟩
abbrev cX1_empty : ByteArray := prog_1_method_11_code
def yX1_empty : MethodName := ⟨RX1, "empty", "()I"⟩
abbrev cX1_move : ByteArray := prog_1_method_12_code
def yX1_move : MethodName := ⟨RX1, "move", "(III)I"⟩
abbrev cX1_stretch : ByteArray := prog_1_method_13_code
def yX1_stretch : MethodName := ⟨RX1, "stretch", "(III)I"⟩
abbrev cX1_fit : ByteArray := prog_1_method_14_code
def yX1_fit : MethodName := ⟨RX1, "fit", "(IIII)I"⟩
abbrev cX1_wish : ByteArray := prog_1_method_15_code
def yX1_wish : MethodName := ⟨RX1, "wish", "(II)I"⟩
abbrev cX1_unwish : ByteArray := prog_1_method_16_code
def yX1_unwish : MethodName := ⟨RX1, "unwish", "(I)I"⟩
abbrev cX1_grant : ByteArray := prog_1_method_17_code
def yX1_grant : MethodName := ⟨RX1, "grant", "(I)I"⟩
abbrev cX1_second : ByteArray := prog_1_method_18_code
def yX1_second : MethodName := ⟨RX1, "second", "(I)I"⟩
abbrev cX1_nano : ByteArray := prog_1_method_19_code
def yX1_nano : MethodName := ⟨RX1, "nano", "(I)I"⟩
abbrev cX1_text : ByteArray := prog_1_method_20_code
def yX1_text : MethodName := ⟨RX1, "text", "(I)Ljava/lang/String;"⟩
abbrev cX1_order : ByteArray := prog_1_method_21_code
def yX1_order : MethodName := ⟨RX1, "order", "(II)I"⟩
abbrev cX1_isBefore : ByteArray := prog_1_method_22_code
def yX1_isBefore : MethodName := ⟨RX1, "isBefore", "(II)Z"⟩
abbrev cX1_isAfter : ByteArray := prog_1_method_23_code
def yX1_isAfter : MethodName := ⟨RX1, "isAfter", "(II)Z"⟩
abbrev cX1_same : ByteArray := prog_1_method_24_code
def yX1_same : MethodName := ⟨RX1, "same", "(III)Z"⟩
abbrev cX1_apart : ByteArray := prog_1_method_25_code
def yX1_apart : MethodName := ⟨RX1, "apart", "(III)I"⟩
abbrev cX1_calendar : ByteArray := prog_1_method_26_code
def yX1_calendar : MethodName := ⟨RX1, "calendar", "(I)I"⟩
abbrev cX1_spans : ByteArray := prog_1_method_27_code
def yX1_spans : MethodName := ⟨RX1, "spans", "()I"⟩
abbrev cX1_ofSpan : ByteArray := prog_1_method_28_code
def yX1_ofSpan : MethodName := ⟨RX1, "ofSpan", "(II)I"⟩
abbrev cX1_meets : ByteArray := prog_1_method_29_code
def yX1_meets : MethodName := ⟨RX1, "meets", "(II)Z"⟩
abbrev cX1_clashes : ByteArray := prog_1_method_30_code
def yX1_clashes : MethodName := ⟨RX1, "clashes", "()I"⟩
abbrev cX1_at : ByteArray := prog_1_method_31_code
def yX1_at : MethodName := ⟨RX1, "at", "(I)I"⟩
abbrev cX1_deepest : ByteArray := prog_1_method_32_code
def yX1_deepest : MethodName := ⟨RX1, "deepest", "()I"⟩
abbrev cX1_isFree : ByteArray := prog_1_method_33_code
def yX1_isFree : MethodName := ⟨RX1, "isFree", "(II)Z"⟩
abbrev cX1_frees : ByteArray := prog_1_method_34_code
def yX1_frees : MethodName := ⟨RX1, "frees", "()I"⟩
abbrev cX1_ofFree : ByteArray := prog_1_method_35_code
def yX1_ofFree : MethodName := ⟨RX1, "ofFree", "(II)I"⟩
abbrev cX1_freeAt : ByteArray := prog_1_method_36_code
def yX1_freeAt : MethodName := ⟨RX1, "freeAt", "(I)I"⟩
abbrev cX1_length : ByteArray := prog_1_method_37_code
def yX1_length : MethodName := ⟨RX1, "length", "(I)I"⟩
abbrev cX1_wishes : ByteArray := prog_1_method_38_code
def yX1_wishes : MethodName := ⟨RX1, "wishes", "()I"⟩
abbrev cX1_ofWish : ByteArray := prog_1_method_39_code
def yX1_ofWish : MethodName := ⟨RX1, "ofWish", "(II)I"⟩
abbrev cX1_isApart : ByteArray := prog_1_method_40_code
def yX1_isApart : MethodName := ⟨RX1, "isApart", "(I)Z"⟩
abbrev cX1_chosen : ByteArray := prog_1_method_41_code
def yX1_chosen : MethodName := ⟨RX1, "chosen", "()I"⟩
abbrev cX1_most : ByteArray := prog_1_method_42_code
def yX1_most : MethodName := ⟨RX1, "most", "(I)I"⟩
abbrev cX1_crowd : ByteArray := prog_1_method_43_code
def yX1_crowd : MethodName := ⟨RX1, "crowd", "()I"⟩
abbrev cX1_room : ByteArray := prog_1_method_44_code
def yX1_room : MethodName := ⟨RX1, "room", "(I)I"⟩
abbrev cX1_rooms : ByteArray := prog_1_method_45_code
def yX1_rooms : MethodName := ⟨RX1, "rooms", "()I"⟩
abbrev cX1_house : ByteArray := prog_1_method_46_code
def yX1_house : MethodName := ⟨RX1, "house", "(I)I"⟩
abbrev cX1_knock : ByteArray := prog_1_method_47_code
def yX1_knock : MethodName := ⟨RX1, "knock", "()I"⟩
abbrev cX1_isSound : ByteArray := prog_1_method_48_code
def yX1_isSound : MethodName := ⟨RX1, "isSound", "()Z"⟩
abbrev cX1_digest : ByteArray := prog_1_method_49_code
def yX1_digest : MethodName := ⟨RX1, "digest", "()J"⟩
abbrev cX1_needCell : ByteArray := prog_1_method_50_code
def yX1_needCell : MethodName := ⟨RX1, "needCell", "(I)V"⟩
abbrev cX1_needNumberIn : ByteArray := prog_1_method_51_code
def yX1_needNumberIn : MethodName := ⟨RX1, "needNumberIn", "(LSpanbooker$Row;I)V"⟩
abbrev cX1_needUnits : ByteArray := prog_1_method_52_code
def yX1_needUnits : MethodName := ⟨RX1, "needUnits", "(III)V"⟩
abbrev cX1_needThat : ByteArray := prog_1_method_53_code
def yX1_needThat : MethodName := ⟨RX1, "needThat", "(Z)V"⟩
abbrev cX1_isWithin : ByteArray := prog_1_method_54_code
def yX1_isWithin : MethodName := ⟨RX1, "isWithin", "(III)Z"⟩
abbrev cX1_done : ByteArray := prog_1_method_55_code
def yX1_done : MethodName := ⟨RX1, "done", "(I)I"⟩
abbrev cX1_refuse : ByteArray := prog_1_method_56_code
def yX1_refuse : MethodName := ⟨RX1, "refuse", "()I"⟩
abbrev cX1_isLet : ByteArray := prog_1_method_57_code
def yX1_isLet : MethodName := ⟨RX1, "isLet", "(J)Z"⟩
abbrev cX1_secondOf : ByteArray := prog_1_method_58_code
def yX1_secondOf : MethodName := ⟨RX1, "secondOf", "(J)I"⟩
abbrev cX1_nanoOf : ByteArray := prog_1_method_59_code
def yX1_nanoOf : MethodName := ⟨RX1, "nanoOf", "(J)I"⟩
abbrev cX1_partOf : ByteArray := prog_1_method_60_code
def yX1_partOf : MethodName := ⟨RX1, "partOf", "(JI)I"⟩
abbrev cX1_partIn : ByteArray := prog_1_method_61_code
def yX1_partIn : MethodName := ⟨RX1, "partIn", "(LSpanbooker$Row;II)I"⟩
abbrev cX1_lengthOf : ByteArray := prog_1_method_62_code
def yX1_lengthOf : MethodName := ⟨RX1, "lengthOf", "(II)J"⟩
abbrev cX1_sideOf : ByteArray := prog_1_method_63_code
def yX1_sideOf : MethodName := ⟨RX1, "sideOf", "(JJ)I"⟩
abbrev cX1_bring : ByteArray := prog_1_method_64_code
def yX1_bring : MethodName := ⟨RX1, "bring", "(JI)I"⟩
abbrev cX1_isAllLetAfter : ByteArray := prog_1_method_65_code
def yX1_isAllLetAfter : MethodName := ⟨RX1, "isAllLetAfter", "(J)Z"⟩
abbrev cX1_isInCalendar : ByteArray := prog_1_method_66_code
def yX1_isInCalendar : MethodName := ⟨RX1, "isInCalendar", "(JJ)Z"⟩
abbrev cX1_addSpan : ByteArray := prog_1_method_67_code
def yX1_addSpan : MethodName := ⟨RX1, "addSpan", "(JJZ)I"⟩
abbrev cX1_changeSpan : ByteArray := prog_1_method_68_code
def yX1_changeSpan : MethodName := ⟨RX1, "changeSpan", "(IJJ)Z"⟩
abbrev cX1_firstWithoutSpan : ByteArray := prog_1_method_69_code
def yX1_firstWithoutSpan : MethodName := ⟨RX1, "firstWithoutSpan", "(JJ)J"⟩
abbrev cX1_firstTaken : ByteArray := prog_1_method_70_code
def yX1_firstTaken : MethodName := ⟨RX1, "firstTaken", "(J)J"⟩
abbrev cX1_findFrees : ByteArray := prog_1_method_71_code
def yX1_findFrees : MethodName := ⟨RX1, "findFrees", "()V"⟩
abbrev cX1_freeLength : ByteArray := prog_1_method_72_code
def yX1_freeLength : MethodName := ⟨RX1, "freeLength", "()J"⟩
abbrev cX1_takenLength : ByteArray := prog_1_method_73_code
def yX1_takenLength : MethodName := ⟨RX1, "takenLength", "()J"⟩
abbrev cX1_setOfAllWishes : ByteArray := prog_1_method_74_code
def yX1_setOfAllWishes : MethodName := ⟨RX1, "setOfAllWishes", "()I"⟩
abbrev cX1_meetsOneOf : ByteArray := prog_1_method_75_code
def yX1_meetsOneOf : MethodName := ⟨RX1, "meetsOneOf", "(II)Z"⟩
abbrev cX1_isWithoutMeeting : ByteArray := prog_1_method_76_code
def yX1_isWithoutMeeting : MethodName := ⟨RX1, "isWithoutMeeting", "(I)Z"⟩
abbrev cX1_nextChosen : ByteArray := prog_1_method_77_code
def yX1_nextChosen : MethodName := ⟨RX1, "nextChosen", "(I)I"⟩
abbrev cX1_mostOfAllSets : ByteArray := prog_1_method_78_code
def yX1_mostOfAllSets : MethodName := ⟨RX1, "mostOfAllSets", "()I"⟩
abbrev cX1_findRooms : ByteArray := prog_1_method_79_code
def yX1_findRooms : MethodName := ⟨RX1, "findRooms", "()V"⟩
abbrev cX1_firstWithoutRoom : ByteArray := prog_1_method_80_code
def yX1_firstWithoutRoom : MethodName := ⟨RX1, "firstWithoutRoom", "()I"⟩
abbrev cX1_smallestRoom : ByteArray := prog_1_method_81_code
def yX1_smallestRoom : MethodName := ⟨RX1, "smallestRoom", "(I)I"⟩
abbrev cX1_roomCount : ByteArray := prog_1_method_82_code
def yX1_roomCount : MethodName := ⟨RX1, "roomCount", "()I"⟩
abbrev cX1_isSoundInSpans : ByteArray := prog_1_method_83_code
def yX1_isSoundInSpans : MethodName := ⟨RX1, "isSoundInSpans", "()Z"⟩
abbrev cX1_isSoundInFrees : ByteArray := prog_1_method_84_code
def yX1_isSoundInFrees : MethodName := ⟨RX1, "isSoundInFrees", "()Z"⟩
abbrev cX1_isSoundInWishes : ByteArray := prog_1_method_85_code
def yX1_isSoundInWishes : MethodName := ⟨RX1, "isSoundInWishes", "()Z"⟩
abbrev cX1_mix : ByteArray := prog_1_method_86_code
def yX1_mix : MethodName := ⟨RX1, "mix", "(JI)J"⟩
abbrev cX1_mixParts : ByteArray := prog_1_method_87_code
def yX1_mixParts : MethodName := ⟨RX1, "mixParts", "(JLSpanbooker$Row;I)J"⟩
abbrev cX1_mixCells : ByteArray := prog_1_method_88_code
def yX1_mixCells : MethodName := ⟨RX1, "mixCells", "(J)J"⟩
abbrev cX1_mixSpans : ByteArray := prog_1_method_89_code
def yX1_mixSpans : MethodName := ⟨RX1, "mixSpans", "(J)J"⟩
abbrev cX1_mixFrees : ByteArray := prog_1_method_90_code
def yX1_mixFrees : MethodName := ⟨RX1, "mixFrees", "(J)J"⟩
abbrev cX1_mixWishes : ByteArray := prog_1_method_91_code
def yX1_mixWishes : MethodName := ⟨RX1, "mixWishes", "(J)J"⟩
abbrev cX2_init : ByteArray := prog_4_method_1_code
def yX2_init : MethodName := ⟨RX2, "<init>", "()V"⟩
abbrev cX3_init : ByteArray := prog_5_method_1_code
def yX3_init : MethodName := ⟨RX3, "<init>", "()V"⟩
abbrev cX3_secondOf : ByteArray := prog_5_method_3_code
def yX3_secondOf : MethodName := ⟨RX3, "secondOf", "(J)I"⟩
abbrev cX3_nanoOf : ByteArray := prog_5_method_4_code
def yX3_nanoOf : MethodName := ⟨RX3, "nanoOf", "(J)I"⟩
abbrev cX3_isLet : ByteArray := prog_5_method_5_code
def yX3_isLet : MethodName := ⟨RX3, "isLet", "(J)Z"⟩
abbrev cX3_units : ByteArray := prog_5_method_6_code
def yX3_units : MethodName := ⟨RX3, "units", "(II)J"⟩
abbrev cX3_sign : ByteArray := prog_5_method_7_code
def yX3_sign : MethodName := ⟨RX3, "sign", "(J)I"⟩
abbrev cX3_meet : ByteArray := prog_5_method_8_code
def yX3_meet : MethodName := ⟨RX3, "meet", "(JJJJ)Z"⟩
abbrev cX3_isIn : ByteArray := prog_5_method_9_code
def yX3_isIn : MethodName := ⟨RX3, "isIn", "(JJ)Z"⟩
abbrev cX3_meetsSome : ByteArray := prog_5_method_10_code
def yX3_meetsSome : MethodName := ⟨RX3, "meetsSome", "(JJI)Z"⟩
abbrev cX3_spanAt : ByteArray := prog_5_method_11_code
def yX3_spanAt : MethodName := ⟨RX3, "spanAt", "(J)I"⟩
abbrev cX3_free : ByteArray := prog_5_method_12_code
def yX3_free : MethodName := ⟨RX3, "free", "()[J"⟩
abbrev cX3_freesOf : ByteArray := prog_5_method_13_code
def yX3_freesOf : MethodName := ⟨RX3, "freesOf", "([J)I"⟩
abbrev cX3_freeLength : ByteArray := prog_5_method_14_code
def yX3_freeLength : MethodName := ⟨RX3, "freeLength", "()J"⟩
abbrev cX3_takenLength : ByteArray := prog_5_method_15_code
def yX3_takenLength : MethodName := ⟨RX3, "takenLength", "()J"⟩
abbrev cX3_deepest : ByteArray := prog_5_method_16_code
def yX3_deepest : MethodName := ⟨RX3, "deepest", "([J[JI)I"⟩
abbrev cX3_fits : ByteArray := prog_5_method_17_code
def yX3_fits : MethodName := ⟨RX3, "fits", "(JJ)Z"⟩
abbrev cX3_wishesMeet : ByteArray := prog_5_method_18_code
def yX3_wishesMeet : MethodName := ⟨RX3, "wishesMeet", "(II)Z"⟩
abbrev cX3_areApart : ByteArray := prog_5_method_19_code
def yX3_areApart : MethodName := ⟨RX3, "areApart", "(I)Z"⟩
abbrev cX3_chosenNow : ByteArray := prog_5_method_20_code
def yX3_chosenNow : MethodName := ⟨RX3, "chosenNow", "()I"⟩
abbrev cX3_ones : ByteArray := prog_5_method_21_code
def yX3_ones : MethodName := ⟨RX3, "ones", "(I)I"⟩
abbrev cX3_mostOfAll : ByteArray := prog_5_method_22_code
def yX3_mostOfAll : MethodName := ⟨RX3, "mostOfAll", "()I"⟩
abbrev cX3_nextWish : ByteArray := prog_5_method_23_code
def yX3_nextWish : MethodName := ⟨RX3, "nextWish", "([I)I"⟩
abbrev cX3_roomsNow : ByteArray := prog_5_method_24_code
def yX3_roomsNow : MethodName := ⟨RX3, "roomsNow", "()[I"⟩
abbrev cX3_roomsOf : ByteArray := prog_5_method_25_code
def yX3_roomsOf : MethodName := ⟨RX3, "roomsOf", "()I"⟩
abbrev cX3_is : ByteArray := prog_5_method_26_code
def yX3_is : MethodName := ⟨RX3, "is", "(I)Z"⟩
abbrev cX3_isSpan : ByteArray := prog_5_method_27_code
def yX3_isSpan : MethodName := ⟨RX3, "isSpan", "(I)Z"⟩
abbrev cX3_isWish : ByteArray := prog_5_method_28_code
def yX3_isWish : MethodName := ⟨RX3, "isWish", "(I)Z"⟩
abbrev cX3_isNoUnit : ByteArray := prog_5_method_29_code
def yX3_isNoUnit : MethodName := ⟨RX3, "isNoUnit", "(II)Z"⟩
abbrev cX3_isThrown : ByteArray := prog_5_method_30_code
def yX3_isThrown : MethodName := ⟨RX3, "isThrown", "(ZZ)Z"⟩
abbrev cX3_isThrown_ : ByteArray := prog_5_method_31_code
def yX3_isThrown_ : MethodName := ⟨RX3, "isThrown", "(Z)Z"⟩
abbrev cX3_done : ByteArray := prog_5_method_32_code
def yX3_done : MethodName := ⟨RX3, "done", "(I)I"⟩
abbrev cX3_no : ByteArray := prog_5_method_33_code
def yX3_no : MethodName := ⟨RX3, "no", "()I"⟩
abbrev cX3_set : ByteArray := prog_5_method_34_code
def yX3_set : MethodName := ⟨RX3, "set", "(III)I"⟩
abbrev cX3_go : ByteArray := prog_5_method_35_code
def yX3_go : MethodName := ⟨RX3, "go", "(IIIZ)I"⟩
abbrev cX3_copy : ByteArray := prog_5_method_36_code
def yX3_copy : MethodName := ⟨RX3, "copy", "(II)I"⟩
abbrev cX3_swap : ByteArray := prog_5_method_37_code
def yX3_swap : MethodName := ⟨RX3, "swap", "(II)I"⟩
abbrev cX3_pick : ByteArray := prog_5_method_38_code
def yX3_pick : MethodName := ⟨RX3, "pick", "(ZI)I"⟩
abbrev cX3_areLet : ByteArray := prog_5_method_39_code
def yX3_areLet : MethodName := ⟨RX3, "areLet", "([JIJ)Z"⟩
abbrev cX3_shifted : ByteArray := prog_5_method_40_code
def yX3_shifted : MethodName := ⟨RX3, "shifted", "([JJ)[J"⟩
abbrev cX3_shift : ByteArray := prog_5_method_41_code
def yX3_shift : MethodName := ⟨RX3, "shift", "(II)I"⟩
abbrev cX3_open : ByteArray := prog_5_method_42_code
def yX3_open : MethodName := ⟨RX3, "open", "(II)I"⟩
abbrev cX3_mayCome : ByteArray := prog_5_method_43_code
def yX3_mayCome : MethodName := ⟨RX3, "mayCome", "(JJZ)Z"⟩
abbrev cX3_come : ByteArray := prog_5_method_44_code
def yX3_come : MethodName := ⟨RX3, "come", "(JJZ)I"⟩
abbrev cX3_book : ByteArray := prog_5_method_45_code
def yX3_book : MethodName := ⟨RX3, "book", "(IIZ)I"⟩
abbrev cX3_unbook : ByteArray := prog_5_method_46_code
def yX3_unbook : MethodName := ⟨RX3, "unbook", "(I)I"⟩
abbrev cX3_empty : ByteArray := prog_5_method_47_code
def yX3_empty : MethodName := ⟨RX3, "empty", "()I"⟩
abbrev cX3_less : ByteArray := prog_5_method_48_code
def yX3_less : MethodName := ⟨RX3, "less", "([JIJ)I"⟩
abbrev cX3_move : ByteArray := prog_5_method_49_code
def yX3_move : MethodName := ⟨RX3, "move", "(III)I"⟩
abbrev cX3_stretch : ByteArray := prog_5_method_50_code
def yX3_stretch : MethodName := ⟨RX3, "stretch", "(III)I"⟩
abbrev cX3_fit : ByteArray := prog_5_method_51_code
def yX3_fit : MethodName := ⟨RX3, "fit", "(IIII)I"⟩
abbrev cX3_wish : ByteArray := prog_5_method_52_code
def yX3_wish : MethodName := ⟨RX3, "wish", "(II)I"⟩
abbrev cX3_gone : ByteArray := prog_5_method_53_code
def yX3_gone : MethodName := ⟨RX3, "gone", "(I)V"⟩
abbrev cX3_unwish : ByteArray := prog_5_method_54_code
def yX3_unwish : MethodName := ⟨RX3, "unwish", "(I)I"⟩
abbrev cX3_grant : ByteArray := prog_5_method_55_code
def yX3_grant : MethodName := ⟨RX3, "grant", "(I)I"⟩
abbrev cX3_second : ByteArray := prog_5_method_56_code
def yX3_second : MethodName := ⟨RX3, "second", "(I)I"⟩
abbrev cX3_nano : ByteArray := prog_5_method_57_code
def yX3_nano : MethodName := ⟨RX3, "nano", "(I)I"⟩
abbrev cX3_text : ByteArray := prog_5_method_58_code
def yX3_text : MethodName := ⟨RX3, "text", "(I)Ljava/lang/String;"⟩
abbrev cX3_areNone : ByteArray := prog_5_method_59_code
def yX3_areNone : MethodName := ⟨RX3, "areNone", "(II)Z"⟩
abbrev cX3_order : ByteArray := prog_5_method_60_code
def yX3_order : MethodName := ⟨RX3, "order", "(II)I"⟩
abbrev cX3_isBefore : ByteArray := prog_5_method_61_code
def yX3_isBefore : MethodName := ⟨RX3, "isBefore", "(II)Z"⟩
abbrev cX3_isAfter : ByteArray := prog_5_method_62_code
def yX3_isAfter : MethodName := ⟨RX3, "isAfter", "(II)Z"⟩
abbrev cX3_same : ByteArray := prog_5_method_63_code
def yX3_same : MethodName := ⟨RX3, "same", "(III)Z"⟩
abbrev cX3_apart : ByteArray := prog_5_method_64_code
def yX3_apart : MethodName := ⟨RX3, "apart", "(III)I"⟩
abbrev cX3_half : ByteArray := prog_5_method_65_code
def yX3_half : MethodName := ⟨RX3, "half", "(JI)I"⟩
abbrev cX3_calendar : ByteArray := prog_5_method_66_code
def yX3_calendar : MethodName := ⟨RX3, "calendar", "(I)I"⟩
abbrev cX3_spans : ByteArray := prog_5_method_67_code
def yX3_spans : MethodName := ⟨RX3, "spans", "()I"⟩
abbrev cX3_ofSpan : ByteArray := prog_5_method_68_code
def yX3_ofSpan : MethodName := ⟨RX3, "ofSpan", "(II)I"⟩
abbrev cX3_meets : ByteArray := prog_5_method_69_code
def yX3_meets : MethodName := ⟨RX3, "meets", "(II)Z"⟩
abbrev cX3_clashes : ByteArray := prog_5_method_70_code
def yX3_clashes : MethodName := ⟨RX3, "clashes", "()I"⟩
abbrev cX3_at : ByteArray := prog_5_method_71_code
def yX3_at : MethodName := ⟨RX3, "at", "(I)I"⟩
abbrev cX3_deepest_ : ByteArray := prog_5_method_72_code
def yX3_deepest_ : MethodName := ⟨RX3, "deepest", "()I"⟩
abbrev cX3_isFree : ByteArray := prog_5_method_73_code
def yX3_isFree : MethodName := ⟨RX3, "isFree", "(II)Z"⟩
abbrev cX3_frees : ByteArray := prog_5_method_74_code
def yX3_frees : MethodName := ⟨RX3, "frees", "()I"⟩
abbrev cX3_ofFree : ByteArray := prog_5_method_75_code
def yX3_ofFree : MethodName := ⟨RX3, "ofFree", "(II)I"⟩
abbrev cX3_freeAt : ByteArray := prog_5_method_76_code
def yX3_freeAt : MethodName := ⟨RX3, "freeAt", "(I)I"⟩
abbrev cX3_length : ByteArray := prog_5_method_77_code
def yX3_length : MethodName := ⟨RX3, "length", "(I)I"⟩
abbrev cX3_wishes : ByteArray := prog_5_method_78_code
def yX3_wishes : MethodName := ⟨RX3, "wishes", "()I"⟩
abbrev cX3_ofWish : ByteArray := prog_5_method_79_code
def yX3_ofWish : MethodName := ⟨RX3, "ofWish", "(II)I"⟩
abbrev cX3_isApart : ByteArray := prog_5_method_80_code
def yX3_isApart : MethodName := ⟨RX3, "isApart", "(I)Z"⟩
abbrev cX3_chosen : ByteArray := prog_5_method_81_code
def yX3_chosen : MethodName := ⟨RX3, "chosen", "()I"⟩
abbrev cX3_most : ByteArray := prog_5_method_82_code
def yX3_most : MethodName := ⟨RX3, "most", "(I)I"⟩
abbrev cX3_crowd : ByteArray := prog_5_method_83_code
def yX3_crowd : MethodName := ⟨RX3, "crowd", "()I"⟩
abbrev cX3_room : ByteArray := prog_5_method_84_code
def yX3_room : MethodName := ⟨RX3, "room", "(I)I"⟩
abbrev cX3_rooms : ByteArray := prog_5_method_85_code
def yX3_rooms : MethodName := ⟨RX3, "rooms", "()I"⟩
abbrev cX3_house : ByteArray := prog_5_method_86_code
def yX3_house : MethodName := ⟨RX3, "house", "(I)I"⟩
abbrev cX3_knock : ByteArray := prog_5_method_87_code
def yX3_knock : MethodName := ⟨RX3, "knock", "()I"⟩
abbrev cX3_areSpans : ByteArray := prog_5_method_88_code
def yX3_areSpans : MethodName := ⟨RX3, "areSpans", "()Z"⟩
abbrev cX3_isSound : ByteArray := prog_5_method_89_code
def yX3_isSound : MethodName := ⟨RX3, "isSound", "()Z"⟩
abbrev cX3_added : ByteArray := prog_5_method_90_code
def yX3_added : MethodName := ⟨RX3, "added", "(J[J[JI)J"⟩
abbrev cX3_digest : ByteArray := prog_5_method_91_code
def yX3_digest : MethodName := ⟨RX3, "digest", "()J"⟩
abbrev cJ5_init_d00df : ByteArray := prog_6_method_2_code
def yJ5_init_d00df : MethodName := ⟨RJ5, "<init>", "(I)V"⟩
abbrev cJ5_length_8abf5 : ByteArray := prog_6_method_6_code
def yJ5_length_8abf5 : MethodName := ⟨RJ5, "length", "()I"⟩
abbrev cJ5_ensureCapacityInternal_d00df : ByteArray := prog_6_method_9_code
def yJ5_ensureCapacityInternal_d00df : MethodName := ⟨RJ5, "ensureCapacityInternal", "(I)V"⟩
abbrev cJ5_newCapacity_0f7a4 : ByteArray := prog_6_method_10_code
def yJ5_newCapacity_0f7a4 : MethodName := ⟨RJ5, "newCapacity", "(I)I"⟩
abbrev cJ5_inflate_da8c8 : ByteArray := prog_6_method_11_code
def yJ5_inflate_da8c8 : MethodName := ⟨RJ5, "inflate", "()V"⟩
abbrev cJ5_append_cf1ce : ByteArray := prog_6_method_22_code
def yJ5_append_cf1ce : MethodName := ⟨RJ5, "append", "(Ljava/lang/String;)Ljava/lang/AbstractStringBuilder;"⟩
abbrev cJ5_appendNull_278bc : ByteArray := prog_6_method_26_code
def yJ5_appendNull_278bc : MethodName := ⟨RJ5, "appendNull", "()Ljava/lang/AbstractStringBuilder;"⟩
abbrev cJ5_append_3fe6f : ByteArray := prog_6_method_31_code
def yJ5_append_3fe6f : MethodName := ⟨RJ5, "append", "(C)Ljava/lang/AbstractStringBuilder;"⟩
abbrev cJ5_append_c97b9 : ByteArray := prog_6_method_32_code
def yJ5_append_c97b9 : MethodName := ⟨RJ5, "append", "(I)Ljava/lang/AbstractStringBuilder;"⟩
abbrev cJ5_getValue_6d5f1 : ByteArray := prog_6_method_64_code
def yJ5_getValue_6d5f1 : MethodName := ⟨RJ5, "getValue", "()[B"⟩
abbrev cJ5_isLatin1_aae02 : ByteArray := prog_6_method_68_code
def yJ5_isLatin1_aae02 : MethodName := ⟨RJ5, "isLatin1", "()Z"⟩
abbrev cJ5_inflateIfNeededFor_a7421 : ByteArray := prog_6_method_71_code
def yJ5_inflateIfNeededFor_a7421 : MethodName := ⟨RJ5, "inflateIfNeededFor", "(Ljava/lang/String;)V"⟩
abbrev cJ5_putStringAt_47b60 : ByteArray := prog_6_method_73_code
def yJ5_putStringAt_47b60 : MethodName := ⟨RJ5, "putStringAt", "(ILjava/lang/String;)V"⟩
abbrev cJ6_getChars_ba4f3 : ByteArray := prog_11_method_12_code
def yJ6_getChars_ba4f3 : MethodName := ⟨RJ6, "getChars", "(II[B)I"⟩
abbrev cJ6_stringSize_0f7a4 : ByteArray := prog_11_method_13_code
def yJ6_stringSize_0f7a4 : MethodName := ⟨RJ6, "stringSize", "(I)I"⟩
abbrev cJ6_bitCount_0f7a4 : ByteArray := prog_11_method_49_code
def yJ6_bitCount_0f7a4 : MethodName := ⟨RJ6, "bitCount", "(I)I"⟩
abbrev cJ9_floorDiv_f86c9 : ByteArray := prog_12_method_49_code
def yJ9_floorDiv_f86c9 : MethodName := ⟨RJ9, "floorDiv", "(JJ)J"⟩
abbrev cJ9_floorMod_f86c9 : ByteArray := prog_12_method_52_code
def yJ9_floorMod_f86c9 : MethodName := ⟨RJ9, "floorMod", "(JJ)J"⟩
abbrev cJ9_max_7cf53 : ByteArray := prog_12_method_65_code
def yJ9_max_7cf53 : MethodName := ⟨RJ9, "max", "(II)I"⟩
abbrev cJ9_max_f86c9 : ByteArray := prog_12_method_66_code
def yJ9_max_f86c9 : MethodName := ⟨RJ9, "max", "(JJ)J"⟩
abbrev cJ9_min_7cf53 : ByteArray := prog_12_method_69_code
def yJ9_min_7cf53 : MethodName := ⟨RJ9, "min", "(II)I"⟩
abbrev cJ0_init_81219 : ByteArray := prog_14_method_53_code
def yJ0_init_81219 : MethodName := ⟨RJ0, "<init>", "(Ljava/lang/StringBuilder;)V"⟩
abbrev cJ0_length_8abf5 : ByteArray := prog_14_method_54_code
def yJ0_length_8abf5 : MethodName := ⟨RJ0, "length", "()I"⟩
abbrev cJ0_getBytes_840e7 : ByteArray := prog_14_method_147_code
def yJ0_getBytes_840e7 : MethodName := ⟨RJ0, "getBytes", "([BIB)V"⟩
abbrev cJ0_init_db425 : ByteArray := prog_14_method_150_code
def yJ0_init_db425 : MethodName := ⟨RJ0, "<init>", "(Ljava/lang/AbstractStringBuilder;Ljava/lang/Void;)V"⟩
abbrev cJ0_coder_7d493 : ByteArray := prog_14_method_152_code
def yJ0_coder_7d493 : MethodName := ⟨RJ0, "coder", "()B"⟩
abbrev cJ0_checkIndex_df160 : ByteArray := prog_14_method_155_code
def yJ0_checkIndex_df160 : MethodName := ⟨RJ0, "checkIndex", "(II)V"⟩
abbrev cJ0_checkBoundsOffCount_cabcc : ByteArray := prog_14_method_157_code
def yJ0_checkBoundsOffCount_cabcc : MethodName := ⟨RJ0, "checkBoundsOffCount", "(III)I"⟩
abbrev cJ0_checkBoundsBeginEnd_23922 : ByteArray := prog_14_method_158_code
def yJ0_checkBoundsBeginEnd_23922 : MethodName := ⟨RJ0, "checkBoundsBeginEnd", "(III)V"⟩
abbrev cJ4_init_da8c8 : ByteArray := prog_15_method_1_code
def yJ4_init_da8c8 : MethodName := ⟨RJ4, "<init>", "()V"⟩
abbrev cJ4_append_15ec4 : ByteArray := prog_15_method_7_code
def yJ4_append_15ec4 : MethodName := ⟨RJ4, "append", "(Ljava/lang/String;)Ljava/lang/StringBuilder;"⟩
abbrev cJ4_append_cf468 : ByteArray := prog_15_method_14_code
def yJ4_append_cf468 : MethodName := ⟨RJ4, "append", "(C)Ljava/lang/StringBuilder;"⟩
abbrev cJ4_append_bf812 : ByteArray := prog_15_method_15_code
def yJ4_append_bf812 : MethodName := ⟨RJ4, "append", "(I)Ljava/lang/StringBuilder;"⟩
abbrev cJ4_toString_0e30d : ByteArray := prog_15_method_42_code
def yJ4_toString_0e30d : MethodName := ⟨RJ4, "toString", "()Ljava/lang/String;"⟩
abbrev cJ4_length_8abf5 : ByteArray := prog_15_method_93_code
def yJ4_length_8abf5 : MethodName := ⟨RJ4, "length", "()I"⟩
abbrev cJ1_canEncode_fc78d : ByteArray := prog_16_method_3_code
def yJ1_canEncode_fc78d : MethodName := ⟨RJ1, "canEncode", "(C)Z"⟩
abbrev cJ1_inflate_0e8fd : ByteArray := prog_16_method_50_code
def yJ1_inflate_0e8fd : MethodName := ⟨RJ1, "inflate", "([BI[BII)V"⟩
abbrev cJ2_newBytesFor_77867 : ByteArray := prog_17_method_2_code
def yJ2_newBytesFor_77867 : MethodName := ⟨RJ2, "newBytesFor", "(I)[B"⟩
abbrev cJ2_newBytesLength_0f7a4 : ByteArray := prog_17_method_3_code
def yJ2_newBytesLength_0f7a4 : MethodName := ⟨RJ2, "newBytesLength", "(I)I"⟩
abbrev cJ2_putChar_b72d1 : ByteArray := prog_17_method_4_code
def yJ2_putChar_b72d1 : MethodName := ⟨RJ2, "putChar", "([BII)V"⟩
abbrev cJ2_getChar_3b067 : ByteArray := prog_17_method_5_code
def yJ2_getChar_3b067 : MethodName := ⟨RJ2, "getChar", "([BI)C"⟩
abbrev cJ2_length_9d52b : ByteArray := prog_17_method_6_code
def yJ2_length_9d52b : MethodName := ⟨RJ2, "length", "([B)I"⟩
abbrev cJ2_coderFromArrayLen_85cad : ByteArray := prog_17_method_15_code
def yJ2_coderFromArrayLen_85cad : MethodName := ⟨RJ2, "coderFromArrayLen", "([BI)B"⟩
abbrev cJ2_compress_39247 : ByteArray := prog_17_method_17_code
def yJ2_compress_39247 : MethodName := ⟨RJ2, "compress", "([BII)[B"⟩
abbrev cJ2_compress_5af95 : ByteArray := prog_17_method_22_code
def yJ2_compress_5af95 : MethodName := ⟨RJ2, "compress", "([BI[BII)I"⟩
abbrev cJ2_putCharSB_b72d1 : ByteArray := prog_17_method_71_code
def yJ2_putCharSB_b72d1 : MethodName := ⟨RJ2, "putCharSB", "([BII)V"⟩
abbrev cJ2_getChars_46870 : ByteArray := prog_17_method_77_code
def yJ2_getChars_46870 : MethodName := ⟨RJ2, "getChars", "(III[B)I"⟩
abbrev cJ2_putCharsAt_cd4e5 : ByteArray := prog_17_method_81_code
def yJ2_putCharsAt_cd4e5 : MethodName := ⟨RJ2, "putCharsAt", "([BICCCC)I"⟩
abbrev cJ2_inflate_0e8fd : ByteArray := prog_17_method_86_code
def yJ2_inflate_0e8fd : MethodName := ⟨RJ2, "inflate", "([BI[BII)V"⟩
abbrev cJ2_getChars_ba4f3 : ByteArray := prog_17_method_89_code
def yJ2_getChars_ba4f3 : MethodName := ⟨RJ2, "getChars", "(II[B)I"⟩
abbrev cJ2_checkIndex_2214a : ByteArray := prog_17_method_91_code
def yJ2_checkIndex_2214a : MethodName := ⟨RJ2, "checkIndex", "(I[B)V"⟩
abbrev cJ2_checkBoundsBeginEnd_d044e : ByteArray := prog_17_method_93_code
def yJ2_checkBoundsBeginEnd_d044e : MethodName := ⟨RJ2, "checkBoundsBeginEnd", "(II[B)V"⟩
abbrev cJ2_checkBoundsOffCount_d044e : ByteArray := prog_17_method_94_code
def yJ2_checkBoundsOffCount_d044e : MethodName := ⟨RJ2, "checkBoundsOffCount", "(II[B)V"⟩
abbrev cJ7_copyOf_9075b : ByteArray := prog_20_method_121_code
def yJ7_copyOf_9075b : MethodName := ⟨RJ7, "copyOf", "([BI)[B"⟩
abbrev cJ7_checkLength_df160 : ByteArray := prog_20_method_131_code
def yJ7_checkLength_df160 : MethodName := ⟨RJ7, "checkLength", "(II)V"⟩
abbrev cJ7_copyOfRange_39247 : ByteArray := prog_20_method_132_code
def yJ7_copyOfRange_39247 : MethodName := ⟨RJ7, "copyOfRange", "([BII)[B"⟩
abbrev cJ7_copyOfRangeByte_39247 : ByteArray := prog_20_method_133_code
def yJ7_copyOfRangeByte_39247 : MethodName := ⟨RJ7, "copyOfRangeByte", "([BII)[B"⟩
abbrev cJ8_newLength_cabcc : ByteArray := prog_21_method_27_code
def yJ8_newLength_cabcc : MethodName := ⟨RJ8, "newLength", "(III)I"⟩
abbrev cJ8_hugeLength_7cf53 : ByteArray := prog_21_method_28_code
def yJ8_hugeLength_7cf53 : MethodName := ⟨RJ8, "hugeLength", "(II)I"⟩
abbrev cJ3_checkIndex_8e157 : ByteArray := prog_22_method_11_code
def yJ3_checkIndex_8e157 : MethodName := ⟨RJ3, "checkIndex", "(IILjava/util/function/BiFunction;)I"⟩
abbrev cJ3_checkFromToIndex_8c36e : ByteArray := prog_22_method_12_code
def yJ3_checkFromToIndex_8c36e : MethodName := ⟨RJ3, "checkFromToIndex", "(IIILjava/util/function/BiFunction;)I"⟩
abbrev cJ3_checkFromIndexSize_8c36e : ByteArray := prog_22_method_13_code
def yJ3_checkFromIndexSize_8c36e : MethodName := ⟨RJ3, "checkFromIndexSize", "(IIILjava/util/function/BiFunction;)I"⟩
abbrev cL_set : ByteArray := method_2_code
def yL_set : MethodName := ⟨RL, "set", "(LSpanbooker;IIILSpanbookerLaw$Out;)I"⟩
abbrev cL_go : ByteArray := method_3_code
def yL_go : MethodName := ⟨RL, "go", "(LSpanbooker;IIIZLSpanbookerLaw$Out;)I"⟩
abbrev cL_copy : ByteArray := method_4_code
def yL_copy : MethodName := ⟨RL, "copy", "(LSpanbooker;IILSpanbookerLaw$Out;)I"⟩
abbrev cL_swap : ByteArray := method_5_code
def yL_swap : MethodName := ⟨RL, "swap", "(LSpanbooker;IILSpanbookerLaw$Out;)I"⟩
abbrev cL_pick : ByteArray := method_6_code
def yL_pick : MethodName := ⟨RL, "pick", "(LSpanbooker;ZILSpanbookerLaw$Out;)I"⟩
abbrev cL_shift : ByteArray := method_7_code
def yL_shift : MethodName := ⟨RL, "shift", "(LSpanbooker;IILSpanbookerLaw$Out;)I"⟩
abbrev cL_open : ByteArray := method_8_code
def yL_open : MethodName := ⟨RL, "open", "(LSpanbooker;IILSpanbookerLaw$Out;)I"⟩
abbrev cL_book : ByteArray := method_9_code
def yL_book : MethodName := ⟨RL, "book", "(LSpanbooker;IIZLSpanbookerLaw$Out;)I"⟩
abbrev cL_unbook : ByteArray := method_10_code
def yL_unbook : MethodName := ⟨RL, "unbook", "(LSpanbooker;ILSpanbookerLaw$Out;)I"⟩
abbrev cL_move : ByteArray := method_11_code
def yL_move : MethodName := ⟨RL, "move", "(LSpanbooker;IIILSpanbookerLaw$Out;)I"⟩
abbrev cL_stretch : ByteArray := method_12_code
def yL_stretch : MethodName := ⟨RL, "stretch", "(LSpanbooker;IIILSpanbookerLaw$Out;)I"⟩
abbrev cL_fit : ByteArray := method_13_code
def yL_fit : MethodName := ⟨RL, "fit", "(LSpanbooker;IIIILSpanbookerLaw$Out;)I"⟩
abbrev cL_wish : ByteArray := method_14_code
def yL_wish : MethodName := ⟨RL, "wish", "(LSpanbooker;IILSpanbookerLaw$Out;)I"⟩
abbrev cL_unwish : ByteArray := method_15_code
def yL_unwish : MethodName := ⟨RL, "unwish", "(LSpanbooker;ILSpanbookerLaw$Out;)I"⟩
abbrev cL_grant : ByteArray := method_16_code
def yL_grant : MethodName := ⟨RL, "grant", "(LSpanbooker;ILSpanbookerLaw$Out;)I"⟩
abbrev cL_second : ByteArray := method_17_code
def yL_second : MethodName := ⟨RL, "second", "(LSpanbooker;ILSpanbookerLaw$Out;)I"⟩
abbrev cL_nano : ByteArray := method_18_code
def yL_nano : MethodName := ⟨RL, "nano", "(LSpanbooker;ILSpanbookerLaw$Out;)I"⟩
abbrev cL_text : ByteArray := method_19_code
def yL_text : MethodName := ⟨RL, "text", "(LSpanbooker;ILSpanbookerLaw$Out;)I"⟩
abbrev cL_order : ByteArray := method_20_code
def yL_order : MethodName := ⟨RL, "order", "(LSpanbooker;IILSpanbookerLaw$Out;)I"⟩
abbrev cL_isBefore : ByteArray := method_21_code
def yL_isBefore : MethodName := ⟨RL, "isBefore", "(LSpanbooker;IILSpanbookerLaw$Out;)I"⟩
abbrev cL_isAfter : ByteArray := method_22_code
def yL_isAfter : MethodName := ⟨RL, "isAfter", "(LSpanbooker;IILSpanbookerLaw$Out;)I"⟩
abbrev cL_same : ByteArray := method_23_code
def yL_same : MethodName := ⟨RL, "same", "(LSpanbooker;IIILSpanbookerLaw$Out;)I"⟩
abbrev cL_apart : ByteArray := method_24_code
def yL_apart : MethodName := ⟨RL, "apart", "(LSpanbooker;IIILSpanbookerLaw$Out;)I"⟩
abbrev cL_calendar : ByteArray := method_25_code
def yL_calendar : MethodName := ⟨RL, "calendar", "(LSpanbooker;ILSpanbookerLaw$Out;)I"⟩
abbrev cL_ofSpan : ByteArray := method_26_code
def yL_ofSpan : MethodName := ⟨RL, "ofSpan", "(LSpanbooker;IILSpanbookerLaw$Out;)I"⟩
abbrev cL_meets : ByteArray := method_27_code
def yL_meets : MethodName := ⟨RL, "meets", "(LSpanbooker;IILSpanbookerLaw$Out;)I"⟩
abbrev cL_at : ByteArray := method_28_code
def yL_at : MethodName := ⟨RL, "at", "(LSpanbooker;ILSpanbookerLaw$Out;)I"⟩
abbrev cL_isFree : ByteArray := method_29_code
def yL_isFree : MethodName := ⟨RL, "isFree", "(LSpanbooker;IILSpanbookerLaw$Out;)I"⟩
abbrev cL_ofFree : ByteArray := method_30_code
def yL_ofFree : MethodName := ⟨RL, "ofFree", "(LSpanbooker;IILSpanbookerLaw$Out;)I"⟩
abbrev cL_freeAt : ByteArray := method_31_code
def yL_freeAt : MethodName := ⟨RL, "freeAt", "(LSpanbooker;ILSpanbookerLaw$Out;)I"⟩
abbrev cL_length : ByteArray := method_32_code
def yL_length : MethodName := ⟨RL, "length", "(LSpanbooker;ILSpanbookerLaw$Out;)I"⟩
abbrev cL_ofWish : ByteArray := method_33_code
def yL_ofWish : MethodName := ⟨RL, "ofWish", "(LSpanbooker;IILSpanbookerLaw$Out;)I"⟩
abbrev cL_isApart : ByteArray := method_34_code
def yL_isApart : MethodName := ⟨RL, "isApart", "(LSpanbooker;ILSpanbookerLaw$Out;)I"⟩
abbrev cL_most : ByteArray := method_35_code
def yL_most : MethodName := ⟨RL, "most", "(LSpanbooker;ILSpanbookerLaw$Out;)I"⟩
abbrev cL_room : ByteArray := method_36_code
def yL_room : MethodName := ⟨RL, "room", "(LSpanbooker;ILSpanbookerLaw$Out;)I"⟩
abbrev cL_house : ByteArray := method_37_code
def yL_house : MethodName := ⟨RL, "house", "(LSpanbooker;ILSpanbookerLaw$Out;)I"⟩
abbrev cL_law : ByteArray := code
def yL_law : MethodName := ⟨RL, "law", "([I)Z"⟩
abbrev vwCl : List vw_C := [(RJ0, TJ0, 4), (RJ4, TJ4, 4), (RX0, TX0, 4), (RX1, TX1, 10), (RX2, TX2, 2), (RX3, TX3, 14)]
def kPV : List Cond := [.selects "java/lang/StringBuilder" yJ5_ensureCapacityInternal_d00df yJ5_ensureCapacityInternal_d00df, .selects "java/lang/StringBuilder" yJ5_newCapacity_0f7a4 yJ5_newCapacity_0f7a4, .selects "java/lang/StringBuilder" yJ5_putStringAt_47b60 yJ5_putStringAt_47b60, .selects "java/lang/StringBuilder" yJ5_inflateIfNeededFor_a7421 yJ5_inflateIfNeededFor_a7421]
def kBIG : List Cond := lw_tbl.filter goodWord ++ kPV
theorem kb_in {w : Cond} (i : Nat) (h : lw_tbl[i]? = some w ∧ goodWord w = true) : w ∈ kBIG := List.mem_append_left _ (List.mem_filter.mpr ⟨List.mem_of_getElem? h.1, h.2⟩)
theorem kb_pv {w : Cond} (i : Nat) (h : kPV[i]? = some w) : w ∈ kBIG := List.mem_append_right _ (List.mem_of_getElem? h)
theorem kBIG_good {w : Cond} (h : w ∈ kBIG) : goodWord w = true := by
  rcases List.mem_append.mp h with h | h
  · exact (List.mem_filter.mp h).2
  · have h0 : ∀ w ∈ kPV, goodWord w = true := by decide +kernel
    exact h0 w h
abbrev kWs (y : MethodName) (cc : ByteArray) (n : Nat) (r : Option FieldType) : List Cond := Cond.code y cc n r :: kBIG
end
-- 02z.dec.lean.txt
section
/-! decode rows, many at once: the bytes are read once, by a table of the opcodes that stand here -/
theorem rd_bind {α β : Type} (r : Jvm.ClassFile.Decoder α) (f : α → Jvm.ClassFile.Decoder β) (d : ByteArray) (k : Nat) : (r >>= f) d k = (match r d k with | .error z => .error z | .ok x => f x.1 d x.2) := by
  have e : (r >>= f) d k = Except.bind (r d k) (fun x => f x.1 d x.2) := rfl
  rw [e]
  cases r d k <;> rfl
theorem rd_u1 (d : ByteArray) (k : Nat) : (Jvm.ClassFile.Reader.u1 : Jvm.ClassFile.Decoder Nat) d k = if h : k < d.size then .ok (d[k].toNat, k + 1) else .error (.truncated k) := by
  by_cases h : k < d.size
  · rw [dif_pos h]
    show (if h : k < d.size then _ else _ : Jvm.ClassFile.Decoder Nat) d k = _
    rw [dif_pos h]; rfl
  · rw [dif_neg h]
    show (if h : k < d.size then _ else _ : Jvm.ClassFile.Decoder Nat) d k = _
    rw [dif_neg h]; rfl
def kAt (c : ByteArray) (p v : Nat) : Prop := ∃ b : UInt8, c.data.toList[p]? = some b ∧ b.toNat = v
theorem rd_at {c : ByteArray} {p v : Nat} (h : kAt c p v) : (Jvm.ClassFile.Reader.u1 : Jvm.ClassFile.Decoder Nat) c p = .ok (v, p + 1) := by
  obtain ⟨b, h1, h2⟩ := h
  obtain ⟨h3, h4⟩ := List.getElem?_eq_some_iff.mp h1
  have h5 : p < c.size := by
    rw [Array.length_toList] at h3; exact h3
  have h6 : c[p] = b := by
    show c.data[p] = b
    rw [← h4, Array.getElem_toList]
  rw [rd_u1, dif_pos h5, h6, h2]
theorem rd_u2 {c : ByteArray} {p x y : Nat} (h : kAt c p x) (g : kAt c (p + 1) y) : (Jvm.ClassFile.Reader.u2 : Jvm.ClassFile.Decoder Nat) c p = .ok (x * 256 + y, p + 2) := by
  have e : (Jvm.ClassFile.Reader.u2 : Jvm.ClassFile.Decoder Nat) = Jvm.ClassFile.Reader.u1 >>= fun hi => Jvm.ClassFile.Reader.u1 >>= fun lo => Pure.pure (hi * 256 + lo) := rfl
  rw [e, rd_bind, rd_at h]
  show (Jvm.ClassFile.Reader.u1 >>= fun lo => Pure.pure (x * 256 + lo) : Jvm.ClassFile.Decoder Nat) c (p + 1) = _
  rw [rd_bind, rd_at g]
  rfl
theorem rd_map {α β : Type} (f : α → β) (r : Jvm.ClassFile.Decoder α) (d : ByteArray) (k : Nat) : (f <$> r) d k = (match r d k with | .error z => .error z | .ok x => .ok (f x.1, x.2)) := by
  have e1 : (f <$> r) d k = Except.bind (r d k) (fun x => .ok (f x.1, x.2)) := rfl
  rw [e1]
  cases r d k <;> rfl
theorem rd_s1 {c : ByteArray} {p x : Nat} (h : kAt c p x) : (Jvm.ClassFile.Reader.s1 : Jvm.ClassFile.Decoder Int) c p = .ok (Jvm.ClassFile.Reader.signed 8 x, p + 1) := by
  have e : (Jvm.ClassFile.Reader.s1 : Jvm.ClassFile.Decoder Int) = Jvm.ClassFile.Reader.signed 8 <$> Jvm.ClassFile.Reader.u1 := rfl
  rw [e, rd_map, rd_at h]
theorem rd_s2 {c : ByteArray} {p x y : Nat} (h : kAt c p x) (g : kAt c (p + 1) y) : (Jvm.ClassFile.Reader.s2 : Jvm.ClassFile.Decoder Int) c p = .ok (Jvm.ClassFile.Reader.signed 16 (x * 256 + y), p + 2) := by
  have e : (Jvm.ClassFile.Reader.s2 : Jvm.ClassFile.Decoder Int) = Jvm.ClassFile.Reader.signed 16 <$> Jvm.ClassFile.Reader.u2 := rfl
  rw [e, rd_map, rd_u2 h g]
theorem kx_run {c : ByteArray} {p q : Nat} {i : Instr} (h : Jvm.ClassFile.Decoder.instr p c p = .ok (i, p + q)) : decode c p = .ok (i, q) := by
  unfold decode Jvm.ClassFile.Reader.runAt
  show Except.bind (Jvm.ClassFile.Decoder.instr p c p) _ = _
  rw [h]
  show Except.ok (i, p + q - p) = _
  rw [Nat.add_sub_cancel_left]
/-- an opcode, how long its instruction is, and the instruction by the two bytes behind it: so it is read -/
def kOkE (e : Nat × Nat × (Nat → Nat → Instr)) : Prop := ∀ (c : ByteArray) (p x y : Nat), kAt c p e.1 → (2 ≤ e.2.1 → kAt c (p + 1) x) → (3 ≤ e.2.1 → kAt c (p + 2) y) → decode c p = .ok (e.2.2 x y, e.2.1)
abbrev kGo1 (b : Nat) (r : Jvm.ClassFile.Decoder Instr) : Prop := ∀ p : Nat, ∃ K : Nat → Jvm.ClassFile.Decoder Instr, Jvm.ClassFile.Decoder.instr p = Jvm.ClassFile.Reader.u1 >>= K ∧ K b = r
theorem kx_0 {b : Nat} {i : Instr} (h : kGo1 b (Pure.pure i)) : kOkE (b, 1, fun _ _ => i) := by
  intro c p x y h0 _ _
  obtain ⟨K, e, hb⟩ := h p
  refine kx_run ?_
  have h0' : kAt c p b := h0
  rw [e, rd_bind, rd_at h0']
  show K b c (p + 1) = _
  rw [hb] <;> rfl
theorem kx_u1 {b : Nat} {f : Nat → Instr} (h : kGo1 b (Jvm.ClassFile.Reader.u1 >>= fun x => Pure.pure (f x))) : kOkE (b, 2, fun x _ => f x) := by
  intro c p x y h0 h1 _
  obtain ⟨K, e, hb⟩ := h p
  refine kx_run ?_
  have h0' : kAt c p b := h0
  rw [e, rd_bind, rd_at h0']
  show K b c (p + 1) = _
  rw [hb, rd_bind, rd_at (h1 (Nat.le_refl 2))] <;> rfl
theorem kx_s1 {b : Nat} {f : Int → Instr} (h : kGo1 b (Jvm.ClassFile.Reader.s1 >>= fun x => Pure.pure (f x))) : kOkE (b, 2, fun x _ => f (Jvm.ClassFile.Reader.signed 8 x)) := by
  intro c p x y h0 h1 _
  obtain ⟨K, e, hb⟩ := h p
  refine kx_run ?_
  have h0' : kAt c p b := h0
  rw [e, rd_bind, rd_at h0']
  show K b c (p + 1) = _
  rw [hb, rd_bind, rd_s1 (h1 (Nat.le_refl 2))] <;> rfl
theorem kx_u2 {b : Nat} {f : Nat → Instr} (h : kGo1 b (Jvm.ClassFile.Reader.u2 >>= fun x => Pure.pure (f x))) : kOkE (b, 3, fun x y => f (x * 256 + y)) := by
  intro c p x y h0 h1 h2
  obtain ⟨K, e, hb⟩ := h p
  refine kx_run ?_
  have h0' : kAt c p b := h0
  rw [e, rd_bind, rd_at h0']
  show K b c (p + 1) = _
  rw [hb, rd_bind, rd_u2 (h1 (Nat.le_succ 2)) (h2 (Nat.le_refl 3))] <;> rfl
theorem kx_s2 {b : Nat} {f : Int → Instr} (h : kGo1 b (Jvm.ClassFile.Reader.s2 >>= fun x => Pure.pure (f x))) : kOkE (b, 3, fun x y => f (Jvm.ClassFile.Reader.signed 16 (x * 256 + y))) := by
  intro c p x y h0 h1 h2
  obtain ⟨K, e, hb⟩ := h p
  refine kx_run ?_
  have h0' : kAt c p b := h0
  rw [e, rd_bind, rd_at h0']
  show K b c (p + 1) = _
  rw [hb, rd_bind, rd_s2 (h1 (Nat.le_succ 2)) (h2 (Nat.le_refl 3))] <;> rfl
theorem kx_us {b : Nat} {f : Nat → Int → Instr} (h : kGo1 b (Jvm.ClassFile.Reader.u1 >>= fun x => Jvm.ClassFile.Reader.s1 >>= fun y => Pure.pure (f x y))) : kOkE (b, 3, fun x y => f x (Jvm.ClassFile.Reader.signed 8 y)) := by
  intro c p x y h0 h1 h2
  obtain ⟨K, e, hb⟩ := h p
  refine kx_run ?_
  have h0' : kAt c p b := h0
  rw [e, rd_bind, rd_at h0']
  show K b c (p + 1) = _
  rw [hb, rd_bind, rd_at (h1 (Nat.le_succ 2))]
  show (Jvm.ClassFile.Reader.s1 >>= fun y => Pure.pure (f x y) : Jvm.ClassFile.Decoder Instr) c (p + 2) = _
  rw [rd_bind, rd_s1 (h2 (Nat.le_refl 3))] <;> rfl
def kFind (b : Nat) : List (Nat × Nat × (Nat → Nat → Instr)) → Option (Nat × (Nat → Nat → Instr))
  | [] => none
  | e :: T => bif Nat.beq b e.1 then some e.2 else kFind b T
theorem kFind_ok {b : Nat} {T : List (Nat × Nat × (Nat → Nat → Instr))} {r : Nat × (Nat → Nat → Instr)} (h : kFind b T = some r) : (b, r) ∈ T := by
  induction T with
  | nil => cases h
  | cons e T ih =>
    rw [kFind] at h
    cases hb : Nat.beq b e.1 with
    | true =>
      rw [hb] at h
      have h1 : e.2 = r := Option.some.inj h
      have h2 : b = e.1 := Nat.eq_of_beq_eq_true hb
      rw [← h1, h2]
      exact List.mem_cons_self
    | false =>
      rw [hb] at h
      exact List.mem_cons_of_mem _ (ih h)
def kHd : List UInt8 → Nat
  | [] => 0
  | b :: _ => b.toNat
def kHas (n : Nat) : List UInt8 → Bool
  | [] => Nat.ble n 1
  | _ :: [] => Nat.ble n 2
  | _ :: _ :: _ => Nat.ble n 3
def kOne (T : List (Nat × Nat × (Nat → Nat → Instr))) (b : UInt8) (t : List UInt8) (i : Instr) (n : Nat) : Bool := match kFind b.toNat T with
  | none => false
  | some e => Nat.beq e.1 n && (kHas n t && decide (e.2 (kHd t) (kHd t.tail) = i))
def kRun (T : List (Nat × Nat × (Nat → Nat → Instr))) : List UInt8 → Nat → List (Nat × Instr × Nat) → Bool
  | _, _, [] => true
  | bs, a, q :: L => match bs.drop (q.1 - a) with
    | [] => false
    | b :: t => Nat.ble a q.1 && (kOne T b t q.2.1 q.2.2 && kRun T (b :: t) q.1 L)
theorem kAt_of {c : ByteArray} {p k : Nat} {bs : List UInt8} {b : UInt8} (h : c.data.toList.drop p = bs) (g : bs[k]? = some b) : kAt c (p + k) b.toNat := by
  refine ⟨b, ?_, rfl⟩
  rw [← h, List.getElem?_drop] at g
  exact g
theorem kOne_ok {T : List (Nat × Nat × (Nat → Nat → Instr))} (hT : ∀ e ∈ T, kOkE e) {c : ByteArray} {p n : Nat} {b : UInt8} {t : List UInt8} {i : Instr} (hd : c.data.toList.drop p = b :: t) (h : kOne T b t i n = true) : decode c p = .ok (i, n) := by
  unfold kOne at h
  cases hf : kFind b.toNat T with
  | none => rw [hf] at h; cases h
  | some e =>
    rw [hf] at h
    have h' : (Nat.beq e.1 n && (kHas n t && decide (e.2 (kHd t) (kHd t.tail) = i))) = true := h
    rw [Bool.and_eq_true, Bool.and_eq_true, decide_eq_true_iff] at h'
    obtain ⟨h1, h2, h3⟩ := h'
    have h4 : e.1 = n := Nat.eq_of_beq_eq_true h1
    have hE := hT _ (kFind_ok hf)
    subst h3
    subst h4
    refine hE c p _ _ (kAt_of (k := 0) hd rfl) (fun g2 => ?_) (fun g3 => ?_)
    · cases t with
      | nil =>
        have k1 : e.1 ≤ 1 := Nat.le_of_ble_eq_true h2
        have k2 : 2 ≤ e.1 := g2
        omega
      | cons x t => exact kAt_of (k := 1) hd rfl
    · have k3 : 3 ≤ e.1 := g3
      cases t with
      | nil =>
        have k1 : e.1 ≤ 1 := Nat.le_of_ble_eq_true h2
        omega
      | cons x t =>
        cases t with
        | nil =>
          have k1 : e.1 ≤ 2 := Nat.le_of_ble_eq_true h2
          omega
        | cons y t => exact kAt_of (k := 2) hd rfl
theorem kRun_ok {T : List (Nat × Nat × (Nat → Nat → Instr))} (hT : ∀ e ∈ T, kOkE e) {c : ByteArray} : ∀ {L : List (Nat × Instr × Nat)} {bs : List UInt8} {a : Nat}, c.data.toList.drop a = bs → kRun T bs a L = true → ∀ (k : Nat) {p : Nat} {i : Instr} {n : Nat}, L[k]? = some (p, i, n) → decode c p = .ok (i, n) := by
  intro L
  induction L with
  | nil => intro bs a _ _ k p i n e; cases e
  | cons q L ih =>
    intro bs a hb h k p i n e
    rw [kRun] at h
    cases hd : bs.drop (q.1 - a) with
    | nil => rw [hd] at h; cases h
    | cons b t =>
      rw [hd] at h
      have h' : (Nat.ble a q.1 && (kOne T b t q.2.1 q.2.2 && kRun T (b :: t) q.1 L)) = true := h
      rw [Bool.and_eq_true, Bool.and_eq_true] at h'
      obtain ⟨h1, h2, h3⟩ := h'
      have h4 : a ≤ q.1 := Nat.le_of_ble_eq_true h1
      have h5 : c.data.toList.drop q.1 = b :: t := by
        rw [← hd, ← hb, List.drop_drop, Nat.add_sub_cancel' h4]
      cases k with
      | zero =>
        have e' : q = (p, i, n) := Option.some.inj e
        subst e'
        exact kOne_ok hT h5 h2
      | succ k => exact ih h5 h3 k e
abbrev iq42 : Instr := .aload_n 0
abbrev iq180 (x : Nat) : Instr := .getfield x
abbrev iq182 (x : Nat) : Instr := .invokevirtual x
abbrev iq27 : Instr := .iload_n 1
abbrev iq167 (x : Int) : Instr := .goto x
abbrev iq3 : Instr := .iconst 0
abbrev iq172 : Instr := .ireturn
abbrev iq184 (x : Nat) : Instr := .invokestatic x
abbrev iq21 (x : Nat) : Instr := .iload x
abbrev iq4 : Instr := .iconst 1
abbrev iq28 : Instr := .iload_n 2
abbrev iq47 : Instr := .laload
abbrev iq96 : Instr := .iadd
abbrev iq29 : Instr := .iload_n 3
abbrev iq46 : Instr := .iaload
abbrev iq153 (x : Int) : Instr := .ifCond .eq x
abbrev iq54 (x : Nat) : Instr := .istore x
abbrev iq181 (x : Nat) : Instr := .putfield x
abbrev iq162 (x : Int) : Instr := .if_icmp .ge x
abbrev iq132 (x : Nat) (y : Int) : Instr := .iinc x y
abbrev iq5 : Instr := .iconst 2
abbrev iq148 : Instr := .lcmp
abbrev iq44 : Instr := .aload_n 2
abbrev iq154 (x : Int) : Instr := .ifCond .ne x
abbrev iq43 : Instr := .aload_n 1
abbrev iq31 : Instr := .lload_n 1
abbrev iq33 : Instr := .lload_n 3
abbrev iq22 (x : Nat) : Instr := .lload x
abbrev iq97 : Instr := .ladd
abbrev iq133 : Instr := .i2l
abbrev iq45 : Instr := .aload_n 3
abbrev iq156 (x : Int) : Instr := .ifCond .ge x
abbrev iq20 (x : Nat) : Instr := .ldc2_w x
abbrev iq62 : Instr := .istore_n 3
abbrev iq26 : Instr := .iload_n 0
abbrev iq16 (x : Int) : Instr := .bipush x
abbrev iq61 : Instr := .istore_n 2
abbrev iq2 : Instr := .iconst (-1)
abbrev iq80 : Instr := .lastore
abbrev iq155 (x : Int) : Instr := .ifCond .lt x
abbrev iq89 : Instr := .dup
abbrev iq58 (x : Nat) : Instr := .astore x
abbrev iq60 : Instr := .istore_n 1
abbrev iq87 : Instr := .pop
abbrev iq66 : Instr := .lstore_n 3
abbrev iq105 : Instr := .lmul
abbrev iq55 (x : Nat) : Instr := .lstore x
abbrev iq64 : Instr := .lstore_n 1
abbrev iq30 : Instr := .lload_n 0
abbrev iq183 (x : Nat) : Instr := .invokespecial x
abbrev iq173 : Instr := .lreturn
abbrev iq7 : Instr := .iconst 4
abbrev iq160 (x : Int) : Instr := .if_icmp .ne x
abbrev iq6 : Instr := .iconst 3
abbrev iq177 : Instr := .return_
abbrev iq9 : Instr := .lconst 0
abbrev iq18 (x : Nat) : Instr := .ldc x
abbrev iq176 : Instr := .areturn
abbrev iq78 : Instr := .astore_n 3
abbrev iq32 : Instr := .lload_n 2
abbrev iq100 : Instr := .isub
abbrev iq101 : Instr := .lsub
abbrev iq104 : Instr := .imul
abbrev iq187 (x : Nat) : Instr := .new x
abbrev iq126 : Instr := .iand
abbrev iq159 (x : Int) : Instr := .if_icmp .eq x
abbrev iq190 : Instr := .arraylength
abbrev iq164 (x : Int) : Instr := .if_icmp .le x
abbrev iq10 : Instr := .lconst 1
abbrev iq120 : Instr := .ishl
abbrev iq158 (x : Int) : Instr := .ifCond .le x
abbrev iq25 (x : Nat) : Instr := .aload x
abbrev iq51 : Instr := .baload
abbrev iq84 : Instr := .bastore
abbrev iq163 (x : Int) : Instr := .if_icmp .gt x
abbrev iq122 : Instr := .ishr
abbrev iq161 (x : Int) : Instr := .if_icmp .lt x
abbrev iq178 (x : Nat) : Instr := .getstatic x
abbrev iq19 (x : Nat) : Instr := .ldc_w x
abbrev iq59 : Instr := .istore_n 0
abbrev iq157 (x : Int) : Instr := .ifCond .gt x
abbrev iq124 : Instr := .iushr
abbrev iq191 : Instr := .athrow
abbrev iq77 : Instr := .astore_n 2
abbrev iq76 : Instr := .astore_n 1
abbrev iq92 : Instr := .dup2
abbrev iq136 : Instr := .l2i
abbrev iq128 : Instr := .ior
abbrev iq79 : Instr := .iastore
abbrev iq116 : Instr := .ineg
abbrev iq109 : Instr := .ldiv
abbrev iq8 : Instr := .iconst 5
abbrev iq131 : Instr := .lxor
abbrev iq192 (x : Nat) : Instr := .checkcast x
abbrev iq108 : Instr := .idiv
abbrev iq90 : Instr := .dup_x1
abbrev iq117 : Instr := .lneg
abbrev iq65 : Instr := .lstore_n 2
abbrev iq113 : Instr := .lrem
abbrev iq17 (x : Int) : Instr := .sipush x
abbrev iq145 : Instr := .i2b
abbrev iq1 : Instr := .aconst_null
abbrev iq199 (x : Int) : Instr := .ifnonnull x
abbrev iq112 : Instr := .irem
abbrev iqr1 (p : Nat) (i : Instr) (L : List (Nat × Instr × Nat)) : List (Nat × Instr × Nat) := (p, i, 1) :: L
abbrev iqr2 (p : Nat) (i : Instr) (L : List (Nat × Instr × Nat)) : List (Nat × Instr × Nat) := (p, i, 2) :: L
abbrev iqr3 (p : Nat) (i : Instr) (L : List (Nat × Instr × Nat)) : List (Nat × Instr × Nat) := (p, i, 3) :: L
abbrev iqE : List (Nat × Instr × Nat) := []
abbrev iqC (L : List (Nat × Instr × Nat)) (M : List (List (Nat × Instr × Nat))) : List (List (Nat × Instr × Nat)) := L :: M
abbrev iqN : List (List (Nat × Instr × Nat)) := []
theorem ko_42 : kOkE (42, 1, fun _ _ => .aload_n 0) := kx_0 (fun _ => ⟨_, rfl, rfl⟩)
theorem ko_180 : kOkE (180, 3, fun x y => .getfield (x * 256 + y)) := kx_u2 (f := fun x => .getfield x) (fun _ => ⟨_, rfl, rfl⟩)
theorem ko_182 : kOkE (182, 3, fun x y => .invokevirtual (x * 256 + y)) := kx_u2 (f := fun x => .invokevirtual x) (fun _ => ⟨_, rfl, rfl⟩)
theorem ko_27 : kOkE (27, 1, fun _ _ => .iload_n 1) := kx_0 (fun _ => ⟨_, rfl, rfl⟩)
theorem ko_167 : kOkE (167, 3, fun x y => .goto (Jvm.ClassFile.Reader.signed 16 (x * 256 + y))) := kx_s2 (f := fun x => .goto x) (fun _ => ⟨_, rfl, rfl⟩)
theorem ko_3 : kOkE (3, 1, fun _ _ => .iconst 0) := kx_0 (fun _ => ⟨_, rfl, rfl⟩)
theorem ko_172 : kOkE (172, 1, fun _ _ => .ireturn) := kx_0 (fun _ => ⟨_, rfl, rfl⟩)
theorem ko_184 : kOkE (184, 3, fun x y => .invokestatic (x * 256 + y)) := kx_u2 (f := fun x => .invokestatic x) (fun _ => ⟨_, rfl, rfl⟩)
theorem ko_21 : kOkE (21, 2, fun x _ => .iload x) := kx_u1 (f := fun x => .iload x) (fun _ => ⟨_, rfl, rfl⟩)
theorem ko_4 : kOkE (4, 1, fun _ _ => .iconst 1) := kx_0 (fun _ => ⟨_, rfl, rfl⟩)
theorem ko_28 : kOkE (28, 1, fun _ _ => .iload_n 2) := kx_0 (fun _ => ⟨_, rfl, rfl⟩)
theorem ko_47 : kOkE (47, 1, fun _ _ => .laload) := kx_0 (fun _ => ⟨_, rfl, rfl⟩)
theorem ko_96 : kOkE (96, 1, fun _ _ => .iadd) := kx_0 (fun _ => ⟨_, rfl, rfl⟩)
theorem ko_29 : kOkE (29, 1, fun _ _ => .iload_n 3) := kx_0 (fun _ => ⟨_, rfl, rfl⟩)
theorem ko_46 : kOkE (46, 1, fun _ _ => .iaload) := kx_0 (fun _ => ⟨_, rfl, rfl⟩)
theorem ko_153 : kOkE (153, 3, fun x y => .ifCond .eq (Jvm.ClassFile.Reader.signed 16 (x * 256 + y))) := kx_s2 (f := fun x => .ifCond .eq x) (fun _ => ⟨_, rfl, rfl⟩)
theorem ko_54 : kOkE (54, 2, fun x _ => .istore x) := kx_u1 (f := fun x => .istore x) (fun _ => ⟨_, rfl, rfl⟩)
theorem ko_181 : kOkE (181, 3, fun x y => .putfield (x * 256 + y)) := kx_u2 (f := fun x => .putfield x) (fun _ => ⟨_, rfl, rfl⟩)
theorem ko_162 : kOkE (162, 3, fun x y => .if_icmp .ge (Jvm.ClassFile.Reader.signed 16 (x * 256 + y))) := kx_s2 (f := fun x => .if_icmp .ge x) (fun _ => ⟨_, rfl, rfl⟩)
theorem ko_132 : kOkE (132, 3, fun x y => .iinc x (Jvm.ClassFile.Reader.signed 8 y)) := kx_us (f := fun x y => .iinc x y) (fun _ => ⟨_, rfl, rfl⟩)
theorem ko_5 : kOkE (5, 1, fun _ _ => .iconst 2) := kx_0 (fun _ => ⟨_, rfl, rfl⟩)
theorem ko_148 : kOkE (148, 1, fun _ _ => .lcmp) := kx_0 (fun _ => ⟨_, rfl, rfl⟩)
theorem ko_44 : kOkE (44, 1, fun _ _ => .aload_n 2) := kx_0 (fun _ => ⟨_, rfl, rfl⟩)
theorem ko_154 : kOkE (154, 3, fun x y => .ifCond .ne (Jvm.ClassFile.Reader.signed 16 (x * 256 + y))) := kx_s2 (f := fun x => .ifCond .ne x) (fun _ => ⟨_, rfl, rfl⟩)
theorem ko_43 : kOkE (43, 1, fun _ _ => .aload_n 1) := kx_0 (fun _ => ⟨_, rfl, rfl⟩)
theorem ko_31 : kOkE (31, 1, fun _ _ => .lload_n 1) := kx_0 (fun _ => ⟨_, rfl, rfl⟩)
theorem ko_33 : kOkE (33, 1, fun _ _ => .lload_n 3) := kx_0 (fun _ => ⟨_, rfl, rfl⟩)
theorem ko_22 : kOkE (22, 2, fun x _ => .lload x) := kx_u1 (f := fun x => .lload x) (fun _ => ⟨_, rfl, rfl⟩)
theorem ko_97 : kOkE (97, 1, fun _ _ => .ladd) := kx_0 (fun _ => ⟨_, rfl, rfl⟩)
theorem ko_133 : kOkE (133, 1, fun _ _ => .i2l) := kx_0 (fun _ => ⟨_, rfl, rfl⟩)
theorem ko_45 : kOkE (45, 1, fun _ _ => .aload_n 3) := kx_0 (fun _ => ⟨_, rfl, rfl⟩)
theorem ko_156 : kOkE (156, 3, fun x y => .ifCond .ge (Jvm.ClassFile.Reader.signed 16 (x * 256 + y))) := kx_s2 (f := fun x => .ifCond .ge x) (fun _ => ⟨_, rfl, rfl⟩)
theorem ko_20 : kOkE (20, 3, fun x y => .ldc2_w (x * 256 + y)) := kx_u2 (f := fun x => .ldc2_w x) (fun _ => ⟨_, rfl, rfl⟩)
theorem ko_62 : kOkE (62, 1, fun _ _ => .istore_n 3) := kx_0 (fun _ => ⟨_, rfl, rfl⟩)
theorem ko_26 : kOkE (26, 1, fun _ _ => .iload_n 0) := kx_0 (fun _ => ⟨_, rfl, rfl⟩)
theorem ko_16 : kOkE (16, 2, fun x _ => .bipush (Jvm.ClassFile.Reader.signed 8 x)) := kx_s1 (f := fun x => .bipush x) (fun _ => ⟨_, rfl, rfl⟩)
theorem ko_61 : kOkE (61, 1, fun _ _ => .istore_n 2) := kx_0 (fun _ => ⟨_, rfl, rfl⟩)
theorem ko_2 : kOkE (2, 1, fun _ _ => .iconst (-1)) := kx_0 (fun _ => ⟨_, rfl, rfl⟩)
theorem ko_80 : kOkE (80, 1, fun _ _ => .lastore) := kx_0 (fun _ => ⟨_, rfl, rfl⟩)
theorem ko_155 : kOkE (155, 3, fun x y => .ifCond .lt (Jvm.ClassFile.Reader.signed 16 (x * 256 + y))) := kx_s2 (f := fun x => .ifCond .lt x) (fun _ => ⟨_, rfl, rfl⟩)
theorem ko_89 : kOkE (89, 1, fun _ _ => .dup) := kx_0 (fun _ => ⟨_, rfl, rfl⟩)
theorem ko_58 : kOkE (58, 2, fun x _ => .astore x) := kx_u1 (f := fun x => .astore x) (fun _ => ⟨_, rfl, rfl⟩)
theorem ko_60 : kOkE (60, 1, fun _ _ => .istore_n 1) := kx_0 (fun _ => ⟨_, rfl, rfl⟩)
theorem ko_87 : kOkE (87, 1, fun _ _ => .pop) := kx_0 (fun _ => ⟨_, rfl, rfl⟩)
theorem ko_66 : kOkE (66, 1, fun _ _ => .lstore_n 3) := kx_0 (fun _ => ⟨_, rfl, rfl⟩)
theorem ko_105 : kOkE (105, 1, fun _ _ => .lmul) := kx_0 (fun _ => ⟨_, rfl, rfl⟩)
theorem ko_55 : kOkE (55, 2, fun x _ => .lstore x) := kx_u1 (f := fun x => .lstore x) (fun _ => ⟨_, rfl, rfl⟩)
theorem ko_64 : kOkE (64, 1, fun _ _ => .lstore_n 1) := kx_0 (fun _ => ⟨_, rfl, rfl⟩)
theorem ko_30 : kOkE (30, 1, fun _ _ => .lload_n 0) := kx_0 (fun _ => ⟨_, rfl, rfl⟩)
theorem ko_183 : kOkE (183, 3, fun x y => .invokespecial (x * 256 + y)) := kx_u2 (f := fun x => .invokespecial x) (fun _ => ⟨_, rfl, rfl⟩)
theorem ko_173 : kOkE (173, 1, fun _ _ => .lreturn) := kx_0 (fun _ => ⟨_, rfl, rfl⟩)
theorem ko_7 : kOkE (7, 1, fun _ _ => .iconst 4) := kx_0 (fun _ => ⟨_, rfl, rfl⟩)
theorem ko_160 : kOkE (160, 3, fun x y => .if_icmp .ne (Jvm.ClassFile.Reader.signed 16 (x * 256 + y))) := kx_s2 (f := fun x => .if_icmp .ne x) (fun _ => ⟨_, rfl, rfl⟩)
theorem ko_6 : kOkE (6, 1, fun _ _ => .iconst 3) := kx_0 (fun _ => ⟨_, rfl, rfl⟩)
theorem ko_177 : kOkE (177, 1, fun _ _ => .return_) := kx_0 (fun _ => ⟨_, rfl, rfl⟩)
theorem ko_9 : kOkE (9, 1, fun _ _ => .lconst 0) := kx_0 (fun _ => ⟨_, rfl, rfl⟩)
theorem ko_18 : kOkE (18, 2, fun x _ => .ldc x) := kx_u1 (f := fun x => .ldc x) (fun _ => ⟨_, rfl, rfl⟩)
theorem ko_176 : kOkE (176, 1, fun _ _ => .areturn) := kx_0 (fun _ => ⟨_, rfl, rfl⟩)
theorem ko_78 : kOkE (78, 1, fun _ _ => .astore_n 3) := kx_0 (fun _ => ⟨_, rfl, rfl⟩)
theorem ko_32 : kOkE (32, 1, fun _ _ => .lload_n 2) := kx_0 (fun _ => ⟨_, rfl, rfl⟩)
theorem ko_100 : kOkE (100, 1, fun _ _ => .isub) := kx_0 (fun _ => ⟨_, rfl, rfl⟩)
theorem ko_101 : kOkE (101, 1, fun _ _ => .lsub) := kx_0 (fun _ => ⟨_, rfl, rfl⟩)
theorem ko_104 : kOkE (104, 1, fun _ _ => .imul) := kx_0 (fun _ => ⟨_, rfl, rfl⟩)
theorem ko_187 : kOkE (187, 3, fun x y => .new (x * 256 + y)) := kx_u2 (f := fun x => .new x) (fun _ => ⟨_, rfl, rfl⟩)
theorem ko_126 : kOkE (126, 1, fun _ _ => .iand) := kx_0 (fun _ => ⟨_, rfl, rfl⟩)
theorem ko_159 : kOkE (159, 3, fun x y => .if_icmp .eq (Jvm.ClassFile.Reader.signed 16 (x * 256 + y))) := kx_s2 (f := fun x => .if_icmp .eq x) (fun _ => ⟨_, rfl, rfl⟩)
theorem ko_190 : kOkE (190, 1, fun _ _ => .arraylength) := kx_0 (fun _ => ⟨_, rfl, rfl⟩)
theorem ko_164 : kOkE (164, 3, fun x y => .if_icmp .le (Jvm.ClassFile.Reader.signed 16 (x * 256 + y))) := kx_s2 (f := fun x => .if_icmp .le x) (fun _ => ⟨_, rfl, rfl⟩)
theorem ko_10 : kOkE (10, 1, fun _ _ => .lconst 1) := kx_0 (fun _ => ⟨_, rfl, rfl⟩)
theorem ko_120 : kOkE (120, 1, fun _ _ => .ishl) := kx_0 (fun _ => ⟨_, rfl, rfl⟩)
theorem ko_158 : kOkE (158, 3, fun x y => .ifCond .le (Jvm.ClassFile.Reader.signed 16 (x * 256 + y))) := kx_s2 (f := fun x => .ifCond .le x) (fun _ => ⟨_, rfl, rfl⟩)
theorem ko_25 : kOkE (25, 2, fun x _ => .aload x) := kx_u1 (f := fun x => .aload x) (fun _ => ⟨_, rfl, rfl⟩)
theorem ko_51 : kOkE (51, 1, fun _ _ => .baload) := kx_0 (fun _ => ⟨_, rfl, rfl⟩)
theorem ko_84 : kOkE (84, 1, fun _ _ => .bastore) := kx_0 (fun _ => ⟨_, rfl, rfl⟩)
theorem ko_163 : kOkE (163, 3, fun x y => .if_icmp .gt (Jvm.ClassFile.Reader.signed 16 (x * 256 + y))) := kx_s2 (f := fun x => .if_icmp .gt x) (fun _ => ⟨_, rfl, rfl⟩)
theorem ko_122 : kOkE (122, 1, fun _ _ => .ishr) := kx_0 (fun _ => ⟨_, rfl, rfl⟩)
theorem ko_161 : kOkE (161, 3, fun x y => .if_icmp .lt (Jvm.ClassFile.Reader.signed 16 (x * 256 + y))) := kx_s2 (f := fun x => .if_icmp .lt x) (fun _ => ⟨_, rfl, rfl⟩)
theorem ko_178 : kOkE (178, 3, fun x y => .getstatic (x * 256 + y)) := kx_u2 (f := fun x => .getstatic x) (fun _ => ⟨_, rfl, rfl⟩)
theorem ko_19 : kOkE (19, 3, fun x y => .ldc_w (x * 256 + y)) := kx_u2 (f := fun x => .ldc_w x) (fun _ => ⟨_, rfl, rfl⟩)
theorem ko_59 : kOkE (59, 1, fun _ _ => .istore_n 0) := kx_0 (fun _ => ⟨_, rfl, rfl⟩)
theorem ko_157 : kOkE (157, 3, fun x y => .ifCond .gt (Jvm.ClassFile.Reader.signed 16 (x * 256 + y))) := kx_s2 (f := fun x => .ifCond .gt x) (fun _ => ⟨_, rfl, rfl⟩)
theorem ko_124 : kOkE (124, 1, fun _ _ => .iushr) := kx_0 (fun _ => ⟨_, rfl, rfl⟩)
theorem ko_191 : kOkE (191, 1, fun _ _ => .athrow) := kx_0 (fun _ => ⟨_, rfl, rfl⟩)
theorem ko_77 : kOkE (77, 1, fun _ _ => .astore_n 2) := kx_0 (fun _ => ⟨_, rfl, rfl⟩)
theorem ko_76 : kOkE (76, 1, fun _ _ => .astore_n 1) := kx_0 (fun _ => ⟨_, rfl, rfl⟩)
theorem ko_92 : kOkE (92, 1, fun _ _ => .dup2) := kx_0 (fun _ => ⟨_, rfl, rfl⟩)
theorem ko_136 : kOkE (136, 1, fun _ _ => .l2i) := kx_0 (fun _ => ⟨_, rfl, rfl⟩)
theorem ko_128 : kOkE (128, 1, fun _ _ => .ior) := kx_0 (fun _ => ⟨_, rfl, rfl⟩)
theorem ko_79 : kOkE (79, 1, fun _ _ => .iastore) := kx_0 (fun _ => ⟨_, rfl, rfl⟩)
theorem ko_116 : kOkE (116, 1, fun _ _ => .ineg) := kx_0 (fun _ => ⟨_, rfl, rfl⟩)
theorem ko_109 : kOkE (109, 1, fun _ _ => .ldiv) := kx_0 (fun _ => ⟨_, rfl, rfl⟩)
theorem ko_8 : kOkE (8, 1, fun _ _ => .iconst 5) := kx_0 (fun _ => ⟨_, rfl, rfl⟩)
theorem ko_131 : kOkE (131, 1, fun _ _ => .lxor) := kx_0 (fun _ => ⟨_, rfl, rfl⟩)
theorem ko_192 : kOkE (192, 3, fun x y => .checkcast (x * 256 + y)) := kx_u2 (f := fun x => .checkcast x) (fun _ => ⟨_, rfl, rfl⟩)
theorem ko_108 : kOkE (108, 1, fun _ _ => .idiv) := kx_0 (fun _ => ⟨_, rfl, rfl⟩)
theorem ko_90 : kOkE (90, 1, fun _ _ => .dup_x1) := kx_0 (fun _ => ⟨_, rfl, rfl⟩)
theorem ko_117 : kOkE (117, 1, fun _ _ => .lneg) := kx_0 (fun _ => ⟨_, rfl, rfl⟩)
theorem ko_65 : kOkE (65, 1, fun _ _ => .lstore_n 2) := kx_0 (fun _ => ⟨_, rfl, rfl⟩)
theorem ko_113 : kOkE (113, 1, fun _ _ => .lrem) := kx_0 (fun _ => ⟨_, rfl, rfl⟩)
theorem ko_17 : kOkE (17, 3, fun x y => .sipush (Jvm.ClassFile.Reader.signed 16 (x * 256 + y))) := kx_s2 (f := fun x => .sipush x) (fun _ => ⟨_, rfl, rfl⟩)
theorem ko_145 : kOkE (145, 1, fun _ _ => .i2b) := kx_0 (fun _ => ⟨_, rfl, rfl⟩)
theorem ko_1 : kOkE (1, 1, fun _ _ => .aconst_null) := kx_0 (fun _ => ⟨_, rfl, rfl⟩)
theorem ko_199 : kOkE (199, 3, fun x y => .ifnonnull (Jvm.ClassFile.Reader.signed 16 (x * 256 + y))) := kx_s2 (f := fun x => .ifnonnull x) (fun _ => ⟨_, rfl, rfl⟩)
theorem ko_112 : kOkE (112, 1, fun _ _ => .irem) := kx_0 (fun _ => ⟨_, rfl, rfl⟩)
abbrev kT : List (Nat × Nat × (Nat → Nat → Instr)) := [(42, 1, fun _ _ => .aload_n 0), (180, 3, fun x y => .getfield (x * 256 + y)), (182, 3, fun x y => .invokevirtual (x * 256 + y)), (27, 1, fun _ _ => .iload_n 1), (167, 3, fun x y => .goto (Jvm.ClassFile.Reader.signed 16 (x * 256 + y))), (3, 1, fun _ _ => .iconst 0), (172, 1, fun _ _ => .ireturn), (184, 3, fun x y => .invokestatic (x * 256 + y)), (21, 2, fun x _ => .iload x), (4, 1, fun _ _ => .iconst 1), (28, 1, fun _ _ => .iload_n 2), (47, 1, fun _ _ => .laload), (96, 1, fun _ _ => .iadd), (29, 1, fun _ _ => .iload_n 3), (46, 1, fun _ _ => .iaload), (153, 3, fun x y => .ifCond .eq (Jvm.ClassFile.Reader.signed 16 (x * 256 + y))), (54, 2, fun x _ => .istore x), (181, 3, fun x y => .putfield (x * 256 + y)), (162, 3, fun x y => .if_icmp .ge (Jvm.ClassFile.Reader.signed 16 (x * 256 + y))), (132, 3, fun x y => .iinc x (Jvm.ClassFile.Reader.signed 8 y)), (5, 1, fun _ _ => .iconst 2), (148, 1, fun _ _ => .lcmp), (44, 1, fun _ _ => .aload_n 2), (154, 3, fun x y => .ifCond .ne (Jvm.ClassFile.Reader.signed 16 (x * 256 + y))), (43, 1, fun _ _ => .aload_n 1), (31, 1, fun _ _ => .lload_n 1), (33, 1, fun _ _ => .lload_n 3), (22, 2, fun x _ => .lload x), (97, 1, fun _ _ => .ladd), (133, 1, fun _ _ => .i2l), (45, 1, fun _ _ => .aload_n 3), (156, 3, fun x y => .ifCond .ge (Jvm.ClassFile.Reader.signed 16 (x * 256 + y))), (20, 3, fun x y => .ldc2_w (x * 256 + y)), (62, 1, fun _ _ => .istore_n 3), (26, 1, fun _ _ => .iload_n 0), (16, 2, fun x _ => .bipush (Jvm.ClassFile.Reader.signed 8 x)), (61, 1, fun _ _ => .istore_n 2), (2, 1, fun _ _ => .iconst (-1)), (80, 1, fun _ _ => .lastore), (155, 3, fun x y => .ifCond .lt (Jvm.ClassFile.Reader.signed 16 (x * 256 + y))), (89, 1, fun _ _ => .dup), (58, 2, fun x _ => .astore x), (60, 1, fun _ _ => .istore_n 1), (87, 1, fun _ _ => .pop), (66, 1, fun _ _ => .lstore_n 3), (105, 1, fun _ _ => .lmul), (55, 2, fun x _ => .lstore x), (64, 1, fun _ _ => .lstore_n 1), (30, 1, fun _ _ => .lload_n 0), (183, 3, fun x y => .invokespecial (x * 256 + y)), (173, 1, fun _ _ => .lreturn), (7, 1, fun _ _ => .iconst 4), (160, 3, fun x y => .if_icmp .ne (Jvm.ClassFile.Reader.signed 16 (x * 256 + y))), (6, 1, fun _ _ => .iconst 3), (177, 1, fun _ _ => .return_), (9, 1, fun _ _ => .lconst 0), (18, 2, fun x _ => .ldc x), (176, 1, fun _ _ => .areturn), (78, 1, fun _ _ => .astore_n 3), (32, 1, fun _ _ => .lload_n 2), (100, 1, fun _ _ => .isub), (101, 1, fun _ _ => .lsub), (104, 1, fun _ _ => .imul), (187, 3, fun x y => .new (x * 256 + y)), (126, 1, fun _ _ => .iand), (159, 3, fun x y => .if_icmp .eq (Jvm.ClassFile.Reader.signed 16 (x * 256 + y))), (190, 1, fun _ _ => .arraylength), (164, 3, fun x y => .if_icmp .le (Jvm.ClassFile.Reader.signed 16 (x * 256 + y))), (10, 1, fun _ _ => .lconst 1), (120, 1, fun _ _ => .ishl), (158, 3, fun x y => .ifCond .le (Jvm.ClassFile.Reader.signed 16 (x * 256 + y))), (25, 2, fun x _ => .aload x), (51, 1, fun _ _ => .baload), (84, 1, fun _ _ => .bastore), (163, 3, fun x y => .if_icmp .gt (Jvm.ClassFile.Reader.signed 16 (x * 256 + y))), (122, 1, fun _ _ => .ishr), (161, 3, fun x y => .if_icmp .lt (Jvm.ClassFile.Reader.signed 16 (x * 256 + y))), (178, 3, fun x y => .getstatic (x * 256 + y)), (19, 3, fun x y => .ldc_w (x * 256 + y)), (59, 1, fun _ _ => .istore_n 0), (157, 3, fun x y => .ifCond .gt (Jvm.ClassFile.Reader.signed 16 (x * 256 + y))), (124, 1, fun _ _ => .iushr), (191, 1, fun _ _ => .athrow), (77, 1, fun _ _ => .astore_n 2), (76, 1, fun _ _ => .astore_n 1), (92, 1, fun _ _ => .dup2), (136, 1, fun _ _ => .l2i), (128, 1, fun _ _ => .ior), (79, 1, fun _ _ => .iastore), (116, 1, fun _ _ => .ineg), (109, 1, fun _ _ => .ldiv), (8, 1, fun _ _ => .iconst 5), (131, 1, fun _ _ => .lxor), (192, 3, fun x y => .checkcast (x * 256 + y)), (108, 1, fun _ _ => .idiv), (90, 1, fun _ _ => .dup_x1), (117, 1, fun _ _ => .lneg), (65, 1, fun _ _ => .lstore_n 2), (113, 1, fun _ _ => .lrem), (17, 3, fun x y => .sipush (Jvm.ClassFile.Reader.signed 16 (x * 256 + y))), (145, 1, fun _ _ => .i2b), (1, 1, fun _ _ => .aconst_null), (199, 3, fun x y => .ifnonnull (Jvm.ClassFile.Reader.signed 16 (x * 256 + y))), (112, 1, fun _ _ => .irem)]
theorem kT_ok : ∀ e ∈ kT, kOkE e := List.forall_mem_cons.mpr ⟨ko_42, List.forall_mem_cons.mpr ⟨ko_180, List.forall_mem_cons.mpr ⟨ko_182, List.forall_mem_cons.mpr ⟨ko_27, List.forall_mem_cons.mpr ⟨ko_167, List.forall_mem_cons.mpr ⟨ko_3, List.forall_mem_cons.mpr ⟨ko_172, List.forall_mem_cons.mpr ⟨ko_184, List.forall_mem_cons.mpr ⟨ko_21, List.forall_mem_cons.mpr ⟨ko_4, List.forall_mem_cons.mpr ⟨ko_28, List.forall_mem_cons.mpr ⟨ko_47, List.forall_mem_cons.mpr ⟨ko_96, List.forall_mem_cons.mpr ⟨ko_29, List.forall_mem_cons.mpr ⟨ko_46, List.forall_mem_cons.mpr ⟨ko_153, List.forall_mem_cons.mpr ⟨ko_54, List.forall_mem_cons.mpr ⟨ko_181, List.forall_mem_cons.mpr ⟨ko_162, List.forall_mem_cons.mpr ⟨ko_132, List.forall_mem_cons.mpr ⟨ko_5, List.forall_mem_cons.mpr ⟨ko_148, List.forall_mem_cons.mpr ⟨ko_44, List.forall_mem_cons.mpr ⟨ko_154, List.forall_mem_cons.mpr ⟨ko_43, List.forall_mem_cons.mpr ⟨ko_31, List.forall_mem_cons.mpr ⟨ko_33, List.forall_mem_cons.mpr ⟨ko_22, List.forall_mem_cons.mpr ⟨ko_97, List.forall_mem_cons.mpr ⟨ko_133, List.forall_mem_cons.mpr ⟨ko_45, List.forall_mem_cons.mpr ⟨ko_156, List.forall_mem_cons.mpr ⟨ko_20, List.forall_mem_cons.mpr ⟨ko_62, List.forall_mem_cons.mpr ⟨ko_26, List.forall_mem_cons.mpr ⟨ko_16, List.forall_mem_cons.mpr ⟨ko_61, List.forall_mem_cons.mpr ⟨ko_2, List.forall_mem_cons.mpr ⟨ko_80, List.forall_mem_cons.mpr ⟨ko_155, List.forall_mem_cons.mpr ⟨ko_89, List.forall_mem_cons.mpr ⟨ko_58, List.forall_mem_cons.mpr ⟨ko_60, List.forall_mem_cons.mpr ⟨ko_87, List.forall_mem_cons.mpr ⟨ko_66, List.forall_mem_cons.mpr ⟨ko_105, List.forall_mem_cons.mpr ⟨ko_55, List.forall_mem_cons.mpr ⟨ko_64, List.forall_mem_cons.mpr ⟨ko_30, List.forall_mem_cons.mpr ⟨ko_183, List.forall_mem_cons.mpr ⟨ko_173, List.forall_mem_cons.mpr ⟨ko_7, List.forall_mem_cons.mpr ⟨ko_160, List.forall_mem_cons.mpr ⟨ko_6, List.forall_mem_cons.mpr ⟨ko_177, List.forall_mem_cons.mpr ⟨ko_9, List.forall_mem_cons.mpr ⟨ko_18, List.forall_mem_cons.mpr ⟨ko_176, List.forall_mem_cons.mpr ⟨ko_78, List.forall_mem_cons.mpr ⟨ko_32, List.forall_mem_cons.mpr ⟨ko_100, List.forall_mem_cons.mpr ⟨ko_101, List.forall_mem_cons.mpr ⟨ko_104, List.forall_mem_cons.mpr ⟨ko_187, List.forall_mem_cons.mpr ⟨ko_126, List.forall_mem_cons.mpr ⟨ko_159, List.forall_mem_cons.mpr ⟨ko_190, List.forall_mem_cons.mpr ⟨ko_164, List.forall_mem_cons.mpr ⟨ko_10, List.forall_mem_cons.mpr ⟨ko_120, List.forall_mem_cons.mpr ⟨ko_158, List.forall_mem_cons.mpr ⟨ko_25, List.forall_mem_cons.mpr ⟨ko_51, List.forall_mem_cons.mpr ⟨ko_84, List.forall_mem_cons.mpr ⟨ko_163, List.forall_mem_cons.mpr ⟨ko_122, List.forall_mem_cons.mpr ⟨ko_161, List.forall_mem_cons.mpr ⟨ko_178, List.forall_mem_cons.mpr ⟨ko_19, List.forall_mem_cons.mpr ⟨ko_59, List.forall_mem_cons.mpr ⟨ko_157, List.forall_mem_cons.mpr ⟨ko_124, List.forall_mem_cons.mpr ⟨ko_191, List.forall_mem_cons.mpr ⟨ko_77, List.forall_mem_cons.mpr ⟨ko_76, List.forall_mem_cons.mpr ⟨ko_92, List.forall_mem_cons.mpr ⟨ko_136, List.forall_mem_cons.mpr ⟨ko_128, List.forall_mem_cons.mpr ⟨ko_79, List.forall_mem_cons.mpr ⟨ko_116, List.forall_mem_cons.mpr ⟨ko_109, List.forall_mem_cons.mpr ⟨ko_8, List.forall_mem_cons.mpr ⟨ko_131, List.forall_mem_cons.mpr ⟨ko_192, List.forall_mem_cons.mpr ⟨ko_108, List.forall_mem_cons.mpr ⟨ko_90, List.forall_mem_cons.mpr ⟨ko_117, List.forall_mem_cons.mpr ⟨ko_65, List.forall_mem_cons.mpr ⟨ko_113, List.forall_mem_cons.mpr ⟨ko_17, List.forall_mem_cons.mpr ⟨ko_145, List.forall_mem_cons.mpr ⟨ko_1, List.forall_mem_cons.mpr ⟨ko_199, List.forall_mem_cons.mpr ⟨ko_112, (fun _ h => nomatch h)⟩⟩⟩⟩⟩⟩⟩⟩⟩⟩⟩⟩⟩⟩⟩⟩⟩⟩⟩⟩⟩⟩⟩⟩⟩⟩⟩⟩⟩⟩⟩⟩⟩⟩⟩⟩⟩⟩⟩⟩⟩⟩⟩⟩⟩⟩⟩⟩⟩⟩⟩⟩⟩⟩⟩⟩⟩⟩⟩⟩⟩⟩⟩⟩⟩⟩⟩⟩⟩⟩⟩⟩⟩⟩⟩⟩⟩⟩⟩⟩⟩⟩⟩⟩⟩⟩⟩⟩⟩⟩⟩⟩⟩⟩⟩⟩⟩⟩⟩⟩⟩⟩⟩⟩
theorem kdr {c : ByteArray} {LL : List (List (Nat × Instr × Nat))} (h : kRun kT c.data.toList 0 (List.flatten LL) = true) (j k : Nat) {L : List (Nat × Instr × Nat)} {p : Nat} {i : Instr} {n : Nat} (hj : LL[j]? = some L) (hk : L[k]? = some (p, i, n)) : decode c p = .ok (i, n) := by
  have hm : (p, i, n) ∈ List.flatten LL := List.mem_flatten.mpr ⟨L, List.mem_of_getElem? hj, List.mem_of_getElem? hk⟩
  obtain ⟨t, ht⟩ := List.getElem?_of_mem hm
  exact kRun_ok kT_ok List.drop_zero h t ht
end
