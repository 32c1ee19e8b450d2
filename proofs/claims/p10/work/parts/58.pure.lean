/-! sets of wishes, as sums of bits -/
theorem sb_1 : ∀ s, s < 256 → ∀ k, k < 8 → decide (((nI s >>> (nI k &&& 31)) &&& 1) = 1) = s.testBit k ∧ decide (((nI s >>> (nI k &&& 31)) &&& 1) = 0) = !s.testBit k ∧ decide ((nI s &&& (1 <<< (nI k &&& 31))) = 0) = !s.testBit k := by decide +kernel
theorem sb_2 : ∀ s, s < 256 → ∀ k, k < 8 → nI s ||| (1 <<< (nI k &&& 31)) = nI (s ||| 2 ^ k) ∧ (s ||| 2 ^ k) < 256 ∧ (s.testBit k = true → nI s - (1 <<< (nI k &&& 31)) = nI (s - 2 ^ k)) := by decide +kernel
theorem sb_3a : ∀ s, s < 256 → ∀ k, k < 8 → s.testBit k = true → s - 2 ^ k = s ^^^ 2 ^ k := by decide +kernel
theorem sb_3 : ∀ s, s < 256 → ∀ k, k < 8 → ∀ j, j < 8 → (s ||| 2 ^ k).testBit j = (s.testBit j || decide (j = k)) ∧ (s.testBit k = true → (s - 2 ^ k).testBit j = (s.testBit j && !decide (j = k))) := by
  intro s hs k hk j hj
  have e : decide (k = j) = decide (j = k) := decide_eq_decide.mpr eq_comm
  refine ⟨by rw [Nat.testBit_or, Nat.testBit_two_pow, e], fun h => ?_⟩
  rw [sb_3a s hs k hk h, Nat.testBit_xor, Nat.testBit_two_pow, e]
  by_cases g : j = k
  · subst g
    rw [h]
    simp
  · rw [decide_eq_false g]
    cases s.testBit j <;> rfl
theorem sb_4a : ∀ s, s < 256 → ∀ k, k < 8 → ((nI s >>> (nI k &&& 31)) &&& 1) = (if s.testBit k then 1 else 0) := by decide +kernel
theorem sb_4 : ∀ s, s < 256 → ∀ k, k < 8 → ∀ j, j < 8 → decide ((((nI s >>> (nI k &&& 31)) &&& (nI s >>> (nI j &&& 31))) &&& 1) = 1) = (s.testBit k && s.testBit j) := by
  intro s hs k hk j hj
  have e : ∀ a b : Int32, (a &&& b) &&& 1 = (a &&& 1) &&& (b &&& 1) := by
    intro a b
    rw [Int32.and_assoc a 1 (b &&& 1), Int32.and_comm 1 (b &&& 1), Int32.and_assoc b 1 1, Int32.and_self (a := 1), ← Int32.and_assoc a b 1]
  rw [e, sb_4a s hs k hk, sb_4a s hs j hj]
  cases s.testBit k <;> cases s.testBit j <;> decide
theorem sb_5 : ∀ w, w ≤ 8 → (1 : Int32) <<< (nI w &&& 31) = nI (2 ^ w) ∧ nI (2 ^ w) - 1 = nI (2 ^ w - 1) ∧ 1 ≤ 2 ^ w ∧ 2 ^ w ≤ 256 := by
  intro w hw
  have h : ∀ w, w < 9 → (1 : Int32) <<< (nI w &&& 31) = nI (2 ^ w) ∧ nI (2 ^ w) - 1 = nI (2 ^ w - 1) ∧ 1 ≤ 2 ^ w ∧ 2 ^ w ≤ 256 := by decide +kernel
  exact h w (by omega)
theorem bit1 {s k : Nat} (hs : s < 256) (hk : k < 8) : ((nI s >>> (nI k &&& 31)) &&& 1) = 1 ↔ s.testBit k = true := by
  rw [← (sb_1 s hs k hk).1]; exact decide_eq_true_iff.symm
theorem bit0 {s k : Nat} (hs : s < 256) (hk : k < 8) : ((nI s >>> (nI k &&& 31)) &&& 1) = 0 ↔ ¬ s.testBit k = true := by
  have h := (sb_1 s hs k hk).2.1
  constructor
  · intro z; rw [decide_eq_true z] at h; intro y; rw [y] at h; exact absurd h (by decide)
  · intro z
    have y : s.testBit k = false := by simpa using z
    rw [y] at h; exact of_decide_eq_true h
theorem bita {s k : Nat} (hs : s < 256) (hk : k < 8) : (nI s &&& (1 <<< (nI k &&& 31))) = 0 ↔ ¬ s.testBit k = true := by
  have h := (sb_1 s hs k hk).2.2
  constructor
  · intro z; rw [decide_eq_true z] at h; intro y; rw [y] at h; exact absurd h (by decide)
  · intro z
    have y : s.testBit k = false := by simpa using z
    rw [y] at h; exact of_decide_eq_true h
theorem bit2 {s k j : Nat} (hs : s < 256) (hk : k < 8) (hj : j < 8) : (((nI s >>> (nI k &&& 31)) &&& (nI s >>> (nI j &&& 31))) &&& 1) = 1 ↔ s.testBit k = true ∧ s.testBit j = true := by
  have h := sb_4 s hs k hk j hj
  constructor
  · intro z; rw [decide_eq_true z] at h; exact Bool.and_eq_true_iff.mp h.symm
  · intro ⟨z1, z2⟩; rw [z1, z2] at h; exact of_decide_eq_true h
theorem bito {s k j : Nat} (hs : s < 256) (hk : k < 8) (hj : j < 8) : (s ||| 2 ^ k).testBit j = true ↔ s.testBit j = true ∨ j = k := by
  rw [(sb_3 s hs k hk j hj).1, Bool.or_eq_true_iff, decide_eq_true_iff]
theorem bitm {s k j : Nat} (hs : s < 256) (hk : k < 8) (hj : j < 8) (h : s.testBit k = true) : (s - 2 ^ k).testBit j = true ↔ s.testBit j = true ∧ ¬ j = k := by
  rw [(sb_3 s hs k hk j hj).2 h, Bool.and_eq_true_iff]
  constructor
  · intro ⟨z1, z2⟩; exact ⟨z1, fun z => by rw [decide_eq_true z] at z2; exact absurd z2 (by decide)⟩
  · intro ⟨z1, z2⟩; exact ⟨z1, by rw [decide_eq_false z2]; rfl⟩
abbrev kMe (b e : Nat → Int64) (k j : Nat) : Prop := b k < e j ∧ b j < e k
/-- of a set no two meet -/
abbrev kApa (w : Nat) (b e : Nat → Int64) (s : Nat) : Prop := ∀ k, k < w → ∀ j, j < k → s.testBit k = true → s.testBit j = true → ¬ kMe b e k j
theorem kApa_any {w : Nat} {b e : Nat → Int64} {s : Nat} (h : kApa w b e s) {k j : Nat} (hk : k < w) (hj : j < w) (hn : ¬ j = k) (h1 : s.testBit k = true) (h2 : s.testBit j = true) : ¬ kMe b e k j := fun z => by
  by_cases h3 : j < k
  · exact h k hk j h3 h1 h2 z
  · exact h j hj k (by omega) h2 h1 ⟨z.2, z.1⟩
theorem mo_loop {b e : Nat → Int64} {w s k : Nat} (hw : w ≤ 8) (hs : s < 256) (hk : k < w) : ∀ (u i : Nat), i ≤ w → w - i < u → ∃ z, f_X1_meetsOneOf_2 u b e (nI w) (nI k) (nI s) (nI i) = some z ∧ ((z = 1 ∧ ∃ j, i ≤ j ∧ j < w ∧ s.testBit j = true ∧ kMe b e k j) ∨ (z = 0 ∧ ∀ j, i ≤ j → j < w → s.testBit j = true → ¬ kMe b e k j)) := by
  intro u
  induction u with
  | zero => intro i hi hf; omega
  | succ u ih =>
    intro i hi hf
    by_cases h : w ≤ i
    · have h' : nI w ≤ nI i := (q_le (by omega) (by omega)).mpr h
      refine ⟨0, ?_, Or.inr ⟨rfl, fun j h1 h2 => by omega⟩⟩
      simp only [f_X1_meetsOneOf_2, f_X0_count, Option.bind_some, if_pos h']
    · have h' : ¬ nI w ≤ nI i := t49 (by omega) (by omega) h
      have es : nI i + 1 = nI (i + 1) := q_s i
      have b1 : ix (nI k) w := q_ix (by omega) (by omega)
      have b2 : ix (nI i) w := q_ix (by omega) (by omega)
      have c1 : (nI k).toNatClampNeg = k := q_cl (by omega)
      have c2 : (nI i).toNatClampNeg = i := q_cl (by omega)
      obtain ⟨z, e1, hz⟩ := ih (i + 1) (by omega) (by omega)
      by_cases h1 : s.testBit i = true
      · have h1' := (bit1 hs (show i < 8 by omega)).mpr h1
        by_cases h2 : b k < e i ∧ b i < e k
        · refine ⟨1, ?_, Or.inl ⟨rfl, i, Nat.le_refl _, by omega, h1, h2⟩⟩
          simp only [f_X1_meetsOneOf_2, f_X0_count, Option.bind_some, if_neg h', if_pos h1', doMeet (show w ≤ 11 by omega) b1 b2, c1, c2, if_pos h2, t10, if_false]
        · refine ⟨z, ?_, ?_⟩
          · simp only [f_X1_meetsOneOf_2, f_X0_count, Option.bind_some, if_neg h', if_pos h1', doMeet (show w ≤ 11 by omega) b1 b2, c1, c2, if_neg h2, t00, if_true, es, e1]
          · rcases hz with ⟨hz, j, h3, h4, h5, h6⟩ | ⟨hz, h3⟩
            · exact Or.inl ⟨hz, j, by omega, h4, h5, h6⟩
            · refine Or.inr ⟨hz, fun j h4 h5 h6 => ?_⟩
              by_cases e9 : j = i
              · rw [e9]; exact h2
              · exact h3 j (by omega) h5 h6
      · have h1' := fun z => h1 ((bit1 hs (show i < 8 by omega)).mp z)
        refine ⟨z, ?_, ?_⟩
        · simp only [f_X1_meetsOneOf_2, f_X0_count, Option.bind_some, if_neg h', if_neg h1', es, e1]
        · rcases hz with ⟨hz, j, h3, h4, h5, h6⟩ | ⟨hz, h3⟩
          · exact Or.inl ⟨hz, j, by omega, h4, h5, h6⟩
          · refine Or.inr ⟨hz, fun j h4 h5 h6 => ?_⟩
            by_cases e9 : j = i
            · rw [e9] at h6; exact absurd h6 h1
            · exact h3 j (by omega) h5 h6
theorem mo_eq {b e : Nat → Int64} {w s k : Nat} (hw : w ≤ 8) (hs : s < 256) (hk : k < w) : (f_X1_meetsOneOf b e (nI w) (nI k) (nI s) = some 1 ∧ ∃ j, j < w ∧ s.testBit j = true ∧ kMe b e k j) ∨ (f_X1_meetsOneOf b e (nI w) (nI k) (nI s) = some 0 ∧ ∀ j, j < w → s.testBit j = true → ¬ kMe b e k j) := by
  obtain ⟨z, e1, hz⟩ := mo_loop (b := b) (e := e) hw hs hk 24 0 (Nat.zero_le _) (by omega)
  have e1' : f_X1_meetsOneOf b e (nI w) (nI k) (nI s) = some z := e1
  rcases hz with ⟨hz, j, h3, h4, h5, h6⟩ | ⟨hz, h3⟩
  · rw [hz] at e1'; exact Or.inl ⟨e1', j, h4, h5, h6⟩
  · rw [hz] at e1'; exact Or.inr ⟨e1', fun j h4 => h3 j (Nat.zero_le _) h4⟩
theorem iw_loop {b e : Nat → Int64} {w s : Nat} (hw : w ≤ 8) (hs : s < 256) : ∀ (u i : Nat), i ≤ w → w - i < u → ∃ z, f_X1_isWithoutMeeting_2 u b e (nI w) (nI s) (nI i) = some z ∧ ((z = 0 ∧ ∃ k j, k < w ∧ j < w ∧ ¬ j = k ∧ s.testBit k = true ∧ s.testBit j = true ∧ kMe b e k j) ∨ (z = 1 ∧ ∀ k, i ≤ k → k < w → s.testBit k = true → ∀ j, j < w → ¬ j = k → s.testBit j = true → ¬ kMe b e k j)) := by
  intro u
  induction u with
  | zero => intro i hi hf; omega
  | succ u ih =>
    intro i hi hf
    by_cases h : w ≤ i
    · have h' : nI w ≤ nI i := (q_le (by omega) (by omega)).mpr h
      refine ⟨1, ?_, Or.inr ⟨rfl, fun k h1 h2 => by omega⟩⟩
      simp only [f_X1_isWithoutMeeting_2, f_X0_count, Option.bind_some, if_pos h']
    · have h' : ¬ nI w ≤ nI i := t49 (by omega) (by omega) h
      have es : nI i + 1 = nI (i + 1) := q_s i
      obtain ⟨z, e1, hz⟩ := ih (i + 1) (by omega) (by omega)
      by_cases h1 : s.testBit i = true
      · have h1' : ¬ (nI s &&& (1 <<< (nI i &&& 31))) = 0 := fun z => (bita hs (show i < 8 by omega)).mp z h1
        have e2 := (sb_2 s hs i (by omega)).2.2 h1
        rcases mo_eq (b := b) (e := e) hw (Nat.lt_of_le_of_lt (Nat.sub_le s (2 ^ i)) hs) (show i < w by omega) with ⟨e3, j, h3, h4, h5⟩ | ⟨e3, h3⟩
        · obtain ⟨h6, h7⟩ := (bitm hs (show i < 8 by omega) (show j < 8 by omega) h1).mp h4
          refine ⟨0, ?_, Or.inl ⟨rfl, i, j, by omega, h3, h7, h1, h6, h5⟩⟩
          simp only [f_X1_isWithoutMeeting_2, f_X0_count, Option.bind_some, if_neg h', if_neg h1', e2, e3, t10, if_false]
        · refine ⟨z, ?_, ?_⟩
          · simp only [f_X1_isWithoutMeeting_2, f_X0_count, Option.bind_some, if_neg h', if_neg h1', e2, e3, if_true, es, e1]
          · rcases hz with hz | ⟨hz, h4⟩
            · exact Or.inl hz
            · refine Or.inr ⟨hz, fun k h5 h6 h7 j h8 h9 h10 => ?_⟩
              by_cases e9 : k = i
              · rw [e9]
                rw [e9] at h9
                exact h3 j h8 ((bitm hs (show i < 8 by omega) (show j < 8 by omega) h1).mpr ⟨h10, h9⟩)
              · exact h4 k (by omega) h6 h7 j h8 h9 h10
      · have h1' : (nI s &&& (1 <<< (nI i &&& 31))) = 0 := (bita hs (show i < 8 by omega)).mpr h1
        refine ⟨z, ?_, ?_⟩
        · simp only [f_X1_isWithoutMeeting_2, f_X0_count, Option.bind_some, if_neg h', if_pos h1', es, e1]
        · rcases hz with hz | ⟨hz, h4⟩
          · exact Or.inl hz
          · refine Or.inr ⟨hz, fun k h5 h6 h7 => ?_⟩
            by_cases e9 : k = i
            · rw [e9] at h7; exact absurd h7 h1
            · exact h4 k (by omega) h6 h7
theorem a12 {b e : Nat → Int64} {w s k : Nat} {K : (Nat → Int64) → (Nat → Int64) → Int32 → Int32 → Int32 → Option Int32} (hw : w ≤ 8) (hs : s < 256) (hk : k < w) : ∀ (u i : Nat), i ≤ k → k - i < u → (f_X3_areApart_12 K u b e (nI w) (nI s) (nI k) (nI i) = some 0 ∧ ∃ j, j < k ∧ s.testBit k = true ∧ s.testBit j = true ∧ kMe b e k j) ∨ (f_X3_areApart_12 K u b e (nI w) (nI s) (nI k) (nI i) = K b e (nI w) (nI s) (nI (k + 1)) ∧ ∀ j, i ≤ j → j < k → s.testBit k = true → s.testBit j = true → ¬ kMe b e k j) := by
  intro u
  induction u with
  | zero => intro i hi hf; omega
  | succ u ih =>
    intro i hi hf
    have es : nI i + 1 = nI (i + 1) := q_s i
    have ek : nI k + 1 = nI (k + 1) := q_s k
    by_cases h : k ≤ i
    · have h' : nI k ≤ nI i := (q_le (by omega) (by omega)).mpr h
      refine Or.inr ⟨?_, fun j h1 h2 => by omega⟩
      simp only [f_X3_areApart_12, if_pos h', ek]
    · have h' : ¬ nI k ≤ nI i := t49 (by omega) (by omega) h
      have b1 : ix (nI k) 8 := q_ix (by omega) (by omega)
      have b2 : ix (nI i) 8 := q_ix (by omega) (by omega)
      have c1 : (nI k).toNatClampNeg = k := q_cl (by omega)
      have c2 : (nI i).toNatClampNeg = i := q_cl (by omega)
      have hi := ih (i + 1) (by omega) (by omega)
      by_cases h1 : s.testBit k = true ∧ s.testBit i = true
      · have h1' := (bit2 hs (show k < 8 by omega) (show i < 8 by omega)).mpr h1
        by_cases h2 : b k < e i ∧ b i < e k
        · refine Or.inl ⟨?_, i, by omega, h1.1, h1.2, h2⟩
          simp only [f_X3_areApart_12, if_neg h', if_pos h1', f_X3_wishesMeet, if_pos b1, if_pos b2, meet3, c1, c2, if_pos h2, Option.bind_some, t10, if_false]
        · have e2 : f_X3_areApart_12 K (u + 1) b e (nI w) (nI s) (nI k) (nI i) = f_X3_areApart_12 K u b e (nI w) (nI s) (nI k) (nI (i + 1)) := by
            simp only [f_X3_areApart_12, if_neg h', if_pos h1', f_X3_wishesMeet, if_pos b1, if_pos b2, meet3, c1, c2, if_neg h2, Option.bind_some, if_true, es]
          rw [e2]
          rcases hi with hi | ⟨hi, h3⟩
          · exact Or.inl hi
          · refine Or.inr ⟨hi, fun j h4 h5 h6 h7 => ?_⟩
            by_cases e9 : j = i
            · rw [e9]; exact h2
            · exact h3 j (by omega) h5 h6 h7
      · have h1' := fun z => h1 ((bit2 hs (show k < 8 by omega) (show i < 8 by omega)).mp z)
        have e2 : f_X3_areApart_12 K (u + 1) b e (nI w) (nI s) (nI k) (nI i) = f_X3_areApart_12 K u b e (nI w) (nI s) (nI k) (nI (i + 1)) := by
          simp only [f_X3_areApart_12, if_neg h', if_neg h1', es]
        rw [e2]
        rcases hi with hi | ⟨hi, h3⟩
        · exact Or.inl hi
        · refine Or.inr ⟨hi, fun j h4 h5 h6 h7 => ?_⟩
          by_cases e9 : j = i
          · rw [e9] at h7; exact absurd ⟨h6, h7⟩ h1
          · exact h3 j (by omega) h5 h6 h7
theorem a2_loop {b e : Nat → Int64} {w s : Nat} (hw : w ≤ 8) (hs : s < 256) : ∀ (u i : Nat), i ≤ w → w - i < u → ∃ z, f_X3_areApart_2 u b e (nI w) (nI s) (nI i) = some z ∧ ((z = 0 ∧ ∃ k j, k < w ∧ j < k ∧ s.testBit k = true ∧ s.testBit j = true ∧ kMe b e k j) ∨ (z = 1 ∧ ∀ k, i ≤ k → k < w → ∀ j, j < k → s.testBit k = true → s.testBit j = true → ¬ kMe b e k j)) := by
  intro u
  induction u with
  | zero => intro i hi hf; omega
  | succ u ih =>
    intro i hi hf
    by_cases h : w ≤ i
    · have h' : nI w ≤ nI i := (q_le (by omega) (by omega)).mpr h
      refine ⟨1, ?_, Or.inr ⟨rfl, fun k h1 h2 => by omega⟩⟩
      simp only [f_X3_areApart_2, if_pos h']
    · have h' : ¬ nI w ≤ nI i := t49 (by omega) (by omega) h
      obtain ⟨z, e1, hz⟩ := ih (i + 1) (by omega) (by omega)
      rcases a12 (b := b) (e := e) (K := f_X3_areApart_2 u) hw hs (show i < w by omega) 24 0 (Nat.zero_le _) (by omega) with ⟨e2, j, h3, h4, h5, h6⟩ | ⟨e2, h3⟩
      · have e2' : f_X3_areApart_12 (f_X3_areApart_2 u) 24 b e (nI w) (nI s) (nI i) 0 = some 0 := e2
        refine ⟨0, ?_, Or.inl ⟨rfl, i, j, by omega, h3, h4, h5, h6⟩⟩
        simp only [f_X3_areApart_2, if_neg h', e2']
      · have e2' : f_X3_areApart_12 (f_X3_areApart_2 u) 24 b e (nI w) (nI s) (nI i) 0 = f_X3_areApart_2 u b e (nI w) (nI s) (nI (i + 1)) := e2
        refine ⟨z, ?_, ?_⟩
        · simp only [f_X3_areApart_2, if_neg h', e2', e1]
        · rcases hz with hz | ⟨hz, h4⟩
          · exact Or.inl hz
          · refine Or.inr ⟨hz, fun k h5 h6 j h7 => ?_⟩
            by_cases e9 : k = i
            · rw [e9]; rw [e9] at h7; exact h3 j (Nat.zero_le _) h7
            · exact h4 k (by omega) h6 j h7
theorem ap3 {b e : Nat → Int64} {w s : Nat} (hw : w ≤ 8) (hs : s < 256) : (f_X3_areApart b e (nI w) (nI s) = some 1 ∧ kApa w b e s) ∨ (f_X3_areApart b e (nI w) (nI s) = some 0 ∧ ¬ kApa w b e s) := by
  obtain ⟨z, e1, hz⟩ := a2_loop (b := b) (e := e) hw hs 24 0 (Nat.zero_le _) (by omega)
  have e1' : f_X3_areApart b e (nI w) (nI s) = some z := e1
  rcases hz with ⟨hz, k, j, h3, h4, h5, h6, h7⟩ | ⟨hz, h3⟩
  · rw [hz] at e1'; exact Or.inr ⟨e1', fun z => z k h3 j h4 h5 h6 h7⟩
  · rw [hz] at e1'; exact Or.inl ⟨e1', fun k hk => h3 k (Nat.zero_le _) hk⟩
theorem ap1 {b e : Nat → Int64} {w s : Nat} (hw : w ≤ 8) (hs : s < 256) : (f_X1_isWithoutMeeting b e (nI w) (nI s) = some 1 ∧ kApa w b e s) ∨ (f_X1_isWithoutMeeting b e (nI w) (nI s) = some 0 ∧ ¬ kApa w b e s) := by
  obtain ⟨z, e1, hz⟩ := iw_loop (b := b) (e := e) hw hs 24 0 (Nat.zero_le _) (by omega)
  have e1' : f_X1_isWithoutMeeting b e (nI w) (nI s) = some z := e1
  rcases hz with ⟨hz, k, j, h3, h4, h5, h6, h7, h8⟩ | ⟨hz, h3⟩
  · rw [hz] at e1'; exact Or.inr ⟨e1', fun z => kApa_any z h3 h4 h5 h6 h7 h8⟩
  · rw [hz] at e1'; exact Or.inl ⟨e1', fun k hk j hj h5 h6 => h3 k (Nat.zero_le _) hk h5 j (by omega) (by omega) h6⟩
theorem kApa_congr {w s : Nat} {b e b' e' : Nat → Int64} (h : ∀ k, k < w → b k = b' k ∧ e k = e' k) : kApa w b e s ↔ kApa w b' e' s := by
  constructor
  · intro z k hk j hj h1 h2 ⟨h3, h4⟩
    obtain ⟨a1, a2⟩ := h k hk
    obtain ⟨a3, a4⟩ := h j (by omega)
    exact z k hk j hj h1 h2 ⟨by rw [a1, a4]; exact h3, by rw [a3, a2]; exact h4⟩
  · intro z k hk j hj h1 h2 ⟨h3, h4⟩
    obtain ⟨a1, a2⟩ := h k hk
    obtain ⟨a3, a4⟩ := h j (by omega)
    exact z k hk j hj h1 h2 ⟨by rw [← a1, ← a4]; exact h3, by rw [← a3, ← a2]; exact h4⟩
/-- whether a set's wishes are apart, on both sides -/
theorem ap_both {b e b' e' : Nat → Int64} {w s : Nat} (hw : w ≤ 8) (hs : s < 256) (h : ∀ k, k < w → b k = b' k ∧ e k = e' k) : (f_X1_isWithoutMeeting b e (nI w) (nI s) = some 1 ∧ f_X3_areApart b' e' (nI w) (nI s) = some 1 ∧ kApa w b' e' s) ∨ (f_X1_isWithoutMeeting b e (nI w) (nI s) = some 0 ∧ f_X3_areApart b' e' (nI w) (nI s) = some 0 ∧ ¬ kApa w b' e' s) := by
  rcases ap1 (b := b) (e := e) hw hs with ⟨e1, h1⟩ | ⟨e1, h1⟩
  · rcases ap3 (b := b') (e := e') hw hs with ⟨e3, h3⟩ | ⟨e3, h3⟩
    · exact Or.inl ⟨e1, e3, h3⟩
    · exact absurd ((kApa_congr h).mp h1) h3
  · rcases ap3 (b := b') (e := e') hw hs with ⟨e3, h3⟩ | ⟨e3, h3⟩
    · exact absurd ((kApa_congr h).mpr h3) h1
    · exact Or.inr ⟨e1, e3, h3⟩
theorem kWish.bo {w : Nat} {wb we mwb mwe : Nat → Int64} (h : kWish w wb we mwb mwe) : ∀ k, k < w → wb k = mwb k ∧ we k = mwe k := fun k hk => ⟨(h k hk).1, (h k hk).2.1⟩
theorem setAll {w : Nat} (hw : w ≤ 8) : f_X1_setOfAllWishes (nI w) = some (nI (2 ^ w - 1)) := by
  simp only [f_X1_setOfAllWishes, f_X0_count, Option.bind_some, (sb_5 w hw).1, (sb_5 w hw).2.1]
theorem shr_le0 {w : Nat} (hw : w ≤ 8) {p : Int32} (h : 0 ≤ p.toInt) : (p >>> (nI w &&& 31)) ≤ 0 ↔ p.toInt ≤ (nI (2 ^ w - 1)).toInt := by
  have e : (p >>> (nI w &&& 31)).toInt = p.toInt / ((2 ^ w : Nat) : Int) := by
    have hx : ∀ w, w < 9 → ((nI w &&& 31).toBitVec.smod 32).toNat = w := by decide +kernel
    have hy : (p >>> (nI w &&& 31)).toBitVec = p.toBitVec.sshiftRight w := by
      rw [Int32.toBitVec_shiftRight, BitVec.sshiftRight', hx w (by omega)]
    show ((p >>> (nI w &&& 31)).toBitVec).toInt = _
    rw [hy, BitVec.toInt_sshiftRight, Int.shiftRight_eq_div_pow]
    rfl
  obtain ⟨-, -, h3, h4⟩ := sb_5 w hw
  rw [le32, e, i0]
  generalize 2 ^ w = N at h3 h4 ⊢
  rw [nI_toInt (by omega)]
  constructor
  · intro z
    by_cases h5 : p.toInt < N
    · omega
    · have := Int.le_ediv_of_mul_le (a := 1) (b := p.toInt) (c := (N : Int)) (by omega) (by omega)
      omega
  · intro z
    rw [Int.ediv_eq_zero_of_lt h (by omega)]
    exact Int.le_refl _
theorem ob_isApart {w : Nat} {wb we mwb mwe : Nat → Int64} {on : Int64} {p0 : Int32} (hW : kWish w wb we mwb mwe) (hw : w ≤ 8) : kObs (f_L_isApart wb we (nI w) on p0) (f_X3_isApart mwb mwe (nI w) p0) := by
  have e9 : (nI (2 ^ w - 1)).toInt = (2 ^ w - 1 : Nat) := nI_toInt (by have := (sb_5 w hw).2.2.2; omega)
  by_cases h : 0 ≤ p0.toInt ∧ p0.toInt ≤ (nI (2 ^ w - 1)).toInt
  · have a1 : ¬ p0 < 0 := by rw [lt32, i0]; omega
    have a2 := (shr_le0 hw h.1).mpr h.2
    have h2 := (sb_5 w hw).2.2.2
    obtain ⟨s, hs, rfl⟩ := small_of (w := p0) (n := 256) h.1 (by omega) (by omega)
    rcases ap_both hw hs hW.bo with ⟨e1, e3, -⟩ | ⟨e1, e3, -⟩
    · simp only [kObs, f_L_isApart, fx_X1_isApart, f_X1_isApart, setAll hw, withinq, i0, if_pos h, needThat1.1, needThat1.2, xb_n, Option.bind_some, e1, t10, if_false, f_X3_isApart, if_neg a1, if_pos a2, f_X3_isApart_19, thrown3', if_true, e3]
      exact ⟨_, _, rfl, rfl, rfl, fun _ => o1⟩
    · simp only [kObs, f_L_isApart, fx_X1_isApart, f_X1_isApart, setAll hw, withinq, i0, if_pos h, needThat1.1, needThat1.2, xb_n, Option.bind_some, e1, if_true, f_X3_isApart, if_neg a1, if_pos a2, f_X3_isApart_19, thrown3', e3]
      exact ⟨_, _, rfl, rfl, rfl, fun _ => o0⟩
  · have hM : f_X3_isApart mwb mwe (nI w) p0 = some (0, 1) := by
      by_cases a1 : p0 < 0
      · simp only [f_X3_isApart, if_pos a1, f_X3_isApart_14, f_X3_isApart_19, thrown3', t10, if_false, Option.bind_some]
      · have h0 : 0 ≤ p0.toInt := by rw [lt32, i0] at a1; omega
        have a2 : ¬ (p0 >>> (nI w &&& 31)) ≤ 0 := fun z => h ⟨h0, (shr_le0 hw h0).mp z⟩
        simp only [f_X3_isApart, if_neg a1, if_neg a2, f_X3_isApart_14, f_X3_isApart_19, thrown3', t10, if_false, Option.bind_some]
    rw [kObs, hM]
    simp only [f_L_isApart, fx_X1_isApart, setAll hw, withinq, i0, if_neg h, needThat0.1, needThat0.2, Option.bind_some, xb_s, u21, if_false]
    exact ⟨_, _, rfl, rfl, rfl, fun z => no1 z⟩
