/-! the chosen wishes -/
/-- how many of the first m have p -/
def kCt (p : Nat → Bool) : Nat → Nat
  | 0 => 0
  | m + 1 => kCt p m + (if p m = true then 1 else 0)
theorem kCt_le {p : Nat → Bool} : ∀ m, kCt p m ≤ m := by
  intro m
  induction m with
  | zero => exact Nat.le_refl _
  | succ m ih => rw [kCt]; split <;> omega
theorem kCt_full {p : Nat → Bool} : ∀ m, kCt p m = m → ∀ j, j < m → p j = true := by
  intro m
  induction m with
  | zero => intro h j hj; omega
  | succ m ih =>
    intro h j hj
    have hl := kCt_le (p := p) m
    rw [kCt] at h
    by_cases h1 : p m = true
    · rw [if_pos h1] at h
      by_cases e9 : j = m
      · rw [e9]; exact h1
      · exact ih (by omega) j (by omega)
    · rw [if_neg h1] at h; omega
theorem kCt_same {p q : Nat → Bool} : ∀ m, (∀ j, j < m → p j = q j) → kCt p m = kCt q m := by
  intro m
  induction m with
  | zero => intro h; rfl
  | succ m ih => intro h; rw [kCt, kCt, ih (fun j hj => h j (by omega)), h m (by omega)]
theorem kCt_more {p q : Nat → Bool} {c : Nat} (h0 : p c = false) (h1 : q c = true) : ∀ m, (∀ j, j < m → ¬ j = c → p j = q j) → c < m → kCt q m = kCt p m + 1 := by
  intro m
  induction m with
  | zero => intro h hc; omega
  | succ m ih =>
    intro h hc
    rw [kCt, kCt]
    by_cases e9 : m = c
    · rw [kCt_same m (p := p) (q := q) (fun j hj => h j (by omega) (by omega)), e9, h0, h1]; rfl
    · rw [ih (fun j hj => h j (by omega)) (by omega), h m (by omega) e9]; omega
abbrev kGood (w : Nat) (b e : Nat → Int64) (s c : Nat) : Prop := ¬ s.testBit c = true ∧ kApa w b e (s ||| 2 ^ c)
/-- of a set whose wishes are apart: what meets none of it may come, and nothing else -/
theorem good_iff {w s c : Nat} {b e : Nat → Int64} (hw : w ≤ 8) (hs : s < 256) (hc : c < w) (hb : ∀ k, k < w → b k < e k) (ha : kApa w b e s) : kGood w b e s c ↔ ∀ j, j < w → s.testBit j = true → ¬ kMe b e c j := by
  constructor
  · intro ⟨h1, h2⟩ j hj h3 h4
    have e9 : ¬ j = c := fun z => h1 (z ▸ h3)
    exact kApa_any h2 hc hj e9 ((bito hs (by omega) (by omega)).mpr (Or.inr rfl)) ((bito hs (by omega) (by omega)).mpr (Or.inl h3)) h4
  · intro h
    refine ⟨fun z => h c hc z ⟨hb c hc, hb c hc⟩, fun k hk j hj h1 h2 h3 => ?_⟩
    rcases (bito hs (show c < 8 by omega) (show k < 8 by omega)).mp h1 with h4 | h4
    · rcases (bito hs (show c < 8 by omega) (show j < 8 by omega)).mp h2 with h5 | h5
      · exact ha k hk j hj h4 h5 h3
      · rw [h5] at h3; exact h k hk h4 ⟨h3.2, h3.1⟩
    · rcases (bito hs (show c < 8 by omega) (show j < 8 by omega)).mp h2 with h5 | h5
      · rw [h4] at h3; exact h j (by omega) h5 h3
      · omega
theorem nm1 : ¬ (0 : Int32) ≤ -1 := by decide
theorem nc_loop {w s : Nat} {b e b' e' : Nat → Int64} {K : (Nat → Int64) → (Nat → Int64) → Int32 → Int32 → Option Int32} (hw : w ≤ 8) (hs : s < 256) (hR : ∀ k, k < w → b k = b' k ∧ e k = e' k) (hb : ∀ k, k < w → b' k < e' k) (ha : kApa w b' e' s) : ∀ (u i : Nat) (x : Int32), i ≤ w → w - i < u → (x = -1 ∨ ∃ c, c < w ∧ x = nI c ∧ kGood w b' e' s c) → (f_X1_nextChosen_4 u b e (nI w) (nI s) x (nI i) = some (-1) ∧ f_X3_chosenNow_6 K u b' e' (nI w) (nI s) x (nI i) = some (nI s) ∧ x = -1 ∧ ∀ k, i ≤ k → k < w → ¬ kGood w b' e' s k) ∨ ∃ c, c < w ∧ kGood w b' e' s c ∧ f_X1_nextChosen_4 u b e (nI w) (nI s) x (nI i) = some (nI c) ∧ f_X3_chosenNow_6 K u b' e' (nI w) (nI s) x (nI i) = K b' e' (nI w) (nI (s ||| 2 ^ c)) := by
  intro u
  induction u with
  | zero => intro i x hi hf; omega
  | succ u ih =>
    intro i x hi hf hx
    by_cases h : w ≤ i
    · have h' : nI w ≤ nI i := (q_le (by omega) (by omega)).mpr h
      rcases hx with hx | ⟨c, hc, hx, hg⟩
      · refine Or.inl ⟨?_, ?_, hx, fun k h1 h2 => by omega⟩
        · simp only [f_X1_nextChosen_4, f_X0_count, Option.bind_some, if_pos h', hx]
        · simp only [f_X3_chosenNow_6, if_pos h', hx, if_neg nm1]
      · have h0 : (0 : Int32) ≤ nI c := Int32.not_lt.mp (by rw [nI_lt0 (show c ≤ 65536 by omega)]; exact id)
        refine Or.inr ⟨c, hc, hg, ?_, ?_⟩
        · simp only [f_X1_nextChosen_4, f_X0_count, Option.bind_some, if_pos h', hx]
        · simp only [f_X3_chosenNow_6, if_pos h', hx, if_pos h0, (sb_2 s hs c (by omega)).1]
    · have h' : ¬ nI w ≤ nI i := t49 (by omega) (by omega) h
      have es : nI i + 1 = nI (i + 1) := q_s i
      have b1 : ix (nI i) w := q_ix (by omega) (by omega)
      have b8 : ix (nI i) 8 := q_ix (by omega) (by omega)
      have c1 : (nI i).toNatClampNeg = i := q_cl (by omega)
      obtain ⟨eo, ho, -⟩ := sb_2 s hs i (by omega)
      have hcg : (∀ j, j < w → s.testBit j = true → ¬ kMe b' e' i j) ↔ (∀ j, j < w → s.testBit j = true → ¬ kMe b e i j) := by
        obtain ⟨y1, y2⟩ := hR i (by omega)
        constructor
        · intro z j hj h1 h2
          obtain ⟨z1, z2⟩ := hR j hj
          exact z j hj h1 ⟨by rw [← y1, ← z2]; exact h2.1, by rw [← z1, ← y2]; exact h2.2⟩
        · intro z j hj h1 h2
          obtain ⟨z1, z2⟩ := hR j hj
          exact z j hj h1 ⟨by rw [y1, z2]; exact h2.1, by rw [z1, y2]; exact h2.2⟩
      by_cases hg : kGood w b' e' s i
      · have em : f_X1_meetsOneOf b e (nI w) (nI i) (nI s) = some 0 := by
          rcases mo_eq (b := b) (e := e) hw hs (show i < w by omega) with ⟨-, j, h3, h4, h5⟩ | ⟨e3, -⟩
          · exact absurd h5 ((hcg.mp ((good_iff hw hs (by omega) hb ha).mp hg)) j h3 h4)
          · exact e3
        have ea : f_X3_areApart b' e' (nI w) (nI (s ||| 2 ^ i)) = some 1 := by
          rcases ap3 (b := b') (e := e') hw ho with ⟨e3, -⟩ | ⟨-, h3⟩
          · exact e3
          · exact absurd hg.2 h3
        have h0 := (bit0 hs (show i < 8 by omega)).mpr hg.1
        rcases hx with hx | ⟨c, hc, hx, hgc⟩
        · rcases ih (i + 1) (nI i) (by omega) (by omega) (Or.inr ⟨i, by omega, rfl, hg⟩) with ⟨-, -, h1, -⟩ | ⟨c, g1, g2, g3, g4⟩
          · rw [nI_m1 (show i ≤ 65536 by omega)] at h1; exact absurd h1 id
          · refine Or.inr ⟨c, g1, g2, ?_, ?_⟩
            · simp only [f_X1_nextChosen_4, f_X0_count, Option.bind_some, if_neg h', em, if_true, hx, es, g3]
            · simp only [f_X3_chosenNow_6, if_neg h', if_pos h0, eo, ea, Option.bind_some, t10, if_false, hx, lm1, if_true, es, g4]
        · have d1 : ix (nI c) w := q_ix (by omega) (by omega)
          have d8 : ix (nI c) 8 := q_ix (by omega) (by omega)
          have d2 : (nI c).toNatClampNeg = c := q_cl (by omega)
          obtain ⟨z1, z2⟩ := hR c hc
          obtain ⟨y1, y2⟩ := hR i (by omega)
          by_cases h5 : e' c ≤ e' i
          · rcases ih (i + 1) (nI c) (by omega) (by omega) (Or.inr ⟨c, hc, rfl, hgc⟩) with ⟨-, -, h1, -⟩ | ⟨c', g1, g2, g3, g4⟩
            · rw [nI_m1 (show c ≤ 65536 by omega)] at h1; exact absurd h1 id
            · refine Or.inr ⟨c', g1, g2, ?_, ?_⟩
              · simp only [f_X1_nextChosen_4, f_X0_count, Option.bind_some, if_neg h', em, if_true, hx, nI_m1 (show c ≤ 65536 by omega), if_false, end0 (show w ≤ 11 by omega) b1, end0 (show w ≤ 11 by omega) d1, c1, d2, z2, y2, if_pos h5, es, g3]
              · simp only [f_X3_chosenNow_6, if_neg h', if_pos h0, eo, ea, Option.bind_some, t10, if_false, hx, nI_lt0 (show c ≤ 65536 by omega), if_pos b8, if_pos d8, c1, d2, if_pos h5, es, g4]
          · rcases ih (i + 1) (nI i) (by omega) (by omega) (Or.inr ⟨i, by omega, rfl, hg⟩) with ⟨-, -, h1, -⟩ | ⟨c', g1, g2, g3, g4⟩
            · rw [nI_m1 (show i ≤ 65536 by omega)] at h1; exact absurd h1 id
            · refine Or.inr ⟨c', g1, g2, ?_, ?_⟩
              · simp only [f_X1_nextChosen_4, f_X0_count, Option.bind_some, if_neg h', em, if_true, hx, nI_m1 (show c ≤ 65536 by omega), if_false, end0 (show w ≤ 11 by omega) b1, end0 (show w ≤ 11 by omega) d1, c1, d2, z2, y2, if_neg h5, es, g3]
              · simp only [f_X3_chosenNow_6, if_neg h', if_pos h0, eo, ea, Option.bind_some, t10, if_false, hx, nI_lt0 (show c ≤ 65536 by omega), if_pos b8, if_pos d8, c1, d2, if_neg h5, es, g4]
      · have em : f_X1_meetsOneOf b e (nI w) (nI i) (nI s) = some 1 := by
          rcases mo_eq (b := b) (e := e) hw hs (show i < w by omega) with ⟨e3, -⟩ | ⟨-, h3⟩
          · exact e3
          · exact absurd ((good_iff hw hs (by omega) hb ha).mpr (hcg.mpr h3)) hg
        have e1 : f_X1_nextChosen_4 (u + 1) b e (nI w) (nI s) x (nI i) = f_X1_nextChosen_4 u b e (nI w) (nI s) x (nI (i + 1)) := by
          simp only [f_X1_nextChosen_4, f_X0_count, Option.bind_some, if_neg h', em, t10, if_false, es]
        have e3 : f_X3_chosenNow_6 K (u + 1) b' e' (nI w) (nI s) x (nI i) = f_X3_chosenNow_6 K u b' e' (nI w) (nI s) x (nI (i + 1)) := by
          by_cases h0 : s.testBit i = true
          · have h0' : ¬ ((nI s >>> (nI i &&& 31)) &&& 1) = 0 := fun z => (bit0 hs (show i < 8 by omega)).mp z h0
            simp only [f_X3_chosenNow_6, if_neg h', if_neg h0', es]
          · have h0' := (bit0 hs (show i < 8 by omega)).mpr h0
            have ea : f_X3_areApart b' e' (nI w) (nI (s ||| 2 ^ i)) = some 0 := by
              rcases ap3 (b := b') (e := e') hw ho with ⟨-, h3⟩ | ⟨e3, -⟩
              · exact absurd ⟨h0, h3⟩ hg
              · exact e3
            simp only [f_X3_chosenNow_6, if_neg h', if_pos h0', eo, ea, Option.bind_some, if_true, es]
        rw [e1, e3]
        rcases ih (i + 1) x (by omega) (by omega) hx with ⟨g1, g2, g3, g4⟩ | g
        · refine Or.inl ⟨g1, g2, g3, fun k h1 h2 => ?_⟩
          by_cases e9 : k = i
          · rw [e9]; exact hg
          · exact g4 k (by omega) h2
        · exact Or.inr g
theorem ch_stay {w s : Nat} {b e : Nat → Int64} (hw : w ≤ 8) (h0 : f_X1_nextChosen b e (nI w) (nI s) = some (-1)) : ∀ (u i : Nat), i ≤ w → w - i < u → f_X1_chosen_4 u b e (nI w) (nI s) (nI i) = some (nI s) := by
  intro u
  induction u with
  | zero => intro i hi hf; omega
  | succ u ih =>
    intro i hi hf
    by_cases h : w ≤ i
    · have h' : nI w ≤ nI i := (q_le (by omega) (by omega)).mpr h
      simp only [f_X1_chosen_4, f_X0_count, Option.bind_some, if_pos h']
    · have h' : ¬ nI w ≤ nI i := t49 (by omega) (by omega) h
      simp only [f_X1_chosen_4, f_X0_count, Option.bind_some, if_neg h', h0, if_true, q_s, ih (i + 1) (by omega) (by omega)]
theorem ch_loop {w : Nat} {b e b' e' : Nat → Int64} (hw : w ≤ 8) (hR : ∀ k, k < w → b k = b' k ∧ e k = e' k) (hb : ∀ k, k < w → b' k < e' k) : ∀ (u i s : Nat), i ≤ w → w - i < u → u ≤ 24 → s < 256 → kApa w b' e' s → kCt (fun j => s.testBit j) w = i → ∃ s', s' < 256 ∧ f_X1_chosen_4 u b e (nI w) (nI s) (nI i) = some (nI s') ∧ f_X3_chosenNow_2 u b' e' (nI w) (nI s) = some (nI s') ∧ kApa w b' e' s' := by
  intro u
  induction u with
  | zero => intro i s hi hf; omega
  | succ u ih =>
    intro i s hi hf hu hs ha hct
    have hn := nc_loop (K := f_X3_chosenNow_2 u) hw hs hR hb ha 24 0 (-1) (Nat.zero_le _) (by omega) (Or.inl rfl)
    rcases hn with ⟨g1, g2, -, -⟩ | ⟨c, hc, hg, g1, g2⟩
    · refine ⟨s, hs, ch_stay hw g1 (u + 1) i hi hf, ?_, ha⟩
      exact g2
    · have hlt : i < w := by
        by_cases h : w ≤ i
        · exact absurd (kCt_full (p := fun j => s.testBit j) w (by omega) c hc) hg.1
        · omega
      have h' : ¬ nI w ≤ nI i := t49 (by omega) (by omega) (by omega)
      have es : nI i + 1 = nI (i + 1) := q_s i
      obtain ⟨eo, ho, -⟩ := sb_2 s hs c (by omega)
      have hct2 : kCt (fun j => (s ||| 2 ^ c).testBit j) w = i + 1 := by
        rw [← hct]
        refine kCt_more (c := c) (by simpa using hg.1) ((bito hs (by omega) (by omega)).mpr (Or.inr rfl)) w (fun j hj hn => ?_) hc
        show s.testBit j = (s ||| 2 ^ c).testBit j
        rw [(sb_3 s hs c (by omega) j (by omega)).1, decide_eq_false hn, Bool.or_false]
      obtain ⟨s', h1, h2, h3, h4⟩ := ih (i + 1) (s ||| 2 ^ c) (by omega) (by omega) (by omega) ho hg.2 hct2
      have g1' : f_X1_nextChosen b e (nI w) (nI s) = some (nI c) := g1
      refine ⟨s', h1, ?_, ?_, h4⟩
      · simp only [f_X1_chosen_4, f_X0_count, Option.bind_some, if_neg h', g1', nI_m1 (show c ≤ 65536 by omega), if_false, eo, es, h2]
      · exact g2.trans h3
theorem kCt_0 : ∀ w, kCt (fun j => (0 : Nat).testBit j) w = 0 := by
  intro w
  induction w with
  | zero => rfl
  | succ w ih => rw [kCt, ih, Nat.zero_testBit]; rfl
theorem chosen_both {w : Nat} {wb we mwb mwe : Nat → Int64} (hW : kWish w wb we mwb mwe) (hw : w ≤ 8) : ∃ s, s < 256 ∧ f_X1_chosen wb we (nI w) = some (nI s) ∧ f_X3_chosenNow mwb mwe (nI w) = some (nI s) ∧ kApa w mwb mwe s :=
  ch_loop hw hW.bo (fun k hk => by
    obtain ⟨a1, a2, a3, -⟩ := hW k hk
    rw [← a1, ← a2]; exact a3) 24 0 0 (Nat.zero_le _) (by omega) (Nat.le_refl _) (by omega) (fun k hk j hj h1 => by rw [Nat.zero_testBit] at h1; exact absurd h1 (by decide)) (kCt_0 w)
theorem ob_chosen {w : Nat} {wb we mwb mwe : Nat → Int64} (hW : kWish w wb we mwb mwe) (hw : w ≤ 8) : ∃ a, f_X1_chosen wb we (nI w) = some a ∧ f_X3_chosen mwb mwe (nI w) = some (a, 0) := by
  obtain ⟨s, hs, e1, e3, -⟩ := chosen_both hW hw
  refine ⟨nI s, e1, ?_⟩
  simp only [f_X3_chosen, e3, Option.bind_some]
/-! the most -/
theorem pop_both : ∀ s, s < 256 → ∃ r, r < 9 ∧ f_J6_bitCount_0f7a4 (nI s) = some (nI r) ∧ f_X3_ones (nI s) = some (nI r) := by
  have h : ∀ s, s < 256 → f_J6_bitCount_0f7a4 (nI s) = some (nI (kCt (fun j => s.testBit j) 8)) ∧ f_X3_ones (nI s) = some (nI (kCt (fun j => s.testBit j) 8)) := by decide +kernel
  intro s hs
  have hl := kCt_le (p := fun j => s.testBit j) 8
  exact ⟨_, by omega, (h s hs).1, (h s hs).2⟩
theorem mo_all {w N : Nat} {b e b' e' : Nat → Int64} (hw : w ≤ 8) (hN : 2 ^ w = N) (hN1 : 1 ≤ N) (hN2 : N ≤ 256) (hR : ∀ k, k < w → b k = b' k ∧ e k = e' k) : ∀ (u i a : Nat), i ≤ N → N - i < u → a < 9 → ∃ a', a' < 9 ∧ f_X1_mostOfAllSets_9 u b e (nI w) (nI a) (nI (N - 1)) (nI i) = some (nI a') ∧ f_X3_mostOfAll_4 u b' e' (nI w) (nI a) (nI i) = some (nI a') := by
  intro u
  induction u with
  | zero => intro i a hi hf; omega
  | succ u ih =>
    intro i a hi hf ha
    have eN := (sb_5 w hw).1
    rw [hN] at eN
    by_cases h : N ≤ i
    · have h1 : nI (N - 1) < nI i := (q_lt (by omega) (by omega)).mpr (by omega)
      have h3 : nI N ≤ nI i := (q_le (by omega) (by omega)).mpr h
      refine ⟨a, ha, ?_, ?_⟩
      · simp only [f_X1_mostOfAllSets_9, if_pos h1]
      · simp only [f_X3_mostOfAll_4, eN, if_pos h3]
    · have h1 : ¬ nI (N - 1) < nI i := fun z => by have := (q_lt (show N - 1 ≤ 65536 by omega) (show i ≤ 65536 by omega)).mp z; omega
      have h3 : ¬ nI N ≤ nI i := t49 (by omega) (by omega) h
      have es : nI i + 1 = nI (i + 1) := q_s i
      obtain ⟨r, hr, p1, p3⟩ := pop_both i (by omega)
      rcases ap_both (s := i) hw (by omega) hR with ⟨e1, e3, -⟩ | ⟨e1, e3, -⟩
      · by_cases h4 : r ≤ a
        · have h5 : nI r ≤ nI a := (q_le (by omega) (by omega)).mpr h4
          have h6 : ¬ nI a < nI r := Int32.not_lt.mpr h5
          obtain ⟨a', g0, g1, g3⟩ := ih (i + 1) a (by omega) (by omega) ha
          refine ⟨a', g0, ?_, ?_⟩
          · simp only [f_X1_mostOfAllSets_9, if_neg h1, p1, Option.bind_some, if_pos h5, es, g1]
          · simp only [f_X3_mostOfAll_4, eN, if_neg h3, e3, Option.bind_some, t10, if_false, p3, if_neg h6, es, g3]
        · have h5 : ¬ nI r ≤ nI a := t49 (by omega) (by omega) h4
          have h6 : nI a < nI r := Int32.not_le.mp h5
          obtain ⟨a', g0, g1, g3⟩ := ih (i + 1) r (by omega) (by omega) hr
          refine ⟨a', g0, ?_, ?_⟩
          · simp only [f_X1_mostOfAllSets_9, if_neg h1, p1, Option.bind_some, if_neg h5, e1, t10, if_false, es, g1]
          · simp only [f_X3_mostOfAll_4, eN, if_neg h3, e3, Option.bind_some, t10, if_false, p3, if_pos h6, es, g3]
      · obtain ⟨a', g0, g1, g3⟩ := ih (i + 1) a (by omega) (by omega) ha
        refine ⟨a', g0, ?_, ?_⟩
        · by_cases h5 : nI r ≤ nI a
          · simp only [f_X1_mostOfAllSets_9, if_neg h1, p1, Option.bind_some, if_pos h5, es, g1]
          · simp only [f_X1_mostOfAllSets_9, if_neg h1, p1, Option.bind_some, if_neg h5, e1, if_true, es, g1]
        · simp only [f_X3_mostOfAll_4, eN, if_neg h3, e3, Option.bind_some, if_true, es, g3]
theorem most_both {w : Nat} {wb we mwb mwe : Nat → Int64} (hW : kWish w wb we mwb mwe) (hw : w ≤ 8) : ∃ a, a < 9 ∧ f_X1_mostOfAllSets wb we (nI w) = some (nI a) ∧ f_X3_mostOfAll mwb mwe (nI w) = some (nI a) := by
  obtain ⟨-, -, h3, h4⟩ := sb_5 w hw
  obtain ⟨a, h0, e1, e3⟩ := mo_all hw rfl h3 h4 hW.bo 300 0 0 (Nat.zero_le _) (by omega) (by omega)
  refine ⟨a, h0, ?_, e3⟩
  simp only [f_X1_mostOfAllSets, setAll hw, Option.bind_some]
  exact e1
theorem ob_most {w : Nat} {wb we mwb mwe : Nat → Int64} {on : Int64} {p0 : Int32} (hW : kWish w wb we mwb mwe) (hw : w ≤ 8) : kObs (f_L_most wb we (nI w) on p0) (f_X3_most mwb mwe (nI w) p0) := by
  by_cases h : 0 ≤ p0.toInt ∧ p0.toInt ≤ 1
  · have hM : f_X3_most mwb mwe (nI w) p0 = f_X3_most_15 mwb mwe (nI w) p0 0 := (arg3 p0 1 (f_X3_most_10 mwb mwe (nI w) p0) (f_X3_most_15 mwb mwe (nI w) p0 0)).trans (if_pos (by rw [c1']; exact h))
    rw [kObs, hM]
    by_cases h2 : p0 = 0
    · obtain ⟨s, hs, e1, e3, -⟩ := chosen_both hW hw
      obtain ⟨r, -, e5, e6⟩ := pop_both s hs
      simp only [f_L_most, fx_X1_most, f_X1_most, withinq, i0, c1', if_pos h, needThat1.1, needThat1.2, Option.bind_some, xb_n, if_pos h2, e1, e5, f_X3_most_15, thrown3', if_true, e3, e6]
      exact ⟨_, _, rfl, rfl, rfl, fun _ => rfl⟩
    · obtain ⟨a, -, e1, e3⟩ := most_both hW hw
      simp only [f_L_most, fx_X1_most, f_X1_most, withinq, i0, c1', if_pos h, needThat1.1, needThat1.2, Option.bind_some, xb_n, if_neg h2, e1, f_X3_most_15, thrown3', if_true, e3]
      exact ⟨_, _, rfl, rfl, rfl, fun _ => rfl⟩
  · have hM : f_X3_most mwb mwe (nI w) p0 = f_X3_most_10 mwb mwe (nI w) p0 := (arg3 p0 1 (f_X3_most_10 mwb mwe (nI w) p0) (f_X3_most_15 mwb mwe (nI w) p0 0)).trans (if_neg (by rw [c1']; exact h))
    rw [kObs, hM]
    simp only [f_L_most, fx_X1_most, withinq, i0, c1', if_neg h, needThat0.1, needThat0.2, Option.bind_some, xb_s, u21, if_false, f_X3_most_10, f_X3_most_15, thrown3', t10]
    exact ⟨_, _, rfl, rfl, rfl, fun z => no1 z⟩
