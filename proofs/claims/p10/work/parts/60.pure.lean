/-! rooms -/
abbrev kRel (w i : Nat) (rm ex : Nat → Int32) : Prop := ∀ k, k < w → rm k = ex k ∧ (rm k = -1 ∨ ∃ r, r < i ∧ rm k = nI r)
theorem fw_loop {w N : Nat} {b b' : Nat → Int64} {rm ex : Nat → Int32} (hw : w ≤ 8) (hN : N ≤ 65536) (hR : ∀ k, k < w → b k = b' k) (hr : kRel w N rm ex) : ∀ (u i : Nat) (x : Int32), i ≤ w → w - i < u → (x = -1 ∨ ∃ c, c < w ∧ x = nI c ∧ rm c = -1) → ∃ y, f_X1_firstWithoutRoom_4 u b (nI w) rm x (nI i) = some y ∧ f_X3_nextWish_4 w u b' (nI w) ex x (nI i) = some y ∧ ((y = -1 ∧ x = -1 ∧ ∀ k, i ≤ k → k < w → ¬ rm k = -1) ∨ ∃ c, c < w ∧ y = nI c ∧ rm c = -1) := by
  intro u
  induction u with
  | zero => intro i x hi hf; omega
  | succ u ih =>
    intro i x hi hf hx
    by_cases h : w ≤ i
    · have h' : nI w ≤ nI i := (q_le (by omega) (by omega)).mpr h
      refine ⟨x, ?_, ?_, ?_⟩
      · simp only [f_X1_firstWithoutRoom_4, f_X0_count, Option.bind_some, if_pos h']
      · simp only [f_X3_nextWish_4, if_pos h']
      · rcases hx with hx | hx
        · exact Or.inl ⟨hx, hx, fun k h1 h2 => by omega⟩
        · exact Or.inr hx
    · have h' : ¬ nI w ≤ nI i := t49 (by omega) (by omega) h
      have es : nI i + 1 = nI (i + 1) := q_s i
      have b1 : ix (nI i) w := q_ix (by omega) (by omega)
      have b8 : ix (nI i) 8 := q_ix (by omega) (by omega)
      have b11 : ix (nI i) 11 := q_ix (by omega) (by omega)
      have c1 : (nI i).toNatClampNeg = i := q_cl (by omega)
      obtain ⟨er, hv⟩ := hr i (by omega)
      rcases hv with hv | ⟨r, hr9, hv⟩
      · have hv3 : ex i = -1 := by rw [← er]; exact hv
        rcases hx with hx | ⟨c, hc, hx, hg⟩
        · obtain ⟨y, g1, g3, g⟩ := ih (i + 1) (nI i) (by omega) (by omega) (Or.inr ⟨i, by omega, rfl, hv⟩)
          refine ⟨y, ?_, ?_, ?_⟩
          · simp only [f_X1_firstWithoutRoom_4, f_X0_count, Option.bind_some, if_neg h', if_pos b11, c1, hv, tm1, if_true, hx, es, g1]
          · simp only [f_X3_nextWish_4, if_neg h', if_pos b1, c1, hv3, if_neg nm1, hx, lm1, if_true, es, g3]
          · rcases g with ⟨-, g, -⟩ | g
            · rw [nI_m1 (show i ≤ 65536 by omega)] at g; exact absurd g id
            · exact Or.inr g
        · have d1 : ix (nI c) w := q_ix (by omega) (by omega)
          have d8 : ix (nI c) 8 := q_ix (by omega) (by omega)
          have d2 : (nI c).toNatClampNeg = c := q_cl (by omega)
          have z1 := hR c hc
          have y1 := hR i (by omega)
          by_cases h5 : b' c ≤ b' i
          · obtain ⟨y, g1, g3, g⟩ := ih (i + 1) (nI c) (by omega) (by omega) (Or.inr ⟨c, hc, rfl, hg⟩)
            refine ⟨y, ?_, ?_, ?_⟩
            · simp only [f_X1_firstWithoutRoom_4, f_X0_count, Option.bind_some, if_neg h', if_pos b11, c1, hv, tm1, if_true, hx, nI_m1 (show c ≤ 65536 by omega), if_false, begin0 (show w ≤ 11 by omega) b1, begin0 (show w ≤ 11 by omega) d1, d2, z1, y1, if_pos h5, es, g1]
            · simp only [f_X3_nextWish_4, if_neg h', if_pos b1, c1, hv3, if_neg nm1, hx, nI_lt0 (show c ≤ 65536 by omega), if_false, if_pos b8, if_pos d8, d2, if_pos h5, es, g3]
            · rcases g with ⟨-, g, -⟩ | g
              · rw [nI_m1 (show c ≤ 65536 by omega)] at g; exact absurd g id
              · exact Or.inr g
          · obtain ⟨y, g1, g3, g⟩ := ih (i + 1) (nI i) (by omega) (by omega) (Or.inr ⟨i, by omega, rfl, hv⟩)
            refine ⟨y, ?_, ?_, ?_⟩
            · simp only [f_X1_firstWithoutRoom_4, f_X0_count, Option.bind_some, if_neg h', if_pos b11, c1, hv, tm1, if_true, hx, nI_m1 (show c ≤ 65536 by omega), if_false, begin0 (show w ≤ 11 by omega) b1, begin0 (show w ≤ 11 by omega) d1, d2, z1, y1, if_neg h5, es, g1]
            · simp only [f_X3_nextWish_4, if_neg h', if_pos b1, c1, hv3, if_neg nm1, hx, nI_lt0 (show c ≤ 65536 by omega), if_false, if_pos b8, if_pos d8, d2, if_neg h5, es, g3]
            · rcases g with ⟨-, g, -⟩ | g
              · rw [nI_m1 (show i ≤ 65536 by omega)] at g; exact absurd g id
              · exact Or.inr g
      · have hv3 : ex i = nI r := by rw [← er]; exact hv
        have hm : ¬ rm i = -1 := by rw [hv, nI_m1 (show r ≤ 65536 by omega)]; exact id
        have h0 : (0 : Int32) ≤ ex i := by rw [hv3]; exact Int32.not_lt.mp (by rw [nI_lt0 (show r ≤ 65536 by omega)]; exact id)
        obtain ⟨y, g1, g3, g⟩ := ih (i + 1) x (by omega) (by omega) hx
        refine ⟨y, ?_, ?_, ?_⟩
        · simp only [f_X1_firstWithoutRoom_4, f_X0_count, Option.bind_some, if_neg h', if_pos b11, c1, if_neg hm, es, g1]
        · simp only [f_X3_nextWish_4, if_neg h', if_pos b1, c1, if_pos h0, es, g3]
        · rcases g with ⟨g, g', g''⟩ | g
          · refine Or.inl ⟨g, g', fun k h1 h2 => ?_⟩
            by_cases e9 : k = i
            · rw [e9]; exact hm
            · exact g'' k (by omega) h2
          · exact Or.inr g
/-- a room with a wish that meets -/
abbrev kUsd (w : Nat) (b e : Nat → Int64) (rm : Nat → Int32) (k r : Nat) : Prop := ∃ j, j < w ∧ rm j = nI r ∧ kMe b e k j
theorem s56 {s : Nat} (hs : s < 256) : ∀ (u r : Nat), r ≤ 8 → 8 - r < u → ∃ q, r ≤ q ∧ q ≤ 8 ∧ f_X1_smallestRoom_56 u (nI s) (nI r) = some (nI q) ∧ (q < 8 → ¬ s.testBit q = true) ∧ ∀ p, r ≤ p → p < q → s.testBit p = true := by
  intro u
  induction u with
  | zero => intro r hr hf; omega
  | succ u ih =>
    intro r hr hf
    by_cases h : 8 ≤ r
    · have h' : (8 : Int32) ≤ nI r := (q_le (a := 8) (by omega) (by omega)).mpr h
      refine ⟨r, Nat.le_refl _, hr, ?_, fun h1 => by omega, fun p h1 h2 => by omega⟩
      simp only [f_X1_smallestRoom_56, if_pos h']
    · have h' : ¬ (8 : Int32) ≤ nI r := t49 (a := 8) (by omega) (by omega) h
      by_cases h1 : s.testBit r = true
      · have h1' := (bit1 hs (show r < 8 by omega)).mpr h1
        obtain ⟨q, g1, g2, g3, g4, g5⟩ := ih (r + 1) (by omega) (by omega)
        refine ⟨q, by omega, g2, ?_, g4, fun p h2 h3 => ?_⟩
        · simp only [f_X1_smallestRoom_56, if_neg h', if_pos h1', q_s, g3]
        · by_cases e9 : p = r
          · rw [e9]; exact h1
          · exact g5 p (by omega) h3
      · have h1' := fun z => h1 ((bit1 hs (show r < 8 by omega)).mp z)
        refine ⟨r, Nat.le_refl _, hr, ?_, fun _ => h1, fun p h2 h3 => by omega⟩
        simp only [f_X1_smallestRoom_56, if_neg h', if_neg h1']
theorem sr_loop {w k : Nat} {b e : Nat → Int64} {rm ex : Nat → Int32} (hw : w ≤ 8) (hk : k < w) (hr : kRel w 8 rm ex) : ∀ (u i s : Nat), i ≤ w → w - i < u → s < 256 → (∀ r, r < 8 → (s.testBit r = true ↔ ∃ j, j < i ∧ rm j = nI r ∧ kMe b e k j)) → ∃ s', s' < 256 ∧ f_X1_smallestRoom_4 u b e (nI w) rm (nI k) (nI s) (nI i) = f_X1_smallestRoom_56 24 (nI s') 0 ∧ ∀ r, r < 8 → (s'.testBit r = true ↔ kUsd w b e rm k r) := by
  intro u
  induction u with
  | zero => intro i s hi hf; omega
  | succ u ih =>
    intro i s hi hf hs hb
    by_cases h : w ≤ i
    · have h' : nI w ≤ nI i := (q_le (by omega) (by omega)).mpr h
      refine ⟨s, hs, ?_, fun r h1 => ?_⟩
      · simp only [f_X1_smallestRoom_4, f_X0_count, Option.bind_some, if_pos h']
      · rw [hb r h1, show i = w by omega]
    · have h' : ¬ nI w ≤ nI i := t49 (by omega) (by omega) h
      have es : nI i + 1 = nI (i + 1) := q_s i
      have b11 : ix (nI i) 11 := q_ix (by omega) (by omega)
      have b1 : ix (nI k) w := q_ix (by omega) (by omega)
      have b2 : ix (nI i) w := q_ix (by omega) (by omega)
      have c1 : (nI i).toNatClampNeg = i := q_cl (by omega)
      have c2 : (nI k).toNatClampNeg = k := q_cl (by omega)
      have skip : (rm i = -1 ∨ ¬ kMe b e k i) → ∀ r, r < 8 → (s.testBit r = true ↔ ∃ j, j < i + 1 ∧ rm j = nI r ∧ kMe b e k j) := fun hno r h1 => by
        rw [hb r h1]
        constructor
        · intro ⟨j, h2, h3⟩; exact ⟨j, by omega, h3⟩
        · intro ⟨j, h2, h3, h4⟩
          by_cases e9 : j = i
          · rw [e9] at h3 h4
            rcases hno with hno | hno
            · rw [hno] at h3
              have := nI_m1 (n := r) (by omega)
              exact absurd h3.symm (by rw [this]; exact id)
            · exact absurd h4 hno
          · exact ⟨j, by omega, h3, h4⟩
      rcases (hr i (by omega)).2 with hv | ⟨q, hq, hv⟩
      · obtain ⟨s', g1, g2, g3⟩ := ih (i + 1) s (by omega) (by omega) hs (skip (Or.inl hv))
        refine ⟨s', g1, ?_, g3⟩
        simp only [f_X1_smallestRoom_4, f_X0_count, Option.bind_some, if_neg h', if_pos b11, c1, hv, tm1, if_true, es, g2]
      · have hm : ¬ nI q = -1 := by rw [nI_m1 (show q ≤ 65536 by omega)]; exact id
        by_cases h2 : b k < e i ∧ b i < e k
        · obtain ⟨eo, ho, -⟩ := sb_2 s hs q hq
          obtain ⟨s', g1, g2, g3⟩ := ih (i + 1) (s ||| 2 ^ q) (by omega) (by omega) ho (fun r h1 => by
            rw [bito hs hq h1, hb r h1]
            constructor
            · intro z
              rcases z with ⟨j, h3, h4⟩ | z
              · exact ⟨j, by omega, h4⟩
              · exact ⟨i, by omega, by rw [z]; exact hv, h2⟩
            · intro ⟨j, h3, h4, h5⟩
              by_cases e9 : j = i
              · rw [e9, hv] at h4
                exact Or.inr ((q_eq (by omega) (by omega)).mp h4).symm
              · exact Or.inl ⟨j, by omega, h4, h5⟩)
          refine ⟨s', g1, ?_, g3⟩
          simp only [f_X1_smallestRoom_4, f_X0_count, Option.bind_some, if_neg h', if_pos b11, c1, c2, hv, if_neg hm, doMeet (show w ≤ 11 by omega) b1 b2, if_pos h2, t10, if_false, eo, es, g2]
        · obtain ⟨s', g1, g2, g3⟩ := ih (i + 1) s (by omega) (by omega) hs (skip (Or.inr h2))
          refine ⟨s', g1, ?_, g3⟩
          simp only [f_X1_smallestRoom_4, f_X0_count, Option.bind_some, if_neg h', if_pos b11, c1, c2, hv, if_neg hm, doMeet (show w ≤ 11 by omega) b1 b2, if_neg h2, if_true, es, g2]
theorem sr_eq {w k i : Nat} {b e : Nat → Int64} {rm ex : Nat → Int32} (hw : w ≤ 8) (hk : k < w) (hi : i < 8) (hr : kRel w i rm ex) : ∃ q, q ≤ i ∧ f_X1_smallestRoom b e (nI w) rm (nI k) = some (nI q) ∧ ¬ kUsd w b e rm k q ∧ ∀ p, p < q → kUsd w b e rm k p := by
  have hr8 : kRel w 8 rm ex := fun k hk => by
    obtain ⟨a1, a2⟩ := hr k hk
    refine ⟨a1, ?_⟩
    rcases a2 with a2 | ⟨r, a2, a3⟩
    · exact Or.inl a2
    · exact Or.inr ⟨r, by omega, a3⟩
  obtain ⟨s, hs, e1, hb⟩ := sr_loop (b := b) (e := e) hw hk hr8 24 0 0 (Nat.zero_le _) (by omega) (by omega) (fun r h1 => by
    rw [Nat.zero_testBit]
    exact ⟨fun z => absurd z (by decide), fun ⟨j, h2, _⟩ => by omega⟩)
  obtain ⟨q, -, h2, e3, h4, h5⟩ := s56 hs 24 0 (by omega) (by omega)
  have lim : ∀ p, kUsd w b e rm k p → p < 65536 → p < i := fun p ⟨j, h6, h7, h8⟩ h9 => by
    rcases (hr j h6).2 with h10 | ⟨r, h10, h11⟩
    · rw [h10] at h7
      have := nI_m1 (n := p) (by omega)
      exact absurd h7.symm (by rw [this]; exact id)
    · rw [h11] at h7
      have := (q_eq (by omega) (by omega)).mp h7
      omega
  have hqi : q ≤ i := by
    by_cases h6 : q ≤ i
    · exact h6
    · have := lim i ((hb i hi).mp (h5 i (Nat.zero_le _) (by omega))) (by omega)
      omega
  refine ⟨q, hqi, ?_, fun z => h4 (by omega) ((hb q (by omega)).mpr z), fun p hp => (hb p (by omega)).mp (h5 p (Nat.zero_le _) hp)⟩
  show f_X1_smallestRoom_4 24 b e (nI w) rm (nI k) (nI 0) (nI 0) = _
  rw [e1]; exact e3
theorem r42 {w k R : Nat} {b e : Nat → Int64} {ex : Nat → Int32} {K : (Nat → Int64) → (Nat → Int64) → Int32 → (Nat → Int32) → Int32 → Option (Nat → Int32)} (hw : w ≤ 8) (hk : k < w) (hR : R ≤ 8) (h1 : ¬ kUsd w b e ex k R) (h2 : ∀ p, p < R → kUsd w b e ex k p) : ∀ (u r j : Nat), r ≤ R → j ≤ w → (R - r) * 9 + (w - j) < u → (∀ i, i < j → ¬ (ex i = nI r ∧ kMe b e k i)) → f_X3_roomsNow_42 K u b e (nI w) ex (nI k) (nI r) (nI j) = (f_X3_nextWish w b (nI w) (upd ex k (nI R))).bind fun y => K b e (nI w) (upd ex k (nI R)) y := by
  intro u
  induction u with
  | zero => intro r j hr hj hf; omega
  | succ u ih =>
    intro r j hr hj hf hno
    have ew : (nI w).toNatClampNeg = w := q_cl (by omega)
    have c1 : (nI k).toNatClampNeg = k := q_cl (by omega)
    have b1 : ix (nI k) w := q_ix (by omega) (by omega)
    by_cases h : w ≤ j
    · have h' : nI w ≤ nI j := (q_le (by omega) (by omega)).mpr h
      have er : r = R := by
        by_cases h3 : r < R
        · obtain ⟨i, h4, h5, h6⟩ := h2 r h3
          exact absurd ⟨h5, h6⟩ (hno i (by omega))
        · omega
      rw [er]
      simp only [f_X3_roomsNow_42, if_pos h', ew, if_pos b1, c1]
    · have h' : ¬ nI w ≤ nI j := t49 (by omega) (by omega) h
      have es : nI j + 1 = nI (j + 1) := q_s j
      have er : nI r + 1 = nI (r + 1) := q_s r
      have b2 : ix (nI j) w := q_ix (by omega) (by omega)
      have b8 : ix (nI j) 8 := q_ix (by omega) (by omega)
      have b9 : ix (nI k) 8 := q_ix (by omega) (by omega)
      have c2 : (nI j).toNatClampNeg = j := q_cl (by omega)
      have next : ¬ (ex j = nI r ∧ kMe b e k j) → ∀ i, i < j + 1 → ¬ (ex i = nI r ∧ kMe b e k i) := fun h3 i h4 => by
        by_cases e9 : i = j
        · rw [e9]; exact h3
        · exact hno i (by omega)
      by_cases h3 : ex j = nI r
      · by_cases h4 : b k < e j ∧ b j < e k
        · have hlt : r < R := by
            by_cases e9 : r = R
            · rw [e9] at h3; exact absurd ⟨j, by omega, h3, h4⟩ h1
            · omega
          have g := ih (r + 1) 0 (by omega) (Nat.zero_le _) (by omega) (fun i h5 => by omega)
          have e0 : ((-1 : Int32) + 1) = nI 0 := by decide
          simp only [f_X3_roomsNow_42, if_neg h', ew, if_pos b2, c2, if_pos h3, f_X3_wishesMeet, if_pos b8, if_pos b9, meet3, c1, if_pos h4, Option.bind_some, t10, if_false, er, e0, g]
        · have g := ih r (j + 1) hr (by omega) (by omega) (next (fun z => h4 z.2))
          simp only [f_X3_roomsNow_42, if_neg h', ew, if_pos b2, c2, if_pos h3, f_X3_wishesMeet, if_pos b8, if_pos b9, meet3, c1, if_neg h4, Option.bind_some, if_true, es, g]
      · have g := ih r (j + 1) hr (by omega) (by omega) (next (fun z => h3 z.1))
        simp only [f_X3_roomsNow_42, if_neg h', ew, if_pos b2, c2, if_neg h3, es, g]
theorem fr_stay {w : Nat} {b e : Nat → Int64} {rm : Nat → Int32} (hw : w ≤ 8) (h0 : f_X1_firstWithoutRoom b (nI w) rm = some (-1)) : ∀ (u i : Nat), i ≤ w → w - i < u → f_X1_findRooms_23 u b e (nI w) rm (nI i) = some rm := by
  intro u
  induction u with
  | zero => intro i hi hf; omega
  | succ u ih =>
    intro i hi hf
    by_cases h : w ≤ i
    · have h' : nI w ≤ nI i := (q_le (by omega) (by omega)).mpr h
      simp only [f_X1_findRooms_23, f_X0_count, Option.bind_some, if_pos h']
    · have h' : ¬ nI w ≤ nI i := t49 (by omega) (by omega) h
      simp only [f_X1_findRooms_23, f_X0_count, Option.bind_some, if_neg h', h0, if_true, q_s, ih (i + 1) (by omega) (by omega)]
theorem kUsd_congr {w k r : Nat} {b e b' e' : Nat → Int64} {rm ex : Nat → Int32} (hk : k < w) (hR : ∀ k, k < w → b k = b' k ∧ e k = e' k) (hr : ∀ k, k < w → rm k = ex k) : kUsd w b e rm k r ↔ kUsd w b' e' ex k r := by
  obtain ⟨y1, y2⟩ := hR k hk
  constructor
  · intro ⟨j, h1, h2, h3, h4⟩
    obtain ⟨z1, z2⟩ := hR j h1
    exact ⟨j, h1, by rw [← hr j h1]; exact h2, by rw [← y1, ← z2]; exact h3, by rw [← z1, ← y2]; exact h4⟩
  · intro ⟨j, h1, h2, h3, h4⟩
    obtain ⟨z1, z2⟩ := hR j h1
    exact ⟨j, h1, by rw [hr j h1]; exact h2, by rw [y1, z2]; exact h3, by rw [z1, y2]; exact h4⟩
theorem rooms_loop {w : Nat} {b e b' e' : Nat → Int64} (hw : w ≤ 8) (hR : ∀ k, k < w → b k = b' k ∧ e k = e' k) : ∀ (u i : Nat) (rm ex : Nat → Int32), i ≤ w → w - i < u → kRel w i rm ex → kCt (fun k => decide (¬ rm k = -1)) w = i → ∃ rm' ex', f_X1_findRooms_23 u b e (nI w) rm (nI i) = some rm' ∧ ((f_X3_nextWish w b' (nI w) ex).bind fun y => f_X3_roomsNow_33 u b' e' (nI w) ex y) = some ex' ∧ ∀ k, k < w → rm' k = ex' k ∧ ∃ r, r < 8 ∧ rm' k = nI r := by
  intro u
  induction u with
  | zero => intro i rm ex hi hf; omega
  | succ u ih =>
    intro i rm ex hi hf hr hct
    obtain ⟨y, g1, g3, g⟩ := fw_loop (b := b) (b' := b') hw (by omega) (fun k hk => (hR k hk).1) hr 24 0 (-1) (Nat.zero_le _) (by omega) (Or.inl rfl)
    have g1' : f_X1_firstWithoutRoom b (nI w) rm = some y := g1
    have g3' : f_X3_nextWish w b' (nI w) ex = some y := g3
    rcases g with ⟨hy, -, hall⟩ | ⟨c, hc, hy, hg⟩
    · rw [hy] at g1' g3'
      refine ⟨rm, ex, fr_stay hw g1' (u + 1) i hi hf, ?_, fun k hk => ?_⟩
      · simp only [g3', Option.bind_some, f_X3_roomsNow_33, lm1, if_true]
      · obtain ⟨a1, a2⟩ := hr k hk
        refine ⟨a1, ?_⟩
        rcases a2 with a2 | ⟨r, a2, a3⟩
        · exact absurd a2 (hall k (Nat.zero_le _) hk)
        · exact ⟨r, by omega, a3⟩
    · rw [hy] at g1' g3'
      have hlt : i < w := by
        by_cases h : w ≤ i
        · have := kCt_full w (show kCt (fun k => decide (¬ rm k = -1)) w = w by omega) c hc
          exact absurd hg (of_decide_eq_true this)
        · omega
      have h' : ¬ nI w ≤ nI i := t49 (by omega) (by omega) (by omega)
      have es : nI i + 1 = nI (i + 1) := q_s i
      have b11 : ix (nI c) 11 := q_ix (by omega) (by omega)
      have c1 : (nI c).toNatClampNeg = c := q_cl (by omega)
      obtain ⟨q, hq, e5, n1, n2⟩ := sr_eq (b := b) (e := e) hw hc (by omega) hr
      have cg : ∀ {p}, kUsd w b e rm c p ↔ kUsd w b' e' ex c p := fun {p} => kUsd_congr hc hR (fun k hk => (hr k hk).1)
      have e6 := r42 (K := f_X3_roomsNow_33 u) hw hc (show q ≤ 8 by omega) (fun z => n1 (cg.mpr z)) (fun p hp => cg.mp (n2 p hp)) 120 0 0 (Nat.zero_le _) (Nat.zero_le _) (by omega) (fun i h => by omega)
      have e6' : f_X3_roomsNow_42 (f_X3_roomsNow_33 u) 120 b' e' (nI w) ex (nI c) 0 0 = (f_X3_nextWish w b' (nI w) (upd ex c (nI q))).bind fun y => f_X3_roomsNow_33 u b' e' (nI w) (upd ex c (nI q)) y := e6
      have hqm : ¬ nI q = -1 := by rw [nI_m1 (show q ≤ 65536 by omega)]; exact id
      have hr2 : kRel w (i + 1) (upd rm c (nI q)) (upd ex c (nI q)) := fun k hk => by
        rw [updI_at, updI_at]
        by_cases e9 : k = c
        · rw [if_pos e9, if_pos e9]; exact ⟨rfl, Or.inr ⟨q, by omega, rfl⟩⟩
        · rw [if_neg e9, if_neg e9]
          obtain ⟨a1, a2⟩ := hr k hk
          refine ⟨a1, ?_⟩
          rcases a2 with a2 | ⟨r, a2, a3⟩
          · exact Or.inl a2
          · exact Or.inr ⟨r, by omega, a3⟩
      have hct2 : kCt (fun k => decide (¬ upd rm c (nI q) k = -1)) w = i + 1 := by
        rw [← hct]
        refine kCt_more (c := c) (decide_eq_false (fun z => z hg)) (decide_eq_true (by rw [updI_at, if_pos rfl]; exact hqm)) w (fun j hj hn => ?_) hc
        show decide _ = decide _
        rw [updI_at, if_neg hn]
      obtain ⟨rm', ex', k1, k3, k4⟩ := ih (i + 1) _ _ (by omega) (by omega) hr2 hct2
      refine ⟨rm', ex', ?_, ?_, k4⟩
      · simp only [f_X1_findRooms_23, f_X0_count, Option.bind_some, if_neg h', g1', nI_m1 (show c ≤ 65536 by omega), if_false, e5, if_pos b11, c1, es, k1]
      · simp only [g3', Option.bind_some, f_X3_roomsNow_33, nI_lt0 (show c ≤ 65536 by omega), if_false, e6', k3]
theorem fr2_loop {b e : Nat → Int64} {wc : Int32} : ∀ (u i : Nat) (rm : Nat → Int32), i ≤ 11 → 11 - i < u → ∃ rm', f_X1_findRooms_2 u b e wc rm (nI i) = f_X1_findRooms_23 24 b e wc rm' 0 ∧ ∀ k, (k < i → rm' k = rm k) ∧ (i ≤ k → k < 11 → rm' k = -1) := by
  intro u
  induction u with
  | zero => intro i rm hi hf; omega
  | succ u ih =>
    intro i rm hi hf
    by_cases h : 11 ≤ i
    · have h' : (11 : Int32) ≤ nI i := (q_le (a := 11) (by omega) (by omega)).mpr h
      refine ⟨rm, ?_, fun k => ⟨fun _ => rfl, fun h1 h2 => by omega⟩⟩
      simp only [f_X1_findRooms_2, if_pos h']
    · have h' : ¬ (11 : Int32) ≤ nI i := t49 (a := 11) (by omega) (by omega) h
      have b11 : ix (nI i) 11 := q_ix (by omega) (by omega)
      have c1 : (nI i).toNatClampNeg = i := q_cl (by omega)
      obtain ⟨rm', g1, g2⟩ := ih (i + 1) (upd rm i (-1)) (by omega) (by omega)
      refine ⟨rm', ?_, fun k => ⟨fun h1 => ?_, fun h1 h2 => ?_⟩⟩
      · simp only [f_X1_findRooms_2, if_neg h', if_pos b11, c1, q_s, g1]
      · rw [(g2 k).1 (by omega), updI_at, if_neg (by omega)]
      · by_cases e9 : k = i
        · rw [(g2 k).1 (by omega), updI_at, if_pos e9]
        · exact (g2 k).2 (by omega) h2
theorem rn9_loop {b e : Nat → Int64} {w : Nat} (hw : w ≤ 8) : ∀ (u i : Nat) (ex : Nat → Int32), i ≤ w → w - i < u → ∃ ex', f_X3_roomsNow_9 u b e (nI w) ex (nI i) = ((f_X3_nextWish w b (nI w) ex').bind fun y => f_X3_roomsNow_33 24 b e (nI w) ex' y) ∧ ∀ k, (k < i → ex' k = ex k) ∧ (i ≤ k → k < w → ex' k = -1) := by
  intro u
  induction u with
  | zero => intro i ex hi hf; omega
  | succ u ih =>
    intro i ex hi hf
    have ew : (nI w).toNatClampNeg = w := q_cl (by omega)
    by_cases h : w ≤ i
    · have h' : nI w ≤ nI i := (q_le (by omega) (by omega)).mpr h
      refine ⟨ex, ?_, fun k => ⟨fun _ => rfl, fun h1 h2 => by omega⟩⟩
      simp only [f_X3_roomsNow_9, if_pos h', ew]
    · have h' : ¬ nI w ≤ nI i := t49 (by omega) (by omega) h
      have b2 : ix (nI i) w := q_ix (by omega) (by omega)
      have c1 : (nI i).toNatClampNeg = i := q_cl (by omega)
      obtain ⟨ex', g1, g2⟩ := ih (i + 1) (upd ex i (-1)) (by omega) (by omega)
      refine ⟨ex', ?_, fun k => ⟨fun h1 => ?_, fun h1 h2 => ?_⟩⟩
      · simp only [f_X3_roomsNow_9, if_neg h', ew, if_pos b2, c1, q_s, g1]
      · rw [(g2 k).1 (by omega), updI_at, if_neg (by omega)]
      · by_cases e9 : k = i
        · rw [(g2 k).1 (by omega), updI_at, if_pos e9]
        · exact (g2 k).2 (by omega) h2
theorem kCt_none {p : Nat → Bool} : ∀ m, (∀ j, j < m → p j = false) → kCt p m = 0 := by
  intro m
  induction m with
  | zero => intro h; rfl
  | succ m ih => intro h; rw [kCt, ih (fun j hj => h j (by omega)), h m (by omega)]; rfl
/-- the rooms, on both sides -/
theorem rooms_both {w : Nat} {wb we mwb mwe : Nat → Int64} {rm : Nat → Int32} (hW : kWish w wb we mwb mwe) (hw : w ≤ 8) : ∃ rm' ex', f_X1_findRooms wb we (nI w) rm = some rm' ∧ f_X3_roomsNow mwb mwe (nI w) = some ex' ∧ ∀ k, k < w → rm' k = ex' k ∧ ∃ r, r < 8 ∧ rm' k = nI r := by
  obtain ⟨rm1, g1, h1⟩ := fr2_loop (b := wb) (e := we) (wc := nI w) 24 0 rm (by omega) (by omega)
  obtain ⟨ex1, g3, h3⟩ := rn9_loop (b := mwb) (e := mwe) hw 24 0 (fun _ => 0) (Nat.zero_le _) (by omega)
  obtain ⟨rm', ex', k1, k3, k4⟩ := rooms_loop hw hW.bo 24 0 rm1 ex1 (Nat.zero_le _) (by omega) (fun k hk => by
    have a1 := (h1 k).2 (Nat.zero_le _) (by omega)
    have a3 := (h3 k).2 (Nat.zero_le _) hk
    exact ⟨by rw [a1, a3], Or.inl a1⟩) (kCt_none w (fun j hj => decide_eq_false (fun z => z ((h1 j).2 (Nat.zero_le _) (by omega)))))
  have a17 : ix (nI w) 17 := q_ix (by omega) (by omega)
  refine ⟨rm', ex', g1.trans k1, ?_, k4⟩
  unfold f_X3_roomsNow
  rw [if_pos a17]
  exact g3.trans k3
theorem rc_loop {w : Nat} {rm ex : Nat → Int32} (hw : w ≤ 8) (h : ∀ k, k < w → rm k = ex k) : ∀ (u i : Nat) (a : Int32), i ≤ w → w - i < u → ∃ z, f_X1_roomCount_4 u (nI w) rm a (nI i) = some z ∧ f_X3_roomsOf_13 u (nI w) ex a (nI w) (nI i) = some z := by
  intro u
  induction u with
  | zero => intro i a hi hf; omega
  | succ u ih =>
    intro i a hi hf
    have ew : (nI w).toNatClampNeg = w := q_cl (by omega)
    by_cases h1 : w ≤ i
    · have h' : nI w ≤ nI i := (q_le (by omega) (by omega)).mpr h1
      refine ⟨a, ?_, ?_⟩
      · simp only [f_X1_roomCount_4, f_X0_count, Option.bind_some, if_pos h']
      · simp only [f_X3_roomsOf_13, if_pos h']
    · have h' : ¬ nI w ≤ nI i := t49 (by omega) (by omega) h1
      have b2 : ix (nI i) w := q_ix (by omega) (by omega)
      have b11 : ix (nI i) 11 := q_ix (by omega) (by omega)
      have c1 : (nI i).toNatClampNeg = i := q_cl (by omega)
      obtain ⟨z, g1, g3⟩ := ih (i + 1) (if a < ex i + 1 then ex i + 1 else a) (by omega) (by omega)
      refine ⟨z, ?_, ?_⟩
      · simp only [f_X1_roomCount_4, f_X0_count, Option.bind_some, if_neg h', if_pos b11, c1, h i (by omega), q_s, g1]
      · simp only [f_X3_roomsOf_13, if_neg h', ew, if_pos b2, c1, q_s, g3]
theorem count_both {w : Nat} {mwb mwe : Nat → Int64} {rm ex : Nat → Int32} (hw : w ≤ 8) (h : ∀ k, k < w → rm k = ex k) (e3 : f_X3_roomsNow mwb mwe (nI w) = some ex) : ∃ z, f_X1_roomCount (nI w) rm = some z ∧ f_X3_roomsOf mwb mwe (nI w) = some z := by
  obtain ⟨z, g1, g3⟩ := rc_loop hw h 24 0 0 (Nat.zero_le _) (by omega)
  have ew : Int32.ofNat (nI w).toNatClampNeg = nI w := by rw [q_cl (show w ≤ 65536 by omega)]; rfl
  refine ⟨z, g1, ?_⟩
  simp only [f_X3_roomsOf, e3, Option.bind_some, ew]
  exact g3
abbrev kObR (A : Option (Int32 × (Nat → Int32) × Int64)) (B : Option (Int32 × Int32)) : Prop := ∃ r r', A = some r ∧ B = some r' ∧ r'.2 = r.1 ∧ (r.1 = 0 → r.2.2 = r'.1.toInt64)
theorem ob_room {w : Nat} {wb we mwb mwe : Nat → Int64} {rm : Nat → Int32} {on : Int64} {p0 : Int32} (hW : kWish w wb we mwb mwe) (hw : w ≤ 8) : kObR (f_L_room wb we (nI w) rm on p0) (f_X3_room mwb mwe (nI w) p0) := by
  have hN : w ≤ 65536 := by omega
  by_cases h0 : ix p0 w
  · obtain ⟨rm', ex', e1, e3, hk⟩ := rooms_both (rm := rm) hW hw
    have ew : (nI w).toNatClampNeg = w := q_cl hN
    have a11 : ix p0 11 := ix_mono h0 (by omega)
    simp only [kObR, f_L_room, fx_X1_room, f_X1_room, numIn hN, if_pos h0, xb_n, Option.bind_some, e1, if_pos a11, f_X3_room, isWish3 hN, t10, if_false, f_X3_room_14, thrown3', if_true, e3, ew]
    exact ⟨_, _, rfl, rfl, rfl, fun _ => by rw [(hk _ (cl_lt h0)).1]⟩
  · simp only [kObR, f_L_room, fx_X1_room, numIn hN, if_neg h0, xb_s, u12, if_true, f_X3_room, isWish3 hN, Option.bind_some, f_X3_room_14, thrown3', t10, if_false]
    exact ⟨_, _, rfl, rfl, rfl, fun z => no1 z⟩
theorem ob_rooms {w : Nat} {wb we mwb mwe : Nat → Int64} {rm : Nat → Int32} (hW : kWish w wb we mwb mwe) (hw : w ≤ 8) : ∃ r r', f_X1_rooms wb we (nI w) rm = some r ∧ f_X3_rooms mwb mwe (nI w) = some r' ∧ r.1 = r'.1 := by
  obtain ⟨rm', ex', e1, e3, hk⟩ := rooms_both (rm := rm) hW hw
  obtain ⟨z, g1, g3⟩ := count_both hw (fun k h => (hk k h).1) e3
  simp only [f_X1_rooms, e1, g1, f_X3_rooms, g3, Option.bind_some]
  exact ⟨_, _, rfl, rfl, rfl⟩
