/-! what is free: the pieces, as both sides find them -/
/-- m pieces from number i on are just what is free from x to un -/
def kPcs (T : Int → Prop) (un : Int) (P R : Nat → Int64) : Nat → Nat → Int → Prop
  | 0, _, x => ∀ q, x ≤ q → q < un → T q
  | m + 1, i, x => x ≤ (P i).toInt ∧ (∀ q, x ≤ q → q < (P i).toInt → T q) ∧ (P i).toInt < (R i).toInt ∧ (∀ q, (P i).toInt ≤ q → q < (R i).toInt → ¬ T q) ∧ (R i).toInt ≤ un ∧ ((R i).toInt < un → T (R i).toInt) ∧ kPcs T un P R m (i + 1) (R i).toInt
theorem kPcs_uniq {T : Int → Prop} {un : Int} {P R P' R' : Nat → Int64} : ∀ (m m' i : Nat) (x : Int), kPcs T un P R m i x → kPcs T un P' R' m' i x → m = m' ∧ ∀ k, i ≤ k → k < i + m → P k = P' k ∧ R k = R' k := by
  intro m
  induction m with
  | zero =>
    intro m' i x h h'
    cases m' with
    | zero => exact ⟨rfl, fun k h1 h2 => by omega⟩
    | succ m' =>
      obtain ⟨a1, a2, a3, a4, a5, a6, a7⟩ := h'
      exact absurd (h _ a1 (by omega)) (a4 _ (Int.le_refl _) a3)
  | succ m ih =>
    intro m' i x h h'
    obtain ⟨b1, b2, b3, b4, b5, b6, b7⟩ := h
    cases m' with
    | zero => exact absurd (h' _ b1 (by omega)) (b4 _ (Int.le_refl _) b3)
    | succ m' =>
      obtain ⟨a1, a2, a3, a4, a5, a6, a7⟩ := h'
      have eP : (P i).toInt = (P' i).toInt := by
        rcases Int.lt_trichotomy (P i).toInt (P' i).toInt with z | z | z
        · exact absurd (a2 _ b1 z) (b4 _ (Int.le_refl _) b3)
        · exact z
        · exact absurd (b2 _ a1 z) (a4 _ (Int.le_refl _) a3)
      have eR : (R i).toInt = (R' i).toInt := by
        rcases Int.lt_trichotomy (R i).toInt (R' i).toInt with z | z | z
        · exact absurd (b6 (by omega)) (a4 _ (by omega) z)
        · exact z
        · exact absurd (a6 (by omega)) (b4 _ (by omega) z)
      rw [← eR] at a7
      obtain ⟨c1, c2⟩ := ih m' (i + 1) _ b7 a7
      refine ⟨by rw [c1], fun k h1 h2 => ?_⟩
      by_cases e9 : k = i
      · rw [e9]; exact ⟨Int64.toInt_inj.mp eP, Int64.toInt_inj.mp eR⟩
      · exact c2 k (by omega) (by omega)
theorem kPcs_congr {T T' : Int → Prop} {un : Int} {P R : Nat → Int64} (h : ∀ q, T q ↔ T' q) : ∀ (m i : Nat) (x : Int), kPcs T un P R m i x → kPcs T' un P R m i x := by
  intro m
  induction m with
  | zero => intro i x hh q h1 h2; exact (h q).mp (hh q h1 h2)
  | succ m ih =>
    intro i x hh
    obtain ⟨b1, b2, b3, b4, b5, b6, b7⟩ := hh
    exact ⟨b1, fun q h1 h2 => (h q).mp (b2 q h1 h2), b3, fun q h1 h2 z => b4 q h1 h2 ((h q).mpr z), b5, fun z => (h _).mp (b6 z), ih _ _ b7⟩
theorem kPcs_in {T : Int → Prop} {un : Int} {P R : Nat → Int64} : ∀ (m i : Nat) (x : Int), kPcs T un P R m i x → ∀ k, i ≤ k → k < i + m → x ≤ (P k).toInt ∧ (P k).toInt < (R k).toInt ∧ (R k).toInt ≤ un ∧ ∀ q, (P k).toInt ≤ q → q < (R k).toInt → ¬ T q := by
  intro m
  induction m with
  | zero => intro i x hh k h1 h2; omega
  | succ m ih =>
    intro i x hh k h1 h2
    obtain ⟨b1, b2, b3, b4, b5, b6, b7⟩ := hh
    by_cases e9 : k = i
    · rw [e9]; exact ⟨b1, b3, b5, b4⟩
    · obtain ⟨c1, c2, c3, c4⟩ := ih (i + 1) _ b7 k (by omega) (by omega)
      exact ⟨by omega, c2, c3, c4⟩
theorem e1_64 : (1 : Int64).toInt = 1 := by decide
theorem kOn1 : kOn 1 := ⟨by rw [e1_64]; omega, by rw [e1_64]; omega⟩
theorem fw_eq {b e : Nat → Int64} {n : Nat} {x : Int64} (hn : n ≤ 11) : f_X0_firstWith b e (nI n) x = some (kF (fun k => decide (nI k ≠ -1 ∧ b k < x + 1 ∧ x < e k)) 0 n) := by
  simp only [f_X0_firstWith, fm_eq hn, Option.bind_some]
theorem fw_cases {b e : Nat → Int64} {n : Nat} {x : Int64} (hn : n ≤ 11) (hx : kLet x) : (f_X0_firstWith b e (nI n) x = some (-1) ∧ ¬ kMt n b e 1 x.toInt) ∨ ∃ k, k < n ∧ f_X0_firstWith b e (nI n) x = some (nI k) ∧ (b k).toInt ≤ x.toInt ∧ x.toInt < (e k).toInt := by
  rcases kF_m1 (p := fun k => decide (nI k ≠ -1 ∧ b k < x + 1 ∧ x < e k)) n 0 (by omega) with ⟨e1, h1⟩ | ⟨k, -, hk, hp, e1, e2, -⟩
  · have h9 := fm_no hx kOn1 h1 (by omega)
    rw [e1_64] at h9
    exact Or.inl ⟨by rw [fw_eq hn, e1], h9⟩
  · obtain ⟨-, h2, h3⟩ := of_decide_eq_true hp
    rw [lt64, addBy hx kOn1.by, e1_64] at h2
    rw [lt64] at h3
    exact Or.inr ⟨k, by omega, by rw [fw_eq hn, e1], by omega, h3⟩
theorem nb_loop {b : Nat → Int64} {n : Nat} {x : Int64} (hn : n ≤ 11) : ∀ (u i : Nat) (y : Int64), i ≤ n → n - i < u → ∃ z, f_X0_nextBegin_6 u b (nI n) x y (nI i) = some z ∧ z ≤ y ∧ (z = y ∨ ∃ k, k < n ∧ z = b k ∧ x ≤ b k) ∧ ∀ k, i ≤ k → k < n → x ≤ b k → z ≤ b k := by
  intro u
  induction u with
  | zero => intro i y hi hf; omega
  | succ u ih =>
    intro i y hi hf
    by_cases h : n ≤ i
    · have h' : nI n ≤ nI i := (q_le (by omega) (by omega)).mpr h
      refine ⟨y, ?_, Int64.le_refl _, Or.inl rfl, fun k h1 h2 => by omega⟩
      simp only [f_X0_nextBegin_6, if_pos h']
    · have h' : ¬ nI n ≤ nI i := t49 (by omega) (by omega) h
      have es : nI i + 1 = nI (i + 1) := q_s i
      have ei : (nI i).toNatClampNeg = i := q_cl (by omega)
      have a1 : ix (nI i) 11 := q_ix (by omega) (by omega)
      by_cases h1 : b i < x
      · obtain ⟨z, e3, g1, g2, g3⟩ := ih (i + 1) y (by omega) (by omega)
        refine ⟨z, ?_, g1, g2, fun k h2 h3 h4 => ?_⟩
        · simp only [f_X0_nextBegin_6, if_neg h', if_pos a1, ei, if_pos h1, es, e3]
        · by_cases e9 : k = i
          · rw [e9] at h4; exact absurd h1 (Int64.not_lt.mpr h4)
          · exact g3 k (by omega) h3 h4
      · by_cases h5 : y ≤ b i
        · obtain ⟨z, e3, g1, g2, g3⟩ := ih (i + 1) y (by omega) (by omega)
          refine ⟨z, ?_, g1, g2, fun k h2 h3 h4 => ?_⟩
          · simp only [f_X0_nextBegin_6, if_neg h', if_pos a1, ei, if_neg h1, if_pos h5, es, e3]
          · by_cases e9 : k = i
            · rw [e9]; exact Int64.le_trans g1 h5
            · exact g3 k (by omega) h3 h4
        · obtain ⟨z, e3, g1, g2, g3⟩ := ih (i + 1) (b i) (by omega) (by omega)
          refine ⟨z, ?_, Int64.le_trans g1 (Int64.le_of_lt (Int64.not_le.mp h5)), Or.inr ?_, fun k h2 h3 h4 => ?_⟩
          · simp only [f_X0_nextBegin_6, if_neg h', if_pos a1, ei, if_neg h1, if_neg h5, es, e3]
          · rcases g2 with g2 | g2
            · exact ⟨i, by omega, g2, Int64.not_lt.mp h1⟩
            · exact g2
          · by_cases e9 : k = i
            · rw [e9]; exact g1
            · exact g3 k (by omega) h3 h4
theorem nb_eq {b : Nat → Int64} {n : Nat} {x y : Int64} (hn : n ≤ 11) : ∃ z, f_X0_nextBegin b (nI n) x y = some z ∧ z ≤ y ∧ (z = y ∨ ∃ k, k < n ∧ z = b k ∧ x ≤ b k) ∧ ∀ k, k < n → x ≤ b k → z ≤ b k := by
  obtain ⟨z, e3, g1, g2, g3⟩ := nb_loop (b := b) (x := x) hn 24 0 y (Nat.zero_le _) (by omega)
  exact ⟨z, e3, g1, g2, fun k h => g3 k (Nat.zero_le _) h⟩
/-- what the class finds taken first, from a free moment on -/
theorem ft_eq {un : Int64} {b e : Nat → Int64} {n : Nat} {r : Int64} (hn : n ≤ 10) (hr : kLet r) (hT : ¬ kMt n b e 1 r.toInt) : ∃ z, f_X1_firstTaken un b e (nI n) r = some z ∧ z ≤ un ∧ (z = un ∨ ∃ k, k < n ∧ z = b k ∧ r ≤ b k) ∧ ∀ k, k < n → r ≤ b k → z ≤ b k := by
  obtain ⟨z, e3, g⟩ := nb_eq (b := b) (x := r) (y := un) (show n ≤ 11 by omega)
  rcases fw_cases (b := b) (e := e) (show n ≤ 11 by omega) hr with ⟨e1, -⟩ | ⟨k, hk, -, h1, h2⟩
  · refine ⟨z, ?_, g⟩
    simp only [f_X1_firstTaken, e1, Option.bind_some, tm1, if_true, e3]
  · exact absurd ⟨k, hk, by omega, h2⟩ hT
theorem ft_tk {un : Int64} {b e : Nat → Int64} {n : Nat} {r : Int64} (hn : n ≤ 10) (hr : kLet r) (hT : kMt n b e 1 r.toInt) : f_X1_firstTaken un b e (nI n) r = some r := by
  rcases fw_cases (b := b) (e := e) (show n ≤ 11 by omega) hr with ⟨-, e1⟩ | ⟨k, hk, e1, h1, h2⟩
  · exact absurd hT e1
  · simp only [f_X1_firstTaken, e1, Option.bind_some, nI_m1 (show k ≤ 65536 by omega), if_false]
abbrev kIns (fr un : Int64) (n : Nat) (b e : Nat → Int64) : Prop := ∀ k, k < n → fr.toInt ≤ (b k).toInt ∧ (e k).toInt ≤ un.toInt
theorem kMt.ab {n : Nat} {b e : Nat → Int64} {q : Int} (h : kMt n b e 1 q) : 1 ≤ kAb e q n := by
  obtain ⟨k, hk, -, h2⟩ := h
  exact kAb_pos h2 n hk
/-- behind a span that had x nothing free comes without one piece less -/
theorem kAb_pass {n : Nat} {b e : Nat → Int64} {x r z : Int} (hx : kMt n b e 1 x) (hxr : x ≤ r) (hr : ¬ kMt n b e 1 r) (hz : r ≤ z) : kAb e z n + 1 ≤ kAb e x n := by
  obtain ⟨k, hk, h1, h2⟩ := hx
  refine kAb_lt (by omega) h2 ?_ n hk
  by_cases h3 : r < (e k).toInt
  · exact absurd ⟨k, hk, by omega, h3⟩ hr
  · omega
theorem not_between {n : Nat} {b e : Nat → Int64} {r z : Int} (hr : ¬ kMt n b e 1 r) (hz : ∀ k, k < n → r ≤ (b k).toInt → z ≤ (b k).toInt) (q : Int) (h1 : r ≤ q) (h2 : q < z) : ¬ kMt n b e 1 q := fun ⟨k, hk, h3, h4⟩ => by
  by_cases h5 : r ≤ (b k).toInt
  · have := hz k hk h5; omega
  · exact hr ⟨k, hk, by omega, by omega⟩
theorem ff_loop {fr un : Int64} {n : Nat} {sb se : Nat → Int64} (hn : n ≤ 10) (hu : kLet un) (hb : kPie n sb se) (hin : kIns fr un n sb se) : ∀ (u i j : Nat) (fb fe : Nat → Int64) (fo : Nat → Int32) (x : Int64), j ≤ i → kLet x → x.toInt ≤ un.toInt → i ≤ n + 1 → (n + 1) - i < u → (0 < i → x.toInt < un.toInt → kMt n sb se 1 x.toInt) → (i = 0 ∨ i + kAb se x.toInt n ≤ n + 1) → ∃ m fb2 fe2 fo2, f_X1_findFrees_15 u un sb se (nI n) fb fe fo (nI j) x (nI i) = some (fb2, fe2, fo2, nI (j + m)) ∧ j + m ≤ 11 ∧ (∀ k, k < j → fb2 k = fb k ∧ fe2 k = fe k) ∧ kPcs (kMt n sb se 1) un.toInt fb2 fe2 m j x.toInt := by
  intro u
  induction u with
  | zero => intro i j fb fe fo x hj hx hxu hi hf; omega
  | succ u ih =>
    intro i j fb fe fo x hj hx hxu hi hf h0 hab
    by_cases h : n < i
    · have h' : nI n < nI i := (q_lt (by omega) (by omega)).mpr h
      refine ⟨0, fb, fe, fo, ?_, by omega, fun k hk => ⟨rfl, rfl⟩, fun q h1 h2 => ?_⟩
      · simp only [f_X1_findFrees_15, f_X0_count, Option.bind_some, if_pos h']; rfl
      · have := (h0 (by omega) (by omega)).ab
        omega
    · have h' : ¬ nI n < nI i := fun z => h ((q_lt (by omega) (by omega)).mp z)
      by_cases h1 : un ≤ x
      · have h1' := le64.mp h1
        refine ⟨0, fb, fe, fo, ?_, by omega, fun k hk => ⟨rfl, rfl⟩, fun q h2 h3 => by omega⟩
        simp only [f_X1_findFrees_15, f_X0_count, Option.bind_some, if_neg h', if_pos h1]; rfl
      · have h1' : x.toInt < un.toInt := by rw [le64] at h1; omega
        have hu1 : 1 ≤ u := by clear h0; omega
        have hf1 : (n + 1) - (i + 1) < u := by clear h0; omega
        have hi1 : i + 1 ≤ n + 1 := by clear h0; omega
        have hj11 : j < 11 := by clear h0; omega
        have es : nI i + 1 = nI (i + 1) := q_s i
        obtain ⟨r, e4, hr, g1, g2, g3, g4⟩ := ws_eq hn kOn1 hb hx
        rw [e1_64] at g2 g3
        have hru : r.toInt ≤ un.toInt := by
          rcases g4 with g4 | ⟨k, hk, g4⟩
          · rw [g4]; exact hxu
          · rw [g4]; exact (hin k hk).2
        obtain ⟨z, e5, k1, k2, k3⟩ := ft_eq (un := un) hn hr g3
        have k1' := le64.mp k1
        have k3' : ∀ k, k < n → r.toInt ≤ (sb k).toInt → z.toInt ≤ (sb k).toInt := fun k hk h9 => le64.mp (k3 k hk (le64.mpr h9))
        by_cases h2 : z ≤ r
        · have h2' := le64.mp h2
          have hzu : r.toInt = un.toInt := by
            rcases k2 with k2 | ⟨k, hk, k2, k4⟩
            · rw [k2] at h2'; omega
            · have b3 := (hb k hk).2.2
              rw [← k2] at b3
              rw [← k2] at k4
              have k4' := le64.mp k4
              exact absurd ⟨k, hk, by rw [← k2]; omega, by omega⟩ g3
          have hz : un ≤ z := by
            rcases k2 with k2 | ⟨k, hk, k2, k4⟩
            · rw [k2]; exact Int64.le_refl _
            · rw [← k2] at k4
              rw [le64]; have := le64.mp k4; omega
          refine ⟨0, fb, fe, fo, ?_, by omega, fun k hk => ⟨rfl, rfl⟩, fun q h3 h4 => g2 q h3 (by omega)⟩
          obtain ⟨u, rfl⟩ : ∃ v, u = v + 1 := ⟨u - 1, (Nat.sub_add_cancel hu1).symm⟩
          by_cases h6 : nI n < nI (i + 1)
          · simp only [f_X1_findFrees_15, f_X0_count, Option.bind_some, if_neg h', if_neg h1, e4, e5, if_pos h2, es, if_pos h6]; rfl
          · simp only [f_X1_findFrees_15, f_X0_count, Option.bind_some, if_neg h', if_neg h1, e4, e5, if_pos h2, es, if_neg h6, if_pos hz]; rfl
        · have h2' : r.toInt < z.toInt := by rw [le64] at h2; omega
          have hzl : kLet z := ⟨by have := hr.1; omega, by have := hu.2; omega⟩
          have hzT : z.toInt < un.toInt → kMt n sb se 1 z.toInt := fun h9 => by
            rcases k2 with k2 | ⟨k, hk, k2, k4⟩
            · rw [k2] at h9; omega
            · have b3 := (hb k hk).2.2
              rw [← k2] at b3
              exact ⟨k, hk, by rw [← k2]; omega, b3⟩
          have hab2 : i + 1 + kAb se z.toInt n ≤ n + 1 := by
            by_cases h9 : i = 0
            · have := kAb_le (e := se) (x := z.toInt) n; omega
            · have := kAb_pass (h0 (by omega) h1') g1 g3 (show r.toInt ≤ z.toInt by omega)
              rcases hab with hab | hab <;> omega
          obtain ⟨m, fb2, fe2, fo2, e9, c1, c2, c3⟩ := ih (i + 1) (j + 1) (vp_updL fb j r) (vp_updL fe j z) (upd fo j (vp_nar .boolean 0)) z (Nat.succ_le_succ hj) hzl k1' hi1 hf1 (fun _ => hzT) (Or.inr hab2)
          have a3 : nI j < 11 := (q_lt (b := 11) (by omega) (by omega)).mpr (by omega)
          have a4 : ix (nI j) 11 := q_ix (by omega) (by omega)
          have a5 : (nI j).toNatClampNeg = j := q_cl (by omega)
          have a6 : nI j + 1 = nI (j + 1) := q_s j
          obtain ⟨d1, d2⟩ := c2 j (by omega)
          rw [upd_at, if_pos rfl] at d1
          rw [upd_at, if_pos rfl] at d2
          refine ⟨m + 1, fb2, fe2, fo2, ?_, by omega, fun k hk => ?_, ?_⟩
          · simp only [f_X1_findFrees_15, f_X0_count, Option.bind_some, if_neg h', if_neg h1, e4, e5, if_neg h2, f_X0_add, if_pos a3, if_pos a4, a5, a6, es, e9]
            rw [show j + 1 + m = j + (m + 1) by omega]
          · obtain ⟨d3, d4⟩ := c2 k (by omega)
            rw [upd_at, if_neg (by omega)] at d3
            rw [upd_at, if_neg (by omega)] at d4
            exact ⟨d3, d4⟩
          · refine ⟨by rw [d1]; exact g1, fun q h3 h4 => g2 q h3 (by rw [← d1]; exact h4), by rw [d1, d2]; exact h2', ?_, by rw [d2]; exact k1', by rw [d2]; exact hzT, by rw [d2]; exact c3⟩
            rw [d1, d2]
            exact not_between g3 k3'
theorem ff_eq {fr un : Int64} {n : Nat} {sb se fb fe : Nat → Int64} {fo : Nat → Int32} {fc : Int32} (hn : n ≤ 10) (hf : kLet fr) (hu : kLet un) (hfu : fr < un) (hb : kPie n sb se) (hin : kIns fr un n sb se) : ∃ m fb2 fe2 fo2, f_X1_findFrees fr un sb se (nI n) fb fe fo fc = some (fb2, fe2, fo2, nI m) ∧ m ≤ 11 ∧ kPcs (kMt n sb se 1) un.toInt fb2 fe2 m 0 fr.toInt := by
  obtain ⟨m, fb2, fe2, fo2, e9, c1, -, c3⟩ := ff_loop hn hu hb hin 24 0 0 fb fe fo fr (Nat.le_refl _) hf (by have := lt64.mp hfu; omega) (by omega) (by omega) (fun h => by omega) (Or.inl rfl)
  rw [Nat.zero_add] at e9 c1
  rw [← q_0] at e9
  refine ⟨m, fb2, fe2, fo2, ?_, c1, c3⟩
  simp only [f_X1_findFrees, f_X0_clear, Option.bind_some, e9]
/-! the reference -/
theorem sp_loop {b e : Nat → Int64} {n : Nat} {x : Int64} (hn : n ≤ 10) : ∀ (u i : Nat), i ≤ n → n - i < u → f_X3_spanAt_2 u b e (nI n) x (nI i) = some (kF (fun k => decide (b k ≤ x ∧ x < e k)) i (n - i)) := by
  intro u
  induction u with
  | zero => intro i hi hf; omega
  | succ u ih =>
    intro i hi hf
    by_cases h : n ≤ i
    · have h' : nI n ≤ nI i := (q_le (by omega) (by omega)).mpr h
      rw [show n - i = 0 by omega, kF]
      simp only [f_X3_spanAt_2, if_pos h']
    · have h' : ¬ nI n ≤ nI i := t49 (by omega) (by omega) h
      have es : nI i + 1 = nI (i + 1) := q_s i
      have ei : (nI i).toNatClampNeg = i := q_cl (by omega)
      have a1 : ix (nI i) 10 := q_ix (by omega) (by omega)
      have hh := ih (i + 1) (by omega) (by omega)
      rw [show n - i = (n - (i + 1)) + 1 by omega, kF]
      by_cases h1 : x < b i
      · rw [if_neg (by simp [Int64.not_le.mpr h1])]
        simp only [f_X3_spanAt_2, if_neg h', if_pos a1, ei, if_pos h1, es, hh]
      · by_cases h2 : e i ≤ x
        · rw [if_neg (by simp [Int64.not_lt.mpr h2])]
          simp only [f_X3_spanAt_2, if_neg h', if_pos a1, ei, if_neg h1, if_pos h2, es, hh]
        · rw [if_pos (decide_eq_true ⟨Int64.not_lt.mp h1, Int64.not_le.mp h2⟩)]
          simp only [f_X3_spanAt_2, if_neg h', if_pos a1, ei, if_neg h1, if_neg h2]
theorem sp_eq {b e : Nat → Int64} {n : Nat} {x : Int64} (hn : n ≤ 10) : f_X3_spanAt b e (nI n) x = some (kF (fun k => decide (b k ≤ x ∧ x < e k)) 0 n) :=
  sp_loop hn 24 0 (Nat.zero_le _) (by omega)
theorem sp_cases {b e : Nat → Int64} {n : Nat} {x : Int64} (hn : n ≤ 10) : (f_X3_spanAt b e (nI n) x = some (-1) ∧ ¬ kMt n b e 1 x.toInt) ∨ ∃ k, k < n ∧ f_X3_spanAt b e (nI n) x = some (nI k) ∧ (b k).toInt ≤ x.toInt ∧ x.toInt < (e k).toInt := by
  rcases kF_m1 (p := fun k => decide (b k ≤ x ∧ x < e k)) n 0 (by omega) with ⟨e1, h1⟩ | ⟨k, -, hk, hp, e1, e2, -⟩
  · refine Or.inl ⟨by rw [sp_eq hn, e1], fun ⟨k, hk, h2, h3⟩ => ?_⟩
    exact of_decide_eq_false (h1 k (by omega) (by omega)) ⟨le64.mpr (by omega), lt64.mpr h3⟩
  · obtain ⟨h2, h3⟩ := of_decide_eq_true hp
    exact Or.inr ⟨k, by omega, by rw [sp_eq hn, e1], le64.mp h2, lt64.mp h3⟩
theorem lm1 : ((-1 : Int32) < 0) = True := eq_true (by decide)
theorem nI_lt0 {n : Nat} (h : n ≤ 65536) : (nI n < 0) = False := eq_false (fun z => by
  rw [lt32, nI_toInt (by omega), i0] at z
  omega)
theorem f56 {K : Int64 → (Nat → Int64) → (Nat → Int64) → Int32 → (Nat → Int64) → Int32 → Int64 → Option (Nat → Int64)} {un : Int64} {b e v : Nat → Int64} {n c : Nat} (hn : n ≤ 10) (hc : c + 1 < 22) : ∀ (u i : Nat) (y : Int64), i ≤ n → n - i < u → ∃ z, f_X3_free_56 K u un b e (nI n) v (nI c) y (nI i) = K un b e (nI n) (vp_updL v (c + 1) z) (nI (c + 2)) z ∧ z ≤ y ∧ (z = y ∨ ∃ k, k < n ∧ z = b k ∧ v c < b k) ∧ ∀ k, i ≤ k → k < n → v c < b k → z ≤ b k := by
  intro u
  induction u with
  | zero => intro i y hi hf; omega
  | succ u ih =>
    intro i y hi hf
    have ec1 : nI c + 1 = nI (c + 1) := q_s c
    have ec2 : nI c + 2 = nI (c + 2) := nI_add c 2
    have ac : ix (nI (c + 1)) 22 := q_ix (by omega) (by omega)
    have ac0 : ix (nI c) 22 := q_ix (by omega) (by omega)
    have ec : (nI c).toNatClampNeg = c := q_cl (by omega)
    have ecc : (nI (c + 1)).toNatClampNeg = c + 1 := q_cl (by omega)
    by_cases h : n ≤ i
    · have h' : nI n ≤ nI i := (q_le (by omega) (by omega)).mpr h
      refine ⟨y, ?_, Int64.le_refl _, Or.inl rfl, fun k h1 h2 => by omega⟩
      simp only [f_X3_free_56, if_pos h', ec1, ec2, if_pos ac, ecc]
    · have h' : ¬ nI n ≤ nI i := t49 (by omega) (by omega) h
      have es : nI i + 1 = nI (i + 1) := q_s i
      have ei : (nI i).toNatClampNeg = i := q_cl (by omega)
      have a1 : ix (nI i) 10 := q_ix (by omega) (by omega)
      by_cases h1 : b i ≤ v c
      · obtain ⟨z, e3, g1, g2, g3⟩ := ih (i + 1) y (by omega) (by omega)
        refine ⟨z, ?_, g1, g2, fun k h2 h3 h4 => ?_⟩
        · simp only [f_X3_free_56, if_neg h', if_pos a1, if_pos ac0, ei, ec, if_pos h1, es, e3]
        · by_cases e9 : k = i
          · rw [e9] at h4; exact absurd h4 (Int64.not_lt.mpr h1)
          · exact g3 k (by omega) h3 h4
      · by_cases h5 : y ≤ b i
        · obtain ⟨z, e3, g1, g2, g3⟩ := ih (i + 1) y (by omega) (by omega)
          refine ⟨z, ?_, g1, g2, fun k h2 h3 h4 => ?_⟩
          · simp only [f_X3_free_56, if_neg h', if_pos a1, if_pos ac0, ei, ec, if_neg h1, if_pos h5, es, e3]
          · by_cases e9 : k = i
            · rw [e9]; exact Int64.le_trans g1 h5
            · exact g3 k (by omega) h3 h4
        · obtain ⟨z, e3, g1, g2, g3⟩ := ih (i + 1) (b i) (by omega) (by omega)
          refine ⟨z, ?_, Int64.le_trans g1 (Int64.le_of_lt (Int64.not_le.mp h5)), Or.inr ?_, fun k h2 h3 h4 => ?_⟩
          · simp only [f_X3_free_56, if_neg h', if_pos a1, if_pos ac0, ei, ec, if_neg h1, if_neg h5, es, e3]
          · rcases g2 with g2 | g2
            · exact ⟨i, by omega, g2, Int64.not_le.mp h1⟩
            · exact g2
          · by_cases e9 : k = i
            · rw [e9]; exact g1
            · exact g3 k (by omega) h3 h4
theorem fr_loop {fr un : Int64} {n : Nat} {b e : Nat → Int64} (hn : n ≤ 10) (hu : kLet un) (hb : kPie n b e) (hin : kIns fr un n b e) : ∀ (u j : Nat) (v : Nat → Int64) (x : Int64), kLet x → x.toInt ≤ un.toInt → 2 * kAb e x.toInt n + 1 ≤ u → (x.toInt < un.toInt → ¬ kMt n b e 1 x.toInt → 2 * kAb e x.toInt n + 2 ≤ u ∧ j + kAb e x.toInt n ≤ n) → j + kAb e x.toInt n ≤ n + 1 → (∀ k, 2 * j ≤ k → v k = 0) → ∃ m v2, f_X3_free_12 u un b e (nI n) v (nI (2 * j)) x = some v2 ∧ j + m ≤ 11 ∧ (∀ k, k < 2 * j → v2 k = v k) ∧ (∀ k, 2 * (j + m) ≤ k → v2 k = 0) ∧ kPcs (kMt n b e 1) un.toInt (fun k => v2 (2 * k)) (fun k => v2 (2 * k + 1)) m j x.toInt := by
  intro u
  induction u with
  | zero => intro j v x hx hxu hM; omega
  | succ u ih =>
    intro j v x hx hxu hM hM2 hj hv
    by_cases h1 : un ≤ x
    · have h1' := le64.mp h1
      refine ⟨0, v, ?_, by omega, fun k hk => rfl, fun k hk => hv k (by omega), fun q h2 h3 => by omega⟩
      simp only [f_X3_free_12, if_pos h1]
    · have h1' : x.toInt < un.toInt := by rw [le64] at h1; omega
      rcases sp_cases (b := b) (e := e) (x := x) hn with ⟨e1, hT⟩ | ⟨k, hk, e1, h2, h3⟩
      · obtain ⟨hM3, hj3⟩ := hM2 h1' hT
        have a1 : ix (nI (2 * j)) 22 := q_ix (by omega) (by omega)
        have ec : (nI (2 * j)).toNatClampNeg = 2 * j := q_cl (by omega)
        obtain ⟨z, e3, k1, k2, k3⟩ := f56 (K := f_X3_free_12 u) (un := un) (b := b) (e := e) (v := vp_updL v (2 * j) x) (c := 2 * j) hn (by omega) 24 0 un (Nat.zero_le _) (by omega)
        rw [upd_at, if_pos rfl] at k2 k3
        have k1' := le64.mp k1
        have k3' : ∀ k, k < n → x.toInt ≤ (b k).toInt → z.toInt ≤ (b k).toInt := fun k hk h9 => by
          by_cases h8 : x.toInt = (b k).toInt
          · exact absurd ⟨k, hk, by omega, by have := (hb k hk).2.2; omega⟩ hT
          · exact le64.mp (k3 k (Nat.zero_le _) hk (lt64.mpr (by omega)))
        have hxz : x.toInt < z.toInt := by
          rcases k2 with k2 | ⟨k, hk, k2, k4⟩
          · rw [k2]; exact h1'
          · rw [k2]; exact lt64.mp k4
        have hzl : kLet z := ⟨by have := hx.1; omega, by have := hu.2; omega⟩
        have hzT : z.toInt < un.toInt → kMt n b e 1 z.toInt := fun h9 => by
          rcases k2 with k2 | ⟨k, hk, k2, k4⟩
          · rw [k2] at h9; omega
          · have b3 := (hb k hk).2.2
            rw [← k2] at b3
            exact ⟨k, hk, by rw [← k2]; omega, b3⟩
        have hmo := kAb_mono (e := e) (show x.toInt ≤ z.toInt by omega) n
        obtain ⟨m, v2, e9, c1, c2, c4, c3⟩ := ih (j + 1) (vp_updL (vp_updL v (2 * j) x) (2 * j + 1) z) z hzl k1' (by omega) (fun h7 h8 => absurd (hzT h7) h8) (by omega) (fun k hk => by rw [upd_at, if_neg (by omega), upd_at, if_neg (by omega)]; exact hv k (by omega))
        have d1 : v2 (2 * j) = x := by rw [c2 (2 * j) (by omega), upd_at, if_neg (by omega), upd_at, if_pos rfl]
        have d2 : v2 (2 * j + 1) = z := by rw [c2 (2 * j + 1) (by omega), upd_at, if_pos rfl]
        have e3' : f_X3_free_56 (f_X3_free_12 u) 24 un b e (nI n) (vp_updL v (2 * j) x) (nI (2 * j)) un 0 = f_X3_free_12 u un b e (nI n) (vp_updL (vp_updL v (2 * j) x) (2 * j + 1) z) (nI (2 * j + 2)) z := e3
        have e9' : f_X3_free_12 u un b e (nI n) (vp_updL (vp_updL v (2 * j) x) (2 * j + 1) z) (nI (2 * j + 2)) z = some v2 := e9
        refine ⟨m + 1, v2, ?_, by omega, fun k hk => ?_, fun k hk => c4 k (by omega), ?_⟩
        · simp only [f_X3_free_12, if_neg h1, e1, Option.bind_some, lm1, if_true, if_pos a1, ec, e3', e9']
        · rw [c2 k (by omega), upd_at, if_neg (by omega), upd_at, if_neg (by omega)]
        · refine ⟨?_, fun q h3 h4 => ?_, ?_, ?_, ?_, ?_, ?_⟩
          · show x.toInt ≤ (v2 (2 * j)).toInt
            rw [d1]; exact Int.le_refl _
          · have h4' : q < (v2 (2 * j)).toInt := h4
            rw [d1] at h4'; omega
          · show (v2 (2 * j)).toInt < (v2 (2 * j + 1)).toInt
            rw [d1, d2]; exact hxz
          · show ∀ q, (v2 (2 * j)).toInt ≤ q → q < (v2 (2 * j + 1)).toInt → _
            rw [d1, d2]; exact not_between hT k3'
          · show (v2 (2 * j + 1)).toInt ≤ un.toInt
            rw [d2]; exact k1'
          · show (v2 (2 * j + 1)).toInt < un.toInt → kMt n b e 1 (v2 (2 * j + 1)).toInt
            rw [d2]; exact hzT
          · show kPcs _ _ _ _ m (j + 1) (v2 (2 * j + 1)).toInt
            rw [d2]; exact c3
      · have hab := kAb_lt (e := e) (x := x.toInt) (y := (e k).toInt) (by omega) h3 (Int.le_refl _) n hk
        have a1 : ix (nI k) 10 := q_ix (by omega) (by omega)
        have ec : (nI k).toNatClampNeg = k := q_cl (by omega)
        obtain ⟨m, v2, e9, c1, c2, c4, c3⟩ := ih j v (e k) (hb k hk).2.1 (hin k hk).2 (by omega) (fun _ _ => ⟨by omega, by omega⟩) (by omega) hv
        refine ⟨m, v2, ?_, c1, c2, c4, ?_⟩
        · simp only [f_X3_free_12, if_neg h1, e1, Option.bind_some, nI_lt0 (show k ≤ 65536 by omega), if_false, if_pos a1, ec, e9]
        · cases m with
          | zero =>
            intro q h4 h5
            by_cases h6 : q < (e k).toInt
            · exact ⟨k, hk, by omega, h6⟩
            · exact c3 q (by omega) h5
          | succ m =>
            obtain ⟨b1, b2, b3, b4, b5, b6, b7⟩ := c3
            refine ⟨by omega, fun q h4 h5 => ?_, b3, b4, b5, b6, b7⟩
            by_cases h6 : q < (e k).toInt
            · exact ⟨k, hk, by omega, h6⟩
            · exact b2 q (by omega) h5
theorem n2i {i : Nat} (h : i ≤ 65536) : 2 * nI i = nI (2 * i) := by
  apply Int32.toInt_inj.mp
  rw [Int32.toInt_mul, nI_toInt (by omega), nI_toInt (by omega), c2]
  exact Int.bmod_eq_of_le (by omega) (by omega)
theorem fo_loop {v : Nat → Int64} {m : Nat} (hm : m ≤ 11) (h1 : ∀ k, k < m → ¬ v (2 * k + 1) = v (2 * k)) (h2 : ∀ k, 2 * m ≤ k → v k = 0) : ∀ (u i : Nat), i ≤ m → m - i < u → f_X3_freesOf_2 22 u v (nI i) = some (nI m) := by
  intro u
  induction u with
  | zero => intro i hi hf; omega
  | succ u ih =>
    intro i hi hf
    have e2 : 2 * nI i = nI (2 * i) := n2i (by omega)
    have e3 : nI (2 * i) + 1 = nI (2 * i + 1) := q_s _
    by_cases h : 11 ≤ i
    · have h' : Int32.ofNat 22 ≤ nI (2 * i) := (q_le (a := 22) (by omega) (by omega)).mpr (by omega)
      simp only [f_X3_freesOf_2, e2, if_pos h']
      rw [show i = m by omega]
    · have h' : ¬ Int32.ofNat 22 ≤ nI (2 * i) := t49 (a := 22) (by omega) (by omega) (by omega)
      have a1 : ix (nI (2 * i)) 22 := q_ix (by omega) (by omega)
      have a2 : ix (nI (2 * i + 1)) 22 := q_ix (by omega) (by omega)
      have c1 : (nI (2 * i)).toNatClampNeg = 2 * i := q_cl (by omega)
      have c2 : (nI (2 * i + 1)).toNatClampNeg = 2 * i + 1 := q_cl (by omega)
      by_cases h3 : i < m
      · have hh := ih (i + 1) (by omega) (by omega)
        simp only [f_X3_freesOf_2, e2, e3, if_neg h', if_pos a1, if_pos a2, c1, c2, if_neg (h1 i h3), q_s, hh]
      · have h4 : v (2 * i + 1) = v (2 * i) := by rw [h2 _ (by omega), h2 _ (by omega)]
        simp only [f_X3_freesOf_2, e2, e3, if_neg h', if_pos a1, if_pos a2, c1, c2, if_pos h4]
        rw [show i = m by omega]
/-- what is free, on both sides -/
theorem free_both {fr un : Int64} {n : Nat} {sb se : Nat → Int64} {so : Nat → Int32} {mbe men : Nat → Int64} {mov : Nat → Int32} {fb fe : Nat → Int64} {fo : Nat → Int32} {fc : Int32} (hS : kSpans fr un n sb se so mbe men mov) (hn : n ≤ 10) (hf : kLet fr) (hu : kLet un) (hfu : fr < un) : ∃ m fb2 fe2 fo2 v, f_X1_findFrees fr un sb se (nI n) fb fe fo fc = some (fb2, fe2, fo2, nI m) ∧ f_X3_free fr un mbe men (nI n) = some v ∧ f_X3_freesOf 22 v = some (nI m) ∧ m ≤ 11 ∧ (∀ k, k < m → fb2 k = v (2 * k) ∧ fe2 k = v (2 * k + 1)) ∧ kPcs (kMt n mbe men 1) un.toInt fb2 fe2 m 0 fr.toInt ∧ kPie m fb2 fe2 := by
  have hin1 : kIns fr un n sb se := fun k hk => by
    obtain ⟨-, -, -, -, a5, a6⟩ := hS k hk
    exact ⟨le64.mp a5, le64.mp a6⟩
  have hin : kIns fr un n mbe men := fun k hk => by
    obtain ⟨a1, a2, -⟩ := hS k hk
    rw [← a1, ← a2]; exact hin1 k hk
  have hfu' := lt64.mp hfu
  obtain ⟨m, fb2, fe2, fo2, e1, hm, hP⟩ := ff_eq (fb := fb) (fe := fe) (fo := fo) (fc := fc) hn hf hu hfu (hS.pie1 hf hu) hin1
  have hP2 := kPcs_congr (fun q => kMt_congr (fun k hk => ⟨(hS k hk).1, (hS k hk).2.1⟩)) _ _ _ hP
  have hle := kAb_le (e := men) (x := fr.toInt) n
  obtain ⟨m', v, e3, hm', -, c4, hP3⟩ := fr_loop hn hu (hS.pie hf hu) hin 24 0 (fun _ => 0) fr hf (by omega) (by omega) (fun _ _ => ⟨by omega, by omega⟩) (by omega) (fun _ _ => rfl)
  obtain ⟨em, hk⟩ := kPcs_uniq _ _ _ _ hP2 hP3
  subst em
  rw [Nat.zero_add] at hm' c4
  have hin2 := kPcs_in _ _ _ hP2
  refine ⟨m, fb2, fe2, fo2, v, e1, e3, ?_, hm, fun k h => hk k (Nat.zero_le _) (by omega), hP2, fun k h => ?_⟩
  · exact fo_loop hm (fun k h z => by
      obtain ⟨-, a2, -⟩ := hin2 k (Nat.zero_le _) (by omega)
      obtain ⟨b1, b2⟩ := hk k (Nat.zero_le _) (by omega)
      have b1' : fb2 k = v (2 * k) := b1
      have b2' : fe2 k = v (2 * k + 1) := b2
      rw [b1', b2', z] at a2
      omega) c4 24 0 (Nat.zero_le _) (by omega)
  · obtain ⟨a1, a2, a3, -⟩ := hin2 k (Nat.zero_le _) (by omega)
    have := hf.1; have := hu.2
    exact ⟨⟨by omega, by omega⟩, ⟨by omega, by omega⟩, a2⟩
