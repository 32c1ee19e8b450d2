/-! the first moment behind which a length is without a span -/
/-- what lies from q on, l long, meets one of n pieces -/
abbrev kMt (n : Nat) (b e : Nat → Int64) (l q : Int) : Prop := ∃ k, k < n ∧ (b k).toInt < q + l ∧ q < (e k).toInt
/-- how many of n pieces end behind x -/
def kAb (e : Nat → Int64) (x : Int) : Nat → Nat
  | 0 => 0
  | n + 1 => kAb e x n + (if x < (e n).toInt then 1 else 0)
theorem kAb_le {e : Nat → Int64} {x : Int} : ∀ n, kAb e x n ≤ n := by
  intro n
  induction n with
  | zero => exact Nat.le_refl _
  | succ n ih => rw [kAb]; split <;> omega
theorem kAb_mono {e : Nat → Int64} {x y : Int} (h : x ≤ y) : ∀ n, kAb e y n ≤ kAb e x n := by
  intro n
  induction n with
  | zero => exact Nat.le_refl _
  | succ n ih =>
    rw [kAb, kAb]
    by_cases h1 : y < (e n).toInt
    · rw [if_pos h1, if_pos (by omega)]; omega
    · rw [if_neg h1]; omega
theorem kAb_lt {e : Nat → Int64} {x y : Int} (h : x ≤ y) {k : Nat} (h1 : x < (e k).toInt) (h2 : (e k).toInt ≤ y) : ∀ n, k < n → kAb e y n + 1 ≤ kAb e x n := by
  intro n
  induction n with
  | zero => intro hk; omega
  | succ n ih =>
    intro hk
    rw [kAb, kAb]
    by_cases e9 : k = n
    · have hm := kAb_mono (e := e) h n
      rw [← e9] at hm ⊢
      rw [if_neg (by omega), if_pos h1]; omega
    · have := ih (by omega)
      by_cases h3 : y < (e n).toInt
      · rw [if_pos h3, if_pos (by omega)]; omega
      · rw [if_neg h3]; omega
theorem kAb_pos {e : Nat → Int64} {x : Int} {k : Nat} (h1 : x < (e k).toInt) : ∀ n, k < n → 1 ≤ kAb e x n := by
  intro n
  induction n with
  | zero => intro hk; omega
  | succ n ih =>
    intro hk
    rw [kAb]
    by_cases e9 : k = n
    · rw [e9] at h1
      rw [if_pos h1]; omega
    · have := ih (by omega)
      omega
/-- n pieces, each let and not empty -/
abbrev kPie (n : Nat) (b e : Nat → Int64) : Prop := ∀ k, k < n → kLet (b k) ∧ kLet (e k) ∧ (b k).toInt < (e k).toInt
abbrev kOn (x : Int64) : Prop := 1 ≤ x.toInt ∧ x.toInt ≤ 2000000000000000000
theorem kOn.by {x : Int64} (h : kOn x) : kBy x := ⟨by have := h.1; omega, h.2⟩
theorem fm_no {b e : Nat → Int64} {n : Nat} {x l : Int64} (hx : kLet x) (hl : kOn l) (h : ∀ k, 0 ≤ k → k < 0 + n → decide (nI k ≠ -1 ∧ b k < x + l ∧ x < e k) = false) (hn : n ≤ 65536) : ¬ kMt n b e l.toInt x.toInt := fun ⟨k, hk, h1, h2⟩ => by
  have := of_decide_eq_false (h k (by omega) (by omega))
  refine this ⟨fun z => ?_, ?_, ?_⟩
  · have e9 := nI_m1 (n := k) (by omega)
    rw [e9] at z; exact z
  · rw [lt64, addBy hx hl.by]; exact h1
  · rw [lt64]; exact h2
theorem ws_loop {sb se : Nat → Int64} {n : Nat} {l : Int64} (hn : n ≤ 10) (hl : kOn l) (hb : kPie n sb se) : ∀ (u i : Nat) (x : Int64), kLet x → i + kAb se x.toInt n ≤ n → n - i < u → ∃ r, f_X1_firstWithoutSpan_6 u sb se (nI n) l x (nI i) = some r ∧ kLet r ∧ x.toInt ≤ r.toInt ∧ (∀ q : Int, x.toInt ≤ q → q < r.toInt → kMt n sb se l.toInt q) ∧ ¬ kMt n sb se l.toInt r.toInt ∧ (r = x ∨ ∃ k, k < n ∧ r = se k) := by
  intro u
  induction u with
  | zero => intro i x hx hi hf; omega
  | succ u ih =>
    intro i x hx hi hf
    by_cases h : n ≤ i
    · have h' : nI n ≤ nI i := (q_le (by omega) (by omega)).mpr h
      refine ⟨x, ?_, hx, Int.le_refl _, fun q h1 h2 => by omega, fun ⟨k, hk, h1, h2⟩ => ?_, Or.inl rfl⟩
      · simp only [f_X1_firstWithoutSpan_6, f_X0_count, Option.bind_some, if_pos h']
      · have := kAb_pos h2 n hk
        omega
    · have h' : ¬ nI n ≤ nI i := t49 (by omega) (by omega) h
      have es : nI i + 1 = nI (i + 1) := q_s i
      rcases kF_m1 (p := fun k => decide (nI k ≠ -1 ∧ sb k < x + l ∧ x < se k)) n 0 (by omega) with ⟨e1, h1⟩ | ⟨k, -, hk, hp, e1, e2, -⟩
      · refine ⟨x, ?_, hx, Int.le_refl _, fun q h1 h2 => by omega, fm_no hx hl h1 (by omega), Or.inl rfl⟩
        simp only [f_X1_firstWithoutSpan_6, f_X0_count, Option.bind_some, if_neg h', fm_eq (show n ≤ 11 by omega), e1, tm1, if_true]
      · have hk' : k < n := by omega
        obtain ⟨-, h2, h3⟩ := of_decide_eq_true hp
        rw [lt64, addBy hx hl.by] at h2
        rw [lt64] at h3
        obtain ⟨b1, b2, b3⟩ := hb k hk'
        have hab := kAb_lt (e := se) (x := x.toInt) (y := (se k).toInt) (by omega) h3 (Int.le_refl _) n hk'
        obtain ⟨r, e3, hr, g1, g2, g3, g4⟩ := ih (i + 1) (se k) b2 (by omega) (by omega)
        refine ⟨r, ?_, hr, by omega, fun q h4 h5 => ?_, g3, Or.inr ?_⟩
        · simp only [f_X1_firstWithoutSpan_6, f_X0_count, Option.bind_some, if_neg h', fm_eq (show n ≤ 11 by omega), e1, nI_m1 (show k ≤ 65536 by omega), if_false, end0 (show n ≤ 11 by omega) (q_ix hk' (show n ≤ 65536 by omega)), q_cl (show k ≤ 65536 by omega), es, e3]
        · by_cases h6 : q < (se k).toInt
          · exact ⟨k, hk', by omega, h6⟩
          · exact g2 q (by omega) h5
        · rcases g4 with g4 | g4
          · exact ⟨k, hk', g4⟩
          · exact g4
theorem ws_eq {sb se : Nat → Int64} {n : Nat} {l x : Int64} (hn : n ≤ 10) (hl : kOn l) (hb : kPie n sb se) (hx : kLet x) : ∃ r, f_X1_firstWithoutSpan sb se (nI n) x l = some r ∧ kLet r ∧ x.toInt ≤ r.toInt ∧ (∀ q : Int, x.toInt ≤ q → q < r.toInt → kMt n sb se l.toInt q) ∧ ¬ kMt n sb se l.toInt r.toInt ∧ (r = x ∨ ∃ k, k < n ∧ r = se k) :=
  ws_loop hn hl hb 24 0 x hx (by have := kAb_le (e := se) (x := x.toInt) n; omega) (by omega)
theorem kMt_congr {n : Nat} {b e b' e' : Nat → Int64} (h : ∀ k, k < n → b k = b' k ∧ e k = e' k) {l q : Int} : kMt n b e l q ↔ kMt n b' e' l q := by
  constructor
  · rintro ⟨k, hk, h1, h2⟩; obtain ⟨e1, e2⟩ := h k hk; exact ⟨k, hk, by rw [← e1]; exact h1, by rw [← e2]; exact h2⟩
  · rintro ⟨k, hk, h1, h2⟩; obtain ⟨e1, e2⟩ := h k hk; exact ⟨k, hk, by rw [e1]; exact h1, by rw [e2]; exact h2⟩
theorem kSpans.pie {fr un : Int64} {n : Nat} {sb se : Nat → Int64} {so : Nat → Int32} {mbe men : Nat → Int64} {mov : Nat → Int32} (h : kSpans fr un n sb se so mbe men mov) (hf : kLet fr) (hu : kLet un) : kPie n mbe men := fun _ hk => h.let hf hu hk
theorem kSpans.pie1 {fr un : Int64} {n : Nat} {sb se : Nat → Int64} {so : Nat → Int32} {mbe men : Nat → Int64} {mov : Nat → Int32} (h : kSpans fr un n sb se so mbe men mov) (hf : kLet fr) (hu : kLet un) : kPie n sb se := fun k hk => by
  obtain ⟨e1, e2, -⟩ := h k hk
  rw [e1, e2]; exact h.let hf hu hk
/-! fit -/
abbrev kFit (fr un : Int64) (n : Nat) (b e : Nat → Int64) (l y : Int64) : Prop := (fr ≤ y ∧ y + l ≤ un) ∧ ¬ kMt n b e l.toInt y.toInt
theorem fits3 {fr un : Int64} {n : Nat} {b e : Nat → Int64} {l y : Int64} (hn : n ≤ 10) (hy : kLet y) (hl : kOn l) : (kFit fr un n b e l y ∧ f_X3_fits fr un b e (nI n) y l = some 1) ∨ (¬ kFit fr un n b e l y ∧ f_X3_fits fr un b e (nI n) y l = some 0) := by
  by_cases h : fr ≤ y ∧ y + l ≤ un
  · rcases kF_m1 (p := fun k => decide (nI k ≠ -1 ∧ b k < y + l ∧ y < e k)) n 0 (by omega) with ⟨e1, h1⟩ | ⟨k, -, hk, hp, e1, e2, -⟩
    · refine Or.inl ⟨⟨h, fm_no hy hl h1 (by omega)⟩, ?_⟩
      simp only [f_X3_fits, isIn3, if_pos h, Option.bind_some, t10, t00, if_false, if_true, ms_eq hn, if_pos e1]
    · obtain ⟨-, h2, h3⟩ := of_decide_eq_true hp
      rw [lt64, addBy hy hl.by] at h2
      rw [lt64] at h3
      refine Or.inr ⟨fun z => z.2 ⟨k, by omega, h2, h3⟩, ?_⟩
      simp only [f_X3_fits, isIn3, if_pos h, Option.bind_some, t10, if_false, ms_eq hn, if_neg e2]
  · refine Or.inr ⟨fun z => h z.1, ?_⟩
    simp only [f_X3_fits, isIn3, if_neg h, Option.bind_some, t00, if_true]
theorem fit_no {mce : Nat → Int64} {fr un : Int64} {n : Nat} {b e : Nat → Int64} {ac rf mth p3 : Int32} {l x y : Int64} (hn : n ≤ 10) (hl : kOn l) (hb : kPie n b e) (hno : ∀ k, k < n → x ≤ e k → ¬ kFit fr un n b e l (e k)) : ∀ (u i : Nat), i ≤ n → n - i < u → f_X3_fit_86 u mce fr un b e (nI n) ac rf mth p3 l x 0 y (nI i) = some (-9, mce, ac, rf + 1, mth) := by
  intro u
  induction u with
  | zero => intro i hi hf; omega
  | succ u ih =>
    intro i hi hf
    by_cases h : n ≤ i
    · have h' : nI n ≤ nI i := (q_le (by omega) (by omega)).mpr h
      simp only [f_X3_fit_86, if_pos h', if_true, f_X3_no, Option.bind_some]
    · have h' : ¬ nI n ≤ nI i := t49 (by omega) (by omega) h
      have es : nI i + 1 = nI (i + 1) := q_s i
      have ei : (nI i).toNatClampNeg = i := q_cl (by omega)
      have a1 : ix (nI i) 10 := q_ix (by omega) (by omega)
      have hi2 := ih (i + 1) (by omega) (by omega)
      by_cases h1 : e i < x
      · simp only [f_X3_fit_86, if_neg h', if_pos a1, ei, if_pos h1, es, hi2]
      · rcases fits3 (fr := fr) (un := un) (b := b) (e := e) hn (hb i (by omega)).2.1 hl with ⟨z, -⟩ | ⟨-, e3⟩
        · exact absurd z (hno i (by omega) (Int64.not_lt.mp h1))
        · simp only [f_X3_fit_86, if_neg h', if_pos a1, ei, if_neg h1, e3, Option.bind_some, if_true, es, hi2]
theorem fit_yes {mce : Nat → Int64} {fr un : Int64} {n : Nat} {b e : Nat → Int64} {ac rf mth p3 : Int32} {l x p : Int64} (hn : n ≤ 10) (hl : kOn l) (hb : kPie n b e) (h3 : ix p3 4) (hp : kFit fr un n b e l p) (hxp : x ≤ p) (hmin : ∀ k, k < n → x ≤ e k → kFit fr un n b e l (e k) → p ≤ e k) : ∀ (u i : Nat) (f : Int32) (y : Int64), i ≤ n → n - i < u → ((¬ f = 0 ∧ y = p) ∨ ((f = 0 ∨ p ≤ y) ∧ ∃ k, i ≤ k ∧ k < n ∧ e k = p)) → f_X3_fit_86 u mce fr un b e (nI n) ac rf mth p3 l x f y (nI i) = some (if mce p3.toNatClampNeg = p then 0 else 1, vp_updL mce p3.toNatClampNeg p, ac + 1, rf, mth) := by
  intro u
  induction u with
  | zero => intro i f y hi hf; omega
  | succ u ih =>
    intro i f y hi hf hst
    by_cases h : n ≤ i
    · have h' : nI n ≤ nI i := (q_le (by omega) (by omega)).mpr h
      rcases hst with ⟨h4, h5⟩ | ⟨-, k, h6, h7, -⟩
      · by_cases h8 : mce p3.toNatClampNeg = p
        · simp only [f_X3_fit_86, if_pos h', if_neg h4, h5, if_pos h3, if_pos h8, f_X3_fit_188, f_X3_fit_210, if_true, f_X3_done, Option.bind_some]
        · simp only [f_X3_fit_86, if_pos h', if_neg h4, h5, if_pos h3, if_neg h8, f_X3_fit_188, f_X3_fit_210, t10, if_false, f_X3_done, Option.bind_some]
      · omega
    · have h' : ¬ nI n ≤ nI i := t49 (by omega) (by omega) h
      have es : nI i + 1 = nI (i + 1) := q_s i
      have ei : (nI i).toNatClampNeg = i := q_cl (by omega)
      have a1 : ix (nI i) 10 := q_ix (by omega) (by omega)
      have keep : (¬ kFit fr un n b e l (e i) ∨ e i < x) → ((¬ f = 0 ∧ y = p) ∨ ((f = 0 ∨ p ≤ y) ∧ ∃ k, i + 1 ≤ k ∧ k < n ∧ e k = p)) := fun hno => by
        rcases hst with h4 | ⟨h4, k, h5, h6, h7⟩
        · exact Or.inl h4
        · refine Or.inr ⟨h4, k, ?_, h6, h7⟩
          by_cases e9 : k = i
          · rw [e9] at h7
            rcases hno with hno | hno
            · rw [h7] at hno; exact absurd hp hno
            · rw [h7] at hno; exact absurd hno (Int64.not_lt.mpr hxp)
          · omega
      by_cases h1 : e i < x
      · have hi2 := ih (i + 1) f y (by omega) (by omega) (keep (Or.inr h1))
        simp only [f_X3_fit_86, if_neg h', if_pos a1, ei, if_pos h1, es, hi2]
      · rcases fits3 (fr := fr) (un := un) (b := b) (e := e) hn (hb i (by omega)).2.1 hl with ⟨hz, e3⟩ | ⟨hz, e3⟩
        · have hpi := hmin i (by omega) (Int64.not_lt.mp h1) hz
          have new : (¬ (1 : Int32) = 0 ∧ e i = p) ∨ (((1 : Int32) = 0 ∨ p ≤ e i) ∧ ∃ k, i + 1 ≤ k ∧ k < n ∧ e k = p) ∨ (¬ f = 0 ∧ y = p) := by
            rcases hst with h4 | ⟨h4, k, h5, h6, h7⟩
            · exact Or.inr (Or.inr h4)
            · by_cases e9 : k = i
              · rw [e9] at h7; exact Or.inl ⟨by decide, h7⟩
              · exact Or.inr (Or.inl ⟨Or.inr hpi, k, by omega, h6, h7⟩)
          by_cases hf0 : f = 0
          · have new' : (¬ (1 : Int32) = 0 ∧ e i = p) ∨ (((1 : Int32) = 0 ∨ p ≤ e i) ∧ ∃ k, i + 1 ≤ k ∧ k < n ∧ e k = p) := by
              rcases new with h4 | h4 | h4
              · exact Or.inl h4
              · exact Or.inr h4
              · exact absurd hf0 h4.1
            have hi2 := ih (i + 1) 1 (e i) (by omega) (by omega) new'
            simp only [f_X3_fit_86, if_neg h', if_pos a1, ei, if_neg h1, e3, Option.bind_some, t10, if_false, if_pos hf0, es, hi2]
          · by_cases hy : y ≤ e i
            · have old : (¬ f = 0 ∧ y = p) ∨ ((f = 0 ∨ p ≤ y) ∧ ∃ k, i + 1 ≤ k ∧ k < n ∧ e k = p) := by
                rcases hst with h4 | ⟨h4, k, h5, h6, h7⟩
                · exact Or.inl h4
                · by_cases e9 : k = i
                  · rw [e9] at h7
                    refine Or.inl ⟨hf0, ?_⟩
                    rcases h4 with h4 | h4
                    · exact absurd h4 hf0
                    · rw [h7] at hy; exact Int64.le_antisymm hy h4
                  · exact Or.inr ⟨h4, k, by omega, h6, h7⟩
              have hi2 := ih (i + 1) f y (by omega) (by omega) old
              simp only [f_X3_fit_86, if_neg h', if_pos a1, ei, if_neg h1, e3, Option.bind_some, t10, if_false, if_neg hf0, if_pos hy, es, hi2]
            · have new' : (¬ (1 : Int32) = 0 ∧ e i = p) ∨ (((1 : Int32) = 0 ∨ p ≤ e i) ∧ ∃ k, i + 1 ≤ k ∧ k < n ∧ e k = p) := by
                rcases new with h4 | h4 | h4
                · exact Or.inl h4
                · exact Or.inr h4
                · exact absurd hpi (h4.2 ▸ hy)
              have hi2 := ih (i + 1) 1 (e i) (by omega) (by omega) new'
              simp only [f_X3_fit_86, if_neg h', if_pos a1, ei, if_neg h1, e3, Option.bind_some, t10, if_false, if_neg hf0, if_neg hy, es, hi2]
        · have hi2 := ih (i + 1) f y (by omega) (by omega) (keep (Or.inl hz))
          simp only [f_X3_fit_86, if_neg h', if_pos a1, ei, if_neg h1, e3, Option.bind_some, if_true, es, hi2]
theorem kLen_on {u n : Int32} (h1 : 1 ≤ n.toInt) (h2 : n.toInt ≤ 2000000000) : kOn (kLen u n) := by
  have e6 : (1000000 : Int64).toInt = 1000000 := by decide +kernel
  have e1 : (1 : Int64).toInt = 1 := by decide
  refine ⟨?_, (kLen_by (u := u) (by omega) h2).2⟩
  unfold kLen
  by_cases a : u = 0
  · rw [if_pos a]
    have e : (n.toInt64 * 1000000000).toInt = n.toInt * 1000000000 := by rw [m64 (by rw [w64, eB]; omega) (by rw [w64, eB]; omega), w64, eB]
    rw [e]; omega
  · by_cases b : u = 1
    · rw [if_neg a, if_pos b]
      have e : (n.toInt64 * 1000000).toInt = n.toInt * 1000000 := by rw [m64 (by rw [w64, e6]; omega) (by rw [w64, e6]; omega), w64, e6]
      rw [e]; omega
    · rw [if_neg a, if_neg b]
      have e : (n.toInt64 * 1).toInt = n.toInt := by rw [m64 (by rw [w64, e1]; omega) (by rw [w64, e1]; omega), w64, e1]; omega
      rw [e]; omega
theorem op_fit {ce mce : Nat → Int64} {fr un : Int64} {n : Nat} {sb se : Nat → Int64} {so : Nat → Int32} {mbe men : Nat → Int64} {mov : Nat → Int32} {ac rf : Int32} {on : Int64} {p0 p1 p2 p3 : Int32} (hc : kCe ce mce) (hS : kSpans fr un n sb se so mbe men mov) (hn : n ≤ 10) (hf : kLet fr) (hu : kLet un) : ∃ r r', f_L_fit ce fr un sb se (nI n) ac rf on p0 p1 p2 p3 = some r ∧ f_X3_fit mce fr un mbe men (nI n) ac rf p0 p1 p2 p3 = some r' ∧ r'.2.2.2.2 = r.1 ∧ (r.1 = 0 → r.2.2.2.2 = r'.1.toInt64) ∧ kCe r.2.1 r'.2.1 ∧ r.2.2.1 = r'.2.2.1 ∧ r.2.2.2.1 = r'.2.2.2.1 := by
  have q39 : ∀ a b, f_X3_fit_39 mce fr un mbe men (nI n) ac rf p0 p1 p2 p3 b a = if a = 0 then (if b = 0 then f_X3_fit_39 mce fr un mbe men (nI n) ac rf p0 p1 p2 p3 0 0 else some (0, mce, ac, rf, 2)) else some (0, mce, ac, rf, 1) := fun a b => by
    by_cases ha : a = 0
    · by_cases hb : b = 0
      · rw [if_pos ha, if_pos hb, ha, hb]
      · simp only [f_X3_fit_39, thrown3, if_pos ha, if_neg hb, Option.bind_some, t10, if_false]
    · simp only [f_X3_fit_39, thrown3, if_neg ha, Option.bind_some, t10, if_false]
  have q21 : ∀ a, f_X3_fit_21 mce fr un mbe men (nI n) ac rf p0 p1 p2 p3 a = if a = 0 then (if kUnitOk 1 p1 p2 then f_X3_fit_39 mce fr un mbe men (nI n) ac rf p0 p1 p2 p3 0 0 else some (0, mce, ac, rf, 2)) else some (0, mce, ac, rf, 1) := fun a => by
    by_cases h1 : kUnitOk 1 p1 p2
    · have h2 : kUnitOk (-2000000000) p1 p2 := ⟨h1.1, h1.2.1, by have := h1.2.2.1; omega, h1.2.2.2⟩
      have h3 : (1 : Int32) ≤ p2 := by rw [le32, c1']; exact h1.2.2.1
      simp only [f_X3_fit_21, noUnit3, if_pos h1, if_pos h2, Option.bind_some, if_true, if_pos h3]
      rw [q39 a 0, if_pos rfl]
    · by_cases h2 : kUnitOk (-2000000000) p1 p2
      · have h3 : ¬ (1 : Int32) ≤ p2 := by rw [le32, c1']; exact fun z => h1 ⟨h2.1, h2.2.1, z, h2.2.2.2⟩
        simp only [f_X3_fit_21, f_X3_fit_34, noUnit3, if_neg h1, if_pos h2, Option.bind_some, if_true, if_neg h3]
        rw [q39 a 1, if_neg (show ¬ (1 : Int32) = 0 by decide)]
      · simp only [f_X3_fit_21, f_X3_fit_34, noUnit3, if_neg h1, if_neg h2, Option.bind_some, t10, if_false]
        rw [q39 a 1, if_neg (show ¬ (1 : Int32) = 0 by decide)]
  by_cases h0 : ix p0 4
  · by_cases h3 : ix p3 4
    · by_cases h1 : kUnitOk 1 p1 p2
      · have hl := kLen_on (u := p1) h1.2.2.1 h1.2.2.2
        generalize hL : kLen p1 p2 = l at hl
        have hM : f_X3_fit mce fr un mbe men (nI n) ac rf p0 p1 p2 p3 = f_X3_fit_39 mce fr un mbe men (nI n) ac rf p0 p1 p2 p3 0 0 := by
          simp only [f_X3_fit, is3, if_pos h0, if_pos h3, Option.bind_some, t10, if_false]
          rw [q21 0, if_pos rfl, if_pos h1]
        obtain ⟨x, ex, hx, hfx⟩ : ∃ x, (if fr < mce p0.toNatClampNeg then mce p0.toNatClampNeg else fr) = x ∧ kLet x ∧ fr ≤ x := by
          by_cases z : fr < mce p0.toNatClampNeg
          · rw [if_pos z]; exact ⟨_, rfl, hc.let h0, Int64.le_of_lt z⟩
          · rw [if_neg z]; exact ⟨_, rfl, hf, Int64.le_refl _⟩
        have hP := hS.pie hf hu
        obtain ⟨r, e1, hr, g1, g2, g3, g4⟩ := ws_eq hn hl (hS.pie1 hf hu) hx
        have hcg : ∀ {q : Int}, kMt n sb se l.toInt q ↔ kMt n mbe men l.toInt q := fun {q} => kMt_congr (fun k hk => ⟨(hS k hk).1, (hS k hk).2.1⟩)
        have far : ∀ {y : Int64}, x ≤ y → kFit fr un n mbe men l y → r ≤ y := fun {y} hy hfy => by
          rw [le64]
          rw [le64] at hy
          by_cases z : r.toInt ≤ y.toInt
          · exact z
          · exact absurd (hcg.mp (g2 y.toInt hy (by omega))) hfy.2
        by_cases h2 : r + l ≤ un
        · have hrf : kFit fr un n mbe men l r := ⟨⟨Int64.le_trans hfx (le64.mpr g1), h2⟩, fun z => g3 (hcg.mpr z)⟩
          obtain ⟨f, ef, hst⟩ : ∃ f, f_X3_fits fr un mbe men (nI n) x l = some f ∧ ((¬ f = 0 ∧ x = r) ∨ ((f = 0 ∨ r ≤ x) ∧ ∃ k, 0 ≤ k ∧ k < n ∧ men k = r)) := by
            rcases fits3 (fr := fr) (un := un) (b := mbe) (e := men) hn hx hl with ⟨hz, e3⟩ | ⟨hz, e3⟩
            · refine ⟨1, e3, Or.inl ⟨by decide, ?_⟩⟩
              exact Int64.le_antisymm (le64.mpr g1) (far (Int64.le_refl _) hz)
            · refine ⟨0, e3, Or.inr ⟨Or.inl rfl, ?_⟩⟩
              rcases g4 with g4 | ⟨k, hk, g4⟩
              · rw [g4] at hrf; exact absurd hrf hz
              · exact ⟨k, Nat.zero_le _, hk, by rw [g4, (hS k hk).2.1]⟩
          have e9 := fit_yes (mce := mce) (fr := fr) (un := un) (b := mbe) (e := men) (ac := ac) (rf := rf) (mth := 0) hn hl hP h3 hrf (le64.mpr g1) (fun k hk h4 h5 => far h4 h5) 24 0 f x (Nat.zero_le _) (by omega) hst
          have e8 : f_X3_fit_86 24 mce fr un mbe men (nI n) ac rf 0 p3 l x f x 0 = some (if mce p3.toNatClampNeg = r then 0 else 1, vp_updL mce p3.toNatClampNeg r, ac + 1, rf, 0) := e9
          rw [hM]
          by_cases h8 : mce p3.toNatClampNeg = r
          · rw [if_pos h8] at e8
            simp only [f_L_fit, fx_X1_fit, f_X1_fit, f_X1_bring, f_X1_done, (needCell h0).1, (needCell h0).2, (needCell h3).1, (needCell h3).2, needUnits1, c1', if_pos h1, xb_n, Option.bind_some, len1, hL, if_pos h0, hc.eq h0, ex, e1, if_pos h2, if_pos h3, hc.eq h3, if_pos h8, f_X3_fit_39, thrown3, if_true, len3, ef, e8]
            exact ⟨_, _, rfl, rfl, rfl, fun _ => rfl, hc.upd _ hr, rfl, rfl⟩
          · rw [if_neg h8] at e8
            simp only [f_L_fit, fx_X1_fit, f_X1_fit, f_X1_bring, f_X1_done, (needCell h0).1, (needCell h0).2, (needCell h3).1, (needCell h3).2, needUnits1, c1', if_pos h1, xb_n, Option.bind_some, len1, hL, if_pos h0, hc.eq h0, ex, e1, if_pos h2, if_pos h3, hc.eq h3, if_neg h8, f_X3_fit_39, thrown3, if_true, len3, ef, e8]
            exact ⟨_, _, rfl, rfl, rfl, fun _ => rfl, hc.upd _ hr, rfl, rfl⟩
        · have nof : ∀ {y : Int64}, kLet y → x ≤ y → ¬ kFit fr un n mbe men l y := fun {y} hy hxy hz => by
            have h4 := far hxy hz
            have h5 := hz.1.2
            refine h2 ?_
            rw [le64, addBy hr hl.by]
            rw [le64] at h4
            rw [le64, addBy hy hl.by] at h5
            omega
          have e9 := fit_no (mce := mce) (fr := fr) (un := un) (b := mbe) (e := men) (ac := ac) (rf := rf) (mth := 0) (p3 := p3) (x := x) (y := x) hn hl hP (fun k hk h4 => nof (hP k hk).2.1 h4) 24 0 (Nat.zero_le _) (by omega)
          have e8 : f_X3_fit_86 24 mce fr un mbe men (nI n) ac rf 0 p3 l x 0 x 0 = some (-9, mce, ac, rf + 1, 0) := e9
          have ef : f_X3_fits fr un mbe men (nI n) x l = some 0 := by
            rcases fits3 (fr := fr) (un := un) (b := mbe) (e := men) hn hx hl with ⟨hz, -⟩ | ⟨-, e3⟩
            · exact absurd hz (nof hx (Int64.le_refl _))
            · exact e3
          rw [hM]
          simp only [f_L_fit, fx_X1_fit, f_X1_fit, f_X1_refuse, (needCell h0).1, (needCell h0).2, (needCell h3).1, (needCell h3).2, needUnits1, c1', if_pos h1, xb_n, Option.bind_some, len1, hL, if_pos h0, hc.eq h0, ex, e1, if_neg h2, f_X3_fit_39, thrown3, if_true, len3, ef, e8]
          exact ⟨_, _, rfl, rfl, rfl, fun _ => rfl, hc, rfl, rfl⟩
      · have hM : f_X3_fit mce fr un mbe men (nI n) ac rf p0 p1 p2 p3 = some (0, mce, ac, rf, 2) := by
          simp only [f_X3_fit, is3, if_pos h0, if_pos h3, Option.bind_some, t10, if_false]
          rw [q21 0, if_pos rfl, if_neg h1]
        rw [hM]
        simp only [f_L_fit, fx_X1_fit, (needCell h0).1, (needCell h0).2, (needCell h3).1, (needCell h3).2, needUnits1, c1', if_neg h1, xb_n, xb_s, Option.bind_some, u21, if_false]
        exact ⟨_, _, rfl, rfl, rfl, fun z => no2 z, hc, rfl, rfl⟩
    · have hM : f_X3_fit mce fr un mbe men (nI n) ac rf p0 p1 p2 p3 = some (0, mce, ac, rf, 1) := by
        simp only [f_X3_fit, is3, if_pos h0, if_neg h3, Option.bind_some, t10, t00, if_false, if_true, f_X3_fit_16]
        rw [q21 1, if_neg (show ¬ (1 : Int32) = 0 by decide)]
      rw [hM]
      simp only [f_L_fit, fx_X1_fit, (needCell h0).1, (needCell h0).2, (needCellN h3).1, (needCellN h3).2, xb_n, xb_s, Option.bind_some, u12, if_true]
      exact ⟨_, _, rfl, rfl, rfl, fun z => no1 z, hc, rfl, rfl⟩
  · have hM : f_X3_fit mce fr un mbe men (nI n) ac rf p0 p1 p2 p3 = some (0, mce, ac, rf, 1) := by
      simp only [f_X3_fit, is3, if_neg h0, Option.bind_some, t00, if_true, f_X3_fit_16]
      rw [q21 1, if_neg (show ¬ (1 : Int32) = 0 by decide)]
    rw [hM]
    simp only [f_L_fit, fx_X1_fit, (needCellN h0).1, (needCellN h0).2, xb_s, u12, if_true]
    exact ⟨_, _, rfl, rfl, rfl, fun z => no1 z, hc, rfl, rfl⟩
