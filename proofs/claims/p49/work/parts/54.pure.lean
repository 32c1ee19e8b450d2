-- 54.pure.lean.txt
section
/-! the first moment behind which a length is without a span -/
/-- what lies from q on, l long, meets one of n pieces -/
abbrev kMt (n : Nat) (b e : Nat → Int64) (l q : Int) : Prop := ∃ k, k < n ∧ (b k).toInt < q + l ∧ q < (e k).toInt
/-- how many of n pieces end behind x -/
def kAb (e : Nat → Int64) (x : Int) : Nat → Nat
  | 0 => 0
  | n + 1 => kAb e x n + (if x < (e n).toInt then 1 else 0)
theorem kAb_le {e : Nat → Int64} {x : Int} : ∀ n, kAb e x n ≤ n := by
  intro n
  induction n with
  | zero => exact Nat.le_refl _
  | succ n ih => rw [kAb]; split <;> omega
theorem kAb_mono {e : Nat → Int64} {x y : Int} (h : x ≤ y) : ∀ n, kAb e y n ≤ kAb e x n := by
  intro n
  induction n with
  | zero => exact Nat.le_refl _
  | succ n ih =>
    rw [kAb, kAb]
    by_cases h1 : y < (e n).toInt
    · rw [if_pos h1, if_pos (by omega)]; omega
    · rw [if_neg h1]; omega
theorem kAb_lt {e : Nat → Int64} {x y : Int} (h : x ≤ y) {k : Nat} (h1 : x < (e k).toInt) (h2 : (e k).toInt ≤ y) : ∀ n, k < n → kAb e y n + 1 ≤ kAb e x n := by
  intro n
  induction n with
  | zero => intro hk; omega
  | succ n ih =>
    intro hk
    rw [kAb, kAb]
    by_cases e9 : k = n
    · have hm := kAb_mono (e := e) h n
      rw [← e9] at hm ⊢
      rw [if_neg (by omega), if_pos h1]; omega
    · have := ih (by omega)
      by_cases h3 : y < (e n).toInt
      · rw [if_pos h3, if_pos (by omega)]; omega
      · rw [if_neg h3]; omega
theorem kAb_pos {e : Nat → Int64} {x : Int} {k : Nat} (h1 : x < (e k).toInt) : ∀ n, k < n → 1 ≤ kAb e x n := by
  intro n
  induction n with
  | zero => intro hk; omega
  | succ n ih =>
    intro hk
    rw [kAb]
    by_cases e9 : k = n
    · rw [e9] at h1
      rw [if_pos h1]; omega
    · have := ih (by omega)
      omega
/-- n pieces, each let and not empty -/
abbrev kPie (n : Nat) (b e : Nat → Int64) : Prop := ∀ k, k < n → kLet (b k) ∧ kLet (e k) ∧ (b k).toInt < (e k).toInt
abbrev kOn (x : Int64) : Prop := 1 ≤ x.toInt ∧ x.toInt ≤ 2000000000000000000
theorem kOn.by {x : Int64} (h : kOn x) : kBy x := ⟨by have := h.1; omega, h.2⟩
theorem fm_no {b e : Nat → Int64} {n : Nat} {x l : Int64} (hx : kLet x) (hl : kOn l) (h : ∀ k, 0 ≤ k → k < 0 + n → decide (nI k ≠ -1 ∧ b k < x + l ∧ x < e k) = false) (hn : n ≤ 65536) : ¬ kMt n b e l.toInt x.toInt := fun ⟨k, hk, h1, h2⟩ => by
  have := of_decide_eq_false (h k (by omega) (by omega))
  refine this ⟨fun z => ?_, ?_, ?_⟩
  · have e9 := nI_m1 (n := k) (by omega)
    rw [e9] at z; exact z
  · rw [lt64, addBy hx hl.by]; exact h1
  · rw [lt64]; exact h2
theorem ws_loop {sb se : Nat → Int64} {n : Nat} {l : Int64} (hn : n ≤ 10) (hl : kOn l) (hb : kPie n sb se) : ∀ (u i : Nat) (x : Int64), kLet x → i + kAb se x.toInt n ≤ n → n - i < u → ∃ r, f_X1_firstWithoutSpan_6 u sb se (nI n) l x (nI i) = some r ∧ kLet r ∧ x.toInt ≤ r.toInt ∧ (∀ q : Int, x.toInt ≤ q → q < r.toInt → kMt n sb se l.toInt q) ∧ ¬ kMt n sb se l.toInt r.toInt ∧ (r = x ∨ ∃ k, k < n ∧ r = se k) := by
  intro u
  induction u with
  | zero => intro i x hx hi hf; omega
  | succ u ih =>
    intro i x hx hi hf
    by_cases h : n ≤ i
    · have h' : nI n ≤ nI i := (q_le (by omega) (by omega)).mpr h
      refine ⟨x, ?_, hx, Int.le_refl _, fun q h1 h2 => by omega, fun ⟨k, hk, h1, h2⟩ => ?_, Or.inl rfl⟩
      · simp only [f_X1_firstWithoutSpan_6, f_X0_count, Option.bind_some, if_pos h']
      · have := kAb_pos h2 n hk
        omega
    · have h' : ¬ nI n ≤ nI i := t49 (by omega) (by omega) h
      have es : nI i + 1 = nI (i + 1) := q_s i
      rcases kF_m1 (p := fun k => decide (nI k ≠ -1 ∧ sb k < x + l ∧ x < se k)) n 0 (by omega) with ⟨e1, h1⟩ | ⟨k, -, hk, hp, e1, e2, -⟩
      · refine ⟨x, ?_, hx, Int.le_refl _, fun q h1 h2 => by omega, fm_no hx hl h1 (by omega), Or.inl rfl⟩
        simp only [f_X1_firstWithoutSpan_6, f_X0_count, Option.bind_some, if_neg h', fm_eq (show n ≤ 11 by omega), e1, tm1, if_true]
      · have hk' : k < n := by omega
        obtain ⟨-, h2, h3⟩ := of_decide_eq_true hp
        rw [lt64, addBy hx hl.by] at h2
        rw [lt64] at h3
        obtain ⟨b1, b2, b3⟩ := hb k hk'
        have hab := kAb_lt (e := se) (x := x.toInt) (y := (se k).toInt) (by omega) h3 (Int.le_refl _) n hk'
        obtain ⟨r, e3, hr, g1, g2, g3, g4⟩ := ih (i + 1) (se k) b2 (by omega) (by omega)
        refine ⟨r, ?_, hr, by omega, fun q h4 h5 => ?_, g3, Or.inr ?_⟩
        · simp only [f_X1_firstWithoutSpan_6, f_X0_count, Option.bind_some, if_neg h', fm_eq (show n ≤ 11 by omega), e1, nI_m1 (show k ≤ 65536 by omega), if_false, end0 (show n ≤ 11 by omega) (q_ix hk' (show n ≤ 65536 by omega)), q_cl (show k ≤ 65536 by omega), es, e3]
        · by_cases h6 : q < (se k).toInt
          · exact ⟨k, hk', by omega, h6⟩
          · exact g2 q (by omega) h5
        · rcases g4 with g4 | g4
          · exact ⟨k, hk', g4⟩
          · exact g4
theorem ws_eq {sb se : Nat → Int64} {n : Nat} {l x : Int64} (hn : n ≤ 10) (hl : kOn l) (hb : kPie n sb se) (hx : kLet x) : ∃ r, f_X1_firstWithoutSpan sb se (nI n) x l = some r ∧ kLet r ∧ x.toInt ≤ r.toInt ∧ (∀ q : Int, x.toInt ≤ q → q < r.toInt → kMt n sb se l.toInt q) ∧ ¬ kMt n sb se l.toInt r.toInt ∧ (r = x ∨ ∃ k, k < n ∧ r = se k) :=
  ws_loop hn hl hb 24 0 x hx (by have := kAb_le (e := se) (x := x.toInt) n; omega) (by omega)
theorem kMt_congr {n : Nat} {b e b' e' : Nat → Int64} (h : ∀ k, k < n → b k = b' k ∧ e k = e' k) {l q : Int} : kMt n b e l q ↔ kMt n b' e' l q := by
  constructor
  · rintro ⟨k, hk, h1, h2⟩; obtain ⟨e1, e2⟩ := h k hk; exact ⟨k, hk, by rw [← e1]; exact h1, by rw [← e2]; exact h2⟩
  · rintro ⟨k, hk, h1, h2⟩; obtain ⟨e1, e2⟩ := h k hk; exact ⟨k, hk, by rw [e1]; exact h1, by rw [e2]; exact h2⟩
theorem kSpans.pie {fr un : Int64} {n : Nat} {sb se : Nat → Int64} {so : Nat → Int32} {mbe men : Nat → Int64} {mov : Nat → Int32} (h : kSpans fr un n sb se so mbe men mov) (hf : kLet fr) (hu : kLet un) : kPie n mbe men := fun _ hk => h.let hf hu hk
theorem kSpans.pie1 {fr un : Int64} {n : Nat} {sb se : Nat → Int64} {so : Nat → Int32} {mbe men : Nat → Int64} {mov : Nat → Int32} (h : kSpans fr un n sb se so mbe men mov) (hf : kLet fr) (hu : kLet un) : kPie n sb se := fun k hk => by
  obtain ⟨e1, e2, -⟩ := h k hk
  rw [e1, e2]; exact h.let hf hu hk
/-! fit -/
abbrev kFit (fr un : Int64) (n : Nat) (b e : Nat → Int64) (l y : Int64) : Prop := (fr ≤ y ∧ y + l ≤ un) ∧ ¬ kMt n b e l.toInt y.toInt
theorem fits3 {fr un : Int64} {n : Nat} {b e : Nat → Int64} {l y : Int64} (hn : n ≤ 10) (hy : kLet y) (hl : kOn l) : (kFit fr un n b e l y ∧ f_X3_fits fr un b e (nI n) y l = some 1) ∨ (¬ kFit fr un n b e l y ∧ f_X3_fits fr un b e (nI n) y l = some 0) := by
  by_cases h : fr ≤ y ∧ y + l ≤ un
  · rcases kF_m1 (p := fun k => decide (nI k ≠ -1 ∧ b k < y + l ∧ y < e k)) n 0 (by omega) with ⟨e1, h1⟩ | ⟨k, -, hk, hp, e1, e2, -⟩
    · refine Or.inl ⟨⟨h, fm_no hy hl h1 (by omega)⟩, ?_⟩
      simp only [f_X3_fits, isIn3, if_pos h, Option.bind_some, t10, t00, if_false, if_true, ms_eq hn, if_pos e1]
    · obtain ⟨-, h2, h3⟩ := of_decide_eq_true hp
      rw [lt64, addBy hy hl.by] at h2
      rw [lt64] at h3
      refine Or.inr ⟨fun z => z.2 ⟨k, by omega, h2, h3⟩, ?_⟩
      simp only [f_X3_fits, isIn3, if_pos h, Option.bind_some, t10, if_false, ms_eq hn, if_neg e2]
  · refine Or.inr ⟨fun z => h z.1, ?_⟩
    simp only [f_X3_fits, isIn3, if_neg h, Option.bind_some, t00, if_true]
theorem fit_no {mce : Nat → Int64} {fr un : Int64} {n : Nat} {b e : Nat → Int64} {ac rf mth p3 : Int32} {l x y : Int64} (hn : n ≤ 10) (hl : kOn l) (hb : kPie n b e) (hno : ∀ k, k < n → x ≤ e k → ¬ kFit fr un n b e l (e k)) : ∀ (u i : Nat), i ≤ n → n - i < u → f_X3_fit_86 u mce fr un b e (nI n) ac rf mth p3 l x 0 y (nI i) = some (-9, mce, ac, rf + 1, mth) := by
  intro u
  induction u with
  | zero => intro i hi hf; omega
  | succ u ih =>
    intro i hi hf
    by_cases h : n ≤ i
    · have h' : nI n ≤ nI i := (q_le (by omega) (by omega)).mpr h
      simp only [f_X3_fit_86, if_pos h', if_true, f_X3_no, Option.bind_some]
    · have h' : ¬ nI n ≤ nI i := t49 (by omega) (by omega) h
      have es : nI i + 1 = nI (i + 1) := q_s i
      have ei : (nI i).toNatClampNeg = i := q_cl (by omega)
      have a1 : ix (nI i) 10 := q_ix (by omega) (by omega)
      have hi2 := ih (i + 1) (by omega) (by omega)
      by_cases h1 : e i < x
      · simp only [f_X3_fit_86, if_neg h', if_pos a1, ei, if_pos h1, es, hi2]
      · rcases fits3 (fr := fr) (un := un) (b := b) (e := e) hn (hb i (by omega)).2.1 hl with ⟨z, -⟩ | ⟨-, e3⟩
        · exact absurd z (hno i (by omega) (Int64.not_lt.mp h1))
        · simp only [f_X3_fit_86, if_neg h', if_pos a1, ei, if_neg h1, e3, Option.bind_some, if_true, es, hi2]
theorem fit_yes {mce : Nat → Int64} {fr un : Int64} {n : Nat} {b e : Nat → Int64} {ac rf mth p3 : Int32} {l x p : Int64} (hn : n ≤ 10) (hl : kOn l) (hb : kPie n b e) (h3 : ix p3 4) (hp : kFit fr un n b e l p) (hxp : x ≤ p) (hmin : ∀ k, k < n → x ≤ e k → kFit fr un n b e l (e k) → p ≤ e k) : ∀ (u i : Nat) (f : Int32) (y : Int64), i ≤ n → n - i < u → ((¬ f = 0 ∧ y = p) ∨ ((f = 0 ∨ p ≤ y) ∧ ∃ k, i ≤ k ∧ k < n ∧ e k = p)) → f_X3_fit_86 u mce fr un b e (nI n) ac rf mth p3 l x f y (nI i) = some (if mce p3.toNatClampNeg = p then 0 else 1, vp_updL mce p3.toNatClampNeg p, ac + 1, rf, mth) := by
  intro u
  induction u with
  | zero => intro i f y hi hf; omega
  | succ u ih =>
    intro i f y hi hf hst
    by_cases h : n ≤ i
    · have h' : nI n ≤ nI i := (q_le (by omega) (by omega)).mpr h
      rcases hst with ⟨h4, h5⟩ | ⟨-, k, h6, h7, -⟩
      · by_cases h8 : mce p3.toNatClampNeg = p
        · simp only [f_X3_fit_86, if_pos h', if_neg h4, h5, if_pos h3, if_pos h8, f_X3_fit_188, f_X3_fit_210, if_true, f_X3_done, Option.bind_some]
        · simp only [f_X3_fit_86, if_pos h', if_neg h4, h5, if_pos h3, if_neg h8, f_X3_fit_188, f_X3_fit_210, t10, if_false, f_X3_done, Option.bind_some]
      · omega
    · have h' : ¬ nI n ≤ nI i := t49 (by omega) (by omega) h
      have es : nI i + 1 = nI (i + 1) := q_s i
      have ei : (nI i).toNatClampNeg = i := q_cl (by omega)
      have a1 : ix (nI i) 10 := q_ix (by omega) (by omega)
      have keep : (¬ kFit fr un n b e l (e i) ∨ e i < x) → ((¬ f = 0 ∧ y = p) ∨ ((f = 0 ∨ p ≤ y) ∧ ∃ k, i + 1 ≤ k ∧ k < n ∧ e k = p)) := fun hno => by
        rcases hst with h4 | ⟨h4, k, h5, h6, h7⟩
        · exact Or.inl h4
        · refine Or.inr ⟨h4, k, ?_, h6, h7⟩
          by_cases e9 : k = i
          · rw [e9] at h7
            rcases hno with hno | hno
            · rw [h7] at hno; exact absurd hp hno
            · rw [h7] at hno; exact absurd hno (Int64.not_lt.mpr hxp)
          · omega
      by_cases h1 : e i < x
      · have hi2 := ih (i + 1) f y (by omega) (by omega) (keep (Or.inr h1))
        simp only [f_X3_fit_86, if_neg h', if_pos a1, ei, if_pos h1, es, hi2]
      · rcases fits3 (fr := fr) (un := un) (b := b) (e := e) hn (hb i (by omega)).2.1 hl with ⟨hz, e3⟩ | ⟨hz, e3⟩
        · have hpi := hmin i (by omega) (Int64.not_lt.mp h1) hz
          have new : (¬ (1 : Int32) = 0 ∧ e i = p) ∨ (((1 : Int32) = 0 ∨ p ≤ e i) ∧ ∃ k, i + 1 ≤ k ∧ k < n ∧ e k = p) ∨ (¬ f = 0 ∧ y = p) := by
            rcases hst with h4 | ⟨h4, k, h5, h6, h7⟩
            · exact Or.inr (Or.inr h4)
            · by_cases e9 : k = i
              · rw [e9] at h7; exact Or.inl ⟨by decide, h7⟩
              · exact Or.inr (Or.inl ⟨Or.inr hpi, k, by omega, h6, h7⟩)
          by_cases hf0 : f = 0
          · have new' : (¬ (1 : Int32) = 0 ∧ e i = p) ∨ (((1 : Int32) = 0 ∨ p ≤ e i) ∧ ∃ k, i + 1 ≤ k ∧ k < n ∧ e k = p) := by
              rcases new with h4 | h4 | h4
              · exact Or.inl h4
              · exact Or.inr h4
              · exact absurd hf0 h4.1
            have hi2 := ih (i + 1) 1 (e i) (by omega) (by omega) new'
            simp only [f_X3_fit_86, if_neg h', if_pos a1, ei, if_neg h1, e3, Option.bind_some, t10, if_false, if_pos hf0, es, hi2]
          · by_cases hy : y ≤ e i
            · have old : (¬ f = 0 ∧ y = p) ∨ ((f = 0 ∨ p ≤ y) ∧ ∃ k, i + 1 ≤ k ∧ k < n ∧ e k = p) := by
                rcases hst with h4 | ⟨h4, k, h5, h6, h7⟩
                · exact Or.inl h4
                · by_cases e9 : k = i
                  · rw [e9] at h7
                    refine Or.inl ⟨hf0, ?_⟩
                    rcases h4 with h4 | h4
                    · exact absurd h4 hf0
                    · rw [h7] at hy; exact Int64.le_antisymm hy h4
                  · exact Or.inr ⟨h4, k, by omega, h6, h7⟩
              have hi2 := ih (i + 1) f y (by omega) (by omega) old
              simp only [f_X3_fit_86, if_neg h', if_pos a1, ei, if_neg h1, e3, Option.bind_some, t10, if_false, if_neg hf0, if_pos hy, es, hi2]
            · have new' : (¬ (1 : Int32) = 0 ∧ e i = p) ∨ (((1 : Int32) = 0 ∨ p ≤ e i) ∧ ∃ k, i + 1 ≤ k ∧ k < n ∧ e k = p) := by
                rcases new with h4 | h4 | h4
                · exact Or.inl h4
                · exact Or.inr h4
                · exact absurd hpi (h4.2 ▸ hy)
              have hi2 := ih (i + 1) 1 (e i) (by omega) (by omega) new'
              simp only [f_X3_fit_86, if_neg h', if_pos a1, ei, if_neg h1, e3, Option.bind_some, t10, if_false, if_neg hf0, if_neg hy, es, hi2]
        · have hi2 := ih (i + 1) f y (by omega) (by omega) (keep (Or.inl hz))
          simp only [f_X3_fit_86, if_neg h', if_pos a1, ei, if_neg h1, e3, Option.bind_some, if_true, es, hi2]
theorem kLen_on {u n : Int32} (h1 : 1 ≤ n.toInt) (h2 : n.toInt ≤ 2000000000) : kOn (kLen u n) := by
  have e6 : (1000000 : Int64).toInt = 1000000 := by decide +kernel
  have e1 : (1 : Int64).toInt = 1 := by decide
  refine ⟨?_, (kLen_by (u := u) (by omega) h2).2⟩
  unfold kLen
  by_cases a : u = 0
  · rw [if_pos a]
    have e : (n.toInt64 * 1000000000).toInt = n.toInt * 1000000000 := by rw [m64 (by rw [w64, eB]; omega) (by rw [w64, eB]; omega), w64, eB]
    rw [e]; omega
  · by_cases b : u = 1
    · rw [if_neg a, if_pos b]
      have e : (n.toInt64 * 1000000).toInt = n.toInt * 1000000 := by rw [m64 (by rw [w64, e6]; omega) (by rw [w64, e6]; omega), w64, e6]
      rw [e]; omega
    · rw [if_neg a, if_neg b]
      have e : (n.toInt64 * 1).toInt = n.toInt := by rw [m64 (by rw [w64, e1]; omega) (by rw [w64, e1]; omega), w64, e1]; omega
      rw [e]; omega
theorem op_fit {ce mce : Nat → Int64} {fr un : Int64} {n : Nat} {sb se : Nat → Int64} {so : Nat → Int32} {mbe men : Nat → Int64} {mov : Nat → Int32} {ac rf : Int32} {on : Int64} {p0 p1 p2 p3 : Int32} (hc : kCe ce mce) (hS : kSpans fr un n sb se so mbe men mov) (hn : n ≤ 10) (hf : kLet fr) (hu : kLet un) : ∃ r r', f_L_fit ce fr un sb se (nI n) ac rf on p0 p1 p2 p3 = some r ∧ f_X3_fit mce fr un mbe men (nI n) ac rf p0 p1 p2 p3 = some r' ∧ r'.2.2.2.2 = r.1 ∧ (r.1 = 0 → r.2.2.2.2 = r'.1.toInt64) ∧ kCe r.2.1 r'.2.1 ∧ r.2.2.1 = r'.2.2.1 ∧ r.2.2.2.1 = r'.2.2.2.1 := by
  have q39 : ∀ a b, f_X3_fit_39 mce fr un mbe men (nI n) ac rf p0 p1 p2 p3 b a = if a = 0 then (if b = 0 then f_X3_fit_39 mce fr un mbe men (nI n) ac rf p0 p1 p2 p3 0 0 else some (0, mce, ac, rf, 2)) else some (0, mce, ac, rf, 1) := fun a b => by
    by_cases ha : a = 0
    · by_cases hb : b = 0
      · rw [if_pos ha, if_pos hb, ha, hb]
      · simp only [f_X3_fit_39, thrown3, if_pos ha, if_neg hb, Option.bind_some, t10, if_false]
    · simp only [f_X3_fit_39, thrown3, if_neg ha, Option.bind_some, t10, if_false]
  have q21 : ∀ a, f_X3_fit_21 mce fr un mbe men (nI n) ac rf p0 p1 p2 p3 a = if a = 0 then (if kUnitOk 1 p1 p2 then f_X3_fit_39 mce fr un mbe men (nI n) ac rf p0 p1 p2 p3 0 0 else some (0, mce, ac, rf, 2)) else some (0, mce, ac, rf, 1) := fun a => by
    by_cases h1 : kUnitOk 1 p1 p2
    · have h2 : kUnitOk (-2000000000) p1 p2 := ⟨h1.1, h1.2.1, by have := h1.2.2.1; omega, h1.2.2.2⟩
      have h3 : (1 : Int32) ≤ p2 := by rw [le32, c1']; exact h1.2.2.1
      simp only [f_X3_fit_21, noUnit3, if_pos h1, if_pos h2, Option.bind_some, if_true, if_pos h3]
      rw [q39 a 0, if_pos rfl]
    · by_cases h2 : kUnitOk (-2000000000) p1 p2
      · have h3 : ¬ (1 : Int32) ≤ p2 := by rw [le32, c1']; exact fun z => h1 ⟨h2.1, h2.2.1, z, h2.2.2.2⟩
        simp only [f_X3_fit_21, f_X3_fit_34, noUnit3, if_neg h1, if_pos h2, Option.bind_some, if_true, if_neg h3]
        rw [q39 a 1, if_neg (show ¬ (1 : Int32) = 0 by decide)]
      · simp only [f_X3_fit_21, f_X3_fit_34, noUnit3, if_neg h1, if_neg h2, Option.bind_some, t10, if_false]
        rw [q39 a 1, if_neg (show ¬ (1 : Int32) = 0 by decide)]
  by_cases h0 : ix p0 4
  · by_cases h3 : ix p3 4
    · by_cases h1 : kUnitOk 1 p1 p2
      · have hl := kLen_on (u := p1) h1.2.2.1 h1.2.2.2
        generalize hL : kLen p1 p2 = l at hl
        have hM : f_X3_fit mce fr un mbe men (nI n) ac rf p0 p1 p2 p3 = f_X3_fit_39 mce fr un mbe men (nI n) ac rf p0 p1 p2 p3 0 0 := by
          simp only [f_X3_fit, is3, if_pos h0, if_pos h3, Option.bind_some, t10, if_false]
          rw [q21 0, if_pos rfl, if_pos h1]
        obtain ⟨x, ex, hx, hfx⟩ : ∃ x, (if fr < mce p0.toNatClampNeg then mce p0.toNatClampNeg else fr) = x ∧ kLet x ∧ fr ≤ x := by
          by_cases z : fr < mce p0.toNatClampNeg
          · rw [if_pos z]; exact ⟨_, rfl, hc.let h0, Int64.le_of_lt z⟩
          · rw [if_neg z]; exact ⟨_, rfl, hf, Int64.le_refl _⟩
        have hP := hS.pie hf hu
        obtain ⟨r, e1, hr, g1, g2, g3, g4⟩ := ws_eq hn hl (hS.pie1 hf hu) hx
        have hcg : ∀ {q : Int}, kMt n sb se l.toInt q ↔ kMt n mbe men l.toInt q := fun {q} => kMt_congr (fun k hk => ⟨(hS k hk).1, (hS k hk).2.1⟩)
        have far : ∀ {y : Int64}, x ≤ y → kFit fr un n mbe men l y → r ≤ y := fun {y} hy hfy => by
          rw [le64]
          rw [le64] at hy
          by_cases z : r.toInt ≤ y.toInt
          · exact z
          · exact absurd (hcg.mp (g2 y.toInt hy (by omega))) hfy.2
        by_cases h2 : r + l ≤ un
        · have hrf : kFit fr un n mbe men l r := ⟨⟨Int64.le_trans hfx (le64.mpr g1), h2⟩, fun z => g3 (hcg.mpr z)⟩
          obtain ⟨f, ef, hst⟩ : ∃ f, f_X3_fits fr un mbe men (nI n) x l = some f ∧ ((¬ f = 0 ∧ x = r) ∨ ((f = 0 ∨ r ≤ x) ∧ ∃ k, 0 ≤ k ∧ k < n ∧ men k = r)) := by
            rcases fits3 (fr := fr) (un := un) (b := mbe) (e := men) hn hx hl with ⟨hz, e3⟩ | ⟨hz, e3⟩
            · refine ⟨1, e3, Or.inl ⟨by decide, ?_⟩⟩
              exact Int64.le_antisymm (le64.mpr g1) (far (Int64.le_refl _) hz)
            · refine ⟨0, e3, Or.inr ⟨Or.inl rfl, ?_⟩⟩
              rcases g4 with g4 | ⟨k, hk, g4⟩
              · rw [g4] at hrf; exact absurd hrf hz
              · exact ⟨k, Nat.zero_le _, hk, by rw [g4, (hS k hk).2.1]⟩
          have e9 := fit_yes (mce := mce) (fr := fr) (un := un) (b := mbe) (e := men) (ac := ac) (rf := rf) (mth := 0) hn hl hP h3 hrf (le64.mpr g1) (fun k hk h4 h5 => far h4 h5) 24 0 f x (Nat.zero_le _) (by omega) hst
          have e8 : f_X3_fit_86 24 mce fr un mbe men (nI n) ac rf 0 p3 l x f x 0 = some (if mce p3.toNatClampNeg = r then 0 else 1, vp_updL mce p3.toNatClampNeg r, ac + 1, rf, 0) := e9
          rw [hM]
          by_cases h8 : mce p3.toNatClampNeg = r
          · rw [if_pos h8] at e8
            simp only [f_L_fit, fx_X1_fit, f_X1_fit, f_X1_bring, f_X1_done, (needCell h0).1, (needCell h0).2, (needCell h3).1, (needCell h3).2, needUnits1, c1', if_pos h1, xb_n, Option.bind_some, len1, hL, if_pos h0, hc.eq h0, ex, e1, if_pos h2, if_pos h3, hc.eq h3, if_pos h8, f_X3_fit_39, thrown3, if_true, len3, ef, e8]
            exact ⟨_, _, rfl, rfl, rfl, fun _ => rfl, hc.upd _ hr, rfl, rfl⟩
          · rw [if_neg h8] at e8
            simp only [f_L_fit, fx_X1_fit, f_X1_fit, f_X1_bring, f_X1_done, (needCell h0).1, (needCell h0).2, (needCell h3).1, (needCell h3).2, needUnits1, c1', if_pos h1, xb_n, Option.bind_some, len1, hL, if_pos h0, hc.eq h0, ex, e1, if_pos h2, if_pos h3, hc.eq h3, if_neg h8, f_X3_fit_39, thrown3, if_true, len3, ef, e8]
            exact ⟨_, _, rfl, rfl, rfl, fun _ => rfl, hc.upd _ hr, rfl, rfl⟩
        · have nof : ∀ {y : Int64}, kLet y → x ≤ y → ¬ kFit fr un n mbe men l y := fun {y} hy hxy hz => by
            have h4 := far hxy hz
            have h5 := hz.1.2
            refine h2 ?_
            rw [le64, addBy hr hl.by]
            rw [le64] at h4
            rw [le64, addBy hy hl.by] at h5
            omega
          have e9 := fit_no (mce := mce) (fr := fr) (un := un) (b := mbe) (e := men) (ac := ac) (rf := rf) (mth := 0) (p3 := p3) (x := x) (y := x) hn hl hP (fun k hk h4 => nof (hP k hk).2.1 h4) 24 0 (Nat.zero_le _) (by omega)
          have e8 : f_X3_fit_86 24 mce fr un mbe men (nI n) ac rf 0 p3 l x 0 x 0 = some (-9, mce, ac, rf + 1, 0) := e9
          have ef : f_X3_fits fr un mbe men (nI n) x l = some 0 := by
            rcases fits3 (fr := fr) (un := un) (b := mbe) (e := men) hn hx hl with ⟨hz, -⟩ | ⟨-, e3⟩
            · exact absurd hz (nof hx (Int64.le_refl _))
            · exact e3
          rw [hM]
          simp only [f_L_fit, fx_X1_fit, f_X1_fit, f_X1_refuse, (needCell h0).1, (needCell h0).2, (needCell h3).1, (needCell h3).2, needUnits1, c1', if_pos h1, xb_n, Option.bind_some, len1, hL, if_pos h0, hc.eq h0, ex, e1, if_neg h2, f_X3_fit_39, thrown3, if_true, len3, ef, e8]
          exact ⟨_, _, rfl, rfl, rfl, fun _ => rfl, hc, rfl, rfl⟩
      · have hM : f_X3_fit mce fr un mbe men (nI n) ac rf p0 p1 p2 p3 = some (0, mce, ac, rf, 2) := by
          simp only [f_X3_fit, is3, if_pos h0, if_pos h3, Option.bind_some, t10, if_false]
          rw [q21 0, if_pos rfl, if_neg h1]
        rw [hM]
        simp only [f_L_fit, fx_X1_fit, (needCell h0).1, (needCell h0).2, (needCell h3).1, (needCell h3).2, needUnits1, c1', if_neg h1, xb_n, xb_s, Option.bind_some, u21, if_false]
        exact ⟨_, _, rfl, rfl, rfl, fun z => no2 z, hc, rfl, rfl⟩
    · have hM : f_X3_fit mce fr un mbe men (nI n) ac rf p0 p1 p2 p3 = some (0, mce, ac, rf, 1) := by
        simp only [f_X3_fit, is3, if_pos h0, if_neg h3, Option.bind_some, t10, t00, if_false, if_true, f_X3_fit_16]
        rw [q21 1, if_neg (show ¬ (1 : Int32) = 0 by decide)]
      rw [hM]
      simp only [f_L_fit, fx_X1_fit, (needCell h0).1, (needCell h0).2, (needCellN h3).1, (needCellN h3).2, xb_n, xb_s, Option.bind_some, u12, if_true]
      exact ⟨_, _, rfl, rfl, rfl, fun z => no1 z, hc, rfl, rfl⟩
  · have hM : f_X3_fit mce fr un mbe men (nI n) ac rf p0 p1 p2 p3 = some (0, mce, ac, rf, 1) := by
      simp only [f_X3_fit, is3, if_neg h0, Option.bind_some, t00, if_true, f_X3_fit_16]
      rw [q21 1, if_neg (show ¬ (1 : Int32) = 0 by decide)]
    rw [hM]
    simp only [f_L_fit, fx_X1_fit, (needCellN h0).1, (needCellN h0).2, xb_s, u12, if_true]
    exact ⟨_, _, rfl, rfl, rfl, fun z => no1 z, hc, rfl, rfl⟩
end
-- 55.pure.lean.txt
section
/-! what is free: the pieces, as both sides find them -/
/-- m pieces from number i on are just what is free from x to un -/
def kPcs (T : Int → Prop) (un : Int) (P R : Nat → Int64) : Nat → Nat → Int → Prop
  | 0, _, x => ∀ q, x ≤ q → q < un → T q
  | m + 1, i, x => x ≤ (P i).toInt ∧ (∀ q, x ≤ q → q < (P i).toInt → T q) ∧ (P i).toInt < (R i).toInt ∧ (∀ q, (P i).toInt ≤ q → q < (R i).toInt → ¬ T q) ∧ (R i).toInt ≤ un ∧ ((R i).toInt < un → T (R i).toInt) ∧ kPcs T un P R m (i + 1) (R i).toInt
theorem kPcs_uniq {T : Int → Prop} {un : Int} {P R P' R' : Nat → Int64} : ∀ (m m' i : Nat) (x : Int), kPcs T un P R m i x → kPcs T un P' R' m' i x → m = m' ∧ ∀ k, i ≤ k → k < i + m → P k = P' k ∧ R k = R' k := by
  intro m
  induction m with
  | zero =>
    intro m' i x h h'
    cases m' with
    | zero => exact ⟨rfl, fun k h1 h2 => by omega⟩
    | succ m' =>
      obtain ⟨a1, a2, a3, a4, a5, a6, a7⟩ := h'
      exact absurd (h _ a1 (by omega)) (a4 _ (Int.le_refl _) a3)
  | succ m ih =>
    intro m' i x h h'
    obtain ⟨b1, b2, b3, b4, b5, b6, b7⟩ := h
    cases m' with
    | zero => exact absurd (h' _ b1 (by omega)) (b4 _ (Int.le_refl _) b3)
    | succ m' =>
      obtain ⟨a1, a2, a3, a4, a5, a6, a7⟩ := h'
      have eP : (P i).toInt = (P' i).toInt := by
        rcases Int.lt_trichotomy (P i).toInt (P' i).toInt with z | z | z
        · exact absurd (a2 _ b1 z) (b4 _ (Int.le_refl _) b3)
        · exact z
        · exact absurd (b2 _ a1 z) (a4 _ (Int.le_refl _) a3)
      have eR : (R i).toInt = (R' i).toInt := by
        rcases Int.lt_trichotomy (R i).toInt (R' i).toInt with z | z | z
        · exact absurd (b6 (by omega)) (a4 _ (by omega) z)
        · exact z
        · exact absurd (a6 (by omega)) (b4 _ (by omega) z)
      rw [← eR] at a7
      obtain ⟨c1, c2⟩ := ih m' (i + 1) _ b7 a7
      refine ⟨by rw [c1], fun k h1 h2 => ?_⟩
      by_cases e9 : k = i
      · rw [e9]; exact ⟨Int64.toInt_inj.mp eP, Int64.toInt_inj.mp eR⟩
      · exact c2 k (by omega) (by omega)
theorem kPcs_congr {T T' : Int → Prop} {un : Int} {P R : Nat → Int64} (h : ∀ q, T q ↔ T' q) : ∀ (m i : Nat) (x : Int), kPcs T un P R m i x → kPcs T' un P R m i x := by
  intro m
  induction m with
  | zero => intro i x hh q h1 h2; exact (h q).mp (hh q h1 h2)
  | succ m ih =>
    intro i x hh
    obtain ⟨b1, b2, b3, b4, b5, b6, b7⟩ := hh
    exact ⟨b1, fun q h1 h2 => (h q).mp (b2 q h1 h2), b3, fun q h1 h2 z => b4 q h1 h2 ((h q).mpr z), b5, fun z => (h _).mp (b6 z), ih _ _ b7⟩
theorem kPcs_in {T : Int → Prop} {un : Int} {P R : Nat → Int64} : ∀ (m i : Nat) (x : Int), kPcs T un P R m i x → ∀ k, i ≤ k → k < i + m → x ≤ (P k).toInt ∧ (P k).toInt < (R k).toInt ∧ (R k).toInt ≤ un ∧ ∀ q, (P k).toInt ≤ q → q < (R k).toInt → ¬ T q := by
  intro m
  induction m with
  | zero => intro i x hh k h1 h2; omega
  | succ m ih =>
    intro i x hh k h1 h2
    obtain ⟨b1, b2, b3, b4, b5, b6, b7⟩ := hh
    by_cases e9 : k = i
    · rw [e9]; exact ⟨b1, b3, b5, b4⟩
    · obtain ⟨c1, c2, c3, c4⟩ := ih (i + 1) _ b7 k (by omega) (by omega)
      exact ⟨by omega, c2, c3, c4⟩
theorem e1_64 : (1 : Int64).toInt = 1 := by decide
theorem kOn1 : kOn 1 := ⟨by rw [e1_64]; omega, by rw [e1_64]; omega⟩
theorem fw_eq {b e : Nat → Int64} {n : Nat} {x : Int64} (hn : n ≤ 11) : f_X0_firstWith b e (nI n) x = some (kF (fun k => decide (nI k ≠ -1 ∧ b k < x + 1 ∧ x < e k)) 0 n) := by
  simp only [f_X0_firstWith, fm_eq hn, Option.bind_some]
theorem fw_cases {b e : Nat → Int64} {n : Nat} {x : Int64} (hn : n ≤ 11) (hx : kLet x) : (f_X0_firstWith b e (nI n) x = some (-1) ∧ ¬ kMt n b e 1 x.toInt) ∨ ∃ k, k < n ∧ f_X0_firstWith b e (nI n) x = some (nI k) ∧ (b k).toInt ≤ x.toInt ∧ x.toInt < (e k).toInt := by
  rcases kF_m1 (p := fun k => decide (nI k ≠ -1 ∧ b k < x + 1 ∧ x < e k)) n 0 (by omega) with ⟨e1, h1⟩ | ⟨k, -, hk, hp, e1, e2, -⟩
  · have h9 := fm_no hx kOn1 h1 (by omega)
    rw [e1_64] at h9
    exact Or.inl ⟨by rw [fw_eq hn, e1], h9⟩
  · obtain ⟨-, h2, h3⟩ := of_decide_eq_true hp
    rw [lt64, addBy hx kOn1.by, e1_64] at h2
    rw [lt64] at h3
    exact Or.inr ⟨k, by omega, by rw [fw_eq hn, e1], by omega, h3⟩
theorem nb_loop {b : Nat → Int64} {n : Nat} {x : Int64} (hn : n ≤ 11) : ∀ (u i : Nat) (y : Int64), i ≤ n → n - i < u → ∃ z, f_X0_nextBegin_6 u b (nI n) x y (nI i) = some z ∧ z ≤ y ∧ (z = y ∨ ∃ k, k < n ∧ z = b k ∧ x ≤ b k) ∧ ∀ k, i ≤ k → k < n → x ≤ b k → z ≤ b k := by
  intro u
  induction u with
  | zero => intro i y hi hf; omega
  | succ u ih =>
    intro i y hi hf
    by_cases h : n ≤ i
    · have h' : nI n ≤ nI i := (q_le (by omega) (by omega)).mpr h
      refine ⟨y, ?_, Int64.le_refl _, Or.inl rfl, fun k h1 h2 => by omega⟩
      simp only [f_X0_nextBegin_6, if_pos h']
    · have h' : ¬ nI n ≤ nI i := t49 (by omega) (by omega) h
      have es : nI i + 1 = nI (i + 1) := q_s i
      have ei : (nI i).toNatClampNeg = i := q_cl (by omega)
      have a1 : ix (nI i) 11 := q_ix (by omega) (by omega)
      by_cases h1 : b i < x
      · obtain ⟨z, e3, g1, g2, g3⟩ := ih (i + 1) y (by omega) (by omega)
        refine ⟨z, ?_, g1, g2, fun k h2 h3 h4 => ?_⟩
        · simp only [f_X0_nextBegin_6, if_neg h', if_pos a1, ei, if_pos h1, es, e3]
        · by_cases e9 : k = i
          · rw [e9] at h4; exact absurd h1 (Int64.not_lt.mpr h4)
          · exact g3 k (by omega) h3 h4
      · by_cases h5 : y ≤ b i
        · obtain ⟨z, e3, g1, g2, g3⟩ := ih (i + 1) y (by omega) (by omega)
          refine ⟨z, ?_, g1, g2, fun k h2 h3 h4 => ?_⟩
          · simp only [f_X0_nextBegin_6, if_neg h', if_pos a1, ei, if_neg h1, if_pos h5, es, e3]
          · by_cases e9 : k = i
            · rw [e9]; exact Int64.le_trans g1 h5
            · exact g3 k (by omega) h3 h4
        · obtain ⟨z, e3, g1, g2, g3⟩ := ih (i + 1) (b i) (by omega) (by omega)
          refine ⟨z, ?_, Int64.le_trans g1 (Int64.le_of_lt (Int64.not_le.mp h5)), Or.inr ?_, fun k h2 h3 h4 => ?_⟩
          · simp only [f_X0_nextBegin_6, if_neg h', if_pos a1, ei, if_neg h1, if_neg h5, es, e3]
          · rcases g2 with g2 | g2
            · exact ⟨i, by omega, g2, Int64.not_lt.mp h1⟩
            · exact g2
          · by_cases e9 : k = i
            · rw [e9]; exact g1
            · exact g3 k (by omega) h3 h4
theorem nb_eq {b : Nat → Int64} {n : Nat} {x y : Int64} (hn : n ≤ 11) : ∃ z, f_X0_nextBegin b (nI n) x y = some z ∧ z ≤ y ∧ (z = y ∨ ∃ k, k < n ∧ z = b k ∧ x ≤ b k) ∧ ∀ k, k < n → x ≤ b k → z ≤ b k := by
  obtain ⟨z, e3, g1, g2, g3⟩ := nb_loop (b := b) (x := x) hn 24 0 y (Nat.zero_le _) (by omega)
  exact ⟨z, e3, g1, g2, fun k h => g3 k (Nat.zero_le _) h⟩
/-- what the class finds taken first, from a free moment on -/
theorem ft_eq {un : Int64} {b e : Nat → Int64} {n : Nat} {r : Int64} (hn : n ≤ 10) (hr : kLet r) (hT : ¬ kMt n b e 1 r.toInt) : ∃ z, f_X1_firstTaken un b e (nI n) r = some z ∧ z ≤ un ∧ (z = un ∨ ∃ k, k < n ∧ z = b k ∧ r ≤ b k) ∧ ∀ k, k < n → r ≤ b k → z ≤ b k := by
  obtain ⟨z, e3, g⟩ := nb_eq (b := b) (x := r) (y := un) (show n ≤ 11 by omega)
  rcases fw_cases (b := b) (e := e) (show n ≤ 11 by omega) hr with ⟨e1, -⟩ | ⟨k, hk, -, h1, h2⟩
  · refine ⟨z, ?_, g⟩
    simp only [f_X1_firstTaken, e1, Option.bind_some, tm1, if_true, e3]
  · exact absurd ⟨k, hk, by omega, h2⟩ hT
theorem ft_tk {un : Int64} {b e : Nat → Int64} {n : Nat} {r : Int64} (hn : n ≤ 10) (hr : kLet r) (hT : kMt n b e 1 r.toInt) : f_X1_firstTaken un b e (nI n) r = some r := by
  rcases fw_cases (b := b) (e := e) (show n ≤ 11 by omega) hr with ⟨-, e1⟩ | ⟨k, hk, e1, h1, h2⟩
  · exact absurd hT e1
  · simp only [f_X1_firstTaken, e1, Option.bind_some, nI_m1 (show k ≤ 65536 by omega), if_false]
abbrev kIns (fr un : Int64) (n : Nat) (b e : Nat → Int64) : Prop := ∀ k, k < n → fr.toInt ≤ (b k).toInt ∧ (e k).toInt ≤ un.toInt
theorem kMt.ab {n : Nat} {b e : Nat → Int64} {q : Int} (h : kMt n b e 1 q) : 1 ≤ kAb e q n := by
  obtain ⟨k, hk, -, h2⟩ := h
  exact kAb_pos h2 n hk
/-- behind a span that had x nothing free comes without one piece less -/
theorem kAb_pass {n : Nat} {b e : Nat → Int64} {x r z : Int} (hx : kMt n b e 1 x) (hxr : x ≤ r) (hr : ¬ kMt n b e 1 r) (hz : r ≤ z) : kAb e z n + 1 ≤ kAb e x n := by
  obtain ⟨k, hk, h1, h2⟩ := hx
  refine kAb_lt (by omega) h2 ?_ n hk
  by_cases h3 : r < (e k).toInt
  · exact absurd ⟨k, hk, by omega, h3⟩ hr
  · omega
theorem not_between {n : Nat} {b e : Nat → Int64} {r z : Int} (hr : ¬ kMt n b e 1 r) (hz : ∀ k, k < n → r ≤ (b k).toInt → z ≤ (b k).toInt) (q : Int) (h1 : r ≤ q) (h2 : q < z) : ¬ kMt n b e 1 q := fun ⟨k, hk, h3, h4⟩ => by
  by_cases h5 : r ≤ (b k).toInt
  · have := hz k hk h5; omega
  · exact hr ⟨k, hk, by omega, by omega⟩
theorem ff_loop {fr un : Int64} {n : Nat} {sb se : Nat → Int64} (hn : n ≤ 10) (hu : kLet un) (hb : kPie n sb se) (hin : kIns fr un n sb se) : ∀ (u i j : Nat) (fb fe : Nat → Int64) (fo : Nat → Int32) (x : Int64), j ≤ i → kLet x → x.toInt ≤ un.toInt → i ≤ n + 1 → (n + 1) - i < u → (0 < i → x.toInt < un.toInt → kMt n sb se 1 x.toInt) → (i = 0 ∨ i + kAb se x.toInt n ≤ n + 1) → ∃ m fb2 fe2 fo2, f_X1_findFrees_15 u un sb se (nI n) fb fe fo (nI j) x (nI i) = some (fb2, fe2, fo2, nI (j + m)) ∧ j + m ≤ 11 ∧ (∀ k, k < j → fb2 k = fb k ∧ fe2 k = fe k) ∧ kPcs (kMt n sb se 1) un.toInt fb2 fe2 m j x.toInt := by
  intro u
  induction u with
  | zero => intro i j fb fe fo x hj hx hxu hi hf; omega
  | succ u ih =>
    intro i j fb fe fo x hj hx hxu hi hf h0 hab
    by_cases h : n < i
    · have h' : nI n < nI i := (q_lt (by omega) (by omega)).mpr h
      refine ⟨0, fb, fe, fo, ?_, by omega, fun k hk => ⟨rfl, rfl⟩, fun q h1 h2 => ?_⟩
      · simp only [f_X1_findFrees_15, f_X0_count, Option.bind_some, if_pos h']; rfl
      · have := (h0 (by omega) (by omega)).ab
        omega
    · have h' : ¬ nI n < nI i := fun z => h ((q_lt (by omega) (by omega)).mp z)
      by_cases h1 : un ≤ x
      · have h1' := le64.mp h1
        refine ⟨0, fb, fe, fo, ?_, by omega, fun k hk => ⟨rfl, rfl⟩, fun q h2 h3 => by omega⟩
        simp only [f_X1_findFrees_15, f_X0_count, Option.bind_some, if_neg h', if_pos h1]; rfl
      · have h1' : x.toInt < un.toInt := by rw [le64] at h1; omega
        have hu1 : 1 ≤ u := by clear h0; omega
        have hf1 : (n + 1) - (i + 1) < u := by clear h0; omega
        have hi1 : i + 1 ≤ n + 1 := by clear h0; omega
        have hj11 : j < 11 := by clear h0; omega
        have es : nI i + 1 = nI (i + 1) := q_s i
        obtain ⟨r, e4, hr, g1, g2, g3, g4⟩ := ws_eq hn kOn1 hb hx
        rw [e1_64] at g2 g3
        have hru : r.toInt ≤ un.toInt := by
          rcases g4 with g4 | ⟨k, hk, g4⟩
          · rw [g4]; exact hxu
          · rw [g4]; exact (hin k hk).2
        obtain ⟨z, e5, k1, k2, k3⟩ := ft_eq (un := un) hn hr g3
        have k1' := le64.mp k1
        have k3' : ∀ k, k < n → r.toInt ≤ (sb k).toInt → z.toInt ≤ (sb k).toInt := fun k hk h9 => le64.mp (k3 k hk (le64.mpr h9))
        by_cases h2 : z ≤ r
        · have h2' := le64.mp h2
          have hzu : r.toInt = un.toInt := by
            rcases k2 with k2 | ⟨k, hk, k2, k4⟩
            · rw [k2] at h2'; omega
            · have b3 := (hb k hk).2.2
              rw [← k2] at b3
              rw [← k2] at k4
              have k4' := le64.mp k4
              exact absurd ⟨k, hk, by rw [← k2]; omega, by omega⟩ g3
          have hz : un ≤ z := by
            rcases k2 with k2 | ⟨k, hk, k2, k4⟩
            · rw [k2]; exact Int64.le_refl _
            · rw [← k2] at k4
              rw [le64]; have := le64.mp k4; omega
          refine ⟨0, fb, fe, fo, ?_, by omega, fun k hk => ⟨rfl, rfl⟩, fun q h3 h4 => g2 q h3 (by omega)⟩
          obtain ⟨u, rfl⟩ : ∃ v, u = v + 1 := ⟨u - 1, (Nat.sub_add_cancel hu1).symm⟩
          by_cases h6 : nI n < nI (i + 1)
          · simp only [f_X1_findFrees_15, f_X0_count, Option.bind_some, if_neg h', if_neg h1, e4, e5, if_pos h2, es, if_pos h6]; rfl
          · simp only [f_X1_findFrees_15, f_X0_count, Option.bind_some, if_neg h', if_neg h1, e4, e5, if_pos h2, es, if_neg h6, if_pos hz]; rfl
        · have h2' : r.toInt < z.toInt := by rw [le64] at h2; omega
          have hzl : kLet z := ⟨by have := hr.1; omega, by have := hu.2; omega⟩
          have hzT : z.toInt < un.toInt → kMt n sb se 1 z.toInt := fun h9 => by
            rcases k2 with k2 | ⟨k, hk, k2, k4⟩
            · rw [k2] at h9; omega
            · have b3 := (hb k hk).2.2
              rw [← k2] at b3
              exact ⟨k, hk, by rw [← k2]; omega, b3⟩
          have hab2 : i + 1 + kAb se z.toInt n ≤ n + 1 := by
            by_cases h9 : i = 0
            · have := kAb_le (e := se) (x := z.toInt) n; omega
            · have := kAb_pass (h0 (by omega) h1') g1 g3 (show r.toInt ≤ z.toInt by omega)
              rcases hab with hab | hab <;> omega
          obtain ⟨m, fb2, fe2, fo2, e9, c1, c2, c3⟩ := ih (i + 1) (j + 1) (vp_updL fb j r) (vp_updL fe j z) (upd fo j (vp_nar .boolean 0)) z (Nat.succ_le_succ hj) hzl k1' hi1 hf1 (fun _ => hzT) (Or.inr hab2)
          have a3 : nI j < 11 := (q_lt (b := 11) (by omega) (by omega)).mpr (by omega)
          have a4 : ix (nI j) 11 := q_ix (by omega) (by omega)
          have a5 : (nI j).toNatClampNeg = j := q_cl (by omega)
          have a6 : nI j + 1 = nI (j + 1) := q_s j
          obtain ⟨d1, d2⟩ := c2 j (by omega)
          rw [upd_at, if_pos rfl] at d1
          rw [upd_at, if_pos rfl] at d2
          refine ⟨m + 1, fb2, fe2, fo2, ?_, by omega, fun k hk => ?_, ?_⟩
          · simp only [f_X1_findFrees_15, f_X0_count, Option.bind_some, if_neg h', if_neg h1, e4, e5, if_neg h2, f_X0_add, if_pos a3, if_pos a4, a5, a6, es, e9]
            rw [show j + 1 + m = j + (m + 1) by omega]
          · obtain ⟨d3, d4⟩ := c2 k (by omega)
            rw [upd_at, if_neg (by omega)] at d3
            rw [upd_at, if_neg (by omega)] at d4
            exact ⟨d3, d4⟩
          · refine ⟨by rw [d1]; exact g1, fun q h3 h4 => g2 q h3 (by rw [← d1]; exact h4), by rw [d1, d2]; exact h2', ?_, by rw [d2]; exact k1', by rw [d2]; exact hzT, by rw [d2]; exact c3⟩
            rw [d1, d2]
            exact not_between g3 k3'
theorem ff_eq {fr un : Int64} {n : Nat} {sb se fb fe : Nat → Int64} {fo : Nat → Int32} {fc : Int32} (hn : n ≤ 10) (hf : kLet fr) (hu : kLet un) (hfu : fr < un) (hb : kPie n sb se) (hin : kIns fr un n sb se) : ∃ m fb2 fe2 fo2, f_X1_findFrees fr un sb se (nI n) fb fe fo fc = some (fb2, fe2, fo2, nI m) ∧ m ≤ 11 ∧ kPcs (kMt n sb se 1) un.toInt fb2 fe2 m 0 fr.toInt := by
  obtain ⟨m, fb2, fe2, fo2, e9, c1, -, c3⟩ := ff_loop hn hu hb hin 24 0 0 fb fe fo fr (Nat.le_refl _) hf (by have := lt64.mp hfu; omega) (by omega) (by omega) (fun h => by omega) (Or.inl rfl)
  rw [Nat.zero_add] at e9 c1
  rw [← q_0] at e9
  refine ⟨m, fb2, fe2, fo2, ?_, c1, c3⟩
  simp only [f_X1_findFrees, f_X0_clear, Option.bind_some, e9]
/-! the reference -/
theorem sp_loop {b e : Nat → Int64} {n : Nat} {x : Int64} (hn : n ≤ 10) : ∀ (u i : Nat), i ≤ n → n - i < u → f_X3_spanAt_2 u b e (nI n) x (nI i) = some (kF (fun k => decide (b k ≤ x ∧ x < e k)) i (n - i)) := by
  intro u
  induction u with
  | zero => intro i hi hf; omega
  | succ u ih =>
    intro i hi hf
    by_cases h : n ≤ i
    · have h' : nI n ≤ nI i := (q_le (by omega) (by omega)).mpr h
      rw [show n - i = 0 by omega, kF]
      simp only [f_X3_spanAt_2, if_pos h']
    · have h' : ¬ nI n ≤ nI i := t49 (by omega) (by omega) h
      have es : nI i + 1 = nI (i + 1) := q_s i
      have ei : (nI i).toNatClampNeg = i := q_cl (by omega)
      have a1 : ix (nI i) 10 := q_ix (by omega) (by omega)
      have hh := ih (i + 1) (by omega) (by omega)
      rw [show n - i = (n - (i + 1)) + 1 by omega, kF]
      by_cases h1 : x < b i
      · rw [if_neg (by simp [Int64.not_le.mpr h1])]
        simp only [f_X3_spanAt_2, if_neg h', if_pos a1, ei, if_pos h1, es, hh]
      · by_cases h2 : e i ≤ x
        · rw [if_neg (by simp [Int64.not_lt.mpr h2])]
          simp only [f_X3_spanAt_2, if_neg h', if_pos a1, ei, if_neg h1, if_pos h2, es, hh]
        · rw [if_pos (decide_eq_true ⟨Int64.not_lt.mp h1, Int64.not_le.mp h2⟩)]
          simp only [f_X3_spanAt_2, if_neg h', if_pos a1, ei, if_neg h1, if_neg h2]
theorem sp_eq {b e : Nat → Int64} {n : Nat} {x : Int64} (hn : n ≤ 10) : f_X3_spanAt b e (nI n) x = some (kF (fun k => decide (b k ≤ x ∧ x < e k)) 0 n) :=
  sp_loop hn 24 0 (Nat.zero_le _) (by omega)
theorem sp_cases {b e : Nat → Int64} {n : Nat} {x : Int64} (hn : n ≤ 10) : (f_X3_spanAt b e (nI n) x = some (-1) ∧ ¬ kMt n b e 1 x.toInt) ∨ ∃ k, k < n ∧ f_X3_spanAt b e (nI n) x = some (nI k) ∧ (b k).toInt ≤ x.toInt ∧ x.toInt < (e k).toInt := by
  rcases kF_m1 (p := fun k => decide (b k ≤ x ∧ x < e k)) n 0 (by omega) with ⟨e1, h1⟩ | ⟨k, -, hk, hp, e1, e2, -⟩
  · refine Or.inl ⟨by rw [sp_eq hn, e1], fun ⟨k, hk, h2, h3⟩ => ?_⟩
    exact of_decide_eq_false (h1 k (by omega) (by omega)) ⟨le64.mpr (by omega), lt64.mpr h3⟩
  · obtain ⟨h2, h3⟩ := of_decide_eq_true hp
    exact Or.inr ⟨k, by omega, by rw [sp_eq hn, e1], le64.mp h2, lt64.mp h3⟩
theorem lm1 : ((-1 : Int32) < 0) = True := eq_true (by decide)
theorem nI_lt0 {n : Nat} (h : n ≤ 65536) : (nI n < 0) = False := eq_false (fun z => by
  rw [lt32, nI_toInt (by omega), i0] at z
  omega)
theorem f56 {K : Int64 → (Nat → Int64) → (Nat → Int64) → Int32 → (Nat → Int64) → Int32 → Int64 → Option (Nat → Int64)} {un : Int64} {b e v : Nat → Int64} {n c : Nat} (hn : n ≤ 10) (hc : c + 1 < 22) : ∀ (u i : Nat) (y : Int64), i ≤ n → n - i < u → ∃ z, f_X3_free_56 K u un b e (nI n) v (nI c) y (nI i) = K un b e (nI n) (vp_updL v (c + 1) z) (nI (c + 2)) z ∧ z ≤ y ∧ (z = y ∨ ∃ k, k < n ∧ z = b k ∧ v c < b k) ∧ ∀ k, i ≤ k → k < n → v c < b k → z ≤ b k := by
  intro u
  induction u with
  | zero => intro i y hi hf; omega
  | succ u ih =>
    intro i y hi hf
    have ec1 : nI c + 1 = nI (c + 1) := q_s c
    have ec2 : nI c + 2 = nI (c + 2) := nI_add c 2
    have ac : ix (nI (c + 1)) 22 := q_ix (by omega) (by omega)
    have ac0 : ix (nI c) 22 := q_ix (by omega) (by omega)
    have ec : (nI c).toNatClampNeg = c := q_cl (by omega)
    have ecc : (nI (c + 1)).toNatClampNeg = c + 1 := q_cl (by omega)
    by_cases h : n ≤ i
    · have h' : nI n ≤ nI i := (q_le (by omega) (by omega)).mpr h
      refine ⟨y, ?_, Int64.le_refl _, Or.inl rfl, fun k h1 h2 => by omega⟩
      simp only [f_X3_free_56, if_pos h', ec1, ec2, if_pos ac, ecc]
    · have h' : ¬ nI n ≤ nI i := t49 (by omega) (by omega) h
      have es : nI i + 1 = nI (i + 1) := q_s i
      have ei : (nI i).toNatClampNeg = i := q_cl (by omega)
      have a1 : ix (nI i) 10 := q_ix (by omega) (by omega)
      by_cases h1 : b i ≤ v c
      · obtain ⟨z, e3, g1, g2, g3⟩ := ih (i + 1) y (by omega) (by omega)
        refine ⟨z, ?_, g1, g2, fun k h2 h3 h4 => ?_⟩
        · simp only [f_X3_free_56, if_neg h', if_pos a1, if_pos ac0, ei, ec, if_pos h1, es, e3]
        · by_cases e9 : k = i
          · rw [e9] at h4; exact absurd h4 (Int64.not_lt.mpr h1)
          · exact g3 k (by omega) h3 h4
      · by_cases h5 : y ≤ b i
        · obtain ⟨z, e3, g1, g2, g3⟩ := ih (i + 1) y (by omega) (by omega)
          refine ⟨z, ?_, g1, g2, fun k h2 h3 h4 => ?_⟩
          · simp only [f_X3_free_56, if_neg h', if_pos a1, if_pos ac0, ei, ec, if_neg h1, if_pos h5, es, e3]
          · by_cases e9 : k = i
            · rw [e9]; exact Int64.le_trans g1 h5
            · exact g3 k (by omega) h3 h4
        · obtain ⟨z, e3, g1, g2, g3⟩ := ih (i + 1) (b i) (by omega) (by omega)
          refine ⟨z, ?_, Int64.le_trans g1 (Int64.le_of_lt (Int64.not_le.mp h5)), Or.inr ?_, fun k h2 h3 h4 => ?_⟩
          · simp only [f_X3_free_56, if_neg h', if_pos a1, if_pos ac0, ei, ec, if_neg h1, if_neg h5, es, e3]
          · rcases g2 with g2 | g2
            · exact ⟨i, by omega, g2, Int64.not_le.mp h1⟩
            · exact g2
          · by_cases e9 : k = i
            · rw [e9]; exact g1
            · exact g3 k (by omega) h3 h4
theorem fr_loop {fr un : Int64} {n : Nat} {b e : Nat → Int64} (hn : n ≤ 10) (hu : kLet un) (hb : kPie n b e) (hin : kIns fr un n b e) : ∀ (u j : Nat) (v : Nat → Int64) (x : Int64), kLet x → x.toInt ≤ un.toInt → 2 * kAb e x.toInt n + 1 ≤ u → (x.toInt < un.toInt → ¬ kMt n b e 1 x.toInt → 2 * kAb e x.toInt n + 2 ≤ u ∧ j + kAb e x.toInt n ≤ n) → j + kAb e x.toInt n ≤ n + 1 → (∀ k, 2 * j ≤ k → v k = 0) → ∃ m v2, f_X3_free_12 u un b e (nI n) v (nI (2 * j)) x = some v2 ∧ j + m ≤ 11 ∧ (∀ k, k < 2 * j → v2 k = v k) ∧ (∀ k, 2 * (j + m) ≤ k → v2 k = 0) ∧ kPcs (kMt n b e 1) un.toInt (fun k => v2 (2 * k)) (fun k => v2 (2 * k + 1)) m j x.toInt := by
  intro u
  induction u with
  | zero => intro j v x hx hxu hM; omega
  | succ u ih =>
    intro j v x hx hxu hM hM2 hj hv
    by_cases h1 : un ≤ x
    · have h1' := le64.mp h1
      refine ⟨0, v, ?_, by omega, fun k hk => rfl, fun k hk => hv k (by omega), fun q h2 h3 => by omega⟩
      simp only [f_X3_free_12, if_pos h1]
    · have h1' : x.toInt < un.toInt := by rw [le64] at h1; omega
      rcases sp_cases (b := b) (e := e) (x := x) hn with ⟨e1, hT⟩ | ⟨k, hk, e1, h2, h3⟩
      · obtain ⟨hM3, hj3⟩ := hM2 h1' hT
        have a1 : ix (nI (2 * j)) 22 := q_ix (by omega) (by omega)
        have ec : (nI (2 * j)).toNatClampNeg = 2 * j := q_cl (by omega)
        obtain ⟨z, e3, k1, k2, k3⟩ := f56 (K := f_X3_free_12 u) (un := un) (b := b) (e := e) (v := vp_updL v (2 * j) x) (c := 2 * j) hn (by omega) 24 0 un (Nat.zero_le _) (by omega)
        rw [upd_at, if_pos rfl] at k2 k3
        have k1' := le64.mp k1
        have k3' : ∀ k, k < n → x.toInt ≤ (b k).toInt → z.toInt ≤ (b k).toInt := fun k hk h9 => by
          by_cases h8 : x.toInt = (b k).toInt
          · exact absurd ⟨k, hk, by omega, by have := (hb k hk).2.2; omega⟩ hT
          · exact le64.mp (k3 k (Nat.zero_le _) hk (lt64.mpr (by omega)))
        have hxz : x.toInt < z.toInt := by
          rcases k2 with k2 | ⟨k, hk, k2, k4⟩
          · rw [k2]; exact h1'
          · rw [k2]; exact lt64.mp k4
        have hzl : kLet z := ⟨by have := hx.1; omega, by have := hu.2; omega⟩
        have hzT : z.toInt < un.toInt → kMt n b e 1 z.toInt := fun h9 => by
          rcases k2 with k2 | ⟨k, hk, k2, k4⟩
          · rw [k2] at h9; omega
          · have b3 := (hb k hk).2.2
            rw [← k2] at b3
            exact ⟨k, hk, by rw [← k2]; omega, b3⟩
        have hmo := kAb_mono (e := e) (show x.toInt ≤ z.toInt by omega) n
        obtain ⟨m, v2, e9, c1, c2, c4, c3⟩ := ih (j + 1) (vp_updL (vp_updL v (2 * j) x) (2 * j + 1) z) z hzl k1' (by omega) (fun h7 h8 => absurd (hzT h7) h8) (by omega) (fun k hk => by rw [upd_at, if_neg (by omega), upd_at, if_neg (by omega)]; exact hv k (by omega))
        have d1 : v2 (2 * j) = x := by rw [c2 (2 * j) (by omega), upd_at, if_neg (by omega), upd_at, if_pos rfl]
        have d2 : v2 (2 * j + 1) = z := by rw [c2 (2 * j + 1) (by omega), upd_at, if_pos rfl]
        have e3' : f_X3_free_56 (f_X3_free_12 u) 24 un b e (nI n) (vp_updL v (2 * j) x) (nI (2 * j)) un 0 = f_X3_free_12 u un b e (nI n) (vp_updL (vp_updL v (2 * j) x) (2 * j + 1) z) (nI (2 * j + 2)) z := e3
        have e9' : f_X3_free_12 u un b e (nI n) (vp_updL (vp_updL v (2 * j) x) (2 * j + 1) z) (nI (2 * j + 2)) z = some v2 := e9
        refine ⟨m + 1, v2, ?_, by omega, fun k hk => ?_, fun k hk => c4 k (by omega), ?_⟩
        · simp only [f_X3_free_12, if_neg h1, e1, Option.bind_some, lm1, if_true, if_pos a1, ec, e3', e9']
        · rw [c2 k (by omega), upd_at, if_neg (by omega), upd_at, if_neg (by omega)]
        · refine ⟨?_, fun q h3 h4 => ?_, ?_, ?_, ?_, ?_, ?_⟩
          · show x.toInt ≤ (v2 (2 * j)).toInt
            rw [d1]; exact Int.le_refl _
          · have h4' : q < (v2 (2 * j)).toInt := h4
            rw [d1] at h4'; omega
          · show (v2 (2 * j)).toInt < (v2 (2 * j + 1)).toInt
            rw [d1, d2]; exact hxz
          · show ∀ q, (v2 (2 * j)).toInt ≤ q → q < (v2 (2 * j + 1)).toInt → _
            rw [d1, d2]; exact not_between hT k3'
          · show (v2 (2 * j + 1)).toInt ≤ un.toInt
            rw [d2]; exact k1'
          · show (v2 (2 * j + 1)).toInt < un.toInt → kMt n b e 1 (v2 (2 * j + 1)).toInt
            rw [d2]; exact hzT
          · show kPcs _ _ _ _ m (j + 1) (v2 (2 * j + 1)).toInt
            rw [d2]; exact c3
      · have hab := kAb_lt (e := e) (x := x.toInt) (y := (e k).toInt) (by omega) h3 (Int.le_refl _) n hk
        have a1 : ix (nI k) 10 := q_ix (by omega) (by omega)
        have ec : (nI k).toNatClampNeg = k := q_cl (by omega)
        obtain ⟨m, v2, e9, c1, c2, c4, c3⟩ := ih j v (e k) (hb k hk).2.1 (hin k hk).2 (by omega) (fun _ _ => ⟨by omega, by omega⟩) (by omega) hv
        refine ⟨m, v2, ?_, c1, c2, c4, ?_⟩
        · simp only [f_X3_free_12, if_neg h1, e1, Option.bind_some, nI_lt0 (show k ≤ 65536 by omega), if_false, if_pos a1, ec, e9]
        · cases m with
          | zero =>
            intro q h4 h5
            by_cases h6 : q < (e k).toInt
            · exact ⟨k, hk, by omega, h6⟩
            · exact c3 q (by omega) h5
          | succ m =>
            obtain ⟨b1, b2, b3, b4, b5, b6, b7⟩ := c3
            refine ⟨by omega, fun q h4 h5 => ?_, b3, b4, b5, b6, b7⟩
            by_cases h6 : q < (e k).toInt
            · exact ⟨k, hk, by omega, h6⟩
            · exact b2 q (by omega) h5
theorem n2i {i : Nat} (h : i ≤ 65536) : 2 * nI i = nI (2 * i) := by
  apply Int32.toInt_inj.mp
  rw [Int32.toInt_mul, nI_toInt (by omega), nI_toInt (by omega), c2]
  exact Int.bmod_eq_of_le (by omega) (by omega)
theorem fo_loop {v : Nat → Int64} {m : Nat} (hm : m ≤ 11) (h1 : ∀ k, k < m → ¬ v (2 * k + 1) = v (2 * k)) (h2 : ∀ k, 2 * m ≤ k → v k = 0) : ∀ (u i : Nat), i ≤ m → m - i < u → f_X3_freesOf_2 22 u v (nI i) = some (nI m) := by
  intro u
  induction u with
  | zero => intro i hi hf; omega
  | succ u ih =>
    intro i hi hf
    have e2 : 2 * nI i = nI (2 * i) := n2i (by omega)
    have e3 : nI (2 * i) + 1 = nI (2 * i + 1) := q_s _
    by_cases h : 11 ≤ i
    · have h' : Int32.ofNat 22 ≤ nI (2 * i) := (q_le (a := 22) (by omega) (by omega)).mpr (by omega)
      simp only [f_X3_freesOf_2, e2, if_pos h']
      rw [show i = m by omega]
    · have h' : ¬ Int32.ofNat 22 ≤ nI (2 * i) := t49 (a := 22) (by omega) (by omega) (by omega)
      have a1 : ix (nI (2 * i)) 22 := q_ix (by omega) (by omega)
      have a2 : ix (nI (2 * i + 1)) 22 := q_ix (by omega) (by omega)
      have c1 : (nI (2 * i)).toNatClampNeg = 2 * i := q_cl (by omega)
      have c2 : (nI (2 * i + 1)).toNatClampNeg = 2 * i + 1 := q_cl (by omega)
      by_cases h3 : i < m
      · have hh := ih (i + 1) (by omega) (by omega)
        simp only [f_X3_freesOf_2, e2, e3, if_neg h', if_pos a1, if_pos a2, c1, c2, if_neg (h1 i h3), q_s, hh]
      · have h4 : v (2 * i + 1) = v (2 * i) := by rw [h2 _ (by omega), h2 _ (by omega)]
        simp only [f_X3_freesOf_2, e2, e3, if_neg h', if_pos a1, if_pos a2, c1, c2, if_pos h4]
        rw [show i = m by omega]
/-- what is free, on both sides -/
theorem free_both {fr un : Int64} {n : Nat} {sb se : Nat → Int64} {so : Nat → Int32} {mbe men : Nat → Int64} {mov : Nat → Int32} {fb fe : Nat → Int64} {fo : Nat → Int32} {fc : Int32} (hS : kSpans fr un n sb se so mbe men mov) (hn : n ≤ 10) (hf : kLet fr) (hu : kLet un) (hfu : fr < un) : ∃ m fb2 fe2 fo2 v, f_X1_findFrees fr un sb se (nI n) fb fe fo fc = some (fb2, fe2, fo2, nI m) ∧ f_X3_free fr un mbe men (nI n) = some v ∧ f_X3_freesOf 22 v = some (nI m) ∧ m ≤ 11 ∧ (∀ k, k < m → fb2 k = v (2 * k) ∧ fe2 k = v (2 * k + 1)) ∧ kPcs (kMt n mbe men 1) un.toInt fb2 fe2 m 0 fr.toInt ∧ kPie m fb2 fe2 := by
  have hin1 : kIns fr un n sb se := fun k hk => by
    obtain ⟨-, -, -, -, a5, a6⟩ := hS k hk
    exact ⟨le64.mp a5, le64.mp a6⟩
  have hin : kIns fr un n mbe men := fun k hk => by
    obtain ⟨a1, a2, -⟩ := hS k hk
    rw [← a1, ← a2]; exact hin1 k hk
  have hfu' := lt64.mp hfu
  obtain ⟨m, fb2, fe2, fo2, e1, hm, hP⟩ := ff_eq (fb := fb) (fe := fe) (fo := fo) (fc := fc) hn hf hu hfu (hS.pie1 hf hu) hin1
  have hP2 := kPcs_congr (fun q => kMt_congr (fun k hk => ⟨(hS k hk).1, (hS k hk).2.1⟩)) _ _ _ hP
  have hle := kAb_le (e := men) (x := fr.toInt) n
  obtain ⟨m', v, e3, hm', -, c4, hP3⟩ := fr_loop hn hu (hS.pie hf hu) hin 24 0 (fun _ => 0) fr hf (by omega) (by omega) (fun _ _ => ⟨by omega, by omega⟩) (by omega) (fun _ _ => rfl)
  obtain ⟨em, hk⟩ := kPcs_uniq _ _ _ _ hP2 hP3
  subst em
  rw [Nat.zero_add] at hm' c4
  have hin2 := kPcs_in _ _ _ hP2
  refine ⟨m, fb2, fe2, fo2, v, e1, e3, ?_, hm, fun k h => hk k (Nat.zero_le _) (by omega), hP2, fun k h => ?_⟩
  · exact fo_loop hm (fun k h z => by
      obtain ⟨-, a2, -⟩ := hin2 k (Nat.zero_le _) (by omega)
      obtain ⟨b1, b2⟩ := hk k (Nat.zero_le _) (by omega)
      have b1' : fb2 k = v (2 * k) := b1
      have b2' : fe2 k = v (2 * k + 1) := b2
      rw [b1', b2', z] at a2
      omega) c4 24 0 (Nat.zero_le _) (by omega)
  · obtain ⟨a1, a2, a3, -⟩ := hin2 k (Nat.zero_le _) (by omega)
    have := hf.1; have := hu.2
    exact ⟨⟨by omega, by omega⟩, ⟨by omega, by omega⟩, a2⟩
end
-- 56.pure.lean.txt
section
/-! how much is taken -/
noncomputable def kMu (T : Int → Prop) (x : Int) : Nat → Int
  | 0 => 0
  | d + 1 => kMu T x d + @ite _ (T (x + d)) (Classical.propDecidable _) 1 0
theorem kMu_all {T : Int → Prop} {x : Int} : ∀ (d : Nat), (∀ q, x ≤ q → q < x + d → T q) → kMu T x d = d := by
  intro d
  induction d with
  | zero => intro h; rfl
  | succ d ih =>
    intro h
    rw [kMu, ih (fun q h1 h2 => h q h1 (by omega)), if_pos (h _ (by omega) (by omega))]
    omega
theorem kMu_none {T : Int → Prop} {x : Int} : ∀ (d : Nat), (∀ q, x ≤ q → q < x + d → ¬ T q) → kMu T x d = 0 := by
  intro d
  induction d with
  | zero => intro h; rfl
  | succ d ih =>
    intro h
    rw [kMu, ih (fun q h1 h2 => h q h1 (by omega)), if_neg (h _ (by omega) (by omega))]
    omega
theorem kMu_add {T : Int → Prop} {x : Int} (a : Nat) : ∀ (d : Nat), kMu T x (a + d) = kMu T x a + kMu T (x + a) d := by
  intro d
  induction d with
  | zero => rw [Nat.add_zero, kMu]; omega
  | succ d ih =>
    rw [← Nat.add_assoc, kMu, kMu, ih, show x + ((a + d : Nat) : Int) = x + a + d by omega]
    omega
theorem kMu_le {T : Int → Prop} {x : Int} : ∀ (d : Nat), 0 ≤ kMu T x d ∧ kMu T x d ≤ d := by
  intro d
  induction d with
  | zero => rw [kMu]; omega
  | succ d ih =>
    rw [kMu]
    by_cases h : T (x + d)
    · rw [if_pos h]; omega
    · rw [if_neg h]; omega
theorem kMu_congr {T T' : Int → Prop} (h : ∀ q, T q ↔ T' q) {x : Int} : ∀ (d : Nat), kMu T x d = kMu T' x d := by
  intro d
  induction d with
  | zero => rfl
  | succ d ih =>
    rw [kMu, kMu, ih]
    by_cases h1 : T (x + d)
    · rw [if_pos h1, if_pos ((h _).mp h1)]
    · rw [if_neg h1, if_neg (fun z => h1 ((h _).mpr z))]
/-- how many moments from x on, ahead of y, are taken -/
noncomputable def kTk (T : Int → Prop) (x y : Int) : Int := kMu T x (y - x).toNat
theorem kTk_add {T : Int → Prop} {x y z : Int} (h1 : x ≤ y) (h2 : y ≤ z) : kTk T x z = kTk T x y + kTk T y z := by
  unfold kTk
  rw [show (z - x).toNat = (y - x).toNat + (z - y).toNat by omega, kMu_add, show x + ((y - x).toNat : Int) = y by omega]
theorem kTk_all {T : Int → Prop} {x y : Int} (h1 : x ≤ y) (h : ∀ q, x ≤ q → q < y → T q) : kTk T x y = y - x := by
  unfold kTk
  rw [kMu_all _ (fun q h2 h3 => h q h2 (by omega))]; omega
theorem kTk_none {T : Int → Prop} {x y : Int} (h1 : x ≤ y) (h : ∀ q, x ≤ q → q < y → ¬ T q) : kTk T x y = 0 := by
  unfold kTk
  rw [kMu_none _ (fun q h2 h3 => h q h2 (by omega))]
theorem kTk_le {T : Int → Prop} {x y : Int} (h1 : x ≤ y) : 0 ≤ kTk T x y ∧ kTk T x y ≤ y - x := by
  unfold kTk
  have := kMu_le (T := T) (x := x) (y - x).toNat
  omega
theorem kTk_0 {T : Int → Prop} {x y : Int} (h1 : y ≤ x) : kTk T x y = 0 := by
  unfold kTk
  rw [show (y - x).toNat = 0 by omega]; rfl
theorem kTk_congr {T T' : Int → Prop} (h : ∀ q, T q ↔ T' q) {x y : Int} : kTk T x y = kTk T' x y := kMu_congr h _
theorem sumD {a r s : Int64} {D : Int} (h1 : 0 ≤ a.toInt) (h2 : r.toInt ≤ s.toInt) (h3 : a.toInt + (s.toInt - r.toInt) ≤ D) (h4 : D ≤ 4000000000000000000) (hr : kLet r) (hs : kLet s) : (a + (s - r)).toInt = a.toInt + (s.toInt - r.toInt) := by
  have a1 := hr.1; have a2 := hr.2; have a3 := hs.1; have a4 := hs.2
  have e : (s - r).toInt = s.toInt - r.toInt := s64 (by omega) (by omega)
  rw [a64 (by rw [e]; omega) (by rw [e]; omega), e]
theorem tl1_loop {un : Int64} {n : Nat} {b e : Nat → Int64} {D : Int} (hn : n ≤ 10) (hu : kLet un) (hb : kPie n b e) (hin : ∀ k, k < n → (e k).toInt ≤ un.toInt) (hD : D ≤ 4000000000000000000) : ∀ (u i : Nat) (a x : Int64), kLet x → x.toInt ≤ un.toInt → i ≤ n + 1 → (n + 1) - i < u → (x.toInt < un.toInt → i + kAb e x.toInt n ≤ n) → 0 ≤ a.toInt → a.toInt + (un.toInt - x.toInt) ≤ D → ∃ z, f_X1_takenLength_10 u un b e (nI n) a x (nI i) = some z ∧ z.toInt = a.toInt + kTk (kMt n b e 1) x.toInt un.toInt := by
  intro u
  induction u with
  | zero => intro i a x hx hxu hi hf; omega
  | succ u ih =>
    intro i a x hx hxu hi hf hab ha hs
    by_cases h : n < i
    · have h' : nI n < nI i := (q_lt (by omega) (by omega)).mpr h
      refine ⟨a, ?_, ?_⟩
      · simp only [f_X1_takenLength_10, f_X0_count, Option.bind_some, if_pos h']
      · rw [kTk_0 (by omega)]; omega
    · have h' : ¬ nI n < nI i := fun z => h ((q_lt (by omega) (by omega)).mp z)
      by_cases h1 : un ≤ x
      · have h1' := le64.mp h1
        refine ⟨a, ?_, ?_⟩
        · simp only [f_X1_takenLength_10, f_X0_count, Option.bind_some, if_neg h', if_pos h1]
        · rw [kTk_0 (by omega)]; omega
      · have h1' : x.toInt < un.toInt := by rw [le64] at h1; omega
        have hf1 : (n + 1) - (i + 1) < u := by omega
        have hi1 : i + 1 ≤ n + 1 := by omega
        have es : nI i + 1 = nI (i + 1) := q_s i
        obtain ⟨r, e4, hxr, hru, h0, hT⟩ : ∃ r, f_X1_firstTaken un b e (nI n) x = some r ∧ x.toInt ≤ r.toInt ∧ r.toInt ≤ un.toInt ∧ (∀ q, x.toInt ≤ q → q < r.toInt → ¬ kMt n b e 1 q) ∧ (r.toInt < un.toInt → kMt n b e 1 r.toInt) := by
          by_cases hT : kMt n b e 1 x.toInt
          · exact ⟨x, ft_tk hn hx hT, Int.le_refl _, hxu, fun q h2 h3 => by omega, fun _ => hT⟩
          · obtain ⟨z, e5, k1, k2, k3⟩ := ft_eq (un := un) hn hx hT
            have k3' : ∀ k, k < n → x.toInt ≤ (b k).toInt → z.toInt ≤ (b k).toInt := fun k hk h9 => le64.mp (k3 k hk (le64.mpr h9))
            refine ⟨z, e5, ?_, le64.mp k1, not_between hT k3', fun h9 => ?_⟩
            · rcases k2 with k2 | ⟨k, hk, k2, k4⟩
              · rw [k2]; exact hxu
              · rw [k2]; exact le64.mp k4
            · rcases k2 with k2 | ⟨k, hk, k2, k4⟩
              · rw [k2] at h9; omega
              · have b3 := (hb k hk).2.2
                rw [← k2] at b3
                exact ⟨k, hk, by rw [← k2]; omega, b3⟩
        have hr : kLet r := ⟨by have := hx.1; omega, by have := hu.2; omega⟩
        obtain ⟨s, e5, hsl, g1, g2, g3, g4⟩ := ws_eq hn kOn1 hb hr
        rw [e1_64] at g2 g3
        have hsu : s.toInt ≤ un.toInt := by
          rcases g4 with g4 | ⟨k, hk, g4⟩
          · rw [g4]; exact hru
          · rw [g4]; exact hin k hk
        have eS := sumD (D := D) ha g1 (by omega) hD hr hsl
        obtain ⟨z, e6, hz⟩ := ih (i + 1) (a + (s - r)) s hsl hsu hi1 hf1 (fun h9 => by
          have := hab h1'
          have := kAb_pass (hT (by omega)) g1 g3 (Int.le_refl _)
          have := kAb_mono (e := e) hxr n
          omega) (by rw [eS]; omega) (by rw [eS]; omega)
        refine ⟨z, ?_, ?_⟩
        · simp only [f_X1_takenLength_10, f_X0_count, Option.bind_some, if_neg h', if_neg h1, e4, e5, es, e6]
        · rw [hz, eS, kTk_add (show x.toInt ≤ r.toInt from hxr) (show r.toInt ≤ un.toInt from hru), kTk_add (show r.toInt ≤ s.toInt from g1) hsu, kTk_none hxr h0, kTk_all g1 g2]
          omega
theorem f46 {K : Int64 → (Nat → Int64) → (Nat → Int64) → Int32 → Int64 → Int64 → Option Int64} {un a x : Int64} {b e : Nat → Int64} {n : Nat} (hn : n ≤ 10) : ∀ (u i : Nat) (y : Int64), i ≤ n → n - i < u → ∃ z, f_X3_takenLength_46 K u un b e (nI n) a x (-1) y (nI i) = K un b e (nI n) (a + 0) z ∧ z ≤ y ∧ (z = y ∨ ∃ k, k < n ∧ z = b k ∧ x < b k) ∧ ∀ k, i ≤ k → k < n → x < b k → z ≤ b k := by
  intro u
  induction u with
  | zero => intro i y hi hf; omega
  | succ u ih =>
    intro i y hi hf
    have g0 : ¬ (0 : Int32) ≤ -1 := by decide
    by_cases h : n ≤ i
    · have h' : nI n ≤ nI i := (q_le (by omega) (by omega)).mpr h
      refine ⟨y, ?_, Int64.le_refl _, Or.inl rfl, fun k h1 h2 => by omega⟩
      simp only [f_X3_takenLength_46, if_pos h', f_X3_takenLength_100, lm1, if_true]
    · have h' : ¬ nI n ≤ nI i := t49 (by omega) (by omega) h
      have es : nI i + 1 = nI (i + 1) := q_s i
      have ei : (nI i).toNatClampNeg = i := q_cl (by omega)
      have a1 : ix (nI i) 10 := q_ix (by omega) (by omega)
      by_cases h1 : b i ≤ x
      · obtain ⟨z, e3, g1, g2, g3⟩ := ih (i + 1) y (by omega) (by omega)
        refine ⟨z, ?_, g1, g2, fun k h2 h3 h4 => ?_⟩
        · simp only [f_X3_takenLength_46, if_neg h', if_neg g0, if_pos a1, ei, if_pos h1, es, e3]
        · by_cases e9 : k = i
          · rw [e9] at h4; exact absurd h4 (Int64.not_lt.mpr h1)
          · exact g3 k (by omega) h3 h4
      · by_cases h5 : y ≤ b i
        · obtain ⟨z, e3, g1, g2, g3⟩ := ih (i + 1) y (by omega) (by omega)
          refine ⟨z, ?_, g1, g2, fun k h2 h3 h4 => ?_⟩
          · simp only [f_X3_takenLength_46, if_neg h', if_neg g0, if_pos a1, ei, if_neg h1, if_pos h5, es, e3]
          · by_cases e9 : k = i
            · rw [e9]; exact Int64.le_trans g1 h5
            · exact g3 k (by omega) h3 h4
        · obtain ⟨z, e3, g1, g2, g3⟩ := ih (i + 1) (b i) (by omega) (by omega)
          refine ⟨z, ?_, Int64.le_trans g1 (Int64.le_of_lt (Int64.not_le.mp h5)), Or.inr ?_, fun k h2 h3 h4 => ?_⟩
          · simp only [f_X3_takenLength_46, if_neg h', if_neg g0, if_pos a1, ei, if_neg h1, if_neg h5, es, e3]
          · rcases g2 with g2 | g2
            · exact ⟨i, by omega, g2, Int64.not_le.mp h1⟩
            · exact g2
          · by_cases e9 : k = i
            · rw [e9]; exact g1
            · exact g3 k (by omega) h3 h4
theorem f46p {K : Int64 → (Nat → Int64) → (Nat → Int64) → Int32 → Int64 → Int64 → Option Int64} {un a x y : Int64} {b e : Nat → Int64} {n k u i : Nat} (hk : k ≤ 10) : f_X3_takenLength_46 K (u + 1) un b e (nI n) a x (nI k) y (nI i) = K un b e (nI n) (a + (y - x)) y := by
  have h0 : ¬ nI k < 0 := by rw [nI_lt0 (show k ≤ 65536 by omega)]; exact id
  have h0' : (0 : Int32) ≤ nI k := Int32.not_lt.mp h0
  simp only [f_X3_takenLength_46, f_X3_takenLength_100, if_pos h0', if_neg h0, ite_self]
theorem tl3_loop {un : Int64} {n : Nat} {b e : Nat → Int64} {D : Int} (hn : n ≤ 10) (hu : kLet un) (hb : kPie n b e) (hin : ∀ k, k < n → (e k).toInt ≤ un.toInt) (hD : D ≤ 4000000000000000000) : ∀ (u : Nat) (a x : Int64), kLet x → x.toInt ≤ un.toInt → 2 * kAb e x.toInt n + 1 ≤ u → (x.toInt < un.toInt → ¬ kMt n b e 1 x.toInt → 2 * kAb e x.toInt n + 2 ≤ u) → 0 ≤ a.toInt → a.toInt + (un.toInt - x.toInt) ≤ D → ∃ z, f_X3_takenLength_7 u un b e (nI n) a x = some z ∧ z.toInt = a.toInt + kTk (kMt n b e 1) x.toInt un.toInt := by
  intro u
  induction u with
  | zero => intro a x hx hxu hM; omega
  | succ u ih =>
    intro a x hx hxu hM hM2 ha hs
    by_cases h1 : un ≤ x
    · have h1' := le64.mp h1
      refine ⟨a, ?_, ?_⟩
      · simp only [f_X3_takenLength_7, if_pos h1]
      · rw [kTk_0 (by omega)]; omega
    · have h1' : x.toInt < un.toInt := by rw [le64] at h1; omega
      rcases sp_cases (b := b) (e := e) (x := x) hn with ⟨e1, hT⟩ | ⟨k, hk, e1, h2, h3⟩
      · have hM3 := hM2 h1' hT
        obtain ⟨z, e3, k1, k2, k3⟩ := f46 (K := f_X3_takenLength_7 u) (un := un) (a := a) (x := x) (b := b) (e := e) hn 24 0 un (Nat.zero_le _) (by omega)
        have k1' := le64.mp k1
        have k3' : ∀ k, k < n → x.toInt ≤ (b k).toInt → z.toInt ≤ (b k).toInt := fun k hk h9 => by
          by_cases h8 : x.toInt = (b k).toInt
          · exact absurd ⟨k, hk, by omega, by have := (hb k hk).2.2; omega⟩ hT
          · exact le64.mp (k3 k (Nat.zero_le _) hk (lt64.mpr (by omega)))
        have hxz : x.toInt < z.toInt := by
          rcases k2 with k2 | ⟨k, hk, k2, k4⟩
          · rw [k2]; exact h1'
          · rw [k2]; exact lt64.mp k4
        have hzl : kLet z := ⟨by have := hx.1; omega, by have := hu.2; omega⟩
        have hzT : z.toInt < un.toInt → kMt n b e 1 z.toInt := fun h9 => by
          rcases k2 with k2 | ⟨k, hk, k2, k4⟩
          · rw [k2] at h9; omega
          · have b3 := (hb k hk).2.2
            rw [← k2] at b3
            exact ⟨k, hk, by rw [← k2]; omega, b3⟩
        have hmo := kAb_mono (e := e) (show x.toInt ≤ z.toInt by omega) n
        have ea : a + 0 = a := Int64.add_zero a
        obtain ⟨w, e9, hw⟩ := ih a z hzl k1' (by omega) (fun h7 h8 => absurd (hzT h7) h8) ha (by omega)
        have e3' : f_X3_takenLength_46 (f_X3_takenLength_7 u) 24 un b e (nI n) a x (-1) un 0 = f_X3_takenLength_7 u un b e (nI n) (a + 0) z := e3
        refine ⟨w, ?_, ?_⟩
        · simp only [f_X3_takenLength_7, if_neg h1, e1, Option.bind_some, lm1, if_true, e3', ea, e9]
        · rw [hw, kTk_add (show x.toInt ≤ z.toInt by omega) k1', kTk_none (by omega) (not_between hT k3')]
          omega
      · have hab := kAb_lt (e := e) (x := x.toInt) (y := (e k).toInt) (by omega) h3 (Int.le_refl _) n hk
        have a1 : ix (nI k) 10 := q_ix (by omega) (by omega)
        have ec : (nI k).toNatClampNeg = k := q_cl (by omega)
        have hi := hin k hk
        have eS := sumD (a := a) (r := x) (s := e k) (D := D) ha (by omega) (by omega) hD hx (hb k hk).2.1
        obtain ⟨w, e9, hw⟩ := ih (a + (e k - x)) (e k) (hb k hk).2.1 hi (by omega) (fun _ _ => by omega) (by rw [eS]; omega) (by rw [eS]; omega)
        have e3 : f_X3_takenLength_46 (f_X3_takenLength_7 u) 24 un b e (nI n) a x (nI k) (e k) 0 = f_X3_takenLength_7 u un b e (nI n) (a + (e k - x)) (e k) := f46p (i := 0) (show k ≤ 10 by omega)
        refine ⟨w, ?_, ?_⟩
        · simp only [f_X3_takenLength_7, if_neg h1, e1, Option.bind_some, nI_lt0 (show k ≤ 65536 by omega), if_false, if_pos a1, ec, e3, e9]
        · rw [hw, eS, kTk_add (show x.toInt ≤ (e k).toInt by omega) hi, kTk_all (show x.toInt ≤ (e k).toInt by omega) (fun q h4 h5 => ⟨k, hk, by omega, h5⟩)]
          omega
/-- a length inside the calendar -/
abbrev kDur (fr un z : Int64) : Prop := 0 ≤ z.toInt ∧ z.toInt ≤ un.toInt - fr.toInt
theorem kDur.wide {fr un z : Int64} (h : kDur fr un z) (hf : kLet fr) (hu : kLet un) : kWide z := by
  have a1 := hf.1; have a2 := hu.2; have b1 := h.1; have b2 := h.2
  exact ⟨by omega, by omega⟩
theorem taken_both {fr un : Int64} {n : Nat} {sb se : Nat → Int64} {so : Nat → Int32} {mbe men : Nat → Int64} {mov : Nat → Int32} (hS : kSpans fr un n sb se so mbe men mov) (hn : n ≤ 10) (hf : kLet fr) (hu : kLet un) (hfu : fr < un) : ∃ z, f_X1_takenLength fr un sb se (nI n) = some z ∧ f_X3_takenLength fr un mbe men (nI n) = some z ∧ kDur fr un z := by
  have hfu' := lt64.mp hfu
  have a1 := hf.1; have a2 := hu.2
  have e0 : (0 : Int64).toInt = 0 := by decide
  have hin1 : ∀ k, k < n → (se k).toInt ≤ un.toInt := fun k hk => le64.mp (hS k hk).2.2.2.2.2
  have hin : ∀ k, k < n → (men k).toInt ≤ un.toInt := fun k hk => by rw [← (hS k hk).2.1]; exact hin1 k hk
  have l1 := kAb_le (e := se) (x := fr.toInt) n
  have l3 := kAb_le (e := men) (x := fr.toInt) n
  obtain ⟨z, e1, h1⟩ := tl1_loop (D := un.toInt - fr.toInt) hn hu (hS.pie1 hf hu) hin1 (by omega) 24 0 0 fr hf (by omega) (by omega) (by omega) (fun _ => by omega) (by rw [e0]; omega) (by rw [e0]; omega)
  obtain ⟨w, e3, h3⟩ := tl3_loop (D := un.toInt - fr.toInt) hn hu (hS.pie hf hu) hin (by omega) 24 0 fr hf (by omega) (by omega) (fun _ _ => by omega) (by rw [e0]; omega) (by rw [e0]; omega)
  have ez : z = w := by
    apply Int64.toInt_inj.mp
    rw [h1, h3, kTk_congr (fun q => kMt_congr (fun k hk => ⟨(hS k hk).1, (hS k hk).2.1⟩))]
  have hb := kTk_le (T := kMt n sb se 1) (show fr.toInt ≤ un.toInt by omega)
  rw [e0] at h1
  exact ⟨z, e1, by rw [ez]; exact e3, by omega, by omega⟩
/-- the sum of what is free -/
theorem fl_loop {T : Int → Prop} {un : Int64} {m : Nat} {P R v : Nat → Int64} {D : Int} (hm : m ≤ 11) (hu : kLet un) (hv : ∀ k, k < m → P k = v (2 * k) ∧ R k = v (2 * k + 1)) (hfo : f_X3_freesOf 22 v = some (nI m)) (hpi : kPie m P R) (hD : D ≤ 4000000000000000000) : ∀ (u i : Nat) (a : Int64) (x : Int), i ≤ m → m - i < u → kPcs T un.toInt P R (m - i) i x → x ≤ un.toInt → 0 ≤ a.toInt → a.toInt + (un.toInt - x) ≤ D → ∃ z, f_X1_freeLength_4 u P R (nI m) a (nI i) = some z ∧ f_X3_freeLength_10 u v a (nI i) = some z ∧ 0 ≤ z.toInt ∧ z.toInt ≤ D := by
  intro u
  induction u with
  | zero => intro i a x hi hf; omega
  | succ u ih =>
    intro i a x hi hf hP hxu ha hs
    by_cases h : m ≤ i
    · have h' : nI m ≤ nI i := (q_le (by omega) (by omega)).mpr h
      refine ⟨a, ?_, ?_, ha, by omega⟩
      · simp only [f_X1_freeLength_4, f_X0_count, Option.bind_some, if_pos h']
      · simp only [f_X3_freeLength_10, hfo, Option.bind_some, if_pos h']
    · have h' : ¬ nI m ≤ nI i := t49 (by omega) (by omega) h
      have es : nI i + 1 = nI (i + 1) := q_s i
      have ei : (nI i).toNatClampNeg = i := q_cl (by omega)
      have e2 : 2 * nI i = nI (2 * i) := n2i (by omega)
      have e3 : nI (2 * i) + 1 = nI (2 * i + 1) := q_s _
      have a1 : ix (nI (2 * i)) 22 := q_ix (by omega) (by omega)
      have a2 : ix (nI (2 * i + 1)) 22 := q_ix (by omega) (by omega)
      have c1 : (nI (2 * i)).toNatClampNeg = 2 * i := q_cl (by omega)
      have c2 : (nI (2 * i + 1)).toNatClampNeg = 2 * i + 1 := q_cl (by omega)
      have a3 : ix (nI i) m := q_ix (by omega) (by omega)
      obtain ⟨v1, v2⟩ := hv i (by omega)
      obtain ⟨p1, p2, p3⟩ := hpi i (by omega)
      rw [show m - i = (m - (i + 1)) + 1 by omega] at hP
      obtain ⟨b1, b2, b3, b4, b5, b6, b7⟩ := hP
      have eS := sumD (a := a) (r := P i) (s := R i) (D := D) ha (by omega) (by omega) hD p1 p2
      obtain ⟨z, e8, e9, hz1, hz2⟩ := ih (i + 1) (a + (R i - P i)) _ (by omega) (by omega) b7 b5 (by rw [eS]; omega) (by rw [eS]; omega)
      refine ⟨z, ?_, ?_, hz1, hz2⟩
      · simp only [f_X1_freeLength_4, f_X0_count, Option.bind_some, if_neg h', end0 hm a3, begin0 hm a3, ei, es, e8]
      · simp only [f_X3_freeLength_10, hfo, Option.bind_some, if_neg h', e2, e3, if_pos a1, if_pos a2, c1, c2, ← v1, ← v2, es, e9]
end
-- 57.pure.lean.txt
section
/-! what is asked of the calendar -/
theorem kF_fw {b e : Nat → Int64} {n : Nat} {x : Int64} (hn : n ≤ 65536) (hx : kLet x) : kF (fun k => decide (nI k ≠ -1 ∧ b k < x + 1 ∧ x < e k)) 0 n = kF (fun k => decide (b k ≤ x ∧ x < e k)) 0 n :=
  kF_congr n 0 (fun k _ h2 => by
    refine decide_eq_decide.mpr ⟨fun ⟨_, z2, z3⟩ => ⟨?_, z3⟩, fun ⟨z2, z3⟩ => ⟨fun z => ?_, ?_, z3⟩⟩
    · rw [lt64, addBy hx kOn1.by, e1_64] at z2
      rw [le64]; omega
    · rw [nI_m1 (n := k) (by omega)] at z; exact z
    · rw [lt64, addBy hx kOn1.by, e1_64]
      rw [le64] at z2; omega)
theorem kF_sp {b e b' e' : Nat → Int64} {n : Nat} {x : Int64} (h : ∀ k, k < n → b k = b' k ∧ e k = e' k) : kF (fun k => decide (b k ≤ x ∧ x < e k)) 0 n = kF (fun k => decide (b' k ≤ x ∧ x < e' k)) 0 n :=
  kF_congr n 0 (fun k _ h2 => by
    obtain ⟨e1, e2⟩ := h k (by omega)
    show decide _ = decide _
    rw [e1, e2])
theorem at_both {b e b' e' : Nat → Int64} {n : Nat} {x : Int64} (hn : n ≤ 10) (hx : kLet x) (h : ∀ k, k < n → b k = b' k ∧ e k = e' k) : ∃ z, f_X0_firstWith b e (nI n) x = some z ∧ f_X3_spanAt b' e' (nI n) x = some z := by
  refine ⟨_, fw_eq (show n ≤ 11 by omega), ?_⟩
  rw [sp_eq hn, kF_fw (by omega) hx, kF_sp h]
theorem ob_at {ce mce : Nat → Int64} {n : Nat} {sb se mbe men : Nat → Int64} {on : Int64} {p0 : Int32} (hc : kCe ce mce) (hR : kRow n sb se mbe men) (hn : n ≤ 10) : kObs (f_L_at ce sb se (nI n) on p0) (f_X3_at mce mbe men (nI n) p0) := by
  by_cases h0 : ix p0 4
  · obtain ⟨z, e1, e3⟩ := at_both hn (hc.let h0) (fun k hk => ⟨(hR k hk).1, (hR k hk).2.1⟩)
    simp only [kObs, f_L_at, fx_X1_at, f_X1_at, f_X3_at, f_X3_at_13, (needCell h0).1, (needCell h0).2, xb_n, is3, thrown3', if_pos h0, hc.eq h0, e1, e3, Option.bind_some, if_true, t10, if_false]
    exact ⟨_, _, rfl, rfl, rfl, fun _ => rfl⟩
  · simp only [kObs, f_L_at, fx_X1_at, f_X3_at, f_X3_at_13, (needCellN h0).1, (needCellN h0).2, xb_s, is3, thrown3', if_neg h0, Option.bind_some, if_true, t10, t00, u12, if_false]
    exact ⟨_, _, rfl, rfl, rfl, fun z => no1 z⟩
theorem add_sub64 {x y : Int64} : x + (y - x) = y := by
  rw [Int64.add_comm, Int64.sub_add_cancel]
theorem ob_isFree {ce mce : Nat → Int64} {fr un : Int64} {n : Nat} {sb se mbe men : Nat → Int64} {on : Int64} {p0 p1 : Int32} (hc : kCe ce mce) (hR : kRow n sb se mbe men) (hn : n ≤ 10) : kObs (f_L_isFree ce fr un sb se (nI n) on p0 p1) (f_X3_isFree mce fr un mbe men (nI n) p0 p1) := by
  by_cases hh : ix p0 4 ∧ ix p1 4
  · obtain ⟨h0, h1⟩ := hh
    by_cases h2 : mce p1.toNatClampNeg ≤ mce p0.toNatClampNeg
    · simp only [kObs, f_L_isFree, fx_X1_isFree, f_X1_isFree, f_X3_isFree, areNone3, (needCell h0).1, (needCell h0).2, (needCell h1).1, (needCell h1).2, xb_n, if_pos (And.intro h0 h1), if_pos h0, if_pos h1, hc.eq h0, hc.eq h1, if_pos h2, Option.bind_some, if_true]
      exact ⟨_, _, rfl, rfl, rfl, fun _ => o0⟩
    · by_cases h3 : fr ≤ mce p0.toNatClampNeg ∧ mce p1.toNatClampNeg ≤ un
      · have hs := fm_same hR (mce p0.toNatClampNeg) (mce p1.toNatClampNeg) (-1)
        by_cases h5 : kF (fun k => decide (nI k ≠ -1 ∧ sb k < mce p1.toNatClampNeg ∧ mce p0.toNatClampNeg < se k)) 0 n = -1
        · have h6 : kF (fun k => decide (nI k ≠ -1 ∧ mbe k < mce p1.toNatClampNeg ∧ mce p0.toNatClampNeg < men k)) 0 n = -1 := by rw [← hs]; exact h5
          simp only [kObs, f_L_isFree, fx_X1_isFree, f_X1_isFree, f_X3_isFree, areNone3, (needCell h0).1, (needCell h0).2, (needCell h1).1, (needCell h1).2, xb_n, if_pos (And.intro h0 h1), if_pos h0, if_pos h1, hc.eq h0, hc.eq h1, if_neg h2, inCal, if_pos h3, t10, if_false, fm_eq (show n ≤ 11 by omega), if_pos h5, f_X3_fits, add_sub64, isIn3, ms_eq hn, if_pos h6, t00, Option.bind_some, if_true]
          exact ⟨_, _, rfl, rfl, rfl, fun _ => o1⟩
        · have h6 : ¬ kF (fun k => decide (nI k ≠ -1 ∧ mbe k < mce p1.toNatClampNeg ∧ mce p0.toNatClampNeg < men k)) 0 n = -1 := by rw [← hs]; exact h5
          simp only [kObs, f_L_isFree, fx_X1_isFree, f_X1_isFree, f_X3_isFree, areNone3, (needCell h0).1, (needCell h0).2, (needCell h1).1, (needCell h1).2, xb_n, if_pos (And.intro h0 h1), if_pos h0, if_pos h1, hc.eq h0, hc.eq h1, if_neg h2, inCal, if_pos h3, t10, if_false, fm_eq (show n ≤ 11 by omega), if_neg h5, f_X3_fits, add_sub64, isIn3, ms_eq hn, if_neg h6, t00, Option.bind_some, if_true]
          exact ⟨_, _, rfl, rfl, rfl, fun _ => o0⟩
      · simp only [kObs, f_L_isFree, fx_X1_isFree, f_X1_isFree, f_X3_isFree, areNone3, (needCell h0).1, (needCell h0).2, (needCell h1).1, (needCell h1).2, xb_n, if_pos (And.intro h0 h1), if_pos h0, if_pos h1, hc.eq h0, hc.eq h1, if_neg h2, inCal, if_neg h3, f_X3_fits, add_sub64, isIn3, t00, Option.bind_some, if_true]
        exact ⟨_, _, rfl, rfl, rfl, fun _ => o0⟩
  · rcases two_bad hh with h0 | ⟨h0, h1⟩
    · simp only [kObs, f_L_isFree, fx_X1_isFree, f_X3_isFree, areNone3, (needCellN h0).1, (needCellN h0).2, xb_s, if_neg hh, Option.bind_some, if_true, t10, u12, if_false]
      exact ⟨_, _, rfl, rfl, rfl, fun z => no1 z⟩
    · simp only [kObs, f_L_isFree, fx_X1_isFree, f_X3_isFree, areNone3, (needCell h0).1, (needCell h0).2, (needCellN h1).1, (needCellN h1).2, xb_s, xb_n, if_neg hh, Option.bind_some, if_true, t10, u12, if_false]
      exact ⟨_, _, rfl, rfl, rfl, fun z => no1 z⟩
/-! what is asked of what is free: the class keeps what it found -/
abbrev kObF (A : Option (Int32 × (Nat → Int64) × (Nat → Int64) × (Nat → Int32) × Int32 × Int64)) (B : Option (Int32 × Int32)) : Prop := ∃ r r', A = some r ∧ B = some r' ∧ r'.2 = r.1 ∧ (r.1 = 0 → r.2.2.2.2.2 = r'.1.toInt64)
theorem ob_frees {fr un : Int64} {n : Nat} {sb se : Nat → Int64} {so : Nat → Int32} {mbe men : Nat → Int64} {mov : Nat → Int32} {fb fe : Nat → Int64} {fo : Nat → Int32} {fc : Int32} (hS : kSpans fr un n sb se so mbe men mov) (hn : n ≤ 10) (hf : kLet fr) (hu : kLet un) (hfu : fr < un) : ∃ r r', f_X1_frees fr un sb se (nI n) fb fe fo fc = some r ∧ f_X3_frees fr un mbe men (nI n) = some r' ∧ r.1 = r'.1 := by
  obtain ⟨m, fb2, fe2, fo2, v, e1, e3, e4, -⟩ := free_both (fb := fb) (fe := fe) (fo := fo) (fc := fc) hS hn hf hu hfu
  simp only [f_X1_frees, f_X3_frees, e1, e3, e4, Option.bind_some, f_X0_count]
  exact ⟨_, _, rfl, rfl, rfl⟩
theorem half_ix {k : Nat} {p : Int32} (hk : k < 11) (h0 : 0 ≤ p.toInt) (h3 : p.toInt ≤ 3) : 2 * nI k + p / 2 = nI (2 * k + (if (2 : Int32) ≤ p then 1 else 0)) := by
  have h2 : p / 2 = nI (if (2 : Int32) ≤ p then 1 else 0) := by
    obtain ⟨w, hw, rfl⟩ := small_of (n := 4) h0 (by omega) (by omega)
    revert w
    decide +kernel
  rw [n2i (by omega), h2, nI_add]
theorem ob_ofFree {fr un : Int64} {n : Nat} {sb se : Nat → Int64} {so : Nat → Int32} {mbe men : Nat → Int64} {mov : Nat → Int32} {fb fe : Nat → Int64} {fo : Nat → Int32} {fc : Int32} {on : Int64} {p0 p1 : Int32} (hS : kSpans fr un n sb se so mbe men mov) (hn : n ≤ 10) (hf : kLet fr) (hu : kLet un) (hfu : fr < un) : kObF (f_L_ofFree fr un sb se (nI n) fb fe fo fc on p0 p1) (f_X3_ofFree fr un mbe men (nI n) p0 p1) := by
  obtain ⟨m, fb2, fe2, fo2, v, e1, e3, e4, hm, hv, -, hp⟩ := free_both (fb := fb) (fe := fe) (fo := fo) (fc := fc) hS hn hf hu hfu
  have hN : m ≤ 65536 := by omega
  have em := nI_toInt (show m < 2 ^ 31 by omega)
  by_cases h0 : ix p0 m
  · have a1 : ¬ p0 < 0 := by rw [lt32, i0]; have := h0.1; omega
    have a2 : p0 < nI m := by rw [lt32, em]; exact h0.2
    have hk := cl_lt h0
    obtain ⟨p4, p5, p6⟩ := hp _ hk
    obtain ⟨v1, v2⟩ := hv _ hk
    by_cases h : 0 ≤ p1.toInt ∧ p1.toInt ≤ 3
    · have h6 : p1.toInt < 6 := by omega
      have hM : f_X3_ofFree_23 v p0 p1 0 = f_X3_ofFree_37 v p0 p1 0 0 := (arg3 p1 3 (f_X3_ofFree_32 v p0 p1 0) (f_X3_ofFree_37 v p0 p1 0 0)).trans (if_pos (by rw [c3]; exact h))
      have hx := half_ix (show p0.toNatClampNeg < 11 by omega) h.1 h.2
      rw [← nI_cl h0 hN] at hx
      by_cases h3 : (2 : Int32) ≤ p1
      · rw [if_pos h3] at hx
        have a3 : ix (nI (2 * p0.toNatClampNeg + 1)) 22 := q_ix (by omega) (by omega)
        have a4 : (nI (2 * p0.toNatClampNeg + 1)).toNatClampNeg = 2 * p0.toNatClampNeg + 1 := q_cl (by omega)
        simp only [kObF, f_L_ofFree, fx_X1_ofFree, f_X1_ofFree, e1, Option.bind_some, numIn hN, if_pos h0, withinq, i0, c3, if_pos h, needThat1.1, needThat1.2, xb_n, partIn1 hm h0 p4.wide p5.wide, if_pos h3, f_X3_ofFree, e3, if_neg a1, e4, if_pos a2, hM, f_X3_ofFree_37, thrown3, if_true, hx, if_pos a3, a4, ← v2, half3 p5.wide h.1 h6]
        exact ⟨_, _, rfl, rfl, rfl, fun _ => rfl⟩
      · rw [if_neg h3] at hx
        have a3 : ix (nI (2 * p0.toNatClampNeg + 0)) 22 := q_ix (by omega) (by omega)
        have a4 : (nI (2 * p0.toNatClampNeg + 0)).toNatClampNeg = 2 * p0.toNatClampNeg := q_cl (by omega)
        simp only [kObF, f_L_ofFree, fx_X1_ofFree, f_X1_ofFree, e1, Option.bind_some, numIn hN, if_pos h0, withinq, i0, c3, if_pos h, needThat1.1, needThat1.2, xb_n, partIn1 hm h0 p4.wide p5.wide, if_neg h3, f_X3_ofFree, e3, if_neg a1, e4, if_pos a2, hM, f_X3_ofFree_37, thrown3, if_true, hx, if_pos a3, a4, ← v1, half3 p4.wide h.1 h6]
        exact ⟨_, _, rfl, rfl, rfl, fun _ => rfl⟩
    · have hM : f_X3_ofFree_23 v p0 p1 0 = f_X3_ofFree_32 v p0 p1 0 := (arg3 p1 3 (f_X3_ofFree_32 v p0 p1 0) (f_X3_ofFree_37 v p0 p1 0 0)).trans (if_neg (by rw [c3]; exact h))
      simp only [kObF, f_L_ofFree, fx_X1_ofFree, e1, Option.bind_some, numIn hN, if_pos h0, withinq, i0, c3, if_neg h, needThat0.1, needThat0.2, xb_n, xb_s, u21, if_false, f_X3_ofFree, e3, if_neg a1, e4, if_pos a2, hM, f_X3_ofFree_32, f_X3_ofFree_37, thrown3, if_true, t10]
      exact ⟨_, _, rfl, rfl, rfl, fun z => no2 z⟩
  · have q : ∀ y, f_X3_ofFree_37 v p0 p1 y 1 = some (0, 1) := fun y => by simp only [f_X3_ofFree_37, isT1, Option.bind_some, t10, if_false]
    have hM : f_X3_ofFree fr un mbe men (nI n) p0 p1 = some (0, 1) := by
      have q18 : f_X3_ofFree_18 v p0 p1 = some (0, 1) := by
        simp only [f_X3_ofFree_18, f_X3_ofFree_23, f_X3_ofFree_32, q, ite_self]
      by_cases a1 : p0 < 0
      · simp only [f_X3_ofFree, e3, Option.bind_some, if_pos a1, q18]
      · have a2 : ¬ p0 < nI m := by
          rw [lt32, em]
          rw [lt32, i0] at a1
          exact fun z => h0 ⟨by omega, z⟩
        simp only [f_X3_ofFree, e3, Option.bind_some, if_neg a1, e4, if_neg a2, q18]
    rw [kObF, hM]
    simp only [f_L_ofFree, fx_X1_ofFree, e1, Option.bind_some, numIn hN, if_neg h0, xb_s, u12, if_true]
    exact ⟨_, _, rfl, rfl, rfl, fun z => no1 z⟩
theorem fa_loop {mce v : Nat → Int64} {m : Nat} {mth p : Int32} (hm : m ≤ 11) (hfo : f_X3_freesOf 22 v = some (nI m)) (hp : ix p 4) : ∀ (u i : Nat), i ≤ m → m - i < u → f_X3_freeAt_28 u mce mth v p (nI i) = some (kF (fun k => decide (v (2 * k) ≤ mce p.toNatClampNeg ∧ mce p.toNatClampNeg < v (2 * k + 1))) i (m - i), mth) := by
  intro u
  induction u with
  | zero => intro i hi hf; omega
  | succ u ih =>
    intro i hi hf
    by_cases h : m ≤ i
    · have h' : nI m ≤ nI i := (q_le (by omega) (by omega)).mpr h
      rw [show m - i = 0 by omega, kF]
      simp only [f_X3_freeAt_28, hfo, Option.bind_some, if_pos h']
    · have h' : ¬ nI m ≤ nI i := t49 (by omega) (by omega) h
      have es : nI i + 1 = nI (i + 1) := q_s i
      have e2 : 2 * nI i = nI (2 * i) := n2i (by omega)
      have e3 : nI (2 * i) + 1 = nI (2 * i + 1) := q_s _
      have a1 : ix (nI (2 * i)) 22 := q_ix (by omega) (by omega)
      have a2 : ix (nI (2 * i + 1)) 22 := q_ix (by omega) (by omega)
      have c1 : (nI (2 * i)).toNatClampNeg = 2 * i := q_cl (by omega)
      have c2 : (nI (2 * i + 1)).toNatClampNeg = 2 * i + 1 := q_cl (by omega)
      have hh := ih (i + 1) (by omega) (by omega)
      rw [show m - i = (m - (i + 1)) + 1 by omega, kF]
      by_cases h1 : mce p.toNatClampNeg < v (2 * i)
      · rw [if_neg (by simp [Int64.not_le.mpr h1])]
        simp only [f_X3_freeAt_28, hfo, Option.bind_some, if_neg h', e2, if_pos a1, if_pos hp, c1, if_pos h1, es, hh]
      · by_cases h2 : v (2 * i + 1) ≤ mce p.toNatClampNeg
        · rw [if_neg (by simp [Int64.not_lt.mpr h2])]
          simp only [f_X3_freeAt_28, hfo, Option.bind_some, if_neg h', e2, e3, if_pos a1, if_pos a2, if_pos hp, c1, c2, if_neg h1, if_pos h2, es, hh]
        · rw [if_pos (decide_eq_true ⟨Int64.not_lt.mp h1, Int64.not_le.mp h2⟩)]
          simp only [f_X3_freeAt_28, hfo, Option.bind_some, if_neg h', e2, e3, if_pos a1, if_pos a2, if_pos hp, c1, c2, if_neg h1, if_neg h2]
/-- a free piece with a moment, on both sides -/
theorem freeAt_both {m : Nat} {fb fe v mce : Nat → Int64} {x : Int64} {mth p : Int32} (hm : m ≤ 11) (hv : ∀ k, k < m → fb k = v (2 * k) ∧ fe k = v (2 * k + 1)) (hfo : f_X3_freesOf 22 v = some (nI m)) (hx : kLet x) (hp : ix p 4) (e : mce p.toNatClampNeg = x) : ∃ z, f_X0_firstWith fb fe (nI m) x = some z ∧ f_X3_freeAt_28 24 mce mth v p 0 = some (z, mth) := by
  refine ⟨_, fw_eq hm, ?_⟩
  have h := fa_loop (mce := mce) (mth := mth) hm hfo hp 24 0 (Nat.zero_le _) (by omega)
  rw [e] at h
  rw [kF_fw (by omega) hx, kF_sp (b' := fun k => v (2 * k)) (e' := fun k => v (2 * k + 1)) (fun k hk => hv k hk)]
  exact h
theorem ob_freeAt {ce mce : Nat → Int64} {fr un : Int64} {n : Nat} {sb se : Nat → Int64} {so : Nat → Int32} {mbe men : Nat → Int64} {mov : Nat → Int32} {fb fe : Nat → Int64} {fo : Nat → Int32} {fc : Int32} {on : Int64} {p0 : Int32} (hc : kCe ce mce) (hS : kSpans fr un n sb se so mbe men mov) (hn : n ≤ 10) (hf : kLet fr) (hu : kLet un) (hfu : fr < un) : kObF (f_L_freeAt ce fr un sb se (nI n) fb fe fo fc on p0) (f_X3_freeAt mce fr un mbe men (nI n) p0) := by
  by_cases h0 : ix p0 4
  · obtain ⟨m, fb2, fe2, fo2, v, e1, e3, e4, hm, hv, -, hp⟩ := free_both (fb := fb) (fe := fe) (fo := fo) (fc := fc) hS hn hf hu hfu
    obtain ⟨z, e5, e6⟩ := freeAt_both (mce := mce) (mth := 0) hm hv e4 (hc.let h0) h0 rfl
    simp only [kObF, f_L_freeAt, fx_X1_freeAt, f_X1_freeAt, f_X3_freeAt, f_X3_freeAt_13, (needCell h0).1, (needCell h0).2, xb_n, is3, thrown3', if_pos h0, hc.eq h0, e1, e3, e5, e6, Option.bind_some, if_true, t10, if_false]
    exact ⟨_, _, rfl, rfl, rfl, fun _ => rfl⟩
  · simp only [kObF, f_L_freeAt, fx_X1_freeAt, f_X3_freeAt, f_X3_freeAt_13, (needCellN h0).1, (needCellN h0).2, xb_s, is3, thrown3', if_neg h0, Option.bind_some, if_true, t10, t00, u12, if_false]
    exact ⟨_, _, rfl, rfl, rfl, fun z => no1 z⟩
/-- the sum of what is free, on both sides -/
theorem freeLen_both {fr un : Int64} {m n : Nat} {fb fe v mbe men : Nat → Int64} (hf : kLet fr) (hu : kLet un) (hfu : fr < un) (hm : m ≤ 11) (hv : ∀ k, k < m → fb k = v (2 * k) ∧ fe k = v (2 * k + 1)) (e3 : f_X3_free fr un mbe men (nI n) = some v) (hfo : f_X3_freesOf 22 v = some (nI m)) (hP : kPcs (kMt n mbe men 1) un.toInt fb fe m 0 fr.toInt) (hp : kPie m fb fe) : ∃ z, f_X1_freeLength fb fe (nI m) = some z ∧ f_X3_freeLength fr un mbe men (nI n) = some z ∧ kDur fr un z := by
  have hfu' := lt64.mp hfu
  have a1 := hf.1; have a2 := hu.2
  have e0 : (0 : Int64).toInt = 0 := by decide
  obtain ⟨z, g1, g3, g4, g5⟩ := fl_loop (D := un.toInt - fr.toInt) hm hu hv hfo hp (by omega) 24 0 0 fr.toInt (Nat.zero_le _) (by omega) hP (by omega) (by rw [e0]; omega) (by rw [e0]; omega)
  refine ⟨z, g1, ?_, g4, g5⟩
  simp only [f_X3_freeLength, e3, Option.bind_some]
  exact g3
theorem c5 : (5 : Int32).toInt = 5 := by decide
theorem ob_length {fr un : Int64} {n : Nat} {sb se : Nat → Int64} {so : Nat → Int32} {mbe men : Nat → Int64} {mov : Nat → Int32} {fb fe : Nat → Int64} {fo : Nat → Int32} {fc : Int32} {on : Int64} {p0 : Int32} (hS : kSpans fr un n sb se so mbe men mov) (hn : n ≤ 10) (hf : kLet fr) (hu : kLet un) (hfu : fr < un) : kObF (f_L_length fr un sb se (nI n) fb fe fo fc on p0) (f_X3_length fr un mbe men (nI n) p0) := by
  by_cases h : 0 ≤ p0.toInt ∧ p0.toInt ≤ 5
  · have h6 : p0.toInt < 6 := by omega
    have hM : f_X3_length fr un mbe men (nI n) p0 = f_X3_length_15 fr un mbe men (nI n) p0 0 := (arg3 p0 5 (f_X3_length_10 fr un mbe men (nI n) p0) (f_X3_length_15 fr un mbe men (nI n) p0 0)).trans (if_pos (by rw [c5]; exact h))
    rw [kObF, hM]
    by_cases h2 : (2 : Int32) ≤ p0
    · obtain ⟨m, fb2, fe2, fo2, v, e1, e3, e4, hm, hv, hP, hp⟩ := free_both (fb := fb) (fe := fe) (fo := fo) (fc := fc) hS hn hf hu hfu
      by_cases h4 : (4 : Int32) ≤ p0
      · have hw := diff_wide hu hf
        simp only [f_L_length, fx_X1_length, f_X1_length, f_X1_length_48, withinq, i0, c5, if_pos h, needThat1.1, needThat1.2, Option.bind_some, xb_n, if_pos h2, if_pos h4, e1, part1 hw, f_X3_length_15, f_X3_length_56, thrown3', if_true, half3 hw h.1 h6]
        exact ⟨_, _, rfl, rfl, rfl, fun _ => rfl⟩
      · obtain ⟨z, e5, e6, hz⟩ := freeLen_both hf hu hfu hm hv e3 e4 hP hp
        have hw := hz.wide hf hu
        simp only [f_L_length, fx_X1_length, f_X1_length, f_X1_length_48, withinq, i0, c5, if_pos h, needThat1.1, needThat1.2, Option.bind_some, xb_n, if_pos h2, if_neg h4, e1, e5, part1 hw, f_X3_length_15, f_X3_length_56, thrown3', if_true, e6, half3 hw h.1 h6]
        exact ⟨_, _, rfl, rfl, rfl, fun _ => rfl⟩
    · obtain ⟨z, e5, e6, hz⟩ := taken_both hS hn hf hu hfu
      have hw := hz.wide hf hu
      simp only [f_L_length, fx_X1_length, f_X1_length, withinq, i0, c5, if_pos h, needThat1.1, needThat1.2, Option.bind_some, xb_n, if_neg h2, e5, part1 hw, f_X3_length_15, f_X3_length_56, thrown3', if_true, e6, half3 hw h.1 h6]
      exact ⟨_, _, rfl, rfl, rfl, fun _ => rfl⟩
  · have hM : f_X3_length fr un mbe men (nI n) p0 = f_X3_length_10 fr un mbe men (nI n) p0 := (arg3 p0 5 (f_X3_length_10 fr un mbe men (nI n) p0) (f_X3_length_15 fr un mbe men (nI n) p0 0)).trans (if_neg (by rw [c5]; exact h))
    rw [kObF, hM]
    simp only [f_L_length, fx_X1_length, withinq, i0, c5, if_neg h, needThat0.1, needThat0.2, Option.bind_some, xb_s, u21, if_false, f_X3_length_10, f_X3_length_15, thrown3', t10]
    exact ⟨_, _, rfl, rfl, rfl, fun z => no1 z⟩
/-! pairs that meet, and the deepest -/
theorem cl_in {sb se mbe men : Nat → Int64} {n : Nat} {K1 : (Nat → Int64) → (Nat → Int64) → Int32 → Int32 → Int32 → Option Int32} {K3 : (Nat → Int64) → (Nat → Int64) → Int32 → Int32 → Int32 → Int32 → Option (Int32 × Int32)} {mth : Int32} (hR : kRow n sb se mbe men) (hn : n ≤ 10) {k : Nat} (hk : k < n) : ∀ (u j : Nat) (a : Int32), j ≤ k → k - j < u → ∃ a', f_X1_clashes_17 K1 u sb se (nI n) a (nI k) (nI j) = K1 sb se (nI n) a' (nI (k + 1)) ∧ f_X3_clashes_19 K3 u mbe men (nI n) mth a (nI k) (nI j) = K3 mbe men (nI n) mth a' (nI (k + 1)) := by
  intro u
  induction u with
  | zero => intro j a hj hf; omega
  | succ u ih =>
    intro j a hj hf
    have es : nI j + 1 = nI (j + 1) := q_s j
    have ek : nI k + 1 = nI (k + 1) := q_s k
    by_cases h : k ≤ j
    · have h' : nI k ≤ nI j := (q_le (by omega) (by omega)).mpr h
      refine ⟨a, ?_, ?_⟩
      · simp only [f_X1_clashes_17, if_pos h', ek]
      · simp only [f_X3_clashes_19, if_pos h', ek]
    · have h' : ¬ nI k ≤ nI j := t49 (by omega) (by omega) h
      have a1 : ix (nI k) 10 := q_ix (by omega) (by omega)
      have a2 : ix (nI j) 10 := q_ix (by omega) (by omega)
      have b1 : ix (nI k) n := q_ix (by omega) (by omega)
      have b2 : ix (nI j) n := q_ix (by omega) (by omega)
      have c1 : (nI k).toNatClampNeg = k := q_cl (by omega)
      have c2 : (nI j).toNatClampNeg = j := q_cl (by omega)
      obtain ⟨z1, z2, -⟩ := hR k hk
      obtain ⟨y1, y2, -⟩ := hR j (by omega)
      by_cases hm : mbe k < men j ∧ mbe j < men k
      · obtain ⟨a', g1, g3⟩ := ih (j + 1) (a + 1) (by omega) (by omega)
        refine ⟨a', ?_, ?_⟩
        · simp only [f_X1_clashes_17, if_neg h', doMeet (show n ≤ 11 by omega) b1 b2, c1, c2, z1, z2, y1, y2, if_pos hm, Option.bind_some, t10, if_false, es, g1]
        · simp only [f_X3_clashes_19, if_neg h', if_pos a1, if_pos a2, meet3, c1, c2, if_pos hm, Option.bind_some, t10, if_false, es, g3]
      · obtain ⟨a', g1, g3⟩ := ih (j + 1) a (by omega) (by omega)
        refine ⟨a', ?_, ?_⟩
        · simp only [f_X1_clashes_17, if_neg h', doMeet (show n ≤ 11 by omega) b1 b2, c1, c2, z1, z2, y1, y2, if_neg hm, Option.bind_some, t00, if_true, es, g1]
        · simp only [f_X3_clashes_19, if_neg h', if_pos a1, if_pos a2, meet3, c1, c2, if_neg hm, Option.bind_some, t00, if_true, Int32.add_zero, es, g3]
theorem cl_loop {sb se mbe men : Nat → Int64} {n : Nat} {mth : Int32} (hR : kRow n sb se mbe men) (hn : n ≤ 10) : ∀ (u k : Nat) (a : Int32), k ≤ n → n - k < u → ∃ a', f_X1_clashes_4 u sb se (nI n) a (nI k) = some a' ∧ f_X3_clashes_9 u mbe men (nI n) mth a (nI k) = some (a', mth) := by
  intro u
  induction u with
  | zero => intro k a hk hf; omega
  | succ u ih =>
    intro k a hk hf
    by_cases h : n ≤ k
    · have h' : nI n ≤ nI k := (q_le (by omega) (by omega)).mpr h
      refine ⟨a, ?_, ?_⟩
      · simp only [f_X1_clashes_4, f_X0_count, Option.bind_some, if_pos h']
      · simp only [f_X3_clashes_9, if_pos h']
    · have h' : ¬ nI n ≤ nI k := t49 (by omega) (by omega) h
      obtain ⟨a1, g1, g3⟩ := cl_in (K1 := f_X1_clashes_4 u) (K3 := f_X3_clashes_9 u) (mth := mth) hR hn (show k < n by omega) 24 0 a (Nat.zero_le _) (by omega)
      obtain ⟨a2, k1, k3⟩ := ih (k + 1) a1 (by omega) (by omega)
      have g1' : f_X1_clashes_17 (f_X1_clashes_4 u) 24 sb se (nI n) a (nI k) 0 = f_X1_clashes_4 u sb se (nI n) a1 (nI (k + 1)) := g1
      have g3' : f_X3_clashes_19 (f_X3_clashes_9 u) 24 mbe men (nI n) mth a (nI k) 0 = f_X3_clashes_9 u mbe men (nI n) mth a1 (nI (k + 1)) := g3
      refine ⟨a2, ?_, ?_⟩
      · simp only [f_X1_clashes_4, f_X0_count, Option.bind_some, if_neg h', g1', k1]
      · simp only [f_X3_clashes_9, if_neg h', g3', k3]
theorem ob_clashes {sb se mbe men : Nat → Int64} {n : Nat} (hR : kRow n sb se mbe men) (hn : n ≤ 10) : ∃ a, f_X1_clashes sb se (nI n) = some a ∧ f_X3_clashes mbe men (nI n) = some (a, 0) :=
  cl_loop hR hn 24 0 0 (Nat.zero_le _) (by omega)
theorem dp_in {b e b' e' : Nat → Int64} {n N : Nat} {K1 : (Nat → Int64) → (Nat → Int64) → Int32 → Int32 → Int32 → Option Int32} {K3 : (Nat → Int64) → (Nat → Int64) → Int32 → Int32 → Int32 → Option Int32} (hR : ∀ k, k < n → b k = b' k ∧ e k = e' k) (hn : n ≤ N) (hN : N ≤ 11) {k : Nat} {x : Int32} (hk : k < n) : ∀ (u j : Nat) (a : Int32), j ≤ n → n - j < u → ∃ a', f_X0_depth_17 K1 u b e (nI n) x (nI k) a (nI j) = K1 b e (nI n) a' (nI (k + 1)) ∧ f_X3_deepest_17 N N K3 u b' e' (nI n) x (nI k) a (nI j) = K3 b' e' (nI n) a' (nI (k + 1)) := by
  intro u
  induction u with
  | zero => intro j a hj hf; omega
  | succ u ih =>
    intro j a hj hf
    have es : nI j + 1 = nI (j + 1) := q_s j
    have ek : nI k + 1 = nI (k + 1) := q_s k
    by_cases h : n ≤ j
    · have h' : nI n ≤ nI j := (q_le (by omega) (by omega)).mpr h
      refine ⟨if x < a then a else x, ?_, ?_⟩
      · simp only [f_X0_depth_17, if_pos h', ek]
      · simp only [f_X3_deepest_17, if_pos h', ek]
    · have h' : ¬ nI n ≤ nI j := t49 (by omega) (by omega) h
      have a1 : ix (nI k) 11 := q_ix (by omega) (by omega)
      have a2 : ix (nI j) 11 := q_ix (by omega) (by omega)
      have b1 : ix (nI k) N := q_ix (by omega) (by omega)
      have b2 : ix (nI j) N := q_ix (by omega) (by omega)
      have c1 : (nI k).toNatClampNeg = k := q_cl (by omega)
      have c2 : (nI j).toNatClampNeg = j := q_cl (by omega)
      obtain ⟨z1, z2⟩ := hR k hk
      obtain ⟨y1, y2⟩ := hR j (by omega)
      by_cases h1 : b' k < b' j
      · obtain ⟨a', g1, g3⟩ := ih (j + 1) a (by omega) (by omega)
        refine ⟨a', ?_, ?_⟩
        · simp only [f_X0_depth_17, if_neg h', if_pos a1, if_pos a2, c1, c2, z1, y1, if_pos h1, es, g1]
        · simp only [f_X3_deepest_17, if_neg h', if_pos b1, if_pos b2, c1, c2, if_pos h1, Int32.add_zero, es, g3]
      · by_cases h2 : e' j ≤ b' k
        · obtain ⟨a', g1, g3⟩ := ih (j + 1) a (by omega) (by omega)
          refine ⟨a', ?_, ?_⟩
          · simp only [f_X0_depth_17, if_neg h', if_pos a1, if_pos a2, c1, c2, z1, y1, y2, if_neg h1, if_pos h2, es, g1]
          · simp only [f_X3_deepest_17, if_neg h', if_pos b1, if_pos b2, c1, c2, if_neg h1, if_pos h2, Int32.add_zero, es, g3]
        · obtain ⟨a', g1, g3⟩ := ih (j + 1) (a + 1) (by omega) (by omega)
          refine ⟨a', ?_, ?_⟩
          · simp only [f_X0_depth_17, if_neg h', if_pos a1, if_pos a2, c1, c2, z1, y1, y2, if_neg h1, if_neg h2, es, g1]
          · simp only [f_X3_deepest_17, if_neg h', if_pos b1, if_pos b2, c1, c2, if_neg h1, if_neg h2, es, g3]
theorem dp_loop {b e b' e' : Nat → Int64} {n N : Nat} (hR : ∀ k, k < n → b k = b' k ∧ e k = e' k) (hn : n ≤ N) (hN : N ≤ 11) : ∀ (u k : Nat) (a : Int32), k ≤ n → n - k < u → ∃ a', f_X0_depth_4 u b e (nI n) a (nI k) = some a' ∧ f_X3_deepest_5 N N u b' e' (nI n) a (nI k) = some a' := by
  intro u
  induction u with
  | zero => intro k a hk hf; omega
  | succ u ih =>
    intro k a hk hf
    by_cases h : n ≤ k
    · have h' : nI n ≤ nI k := (q_le (by omega) (by omega)).mpr h
      refine ⟨a, ?_, ?_⟩
      · simp only [f_X0_depth_4, if_pos h']
      · simp only [f_X3_deepest_5, if_pos h']
    · have h' : ¬ nI n ≤ nI k := t49 (by omega) (by omega) h
      obtain ⟨a1, g1, g3⟩ := dp_in (K1 := f_X0_depth_4 u) (K3 := f_X3_deepest_5 N N u) (x := a) hR hn hN (show k < n by omega) 24 0 0 (Nat.zero_le _) (by omega)
      obtain ⟨a2, k1, k3⟩ := ih (k + 1) a1 (by omega) (by omega)
      have g1' : f_X0_depth_17 (f_X0_depth_4 u) 24 b e (nI n) a (nI k) 0 0 = f_X0_depth_4 u b e (nI n) a1 (nI (k + 1)) := g1
      have g3' : f_X3_deepest_17 N N (f_X3_deepest_5 N N u) 24 b' e' (nI n) a (nI k) 0 0 = f_X3_deepest_5 N N u b' e' (nI n) a1 (nI (k + 1)) := g3
      refine ⟨a2, ?_, ?_⟩
      · simp only [f_X0_depth_4, if_neg h', g1', k1]
      · simp only [f_X3_deepest_5, if_neg h', g3', k3]
theorem dp_both {b e b' e' : Nat → Int64} {n N : Nat} (hR : ∀ k, k < n → b k = b' k ∧ e k = e' k) (hn : n ≤ N) (hN : N ≤ 11) : ∃ a, f_X0_depth b e (nI n) = some a ∧ f_X3_deepest N N b' e' (nI n) = some a :=
  dp_loop hR hn hN 24 0 0 (Nat.zero_le _) (by omega)
theorem ob_deepest {sb se mbe men : Nat → Int64} {n : Nat} (hR : kRow n sb se mbe men) (hn : n ≤ 10) : ∃ a, f_X1_deepest sb se (nI n) = some a ∧ f_X3_deepest_ mbe men (nI n) = some (a, 0) := by
  obtain ⟨a, g1, g3⟩ := dp_both (N := 10) (fun k hk => ⟨(hR k hk).1, (hR k hk).2.1⟩) hn (by omega)
  refine ⟨a, ?_, ?_⟩
  · simp only [f_X1_deepest, g1, Option.bind_some]
  · simp only [f_X3_deepest_, g3, Option.bind_some]
theorem ob_crowd {wb we mwb mwe : Nat → Int64} {w : Nat} (hW : kWish w wb we mwb mwe) (hw : w ≤ 8) : ∃ a, f_X1_crowd wb we (nI w) = some a ∧ f_X3_crowd mwb mwe (nI w) = some (a, 0) := by
  obtain ⟨a, g1, g3⟩ := dp_both (N := 8) (fun k hk => ⟨(hW k hk).1, (hW k hk).2.1⟩) hw (by omega)
  refine ⟨a, ?_, ?_⟩
  · simp only [f_X1_crowd, g1, Option.bind_some]
  · simp only [f_X3_crowd, g3, Option.bind_some]
end
-- 58.pure.lean.txt
section
/-! sets of wishes, as sums of bits -/
theorem sb_1 : ∀ s, s < 256 → ∀ k, k < 8 → decide (((nI s >>> (nI k &&& 31)) &&& 1) = 1) = s.testBit k ∧ decide (((nI s >>> (nI k &&& 31)) &&& 1) = 0) = !s.testBit k ∧ decide ((nI s &&& (1 <<< (nI k &&& 31))) = 0) = !s.testBit k := by decide +kernel
theorem sb_2 : ∀ s, s < 256 → ∀ k, k < 8 → nI s ||| (1 <<< (nI k &&& 31)) = nI (s ||| 2 ^ k) ∧ (s ||| 2 ^ k) < 256 ∧ (s.testBit k = true → nI s - (1 <<< (nI k &&& 31)) = nI (s - 2 ^ k)) := by decide +kernel
theorem sb_3a : ∀ s, s < 256 → ∀ k, k < 8 → s.testBit k = true → s - 2 ^ k = s ^^^ 2 ^ k := by decide +kernel
theorem sb_3 : ∀ s, s < 256 → ∀ k, k < 8 → ∀ j, j < 8 → (s ||| 2 ^ k).testBit j = (s.testBit j || decide (j = k)) ∧ (s.testBit k = true → (s - 2 ^ k).testBit j = (s.testBit j && !decide (j = k))) := by
  intro s hs k hk j hj
  have e : decide (k = j) = decide (j = k) := decide_eq_decide.mpr eq_comm
  refine ⟨by rw [Nat.testBit_or, Nat.testBit_two_pow, e], fun h => ?_⟩
  rw [sb_3a s hs k hk h, Nat.testBit_xor, Nat.testBit_two_pow, e]
  by_cases g : j = k
  · subst g
    rw [h]
    simp
  · rw [decide_eq_false g]
    cases s.testBit j <;> rfl
theorem sb_4a : ∀ s, s < 256 → ∀ k, k < 8 → ((nI s >>> (nI k &&& 31)) &&& 1) = (if s.testBit k then 1 else 0) := by decide +kernel
theorem sb_4 : ∀ s, s < 256 → ∀ k, k < 8 → ∀ j, j < 8 → decide ((((nI s >>> (nI k &&& 31)) &&& (nI s >>> (nI j &&& 31))) &&& 1) = 1) = (s.testBit k && s.testBit j) := by
  intro s hs k hk j hj
  have e : ∀ a b : Int32, (a &&& b) &&& 1 = (a &&& 1) &&& (b &&& 1) := by
    intro a b
    rw [Int32.and_assoc a 1 (b &&& 1), Int32.and_comm 1 (b &&& 1), Int32.and_assoc b 1 1, Int32.and_self (a := 1), ← Int32.and_assoc a b 1]
  rw [e, sb_4a s hs k hk, sb_4a s hs j hj]
  cases s.testBit k <;> cases s.testBit j <;> decide
theorem sb_5 : ∀ w, w ≤ 8 → (1 : Int32) <<< (nI w &&& 31) = nI (2 ^ w) ∧ nI (2 ^ w) - 1 = nI (2 ^ w - 1) ∧ 1 ≤ 2 ^ w ∧ 2 ^ w ≤ 256 := by
  intro w hw
  have h : ∀ w, w < 9 → (1 : Int32) <<< (nI w &&& 31) = nI (2 ^ w) ∧ nI (2 ^ w) - 1 = nI (2 ^ w - 1) ∧ 1 ≤ 2 ^ w ∧ 2 ^ w ≤ 256 := by decide +kernel
  exact h w (by omega)
theorem bit1 {s k : Nat} (hs : s < 256) (hk : k < 8) : ((nI s >>> (nI k &&& 31)) &&& 1) = 1 ↔ s.testBit k = true := by
  rw [← (sb_1 s hs k hk).1]; exact decide_eq_true_iff.symm
theorem bit0 {s k : Nat} (hs : s < 256) (hk : k < 8) : ((nI s >>> (nI k &&& 31)) &&& 1) = 0 ↔ ¬ s.testBit k = true := by
  have h := (sb_1 s hs k hk).2.1
  constructor
  · intro z; rw [decide_eq_true z] at h; intro y; rw [y] at h; exact absurd h (by decide)
  · intro z
    have y : s.testBit k = false := by simpa using z
    rw [y] at h; exact of_decide_eq_true h
theorem bita {s k : Nat} (hs : s < 256) (hk : k < 8) : (nI s &&& (1 <<< (nI k &&& 31))) = 0 ↔ ¬ s.testBit k = true := by
  have h := (sb_1 s hs k hk).2.2
  constructor
  · intro z; rw [decide_eq_true z] at h; intro y; rw [y] at h; exact absurd h (by decide)
  · intro z
    have y : s.testBit k = false := by simpa using z
    rw [y] at h; exact of_decide_eq_true h
theorem bit2 {s k j : Nat} (hs : s < 256) (hk : k < 8) (hj : j < 8) : (((nI s >>> (nI k &&& 31)) &&& (nI s >>> (nI j &&& 31))) &&& 1) = 1 ↔ s.testBit k = true ∧ s.testBit j = true := by
  have h := sb_4 s hs k hk j hj
  constructor
  · intro z; rw [decide_eq_true z] at h; exact Bool.and_eq_true_iff.mp h.symm
  · intro ⟨z1, z2⟩; rw [z1, z2] at h; exact of_decide_eq_true h
theorem bito {s k j : Nat} (hs : s < 256) (hk : k < 8) (hj : j < 8) : (s ||| 2 ^ k).testBit j = true ↔ s.testBit j = true ∨ j = k := by
  rw [(sb_3 s hs k hk j hj).1, Bool.or_eq_true_iff, decide_eq_true_iff]
theorem bitm {s k j : Nat} (hs : s < 256) (hk : k < 8) (hj : j < 8) (h : s.testBit k = true) : (s - 2 ^ k).testBit j = true ↔ s.testBit j = true ∧ ¬ j = k := by
  rw [(sb_3 s hs k hk j hj).2 h, Bool.and_eq_true_iff]
  constructor
  · intro ⟨z1, z2⟩; exact ⟨z1, fun z => by rw [decide_eq_true z] at z2; exact absurd z2 (by decide)⟩
  · intro ⟨z1, z2⟩; exact ⟨z1, by rw [decide_eq_false z2]; rfl⟩
abbrev kMe (b e : Nat → Int64) (k j : Nat) : Prop := b k < e j ∧ b j < e k
/-- of a set no two meet -/
abbrev kApa (w : Nat) (b e : Nat → Int64) (s : Nat) : Prop := ∀ k, k < w → ∀ j, j < k → s.testBit k = true → s.testBit j = true → ¬ kMe b e k j
theorem kApa_any {w : Nat} {b e : Nat → Int64} {s : Nat} (h : kApa w b e s) {k j : Nat} (hk : k < w) (hj : j < w) (hn : ¬ j = k) (h1 : s.testBit k = true) (h2 : s.testBit j = true) : ¬ kMe b e k j := fun z => by
  by_cases h3 : j < k
  · exact h k hk j h3 h1 h2 z
  · exact h j hj k (by omega) h2 h1 ⟨z.2, z.1⟩
theorem mo_loop {b e : Nat → Int64} {w s k : Nat} (hw : w ≤ 8) (hs : s < 256) (hk : k < w) : ∀ (u i : Nat), i ≤ w → w - i < u → ∃ z, f_X1_meetsOneOf_2 u b e (nI w) (nI k) (nI s) (nI i) = some z ∧ ((z = 1 ∧ ∃ j, i ≤ j ∧ j < w ∧ s.testBit j = true ∧ kMe b e k j) ∨ (z = 0 ∧ ∀ j, i ≤ j → j < w → s.testBit j = true → ¬ kMe b e k j)) := by
  intro u
  induction u with
  | zero => intro i hi hf; omega
  | succ u ih =>
    intro i hi hf
    by_cases h : w ≤ i
    · have h' : nI w ≤ nI i := (q_le (by omega) (by omega)).mpr h
      refine ⟨0, ?_, Or.inr ⟨rfl, fun j h1 h2 => by omega⟩⟩
      simp only [f_X1_meetsOneOf_2, f_X0_count, Option.bind_some, if_pos h']
    · have h' : ¬ nI w ≤ nI i := t49 (by omega) (by omega) h
      have es : nI i + 1 = nI (i + 1) := q_s i
      have b1 : ix (nI k) w := q_ix (by omega) (by omega)
      have b2 : ix (nI i) w := q_ix (by omega) (by omega)
      have c1 : (nI k).toNatClampNeg = k := q_cl (by omega)
      have c2 : (nI i).toNatClampNeg = i := q_cl (by omega)
      obtain ⟨z, e1, hz⟩ := ih (i + 1) (by omega) (by omega)
      by_cases h1 : s.testBit i = true
      · have h1' := (bit1 hs (show i < 8 by omega)).mpr h1
        by_cases h2 : b k < e i ∧ b i < e k
        · refine ⟨1, ?_, Or.inl ⟨rfl, i, Nat.le_refl _, by omega, h1, h2⟩⟩
          simp only [f_X1_meetsOneOf_2, f_X0_count, Option.bind_some, if_neg h', if_pos h1', doMeet (show w ≤ 11 by omega) b1 b2, c1, c2, if_pos h2, t10, if_false]
        · refine ⟨z, ?_, ?_⟩
          · simp only [f_X1_meetsOneOf_2, f_X0_count, Option.bind_some, if_neg h', if_pos h1', doMeet (show w ≤ 11 by omega) b1 b2, c1, c2, if_neg h2, t00, if_true, es, e1]
          · rcases hz with ⟨hz, j, h3, h4, h5, h6⟩ | ⟨hz, h3⟩
            · exact Or.inl ⟨hz, j, by omega, h4, h5, h6⟩
            · refine Or.inr ⟨hz, fun j h4 h5 h6 => ?_⟩
              by_cases e9 : j = i
              · rw [e9]; exact h2
              · exact h3 j (by omega) h5 h6
      · have h1' := fun z => h1 ((bit1 hs (show i < 8 by omega)).mp z)
        refine ⟨z, ?_, ?_⟩
        · simp only [f_X1_meetsOneOf_2, f_X0_count, Option.bind_some, if_neg h', if_neg h1', es, e1]
        · rcases hz with ⟨hz, j, h3, h4, h5, h6⟩ | ⟨hz, h3⟩
          · exact Or.inl ⟨hz, j, by omega, h4, h5, h6⟩
          · refine Or.inr ⟨hz, fun j h4 h5 h6 => ?_⟩
            by_cases e9 : j = i
            · rw [e9] at h6; exact absurd h6 h1
            · exact h3 j (by omega) h5 h6
theorem mo_eq {b e : Nat → Int64} {w s k : Nat} (hw : w ≤ 8) (hs : s < 256) (hk : k < w) : (f_X1_meetsOneOf b e (nI w) (nI k) (nI s) = some 1 ∧ ∃ j, j < w ∧ s.testBit j = true ∧ kMe b e k j) ∨ (f_X1_meetsOneOf b e (nI w) (nI k) (nI s) = some 0 ∧ ∀ j, j < w → s.testBit j = true → ¬ kMe b e k j) := by
  obtain ⟨z, e1, hz⟩ := mo_loop (b := b) (e := e) hw hs hk 24 0 (Nat.zero_le _) (by omega)
  have e1' : f_X1_meetsOneOf b e (nI w) (nI k) (nI s) = some z := e1
  rcases hz with ⟨hz, j, h3, h4, h5, h6⟩ | ⟨hz, h3⟩
  · rw [hz] at e1'; exact Or.inl ⟨e1', j, h4, h5, h6⟩
  · rw [hz] at e1'; exact Or.inr ⟨e1', fun j h4 => h3 j (Nat.zero_le _) h4⟩
theorem iw_loop {b e : Nat → Int64} {w s : Nat} (hw : w ≤ 8) (hs : s < 256) : ∀ (u i : Nat), i ≤ w → w - i < u → ∃ z, f_X1_isWithoutMeeting_2 u b e (nI w) (nI s) (nI i) = some z ∧ ((z = 0 ∧ ∃ k j, k < w ∧ j < w ∧ ¬ j = k ∧ s.testBit k = true ∧ s.testBit j = true ∧ kMe b e k j) ∨ (z = 1 ∧ ∀ k, i ≤ k → k < w → s.testBit k = true → ∀ j, j < w → ¬ j = k → s.testBit j = true → ¬ kMe b e k j)) := by
  intro u
  induction u with
  | zero => intro i hi hf; omega
  | succ u ih =>
    intro i hi hf
    by_cases h : w ≤ i
    · have h' : nI w ≤ nI i := (q_le (by omega) (by omega)).mpr h
      refine ⟨1, ?_, Or.inr ⟨rfl, fun k h1 h2 => by omega⟩⟩
      simp only [f_X1_isWithoutMeeting_2, f_X0_count, Option.bind_some, if_pos h']
    · have h' : ¬ nI w ≤ nI i := t49 (by omega) (by omega) h
      have es : nI i + 1 = nI (i + 1) := q_s i
      obtain ⟨z, e1, hz⟩ := ih (i + 1) (by omega) (by omega)
      by_cases h1 : s.testBit i = true
      · have h1' : ¬ (nI s &&& (1 <<< (nI i &&& 31))) = 0 := fun z => (bita hs (show i < 8 by omega)).mp z h1
        have e2 := (sb_2 s hs i (by omega)).2.2 h1
        rcases mo_eq (b := b) (e := e) hw (Nat.lt_of_le_of_lt (Nat.sub_le s (2 ^ i)) hs) (show i < w by omega) with ⟨e3, j, h3, h4, h5⟩ | ⟨e3, h3⟩
        · obtain ⟨h6, h7⟩ := (bitm hs (show i < 8 by omega) (show j < 8 by omega) h1).mp h4
          refine ⟨0, ?_, Or.inl ⟨rfl, i, j, by omega, h3, h7, h1, h6, h5⟩⟩
          simp only [f_X1_isWithoutMeeting_2, f_X0_count, Option.bind_some, if_neg h', if_neg h1', e2, e3, t10, if_false]
        · refine ⟨z, ?_, ?_⟩
          · simp only [f_X1_isWithoutMeeting_2, f_X0_count, Option.bind_some, if_neg h', if_neg h1', e2, e3, if_true, es, e1]
          · rcases hz with hz | ⟨hz, h4⟩
            · exact Or.inl hz
            · refine Or.inr ⟨hz, fun k h5 h6 h7 j h8 h9 h10 => ?_⟩
              by_cases e9 : k = i
              · rw [e9]
                rw [e9] at h9
                exact h3 j h8 ((bitm hs (show i < 8 by omega) (show j < 8 by omega) h1).mpr ⟨h10, h9⟩)
              · exact h4 k (by omega) h6 h7 j h8 h9 h10
      · have h1' : (nI s &&& (1 <<< (nI i &&& 31))) = 0 := (bita hs (show i < 8 by omega)).mpr h1
        refine ⟨z, ?_, ?_⟩
        · simp only [f_X1_isWithoutMeeting_2, f_X0_count, Option.bind_some, if_neg h', if_pos h1', es, e1]
        · rcases hz with hz | ⟨hz, h4⟩
          · exact Or.inl hz
          · refine Or.inr ⟨hz, fun k h5 h6 h7 => ?_⟩
            by_cases e9 : k = i
            · rw [e9] at h7; exact absurd h7 h1
            · exact h4 k (by omega) h6 h7
theorem a12 {b e : Nat → Int64} {w s k : Nat} {K : (Nat → Int64) → (Nat → Int64) → Int32 → Int32 → Int32 → Option Int32} (hw : w ≤ 8) (hs : s < 256) (hk : k < w) : ∀ (u i : Nat), i ≤ k → k - i < u → (f_X3_areApart_12 K u b e (nI w) (nI s) (nI k) (nI i) = some 0 ∧ ∃ j, j < k ∧ s.testBit k = true ∧ s.testBit j = true ∧ kMe b e k j) ∨ (f_X3_areApart_12 K u b e (nI w) (nI s) (nI k) (nI i) = K b e (nI w) (nI s) (nI (k + 1)) ∧ ∀ j, i ≤ j → j < k → s.testBit k = true → s.testBit j = true → ¬ kMe b e k j) := by
  intro u
  induction u with
  | zero => intro i hi hf; omega
  | succ u ih =>
    intro i hi hf
    have es : nI i + 1 = nI (i + 1) := q_s i
    have ek : nI k + 1 = nI (k + 1) := q_s k
    by_cases h : k ≤ i
    · have h' : nI k ≤ nI i := (q_le (by omega) (by omega)).mpr h
      refine Or.inr ⟨?_, fun j h1 h2 => by omega⟩
      simp only [f_X3_areApart_12, if_pos h', ek]
    · have h' : ¬ nI k ≤ nI i := t49 (by omega) (by omega) h
      have b1 : ix (nI k) 8 := q_ix (by omega) (by omega)
      have b2 : ix (nI i) 8 := q_ix (by omega) (by omega)
      have c1 : (nI k).toNatClampNeg = k := q_cl (by omega)
      have c2 : (nI i).toNatClampNeg = i := q_cl (by omega)
      have hi := ih (i + 1) (by omega) (by omega)
      by_cases h1 : s.testBit k = true ∧ s.testBit i = true
      · have h1' := (bit2 hs (show k < 8 by omega) (show i < 8 by omega)).mpr h1
        by_cases h2 : b k < e i ∧ b i < e k
        · refine Or.inl ⟨?_, i, by omega, h1.1, h1.2, h2⟩
          simp only [f_X3_areApart_12, if_neg h', if_pos h1', f_X3_wishesMeet, if_pos b1, if_pos b2, meet3, c1, c2, if_pos h2, Option.bind_some, t10, if_false]
        · have e2 : f_X3_areApart_12 K (u + 1) b e (nI w) (nI s) (nI k) (nI i) = f_X3_areApart_12 K u b e (nI w) (nI s) (nI k) (nI (i + 1)) := by
            simp only [f_X3_areApart_12, if_neg h', if_pos h1', f_X3_wishesMeet, if_pos b1, if_pos b2, meet3, c1, c2, if_neg h2, Option.bind_some, if_true, es]
          rw [e2]
          rcases hi with hi | ⟨hi, h3⟩
          · exact Or.inl hi
          · refine Or.inr ⟨hi, fun j h4 h5 h6 h7 => ?_⟩
            by_cases e9 : j = i
            · rw [e9]; exact h2
            · exact h3 j (by omega) h5 h6 h7
      · have h1' := fun z => h1 ((bit2 hs (show k < 8 by omega) (show i < 8 by omega)).mp z)
        have e2 : f_X3_areApart_12 K (u + 1) b e (nI w) (nI s) (nI k) (nI i) = f_X3_areApart_12 K u b e (nI w) (nI s) (nI k) (nI (i + 1)) := by
          simp only [f_X3_areApart_12, if_neg h', if_neg h1', es]
        rw [e2]
        rcases hi with hi | ⟨hi, h3⟩
        · exact Or.inl hi
        · refine Or.inr ⟨hi, fun j h4 h5 h6 h7 => ?_⟩
          by_cases e9 : j = i
          · rw [e9] at h7; exact absurd ⟨h6, h7⟩ h1
          · exact h3 j (by omega) h5 h6 h7
theorem a2_loop {b e : Nat → Int64} {w s : Nat} (hw : w ≤ 8) (hs : s < 256) : ∀ (u i : Nat), i ≤ w → w - i < u → ∃ z, f_X3_areApart_2 u b e (nI w) (nI s) (nI i) = some z ∧ ((z = 0 ∧ ∃ k j, k < w ∧ j < k ∧ s.testBit k = true ∧ s.testBit j = true ∧ kMe b e k j) ∨ (z = 1 ∧ ∀ k, i ≤ k → k < w → ∀ j, j < k → s.testBit k = true → s.testBit j = true → ¬ kMe b e k j)) := by
  intro u
  induction u with
  | zero => intro i hi hf; omega
  | succ u ih =>
    intro i hi hf
    by_cases h : w ≤ i
    · have h' : nI w ≤ nI i := (q_le (by omega) (by omega)).mpr h
      refine ⟨1, ?_, Or.inr ⟨rfl, fun k h1 h2 => by omega⟩⟩
      simp only [f_X3_areApart_2, if_pos h']
    · have h' : ¬ nI w ≤ nI i := t49 (by omega) (by omega) h
      obtain ⟨z, e1, hz⟩ := ih (i + 1) (by omega) (by omega)
      rcases a12 (b := b) (e := e) (K := f_X3_areApart_2 u) hw hs (show i < w by omega) 24 0 (Nat.zero_le _) (by omega) with ⟨e2, j, h3, h4, h5, h6⟩ | ⟨e2, h3⟩
      · have e2' : f_X3_areApart_12 (f_X3_areApart_2 u) 24 b e (nI w) (nI s) (nI i) 0 = some 0 := e2
        refine ⟨0, ?_, Or.inl ⟨rfl, i, j, by omega, h3, h4, h5, h6⟩⟩
        simp only [f_X3_areApart_2, if_neg h', e2']
      · have e2' : f_X3_areApart_12 (f_X3_areApart_2 u) 24 b e (nI w) (nI s) (nI i) 0 = f_X3_areApart_2 u b e (nI w) (nI s) (nI (i + 1)) := e2
        refine ⟨z, ?_, ?_⟩
        · simp only [f_X3_areApart_2, if_neg h', e2', e1]
        · rcases hz with hz | ⟨hz, h4⟩
          · exact Or.inl hz
          · refine Or.inr ⟨hz, fun k h5 h6 j h7 => ?_⟩
            by_cases e9 : k = i
            · rw [e9]; rw [e9] at h7; exact h3 j (Nat.zero_le _) h7
            · exact h4 k (by omega) h6 j h7
theorem ap3 {b e : Nat → Int64} {w s : Nat} (hw : w ≤ 8) (hs : s < 256) : (f_X3_areApart b e (nI w) (nI s) = some 1 ∧ kApa w b e s) ∨ (f_X3_areApart b e (nI w) (nI s) = some 0 ∧ ¬ kApa w b e s) := by
  obtain ⟨z, e1, hz⟩ := a2_loop (b := b) (e := e) hw hs 24 0 (Nat.zero_le _) (by omega)
  have e1' : f_X3_areApart b e (nI w) (nI s) = some z := e1
  rcases hz with ⟨hz, k, j, h3, h4, h5, h6, h7⟩ | ⟨hz, h3⟩
  · rw [hz] at e1'; exact Or.inr ⟨e1', fun z => z k h3 j h4 h5 h6 h7⟩
  · rw [hz] at e1'; exact Or.inl ⟨e1', fun k hk => h3 k (Nat.zero_le _) hk⟩
theorem ap1 {b e : Nat → Int64} {w s : Nat} (hw : w ≤ 8) (hs : s < 256) : (f_X1_isWithoutMeeting b e (nI w) (nI s) = some 1 ∧ kApa w b e s) ∨ (f_X1_isWithoutMeeting b e (nI w) (nI s) = some 0 ∧ ¬ kApa w b e s) := by
  obtain ⟨z, e1, hz⟩ := iw_loop (b := b) (e := e) hw hs 24 0 (Nat.zero_le _) (by omega)
  have e1' : f_X1_isWithoutMeeting b e (nI w) (nI s) = some z := e1
  rcases hz with ⟨hz, k, j, h3, h4, h5, h6, h7, h8⟩ | ⟨hz, h3⟩
  · rw [hz] at e1'; exact Or.inr ⟨e1', fun z => kApa_any z h3 h4 h5 h6 h7 h8⟩
  · rw [hz] at e1'; exact Or.inl ⟨e1', fun k hk j hj h5 h6 => h3 k (Nat.zero_le _) hk h5 j (by omega) (by omega) h6⟩
theorem kApa_congr {w s : Nat} {b e b' e' : Nat → Int64} (h : ∀ k, k < w → b k = b' k ∧ e k = e' k) : kApa w b e s ↔ kApa w b' e' s := by
  constructor
  · intro z k hk j hj h1 h2 ⟨h3, h4⟩
    obtain ⟨a1, a2⟩ := h k hk
    obtain ⟨a3, a4⟩ := h j (by omega)
    exact z k hk j hj h1 h2 ⟨by rw [a1, a4]; exact h3, by rw [a3, a2]; exact h4⟩
  · intro z k hk j hj h1 h2 ⟨h3, h4⟩
    obtain ⟨a1, a2⟩ := h k hk
    obtain ⟨a3, a4⟩ := h j (by omega)
    exact z k hk j hj h1 h2 ⟨by rw [← a1, ← a4]; exact h3, by rw [← a3, ← a2]; exact h4⟩
/-- whether a set's wishes are apart, on both sides -/
theorem ap_both {b e b' e' : Nat → Int64} {w s : Nat} (hw : w ≤ 8) (hs : s < 256) (h : ∀ k, k < w → b k = b' k ∧ e k = e' k) : (f_X1_isWithoutMeeting b e (nI w) (nI s) = some 1 ∧ f_X3_areApart b' e' (nI w) (nI s) = some 1 ∧ kApa w b' e' s) ∨ (f_X1_isWithoutMeeting b e (nI w) (nI s) = some 0 ∧ f_X3_areApart b' e' (nI w) (nI s) = some 0 ∧ ¬ kApa w b' e' s) := by
  rcases ap1 (b := b) (e := e) hw hs with ⟨e1, h1⟩ | ⟨e1, h1⟩
  · rcases ap3 (b := b') (e := e') hw hs with ⟨e3, h3⟩ | ⟨e3, h3⟩
    · exact Or.inl ⟨e1, e3, h3⟩
    · exact absurd ((kApa_congr h).mp h1) h3
  · rcases ap3 (b := b') (e := e') hw hs with ⟨e3, h3⟩ | ⟨e3, h3⟩
    · exact absurd ((kApa_congr h).mpr h3) h1
    · exact Or.inr ⟨e1, e3, h3⟩
theorem kWish.bo {w : Nat} {wb we mwb mwe : Nat → Int64} (h : kWish w wb we mwb mwe) : ∀ k, k < w → wb k = mwb k ∧ we k = mwe k := fun k hk => ⟨(h k hk).1, (h k hk).2.1⟩
theorem setAll {w : Nat} (hw : w ≤ 8) : f_X1_setOfAllWishes (nI w) = some (nI (2 ^ w - 1)) := by
  simp only [f_X1_setOfAllWishes, f_X0_count, Option.bind_some, (sb_5 w hw).1, (sb_5 w hw).2.1]
theorem shr_le0 {w : Nat} (hw : w ≤ 8) {p : Int32} (h : 0 ≤ p.toInt) : (p >>> (nI w &&& 31)) ≤ 0 ↔ p.toInt ≤ (nI (2 ^ w - 1)).toInt := by
  have e : (p >>> (nI w &&& 31)).toInt = p.toInt / ((2 ^ w : Nat) : Int) := by
    have hx : ∀ w, w < 9 → ((nI w &&& 31).toBitVec.smod 32).toNat = w := by decide +kernel
    have hy : (p >>> (nI w &&& 31)).toBitVec = p.toBitVec.sshiftRight w := by
      rw [Int32.toBitVec_shiftRight, BitVec.sshiftRight', hx w (by omega)]
    show ((p >>> (nI w &&& 31)).toBitVec).toInt = _
    rw [hy, BitVec.toInt_sshiftRight, Int.shiftRight_eq_div_pow]
    rfl
  obtain ⟨-, -, h3, h4⟩ := sb_5 w hw
  rw [le32, e, i0]
  generalize 2 ^ w = N at h3 h4 ⊢
  rw [nI_toInt (by omega)]
  constructor
  · intro z
    by_cases h5 : p.toInt < N
    · omega
    · have := Int.le_ediv_of_mul_le (a := 1) (b := p.toInt) (c := (N : Int)) (by omega) (by omega)
      omega
  · intro z
    rw [Int.ediv_eq_zero_of_lt h (by omega)]
    exact Int.le_refl _
theorem ob_isApart {w : Nat} {wb we mwb mwe : Nat → Int64} {on : Int64} {p0 : Int32} (hW : kWish w wb we mwb mwe) (hw : w ≤ 8) : kObs (f_L_isApart wb we (nI w) on p0) (f_X3_isApart mwb mwe (nI w) p0) := by
  have e9 : (nI (2 ^ w - 1)).toInt = (2 ^ w - 1 : Nat) := nI_toInt (by have := (sb_5 w hw).2.2.2; omega)
  by_cases h : 0 ≤ p0.toInt ∧ p0.toInt ≤ (nI (2 ^ w - 1)).toInt
  · have a1 : ¬ p0 < 0 := by rw [lt32, i0]; omega
    have a2 := (shr_le0 hw h.1).mpr h.2
    have h2 := (sb_5 w hw).2.2.2
    obtain ⟨s, hs, rfl⟩ := small_of (w := p0) (n := 256) h.1 (by omega) (by omega)
    rcases ap_both hw hs hW.bo with ⟨e1, e3, -⟩ | ⟨e1, e3, -⟩
    · simp only [kObs, f_L_isApart, fx_X1_isApart, f_X1_isApart, setAll hw, withinq, i0, if_pos h, needThat1.1, needThat1.2, xb_n, Option.bind_some, e1, t10, if_false, f_X3_isApart, if_neg a1, if_pos a2, f_X3_isApart_19, thrown3', if_true, e3]
      exact ⟨_, _, rfl, rfl, rfl, fun _ => o1⟩
    · simp only [kObs, f_L_isApart, fx_X1_isApart, f_X1_isApart, setAll hw, withinq, i0, if_pos h, needThat1.1, needThat1.2, xb_n, Option.bind_some, e1, if_true, f_X3_isApart, if_neg a1, if_pos a2, f_X3_isApart_19, thrown3', e3]
      exact ⟨_, _, rfl, rfl, rfl, fun _ => o0⟩
  · have hM : f_X3_isApart mwb mwe (nI w) p0 = some (0, 1) := by
      by_cases a1 : p0 < 0
      · simp only [f_X3_isApart, if_pos a1, f_X3_isApart_14, f_X3_isApart_19, thrown3', t10, if_false, Option.bind_some]
      · have h0 : 0 ≤ p0.toInt := by rw [lt32, i0] at a1; omega
        have a2 : ¬ (p0 >>> (nI w &&& 31)) ≤ 0 := fun z => h ⟨h0, (shr_le0 hw h0).mp z⟩
        simp only [f_X3_isApart, if_neg a1, if_neg a2, f_X3_isApart_14, f_X3_isApart_19, thrown3', t10, if_false, Option.bind_some]
    rw [kObs, hM]
    simp only [f_L_isApart, fx_X1_isApart, setAll hw, withinq, i0, if_neg h, needThat0.1, needThat0.2, Option.bind_some, xb_s, u21, if_false]
    exact ⟨_, _, rfl, rfl, rfl, fun z => no1 z⟩
end
-- 59.pure.lean.txt
section
/-! the chosen wishes -/
/-- how many of the first m have p -/
def kCt (p : Nat → Bool) : Nat → Nat
  | 0 => 0
  | m + 1 => kCt p m + (if p m = true then 1 else 0)
theorem kCt_le {p : Nat → Bool} : ∀ m, kCt p m ≤ m := by
  intro m
  induction m with
  | zero => exact Nat.le_refl _
  | succ m ih => rw [kCt]; split <;> omega
theorem kCt_full {p : Nat → Bool} : ∀ m, kCt p m = m → ∀ j, j < m → p j = true := by
  intro m
  induction m with
  | zero => intro h j hj; omega
  | succ m ih =>
    intro h j hj
    have hl := kCt_le (p := p) m
    rw [kCt] at h
    by_cases h1 : p m = true
    · rw [if_pos h1] at h
      by_cases e9 : j = m
      · rw [e9]; exact h1
      · exact ih (by omega) j (by omega)
    · rw [if_neg h1] at h; omega
theorem kCt_same {p q : Nat → Bool} : ∀ m, (∀ j, j < m → p j = q j) → kCt p m = kCt q m := by
  intro m
  induction m with
  | zero => intro h; rfl
  | succ m ih => intro h; rw [kCt, kCt, ih (fun j hj => h j (by omega)), h m (by omega)]
theorem kCt_more {p q : Nat → Bool} {c : Nat} (h0 : p c = false) (h1 : q c = true) : ∀ m, (∀ j, j < m → ¬ j = c → p j = q j) → c < m → kCt q m = kCt p m + 1 := by
  intro m
  induction m with
  | zero => intro h hc; omega
  | succ m ih =>
    intro h hc
    rw [kCt, kCt]
    by_cases e9 : m = c
    · rw [kCt_same m (p := p) (q := q) (fun j hj => h j (by omega) (by omega)), e9, h0, h1]; rfl
    · rw [ih (fun j hj => h j (by omega)) (by omega), h m (by omega) e9]; omega
abbrev kGood (w : Nat) (b e : Nat → Int64) (s c : Nat) : Prop := ¬ s.testBit c = true ∧ kApa w b e (s ||| 2 ^ c)
/-- of a set whose wishes are apart: what meets none of it may come, and nothing else -/
theorem good_iff {w s c : Nat} {b e : Nat → Int64} (hw : w ≤ 8) (hs : s < 256) (hc : c < w) (hb : ∀ k, k < w → b k < e k) (ha : kApa w b e s) : kGood w b e s c ↔ ∀ j, j < w → s.testBit j = true → ¬ kMe b e c j := by
  constructor
  · intro ⟨h1, h2⟩ j hj h3 h4
    have e9 : ¬ j = c := fun z => h1 (z ▸ h3)
    exact kApa_any h2 hc hj e9 ((bito hs (by omega) (by omega)).mpr (Or.inr rfl)) ((bito hs (by omega) (by omega)).mpr (Or.inl h3)) h4
  · intro h
    refine ⟨fun z => h c hc z ⟨hb c hc, hb c hc⟩, fun k hk j hj h1 h2 h3 => ?_⟩
    rcases (bito hs (show c < 8 by omega) (show k < 8 by omega)).mp h1 with h4 | h4
    · rcases (bito hs (show c < 8 by omega) (show j < 8 by omega)).mp h2 with h5 | h5
      · exact ha k hk j hj h4 h5 h3
      · rw [h5] at h3; exact h k hk h4 ⟨h3.2, h3.1⟩
    · rcases (bito hs (show c < 8 by omega) (show j < 8 by omega)).mp h2 with h5 | h5
      · rw [h4] at h3; exact h j (by omega) h5 h3
      · omega
theorem nm1 : ¬ (0 : Int32) ≤ -1 := by decide
theorem nc_loop {w s : Nat} {b e b' e' : Nat → Int64} {K : (Nat → Int64) → (Nat → Int64) → Int32 → Int32 → Option Int32} (hw : w ≤ 8) (hs : s < 256) (hR : ∀ k, k < w → b k = b' k ∧ e k = e' k) (hb : ∀ k, k < w → b' k < e' k) (ha : kApa w b' e' s) : ∀ (u i : Nat) (x : Int32), i ≤ w → w - i < u → (x = -1 ∨ ∃ c, c < w ∧ x = nI c ∧ kGood w b' e' s c) → (f_X1_nextChosen_4 u b e (nI w) (nI s) x (nI i) = some (-1) ∧ f_X3_chosenNow_6 K u b' e' (nI w) (nI s) x (nI i) = some (nI s) ∧ x = -1 ∧ ∀ k, i ≤ k → k < w → ¬ kGood w b' e' s k) ∨ ∃ c, c < w ∧ kGood w b' e' s c ∧ f_X1_nextChosen_4 u b e (nI w) (nI s) x (nI i) = some (nI c) ∧ f_X3_chosenNow_6 K u b' e' (nI w) (nI s) x (nI i) = K b' e' (nI w) (nI (s ||| 2 ^ c)) := by
  intro u
  induction u with
  | zero => intro i x hi hf; omega
  | succ u ih =>
    intro i x hi hf hx
    by_cases h : w ≤ i
    · have h' : nI w ≤ nI i := (q_le (by omega) (by omega)).mpr h
      rcases hx with hx | ⟨c, hc, hx, hg⟩
      · refine Or.inl ⟨?_, ?_, hx, fun k h1 h2 => by omega⟩
        · simp only [f_X1_nextChosen_4, f_X0_count, Option.bind_some, if_pos h', hx]
        · simp only [f_X3_chosenNow_6, if_pos h', hx, if_neg nm1]
      · have h0 : (0 : Int32) ≤ nI c := Int32.not_lt.mp (by rw [nI_lt0 (show c ≤ 65536 by omega)]; exact id)
        refine Or.inr ⟨c, hc, hg, ?_, ?_⟩
        · simp only [f_X1_nextChosen_4, f_X0_count, Option.bind_some, if_pos h', hx]
        · simp only [f_X3_chosenNow_6, if_pos h', hx, if_pos h0, (sb_2 s hs c (by omega)).1]
    · have h' : ¬ nI w ≤ nI i := t49 (by omega) (by omega) h
      have es : nI i + 1 = nI (i + 1) := q_s i
      have b1 : ix (nI i) w := q_ix (by omega) (by omega)
      have b8 : ix (nI i) 8 := q_ix (by omega) (by omega)
      have c1 : (nI i).toNatClampNeg = i := q_cl (by omega)
      obtain ⟨eo, ho, -⟩ := sb_2 s hs i (by omega)
      have hcg : (∀ j, j < w → s.testBit j = true → ¬ kMe b' e' i j) ↔ (∀ j, j < w → s.testBit j = true → ¬ kMe b e i j) := by
        obtain ⟨y1, y2⟩ := hR i (by omega)
        constructor
        · intro z j hj h1 h2
          obtain ⟨z1, z2⟩ := hR j hj
          exact z j hj h1 ⟨by rw [← y1, ← z2]; exact h2.1, by rw [← z1, ← y2]; exact h2.2⟩
        · intro z j hj h1 h2
          obtain ⟨z1, z2⟩ := hR j hj
          exact z j hj h1 ⟨by rw [y1, z2]; exact h2.1, by rw [z1, y2]; exact h2.2⟩
      by_cases hg : kGood w b' e' s i
      · have em : f_X1_meetsOneOf b e (nI w) (nI i) (nI s) = some 0 := by
          rcases mo_eq (b := b) (e := e) hw hs (show i < w by omega) with ⟨-, j, h3, h4, h5⟩ | ⟨e3, -⟩
          · exact absurd h5 ((hcg.mp ((good_iff hw hs (by omega) hb ha).mp hg)) j h3 h4)
          · exact e3
        have ea : f_X3_areApart b' e' (nI w) (nI (s ||| 2 ^ i)) = some 1 := by
          rcases ap3 (b := b') (e := e') hw ho with ⟨e3, -⟩ | ⟨-, h3⟩
          · exact e3
          · exact absurd hg.2 h3
        have h0 := (bit0 hs (show i < 8 by omega)).mpr hg.1
        rcases hx with hx | ⟨c, hc, hx, hgc⟩
        · rcases ih (i + 1) (nI i) (by omega) (by omega) (Or.inr ⟨i, by omega, rfl, hg⟩) with ⟨-, -, h1, -⟩ | ⟨c, g1, g2, g3, g4⟩
          · rw [nI_m1 (show i ≤ 65536 by omega)] at h1; exact absurd h1 id
          · refine Or.inr ⟨c, g1, g2, ?_, ?_⟩
            · simp only [f_X1_nextChosen_4, f_X0_count, Option.bind_some, if_neg h', em, if_true, hx, es, g3]
            · simp only [f_X3_chosenNow_6, if_neg h', if_pos h0, eo, ea, Option.bind_some, t10, if_false, hx, lm1, if_true, es, g4]
        · have d1 : ix (nI c) w := q_ix (by omega) (by omega)
          have d8 : ix (nI c) 8 := q_ix (by omega) (by omega)
          have d2 : (nI c).toNatClampNeg = c := q_cl (by omega)
          obtain ⟨z1, z2⟩ := hR c hc
          obtain ⟨y1, y2⟩ := hR i (by omega)
          by_cases h5 : e' c ≤ e' i
          · rcases ih (i + 1) (nI c) (by omega) (by omega) (Or.inr ⟨c, hc, rfl, hgc⟩) with ⟨-, -, h1, -⟩ | ⟨c', g1, g2, g3, g4⟩
            · rw [nI_m1 (show c ≤ 65536 by omega)] at h1; exact absurd h1 id
            · refine Or.inr ⟨c', g1, g2, ?_, ?_⟩
              · simp only [f_X1_nextChosen_4, f_X0_count, Option.bind_some, if_neg h', em, if_true, hx, nI_m1 (show c ≤ 65536 by omega), if_false, end0 (show w ≤ 11 by omega) b1, end0 (show w ≤ 11 by omega) d1, c1, d2, z2, y2, if_pos h5, es, g3]
              · simp only [f_X3_chosenNow_6, if_neg h', if_pos h0, eo, ea, Option.bind_some, t10, if_false, hx, nI_lt0 (show c ≤ 65536 by omega), if_pos b8, if_pos d8, c1, d2, if_pos h5, es, g4]
          · rcases ih (i + 1) (nI i) (by omega) (by omega) (Or.inr ⟨i, by omega, rfl, hg⟩) with ⟨-, -, h1, -⟩ | ⟨c', g1, g2, g3, g4⟩
            · rw [nI_m1 (show i ≤ 65536 by omega)] at h1; exact absurd h1 id
            · refine Or.inr ⟨c', g1, g2, ?_, ?_⟩
              · simp only [f_X1_nextChosen_4, f_X0_count, Option.bind_some, if_neg h', em, if_true, hx, nI_m1 (show c ≤ 65536 by omega), if_false, end0 (show w ≤ 11 by omega) b1, end0 (show w ≤ 11 by omega) d1, c1, d2, z2, y2, if_neg h5, es, g3]
              · simp only [f_X3_chosenNow_6, if_neg h', if_pos h0, eo, ea, Option.bind_some, t10, if_false, hx, nI_lt0 (show c ≤ 65536 by omega), if_pos b8, if_pos d8, c1, d2, if_neg h5, es, g4]
      · have em : f_X1_meetsOneOf b e (nI w) (nI i) (nI s) = some 1 := by
          rcases mo_eq (b := b) (e := e) hw hs (show i < w by omega) with ⟨e3, -⟩ | ⟨-, h3⟩
          · exact e3
          · exact absurd ((good_iff hw hs (by omega) hb ha).mpr (hcg.mpr h3)) hg
        have e1 : f_X1_nextChosen_4 (u + 1) b e (nI w) (nI s) x (nI i) = f_X1_nextChosen_4 u b e (nI w) (nI s) x (nI (i + 1)) := by
          simp only [f_X1_nextChosen_4, f_X0_count, Option.bind_some, if_neg h', em, t10, if_false, es]
        have e3 : f_X3_chosenNow_6 K (u + 1) b' e' (nI w) (nI s) x (nI i) = f_X3_chosenNow_6 K u b' e' (nI w) (nI s) x (nI (i + 1)) := by
          by_cases h0 : s.testBit i = true
          · have h0' : ¬ ((nI s >>> (nI i &&& 31)) &&& 1) = 0 := fun z => (bit0 hs (show i < 8 by omega)).mp z h0
            simp only [f_X3_chosenNow_6, if_neg h', if_neg h0', es]
          · have h0' := (bit0 hs (show i < 8 by omega)).mpr h0
            have ea : f_X3_areApart b' e' (nI w) (nI (s ||| 2 ^ i)) = some 0 := by
              rcases ap3 (b := b') (e := e') hw ho with ⟨-, h3⟩ | ⟨e3, -⟩
              · exact absurd ⟨h0, h3⟩ hg
              · exact e3
            simp only [f_X3_chosenNow_6, if_neg h', if_pos h0', eo, ea, Option.bind_some, if_true, es]
        rw [e1, e3]
        rcases ih (i + 1) x (by omega) (by omega) hx with ⟨g1, g2, g3, g4⟩ | g
        · refine Or.inl ⟨g1, g2, g3, fun k h1 h2 => ?_⟩
          by_cases e9 : k = i
          · rw [e9]; exact hg
          · exact g4 k (by omega) h2
        · exact Or.inr g
theorem ch_stay {w s : Nat} {b e : Nat → Int64} (hw : w ≤ 8) (h0 : f_X1_nextChosen b e (nI w) (nI s) = some (-1)) : ∀ (u i : Nat), i ≤ w → w - i < u → f_X1_chosen_4 u b e (nI w) (nI s) (nI i) = some (nI s) := by
  intro u
  induction u with
  | zero => intro i hi hf; omega
  | succ u ih =>
    intro i hi hf
    by_cases h : w ≤ i
    · have h' : nI w ≤ nI i := (q_le (by omega) (by omega)).mpr h
      simp only [f_X1_chosen_4, f_X0_count, Option.bind_some, if_pos h']
    · have h' : ¬ nI w ≤ nI i := t49 (by omega) (by omega) h
      simp only [f_X1_chosen_4, f_X0_count, Option.bind_some, if_neg h', h0, if_true, q_s, ih (i + 1) (by omega) (by omega)]
theorem ch_loop {w : Nat} {b e b' e' : Nat → Int64} (hw : w ≤ 8) (hR : ∀ k, k < w → b k = b' k ∧ e k = e' k) (hb : ∀ k, k < w → b' k < e' k) : ∀ (u i s : Nat), i ≤ w → w - i < u → u ≤ 24 → s < 256 → kApa w b' e' s → kCt (fun j => s.testBit j) w = i → ∃ s', s' < 256 ∧ f_X1_chosen_4 u b e (nI w) (nI s) (nI i) = some (nI s') ∧ f_X3_chosenNow_2 u b' e' (nI w) (nI s) = some (nI s') ∧ kApa w b' e' s' := by
  intro u
  induction u with
  | zero => intro i s hi hf; omega
  | succ u ih =>
    intro i s hi hf hu hs ha hct
    have hn := nc_loop (K := f_X3_chosenNow_2 u) hw hs hR hb ha 24 0 (-1) (Nat.zero_le _) (by omega) (Or.inl rfl)
    rcases hn with ⟨g1, g2, -, -⟩ | ⟨c, hc, hg, g1, g2⟩
    · refine ⟨s, hs, ch_stay hw g1 (u + 1) i hi hf, ?_, ha⟩
      exact g2
    · have hlt : i < w := by
        by_cases h : w ≤ i
        · exact absurd (kCt_full (p := fun j => s.testBit j) w (by omega) c hc) hg.1
        · omega
      have h' : ¬ nI w ≤ nI i := t49 (by omega) (by omega) (by omega)
      have es : nI i + 1 = nI (i + 1) := q_s i
      obtain ⟨eo, ho, -⟩ := sb_2 s hs c (by omega)
      have hct2 : kCt (fun j => (s ||| 2 ^ c).testBit j) w = i + 1 := by
        rw [← hct]
        refine kCt_more (c := c) (by simpa using hg.1) ((bito hs (by omega) (by omega)).mpr (Or.inr rfl)) w (fun j hj hn => ?_) hc
        show s.testBit j = (s ||| 2 ^ c).testBit j
        rw [(sb_3 s hs c (by omega) j (by omega)).1, decide_eq_false hn, Bool.or_false]
      obtain ⟨s', h1, h2, h3, h4⟩ := ih (i + 1) (s ||| 2 ^ c) (by omega) (by omega) (by omega) ho hg.2 hct2
      have g1' : f_X1_nextChosen b e (nI w) (nI s) = some (nI c) := g1
      refine ⟨s', h1, ?_, ?_, h4⟩
      · simp only [f_X1_chosen_4, f_X0_count, Option.bind_some, if_neg h', g1', nI_m1 (show c ≤ 65536 by omega), if_false, eo, es, h2]
      · exact g2.trans h3
theorem kCt_0 : ∀ w, kCt (fun j => (0 : Nat).testBit j) w = 0 := by
  intro w
  induction w with
  | zero => rfl
  | succ w ih => rw [kCt, ih, Nat.zero_testBit]; rfl
theorem chosen_both {w : Nat} {wb we mwb mwe : Nat → Int64} (hW : kWish w wb we mwb mwe) (hw : w ≤ 8) : ∃ s, s < 256 ∧ f_X1_chosen wb we (nI w) = some (nI s) ∧ f_X3_chosenNow mwb mwe (nI w) = some (nI s) ∧ kApa w mwb mwe s :=
  ch_loop hw hW.bo (fun k hk => by
    obtain ⟨a1, a2, a3, -⟩ := hW k hk
    rw [← a1, ← a2]; exact a3) 24 0 0 (Nat.zero_le _) (by omega) (Nat.le_refl _) (by omega) (fun k hk j hj h1 => by rw [Nat.zero_testBit] at h1; exact absurd h1 (by decide)) (kCt_0 w)
theorem ob_chosen {w : Nat} {wb we mwb mwe : Nat → Int64} (hW : kWish w wb we mwb mwe) (hw : w ≤ 8) : ∃ a, f_X1_chosen wb we (nI w) = some a ∧ f_X3_chosen mwb mwe (nI w) = some (a, 0) := by
  obtain ⟨s, hs, e1, e3, -⟩ := chosen_both hW hw
  refine ⟨nI s, e1, ?_⟩
  simp only [f_X3_chosen, e3, Option.bind_some]
/-! the most -/
theorem pop_both : ∀ s, s < 256 → ∃ r, r < 9 ∧ f_J6_bitCount_0f7a4 (nI s) = some (nI r) ∧ f_X3_ones (nI s) = some (nI r) := by
  have h : ∀ s, s < 256 → f_J6_bitCount_0f7a4 (nI s) = some (nI (kCt (fun j => s.testBit j) 8)) ∧ f_X3_ones (nI s) = some (nI (kCt (fun j => s.testBit j) 8)) := by decide +kernel
  intro s hs
  have hl := kCt_le (p := fun j => s.testBit j) 8
  exact ⟨_, by omega, (h s hs).1, (h s hs).2⟩
theorem mo_all {w N : Nat} {b e b' e' : Nat → Int64} (hw : w ≤ 8) (hN : 2 ^ w = N) (hN1 : 1 ≤ N) (hN2 : N ≤ 256) (hR : ∀ k, k < w → b k = b' k ∧ e k = e' k) : ∀ (u i a : Nat), i ≤ N → N - i < u → a < 9 → ∃ a', a' < 9 ∧ f_X1_mostOfAllSets_9 u b e (nI w) (nI a) (nI (N - 1)) (nI i) = some (nI a') ∧ f_X3_mostOfAll_4 u b' e' (nI w) (nI a) (nI i) = some (nI a') := by
  intro u
  induction u with
  | zero => intro i a hi hf; omega
  | succ u ih =>
    intro i a hi hf ha
    have eN := (sb_5 w hw).1
    rw [hN] at eN
    by_cases h : N ≤ i
    · have h1 : nI (N - 1) < nI i := (q_lt (by omega) (by omega)).mpr (by omega)
      have h3 : nI N ≤ nI i := (q_le (by omega) (by omega)).mpr h
      refine ⟨a, ha, ?_, ?_⟩
      · simp only [f_X1_mostOfAllSets_9, if_pos h1]
      · simp only [f_X3_mostOfAll_4, eN, if_pos h3]
    · have h1 : ¬ nI (N - 1) < nI i := fun z => by have := (q_lt (show N - 1 ≤ 65536 by omega) (show i ≤ 65536 by omega)).mp z; omega
      have h3 : ¬ nI N ≤ nI i := t49 (by omega) (by omega) h
      have es : nI i + 1 = nI (i + 1) := q_s i
      obtain ⟨r, hr, p1, p3⟩ := pop_both i (by omega)
      rcases ap_both (s := i) hw (by omega) hR with ⟨e1, e3, -⟩ | ⟨e1, e3, -⟩
      · by_cases h4 : r ≤ a
        · have h5 : nI r ≤ nI a := (q_le (by omega) (by omega)).mpr h4
          have h6 : ¬ nI a < nI r := Int32.not_lt.mpr h5
          obtain ⟨a', g0, g1, g3⟩ := ih (i + 1) a (by omega) (by omega) ha
          refine ⟨a', g0, ?_, ?_⟩
          · simp only [f_X1_mostOfAllSets_9, if_neg h1, p1, Option.bind_some, if_pos h5, es, g1]
          · simp only [f_X3_mostOfAll_4, eN, if_neg h3, e3, Option.bind_some, t10, if_false, p3, if_neg h6, es, g3]
        · have h5 : ¬ nI r ≤ nI a := t49 (by omega) (by omega) h4
          have h6 : nI a < nI r := Int32.not_le.mp h5
          obtain ⟨a', g0, g1, g3⟩ := ih (i + 1) r (by omega) (by omega) hr
          refine ⟨a', g0, ?_, ?_⟩
          · simp only [f_X1_mostOfAllSets_9, if_neg h1, p1, Option.bind_some, if_neg h5, e1, t10, if_false, es, g1]
          · simp only [f_X3_mostOfAll_4, eN, if_neg h3, e3, Option.bind_some, t10, if_false, p3, if_pos h6, es, g3]
      · obtain ⟨a', g0, g1, g3⟩ := ih (i + 1) a (by omega) (by omega) ha
        refine ⟨a', g0, ?_, ?_⟩
        · by_cases h5 : nI r ≤ nI a
          · simp only [f_X1_mostOfAllSets_9, if_neg h1, p1, Option.bind_some, if_pos h5, es, g1]
          · simp only [f_X1_mostOfAllSets_9, if_neg h1, p1, Option.bind_some, if_neg h5, e1, if_true, es, g1]
        · simp only [f_X3_mostOfAll_4, eN, if_neg h3, e3, Option.bind_some, if_true, es, g3]
theorem most_both {w : Nat} {wb we mwb mwe : Nat → Int64} (hW : kWish w wb we mwb mwe) (hw : w ≤ 8) : ∃ a, a < 9 ∧ f_X1_mostOfAllSets wb we (nI w) = some (nI a) ∧ f_X3_mostOfAll mwb mwe (nI w) = some (nI a) := by
  obtain ⟨-, -, h3, h4⟩ := sb_5 w hw
  obtain ⟨a, h0, e1, e3⟩ := mo_all hw rfl h3 h4 hW.bo 300 0 0 (Nat.zero_le _) (by omega) (by omega)
  refine ⟨a, h0, ?_, e3⟩
  simp only [f_X1_mostOfAllSets, setAll hw, Option.bind_some]
  exact e1
theorem ob_most {w : Nat} {wb we mwb mwe : Nat → Int64} {on : Int64} {p0 : Int32} (hW : kWish w wb we mwb mwe) (hw : w ≤ 8) : kObs (f_L_most wb we (nI w) on p0) (f_X3_most mwb mwe (nI w) p0) := by
  by_cases h : 0 ≤ p0.toInt ∧ p0.toInt ≤ 1
  · have hM : f_X3_most mwb mwe (nI w) p0 = f_X3_most_15 mwb mwe (nI w) p0 0 := (arg3 p0 1 (f_X3_most_10 mwb mwe (nI w) p0) (f_X3_most_15 mwb mwe (nI w) p0 0)).trans (if_pos (by rw [c1']; exact h))
    rw [kObs, hM]
    by_cases h2 : p0 = 0
    · obtain ⟨s, hs, e1, e3, -⟩ := chosen_both hW hw
      obtain ⟨r, -, e5, e6⟩ := pop_both s hs
      simp only [f_L_most, fx_X1_most, f_X1_most, withinq, i0, c1', if_pos h, needThat1.1, needThat1.2, Option.bind_some, xb_n, if_pos h2, e1, e5, f_X3_most_15, thrown3', if_true, e3, e6]
      exact ⟨_, _, rfl, rfl, rfl, fun _ => rfl⟩
    · obtain ⟨a, -, e1, e3⟩ := most_both hW hw
      simp only [f_L_most, fx_X1_most, f_X1_most, withinq, i0, c1', if_pos h, needThat1.1, needThat1.2, Option.bind_some, xb_n, if_neg h2, e1, f_X3_most_15, thrown3', if_true, e3]
      exact ⟨_, _, rfl, rfl, rfl, fun _ => rfl⟩
  · have hM : f_X3_most mwb mwe (nI w) p0 = f_X3_most_10 mwb mwe (nI w) p0 := (arg3 p0 1 (f_X3_most_10 mwb mwe (nI w) p0) (f_X3_most_15 mwb mwe (nI w) p0 0)).trans (if_neg (by rw [c1']; exact h))
    rw [kObs, hM]
    simp only [f_L_most, fx_X1_most, withinq, i0, c1', if_neg h, needThat0.1, needThat0.2, Option.bind_some, xb_s, u21, if_false, f_X3_most_10, f_X3_most_15, thrown3', t10]
    exact ⟨_, _, rfl, rfl, rfl, fun z => no1 z⟩
end
-- 60.pure.lean.txt
section
/-! rooms -/
abbrev kRel (w i : Nat) (rm ex : Nat → Int32) : Prop := ∀ k, k < w → rm k = ex k ∧ (rm k = -1 ∨ ∃ r, r < i ∧ rm k = nI r)
theorem fw_loop {w N : Nat} {b b' : Nat → Int64} {rm ex : Nat → Int32} (hw : w ≤ 8) (hN : N ≤ 65536) (hR : ∀ k, k < w → b k = b' k) (hr : kRel w N rm ex) : ∀ (u i : Nat) (x : Int32), i ≤ w → w - i < u → (x = -1 ∨ ∃ c, c < w ∧ x = nI c ∧ rm c = -1) → ∃ y, f_X1_firstWithoutRoom_4 u b (nI w) rm x (nI i) = some y ∧ f_X3_nextWish_4 w u b' (nI w) ex x (nI i) = some y ∧ ((y = -1 ∧ x = -1 ∧ ∀ k, i ≤ k → k < w → ¬ rm k = -1) ∨ ∃ c, c < w ∧ y = nI c ∧ rm c = -1) := by
  intro u
  induction u with
  | zero => intro i x hi hf; omega
  | succ u ih =>
    intro i x hi hf hx
    by_cases h : w ≤ i
    · have h' : nI w ≤ nI i := (q_le (by omega) (by omega)).mpr h
      refine ⟨x, ?_, ?_, ?_⟩
      · simp only [f_X1_firstWithoutRoom_4, f_X0_count, Option.bind_some, if_pos h']
      · simp only [f_X3_nextWish_4, if_pos h']
      · rcases hx with hx | hx
        · exact Or.inl ⟨hx, hx, fun k h1 h2 => by omega⟩
        · exact Or.inr hx
    · have h' : ¬ nI w ≤ nI i := t49 (by omega) (by omega) h
      have es : nI i + 1 = nI (i + 1) := q_s i
      have b1 : ix (nI i) w := q_ix (by omega) (by omega)
      have b8 : ix (nI i) 8 := q_ix (by omega) (by omega)
      have b11 : ix (nI i) 11 := q_ix (by omega) (by omega)
      have c1 : (nI i).toNatClampNeg = i := q_cl (by omega)
      obtain ⟨er, hv⟩ := hr i (by omega)
      rcases hv with hv | ⟨r, hr9, hv⟩
      · have hv3 : ex i = -1 := by rw [← er]; exact hv
        rcases hx with hx | ⟨c, hc, hx, hg⟩
        · obtain ⟨y, g1, g3, g⟩ := ih (i + 1) (nI i) (by omega) (by omega) (Or.inr ⟨i, by omega, rfl, hv⟩)
          refine ⟨y, ?_, ?_, ?_⟩
          · simp only [f_X1_firstWithoutRoom_4, f_X0_count, Option.bind_some, if_neg h', if_pos b11, c1, hv, tm1, if_true, hx, es, g1]
          · simp only [f_X3_nextWish_4, if_neg h', if_pos b1, c1, hv3, if_neg nm1, hx, lm1, if_true, es, g3]
          · rcases g with ⟨-, g, -⟩ | g
            · rw [nI_m1 (show i ≤ 65536 by omega)] at g; exact absurd g id
            · exact Or.inr g
        · have d1 : ix (nI c) w := q_ix (by omega) (by omega)
          have d8 : ix (nI c) 8 := q_ix (by omega) (by omega)
          have d2 : (nI c).toNatClampNeg = c := q_cl (by omega)
          have z1 := hR c hc
          have y1 := hR i (by omega)
          by_cases h5 : b' c ≤ b' i
          · obtain ⟨y, g1, g3, g⟩ := ih (i + 1) (nI c) (by omega) (by omega) (Or.inr ⟨c, hc, rfl, hg⟩)
            refine ⟨y, ?_, ?_, ?_⟩
            · simp only [f_X1_firstWithoutRoom_4, f_X0_count, Option.bind_some, if_neg h', if_pos b11, c1, hv, tm1, if_true, hx, nI_m1 (show c ≤ 65536 by omega), if_false, begin0 (show w ≤ 11 by omega) b1, begin0 (show w ≤ 11 by omega) d1, d2, z1, y1, if_pos h5, es, g1]
            · simp only [f_X3_nextWish_4, if_neg h', if_pos b1, c1, hv3, if_neg nm1, hx, nI_lt0 (show c ≤ 65536 by omega), if_false, if_pos b8, if_pos d8, d2, if_pos h5, es, g3]
            · rcases g with ⟨-, g, -⟩ | g
              · rw [nI_m1 (show c ≤ 65536 by omega)] at g; exact absurd g id
              · exact Or.inr g
          · obtain ⟨y, g1, g3, g⟩ := ih (i + 1) (nI i) (by omega) (by omega) (Or.inr ⟨i, by omega, rfl, hv⟩)
            refine ⟨y, ?_, ?_, ?_⟩
            · simp only [f_X1_firstWithoutRoom_4, f_X0_count, Option.bind_some, if_neg h', if_pos b11, c1, hv, tm1, if_true, hx, nI_m1 (show c ≤ 65536 by omega), if_false, begin0 (show w ≤ 11 by omega) b1, begin0 (show w ≤ 11 by omega) d1, d2, z1, y1, if_neg h5, es, g1]
            · simp only [f_X3_nextWish_4, if_neg h', if_pos b1, c1, hv3, if_neg nm1, hx, nI_lt0 (show c ≤ 65536 by omega), if_false, if_pos b8, if_pos d8, d2, if_neg h5, es, g3]
            · rcases g with ⟨-, g, -⟩ | g
              · rw [nI_m1 (show i ≤ 65536 by omega)] at g; exact absurd g id
              · exact Or.inr g
      · have hv3 : ex i = nI r := by rw [← er]; exact hv
        have hm : ¬ rm i = -1 := by rw [hv, nI_m1 (show r ≤ 65536 by omega)]; exact id
        have h0 : (0 : Int32) ≤ ex i := by rw [hv3]; exact Int32.not_lt.mp (by rw [nI_lt0 (show r ≤ 65536 by omega)]; exact id)
        obtain ⟨y, g1, g3, g⟩ := ih (i + 1) x (by omega) (by omega) hx
        refine ⟨y, ?_, ?_, ?_⟩
        · simp only [f_X1_firstWithoutRoom_4, f_X0_count, Option.bind_some, if_neg h', if_pos b11, c1, if_neg hm, es, g1]
        · simp only [f_X3_nextWish_4, if_neg h', if_pos b1, c1, if_pos h0, es, g3]
        · rcases g with ⟨g, g', g''⟩ | g
          · refine Or.inl ⟨g, g', fun k h1 h2 => ?_⟩
            by_cases e9 : k = i
            · rw [e9]; exact hm
            · exact g'' k (by omega) h2
          · exact Or.inr g
/-- a room with a wish that meets -/
abbrev kUsd (w : Nat) (b e : Nat → Int64) (rm : Nat → Int32) (k r : Nat) : Prop := ∃ j, j < w ∧ rm j = nI r ∧ kMe b e k j
theorem s56 {s : Nat} (hs : s < 256) : ∀ (u r : Nat), r ≤ 8 → 8 - r < u → ∃ q, r ≤ q ∧ q ≤ 8 ∧ f_X1_smallestRoom_56 u (nI s) (nI r) = some (nI q) ∧ (q < 8 → ¬ s.testBit q = true) ∧ ∀ p, r ≤ p → p < q → s.testBit p = true := by
  intro u
  induction u with
  | zero => intro r hr hf; omega
  | succ u ih =>
    intro r hr hf
    by_cases h : 8 ≤ r
    · have h' : (8 : Int32) ≤ nI r := (q_le (a := 8) (by omega) (by omega)).mpr h
      refine ⟨r, Nat.le_refl _, hr, ?_, fun h1 => by omega, fun p h1 h2 => by omega⟩
      simp only [f_X1_smallestRoom_56, if_pos h']
    · have h' : ¬ (8 : Int32) ≤ nI r := t49 (a := 8) (by omega) (by omega) h
      by_cases h1 : s.testBit r = true
      · have h1' := (bit1 hs (show r < 8 by omega)).mpr h1
        obtain ⟨q, g1, g2, g3, g4, g5⟩ := ih (r + 1) (by omega) (by omega)
        refine ⟨q, by omega, g2, ?_, g4, fun p h2 h3 => ?_⟩
        · simp only [f_X1_smallestRoom_56, if_neg h', if_pos h1', q_s, g3]
        · by_cases e9 : p = r
          · rw [e9]; exact h1
          · exact g5 p (by omega) h3
      · have h1' := fun z => h1 ((bit1 hs (show r < 8 by omega)).mp z)
        refine ⟨r, Nat.le_refl _, hr, ?_, fun _ => h1, fun p h2 h3 => by omega⟩
        simp only [f_X1_smallestRoom_56, if_neg h', if_neg h1']
theorem sr_loop {w k : Nat} {b e : Nat → Int64} {rm ex : Nat → Int32} (hw : w ≤ 8) (hk : k < w) (hr : kRel w 8 rm ex) : ∀ (u i s : Nat), i ≤ w → w - i < u → s < 256 → (∀ r, r < 8 → (s.testBit r = true ↔ ∃ j, j < i ∧ rm j = nI r ∧ kMe b e k j)) → ∃ s', s' < 256 ∧ f_X1_smallestRoom_4 u b e (nI w) rm (nI k) (nI s) (nI i) = f_X1_smallestRoom_56 24 (nI s') 0 ∧ ∀ r, r < 8 → (s'.testBit r = true ↔ kUsd w b e rm k r) := by
  intro u
  induction u with
  | zero => intro i s hi hf; omega
  | succ u ih =>
    intro i s hi hf hs hb
    by_cases h : w ≤ i
    · have h' : nI w ≤ nI i := (q_le (by omega) (by omega)).mpr h
      refine ⟨s, hs, ?_, fun r h1 => ?_⟩
      · simp only [f_X1_smallestRoom_4, f_X0_count, Option.bind_some, if_pos h']
      · rw [hb r h1, show i = w by omega]
    · have h' : ¬ nI w ≤ nI i := t49 (by omega) (by omega) h
      have es : nI i + 1 = nI (i + 1) := q_s i
      have b11 : ix (nI i) 11 := q_ix (by omega) (by omega)
      have b1 : ix (nI k) w := q_ix (by omega) (by omega)
      have b2 : ix (nI i) w := q_ix (by omega) (by omega)
      have c1 : (nI i).toNatClampNeg = i := q_cl (by omega)
      have c2 : (nI k).toNatClampNeg = k := q_cl (by omega)
      have skip : (rm i = -1 ∨ ¬ kMe b e k i) → ∀ r, r < 8 → (s.testBit r = true ↔ ∃ j, j < i + 1 ∧ rm j = nI r ∧ kMe b e k j) := fun hno r h1 => by
        rw [hb r h1]
        constructor
        · intro ⟨j, h2, h3⟩; exact ⟨j, by omega, h3⟩
        · intro ⟨j, h2, h3, h4⟩
          by_cases e9 : j = i
          · rw [e9] at h3 h4
            rcases hno with hno | hno
            · rw [hno] at h3
              have := nI_m1 (n := r) (by omega)
              exact absurd h3.symm (by rw [this]; exact id)
            · exact absurd h4 hno
          · exact ⟨j, by omega, h3, h4⟩
      rcases (hr i (by omega)).2 with hv | ⟨q, hq, hv⟩
      · obtain ⟨s', g1, g2, g3⟩ := ih (i + 1) s (by omega) (by omega) hs (skip (Or.inl hv))
        refine ⟨s', g1, ?_, g3⟩
        simp only [f_X1_smallestRoom_4, f_X0_count, Option.bind_some, if_neg h', if_pos b11, c1, hv, tm1, if_true, es, g2]
      · have hm : ¬ nI q = -1 := by rw [nI_m1 (show q ≤ 65536 by omega)]; exact id
        by_cases h2 : b k < e i ∧ b i < e k
        · obtain ⟨eo, ho, -⟩ := sb_2 s hs q hq
          obtain ⟨s', g1, g2, g3⟩ := ih (i + 1) (s ||| 2 ^ q) (by omega) (by omega) ho (fun r h1 => by
            rw [bito hs hq h1, hb r h1]
            constructor
            · intro z
              rcases z with ⟨j, h3, h4⟩ | z
              · exact ⟨j, by omega, h4⟩
              · exact ⟨i, by omega, by rw [z]; exact hv, h2⟩
            · intro ⟨j, h3, h4, h5⟩
              by_cases e9 : j = i
              · rw [e9, hv] at h4
                exact Or.inr ((q_eq (by omega) (by omega)).mp h4).symm
              · exact Or.inl ⟨j, by omega, h4, h5⟩)
          refine ⟨s', g1, ?_, g3⟩
          simp only [f_X1_smallestRoom_4, f_X0_count, Option.bind_some, if_neg h', if_pos b11, c1, c2, hv, if_neg hm, doMeet (show w ≤ 11 by omega) b1 b2, if_pos h2, t10, if_false, eo, es, g2]
        · obtain ⟨s', g1, g2, g3⟩ := ih (i + 1) s (by omega) (by omega) hs (skip (Or.inr h2))
          refine ⟨s', g1, ?_, g3⟩
          simp only [f_X1_smallestRoom_4, f_X0_count, Option.bind_some, if_neg h', if_pos b11, c1, c2, hv, if_neg hm, doMeet (show w ≤ 11 by omega) b1 b2, if_neg h2, if_true, es, g2]
theorem sr_eq {w k i : Nat} {b e : Nat → Int64} {rm ex : Nat → Int32} (hw : w ≤ 8) (hk : k < w) (hi : i < 8) (hr : kRel w i rm ex) : ∃ q, q ≤ i ∧ f_X1_smallestRoom b e (nI w) rm (nI k) = some (nI q) ∧ ¬ kUsd w b e rm k q ∧ ∀ p, p < q → kUsd w b e rm k p := by
  have hr8 : kRel w 8 rm ex := fun k hk => by
    obtain ⟨a1, a2⟩ := hr k hk
    refine ⟨a1, ?_⟩
    rcases a2 with a2 | ⟨r, a2, a3⟩
    · exact Or.inl a2
    · exact Or.inr ⟨r, by omega, a3⟩
  obtain ⟨s, hs, e1, hb⟩ := sr_loop (b := b) (e := e) hw hk hr8 24 0 0 (Nat.zero_le _) (by omega) (by omega) (fun r h1 => by
    rw [Nat.zero_testBit]
    exact ⟨fun z => absurd z (by decide), fun ⟨j, h2, _⟩ => by omega⟩)
  obtain ⟨q, -, h2, e3, h4, h5⟩ := s56 hs 24 0 (by omega) (by omega)
  have lim : ∀ p, kUsd w b e rm k p → p < 65536 → p < i := fun p ⟨j, h6, h7, h8⟩ h9 => by
    rcases (hr j h6).2 with h10 | ⟨r, h10, h11⟩
    · rw [h10] at h7
      have := nI_m1 (n := p) (by omega)
      exact absurd h7.symm (by rw [this]; exact id)
    · rw [h11] at h7
      have := (q_eq (by omega) (by omega)).mp h7
      omega
  have hqi : q ≤ i := by
    by_cases h6 : q ≤ i
    · exact h6
    · have := lim i ((hb i hi).mp (h5 i (Nat.zero_le _) (by omega))) (by omega)
      omega
  refine ⟨q, hqi, ?_, fun z => h4 (by omega) ((hb q (by omega)).mpr z), fun p hp => (hb p (by omega)).mp (h5 p (Nat.zero_le _) hp)⟩
  show f_X1_smallestRoom_4 24 b e (nI w) rm (nI k) (nI 0) (nI 0) = _
  rw [e1]; exact e3
theorem r42 {w k R : Nat} {b e : Nat → Int64} {ex : Nat → Int32} {K : (Nat → Int64) → (Nat → Int64) → Int32 → (Nat → Int32) → Int32 → Option (Nat → Int32)} (hw : w ≤ 8) (hk : k < w) (hR : R ≤ 8) (h1 : ¬ kUsd w b e ex k R) (h2 : ∀ p, p < R → kUsd w b e ex k p) : ∀ (u r j : Nat), r ≤ R → j ≤ w → (R - r) * 9 + (w - j) < u → (∀ i, i < j → ¬ (ex i = nI r ∧ kMe b e k i)) → f_X3_roomsNow_42 K u b e (nI w) ex (nI k) (nI r) (nI j) = (f_X3_nextWish w b (nI w) (upd ex k (nI R))).bind fun y => K b e (nI w) (upd ex k (nI R)) y := by
  intro u
  induction u with
  | zero => intro r j hr hj hf; omega
  | succ u ih =>
    intro r j hr hj hf hno
    have ew : (nI w).toNatClampNeg = w := q_cl (by omega)
    have c1 : (nI k).toNatClampNeg = k := q_cl (by omega)
    have b1 : ix (nI k) w := q_ix (by omega) (by omega)
    by_cases h : w ≤ j
    · have h' : nI w ≤ nI j := (q_le (by omega) (by omega)).mpr h
      have er : r = R := by
        by_cases h3 : r < R
        · obtain ⟨i, h4, h5, h6⟩ := h2 r h3
          exact absurd ⟨h5, h6⟩ (hno i (by omega))
        · omega
      rw [er]
      simp only [f_X3_roomsNow_42, if_pos h', ew, if_pos b1, c1]
    · have h' : ¬ nI w ≤ nI j := t49 (by omega) (by omega) h
      have es : nI j + 1 = nI (j + 1) := q_s j
      have er : nI r + 1 = nI (r + 1) := q_s r
      have b2 : ix (nI j) w := q_ix (by omega) (by omega)
      have b8 : ix (nI j) 8 := q_ix (by omega) (by omega)
      have b9 : ix (nI k) 8 := q_ix (by omega) (by omega)
      have c2 : (nI j).toNatClampNeg = j := q_cl (by omega)
      have next : ¬ (ex j = nI r ∧ kMe b e k j) → ∀ i, i < j + 1 → ¬ (ex i = nI r ∧ kMe b e k i) := fun h3 i h4 => by
        by_cases e9 : i = j
        · rw [e9]; exact h3
        · exact hno i (by omega)
      by_cases h3 : ex j = nI r
      · by_cases h4 : b k < e j ∧ b j < e k
        · have hlt : r < R := by
            by_cases e9 : r = R
            · rw [e9] at h3; exact absurd ⟨j, by omega, h3, h4⟩ h1
            · omega
          have g := ih (r + 1) 0 (by omega) (Nat.zero_le _) (by omega) (fun i h5 => by omega)
          have e0 : ((-1 : Int32) + 1) = nI 0 := by decide
          simp only [f_X3_roomsNow_42, if_neg h', ew, if_pos b2, c2, if_pos h3, f_X3_wishesMeet, if_pos b8, if_pos b9, meet3, c1, if_pos h4, Option.bind_some, t10, if_false, er, e0, g]
        · have g := ih r (j + 1) hr (by omega) (by omega) (next (fun z => h4 z.2))
          simp only [f_X3_roomsNow_42, if_neg h', ew, if_pos b2, c2, if_pos h3, f_X3_wishesMeet, if_pos b8, if_pos b9, meet3, c1, if_neg h4, Option.bind_some, if_true, es, g]
      · have g := ih r (j + 1) hr (by omega) (by omega) (next (fun z => h3 z.1))
        simp only [f_X3_roomsNow_42, if_neg h', ew, if_pos b2, c2, if_neg h3, es, g]
theorem fr_stay {w : Nat} {b e : Nat → Int64} {rm : Nat → Int32} (hw : w ≤ 8) (h0 : f_X1_firstWithoutRoom b (nI w) rm = some (-1)) : ∀ (u i : Nat), i ≤ w → w - i < u → f_X1_findRooms_23 u b e (nI w) rm (nI i) = some rm := by
  intro u
  induction u with
  | zero => intro i hi hf; omega
  | succ u ih =>
    intro i hi hf
    by_cases h : w ≤ i
    · have h' : nI w ≤ nI i := (q_le (by omega) (by omega)).mpr h
      simp only [f_X1_findRooms_23, f_X0_count, Option.bind_some, if_pos h']
    · have h' : ¬ nI w ≤ nI i := t49 (by omega) (by omega) h
      simp only [f_X1_findRooms_23, f_X0_count, Option.bind_some, if_neg h', h0, if_true, q_s, ih (i + 1) (by omega) (by omega)]
theorem kUsd_congr {w k r : Nat} {b e b' e' : Nat → Int64} {rm ex : Nat → Int32} (hk : k < w) (hR : ∀ k, k < w → b k = b' k ∧ e k = e' k) (hr : ∀ k, k < w → rm k = ex k) : kUsd w b e rm k r ↔ kUsd w b' e' ex k r := by
  obtain ⟨y1, y2⟩ := hR k hk
  constructor
  · intro ⟨j, h1, h2, h3, h4⟩
    obtain ⟨z1, z2⟩ := hR j h1
    exact ⟨j, h1, by rw [← hr j h1]; exact h2, by rw [← y1, ← z2]; exact h3, by rw [← z1, ← y2]; exact h4⟩
  · intro ⟨j, h1, h2, h3, h4⟩
    obtain ⟨z1, z2⟩ := hR j h1
    exact ⟨j, h1, by rw [hr j h1]; exact h2, by rw [y1, z2]; exact h3, by rw [z1, y2]; exact h4⟩
theorem rooms_loop {w : Nat} {b e b' e' : Nat → Int64} (hw : w ≤ 8) (hR : ∀ k, k < w → b k = b' k ∧ e k = e' k) : ∀ (u i : Nat) (rm ex : Nat → Int32), i ≤ w → w - i < u → kRel w i rm ex → kCt (fun k => decide (¬ rm k = -1)) w = i → ∃ rm' ex', f_X1_findRooms_23 u b e (nI w) rm (nI i) = some rm' ∧ ((f_X3_nextWish w b' (nI w) ex).bind fun y => f_X3_roomsNow_33 u b' e' (nI w) ex y) = some ex' ∧ ∀ k, k < w → rm' k = ex' k ∧ ∃ r, r < 8 ∧ rm' k = nI r := by
  intro u
  induction u with
  | zero => intro i rm ex hi hf; omega
  | succ u ih =>
    intro i rm ex hi hf hr hct
    obtain ⟨y, g1, g3, g⟩ := fw_loop (b := b) (b' := b') hw (by omega) (fun k hk => (hR k hk).1) hr 24 0 (-1) (Nat.zero_le _) (by omega) (Or.inl rfl)
    have g1' : f_X1_firstWithoutRoom b (nI w) rm = some y := g1
    have g3' : f_X3_nextWish w b' (nI w) ex = some y := g3
    rcases g with ⟨hy, -, hall⟩ | ⟨c, hc, hy, hg⟩
    · rw [hy] at g1' g3'
      refine ⟨rm, ex, fr_stay hw g1' (u + 1) i hi hf, ?_, fun k hk => ?_⟩
      · simp only [g3', Option.bind_some, f_X3_roomsNow_33, lm1, if_true]
      · obtain ⟨a1, a2⟩ := hr k hk
        refine ⟨a1, ?_⟩
        rcases a2 with a2 | ⟨r, a2, a3⟩
        · exact absurd a2 (hall k (Nat.zero_le _) hk)
        · exact ⟨r, by omega, a3⟩
    · rw [hy] at g1' g3'
      have hlt : i < w := by
        by_cases h : w ≤ i
        · have := kCt_full w (show kCt (fun k => decide (¬ rm k = -1)) w = w by omega) c hc
          exact absurd hg (of_decide_eq_true this)
        · omega
      have h' : ¬ nI w ≤ nI i := t49 (by omega) (by omega) (by omega)
      have es : nI i + 1 = nI (i + 1) := q_s i
      have b11 : ix (nI c) 11 := q_ix (by omega) (by omega)
      have c1 : (nI c).toNatClampNeg = c := q_cl (by omega)
      obtain ⟨q, hq, e5, n1, n2⟩ := sr_eq (b := b) (e := e) hw hc (by omega) hr
      have cg : ∀ {p}, kUsd w b e rm c p ↔ kUsd w b' e' ex c p := fun {p} => kUsd_congr hc hR (fun k hk => (hr k hk).1)
      have e6 := r42 (K := f_X3_roomsNow_33 u) hw hc (show q ≤ 8 by omega) (fun z => n1 (cg.mpr z)) (fun p hp => cg.mp (n2 p hp)) 120 0 0 (Nat.zero_le _) (Nat.zero_le _) (by omega) (fun i h => by omega)
      have e6' : f_X3_roomsNow_42 (f_X3_roomsNow_33 u) 120 b' e' (nI w) ex (nI c) 0 0 = (f_X3_nextWish w b' (nI w) (upd ex c (nI q))).bind fun y => f_X3_roomsNow_33 u b' e' (nI w) (upd ex c (nI q)) y := e6
      have hqm : ¬ nI q = -1 := by rw [nI_m1 (show q ≤ 65536 by omega)]; exact id
      have hr2 : kRel w (i + 1) (upd rm c (nI q)) (upd ex c (nI q)) := fun k hk => by
        rw [updI_at, updI_at]
        by_cases e9 : k = c
        · rw [if_pos e9, if_pos e9]; exact ⟨rfl, Or.inr ⟨q, by omega, rfl⟩⟩
        · rw [if_neg e9, if_neg e9]
          obtain ⟨a1, a2⟩ := hr k hk
          refine ⟨a1, ?_⟩
          rcases a2 with a2 | ⟨r, a2, a3⟩
          · exact Or.inl a2
          · exact Or.inr ⟨r, by omega, a3⟩
      have hct2 : kCt (fun k => decide (¬ upd rm c (nI q) k = -1)) w = i + 1 := by
        rw [← hct]
        refine kCt_more (c := c) (decide_eq_false (fun z => z hg)) (decide_eq_true (by rw [updI_at, if_pos rfl]; exact hqm)) w (fun j hj hn => ?_) hc
        show decide _ = decide _
        rw [updI_at, if_neg hn]
      obtain ⟨rm', ex', k1, k3, k4⟩ := ih (i + 1) _ _ (by omega) (by omega) hr2 hct2
      refine ⟨rm', ex', ?_, ?_, k4⟩
      · simp only [f_X1_findRooms_23, f_X0_count, Option.bind_some, if_neg h', g1', nI_m1 (show c ≤ 65536 by omega), if_false, e5, if_pos b11, c1, es, k1]
      · simp only [g3', Option.bind_some, f_X3_roomsNow_33, nI_lt0 (show c ≤ 65536 by omega), if_false, e6', k3]
theorem fr2_loop {b e : Nat → Int64} {wc : Int32} : ∀ (u i : Nat) (rm : Nat → Int32), i ≤ 11 → 11 - i < u → ∃ rm', f_X1_findRooms_2 u b e wc rm (nI i) = f_X1_findRooms_23 24 b e wc rm' 0 ∧ ∀ k, (k < i → rm' k = rm k) ∧ (i ≤ k → k < 11 → rm' k = -1) := by
  intro u
  induction u with
  | zero => intro i rm hi hf; omega
  | succ u ih =>
    intro i rm hi hf
    by_cases h : 11 ≤ i
    · have h' : (11 : Int32) ≤ nI i := (q_le (a := 11) (by omega) (by omega)).mpr h
      refine ⟨rm, ?_, fun k => ⟨fun _ => rfl, fun h1 h2 => by omega⟩⟩
      simp only [f_X1_findRooms_2, if_pos h']
    · have h' : ¬ (11 : Int32) ≤ nI i := t49 (a := 11) (by omega) (by omega) h
      have b11 : ix (nI i) 11 := q_ix (by omega) (by omega)
      have c1 : (nI i).toNatClampNeg = i := q_cl (by omega)
      obtain ⟨rm', g1, g2⟩ := ih (i + 1) (upd rm i (-1)) (by omega) (by omega)
      refine ⟨rm', ?_, fun k => ⟨fun h1 => ?_, fun h1 h2 => ?_⟩⟩
      · simp only [f_X1_findRooms_2, if_neg h', if_pos b11, c1, q_s, g1]
      · rw [(g2 k).1 (by omega), updI_at, if_neg (by omega)]
      · by_cases e9 : k = i
        · rw [(g2 k).1 (by omega), updI_at, if_pos e9]
        · exact (g2 k).2 (by omega) h2
theorem rn9_loop {b e : Nat → Int64} {w : Nat} (hw : w ≤ 8) : ∀ (u i : Nat) (ex : Nat → Int32), i ≤ w → w - i < u → ∃ ex', f_X3_roomsNow_9 u b e (nI w) ex (nI i) = ((f_X3_nextWish w b (nI w) ex').bind fun y => f_X3_roomsNow_33 24 b e (nI w) ex' y) ∧ ∀ k, (k < i → ex' k = ex k) ∧ (i ≤ k → k < w → ex' k = -1) := by
  intro u
  induction u with
  | zero => intro i ex hi hf; omega
  | succ u ih =>
    intro i ex hi hf
    have ew : (nI w).toNatClampNeg = w := q_cl (by omega)
    by_cases h : w ≤ i
    · have h' : nI w ≤ nI i := (q_le (by omega) (by omega)).mpr h
      refine ⟨ex, ?_, fun k => ⟨fun _ => rfl, fun h1 h2 => by omega⟩⟩
      simp only [f_X3_roomsNow_9, if_pos h', ew]
    · have h' : ¬ nI w ≤ nI i := t49 (by omega) (by omega) h
      have b2 : ix (nI i) w := q_ix (by omega) (by omega)
      have c1 : (nI i).toNatClampNeg = i := q_cl (by omega)
      obtain ⟨ex', g1, g2⟩ := ih (i + 1) (upd ex i (-1)) (by omega) (by omega)
      refine ⟨ex', ?_, fun k => ⟨fun h1 => ?_, fun h1 h2 => ?_⟩⟩
      · simp only [f_X3_roomsNow_9, if_neg h', ew, if_pos b2, c1, q_s, g1]
      · rw [(g2 k).1 (by omega), updI_at, if_neg (by omega)]
      · by_cases e9 : k = i
        · rw [(g2 k).1 (by omega), updI_at, if_pos e9]
        · exact (g2 k).2 (by omega) h2
theorem kCt_none {p : Nat → Bool} : ∀ m, (∀ j, j < m → p j = false) → kCt p m = 0 := by
  intro m
  induction m with
  | zero => intro h; rfl
  | succ m ih => intro h; rw [kCt, ih (fun j hj => h j (by omega)), h m (by omega)]; rfl
/-- the rooms, on both sides -/
theorem rooms_both {w : Nat} {wb we mwb mwe : Nat → Int64} {rm : Nat → Int32} (hW : kWish w wb we mwb mwe) (hw : w ≤ 8) : ∃ rm' ex', f_X1_findRooms wb we (nI w) rm = some rm' ∧ f_X3_roomsNow mwb mwe (nI w) = some ex' ∧ ∀ k, k < w → rm' k = ex' k ∧ ∃ r, r < 8 ∧ rm' k = nI r := by
  obtain ⟨rm1, g1, h1⟩ := fr2_loop (b := wb) (e := we) (wc := nI w) 24 0 rm (by omega) (by omega)
  obtain ⟨ex1, g3, h3⟩ := rn9_loop (b := mwb) (e := mwe) hw 24 0 (fun _ => 0) (Nat.zero_le _) (by omega)
  obtain ⟨rm', ex', k1, k3, k4⟩ := rooms_loop hw hW.bo 24 0 rm1 ex1 (Nat.zero_le _) (by omega) (fun k hk => by
    have a1 := (h1 k).2 (Nat.zero_le _) (by omega)
    have a3 := (h3 k).2 (Nat.zero_le _) hk
    exact ⟨by rw [a1, a3], Or.inl a1⟩) (kCt_none w (fun j hj => decide_eq_false (fun z => z ((h1 j).2 (Nat.zero_le _) (by omega)))))
  have a17 : ix (nI w) 17 := q_ix (by omega) (by omega)
  refine ⟨rm', ex', g1.trans k1, ?_, k4⟩
  unfold f_X3_roomsNow
  rw [if_pos a17]
  exact g3.trans k3
theorem rc_loop {w : Nat} {rm ex : Nat → Int32} (hw : w ≤ 8) (h : ∀ k, k < w → rm k = ex k) : ∀ (u i : Nat) (a : Int32), i ≤ w → w - i < u → ∃ z, f_X1_roomCount_4 u (nI w) rm a (nI i) = some z ∧ f_X3_roomsOf_13 u (nI w) ex a (nI w) (nI i) = some z := by
  intro u
  induction u with
  | zero => intro i a hi hf; omega
  | succ u ih =>
    intro i a hi hf
    have ew : (nI w).toNatClampNeg = w := q_cl (by omega)
    by_cases h1 : w ≤ i
    · have h' : nI w ≤ nI i := (q_le (by omega) (by omega)).mpr h1
      refine ⟨a, ?_, ?_⟩
      · simp only [f_X1_roomCount_4, f_X0_count, Option.bind_some, if_pos h']
      · simp only [f_X3_roomsOf_13, if_pos h']
    · have h' : ¬ nI w ≤ nI i := t49 (by omega) (by omega) h1
      have b2 : ix (nI i) w := q_ix (by omega) (by omega)
      have b11 : ix (nI i) 11 := q_ix (by omega) (by omega)
      have c1 : (nI i).toNatClampNeg = i := q_cl (by omega)
      obtain ⟨z, g1, g3⟩ := ih (i + 1) (if a < ex i + 1 then ex i + 1 else a) (by omega) (by omega)
      refine ⟨z, ?_, ?_⟩
      · simp only [f_X1_roomCount_4, f_X0_count, Option.bind_some, if_neg h', if_pos b11, c1, h i (by omega), q_s, g1]
      · simp only [f_X3_roomsOf_13, if_neg h', ew, if_pos b2, c1, q_s, g3]
theorem count_both {w : Nat} {mwb mwe : Nat → Int64} {rm ex : Nat → Int32} (hw : w ≤ 8) (h : ∀ k, k < w → rm k = ex k) (e3 : f_X3_roomsNow mwb mwe (nI w) = some ex) : ∃ z, f_X1_roomCount (nI w) rm = some z ∧ f_X3_roomsOf mwb mwe (nI w) = some z := by
  obtain ⟨z, g1, g3⟩ := rc_loop hw h 24 0 0 (Nat.zero_le _) (by omega)
  have ew : Int32.ofNat (nI w).toNatClampNeg = nI w := by rw [q_cl (show w ≤ 65536 by omega)]; rfl
  refine ⟨z, g1, ?_⟩
  simp only [f_X3_roomsOf, e3, Option.bind_some, ew]
  exact g3
abbrev kObR (A : Option (Int32 × (Nat → Int32) × Int64)) (B : Option (Int32 × Int32)) : Prop := ∃ r r', A = some r ∧ B = some r' ∧ r'.2 = r.1 ∧ (r.1 = 0 → r.2.2 = r'.1.toInt64)
theorem ob_room {w : Nat} {wb we mwb mwe : Nat → Int64} {rm : Nat → Int32} {on : Int64} {p0 : Int32} (hW : kWish w wb we mwb mwe) (hw : w ≤ 8) : kObR (f_L_room wb we (nI w) rm on p0) (f_X3_room mwb mwe (nI w) p0) := by
  have hN : w ≤ 65536 := by omega
  by_cases h0 : ix p0 w
  · obtain ⟨rm', ex', e1, e3, hk⟩ := rooms_both (rm := rm) hW hw
    have ew : (nI w).toNatClampNeg = w := q_cl hN
    have a11 : ix p0 11 := ix_mono h0 (by omega)
    simp only [kObR, f_L_room, fx_X1_room, f_X1_room, numIn hN, if_pos h0, xb_n, Option.bind_some, e1, if_pos a11, f_X3_room, isWish3 hN, t10, if_false, f_X3_room_14, thrown3', if_true, e3, ew]
    exact ⟨_, _, rfl, rfl, rfl, fun _ => by rw [(hk _ (cl_lt h0)).1]⟩
  · simp only [kObR, f_L_room, fx_X1_room, numIn hN, if_neg h0, xb_s, u12, if_true, f_X3_room, isWish3 hN, Option.bind_some, f_X3_room_14, thrown3', t10, if_false]
    exact ⟨_, _, rfl, rfl, rfl, fun z => no1 z⟩
theorem ob_rooms {w : Nat} {wb we mwb mwe : Nat → Int64} {rm : Nat → Int32} (hW : kWish w wb we mwb mwe) (hw : w ≤ 8) : ∃ r r', f_X1_rooms wb we (nI w) rm = some r ∧ f_X3_rooms mwb mwe (nI w) = some r' ∧ r.1 = r'.1 := by
  obtain ⟨rm', ex', e1, e3, hk⟩ := rooms_both (rm := rm) hW hw
  obtain ⟨z, g1, g3⟩ := count_both hw (fun k h => (hk k h).1) e3
  simp only [f_X1_rooms, e1, g1, f_X3_rooms, g3, Option.bind_some]
  exact ⟨_, _, rfl, rfl, rfl⟩
end
-- 61.pure.lean.txt
section
/-! soundness -/
theorem over0 {so : Nat → Int32} {n : Nat} (hn : n ≤ 11) {p : Int32} (h : ix p n) : f_X0_isOver so (nI n) p = some (if so p.toNatClampNeg = 0 then 0 else 1) := by
  by_cases h1 : so p.toNatClampNeg = 0
  · simp only [f_X0_isOver, isIn0 (show n ≤ 65536 by omega), if_pos h, Option.bind_some, t10, if_false, if_pos (ix_mono h hn), if_pos h1]
  · simp only [f_X0_isOver, isIn0 (show n ≤ 65536 by omega), if_pos h, Option.bind_some, t10, if_false, if_pos (ix_mono h hn), if_neg h1]
theorem so_in {fr un : Int64} {n : Nat} {sb se : Nat → Int64} {so : Nat → Int32} {mbe men : Nat → Int64} {mov : Nat → Int32} {K1 K3 : Int64 → Int64 → (Nat → Int64) → (Nat → Int64) → (Nat → Int32) → Int32 → Int32 → Option Int32} (hS : kSpans fr un n sb se so mbe men mov) (hn : n ≤ 10) {k : Nat} (hk : k < n) : ∀ (u j : Nat), j ≤ k → k - j < u → (f_X1_isSoundInSpans_40 K1 u fr un sb se so (nI n) (nI k) (nI j) = some 0 ∧ f_X3_areSpans_33 K3 u fr un mbe men mov (nI n) (nI k) (nI j) = some 0) ∨ (f_X1_isSoundInSpans_40 K1 u fr un sb se so (nI n) (nI k) (nI j) = K1 fr un sb se so (nI n) (nI (k + 1)) ∧ f_X3_areSpans_33 K3 u fr un mbe men mov (nI n) (nI k) (nI j) = K3 fr un mbe men mov (nI n) (nI (k + 1))) := by
  intro u
  induction u with
  | zero => intro j hj hf; omega
  | succ u ih =>
    intro j hj hf
    have es : nI j + 1 = nI (j + 1) := q_s j
    have ek : nI k + 1 = nI (k + 1) := q_s k
    by_cases h : k ≤ j
    · have h' : nI k ≤ nI j := (q_le (by omega) (by omega)).mpr h
      refine Or.inr ⟨?_, ?_⟩
      · simp only [f_X1_isSoundInSpans_40, if_pos h', ek]
      · simp only [f_X3_areSpans_33, if_pos h', ek]
    · have h' : ¬ nI k ≤ nI j := t49 (by omega) (by omega) h
      have a1 : ix (nI k) 10 := q_ix (by omega) (by omega)
      have a2 : ix (nI j) 10 := q_ix (by omega) (by omega)
      have b1 : ix (nI k) n := q_ix (by omega) (by omega)
      have b2 : ix (nI j) n := q_ix (by omega) (by omega)
      have c1 : (nI k).toNatClampNeg = k := q_cl (by omega)
      have c2 : (nI j).toNatClampNeg = j := q_cl (by omega)
      obtain ⟨z1, z2, z3, -⟩ := hS k hk
      obtain ⟨y1, y2, y3, -⟩ := hS j (by omega)
      have hi := ih (j + 1) (by omega) (by omega)
      by_cases hm : mbe k < men j ∧ mbe j < men k
      · by_cases o1 : mov k = 0
        · by_cases o2 : mov j = 0
          · refine Or.inl ⟨?_, ?_⟩
            · simp only [f_X1_isSoundInSpans_40, if_neg h', doMeet (show n ≤ 11 by omega) b1 b2, c1, c2, z1, z2, y1, y2, if_pos hm, Option.bind_some, t10, if_false, over0 (show n ≤ 11 by omega) b1, over0 (show n ≤ 11 by omega) b2, z3, y3, if_pos o1, if_pos o2, if_true]
            · simp only [f_X3_areSpans_33, if_neg h', if_pos a1, if_pos a2, meet3, c1, c2, if_pos hm, Option.bind_some, t10, if_false, if_pos o1, if_pos o2]
          · have e1 : f_X1_isSoundInSpans_40 K1 (u + 1) fr un sb se so (nI n) (nI k) (nI j) = f_X1_isSoundInSpans_40 K1 u fr un sb se so (nI n) (nI k) (nI (j + 1)) := by
              simp only [f_X1_isSoundInSpans_40, if_neg h', doMeet (show n ≤ 11 by omega) b1 b2, c1, c2, z1, z2, y1, y2, if_pos hm, Option.bind_some, t10, if_false, over0 (show n ≤ 11 by omega) b1, over0 (show n ≤ 11 by omega) b2, z3, y3, if_pos o1, if_neg o2, if_true, es]
            have e3 : f_X3_areSpans_33 K3 (u + 1) fr un mbe men mov (nI n) (nI k) (nI j) = f_X3_areSpans_33 K3 u fr un mbe men mov (nI n) (nI k) (nI (j + 1)) := by
              simp only [f_X3_areSpans_33, if_neg h', if_pos a1, if_pos a2, meet3, c1, c2, if_pos hm, Option.bind_some, t10, if_false, if_pos o1, if_neg o2, es]
            rw [e1, e3]; exact hi
        · have e1 : f_X1_isSoundInSpans_40 K1 (u + 1) fr un sb se so (nI n) (nI k) (nI j) = f_X1_isSoundInSpans_40 K1 u fr un sb se so (nI n) (nI k) (nI (j + 1)) := by
            simp only [f_X1_isSoundInSpans_40, if_neg h', doMeet (show n ≤ 11 by omega) b1 b2, c1, c2, z1, z2, y1, y2, if_pos hm, Option.bind_some, t10, if_false, over0 (show n ≤ 11 by omega) b1, z3, if_neg o1, es]
          have e3 : f_X3_areSpans_33 K3 (u + 1) fr un mbe men mov (nI n) (nI k) (nI j) = f_X3_areSpans_33 K3 u fr un mbe men mov (nI n) (nI k) (nI (j + 1)) := by
            simp only [f_X3_areSpans_33, if_neg h', if_pos a1, if_pos a2, meet3, c1, c2, if_pos hm, Option.bind_some, t10, if_false, if_neg o1, es]
          rw [e1, e3]; exact hi
      · have e1 : f_X1_isSoundInSpans_40 K1 (u + 1) fr un sb se so (nI n) (nI k) (nI j) = f_X1_isSoundInSpans_40 K1 u fr un sb se so (nI n) (nI k) (nI (j + 1)) := by
          simp only [f_X1_isSoundInSpans_40, if_neg h', doMeet (show n ≤ 11 by omega) b1 b2, c1, c2, z1, z2, y1, y2, if_neg hm, Option.bind_some, if_true, es]
        have e3 : f_X3_areSpans_33 K3 (u + 1) fr un mbe men mov (nI n) (nI k) (nI j) = f_X3_areSpans_33 K3 u fr un mbe men mov (nI n) (nI k) (nI (j + 1)) := by
          simp only [f_X3_areSpans_33, if_neg h', if_pos a1, if_pos a2, meet3, c1, c2, if_neg hm, Option.bind_some, if_true, es]
        rw [e1, e3]; exact hi
theorem so_loop {fr un : Int64} {n : Nat} {sb se : Nat → Int64} {so : Nat → Int32} {mbe men : Nat → Int64} {mov : Nat → Int32} (hS : kSpans fr un n sb se so mbe men mov) (hn : n ≤ 10) : ∀ (u k : Nat), k ≤ n → n - k < u → (f_X1_isSoundInSpans_2 u fr un sb se so (nI n) (nI k) = some 0 ∧ f_X3_areSpans_2 u fr un mbe men mov (nI n) (nI k) = some 0) ∨ (f_X1_isSoundInSpans_2 u fr un sb se so (nI n) (nI k) = some 1 ∧ f_X3_areSpans_2 u fr un mbe men mov (nI n) (nI k) = (f_X3_free fr un mbe men (nI n)).bind fun r2 => f_X3_areSpans_107 24 mbe men (nI n) r2 0) := by
  intro u
  induction u with
  | zero => intro k hk hf; omega
  | succ u ih =>
    intro k hk hf
    by_cases h : n ≤ k
    · have h' : nI n ≤ nI k := (q_le (by omega) (by omega)).mpr h
      refine Or.inr ⟨?_, ?_⟩
      · simp only [f_X1_isSoundInSpans_2, f_X0_count, Option.bind_some, if_pos h']
      · simp only [f_X3_areSpans_2, if_pos h']
    · have h' : ¬ nI n ≤ nI k := t49 (by omega) (by omega) h
      have a1 : ix (nI k) 10 := q_ix (by omega) (by omega)
      have b1 : ix (nI k) n := q_ix (by omega) (by omega)
      have c1 : (nI k).toNatClampNeg = k := q_cl (by omega)
      obtain ⟨z1, z2, -, -, z5, z6⟩ := hS k (by omega)
      rw [z1] at z5
      rw [z2] at z6
      have hin : fr ≤ mbe k ∧ men k ≤ un := ⟨z5, z6⟩
      have hi := ih (k + 1) (by omega) (by omega)
      rcases so_in (K1 := f_X1_isSoundInSpans_2 u) (K3 := f_X3_areSpans_2 u) hS hn (show k < n by omega) 24 0 (Nat.zero_le _) (by omega) with ⟨g1, g3⟩ | ⟨g1, g3⟩
      · have g1' : f_X1_isSoundInSpans_40 (f_X1_isSoundInSpans_2 u) 24 fr un sb se so (nI n) (nI k) 0 = some 0 := g1
        have g3' : f_X3_areSpans_33 (f_X3_areSpans_2 u) 24 fr un mbe men mov (nI n) (nI k) 0 = some 0 := g3
        refine Or.inl ⟨?_, ?_⟩
        · simp only [f_X1_isSoundInSpans_2, f_X0_count, Option.bind_some, if_neg h', begin0 (show n ≤ 11 by omega) b1, end0 (show n ≤ 11 by omega) b1, c1, z1, z2, inCal, if_pos hin, t10, if_false, g1']
        · simp only [f_X3_areSpans_2, if_neg h', if_pos a1, c1, isIn3, if_pos hin, Option.bind_some, t10, if_false, g3']
      · have g1' : f_X1_isSoundInSpans_40 (f_X1_isSoundInSpans_2 u) 24 fr un sb se so (nI n) (nI k) 0 = f_X1_isSoundInSpans_2 u fr un sb se so (nI n) (nI (k + 1)) := g1
        have g3' : f_X3_areSpans_33 (f_X3_areSpans_2 u) 24 fr un mbe men mov (nI n) (nI k) 0 = f_X3_areSpans_2 u fr un mbe men mov (nI n) (nI (k + 1)) := g3
        have e1 : f_X1_isSoundInSpans_2 (u + 1) fr un sb se so (nI n) (nI k) = f_X1_isSoundInSpans_2 u fr un sb se so (nI n) (nI (k + 1)) := by
          simp only [f_X1_isSoundInSpans_2, f_X0_count, Option.bind_some, if_neg h', begin0 (show n ≤ 11 by omega) b1, end0 (show n ≤ 11 by omega) b1, c1, z1, z2, inCal, if_pos hin, t10, if_false, g1']
        have e3 : f_X3_areSpans_2 (u + 1) fr un mbe men mov (nI n) (nI k) = f_X3_areSpans_2 u fr un mbe men mov (nI n) (nI (k + 1)) := by
          simp only [f_X3_areSpans_2, if_neg h', if_pos a1, c1, isIn3, if_pos hin, Option.bind_some, t10, if_false, g3']
        rw [e1, e3]; exact hi
theorem sf_loop {fr un : Int64} {n m : Nat} {sb se mbe men fb fe v : Nat → Int64} {fo : Nat → Int32} (hR : kRow n sb se mbe men) (hn : n ≤ 10) (hm : m ≤ 11) (hv : ∀ k, k < m → fb k = v (2 * k) ∧ fe k = v (2 * k + 1)) (hfo : f_X3_freesOf 22 v = some (nI m)) : ∀ (u i : Nat), i ≤ m → m - i < u → (f_X1_isSoundInFrees_6 u fr un sb se (nI n) fb fe fo (nI m) (nI i) = some (0, fb, fe, fo, nI m) ∧ f_X3_areSpans_107 u mbe men (nI n) v (nI i) = some 0) ∨ (f_X1_isSoundInFrees_6 u fr un sb se (nI n) fb fe fo (nI m) (nI i) = ((f_X1_takenLength fr un sb se (nI n)).bind fun r3 => (f_X1_freeLength fb fe (nI m)).bind fun r4 => if (r3 + r4) = (un - fr) then some (1, fb, fe, fo, nI m) else some (0, fb, fe, fo, nI m)) ∧ f_X3_areSpans_107 u mbe men (nI n) v (nI i) = some 1) := by
  intro u
  induction u with
  | zero => intro i hi hf; omega
  | succ u ih =>
    intro i hi hf
    by_cases h : m ≤ i
    · have h' : nI m ≤ nI i := (q_le (by omega) (by omega)).mpr h
      refine Or.inr ⟨?_, ?_⟩
      · simp only [f_X1_isSoundInFrees_6, f_X0_count, Option.bind_some, if_pos h']
      · simp only [f_X3_areSpans_107, hfo, Option.bind_some, if_pos h']
    · have h' : ¬ nI m ≤ nI i := t49 (by omega) (by omega) h
      have es : nI i + 1 = nI (i + 1) := q_s i
      have e2 : 2 * nI i = nI (2 * i) := n2i (by omega)
      have e3 : nI (2 * i) + 1 = nI (2 * i + 1) := q_s _
      have a1 : ix (nI (2 * i)) 22 := q_ix (by omega) (by omega)
      have a2 : ix (nI (2 * i + 1)) 22 := q_ix (by omega) (by omega)
      have c1 : (nI (2 * i)).toNatClampNeg = 2 * i := q_cl (by omega)
      have c2 : (nI (2 * i + 1)).toNatClampNeg = 2 * i + 1 := q_cl (by omega)
      have c3 : (nI i).toNatClampNeg = i := q_cl (by omega)
      have b1 : ix (nI i) m := q_ix (by omega) (by omega)
      obtain ⟨v1, v2⟩ := hv i (by omega)
      have hs := fm_same hR (v (2 * i)) (v (2 * i + 1)) (-1)
      have hi := ih (i + 1) (by omega) (by omega)
      by_cases h5 : kF (fun k => decide (nI k ≠ -1 ∧ mbe k < v (2 * i + 1) ∧ v (2 * i) < men k)) 0 n = -1
      · have h6 : kF (fun k => decide (nI k ≠ -1 ∧ sb k < v (2 * i + 1) ∧ v (2 * i) < se k)) 0 n = -1 := by rw [hs]; exact h5
        have g1 : f_X1_isSoundInFrees_6 (u + 1) fr un sb se (nI n) fb fe fo (nI m) (nI i) = f_X1_isSoundInFrees_6 u fr un sb se (nI n) fb fe fo (nI m) (nI (i + 1)) := by
          simp only [f_X1_isSoundInFrees_6, f_X0_count, Option.bind_some, if_neg h', begin0 hm b1, end0 hm b1, c3, v1, v2, fm_eq (show n ≤ 11 by omega), if_pos h6, es]
        have g3 : f_X3_areSpans_107 (u + 1) mbe men (nI n) v (nI i) = f_X3_areSpans_107 u mbe men (nI n) v (nI (i + 1)) := by
          simp only [f_X3_areSpans_107, hfo, Option.bind_some, if_neg h', e2, e3, if_pos a1, if_pos a2, c1, c2, ms_eq hn, if_pos h5, if_true, es]
        rw [g1, g3]; exact hi
      · have h6 : ¬ kF (fun k => decide (nI k ≠ -1 ∧ sb k < v (2 * i + 1) ∧ v (2 * i) < se k)) 0 n = -1 := by rw [hs]; exact h5
        refine Or.inl ⟨?_, ?_⟩
        · simp only [f_X1_isSoundInFrees_6, f_X0_count, Option.bind_some, if_neg h', begin0 hm b1, end0 hm b1, c3, v1, v2, fm_eq (show n ≤ 11 by omega), if_neg h6]
        · simp only [f_X3_areSpans_107, hfo, Option.bind_some, if_neg h', e2, e3, if_pos a1, if_pos a2, c1, c2, ms_eq hn, if_neg h5, t10, if_false]
theorem sound_both {fr un : Int64} {n w : Nat} {sb se : Nat → Int64} {so : Nat → Int32} {mbe men : Nat → Int64} {mov : Nat → Int32} {wb we mwb mwe : Nat → Int64} {fb fe : Nat → Int64} {fo : Nat → Int32} {fc : Int32} {rm : Nat → Int32} (hS : kSpans fr un n sb se so mbe men mov) (hn : n ≤ 10) (hf : kLet fr) (hu : kLet un) (hfu : fr < un) (hW : kWish w wb we mwb mwe) (hw : w ≤ 8) : ∃ z fb' fe' fo' fc' rm', f_X1_isSound fr un sb se so (nI n) wb we (nI w) fb fe fo fc rm = some (z, fb', fe', fo', fc', rm') ∧ f_X3_isSound fr un mbe men mov (nI n) mwb mwe (nI w) = some (z, 0) := by
  obtain ⟨s, hs, c1, c3, ha⟩ := chosen_both hW hw
  have hno : ¬ un ≤ fr := Int64.not_le.mpr hfu
  rcases so_loop hS hn 24 0 (Nat.zero_le _) (by omega) with ⟨g1, g3⟩ | ⟨g1, g3⟩
  · have g1' : f_X1_isSoundInSpans fr un sb se so (nI n) = some 0 := g1
    have g3' : f_X3_areSpans fr un mbe men mov (nI n) = some 0 := g3
    refine ⟨0, fb, fe, fo, fc, rm, ?_, ?_⟩
    · simp only [f_X1_isSound, if_neg hno, g1', Option.bind_some, if_true]
    · simp only [f_X3_isSound, c3, if_neg hno, g3', Option.bind_some, if_true]
  · have g1' : f_X1_isSoundInSpans fr un sb se so (nI n) = some 1 := g1
    obtain ⟨m, fb2, fe2, fo2, v, e1, e3, e4, hm, hv, hP, hp⟩ := free_both (fb := fb) (fe := fe) (fo := fo) (fc := fc) hS hn hf hu hfu
    have g3' : f_X3_areSpans fr un mbe men mov (nI n) = f_X3_areSpans_107 24 mbe men (nI n) v 0 := g3.trans (by rw [e3, Option.bind_some])
    rcases sf_loop (fr := fr) (un := un) (fo := fo2) hS.row hn hm hv e4 24 0 (Nat.zero_le _) (by omega) with ⟨k1, k3⟩ | ⟨k1, k3⟩
    · have k1' : f_X1_isSoundInFrees_6 24 fr un sb se (nI n) fb2 fe2 fo2 (nI m) 0 = some (0, fb2, fe2, fo2, nI m) := k1
      have k3' : f_X3_areSpans_107 24 mbe men (nI n) v 0 = some 0 := k3
      refine ⟨0, fb2, fe2, fo2, nI m, rm, ?_, ?_⟩
      · simp only [f_X1_isSound, if_neg hno, g1', Option.bind_some, t10, if_false, f_X1_isSoundInFrees, e1, k1', if_true]
      · simp only [f_X3_isSound, c3, if_neg hno, g3', k3', Option.bind_some, if_true]
    · have k3' : f_X3_areSpans_107 24 mbe men (nI n) v 0 = some 1 := k3
      obtain ⟨t, t1, t3, -⟩ := taken_both hS hn hf hu hfu
      obtain ⟨l, l1, l3, -⟩ := freeLen_both hf hu hfu hm hv e3 e4 hP hp
      rw [t1, l1, Option.bind_some, Option.bind_some] at k1
      by_cases h5 : t + l = un - fr
      · rw [if_pos h5] at k1
        have k1' : f_X1_isSoundInFrees_6 24 fr un sb se (nI n) fb2 fe2 fo2 (nI m) 0 = some (1, fb2, fe2, fo2, nI m) := k1
        obtain ⟨rm', ex', r1, r3, hk⟩ := rooms_both (rm := rm) hW hw
        obtain ⟨x, x1, x3⟩ := count_both hw (fun k h => (hk k h).1) r3
        obtain ⟨y, y1, y3⟩ := dp_both (N := 8) (b := wb) (e := we) (b' := mwb) (e' := mwe) (fun k hk => ⟨(hW k hk).1, (hW k hk).2.1⟩) hw (by omega)
        obtain ⟨p, -, p1, p3⟩ := pop_both s hs
        obtain ⟨a, -, a1, a3⟩ := most_both hW hw
        rcases ap_both hw hs hW.bo with ⟨q1, q3, -⟩ | ⟨-, -, q3⟩
        · by_cases h6 : nI p = nI a
          · by_cases h7 : x = y
            · refine ⟨1, fb2, fe2, fo2, nI m, rm', ?_, ?_⟩
              · simp only [f_X1_isSound, if_neg hno, g1', Option.bind_some, t10, if_false, f_X1_isSoundInFrees, e1, k1', f_X1_isSoundInWishes, r1, c1, q1, p1, a1, if_pos h6, x1, f_X1_crowd, y1, if_pos h7]
              · simp only [f_X3_isSound, c3, if_neg hno, g3', k3', Option.bind_some, t10, if_false, t3, l3, if_pos h5, q3, p3, a3, if_pos h6, x3, y3, if_pos h7]
            · refine ⟨0, fb2, fe2, fo2, nI m, rm', ?_, ?_⟩
              · simp only [f_X1_isSound, if_neg hno, g1', Option.bind_some, t10, if_false, f_X1_isSoundInFrees, e1, k1', f_X1_isSoundInWishes, r1, c1, q1, p1, a1, if_pos h6, x1, f_X1_crowd, y1, if_neg h7, if_true]
              · simp only [f_X3_isSound, c3, if_neg hno, g3', k3', Option.bind_some, t10, if_false, t3, l3, if_pos h5, q3, p3, a3, if_pos h6, x3, y3, if_neg h7]
          · refine ⟨0, fb2, fe2, fo2, nI m, rm', ?_, ?_⟩
            · simp only [f_X1_isSound, if_neg hno, g1', Option.bind_some, t10, if_false, f_X1_isSoundInFrees, e1, k1', f_X1_isSoundInWishes, r1, c1, q1, p1, a1, if_neg h6, if_true]
            · simp only [f_X3_isSound, c3, if_neg hno, g3', k3', Option.bind_some, t10, if_false, t3, l3, if_pos h5, q3, p3, a3, if_neg h6]
        · exact absurd ha q3
      · rw [if_neg h5] at k1
        have k1' : f_X1_isSoundInFrees_6 24 fr un sb se (nI n) fb2 fe2 fo2 (nI m) 0 = some (0, fb2, fe2, fo2, nI m) := k1
        refine ⟨0, fb2, fe2, fo2, nI m, rm, ?_, ?_⟩
        · simp only [f_X1_isSound, if_neg hno, g1', Option.bind_some, t10, if_false, f_X1_isSoundInFrees, e1, k1', if_true]
        · simp only [f_X3_isSound, c3, if_neg hno, g3', k3', Option.bind_some, t10, if_false, t3, l3, if_neg h5]
end
-- 62.pure.lean.txt
section
/-! the digest -/
def kMx (d : Int64) (v : Int32) : Int64 := d * 31 + v.toInt64
theorem kMx_f {d : Int64} {v : Int32} : d * 31 + v.toInt64 = kMx d v := by rw [kMx]
theorem mix1 {d : Int64} {v : Int32} : f_X1_mix d v = some (kMx d v) := rfl
/-- four numbers of a piece -/
def kMp (d b e : Int64) : Int64 := kMx (kMx (kMx (kMx d (kSec b)) (kNan b)) (kSec e)) (kNan e)
theorem part_j {x y : Int64} : (if (2 : Int32) ≤ nI 0 then kPart y (nI 0) else kPart x (nI 0)) = kSec x ∧ (if (2 : Int32) ≤ nI 1 then kPart y (nI 1) else kPart x (nI 1)) = kNan x ∧ (if (2 : Int32) ≤ nI 2 then kPart y (nI 2) else kPart x (nI 2)) = kSec y ∧ (if (2 : Int32) ≤ nI 3 then kPart y (nI 3) else kPart x (nI 3)) = kNan y := by
  have h0 : nI 0 &&& 1 = 0 := by decide
  have h1 : ¬ nI 1 &&& 1 = 0 := by decide
  have h2 : nI 2 &&& 1 = 0 := by decide
  have h3 : ¬ nI 3 &&& 1 = 0 := by decide
  have g0 : ¬ (2 : Int32) ≤ nI 0 := by decide
  have g1 : ¬ (2 : Int32) ≤ nI 1 := by decide
  have g2 : (2 : Int32) ≤ nI 2 := by decide
  have g3 : (2 : Int32) ≤ nI 3 := by decide
  unfold kPart
  rw [if_neg g0, if_neg g1, if_pos g2, if_pos g3, if_pos h0, if_neg h1, if_pos h2, if_neg h3]
  exact ⟨rfl, rfl, rfl, rfl⟩
theorem mp_step {rb re : Nat → Int64} {n k u j : Nat} {d : Int64} (hn : n ≤ 11) (hk : k < n) (h1 : kWide (rb k)) (h2 : kWide (re k)) (hj : j < 4) : f_X1_mixParts_6 (u + 1) rb re (nI n) (nI k) d (nI j) = f_X1_mixParts_6 u rb re (nI n) (nI k) (kMx d (if (2 : Int32) ≤ nI j then kPart (re k) (nI j) else kPart (rb k) (nI j))) (nI (j + 1)) := by
  have h' : ¬ (4 : Int32) ≤ nI j := t49 (a := 4) (by omega) (by omega) (by omega)
  have b1 : ix (nI k) n := q_ix hk (by omega)
  have c1 : (nI k).toNatClampNeg = k := q_cl (by omega)
  have p := partIn1 (rb := rb) (re := re) (w := nI j) hn b1 (by rw [c1]; exact h1) (by rw [c1]; exact h2)
  rw [c1] at p
  simp only [f_X1_mixParts_6, if_neg h', p, Option.bind_some, mix1, q_s]
theorem mp_eq {rb re : Nat → Int64} {n k : Nat} {d : Int64} (hn : n ≤ 11) (hk : k < n) (h1 : kWide (rb k)) (h2 : kWide (re k)) : f_X1_mixParts rb re (nI n) d (nI k) = some (kMp d (rb k) (re k)) := by
  obtain ⟨p0, p1, p2, p3⟩ := part_j (x := rb k) (y := re k)
  have e4 : ∀ x, f_X1_mixParts_6 20 rb re (nI n) (nI k) x (nI 4) = some x := fun x => by
    have h' : (4 : Int32) ≤ nI 4 := by decide
    simp only [f_X1_mixParts_6, if_pos h']
  show f_X1_mixParts_6 24 rb re (nI n) (nI k) d (nI 0) = _
  rw [mp_step hn hk h1 h2 (by omega), mp_step hn hk h1 h2 (by omega), mp_step hn hk h1 h2 (by omega), mp_step hn hk h1 h2 (by omega), p0, p1, p2, p3, e4, kMp]
theorem added3 {N M k : Nat} {b e : Nat → Int64} {d : Int64} (hN : k < N) (hM : k < M) (hN9 : N ≤ 65536) (hM9 : M ≤ 65536) (h1 : kWide (b k)) (h2 : kWide (e k)) : f_X3_added N M b e d (nI k) = some (kMp d (b k) (e k)) := by
  have b1 : ix (nI k) N := q_ix hN hN9
  have b2 : ix (nI k) M := q_ix hM hM9
  have c1 : (nI k).toNatClampNeg = k := q_cl (by omega)
  simp only [f_X3_added, if_pos b1, if_pos b2, c1, sec3 h1, nan3 h1, sec3 h2, nan3 h2, Option.bind_some]
  rfl
theorem second3 {mce : Nat → Int64} {p : Int32} (h0 : ix p 4) (h : kLet (mce p.toNatClampNeg)) : f_X3_second mce p = some (kSec (mce p.toNatClampNeg), 0) ∧ f_X3_nano mce p = some (kNan (mce p.toNatClampNeg), 0) := by
  constructor
  · simp only [f_X3_second, f_X3_second_13, is3, thrown3', if_pos h0, sec3 h.wide, Option.bind_some, if_true, t10, if_false]
  · simp only [f_X3_nano, f_X3_nano_13, is3, thrown3', if_pos h0, nan3 h.wide, Option.bind_some, if_true, t10, if_false]
theorem at3 {mce mbe men : Nat → Int64} {sp z p : Int32} (h0 : ix p 4) (h : f_X3_spanAt mbe men sp (mce p.toNatClampNeg) = some z) : f_X3_at mce mbe men sp p = some (z, 0) := by
  simp only [f_X3_at, f_X3_at_13, is3, thrown3', if_pos h0, h, Option.bind_some, if_true, t10, if_false]
theorem freeAt3 {mce mbe men v : Nat → Int64} {fr un : Int64} {sp z p : Int32} (h0 : ix p 4) (e3 : f_X3_free fr un mbe men sp = some v) (h : f_X3_freeAt_28 24 mce 0 v p 0 = some (z, 0)) : f_X3_freeAt mce fr un mbe men sp p = some (z, 0) := by
  simp only [f_X3_freeAt, f_X3_freeAt_13, is3, thrown3', if_pos h0, e3, h, Option.bind_some, if_true, t10, if_false]
theorem mc_step {ce mce sb se fb fe : Nat → Int64} {n m : Nat} {u k : Nat} {d : Int64} {a b : Int32} (hc : kCe ce mce) (hk : k < 4) (e1 : f_X0_firstWith sb se (nI n) (mce k) = some a) (e2 : f_X0_firstWith fb fe (nI m) (mce k) = some b) : f_X1_mixCells_5 (u + 1) ce sb se (nI n) fb fe (nI m) d (nI k) = f_X1_mixCells_5 u ce sb se (nI n) fb fe (nI m) (kMx (kMx (kMx (kMx d (kSec (mce k))) (kNan (mce k))) a) b) (nI (k + 1)) := by
  have h' : ¬ (4 : Int32) ≤ nI k := t49 (a := 4) (by omega) (by omega) (by omega)
  have b1 : ix (nI k) 4 := q_ix hk (by omega)
  have c1 : (nI k).toNatClampNeg = k := q_cl (by omega)
  obtain ⟨z1, z2⟩ := hc k hk
  rw [z1] at z2
  simp only [f_X1_mixCells_5, if_neg h', if_pos b1, c1, z1, sec1 z2.wide, nan1 z2.wide, e1, e2, Option.bind_some, mix1, q_s]

theorem cal_both {fr un : Int64} {p : Int32} (hf : kLet fr) (hu : kLet un) (h : 0 ≤ p.toInt ∧ p.toInt ≤ 3) : ∃ z, f_X1_calendar fr un p = some z ∧ f_X3_calendar fr un p = some (z, 0) := by
  have hM : f_X3_calendar fr un p = f_X3_calendar_15 fr un p 0 := (arg3 p 3 (f_X3_calendar_10 fr un p) (f_X3_calendar_15 fr un p 0)).trans (if_pos (by rw [c3]; exact h))
  have h6 : p.toInt < 6 := by omega
  rw [hM]
  by_cases h0 : (2 : Int32) ≤ p
  · refine ⟨kPart un p, ?_, ?_⟩
    · simp only [f_X1_calendar, f_X1_calendar_25, withinq, i0, c3, if_pos h, needThat1.1, Option.bind_some, if_pos h0, part1 hu.wide]
    · simp only [if_pos h0, f_X3_calendar_15, f_X3_calendar_41, thrown3', if_true, half3 hu.wide h.1 h6, Option.bind_some]
  · refine ⟨kPart fr p, ?_, ?_⟩
    · simp only [f_X1_calendar, f_X1_calendar_25, withinq, i0, c3, if_pos h, needThat1.1, Option.bind_some, if_neg h0, part1 hf.wide]
    · simp only [if_neg h0, f_X3_calendar_15, f_X3_calendar_41, thrown3', if_true, half3 hf.wide h.1 h6, Option.bind_some]
theorem ms_step {fr un : Int64} {sb se : Nat → Int64} {so : Nat → Int32} {sc z : Int32} {u j : Nat} {d : Int64} (hj : j < 4) (e : f_X1_calendar fr un (nI j) = some z) : f_X1_mixSpans_5 (u + 1) fr un sb se so sc d (nI j) = f_X1_mixSpans_5 u fr un sb se so sc (kMx d z) (nI (j + 1)) := by
  have h' : ¬ (4 : Int32) ≤ nI j := t49 (a := 4) (by omega) (by omega) (by omega)
  simp only [f_X1_mixSpans_5, if_neg h', e, Option.bind_some, mix1, q_s]
theorem nI_in03 {j : Nat} (h : j < 4) : 0 ≤ (nI j).toInt ∧ (nI j).toInt ≤ 3 := by
  rw [nI_toInt (by omega)]; omega
theorem nI_in05 {j : Nat} (h : j < 6) : 0 ≤ (nI j).toInt ∧ (nI j).toInt ≤ 5 := by
  rw [nI_toInt (by omega)]; omega
/-- the rows of spans: what comes behind, on the reference's side, is a rest of its own -/
theorem ds_loop {fr un : Int64} {n w : Nat} {sb se : Nat → Int64} {so : Nat → Int32} {mbe men : Nat → Int64} {mov : Nat → Int32} {mwb mwe : Nat → Int64} {ac rf kn fz : Int32} (hS : kSpans fr un n sb se so mbe men mov) (hn : n ≤ 10) (hf : kLet fr) (hu : kLet un) (ez : f_X3_frees fr un mbe men (nI n) = some (fz, 0)) : ∀ (u i : Nat) (d : Int64), i ≤ n → n - i < u → ∃ d', f_X1_mixSpans_43 u sb se so (nI n) d (nI i) = some d' ∧ f_X3_digest_105 u fr un mbe men mov (nI n) mwb mwe (nI w) ac rf kn d (nI i) = f_X3_digest_188 14 fr un mbe men mov (nI n) mwb mwe (nI w) ac rf kn (kMx d' fz) 0 := by
  intro u
  induction u with
  | zero => intro i d hi hf; omega
  | succ u ih =>
    intro i d hi hfu
    by_cases h : n ≤ i
    · have h' : nI n ≤ nI i := (q_le (by omega) (by omega)).mpr h
      obtain ⟨a, a1, a3⟩ := ob_clashes hS.row hn
      obtain ⟨b, b1, b3⟩ := ob_deepest hS.row hn
      refine ⟨kMx (kMx d a) b, ?_, ?_⟩
      · simp only [f_X1_mixSpans_43, f_X0_count, Option.bind_some, if_pos h', a1, b1, mix1]
      · simp only [f_X3_digest_105, if_pos h', a3, b3, ez, Option.bind_some]
        rfl
    · have h' : ¬ nI n ≤ nI i := t49 (by omega) (by omega) h
      have es : nI i + 1 = nI (i + 1) := q_s i
      have a1 : ix (nI i) 10 := q_ix (by omega) (by omega)
      have b1 : ix (nI i) n := q_ix (by omega) (by omega)
      have c1 : (nI i).toNatClampNeg = i := q_cl (by omega)
      obtain ⟨z1, z2, z3, -⟩ := hS i (by omega)
      obtain ⟨l1, l2, -⟩ := hS.let hf hu (show i < n by omega)
      have m1 := mp_eq (rb := sb) (re := se) (d := d) (show n ≤ 11 by omega) (show i < n by omega) (by rw [z1]; exact l1.wide) (by rw [z2]; exact l2.wide)
      rw [z1, z2] at m1
      have m3 := added3 (N := 10) (M := 10) (b := mbe) (e := men) (d := d) (show i < 10 by omega) (show i < 10 by omega) (by omega) (by omega) l1.wide l2.wide
      by_cases o1 : mov i = 0
      · obtain ⟨d', g1, g3⟩ := ih (i + 1) (kMx (kMp d (mbe i) (men i)) 0) (by omega) (by omega)
        refine ⟨d', ?_, ?_⟩
        · simp only [f_X1_mixSpans_43, f_X0_count, Option.bind_some, if_neg h', m1, over0 (show n ≤ 11 by omega) b1, c1, z3, if_pos o1, if_true, f_X1_mixSpans_84, mix1, es, g1]
        · simp only [f_X3_digest_105, if_neg h', m3, Option.bind_some, if_pos a1, c1, if_pos o1, es]
          exact g3
      · obtain ⟨d', g1, g3⟩ := ih (i + 1) (kMx (kMp d (mbe i) (men i)) 1) (by omega) (by omega)
        refine ⟨d', ?_, ?_⟩
        · simp only [f_X1_mixSpans_43, f_X0_count, Option.bind_some, if_neg h', m1, over0 (show n ≤ 11 by omega) b1, c1, z3, if_neg o1, t10, if_false, f_X1_mixSpans_84, mix1, es, g1]
        · simp only [f_X3_digest_105, if_neg h', m3, Option.bind_some, if_pos a1, c1, if_neg o1, es]
          exact g3
theorem len_both {fr un : Int64} {n : Nat} {sb se : Nat → Int64} {so : Nat → Int32} {mbe men : Nat → Int64} {mov : Nat → Int32} {p : Int32} (hS : kSpans fr un n sb se so mbe men mov) (hn : n ≤ 10) (hf : kLet fr) (hu : kLet un) (hfu : fr < un) (h : 0 ≤ p.toInt ∧ p.toInt ≤ 5) : ∃ z, f_X3_length fr un mbe men (nI n) p = some (z, 0) ∧ ∀ (fb fe : Nat → Int64) (fo : Nat → Int32) (fc : Int32), ∃ fb' fe' fo' fc', f_X1_length fr un sb se (nI n) fb fe fo fc p = some (z, fb', fe', fo', fc') := by
  have h6 : p.toInt < 6 := by omega
  have hM : f_X3_length fr un mbe men (nI n) p = f_X3_length_15 fr un mbe men (nI n) p 0 := (arg3 p 5 (f_X3_length_10 fr un mbe men (nI n) p) (f_X3_length_15 fr un mbe men (nI n) p 0)).trans (if_pos (by rw [c5]; exact h))
  rw [hM]
  by_cases h2 : (2 : Int32) ≤ p
  · by_cases h4 : (4 : Int32) ≤ p
    · have hw := diff_wide hu hf
      refine ⟨kPart (un - fr) p, ?_, fun fb fe fo fc => ?_⟩
      · simp only [f_X3_length_15, f_X3_length_56, thrown3', if_true, if_pos h2, if_pos h4, half3 hw h.1 h6, Option.bind_some]
      · obtain ⟨m, fb2, fe2, fo2, v, e1, -⟩ := free_both (fb := fb) (fe := fe) (fo := fo) (fc := fc) hS hn hf hu hfu
        refine ⟨fb2, fe2, fo2, nI m, ?_⟩
        simp only [f_X1_length, f_X1_length_48, withinq, i0, c5, if_pos h, needThat1.1, Option.bind_some, if_pos h2, if_pos h4, e1, part1 hw]
    · obtain ⟨z, e6, -⟩ : ∃ z, f_X3_freeLength fr un mbe men (nI n) = some z ∧ True := by
        obtain ⟨m, fb2, fe2, fo2, v, e1, e3, e4, hm, hv, hP, hp⟩ := free_both (fb := fun _ => 0) (fe := fun _ => 0) (fo := fun _ => 0) (fc := 0) hS hn hf hu hfu
        obtain ⟨z, -, e6, -⟩ := freeLen_both hf hu hfu hm hv e3 e4 hP hp
        exact ⟨z, e6, trivial⟩
      have key : ∀ (fb fe : Nat → Int64) (fo : Nat → Int32) (fc : Int32), ∃ m fb2 fe2 fo2, f_X1_findFrees fr un sb se (nI n) fb fe fo fc = some (fb2, fe2, fo2, nI m) ∧ f_X1_freeLength fb2 fe2 (nI m) = some z ∧ kDur fr un z := fun fb fe fo fc => by
        obtain ⟨m, fb2, fe2, fo2, v, e1, e3, e4, hm, hv, hP, hp⟩ := free_both (fb := fb) (fe := fe) (fo := fo) (fc := fc) hS hn hf hu hfu
        obtain ⟨z', e5, e7, hz⟩ := freeLen_both hf hu hfu hm hv e3 e4 hP hp
        have ez : z' = z := Option.some.inj (e7.symm.trans e6)
        rw [ez] at e5 hz
        exact ⟨m, fb2, fe2, fo2, e1, e5, hz⟩
      have hw : kWide z := by
        obtain ⟨_, _, _, _, _, _, hz⟩ := key (fun _ => 0) (fun _ => 0) (fun _ => 0) 0
        exact hz.wide hf hu
      refine ⟨kPart z p, ?_, fun fb fe fo fc => ?_⟩
      · simp only [f_X3_length_15, f_X3_length_56, thrown3', if_true, if_pos h2, if_neg h4, e6, half3 hw h.1 h6, Option.bind_some]
      · obtain ⟨m, fb2, fe2, fo2, e1, e5, -⟩ := key fb fe fo fc
        refine ⟨fb2, fe2, fo2, nI m, ?_⟩
        simp only [f_X1_length, f_X1_length_48, withinq, i0, c5, if_pos h, needThat1.1, Option.bind_some, if_pos h2, if_neg h4, e1, e5, part1 hw]
  · obtain ⟨z, e5, e6, hz⟩ := taken_both hS hn hf hu hfu
    have hw := hz.wide hf hu
    refine ⟨kPart z p, ?_, fun fb fe fo fc => ⟨fb, fe, fo, fc, ?_⟩⟩
    · simp only [f_X3_length_15, f_X3_length_56, thrown3', if_true, if_neg h2, e6, half3 hw h.1 h6, Option.bind_some]
    · simp only [f_X1_length, withinq, i0, c5, if_pos h, needThat1.1, Option.bind_some, if_neg h2, e5, part1 hw]
theorem ml_step {fr un : Int64} {n : Nat} {sb se : Nat → Int64} {U u j J : Nat} {d : Int64} {z : Int32} (hU : U = u + 1) (hJ : J = j + 1) (hj : j < 6) (e : ∀ (fb fe : Nat → Int64) (fo : Nat → Int32) (fc : Int32), ∃ fb' fe' fo' fc', f_X1_length fr un sb se (nI n) fb fe fo fc (nI j) = some (z, fb', fe', fo', fc')) (fb fe : Nat → Int64) (fo : Nat → Int32) (fc : Int32) : ∃ fb' fe' fo' fc', f_X1_mixFrees_47 U fr un sb se (nI n) fb fe fo fc d (nI j) = f_X1_mixFrees_47 u fr un sb se (nI n) fb' fe' fo' fc' (kMx d z) (nI J) := by
  subst hU; subst hJ
  have h' : ¬ (6 : Int32) ≤ nI j := t49 (a := 6) (by omega) (by omega) (by omega)
  obtain ⟨fb', fe', fo', fc', e1⟩ := e fb fe fo fc
  refine ⟨fb', fe', fo', fc', ?_⟩
  simp only [f_X1_mixFrees_47, if_neg h', e1, Option.bind_some, mix1, q_s]
theorem ml_end {fr un : Int64} {n : Nat} {sb se : Nat → Int64} {U : Nat} {d : Int64} {fb fe : Nat → Int64} {fo : Nat → Int32} {fc : Int32} (hU : 0 < U) : f_X1_mixFrees_47 U fr un sb se (nI n) fb fe fo fc d (nI 6) = some (d, fb, fe, fo, fc) := by
  obtain ⟨u, rfl⟩ : ∃ u, U = u + 1 := ⟨U - 1, by omega⟩
  have h' : (6 : Int32) ≤ nI 6 := by decide
  simp only [f_X1_mixFrees_47, if_pos h']
theorem ofFree3 {fr un : Int64} {m n k : Nat} {fb fe v mbe men : Nat → Int64} {j : Nat} (hm : m ≤ 11) (hk : k < m) (hj : j < 4) (hv : ∀ k, k < m → fb k = v (2 * k) ∧ fe k = v (2 * k + 1)) (e3 : f_X3_free fr un mbe men (nI n) = some v) (e4 : f_X3_freesOf 22 v = some (nI m)) (hp : kPie m fb fe) : f_X3_ofFree fr un mbe men (nI n) (nI k) (nI j) = some (if (2 : Int32) ≤ nI j then kPart (fe k) (nI j) else kPart (fb k) (nI j), 0) := by
  have h := nI_in03 hj
  have h6 : (nI j).toInt < 6 := by omega
  have a1 : ¬ nI k < 0 := by rw [nI_lt0 (show k ≤ 65536 by omega)]; exact id
  have a2 : nI k < nI m := (q_lt (by omega) (by omega)).mpr hk
  obtain ⟨p4, p5, p6⟩ := hp k hk
  obtain ⟨v1, v2⟩ := hv k hk
  have hM : f_X3_ofFree_23 v (nI k) (nI j) 0 = f_X3_ofFree_37 v (nI k) (nI j) 0 0 := (arg3 (nI j) 3 (f_X3_ofFree_32 v (nI k) (nI j) 0) (f_X3_ofFree_37 v (nI k) (nI j) 0 0)).trans (if_pos (by rw [c3]; exact h))
  have hx := half_ix (show k < 11 by omega) h.1 h.2
  by_cases h3 : (2 : Int32) ≤ nI j
  · rw [if_pos h3] at hx
    have a3 : ix (nI (2 * k + 1)) 22 := q_ix (by omega) (by omega)
    have a4 : (nI (2 * k + 1)).toNatClampNeg = 2 * k + 1 := q_cl (by omega)
    simp only [f_X3_ofFree, e3, Option.bind_some, if_neg a1, e4, if_pos a2, hM, f_X3_ofFree_37, thrown3, if_true, hx, if_pos a3, a4, ← v2, half3 p5.wide h.1 h6, if_pos h3]
  · rw [if_neg h3] at hx
    have a3 : ix (nI (2 * k + 0)) 22 := q_ix (by omega) (by omega)
    have a4 : (nI (2 * k + 0)).toNatClampNeg = 2 * k := q_cl (by omega)
    simp only [f_X3_ofFree, e3, Option.bind_some, if_neg a1, e4, if_pos a2, hM, f_X3_ofFree_37, thrown3, if_true, hx, if_pos a3, a4, ← v1, half3 p4.wide h.1 h6, if_neg h3]
/-- the rows of what is free -/
theorem df_loop {fr un : Int64} {n m w : Nat} {sb se fb fe v mbe men mwb mwe : Nat → Int64} {fo mov : Nat → Int32} {ac rf kn z0 z1 z2 z3 z4 z5 : Int32} {ex : Nat → Int32} (hm : m ≤ 11) (hv : ∀ k, k < m → fb k = v (2 * k) ∧ fe k = v (2 * k + 1)) (e3 : f_X3_free fr un mbe men (nI n) = some v) (e4 : f_X3_freesOf 22 v = some (nI m)) (hp : kPie m fb fe) (l0 : f_X3_length fr un mbe men (nI n) 0 = some (z0, 0)) (l1 : f_X3_length fr un mbe men (nI n) 1 = some (z1, 0)) (l2 : f_X3_length fr un mbe men (nI n) 2 = some (z2, 0)) (l3 : f_X3_length fr un mbe men (nI n) 3 = some (z3, 0)) (l4 : f_X3_length fr un mbe men (nI n) 4 = some (z4, 0)) (l5 : f_X3_length fr un mbe men (nI n) 5 = some (z5, 0)) (ex3 : f_X3_roomsNow mwb mwe (nI w) = some ex) : ∀ (u i : Nat) (d : Int64), i ≤ m → m - i < u → ∃ d', (∀ U, u ≤ U → f_X1_mixFrees_15 U fr un sb se (nI n) fb fe fo (nI m) d (nI i) = f_X1_mixFrees_47 24 fr un sb se (nI n) fb fe fo (nI m) d' 0) ∧ f_X3_digest_188 u fr un mbe men mov (nI n) mwb mwe (nI w) ac rf kn d (nI i) = f_X3_digest_279 24 fr un mbe men mov (nI n) mwb mwe (nI w) ac rf kn ex (kMx (kMx (kMx (kMx (kMx (kMx (kMx d' z0) z1) z2) z3) z4) z5) (nI w)) 0 := by
  intro u
  induction u with
  | zero => intro i d hi hf; omega
  | succ u ih =>
    intro i d hi hfu
    by_cases h : m ≤ i
    · have h' : nI m ≤ nI i := (q_le (by omega) (by omega)).mpr h
      refine ⟨d, fun U hU => ?_, ?_⟩
      · obtain ⟨U, rfl⟩ : ∃ V, U = V + 1 := ⟨U - 1, by omega⟩
        simp only [f_X1_mixFrees_15, f_X0_count, Option.bind_some, if_pos h']
      · simp only [f_X3_digest_188, f_X3_frees, e3, e4, Option.bind_some, if_pos h', l0, l1, l2, l3, l4, l5, ex3]
        rfl
    · have h' : ¬ nI m ≤ nI i := t49 (by omega) (by omega) h
      have es : nI i + 1 = nI (i + 1) := q_s i
      obtain ⟨p4, p5, -⟩ := hp i (by omega)
      have m1 := mp_eq (rb := fb) (re := fe) (d := d) hm (show i < m by omega) p4.wide p5.wide
      have o0 : f_X3_ofFree fr un mbe men (nI n) (nI i) 0 = _ := ofFree3 (j := 0) hm (show i < m by omega) (by omega) hv e3 e4 hp
      have o1 : f_X3_ofFree fr un mbe men (nI n) (nI i) 1 = _ := ofFree3 (j := 1) hm (show i < m by omega) (by omega) hv e3 e4 hp
      have o2 : f_X3_ofFree fr un mbe men (nI n) (nI i) 2 = _ := ofFree3 (j := 2) hm (show i < m by omega) (by omega) hv e3 e4 hp
      have o3 : f_X3_ofFree fr un mbe men (nI n) (nI i) 3 = _ := ofFree3 (j := 3) hm (show i < m by omega) (by omega) hv e3 e4 hp
      obtain ⟨q0, q1, q2, q3⟩ := part_j (x := fb i) (y := fe i)
      rw [q0] at o0; rw [q1] at o1; rw [q2] at o2; rw [q3] at o3
      obtain ⟨d', g1, g3⟩ := ih (i + 1) (kMp d (fb i) (fe i)) (by omega) (by omega)
      refine ⟨d', fun U hU => ?_, ?_⟩
      · obtain ⟨U, rfl⟩ : ∃ V, U = V + 1 := ⟨U - 1, by omega⟩
        simp only [f_X1_mixFrees_15, f_X0_count, Option.bind_some, if_neg h', m1, es, g1 U (by omega)]
      · simp only [f_X3_digest_188, f_X3_frees, e3, e4, Option.bind_some, if_neg h', o0, o1, o2, o3, es]
        exact g3
/-- the rows of wishes, and the rest -/
theorem dw_loop {fr un : Int64} {n w : Nat} {mbe men : Nat → Int64} {mov : Nat → Int32} {wb we mwb mwe : Nat → Int64} {rm ex : Nat → Int32} {ac rf kn s : Int32} (hW : kWish w wb we mwb mwe) (hw : w ≤ 8) (hk : ∀ k, k < w → rm k = ex k) (es9 : f_X3_isSound fr un mbe men mov (nI n) mwb mwe (nI w) = some (s, 0)) : ∀ (u i : Nat) (d : Int64), i ≤ w → w - i < u → ∃ d', f_X1_mixWishes_15 u wb we (nI w) rm d (nI i) = some d' ∧ f_X3_digest_279 u fr un mbe men mov (nI n) mwb mwe (nI w) ac rf kn ex d (nI i) = some (kMx (kMx (kMx (kMx d' ac) rf) kn) (if s = 0 then 0 else 1), 0) := by
  intro u
  induction u with
  | zero => intro i d hi hf; omega
  | succ u ih =>
    intro i d hi hfu
    by_cases h : w ≤ i
    · have h' : nI w ≤ nI i := (q_le (by omega) (by omega)).mpr h
      obtain ⟨c, -, c1, c3, -⟩ := chosen_both hW hw
      obtain ⟨a, -, a1, a3⟩ := most_both hW hw
      obtain ⟨b, b1, b3⟩ := ob_crowd hW hw
      have h0 : f_X3_house ac rf kn 0 = some (ac, 0) := by
        simp only [f_X3_house, f_X3_house_15, thrown3', Option.bind_some, if_true, if_neg (show ¬ (0 : Int32) < 0 by decide), if_pos (show (0 : Int32) ≤ 2 by decide)]
      have h1 : f_X3_house ac rf kn 1 = some (rf, 0) := by
        simp only [f_X3_house, f_X3_house_15, thrown3', Option.bind_some, if_true, if_neg (show ¬ (1 : Int32) < 0 by decide), if_pos (show (1 : Int32) ≤ 2 by decide), t10, if_false]
      have h2 : f_X3_house ac rf kn 2 = some (kn, 0) := by
        simp only [f_X3_house, f_X3_house_15, thrown3', Option.bind_some, if_true, if_neg (show ¬ (2 : Int32) < 0 by decide), if_pos (show (2 : Int32) ≤ 2 by decide), if_neg (show ¬ (2 : Int32) = 0 by decide), if_neg (show ¬ (2 : Int32) = 1 by decide)]
      refine ⟨kMx (kMx (kMx d (nI c)) (nI a)) b, ?_, ?_⟩
      · simp only [f_X1_mixWishes_15, f_X0_count, Option.bind_some, if_pos h', c1, a1, b1, mix1]
      · by_cases hs : s = 0
        · simp only [f_X3_digest_279, if_pos h', c3, a3, b3, h0, h1, h2, es9, Option.bind_some, if_pos hs]
          rfl
        · simp only [f_X3_digest_279, if_pos h', c3, a3, b3, h0, h1, h2, es9, Option.bind_some, if_neg hs]
          rfl
    · have h' : ¬ nI w ≤ nI i := t49 (by omega) (by omega) h
      have es : nI i + 1 = nI (i + 1) := q_s i
      have a1 : ix (nI i) 11 := q_ix (by omega) (by omega)
      have a2 : ix (nI i) w := q_ix (by omega) (by omega)
      have c1 : (nI i).toNatClampNeg = i := q_cl (by omega)
      have ew : (nI w).toNatClampNeg = w := q_cl (by omega)
      obtain ⟨z1, z2, -, z4, z5⟩ := hW i (by omega)
      have m1 := mp_eq (rb := wb) (re := we) (d := d) (show w ≤ 11 by omega) (show i < w by omega) z4.wide z5.wide
      rw [z1, z2] at m1
      rw [z1] at z4
      rw [z2] at z5
      have m3 := added3 (N := 8) (M := 8) (b := mwb) (e := mwe) (d := d) (show i < 8 by omega) (show i < 8 by omega) (by omega) (by omega) z4.wide z5.wide
      obtain ⟨d', g1, g3⟩ := ih (i + 1) (kMx (kMp d (mwb i) (mwe i)) (ex i)) (by omega) (by omega)
      refine ⟨d', ?_, ?_⟩
      · simp only [f_X1_mixWishes_15, f_X0_count, Option.bind_some, if_neg h', m1, if_pos a1, c1, hk i (by omega), mix1, es, g1]
      · simp only [f_X3_digest_279, if_neg h', m3, Option.bind_some, ew, if_pos a2, c1, es]
        exact g3
theorem dg3 {mce : Nat → Int64} {fr un : Int64} {mbe men : Nat → Int64} {mov : Nat → Int32} {msp : Int32} {mwb mwe : Nat → Int64} {mwi ac rf kn : Int32} {s0 n0 t0 u0 s1 n1 t1 u1 s2 n2 t2 u2 s3 n3 t3 u3 c0 c1 c2 c3 : Int32} (hs0 : f_X3_second mce 0 = some (s0, 0)) (hn0 : f_X3_nano mce 0 = some (n0, 0)) (ht0 : f_X3_at mce mbe men msp 0 = some (t0, 0)) (hu0 : f_X3_freeAt mce fr un mbe men msp 0 = some (u0, 0)) (hs1 : f_X3_second mce 1 = some (s1, 0)) (hn1 : f_X3_nano mce 1 = some (n1, 0)) (ht1 : f_X3_at mce mbe men msp 1 = some (t1, 0)) (hu1 : f_X3_freeAt mce fr un mbe men msp 1 = some (u1, 0)) (hs2 : f_X3_second mce 2 = some (s2, 0)) (hn2 : f_X3_nano mce 2 = some (n2, 0)) (ht2 : f_X3_at mce mbe men msp 2 = some (t2, 0)) (hu2 : f_X3_freeAt mce fr un mbe men msp 2 = some (u2, 0)) (hs3 : f_X3_second mce 3 = some (s3, 0)) (hn3 : f_X3_nano mce 3 = some (n3, 0)) (ht3 : f_X3_at mce mbe men msp 3 = some (t3, 0)) (hu3 : f_X3_freeAt mce fr un mbe men msp 3 = some (u3, 0)) (hc0 : f_X3_calendar fr un 0 = some (c0, 0)) (hc1 : f_X3_calendar fr un 1 = some (c1, 0)) (hc2 : f_X3_calendar fr un 2 = some (c2, 0)) (hc3 : f_X3_calendar fr un 3 = some (c3, 0)) : f_X3_digest mce fr un mbe men mov msp mwb mwe mwi ac rf kn = f_X3_digest_105 24 fr un mbe men mov msp mwb mwe mwi ac rf kn (kMx (kMx (kMx (kMx (kMx (kMx (kMx (kMx (kMx (kMx (kMx (kMx (kMx (kMx (kMx (kMx (kMx (kMx (kMx (kMx (kMx 8009 s0) n0) t0) u0) s1) n1) t1) u1) s2) n2) t2) u2) s3) n3) t3) u3) c0) c1) c2) c3) msp) 0 := by
  simp only [f_X3_digest, hs0, hn0, ht0, hu0, hs1, hn1, ht1, hu1, hs2, hn2, ht2, hu2, hs3, hn3, ht3, hu3, hc0, hc1, hc2, hc3, Option.bind_some, kMx_f]
theorem ms_all {fr un : Int64} {sb se : Nat → Int64} {so : Nat → Int32} {n : Nat} {g0 g1 g2 g3 : Int32} {d : Int64} (j0 : f_X1_calendar fr un (nI 0) = some g0) (j1 : f_X1_calendar fr un (nI 1) = some g1) (j2 : f_X1_calendar fr un (nI 2) = some g2) (j3 : f_X1_calendar fr un (nI 3) = some g3) : f_X1_mixSpans fr un sb se so (nI n) d = f_X1_mixSpans_43 24 sb se so (nI n) (kMx (kMx (kMx (kMx (kMx d g0) g1) g2) g3) (nI n)) (nI 0) := by
  have e9 : ∀ u x, f_X1_mixSpans_5 (u + 1) fr un sb se so (nI n) x (nI 4) = f_X1_mixSpans_43 24 sb se so (nI n) (kMx x (nI n)) (nI 0) := fun u x => by
    have h' : (4 : Int32) ≤ nI 4 := by decide
    rw [f_X1_mixSpans_5, if_pos h', f_X0_count, Option.bind_some, mix1, Option.bind_some, q_0]
  have e0 : f_X1_mixSpans fr un sb se so (nI n) d = f_X1_mixSpans_5 24 fr un sb se so (nI n) d (nI 0) := by
    unfold f_X1_mixSpans; rw [q_0]
  rw [e0, ms_step (by omega) j0, ms_step (by omega) j1, ms_step (by omega) j2, ms_step (by omega) j3, e9]
theorem mc_all {ce mce sb se fb fe : Nat → Int64} {n m : Nat} {d : Int64} {a0 b0 a1 b1 a2 b2 a3 b3 : Int32} (hc : kCe ce mce) (x0 : f_X0_firstWith sb se (nI n) (mce 0) = some a0) (y0 : f_X0_firstWith fb fe (nI m) (mce 0) = some b0) (x1 : f_X0_firstWith sb se (nI n) (mce 1) = some a1) (y1 : f_X0_firstWith fb fe (nI m) (mce 1) = some b1) (x2 : f_X0_firstWith sb se (nI n) (mce 2) = some a2) (y2 : f_X0_firstWith fb fe (nI m) (mce 2) = some b2) (x3 : f_X0_firstWith sb se (nI n) (mce 3) = some a3) (y3 : f_X0_firstWith fb fe (nI m) (mce 3) = some b3) : f_X1_mixCells ce sb se (nI n) fb fe (nI m) d = some (kMx (kMx (kMx (kMx (kMx (kMx (kMx (kMx (kMx (kMx (kMx (kMx (kMx (kMx (kMx (kMx d (kSec (mce 0))) (kNan (mce 0))) a0) b0) (kSec (mce 1))) (kNan (mce 1))) a1) b1) (kSec (mce 2))) (kNan (mce 2))) a2) b2) (kSec (mce 3))) (kNan (mce 3))) a3) b3) := by
  have e9 : ∀ u x, f_X1_mixCells_5 (u + 1) ce sb se (nI n) fb fe (nI m) x (nI 4) = some x := fun u x => by
    have h' : (4 : Int32) ≤ nI 4 := by decide
    simp only [f_X1_mixCells_5, if_pos h']
  have e0 : f_X1_mixCells ce sb se (nI n) fb fe (nI m) d = f_X1_mixCells_5 24 ce sb se (nI n) fb fe (nI m) d (nI 0) := rfl
  rw [e0, mc_step hc (by omega) x0 y0, mc_step hc (by omega) x1 y1, mc_step hc (by omega) x2 y2, mc_step hc (by omega) x3 y3, e9]
theorem q_3 : (3 : Int32) = nI 3 := rfl
theorem q_5 : (5 : Int32) = nI 5 := rfl
theorem digest_both {ce mce : Nat → Int64} {fr un : Int64} {n w : Nat} {sb se : Nat → Int64} {so : Nat → Int32} {mbe men : Nat → Int64} {mov : Nat → Int32} {wb we mwb mwe : Nat → Int64} {fb fe : Nat → Int64} {fo : Nat → Int32} {fc : Int32} {rm : Nat → Int32} {ac rf kn : Int32} (hc : kCe ce mce) (hS : kSpans fr un n sb se so mbe men mov) (hn : n ≤ 10) (hf : kLet fr) (hu : kLet un) (hfu : fr < un) (hW : kWish w wb we mwb mwe) (hw : w ≤ 8) : ∃ d fb' fe' fo' fc' rm', f_X1_digest ce fr un sb se so (nI n) wb we (nI w) fb fe fo fc rm ac rf kn = some (d, fb', fe', fo', fc', rm') ∧ f_X3_digest mce fr un mbe men mov (nI n) mwb mwe (nI w) ac rf kn = some (d, 0) := by
  obtain ⟨m, fb2, fe2, fo2, v, e1, e3, e4, hm, hv, hP, hp⟩ := free_both (fb := fb) (fe := fe) (fo := fo) (fc := fc) hS hn hf hu hfu
  obtain ⟨rm2, ex, r1, r3, hk⟩ := rooms_both (rm := rm) hW hw
  -- cells
  have cell : ∀ k, k < 4 → ∃ a b, f_X0_firstWith sb se (nI n) (mce k) = some a ∧ f_X0_firstWith fb2 fe2 (nI m) (mce k) = some b ∧ f_X3_second mce (nI k) = some (kSec (mce k), 0) ∧ f_X3_nano mce (nI k) = some (kNan (mce k), 0) ∧ f_X3_at mce mbe men (nI n) (nI k) = some (a, 0) ∧ f_X3_freeAt mce fr un mbe men (nI n) (nI k) = some (b, 0) := fun k hk4 => by
    have b1 : ix (nI k) 4 := q_ix hk4 (by omega)
    have c1 : (nI k).toNatClampNeg = k := q_cl (by omega)
    obtain ⟨z1, z2⟩ := hc k hk4
    rw [z1] at z2
    obtain ⟨a, a1, a3⟩ := at_both (b := sb) (e := se) (b' := mbe) (e' := men) hn z2 (fun k hk => ⟨(hS k hk).1, (hS k hk).2.1⟩)
    obtain ⟨b, f1, f3⟩ := freeAt_both (mce := mce) (mth := 0) (p := nI k) hm hv e4 z2 b1 (by rw [c1])
    have hs := second3 (mce := mce) b1 (by rw [c1]; exact z2)
    rw [c1] at hs
    exact ⟨a, b, a1, f1, hs.1, hs.2, at3 b1 (by rw [c1]; exact a3), freeAt3 b1 e3 f3⟩
  obtain ⟨a0, b0, x0, y0, s0, n0, t0, u0⟩ := cell 0 (by omega)
  obtain ⟨a1, b1, x1, y1, s1, n1, t1, u1⟩ := cell 1 (by omega)
  obtain ⟨a2, b2, x2, y2, s2, n2, t2, u2⟩ := cell 2 (by omega)
  obtain ⟨a3, b3, x3, y3, s3, n3, t3, u3⟩ := cell 3 (by omega)
  have hC := mc_all (d := 8009) hc x0 y0 x1 y1 x2 y2 x3 y3
  have s0' : f_X3_second mce 0 = some (kSec (mce 0), 0) := by
    rw [q_0]; exact s0
  have n0' : f_X3_nano mce 0 = some (kNan (mce 0), 0) := by
    rw [q_0]; exact n0
  have t0' : f_X3_at mce mbe men (nI n) 0 = some (a0, 0) := by
    rw [q_0]; exact t0
  have u0' : f_X3_freeAt mce fr un mbe men (nI n) 0 = some (b0, 0) := by
    rw [q_0]; exact u0
  have s1' : f_X3_second mce 1 = some (kSec (mce 1), 0) := by
    rw [q_1]; exact s1
  have n1' : f_X3_nano mce 1 = some (kNan (mce 1), 0) := by
    rw [q_1]; exact n1
  have t1' : f_X3_at mce mbe men (nI n) 1 = some (a1, 0) := by
    rw [q_1]; exact t1
  have u1' : f_X3_freeAt mce fr un mbe men (nI n) 1 = some (b1, 0) := by
    rw [q_1]; exact u1
  have s2' : f_X3_second mce 2 = some (kSec (mce 2), 0) := by
    rw [q_2]; exact s2
  have n2' : f_X3_nano mce 2 = some (kNan (mce 2), 0) := by
    rw [q_2]; exact n2
  have t2' : f_X3_at mce mbe men (nI n) 2 = some (a2, 0) := by
    rw [q_2]; exact t2
  have u2' : f_X3_freeAt mce fr un mbe men (nI n) 2 = some (b2, 0) := by
    rw [q_2]; exact u2
  have s3' : f_X3_second mce 3 = some (kSec (mce 3), 0) := by
    rw [q_3]; exact s3
  have n3' : f_X3_nano mce 3 = some (kNan (mce 3), 0) := by
    rw [q_3]; exact n3
  have t3' : f_X3_at mce mbe men (nI n) 3 = some (a3, 0) := by
    rw [q_3]; exact t3
  have u3' : f_X3_freeAt mce fr un mbe men (nI n) 3 = some (b3, 0) := by
    rw [q_3]; exact u3
  obtain ⟨g0, j0, k0⟩ := cal_both (p := nI 0) hf hu (nI_in03 (by omega))
  have k0' : f_X3_calendar fr un 0 = some (g0, 0) := by
    rw [q_0]; exact k0
  obtain ⟨g1, j1, k1⟩ := cal_both (p := nI 1) hf hu (nI_in03 (by omega))
  have k1' : f_X3_calendar fr un 1 = some (g1, 0) := by
    rw [q_1]; exact k1
  obtain ⟨g2, j2, k2⟩ := cal_both (p := nI 2) hf hu (nI_in03 (by omega))
  have k2' : f_X3_calendar fr un 2 = some (g2, 0) := by
    rw [q_2]; exact k2
  obtain ⟨g3, j3, k3⟩ := cal_both (p := nI 3) hf hu (nI_in03 (by omega))
  have k3' : f_X3_calendar fr un 3 = some (g3, 0) := by
    rw [q_3]; exact k3
  obtain ⟨z0, v0, w0⟩ := len_both (p := nI 0) hS hn hf hu hfu (nI_in05 (by omega))
  have v0' : f_X3_length fr un mbe men (nI n) 0 = some (z0, 0) := by
    rw [q_0]; exact v0
  obtain ⟨z1, v1, w1⟩ := len_both (p := nI 1) hS hn hf hu hfu (nI_in05 (by omega))
  have v1' : f_X3_length fr un mbe men (nI n) 1 = some (z1, 0) := by
    rw [q_1]; exact v1
  obtain ⟨z2, v2, w2⟩ := len_both (p := nI 2) hS hn hf hu hfu (nI_in05 (by omega))
  have v2' : f_X3_length fr un mbe men (nI n) 2 = some (z2, 0) := by
    rw [q_2]; exact v2
  obtain ⟨z3, v3, w3⟩ := len_both (p := nI 3) hS hn hf hu hfu (nI_in05 (by omega))
  have v3' : f_X3_length fr un mbe men (nI n) 3 = some (z3, 0) := by
    rw [q_3]; exact v3
  obtain ⟨z4, v4, w4⟩ := len_both (p := nI 4) hS hn hf hu hfu (nI_in05 (by omega))
  have v4' : f_X3_length fr un mbe men (nI n) 4 = some (z4, 0) := by
    rw [q_4]; exact v4
  obtain ⟨z5, v5, w5⟩ := len_both (p := nI 5) hS hn hf hu hfu (nI_in05 (by omega))
  have v5' : f_X3_length fr un mbe men (nI n) 5 = some (z5, 0) := by
    rw [q_5]; exact v5
  have ef : f_X3_frees fr un mbe men (nI n) = some (nI m, 0) := by simp only [f_X3_frees, e3, e4, Option.bind_some]
  obtain ⟨d2, p1, p3⟩ := ds_loop (w := w) (mwb := mwb) (mwe := mwe) (ac := ac) (rf := rf) (kn := kn) hS hn hf hu ef 24 0 (kMx (kMx (kMx (kMx (kMx (kMx (kMx (kMx (kMx (kMx (kMx (kMx (kMx (kMx (kMx (kMx (kMx (kMx (kMx (kMx (kMx 8009 (kSec (mce 0))) (kNan (mce 0))) a0) b0) (kSec (mce 1))) (kNan (mce 1))) a1) b1) (kSec (mce 2))) (kNan (mce 2))) a2) b2) (kSec (mce 3))) (kNan (mce 3))) a3) b3) g0) g1) g2) g3) (nI n)) (Nat.zero_le _) (by omega)
  rw [q_0] at p3
  have p1' := (ms_all (d := (kMx (kMx (kMx (kMx (kMx (kMx (kMx (kMx (kMx (kMx (kMx (kMx (kMx (kMx (kMx (kMx 8009 (kSec (mce 0))) (kNan (mce 0))) a0) b0) (kSec (mce 1))) (kNan (mce 1))) a1) b1) (kSec (mce 2))) (kNan (mce 2))) a2) b2) (kSec (mce 3))) (kNan (mce 3))) a3) b3)) j0 j1 j2 j3).trans p1
  obtain ⟨d3, q1, q3⟩ := df_loop (fr := fr) (un := un) (n := n) (w := w) (sb := sb) (se := se) (mbe := mbe) (men := men) (mwb := mwb) (mwe := mwe) (fo := fo2) (mov := mov) (ac := ac) (rf := rf) (kn := kn) hm hv e3 e4 hp v0' v1' v2' v3' v4' v5' r3 14 0 (kMx d2 (nI m)) (Nat.zero_le _) (by omega)
  have q1' := q1 24 (by omega)
  rw [q_0] at q1' q3
  obtain ⟨fb3, fe3, fo3, fc3, m0⟩ := ml_step (U := 24) (u := 23) (J := 1) (d := d3) (j := 0) rfl rfl (by omega) w0 fb2 fe2 fo2 (nI m)
  obtain ⟨fb4, fe4, fo4, fc4, m1⟩ := ml_step (U := 23) (u := 22) (J := 2) (d := (kMx d3 z0)) (j := 1) rfl rfl (by omega) w1 fb3 fe3 fo3 fc3
  obtain ⟨fb5, fe5, fo5, fc5, m2⟩ := ml_step (U := 22) (u := 21) (J := 3) (d := (kMx (kMx d3 z0) z1)) (j := 2) rfl rfl (by omega) w2 fb4 fe4 fo4 fc4
  obtain ⟨fb6, fe6, fo6, fc6, m3⟩ := ml_step (U := 21) (u := 20) (J := 4) (d := (kMx (kMx (kMx d3 z0) z1) z2)) (j := 3) rfl rfl (by omega) w3 fb5 fe5 fo5 fc5
  obtain ⟨fb7, fe7, fo7, fc7, m4⟩ := ml_step (U := 20) (u := 19) (J := 5) (d := (kMx (kMx (kMx (kMx d3 z0) z1) z2) z3)) (j := 4) rfl rfl (by omega) w4 fb6 fe6 fo6 fc6
  obtain ⟨fb8, fe8, fo8, fc8, m5⟩ := ml_step (U := 19) (u := 18) (J := 6) (d := (kMx (kMx (kMx (kMx (kMx d3 z0) z1) z2) z3) z4)) (j := 5) rfl rfl (by omega) w5 fb7 fe7 fo7 fc7
  have q2 : f_X1_mixFrees fr un sb se (nI n) fb2 fe2 fo2 (nI m) d2 = some ((kMx (kMx (kMx (kMx (kMx (kMx d3 z0) z1) z2) z3) z4) z5), fb8, fe8, fo8, fc8) := by
    unfold f_X1_mixFrees
    rw [f_X0_count, Option.bind_some, mix1, Option.bind_some, q_0, q1', m0, m1, m2, m3, m4, m5, ml_end (by omega)]
  obtain ⟨s, fb9, fe9, fo9, fc9, rm9, i1, i3⟩ := sound_both (fb := fb8) (fe := fe8) (fo := fo8) (fc := fc8) (rm := rm2) hS hn hf hu hfu hW hw
  obtain ⟨d5, o1, o3⟩ := dw_loop (ac := ac) (rf := rf) (kn := kn) hW hw (fun k h => (hk k h).1) i3 24 0 (kMx (kMx (kMx (kMx (kMx (kMx (kMx d3 z0) z1) z2) z3) z4) z5) (nI w)) (Nat.zero_le _) (by omega)
  have o1' : f_X1_mixWishes wb we (nI w) rm2 (kMx (kMx (kMx (kMx (kMx (kMx d3 z0) z1) z2) z3) z4) z5) = some d5 := by
    unfold f_X1_mixWishes
    rw [f_X0_count, Option.bind_some, mix1, Option.bind_some, q_0]; exact o1
  have hd := dg3 (mov := mov) (mwb := mwb) (mwe := mwe) (mwi := nI w) (ac := ac) (rf := rf) (kn := kn) s0' n0' t0' u0' s1' n1' t1' u1' s2' n2' t2' u2' s3' n3' t3' u3' k0' k1' k2' k3'
  rw [q_0] at hd
  have hX : f_X3_digest mce fr un mbe men mov (nI n) mwb mwe (nI w) ac rf kn = some (kMx (kMx (kMx (kMx d5 ac) rf) kn) (if s = 0 then 0 else 1), 0) :=
    hd.trans (p3.trans (q3.trans o3))
  by_cases hs : s = 0
  · refine ⟨kMx (kMx (kMx (kMx d5 ac) rf) kn) 0, fb9, fe9, fo9, fc9, rm9, ?_, ?_⟩
    · simp only [f_X1_digest, e1, r1, hC, p1', q2, o1', i1, Option.bind_some, mix1, if_pos hs, f_X1_digest_76]
    · rw [hX, if_pos hs]
  · refine ⟨kMx (kMx (kMx (kMx d5 ac) rf) kn) 1, fb9, fe9, fo9, fc9, rm9, ?_, ?_⟩
    · simp only [f_X1_digest, e1, r1, hC, p1', q2, o1', i1, Option.bind_some, mix1, if_neg hs, f_X1_digest_76]
    · rw [hX, if_neg hs]
end
-- 63.pure.lean.txt
section
/-! texts: the calls return (what they hold isn't looked at) -/
/-- all entries are bytes -/
abbrev kAf (v : Nat → Int32) : Prop := ∀ i, fits .byte (.int (v i)) = true
theorem kAf_0 : kAf (fun _ => 0) := fun _ => (by decide : fits .byte (.int 0) = true)
theorem kAf_32 : kAf (fun _ => 32) := fun _ => (by decide : fits .byte (.int 32) = true)
theorem nar_fits (x : Int32) : fits .byte (.int (vp_nar .byte x)) = true := by
  rw [vp_nar_byte]
  have h1 := Int8.le_toInt x.toInt8
  have h2 := Int8.toInt_lt x.toInt8
  have e : (x.toInt8.toInt32).toInt = x.toInt8.toInt := Int8.toInt_toInt32 _
  have e1 : (-128 : Int32).toInt = -128 := by decide
  have e2 : (127 : Int32).toInt = 127 := by decide
  show ((-128 ≤ x.toInt8.toInt32 && x.toInt8.toInt32 ≤ 127) : Bool) = true
  rw [Bool.and_eq_true_iff, decide_eq_true_iff, decide_eq_true_iff, le32, le32, e, e1, e2]
  omega
theorem kAf.upd {v : Nat → Int32} (h : kAf v) (j : Nat) (x : Int32) : kAf (upd v j (vp_nar .byte x)) := fun i => by
  rw [updI_at]
  by_cases e : i = j
  · rw [if_pos e]; exact nar_fits x
  · rw [if_neg e]; exact h i
theorem kAf.cpy {f g : Nat → Int32} (hf : kAf f) (hg : kAf g) (a b c : Nat) : kAf (va_cpy f g a b c) := fun i => by
  unfold va_cpy
  split
  · exact hf _
  · exact hg _
theorem kAf.fit {v : Nat → Int32} (h : kAf v) (o n : Nat) : kfit v o n := fun _ => h _
theorem m32 {x y : Int32} (h1 : -2147483648 ≤ x.toInt * y.toInt) (h2 : x.toInt * y.toInt < 2147483648) : (x * y).toInt = x.toInt * y.toInt := by
  rw [Int32.toInt_mul]; exact Int.bmod_eq_of_le (by omega) (by omega)
theorem c10' : (10 : Int32).toInt = 10 := by decide
theorem ss_loop {x d : Int32} {y : Nat} (hx : x.toInt = -(y : Int)) (hy : y ≤ 1000000000) : ∀ (u i : Nat) (p : Int32), 1 ≤ i → i ≤ 10 → 10 - i < u → (i < 10 → p.toInt = -((10 ^ i : Nat) : Int)) → ∃ s, 1 ≤ s ∧ s ≤ 10 ∧ y < 10 ^ s ∧ f_J6_stringSize_0f7a4_16 u x d p (nI i) = some (nI s + d) := by
  intro u
  induction u with
  | zero => intro i p h1 hi hf; omega
  | succ u ih =>
    intro i p h1 hi hf hp
    by_cases h : 10 ≤ i
    · have h' : (10 : Int32) ≤ nI i := (q_le (a := 10) (by omega) (by omega)).mpr h
      refine ⟨10, by omega, by omega, by omega, ?_⟩
      simp only [f_J6_stringSize_0f7a4_16, if_pos h']
      rfl
    · have h' : ¬ (10 : Int32) ≤ nI i := t49 (a := 10) (by omega) (by omega) h
      have hp' := hp (by omega)
      by_cases h2 : x ≤ p
      · have hm : i + 1 < 10 → ((10 : Int32) * p).toInt = -((10 ^ (i + 1) : Nat) : Int) := fun h3 => by
          have h4 : 10 ^ i ≤ 10 ^ 8 := Nat.pow_le_pow_right (by omega) (by omega)
          obtain ⟨Q, hQ⟩ : ∃ Q, Q = 10 ^ i := ⟨_, rfl⟩
          have hp2 := hp'
          rw [← hQ] at hp2 h4
          rw [m32 (by rw [c10', hp2]; omega) (by rw [c10', hp2]; omega), c10', hp2, Nat.pow_succ, ← hQ]
          omega
        obtain ⟨s, g1, g2, g3, g4⟩ := ih (i + 1) ((10 : Int32) * p) (by omega) (by omega) (by omega) hm
        refine ⟨s, g1, g2, g3, ?_⟩
        simp only [f_J6_stringSize_0f7a4_16, if_neg h', if_pos h2, q_s, g4]
      · refine ⟨i, h1, by omega, ?_, ?_⟩
        · rw [le32, hx, hp'] at h2
          omega
        · simp only [f_J6_stringSize_0f7a4_16, if_neg h', if_neg h2]
theorem b10 : (-10 : Int32).toInt = -10 := by decide
theorem ss_eq {v : Int32} (h1 : -1000000000 ≤ v.toInt) (h2 : v.toInt ≤ 1000000000) : ∃ (s sg y : Nat), sg ≤ 1 ∧ 1 ≤ s ∧ s ≤ 10 ∧ y < 10 ^ s ∧ y ≤ 1000000000 ∧ f_J6_stringSize_0f7a4 v = some (nI (s + sg)) ∧ ((sg = 0 ∧ 0 ≤ v.toInt ∧ (-v).toInt = -(y : Int)) ∨ (sg = 1 ∧ v.toInt < 0 ∧ v.toInt = -(y : Int))) := by
  have hp : ∀ i : Nat, i = 1 → (i < 10 → (-10 : Int32).toInt = -((10 ^ i : Nat) : Int)) := fun i hi _ => by rw [hi, b10]; rfl
  by_cases h : v < 0
  · have h' := h
    rw [lt32, i0] at h'
    obtain ⟨s, g1, g2, g3, g4⟩ := ss_loop (d := 1) (x := v) (y := (-v.toInt).toNat) (by omega) (by omega) 24 1 (-10) (by omega) (by omega) (by omega) (hp 1 rfl)
    refine ⟨s, 1, (-v.toInt).toNat, by omega, g1, g2, g3, by omega, ?_, Or.inr ⟨rfl, h', by omega⟩⟩
    have g4' : f_J6_stringSize_0f7a4_16 24 v 1 (-10) 1 = some (nI s + 1) := g4
    simp only [f_J6_stringSize_0f7a4, if_pos h, g4', q_s]
  · have h' := h
    rw [lt32, i0] at h'
    have en : (-v).toInt = -v.toInt := by
      rw [Int32.toInt_neg]; exact Int.bmod_eq_of_le (by omega) (by omega)
    obtain ⟨s, g1, g2, g3, g4⟩ := ss_loop (d := 0) (x := -v) (y := v.toInt.toNat) (by omega) (by omega) 24 1 (-10) (by omega) (by omega) (by omega) (hp 1 rfl)
    refine ⟨s, 0, v.toInt.toNat, by omega, g1, g2, g3, by omega, ?_, Or.inl ⟨rfl, by omega, by omega⟩⟩
    have g4' : f_J6_stringSize_0f7a4_16 24 (-v) 0 (-10) 1 = some (nI s + 0) := g4
    simp only [f_J6_stringSize_0f7a4, if_neg h, g4', Int32.add_zero, Nat.add_zero]
theorem nI_m {a : Nat} : nI (a + 1) + (-1) = nI a := by
  rw [← Int32.sub_eq_add_neg]; exact nI_pred a
theorem div100 {x : Int32} {y : Nat} (hx : x.toInt = -(y : Int)) (hy : y ≤ 1000000000) : (x / 100).toInt = -((y / 100 : Nat) : Int) ∧ ((x / 100) * (100 : Int32) - x).toInt = ((y % 100 : Nat) : Int) := by
  have e1 : (100 : Int32).toInt = 100 := by decide
  have hd : (x / 100).toInt = -((y / 100 : Nat) : Int) := by
    rw [Int32.toInt_div, e1, hx, Int.neg_tdiv, Int.tdiv_eq_ediv_of_nonneg (by omega)]
    exact Int.bmod_eq_of_le (by omega) (by omega)
  refine ⟨hd, ?_⟩
  have hm : ((x / 100) * (100 : Int32)).toInt = -((y / 100 : Nat) : Int) * 100 := by
    rw [m32 (by rw [hd, e1]; omega) (by rw [hd, e1]; omega), hd, e1]
  rw [Int32.toInt_sub, hm, hx]
  rw [Int.bmod_eq_of_le (by omega) (by omega)]
  omega
theorem gc_loop {n : Nat} {sg : Nat} {x6 : Int32} (hn : n ≤ 64) (hsg : (sg = 0 ∧ x6 = 0) ∨ (sg = 1 ∧ ¬ x6 = 0)) : ∀ (u s c y : Nat) (x : Int32) (v : Nat → Int32), 1 ≤ s → s < 2 * u → s ≤ 10 → y < 10 ^ s → y ≤ 1000000000 → x.toInt = -(y : Int) → c + s + sg ≤ n → kAf v → ∃ r v', f_J6_getChars_ba4f3_22 n u v x (nI (c + s + sg)) x6 = some (r, v') ∧ kAf v' := by
  intro u
  induction u with
  | zero => intro s c y x v h1 h2; omega
  | succ u ih =>
    intro s c y x v h1 h2 h3 hy hy9 hx hc hv
    have e100 : (-100 : Int32).toInt = -100 := by decide
    have e9 : (-9 : Int32).toInt = -9 := by decide
    obtain ⟨t, rfl⟩ : ∃ t, s = t + 1 := ⟨s - 1, by omega⟩
    have p1 : nI (c + (t + 1) + sg) + (-1) = nI (c + t + sg) := by
      rw [show c + (t + 1) + sg = c + t + sg + 1 by omega]; exact nI_m
    have a1 : ix (nI (c + t + sg)) n := q_ix (by omega) (by omega)
    by_cases hbig : y ≤ 99
    · have g0 : (-100 : Int32) < x := by rw [lt32, e100, hx]; omega
      have en : (-x).toInt = (y : Int) := by
        rw [Int32.toInt_neg, Int.bmod_eq_of_le (by omega) (by omega)]; omega
      have g1 : ix (-x) 100 := ⟨by omega, by omega⟩
      by_cases hs : y ≤ 9
      · have g2 : (-9 : Int32) ≤ x := by rw [le32, e9, hx]; omega
        rcases hsg with ⟨hs0, hs1⟩ | ⟨hs0, hs1⟩
        · simp only [f_J6_getChars_ba4f3_22, if_pos g0, if_pos g1, p1, if_pos a1, if_pos g2, if_pos hs1]
          exact ⟨_, _, rfl, hv.upd _ _⟩
        · have p2 : nI (c + t + sg) + (-1) = nI (c + t) := by rw [hs0]; exact nI_m
          have a2 : ix (nI (c + t)) n := q_ix (by omega) (by omega)
          simp only [f_J6_getChars_ba4f3_22, if_pos g0, if_pos g1, p1, if_pos a1, if_pos g2, if_neg hs1, p2, if_pos a2]
          exact ⟨_, _, rfl, (hv.upd _ _).upd _ _⟩
      · have g2 : ¬ (-9 : Int32) ≤ x := by rw [le32, e9, hx]; omega
        have ht : 1 ≤ t := by
          by_cases h0 : t = 0
          · rw [h0] at hy; omega
          · omega
        obtain ⟨t2, rfl⟩ : ∃ t2, t = t2 + 1 := ⟨t - 1, by omega⟩
        have p2 : nI (c + (t2 + 1) + sg) + (-1) = nI (c + t2 + sg) := by
          rw [show c + (t2 + 1) + sg = c + t2 + sg + 1 by omega]; exact nI_m
        have a2 : ix (nI (c + t2 + sg)) n := q_ix (by omega) (by omega)
        rcases hsg with ⟨hs0, hs1⟩ | ⟨hs0, hs1⟩
        · simp only [f_J6_getChars_ba4f3_22, if_pos g0, if_pos g1, p1, if_pos a1, if_neg g2, p2, if_pos a2, if_pos hs1]
          exact ⟨_, _, rfl, (hv.upd _ _).upd _ _⟩
        · have p3 : nI (c + t2 + sg) + (-1) = nI (c + t2) := by rw [hs0]; exact nI_m
          have a3 : ix (nI (c + t2)) n := q_ix (by omega) (by omega)
          simp only [f_J6_getChars_ba4f3_22, if_pos g0, if_pos g1, p1, if_pos a1, if_neg g2, p2, if_pos a2, if_neg hs1, p3, if_pos a3]
          exact ⟨_, _, rfl, ((hv.upd _ _).upd _ _).upd _ _⟩
    · have g0 : ¬ (-100 : Int32) < x := by rw [lt32, e100, hx]; omega
      obtain ⟨d1, d2⟩ := div100 hx hy9
      have g1 : ix ((x / 100) * (100 : Int32) - x) 100 := ⟨by omega, by omega⟩
      have ht : 2 ≤ t := by
        by_cases h0 : t = 0
        · rw [h0] at hy; omega
        · by_cases h4 : t = 1
          · rw [h4] at hy; omega
          · omega
      obtain ⟨t2, rfl⟩ : ∃ t2, t = t2 + 1 := ⟨t - 1, by omega⟩
      have p2 : nI (c + (t2 + 1) + sg) + (-1) = nI (c + t2 + sg) := by
        rw [show c + (t2 + 1) + sg = c + t2 + sg + 1 by omega]; exact nI_m
      have a2 : ix (nI (c + t2 + sg)) n := q_ix (by omega) (by omega)
      have hy2 : y / 100 < 10 ^ t2 := by
        rw [Nat.pow_succ, Nat.pow_succ] at hy
        omega
      obtain ⟨r, v', g5, g6⟩ := ih t2 c (y / 100) (x / 100) _ (by omega) (by omega) (by omega) hy2 (by omega) d1 (by omega) ((hv.upd (nI (c + (t2 + 1) + sg)).toNatClampNeg (kOnes (((x / 100) * (100 : Int32)) - x).toNatClampNeg)).upd (nI (c + t2 + sg)).toNatClampNeg (kTens (((x / 100) * (100 : Int32)) - x).toNatClampNeg))
      refine ⟨r, v', ?_, g6⟩
      simp only [f_J6_getChars_ba4f3_22, if_neg g0, if_pos g1, p1, if_pos a1, p2, if_pos a2, g5]
/-- a buffer: of 16 bytes, or grown to 34; t of them are written -/
abbrev kBuf (n : Nat) (v : Nat → Int32) : Prop := (n = 16 ∨ n = 34) ∧ kAf v
theorem sh0 : (16 : Int32) >>> ((0 : Int32) &&& 31) = nI 16 ∧ (34 : Int32) >>> ((0 : Int32) &&& 31) = nI 34 := by decide
theorem cap34 : ∀ t, t < 35 → 16 < t → f_J5_newCapacity_0f7a4 16 (nI t) = some (nI 34) := by decide +kernel
theorem ens {n t : Nat} {v : Nat → Int32} {k : Int32} (hb : kBuf n v) (ht : t ≤ 34) : ∃ n' v', f_J5_ensureCapacityInternal_d00df n v k (nI t) = some (n', v', k) ∧ kBuf n' v' ∧ t ≤ n' := by
  obtain ⟨hn, hv⟩ := hb
  have sub : ∀ m : Nat, m ≤ 34 → ((nI t - nI m) ≤ 0 ↔ t ≤ m) := fun m hm => by
    rw [le32, i0, Int32.toInt_sub, nI_toInt (by omega), nI_toInt (by omega), Int.bmod_eq_of_le (by omega) (by omega)]
    omega
  have e16 : (Int32.ofNat 16) >>> ((0 : Int32) &&& 31) = nI 16 := by decide
  have e34 : (Int32.ofNat 34) >>> ((0 : Int32) &&& 31) = nI 34 := by decide
  rcases hn with rfl | rfl
  · by_cases h : t ≤ 16
    · have h' := (sub 16 (by omega)).mpr h
      refine ⟨16, v, ?_, ⟨Or.inl rfl, hv⟩, h⟩
      simp only [f_J5_ensureCapacityInternal_d00df, e16, if_pos h']
    · have h' : ¬ (nI t - nI 16) ≤ 0 := fun z => h ((sub 16 (by omega)).mp z)
      have eS : nI 34 <<< ((0 : Int32) &&& 31) = nI 34 := by decide
      have c1 : ¬ nI 34 = Int32.ofNat 16 := by decide
      have c2 : ix (nI 34) 65 := q_ix (by omega) (by omega)
      have c3 : (if nI 34 < Int32.ofNat 16 then nI 34 else Int32.ofNat 16) = nI 16 := by decide
      have c4 : (nI 34).toNatClampNeg = 34 := q_cl (by omega)
      have c5 : kcp v (0 : Int32) (0 : Int32) (nI 16) 16 34 := by
        have z16 : (nI 16).toNatClampNeg = 16 := q_cl (by omega)
        refine ⟨by decide, by decide, by decide, by decide, by decide, ?_⟩
        exact hv.fit _ _
      refine ⟨34, va_cpy v (fun _ => 0) (0 : Int32).toNatClampNeg (0 : Int32).toNatClampNeg (nI 16).toNatClampNeg, ?_, ⟨Or.inr rfl, hv.cpy kAf_0 _ _ _⟩, by omega⟩
      simp only [f_J5_ensureCapacityInternal_d00df, e16, if_neg h', cap34 t (by omega) (by omega), Option.bind_some, eS, f_J7_copyOf_9075b, if_neg c1, if_pos c2, c3, c4, if_pos c5]
  · have h' := (sub 34 (by omega)).mpr ht
    refine ⟨34, v, ?_, ⟨Or.inr rfl, hv⟩, ht⟩
    simp only [f_J5_ensureCapacityInternal_d00df, e34, if_pos h']
theorem kBuf.le {n : Nat} {v : Nat → Int32} (h : kBuf n v) : n ≤ 64 := by
  rcases h.1 with h | h <;> omega
theorem app_int {n t : Nat} {v : Nat → Int32} {p : Int32} (hb : kBuf n v) (ht : t ≤ 12) (h1 : -1000000000 ≤ p.toInt) (h2 : p.toInt ≤ 1000000000) : ∃ n' v' t', f_J4_append_bf812 n v (nI t) p = some (n', v', nI t') ∧ kBuf n' v' ∧ t' ≤ n' ∧ t ≤ t' ∧ t' ≤ t + 11 := by
  obtain ⟨s, sg, y, h3, h4, h5, h6, h7, e1, hc⟩ := ss_eq h1 h2
  obtain ⟨n', v', e2, hb', hl⟩ := ens (k := nI t) (t := t + (s + sg)) hb (by omega)
  have ea : nI t + nI (s + sg) = nI (t + (s + sg)) := nI_add _ _
  have e0 : ¬ (1 : Int32) = 0 := by decide
  obtain ⟨r, v2, e3, hv2⟩ : ∃ r v2, f_J6_getChars_ba4f3 n' v' p (nI (t + (s + sg))) = some (r, v2) ∧ kAf v2 := by
    rcases hc with ⟨c1, c2, c3⟩ | ⟨c1, c2, c3⟩
    · have g : (0 : Int32) ≤ p := by rw [le32, i0]; exact c2
      obtain ⟨r, v2, e3, hv2⟩ := gc_loop (x6 := 0) (sg := sg) hb'.le (Or.inl ⟨c1, rfl⟩) 24 s t y (-p) v' h4 (by omega) h5 h6 h7 c3 (by omega) hb'.2
      refine ⟨r, v2, ?_, hv2⟩
      simp only [f_J6_getChars_ba4f3, if_pos g]
      rw [← Nat.add_assoc]; exact e3
    · have g : ¬ (0 : Int32) ≤ p := by rw [le32, i0]; omega
      obtain ⟨r, v2, e3, hv2⟩ := gc_loop (x6 := 1) (sg := sg) hb'.le (Or.inr ⟨c1, e0⟩) 24 s t y p v' h4 (by omega) h5 h6 h7 c3 (by omega) hb'.2
      refine ⟨r, v2, ?_, hv2⟩
      simp only [f_J6_getChars_ba4f3, if_neg g]
      rw [← Nat.add_assoc]; exact e3
  refine ⟨n', v2, t + (s + sg), ?_, ⟨hb'.1, hv2⟩, hl, by omega, by omega⟩
  simp only [f_J4_append_bf812, f_J5_append_c97b9, e1, Option.bind_some, ea, e2, f_J5_isLatin1_aae02, t10, if_false, e3]
theorem app_chr {n t : Nat} {v : Nat → Int32} (hb : kBuf n v) (ht : t ≤ 12) : ∃ n' v', f_J4_append_cf468 n v (nI t) 32 = some (n', v', nI (t + 1)) ∧ kBuf n' v' ∧ t + 1 ≤ n' := by
  obtain ⟨n', v', e2, hb', hl⟩ := ens (k := nI t) (t := t + 1) hb (by omega)
  have hl' := hb'.le
  have a1 : ix (nI t) n' := q_ix (by omega) (by omega)
  have g : ¬ (255 : Int32) < 32 := by decide
  refine ⟨n', _, ?_, ⟨hb'.1, hb'.2.upd (nI t).toNatClampNeg (32 : Int32).toInt8.toInt32⟩, hl⟩
  simp only [f_J4_append_cf468, f_J5_append_3fe6f, q_s, e2, Option.bind_some, f_J5_isLatin1_aae02, t10, if_false, f_J1_canEncode_fc78d, if_neg g, if_pos a1]
theorem app_str {n t : Nat} {v : Nat → Int32} (hb : kBuf n v) (ht : t ≤ 12) : ∃ n' v', f_J4_append_15ec4 n v (nI t) = some (n', v', nI (t + 1)) ∧ kBuf n' v' ∧ t + 1 ≤ n' := by
  obtain ⟨n', v', e2, hb', hl⟩ := ens (k := nI t) (t := t + 1) hb (by omega)
  have e1 : (1 : Int32) >>> ((0 : Int32) &&& 31) = 1 := by decide
  have eS : nI t <<< ((0 : Int32) &&& 31) = nI t := by
    have h : ∀ t, t < 13 → nI t <<< ((0 : Int32) &&& 31) = nI t := by decide +kernel
    exact h t (by omega)
  have c4 : (nI t).toNatClampNeg = t := q_cl (by omega)
  have c5 : kcp (fun _ => 32) (0 : Int32) (nI t) (1 : Int32) 1 n' := by
    refine ⟨by decide, ?_, by decide, by decide, ?_, ?_⟩
    · rw [nI_lt0 (show t ≤ 65536 by omega)]; exact id
    · rw [c4]; exact hl
    · exact kAf_32.fit _ _
  refine ⟨n', _, ?_, ⟨hb'.1, kAf_32.cpy hb'.2 (0 : Int32).toNatClampNeg (nI t).toNatClampNeg (1 : Int32).toNatClampNeg⟩, hl⟩
  simp only [f_J4_append_15ec4, f_J5_append_cf1ce, f_J0_length_8abf5, f_J0_coder_7d493, Option.bind_some, e1, q_s, e2, f_J5_putStringAt_47b60, f_J5_inflateIfNeededFor_a7421, if_true, f_J0_getBytes_840e7, eS, if_pos c5]
theorem to_str {n t : Nat} {v : Nat → Int32} (hb : kBuf n v) (ht : t ≤ n) : f_J4_toString_0e30d n v (nI t) = some () := by
  have hl := hb.le
  have c4 : (nI t).toNatClampNeg = t := q_cl (by omega)
  have e0 : nI t - 0 = nI t := Int32.sub_zero _
  have en : Int32.ofNat n - 0 = nI n := Int32.sub_zero _
  have h0 : (0 : Int32) ≤ nI t := Int32.not_lt.mp (by rw [nI_lt0 (show t ≤ 65536 by omega)]; exact id)
  have e9 : f_J7_copyOfRange_39247 n v 0 (nI t) = some () := by
    by_cases h : nI t = Int32.ofNat n
    · have hk : kfit v 0 n ∧ n ≤ 64 := ⟨hb.2.fit _ _, hl⟩
      simp only [f_J7_copyOfRange_39247, if_true, if_pos h, if_pos hk]
    · have hlt : nI t < nI n := by
        rw [q_lt (by omega) (by omega)]
        by_cases e : t = n
        · rw [e] at h; exact absurd rfl h
        · omega
      have c2 : ix (nI t) 65 := q_ix (by omega) (by omega)
      have c5 : kcp v (0 : Int32) (0 : Int32) (nI t) n t := by
        refine ⟨by decide, by decide, ?_, ?_, ?_, ?_⟩
        · rw [nI_lt0 (show t ≤ 65536 by omega)]; exact id
        · rw [c4]; exact (show 0 + t ≤ n by omega)
        · rw [c4]; exact (show 0 + t ≤ t by omega)
        · exact hb.2.fit _ _
      simp only [f_J7_copyOfRange_39247, if_true, if_neg h, f_J7_copyOfRange_39247_10, f_J7_copyOfRangeByte_39247, f_J7_checkLength_df160, if_pos h0, Option.bind_some, e0, en, if_pos c2, if_pos hlt, c4, if_pos c5]
  simp only [f_J4_toString_0e30d, f_J0_init_81219, f_J0_init_db425, f_J5_getValue_6d5f1, f_J4_length_8abf5, f_J5_length_8abf5, f_J5_isLatin1_aae02, Option.bind_some, t10, if_false, e9]
theorem sb_new : ∃ n v, f_J4_init_da8c8 = some (n, v, nI 0) ∧ kBuf n v := by
  have a : ix (16 : Int32) 17 := by decide
  refine ⟨(16 : Int32).toNatClampNeg, fun _ => 0, ?_, ⟨Or.inl rfl, kAf_0⟩⟩
  simp only [f_J4_init_da8c8, f_J5_init_d00df, if_pos a, Option.bind_some]
  rfl
theorem kSec_r {x : Int64} (h : kLet x) : -1000000000 ≤ (kSec x).toInt ∧ (kSec x).toInt ≤ 1000000000 := by
  have h1 := h.1; have h2 := h.2
  have e : (kSec x).toInt = x.toInt / 1000000000 := by
    unfold kSec
    rw [Int32.toInt_ofInt]
    show (x.toInt / 1000000000).bmod 4294967296 = _
    exact Int.bmod_eq_of_le (by omega) (by omega)
  omega
theorem kNan_r {x : Int64} : -1000000000 ≤ (kNan x).toInt ∧ (kNan x).toInt ≤ 1000000000 := by
  have e : (kNan x).toInt = x.toInt % 1000000000 := by
    unfold kNan
    rw [Int32.toInt_ofInt]
    show (x.toInt % 1000000000).bmod 4294967296 = _
    exact Int.bmod_eq_of_le (by omega) (by omega)
  omega
theorem ob_text {ce mce : Nat → Int64} {p0 : Int32} (hc : kCe ce mce) : ∃ c, f_L_text ce p0 = some c ∧ f_X3_text mce p0 = some c := by
  by_cases h0 : ix p0 4
  · have hl := hc.let h0
    obtain ⟨n0, v0, e0, hb0⟩ := sb_new
    have r1 := kSec_r hl
    have r2 := kNan_r (x := mce p0.toNatClampNeg)
    obtain ⟨n1, v1, t1, e1, hb1, h1, -, h2⟩ := app_int (t := 0) hb0 (by omega) r1.1 r1.2
    obtain ⟨n2, v2, e2, hb2, h3⟩ := app_chr hb1 (show t1 ≤ 12 by omega)
    obtain ⟨n3, v3, t3, e3, hb3, h4, -, h5⟩ := app_int hb2 (show t1 + 1 ≤ 12 by omega) r2.1 r2.2
    obtain ⟨n4, v4, e4, hb4, h6⟩ := app_str hb1 (show t1 ≤ 12 by omega)
    obtain ⟨n5, v5, t5, e5, hb5, h7, -, h8⟩ := app_int hb4 (show t1 + 1 ≤ 12 by omega) r2.1 r2.2
    refine ⟨0, ?_, ?_⟩
    · simp only [f_L_text, fx_X1_text, f_X1_text, (needCell h0).1, (needCell h0).2, xb_n, Option.bind_some, e0, if_pos h0, hc.eq h0, sec1 hl.wide, nan1 hl.wide, e1, e2, e3, to_str hb3 h4]
    · simp only [f_X3_text, f_X3_text_13, is3, if_pos h0, t10, if_false, thrown3', if_true, Option.bind_some, e0, sec3 hl.wide, nan3 hl.wide, e1, e4, e5, to_str hb5 h7]
  · refine ⟨1, ?_, ?_⟩
    · simp only [f_L_text, fx_X1_text, (needCellN h0).1, (needCellN h0).2, xb_s, u12, if_true]
    · simp only [f_X3_text, f_X3_text_13, is3, if_neg h0, if_true, thrown3', t10, if_false, Option.bind_some]
end
-- 65.bools.lean.txt
section
/-! answers that are booleans -/
abbrev kObB (A : Option (Int32 × Int64)) (B : Option (Int32 × Int32)) : Prop := ∃ r r', A = some r ∧ B = some r' ∧ r'.2 = r.1 ∧ (r.1 = 0 → (r'.1 = 0 ∧ r.2 = 0) ∨ (r'.1 = 1 ∧ r.2 = 1))
theorem obb_isBefore {ce mce : Nat → Int64} {on : Int64} {p0 p1 : Int32} (hc : kCe ce mce) : kObB (f_L_isBefore ce on p0 p1) (f_X3_isBefore mce p0 p1) := by
  by_cases hh : ix p0 4 ∧ ix p1 4
  · obtain ⟨h0, h1⟩ := hh
    by_cases h2 : mce p1.toNatClampNeg ≤ mce p0.toNatClampNeg
    · simp only [kObB, f_L_isBefore, fx_X1_isBefore, f_X1_isBefore, f_X3_isBefore, areNone3, (needCell h0).1, (needCell h0).2, (needCell h1).1, (needCell h1).2, xb_n, if_pos (And.intro h0 h1), if_pos h0, if_pos h1, hc.eq h0, hc.eq h1, if_pos h2, Option.bind_some, if_true, t10, t00, if_false]
      exact ⟨_, _, rfl, rfl, rfl, fun _ => Or.inl ⟨rfl, rfl⟩⟩
    · simp only [kObB, f_L_isBefore, fx_X1_isBefore, f_X1_isBefore, f_X3_isBefore, areNone3, (needCell h0).1, (needCell h0).2, (needCell h1).1, (needCell h1).2, xb_n, if_pos (And.intro h0 h1), if_pos h0, if_pos h1, hc.eq h0, hc.eq h1, if_neg h2, Option.bind_some, if_true, t10, t00, if_false]
      exact ⟨_, _, rfl, rfl, rfl, fun _ => Or.inr ⟨rfl, rfl⟩⟩
  · rcases two_bad hh with h0 | ⟨h0, h1⟩
    · simp only [kObB, f_L_isBefore, fx_X1_isBefore, f_X3_isBefore, areNone3, (needCellN h0).1, (needCellN h0).2, xb_s, if_neg hh, Option.bind_some, if_true, t10, u12, if_false]
      exact ⟨_, _, rfl, rfl, rfl, fun z => no1 z⟩
    · simp only [kObB, f_L_isBefore, fx_X1_isBefore, f_X3_isBefore, areNone3, (needCell h0).1, (needCell h0).2, (needCellN h1).1, (needCellN h1).2, xb_s, xb_n, if_neg hh, Option.bind_some, if_true, t10, u12, if_false]
      exact ⟨_, _, rfl, rfl, rfl, fun z => no1 z⟩
theorem obb_isAfter {ce mce : Nat → Int64} {on : Int64} {p0 p1 : Int32} (hc : kCe ce mce) : kObB (f_L_isAfter ce on p0 p1) (f_X3_isAfter mce p0 p1) := by
  by_cases hh : ix p0 4 ∧ ix p1 4
  · obtain ⟨h0, h1⟩ := hh
    by_cases h2 : mce p0.toNatClampNeg ≤ mce p1.toNatClampNeg
    · simp only [kObB, f_L_isAfter, fx_X1_isAfter, f_X1_isAfter, f_X3_isAfter, areNone3, (needCell h0).1, (needCell h0).2, (needCell h1).1, (needCell h1).2, xb_n, if_pos (And.intro h0 h1), if_pos h0, if_pos h1, hc.eq h0, hc.eq h1, if_pos h2, Option.bind_some, if_true, t10, t00, if_false]
      exact ⟨_, _, rfl, rfl, rfl, fun _ => Or.inl ⟨rfl, rfl⟩⟩
    · simp only [kObB, f_L_isAfter, fx_X1_isAfter, f_X1_isAfter, f_X3_isAfter, areNone3, (needCell h0).1, (needCell h0).2, (needCell h1).1, (needCell h1).2, xb_n, if_pos (And.intro h0 h1), if_pos h0, if_pos h1, hc.eq h0, hc.eq h1, if_neg h2, Option.bind_some, if_true, t10, t00, if_false]
      exact ⟨_, _, rfl, rfl, rfl, fun _ => Or.inr ⟨rfl, rfl⟩⟩
  · rcases two_bad hh with h0 | ⟨h0, h1⟩
    · simp only [kObB, f_L_isAfter, fx_X1_isAfter, f_X3_isAfter, areNone3, (needCellN h0).1, (needCellN h0).2, xb_s, if_neg hh, Option.bind_some, if_true, t10, u12, if_false]
      exact ⟨_, _, rfl, rfl, rfl, fun z => no1 z⟩
    · simp only [kObB, f_L_isAfter, fx_X1_isAfter, f_X3_isAfter, areNone3, (needCell h0).1, (needCell h0).2, (needCellN h1).1, (needCellN h1).2, xb_s, xb_n, if_neg hh, Option.bind_some, if_true, t10, u12, if_false]
      exact ⟨_, _, rfl, rfl, rfl, fun z => no1 z⟩
theorem obb_same {ce mce : Nat → Int64} {on : Int64} {p0 p1 p2 : Int32} (hc : kCe ce mce) : kObB (f_L_same ce on p0 p1 p2) (f_X3_same mce p0 p1 p2) := by
  by_cases h0 : ix p0 4
  · by_cases h1 : ix p1 4
    · by_cases h : 0 ≤ p2.toInt ∧ p2.toInt ≤ 2
      · have hM : f_X3_same_20 mce p0 p1 p2 0 = f_X3_same_34 mce p0 p1 p2 0 0 := (arg3 p2 2 (f_X3_same_29 mce p0 p1 p2 0) (f_X3_same_34 mce p0 p1 p2 0 0)).trans (if_pos (by rw [c2]; exact h))
        by_cases h2 : p2 = 2
        · simp only [kObB, f_L_same, fx_X1_same, f_X1_same, (needCell h0).1, (needCell h0).2, (needCell h1).1, (needCell h1).2, withinq, i0, c2, if_pos h, needThat1.1, needThat1.2, xb_n, Option.bind_some, if_pos h2, t10, t00, if_false, if_true, f_X3_same, is3, if_pos h0, if_pos h1, hM, f_X3_same_34, thrown3]
          exact ⟨_, _, rfl, rfl, rfl, fun _ => Or.inr ⟨rfl, rfl⟩⟩
        · by_cases h3 : mce p0.toNatClampNeg = mce p1.toNatClampNeg
          · simp only [kObB, f_L_same, fx_X1_same, f_X1_same, (needCell h0).1, (needCell h0).2, (needCell h1).1, (needCell h1).2, withinq, i0, c2, if_pos h, needThat1.1, needThat1.2, xb_n, Option.bind_some, if_neg h2, hc.eq h0, hc.eq h1, if_pos h3, t10, t00, if_false, if_true, f_X3_same, is3, if_pos h0, if_pos h1, hM, f_X3_same_34, thrown3]
            exact ⟨_, _, rfl, rfl, rfl, fun _ => Or.inr ⟨rfl, rfl⟩⟩
          · simp only [kObB, f_L_same, fx_X1_same, f_X1_same, (needCell h0).1, (needCell h0).2, (needCell h1).1, (needCell h1).2, withinq, i0, c2, if_pos h, needThat1.1, needThat1.2, xb_n, Option.bind_some, if_neg h2, hc.eq h0, hc.eq h1, if_neg h3, t10, t00, if_false, if_true, f_X3_same, is3, if_pos h0, if_pos h1, hM, f_X3_same_34, thrown3]
            exact ⟨_, _, rfl, rfl, rfl, fun _ => Or.inl ⟨rfl, rfl⟩⟩
      · have hM : f_X3_same_20 mce p0 p1 p2 0 = f_X3_same_29 mce p0 p1 p2 0 := (arg3 p2 2 (f_X3_same_29 mce p0 p1 p2 0) (f_X3_same_34 mce p0 p1 p2 0 0)).trans (if_neg (by rw [c2]; exact h))
        simp only [kObB, f_L_same, fx_X1_same, (needCell h0).1, (needCell h0).2, (needCell h1).1, (needCell h1).2, withinq, i0, c2, if_neg h, needThat0.1, needThat0.2, xb_n, xb_s, Option.bind_some, u21, t10, t00, if_false, if_true, f_X3_same, is3, if_pos h0, if_pos h1, hM, f_X3_same_29, f_X3_same_34, thrown3]
        exact ⟨_, _, rfl, rfl, rfl, fun z => no2 z⟩
    · have q : ∀ y, f_X3_same_34 mce p0 p1 p2 y 1 = some (0, 1) := fun y => by simp only [f_X3_same_34, isT1, Option.bind_some, t10, if_false]
      simp only [kObB, f_L_same, fx_X1_same, (needCell h0).1, (needCell h0).2, (needCellN h1).1, (needCellN h1).2, xb_n, xb_s, Option.bind_some, u12, if_true, t10, t00, if_false, f_X3_same, is3, if_pos h0, if_neg h1, f_X3_same_15, f_X3_same_20, f_X3_same_29, q, ite_self]
      exact ⟨_, _, rfl, rfl, rfl, fun z => no1 z⟩
  · have q : ∀ y, f_X3_same_34 mce p0 p1 p2 y 1 = some (0, 1) := fun y => by simp only [f_X3_same_34, isT1, Option.bind_some, t10, if_false]
    simp only [kObB, f_L_same, fx_X1_same, (needCellN h0).1, (needCellN h0).2, xb_s, Option.bind_some, u12, if_true, t00, f_X3_same, is3, if_neg h0, f_X3_same_15, f_X3_same_20, f_X3_same_29, q, ite_self]
    exact ⟨_, _, rfl, rfl, rfl, fun z => no1 z⟩
theorem obb_meets {n : Nat} {sb se mbe men : Nat → Int64} {on : Int64} {p0 p1 : Int32} (hR : kRow n sb se mbe men) (hn : n ≤ 10) : kObB (f_L_meets sb se (nI n) on p0 p1) (f_X3_meets mbe men (nI n) p0 p1) := by
  have hN : n ≤ 65536 := by omega
  by_cases h0 : ix p0 n
  · by_cases h1 : ix p1 n
    · obtain ⟨z1, z2, -⟩ := hR _ (cl_lt h0)
      obtain ⟨y1, y2, -⟩ := hR _ (cl_lt h1)
      by_cases h : mbe p0.toNatClampNeg < men p1.toNatClampNeg ∧ mbe p1.toNatClampNeg < men p0.toNatClampNeg
      · simp only [kObB, f_L_meets, fx_X1_meets, f_X1_meets, numIn hN, isSpan3 hN, if_pos h0, if_pos h1, xb_n, Option.bind_some, doMeet (show n ≤ 11 by omega) h0 h1, z1, z2, y1, y2, if_pos h, t10, t00, if_true, if_false, f_X3_meets, f_X3_meets_22, thrown3', if_pos (ix_mono h0 hn), if_pos (ix_mono h1 hn), meet3]
        exact ⟨_, _, rfl, rfl, rfl, fun _ => Or.inr ⟨rfl, rfl⟩⟩
      · simp only [kObB, f_L_meets, fx_X1_meets, f_X1_meets, numIn hN, isSpan3 hN, if_pos h0, if_pos h1, xb_n, Option.bind_some, doMeet (show n ≤ 11 by omega) h0 h1, z1, z2, y1, y2, if_neg h, t10, t00, if_true, if_false, f_X3_meets, f_X3_meets_22, thrown3', if_pos (ix_mono h0 hn), if_pos (ix_mono h1 hn), meet3]
        exact ⟨_, _, rfl, rfl, rfl, fun _ => Or.inl ⟨rfl, rfl⟩⟩
    · simp only [kObB, f_L_meets, fx_X1_meets, numIn hN, isSpan3 hN, if_pos h0, if_neg h1, xb_n, xb_s, u12, if_true, Option.bind_some, f_X3_meets, f_X3_meets_17, f_X3_meets_22, thrown3', t10, t00, if_false]
      exact ⟨_, _, rfl, rfl, rfl, fun z => no1 z⟩
  · simp only [kObB, f_L_meets, fx_X1_meets, numIn hN, isSpan3 hN, if_neg h0, xb_s, u12, if_true, Option.bind_some, f_X3_meets, f_X3_meets_17, f_X3_meets_22, thrown3', t10, t00, if_false]
    exact ⟨_, _, rfl, rfl, rfl, fun z => no1 z⟩
theorem obb_isFree {ce mce : Nat → Int64} {fr un : Int64} {n : Nat} {sb se mbe men : Nat → Int64} {on : Int64} {p0 p1 : Int32} (hc : kCe ce mce) (hR : kRow n sb se mbe men) (hn : n ≤ 10) : kObB (f_L_isFree ce fr un sb se (nI n) on p0 p1) (f_X3_isFree mce fr un mbe men (nI n) p0 p1) := by
  by_cases hh : ix p0 4 ∧ ix p1 4
  · obtain ⟨h0, h1⟩ := hh
    by_cases h2 : mce p1.toNatClampNeg ≤ mce p0.toNatClampNeg
    · simp only [kObB, f_L_isFree, fx_X1_isFree, f_X1_isFree, f_X3_isFree, areNone3, (needCell h0).1, (needCell h0).2, (needCell h1).1, (needCell h1).2, xb_n, if_pos (And.intro h0 h1), if_pos h0, if_pos h1, hc.eq h0, hc.eq h1, if_pos h2, Option.bind_some, if_true]
      exact ⟨_, _, rfl, rfl, rfl, fun _ => Or.inl ⟨rfl, rfl⟩⟩
    · by_cases h3 : fr ≤ mce p0.toNatClampNeg ∧ mce p1.toNatClampNeg ≤ un
      · have hs := fm_same hR (mce p0.toNatClampNeg) (mce p1.toNatClampNeg) (-1)
        by_cases h5 : kF (fun k => decide (nI k ≠ -1 ∧ sb k < mce p1.toNatClampNeg ∧ mce p0.toNatClampNeg < se k)) 0 n = -1
        · have h6 : kF (fun k => decide (nI k ≠ -1 ∧ mbe k < mce p1.toNatClampNeg ∧ mce p0.toNatClampNeg < men k)) 0 n = -1 := by rw [← hs]; exact h5
          simp only [kObB, f_L_isFree, fx_X1_isFree, f_X1_isFree, f_X3_isFree, areNone3, (needCell h0).1, (needCell h0).2, (needCell h1).1, (needCell h1).2, xb_n, if_pos (And.intro h0 h1), if_pos h0, if_pos h1, hc.eq h0, hc.eq h1, if_neg h2, inCal, if_pos h3, t10, if_false, fm_eq (show n ≤ 11 by omega), if_pos h5, f_X3_fits, add_sub64, isIn3, ms_eq hn, if_pos h6, t00, Option.bind_some, if_true]
          exact ⟨_, _, rfl, rfl, rfl, fun _ => Or.inr ⟨rfl, rfl⟩⟩
        · have h6 : ¬ kF (fun k => decide (nI k ≠ -1 ∧ mbe k < mce p1.toNatClampNeg ∧ mce p0.toNatClampNeg < men k)) 0 n = -1 := by rw [← hs]; exact h5
          simp only [kObB, f_L_isFree, fx_X1_isFree, f_X1_isFree, f_X3_isFree, areNone3, (needCell h0).1, (needCell h0).2, (needCell h1).1, (needCell h1).2, xb_n, if_pos (And.intro h0 h1), if_pos h0, if_pos h1, hc.eq h0, hc.eq h1, if_neg h2, inCal, if_pos h3, t10, if_false, fm_eq (show n ≤ 11 by omega), if_neg h5, f_X3_fits, add_sub64, isIn3, ms_eq hn, if_neg h6, t00, Option.bind_some, if_true]
          exact ⟨_, _, rfl, rfl, rfl, fun _ => Or.inl ⟨rfl, rfl⟩⟩
      · simp only [kObB, f_L_isFree, fx_X1_isFree, f_X1_isFree, f_X3_isFree, areNone3, (needCell h0).1, (needCell h0).2, (needCell h1).1, (needCell h1).2, xb_n, if_pos (And.intro h0 h1), if_pos h0, if_pos h1, hc.eq h0, hc.eq h1, if_neg h2, inCal, if_neg h3, f_X3_fits, add_sub64, isIn3, t00, Option.bind_some, if_true]
        exact ⟨_, _, rfl, rfl, rfl, fun _ => Or.inl ⟨rfl, rfl⟩⟩
  · rcases two_bad hh with h0 | ⟨h0, h1⟩
    · simp only [kObB, f_L_isFree, fx_X1_isFree, f_X3_isFree, areNone3, (needCellN h0).1, (needCellN h0).2, xb_s, if_neg hh, Option.bind_some, if_true, t10, u12, if_false]
      exact ⟨_, _, rfl, rfl, rfl, fun z => no1 z⟩
    · simp only [kObB, f_L_isFree, fx_X1_isFree, f_X3_isFree, areNone3, (needCell h0).1, (needCell h0).2, (needCellN h1).1, (needCellN h1).2, xb_s, xb_n, if_neg hh, Option.bind_some, if_true, t10, u12, if_false]
      exact ⟨_, _, rfl, rfl, rfl, fun z => no1 z⟩
theorem obb_isApart {w : Nat} {wb we mwb mwe : Nat → Int64} {on : Int64} {p0 : Int32} (hW : kWish w wb we mwb mwe) (hw : w ≤ 8) : kObB (f_L_isApart wb we (nI w) on p0) (f_X3_isApart mwb mwe (nI w) p0) := by
  have e9 : (nI (2 ^ w - 1)).toInt = (2 ^ w - 1 : Nat) := nI_toInt (by have := (sb_5 w hw).2.2.2; omega)
  by_cases h : 0 ≤ p0.toInt ∧ p0.toInt ≤ (nI (2 ^ w - 1)).toInt
  · have a1 : ¬ p0 < 0 := by rw [lt32, i0]; omega
    have a2 := (shr_le0 hw h.1).mpr h.2
    have h2 := (sb_5 w hw).2.2.2
    obtain ⟨s, hs, rfl⟩ := small_of (w := p0) (n := 256) h.1 (by omega) (by omega)
    rcases ap_both hw hs hW.bo with ⟨e1, e3, -⟩ | ⟨e1, e3, -⟩
    · simp only [kObB, f_L_isApart, fx_X1_isApart, f_X1_isApart, setAll hw, withinq, i0, if_pos h, needThat1.1, needThat1.2, xb_n, Option.bind_some, e1, t10, if_false, f_X3_isApart, if_neg a1, if_pos a2, f_X3_isApart_19, thrown3', if_true, e3]
      exact ⟨_, _, rfl, rfl, rfl, fun _ => Or.inr ⟨rfl, rfl⟩⟩
    · simp only [kObB, f_L_isApart, fx_X1_isApart, f_X1_isApart, setAll hw, withinq, i0, if_pos h, needThat1.1, needThat1.2, xb_n, Option.bind_some, e1, if_true, f_X3_isApart, if_neg a1, if_pos a2, f_X3_isApart_19, thrown3', e3]
      exact ⟨_, _, rfl, rfl, rfl, fun _ => Or.inl ⟨rfl, rfl⟩⟩
  · have hM : f_X3_isApart mwb mwe (nI w) p0 = some (0, 1) := by
      by_cases a1 : p0 < 0
      · simp only [f_X3_isApart, if_pos a1, f_X3_isApart_14, f_X3_isApart_19, thrown3', t10, if_false, Option.bind_some]
      · have h0 : 0 ≤ p0.toInt := by rw [lt32, i0] at a1; omega
        have a2 : ¬ (p0 >>> (nI w &&& 31)) ≤ 0 := fun z => h ⟨h0, (shr_le0 hw h0).mp z⟩
        simp only [f_X3_isApart, if_neg a1, if_neg a2, f_X3_isApart_14, f_X3_isApart_19, thrown3', t10, if_false, Option.bind_some]
    rw [kObB, hM]
    simp only [f_L_isApart, fx_X1_isApart, setAll hw, withinq, i0, if_neg h, needThat0.1, needThat0.2, Option.bind_some, xb_s, u21, if_false]
    exact ⟨_, _, rfl, rfl, rfl, fun z => no1 z⟩
end
