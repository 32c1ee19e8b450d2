/-! how much is taken -/
noncomputable def kMu (T : Int → Prop) (x : Int) : Nat → Int
  | 0 => 0
  | d + 1 => kMu T x d + @ite _ (T (x + d)) (Classical.propDecidable _) 1 0
theorem kMu_all {T : Int → Prop} {x : Int} : ∀ (d : Nat), (∀ q, x ≤ q → q < x + d → T q) → kMu T x d = d := by
  intro d
  induction d with
  | zero => intro h; rfl
  | succ d ih =>
    intro h
    rw [kMu, ih (fun q h1 h2 => h q h1 (by omega)), if_pos (h _ (by omega) (by omega))]
    omega
theorem kMu_none {T : Int → Prop} {x : Int} : ∀ (d : Nat), (∀ q, x ≤ q → q < x + d → ¬ T q) → kMu T x d = 0 := by
  intro d
  induction d with
  | zero => intro h; rfl
  | succ d ih =>
    intro h
    rw [kMu, ih (fun q h1 h2 => h q h1 (by omega)), if_neg (h _ (by omega) (by omega))]
    omega
theorem kMu_add {T : Int → Prop} {x : Int} (a : Nat) : ∀ (d : Nat), kMu T x (a + d) = kMu T x a + kMu T (x + a) d := by
  intro d
  induction d with
  | zero => rw [Nat.add_zero, kMu]; omega
  | succ d ih =>
    rw [← Nat.add_assoc, kMu, kMu, ih, show x + ((a + d : Nat) : Int) = x + a + d by omega]
    omega
theorem kMu_le {T : Int → Prop} {x : Int} : ∀ (d : Nat), 0 ≤ kMu T x d ∧ kMu T x d ≤ d := by
  intro d
  induction d with
  | zero => rw [kMu]; omega
  | succ d ih =>
    rw [kMu]
    by_cases h : T (x + d)
    · rw [if_pos h]; omega
    · rw [if_neg h]; omega
theorem kMu_congr {T T' : Int → Prop} (h : ∀ q, T q ↔ T' q) {x : Int} : ∀ (d : Nat), kMu T x d = kMu T' x d := by
  intro d
  induction d with
  | zero => rfl
  | succ d ih =>
    rw [kMu, kMu, ih]
    by_cases h1 : T (x + d)
    · rw [if_pos h1, if_pos ((h _).mp h1)]
    · rw [if_neg h1, if_neg (fun z => h1 ((h _).mpr z))]
/-- how many moments from x on, ahead of y, are taken -/
noncomputable def kTk (T : Int → Prop) (x y : Int) : Int := kMu T x (y - x).toNat
theorem kTk_add {T : Int → Prop} {x y z : Int} (h1 : x ≤ y) (h2 : y ≤ z) : kTk T x z = kTk T x y + kTk T y z := by
  unfold kTk
  rw [show (z - x).toNat = (y - x).toNat + (z - y).toNat by omega, kMu_add, show x + ((y - x).toNat : Int) = y by omega]
theorem kTk_all {T : Int → Prop} {x y : Int} (h1 : x ≤ y) (h : ∀ q, x ≤ q → q < y → T q) : kTk T x y = y - x := by
  unfold kTk
  rw [kMu_all _ (fun q h2 h3 => h q h2 (by omega))]; omega
theorem kTk_none {T : Int → Prop} {x y : Int} (h1 : x ≤ y) (h : ∀ q, x ≤ q → q < y → ¬ T q) : kTk T x y = 0 := by
  unfold kTk
  rw [kMu_none _ (fun q h2 h3 => h q h2 (by omega))]
theorem kTk_le {T : Int → Prop} {x y : Int} (h1 : x ≤ y) : 0 ≤ kTk T x y ∧ kTk T x y ≤ y - x := by
  unfold kTk
  have := kMu_le (T := T) (x := x) (y - x).toNat
  omega
theorem kTk_0 {T : Int → Prop} {x y : Int} (h1 : y ≤ x) : kTk T x y = 0 := by
  unfold kTk
  rw [show (y - x).toNat = 0 by omega]; rfl
theorem kTk_congr {T T' : Int → Prop} (h : ∀ q, T q ↔ T' q) {x y : Int} : kTk T x y = kTk T' x y := kMu_congr h _
theorem sumD {a r s : Int64} {D : Int} (h1 : 0 ≤ a.toInt) (h2 : r.toInt ≤ s.toInt) (h3 : a.toInt + (s.toInt - r.toInt) ≤ D) (h4 : D ≤ 4000000000000000000) (hr : kLet r) (hs : kLet s) : (a + (s - r)).toInt = a.toInt + (s.toInt - r.toInt) := by
  have a1 := hr.1; have a2 := hr.2; have a3 := hs.1; have a4 := hs.2
  have e : (s - r).toInt = s.toInt - r.toInt := s64 (by omega) (by omega)
  rw [a64 (by rw [e]; omega) (by rw [e]; omega), e]
theorem tl1_loop {un : Int64} {n : Nat} {b e : Nat → Int64} {D : Int} (hn : n ≤ 10) (hu : kLet un) (hb : kPie n b e) (hin : ∀ k, k < n → (e k).toInt ≤ un.toInt) (hD : D ≤ 4000000000000000000) : ∀ (u i : Nat) (a x : Int64), kLet x → x.toInt ≤ un.toInt → i ≤ n + 1 → (n + 1) - i < u → (x.toInt < un.toInt → i + kAb e x.toInt n ≤ n) → 0 ≤ a.toInt → a.toInt + (un.toInt - x.toInt) ≤ D → ∃ z, f_X1_takenLength_10 u un b e (nI n) a x (nI i) = some z ∧ z.toInt = a.toInt + kTk (kMt n b e 1) x.toInt un.toInt := by
  intro u
  induction u with
  | zero => intro i a x hx hxu hi hf; omega
  | succ u ih =>
    intro i a x hx hxu hi hf hab ha hs
    by_cases h : n < i
    · have h' : nI n < nI i := (q_lt (by omega) (by omega)).mpr h
      refine ⟨a, ?_, ?_⟩
      · simp only [f_X1_takenLength_10, f_X0_count, Option.bind_some, if_pos h']
      · rw [kTk_0 (by omega)]; omega
    · have h' : ¬ nI n < nI i := fun z => h ((q_lt (by omega) (by omega)).mp z)
      by_cases h1 : un ≤ x
      · have h1' := le64.mp h1
        refine ⟨a, ?_, ?_⟩
        · simp only [f_X1_takenLength_10, f_X0_count, Option.bind_some, if_neg h', if_pos h1]
        · rw [kTk_0 (by omega)]; omega
      · have h1' : x.toInt < un.toInt := by rw [le64] at h1; omega
        have hf1 : (n + 1) - (i + 1) < u := by omega
        have hi1 : i + 1 ≤ n + 1 := by omega
        have es : nI i + 1 = nI (i + 1) := q_s i
        obtain ⟨r, e4, hxr, hru, h0, hT⟩ : ∃ r, f_X1_firstTaken un b e (nI n) x = some r ∧ x.toInt ≤ r.toInt ∧ r.toInt ≤ un.toInt ∧ (∀ q, x.toInt ≤ q → q < r.toInt → ¬ kMt n b e 1 q) ∧ (r.toInt < un.toInt → kMt n b e 1 r.toInt) := by
          by_cases hT : kMt n b e 1 x.toInt
          · exact ⟨x, ft_tk hn hx hT, Int.le_refl _, hxu, fun q h2 h3 => by omega, fun _ => hT⟩
          · obtain ⟨z, e5, k1, k2, k3⟩ := ft_eq (un := un) hn hx hT
            have k3' : ∀ k, k < n → x.toInt ≤ (b k).toInt → z.toInt ≤ (b k).toInt := fun k hk h9 => le64.mp (k3 k hk (le64.mpr h9))
            refine ⟨z, e5, ?_, le64.mp k1, not_between hT k3', fun h9 => ?_⟩
            · rcases k2 with k2 | ⟨k, hk, k2, k4⟩
              · rw [k2]; exact hxu
              · rw [k2]; exact le64.mp k4
            · rcases k2 with k2 | ⟨k, hk, k2, k4⟩
              · rw [k2] at h9; omega
              · have b3 := (hb k hk).2.2
                rw [← k2] at b3
                exact ⟨k, hk, by rw [← k2]; omega, b3⟩
        have hr : kLet r := ⟨by have := hx.1; omega, by have := hu.2; omega⟩
        obtain ⟨s, e5, hsl, g1, g2, g3, g4⟩ := ws_eq hn kOn1 hb hr
        rw [e1_64] at g2 g3
        have hsu : s.toInt ≤ un.toInt := by
          rcases g4 with g4 | ⟨k, hk, g4⟩
          · rw [g4]; exact hru
          · rw [g4]; exact hin k hk
        have eS := sumD (D := D) ha g1 (by omega) hD hr hsl
        obtain ⟨z, e6, hz⟩ := ih (i + 1) (a + (s - r)) s hsl hsu hi1 hf1 (fun h9 => by
          have := hab h1'
          have := kAb_pass (hT (by omega)) g1 g3 (Int.le_refl _)
          have := kAb_mono (e := e) hxr n
          omega) (by rw [eS]; omega) (by rw [eS]; omega)
        refine ⟨z, ?_, ?_⟩
        · simp only [f_X1_takenLength_10, f_X0_count, Option.bind_some, if_neg h', if_neg h1, e4, e5, es, e6]
        · rw [hz, eS, kTk_add (show x.toInt ≤ r.toInt from hxr) (show r.toInt ≤ un.toInt from hru), kTk_add (show r.toInt ≤ s.toInt from g1) hsu, kTk_none hxr h0, kTk_all g1 g2]
          omega
theorem f46 {K : Int64 → (Nat → Int64) → (Nat → Int64) → Int32 → Int64 → Int64 → Option Int64} {un a x : Int64} {b e : Nat → Int64} {n : Nat} (hn : n ≤ 10) : ∀ (u i : Nat) (y : Int64), i ≤ n → n - i < u → ∃ z, f_X3_takenLength_46 K u un b e (nI n) a x (-1) y (nI i) = K un b e (nI n) (a + 0) z ∧ z ≤ y ∧ (z = y ∨ ∃ k, k < n ∧ z = b k ∧ x < b k) ∧ ∀ k, i ≤ k → k < n → x < b k → z ≤ b k := by
  intro u
  induction u with
  | zero => intro i y hi hf; omega
  | succ u ih =>
    intro i y hi hf
    have g0 : ¬ (0 : Int32) ≤ -1 := by decide
    by_cases h : n ≤ i
    · have h' : nI n ≤ nI i := (q_le (by omega) (by omega)).mpr h
      refine ⟨y, ?_, Int64.le_refl _, Or.inl rfl, fun k h1 h2 => by omega⟩
      simp only [f_X3_takenLength_46, if_pos h', f_X3_takenLength_100, lm1, if_true]
    · have h' : ¬ nI n ≤ nI i := t49 (by omega) (by omega) h
      have es : nI i + 1 = nI (i + 1) := q_s i
      have ei : (nI i).toNatClampNeg = i := q_cl (by omega)
      have a1 : ix (nI i) 10 := q_ix (by omega) (by omega)
      by_cases h1 : b i ≤ x
      · obtain ⟨z, e3, g1, g2, g3⟩ := ih (i + 1) y (by omega) (by omega)
        refine ⟨z, ?_, g1, g2, fun k h2 h3 h4 => ?_⟩
        · simp only [f_X3_takenLength_46, if_neg h', if_neg g0, if_pos a1, ei, if_pos h1, es, e3]
        · by_cases e9 : k = i
          · rw [e9] at h4; exact absurd h4 (Int64.not_lt.mpr h1)
          · exact g3 k (by omega) h3 h4
      · by_cases h5 : y ≤ b i
        · obtain ⟨z, e3, g1, g2, g3⟩ := ih (i + 1) y (by omega) (by omega)
          refine ⟨z, ?_, g1, g2, fun k h2 h3 h4 => ?_⟩
          · simp only [f_X3_takenLength_46, if_neg h', if_neg g0, if_pos a1, ei, if_neg h1, if_pos h5, es, e3]
          · by_cases e9 : k = i
            · rw [e9]; exact Int64.le_trans g1 h5
            · exact g3 k (by omega) h3 h4
        · obtain ⟨z, e3, g1, g2, g3⟩ := ih (i + 1) (b i) (by omega) (by omega)
          refine ⟨z, ?_, Int64.le_trans g1 (Int64.le_of_lt (Int64.not_le.mp h5)), Or.inr ?_, fun k h2 h3 h4 => ?_⟩
          · simp only [f_X3_takenLength_46, if_neg h', if_neg g0, if_pos a1, ei, if_neg h1, if_neg h5, es, e3]
          · rcases g2 with g2 | g2
            · exact ⟨i, by omega, g2, Int64.not_le.mp h1⟩
            · exact g2
          · by_cases e9 : k = i
            · rw [e9]; exact g1
            · exact g3 k (by omega) h3 h4
theorem f46p {K : Int64 → (Nat → Int64) → (Nat → Int64) → Int32 → Int64 → Int64 → Option Int64} {un a x y : Int64} {b e : Nat → Int64} {n k u i : Nat} (hk : k ≤ 10) : f_X3_takenLength_46 K (u + 1) un b e (nI n) a x (nI k) y (nI i) = K un b e (nI n) (a + (y - x)) y := by
  have h0 : ¬ nI k < 0 := by rw [nI_lt0 (show k ≤ 65536 by omega)]; exact id
  have h0' : (0 : Int32) ≤ nI k := Int32.not_lt.mp h0
  simp only [f_X3_takenLength_46, f_X3_takenLength_100, if_pos h0', if_neg h0, ite_self]
theorem tl3_loop {un : Int64} {n : Nat} {b e : Nat → Int64} {D : Int} (hn : n ≤ 10) (hu : kLet un) (hb : kPie n b e) (hin : ∀ k, k < n → (e k).toInt ≤ un.toInt) (hD : D ≤ 4000000000000000000) : ∀ (u : Nat) (a x : Int64), kLet x → x.toInt ≤ un.toInt → 2 * kAb e x.toInt n + 1 ≤ u → (x.toInt < un.toInt → ¬ kMt n b e 1 x.toInt → 2 * kAb e x.toInt n + 2 ≤ u) → 0 ≤ a.toInt → a.toInt + (un.toInt - x.toInt) ≤ D → ∃ z, f_X3_takenLength_7 u un b e (nI n) a x = some z ∧ z.toInt = a.toInt + kTk (kMt n b e 1) x.toInt un.toInt := by
  intro u
  induction u with
  | zero => intro a x hx hxu hM; omega
  | succ u ih =>
    intro a x hx hxu hM hM2 ha hs
    by_cases h1 : un ≤ x
    · have h1' := le64.mp h1
      refine ⟨a, ?_, ?_⟩
      · simp only [f_X3_takenLength_7, if_pos h1]
      · rw [kTk_0 (by omega)]; omega
    · have h1' : x.toInt < un.toInt := by rw [le64] at h1; omega
      rcases sp_cases (b := b) (e := e) (x := x) hn with ⟨e1, hT⟩ | ⟨k, hk, e1, h2, h3⟩
      · have hM3 := hM2 h1' hT
        obtain ⟨z, e3, k1, k2, k3⟩ := f46 (K := f_X3_takenLength_7 u) (un := un) (a := a) (x := x) (b := b) (e := e) hn 24 0 un (Nat.zero_le _) (by omega)
        have k1' := le64.mp k1
        have k3' : ∀ k, k < n → x.toInt ≤ (b k).toInt → z.toInt ≤ (b k).toInt := fun k hk h9 => by
          by_cases h8 : x.toInt = (b k).toInt
          · exact absurd ⟨k, hk, by omega, by have := (hb k hk).2.2; omega⟩ hT
          · exact le64.mp (k3 k (Nat.zero_le _) hk (lt64.mpr (by omega)))
        have hxz : x.toInt < z.toInt := by
          rcases k2 with k2 | ⟨k, hk, k2, k4⟩
          · rw [k2]; exact h1'
          · rw [k2]; exact lt64.mp k4
        have hzl : kLet z := ⟨by have := hx.1; omega, by have := hu.2; omega⟩
        have hzT : z.toInt < un.toInt → kMt n b e 1 z.toInt := fun h9 => by
          rcases k2 with k2 | ⟨k, hk, k2, k4⟩
          · rw [k2] at h9; omega
          · have b3 := (hb k hk).2.2
            rw [← k2] at b3
            exact ⟨k, hk, by rw [← k2]; omega, b3⟩
        have hmo := kAb_mono (e := e) (show x.toInt ≤ z.toInt by omega) n
        have ea : a + 0 = a := Int64.add_zero a
        obtain ⟨w, e9, hw⟩ := ih a z hzl k1' (by omega) (fun h7 h8 => absurd (hzT h7) h8) ha (by omega)
        have e3' : f_X3_takenLength_46 (f_X3_takenLength_7 u) 24 un b e (nI n) a x (-1) un 0 = f_X3_takenLength_7 u un b e (nI n) (a + 0) z := e3
        refine ⟨w, ?_, ?_⟩
        · simp only [f_X3_takenLength_7, if_neg h1, e1, Option.bind_some, lm1, if_true, e3', ea, e9]
        · rw [hw, kTk_add (show x.toInt ≤ z.toInt by omega) k1', kTk_none (by omega) (not_between hT k3')]
          omega
      · have hab := kAb_lt (e := e) (x := x.toInt) (y := (e k).toInt) (by omega) h3 (Int.le_refl _) n hk
        have a1 : ix (nI k) 10 := q_ix (by omega) (by omega)
        have ec : (nI k).toNatClampNeg = k := q_cl (by omega)
        have hi := hin k hk
        have eS := sumD (a := a) (r := x) (s := e k) (D := D) ha (by omega) (by omega) hD hx (hb k hk).2.1
        obtain ⟨w, e9, hw⟩ := ih (a + (e k - x)) (e k) (hb k hk).2.1 hi (by omega) (fun _ _ => by omega) (by rw [eS]; omega) (by rw [eS]; omega)
        have e3 : f_X3_takenLength_46 (f_X3_takenLength_7 u) 24 un b e (nI n) a x (nI k) (e k) 0 = f_X3_takenLength_7 u un b e (nI n) (a + (e k - x)) (e k) := f46p (i := 0) (show k ≤ 10 by omega)
        refine ⟨w, ?_, ?_⟩
        · simp only [f_X3_takenLength_7, if_neg h1, e1, Option.bind_some, nI_lt0 (show k ≤ 65536 by omega), if_false, if_pos a1, ec, e3, e9]
        · rw [hw, eS, kTk_add (show x.toInt ≤ (e k).toInt by omega) hi, kTk_all (show x.toInt ≤ (e k).toInt by omega) (fun q h4 h5 => ⟨k, hk, by omega, h5⟩)]
          omega
/-- a length inside the calendar -/
abbrev kDur (fr un z : Int64) : Prop := 0 ≤ z.toInt ∧ z.toInt ≤ un.toInt - fr.toInt
theorem kDur.wide {fr un z : Int64} (h : kDur fr un z) (hf : kLet fr) (hu : kLet un) : kWide z := by
  have a1 := hf.1; have a2 := hu.2; have b1 := h.1; have b2 := h.2
  exact ⟨by omega, by omega⟩
theorem taken_both {fr un : Int64} {n : Nat} {sb se : Nat → Int64} {so : Nat → Int32} {mbe men : Nat → Int64} {mov : Nat → Int32} (hS : kSpans fr un n sb se so mbe men mov) (hn : n ≤ 10) (hf : kLet fr) (hu : kLet un) (hfu : fr < un) : ∃ z, f_X1_takenLength fr un sb se (nI n) = some z ∧ f_X3_takenLength fr un mbe men (nI n) = some z ∧ kDur fr un z := by
  have hfu' := lt64.mp hfu
  have a1 := hf.1; have a2 := hu.2
  have e0 : (0 : Int64).toInt = 0 := by decide
  have hin1 : ∀ k, k < n → (se k).toInt ≤ un.toInt := fun k hk => le64.mp (hS k hk).2.2.2.2.2
  have hin : ∀ k, k < n → (men k).toInt ≤ un.toInt := fun k hk => by rw [← (hS k hk).2.1]; exact hin1 k hk
  have l1 := kAb_le (e := se) (x := fr.toInt) n
  have l3 := kAb_le (e := men) (x := fr.toInt) n
  obtain ⟨z, e1, h1⟩ := tl1_loop (D := un.toInt - fr.toInt) hn hu (hS.pie1 hf hu) hin1 (by omega) 24 0 0 fr hf (by omega) (by omega) (by omega) (fun _ => by omega) (by rw [e0]; omega) (by rw [e0]; omega)
  obtain ⟨w, e3, h3⟩ := tl3_loop (D := un.toInt - fr.toInt) hn hu (hS.pie hf hu) hin (by omega) 24 0 fr hf (by omega) (by omega) (fun _ _ => by omega) (by rw [e0]; omega) (by rw [e0]; omega)
  have ez : z = w := by
    apply Int64.toInt_inj.mp
    rw [h1, h3, kTk_congr (fun q => kMt_congr (fun k hk => ⟨(hS k hk).1, (hS k hk).2.1⟩))]
  have hb := kTk_le (T := kMt n sb se 1) (show fr.toInt ≤ un.toInt by omega)
  rw [e0] at h1
  exact ⟨z, e1, by rw [ez]; exact e3, by omega, by omega⟩
/-- the sum of what is free -/
theorem fl_loop {T : Int → Prop} {un : Int64} {m : Nat} {P R v : Nat → Int64} {D : Int} (hm : m ≤ 11) (hu : kLet un) (hv : ∀ k, k < m → P k = v (2 * k) ∧ R k = v (2 * k + 1)) (hfo : f_X3_freesOf 22 v = some (nI m)) (hpi : kPie m P R) (hD : D ≤ 4000000000000000000) : ∀ (u i : Nat) (a : Int64) (x : Int), i ≤ m → m - i < u → kPcs T un.toInt P R (m - i) i x → x ≤ un.toInt → 0 ≤ a.toInt → a.toInt + (un.toInt - x) ≤ D → ∃ z, f_X1_freeLength_4 u P R (nI m) a (nI i) = some z ∧ f_X3_freeLength_10 u v a (nI i) = some z ∧ 0 ≤ z.toInt ∧ z.toInt ≤ D := by
  intro u
  induction u with
  | zero => intro i a x hi hf; omega
  | succ u ih =>
    intro i a x hi hf hP hxu ha hs
    by_cases h : m ≤ i
    · have h' : nI m ≤ nI i := (q_le (by omega) (by omega)).mpr h
      refine ⟨a, ?_, ?_, ha, by omega⟩
      · simp only [f_X1_freeLength_4, f_X0_count, Option.bind_some, if_pos h']
      · simp only [f_X3_freeLength_10, hfo, Option.bind_some, if_pos h']
    · have h' : ¬ nI m ≤ nI i := t49 (by omega) (by omega) h
      have es : nI i + 1 = nI (i + 1) := q_s i
      have ei : (nI i).toNatClampNeg = i := q_cl (by omega)
      have e2 : 2 * nI i = nI (2 * i) := n2i (by omega)
      have e3 : nI (2 * i) + 1 = nI (2 * i + 1) := q_s _
      have a1 : ix (nI (2 * i)) 22 := q_ix (by omega) (by omega)
      have a2 : ix (nI (2 * i + 1)) 22 := q_ix (by omega) (by omega)
      have c1 : (nI (2 * i)).toNatClampNeg = 2 * i := q_cl (by omega)
      have c2 : (nI (2 * i + 1)).toNatClampNeg = 2 * i + 1 := q_cl (by omega)
      have a3 : ix (nI i) m := q_ix (by omega) (by omega)
      obtain ⟨v1, v2⟩ := hv i (by omega)
      obtain ⟨p1, p2, p3⟩ := hpi i (by omega)
      rw [show m - i = (m - (i + 1)) + 1 by omega] at hP
      obtain ⟨b1, b2, b3, b4, b5, b6, b7⟩ := hP
      have eS := sumD (a := a) (r := P i) (s := R i) (D := D) ha (by omega) (by omega) hD p1 p2
      obtain ⟨z, e8, e9, hz1, hz2⟩ := ih (i + 1) (a + (R i - P i)) _ (by omega) (by omega) b7 b5 (by rw [eS]; omega) (by rw [eS]; omega)
      refine ⟨z, ?_, ?_, hz1, hz2⟩
      · simp only [f_X1_freeLength_4, f_X0_count, Option.bind_some, if_neg h', end0 hm a3, begin0 hm a3, ei, es, e8]
      · simp only [f_X3_freeLength_10, hfo, Option.bind_some, if_neg h', e2, e3, if_pos a1, if_pos a2, c1, c2, ← v1, ← v2, es, e9]
