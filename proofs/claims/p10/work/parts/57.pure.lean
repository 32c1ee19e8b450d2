/-! what is asked of the calendar -/
theorem kF_fw {b e : Nat → Int64} {n : Nat} {x : Int64} (hn : n ≤ 65536) (hx : kLet x) : kF (fun k => decide (nI k ≠ -1 ∧ b k < x + 1 ∧ x < e k)) 0 n = kF (fun k => decide (b k ≤ x ∧ x < e k)) 0 n :=
  kF_congr n 0 (fun k _ h2 => by
    refine decide_eq_decide.mpr ⟨fun ⟨_, z2, z3⟩ => ⟨?_, z3⟩, fun ⟨z2, z3⟩ => ⟨fun z => ?_, ?_, z3⟩⟩
    · rw [lt64, addBy hx kOn1.by, e1_64] at z2
      rw [le64]; omega
    · rw [nI_m1 (n := k) (by omega)] at z; exact z
    · rw [lt64, addBy hx kOn1.by, e1_64]
      rw [le64] at z2; omega)
theorem kF_sp {b e b' e' : Nat → Int64} {n : Nat} {x : Int64} (h : ∀ k, k < n → b k = b' k ∧ e k = e' k) : kF (fun k => decide (b k ≤ x ∧ x < e k)) 0 n = kF (fun k => decide (b' k ≤ x ∧ x < e' k)) 0 n :=
  kF_congr n 0 (fun k _ h2 => by
    obtain ⟨e1, e2⟩ := h k (by omega)
    show decide _ = decide _
    rw [e1, e2])
theorem at_both {b e b' e' : Nat → Int64} {n : Nat} {x : Int64} (hn : n ≤ 10) (hx : kLet x) (h : ∀ k, k < n → b k = b' k ∧ e k = e' k) : ∃ z, f_X0_firstWith b e (nI n) x = some z ∧ f_X3_spanAt b' e' (nI n) x = some z := by
  refine ⟨_, fw_eq (show n ≤ 11 by omega), ?_⟩
  rw [sp_eq hn, kF_fw (by omega) hx, kF_sp h]
theorem ob_at {ce mce : Nat → Int64} {n : Nat} {sb se mbe men : Nat → Int64} {on : Int64} {p0 : Int32} (hc : kCe ce mce) (hR : kRow n sb se mbe men) (hn : n ≤ 10) : kObs (f_L_at ce sb se (nI n) on p0) (f_X3_at mce mbe men (nI n) p0) := by
  by_cases h0 : ix p0 4
  · obtain ⟨z, e1, e3⟩ := at_both hn (hc.let h0) (fun k hk => ⟨(hR k hk).1, (hR k hk).2.1⟩)
    simp only [kObs, f_L_at, fx_X1_at, f_X1_at, f_X3_at, f_X3_at_13, (needCell h0).1, (needCell h0).2, xb_n, is3, thrown3', if_pos h0, hc.eq h0, e1, e3, Option.bind_some, if_true, t10, if_false]
    exact ⟨_, _, rfl, rfl, rfl, fun _ => rfl⟩
  · simp only [kObs, f_L_at, fx_X1_at, f_X3_at, f_X3_at_13, (needCellN h0).1, (needCellN h0).2, xb_s, is3, thrown3', if_neg h0, Option.bind_some, if_true, t10, t00, u12, if_false]
    exact ⟨_, _, rfl, rfl, rfl, fun z => no1 z⟩
theorem add_sub64 {x y : Int64} : x + (y - x) = y := by
  rw [Int64.add_comm, Int64.sub_add_cancel]
theorem ob_isFree {ce mce : Nat → Int64} {fr un : Int64} {n : Nat} {sb se mbe men : Nat → Int64} {on : Int64} {p0 p1 : Int32} (hc : kCe ce mce) (hR : kRow n sb se mbe men) (hn : n ≤ 10) : kObs (f_L_isFree ce fr un sb se (nI n) on p0 p1) (f_X3_isFree mce fr un mbe men (nI n) p0 p1) := by
  by_cases hh : ix p0 4 ∧ ix p1 4
  · obtain ⟨h0, h1⟩ := hh
    by_cases h2 : mce p1.toNatClampNeg ≤ mce p0.toNatClampNeg
    · simp only [kObs, f_L_isFree, fx_X1_isFree, f_X1_isFree, f_X3_isFree, areNone3, (needCell h0).1, (needCell h0).2, (needCell h1).1, (needCell h1).2, xb_n, if_pos (And.intro h0 h1), if_pos h0, if_pos h1, hc.eq h0, hc.eq h1, if_pos h2, Option.bind_some, if_true]
      exact ⟨_, _, rfl, rfl, rfl, fun _ => o0⟩
    · by_cases h3 : fr ≤ mce p0.toNatClampNeg ∧ mce p1.toNatClampNeg ≤ un
      · have hs := fm_same hR (mce p0.toNatClampNeg) (mce p1.toNatClampNeg) (-1)
        by_cases h5 : kF (fun k => decide (nI k ≠ -1 ∧ sb k < mce p1.toNatClampNeg ∧ mce p0.toNatClampNeg < se k)) 0 n = -1
        · have h6 : kF (fun k => decide (nI k ≠ -1 ∧ mbe k < mce p1.toNatClampNeg ∧ mce p0.toNatClampNeg < men k)) 0 n = -1 := by rw [← hs]; exact h5
          simp only [kObs, f_L_isFree, fx_X1_isFree, f_X1_isFree, f_X3_isFree, areNone3, (needCell h0).1, (needCell h0).2, (needCell h1).1, (needCell h1).2, xb_n, if_pos (And.intro h0 h1), if_pos h0, if_pos h1, hc.eq h0, hc.eq h1, if_neg h2, inCal, if_pos h3, t10, if_false, fm_eq (show n ≤ 11 by omega), if_pos h5, f_X3_fits, add_sub64, isIn3, ms_eq hn, if_pos h6, t00, Option.bind_some, if_true]
          exact ⟨_, _, rfl, rfl, rfl, fun _ => o1⟩
        · have h6 : ¬ kF (fun k => decide (nI k ≠ -1 ∧ mbe k < mce p1.toNatClampNeg ∧ mce p0.toNatClampNeg < men k)) 0 n = -1 := by rw [← hs]; exact h5
          simp only [kObs, f_L_isFree, fx_X1_isFree, f_X1_isFree, f_X3_isFree, areNone3, (needCell h0).1, (needCell h0).2, (needCell h1).1, (needCell h1).2, xb_n, if_pos (And.intro h0 h1), if_pos h0, if_pos h1, hc.eq h0, hc.eq h1, if_neg h2, inCal, if_pos h3, t10, if_false, fm_eq (show n ≤ 11 by omega), if_neg h5, f_X3_fits, add_sub64, isIn3, ms_eq hn, if_neg h6, t00, Option.bind_some, if_true]
          exact ⟨_, _, rfl, rfl, rfl, fun _ => o0⟩
      · simp only [kObs, f_L_isFree, fx_X1_isFree, f_X1_isFree, f_X3_isFree, areNone3, (needCell h0).1, (needCell h0).2, (needCell h1).1, (needCell h1).2, xb_n, if_pos (And.intro h0 h1), if_pos h0, if_pos h1, hc.eq h0, hc.eq h1, if_neg h2, inCal, if_neg h3, f_X3_fits, add_sub64, isIn3, t00, Option.bind_some, if_true]
        exact ⟨_, _, rfl, rfl, rfl, fun _ => o0⟩
  · rcases two_bad hh with h0 | ⟨h0, h1⟩
    · simp only [kObs, f_L_isFree, fx_X1_isFree, f_X3_isFree, areNone3, (needCellN h0).1, (needCellN h0).2, xb_s, if_neg hh, Option.bind_some, if_true, t10, u12, if_false]
      exact ⟨_, _, rfl, rfl, rfl, fun z => no1 z⟩
    · simp only [kObs, f_L_isFree, fx_X1_isFree, f_X3_isFree, areNone3, (needCell h0).1, (needCell h0).2, (needCellN h1).1, (needCellN h1).2, xb_s, xb_n, if_neg hh, Option.bind_some, if_true, t10, u12, if_false]
      exact ⟨_, _, rfl, rfl, rfl, fun z => no1 z⟩
/-! what is asked of what is free: the class keeps what it found -/
abbrev kObF (A : Option (Int32 × (Nat → Int64) × (Nat → Int64) × (Nat → Int32) × Int32 × Int64)) (B : Option (Int32 × Int32)) : Prop := ∃ r r', A = some r ∧ B = some r' ∧ r'.2 = r.1 ∧ (r.1 = 0 → r.2.2.2.2.2 = r'.1.toInt64)
theorem ob_frees {fr un : Int64} {n : Nat} {sb se : Nat → Int64} {so : Nat → Int32} {mbe men : Nat → Int64} {mov : Nat → Int32} {fb fe : Nat → Int64} {fo : Nat → Int32} {fc : Int32} (hS : kSpans fr un n sb se so mbe men mov) (hn : n ≤ 10) (hf : kLet fr) (hu : kLet un) (hfu : fr < un) : ∃ r r', f_X1_frees fr un sb se (nI n) fb fe fo fc = some r ∧ f_X3_frees fr un mbe men (nI n) = some r' ∧ r.1 = r'.1 := by
  obtain ⟨m, fb2, fe2, fo2, v, e1, e3, e4, -⟩ := free_both (fb := fb) (fe := fe) (fo := fo) (fc := fc) hS hn hf hu hfu
  simp only [f_X1_frees, f_X3_frees, e1, e3, e4, Option.bind_some, f_X0_count]
  exact ⟨_, _, rfl, rfl, rfl⟩
theorem half_ix {k : Nat} {p : Int32} (hk : k < 11) (h0 : 0 ≤ p.toInt) (h3 : p.toInt ≤ 3) : 2 * nI k + p / 2 = nI (2 * k + (if (2 : Int32) ≤ p then 1 else 0)) := by
  have h2 : p / 2 = nI (if (2 : Int32) ≤ p then 1 else 0) := by
    obtain ⟨w, hw, rfl⟩ := small_of (n := 4) h0 (by omega) (by omega)
    revert w
    decide +kernel
  rw [n2i (by omega), h2, nI_add]
theorem ob_ofFree {fr un : Int64} {n : Nat} {sb se : Nat → Int64} {so : Nat → Int32} {mbe men : Nat → Int64} {mov : Nat → Int32} {fb fe : Nat → Int64} {fo : Nat → Int32} {fc : Int32} {on : Int64} {p0 p1 : Int32} (hS : kSpans fr un n sb se so mbe men mov) (hn : n ≤ 10) (hf : kLet fr) (hu : kLet un) (hfu : fr < un) : kObF (f_L_ofFree fr un sb se (nI n) fb fe fo fc on p0 p1) (f_X3_ofFree fr un mbe men (nI n) p0 p1) := by
  obtain ⟨m, fb2, fe2, fo2, v, e1, e3, e4, hm, hv, -, hp⟩ := free_both (fb := fb) (fe := fe) (fo := fo) (fc := fc) hS hn hf hu hfu
  have hN : m ≤ 65536 := by omega
  have em := nI_toInt (show m < 2 ^ 31 by omega)
  by_cases h0 : ix p0 m
  · have a1 : ¬ p0 < 0 := by rw [lt32, i0]; have := h0.1; omega
    have a2 : p0 < nI m := by rw [lt32, em]; exact h0.2
    have hk := cl_lt h0
    obtain ⟨p4, p5, p6⟩ := hp _ hk
    obtain ⟨v1, v2⟩ := hv _ hk
    by_cases h : 0 ≤ p1.toInt ∧ p1.toInt ≤ 3
    · have h6 : p1.toInt < 6 := by omega
      have hM : f_X3_ofFree_23 v p0 p1 0 = f_X3_ofFree_37 v p0 p1 0 0 := (arg3 p1 3 (f_X3_ofFree_32 v p0 p1 0) (f_X3_ofFree_37 v p0 p1 0 0)).trans (if_pos (by rw [c3]; exact h))
      have hx := half_ix (show p0.toNatClampNeg < 11 by omega) h.1 h.2
      rw [← nI_cl h0 hN] at hx
      by_cases h3 : (2 : Int32) ≤ p1
      · rw [if_pos h3] at hx
        have a3 : ix (nI (2 * p0.toNatClampNeg + 1)) 22 := q_ix (by omega) (by omega)
        have a4 : (nI (2 * p0.toNatClampNeg + 1)).toNatClampNeg = 2 * p0.toNatClampNeg + 1 := q_cl (by omega)
        simp only [kObF, f_L_ofFree, fx_X1_ofFree, f_X1_ofFree, e1, Option.bind_some, numIn hN, if_pos h0, withinq, i0, c3, if_pos h, needThat1.1, needThat1.2, xb_n, partIn1 hm h0 p4.wide p5.wide, if_pos h3, f_X3_ofFree, e3, if_neg a1, e4, if_pos a2, hM, f_X3_ofFree_37, thrown3, if_true, hx, if_pos a3, a4, ← v2, half3 p5.wide h.1 h6]
        exact ⟨_, _, rfl, rfl, rfl, fun _ => rfl⟩
      · rw [if_neg h3] at hx
        have a3 : ix (nI (2 * p0.toNatClampNeg + 0)) 22 := q_ix (by omega) (by omega)
        have a4 : (nI (2 * p0.toNatClampNeg + 0)).toNatClampNeg = 2 * p0.toNatClampNeg := q_cl (by omega)
        simp only [kObF, f_L_ofFree, fx_X1_ofFree, f_X1_ofFree, e1, Option.bind_some, numIn hN, if_pos h0, withinq, i0, c3, if_pos h, needThat1.1, needThat1.2, xb_n, partIn1 hm h0 p4.wide p5.wide, if_neg h3, f_X3_ofFree, e3, if_neg a1, e4, if_pos a2, hM, f_X3_ofFree_37, thrown3, if_true, hx, if_pos a3, a4, ← v1, half3 p4.wide h.1 h6]
        exact ⟨_, _, rfl, rfl, rfl, fun _ => rfl⟩
    · have hM : f_X3_ofFree_23 v p0 p1 0 = f_X3_ofFree_32 v p0 p1 0 := (arg3 p1 3 (f_X3_ofFree_32 v p0 p1 0) (f_X3_ofFree_37 v p0 p1 0 0)).trans (if_neg (by rw [c3]; exact h))
      simp only [kObF, f_L_ofFree, fx_X1_ofFree, e1, Option.bind_some, numIn hN, if_pos h0, withinq, i0, c3, if_neg h, needThat0.1, needThat0.2, xb_n, xb_s, u21, if_false, f_X3_ofFree, e3, if_neg a1, e4, if_pos a2, hM, f_X3_ofFree_32, f_X3_ofFree_37, thrown3, if_true, t10]
      exact ⟨_, _, rfl, rfl, rfl, fun z => no2 z⟩
  · have q : ∀ y, f_X3_ofFree_37 v p0 p1 y 1 = some (0, 1) := fun y => by simp only [f_X3_ofFree_37, isT1, Option.bind_some, t10, if_false]
    have hM : f_X3_ofFree fr un mbe men (nI n) p0 p1 = some (0, 1) := by
      have q18 : f_X3_ofFree_18 v p0 p1 = some (0, 1) := by
        simp only [f_X3_ofFree_18, f_X3_ofFree_23, f_X3_ofFree_32, q, ite_self]
      by_cases a1 : p0 < 0
      · simp only [f_X3_ofFree, e3, Option.bind_some, if_pos a1, q18]
      · have a2 : ¬ p0 < nI m := by
          rw [lt32, em]
          rw [lt32, i0] at a1
          exact fun z => h0 ⟨by omega, z⟩
        simp only [f_X3_ofFree, e3, Option.bind_some, if_neg a1, e4, if_neg a2, q18]
    rw [kObF, hM]
    simp only [f_L_ofFree, fx_X1_ofFree, e1, Option.bind_some, numIn hN, if_neg h0, xb_s, u12, if_true]
    exact ⟨_, _, rfl, rfl, rfl, fun z => no1 z⟩
theorem fa_loop {mce v : Nat → Int64} {m : Nat} {mth p : Int32} (hm : m ≤ 11) (hfo : f_X3_freesOf 22 v = some (nI m)) (hp : ix p 4) : ∀ (u i : Nat), i ≤ m → m - i < u → f_X3_freeAt_28 u mce mth v p (nI i) = some (kF (fun k => decide (v (2 * k) ≤ mce p.toNatClampNeg ∧ mce p.toNatClampNeg < v (2 * k + 1))) i (m - i), mth) := by
  intro u
  induction u with
  | zero => intro i hi hf; omega
  | succ u ih =>
    intro i hi hf
    by_cases h : m ≤ i
    · have h' : nI m ≤ nI i := (q_le (by omega) (by omega)).mpr h
      rw [show m - i = 0 by omega, kF]
      simp only [f_X3_freeAt_28, hfo, Option.bind_some, if_pos h']
    · have h' : ¬ nI m ≤ nI i := t49 (by omega) (by omega) h
      have es : nI i + 1 = nI (i + 1) := q_s i
      have e2 : 2 * nI i = nI (2 * i) := n2i (by omega)
      have e3 : nI (2 * i) + 1 = nI (2 * i + 1) := q_s _
      have a1 : ix (nI (2 * i)) 22 := q_ix (by omega) (by omega)
      have a2 : ix (nI (2 * i + 1)) 22 := q_ix (by omega) (by omega)
      have c1 : (nI (2 * i)).toNatClampNeg = 2 * i := q_cl (by omega)
      have c2 : (nI (2 * i + 1)).toNatClampNeg = 2 * i + 1 := q_cl (by omega)
      have hh := ih (i + 1) (by omega) (by omega)
      rw [show m - i = (m - (i + 1)) + 1 by omega, kF]
      by_cases h1 : mce p.toNatClampNeg < v (2 * i)
      · rw [if_neg (by simp [Int64.not_le.mpr h1])]
        simp only [f_X3_freeAt_28, hfo, Option.bind_some, if_neg h', e2, if_pos a1, if_pos hp, c1, if_pos h1, es, hh]
      · by_cases h2 : v (2 * i + 1) ≤ mce p.toNatClampNeg
        · rw [if_neg (by simp [Int64.not_lt.mpr h2])]
          simp only [f_X3_freeAt_28, hfo, Option.bind_some, if_neg h', e2, e3, if_pos a1, if_pos a2, if_pos hp, c1, c2, if_neg h1, if_pos h2, es, hh]
        · rw [if_pos (decide_eq_true ⟨Int64.not_lt.mp h1, Int64.not_le.mp h2⟩)]
          simp only [f_X3_freeAt_28, hfo, Option.bind_some, if_neg h', e2, e3, if_pos a1, if_pos a2, if_pos hp, c1, c2, if_neg h1, if_neg h2]
/-- a free piece with a moment, on both sides -/
theorem freeAt_both {m : Nat} {fb fe v mce : Nat → Int64} {x : Int64} {mth p : Int32} (hm : m ≤ 11) (hv : ∀ k, k < m → fb k = v (2 * k) ∧ fe k = v (2 * k + 1)) (hfo : f_X3_freesOf 22 v = some (nI m)) (hx : kLet x) (hp : ix p 4) (e : mce p.toNatClampNeg = x) : ∃ z, f_X0_firstWith fb fe (nI m) x = some z ∧ f_X3_freeAt_28 24 mce mth v p 0 = some (z, mth) := by
  refine ⟨_, fw_eq hm, ?_⟩
  have h := fa_loop (mce := mce) (mth := mth) hm hfo hp 24 0 (Nat.zero_le _) (by omega)
  rw [e] at h
  rw [kF_fw (by omega) hx, kF_sp (b' := fun k => v (2 * k)) (e' := fun k => v (2 * k + 1)) (fun k hk => hv k hk)]
  exact h
theorem ob_freeAt {ce mce : Nat → Int64} {fr un : Int64} {n : Nat} {sb se : Nat → Int64} {so : Nat → Int32} {mbe men : Nat → Int64} {mov : Nat → Int32} {fb fe : Nat → Int64} {fo : Nat → Int32} {fc : Int32} {on : Int64} {p0 : Int32} (hc : kCe ce mce) (hS : kSpans fr un n sb se so mbe men mov) (hn : n ≤ 10) (hf : kLet fr) (hu : kLet un) (hfu : fr < un) : kObF (f_L_freeAt ce fr un sb se (nI n) fb fe fo fc on p0) (f_X3_freeAt mce fr un mbe men (nI n) p0) := by
  by_cases h0 : ix p0 4
  · obtain ⟨m, fb2, fe2, fo2, v, e1, e3, e4, hm, hv, -, hp⟩ := free_both (fb := fb) (fe := fe) (fo := fo) (fc := fc) hS hn hf hu hfu
    obtain ⟨z, e5, e6⟩ := freeAt_both (mce := mce) (mth := 0) hm hv e4 (hc.let h0) h0 rfl
    simp only [kObF, f_L_freeAt, fx_X1_freeAt, f_X1_freeAt, f_X3_freeAt, f_X3_freeAt_13, (needCell h0).1, (needCell h0).2, xb_n, is3, thrown3', if_pos h0, hc.eq h0, e1, e3, e5, e6, Option.bind_some, if_true, t10, if_false]
    exact ⟨_, _, rfl, rfl, rfl, fun _ => rfl⟩
  · simp only [kObF, f_L_freeAt, fx_X1_freeAt, f_X3_freeAt, f_X3_freeAt_13, (needCellN h0).1, (needCellN h0).2, xb_s, is3, thrown3', if_neg h0, Option.bind_some, if_true, t10, t00, u12, if_false]
    exact ⟨_, _, rfl, rfl, rfl, fun z => no1 z⟩
/-- the sum of what is free, on both sides -/
theorem freeLen_both {fr un : Int64} {m n : Nat} {fb fe v mbe men : Nat → Int64} (hf : kLet fr) (hu : kLet un) (hfu : fr < un) (hm : m ≤ 11) (hv : ∀ k, k < m → fb k = v (2 * k) ∧ fe k = v (2 * k + 1)) (e3 : f_X3_free fr un mbe men (nI n) = some v) (hfo : f_X3_freesOf 22 v = some (nI m)) (hP : kPcs (kMt n mbe men 1) un.toInt fb fe m 0 fr.toInt) (hp : kPie m fb fe) : ∃ z, f_X1_freeLength fb fe (nI m) = some z ∧ f_X3_freeLength fr un mbe men (nI n) = some z ∧ kDur fr un z := by
  have hfu' := lt64.mp hfu
  have a1 := hf.1; have a2 := hu.2
  have e0 : (0 : Int64).toInt = 0 := by decide
  obtain ⟨z, g1, g3, g4, g5⟩ := fl_loop (D := un.toInt - fr.toInt) hm hu hv hfo hp (by omega) 24 0 0 fr.toInt (Nat.zero_le _) (by omega) hP (by omega) (by rw [e0]; omega) (by rw [e0]; omega)
  refine ⟨z, g1, ?_, g4, g5⟩
  simp only [f_X3_freeLength, e3, Option.bind_some]
  exact g3
theorem c5 : (5 : Int32).toInt = 5 := by decide
theorem ob_length {fr un : Int64} {n : Nat} {sb se : Nat → Int64} {so : Nat → Int32} {mbe men : Nat → Int64} {mov : Nat → Int32} {fb fe : Nat → Int64} {fo : Nat → Int32} {fc : Int32} {on : Int64} {p0 : Int32} (hS : kSpans fr un n sb se so mbe men mov) (hn : n ≤ 10) (hf : kLet fr) (hu : kLet un) (hfu : fr < un) : kObF (f_L_length fr un sb se (nI n) fb fe fo fc on p0) (f_X3_length fr un mbe men (nI n) p0) := by
  by_cases h : 0 ≤ p0.toInt ∧ p0.toInt ≤ 5
  · have h6 : p0.toInt < 6 := by omega
    have hM : f_X3_length fr un mbe men (nI n) p0 = f_X3_length_15 fr un mbe men (nI n) p0 0 := (arg3 p0 5 (f_X3_length_10 fr un mbe men (nI n) p0) (f_X3_length_15 fr un mbe men (nI n) p0 0)).trans (if_pos (by rw [c5]; exact h))
    rw [kObF, hM]
    by_cases h2 : (2 : Int32) ≤ p0
    · obtain ⟨m, fb2, fe2, fo2, v, e1, e3, e4, hm, hv, hP, hp⟩ := free_both (fb := fb) (fe := fe) (fo := fo) (fc := fc) hS hn hf hu hfu
      by_cases h4 : (4 : Int32) ≤ p0
      · have hw := diff_wide hu hf
        simp only [f_L_length, fx_X1_length, f_X1_length, f_X1_length_48, withinq, i0, c5, if_pos h, needThat1.1, needThat1.2, Option.bind_some, xb_n, if_pos h2, if_pos h4, e1, part1 hw, f_X3_length_15, f_X3_length_56, thrown3', if_true, half3 hw h.1 h6]
        exact ⟨_, _, rfl, rfl, rfl, fun _ => rfl⟩
      · obtain ⟨z, e5, e6, hz⟩ := freeLen_both hf hu hfu hm hv e3 e4 hP hp
        have hw := hz.wide hf hu
        simp only [f_L_length, fx_X1_length, f_X1_length, f_X1_length_48, withinq, i0, c5, if_pos h, needThat1.1, needThat1.2, Option.bind_some, xb_n, if_pos h2, if_neg h4, e1, e5, part1 hw, f_X3_length_15, f_X3_length_56, thrown3', if_true, e6, half3 hw h.1 h6]
        exact ⟨_, _, rfl, rfl, rfl, fun _ => rfl⟩
    · obtain ⟨z, e5, e6, hz⟩ := taken_both hS hn hf hu hfu
      have hw := hz.wide hf hu
      simp only [f_L_length, fx_X1_length, f_X1_length, withinq, i0, c5, if_pos h, needThat1.1, needThat1.2, Option.bind_some, xb_n, if_neg h2, e5, part1 hw, f_X3_length_15, f_X3_length_56, thrown3', if_true, e6, half3 hw h.1 h6]
      exact ⟨_, _, rfl, rfl, rfl, fun _ => rfl⟩
  · have hM : f_X3_length fr un mbe men (nI n) p0 = f_X3_length_10 fr un mbe men (nI n) p0 := (arg3 p0 5 (f_X3_length_10 fr un mbe men (nI n) p0) (f_X3_length_15 fr un mbe men (nI n) p0 0)).trans (if_neg (by rw [c5]; exact h))
    rw [kObF, hM]
    simp only [f_L_length, fx_X1_length, withinq, i0, c5, if_neg h, needThat0.1, needThat0.2, Option.bind_some, xb_s, u21, if_false, f_X3_length_10, f_X3_length_15, thrown3', t10]
    exact ⟨_, _, rfl, rfl, rfl, fun z => no1 z⟩
/-! pairs that meet, and the deepest -/
theorem cl_in {sb se mbe men : Nat → Int64} {n : Nat} {K1 : (Nat → Int64) → (Nat → Int64) → Int32 → Int32 → Int32 → Option Int32} {K3 : (Nat → Int64) → (Nat → Int64) → Int32 → Int32 → Int32 → Int32 → Option (Int32 × Int32)} {mth : Int32} (hR : kRow n sb se mbe men) (hn : n ≤ 10) {k : Nat} (hk : k < n) : ∀ (u j : Nat) (a : Int32), j ≤ k → k - j < u → ∃ a', f_X1_clashes_17 K1 u sb se (nI n) a (nI k) (nI j) = K1 sb se (nI n) a' (nI (k + 1)) ∧ f_X3_clashes_19 K3 u mbe men (nI n) mth a (nI k) (nI j) = K3 mbe men (nI n) mth a' (nI (k + 1)) := by
  intro u
  induction u with
  | zero => intro j a hj hf; omega
  | succ u ih =>
    intro j a hj hf
    have es : nI j + 1 = nI (j + 1) := q_s j
    have ek : nI k + 1 = nI (k + 1) := q_s k
    by_cases h : k ≤ j
    · have h' : nI k ≤ nI j := (q_le (by omega) (by omega)).mpr h
      refine ⟨a, ?_, ?_⟩
      · simp only [f_X1_clashes_17, if_pos h', ek]
      · simp only [f_X3_clashes_19, if_pos h', ek]
    · have h' : ¬ nI k ≤ nI j := t49 (by omega) (by omega) h
      have a1 : ix (nI k) 10 := q_ix (by omega) (by omega)
      have a2 : ix (nI j) 10 := q_ix (by omega) (by omega)
      have b1 : ix (nI k) n := q_ix (by omega) (by omega)
      have b2 : ix (nI j) n := q_ix (by omega) (by omega)
      have c1 : (nI k).toNatClampNeg = k := q_cl (by omega)
      have c2 : (nI j).toNatClampNeg = j := q_cl (by omega)
      obtain ⟨z1, z2, -⟩ := hR k hk
      obtain ⟨y1, y2, -⟩ := hR j (by omega)
      by_cases hm : mbe k < men j ∧ mbe j < men k
      · obtain ⟨a', g1, g3⟩ := ih (j + 1) (a + 1) (by omega) (by omega)
        refine ⟨a', ?_, ?_⟩
        · simp only [f_X1_clashes_17, if_neg h', doMeet (show n ≤ 11 by omega) b1 b2, c1, c2, z1, z2, y1, y2, if_pos hm, Option.bind_some, t10, if_false, es, g1]
        · simp only [f_X3_clashes_19, if_neg h', if_pos a1, if_pos a2, meet3, c1, c2, if_pos hm, Option.bind_some, t10, if_false, es, g3]
      · obtain ⟨a', g1, g3⟩ := ih (j + 1) a (by omega) (by omega)
        refine ⟨a', ?_, ?_⟩
        · simp only [f_X1_clashes_17, if_neg h', doMeet (show n ≤ 11 by omega) b1 b2, c1, c2, z1, z2, y1, y2, if_neg hm, Option.bind_some, t00, if_true, es, g1]
        · simp only [f_X3_clashes_19, if_neg h', if_pos a1, if_pos a2, meet3, c1, c2, if_neg hm, Option.bind_some, t00, if_true, Int32.add_zero, es, g3]
theorem cl_loop {sb se mbe men : Nat → Int64} {n : Nat} {mth : Int32} (hR : kRow n sb se mbe men) (hn : n ≤ 10) : ∀ (u k : Nat) (a : Int32), k ≤ n → n - k < u → ∃ a', f_X1_clashes_4 u sb se (nI n) a (nI k) = some a' ∧ f_X3_clashes_9 u mbe men (nI n) mth a (nI k) = some (a', mth) := by
  intro u
  induction u with
  | zero => intro k a hk hf; omega
  | succ u ih =>
    intro k a hk hf
    by_cases h : n ≤ k
    · have h' : nI n ≤ nI k := (q_le (by omega) (by omega)).mpr h
      refine ⟨a, ?_, ?_⟩
      · simp only [f_X1_clashes_4, f_X0_count, Option.bind_some, if_pos h']
      · simp only [f_X3_clashes_9, if_pos h']
    · have h' : ¬ nI n ≤ nI k := t49 (by omega) (by omega) h
      obtain ⟨a1, g1, g3⟩ := cl_in (K1 := f_X1_clashes_4 u) (K3 := f_X3_clashes_9 u) (mth := mth) hR hn (show k < n by omega) 24 0 a (Nat.zero_le _) (by omega)
      obtain ⟨a2, k1, k3⟩ := ih (k + 1) a1 (by omega) (by omega)
      have g1' : f_X1_clashes_17 (f_X1_clashes_4 u) 24 sb se (nI n) a (nI k) 0 = f_X1_clashes_4 u sb se (nI n) a1 (nI (k + 1)) := g1
      have g3' : f_X3_clashes_19 (f_X3_clashes_9 u) 24 mbe men (nI n) mth a (nI k) 0 = f_X3_clashes_9 u mbe men (nI n) mth a1 (nI (k + 1)) := g3
      refine ⟨a2, ?_, ?_⟩
      · simp only [f_X1_clashes_4, f_X0_count, Option.bind_some, if_neg h', g1', k1]
      · simp only [f_X3_clashes_9, if_neg h', g3', k3]
theorem ob_clashes {sb se mbe men : Nat → Int64} {n : Nat} (hR : kRow n sb se mbe men) (hn : n ≤ 10) : ∃ a, f_X1_clashes sb se (nI n) = some a ∧ f_X3_clashes mbe men (nI n) = some (a, 0) :=
  cl_loop hR hn 24 0 0 (Nat.zero_le _) (by omega)
theorem dp_in {b e b' e' : Nat → Int64} {n N : Nat} {K1 : (Nat → Int64) → (Nat → Int64) → Int32 → Int32 → Int32 → Option Int32} {K3 : (Nat → Int64) → (Nat → Int64) → Int32 → Int32 → Int32 → Option Int32} (hR : ∀ k, k < n → b k = b' k ∧ e k = e' k) (hn : n ≤ N) (hN : N ≤ 11) {k : Nat} {x : Int32} (hk : k < n) : ∀ (u j : Nat) (a : Int32), j ≤ n → n - j < u → ∃ a', f_X0_depth_17 K1 u b e (nI n) x (nI k) a (nI j) = K1 b e (nI n) a' (nI (k + 1)) ∧ f_X3_deepest_17 N N K3 u b' e' (nI n) x (nI k) a (nI j) = K3 b' e' (nI n) a' (nI (k + 1)) := by
  intro u
  induction u with
  | zero => intro j a hj hf; omega
  | succ u ih =>
    intro j a hj hf
    have es : nI j + 1 = nI (j + 1) := q_s j
    have ek : nI k + 1 = nI (k + 1) := q_s k
    by_cases h : n ≤ j
    · have h' : nI n ≤ nI j := (q_le (by omega) (by omega)).mpr h
      refine ⟨if x < a then a else x, ?_, ?_⟩
      · simp only [f_X0_depth_17, if_pos h', ek]
      · simp only [f_X3_deepest_17, if_pos h', ek]
    · have h' : ¬ nI n ≤ nI j := t49 (by omega) (by omega) h
      have a1 : ix (nI k) 11 := q_ix (by omega) (by omega)
      have a2 : ix (nI j) 11 := q_ix (by omega) (by omega)
      have b1 : ix (nI k) N := q_ix (by omega) (by omega)
      have b2 : ix (nI j) N := q_ix (by omega) (by omega)
      have c1 : (nI k).toNatClampNeg = k := q_cl (by omega)
      have c2 : (nI j).toNatClampNeg = j := q_cl (by omega)
      obtain ⟨z1, z2⟩ := hR k hk
      obtain ⟨y1, y2⟩ := hR j (by omega)
      by_cases h1 : b' k < b' j
      · obtain ⟨a', g1, g3⟩ := ih (j + 1) a (by omega) (by omega)
        refine ⟨a', ?_, ?_⟩
        · simp only [f_X0_depth_17, if_neg h', if_pos a1, if_pos a2, c1, c2, z1, y1, if_pos h1, es, g1]
        · simp only [f_X3_deepest_17, if_neg h', if_pos b1, if_pos b2, c1, c2, if_pos h1, Int32.add_zero, es, g3]
      · by_cases h2 : e' j ≤ b' k
        · obtain ⟨a', g1, g3⟩ := ih (j + 1) a (by omega) (by omega)
          refine ⟨a', ?_, ?_⟩
          · simp only [f_X0_depth_17, if_neg h', if_pos a1, if_pos a2, c1, c2, z1, y1, y2, if_neg h1, if_pos h2, es, g1]
          · simp only [f_X3_deepest_17, if_neg h', if_pos b1, if_pos b2, c1, c2, if_neg h1, if_pos h2, Int32.add_zero, es, g3]
        · obtain ⟨a', g1, g3⟩ := ih (j + 1) (a + 1) (by omega) (by omega)
          refine ⟨a', ?_, ?_⟩
          · simp only [f_X0_depth_17, if_neg h', if_pos a1, if_pos a2, c1, c2, z1, y1, y2, if_neg h1, if_neg h2, es, g1]
          · simp only [f_X3_deepest_17, if_neg h', if_pos b1, if_pos b2, c1, c2, if_neg h1, if_neg h2, es, g3]
theorem dp_loop {b e b' e' : Nat → Int64} {n N : Nat} (hR : ∀ k, k < n → b k = b' k ∧ e k = e' k) (hn : n ≤ N) (hN : N ≤ 11) : ∀ (u k : Nat) (a : Int32), k ≤ n → n - k < u → ∃ a', f_X0_depth_4 u b e (nI n) a (nI k) = some a' ∧ f_X3_deepest_5 N N u b' e' (nI n) a (nI k) = some a' := by
  intro u
  induction u with
  | zero => intro k a hk hf; omega
  | succ u ih =>
    intro k a hk hf
    by_cases h : n ≤ k
    · have h' : nI n ≤ nI k := (q_le (by omega) (by omega)).mpr h
      refine ⟨a, ?_, ?_⟩
      · simp only [f_X0_depth_4, if_pos h']
      · simp only [f_X3_deepest_5, if_pos h']
    · have h' : ¬ nI n ≤ nI k := t49 (by omega) (by omega) h
      obtain ⟨a1, g1, g3⟩ := dp_in (K1 := f_X0_depth_4 u) (K3 := f_X3_deepest_5 N N u) (x := a) hR hn hN (show k < n by omega) 24 0 0 (Nat.zero_le _) (by omega)
      obtain ⟨a2, k1, k3⟩ := ih (k + 1) a1 (by omega) (by omega)
      have g1' : f_X0_depth_17 (f_X0_depth_4 u) 24 b e (nI n) a (nI k) 0 0 = f_X0_depth_4 u b e (nI n) a1 (nI (k + 1)) := g1
      have g3' : f_X3_deepest_17 N N (f_X3_deepest_5 N N u) 24 b' e' (nI n) a (nI k) 0 0 = f_X3_deepest_5 N N u b' e' (nI n) a1 (nI (k + 1)) := g3
      refine ⟨a2, ?_, ?_⟩
      · simp only [f_X0_depth_4, if_neg h', g1', k1]
      · simp only [f_X3_deepest_5, if_neg h', g3', k3]
theorem dp_both {b e b' e' : Nat → Int64} {n N : Nat} (hR : ∀ k, k < n → b k = b' k ∧ e k = e' k) (hn : n ≤ N) (hN : N ≤ 11) : ∃ a, f_X0_depth b e (nI n) = some a ∧ f_X3_deepest N N b' e' (nI n) = some a :=
  dp_loop hR hn hN 24 0 0 (Nat.zero_le _) (by omega)
theorem ob_deepest {sb se mbe men : Nat → Int64} {n : Nat} (hR : kRow n sb se mbe men) (hn : n ≤ 10) : ∃ a, f_X1_deepest sb se (nI n) = some a ∧ f_X3_deepest_ mbe men (nI n) = some (a, 0) := by
  obtain ⟨a, g1, g3⟩ := dp_both (N := 10) (fun k hk => ⟨(hR k hk).1, (hR k hk).2.1⟩) hn (by omega)
  refine ⟨a, ?_, ?_⟩
  · simp only [f_X1_deepest, g1, Option.bind_some]
  · simp only [f_X3_deepest_, g3, Option.bind_some]
theorem ob_crowd {wb we mwb mwe : Nat → Int64} {w : Nat} (hW : kWish w wb we mwb mwe) (hw : w ≤ 8) : ∃ a, f_X1_crowd wb we (nI w) = some a ∧ f_X3_crowd mwb mwe (nI w) = some (a, 0) := by
  obtain ⟨a, g1, g3⟩ := dp_both (N := 8) (fun k hk => ⟨(hW k hk).1, (hW k hk).2.1⟩) hw (by omega)
  refine ⟨a, ?_, ?_⟩
  · simp only [f_X1_crowd, g1, Option.bind_some]
  · simp only [f_X3_crowd, g3, Option.bind_some]
