/-! answers that are booleans -/
abbrev kObB (A : Option (Int32 × Int64)) (B : Option (Int32 × Int32)) : Prop := ∃ r r', A = some r ∧ B = some r' ∧ r'.2 = r.1 ∧ (r.1 = 0 → (r'.1 = 0 ∧ r.2 = 0) ∨ (r'.1 = 1 ∧ r.2 = 1))
theorem obb_isBefore {ce mce : Nat → Int64} {on : Int64} {p0 p1 : Int32} (hc : kCe ce mce) : kObB (f_L_isBefore ce on p0 p1) (f_X3_isBefore mce p0 p1) := by
  by_cases hh : ix p0 4 ∧ ix p1 4
  · obtain ⟨h0, h1⟩ := hh
    by_cases h2 : mce p1.toNatClampNeg ≤ mce p0.toNatClampNeg
    · simp only [kObB, f_L_isBefore, fx_X1_isBefore, f_X1_isBefore, f_X3_isBefore, areNone3, (needCell h0).1, (needCell h0).2, (needCell h1).1, (needCell h1).2, xb_n, if_pos (And.intro h0 h1), if_pos h0, if_pos h1, hc.eq h0, hc.eq h1, if_pos h2, Option.bind_some, if_true, t10, t00, if_false]
      exact ⟨_, _, rfl, rfl, rfl, fun _ => Or.inl ⟨rfl, rfl⟩⟩
    · simp only [kObB, f_L_isBefore, fx_X1_isBefore, f_X1_isBefore, f_X3_isBefore, areNone3, (needCell h0).1, (needCell h0).2, (needCell h1).1, (needCell h1).2, xb_n, if_pos (And.intro h0 h1), if_pos h0, if_pos h1, hc.eq h0, hc.eq h1, if_neg h2, Option.bind_some, if_true, t10, t00, if_false]
      exact ⟨_, _, rfl, rfl, rfl, fun _ => Or.inr ⟨rfl, rfl⟩⟩
  · rcases two_bad hh with h0 | ⟨h0, h1⟩
    · simp only [kObB, f_L_isBefore, fx_X1_isBefore, f_X3_isBefore, areNone3, (needCellN h0).1, (needCellN h0).2, xb_s, if_neg hh, Option.bind_some, if_true, t10, u12, if_false]
      exact ⟨_, _, rfl, rfl, rfl, fun z => no1 z⟩
    · simp only [kObB, f_L_isBefore, fx_X1_isBefore, f_X3_isBefore, areNone3, (needCell h0).1, (needCell h0).2, (needCellN h1).1, (needCellN h1).2, xb_s, xb_n, if_neg hh, Option.bind_some, if_true, t10, u12, if_false]
      exact ⟨_, _, rfl, rfl, rfl, fun z => no1 z⟩
theorem obb_isAfter {ce mce : Nat → Int64} {on : Int64} {p0 p1 : Int32} (hc : kCe ce mce) : kObB (f_L_isAfter ce on p0 p1) (f_X3_isAfter mce p0 p1) := by
  by_cases hh : ix p0 4 ∧ ix p1 4
  · obtain ⟨h0, h1⟩ := hh
    by_cases h2 : mce p0.toNatClampNeg ≤ mce p1.toNatClampNeg
    · simp only [kObB, f_L_isAfter, fx_X1_isAfter, f_X1_isAfter, f_X3_isAfter, areNone3, (needCell h0).1, (needCell h0).2, (needCell h1).1, (needCell h1).2, xb_n, if_pos (And.intro h0 h1), if_pos h0, if_pos h1, hc.eq h0, hc.eq h1, if_pos h2, Option.bind_some, if_true, t10, t00, if_false]
      exact ⟨_, _, rfl, rfl, rfl, fun _ => Or.inl ⟨rfl, rfl⟩⟩
    · simp only [kObB, f_L_isAfter, fx_X1_isAfter, f_X1_isAfter, f_X3_isAfter, areNone3, (needCell h0).1, (needCell h0).2, (needCell h1).1, (needCell h1).2, xb_n, if_pos (And.intro h0 h1), if_pos h0, if_pos h1, hc.eq h0, hc.eq h1, if_neg h2, Option.bind_some, if_true, t10, t00, if_false]
      exact ⟨_, _, rfl, rfl, rfl, fun _ => Or.inr ⟨rfl, rfl⟩⟩
  · rcases two_bad hh with h0 | ⟨h0, h1⟩
    · simp only [kObB, f_L_isAfter, fx_X1_isAfter, f_X3_isAfter, areNone3, (needCellN h0).1, (needCellN h0).2, xb_s, if_neg hh, Option.bind_some, if_true, t10, u12, if_false]
      exact ⟨_, _, rfl, rfl, rfl, fun z => no1 z⟩
    · simp only [kObB, f_L_isAfter, fx_X1_isAfter, f_X3_isAfter, areNone3, (needCell h0).1, (needCell h0).2, (needCellN h1).1, (needCellN h1).2, xb_s, xb_n, if_neg hh, Option.bind_some, if_true, t10, u12, if_false]
      exact ⟨_, _, rfl, rfl, rfl, fun z => no1 z⟩
theorem obb_same {ce mce : Nat → Int64} {on : Int64} {p0 p1 p2 : Int32} (hc : kCe ce mce) : kObB (f_L_same ce on p0 p1 p2) (f_X3_same mce p0 p1 p2) := by
  by_cases h0 : ix p0 4
  · by_cases h1 : ix p1 4
    · by_cases h : 0 ≤ p2.toInt ∧ p2.toInt ≤ 2
      · have hM : f_X3_same_20 mce p0 p1 p2 0 = f_X3_same_34 mce p0 p1 p2 0 0 := (arg3 p2 2 (f_X3_same_29 mce p0 p1 p2 0) (f_X3_same_34 mce p0 p1 p2 0 0)).trans (if_pos (by rw [c2]; exact h))
        by_cases h2 : p2 = 2
        · simp only [kObB, f_L_same, fx_X1_same, f_X1_same, (needCell h0).1, (needCell h0).2, (needCell h1).1, (needCell h1).2, withinq, i0, c2, if_pos h, needThat1.1, needThat1.2, xb_n, Option.bind_some, if_pos h2, t10, t00, if_false, if_true, f_X3_same, is3, if_pos h0, if_pos h1, hM, f_X3_same_34, thrown3]
          exact ⟨_, _, rfl, rfl, rfl, fun _ => Or.inr ⟨rfl, rfl⟩⟩
        · by_cases h3 : mce p0.toNatClampNeg = mce p1.toNatClampNeg
          · simp only [kObB, f_L_same, fx_X1_same, f_X1_same, (needCell h0).1, (needCell h0).2, (needCell h1).1, (needCell h1).2, withinq, i0, c2, if_pos h, needThat1.1, needThat1.2, xb_n, Option.bind_some, if_neg h2, hc.eq h0, hc.eq h1, if_pos h3, t10, t00, if_false, if_true, f_X3_same, is3, if_pos h0, if_pos h1, hM, f_X3_same_34, thrown3]
            exact ⟨_, _, rfl, rfl, rfl, fun _ => Or.inr ⟨rfl, rfl⟩⟩
          · simp only [kObB, f_L_same, fx_X1_same, f_X1_same, (needCell h0).1, (needCell h0).2, (needCell h1).1, (needCell h1).2, withinq, i0, c2, if_pos h, needThat1.1, needThat1.2, xb_n, Option.bind_some, if_neg h2, hc.eq h0, hc.eq h1, if_neg h3, t10, t00, if_false, if_true, f_X3_same, is3, if_pos h0, if_pos h1, hM, f_X3_same_34, thrown3]
            exact ⟨_, _, rfl, rfl, rfl, fun _ => Or.inl ⟨rfl, rfl⟩⟩
      · have hM : f_X3_same_20 mce p0 p1 p2 0 = f_X3_same_29 mce p0 p1 p2 0 := (arg3 p2 2 (f_X3_same_29 mce p0 p1 p2 0) (f_X3_same_34 mce p0 p1 p2 0 0)).trans (if_neg (by rw [c2]; exact h))
        simp only [kObB, f_L_same, fx_X1_same, (needCell h0).1, (needCell h0).2, (needCell h1).1, (needCell h1).2, withinq, i0, c2, if_neg h, needThat0.1, needThat0.2, xb_n, xb_s, Option.bind_some, u21, t10, t00, if_false, if_true, f_X3_same, is3, if_pos h0, if_pos h1, hM, f_X3_same_29, f_X3_same_34, thrown3]
        exact ⟨_, _, rfl, rfl, rfl, fun z => no2 z⟩
    · have q : ∀ y, f_X3_same_34 mce p0 p1 p2 y 1 = some (0, 1) := fun y => by simp only [f_X3_same_34, isT1, Option.bind_some, t10, if_false]
      simp only [kObB, f_L_same, fx_X1_same, (needCell h0).1, (needCell h0).2, (needCellN h1).1, (needCellN h1).2, xb_n, xb_s, Option.bind_some, u12, if_true, t10, t00, if_false, f_X3_same, is3, if_pos h0, if_neg h1, f_X3_same_15, f_X3_same_20, f_X3_same_29, q, ite_self]
      exact ⟨_, _, rfl, rfl, rfl, fun z => no1 z⟩
  · have q : ∀ y, f_X3_same_34 mce p0 p1 p2 y 1 = some (0, 1) := fun y => by simp only [f_X3_same_34, isT1, Option.bind_some, t10, if_false]
    simp only [kObB, f_L_same, fx_X1_same, (needCellN h0).1, (needCellN h0).2, xb_s, Option.bind_some, u12, if_true, t00, f_X3_same, is3, if_neg h0, f_X3_same_15, f_X3_same_20, f_X3_same_29, q, ite_self]
    exact ⟨_, _, rfl, rfl, rfl, fun z => no1 z⟩
theorem obb_meets {n : Nat} {sb se mbe men : Nat → Int64} {on : Int64} {p0 p1 : Int32} (hR : kRow n sb se mbe men) (hn : n ≤ 10) : kObB (f_L_meets sb se (nI n) on p0 p1) (f_X3_meets mbe men (nI n) p0 p1) := by
  have hN : n ≤ 65536 := by omega
  by_cases h0 : ix p0 n
  · by_cases h1 : ix p1 n
    · obtain ⟨z1, z2, -⟩ := hR _ (cl_lt h0)
      obtain ⟨y1, y2, -⟩ := hR _ (cl_lt h1)
      by_cases h : mbe p0.toNatClampNeg < men p1.toNatClampNeg ∧ mbe p1.toNatClampNeg < men p0.toNatClampNeg
      · simp only [kObB, f_L_meets, fx_X1_meets, f_X1_meets, numIn hN, isSpan3 hN, if_pos h0, if_pos h1, xb_n, Option.bind_some, doMeet (show n ≤ 11 by omega) h0 h1, z1, z2, y1, y2, if_pos h, t10, t00, if_true, if_false, f_X3_meets, f_X3_meets_22, thrown3', if_pos (ix_mono h0 hn), if_pos (ix_mono h1 hn), meet3]
        exact ⟨_, _, rfl, rfl, rfl, fun _ => Or.inr ⟨rfl, rfl⟩⟩
      · simp only [kObB, f_L_meets, fx_X1_meets, f_X1_meets, numIn hN, isSpan3 hN, if_pos h0, if_pos h1, xb_n, Option.bind_some, doMeet (show n ≤ 11 by omega) h0 h1, z1, z2, y1, y2, if_neg h, t10, t00, if_true, if_false, f_X3_meets, f_X3_meets_22, thrown3', if_pos (ix_mono h0 hn), if_pos (ix_mono h1 hn), meet3]
        exact ⟨_, _, rfl, rfl, rfl, fun _ => Or.inl ⟨rfl, rfl⟩⟩
    · simp only [kObB, f_L_meets, fx_X1_meets, numIn hN, isSpan3 hN, if_pos h0, if_neg h1, xb_n, xb_s, u12, if_true, Option.bind_some, f_X3_meets, f_X3_meets_17, f_X3_meets_22, thrown3', t10, t00, if_false]
      exact ⟨_, _, rfl, rfl, rfl, fun z => no1 z⟩
  · simp only [kObB, f_L_meets, fx_X1_meets, numIn hN, isSpan3 hN, if_neg h0, xb_s, u12, if_true, Option.bind_some, f_X3_meets, f_X3_meets_17, f_X3_meets_22, thrown3', t10, t00, if_false]
    exact ⟨_, _, rfl, rfl, rfl, fun z => no1 z⟩
theorem obb_isFree {ce mce : Nat → Int64} {fr un : Int64} {n : Nat} {sb se mbe men : Nat → Int64} {on : Int64} {p0 p1 : Int32} (hc : kCe ce mce) (hR : kRow n sb se mbe men) (hn : n ≤ 10) : kObB (f_L_isFree ce fr un sb se (nI n) on p0 p1) (f_X3_isFree mce fr un mbe men (nI n) p0 p1) := by
  by_cases hh : ix p0 4 ∧ ix p1 4
  · obtain ⟨h0, h1⟩ := hh
    by_cases h2 : mce p1.toNatClampNeg ≤ mce p0.toNatClampNeg
    · simp only [kObB, f_L_isFree, fx_X1_isFree, f_X1_isFree, f_X3_isFree, areNone3, (needCell h0).1, (needCell h0).2, (needCell h1).1, (needCell h1).2, xb_n, if_pos (And.intro h0 h1), if_pos h0, if_pos h1, hc.eq h0, hc.eq h1, if_pos h2, Option.bind_some, if_true]
      exact ⟨_, _, rfl, rfl, rfl, fun _ => Or.inl ⟨rfl, rfl⟩⟩
    · by_cases h3 : fr ≤ mce p0.toNatClampNeg ∧ mce p1.toNatClampNeg ≤ un
      · have hs := fm_same hR (mce p0.toNatClampNeg) (mce p1.toNatClampNeg) (-1)
        by_cases h5 : kF (fun k => decide (nI k ≠ -1 ∧ sb k < mce p1.toNatClampNeg ∧ mce p0.toNatClampNeg < se k)) 0 n = -1
        · have h6 : kF (fun k => decide (nI k ≠ -1 ∧ mbe k < mce p1.toNatClampNeg ∧ mce p0.toNatClampNeg < men k)) 0 n = -1 := by rw [← hs]; exact h5
          simp only [kObB, f_L_isFree, fx_X1_isFree, f_X1_isFree, f_X3_isFree, areNone3, (needCell h0).1, (needCell h0).2, (needCell h1).1, (needCell h1).2, xb_n, if_pos (And.intro h0 h1), if_pos h0, if_pos h1, hc.eq h0, hc.eq h1, if_neg h2, inCal, if_pos h3, t10, if_false, fm_eq (show n ≤ 11 by omega), if_pos h5, f_X3_fits, add_sub64, isIn3, ms_eq hn, if_pos h6, t00, Option.bind_some, if_true]
          exact ⟨_, _, rfl, rfl, rfl, fun _ => Or.inr ⟨rfl, rfl⟩⟩
        · have h6 : ¬ kF (fun k => decide (nI k ≠ -1 ∧ mbe k < mce p1.toNatClampNeg ∧ mce p0.toNatClampNeg < men k)) 0 n = -1 := by rw [← hs]; exact h5
          simp only [kObB, f_L_isFree, fx_X1_isFree, f_X1_isFree, f_X3_isFree, areNone3, (needCell h0).1, (needCell h0).2, (needCell h1).1, (needCell h1).2, xb_n, if_pos (And.intro h0 h1), if_pos h0, if_pos h1, hc.eq h0, hc.eq h1, if_neg h2, inCal, if_pos h3, t10, if_false, fm_eq (show n ≤ 11 by omega), if_neg h5, f_X3_fits, add_sub64, isIn3, ms_eq hn, if_neg h6, t00, Option.bind_some, if_true]
          exact ⟨_, _, rfl, rfl, rfl, fun _ => Or.inl ⟨rfl, rfl⟩⟩
      · simp only [kObB, f_L_isFree, fx_X1_isFree, f_X1_isFree, f_X3_isFree, areNone3, (needCell h0).1, (needCell h0).2, (needCell h1).1, (needCell h1).2, xb_n, if_pos (And.intro h0 h1), if_pos h0, if_pos h1, hc.eq h0, hc.eq h1, if_neg h2, inCal, if_neg h3, f_X3_fits, add_sub64, isIn3, t00, Option.bind_some, if_true]
        exact ⟨_, _, rfl, rfl, rfl, fun _ => Or.inl ⟨rfl, rfl⟩⟩
  · rcases two_bad hh with h0 | ⟨h0, h1⟩
    · simp only [kObB, f_L_isFree, fx_X1_isFree, f_X3_isFree, areNone3, (needCellN h0).1, (needCellN h0).2, xb_s, if_neg hh, Option.bind_some, if_true, t10, u12, if_false]
      exact ⟨_, _, rfl, rfl, rfl, fun z => no1 z⟩
    · simp only [kObB, f_L_isFree, fx_X1_isFree, f_X3_isFree, areNone3, (needCell h0).1, (needCell h0).2, (needCellN h1).1, (needCellN h1).2, xb_s, xb_n, if_neg hh, Option.bind_some, if_true, t10, u12, if_false]
      exact ⟨_, _, rfl, rfl, rfl, fun z => no1 z⟩
theorem obb_isApart {w : Nat} {wb we mwb mwe : Nat → Int64} {on : Int64} {p0 : Int32} (hW : kWish w wb we mwb mwe) (hw : w ≤ 8) : kObB (f_L_isApart wb we (nI w) on p0) (f_X3_isApart mwb mwe (nI w) p0) := by
  have e9 : (nI (2 ^ w - 1)).toInt = (2 ^ w - 1 : Nat) := nI_toInt (by have := (sb_5 w hw).2.2.2; omega)
  by_cases h : 0 ≤ p0.toInt ∧ p0.toInt ≤ (nI (2 ^ w - 1)).toInt
  · have a1 : ¬ p0 < 0 := by rw [lt32, i0]; omega
    have a2 := (shr_le0 hw h.1).mpr h.2
    have h2 := (sb_5 w hw).2.2.2
    obtain ⟨s, hs, rfl⟩ := small_of (w := p0) (n := 256) h.1 (by omega) (by omega)
    rcases ap_both hw hs hW.bo with ⟨e1, e3, -⟩ | ⟨e1, e3, -⟩
    · simp only [kObB, f_L_isApart, fx_X1_isApart, f_X1_isApart, setAll hw, withinq, i0, if_pos h, needThat1.1, needThat1.2, xb_n, Option.bind_some, e1, t10, if_false, f_X3_isApart, if_neg a1, if_pos a2, f_X3_isApart_19, thrown3', if_true, e3]
      exact ⟨_, _, rfl, rfl, rfl, fun _ => Or.inr ⟨rfl, rfl⟩⟩
    · simp only [kObB, f_L_isApart, fx_X1_isApart, f_X1_isApart, setAll hw, withinq, i0, if_pos h, needThat1.1, needThat1.2, xb_n, Option.bind_some, e1, if_true, f_X3_isApart, if_neg a1, if_pos a2, f_X3_isApart_19, thrown3', e3]
      exact ⟨_, _, rfl, rfl, rfl, fun _ => Or.inl ⟨rfl, rfl⟩⟩
  · have hM : f_X3_isApart mwb mwe (nI w) p0 = some (0, 1) := by
      by_cases a1 : p0 < 0
      · simp only [f_X3_isApart, if_pos a1, f_X3_isApart_14, f_X3_isApart_19, thrown3', t10, if_false, Option.bind_some]
      · have h0 : 0 ≤ p0.toInt := by rw [lt32, i0] at a1; omega
        have a2 : ¬ (p0 >>> (nI w &&& 31)) ≤ 0 := fun z => h ⟨h0, (shr_le0 hw h0).mp z⟩
        simp only [f_X3_isApart, if_neg a1, if_neg a2, f_X3_isApart_14, f_X3_isApart_19, thrown3', t10, if_false, Option.bind_some]
    rw [kObB, hM]
    simp only [f_L_isApart, fx_X1_isApart, setAll hw, withinq, i0, if_neg h, needThat0.1, needThat0.2, Option.bind_some, xb_s, u21, if_false]
    exact ⟨_, _, rfl, rfl, rfl, fun z => no1 z⟩
