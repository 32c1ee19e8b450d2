/-! soundness -/
theorem over0 {so : Nat → Int32} {n : Nat} (hn : n ≤ 11) {p : Int32} (h : ix p n) : f_X0_isOver so (nI n) p = some (if so p.toNatClampNeg = 0 then 0 else 1) := by
  by_cases h1 : so p.toNatClampNeg = 0
  · simp only [f_X0_isOver, isIn0 (show n ≤ 65536 by omega), if_pos h, Option.bind_some, t10, if_false, if_pos (ix_mono h hn), if_pos h1]
  · simp only [f_X0_isOver, isIn0 (show n ≤ 65536 by omega), if_pos h, Option.bind_some, t10, if_false, if_pos (ix_mono h hn), if_neg h1]
theorem so_in {fr un : Int64} {n : Nat} {sb se : Nat → Int64} {so : Nat → Int32} {mbe men : Nat → Int64} {mov : Nat → Int32} {K1 K3 : Int64 → Int64 → (Nat → Int64) → (Nat → Int64) → (Nat → Int32) → Int32 → Int32 → Option Int32} (hS : kSpans fr un n sb se so mbe men mov) (hn : n ≤ 10) {k : Nat} (hk : k < n) : ∀ (u j : Nat), j ≤ k → k - j < u → (f_X1_isSoundInSpans_40 K1 u fr un sb se so (nI n) (nI k) (nI j) = some 0 ∧ f_X3_areSpans_33 K3 u fr un mbe men mov (nI n) (nI k) (nI j) = some 0) ∨ (f_X1_isSoundInSpans_40 K1 u fr un sb se so (nI n) (nI k) (nI j) = K1 fr un sb se so (nI n) (nI (k + 1)) ∧ f_X3_areSpans_33 K3 u fr un mbe men mov (nI n) (nI k) (nI j) = K3 fr un mbe men mov (nI n) (nI (k + 1))) := by
  intro u
  induction u with
  | zero => intro j hj hf; omega
  | succ u ih =>
    intro j hj hf
    have es : nI j + 1 = nI (j + 1) := q_s j
    have ek : nI k + 1 = nI (k + 1) := q_s k
    by_cases h : k ≤ j
    · have h' : nI k ≤ nI j := (q_le (by omega) (by omega)).mpr h
      refine Or.inr ⟨?_, ?_⟩
      · simp only [f_X1_isSoundInSpans_40, if_pos h', ek]
      · simp only [f_X3_areSpans_33, if_pos h', ek]
    · have h' : ¬ nI k ≤ nI j := t49 (by omega) (by omega) h
      have a1 : ix (nI k) 10 := q_ix (by omega) (by omega)
      have a2 : ix (nI j) 10 := q_ix (by omega) (by omega)
      have b1 : ix (nI k) n := q_ix (by omega) (by omega)
      have b2 : ix (nI j) n := q_ix (by omega) (by omega)
      have c1 : (nI k).toNatClampNeg = k := q_cl (by omega)
      have c2 : (nI j).toNatClampNeg = j := q_cl (by omega)
      obtain ⟨z1, z2, z3, -⟩ := hS k hk
      obtain ⟨y1, y2, y3, -⟩ := hS j (by omega)
      have hi := ih (j + 1) (by omega) (by omega)
      by_cases hm : mbe k < men j ∧ mbe j < men k
      · by_cases o1 : mov k = 0
        · by_cases o2 : mov j = 0
          · refine Or.inl ⟨?_, ?_⟩
            · simp only [f_X1_isSoundInSpans_40, if_neg h', doMeet (show n ≤ 11 by omega) b1 b2, c1, c2, z1, z2, y1, y2, if_pos hm, Option.bind_some, t10, if_false, over0 (show n ≤ 11 by omega) b1, over0 (show n ≤ 11 by omega) b2, z3, y3, if_pos o1, if_pos o2, if_true]
            · simp only [f_X3_areSpans_33, if_neg h', if_pos a1, if_pos a2, meet3, c1, c2, if_pos hm, Option.bind_some, t10, if_false, if_pos o1, if_pos o2]
          · have e1 : f_X1_isSoundInSpans_40 K1 (u + 1) fr un sb se so (nI n) (nI k) (nI j) = f_X1_isSoundInSpans_40 K1 u fr un sb se so (nI n) (nI k) (nI (j + 1)) := by
              simp only [f_X1_isSoundInSpans_40, if_neg h', doMeet (show n ≤ 11 by omega) b1 b2, c1, c2, z1, z2, y1, y2, if_pos hm, Option.bind_some, t10, if_false, over0 (show n ≤ 11 by omega) b1, over0 (show n ≤ 11 by omega) b2, z3, y3, if_pos o1, if_neg o2, if_true, es]
            have e3 : f_X3_areSpans_33 K3 (u + 1) fr un mbe men mov (nI n) (nI k) (nI j) = f_X3_areSpans_33 K3 u fr un mbe men mov (nI n) (nI k) (nI (j + 1)) := by
              simp only [f_X3_areSpans_33, if_neg h', if_pos a1, if_pos a2, meet3, c1, c2, if_pos hm, Option.bind_some, t10, if_false, if_pos o1, if_neg o2, es]
            rw [e1, e3]; exact hi
        · have e1 : f_X1_isSoundInSpans_40 K1 (u + 1) fr un sb se so (nI n) (nI k) (nI j) = f_X1_isSoundInSpans_40 K1 u fr un sb se so (nI n) (nI k) (nI (j + 1)) := by
            simp only [f_X1_isSoundInSpans_40, if_neg h', doMeet (show n ≤ 11 by omega) b1 b2, c1, c2, z1, z2, y1, y2, if_pos hm, Option.bind_some, t10, if_false, over0 (show n ≤ 11 by omega) b1, z3, if_neg o1, es]
          have e3 : f_X3_areSpans_33 K3 (u + 1) fr un mbe men mov (nI n) (nI k) (nI j) = f_X3_areSpans_33 K3 u fr un mbe men mov (nI n) (nI k) (nI (j + 1)) := by
            simp only [f_X3_areSpans_33, if_neg h', if_pos a1, if_pos a2, meet3, c1, c2, if_pos hm, Option.bind_some, t10, if_false, if_neg o1, es]
          rw [e1, e3]; exact hi
      · have e1 : f_X1_isSoundInSpans_40 K1 (u + 1) fr un sb se so (nI n) (nI k) (nI j) = f_X1_isSoundInSpans_40 K1 u fr un sb se so (nI n) (nI k) (nI (j + 1)) := by
          simp only [f_X1_isSoundInSpans_40, if_neg h', doMeet (show n ≤ 11 by omega) b1 b2, c1, c2, z1, z2, y1, y2, if_neg hm, Option.bind_some, if_true, es]
        have e3 : f_X3_areSpans_33 K3 (u + 1) fr un mbe men mov (nI n) (nI k) (nI j) = f_X3_areSpans_33 K3 u fr un mbe men mov (nI n) (nI k) (nI (j + 1)) := by
          simp only [f_X3_areSpans_33, if_neg h', if_pos a1, if_pos a2, meet3, c1, c2, if_neg hm, Option.bind_some, if_true, es]
        rw [e1, e3]; exact hi
theorem so_loop {fr un : Int64} {n : Nat} {sb se : Nat → Int64} {so : Nat → Int32} {mbe men : Nat → Int64} {mov : Nat → Int32} (hS : kSpans fr un n sb se so mbe men mov) (hn : n ≤ 10) : ∀ (u k : Nat), k ≤ n → n - k < u → (f_X1_isSoundInSpans_2 u fr un sb se so (nI n) (nI k) = some 0 ∧ f_X3_areSpans_2 u fr un mbe men mov (nI n) (nI k) = some 0) ∨ (f_X1_isSoundInSpans_2 u fr un sb se so (nI n) (nI k) = some 1 ∧ f_X3_areSpans_2 u fr un mbe men mov (nI n) (nI k) = (f_X3_free fr un mbe men (nI n)).bind fun r2 => f_X3_areSpans_107 24 mbe men (nI n) r2 0) := by
  intro u
  induction u with
  | zero => intro k hk hf; omega
  | succ u ih =>
    intro k hk hf
    by_cases h : n ≤ k
    · have h' : nI n ≤ nI k := (q_le (by omega) (by omega)).mpr h
      refine Or.inr ⟨?_, ?_⟩
      · simp only [f_X1_isSoundInSpans_2, f_X0_count, Option.bind_some, if_pos h']
      · simp only [f_X3_areSpans_2, if_pos h']
    · have h' : ¬ nI n ≤ nI k := t49 (by omega) (by omega) h
      have a1 : ix (nI k) 10 := q_ix (by omega) (by omega)
      have b1 : ix (nI k) n := q_ix (by omega) (by omega)
      have c1 : (nI k).toNatClampNeg = k := q_cl (by omega)
      obtain ⟨z1, z2, -, -, z5, z6⟩ := hS k (by omega)
      rw [z1] at z5
      rw [z2] at z6
      have hin : fr ≤ mbe k ∧ men k ≤ un := ⟨z5, z6⟩
      have hi := ih (k + 1) (by omega) (by omega)
      rcases so_in (K1 := f_X1_isSoundInSpans_2 u) (K3 := f_X3_areSpans_2 u) hS hn (show k < n by omega) 24 0 (Nat.zero_le _) (by omega) with ⟨g1, g3⟩ | ⟨g1, g3⟩
      · have g1' : f_X1_isSoundInSpans_40 (f_X1_isSoundInSpans_2 u) 24 fr un sb se so (nI n) (nI k) 0 = some 0 := g1
        have g3' : f_X3_areSpans_33 (f_X3_areSpans_2 u) 24 fr un mbe men mov (nI n) (nI k) 0 = some 0 := g3
        refine Or.inl ⟨?_, ?_⟩
        · simp only [f_X1_isSoundInSpans_2, f_X0_count, Option.bind_some, if_neg h', begin0 (show n ≤ 11 by omega) b1, end0 (show n ≤ 11 by omega) b1, c1, z1, z2, inCal, if_pos hin, t10, if_false, g1']
        · simp only [f_X3_areSpans_2, if_neg h', if_pos a1, c1, isIn3, if_pos hin, Option.bind_some, t10, if_false, g3']
      · have g1' : f_X1_isSoundInSpans_40 (f_X1_isSoundInSpans_2 u) 24 fr un sb se so (nI n) (nI k) 0 = f_X1_isSoundInSpans_2 u fr un sb se so (nI n) (nI (k + 1)) := g1
        have g3' : f_X3_areSpans_33 (f_X3_areSpans_2 u) 24 fr un mbe men mov (nI n) (nI k) 0 = f_X3_areSpans_2 u fr un mbe men mov (nI n) (nI (k + 1)) := g3
        have e1 : f_X1_isSoundInSpans_2 (u + 1) fr un sb se so (nI n) (nI k) = f_X1_isSoundInSpans_2 u fr un sb se so (nI n) (nI (k + 1)) := by
          simp only [f_X1_isSoundInSpans_2, f_X0_count, Option.bind_some, if_neg h', begin0 (show n ≤ 11 by omega) b1, end0 (show n ≤ 11 by omega) b1, c1, z1, z2, inCal, if_pos hin, t10, if_false, g1']
        have e3 : f_X3_areSpans_2 (u + 1) fr un mbe men mov (nI n) (nI k) = f_X3_areSpans_2 u fr un mbe men mov (nI n) (nI (k + 1)) := by
          simp only [f_X3_areSpans_2, if_neg h', if_pos a1, c1, isIn3, if_pos hin, Option.bind_some, t10, if_false, g3']
        rw [e1, e3]; exact hi
theorem sf_loop {fr un : Int64} {n m : Nat} {sb se mbe men fb fe v : Nat → Int64} {fo : Nat → Int32} (hR : kRow n sb se mbe men) (hn : n ≤ 10) (hm : m ≤ 11) (hv : ∀ k, k < m → fb k = v (2 * k) ∧ fe k = v (2 * k + 1)) (hfo : f_X3_freesOf 22 v = some (nI m)) : ∀ (u i : Nat), i ≤ m → m - i < u → (f_X1_isSoundInFrees_6 u fr un sb se (nI n) fb fe fo (nI m) (nI i) = some (0, fb, fe, fo, nI m) ∧ f_X3_areSpans_107 u mbe men (nI n) v (nI i) = some 0) ∨ (f_X1_isSoundInFrees_6 u fr un sb se (nI n) fb fe fo (nI m) (nI i) = ((f_X1_takenLength fr un sb se (nI n)).bind fun r3 => (f_X1_freeLength fb fe (nI m)).bind fun r4 => if (r3 + r4) = (un - fr) then some (1, fb, fe, fo, nI m) else some (0, fb, fe, fo, nI m)) ∧ f_X3_areSpans_107 u mbe men (nI n) v (nI i) = some 1) := by
  intro u
  induction u with
  | zero => intro i hi hf; omega
  | succ u ih =>
    intro i hi hf
    by_cases h : m ≤ i
    · have h' : nI m ≤ nI i := (q_le (by omega) (by omega)).mpr h
      refine Or.inr ⟨?_, ?_⟩
      · simp only [f_X1_isSoundInFrees_6, f_X0_count, Option.bind_some, if_pos h']
      · simp only [f_X3_areSpans_107, hfo, Option.bind_some, if_pos h']
    · have h' : ¬ nI m ≤ nI i := t49 (by omega) (by omega) h
      have es : nI i + 1 = nI (i + 1) := q_s i
      have e2 : 2 * nI i = nI (2 * i) := n2i (by omega)
      have e3 : nI (2 * i) + 1 = nI (2 * i + 1) := q_s _
      have a1 : ix (nI (2 * i)) 22 := q_ix (by omega) (by omega)
      have a2 : ix (nI (2 * i + 1)) 22 := q_ix (by omega) (by omega)
      have c1 : (nI (2 * i)).toNatClampNeg = 2 * i := q_cl (by omega)
      have c2 : (nI (2 * i + 1)).toNatClampNeg = 2 * i + 1 := q_cl (by omega)
      have c3 : (nI i).toNatClampNeg = i := q_cl (by omega)
      have b1 : ix (nI i) m := q_ix (by omega) (by omega)
      obtain ⟨v1, v2⟩ := hv i (by omega)
      have hs := fm_same hR (v (2 * i)) (v (2 * i + 1)) (-1)
      have hi := ih (i + 1) (by omega) (by omega)
      by_cases h5 : kF (fun k => decide (nI k ≠ -1 ∧ mbe k < v (2 * i + 1) ∧ v (2 * i) < men k)) 0 n = -1
      · have h6 : kF (fun k => decide (nI k ≠ -1 ∧ sb k < v (2 * i + 1) ∧ v (2 * i) < se k)) 0 n = -1 := by rw [hs]; exact h5
        have g1 : f_X1_isSoundInFrees_6 (u + 1) fr un sb se (nI n) fb fe fo (nI m) (nI i) = f_X1_isSoundInFrees_6 u fr un sb se (nI n) fb fe fo (nI m) (nI (i + 1)) := by
          simp only [f_X1_isSoundInFrees_6, f_X0_count, Option.bind_some, if_neg h', begin0 hm b1, end0 hm b1, c3, v1, v2, fm_eq (show n ≤ 11 by omega), if_pos h6, es]
        have g3 : f_X3_areSpans_107 (u + 1) mbe men (nI n) v (nI i) = f_X3_areSpans_107 u mbe men (nI n) v (nI (i + 1)) := by
          simp only [f_X3_areSpans_107, hfo, Option.bind_some, if_neg h', e2, e3, if_pos a1, if_pos a2, c1, c2, ms_eq hn, if_pos h5, if_true, es]
        rw [g1, g3]; exact hi
      · have h6 : ¬ kF (fun k => decide (nI k ≠ -1 ∧ sb k < v (2 * i + 1) ∧ v (2 * i) < se k)) 0 n = -1 := by rw [hs]; exact h5
        refine Or.inl ⟨?_, ?_⟩
        · simp only [f_X1_isSoundInFrees_6, f_X0_count, Option.bind_some, if_neg h', begin0 hm b1, end0 hm b1, c3, v1, v2, fm_eq (show n ≤ 11 by omega), if_neg h6]
        · simp only [f_X3_areSpans_107, hfo, Option.bind_some, if_neg h', e2, e3, if_pos a1, if_pos a2, c1, c2, ms_eq hn, if_neg h5, t10, if_false]
theorem sound_both {fr un : Int64} {n w : Nat} {sb se : Nat → Int64} {so : Nat → Int32} {mbe men : Nat → Int64} {mov : Nat → Int32} {wb we mwb mwe : Nat → Int64} {fb fe : Nat → Int64} {fo : Nat → Int32} {fc : Int32} {rm : Nat → Int32} (hS : kSpans fr un n sb se so mbe men mov) (hn : n ≤ 10) (hf : kLet fr) (hu : kLet un) (hfu : fr < un) (hW : kWish w wb we mwb mwe) (hw : w ≤ 8) : ∃ z fb' fe' fo' fc' rm', f_X1_isSound fr un sb se so (nI n) wb we (nI w) fb fe fo fc rm = some (z, fb', fe', fo', fc', rm') ∧ f_X3_isSound fr un mbe men mov (nI n) mwb mwe (nI w) = some (z, 0) := by
  obtain ⟨s, hs, c1, c3, ha⟩ := chosen_both hW hw
  have hno : ¬ un ≤ fr := Int64.not_le.mpr hfu
  rcases so_loop hS hn 24 0 (Nat.zero_le _) (by omega) with ⟨g1, g3⟩ | ⟨g1, g3⟩
  · have g1' : f_X1_isSoundInSpans fr un sb se so (nI n) = some 0 := g1
    have g3' : f_X3_areSpans fr un mbe men mov (nI n) = some 0 := g3
    refine ⟨0, fb, fe, fo, fc, rm, ?_, ?_⟩
    · simp only [f_X1_isSound, if_neg hno, g1', Option.bind_some, if_true]
    · simp only [f_X3_isSound, c3, if_neg hno, g3', Option.bind_some, if_true]
  · have g1' : f_X1_isSoundInSpans fr un sb se so (nI n) = some 1 := g1
    obtain ⟨m, fb2, fe2, fo2, v, e1, e3, e4, hm, hv, hP, hp⟩ := free_both (fb := fb) (fe := fe) (fo := fo) (fc := fc) hS hn hf hu hfu
    have g3' : f_X3_areSpans fr un mbe men mov (nI n) = f_X3_areSpans_107 24 mbe men (nI n) v 0 := g3.trans (by rw [e3, Option.bind_some])
    rcases sf_loop (fr := fr) (un := un) (fo := fo2) hS.row hn hm hv e4 24 0 (Nat.zero_le _) (by omega) with ⟨k1, k3⟩ | ⟨k1, k3⟩
    · have k1' : f_X1_isSoundInFrees_6 24 fr un sb se (nI n) fb2 fe2 fo2 (nI m) 0 = some (0, fb2, fe2, fo2, nI m) := k1
      have k3' : f_X3_areSpans_107 24 mbe men (nI n) v 0 = some 0 := k3
      refine ⟨0, fb2, fe2, fo2, nI m, rm, ?_, ?_⟩
      · simp only [f_X1_isSound, if_neg hno, g1', Option.bind_some, t10, if_false, f_X1_isSoundInFrees, e1, k1', if_true]
      · simp only [f_X3_isSound, c3, if_neg hno, g3', k3', Option.bind_some, if_true]
    · have k3' : f_X3_areSpans_107 24 mbe men (nI n) v 0 = some 1 := k3
      obtain ⟨t, t1, t3, -⟩ := taken_both hS hn hf hu hfu
      obtain ⟨l, l1, l3, -⟩ := freeLen_both hf hu hfu hm hv e3 e4 hP hp
      rw [t1, l1, Option.bind_some, Option.bind_some] at k1
      by_cases h5 : t + l = un - fr
      · rw [if_pos h5] at k1
        have k1' : f_X1_isSoundInFrees_6 24 fr un sb se (nI n) fb2 fe2 fo2 (nI m) 0 = some (1, fb2, fe2, fo2, nI m) := k1
        obtain ⟨rm', ex', r1, r3, hk⟩ := rooms_both (rm := rm) hW hw
        obtain ⟨x, x1, x3⟩ := count_both hw (fun k h => (hk k h).1) r3
        obtain ⟨y, y1, y3⟩ := dp_both (N := 8) (b := wb) (e := we) (b' := mwb) (e' := mwe) (fun k hk => ⟨(hW k hk).1, (hW k hk).2.1⟩) hw (by omega)
        obtain ⟨p, -, p1, p3⟩ := pop_both s hs
        obtain ⟨a, -, a1, a3⟩ := most_both hW hw
        rcases ap_both hw hs hW.bo with ⟨q1, q3, -⟩ | ⟨-, -, q3⟩
        · by_cases h6 : nI p = nI a
          · by_cases h7 : x = y
            · refine ⟨1, fb2, fe2, fo2, nI m, rm', ?_, ?_⟩
              · simp only [f_X1_isSound, if_neg hno, g1', Option.bind_some, t10, if_false, f_X1_isSoundInFrees, e1, k1', f_X1_isSoundInWishes, r1, c1, q1, p1, a1, if_pos h6, x1, f_X1_crowd, y1, if_pos h7]
              · simp only [f_X3_isSound, c3, if_neg hno, g3', k3', Option.bind_some, t10, if_false, t3, l3, if_pos h5, q3, p3, a3, if_pos h6, x3, y3, if_pos h7]
            · refine ⟨0, fb2, fe2, fo2, nI m, rm', ?_, ?_⟩
              · simp only [f_X1_isSound, if_neg hno, g1', Option.bind_some, t10, if_false, f_X1_isSoundInFrees, e1, k1', f_X1_isSoundInWishes, r1, c1, q1, p1, a1, if_pos h6, x1, f_X1_crowd, y1, if_neg h7, if_true]
              · simp only [f_X3_isSound, c3, if_neg hno, g3', k3', Option.bind_some, t10, if_false, t3, l3, if_pos h5, q3, p3, a3, if_pos h6, x3, y3, if_neg h7]
          · refine ⟨0, fb2, fe2, fo2, nI m, rm', ?_, ?_⟩
            · simp only [f_X1_isSound, if_neg hno, g1', Option.bind_some, t10, if_false, f_X1_isSoundInFrees, e1, k1', f_X1_isSoundInWishes, r1, c1, q1, p1, a1, if_neg h6, if_true]
            · simp only [f_X3_isSound, c3, if_neg hno, g3', k3', Option.bind_some, t10, if_false, t3, l3, if_pos h5, q3, p3, a3, if_neg h6]
        · exact absurd ha q3
      · rw [if_neg h5] at k1
        have k1' : f_X1_isSoundInFrees_6 24 fr un sb se (nI n) fb2 fe2 fo2 (nI m) 0 = some (0, fb2, fe2, fo2, nI m) := k1
        refine ⟨0, fb2, fe2, fo2, nI m, rm, ?_, ?_⟩
        · simp only [f_X1_isSound, if_neg hno, g1', Option.bind_some, t10, if_false, f_X1_isSoundInFrees, e1, k1', if_true]
        · simp only [f_X3_isSound, c3, if_neg hno, g3', k3', Option.bind_some, t10, if_false, t3, l3, if_neg h5]
