/-! the digest -/
def kMx (d : Int64) (v : Int32) : Int64 := d * 31 + v.toInt64
theorem kMx_f {d : Int64} {v : Int32} : d * 31 + v.toInt64 = kMx d v := by rw [kMx]
theorem mix1 {d : Int64} {v : Int32} : f_X1_mix d v = some (kMx d v) := rfl
/-- four numbers of a piece -/
def kMp (d b e : Int64) : Int64 := kMx (kMx (kMx (kMx d (kSec b)) (kNan b)) (kSec e)) (kNan e)
theorem part_j {x y : Int64} : (if (2 : Int32) ≤ nI 0 then kPart y (nI 0) else kPart x (nI 0)) = kSec x ∧ (if (2 : Int32) ≤ nI 1 then kPart y (nI 1) else kPart x (nI 1)) = kNan x ∧ (if (2 : Int32) ≤ nI 2 then kPart y (nI 2) else kPart x (nI 2)) = kSec y ∧ (if (2 : Int32) ≤ nI 3 then kPart y (nI 3) else kPart x (nI 3)) = kNan y := by
  have h0 : nI 0 &&& 1 = 0 := by decide
  have h1 : ¬ nI 1 &&& 1 = 0 := by decide
  have h2 : nI 2 &&& 1 = 0 := by decide
  have h3 : ¬ nI 3 &&& 1 = 0 := by decide
  have g0 : ¬ (2 : Int32) ≤ nI 0 := by decide
  have g1 : ¬ (2 : Int32) ≤ nI 1 := by decide
  have g2 : (2 : Int32) ≤ nI 2 := by decide
  have g3 : (2 : Int32) ≤ nI 3 := by decide
  unfold kPart
  rw [if_neg g0, if_neg g1, if_pos g2, if_pos g3, if_pos h0, if_neg h1, if_pos h2, if_neg h3]
  exact ⟨rfl, rfl, rfl, rfl⟩
theorem mp_step {rb re : Nat → Int64} {n k u j : Nat} {d : Int64} (hn : n ≤ 11) (hk : k < n) (h1 : kWide (rb k)) (h2 : kWide (re k)) (hj : j < 4) : f_X1_mixParts_6 (u + 1) rb re (nI n) (nI k) d (nI j) = f_X1_mixParts_6 u rb re (nI n) (nI k) (kMx d (if (2 : Int32) ≤ nI j then kPart (re k) (nI j) else kPart (rb k) (nI j))) (nI (j + 1)) := by
  have h' : ¬ (4 : Int32) ≤ nI j := t49 (a := 4) (by omega) (by omega) (by omega)
  have b1 : ix (nI k) n := q_ix hk (by omega)
  have c1 : (nI k).toNatClampNeg = k := q_cl (by omega)
  have p := partIn1 (rb := rb) (re := re) (w := nI j) hn b1 (by rw [c1]; exact h1) (by rw [c1]; exact h2)
  rw [c1] at p
  simp only [f_X1_mixParts_6, if_neg h', p, Option.bind_some, mix1, q_s]
theorem mp_eq {rb re : Nat → Int64} {n k : Nat} {d : Int64} (hn : n ≤ 11) (hk : k < n) (h1 : kWide (rb k)) (h2 : kWide (re k)) : f_X1_mixParts rb re (nI n) d (nI k) = some (kMp d (rb k) (re k)) := by
  obtain ⟨p0, p1, p2, p3⟩ := part_j (x := rb k) (y := re k)
  have e4 : ∀ x, f_X1_mixParts_6 20 rb re (nI n) (nI k) x (nI 4) = some x := fun x => by
    have h' : (4 : Int32) ≤ nI 4 := by decide
    simp only [f_X1_mixParts_6, if_pos h']
  show f_X1_mixParts_6 24 rb re (nI n) (nI k) d (nI 0) = _
  rw [mp_step hn hk h1 h2 (by omega), mp_step hn hk h1 h2 (by omega), mp_step hn hk h1 h2 (by omega), mp_step hn hk h1 h2 (by omega), p0, p1, p2, p3, e4, kMp]
theorem added3 {N M k : Nat} {b e : Nat → Int64} {d : Int64} (hN : k < N) (hM : k < M) (hN9 : N ≤ 65536) (hM9 : M ≤ 65536) (h1 : kWide (b k)) (h2 : kWide (e k)) : f_X3_added N M b e d (nI k) = some (kMp d (b k) (e k)) := by
  have b1 : ix (nI k) N := q_ix hN hN9
  have b2 : ix (nI k) M := q_ix hM hM9
  have c1 : (nI k).toNatClampNeg = k := q_cl (by omega)
  simp only [f_X3_added, if_pos b1, if_pos b2, c1, sec3 h1, nan3 h1, sec3 h2, nan3 h2, Option.bind_some]
  rfl
theorem second3 {mce : Nat → Int64} {p : Int32} (h0 : ix p 4) (h : kLet (mce p.toNatClampNeg)) : f_X3_second mce p = some (kSec (mce p.toNatClampNeg), 0) ∧ f_X3_nano mce p = some (kNan (mce p.toNatClampNeg), 0) := by
  constructor
  · simp only [f_X3_second, f_X3_second_13, is3, thrown3', if_pos h0, sec3 h.wide, Option.bind_some, if_true, t10, if_false]
  · simp only [f_X3_nano, f_X3_nano_13, is3, thrown3', if_pos h0, nan3 h.wide, Option.bind_some, if_true, t10, if_false]
theorem at3 {mce mbe men : Nat → Int64} {sp z p : Int32} (h0 : ix p 4) (h : f_X3_spanAt mbe men sp (mce p.toNatClampNeg) = some z) : f_X3_at mce mbe men sp p = some (z, 0) := by
  simp only [f_X3_at, f_X3_at_13, is3, thrown3', if_pos h0, h, Option.bind_some, if_true, t10, if_false]
theorem freeAt3 {mce mbe men v : Nat → Int64} {fr un : Int64} {sp z p : Int32} (h0 : ix p 4) (e3 : f_X3_free fr un mbe men sp = some v) (h : f_X3_freeAt_28 24 mce 0 v p 0 = some (z, 0)) : f_X3_freeAt mce fr un mbe men sp p = some (z, 0) := by
  simp only [f_X3_freeAt, f_X3_freeAt_13, is3, thrown3', if_pos h0, e3, h, Option.bind_some, if_true, t10, if_false]
theorem mc_step {ce mce sb se fb fe : Nat → Int64} {n m : Nat} {u k : Nat} {d : Int64} {a b : Int32} (hc : kCe ce mce) (hk : k < 4) (e1 : f_X0_firstWith sb se (nI n) (mce k) = some a) (e2 : f_X0_firstWith fb fe (nI m) (mce k) = some b) : f_X1_mixCells_5 (u + 1) ce sb se (nI n) fb fe (nI m) d (nI k) = f_X1_mixCells_5 u ce sb se (nI n) fb fe (nI m) (kMx (kMx (kMx (kMx d (kSec (mce k))) (kNan (mce k))) a) b) (nI (k + 1)) := by
  have h' : ¬ (4 : Int32) ≤ nI k := t49 (a := 4) (by omega) (by omega) (by omega)
  have b1 : ix (nI k) 4 := q_ix hk (by omega)
  have c1 : (nI k).toNatClampNeg = k := q_cl (by omega)
  obtain ⟨z1, z2⟩ := hc k hk
  rw [z1] at z2
  simp only [f_X1_mixCells_5, if_neg h', if_pos b1, c1, z1, sec1 z2.wide, nan1 z2.wide, e1, e2, Option.bind_some, mix1, q_s]

theorem cal_both {fr un : Int64} {p : Int32} (hf : kLet fr) (hu : kLet un) (h : 0 ≤ p.toInt ∧ p.toInt ≤ 3) : ∃ z, f_X1_calendar fr un p = some z ∧ f_X3_calendar fr un p = some (z, 0) := by
  have hM : f_X3_calendar fr un p = f_X3_calendar_15 fr un p 0 := (arg3 p 3 (f_X3_calendar_10 fr un p) (f_X3_calendar_15 fr un p 0)).trans (if_pos (by rw [c3]; exact h))
  have h6 : p.toInt < 6 := by omega
  rw [hM]
  by_cases h0 : (2 : Int32) ≤ p
  · refine ⟨kPart un p, ?_, ?_⟩
    · simp only [f_X1_calendar, f_X1_calendar_25, withinq, i0, c3, if_pos h, needThat1.1, Option.bind_some, if_pos h0, part1 hu.wide]
    · simp only [if_pos h0, f_X3_calendar_15, f_X3_calendar_41, thrown3', if_true, half3 hu.wide h.1 h6, Option.bind_some]
  · refine ⟨kPart fr p, ?_, ?_⟩
    · simp only [f_X1_calendar, f_X1_calendar_25, withinq, i0, c3, if_pos h, needThat1.1, Option.bind_some, if_neg h0, part1 hf.wide]
    · simp only [if_neg h0, f_X3_calendar_15, f_X3_calendar_41, thrown3', if_true, half3 hf.wide h.1 h6, Option.bind_some]
theorem ms_step {fr un : Int64} {sb se : Nat → Int64} {so : Nat → Int32} {sc z : Int32} {u j : Nat} {d : Int64} (hj : j < 4) (e : f_X1_calendar fr un (nI j) = some z) : f_X1_mixSpans_5 (u + 1) fr un sb se so sc d (nI j) = f_X1_mixSpans_5 u fr un sb se so sc (kMx d z) (nI (j + 1)) := by
  have h' : ¬ (4 : Int32) ≤ nI j := t49 (a := 4) (by omega) (by omega) (by omega)
  simp only [f_X1_mixSpans_5, if_neg h', e, Option.bind_some, mix1, q_s]
theorem nI_in03 {j : Nat} (h : j < 4) : 0 ≤ (nI j).toInt ∧ (nI j).toInt ≤ 3 := by
  rw [nI_toInt (by omega)]; omega
theorem nI_in05 {j : Nat} (h : j < 6) : 0 ≤ (nI j).toInt ∧ (nI j).toInt ≤ 5 := by
  rw [nI_toInt (by omega)]; omega
/-- the rows of spans: what comes behind, on the reference's side, is a rest of its own -/
theorem ds_loop {fr un : Int64} {n w : Nat} {sb se : Nat → Int64} {so : Nat → Int32} {mbe men : Nat → Int64} {mov : Nat → Int32} {mwb mwe : Nat → Int64} {ac rf kn fz : Int32} (hS : kSpans fr un n sb se so mbe men mov) (hn : n ≤ 10) (hf : kLet fr) (hu : kLet un) (ez : f_X3_frees fr un mbe men (nI n) = some (fz, 0)) : ∀ (u i : Nat) (d : Int64), i ≤ n → n - i < u → ∃ d', f_X1_mixSpans_43 u sb se so (nI n) d (nI i) = some d' ∧ f_X3_digest_105 u fr un mbe men mov (nI n) mwb mwe (nI w) ac rf kn d (nI i) = f_X3_digest_188 14 fr un mbe men mov (nI n) mwb mwe (nI w) ac rf kn (kMx d' fz) 0 := by
  intro u
  induction u with
  | zero => intro i d hi hf; omega
  | succ u ih =>
    intro i d hi hfu
    by_cases h : n ≤ i
    · have h' : nI n ≤ nI i := (q_le (by omega) (by omega)).mpr h
      obtain ⟨a, a1, a3⟩ := ob_clashes hS.row hn
      obtain ⟨b, b1, b3⟩ := ob_deepest hS.row hn
      refine ⟨kMx (kMx d a) b, ?_, ?_⟩
      · simp only [f_X1_mixSpans_43, f_X0_count, Option.bind_some, if_pos h', a1, b1, mix1]
      · simp only [f_X3_digest_105, if_pos h', a3, b3, ez, Option.bind_some]
        rfl
    · have h' : ¬ nI n ≤ nI i := t49 (by omega) (by omega) h
      have es : nI i + 1 = nI (i + 1) := q_s i
      have a1 : ix (nI i) 10 := q_ix (by omega) (by omega)
      have b1 : ix (nI i) n := q_ix (by omega) (by omega)
      have c1 : (nI i).toNatClampNeg = i := q_cl (by omega)
      obtain ⟨z1, z2, z3, -⟩ := hS i (by omega)
      obtain ⟨l1, l2, -⟩ := hS.let hf hu (show i < n by omega)
      have m1 := mp_eq (rb := sb) (re := se) (d := d) (show n ≤ 11 by omega) (show i < n by omega) (by rw [z1]; exact l1.wide) (by rw [z2]; exact l2.wide)
      rw [z1, z2] at m1
      have m3 := added3 (N := 10) (M := 10) (b := mbe) (e := men) (d := d) (show i < 10 by omega) (show i < 10 by omega) (by omega) (by omega) l1.wide l2.wide
      by_cases o1 : mov i = 0
      · obtain ⟨d', g1, g3⟩ := ih (i + 1) (kMx (kMp d (mbe i) (men i)) 0) (by omega) (by omega)
        refine ⟨d', ?_, ?_⟩
        · simp only [f_X1_mixSpans_43, f_X0_count, Option.bind_some, if_neg h', m1, over0 (show n ≤ 11 by omega) b1, c1, z3, if_pos o1, if_true, f_X1_mixSpans_84, mix1, es, g1]
        · simp only [f_X3_digest_105, if_neg h', m3, Option.bind_some, if_pos a1, c1, if_pos o1, es]
          exact g3
      · obtain ⟨d', g1, g3⟩ := ih (i + 1) (kMx (kMp d (mbe i) (men i)) 1) (by omega) (by omega)
        refine ⟨d', ?_, ?_⟩
        · simp only [f_X1_mixSpans_43, f_X0_count, Option.bind_some, if_neg h', m1, over0 (show n ≤ 11 by omega) b1, c1, z3, if_neg o1, t10, if_false, f_X1_mixSpans_84, mix1, es, g1]
        · simp only [f_X3_digest_105, if_neg h', m3, Option.bind_some, if_pos a1, c1, if_neg o1, es]
          exact g3
theorem len_both {fr un : Int64} {n : Nat} {sb se : Nat → Int64} {so : Nat → Int32} {mbe men : Nat → Int64} {mov : Nat → Int32} {p : Int32} (hS : kSpans fr un n sb se so mbe men mov) (hn : n ≤ 10) (hf : kLet fr) (hu : kLet un) (hfu : fr < un) (h : 0 ≤ p.toInt ∧ p.toInt ≤ 5) : ∃ z, f_X3_length fr un mbe men (nI n) p = some (z, 0) ∧ ∀ (fb fe : Nat → Int64) (fo : Nat → Int32) (fc : Int32), ∃ fb' fe' fo' fc', f_X1_length fr un sb se (nI n) fb fe fo fc p = some (z, fb', fe', fo', fc') := by
  have h6 : p.toInt < 6 := by omega
  have hM : f_X3_length fr un mbe men (nI n) p = f_X3_length_15 fr un mbe men (nI n) p 0 := (arg3 p 5 (f_X3_length_10 fr un mbe men (nI n) p) (f_X3_length_15 fr un mbe men (nI n) p 0)).trans (if_pos (by rw [c5]; exact h))
  rw [hM]
  by_cases h2 : (2 : Int32) ≤ p
  · by_cases h4 : (4 : Int32) ≤ p
    · have hw := diff_wide hu hf
      refine ⟨kPart (un - fr) p, ?_, fun fb fe fo fc => ?_⟩
      · simp only [f_X3_length_15, f_X3_length_56, thrown3', if_true, if_pos h2, if_pos h4, half3 hw h.1 h6, Option.bind_some]
      · obtain ⟨m, fb2, fe2, fo2, v, e1, -⟩ := free_both (fb := fb) (fe := fe) (fo := fo) (fc := fc) hS hn hf hu hfu
        refine ⟨fb2, fe2, fo2, nI m, ?_⟩
        simp only [f_X1_length, f_X1_length_48, withinq, i0, c5, if_pos h, needThat1.1, Option.bind_some, if_pos h2, if_pos h4, e1, part1 hw]
    · obtain ⟨z, e6, -⟩ : ∃ z, f_X3_freeLength fr un mbe men (nI n) = some z ∧ True := by
        obtain ⟨m, fb2, fe2, fo2, v, e1, e3, e4, hm, hv, hP, hp⟩ := free_both (fb := fun _ => 0) (fe := fun _ => 0) (fo := fun _ => 0) (fc := 0) hS hn hf hu hfu
        obtain ⟨z, -, e6, -⟩ := freeLen_both hf hu hfu hm hv e3 e4 hP hp
        exact ⟨z, e6, trivial⟩
      have key : ∀ (fb fe : Nat → Int64) (fo : Nat → Int32) (fc : Int32), ∃ m fb2 fe2 fo2, f_X1_findFrees fr un sb se (nI n) fb fe fo fc = some (fb2, fe2, fo2, nI m) ∧ f_X1_freeLength fb2 fe2 (nI m) = some z ∧ kDur fr un z := fun fb fe fo fc => by
        obtain ⟨m, fb2, fe2, fo2, v, e1, e3, e4, hm, hv, hP, hp⟩ := free_both (fb := fb) (fe := fe) (fo := fo) (fc := fc) hS hn hf hu hfu
        obtain ⟨z', e5, e7, hz⟩ := freeLen_both hf hu hfu hm hv e3 e4 hP hp
        have ez : z' = z := Option.some.inj (e7.symm.trans e6)
        rw [ez] at e5 hz
        exact ⟨m, fb2, fe2, fo2, e1, e5, hz⟩
      have hw : kWide z := by
        obtain ⟨_, _, _, _, _, _, hz⟩ := key (fun _ => 0) (fun _ => 0) (fun _ => 0) 0
        exact hz.wide hf hu
      refine ⟨kPart z p, ?_, fun fb fe fo fc => ?_⟩
      · simp only [f_X3_length_15, f_X3_length_56, thrown3', if_true, if_pos h2, if_neg h4, e6, half3 hw h.1 h6, Option.bind_some]
      · obtain ⟨m, fb2, fe2, fo2, e1, e5, -⟩ := key fb fe fo fc
        refine ⟨fb2, fe2, fo2, nI m, ?_⟩
        simp only [f_X1_length, f_X1_length_48, withinq, i0, c5, if_pos h, needThat1.1, Option.bind_some, if_pos h2, if_neg h4, e1, e5, part1 hw]
  · obtain ⟨z, e5, e6, hz⟩ := taken_both hS hn hf hu hfu
    have hw := hz.wide hf hu
    refine ⟨kPart z p, ?_, fun fb fe fo fc => ⟨fb, fe, fo, fc, ?_⟩⟩
    · simp only [f_X3_length_15, f_X3_length_56, thrown3', if_true, if_neg h2, e6, half3 hw h.1 h6, Option.bind_some]
    · simp only [f_X1_length, withinq, i0, c5, if_pos h, needThat1.1, Option.bind_some, if_neg h2, e5, part1 hw]
theorem ml_step {fr un : Int64} {n : Nat} {sb se : Nat → Int64} {U u j J : Nat} {d : Int64} {z : Int32} (hU : U = u + 1) (hJ : J = j + 1) (hj : j < 6) (e : ∀ (fb fe : Nat → Int64) (fo : Nat → Int32) (fc : Int32), ∃ fb' fe' fo' fc', f_X1_length fr un sb se (nI n) fb fe fo fc (nI j) = some (z, fb', fe', fo', fc')) (fb fe : Nat → Int64) (fo : Nat → Int32) (fc : Int32) : ∃ fb' fe' fo' fc', f_X1_mixFrees_47 U fr un sb se (nI n) fb fe fo fc d (nI j) = f_X1_mixFrees_47 u fr un sb se (nI n) fb' fe' fo' fc' (kMx d z) (nI J) := by
  subst hU; subst hJ
  have h' : ¬ (6 : Int32) ≤ nI j := t49 (a := 6) (by omega) (by omega) (by omega)
  obtain ⟨fb', fe', fo', fc', e1⟩ := e fb fe fo fc
  refine ⟨fb', fe', fo', fc', ?_⟩
  simp only [f_X1_mixFrees_47, if_neg h', e1, Option.bind_some, mix1, q_s]
theorem ml_end {fr un : Int64} {n : Nat} {sb se : Nat → Int64} {U : Nat} {d : Int64} {fb fe : Nat → Int64} {fo : Nat → Int32} {fc : Int32} (hU : 0 < U) : f_X1_mixFrees_47 U fr un sb se (nI n) fb fe fo fc d (nI 6) = some (d, fb, fe, fo, fc) := by
  obtain ⟨u, rfl⟩ : ∃ u, U = u + 1 := ⟨U - 1, by omega⟩
  have h' : (6 : Int32) ≤ nI 6 := by decide
  simp only [f_X1_mixFrees_47, if_pos h']
theorem ofFree3 {fr un : Int64} {m n k : Nat} {fb fe v mbe men : Nat → Int64} {j : Nat} (hm : m ≤ 11) (hk : k < m) (hj : j < 4) (hv : ∀ k, k < m → fb k = v (2 * k) ∧ fe k = v (2 * k + 1)) (e3 : f_X3_free fr un mbe men (nI n) = some v) (e4 : f_X3_freesOf 22 v = some (nI m)) (hp : kPie m fb fe) : f_X3_ofFree fr un mbe men (nI n) (nI k) (nI j) = some (if (2 : Int32) ≤ nI j then kPart (fe k) (nI j) else kPart (fb k) (nI j), 0) := by
  have h := nI_in03 hj
  have h6 : (nI j).toInt < 6 := by omega
  have a1 : ¬ nI k < 0 := by rw [nI_lt0 (show k ≤ 65536 by omega)]; exact id
  have a2 : nI k < nI m := (q_lt (by omega) (by omega)).mpr hk
  obtain ⟨p4, p5, p6⟩ := hp k hk
  obtain ⟨v1, v2⟩ := hv k hk
  have hM : f_X3_ofFree_23 v (nI k) (nI j) 0 = f_X3_ofFree_37 v (nI k) (nI j) 0 0 := (arg3 (nI j) 3 (f_X3_ofFree_32 v (nI k) (nI j) 0) (f_X3_ofFree_37 v (nI k) (nI j) 0 0)).trans (if_pos (by rw [c3]; exact h))
  have hx := half_ix (show k < 11 by omega) h.1 h.2
  by_cases h3 : (2 : Int32) ≤ nI j
  · rw [if_pos h3] at hx
    have a3 : ix (nI (2 * k + 1)) 22 := q_ix (by omega) (by omega)
    have a4 : (nI (2 * k + 1)).toNatClampNeg = 2 * k + 1 := q_cl (by omega)
    simp only [f_X3_ofFree, e3, Option.bind_some, if_neg a1, e4, if_pos a2, hM, f_X3_ofFree_37, thrown3, if_true, hx, if_pos a3, a4, ← v2, half3 p5.wide h.1 h6, if_pos h3]
  · rw [if_neg h3] at hx
    have a3 : ix (nI (2 * k + 0)) 22 := q_ix (by omega) (by omega)
    have a4 : (nI (2 * k + 0)).toNatClampNeg = 2 * k := q_cl (by omega)
    simp only [f_X3_ofFree, e3, Option.bind_some, if_neg a1, e4, if_pos a2, hM, f_X3_ofFree_37, thrown3, if_true, hx, if_pos a3, a4, ← v1, half3 p4.wide h.1 h6, if_neg h3]
/-- the rows of what is free -/
theorem df_loop {fr un : Int64} {n m w : Nat} {sb se fb fe v mbe men mwb mwe : Nat → Int64} {fo mov : Nat → Int32} {ac rf kn z0 z1 z2 z3 z4 z5 : Int32} {ex : Nat → Int32} (hm : m ≤ 11) (hv : ∀ k, k < m → fb k = v (2 * k) ∧ fe k = v (2 * k + 1)) (e3 : f_X3_free fr un mbe men (nI n) = some v) (e4 : f_X3_freesOf 22 v = some (nI m)) (hp : kPie m fb fe) (l0 : f_X3_length fr un mbe men (nI n) 0 = some (z0, 0)) (l1 : f_X3_length fr un mbe men (nI n) 1 = some (z1, 0)) (l2 : f_X3_length fr un mbe men (nI n) 2 = some (z2, 0)) (l3 : f_X3_length fr un mbe men (nI n) 3 = some (z3, 0)) (l4 : f_X3_length fr un mbe men (nI n) 4 = some (z4, 0)) (l5 : f_X3_length fr un mbe men (nI n) 5 = some (z5, 0)) (ex3 : f_X3_roomsNow mwb mwe (nI w) = some ex) : ∀ (u i : Nat) (d : Int64), i ≤ m → m - i < u → ∃ d', (∀ U, u ≤ U → f_X1_mixFrees_15 U fr un sb se (nI n) fb fe fo (nI m) d (nI i) = f_X1_mixFrees_47 24 fr un sb se (nI n) fb fe fo (nI m) d' 0) ∧ f_X3_digest_188 u fr un mbe men mov (nI n) mwb mwe (nI w) ac rf kn d (nI i) = f_X3_digest_279 24 fr un mbe men mov (nI n) mwb mwe (nI w) ac rf kn ex (kMx (kMx (kMx (kMx (kMx (kMx (kMx d' z0) z1) z2) z3) z4) z5) (nI w)) 0 := by
  intro u
  induction u with
  | zero => intro i d hi hf; omega
  | succ u ih =>
    intro i d hi hfu
    by_cases h : m ≤ i
    · have h' : nI m ≤ nI i := (q_le (by omega) (by omega)).mpr h
      refine ⟨d, fun U hU => ?_, ?_⟩
      · obtain ⟨U, rfl⟩ : ∃ V, U = V + 1 := ⟨U - 1, by omega⟩
        simp only [f_X1_mixFrees_15, f_X0_count, Option.bind_some, if_pos h']
      · simp only [f_X3_digest_188, f_X3_frees, e3, e4, Option.bind_some, if_pos h', l0, l1, l2, l3, l4, l5, ex3]
        rfl
    · have h' : ¬ nI m ≤ nI i := t49 (by omega) (by omega) h
      have es : nI i + 1 = nI (i + 1) := q_s i
      obtain ⟨p4, p5, -⟩ := hp i (by omega)
      have m1 := mp_eq (rb := fb) (re := fe) (d := d) hm (show i < m by omega) p4.wide p5.wide
      have o0 : f_X3_ofFree fr un mbe men (nI n) (nI i) 0 = _ := ofFree3 (j := 0) hm (show i < m by omega) (by omega) hv e3 e4 hp
      have o1 : f_X3_ofFree fr un mbe men (nI n) (nI i) 1 = _ := ofFree3 (j := 1) hm (show i < m by omega) (by omega) hv e3 e4 hp
      have o2 : f_X3_ofFree fr un mbe men (nI n) (nI i) 2 = _ := ofFree3 (j := 2) hm (show i < m by omega) (by omega) hv e3 e4 hp
      have o3 : f_X3_ofFree fr un mbe men (nI n) (nI i) 3 = _ := ofFree3 (j := 3) hm (show i < m by omega) (by omega) hv e3 e4 hp
      obtain ⟨q0, q1, q2, q3⟩ := part_j (x := fb i) (y := fe i)
      rw [q0] at o0; rw [q1] at o1; rw [q2] at o2; rw [q3] at o3
      obtain ⟨d', g1, g3⟩ := ih (i + 1) (kMp d (fb i) (fe i)) (by omega) (by omega)
      refine ⟨d', fun U hU => ?_, ?_⟩
      · obtain ⟨U, rfl⟩ : ∃ V, U = V + 1 := ⟨U - 1, by omega⟩
        simp only [f_X1_mixFrees_15, f_X0_count, Option.bind_some, if_neg h', m1, es, g1 U (by omega)]
      · simp only [f_X3_digest_188, f_X3_frees, e3, e4, Option.bind_some, if_neg h', o0, o1, o2, o3, es]
        exact g3
/-- the rows of wishes, and the rest -/
theorem dw_loop {fr un : Int64} {n w : Nat} {mbe men : Nat → Int64} {mov : Nat → Int32} {wb we mwb mwe : Nat → Int64} {rm ex : Nat → Int32} {ac rf kn s : Int32} (hW : kWish w wb we mwb mwe) (hw : w ≤ 8) (hk : ∀ k, k < w → rm k = ex k) (es9 : f_X3_isSound fr un mbe men mov (nI n) mwb mwe (nI w) = some (s, 0)) : ∀ (u i : Nat) (d : Int64), i ≤ w → w - i < u → ∃ d', f_X1_mixWishes_15 u wb we (nI w) rm d (nI i) = some d' ∧ f_X3_digest_279 u fr un mbe men mov (nI n) mwb mwe (nI w) ac rf kn ex d (nI i) = some (kMx (kMx (kMx (kMx d' ac) rf) kn) (if s = 0 then 0 else 1), 0) := by
  intro u
  induction u with
  | zero => intro i d hi hf; omega
  | succ u ih =>
    intro i d hi hfu
    by_cases h : w ≤ i
    · have h' : nI w ≤ nI i := (q_le (by omega) (by omega)).mpr h
      obtain ⟨c, -, c1, c3, -⟩ := chosen_both hW hw
      obtain ⟨a, -, a1, a3⟩ := most_both hW hw
      obtain ⟨b, b1, b3⟩ := ob_crowd hW hw
      have h0 : f_X3_house ac rf kn 0 = some (ac, 0) := by
        simp only [f_X3_house, f_X3_house_15, thrown3', Option.bind_some, if_true, if_neg (show ¬ (0 : Int32) < 0 by decide), if_pos (show (0 : Int32) ≤ 2 by decide)]
      have h1 : f_X3_house ac rf kn 1 = some (rf, 0) := by
        simp only [f_X3_house, f_X3_house_15, thrown3', Option.bind_some, if_true, if_neg (show ¬ (1 : Int32) < 0 by decide), if_pos (show (1 : Int32) ≤ 2 by decide), t10, if_false]
      have h2 : f_X3_house ac rf kn 2 = some (kn, 0) := by
        simp only [f_X3_house, f_X3_house_15, thrown3', Option.bind_some, if_true, if_neg (show ¬ (2 : Int32) < 0 by decide), if_pos (show (2 : Int32) ≤ 2 by decide), if_neg (show ¬ (2 : Int32) = 0 by decide), if_neg (show ¬ (2 : Int32) = 1 by decide)]
      refine ⟨kMx (kMx (kMx d (nI c)) (nI a)) b, ?_, ?_⟩
      · simp only [f_X1_mixWishes_15, f_X0_count, Option.bind_some, if_pos h', c1, a1, b1, mix1]
      · by_cases hs : s = 0
        · simp only [f_X3_digest_279, if_pos h', c3, a3, b3, h0, h1, h2, es9, Option.bind_some, if_pos hs]
          rfl
        · simp only [f_X3_digest_279, if_pos h', c3, a3, b3, h0, h1, h2, es9, Option.bind_some, if_neg hs]
          rfl
    · have h' : ¬ nI w ≤ nI i := t49 (by omega) (by omega) h
      have es : nI i + 1 = nI (i + 1) := q_s i
      have a1 : ix (nI i) 11 := q_ix (by omega) (by omega)
      have a2 : ix (nI i) w := q_ix (by omega) (by omega)
      have c1 : (nI i).toNatClampNeg = i := q_cl (by omega)
      have ew : (nI w).toNatClampNeg = w := q_cl (by omega)
      obtain ⟨z1, z2, -, z4, z5⟩ := hW i (by omega)
      have m1 := mp_eq (rb := wb) (re := we) (d := d) (show w ≤ 11 by omega) (show i < w by omega) z4.wide z5.wide
      rw [z1, z2] at m1
      rw [z1] at z4
      rw [z2] at z5
      have m3 := added3 (N := 8) (M := 8) (b := mwb) (e := mwe) (d := d) (show i < 8 by omega) (show i < 8 by omega) (by omega) (by omega) z4.wide z5.wide
      obtain ⟨d', g1, g3⟩ := ih (i + 1) (kMx (kMp d (mwb i) (mwe i)) (ex i)) (by omega) (by omega)
      refine ⟨d', ?_, ?_⟩
      · simp only [f_X1_mixWishes_15, f_X0_count, Option.bind_some, if_neg h', m1, if_pos a1, c1, hk i (by omega), mix1, es, g1]
      · simp only [f_X3_digest_279, if_neg h', m3, Option.bind_some, ew, if_pos a2, c1, es]
        exact g3
theorem dg3 {mce : Nat → Int64} {fr un : Int64} {mbe men : Nat → Int64} {mov : Nat → Int32} {msp : Int32} {mwb mwe : Nat → Int64} {mwi ac rf kn : Int32} {s0 n0 t0 u0 s1 n1 t1 u1 s2 n2 t2 u2 s3 n3 t3 u3 c0 c1 c2 c3 : Int32} (hs0 : f_X3_second mce 0 = some (s0, 0)) (hn0 : f_X3_nano mce 0 = some (n0, 0)) (ht0 : f_X3_at mce mbe men msp 0 = some (t0, 0)) (hu0 : f_X3_freeAt mce fr un mbe men msp 0 = some (u0, 0)) (hs1 : f_X3_second mce 1 = some (s1, 0)) (hn1 : f_X3_nano mce 1 = some (n1, 0)) (ht1 : f_X3_at mce mbe men msp 1 = some (t1, 0)) (hu1 : f_X3_freeAt mce fr un mbe men msp 1 = some (u1, 0)) (hs2 : f_X3_second mce 2 = some (s2, 0)) (hn2 : f_X3_nano mce 2 = some (n2, 0)) (ht2 : f_X3_at mce mbe men msp 2 = some (t2, 0)) (hu2 : f_X3_freeAt mce fr un mbe men msp 2 = some (u2, 0)) (hs3 : f_X3_second mce 3 = some (s3, 0)) (hn3 : f_X3_nano mce 3 = some (n3, 0)) (ht3 : f_X3_at mce mbe men msp 3 = some (t3, 0)) (hu3 : f_X3_freeAt mce fr un mbe men msp 3 = some (u3, 0)) (hc0 : f_X3_calendar fr un 0 = some (c0, 0)) (hc1 : f_X3_calendar fr un 1 = some (c1, 0)) (hc2 : f_X3_calendar fr un 2 = some (c2, 0)) (hc3 : f_X3_calendar fr un 3 = some (c3, 0)) : f_X3_digest mce fr un mbe men mov msp mwb mwe mwi ac rf kn = f_X3_digest_105 24 fr un mbe men mov msp mwb mwe mwi ac rf kn (kMx (kMx (kMx (kMx (kMx (kMx (kMx (kMx (kMx (kMx (kMx (kMx (kMx (kMx (kMx (kMx (kMx (kMx (kMx (kMx (kMx 8009 s0) n0) t0) u0) s1) n1) t1) u1) s2) n2) t2) u2) s3) n3) t3) u3) c0) c1) c2) c3) msp) 0 := by
  simp only [f_X3_digest, hs0, hn0, ht0, hu0, hs1, hn1, ht1, hu1, hs2, hn2, ht2, hu2, hs3, hn3, ht3, hu3, hc0, hc1, hc2, hc3, Option.bind_some, kMx_f]
theorem ms_all {fr un : Int64} {sb se : Nat → Int64} {so : Nat → Int32} {n : Nat} {g0 g1 g2 g3 : Int32} {d : Int64} (j0 : f_X1_calendar fr un (nI 0) = some g0) (j1 : f_X1_calendar fr un (nI 1) = some g1) (j2 : f_X1_calendar fr un (nI 2) = some g2) (j3 : f_X1_calendar fr un (nI 3) = some g3) : f_X1_mixSpans fr un sb se so (nI n) d = f_X1_mixSpans_43 24 sb se so (nI n) (kMx (kMx (kMx (kMx (kMx d g0) g1) g2) g3) (nI n)) (nI 0) := by
  have e9 : ∀ u x, f_X1_mixSpans_5 (u + 1) fr un sb se so (nI n) x (nI 4) = f_X1_mixSpans_43 24 sb se so (nI n) (kMx x (nI n)) (nI 0) := fun u x => by
    have h' : (4 : Int32) ≤ nI 4 := by decide
    rw [f_X1_mixSpans_5, if_pos h', f_X0_count, Option.bind_some, mix1, Option.bind_some, q_0]
  have e0 : f_X1_mixSpans fr un sb se so (nI n) d = f_X1_mixSpans_5 24 fr un sb se so (nI n) d (nI 0) := by
    unfold f_X1_mixSpans; rw [q_0]
  rw [e0, ms_step (by omega) j0, ms_step (by omega) j1, ms_step (by omega) j2, ms_step (by omega) j3, e9]
theorem mc_all {ce mce sb se fb fe : Nat → Int64} {n m : Nat} {d : Int64} {a0 b0 a1 b1 a2 b2 a3 b3 : Int32} (hc : kCe ce mce) (x0 : f_X0_firstWith sb se (nI n) (mce 0) = some a0) (y0 : f_X0_firstWith fb fe (nI m) (mce 0) = some b0) (x1 : f_X0_firstWith sb se (nI n) (mce 1) = some a1) (y1 : f_X0_firstWith fb fe (nI m) (mce 1) = some b1) (x2 : f_X0_firstWith sb se (nI n) (mce 2) = some a2) (y2 : f_X0_firstWith fb fe (nI m) (mce 2) = some b2) (x3 : f_X0_firstWith sb se (nI n) (mce 3) = some a3) (y3 : f_X0_firstWith fb fe (nI m) (mce 3) = some b3) : f_X1_mixCells ce sb se (nI n) fb fe (nI m) d = some (kMx (kMx (kMx (kMx (kMx (kMx (kMx (kMx (kMx (kMx (kMx (kMx (kMx (kMx (kMx (kMx d (kSec (mce 0))) (kNan (mce 0))) a0) b0) (kSec (mce 1))) (kNan (mce 1))) a1) b1) (kSec (mce 2))) (kNan (mce 2))) a2) b2) (kSec (mce 3))) (kNan (mce 3))) a3) b3) := by
  have e9 : ∀ u x, f_X1_mixCells_5 (u + 1) ce sb se (nI n) fb fe (nI m) x (nI 4) = some x := fun u x => by
    have h' : (4 : Int32) ≤ nI 4 := by decide
    simp only [f_X1_mixCells_5, if_pos h']
  have e0 : f_X1_mixCells ce sb se (nI n) fb fe (nI m) d = f_X1_mixCells_5 24 ce sb se (nI n) fb fe (nI m) d (nI 0) := rfl
  rw [e0, mc_step hc (by omega) x0 y0, mc_step hc (by omega) x1 y1, mc_step hc (by omega) x2 y2, mc_step hc (by omega) x3 y3, e9]
theorem q_3 : (3 : Int32) = nI 3 := rfl
theorem q_5 : (5 : Int32) = nI 5 := rfl
theorem digest_both {ce mce : Nat → Int64} {fr un : Int64} {n w : Nat} {sb se : Nat → Int64} {so : Nat → Int32} {mbe men : Nat → Int64} {mov : Nat → Int32} {wb we mwb mwe : Nat → Int64} {fb fe : Nat → Int64} {fo : Nat → Int32} {fc : Int32} {rm : Nat → Int32} {ac rf kn : Int32} (hc : kCe ce mce) (hS : kSpans fr un n sb se so mbe men mov) (hn : n ≤ 10) (hf : kLet fr) (hu : kLet un) (hfu : fr < un) (hW : kWish w wb we mwb mwe) (hw : w ≤ 8) : ∃ d fb' fe' fo' fc' rm', f_X1_digest ce fr un sb se so (nI n) wb we (nI w) fb fe fo fc rm ac rf kn = some (d, fb', fe', fo', fc', rm') ∧ f_X3_digest mce fr un mbe men mov (nI n) mwb mwe (nI w) ac rf kn = some (d, 0) := by
  obtain ⟨m, fb2, fe2, fo2, v, e1, e3, e4, hm, hv, hP, hp⟩ := free_both (fb := fb) (fe := fe) (fo := fo) (fc := fc) hS hn hf hu hfu
  obtain ⟨rm2, ex, r1, r3, hk⟩ := rooms_both (rm := rm) hW hw
  -- cells
  have cell : ∀ k, k < 4 → ∃ a b, f_X0_firstWith sb se (nI n) (mce k) = some a ∧ f_X0_firstWith fb2 fe2 (nI m) (mce k) = some b ∧ f_X3_second mce (nI k) = some (kSec (mce k), 0) ∧ f_X3_nano mce (nI k) = some (kNan (mce k), 0) ∧ f_X3_at mce mbe men (nI n) (nI k) = some (a, 0) ∧ f_X3_freeAt mce fr un mbe men (nI n) (nI k) = some (b, 0) := fun k hk4 => by
    have b1 : ix (nI k) 4 := q_ix hk4 (by omega)
    have c1 : (nI k).toNatClampNeg = k := q_cl (by omega)
    obtain ⟨z1, z2⟩ := hc k hk4
    rw [z1] at z2
    obtain ⟨a, a1, a3⟩ := at_both (b := sb) (e := se) (b' := mbe) (e' := men) hn z2 (fun k hk => ⟨(hS k hk).1, (hS k hk).2.1⟩)
    obtain ⟨b, f1, f3⟩ := freeAt_both (mce := mce) (mth := 0) (p := nI k) hm hv e4 z2 b1 (by rw [c1])
    have hs := second3 (mce := mce) b1 (by rw [c1]; exact z2)
    rw [c1] at hs
    exact ⟨a, b, a1, f1, hs.1, hs.2, at3 b1 (by rw [c1]; exact a3), freeAt3 b1 e3 f3⟩
  obtain ⟨a0, b0, x0, y0, s0, n0, t0, u0⟩ := cell 0 (by omega)
  obtain ⟨a1, b1, x1, y1, s1, n1, t1, u1⟩ := cell 1 (by omega)
  obtain ⟨a2, b2, x2, y2, s2, n2, t2, u2⟩ := cell 2 (by omega)
  obtain ⟨a3, b3, x3, y3, s3, n3, t3, u3⟩ := cell 3 (by omega)
  have hC := mc_all (d := 8009) hc x0 y0 x1 y1 x2 y2 x3 y3
  have s0' : f_X3_second mce 0 = some (kSec (mce 0), 0) := by
    rw [q_0]; exact s0
  have n0' : f_X3_nano mce 0 = some (kNan (mce 0), 0) := by
    rw [q_0]; exact n0
  have t0' : f_X3_at mce mbe men (nI n) 0 = some (a0, 0) := by
    rw [q_0]; exact t0
  have u0' : f_X3_freeAt mce fr un mbe men (nI n) 0 = some (b0, 0) := by
    rw [q_0]; exact u0
  have s1' : f_X3_second mce 1 = some (kSec (mce 1), 0) := by
    rw [q_1]; exact s1
  have n1' : f_X3_nano mce 1 = some (kNan (mce 1), 0) := by
    rw [q_1]; exact n1
  have t1' : f_X3_at mce mbe men (nI n) 1 = some (a1, 0) := by
    rw [q_1]; exact t1
  have u1' : f_X3_freeAt mce fr un mbe men (nI n) 1 = some (b1, 0) := by
    rw [q_1]; exact u1
  have s2' : f_X3_second mce 2 = some (kSec (mce 2), 0) := by
    rw [q_2]; exact s2
  have n2' : f_X3_nano mce 2 = some (kNan (mce 2), 0) := by
    rw [q_2]; exact n2
  have t2' : f_X3_at mce mbe men (nI n) 2 = some (a2, 0) := by
    rw [q_2]; exact t2
  have u2' : f_X3_freeAt mce fr un mbe men (nI n) 2 = some (b2, 0) := by
    rw [q_2]; exact u2
  have s3' : f_X3_second mce 3 = some (kSec (mce 3), 0) := by
    rw [q_3]; exact s3
  have n3' : f_X3_nano mce 3 = some (kNan (mce 3), 0) := by
    rw [q_3]; exact n3
  have t3' : f_X3_at mce mbe men (nI n) 3 = some (a3, 0) := by
    rw [q_3]; exact t3
  have u3' : f_X3_freeAt mce fr un mbe men (nI n) 3 = some (b3, 0) := by
    rw [q_3]; exact u3
  obtain ⟨g0, j0, k0⟩ := cal_both (p := nI 0) hf hu (nI_in03 (by omega))
  have k0' : f_X3_calendar fr un 0 = some (g0, 0) := by
    rw [q_0]; exact k0
  obtain ⟨g1, j1, k1⟩ := cal_both (p := nI 1) hf hu (nI_in03 (by omega))
  have k1' : f_X3_calendar fr un 1 = some (g1, 0) := by
    rw [q_1]; exact k1
  obtain ⟨g2, j2, k2⟩ := cal_both (p := nI 2) hf hu (nI_in03 (by omega))
  have k2' : f_X3_calendar fr un 2 = some (g2, 0) := by
    rw [q_2]; exact k2
  obtain ⟨g3, j3, k3⟩ := cal_both (p := nI 3) hf hu (nI_in03 (by omega))
  have k3' : f_X3_calendar fr un 3 = some (g3, 0) := by
    rw [q_3]; exact k3
  obtain ⟨z0, v0, w0⟩ := len_both (p := nI 0) hS hn hf hu hfu (nI_in05 (by omega))
  have v0' : f_X3_length fr un mbe men (nI n) 0 = some (z0, 0) := by
    rw [q_0]; exact v0
  obtain ⟨z1, v1, w1⟩ := len_both (p := nI 1) hS hn hf hu hfu (nI_in05 (by omega))
  have v1' : f_X3_length fr un mbe men (nI n) 1 = some (z1, 0) := by
    rw [q_1]; exact v1
  obtain ⟨z2, v2, w2⟩ := len_both (p := nI 2) hS hn hf hu hfu (nI_in05 (by omega))
  have v2' : f_X3_length fr un mbe men (nI n) 2 = some (z2, 0) := by
    rw [q_2]; exact v2
  obtain ⟨z3, v3, w3⟩ := len_both (p := nI 3) hS hn hf hu hfu (nI_in05 (by omega))
  have v3' : f_X3_length fr un mbe men (nI n) 3 = some (z3, 0) := by
    rw [q_3]; exact v3
  obtain ⟨z4, v4, w4⟩ := len_both (p := nI 4) hS hn hf hu hfu (nI_in05 (by omega))
  have v4' : f_X3_length fr un mbe men (nI n) 4 = some (z4, 0) := by
    rw [q_4]; exact v4
  obtain ⟨z5, v5, w5⟩ := len_both (p := nI 5) hS hn hf hu hfu (nI_in05 (by omega))
  have v5' : f_X3_length fr un mbe men (nI n) 5 = some (z5, 0) := by
    rw [q_5]; exact v5
  have ef : f_X3_frees fr un mbe men (nI n) = some (nI m, 0) := by simp only [f_X3_frees, e3, e4, Option.bind_some]
  obtain ⟨d2, p1, p3⟩ := ds_loop (w := w) (mwb := mwb) (mwe := mwe) (ac := ac) (rf := rf) (kn := kn) hS hn hf hu ef 24 0 (kMx (kMx (kMx (kMx (kMx (kMx (kMx (kMx (kMx (kMx (kMx (kMx (kMx (kMx (kMx (kMx (kMx (kMx (kMx (kMx (kMx 8009 (kSec (mce 0))) (kNan (mce 0))) a0) b0) (kSec (mce 1))) (kNan (mce 1))) a1) b1) (kSec (mce 2))) (kNan (mce 2))) a2) b2) (kSec (mce 3))) (kNan (mce 3))) a3) b3) g0) g1) g2) g3) (nI n)) (Nat.zero_le _) (by omega)
  rw [q_0] at p3
  have p1' := (ms_all (d := (kMx (kMx (kMx (kMx (kMx (kMx (kMx (kMx (kMx (kMx (kMx (kMx (kMx (kMx (kMx (kMx 8009 (kSec (mce 0))) (kNan (mce 0))) a0) b0) (kSec (mce 1))) (kNan (mce 1))) a1) b1) (kSec (mce 2))) (kNan (mce 2))) a2) b2) (kSec (mce 3))) (kNan (mce 3))) a3) b3)) j0 j1 j2 j3).trans p1
  obtain ⟨d3, q1, q3⟩ := df_loop (fr := fr) (un := un) (n := n) (w := w) (sb := sb) (se := se) (mbe := mbe) (men := men) (mwb := mwb) (mwe := mwe) (fo := fo2) (mov := mov) (ac := ac) (rf := rf) (kn := kn) hm hv e3 e4 hp v0' v1' v2' v3' v4' v5' r3 14 0 (kMx d2 (nI m)) (Nat.zero_le _) (by omega)
  have q1' := q1 24 (by omega)
  rw [q_0] at q1' q3
  obtain ⟨fb3, fe3, fo3, fc3, m0⟩ := ml_step (U := 24) (u := 23) (J := 1) (d := d3) (j := 0) rfl rfl (by omega) w0 fb2 fe2 fo2 (nI m)
  obtain ⟨fb4, fe4, fo4, fc4, m1⟩ := ml_step (U := 23) (u := 22) (J := 2) (d := (kMx d3 z0)) (j := 1) rfl rfl (by omega) w1 fb3 fe3 fo3 fc3
  obtain ⟨fb5, fe5, fo5, fc5, m2⟩ := ml_step (U := 22) (u := 21) (J := 3) (d := (kMx (kMx d3 z0) z1)) (j := 2) rfl rfl (by omega) w2 fb4 fe4 fo4 fc4
  obtain ⟨fb6, fe6, fo6, fc6, m3⟩ := ml_step (U := 21) (u := 20) (J := 4) (d := (kMx (kMx (kMx d3 z0) z1) z2)) (j := 3) rfl rfl (by omega) w3 fb5 fe5 fo5 fc5
  obtain ⟨fb7, fe7, fo7, fc7, m4⟩ := ml_step (U := 20) (u := 19) (J := 5) (d := (kMx (kMx (kMx (kMx d3 z0) z1) z2) z3)) (j := 4) rfl rfl (by omega) w4 fb6 fe6 fo6 fc6
  obtain ⟨fb8, fe8, fo8, fc8, m5⟩ := ml_step (U := 19) (u := 18) (J := 6) (d := (kMx (kMx (kMx (kMx (kMx d3 z0) z1) z2) z3) z4)) (j := 5) rfl rfl (by omega) w5 fb7 fe7 fo7 fc7
  have q2 : f_X1_mixFrees fr un sb se (nI n) fb2 fe2 fo2 (nI m) d2 = some ((kMx (kMx (kMx (kMx (kMx (kMx d3 z0) z1) z2) z3) z4) z5), fb8, fe8, fo8, fc8) := by
    unfold f_X1_mixFrees
    rw [f_X0_count, Option.bind_some, mix1, Option.bind_some, q_0, q1', m0, m1, m2, m3, m4, m5, ml_end (by omega)]
  obtain ⟨s, fb9, fe9, fo9, fc9, rm9, i1, i3⟩ := sound_both (fb := fb8) (fe := fe8) (fo := fo8) (fc := fc8) (rm := rm2) hS hn hf hu hfu hW hw
  obtain ⟨d5, o1, o3⟩ := dw_loop (ac := ac) (rf := rf) (kn := kn) hW hw (fun k h => (hk k h).1) i3 24 0 (kMx (kMx (kMx (kMx (kMx (kMx (kMx d3 z0) z1) z2) z3) z4) z5) (nI w)) (Nat.zero_le _) (by omega)
  have o1' : f_X1_mixWishes wb we (nI w) rm2 (kMx (kMx (kMx (kMx (kMx (kMx d3 z0) z1) z2) z3) z4) z5) = some d5 := by
    unfold f_X1_mixWishes
    rw [f_X0_count, Option.bind_some, mix1, Option.bind_some, q_0]; exact o1
  have hd := dg3 (mov := mov) (mwb := mwb) (mwe := mwe) (mwi := nI w) (ac := ac) (rf := rf) (kn := kn) s0' n0' t0' u0' s1' n1' t1' u1' s2' n2' t2' u2' s3' n3' t3' u3' k0' k1' k2' k3'
  rw [q_0] at hd
  have hX : f_X3_digest mce fr un mbe men mov (nI n) mwb mwe (nI w) ac rf kn = some (kMx (kMx (kMx (kMx d5 ac) rf) kn) (if s = 0 then 0 else 1), 0) :=
    hd.trans (p3.trans (q3.trans o3))
  by_cases hs : s = 0
  · refine ⟨kMx (kMx (kMx (kMx d5 ac) rf) kn) 0, fb9, fe9, fo9, fc9, rm9, ?_, ?_⟩
    · simp only [f_X1_digest, e1, r1, hC, p1', q2, o1', i1, Option.bind_some, mix1, if_pos hs, f_X1_digest_76]
    · rw [hX, if_pos hs]
  · refine ⟨kMx (kMx (kMx (kMx d5 ac) rf) kn) 1, fb9, fe9, fo9, fc9, rm9, ?_, ?_⟩
    · simp only [f_X1_digest, e1, r1, hC, p1', q2, o1', i1, Option.bind_some, mix1, if_neg hs, f_X1_digest_76]
    · rw [hX, if_neg hs]
