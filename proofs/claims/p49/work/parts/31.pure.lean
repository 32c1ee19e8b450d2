-- 31.pure.lean.txt
section
/-! pure: what the rows' loops say -/
theorem q_ix {a n : Nat} (h : a < n) (hn : n ≤ 65536) : ix (nI a) n := by
  have e := nI_toInt (n := a) (by omega)
  exact ⟨by omega, by omega⟩
theorem q_le {a b : Nat} (ha : a ≤ 65536) (hb : b ≤ 65536) : nI a ≤ nI b ↔ a ≤ b := by
  rw [Int32.le_iff_toInt_le, nI_toInt (by omega), nI_toInt (by omega)]; omega
theorem q_lt {a b : Nat} (ha : a ≤ 65536) (hb : b ≤ 65536) : nI a < nI b ↔ a < b := by
  rw [Int32.lt_iff_toInt_lt, nI_toInt (by omega), nI_toInt (by omega)]; omega
theorem q_eq {a b : Nat} (ha : a ≤ 65536) (hb : b ≤ 65536) : nI a = nI b ↔ a = b := by
  constructor
  · intro h
    have h1 := congrArg Int32.toInt h
    rw [nI_toInt (by omega), nI_toInt (by omega)] at h1
    omega
  · intro h; rw [h]
theorem q_cl {a : Nat} (ha : a ≤ 65536) : (nI a).toNatClampNeg = a := nI_clamp (by omega)
theorem q_s (a : Nat) : nI a + 1 = nI (a + 1) := (nI_succ a).symm
theorem q_0 : (0 : Int32) = nI 0 := rfl
/-- the first k from i on, of m, with p -/
def kF (p : Nat → Bool) (i : Nat) : Nat → Int32
  | 0 => -1
  | m + 1 => if p i then nI i else kF p (i + 1) m
theorem fm_loop {rb re : Nat → Int64} {n : Nat} {b e : Int64} {but : Int32} (hn : n ≤ 11) : ∀ (f i : Nat), i ≤ n → n - i < f → f_X0_firstMeeting_3 f rb re (nI n) b e but (nI i) = some (kF (fun k => decide (nI k ≠ but ∧ rb k < e ∧ b < re k)) i (n - i)) := by
  intro f
  induction f with
  | zero => intro i hi hf; omega
  | succ f ih =>
    intro i hi hf
    rw [f_X0_firstMeeting_3_s]
    by_cases h : n ≤ i
    · rw [if_pos ((q_le (by omega) (by omega)).mpr h), show n - i = 0 by omega, kF]
    · rw [if_neg (fun z => h ((q_le (by omega) (by omega)).mp z)), if_pos (q_ix (show i < 11 by omega) (by omega)), q_cl (by omega), q_s, ih (i + 1) (by omega) (by omega), show n - i = (n - (i + 1)) + 1 by omega, kF]
      by_cases h1 : nI i = but
      · rw [if_pos h1, if_neg (by simp [h1])]
      · rw [if_neg h1]
        by_cases h2 : e ≤ rb i
        · rw [if_pos h2, if_neg (by simp [Int64.not_lt.mpr h2])]
        · rw [if_neg h2]
          by_cases h3 : re i ≤ b
          · rw [if_pos h3, if_neg (by simp [Int64.not_lt.mpr h3])]
          · rw [if_neg h3, if_pos (by simp [h1, Int64.not_le.mp h2, Int64.not_le.mp h3])]
theorem fm_eq {rb re : Nat → Int64} {n : Nat} {b e : Int64} {but : Int32} (hn : n ≤ 11) : f_X0_firstMeeting rb re (nI n) b e but = some (kF (fun k => decide (nI k ≠ but ∧ rb k < e ∧ b < re k)) 0 n) := by
  rw [f_X0_firstMeeting_e, q_0, fm_loop hn 24 0 (by omega) (by omega)]; rfl

/-! moments -/
abbrev kLet (x : Int64) : Prop := -1000000000000000000 ≤ x.toInt ∧ x.toInt ≤ 1000000000999999999
theorem a64 {x y : Int64} (h1 : -9223372036854775808 ≤ x.toInt + y.toInt) (h2 : x.toInt + y.toInt < 9223372036854775808) : (x + y).toInt = x.toInt + y.toInt := by
  rw [Int64.toInt_add]; exact Int.bmod_eq_of_le (by omega) (by omega)
theorem s64 {x y : Int64} (h1 : -9223372036854775808 ≤ x.toInt - y.toInt) (h2 : x.toInt - y.toInt < 9223372036854775808) : (x - y).toInt = x.toInt - y.toInt := by
  rw [Int64.toInt_sub]; exact Int.bmod_eq_of_le (by omega) (by omega)
theorem m64 {x y : Int64} (h1 : -9223372036854775808 ≤ x.toInt * y.toInt) (h2 : x.toInt * y.toInt < 9223372036854775808) : (x * y).toInt = x.toInt * y.toInt := by
  rw [Int64.toInt_mul]; exact Int.bmod_eq_of_le (by omega) (by omega)
theorem n64 {x : Int64} (h : -9223372036854775808 < x.toInt) : (-x).toInt = -x.toInt := by
  have hb := Int64.toInt_lt x
  rw [Int64.toInt_neg]; exact Int.bmod_eq_of_le (by omega) (by omega)
theorem le64 {x y : Int64} : x ≤ y ↔ x.toInt ≤ y.toInt := Int64.le_iff_toInt_le
theorem lt64 {x y : Int64} : x < y ↔ x.toInt < y.toInt := Int64.lt_iff_toInt_lt
theorem eq64 {x y : Int64} : x = y ↔ x.toInt = y.toInt := Int64.toInt_inj.symm
theorem le32 {x y : Int32} : x ≤ y ↔ x.toInt ≤ y.toInt := Int32.le_iff_toInt_le
theorem lt32 {x y : Int32} : x < y ↔ x.toInt < y.toInt := Int32.lt_iff_toInt_lt
theorem eq32 {x y : Int32} : x = y ↔ x.toInt = y.toInt := Int32.toInt_inj.symm
theorem b32 (x : Int32) : -2147483648 ≤ x.toInt ∧ x.toInt < 2147483648 := ⟨Int32.le_toInt x, Int32.toInt_lt x⟩
theorem w64 (x : Int32) : x.toInt64.toInt = x.toInt := Int32.toInt_toInt64 x
theorem isLet1 {x : Int64} : f_X1_isLet x = some (if kLet x then 1 else 0) := by
  have e1 : (-1000000000000000000 : Int64).toInt = -1000000000000000000 := by decide +kernel
  have e2 : (1000000000999999999 : Int64).toInt = 1000000000999999999 := by decide +kernel
  unfold f_X1_isLet
  simp only [lt64, e1, e2]
  by_cases h1 : x.toInt < -1000000000000000000
  · rw [if_pos h1, if_neg (by omega)]
  · by_cases h2 : 1000000000999999999 < x.toInt
    · rw [if_neg h1, if_pos h2, if_neg (by omega)]
    · rw [if_neg h1, if_neg h2, if_pos (by omega)]
theorem isLet3 {x : Int64} : f_X3_isLet x = some (if kLet x then 1 else 0) := by
  have e1 : (-1000000000000000000 : Int64).toInt = -1000000000000000000 := by decide +kernel
  have e2 : (1000000001000000000 : Int64).toInt = 1000000001000000000 := by decide +kernel
  unfold f_X3_isLet
  simp only [lt64, le64, e1, e2]
  by_cases h1 : x.toInt < -1000000000000000000
  · rw [if_pos h1, if_neg (by omega)]
  · by_cases h2 : 1000000001000000000 ≤ x.toInt
    · rw [if_neg h1, if_pos h2, if_neg (by omega)]
    · rw [if_neg h1, if_neg h2, if_pos (by omega)]
theorem i0 : (0 : Int32).toInt = 0 := by decide
theorem withinq {x a b : Int32} : f_X1_isWithin x a b = some (if a.toInt ≤ x.toInt ∧ x.toInt ≤ b.toInt then 1 else 0) := by
  unfold f_X1_isWithin
  simp only [lt32]
  by_cases h1 : x.toInt < a.toInt
  · rw [if_pos h1, if_neg (by omega)]
  · by_cases h2 : b.toInt < x.toInt
    · rw [if_neg h1, if_pos h2, if_neg (by omega)]
    · rw [if_neg h1, if_neg h2, if_pos (by omega)]
theorem w03 {x : Int32} : ((0 : Int32).toInt ≤ x.toInt ∧ x.toInt ≤ (3 : Int32).toInt) ↔ ix x 4 := by
  have e : (3 : Int32).toInt = 3 := by decide
  rw [i0, e]; constructor <;> intro h <;> exact ⟨by omega, by omega⟩
theorem needCell {x : Int32} (h : ix x 4) : f_X1_needCell x = some () ∧ fx_X1_needCell x = none := by
  unfold f_X1_needCell fx_X1_needCell
  rw [withinq, if_pos (w03.mpr h)]
  exact ⟨rfl, rfl⟩
theorem needCellN {x : Int32} (h : ¬ ix x 4) : f_X1_needCell x = none ∧ fx_X1_needCell x = some 1 := by
  unfold f_X1_needCell fx_X1_needCell
  rw [withinq, if_neg (fun z => h (w03.mp z))]
  exact ⟨rfl, rfl⟩
theorem is3 {x : Int32} : f_X3_is x = some (if ix x 4 then 1 else 0) := by
  have e : (4 : Int32).toInt = 4 := by decide
  unfold f_X3_is
  simp only [lt32, le32, i0, e]
  by_cases h1 : x.toInt < 0
  · rw [if_pos h1, if_neg (fun z => by have := z.1; omega)]
  · by_cases h2 : 4 ≤ x.toInt
    · rw [if_neg h1, if_pos h2, if_neg (fun z => by have := z.2; omega)]
    · rw [if_neg h1, if_neg h2, if_pos ⟨by omega, by omega⟩]
theorem thrown3 {a b : Int32} : f_X3_isThrown a b = some (if a = 0 then (if b = 0 then (0, 0) else (1, 2)) else (1, 1)) := by
  unfold f_X3_isThrown
  by_cases h1 : a = 0
  · by_cases h2 : b = 0
    · rw [if_pos h1, if_pos h2, if_pos h1, if_pos h2]; rfl
    · rw [if_pos h1, if_neg h2, if_pos h1, if_neg h2]; rfl
  · rw [if_neg h1, if_neg h1]; rfl
theorem cl4 {x : Int32} (h : ix x 4) : x.toNatClampNeg < 4 := by
  have h1 := h.1; have h2 := h.2
  show x.toInt.toNat < 4
  omega
/-- cells of both sides -/
abbrev kCe (ce mce : Nat → Int64) : Prop := ∀ k, k < 4 → ce k = mce k ∧ kLet (ce k)
theorem kCe.upd {ce mce : Nat → Int64} (h : kCe ce mce) (j : Nat) {x : Int64} (hx : kLet x) : kCe (vp_updL ce j x) (vp_updL mce j x) := fun k hk => by
  unfold vp_updL
  by_cases e : k = j
  · rw [if_pos e, if_pos e]; exact ⟨rfl, hx⟩
  · rw [if_neg e, if_neg e]; exact h k hk

/-! seconds and nanos -/
abbrev kWide (x : Int64) : Prop := -2100000000000000000 ≤ x.toInt ∧ x.toInt ≤ 2100000000000000000
def kSec (x : Int64) : Int32 := Int32.ofInt (x.toInt / 1000000000)
def kNan (x : Int64) : Int32 := Int32.ofInt (x.toInt % 1000000000)
theorem eB : (1000000000 : Int64).toInt = 1000000000 := by decide +kernel
theorem xorB {x : Int64} : 0 ≤ (x ^^^ 1000000000) ↔ 0 ≤ x.toInt := by
  have h1 : (x ^^^ 1000000000).toBitVec.msb = x.toBitVec.msb := by
    rw [Int64.toBitVec_xor, BitVec.msb_xor]
    have : (1000000000 : Int64).toBitVec.msb = false := by decide +kernel
    rw [this]; simp
  rw [BitVec.msb_eq_toInt, BitVec.msb_eq_toInt] at h1
  have h2 : (x ^^^ 1000000000).toInt < 0 ↔ x.toInt < 0 := by
    exact decide_eq_decide.mp h1
  have e0 : (0 : Int64).toInt = 0 := by decide
  rw [le64, e0]
  omega
theorem divB {x : Int64} : (x / 1000000000).toInt = x.toInt.tdiv 1000000000 := by
  have h1 := Int64.le_toInt x
  have h2 := Int64.toInt_lt x
  rw [Int64.toInt_div, eB]
  refine Int.bmod_eq_of_le ?_ ?_
  · rcases Int.le_total 0 x.toInt with h | h
    · rw [Int.tdiv_eq_ediv_of_nonneg h]; omega
    · rw [show x.toInt = -(-x.toInt) by omega, Int.neg_tdiv, Int.tdiv_eq_ediv_of_nonneg (by omega)]; omega
  · rcases Int.le_total 0 x.toInt with h | h
    · rw [Int.tdiv_eq_ediv_of_nonneg h]; omega
    · rw [show x.toInt = -(-x.toInt) by omega, Int.neg_tdiv, Int.tdiv_eq_ediv_of_nonneg (by omega)]; omega
theorem of64 {x : Int64} {z : Int} (h : x.toInt = z) : x.toInt32 = Int32.ofInt z := by
  apply Int32.toInt_inj.mp
  rw [Int64.toInt_toInt32, h, Int32.toInt_ofInt]
theorem fd1 {x : Int64} (h : kWide x) : ∃ y, f_J9_floorDiv_f86c9 x 1000000000 = some y ∧ y.toInt = x.toInt / 1000000000 := by
  have hd := divB (x := x)
  have hn : ¬ (1000000000 : Int64) = 0 := by decide
  unfold f_J9_floorDiv_f86c9
  rw [if_pos hn]
  by_cases h0 : 0 ≤ x.toInt
  · rw [if_pos (xorB.mpr h0)]
    exact ⟨_, rfl, by rw [hd, Int.tdiv_eq_ediv_of_nonneg h0]⟩
  · have hd2 : (x / 1000000000).toInt = -(-x.toInt / 1000000000) := by
      rw [hd]
      conv => lhs; rw [show x.toInt = -(-x.toInt) by omega, Int.neg_tdiv, Int.tdiv_eq_ediv_of_nonneg (by omega)]
    have hm : (x / 1000000000 * 1000000000).toInt = (x / 1000000000).toInt * 1000000000 := by
      rw [m64 (by rw [eB]; omega) (by rw [eB]; omega), eB]
    rw [if_neg (fun z => h0 (xorB.mp z))]
    by_cases h1 : x / 1000000000 * 1000000000 = x
    · rw [if_pos h1]
      have := congrArg Int64.toInt h1
      exact ⟨_, rfl, by omega⟩
    · rw [if_neg h1]
      refine ⟨_, rfl, ?_⟩
      have h2 : (x / 1000000000).toInt * 1000000000 ≠ x.toInt := fun z => h1 (Int64.toInt_inj.mp (by rw [hm, z]))
      have e1 : (1 : Int64).toInt = 1 := by decide
      rw [s64 (by rw [e1]; omega) (by rw [e1]; omega), e1]
      omega
theorem sec1 {x : Int64} (h : kWide x) : f_X1_secondOf x = some (kSec x) := by
  obtain ⟨y, h1, h2⟩ := fd1 h
  unfold f_X1_secondOf
  rw [h1]
  show some y.toInt32 = _
  rw [of64 h2]; rfl
theorem fmod1 {x : Int64} (h : kWide x) : ∃ y, f_J9_floorMod_f86c9 x 1000000000 = some y ∧ y.toInt = x.toInt % 1000000000 := by
  have hd := divB (x := x)
  have hn : ¬ (1000000000 : Int64) = 0 := by decide
  have hq : (x / 1000000000).toInt = if 0 ≤ x.toInt then x.toInt / 1000000000 else -(-x.toInt / 1000000000) := by
    rw [hd]
    by_cases h0 : 0 ≤ x.toInt
    · rw [if_pos h0, Int.tdiv_eq_ediv_of_nonneg h0]
    · rw [if_neg h0]
      conv => lhs; rw [show x.toInt = -(-x.toInt) by omega, Int.neg_tdiv, Int.tdiv_eq_ediv_of_nonneg (by omega)]
  have hm : (x / 1000000000 * 1000000000).toInt = (x / 1000000000).toInt * 1000000000 := by
    rw [m64 (by rw [eB, hq]; split <;> omega) (by rw [eB, hq]; split <;> omega), eB]
  have hr : (x - x / 1000000000 * 1000000000).toInt = x.toInt - (x / 1000000000).toInt * 1000000000 := by
    rw [s64 (by rw [hm, hq]; split <;> omega) (by rw [hm, hq]; split <;> omega), hm]
  unfold f_J9_floorMod_f86c9
  rw [if_pos hn]
  by_cases h0 : 0 ≤ x.toInt
  · rw [if_pos (xorB.mpr h0)]
    rw [if_pos h0] at hq
    exact ⟨_, rfl, by rw [hr, hq]; omega⟩
  · rw [if_neg (fun z => h0 (xorB.mp z))]
    rw [if_neg h0] at hq
    have e0 : (0 : Int64).toInt = 0 := by decide
    by_cases h1 : x - x / 1000000000 * 1000000000 = 0
    · rw [if_pos h1]
      have := congrArg Int64.toInt h1
      rw [hr, e0] at this
      exact ⟨_, rfl, by rw [hr]; omega⟩
    · rw [if_neg h1]
      refine ⟨_, rfl, ?_⟩
      have h2 : x.toInt - (x / 1000000000).toInt * 1000000000 ≠ 0 := fun z => h1 (Int64.toInt_inj.mp (by rw [hr, z, e0]))
      rw [a64 (by rw [hr, eB]; omega) (by rw [hr, eB]; omega), hr, eB]
      omega
theorem nan1 {x : Int64} (h : kWide x) : f_X1_nanoOf x = some (kNan x) := by
  obtain ⟨y, h1, h2⟩ := fmod1 h
  unfold f_X1_nanoOf
  rw [h1]
  show some y.toInt32 = _
  rw [of64 h2]; rfl
theorem sec3 {x : Int64} (h : kWide x) : f_X3_secondOf x = some (kSec x) := by
  have e0 : (0 : Int64).toInt = 0 := by decide
  have e9 : (999999999 : Int64).toInt = 999999999 := by decide +kernel
  unfold f_X3_secondOf
  simp only [lt64, e0]
  by_cases h0 : x.toInt < 0
  · rw [if_pos h0]
    have hs : (999999999 - x).toInt = 999999999 - x.toInt := by rw [s64 (by rw [e9]; omega) (by rw [e9]; omega), e9]
    have hd := divB (x := 999999999 - x)
    rw [hs, Int.tdiv_eq_ediv_of_nonneg (by omega)] at hd
    have hn : (-((999999999 - x) / 1000000000)).toInt = x.toInt / 1000000000 := by
      rw [n64 (by rw [hd]; omega), hd]; omega
    rw [of64 hn]; rfl
  · rw [if_neg h0]
    have hd := divB (x := x)
    rw [Int.tdiv_eq_ediv_of_nonneg (by omega)] at hd
    rw [of64 hd]; rfl
theorem nan3 {x : Int64} (h : kWide x) : f_X3_nanoOf x = some (kNan x) := by
  unfold f_X3_nanoOf
  rw [sec3 h]
  show some ((x - (kSec x).toInt64 * 1000000000).toInt32) = _
  have hs : (kSec x).toInt = x.toInt / 1000000000 := by
    unfold kSec
    rw [Int32.toInt_ofInt]
    show (x.toInt / 1000000000).bmod 4294967296 = _
    exact Int.bmod_eq_of_le (by omega) (by omega)
  have hm : ((kSec x).toInt64 * 1000000000).toInt = x.toInt / 1000000000 * 1000000000 := by
    rw [m64 (by rw [w64, hs, eB]; omega) (by rw [w64, hs, eB]; omega), w64, hs, eB]
  have hr : (x - (kSec x).toInt64 * 1000000000).toInt = x.toInt % 1000000000 := by
    rw [s64 (by rw [hm]; omega) (by rw [hm]; omega), hm]; omega
  rw [of64 hr]; rfl
theorem kLet.wide {x : Int64} (h : kLet x) : kWide x := ⟨by have := h.1; omega, by have := h.2; omega⟩
/-- what one of the numbers of a moment is told by -/
def kPart (x : Int64) (w : Int32) : Int32 := if w &&& 1 = 0 then kSec x else kNan x
theorem part1 {x : Int64} {w : Int32} (h : kWide x) : f_X1_partOf x w = some (kPart x w) := by
  unfold f_X1_partOf kPart
  by_cases h1 : w &&& 1 = 0
  · rw [if_pos h1, if_pos h1, sec1 h]; rfl
  · rw [if_neg h1, if_neg h1, nan1 h]; rfl
theorem small_of {w : Int32} {n : Nat} (h0 : 0 ≤ w.toInt) (hn : w.toInt < n) (hb : n ≤ 65536) : ∃ k, k < n ∧ w = nI k := by
  refine ⟨w.toInt.toNat, by omega, ?_⟩
  apply Int32.toInt_inj.mp
  rw [nI_toInt (by omega)]
  omega
theorem half3 {x : Int64} {w : Int32} (h : kWide x) (h0 : 0 ≤ w.toInt) (hn : w.toInt < 6) : f_X3_half x w = some (kPart x w) := by
  have hw : (w - w / 2 * 2 = 0) ↔ (w &&& 1 = 0) := by
    obtain ⟨k, hk, rfl⟩ := small_of (n := 6) h0 hn (by omega)
    revert k
    decide +kernel
  unfold f_X3_half kPart
  by_cases h1 : w &&& 1 = 0
  · rw [if_pos (hw.mpr h1), if_pos h1, sec3 h]; rfl
  · rw [if_neg (fun z => h1 (hw.mp z)), if_neg h1, nan3 h]; rfl

/-! the acts on cells: what both sides do -/
theorem t10 : ((1 : Int32) = 0) = False := eq_false (by decide)
theorem t00 : ((0 : Int32) = 0) = True := eq_true rfl
theorem t9 : ((-9 : Int32) = 0) = False := eq_false (by decide)
theorem u12 : ((1 : Nat) = 1) = True := eq_true rfl
theorem u21 : ((2 : Nat) = 1) = False := eq_false (by decide)
theorem xb_s {α β : Type} (a : α) (k1 : α → Option β) (k2 : Option β) : xb (some a) k1 k2 = k1 a := rfl
theorem xb_n {α β : Type} (k1 : α → Option β) (k2 : Option β) : xb none k1 k2 = k2 := rfl
theorem needThat1 : f_X1_needThat 1 = some () ∧ fx_X1_needThat 1 = none := by
  unfold f_X1_needThat fx_X1_needThat
  exact ⟨if_neg (by decide), if_neg (by decide)⟩
theorem needThat0 : f_X1_needThat 0 = none ∧ fx_X1_needThat 0 = some 2 := by
  unfold f_X1_needThat fx_X1_needThat
  exact ⟨if_pos rfl, if_pos rfl⟩
abbrev kSetOk (p1 p2 : Int32) : Prop := -1000000000 ≤ p1.toInt ∧ p1.toInt ≤ 1000000000 ∧ -2000000000 ≤ p2.toInt ∧ p2.toInt ≤ 2000000000
theorem c1e9 : (1000000000 : Int32).toInt = 1000000000 ∧ (-1000000000 : Int32).toInt = -1000000000 ∧ (2000000000 : Int32).toInt = 2000000000 ∧ (-2000000000 : Int32).toInt = -2000000000 := by decide +kernel
abbrev kSetV (p1 p2 : Int32) : Int64 := p1.toInt64 * 1000000000 + p2.toInt64
theorem set_args3 {α : Type} (p1 p2 : Int32) (A B : Option α) : (if p1 < (-1000000000) then A else if 1000000000 < p1 then A else if p2 < (-2000000000) then A else if p2 ≤ 2000000000 then B else A) = if kSetOk p1 p2 then B else A := by
  obtain ⟨e1, e2, e3, e4⟩ := c1e9
  simp only [lt32, le32, e1, e2, e3, e4]
  by_cases h1 : p1.toInt < -1000000000
  · rw [if_pos h1, if_neg (by omega)]
  · by_cases h2 : 1000000000 < p1.toInt
    · rw [if_neg h1, if_pos h2, if_neg (by omega)]
    · by_cases h3 : p2.toInt < -2000000000
      · rw [if_neg h1, if_neg h2, if_pos h3, if_neg (by omega)]
      · by_cases h4 : p2.toInt ≤ 2000000000
        · rw [if_neg h1, if_neg h2, if_neg h3, if_pos h4, if_pos (by omega)]
        · rw [if_neg h1, if_neg h2, if_neg h3, if_neg h4, if_neg (by omega)]
theorem op_set_ok {ce mce : Nat → Int64} {ac rf mth : Int32} {on : Int64} {p0 p1 p2 : Int32} (h0 : ix p0 4) (h1 : kSetOk p1 p2) (h2 : kLet (kSetV p1 p2)) : f_L_set ce ac rf on p0 p1 p2 = some (0, vp_updL ce p0.toNatClampNeg (kSetV p1 p2), ac + 1, rf, (kSec (kSetV p1 p2) - p1).toInt64) ∧ f_X3_set mce ac rf p0 p1 p2 = some (kSec (kSetV p1 p2) - p1, vp_updL mce p0.toNatClampNeg (kSetV p1 p2), ac + 1, rf, 0) := by
  obtain ⟨e1, e2, e3, e4⟩ := c1e9
  obtain ⟨g1, g2, g3, g4⟩ := h1
  have n1 : ¬ p1.toInt < -1000000000 := by omega
  have n2 : ¬ 1000000000 < p1.toInt := by omega
  have n3 : ¬ p2.toInt < -2000000000 := by omega
  constructor
  · simp only [f_L_set, fx_X1_set, fx_X1_set_30, fx_X1_set_31, f_X1_set, f_X1_set_30, f_X1_set_31, (needCell h0).1, (needCell h0).2, needThat1.1, needThat1.2, xb_s, xb_n, withinq, e1, e2, e3, e4, g1, g2, g3, g4, isLet1, if_pos h2, sec1 h2.wide, f_X1_done, if_pos h0, Option.bind_some, if_true, and_self, t10, if_false]
  · simp only [f_X3_set, f_X3_set_13, f_X3_set_37, f_X3_set_42, is3, if_pos h0, lt32, le32, e1, e2, e3, e4, n1, n2, n3, g4, thrown3, isLet3, if_pos h2, sec3 h2.wide, f_X3_done, Option.bind_some, if_true, and_self, t10, t00, if_false]
theorem op_set_no {ce mce : Nat → Int64} {ac rf : Int32} {on : Int64} {p0 p1 p2 : Int32} (h0 : ix p0 4) (h1 : kSetOk p1 p2) (h2 : ¬ kLet (kSetV p1 p2)) : f_L_set ce ac rf on p0 p1 p2 = some (0, ce, ac, rf + 1, (-9 : Int32).toInt64) ∧ f_X3_set mce ac rf p0 p1 p2 = some (-9, mce, ac, rf + 1, 0) := by
  obtain ⟨e1, e2, e3, e4⟩ := c1e9
  obtain ⟨g1, g2, g3, g4⟩ := h1
  have n1 : ¬ p1.toInt < -1000000000 := by omega
  have n2 : ¬ 1000000000 < p1.toInt := by omega
  have n3 : ¬ p2.toInt < -2000000000 := by omega
  constructor
  · simp only [f_L_set, fx_X1_set, fx_X1_set_30, fx_X1_set_31, f_X1_set, f_X1_set_30, f_X1_set_31, (needCell h0).1, (needCell h0).2, needThat1.1, needThat1.2, xb_s, xb_n, withinq, e1, e2, e3, e4, g1, g2, g3, g4, isLet1, if_neg h2, f_X1_refuse, if_pos h0, Option.bind_some, if_true, and_self, t10, t00, if_false]
  · simp only [f_X3_set, f_X3_set_13, f_X3_set_37, f_X3_set_42, is3, if_pos h0, lt32, le32, e1, e2, e3, e4, n1, n2, n3, g4, thrown3, isLet3, if_neg h2, f_X3_no, Option.bind_some, if_true, and_self, t10, t00, if_false]
theorem op_set_arg {ce mce : Nat → Int64} {ac rf : Int32} {on : Int64} {p0 p1 p2 : Int32} (h0 : ix p0 4) (h1 : ¬ kSetOk p1 p2) : f_L_set ce ac rf on p0 p1 p2 = some (2, ce, ac, rf, on) ∧ f_X3_set mce ac rf p0 p1 p2 = some (0, mce, ac, rf, 2) := by
  obtain ⟨e1, e2, e3, e4⟩ := c1e9
  have w : (if -1000000000 ≤ p1.toInt ∧ p1.toInt ≤ 1000000000 then (1 : Int32) else 0) = 0 ∨ ((-1000000000 ≤ p1.toInt ∧ p1.toInt ≤ 1000000000) ∧ ¬ (-2000000000 ≤ p2.toInt ∧ p2.toInt ≤ 2000000000)) := by
    by_cases h : -1000000000 ≤ p1.toInt ∧ p1.toInt ≤ 1000000000
    · exact Or.inr ⟨h, fun z => h1 ⟨h.1, h.2, z.1, z.2⟩⟩
    · exact Or.inl (if_neg h)
  constructor
  · rcases w with w | ⟨w1, w2⟩
    · simp only [f_L_set, fx_X1_set, fx_X1_set_30, fx_X1_set_31, (needCell h0).1, (needCell h0).2, needThat0.1, needThat0.2, xb_s, xb_n, withinq, e1, e2, e3, e4, w, Option.bind_some, if_true, t00, u21, if_false]
    · simp only [f_L_set, fx_X1_set, fx_X1_set_30, fx_X1_set_31, (needCell h0).1, (needCell h0).2, needThat0.1, needThat0.2, xb_s, xb_n, withinq, e1, e2, e3, e4, if_pos w1, if_neg w2, Option.bind_some, if_true, t00, t10, u21, if_false]
  · have q13 : f_X3_set_13 mce ac rf p0 p1 p2 0 = f_X3_set_37 mce ac rf p0 p1 p2 0 := (set_args3 p1 p2 (f_X3_set_37 mce ac rf p0 p1 p2 0) (f_X3_set_42 mce ac rf p0 p1 p2 0 0)).trans (if_neg h1)
    simp only [f_X3_set, q13, f_X3_set_37, f_X3_set_42, is3, if_pos h0, thrown3, Option.bind_some, if_true, t10, t00, if_false]
theorem op_set_cell {ce mce : Nat → Int64} {ac rf : Int32} {on : Int64} {p0 p1 p2 : Int32} (h0 : ¬ ix p0 4) : f_L_set ce ac rf on p0 p1 p2 = some (1, ce, ac, rf, on) ∧ f_X3_set mce ac rf p0 p1 p2 = some (0, mce, ac, rf, 1) := by
  constructor
  · simp only [f_L_set, fx_X1_set, (needCellN h0).1, (needCellN h0).2, xb_s, xb_n, u12, if_true]
  · have q : ∀ y, f_X3_set_42 mce ac rf p0 p1 p2 y 1 = some (0, mce, ac, rf, 1) := fun y => by
      simp only [f_X3_set_42, thrown3, Option.bind_some, t10, if_false]
    simp only [f_X3_set, f_X3_set_13, f_X3_set_37, is3, if_neg h0, Option.bind_some, t00, if_true, q, ite_self]
theorem op_set {ce mce : Nat → Int64} {ac rf mac mre : Int32} {on : Int64} {p0 p1 p2 : Int32} (hc : kCe ce mce) (ha : ac = mac) (hf : rf = mre) : ∃ r r', f_L_set ce ac rf on p0 p1 p2 = some r ∧ f_X3_set mce mac mre p0 p1 p2 = some r' ∧ r'.2.2.2.2 = r.1 ∧ (r.1 = 0 → r.2.2.2.2 = r'.1.toInt64) ∧ kCe r.2.1 r'.2.1 ∧ r.2.2.1 = r'.2.2.1 ∧ r.2.2.2.1 = r'.2.2.2.1 := by
  subst ha; subst hf
  by_cases h0 : ix p0 4
  · by_cases h1 : kSetOk p1 p2
    · by_cases h2 : kLet (kSetV p1 p2)
      · obtain ⟨a, b⟩ := op_set_ok (ce := ce) (mce := mce) (ac := ac) (rf := rf) (mth := 0) (on := on) h0 h1 h2
        exact ⟨_, _, a, b, rfl, fun _ => rfl, hc.upd _ h2, rfl, rfl⟩
      · obtain ⟨a, b⟩ := op_set_no (ce := ce) (mce := mce) (ac := ac) (rf := rf) (on := on) h0 h1 h2
        exact ⟨_, _, a, b, rfl, fun _ => rfl, hc, rfl, rfl⟩
    · obtain ⟨a, b⟩ := op_set_arg (ce := ce) (mce := mce) (ac := ac) (rf := rf) (on := on) h0 h1
      exact ⟨_, _, a, b, rfl, fun z => absurd (show (2 : Int32) = 0 from z) (by decide), hc, rfl, rfl⟩
  · obtain ⟨a, b⟩ := op_set_cell (ce := ce) (mce := mce) (ac := ac) (rf := rf) (on := on) (p1 := p1) (p2 := p2) h0
    exact ⟨_, _, a, b, rfl, fun z => absurd (show (1 : Int32) = 0 from z) (by decide), hc, rfl, rfl⟩

theorem thrown3' {a : Int32} : f_X3_isThrown_ a = some (if a = 0 then (0, 0) else (1, 1)) := by
  unfold f_X3_isThrown_
  rw [thrown3]
  by_cases h : a = 0
  · rw [if_pos h, if_pos h]; rfl
  · rw [if_neg h, if_neg h]; rfl
theorem kCe.eq {ce mce : Nat → Int64} (h : kCe ce mce) {p : Int32} (hp : ix p 4) : ce p.toNatClampNeg = mce p.toNatClampNeg := (h _ (cl4 hp)).1
theorem kCe.let {ce mce : Nat → Int64} (h : kCe ce mce) {p : Int32} (hp : ix p 4) : kLet (mce p.toNatClampNeg) := by rw [← h.eq hp]; exact (h _ (cl4 hp)).2
theorem op_copy {ce mce : Nat → Int64} {ac mac : Int32} {on : Int64} {p0 p1 : Int32} (hc : kCe ce mce) (ha : ac = mac) : ∃ r r', f_L_copy ce ac on p0 p1 = some r ∧ f_X3_copy mce mac p0 p1 = some r' ∧ r'.2.2.2 = r.1 ∧ (r.1 = 0 → r.2.2.2 = r'.1.toInt64) ∧ kCe r.2.1 r'.2.1 ∧ r.2.2.1 = r'.2.2.1 := by
  subst ha
  by_cases h0 : ix p0 4
  · by_cases h1 : ix p1 4
    · by_cases h2 : mce p1.toNatClampNeg = mce p0.toNatClampNeg
      · simp only [f_L_copy, fx_X1_copy, f_X1_copy, f_X1_bring, f_X1_done, f_X3_copy, f_X3_copy_20, f_X3_copy_49, f_X3_copy_72, f_X3_done, (needCell h0).1, (needCell h0).2, (needCell h1).1, (needCell h1).2, xb_s, xb_n, is3, thrown3', if_pos h0, if_pos h1, hc.eq h0, hc.eq h1, if_pos h2, if_pos h2.symm, Option.bind_some, if_true, t10, t00, if_false]
        exact ⟨_, _, rfl, rfl, rfl, fun _ => rfl, hc.upd _ (hc.let h0), rfl⟩
      · simp only [f_L_copy, fx_X1_copy, f_X1_copy, f_X1_bring, f_X1_done, f_X3_copy, f_X3_copy_20, f_X3_copy_49, f_X3_copy_72, f_X3_done, (needCell h0).1, (needCell h0).2, (needCell h1).1, (needCell h1).2, xb_s, xb_n, is3, thrown3', if_pos h0, if_pos h1, hc.eq h0, hc.eq h1, if_neg h2, if_neg (Ne.symm h2), Option.bind_some, if_true, t10, t00, if_false]
        exact ⟨_, _, rfl, rfl, rfl, fun _ => rfl, hc.upd _ (hc.let h0), rfl⟩
    · simp only [f_L_copy, fx_X1_copy, f_X3_copy, f_X3_copy_15, f_X3_copy_20, (needCell h0).1, (needCell h0).2, (needCellN h1).1, (needCellN h1).2, xb_s, xb_n, is3, thrown3', if_pos h0, if_neg h1, Option.bind_some, if_true, t10, t00, u12, if_false]
      exact ⟨_, _, rfl, rfl, rfl, fun z => absurd (show (1 : Int32) = 0 from z) (by decide), hc, rfl⟩
  · simp only [f_L_copy, fx_X1_copy, f_X3_copy, f_X3_copy_15, f_X3_copy_20, (needCellN h0).1, (needCellN h0).2, xb_s, xb_n, is3, thrown3', if_neg h0, Option.bind_some, if_true, t10, t00, u12, if_false]
    exact ⟨_, _, rfl, rfl, rfl, fun z => absurd (show (1 : Int32) = 0 from z) (by decide), hc, rfl⟩
theorem upd_at (f : Nat → Int64) (j : Nat) (x : Int64) (k : Nat) : vp_updL f j x k = if k = j then x else f k := rfl
theorem cl_inj {p q : Int32} (hp : ix p 4) (hq : ix q 4) (h : p.toNatClampNeg = q.toNatClampNeg) : p = q := by
  apply Int32.toInt_inj.mp
  have h1 := hp.1; have h2 := hq.1
  have h3 : p.toInt.toNat = q.toInt.toNat := h
  omega
theorem op_swap {ce mce : Nat → Int64} {ac mac : Int32} {on : Int64} {p0 p1 : Int32} (hc : kCe ce mce) (ha : ac = mac) : ∃ r r', f_L_swap ce ac on p0 p1 = some r ∧ f_X3_swap mce mac p0 p1 = some r' ∧ r'.2.2.2 = r.1 ∧ (r.1 = 0 → r.2.2.2 = r'.1.toInt64) ∧ kCe r.2.1 r'.2.1 ∧ r.2.2.1 = r'.2.2.1 := by
  subst ha
  by_cases h0 : ix p0 4
  · by_cases h1 : ix p1 4
    · have hK : kCe (vp_updL (vp_updL ce p1.toNatClampNeg (mce p0.toNatClampNeg)) p0.toNatClampNeg (mce p1.toNatClampNeg)) (vp_updL (vp_updL mce p0.toNatClampNeg (mce p1.toNatClampNeg)) p1.toNatClampNeg (mce p0.toNatClampNeg)) := by
        intro k hk
        rw [upd_at, upd_at, upd_at, upd_at]
        by_cases a : k = p0.toNatClampNeg
        · by_cases b : k = p1.toNatClampNeg
          · rw [if_pos a, if_pos b]
            have e : mce p1.toNatClampNeg = mce p0.toNatClampNeg := by rw [← a, ← b]
            exact ⟨e, hc.let h1⟩
          · rw [if_pos a, if_neg b, if_pos a]; exact ⟨rfl, hc.let h1⟩
        · by_cases b : k = p1.toNatClampNeg
          · rw [if_neg a, if_pos b, if_pos b]; exact ⟨rfl, hc.let h0⟩
          · rw [if_neg a, if_neg b, if_neg b, if_neg a]; exact hc k hk
      have hm : ((vp_updL (vp_updL mce p0.toNatClampNeg (mce p1.toNatClampNeg)) p1.toNatClampNeg (mce p0.toNatClampNeg)) p0.toNatClampNeg = mce p0.toNatClampNeg) ↔ mce p1.toNatClampNeg = mce p0.toNatClampNeg := by
        rw [upd_at, upd_at, if_pos rfl]
        by_cases b : p0.toNatClampNeg = p1.toNatClampNeg
        · rw [if_pos b, b]
        · rw [if_neg b]
      by_cases h2 : mce p1.toNatClampNeg = mce p0.toNatClampNeg
      · simp only [f_L_swap, fx_X1_swap, f_X1_swap, f_X1_bring, f_X1_done, f_X3_swap, f_X3_swap_20, f_X3_swap_71, f_X3_done, (needCell h0).1, (needCell h0).2, (needCell h1).1, (needCell h1).2, xb_s, xb_n, is3, thrown3', if_pos h0, if_pos h1, hc.eq h0, hc.eq h1, if_pos h2, if_pos (hm.mpr h2), Option.bind_some, if_true, t10, t00, if_false]
        exact ⟨_, _, rfl, rfl, rfl, fun _ => rfl, hK, rfl⟩
      · simp only [f_L_swap, fx_X1_swap, f_X1_swap, f_X1_bring, f_X1_done, f_X3_swap, f_X3_swap_20, f_X3_swap_71, f_X3_done, (needCell h0).1, (needCell h0).2, (needCell h1).1, (needCell h1).2, xb_s, xb_n, is3, thrown3', if_pos h0, if_pos h1, hc.eq h0, hc.eq h1, if_neg h2, if_neg (fun z => h2 (hm.mp z)), Option.bind_some, if_true, t10, t00, if_false]
        exact ⟨_, _, rfl, rfl, rfl, fun _ => rfl, hK, rfl⟩
    · simp only [f_L_swap, fx_X1_swap, f_X3_swap, f_X3_swap_15, f_X3_swap_20, (needCell h0).1, (needCell h0).2, (needCellN h1).1, (needCellN h1).2, xb_s, xb_n, is3, thrown3', if_pos h0, if_neg h1, Option.bind_some, if_true, t10, t00, u12, if_false]
      exact ⟨_, _, rfl, rfl, rfl, fun z => absurd (show (1 : Int32) = 0 from z) (by decide), hc, rfl⟩
  · simp only [f_L_swap, fx_X1_swap, f_X3_swap, f_X3_swap_15, f_X3_swap_20, (needCellN h0).1, (needCellN h0).2, xb_s, xb_n, is3, thrown3', if_neg h0, Option.bind_some, if_true, t10, t00, u12, if_false]
    exact ⟨_, _, rfl, rfl, rfl, fun z => absurd (show (1 : Int32) = 0 from z) (by decide), hc, rfl⟩

/-! units -/
abbrev kUnitOk (l : Int) (u n : Int32) : Prop := 0 ≤ u.toInt ∧ u.toInt ≤ 2 ∧ l ≤ n.toInt ∧ n.toInt ≤ 2000000000
theorem c2 : (2 : Int32).toInt = 2 := by decide
theorem needUnits1 {u n b : Int32} : f_X1_needUnits u n b = (if kUnitOk b.toInt u n then some () else none) ∧ fx_X1_needUnits u n b = (if kUnitOk b.toInt u n then none else some 2) := by
  obtain ⟨e1, e2, e3, e4⟩ := c1e9
  by_cases h1 : 0 ≤ u.toInt ∧ u.toInt ≤ 2
  · by_cases h2 : b.toInt ≤ n.toInt ∧ n.toInt ≤ 2000000000
    · have h : kUnitOk b.toInt u n := ⟨h1.1, h1.2, h2.1, h2.2⟩
      rw [if_pos h, if_pos h]
      constructor <;> simp only [f_X1_needUnits, fx_X1_needUnits, f_X1_needUnits_24, fx_X1_needUnits_24, withinq, i0, c2, e3, if_pos h1, if_pos h2, needThat1.1, needThat1.2, Option.bind_some, t10, if_false, xb_n]
    · have h : ¬ kUnitOk b.toInt u n := fun z => h2 ⟨z.2.2.1, z.2.2.2⟩
      rw [if_neg h, if_neg h]
      constructor <;> simp only [f_X1_needUnits, fx_X1_needUnits, f_X1_needUnits_23, fx_X1_needUnits_23, f_X1_needUnits_24, fx_X1_needUnits_24, withinq, i0, c2, e3, if_pos h1, if_neg h2, needThat0.1, needThat0.2, Option.bind_some, Option.bind_none, t10, t00, if_true, if_false, xb_s]
  · have h : ¬ kUnitOk b.toInt u n := fun z => h1 ⟨z.1, z.2.1⟩
    rw [if_neg h, if_neg h]
    constructor <;> simp only [f_X1_needUnits, fx_X1_needUnits, f_X1_needUnits_23, fx_X1_needUnits_23, f_X1_needUnits_24, fx_X1_needUnits_24, withinq, i0, c2, if_neg h1, needThat0.1, needThat0.2, Option.bind_some, Option.bind_none, t00, if_true, xb_s]
theorem noUnit3 {u n : Int32} : f_X3_isNoUnit u n = some (if kUnitOk (-2000000000) u n then 0 else 1) := by
  obtain ⟨e1, e2, e3, e4⟩ := c1e9
  unfold f_X3_isNoUnit
  simp only [lt32, le32, i0, c2, e3, e4]
  by_cases h1 : u.toInt < 0
  · rw [if_pos h1, if_neg (by omega)]
  · by_cases h2 : 2 < u.toInt
    · rw [if_neg h1, if_pos h2, if_neg (by omega)]
    · by_cases h3 : n.toInt < -2000000000
      · rw [if_neg h1, if_neg h2, if_pos h3, if_neg (by omega)]
      · by_cases h4 : n.toInt ≤ 2000000000
        · rw [if_neg h1, if_neg h2, if_neg h3, if_pos h4, if_pos (by omega)]
        · rw [if_neg h1, if_neg h2, if_neg h3, if_neg h4, if_neg (by omega)]
def kLen (u n : Int32) : Int64 := if u = 0 then n.toInt64 * 1000000000 else if u = 1 then n.toInt64 * 1000000 else n.toInt64 * 1
theorem len1 {u n : Int32} : f_X1_lengthOf u n = some (kLen u n) := by
  unfold f_X1_lengthOf kLen
  by_cases h1 : u = 0
  · rw [if_pos h1, if_pos h1]
  · by_cases h2 : u = 1
    · rw [if_neg h1, if_neg h1, if_pos h2, if_pos h2]
    · rw [if_neg h1, if_neg h1, if_neg h2, if_neg h2]
theorem len3 {u n : Int32} : f_X3_units u n = some (kLen u n) := by
  unfold f_X3_units kLen
  by_cases h1 : u = 0
  · rw [if_pos h1, if_pos h1]
  · by_cases h2 : u = 1
    · rw [if_neg h1, if_neg h1, if_pos h2, if_pos h2]
    · rw [if_neg h1, if_neg h1, if_neg h2, if_neg h2]
abbrev kBy (x : Int64) : Prop := -2000000000000000000 ≤ x.toInt ∧ x.toInt ≤ 2000000000000000000
theorem kLen_by {u n : Int32} (h1 : -2000000000 ≤ n.toInt) (h2 : n.toInt ≤ 2000000000) : kBy (kLen u n) := by
  have e6 : (1000000 : Int64).toInt = 1000000 := by decide +kernel
  have e1 : (1 : Int64).toInt = 1 := by decide
  unfold kLen
  by_cases a : u = 0
  · rw [if_pos a]
    have e : (n.toInt64 * 1000000000).toInt = n.toInt * 1000000000 := by rw [m64 (by rw [w64, eB]; omega) (by rw [w64, eB]; omega), w64, eB]
    exact ⟨by rw [e]; omega, by rw [e]; omega⟩
  · by_cases b : u = 1
    · rw [if_neg a, if_pos b]
      have e : (n.toInt64 * 1000000).toInt = n.toInt * 1000000 := by rw [m64 (by rw [w64, e6]; omega) (by rw [w64, e6]; omega), w64, e6]
      exact ⟨by rw [e]; omega, by rw [e]; omega⟩
    · rw [if_neg a, if_neg b]
      have e : (n.toInt64 * 1).toInt = n.toInt := by rw [m64 (by rw [w64, e1]; omega) (by rw [w64, e1]; omega), w64, e1]; omega
      exact ⟨by rw [e]; omega, by rw [e]; omega⟩
theorem addBy {c y : Int64} (hc : kLet c) (hy : kBy y) : (c + y).toInt = c.toInt + y.toInt := by
  have a1 := hc.1; have a2 := hc.2; have b1 := hy.1; have b2 := hy.2
  exact a64 (by omega) (by omega)
theorem negBy {y : Int64} (hy : kBy y) : kBy (-y) ∧ (-y).toInt = -y.toInt := by
  have b1 := hy.1; have b2 := hy.2
  have e := n64 (x := y) (by omega)
  exact ⟨⟨by omega, by omega⟩, e⟩
theorem side_sign {c y : Int64} (hc : kLet c) (hy : kBy y) : ∃ z, f_X1_sideOf (c + y) c = some z ∧ f_X3_sign y = some z := by
  have e := addBy hc hy
  have e0 : (0 : Int64).toInt = 0 := by decide
  unfold f_X1_sideOf f_X3_sign
  simp only [le64, eq64, e, e0]
  by_cases h1 : y.toInt = 0
  · rw [if_pos (by omega), if_pos (by omega), if_pos (by omega)]; exact ⟨_, rfl, rfl⟩
  · by_cases h2 : 0 ≤ y.toInt
    · rw [if_neg (by omega), if_pos (by omega), if_pos h2, if_neg (by omega)]; exact ⟨_, rfl, rfl⟩
    · rw [if_neg (by omega), if_neg (by omega), if_neg h2]; exact ⟨_, rfl, rfl⟩
theorem t12 : ((2 : Int32) = 0) = False := eq_false (by decide)
theorem op_go {ce mce : Nat → Int64} {ac rf mac mre : Int32} {on : Int64} {p0 p1 p2 p3 : Int32} (hc : kCe ce mce) (ha : ac = mac) (hf : rf = mre) : ∃ r r', f_L_go ce ac rf on p0 p1 p2 p3 = some r ∧ f_X3_go mce mac mre p0 p1 p2 p3 = some r' ∧ r'.2.2.2.2 = r.1 ∧ (r.1 = 0 → r.2.2.2.2 = r'.1.toInt64) ∧ kCe r.2.1 r'.2.1 ∧ r.2.2.1 = r'.2.2.1 ∧ r.2.2.2.1 = r'.2.2.2.1 := by
  subst ha; subst hf
  have e4 := c1e9.2.2.2
  by_cases h0 : ix p0 4
  · by_cases h1 : kUnitOk (-2000000000) p1 p2
    · have hB := kLen_by (u := p1) h1.2.2.1 h1.2.2.2
      obtain ⟨y, hy, hyc⟩ : ∃ y, kBy y ∧ ((p3 = 0 ∧ y = kLen p1 p2) ∨ (¬ p3 = 0 ∧ y = -kLen p1 p2)) := by
        by_cases h3 : p3 = 0
        · exact ⟨_, hB, Or.inl ⟨h3, rfl⟩⟩
        · exact ⟨_, (negBy hB).1, Or.inr ⟨h3, rfl⟩⟩
      have hL : f_L_go ce ac rf on p0 p1 p2 p3 = (f_X1_go_44 ce ac rf p0 (mce p0.toNatClampNeg + y)).bind fun r1 => some (0, r1.2.1, r1.2.2.1, r1.2.2.2, r1.1.toInt64) := by
        rcases hyc with ⟨h3, e⟩ | ⟨h3, e⟩
        · simp only [f_L_go, fx_X1_go, f_X1_go, (needCell h0).1, (needCell h0).2, needUnits1, e4, if_pos h1, xb_n, Option.bind_some, len1, if_pos h3, if_pos h0, hc.eq h0, e]
        · simp only [f_L_go, fx_X1_go, f_X1_go, (needCell h0).1, (needCell h0).2, needUnits1, e4, if_pos h1, xb_n, Option.bind_some, len1, if_neg h3, if_pos h0, hc.eq h0, e, Int64.sub_eq_add_neg]
      have hM : f_X3_go mce ac rf p0 p1 p2 p3 = f_X3_go_45 mce ac rf 0 p0 y := by
        rcases hyc with ⟨h3, e⟩ | ⟨h3, e⟩
        · simp only [f_X3_go, f_X3_go_13, is3, if_pos h0, noUnit3, if_pos h1, thrown3, Option.bind_some, t10, t00, if_true, if_false, if_pos h3, len3, e]
        · simp only [f_X3_go, f_X3_go_13, is3, if_pos h0, noUnit3, if_pos h1, thrown3, Option.bind_some, t10, t00, if_true, if_false, if_neg h3, len3, e]
      rw [hL, hM]
      by_cases h2 : kLet (mce p0.toNatClampNeg + y)
      · obtain ⟨z, hz1, hz3⟩ := side_sign (hc.let h0) hy
        simp only [f_X1_go_44, f_X3_go_45, isLet1, isLet3, if_pos h2, if_pos h0, hc.eq h0, hz1, hz3, f_X1_done, f_X3_done, Option.bind_some, t10, if_false]
        exact ⟨_, _, rfl, rfl, rfl, fun _ => rfl, hc.upd _ h2, rfl, rfl⟩
      · simp only [f_X1_go_44, f_X3_go_45, isLet1, isLet3, if_neg h2, if_pos h0, f_X1_refuse, f_X3_no, Option.bind_some, t00, if_true]
        exact ⟨_, _, rfl, rfl, rfl, fun _ => rfl, hc, rfl, rfl⟩
    · simp only [f_L_go, fx_X1_go, f_X3_go, f_X3_go_13, (needCell h0).1, (needCell h0).2, needUnits1, e4, if_neg h1, xb_n, xb_s, Option.bind_some, u21, if_false, is3, if_pos h0, noUnit3, thrown3, t10, t00, if_true]
      exact ⟨_, _, rfl, rfl, rfl, fun z => absurd (show (2 : Int32) = 0 from z) (by decide), hc, rfl, rfl⟩
  · have q : ∀ y, f_X3_isThrown 1 y = some (1, 1) := fun y => by rw [thrown3]; rfl
    simp only [f_L_go, fx_X1_go, f_X3_go, f_X3_go_13, (needCellN h0).1, (needCellN h0).2, xb_s, u12, if_true, is3, if_neg h0, noUnit3, q, Option.bind_some, t10, t00, if_false]
    exact ⟨_, _, rfl, rfl, rfl, fun z => absurd (show (1 : Int32) = 0 from z) (by decide), hc, rfl, rfl⟩

theorem t49 {a b : Nat} (ha : a ≤ 65536) (hb : b ≤ 65536) (h : ¬ a ≤ b) : ¬ nI a ≤ nI b := fun z => h ((q_le ha hb).mp z)
theorem q_4 : (4 : Int32) = nI 4 := rfl
theorem q_1 : (1 : Int32) = nI 1 := rfl
/-- pick's loop: both sides take the same steps -/
theorem pick_loop {ce mce : Nat → Int64} {ac mth x1 x2 : Int32} (hc : kCe ce mce) (h2 : ix x2 4) : ∀ (f i b : Nat), i ≤ 4 → b < 4 → 4 - i < f → ∃ z, z < 4 ∧ f_X1_pick_9 f ce ac x1 x2 (nI b) (nI i) = some (nI z, vp_updL ce x2.toNatClampNeg (mce z), ac + 1) ∧ f_X3_pick_26 f mce ac mth x1 x2 (nI b) (nI i) = some (nI z, vp_updL mce x2.toNatClampNeg (mce z), ac + 1, mth) := by
  intro f
  induction f with
  | zero => intro i b hi hb hf; omega
  | succ f ih =>
    intro i b hi hb hf
    have hb4 : ix (nI b) 4 := q_ix hb (by omega)
    have eb : (nI b).toNatClampNeg = b := q_cl (by omega)
    by_cases h : 4 ≤ i
    · have h' : (4 : Int32) ≤ nI i := by rw [q_4]; exact (q_le (by omega) (by omega)).mpr h
      refine ⟨b, hb, ?_, ?_⟩
      · simp only [f_X1_pick_9, if_pos h', if_pos hb4, if_pos h2, f_X1_done, Option.bind_some, eb, (hc b hb).1]
      · simp only [f_X3_pick_26, if_pos h', if_pos hb4, if_pos h2, f_X3_done, Option.bind_some, eb]
    · have h' : ¬ (4 : Int32) ≤ nI i := by rw [q_4]; exact t49 (by omega) (by omega) h
      have hi4 : ix (nI i) 4 := q_ix (by omega) (by omega)
      have ei : (nI i).toNatClampNeg = i := q_cl (by omega)
      have es : nI i + 1 = nI (i + 1) := q_s i
      by_cases h1 : x1 = 0
      · by_cases h3 : mce b ≤ mce i
        · obtain ⟨z, hz, e1, e3⟩ := ih (i + 1) b (by omega) hb (by omega)
          refine ⟨z, hz, ?_, ?_⟩
          · simp only [f_X1_pick_9, if_neg h', if_pos h1, if_pos hi4, if_pos hb4, eb, ei, (hc b hb).1, (hc i (by omega)).1, if_pos h3, if_true, es, e1]
          · simp only [f_X3_pick_26, if_neg h', if_pos h1, if_pos hi4, if_pos hb4, eb, ei, if_pos h3, es, e3]
        · obtain ⟨z, hz, e1, e3⟩ := ih (i + 1) i (by omega) (by omega) (by omega)
          refine ⟨z, hz, ?_, ?_⟩
          · simp only [f_X1_pick_9, if_neg h', if_pos h1, if_pos hi4, if_pos hb4, eb, ei, (hc b hb).1, (hc i (by omega)).1, if_neg h3, t10, if_false, es, e1]
          · simp only [f_X3_pick_26, if_neg h', if_pos h1, if_pos hi4, if_pos hb4, eb, ei, if_neg h3, es, e3]
      · by_cases h3 : mce i ≤ mce b
        · obtain ⟨z, hz, e1, e3⟩ := ih (i + 1) b (by omega) hb (by omega)
          refine ⟨z, hz, ?_, ?_⟩
          · simp only [f_X1_pick_9, if_neg h', if_neg h1, if_pos hi4, if_pos hb4, eb, ei, (hc b hb).1, (hc i (by omega)).1, if_pos h3, if_true, es, e1]
          · simp only [f_X3_pick_26, if_neg h', if_neg h1, if_pos hi4, if_pos hb4, eb, ei, if_pos h3, es, e3]
        · obtain ⟨z, hz, e1, e3⟩ := ih (i + 1) i (by omega) (by omega) (by omega)
          refine ⟨z, hz, ?_, ?_⟩
          · simp only [f_X1_pick_9, if_neg h', if_neg h1, if_pos hi4, if_pos hb4, eb, ei, (hc b hb).1, (hc i (by omega)).1, if_neg h3, t10, if_false, es, e1]
          · simp only [f_X3_pick_26, if_neg h', if_neg h1, if_pos hi4, if_pos hb4, eb, ei, if_neg h3, es, e3]
theorem op_pick {ce mce : Nat → Int64} {ac mac : Int32} {on : Int64} {p0 p1 : Int32} (hc : kCe ce mce) (ha : ac = mac) : ∃ r r', f_L_pick ce ac on p0 p1 = some r ∧ f_X3_pick mce mac p0 p1 = some r' ∧ r'.2.2.2 = r.1 ∧ (r.1 = 0 → r.2.2.2 = r'.1.toInt64) ∧ kCe r.2.1 r'.2.1 ∧ r.2.2.1 = r'.2.2.1 := by
  subst ha
  by_cases h1 : ix p1 4
  · obtain ⟨z, hz, e1, e3⟩ := pick_loop (mth := 0) (x1 := p0) (ac := ac) hc h1 24 1 0 (by omega) (by omega) (by omega)
    simp only [f_L_pick, fx_X1_pick, f_X1_pick, f_X3_pick, f_X3_pick_13, (needCell h1).1, (needCell h1).2, xb_n, Option.bind_some, is3, if_pos h1, thrown3', t10, t00, if_true, if_false, e1, e3, ← q_0, ← q_1] at e1 e3 ⊢
    exact ⟨_, _, rfl, rfl, rfl, fun _ => rfl, hc.upd _ ((hc z hz).1 ▸ (hc z hz).2), rfl⟩
  · simp only [f_L_pick, fx_X1_pick, f_X3_pick, f_X3_pick_13, (needCellN h1).1, (needCellN h1).2, xb_s, is3, thrown3', if_neg h1, Option.bind_some, if_true, t10, t00, u12, if_false]
    exact ⟨_, _, rfl, rfl, rfl, fun z => absurd (show (1 : Int32) = 0 from z) (by decide), hc, rfl⟩

/-- a row of both sides: n pieces, the same -/
abbrev kRow (n : Nat) (b e b' e' : Nat → Int64) : Prop := ∀ k, k < n → b k = b' k ∧ e k = e' k ∧ b k < e k
theorem op_open {ce mce : Nat → Int64} {fr un mfr mun : Int64} {sc msp ac rf mac mre : Int32} {on : Int64} {p0 p1 : Int32} (hc : kCe ce mce) (hfr : fr = mfr) (hun : un = mun) (hsc : sc = msp) (ha : ac = mac) (hf : rf = mre) : ∃ r r', f_L_open ce fr un sc ac rf on p0 p1 = some r ∧ f_X3_open mce mfr mun msp mac mre p0 p1 = some r' ∧ r'.2.2.2.2.2.2 = r.1 ∧ (r.1 = 0 → r.2.2.2.2.2.2 = r'.1.toInt64) ∧ r.2.1 = r'.2.1 ∧ r.2.2.1 = r'.2.2.1 ∧ r.2.2.2.1 = r'.2.2.2.1 ∧ r.2.2.2.2.1 = r'.2.2.2.2.1 ∧ r.2.2.2.2.2.1 = r'.2.2.2.2.2.1 ∧ ((r.2.1 = fr ∧ r.2.2.1 = un ∧ r.2.2.2.1 = sc) ∨ (kLet r.2.1 ∧ kLet r.2.2.1 ∧ r.2.1 < r.2.2.1 ∧ r.2.2.2.1 = nI 0)) := by
  subst hfr; subst hun; subst hsc; subst ha; subst hf
  by_cases h0 : ix p0 4
  · by_cases h1 : ix p1 4
    · by_cases h2 : mce p0.toNatClampNeg < mce p1.toNatClampNeg
      · simp only [f_L_open, fx_X1_open, f_X1_open, f_X0_clear, f_X1_done, f_X3_open, f_X3_open_20, f_X3_done, (needCell h0).1, (needCell h0).2, (needCell h1).1, (needCell h1).2, xb_n, is3, thrown3', if_pos h0, if_pos h1, hc.eq h0, hc.eq h1, if_pos h2, Option.bind_some, if_true, t10, t00, if_false]
        exact ⟨_, _, rfl, rfl, rfl, fun _ => rfl, rfl, rfl, rfl, rfl, rfl, Or.inr ⟨hc.let h0, hc.let h1, h2, rfl⟩⟩
      · simp only [f_L_open, fx_X1_open, f_X1_open, f_X1_refuse, f_X3_open, f_X3_open_20, f_X3_no, (needCell h0).1, (needCell h0).2, (needCell h1).1, (needCell h1).2, xb_n, is3, thrown3', if_pos h0, if_pos h1, hc.eq h0, hc.eq h1, if_neg h2, Option.bind_some, if_true, t10, t00, if_false]
        exact ⟨_, _, rfl, rfl, rfl, fun _ => rfl, rfl, rfl, rfl, rfl, rfl, Or.inl ⟨rfl, rfl, rfl⟩⟩
    · simp only [f_L_open, fx_X1_open, f_X3_open, f_X3_open_15, f_X3_open_20, (needCell h0).1, (needCell h0).2, (needCellN h1).1, (needCellN h1).2, xb_s, xb_n, is3, thrown3', if_pos h0, if_neg h1, Option.bind_some, if_true, t10, t00, u12, if_false]
      exact ⟨_, _, rfl, rfl, rfl, fun z => absurd (show (1 : Int32) = 0 from z) (by decide), rfl, rfl, rfl, rfl, rfl, Or.inl ⟨rfl, rfl, rfl⟩⟩
  · simp only [f_L_open, fx_X1_open, f_X3_open, f_X3_open_15, f_X3_open_20, (needCellN h0).1, (needCellN h0).2, xb_s, is3, thrown3', if_neg h0, Option.bind_some, if_true, t10, t00, u12, if_false]
    exact ⟨_, _, rfl, rfl, rfl, fun z => absurd (show (1 : Int32) = 0 from z) (by decide), rfl, rfl, rfl, rfl, rfl, Or.inl ⟨rfl, rfl, rfl⟩⟩

/-! rows of both sides -/
theorem kF_congr {p q : Nat → Bool} : ∀ (m i : Nat), (∀ k, i ≤ k → k < i + m → p k = q k) → kF p i m = kF q i m := by
  intro m
  induction m with
  | zero => intro i h; rfl
  | succ m ih =>
    intro i h
    rw [kF, kF, h i (by omega) (by omega), ih (i + 1) (fun k h1 h2 => h k (by omega) (by omega))]
theorem kF_m1 {p : Nat → Bool} : ∀ (m i : Nat), i + m ≤ 65536 → ((kF p i m = -1) ∧ (∀ k, i ≤ k → k < i + m → p k = false)) ∨ ∃ k, i ≤ k ∧ k < i + m ∧ p k = true ∧ kF p i m = nI k ∧ ¬ kF p i m = -1 ∧ ∀ j, i ≤ j → j < k → p j = false := by
  intro m
  induction m with
  | zero => intro i h; exact Or.inl ⟨rfl, fun k h1 h2 => by omega⟩
  | succ m ih =>
    intro i h
    rw [kF]
    by_cases hp : p i = true
    · rw [if_pos hp]
      refine Or.inr ⟨i, Nat.le_refl _, by omega, hp, rfl, fun z => ?_, fun j h1 h2 => by omega⟩
      have h1 := congrArg Int32.toInt z
      rw [nI_toInt (by omega)] at h1
      have : (-1 : Int32).toInt = -1 := by decide
      omega
    · rw [if_neg hp]
      have hp' : p i = false := by simpa using hp
      rcases ih (i + 1) (by omega) with ⟨h1, h2⟩ | ⟨k, h1, h2, h3, h4, h5, h6⟩
      · refine Or.inl ⟨h1, fun k h3 h4 => ?_⟩
        by_cases e : k = i
        · rw [e]; exact hp'
        · exact h2 k (by omega) (by omega)
      · refine Or.inr ⟨k, by omega, by omega, h3, h4, h5, fun j h7 h8 => ?_⟩
        by_cases e : j = i
        · rw [e]; exact hp'
        · exact h6 j (by omega) h8
theorem ms_loop {b e : Nat → Int64} {n : Nat} {x y : Int64} {but : Int32} (hn : n ≤ 10) : ∀ (f i : Nat), i ≤ n → n - i < f → f_X3_meetsSome_3 f b e (nI n) x y but (nI i) = some (if kF (fun k => decide (nI k ≠ but ∧ b k < y ∧ x < e k)) i (n - i) = -1 then 0 else 1) := by
  intro f
  induction f with
  | zero => intro i hi hf; omega
  | succ f ih =>
    intro i hi hf
    rw [f_X3_meetsSome_3_s]
    by_cases h : n ≤ i
    · rw [if_pos ((q_le (by omega) (by omega)).mpr h), show n - i = 0 by omega, kF, if_pos rfl]
    · rw [if_neg (fun z => h ((q_le (by omega) (by omega)).mp z)), if_pos (q_ix (show i < 10 by omega) (by omega)), q_cl (by omega), q_s, ih (i + 1) (by omega) (by omega)]
      have hm1 : ¬ nI i = -1 := fun z => by
        have h1 := congrArg Int32.toInt z
        rw [nI_toInt (by omega)] at h1
        have : (-1 : Int32).toInt = -1 := by decide
        omega
      have hno : decide (nI i ≠ but ∧ b i < y ∧ x < e i) = false → kF (fun k => decide (nI k ≠ but ∧ b k < y ∧ x < e k)) i (n - i) = kF (fun k => decide (nI k ≠ but ∧ b k < y ∧ x < e k)) (i + 1) (n - (i + 1)) := fun z => by
        rw [show n - i = (n - (i + 1)) + 1 by omega, kF, z]; rfl
      have hye : decide (nI i ≠ but ∧ b i < y ∧ x < e i) = true → kF (fun k => decide (nI k ≠ but ∧ b k < y ∧ x < e k)) i (n - i) = nI i := fun z => by
        rw [show n - i = (n - (i + 1)) + 1 by omega, kF, z]; rfl
      by_cases h1 : nI i = but
      · rw [if_pos h1, hno (decide_eq_false (fun z => z.1 h1))]
      · rw [if_neg h1]
        unfold f_X3_meet
        by_cases h2 : e i ≤ x
        · rw [if_pos h2, hno (decide_eq_false (fun z => Int64.not_lt.mpr h2 z.2.2))]; rfl
        · rw [if_neg h2]
          by_cases h3 : y ≤ b i
          · rw [if_pos h3, hno (decide_eq_false (fun z => Int64.not_lt.mpr h3 z.2.1))]; rfl
          · rw [if_neg h3, hye (decide_eq_true ⟨h1, Int64.not_le.mp h3, Int64.not_le.mp h2⟩), if_neg hm1]; rfl
theorem ms_eq {b e : Nat → Int64} {n : Nat} {x y : Int64} {but : Int32} (hn : n ≤ 10) : f_X3_meetsSome b e (nI n) x y but = some (if kF (fun k => decide (nI k ≠ but ∧ b k < y ∧ x < e k)) 0 n = -1 then 0 else 1) := by
  unfold f_X3_meetsSome
  rw [q_0, ms_loop hn 24 0 (by omega) (by omega)]; rfl
/-- the same first one on both sides -/
theorem fm_same {b e b' e' : Nat → Int64} {n : Nat} (h : kRow n b e b' e') (x y : Int64) (but : Int32) : kF (fun k => decide (nI k ≠ but ∧ b k < y ∧ x < e k)) 0 n = kF (fun k => decide (nI k ≠ but ∧ b' k < y ∧ x < e' k)) 0 n :=
  kF_congr n 0 (fun k _ h2 => by
    obtain ⟨e1, e2, -⟩ := h k (by omega)
    show decide _ = decide _
    rw [e1, e2])
theorem inCal {fr un x y : Int64} : f_X1_isInCalendar fr un x y = some (if fr ≤ x ∧ y ≤ un then 1 else 0) := by
  unfold f_X1_isInCalendar
  by_cases h1 : x < fr
  · rw [if_pos h1, if_neg (fun z => Int64.not_lt.mpr z.1 h1)]
  · by_cases h2 : un < y
    · rw [if_neg h1, if_pos h2, if_neg (fun z => Int64.not_lt.mpr z.2 h2)]
    · rw [if_neg h1, if_neg h2, if_pos ⟨Int64.not_lt.mp h1, Int64.not_lt.mp h2⟩]
theorem isIn3 {fr un x y : Int64} : f_X3_isIn fr un x y = some (if fr ≤ x ∧ y ≤ un then 1 else 0) := by
  unfold f_X3_isIn
  by_cases h1 : x < fr
  · rw [if_pos h1, if_neg (fun z => Int64.not_lt.mpr z.1 h1)]
  · by_cases h2 : un < y
    · rw [if_neg h1, if_pos h2, if_neg (fun z => Int64.not_lt.mpr z.2 h2)]
    · rw [if_neg h1, if_neg h2, if_pos ⟨Int64.not_lt.mp h1, Int64.not_lt.mp h2⟩]

abbrev kSpans (fr un : Int64) (n : Nat) (sb se : Nat → Int64) (so : Nat → Int32) (mbe men : Nat → Int64) (mov : Nat → Int32) : Prop := ∀ k, k < n → sb k = mbe k ∧ se k = men k ∧ so k = mov k ∧ sb k < se k ∧ fr ≤ sb k ∧ se k ≤ un
theorem kSpans.row {fr un : Int64} {n : Nat} {sb se : Nat → Int64} {so : Nat → Int32} {mbe men : Nat → Int64} {mov : Nat → Int32} (h : kSpans fr un n sb se so mbe men mov) : kRow n sb se mbe men := fun k hk => ⟨(h k hk).1, (h k hk).2.1, (h k hk).2.2.2.1⟩
theorem nI_m1 {n : Nat} (h : n ≤ 65536) : (nI n = -1) = False := eq_false (fun z => by
  have h1 := congrArg Int32.toInt z
  rw [nI_toInt (by omega)] at h1
  have : (-1 : Int32).toInt = -1 := by decide
  omega)
theorem updI_at (f : Nat → Int32) (j : Nat) (x : Int32) (k : Nat) : upd f j x k = if k = j then x else f k := rfl
theorem kSpans.add {fr un : Int64} {n : Nat} {sb se : Nat → Int64} {so : Nat → Int32} {mbe men : Nat → Int64} {mov : Nat → Int32} (h : kSpans fr un n sb se so mbe men mov) {x y : Int64} {v : Int32} (h1 : x < y) (h2 : fr ≤ x) (h3 : y ≤ un) : kSpans fr un (n + 1) (vp_updL sb n x) (vp_updL se n y) (upd so n v) (vp_updL mbe n x) (vp_updL men n y) (upd mov n v) := fun k hk => by
  rw [upd_at, upd_at, upd_at, upd_at, updI_at, updI_at]
  by_cases e : k = n
  · rw [if_pos e, if_pos e, if_pos e, if_pos e, if_pos e, if_pos e]; exact ⟨rfl, rfl, rfl, h1, h2, h3⟩
  · rw [if_neg e, if_neg e, if_neg e, if_neg e, if_neg e, if_neg e]; exact h k (by omega)
theorem tm1 : ((-1 : Int32) = -1) = True := eq_true rfl
theorem add_may {fr un : Int64} {n : Nat} {sb se : Nat → Int64} {so : Nat → Int32} {mbe men : Nat → Int64} {mov : Nat → Int32} (h : kSpans fr un n sb se so mbe men mov) (hn : n ≤ 10) (x y : Int64) (v : Int32) :
    (f_X1_addSpan fr un sb se so (nI n) x y v = some (-1, sb, se, so, nI n) ∧ f_X3_mayCome fr un mbe men (nI n) x y v = some 0) ∨
    (n < 10 ∧ x < y ∧ fr ≤ x ∧ y ≤ un ∧ f_X1_addSpan fr un sb se so (nI n) x y v = some (nI n, vp_updL sb n x, vp_updL se n y, upd so n (vp_nar .boolean v), nI (n + 1)) ∧ f_X3_mayCome fr un mbe men (nI n) x y v = some 1) := by
  have c10 : (10 : Int32) = nI 10 := rfl
  have c11 : (11 : Int32) = nI 11 := rfl
  by_cases h1 : y ≤ x
  · refine Or.inl ⟨?_, ?_⟩
    · simp only [f_X1_addSpan, if_pos h1]
    · simp only [f_X3_mayCome, if_pos h1]
  · by_cases h2 : fr ≤ x ∧ y ≤ un
    · by_cases h3 : n < 10
      · have a1 : nI n < 10 := by rw [c10]; exact (q_lt (by omega) (by omega)).mpr h3
        have a2 : ¬ (10 : Int32) ≤ nI n := by rw [c10]; exact fun z => by have := (q_le (by omega) (by omega)).mp z; omega
        have a3 : nI n < 11 := by rw [c11]; exact (q_lt (by omega) (by omega)).mpr (by omega)
        have a4 : ix (nI n) 11 := q_ix (by omega) (by omega)
        have a5 : (nI n).toNatClampNeg = n := q_cl (by omega)
        have a6 : nI n + 1 = nI (n + 1) := q_s n
        have a7 : nI (n + 1) - 1 = nI n := nI_pred n
        by_cases h4 : v = 0
        · by_cases h5 : kF (fun k => decide (nI k ≠ -1 ∧ sb k < y ∧ x < se k)) 0 n = -1
          · refine Or.inr ⟨h3, Int64.not_le.mp h1, h2.1, h2.2, ?_, ?_⟩
            · simp only [f_X1_addSpan, if_neg h1, inCal, if_pos h2, Option.bind_some, t10, if_false, f_X0_count, if_pos a1, if_pos h4, fm_eq (show n ≤ 11 by omega), h5, tm1, if_true, f_X1_addSpan_50, f_X0_add, if_pos a3, if_pos a4, a5, a6, a7]
            · rw [fm_same h.row] at h5
              simp only [f_X3_mayCome, if_neg h1, isIn3, if_pos h2, Option.bind_some, t10, if_false, if_neg a2, if_pos h4, ms_eq hn, if_pos h5, t00, if_true]
          · refine Or.inl ⟨?_, ?_⟩
            · simp only [f_X1_addSpan, if_neg h1, inCal, if_pos h2, Option.bind_some, t10, if_false, f_X0_count, if_pos a1, if_pos h4, fm_eq (show n ≤ 11 by omega), if_neg h5]
            · rw [fm_same h.row] at h5
              simp only [f_X3_mayCome, if_neg h1, isIn3, if_pos h2, Option.bind_some, t10, if_false, if_neg a2, if_pos h4, ms_eq hn, if_neg h5]
        · refine Or.inr ⟨h3, Int64.not_le.mp h1, h2.1, h2.2, ?_, ?_⟩
          · simp only [f_X1_addSpan, if_neg h1, inCal, if_pos h2, Option.bind_some, t10, if_false, f_X0_count, if_pos a1, if_neg h4, f_X1_addSpan_50, f_X0_add, if_pos a3, if_pos a4, a5, a6, a7]
          · simp only [f_X3_mayCome, if_neg h1, isIn3, if_pos h2, Option.bind_some, t10, if_false, if_neg a2, if_neg h4]
      · have a1 : ¬ nI n < 10 := by rw [c10]; exact fun z => h3 ((q_lt (by omega) (by omega)).mp z)
        have a2 : (10 : Int32) ≤ nI n := by rw [c10]; exact (q_le (by omega) (by omega)).mpr (by omega)
        refine Or.inl ⟨?_, ?_⟩
        · simp only [f_X1_addSpan, if_neg h1, inCal, if_pos h2, Option.bind_some, t10, if_false, f_X0_count, if_neg a1]
        · simp only [f_X3_mayCome, if_neg h1, isIn3, if_pos h2, Option.bind_some, t10, if_false, if_pos a2]
    · refine Or.inl ⟨?_, ?_⟩
      · simp only [f_X1_addSpan, if_neg h1, inCal, if_neg h2, Option.bind_some, t00, if_true]
      · simp only [f_X3_mayCome, if_neg h1, isIn3, if_neg h2, Option.bind_some, t00, if_true]
theorem come_eq {n : Nat} (h : n < 10) {mbe men : Nat → Int64} {mov : Nat → Int32} {mac : Int32} {x y : Int64} {v : Int32} : f_X3_come mbe men mov (nI n) mac x y v = some (nI n, vp_updL mbe n x, vp_updL men n y, upd mov n (vp_nar .boolean v), nI (n + 1), mac + 1) := by
  have a4 : ix (nI n) 10 := q_ix (by omega) (by omega)
  have a5 : (nI n).toNatClampNeg = n := q_cl (by omega)
  have a6 : nI n + 1 = nI (n + 1) := q_s n
  have a7 : nI (n + 1) - 1 = nI n := nI_pred n
  simp only [f_X3_come, if_pos a4, f_X3_done, a5, a6, a7, Option.bind_some]
theorem op_book {ce mce : Nat → Int64} {fr un : Int64} {n : Nat} {sb se : Nat → Int64} {so : Nat → Int32} {mbe men : Nat → Int64} {mov : Nat → Int32} {ac rf : Int32} {on : Int64} {p0 p1 p2 : Int32} (hc : kCe ce mce) (hS : kSpans fr un n sb se so mbe men mov) (hn : n ≤ 10) : ∃ r r' n', f_L_book ce fr un sb se so (nI n) ac rf on p0 p1 p2 = some r ∧ f_X3_book mce fr un mbe men mov (nI n) ac rf p0 p1 p2 = some r' ∧ r'.2.2.2.2.2.2.2 = r.1 ∧ (r.1 = 0 → r.2.2.2.2.2.2.2 = r'.1.toInt64) ∧ n' ≤ 10 ∧ r.2.2.2.2.1 = nI n' ∧ r'.2.2.2.2.1 = nI n' ∧ kSpans fr un n' r.2.1 r.2.2.1 r.2.2.2.1 r'.2.1 r'.2.2.1 r'.2.2.2.1 ∧ r.2.2.2.2.2.1 = r'.2.2.2.2.2.1 ∧ r.2.2.2.2.2.2.1 = r'.2.2.2.2.2.2.1 := by
  by_cases h0 : ix p0 4
  · by_cases h1 : ix p1 4
    · rcases add_may hS hn (mce p0.toNatClampNeg) (mce p1.toNatClampNeg) p2 with ⟨e1, e3⟩ | ⟨h3, h4, h5, h6, e1, e3⟩
      · simp only [f_L_book, fx_X1_book, f_X1_book, (needCell h0).1, (needCell h0).2, (needCell h1).1, (needCell h1).2, xb_n, Option.bind_some, if_pos h0, if_pos h1, hc.eq h0, hc.eq h1, e1, tm1, if_true, f_X1_refuse, f_X3_book, f_X3_book_20, is3, t10, t00, if_false, thrown3', e3, f_X3_no]
        exact ⟨_, _, n, rfl, rfl, rfl, fun _ => rfl, hn, rfl, rfl, hS, rfl, rfl⟩
      · simp only [f_L_book, fx_X1_book, f_X1_book, (needCell h0).1, (needCell h0).2, (needCell h1).1, (needCell h1).2, xb_n, Option.bind_some, if_pos h0, if_pos h1, hc.eq h0, hc.eq h1, e1, nI_m1 (show n ≤ 65536 by omega), if_true, f_X1_done, f_X3_book, f_X3_book_20, is3, t10, t00, if_false, thrown3', e3, come_eq h3]
        exact ⟨_, _, n + 1, rfl, rfl, rfl, fun _ => rfl, by omega, rfl, rfl, hS.add h4 h5 h6, rfl, rfl⟩
    · simp only [f_L_book, fx_X1_book, f_X3_book, f_X3_book_15, f_X3_book_20, (needCell h0).1, (needCell h0).2, (needCellN h1).1, (needCellN h1).2, xb_s, xb_n, is3, thrown3', if_pos h0, if_neg h1, Option.bind_some, if_true, t10, t00, u12, if_false]
      exact ⟨_, _, n, rfl, rfl, rfl, fun z => absurd (show (1 : Int32) = 0 from z) (by decide), hn, rfl, rfl, hS, rfl, rfl⟩
  · simp only [f_L_book, fx_X1_book, f_X3_book, f_X3_book_15, f_X3_book_20, (needCellN h0).1, (needCellN h0).2, xb_s, is3, thrown3', if_neg h0, Option.bind_some, if_true, t10, t00, u12, if_false]
    exact ⟨_, _, n, rfl, rfl, rfl, fun z => absurd (show (1 : Int32) = 0 from z) (by decide), hn, rfl, rfl, hS, rfl, rfl⟩

theorem pm1 {n : Nat} (h : n ≤ 65536) : (nI n - 1).toInt = (n : Int) - 1 := by
  have e1 : (1 : Int32).toInt = 1 := by decide
  rw [Int32.toInt_sub, nI_toInt (by omega), e1]
  exact Int.bmod_eq_of_le (by omega) (by omega)
theorem numIn {n : Nat} (h : n ≤ 65536) {p : Int32} : f_X1_needNumberIn (nI n) p = (if ix p n then some () else none) ∧ fx_X1_needNumberIn (nI n) p = (if ix p n then none else some 1) := by
  by_cases h0 : ix p n
  · have h1 : 0 ≤ p.toInt ∧ p.toInt ≤ (n : Int) - 1 := ⟨h0.1, by have := h0.2; omega⟩
    rw [if_pos h0, if_pos h0]
    constructor <;> simp only [f_X1_needNumberIn, fx_X1_needNumberIn, f_X0_count, Option.bind_some, withinq, i0, pm1 h, if_pos h1, t10, if_false]
  · have h1 : ¬ (0 ≤ p.toInt ∧ p.toInt ≤ (n : Int) - 1) := fun z => h0 ⟨z.1, by omega⟩
    rw [if_neg h0, if_neg h0]
    constructor <;> simp only [f_X1_needNumberIn, fx_X1_needNumberIn, f_X0_count, Option.bind_some, withinq, i0, pm1 h, if_neg h1, t00, if_true]
theorem isSpan3 {n : Nat} (h : n ≤ 65536) {p : Int32} : f_X3_isSpan (nI n) p = some (if ix p n then 1 else 0) := by
  unfold f_X3_isSpan
  simp only [lt32, le32, i0, nI_toInt (show n < 2 ^ 31 by omega)]
  by_cases h1 : p.toInt < 0
  · rw [if_pos h1, if_neg (fun z => by have := z.1; omega)]
  · by_cases h2 : (n : Int) ≤ p.toInt
    · rw [if_neg h1, if_pos h2, if_neg (fun z => by have := z.2; omega)]
    · rw [if_neg h1, if_neg h2, if_pos ⟨by omega, by omega⟩]
theorem isWish3 {n : Nat} (h : n ≤ 65536) {p : Int32} : f_X3_isWish (nI n) p = some (if ix p n then 1 else 0) := isSpan3 h
theorem isIn0 {n : Nat} (h : n ≤ 65536) {p : Int32} : f_X0_isIn (nI n) p = some (if ix p n then 1 else 0) := isSpan3 h
theorem ix_mono {p : Int32} {n m : Nat} (h : ix p n) (hm : n ≤ m) : ix p m := ⟨h.1, by have := h.2; omega⟩
theorem cl_lt {x : Int32} {n : Nat} (h : ix x n) : x.toNatClampNeg < n := by
  have h1 := h.1; have h2 := h.2
  show x.toInt.toNat < n
  omega
theorem nI_cl {x : Int32} {n : Nat} (h : ix x n) (hn : n ≤ 65536) : x = nI x.toNatClampNeg := by
  have h1 := h.1; have h2 := cl_lt h
  apply Int32.toInt_inj.mp
  rw [nI_toInt (by omega)]
  show x.toInt = (x.toInt.toNat : Int)
  omega
theorem begin0 {rb : Nat → Int64} {n : Nat} (hn : n ≤ 11) {p : Int32} (h : ix p n) : f_X0_begin rb (nI n) p = some (rb p.toNatClampNeg) := by
  simp only [f_X0_begin, isIn0 (show n ≤ 65536 by omega), if_pos h, Option.bind_some, t10, if_false, if_pos (ix_mono h hn)]
theorem end0 {rb : Nat → Int64} {n : Nat} (hn : n ≤ 11) {p : Int32} (h : ix p n) : f_X0_end rb (nI n) p = some (rb p.toNatClampNeg) := begin0 hn h
theorem unbook_loop {fr un : Int64} {m : Nat} {mac mth : Int32} (hm : m ≤ 9) : ∀ (f i : Nat) (sb se : Nat → Int64) (so : Nat → Int32) (mbe men : Nat → Int64) (mov : Nat → Int32), kSpans fr un (m + 1) sb se so mbe men mov → i ≤ m → m - i < f → ∃ sb2 se2 so2 mbe2 men2 mov2, f_X0_remove_20 f sb se so (nI m) (nI i) = some (nI m, sb2, se2, so2, nI m) ∧ f_X3_unbook_34 f mbe men mov (nI m) mac mth (nI i) = some (nI m, mbe2, men2, mov2, nI m, mac + 1, mth) ∧ kSpans fr un m sb2 se2 so2 mbe2 men2 mov2 := by
  intro f
  induction f with
  | zero => intro i sb se so mbe men mov hS hi hf; omega
  | succ f ih =>
    intro i sb se so mbe men mov hS hi hf
    by_cases h : m ≤ i
    · have h' : nI m ≤ nI i := (q_le (by omega) (by omega)).mpr h
      refine ⟨sb, se, so, mbe, men, mov, ?_, ?_, fun k hk => hS k (by omega)⟩
      · simp only [f_X0_remove_20, if_pos h']
      · simp only [f_X3_unbook_34, if_pos h', f_X3_done, Option.bind_some]
    · have h' : ¬ nI m ≤ nI i := t49 (by omega) (by omega) h
      have es : nI i + 1 = nI (i + 1) := q_s i
      have ei : (nI i).toNatClampNeg = i := q_cl (by omega)
      have ei1 : (nI (i + 1)).toNatClampNeg = i + 1 := q_cl (by omega)
      have a1 : ix (nI i) 11 := q_ix (by omega) (by omega)
      have a2 : ix (nI (i + 1)) 11 := q_ix (by omega) (by omega)
      have b1 : ix (nI i) 10 := q_ix (by omega) (by omega)
      have b2 : ix (nI (i + 1)) 10 := q_ix (by omega) (by omega)
      have hS2 : kSpans fr un (m + 1) (vp_updL sb i (sb (i + 1))) (vp_updL se i (se (i + 1))) (upd so i (vp_nar .boolean (so (i + 1)))) (vp_updL mbe i (mbe (i + 1))) (vp_updL men i (men (i + 1))) (upd mov i (vp_nar .boolean (mov (i + 1)))) := fun k hk => by
        rw [upd_at, upd_at, upd_at, upd_at, updI_at, updI_at]
        by_cases e : k = i
        · obtain ⟨x1, x2, x3, x4, x5, x6⟩ := hS (i + 1) (by omega)
          rw [if_pos e, if_pos e, if_pos e, if_pos e, if_pos e, if_pos e, x3]; exact ⟨x1, x2, rfl, x4, x5, x6⟩
        · rw [if_neg e, if_neg e, if_neg e, if_neg e, if_neg e, if_neg e]; exact hS k hk
      obtain ⟨sb2, se2, so2, mbe2, men2, mov2, e1, e3, hS3⟩ := ih (i + 1) _ _ _ _ _ _ hS2 (by omega) (by omega)
      refine ⟨sb2, se2, so2, mbe2, men2, mov2, ?_, ?_, hS3⟩
      · simp only [f_X0_remove_20, if_neg h', es, if_pos a2, if_pos a1, ei, ei1, e1]
      · simp only [f_X3_unbook_34, if_neg h', es, if_pos b2, if_pos b1, ei, ei1, e3]
theorem op_unbook {fr un : Int64} {n : Nat} {sb se : Nat → Int64} {so : Nat → Int32} {mbe men : Nat → Int64} {mov : Nat → Int32} {ac : Int32} {on : Int64} {p0 : Int32} (hS : kSpans fr un n sb se so mbe men mov) (hn : n ≤ 10) : ∃ r r' n', f_L_unbook sb se so (nI n) ac on p0 = some r ∧ f_X3_unbook mbe men mov (nI n) ac p0 = some r' ∧ r'.2.2.2.2.2.2 = r.1 ∧ (r.1 = 0 → r.2.2.2.2.2.2 = r'.1.toInt64) ∧ n' ≤ 10 ∧ r.2.2.2.2.1 = nI n' ∧ r'.2.2.2.2.1 = nI n' ∧ kSpans fr un n' r.2.1 r.2.2.1 r.2.2.2.1 r'.2.1 r'.2.2.1 r'.2.2.2.1 ∧ r.2.2.2.2.2.1 = r'.2.2.2.2.2.1 := by
  by_cases h0 : ix p0 n
  · have hl := cl_lt h0
    obtain ⟨m, rfl⟩ : ∃ m, n = m + 1 := ⟨n - 1, by omega⟩
    have ep := nI_cl h0 (by omega)
    obtain ⟨sb2, se2, so2, mbe2, men2, mov2, e1, e3, hS3⟩ := unbook_loop (fr := fr) (un := un) (mac := ac) (mth := 0) (show m ≤ 9 by omega) 24 p0.toNatClampNeg sb se so mbe men mov hS (by omega) (by omega)
    rw [← ep] at e1 e3
    have em : nI (m + 1) - 1 = nI m := nI_pred m
    simp only [f_L_unbook, fx_X1_unbook, f_X1_unbook, f_X0_remove, numIn (show m + 1 ≤ 65536 by omega), isIn0 (show m + 1 ≤ 65536 by omega), isSpan3 (show m + 1 ≤ 65536 by omega), if_pos h0, xb_n, Option.bind_some, t10, t00, if_true, if_false, em, e1, e3, f_X1_done, f_X3_unbook, f_X3_unbook_14, thrown3']
    exact ⟨_, _, m, rfl, rfl, rfl, fun _ => rfl, by omega, rfl, rfl, hS3, rfl⟩
  · simp only [f_L_unbook, fx_X1_unbook, numIn (show n ≤ 65536 by omega), isSpan3 (show n ≤ 65536 by omega), if_neg h0, xb_s, u12, t10, t00, if_true, if_false, f_X3_unbook, f_X3_unbook_14, Option.bind_some, thrown3']
    exact ⟨_, _, n, rfl, rfl, rfl, fun z => absurd (show (1 : Int32) = 0 from z) (by decide), hn, rfl, rfl, hS, rfl⟩

/-! wishes -/
abbrev kWish (w : Nat) (wb we mwb mwe : Nat → Int64) : Prop := ∀ k, k < w → wb k = mwb k ∧ we k = mwe k ∧ wb k < we k ∧ kLet (wb k) ∧ kLet (we k)
theorem kWish.add {w : Nat} {wb we mwb mwe : Nat → Int64} (h : kWish w wb we mwb mwe) {x y : Int64} (h1 : x < y) (h2 : kLet x) (h3 : kLet y) : kWish (w + 1) (vp_updL wb w x) (vp_updL we w y) (vp_updL mwb w x) (vp_updL mwe w y) := fun k hk => by
  rw [upd_at, upd_at, upd_at, upd_at]
  by_cases e : k = w
  · rw [if_pos e, if_pos e, if_pos e, if_pos e]; exact ⟨rfl, rfl, h1, h2, h3⟩
  · rw [if_neg e, if_neg e, if_neg e, if_neg e]; exact h k (by omega)
theorem gone_loop {m : Nat} (hm : m ≤ 7) : ∀ (f i : Nat) (wb we : Nat → Int64) (wo : Nat → Int32) (mwb mwe : Nat → Int64), kWish (m + 1) wb we mwb mwe → i ≤ m → m - i < f → ∃ wb2 we2 wo2 mwb2 mwe2, f_X0_remove_20 f wb we wo (nI m) (nI i) = some (nI m, wb2, we2, wo2, nI m) ∧ f_X3_gone_12 f mwb mwe (nI m) (nI i) = some (mwb2, mwe2, nI m) ∧ kWish m wb2 we2 mwb2 mwe2 := by
  intro f
  induction f with
  | zero => intro i wb we wo mwb mwe hS hi hf; omega
  | succ f ih =>
    intro i wb we wo mwb mwe hS hi hf
    by_cases h : m ≤ i
    · have h' : nI m ≤ nI i := (q_le (by omega) (by omega)).mpr h
      refine ⟨wb, we, wo, mwb, mwe, ?_, ?_, fun k hk => hS k (by omega)⟩
      · simp only [f_X0_remove_20, if_pos h']
      · simp only [f_X3_gone_12, if_pos h']
    · have h' : ¬ nI m ≤ nI i := t49 (by omega) (by omega) h
      have es : nI i + 1 = nI (i + 1) := q_s i
      have ei : (nI i).toNatClampNeg = i := q_cl (by omega)
      have ei1 : (nI (i + 1)).toNatClampNeg = i + 1 := q_cl (by omega)
      have a1 : ix (nI i) 11 := q_ix (by omega) (by omega)
      have a2 : ix (nI (i + 1)) 11 := q_ix (by omega) (by omega)
      have b1 : ix (nI i) 8 := q_ix (by omega) (by omega)
      have b2 : ix (nI (i + 1)) 8 := q_ix (by omega) (by omega)
      have hS2 : kWish (m + 1) (vp_updL wb i (wb (i + 1))) (vp_updL we i (we (i + 1))) (vp_updL mwb i (mwb (i + 1))) (vp_updL mwe i (mwe (i + 1))) := fun k hk => by
        rw [upd_at, upd_at, upd_at, upd_at]
        by_cases e : k = i
        · rw [if_pos e, if_pos e, if_pos e, if_pos e]; exact hS (i + 1) (by omega)
        · rw [if_neg e, if_neg e, if_neg e, if_neg e]; exact hS k hk
      obtain ⟨wb2, we2, wo2, mwb2, mwe2, e1, e3, hS3⟩ := ih (i + 1) _ _ (upd wo i (vp_nar .boolean (wo (i + 1)))) _ _ hS2 (by omega) (by omega)
      refine ⟨wb2, we2, wo2, mwb2, mwe2, ?_, ?_, hS3⟩
      · simp only [f_X0_remove_20, if_neg h', es, if_pos a2, if_pos a1, ei, ei1, e1]
      · simp only [f_X3_gone_12, if_neg h', es, if_pos b2, if_pos b1, ei, ei1, e3]
theorem gone_both {m : Nat} (hm : m ≤ 7) {p0 : Int32} (h0 : ix p0 (m + 1)) {wb we : Nat → Int64} {wo : Nat → Int32} {mwb mwe : Nat → Int64} (hS : kWish (m + 1) wb we mwb mwe) : ∃ wb2 we2 wo2 mwb2 mwe2, f_X0_remove wb we wo (nI (m + 1)) p0 = some (nI m, wb2, we2, wo2, nI m) ∧ f_X3_gone mwb mwe (nI (m + 1)) p0 = some (mwb2, mwe2, nI m) ∧ kWish m wb2 we2 mwb2 mwe2 := by
  have hl := cl_lt h0
  have ep := nI_cl h0 (by omega)
  obtain ⟨wb2, we2, wo2, mwb2, mwe2, e1, e3, hS3⟩ := gone_loop hm 24 p0.toNatClampNeg wb we wo mwb mwe hS (by omega) (by omega)
  rw [← ep] at e1 e3
  have em : nI (m + 1) - 1 = nI m := nI_pred m
  refine ⟨wb2, we2, wo2, mwb2, mwe2, ?_, ?_, hS3⟩
  · simp only [f_X0_remove, isIn0 (show m + 1 ≤ 65536 by omega), if_pos h0, Option.bind_some, t10, if_false, em, e1]
  · simp only [f_X3_gone, em, e3]
theorem op_wish {ce mce : Nat → Int64} {w : Nat} {wb we : Nat → Int64} {wo : Nat → Int32} {mwb mwe : Nat → Int64} {ac rf : Int32} {on : Int64} {p0 p1 : Int32} (hc : kCe ce mce) (hS : kWish w wb we mwb mwe) (hn : w ≤ 8) : ∃ r r' n', f_L_wish ce wb we wo (nI w) ac rf on p0 p1 = some r ∧ f_X3_wish mce mwb mwe (nI w) ac rf p0 p1 = some r' ∧ r'.2.2.2.2.2.2 = r.1 ∧ (r.1 = 0 → r.2.2.2.2.2.2.2 = r'.1.toInt64) ∧ n' ≤ 8 ∧ r.2.2.2.2.1 = nI n' ∧ r'.2.2.2.1 = nI n' ∧ kWish n' r.2.1 r.2.2.1 r'.2.1 r'.2.2.1 ∧ r.2.2.2.2.2.1 = r'.2.2.2.2.1 ∧ r.2.2.2.2.2.2.1 = r'.2.2.2.2.2.1 := by
  have c8 : (8 : Int32) = nI 8 := rfl
  have c11 : (11 : Int32) = nI 11 := rfl
  by_cases h0 : ix p0 4
  · by_cases h1 : ix p1 4
    · by_cases h2 : mce p1.toNatClampNeg ≤ mce p0.toNatClampNeg
      · simp only [f_L_wish, fx_X1_wish, f_X1_wish, f_X1_wish_36, f_X1_refuse, f_X3_wish, f_X3_wish_20, f_X3_wish_53, f_X3_no, (needCell h0).1, (needCell h0).2, (needCell h1).1, (needCell h1).2, xb_n, is3, thrown3', if_pos h0, if_pos h1, hc.eq h0, hc.eq h1, if_pos h2, Option.bind_some, if_true, t10, t00, if_false]
        exact ⟨_, _, w, rfl, rfl, rfl, fun _ => rfl, hn, rfl, rfl, hS, rfl, rfl⟩
      · by_cases h3 : w < 8
        · have a1 : nI w < 8 := by rw [c8]; exact (q_lt (by omega) (by omega)).mpr h3
          have a2 : ¬ nI w = 8 := by rw [c8]; exact fun z => by have := (q_eq (by omega) (by omega)).mp z; omega
          have a3 : nI w < 11 := by rw [c11]; exact (q_lt (by omega) (by omega)).mpr (by omega)
          have a4 : ix (nI w) 11 := q_ix (by omega) (by omega)
          have a8 : ix (nI w) 8 := q_ix (by omega) (by omega)
          have a5 : (nI w).toNatClampNeg = w := q_cl (by omega)
          have a6 : nI w + 1 = nI (w + 1) := q_s w
          have a7 : nI (w + 1) - 1 = nI w := nI_pred w
          simp only [f_L_wish, fx_X1_wish, f_X1_wish, f_X0_count, f_X0_add, f_X1_done, f_X3_wish, f_X3_wish_20, f_X3_done, (needCell h0).1, (needCell h0).2, (needCell h1).1, (needCell h1).2, xb_n, is3, thrown3', if_pos h0, if_pos h1, hc.eq h0, hc.eq h1, if_neg h2, if_pos a1, if_neg a2, if_pos a3, if_pos a4, if_pos a8, a5, a6, a7, Option.bind_some, if_true, t10, t00, if_false]
          exact ⟨_, _, w + 1, rfl, rfl, rfl, fun _ => rfl, by omega, rfl, rfl, hS.add (Int64.not_le.mp h2) (hc.let h0) (hc.let h1), rfl, rfl⟩
        · have a1 : ¬ nI w < 8 := by rw [c8]; exact fun z => h3 ((q_lt (by omega) (by omega)).mp z)
          have a2 : nI w = 8 := by rw [c8]; exact (q_eq (by omega) (by omega)).mpr (by omega)
          simp only [f_L_wish, fx_X1_wish, f_X1_wish, f_X0_count, f_X1_wish_36, f_X1_refuse, f_X3_wish, f_X3_wish_20, f_X3_wish_53, f_X3_no, (needCell h0).1, (needCell h0).2, (needCell h1).1, (needCell h1).2, xb_n, is3, thrown3', if_pos h0, if_pos h1, hc.eq h0, hc.eq h1, if_neg h2, if_neg a1, if_pos a2, Option.bind_some, if_true, t10, t00, if_false]
          exact ⟨_, _, w, rfl, rfl, rfl, fun _ => rfl, hn, rfl, rfl, hS, rfl, rfl⟩
    · simp only [f_L_wish, fx_X1_wish, f_X3_wish, f_X3_wish_15, f_X3_wish_20, (needCell h0).1, (needCell h0).2, (needCellN h1).1, (needCellN h1).2, xb_s, xb_n, is3, thrown3', if_pos h0, if_neg h1, Option.bind_some, if_true, t10, t00, u12, if_false]
      exact ⟨_, _, w, rfl, rfl, rfl, fun z => absurd (show (1 : Int32) = 0 from z) (by decide), hn, rfl, rfl, hS, rfl, rfl⟩
  · simp only [f_L_wish, fx_X1_wish, f_X3_wish, f_X3_wish_15, f_X3_wish_20, (needCellN h0).1, (needCellN h0).2, xb_s, is3, thrown3', if_neg h0, Option.bind_some, if_true, t10, t00, u12, if_false]
    exact ⟨_, _, w, rfl, rfl, rfl, fun z => absurd (show (1 : Int32) = 0 from z) (by decide), hn, rfl, rfl, hS, rfl, rfl⟩
theorem op_unwish {w : Nat} {wb we : Nat → Int64} {wo : Nat → Int32} {mwb mwe : Nat → Int64} {ac : Int32} {on : Int64} {p0 : Int32} (hS : kWish w wb we mwb mwe) (hn : w ≤ 8) : ∃ r r' n', f_L_unwish wb we wo (nI w) ac on p0 = some r ∧ f_X3_unwish mwb mwe (nI w) ac p0 = some r' ∧ r'.2.2.2.2.2 = r.1 ∧ (r.1 = 0 → r.2.2.2.2.2.2 = r'.1.toInt64) ∧ n' ≤ 8 ∧ r.2.2.2.2.1 = nI n' ∧ r'.2.2.2.1 = nI n' ∧ kWish n' r.2.1 r.2.2.1 r'.2.1 r'.2.2.1 ∧ r.2.2.2.2.2.1 = r'.2.2.2.2.1 := by
  by_cases h0 : ix p0 w
  · have hl := cl_lt h0
    obtain ⟨m, rfl⟩ : ∃ m, w = m + 1 := ⟨w - 1, by omega⟩
    obtain ⟨wb2, we2, wo2, mwb2, mwe2, e1, e3, hS3⟩ := gone_both (wo := wo) (show m ≤ 7 by omega) h0 hS
    simp only [f_L_unwish, fx_X1_unwish, f_X1_unwish, numIn (show m + 1 ≤ 65536 by omega), isWish3 (show m + 1 ≤ 65536 by omega), if_pos h0, xb_n, Option.bind_some, t10, t00, if_true, if_false, e1, e3, f_X1_done, f_X3_done, f_X3_unwish, f_X3_unwish_14, thrown3']
    exact ⟨_, _, m, rfl, rfl, rfl, fun _ => rfl, by omega, rfl, rfl, hS3, rfl⟩
  · simp only [f_L_unwish, fx_X1_unwish, numIn (show w ≤ 65536 by omega), isWish3 (show w ≤ 65536 by omega), if_neg h0, xb_s, u12, t10, t00, if_true, if_false, f_X3_unwish, f_X3_unwish_14, Option.bind_some, thrown3']
    exact ⟨_, _, w, rfl, rfl, rfl, fun z => absurd (show (1 : Int32) = 0 from z) (by decide), hn, rfl, rfl, hS, rfl⟩

theorem op_grant {fr un : Int64} {n : Nat} {sb se : Nat → Int64} {so : Nat → Int32} {mbe men : Nat → Int64} {mov : Nat → Int32} {w : Nat} {wb we : Nat → Int64} {wo : Nat → Int32} {mwb mwe : Nat → Int64} {ac rf : Int32} {on : Int64} {p0 : Int32} (hS : kSpans fr un n sb se so mbe men mov) (hn : n ≤ 10) (hW : kWish w wb we mwb mwe) (hw : w ≤ 8) : ∃ r r' n' w', f_L_grant fr un sb se so (nI n) wb we wo (nI w) ac rf on p0 = some r ∧ f_X3_grant fr un mbe men mov (nI n) mwb mwe (nI w) ac rf p0 = some r' ∧ r'.2.2.2.2.2.2.2.2.2.2 = r.1 ∧ (r.1 = 0 → r.2.2.2.2.2.2.2.2.2.2.2 = r'.1.toInt64) ∧ n' ≤ 10 ∧ r.2.2.2.2.1 = nI n' ∧ r'.2.2.2.2.1 = nI n' ∧ kSpans fr un n' r.2.1 r.2.2.1 r.2.2.2.1 r'.2.1 r'.2.2.1 r'.2.2.2.1 ∧ w' ≤ 8 ∧ r.2.2.2.2.2.2.2.2.1 = nI w' ∧ r'.2.2.2.2.2.2.2.1 = nI w' ∧ kWish w' r.2.2.2.2.2.1 r.2.2.2.2.2.2.1 r'.2.2.2.2.2.1 r'.2.2.2.2.2.2.1 ∧ r.2.2.2.2.2.2.2.2.2.1 = r'.2.2.2.2.2.2.2.2.1 ∧ r.2.2.2.2.2.2.2.2.2.2.1 = r'.2.2.2.2.2.2.2.2.2.1 := by
  by_cases h0 : ix p0 w
  · have hl := cl_lt h0
    obtain ⟨m, rfl⟩ : ∃ m, w = m + 1 := ⟨w - 1, by omega⟩
    have h8 : ix p0 8 := ix_mono h0 hw
    obtain ⟨z1, z2, z3, z4, z5⟩ := hW _ hl
    rcases add_may hS hn (mwb p0.toNatClampNeg) (mwe p0.toNatClampNeg) 0 with ⟨e1, e3⟩ | ⟨h3, h4, h5, h6, e1, e3⟩
    · simp only [f_L_grant, fx_X1_grant, f_X1_grant, numIn (show m + 1 ≤ 65536 by omega), isWish3 (show m + 1 ≤ 65536 by omega), if_pos h0, xb_n, Option.bind_some, begin0 (show m + 1 ≤ 11 by omega) h0, end0 (show m + 1 ≤ 11 by omega) h0, z1, z2, e1, tm1, f_X1_refuse, f_X3_grant, f_X3_grant_14, thrown3', if_pos h8, e3, f_X3_no, t10, t00, if_true, if_false]
      exact ⟨_, _, n, m + 1, rfl, rfl, rfl, fun _ => rfl, hn, rfl, rfl, hS, hw, rfl, rfl, hW, rfl, rfl⟩
    · obtain ⟨wb2, we2, wo2, mwb2, mwe2, g1, g3, hW3⟩ := gone_both (wo := wo) (show m ≤ 7 by omega) h0 hW
      simp only [f_L_grant, fx_X1_grant, f_X1_grant, numIn (show m + 1 ≤ 65536 by omega), isWish3 (show m + 1 ≤ 65536 by omega), if_pos h0, xb_n, Option.bind_some, begin0 (show m + 1 ≤ 11 by omega) h0, end0 (show m + 1 ≤ 11 by omega) h0, z1, z2, e1, nI_m1 (show n ≤ 65536 by omega), f_X1_done, g1, g3, f_X3_grant, f_X3_grant_14, thrown3', if_pos h8, e3, come_eq h3, t10, t00, if_true, if_false]
      exact ⟨_, _, n + 1, m, rfl, rfl, rfl, fun _ => rfl, by omega, rfl, rfl, hS.add h4 h5 h6, by omega, rfl, rfl, hW3, rfl, rfl⟩
  · simp only [f_L_grant, fx_X1_grant, numIn (show w ≤ 65536 by omega), isWish3 (show w ≤ 65536 by omega), if_neg h0, xb_s, u12, t10, t00, if_true, if_false, f_X3_grant, f_X3_grant_14, Option.bind_some, thrown3']
    exact ⟨_, _, n, w, rfl, rfl, rfl, fun z => absurd (show (1 : Int32) = 0 from z) (by decide), hn, rfl, rfl, hS, hw, rfl, rfl, hW, rfl, rfl⟩
/-- how many of the first m, from i on, are before -/
def kLess (f : Nat → Int64) (x : Int64) (i : Nat) : Nat → Nat
  | 0 => 0
  | m + 1 => (if f i < x then 1 else 0) + kLess f x (i + 1) m
theorem bb_loop {rb : Nat → Int64} {n : Nat} {x : Int64} (hn : n ≤ 11) : ∀ (f i c : Nat), i ≤ n → n - i < f → f_X0_beginsBefore_5 f rb (nI n) x (nI c) (nI i) = some (nI (c + kLess rb x i (n - i))) := by
  intro f
  induction f with
  | zero => intro i c hi hf; omega
  | succ f ih =>
    intro i c hi hf
    by_cases h : n ≤ i
    · simp only [f_X0_beginsBefore_5, if_pos ((q_le (show n ≤ 65536 by omega) (show i ≤ 65536 by omega)).mpr h), show n - i = 0 by omega, kLess, Nat.add_zero]
    · have h' : ¬ nI n ≤ nI i := t49 (by omega) (by omega) h
      have es : nI i + 1 = nI (i + 1) := q_s i
      have ec : nI c + 1 = nI (c + 1) := q_s c
      have ei : (nI i).toNatClampNeg = i := q_cl (by omega)
      have a1 : ix (nI i) 11 := q_ix (by omega) (by omega)
      have hm : n - i = (n - (i + 1)) + 1 := by omega
      by_cases h1 : x ≤ rb i
      · simp only [f_X0_beginsBefore_5, if_neg h', es, if_pos a1, ei, if_pos h1, ih (i + 1) c (by omega) (by omega)]
        rw [hm, kLess, if_neg (Int64.not_lt.mpr h1), Nat.zero_add]
      · simp only [f_X0_beginsBefore_5, if_neg h', es, ec, if_pos a1, ei, if_neg h1, ih (i + 1) (c + 1) (by omega) (by omega)]
        rw [hm, kLess, if_pos (Int64.not_le.mp h1), Nat.add_assoc]
theorem bb_eq {rb : Nat → Int64} {n : Nat} {x : Int64} (hn : n ≤ 11) : f_X0_beginsBefore rb (nI n) x = some (nI (kLess rb x 0 n)) := by
  have h := bb_loop (rb := rb) (x := x) hn 24 0 0 (by omega) (by omega)
  rw [Nat.zero_add] at h
  exact h
theorem eb_loop {rb : Nat → Int64} {n : Nat} {x : Int64} : ∀ (f i c : Nat), f_X0_endsBefore_5 f rb (nI n) x (nI c) (nI i) = f_X0_beginsBefore_5 f rb (nI n) x (nI c) (nI i) := by
  intro f
  induction f with
  | zero => intro i c; rfl
  | succ f ih =>
    intro i c
    simp only [f_X0_endsBefore_5, f_X0_beginsBefore_5, q_s, ih]
theorem eb_eq {rb : Nat → Int64} {n : Nat} {x : Int64} (hn : n ≤ 11) : f_X0_endsBefore rb (nI n) x = some (nI (kLess rb x 0 n)) := (eb_loop 24 0 0).trans (bb_eq hn)
theorem add0 (x : Int32) : x + 0 = x := by
  apply Int32.toInt_inj.mp
  rw [Int32.toInt_add, i0, Int.add_zero]
  have := b32 x
  exact Int.bmod_eq_of_le (by omega) (by omega)
theorem ls_loop {rb : Nat → Int64} {n N : Nat} {x : Int64} (hn : n ≤ N) (hN : N ≤ 11) : ∀ (f i c : Nat), i ≤ n → n - i < f → f_X3_less_6 N f rb (nI n) x (nI c) (nI i) = some (nI (c + kLess rb x i (n - i))) := by
  intro f
  induction f with
  | zero => intro i c hi hf; omega
  | succ f ih =>
    intro i c hi hf
    by_cases h : n ≤ i
    · simp only [f_X3_less_6, if_pos ((q_le (show n ≤ 65536 by omega) (show i ≤ 65536 by omega)).mpr h), show n - i = 0 by omega, kLess, Nat.add_zero]
    · have h' : ¬ nI n ≤ nI i := t49 (by omega) (by omega) h
      have es : nI i + 1 = nI (i + 1) := q_s i
      have ec : nI c + 1 = nI (c + 1) := q_s c
      have ei : (nI i).toNatClampNeg = i := q_cl (by omega)
      have a1 : ix (nI i) N := q_ix (by omega) (by omega)
      have hm : n - i = (n - (i + 1)) + 1 := by omega
      by_cases h1 : x ≤ rb i
      · simp only [f_X3_less_6, if_neg h', es, if_pos a1, ei, if_pos h1, add0, ih (i + 1) c (by omega) (by omega)]
        rw [hm, kLess, if_neg (Int64.not_lt.mpr h1), Nat.zero_add]
      · simp only [f_X3_less_6, if_neg h', es, ec, if_pos a1, ei, if_neg h1, ih (i + 1) (c + 1) (by omega) (by omega)]
        rw [hm, kLess, if_pos (Int64.not_le.mp h1), Nat.add_assoc]
theorem ls_eq {rb : Nat → Int64} {n N : Nat} {x : Int64} (hn : n ≤ N) (hN : N ≤ 11) : f_X3_less N rb (nI n) x = some (nI (kLess rb x 0 n)) := by
  have h := ls_loop (rb := rb) (x := x) hn hN 24 0 0 (by omega) (by omega)
  rw [Nat.zero_add] at h
  exact h
theorem kLess_congr {f g : Nat → Int64} {x : Int64} : ∀ (m i : Nat), (∀ k, i ≤ k → k < i + m → f k = g k) → kLess f x i m = kLess g x i m := by
  intro m
  induction m with
  | zero => intro i h; rfl
  | succ m ih =>
    intro i h
    rw [kLess, kLess, h i (by omega) (by omega), ih (i + 1) (fun k h1 h2 => h k (by omega) (by omega))]

theorem kSpans.let {fr un : Int64} {n : Nat} {sb se : Nat → Int64} {so : Nat → Int32} {mbe men : Nat → Int64} {mov : Nat → Int32} (h : kSpans fr un n sb se so mbe men mov) (hf : kLet fr) (hu : kLet un) {k : Nat} (hk : k < n) : kLet (mbe k) ∧ kLet (men k) ∧ (mbe k).toInt < (men k).toInt := by
  obtain ⟨e1, e2, e3, e4, e5, e6⟩ := h k hk
  rw [e1] at e4 e5
  rw [e2] at e4 e6
  have h4 := lt64.mp e4; have h5 := le64.mp e5; have h6 := le64.mp e6
  have a := hf.1; have b := hu.2
  exact ⟨⟨by omega, by omega⟩, ⟨by omega, by omega⟩, h4⟩
theorem kSpans.put {fr un : Int64} {n : Nat} {sb se : Nat → Int64} {so : Nat → Int32} {mbe men : Nat → Int64} {mov : Nat → Int32} (h : kSpans fr un n sb se so mbe men mov) {p : Nat} {x y : Int64} (h1 : x < y) (h2 : fr ≤ x) (h3 : y ≤ un) : kSpans fr un n (vp_updL sb p x) (vp_updL se p y) so (vp_updL mbe p x) (vp_updL men p y) mov := fun k hk => by
  rw [upd_at, upd_at, upd_at, upd_at]
  obtain ⟨e1, e2, e3, e4, e5, e6⟩ := h k hk
  by_cases e : k = p
  · rw [if_pos e, if_pos e, if_pos e, if_pos e]; exact ⟨rfl, rfl, e3, h1, h2, h3⟩
  · rw [if_neg e, if_neg e, if_neg e, if_neg e]; exact ⟨e1, e2, e3, e4, e5, e6⟩
theorem change {fr un : Int64} {n : Nat} {sb se : Nat → Int64} {so : Nat → Int32} {mbe men : Nat → Int64} {mov : Nat → Int32} (h : kSpans fr un n sb se so mbe men mov) (hn : n ≤ 10) {p0 : Int32} (h0 : ix p0 n) {x y : Int64} (hxy : x < y) :
    (f_X1_changeSpan fr un sb se (nI n) p0 x y = some (0, sb, se) ∧ (¬ (fr ≤ x ∧ y ≤ un) ∨ ((fr ≤ x ∧ y ≤ un) ∧ f_X3_meetsSome mbe men (nI n) x y p0 = some 1))) ∨
    ((fr ≤ x ∧ y ≤ un) ∧ f_X3_meetsSome mbe men (nI n) x y p0 = some 0 ∧ f_X1_changeSpan fr un sb se (nI n) p0 x y = some (1, vp_updL sb p0.toNatClampNeg x, vp_updL se p0.toNatClampNeg y)) := by
  have a0 : ¬ y ≤ x := Int64.not_le.mpr hxy
  by_cases h2 : fr ≤ x ∧ y ≤ un
  · have hs := fm_same h.row x y p0
    by_cases h5 : kF (fun k => decide (nI k ≠ p0 ∧ sb k < y ∧ x < se k)) 0 n = -1
    · refine Or.inr ⟨h2, ?_, ?_⟩
      · rw [ms_eq hn, ← hs, if_pos h5]
      · simp only [f_X1_changeSpan, if_neg a0, inCal, if_pos h2, Option.bind_some, t10, if_false, fm_eq (show n ≤ 11 by omega), if_pos h5, f_X0_put, isIn0 (show n ≤ 65536 by omega), if_pos h0, if_pos (ix_mono h0 (show n ≤ 11 by omega))]
    · refine Or.inl ⟨?_, Or.inr ⟨h2, ?_⟩⟩
      · simp only [f_X1_changeSpan, if_neg a0, inCal, if_pos h2, Option.bind_some, t10, if_false, fm_eq (show n ≤ 11 by omega), if_neg h5]
      · rw [ms_eq hn, ← hs, if_neg h5]
  · refine Or.inl ⟨?_, Or.inl h2⟩
    simp only [f_X1_changeSpan, if_neg a0, inCal, if_neg h2, Option.bind_some, t00, if_true]
theorem op_move {fr un : Int64} {n : Nat} {sb se : Nat → Int64} {so : Nat → Int32} {mbe men : Nat → Int64} {mov : Nat → Int32} {ac rf : Int32} {on : Int64} {p0 p1 p2 : Int32} (hS : kSpans fr un n sb se so mbe men mov) (hn : n ≤ 10) (hf : kLet fr) (hu : kLet un) : ∃ r r', f_L_move fr un sb se (nI n) ac rf on p0 p1 p2 = some r ∧ f_X3_move fr un mbe men (nI n) ac rf p0 p1 p2 = some r' ∧ r'.2.2.2.2.2 = r.1 ∧ (r.1 = 0 → r.2.2.2.2.2 = r'.1.toInt64) ∧ kSpans fr un n r.2.1 r.2.2.1 so r'.2.1 r'.2.2.1 mov ∧ r.2.2.2.1 = r'.2.2.2.1 ∧ r.2.2.2.2.1 = r'.2.2.2.2.1 := by
  have e4 := c1e9.2.2.2
  have hN : n ≤ 65536 := by omega
  by_cases h0 : ix p0 n
  · have hl := cl_lt h0
    have h10 : ix p0 10 := ix_mono h0 hn
    by_cases h1 : kUnitOk (-2000000000) p1 p2
    · have hB := kLen_by (u := p1) h1.2.2.1 h1.2.2.2
      obtain ⟨l1, l2, l3⟩ := hS.let hf hu hl
      have hxy : mbe p0.toNatClampNeg + kLen p1 p2 < men p0.toNatClampNeg + kLen p1 p2 := by
        rw [lt64, addBy l1 hB, addBy l2 hB]; omega
      obtain ⟨z1, z2, -⟩ := hS _ hl
      rcases change hS hn h0 hxy with ⟨e1, hno⟩ | ⟨h2, e3, e1⟩
      · rcases hno with hno | ⟨h2, e3⟩
        · simp only [f_L_move, fx_X1_move, f_X1_move, numIn hN, isSpan3 hN, if_pos h0, xb_n, Option.bind_some, needUnits1, e4, if_pos h1, len1, len3, begin0 (show n ≤ 11 by omega) h0, end0 (show n ≤ 11 by omega) h0, z1, z2, e1, t00, t10, if_true, if_false, f_X1_refuse, f_X3_move, f_X3_move_14, f_X3_move_78, noUnit3, thrown3, if_pos h10, isIn3, if_neg hno, f_X3_no]
          exact ⟨_, _, rfl, rfl, rfl, fun _ => rfl, hS, rfl, rfl⟩
        · simp only [f_L_move, fx_X1_move, f_X1_move, numIn hN, isSpan3 hN, if_pos h0, xb_n, Option.bind_some, needUnits1, e4, if_pos h1, len1, len3, begin0 (show n ≤ 11 by omega) h0, end0 (show n ≤ 11 by omega) h0, z1, z2, e1, t00, t10, if_true, if_false, f_X1_refuse, f_X3_move, f_X3_move_14, f_X3_move_78, noUnit3, thrown3, if_pos h10, isIn3, if_pos h2, e3, f_X3_no]
          exact ⟨_, _, rfl, rfl, rfl, fun _ => rfl, hS, rfl, rfl⟩
      · have hS2 := hS.put (p := p0.toNatClampNeg) hxy h2.1 h2.2
        have hx : (vp_updL sb p0.toNatClampNeg (mbe p0.toNatClampNeg + kLen p1 p2)) p0.toNatClampNeg = mbe p0.toNatClampNeg + kLen p1 p2 := by rw [upd_at, if_pos rfl]
        have hk := kLess_congr (f := vp_updL sb p0.toNatClampNeg (mbe p0.toNatClampNeg + kLen p1 p2)) (g := vp_updL mbe p0.toNatClampNeg (mbe p0.toNatClampNeg + kLen p1 p2)) (x := mbe p0.toNatClampNeg + kLen p1 p2) n 0 (fun k _ h => (hS2 k (by omega)).1)
        simp only [f_L_move, fx_X1_move, f_X1_move, numIn hN, isSpan3 hN, if_pos h0, xb_n, Option.bind_some, needUnits1, e4, if_pos h1, len1, len3, begin0 (show n ≤ 11 by omega) h0, end0 (show n ≤ 11 by omega) h0, z1, z2, e1, t00, t10, if_true, if_false, hx, bb_eq (show n ≤ 11 by omega), hk, f_X1_done, f_X3_move, f_X3_move_14, noUnit3, thrown3, if_pos h10, isIn3, if_pos h2, e3, ls_eq hn (show 10 ≤ 11 by omega), f_X3_done]
        exact ⟨_, _, rfl, rfl, rfl, fun _ => rfl, hS2, rfl, rfl⟩
    · simp only [f_L_move, fx_X1_move, numIn hN, isSpan3 hN, if_pos h0, xb_n, xb_s, Option.bind_some, needUnits1, e4, if_neg h1, u21, if_false, f_X3_move, f_X3_move_14, noUnit3, thrown3, t10, t00, if_true]
      exact ⟨_, _, rfl, rfl, rfl, fun z => absurd (show (2 : Int32) = 0 from z) (by decide), hS, rfl, rfl⟩
  · have q : ∀ y, f_X3_isThrown 1 y = some (1, 1) := fun y => by rw [thrown3]; rfl
    simp only [f_L_move, fx_X1_move, numIn hN, isSpan3 hN, if_neg h0, xb_s, u12, if_true, f_X3_move, f_X3_move_14, noUnit3, q, Option.bind_some, t10, t00, if_false]
    exact ⟨_, _, rfl, rfl, rfl, fun z => absurd (show (1 : Int32) = 0 from z) (by decide), hS, rfl, rfl⟩

theorem kSpans.putE {fr un : Int64} {n : Nat} {sb se : Nat → Int64} {so : Nat → Int32} {mbe men : Nat → Int64} {mov : Nat → Int32} (h : kSpans fr un n sb se so mbe men mov) {p : Nat} {y : Int64} (h1 : mbe p < y) (h2 : fr ≤ mbe p) (h3 : y ≤ un) : kSpans fr un n (vp_updL sb p (mbe p)) (vp_updL se p y) so mbe (vp_updL men p y) mov := fun k hk => by
  rw [upd_at, upd_at, upd_at]
  obtain ⟨e1, e2, e3, e4, e5, e6⟩ := h k hk
  by_cases e : k = p
  · rw [if_pos e, if_pos e, if_pos e, e]; exact ⟨rfl, rfl, e ▸ e3, h1, h2, h3⟩
  · rw [if_neg e, if_neg e, if_neg e]; exact ⟨e1, e2, e3, e4, e5, e6⟩
theorem op_stretch {fr un : Int64} {n : Nat} {sb se : Nat → Int64} {so : Nat → Int32} {mbe men : Nat → Int64} {mov : Nat → Int32} {ac rf : Int32} {on : Int64} {p0 p1 p2 : Int32} (hS : kSpans fr un n sb se so mbe men mov) (hn : n ≤ 10) (hf : kLet fr) (hu : kLet un) : ∃ r r', f_L_stretch fr un sb se (nI n) ac rf on p0 p1 p2 = some r ∧ f_X3_stretch fr un mbe men (nI n) ac rf p0 p1 p2 = some r' ∧ r'.2.2.2.2 = r.1 ∧ (r.1 = 0 → r.2.2.2.2.2 = r'.1.toInt64) ∧ kSpans fr un n r.2.1 r.2.2.1 so mbe r'.2.1 mov ∧ r.2.2.2.1 = r'.2.2.1 ∧ r.2.2.2.2.1 = r'.2.2.2.1 := by
  have e4 := c1e9.2.2.2
  have hN : n ≤ 65536 := by omega
  by_cases h0 : ix p0 n
  · have hl := cl_lt h0
    have h10 : ix p0 10 := ix_mono h0 hn
    by_cases h1 : kUnitOk (-2000000000) p1 p2
    · obtain ⟨z1, z2, z3, z4, z5, z6⟩ := hS _ hl
      by_cases hxy : mbe p0.toNatClampNeg < men p0.toNatClampNeg + kLen p1 p2
      · have a0 : ¬ men p0.toNatClampNeg + kLen p1 p2 ≤ mbe p0.toNatClampNeg := Int64.not_le.mpr hxy
        rcases change hS hn h0 hxy with ⟨e1, hno⟩ | ⟨h2, e3, e1⟩
        · rcases hno with hno | ⟨h2, e3⟩
          · simp only [f_L_stretch, fx_X1_stretch, f_X1_stretch, numIn hN, isSpan3 hN, if_pos h0, xb_n, Option.bind_some, needUnits1, e4, if_pos h1, len1, len3, begin0 (show n ≤ 11 by omega) h0, end0 (show n ≤ 11 by omega) h0, z1, z2, e1, t00, t10, if_true, if_false, f_X1_refuse, f_X3_stretch, f_X3_stretch_14, f_X3_stretch_84, noUnit3, thrown3, if_pos h10, if_neg a0, isIn3, if_neg hno, f_X3_no]
            exact ⟨_, _, rfl, rfl, rfl, fun _ => rfl, hS, rfl, rfl⟩
          · simp only [f_L_stretch, fx_X1_stretch, f_X1_stretch, numIn hN, isSpan3 hN, if_pos h0, xb_n, Option.bind_some, needUnits1, e4, if_pos h1, len1, len3, begin0 (show n ≤ 11 by omega) h0, end0 (show n ≤ 11 by omega) h0, z1, z2, e1, t00, t10, if_true, if_false, f_X1_refuse, f_X3_stretch, f_X3_stretch_14, f_X3_stretch_84, noUnit3, thrown3, if_pos h10, if_neg a0, isIn3, if_pos h2, e3, f_X3_no]
            exact ⟨_, _, rfl, rfl, rfl, fun _ => rfl, hS, rfl, rfl⟩
        · have hS2 := hS.putE hxy h2.1 h2.2
          have hx : (vp_updL se p0.toNatClampNeg (men p0.toNatClampNeg + kLen p1 p2)) p0.toNatClampNeg = men p0.toNatClampNeg + kLen p1 p2 := by rw [upd_at, if_pos rfl]
          have hk := kLess_congr (f := vp_updL se p0.toNatClampNeg (men p0.toNatClampNeg + kLen p1 p2)) (g := vp_updL men p0.toNatClampNeg (men p0.toNatClampNeg + kLen p1 p2)) (x := men p0.toNatClampNeg + kLen p1 p2) n 0 (fun k _ h => (hS2 k (by omega)).2.1)
          simp only [f_L_stretch, fx_X1_stretch, f_X1_stretch, numIn hN, isSpan3 hN, if_pos h0, xb_n, Option.bind_some, needUnits1, e4, if_pos h1, len1, len3, begin0 (show n ≤ 11 by omega) h0, end0 (show n ≤ 11 by omega) h0, z1, z2, e1, t00, t10, if_true, if_false, hx, eb_eq (show n ≤ 11 by omega), hk, f_X1_done, f_X3_stretch, f_X3_stretch_14, noUnit3, thrown3, if_pos h10, if_neg a0, isIn3, if_pos h2, e3, ls_eq hn (show 10 ≤ 11 by omega), f_X3_done]
          exact ⟨_, _, rfl, rfl, rfl, fun _ => rfl, hS2, rfl, rfl⟩
      · have a0 : men p0.toNatClampNeg + kLen p1 p2 ≤ mbe p0.toNatClampNeg := Int64.not_lt.mp hxy
        simp only [f_L_stretch, fx_X1_stretch, f_X1_stretch, f_X1_changeSpan, numIn hN, isSpan3 hN, if_pos h0, xb_n, Option.bind_some, needUnits1, e4, if_pos h1, len1, len3, begin0 (show n ≤ 11 by omega) h0, end0 (show n ≤ 11 by omega) h0, z1, z2, t00, t10, if_true, if_false, f_X1_refuse, f_X3_stretch, f_X3_stretch_14, f_X3_stretch_84, noUnit3, thrown3, if_pos h10, if_pos a0, f_X3_no]
        exact ⟨_, _, rfl, rfl, rfl, fun _ => rfl, hS, rfl, rfl⟩
    · simp only [f_L_stretch, fx_X1_stretch, numIn hN, isSpan3 hN, if_pos h0, xb_n, xb_s, Option.bind_some, needUnits1, e4, if_neg h1, u21, if_false, f_X3_stretch, f_X3_stretch_14, noUnit3, thrown3, t10, t00, if_true]
      exact ⟨_, _, rfl, rfl, rfl, fun z => absurd (show (2 : Int32) = 0 from z) (by decide), hS, rfl, rfl⟩
  · have q : ∀ y, f_X3_isThrown 1 y = some (1, 1) := fun y => by rw [thrown3]; rfl
    simp only [f_L_stretch, fx_X1_stretch, numIn hN, isSpan3 hN, if_neg h0, xb_s, u12, if_true, f_X3_stretch, f_X3_stretch_14, noUnit3, q, Option.bind_some, t10, t00, if_false]
    exact ⟨_, _, rfl, rfl, rfl, fun z => absurd (show (1 : Int32) = 0 from z) (by decide), hS, rfl, rfl⟩

/-! what is asked of cells -/
abbrev kObs (A : Option (Int32 × Int64)) (B : Option (Int32 × Int32)) : Prop := ∃ r r', A = some r ∧ B = some r' ∧ r'.2 = r.1 ∧ (r.1 = 0 → r.2 = r'.1.toInt64)
theorem no1 {P : Prop} (z : (1 : Int32) = 0) : P := absurd z (by decide)
theorem no2 {P : Prop} (z : (2 : Int32) = 0) : P := absurd z (by decide)
theorem o0 : (0 : Int64) = (0 : Int32).toInt64 := by decide
theorem o1 : (1 : Int64) = (1 : Int32).toInt64 := by decide
theorem ob_second {ce mce : Nat → Int64} {on : Int64} {p0 : Int32} (hc : kCe ce mce) : kObs (f_L_second ce on p0) (f_X3_second mce p0) := by
  by_cases h0 : ix p0 4
  · simp only [kObs, f_L_second, fx_X1_second, f_X1_second, f_X3_second, f_X3_second_13, (needCell h0).1, (needCell h0).2, xb_n, is3, thrown3', if_pos h0, hc.eq h0, sec1 (hc.let h0).wide, sec3 (hc.let h0).wide, Option.bind_some, if_true, t10, t00, if_false]
    exact ⟨_, _, rfl, rfl, rfl, fun _ => rfl⟩
  · simp only [kObs, f_L_second, fx_X1_second, f_X3_second, f_X3_second_13, (needCellN h0).1, (needCellN h0).2, xb_s, is3, thrown3', if_neg h0, Option.bind_some, if_true, t10, t00, u12, if_false]
    exact ⟨_, _, rfl, rfl, rfl, fun z => no1 z⟩
theorem ob_nano {ce mce : Nat → Int64} {on : Int64} {p0 : Int32} (hc : kCe ce mce) : kObs (f_L_nano ce on p0) (f_X3_nano mce p0) := by
  by_cases h0 : ix p0 4
  · simp only [kObs, f_L_nano, fx_X1_nano, f_X1_nano, f_X3_nano, f_X3_nano_13, (needCell h0).1, (needCell h0).2, xb_n, is3, thrown3', if_pos h0, hc.eq h0, nan1 (hc.let h0).wide, nan3 (hc.let h0).wide, Option.bind_some, if_true, t10, t00, if_false]
    exact ⟨_, _, rfl, rfl, rfl, fun _ => rfl⟩
  · simp only [kObs, f_L_nano, fx_X1_nano, f_X3_nano, f_X3_nano_13, (needCellN h0).1, (needCellN h0).2, xb_s, is3, thrown3', if_neg h0, Option.bind_some, if_true, t10, t00, u12, if_false]
    exact ⟨_, _, rfl, rfl, rfl, fun z => no1 z⟩
theorem areNone3 {p0 p1 : Int32} : f_X3_areNone p0 p1 = some (if ix p0 4 ∧ ix p1 4 then (0, 0) else (1, 1)) := by
  by_cases h0 : ix p0 4
  · by_cases h1 : ix p1 4
    · rw [if_pos ⟨h0, h1⟩]
      simp only [f_X3_areNone, f_X3_areNone_20, is3, if_pos h0, if_pos h1, Option.bind_some, t10, if_false, thrown3', if_true]
    · rw [if_neg (fun z => h1 z.2)]
      simp only [f_X3_areNone, f_X3_areNone_15, f_X3_areNone_20, is3, if_pos h0, if_neg h1, Option.bind_some, t10, t00, if_false, thrown3', if_true]
  · rw [if_neg (fun z => h0 z.1)]
    simp only [f_X3_areNone, f_X3_areNone_15, f_X3_areNone_20, is3, if_neg h0, Option.bind_some, t10, t00, if_false, thrown3', if_true]
theorem side_diff {x y : Int64} (hx : kLet x) (hy : kLet y) : ∃ z, f_X1_sideOf x y = some z ∧ f_X3_sign (x - y) = some z := by
  have a1 := hx.1; have a2 := hx.2; have b1 := hy.1; have b2 := hy.2
  have e : (x - y).toInt = x.toInt - y.toInt := s64 (by omega) (by omega)
  have e0 : (0 : Int64).toInt = 0 := by decide
  unfold f_X1_sideOf f_X3_sign
  simp only [le64, eq64, e, e0]
  by_cases h1 : x.toInt = y.toInt
  · rw [if_pos h1, if_pos (by omega), if_pos (by omega)]; exact ⟨_, rfl, rfl⟩
  · by_cases h2 : y.toInt ≤ x.toInt
    · rw [if_neg h1, if_pos h2, if_pos (by omega), if_neg (by omega)]; exact ⟨_, rfl, rfl⟩
    · rw [if_neg h1, if_neg h2, if_neg (by omega)]; exact ⟨_, rfl, rfl⟩
theorem two_bad {p0 p1 : Int32} (h : ¬ (ix p0 4 ∧ ix p1 4)) : (¬ ix p0 4) ∨ (ix p0 4 ∧ ¬ ix p1 4) := by
  by_cases h0 : ix p0 4
  · exact Or.inr ⟨h0, fun z => h ⟨h0, z⟩⟩
  · exact Or.inl h0
theorem ob_order {ce mce : Nat → Int64} {on : Int64} {p0 p1 : Int32} (hc : kCe ce mce) : kObs (f_L_order ce on p0 p1) (f_X3_order mce p0 p1) := by
  by_cases hh : ix p0 4 ∧ ix p1 4
  · obtain ⟨h0, h1⟩ := hh
    obtain ⟨z, e1, e3⟩ := side_diff (hc.let h0) (hc.let h1)
    simp only [kObs, f_L_order, fx_X1_order, f_X1_order, f_X3_order, areNone3, (needCell h0).1, (needCell h0).2, (needCell h1).1, (needCell h1).2, xb_n, if_pos (And.intro h0 h1), if_pos h0, if_pos h1, hc.eq h0, hc.eq h1, e1, e3, Option.bind_some, if_true, t10, t00, if_false]
    exact ⟨_, _, rfl, rfl, rfl, fun _ => rfl⟩
  · rcases two_bad hh with h0 | ⟨h0, h1⟩
    · simp only [kObs, f_L_order, fx_X1_order, f_X3_order, areNone3, (needCellN h0).1, (needCellN h0).2, xb_s, if_neg hh, Option.bind_some, if_true, t10, u12, if_false]
      exact ⟨_, _, rfl, rfl, rfl, fun z => no1 z⟩
    · simp only [kObs, f_L_order, fx_X1_order, f_X3_order, areNone3, (needCell h0).1, (needCell h0).2, (needCellN h1).1, (needCellN h1).2, xb_s, xb_n, if_neg hh, Option.bind_some, if_true, t10, u12, if_false]
      exact ⟨_, _, rfl, rfl, rfl, fun z => no1 z⟩
theorem ob_isBefore {ce mce : Nat → Int64} {on : Int64} {p0 p1 : Int32} (hc : kCe ce mce) : kObs (f_L_isBefore ce on p0 p1) (f_X3_isBefore mce p0 p1) := by
  by_cases hh : ix p0 4 ∧ ix p1 4
  · obtain ⟨h0, h1⟩ := hh
    by_cases h2 : mce p1.toNatClampNeg ≤ mce p0.toNatClampNeg
    · simp only [kObs, f_L_isBefore, fx_X1_isBefore, f_X1_isBefore, f_X3_isBefore, areNone3, (needCell h0).1, (needCell h0).2, (needCell h1).1, (needCell h1).2, xb_n, if_pos (And.intro h0 h1), if_pos h0, if_pos h1, hc.eq h0, hc.eq h1, if_pos h2, Option.bind_some, if_true, t10, t00, if_false]
      exact ⟨_, _, rfl, rfl, rfl, fun _ => o0⟩
    · simp only [kObs, f_L_isBefore, fx_X1_isBefore, f_X1_isBefore, f_X3_isBefore, areNone3, (needCell h0).1, (needCell h0).2, (needCell h1).1, (needCell h1).2, xb_n, if_pos (And.intro h0 h1), if_pos h0, if_pos h1, hc.eq h0, hc.eq h1, if_neg h2, Option.bind_some, if_true, t10, t00, if_false]
      exact ⟨_, _, rfl, rfl, rfl, fun _ => o1⟩
  · rcases two_bad hh with h0 | ⟨h0, h1⟩
    · simp only [kObs, f_L_isBefore, fx_X1_isBefore, f_X3_isBefore, areNone3, (needCellN h0).1, (needCellN h0).2, xb_s, if_neg hh, Option.bind_some, if_true, t10, u12, if_false]
      exact ⟨_, _, rfl, rfl, rfl, fun z => no1 z⟩
    · simp only [kObs, f_L_isBefore, fx_X1_isBefore, f_X3_isBefore, areNone3, (needCell h0).1, (needCell h0).2, (needCellN h1).1, (needCellN h1).2, xb_s, xb_n, if_neg hh, Option.bind_some, if_true, t10, u12, if_false]
      exact ⟨_, _, rfl, rfl, rfl, fun z => no1 z⟩
theorem ob_isAfter {ce mce : Nat → Int64} {on : Int64} {p0 p1 : Int32} (hc : kCe ce mce) : kObs (f_L_isAfter ce on p0 p1) (f_X3_isAfter mce p0 p1) := by
  by_cases hh : ix p0 4 ∧ ix p1 4
  · obtain ⟨h0, h1⟩ := hh
    by_cases h2 : mce p0.toNatClampNeg ≤ mce p1.toNatClampNeg
    · simp only [kObs, f_L_isAfter, fx_X1_isAfter, f_X1_isAfter, f_X3_isAfter, areNone3, (needCell h0).1, (needCell h0).2, (needCell h1).1, (needCell h1).2, xb_n, if_pos (And.intro h0 h1), if_pos h0, if_pos h1, hc.eq h0, hc.eq h1, if_pos h2, Option.bind_some, if_true, t10, t00, if_false]
      exact ⟨_, _, rfl, rfl, rfl, fun _ => o0⟩
    · simp only [kObs, f_L_isAfter, fx_X1_isAfter, f_X1_isAfter, f_X3_isAfter, areNone3, (needCell h0).1, (needCell h0).2, (needCell h1).1, (needCell h1).2, xb_n, if_pos (And.intro h0 h1), if_pos h0, if_pos h1, hc.eq h0, hc.eq h1, if_neg h2, Option.bind_some, if_true, t10, t00, if_false]
      exact ⟨_, _, rfl, rfl, rfl, fun _ => o1⟩
  · rcases two_bad hh with h0 | ⟨h0, h1⟩
    · simp only [kObs, f_L_isAfter, fx_X1_isAfter, f_X3_isAfter, areNone3, (needCellN h0).1, (needCellN h0).2, xb_s, if_neg hh, Option.bind_some, if_true, t10, u12, if_false]
      exact ⟨_, _, rfl, rfl, rfl, fun z => no1 z⟩
    · simp only [kObs, f_L_isAfter, fx_X1_isAfter, f_X3_isAfter, areNone3, (needCell h0).1, (needCell h0).2, (needCellN h1).1, (needCellN h1).2, xb_s, xb_n, if_neg hh, Option.bind_some, if_true, t10, u12, if_false]
      exact ⟨_, _, rfl, rfl, rfl, fun z => no1 z⟩

theorem needThat {c : Prop} [Decidable c] : f_X1_needThat (if c then 1 else 0) = (if c then some () else none) ∧ fx_X1_needThat (if c then 1 else 0) = (if c then none else some 2) := by
  by_cases h : c
  · rw [if_pos h, if_pos h, if_pos h]; exact needThat1
  · rw [if_neg h, if_neg h, if_neg h]; exact needThat0
/-- an int from 0 to n, tested as the reference tests it -/
theorem arg3 {α : Type} (p b : Int32) (A B : Option α) : (if p < 0 then A else if p ≤ b then B else A) = if 0 ≤ p.toInt ∧ p.toInt ≤ b.toInt then B else A := by
  simp only [lt32, le32, i0]
  by_cases h1 : p.toInt < 0
  · rw [if_pos h1, if_neg (by omega)]
  · by_cases h2 : p.toInt ≤ b.toInt
    · rw [if_neg h1, if_pos h2, if_pos ⟨by omega, h2⟩]
    · rw [if_neg h1, if_neg h2, if_neg (fun z => h2 z.2)]
theorem isT1 (y : Int32) : f_X3_isThrown 1 y = some (1, 1) := by rw [thrown3]; rfl
theorem ob_house {ac rf kn : Int32} {on : Int64} {p0 : Int32} : kObs (f_L_house ac rf kn on p0) (f_X3_house ac rf kn p0) := by
  by_cases h : 0 ≤ p0.toInt ∧ p0.toInt ≤ 2
  · have hM : f_X3_house ac rf kn p0 = f_X3_house_15 ac rf kn p0 0 := (arg3 p0 2 (f_X3_house_10 ac rf kn p0) (f_X3_house_15 ac rf kn p0 0)).trans (if_pos (by rw [c2]; exact h))
    rw [kObs, hM]
    by_cases h0 : p0 = 0
    · simp only [f_L_house, fx_X1_house, f_X1_house, withinq, i0, c2, if_pos h, needThat1.1, needThat1.2, Option.bind_some, xb_n, if_pos h0, f_X3_house_15, thrown3', if_true]
      exact ⟨_, _, rfl, rfl, rfl, fun _ => rfl⟩
    · by_cases h1 : p0 = 1
      · simp only [f_L_house, fx_X1_house, f_X1_house, withinq, i0, c2, if_pos h, needThat1.1, needThat1.2, Option.bind_some, xb_n, if_neg h0, if_pos h1, f_X3_house_15, thrown3', if_true]
        exact ⟨_, _, rfl, rfl, rfl, fun _ => rfl⟩
      · simp only [f_L_house, fx_X1_house, f_X1_house, withinq, i0, c2, if_pos h, needThat1.1, needThat1.2, Option.bind_some, xb_n, if_neg h0, if_neg h1, f_X3_house_15, thrown3', if_true]
        exact ⟨_, _, rfl, rfl, rfl, fun _ => rfl⟩
  · have hM : f_X3_house ac rf kn p0 = f_X3_house_10 ac rf kn p0 := (arg3 p0 2 (f_X3_house_10 ac rf kn p0) (f_X3_house_15 ac rf kn p0 0)).trans (if_neg (by rw [c2]; exact h))
    rw [kObs, hM]
    simp only [f_L_house, fx_X1_house, withinq, i0, c2, if_neg h, needThat0.1, needThat0.2, Option.bind_some, xb_s, u21, if_false, f_X3_house_10, f_X3_house_15, thrown3', t10]
    exact ⟨_, _, rfl, rfl, rfl, fun z => no1 z⟩
theorem c3 : (3 : Int32).toInt = 3 := by decide
theorem ob_calendar {fr un : Int64} {on : Int64} {p0 : Int32} (hf : kLet fr) (hu : kLet un) : kObs (f_L_calendar fr un on p0) (f_X3_calendar fr un p0) := by
  by_cases h : 0 ≤ p0.toInt ∧ p0.toInt ≤ 3
  · have hM : f_X3_calendar fr un p0 = f_X3_calendar_15 fr un p0 0 := (arg3 p0 3 (f_X3_calendar_10 fr un p0) (f_X3_calendar_15 fr un p0 0)).trans (if_pos (by rw [c3]; exact h))
    rw [kObs, hM]
    have h6 : p0.toInt < 6 := by omega
    by_cases h0 : (2 : Int32) ≤ p0
    · simp only [f_L_calendar, fx_X1_calendar, f_X1_calendar, f_X1_calendar_25, withinq, i0, c3, if_pos h, needThat1.1, needThat1.2, Option.bind_some, xb_n, if_pos h0, part1 hu.wide, f_X3_calendar_15, f_X3_calendar_41, thrown3', if_true, half3 hu.wide h.1 h6]
      exact ⟨_, _, rfl, rfl, rfl, fun _ => rfl⟩
    · simp only [f_L_calendar, fx_X1_calendar, f_X1_calendar, f_X1_calendar_25, withinq, i0, c3, if_pos h, needThat1.1, needThat1.2, Option.bind_some, xb_n, if_neg h0, part1 hf.wide, f_X3_calendar_15, f_X3_calendar_41, thrown3', if_true, half3 hf.wide h.1 h6]
      exact ⟨_, _, rfl, rfl, rfl, fun _ => rfl⟩
  · have hM : f_X3_calendar fr un p0 = f_X3_calendar_10 fr un p0 := (arg3 p0 3 (f_X3_calendar_10 fr un p0) (f_X3_calendar_15 fr un p0 0)).trans (if_neg (by rw [c3]; exact h))
    rw [kObs, hM]
    simp only [f_L_calendar, fx_X1_calendar, withinq, i0, c3, if_neg h, needThat0.1, needThat0.2, Option.bind_some, xb_s, u21, if_false, f_X3_calendar_10, f_X3_calendar_15, thrown3', t10]
    exact ⟨_, _, rfl, rfl, rfl, fun z => no1 z⟩
theorem ob_same {ce mce : Nat → Int64} {on : Int64} {p0 p1 p2 : Int32} (hc : kCe ce mce) : kObs (f_L_same ce on p0 p1 p2) (f_X3_same mce p0 p1 p2) := by
  by_cases h0 : ix p0 4
  · by_cases h1 : ix p1 4
    · by_cases h : 0 ≤ p2.toInt ∧ p2.toInt ≤ 2
      · have hM : f_X3_same_20 mce p0 p1 p2 0 = f_X3_same_34 mce p0 p1 p2 0 0 := (arg3 p2 2 (f_X3_same_29 mce p0 p1 p2 0) (f_X3_same_34 mce p0 p1 p2 0 0)).trans (if_pos (by rw [c2]; exact h))
        by_cases h2 : p2 = 2
        · simp only [kObs, f_L_same, fx_X1_same, f_X1_same, (needCell h0).1, (needCell h0).2, (needCell h1).1, (needCell h1).2, withinq, i0, c2, if_pos h, needThat1.1, needThat1.2, xb_n, Option.bind_some, if_pos h2, t10, t00, if_false, if_true, f_X3_same, is3, if_pos h0, if_pos h1, hM, f_X3_same_34, thrown3]
          exact ⟨_, _, rfl, rfl, rfl, fun _ => o1⟩
        · by_cases h3 : mce p0.toNatClampNeg = mce p1.toNatClampNeg
          · simp only [kObs, f_L_same, fx_X1_same, f_X1_same, (needCell h0).1, (needCell h0).2, (needCell h1).1, (needCell h1).2, withinq, i0, c2, if_pos h, needThat1.1, needThat1.2, xb_n, Option.bind_some, if_neg h2, hc.eq h0, hc.eq h1, if_pos h3, t10, t00, if_false, if_true, f_X3_same, is3, if_pos h0, if_pos h1, hM, f_X3_same_34, thrown3]
            exact ⟨_, _, rfl, rfl, rfl, fun _ => o1⟩
          · simp only [kObs, f_L_same, fx_X1_same, f_X1_same, (needCell h0).1, (needCell h0).2, (needCell h1).1, (needCell h1).2, withinq, i0, c2, if_pos h, needThat1.1, needThat1.2, xb_n, Option.bind_some, if_neg h2, hc.eq h0, hc.eq h1, if_neg h3, t10, t00, if_false, if_true, f_X3_same, is3, if_pos h0, if_pos h1, hM, f_X3_same_34, thrown3]
            exact ⟨_, _, rfl, rfl, rfl, fun _ => o0⟩
      · have hM : f_X3_same_20 mce p0 p1 p2 0 = f_X3_same_29 mce p0 p1 p2 0 := (arg3 p2 2 (f_X3_same_29 mce p0 p1 p2 0) (f_X3_same_34 mce p0 p1 p2 0 0)).trans (if_neg (by rw [c2]; exact h))
        simp only [kObs, f_L_same, fx_X1_same, (needCell h0).1, (needCell h0).2, (needCell h1).1, (needCell h1).2, withinq, i0, c2, if_neg h, needThat0.1, needThat0.2, xb_n, xb_s, Option.bind_some, u21, t10, t00, if_false, if_true, f_X3_same, is3, if_pos h0, if_pos h1, hM, f_X3_same_29, f_X3_same_34, thrown3]
        exact ⟨_, _, rfl, rfl, rfl, fun z => no2 z⟩
    · have q : ∀ y, f_X3_same_34 mce p0 p1 p2 y 1 = some (0, 1) := fun y => by simp only [f_X3_same_34, isT1, Option.bind_some, t10, if_false]
      simp only [kObs, f_L_same, fx_X1_same, (needCell h0).1, (needCell h0).2, (needCellN h1).1, (needCellN h1).2, xb_n, xb_s, Option.bind_some, u12, if_true, t10, t00, if_false, f_X3_same, is3, if_pos h0, if_neg h1, f_X3_same_15, f_X3_same_20, f_X3_same_29, q, ite_self]
      exact ⟨_, _, rfl, rfl, rfl, fun z => no1 z⟩
  · have q : ∀ y, f_X3_same_34 mce p0 p1 p2 y 1 = some (0, 1) := fun y => by simp only [f_X3_same_34, isT1, Option.bind_some, t10, if_false]
    simp only [kObs, f_L_same, fx_X1_same, (needCellN h0).1, (needCellN h0).2, xb_s, Option.bind_some, u12, if_true, t00, f_X3_same, is3, if_neg h0, f_X3_same_15, f_X3_same_20, f_X3_same_29, q, ite_self]
    exact ⟨_, _, rfl, rfl, rfl, fun z => no1 z⟩

theorem diff_wide {x y : Int64} (hx : kLet x) (hy : kLet y) : kWide (x - y) := by
  have a1 := hx.1; have a2 := hx.2; have b1 := hy.1; have b2 := hy.2
  have e : (x - y).toInt = x.toInt - y.toInt := s64 (by omega) (by omega)
  exact ⟨by omega, by omega⟩
theorem c1' : (1 : Int32).toInt = 1 := by decide
theorem ob_apart {ce mce : Nat → Int64} {on : Int64} {p0 p1 p2 : Int32} (hc : kCe ce mce) : kObs (f_L_apart ce on p0 p1 p2) (f_X3_apart mce p0 p1 p2) := by
  by_cases h0 : ix p0 4
  · by_cases h1 : ix p1 4
    · have hw := diff_wide (hc.let h1) (hc.let h0)
      by_cases h : 0 ≤ p2.toInt ∧ p2.toInt ≤ 1
      · have h6 : p2.toInt < 6 := by omega
        have hM : f_X3_apart_20 mce p0 p1 p2 0 = f_X3_apart_34 mce p0 p1 p2 0 0 := (arg3 p2 1 (f_X3_apart_29 mce p0 p1 p2 0) (f_X3_apart_34 mce p0 p1 p2 0 0)).trans (if_pos (by rw [c1']; exact h))
        simp only [kObs, f_L_apart, fx_X1_apart, f_X1_apart, (needCell h0).1, (needCell h0).2, (needCell h1).1, (needCell h1).2, withinq, i0, c1', if_pos h, needThat1.1, needThat1.2, xb_n, Option.bind_some, hc.eq h0, hc.eq h1, part1 hw, half3 hw h.1 h6, t10, t00, if_false, if_true, f_X3_apart, is3, if_pos h0, if_pos h1, hM, f_X3_apart_34, thrown3]
        exact ⟨_, _, rfl, rfl, rfl, fun _ => rfl⟩
      · have hM : f_X3_apart_20 mce p0 p1 p2 0 = f_X3_apart_29 mce p0 p1 p2 0 := (arg3 p2 1 (f_X3_apart_29 mce p0 p1 p2 0) (f_X3_apart_34 mce p0 p1 p2 0 0)).trans (if_neg (by rw [c1']; exact h))
        simp only [kObs, f_L_apart, fx_X1_apart, (needCell h0).1, (needCell h0).2, (needCell h1).1, (needCell h1).2, withinq, i0, c1', if_neg h, needThat0.1, needThat0.2, xb_n, xb_s, Option.bind_some, u21, t10, t00, if_false, if_true, f_X3_apart, is3, if_pos h0, if_pos h1, hM, f_X3_apart_29, f_X3_apart_34, thrown3]
        exact ⟨_, _, rfl, rfl, rfl, fun z => no2 z⟩
    · have q : ∀ y, f_X3_apart_34 mce p0 p1 p2 y 1 = some (0, 1) := fun y => by simp only [f_X3_apart_34, isT1, Option.bind_some, t10, if_false]
      simp only [kObs, f_L_apart, fx_X1_apart, (needCell h0).1, (needCell h0).2, (needCellN h1).1, (needCellN h1).2, xb_n, xb_s, Option.bind_some, u12, if_true, t10, t00, if_false, f_X3_apart, is3, if_pos h0, if_neg h1, f_X3_apart_15, f_X3_apart_20, f_X3_apart_29, q, ite_self]
      exact ⟨_, _, rfl, rfl, rfl, fun z => no1 z⟩
  · have q : ∀ y, f_X3_apart_34 mce p0 p1 p2 y 1 = some (0, 1) := fun y => by simp only [f_X3_apart_34, isT1, Option.bind_some, t10, if_false]
    simp only [kObs, f_L_apart, fx_X1_apart, (needCellN h0).1, (needCellN h0).2, xb_s, Option.bind_some, u12, if_true, t00, f_X3_apart, is3, if_neg h0, f_X3_apart_15, f_X3_apart_20, f_X3_apart_29, q, ite_self]
    exact ⟨_, _, rfl, rfl, rfl, fun z => no1 z⟩

theorem c4 : (4 : Int32).toInt = 4 := by decide
theorem q_2 : (2 : Int32) = nI 2 := rfl
theorem partIn1 {rb re : Nat → Int64} {n : Nat} (hn : n ≤ 11) {p w : Int32} (h : ix p n) (h1 : kWide (rb p.toNatClampNeg)) (h2 : kWide (re p.toNatClampNeg)) : f_X1_partIn rb re (nI n) p w = some (if (2 : Int32) ≤ w then kPart (re p.toNatClampNeg) w else kPart (rb p.toNatClampNeg) w) := by
  by_cases h3 : (2 : Int32) ≤ w
  · simp only [f_X1_partIn, if_pos h3, end0 hn h, Option.bind_some, f_X1_partIn_18, part1 h2]
  · simp only [f_X1_partIn, if_neg h3, begin0 hn h, Option.bind_some, f_X1_partIn_18, part1 h1]
theorem ob_ofWish {w : Nat} {wb we mwb mwe : Nat → Int64} {on : Int64} {p0 p1 : Int32} (hW : kWish w wb we mwb mwe) (hw : w ≤ 8) : kObs (f_L_ofWish wb we (nI w) on p0 p1) (f_X3_ofWish mwb mwe (nI w) p0 p1) := by
  have hN : w ≤ 65536 := by omega
  by_cases h0 : ix p0 w
  · obtain ⟨z1, z2, z3, z4, z5⟩ := hW _ (cl_lt h0)
    have h8 : ix p0 8 := ix_mono h0 hw
    have y4 := z4.wide; have y5 := z5.wide
    have m4 : kWide (mwb p0.toNatClampNeg) := z1 ▸ y4
    have m5 : kWide (mwe p0.toNatClampNeg) := z2 ▸ y5
    by_cases h : 0 ≤ p1.toInt ∧ p1.toInt ≤ 3
    · have h6 : p1.toInt < 6 := by omega
      have hM : f_X3_ofWish_14 mwb mwe p0 p1 0 = f_X3_ofWish_28 mwb mwe p0 p1 0 0 := (arg3 p1 3 (f_X3_ofWish_23 mwb mwe p0 p1 0) (f_X3_ofWish_28 mwb mwe p0 p1 0 0)).trans (if_pos (by rw [c3]; exact h))
      by_cases h3 : (2 : Int32) ≤ p1
      · simp only [kObs, f_L_ofWish, fx_X1_ofWish, f_X1_ofWish, numIn hN, isWish3 hN, if_pos h0, withinq, i0, c3, if_pos h, needThat1.1, needThat1.2, xb_n, Option.bind_some, partIn1 (show w ≤ 11 by omega) h0 y4 y5, if_pos h3, z2, f_X3_ofWish, t10, t00, if_true, if_false, hM, f_X3_ofWish_28, thrown3, if_pos h8, f_X3_ofWish_58, half3 m5 h.1 h6]
        exact ⟨_, _, rfl, rfl, rfl, fun _ => rfl⟩
      · simp only [kObs, f_L_ofWish, fx_X1_ofWish, f_X1_ofWish, numIn hN, isWish3 hN, if_pos h0, withinq, i0, c3, if_pos h, needThat1.1, needThat1.2, xb_n, Option.bind_some, partIn1 (show w ≤ 11 by omega) h0 y4 y5, if_neg h3, z1, f_X3_ofWish, t10, t00, if_true, if_false, hM, f_X3_ofWish_28, thrown3, if_pos h8, f_X3_ofWish_58, half3 m4 h.1 h6]
        exact ⟨_, _, rfl, rfl, rfl, fun _ => rfl⟩
    · have hM : f_X3_ofWish_14 mwb mwe p0 p1 0 = f_X3_ofWish_23 mwb mwe p0 p1 0 := (arg3 p1 3 (f_X3_ofWish_23 mwb mwe p0 p1 0) (f_X3_ofWish_28 mwb mwe p0 p1 0 0)).trans (if_neg (by rw [c3]; exact h))
      simp only [kObs, f_L_ofWish, fx_X1_ofWish, numIn hN, isWish3 hN, if_pos h0, withinq, i0, c3, if_neg h, needThat0.1, needThat0.2, xb_n, xb_s, Option.bind_some, u21, f_X3_ofWish, t10, t00, if_true, if_false, hM, f_X3_ofWish_23, f_X3_ofWish_28, thrown3]
      exact ⟨_, _, rfl, rfl, rfl, fun z => no2 z⟩
  · have q : ∀ y, f_X3_ofWish_28 mwb mwe p0 p1 y 1 = some (0, 1) := fun y => by simp only [f_X3_ofWish_28, isT1, Option.bind_some, t10, if_false]
    simp only [kObs, f_L_ofWish, fx_X1_ofWish, numIn hN, isWish3 hN, if_neg h0, xb_s, u12, if_true, f_X3_ofWish, Option.bind_some, t00, f_X3_ofWish_14, f_X3_ofWish_23, q, ite_self]
    exact ⟨_, _, rfl, rfl, rfl, fun z => no1 z⟩
theorem doMeet {rb re : Nat → Int64} {n : Nat} (hn : n ≤ 11) {p q : Int32} (hp : ix p n) (hq : ix q n) : f_X0_doMeet rb re (nI n) p q = some (if rb p.toNatClampNeg < re q.toNatClampNeg ∧ rb q.toNatClampNeg < re p.toNatClampNeg then 1 else 0) := by
  have e := nI_toInt (show n < 2 ^ 31 by omega)
  have a1 : ¬ p < 0 := by rw [lt32, i0]; have := hp.1; omega
  have a2 : ¬ nI n ≤ p := by rw [le32, e]; have := hp.2; omega
  have a3 : ¬ q < 0 := by rw [lt32, i0]; have := hq.1; omega
  have a4 : q < nI n := by rw [lt32, e]; exact hq.2
  simp only [f_X0_doMeet, if_neg a1, if_neg a2, if_neg a3, if_pos a4, if_pos (ix_mono hp hn), if_pos (ix_mono hq hn)]
  by_cases h1 : re q.toNatClampNeg ≤ rb p.toNatClampNeg
  · rw [if_pos h1, if_neg (fun z => Int64.not_lt.mpr h1 z.1)]
  · by_cases h2 : re p.toNatClampNeg ≤ rb q.toNatClampNeg
    · rw [if_neg h1, if_pos h2, if_neg (fun z => Int64.not_lt.mpr h2 z.2)]
    · rw [if_neg h1, if_neg h2, if_pos ⟨Int64.not_le.mp h1, Int64.not_le.mp h2⟩]
theorem meet3 {a b c d : Int64} : f_X3_meet a b c d = some (if a < d ∧ c < b then 1 else 0) := by
  unfold f_X3_meet
  by_cases h1 : d ≤ a
  · rw [if_pos h1, if_neg (fun z => Int64.not_lt.mpr h1 z.1)]
  · by_cases h2 : b ≤ c
    · rw [if_neg h1, if_pos h2, if_neg (fun z => Int64.not_lt.mpr h2 z.2)]
    · rw [if_neg h1, if_neg h2, if_pos ⟨Int64.not_le.mp h1, Int64.not_le.mp h2⟩]
theorem ob_meets {n : Nat} {sb se mbe men : Nat → Int64} {on : Int64} {p0 p1 : Int32} (hR : kRow n sb se mbe men) (hn : n ≤ 10) : kObs (f_L_meets sb se (nI n) on p0 p1) (f_X3_meets mbe men (nI n) p0 p1) := by
  have hN : n ≤ 65536 := by omega
  by_cases h0 : ix p0 n
  · by_cases h1 : ix p1 n
    · obtain ⟨z1, z2, -⟩ := hR _ (cl_lt h0)
      obtain ⟨y1, y2, -⟩ := hR _ (cl_lt h1)
      by_cases h : mbe p0.toNatClampNeg < men p1.toNatClampNeg ∧ mbe p1.toNatClampNeg < men p0.toNatClampNeg
      · simp only [kObs, f_L_meets, fx_X1_meets, f_X1_meets, numIn hN, isSpan3 hN, if_pos h0, if_pos h1, xb_n, Option.bind_some, doMeet (show n ≤ 11 by omega) h0 h1, z1, z2, y1, y2, if_pos h, t10, t00, if_true, if_false, f_X3_meets, f_X3_meets_22, thrown3', if_pos (ix_mono h0 hn), if_pos (ix_mono h1 hn), meet3]
        exact ⟨_, _, rfl, rfl, rfl, fun _ => o1⟩
      · simp only [kObs, f_L_meets, fx_X1_meets, f_X1_meets, numIn hN, isSpan3 hN, if_pos h0, if_pos h1, xb_n, Option.bind_some, doMeet (show n ≤ 11 by omega) h0 h1, z1, z2, y1, y2, if_neg h, t10, t00, if_true, if_false, f_X3_meets, f_X3_meets_22, thrown3', if_pos (ix_mono h0 hn), if_pos (ix_mono h1 hn), meet3]
        exact ⟨_, _, rfl, rfl, rfl, fun _ => o0⟩
    · simp only [kObs, f_L_meets, fx_X1_meets, numIn hN, isSpan3 hN, if_pos h0, if_neg h1, xb_n, xb_s, u12, if_true, Option.bind_some, f_X3_meets, f_X3_meets_17, f_X3_meets_22, thrown3', t10, t00, if_false]
      exact ⟨_, _, rfl, rfl, rfl, fun z => no1 z⟩
  · simp only [kObs, f_L_meets, fx_X1_meets, numIn hN, isSpan3 hN, if_neg h0, xb_s, u12, if_true, Option.bind_some, f_X3_meets, f_X3_meets_17, f_X3_meets_22, thrown3', t10, t00, if_false]
    exact ⟨_, _, rfl, rfl, rfl, fun z => no1 z⟩

theorem ob_ofSpan {fr un : Int64} {n : Nat} {sb se : Nat → Int64} {so : Nat → Int32} {mbe men : Nat → Int64} {mov : Nat → Int32} {on : Int64} {p0 p1 : Int32} (hS : kSpans fr un n sb se so mbe men mov) (hn : n ≤ 10) (hf : kLet fr) (hu : kLet un) : kObs (f_L_ofSpan sb se so (nI n) on p0 p1) (f_X3_ofSpan mbe men mov (nI n) p0 p1) := by
  have hN : n ≤ 65536 := by omega
  by_cases h0 : ix p0 n
  · obtain ⟨z1, z2, z3, -, -, -⟩ := hS _ (cl_lt h0)
    obtain ⟨l1, l2, -⟩ := hS.let hf hu (cl_lt h0)
    have h10 : ix p0 10 := ix_mono h0 hn
    have m4 := l1.wide; have m5 := l2.wide
    have y4 : kWide (sb p0.toNatClampNeg) := z1 ▸ m4
    have y5 : kWide (se p0.toNatClampNeg) := z2 ▸ m5
    by_cases h : 0 ≤ p1.toInt ∧ p1.toInt ≤ 4
    · have h6 : p1.toInt < 6 := by omega
      have hM : f_X3_ofSpan_14 mbe men mov p0 p1 0 = f_X3_ofSpan_28 mbe men mov p0 p1 0 0 := (arg3 p1 4 (f_X3_ofSpan_23 mbe men mov p0 p1 0) (f_X3_ofSpan_28 mbe men mov p0 p1 0 0)).trans (if_pos (by rw [c4]; exact h))
      by_cases h2 : p1 = 4
      · by_cases h5 : mov p0.toNatClampNeg = 0
        · simp only [kObs, f_L_ofSpan, fx_X1_ofSpan, f_X1_ofSpan, f_X0_isOver, isIn0 hN, numIn hN, isSpan3 hN, if_pos h0, withinq, i0, c4, if_pos h, needThat1.1, needThat1.2, xb_n, Option.bind_some, if_pos h2, if_pos (ix_mono h0 (show n ≤ 11 by omega)), z3, if_pos h5, f_X3_ofSpan, t10, t00, if_true, if_false, hM, f_X3_ofSpan_28, thrown3, if_pos h10]
          exact ⟨_, _, rfl, rfl, rfl, fun _ => rfl⟩
        · simp only [kObs, f_L_ofSpan, fx_X1_ofSpan, f_X1_ofSpan, f_X0_isOver, isIn0 hN, numIn hN, isSpan3 hN, if_pos h0, withinq, i0, c4, if_pos h, needThat1.1, needThat1.2, xb_n, Option.bind_some, if_pos h2, if_pos (ix_mono h0 (show n ≤ 11 by omega)), z3, if_neg h5, f_X3_ofSpan, t10, t00, if_true, if_false, hM, f_X3_ofSpan_28, thrown3, if_pos h10]
          exact ⟨_, _, rfl, rfl, rfl, fun _ => rfl⟩
      · by_cases h3 : (2 : Int32) ≤ p1
        · simp only [kObs, f_L_ofSpan, fx_X1_ofSpan, f_X1_ofSpan, numIn hN, isSpan3 hN, if_pos h0, withinq, i0, c4, if_pos h, needThat1.1, needThat1.2, xb_n, Option.bind_some, if_neg h2, partIn1 (show n ≤ 11 by omega) h0 y4 y5, if_pos h3, z2, f_X3_ofSpan, t10, t00, if_true, if_false, hM, f_X3_ofSpan_28, thrown3, if_pos h10, f_X3_ofSpan_78, half3 m5 h.1 h6]
          exact ⟨_, _, rfl, rfl, rfl, fun _ => rfl⟩
        · simp only [kObs, f_L_ofSpan, fx_X1_ofSpan, f_X1_ofSpan, numIn hN, isSpan3 hN, if_pos h0, withinq, i0, c4, if_pos h, needThat1.1, needThat1.2, xb_n, Option.bind_some, if_neg h2, partIn1 (show n ≤ 11 by omega) h0 y4 y5, if_neg h3, z1, f_X3_ofSpan, t10, t00, if_true, if_false, hM, f_X3_ofSpan_28, thrown3, if_pos h10, f_X3_ofSpan_78, half3 m4 h.1 h6]
          exact ⟨_, _, rfl, rfl, rfl, fun _ => rfl⟩
    · have hM : f_X3_ofSpan_14 mbe men mov p0 p1 0 = f_X3_ofSpan_23 mbe men mov p0 p1 0 := (arg3 p1 4 (f_X3_ofSpan_23 mbe men mov p0 p1 0) (f_X3_ofSpan_28 mbe men mov p0 p1 0 0)).trans (if_neg (by rw [c4]; exact h))
      simp only [kObs, f_L_ofSpan, fx_X1_ofSpan, numIn hN, isSpan3 hN, if_pos h0, withinq, i0, c4, if_neg h, needThat0.1, needThat0.2, xb_n, xb_s, Option.bind_some, u21, f_X3_ofSpan, t10, t00, if_true, if_false, hM, f_X3_ofSpan_23, f_X3_ofSpan_28, thrown3]
      exact ⟨_, _, rfl, rfl, rfl, fun z => no2 z⟩
  · have q : ∀ y, f_X3_ofSpan_28 mbe men mov p0 p1 y 1 = some (0, 1) := fun y => by simp only [f_X3_ofSpan_28, isT1, Option.bind_some, t10, if_false]
    simp only [kObs, f_L_ofSpan, fx_X1_ofSpan, numIn hN, isSpan3 hN, if_neg h0, xb_s, u12, if_true, f_X3_ofSpan, Option.bind_some, t00, f_X3_ofSpan_14, f_X3_ofSpan_23, q, ite_self]
    exact ⟨_, _, rfl, rfl, rfl, fun z => no1 z⟩
/-! shift: whether all are let, and the new ones -/
theorem al_loop {f : Nat → Int64} {n N : Nat} {x : Int64} (hn : n ≤ N) (hN : N ≤ 11) : ∀ (u i : Nat), i ≤ n → n - i < u → ∃ z, f_X3_areLet_3 N u f (nI n) x (nI i) = some z ∧ ((z = 1 ∧ ∀ k, i ≤ k → k < n → kLet (f k + x)) ∨ (z = 0 ∧ ∃ k, i ≤ k ∧ k < n ∧ ¬ kLet (f k + x))) := by
  intro u
  induction u with
  | zero => intro i hi hf; omega
  | succ u ih =>
    intro i hi hf
    by_cases h : n ≤ i
    · refine ⟨1, ?_, Or.inl ⟨rfl, fun k h1 h2 => by omega⟩⟩
      simp only [f_X3_areLet_3, if_pos ((q_le (show n ≤ 65536 by omega) (show i ≤ 65536 by omega)).mpr h)]
    · have h' : ¬ nI n ≤ nI i := t49 (by omega) (by omega) h
      have es : nI i + 1 = nI (i + 1) := q_s i
      have ei : (nI i).toNatClampNeg = i := q_cl (by omega)
      have a1 : ix (nI i) N := q_ix (by omega) (by omega)
      by_cases h1 : kLet (f i + x)
      · obtain ⟨z, e, hz⟩ := ih (i + 1) (by omega) (by omega)
        refine ⟨z, ?_, ?_⟩
        · simp only [f_X3_areLet_3, if_neg h', if_pos a1, ei, isLet3, if_pos h1, Option.bind_some, t10, if_false, es, e]
        · rcases hz with ⟨hz, hk⟩ | ⟨hz, k, k1, k2, k3⟩
          · refine Or.inl ⟨hz, fun k h3 h4 => ?_⟩
            by_cases e : k = i
            · rw [e]; exact h1
            · exact hk k (by omega) h4
          · exact Or.inr ⟨hz, k, by omega, k2, k3⟩
      · refine ⟨0, ?_, Or.inr ⟨rfl, i, Nat.le_refl _, by omega, h1⟩⟩
        simp only [f_X3_areLet_3, if_neg h', if_pos a1, ei, isLet3, if_neg h1, Option.bind_some, t00, if_true]

theorem al_eq {f : Nat → Int64} {n N : Nat} {x : Int64} (hn : n ≤ N) (hN : N ≤ 11) : ∃ z, f_X3_areLet N f (nI n) x = some z ∧ ((z = 1 ∧ ∀ k, k < n → kLet (f k + x)) ∨ (z = 0 ∧ ∃ k, k < n ∧ ¬ kLet (f k + x))) := by
  obtain ⟨z, e, hz⟩ := al_loop (f := f) (x := x) hn hN 24 0 (by omega) (by omega)
  refine ⟨z, e, ?_⟩
  rcases hz with ⟨hz, hk⟩ | ⟨hz, k, -, k2, k3⟩
  · exact Or.inl ⟨hz, fun k h => hk k (Nat.zero_le _) h⟩
  · exact Or.inr ⟨hz, k, k2, k3⟩
theorem la_loop {b e : Nat → Int64} {n : Nat} {x : Int64} (hn : n ≤ 11) : ∀ (u i : Nat), i ≤ n → n - i < u → ∃ z, f_X0_isLetAfter_2 u b e (nI n) x (nI i) = some z ∧ ((z = 1 ∧ ∀ k, i ≤ k → k < n → kLet (b k + x) ∧ kLet (e k + x)) ∨ (z = 0 ∧ ∃ k, i ≤ k ∧ k < n ∧ ¬ (kLet (b k + x) ∧ kLet (e k + x)))) := by
  intro u
  induction u with
  | zero => intro i hi hf; omega
  | succ u ih =>
    intro i hi hf
    by_cases h : n ≤ i
    · refine ⟨1, ?_, Or.inl ⟨rfl, fun k h1 h2 => by omega⟩⟩
      simp only [f_X0_isLetAfter_2, if_pos ((q_le (show n ≤ 65536 by omega) (show i ≤ 65536 by omega)).mpr h)]
    · have h' : ¬ nI n ≤ nI i := t49 (by omega) (by omega) h
      have es : nI i + 1 = nI (i + 1) := q_s i
      have ei : (nI i).toNatClampNeg = i := q_cl (by omega)
      have a1 : ix (nI i) 11 := q_ix (by omega) (by omega)
      by_cases h1 : kLet (b i + x)
      · by_cases h2 : kLet (e i + x)
        · obtain ⟨z, e1, hz⟩ := ih (i + 1) (by omega) (by omega)
          refine ⟨z, ?_, ?_⟩
          · simp only [f_X0_isLetAfter_2, if_neg h', if_pos a1, ei, isLet1, if_pos h1, if_pos h2, Option.bind_some, t10, if_false, es, e1]
          · rcases hz with ⟨hz, hk⟩ | ⟨hz, k, k1, k2, k3⟩
            · refine Or.inl ⟨hz, fun k h3 h4 => ?_⟩
              by_cases e : k = i
              · rw [e]; exact ⟨h1, h2⟩
              · exact hk k (by omega) h4
            · exact Or.inr ⟨hz, k, by omega, k2, k3⟩
        · refine ⟨0, ?_, Or.inr ⟨rfl, i, Nat.le_refl _, by omega, fun z => h2 z.2⟩⟩
          simp only [f_X0_isLetAfter_2, if_neg h', if_pos a1, ei, isLet1, if_pos h1, if_neg h2, Option.bind_some, t10, t00, if_true, if_false]
      · refine ⟨0, ?_, Or.inr ⟨rfl, i, Nat.le_refl _, by omega, fun z => h1 z.1⟩⟩
        simp only [f_X0_isLetAfter_2, if_neg h', if_pos a1, ei, isLet1, if_neg h1, Option.bind_some, t00, if_true]
theorem la_eq {b e : Nat → Int64} {n : Nat} {x : Int64} (hn : n ≤ 11) : ∃ z, f_X0_isLetAfter b e (nI n) x = some z ∧ ((z = 1 ∧ ∀ k, k < n → kLet (b k + x) ∧ kLet (e k + x)) ∨ (z = 0 ∧ ∃ k, k < n ∧ ¬ (kLet (b k + x) ∧ kLet (e k + x)))) := by
  obtain ⟨z, e1, hz⟩ := la_loop (b := b) (e := e) (x := x) hn 24 0 (by omega) (by omega)
  refine ⟨z, e1, ?_⟩
  rcases hz with ⟨hz, hk⟩ | ⟨hz, k, -, k2, k3⟩
  · exact Or.inl ⟨hz, fun k h => hk k (Nat.zero_le _) h⟩
  · exact Or.inr ⟨hz, k, k2, k3⟩
theorem go_loop {n : Nat} {x : Int64} (hn : n ≤ 11) : ∀ (u i : Nat) (b e : Nat → Int64), i ≤ n → n - i < u → ∃ b2 e2, f_X0_goOn_2 u b e (nI n) x (nI i) = some (b2, e2) ∧ ∀ k, (k < i → b2 k = b k ∧ e2 k = e k) ∧ (i ≤ k → k < n → b2 k = b k + x ∧ e2 k = e k + x) := by
  intro u
  induction u with
  | zero => intro i b e hi hf; omega
  | succ u ih =>
    intro i b e hi hf
    by_cases h : n ≤ i
    · refine ⟨b, e, ?_, fun k => ⟨fun _ => ⟨rfl, rfl⟩, fun h1 h2 => by omega⟩⟩
      simp only [f_X0_goOn_2, if_pos ((q_le (show n ≤ 65536 by omega) (show i ≤ 65536 by omega)).mpr h)]
    · have h' : ¬ nI n ≤ nI i := t49 (by omega) (by omega) h
      have es : nI i + 1 = nI (i + 1) := q_s i
      have ei : (nI i).toNatClampNeg = i := q_cl (by omega)
      have a1 : ix (nI i) 11 := q_ix (by omega) (by omega)
      obtain ⟨b2, e2, e1, hk⟩ := ih (i + 1) (vp_updL b i (b i + x)) (vp_updL e i (e i + x)) (by omega) (by omega)
      refine ⟨b2, e2, ?_, fun k => ⟨fun h1 => ?_, fun h1 h2 => ?_⟩⟩
      · simp only [f_X0_goOn_2, if_neg h', if_pos a1, ei, es, e1]
      · obtain ⟨y1, y2⟩ := (hk k).1 (by omega)
        rw [y1, y2, upd_at, upd_at, if_neg (by omega), if_neg (by omega)]; exact ⟨rfl, rfl⟩
      · by_cases e9 : k = i
        · obtain ⟨y1, y2⟩ := (hk k).1 (by omega)
          rw [y1, y2, upd_at, upd_at, if_pos e9, if_pos e9, e9]; exact ⟨rfl, rfl⟩
        · obtain ⟨y1, y2⟩ := (hk k).2 (by omega) h2
          rw [y1, y2, upd_at, upd_at, if_neg e9, if_neg e9]; exact ⟨rfl, rfl⟩
theorem go_eq {n : Nat} {x : Int64} (hn : n ≤ 11) (b e : Nat → Int64) : ∃ b2 e2, f_X0_goOn b e (nI n) x = some (b2, e2) ∧ ∀ k, k < n → b2 k = b k + x ∧ e2 k = e k + x := by
  obtain ⟨b2, e2, e1, hk⟩ := go_loop (x := x) hn 24 0 b e (by omega) (by omega)
  exact ⟨b2, e2, e1, fun k h => (hk k).2 (Nat.zero_le _) h⟩
theorem sh_loop {f : Nat → Int64} {N : Nat} {x : Int64} (hN : N ≤ 16) : ∀ (u i : Nat) (g : Nat → Int64), i ≤ N → N - i < u → ∃ g2, f_X3_shifted_8 N u f g x (nI i) = some g2 ∧ ∀ k, (k < i → g2 k = g k) ∧ (i ≤ k → k < N → g2 k = f k + x) := by
  have eN : (Int32.ofNat N).toNatClampNeg = N := nI_clamp (by omega)
  intro u
  induction u with
  | zero => intro i g hi hf; omega
  | succ u ih =>
    intro i g hi hf
    by_cases h : N ≤ i
    · refine ⟨g, ?_, fun k => ⟨fun _ => rfl, fun h1 h2 => by omega⟩⟩
      have hh : Int32.ofNat N ≤ nI i := (q_le (show N ≤ 65536 by omega) (show i ≤ 65536 by omega)).mpr h
      simp only [f_X3_shifted_8, eN, if_pos hh]
    · have h' : ¬ Int32.ofNat N ≤ nI i := t49 (a := N) (by omega) (by omega) h
      have es : nI i + 1 = nI (i + 1) := q_s i
      have ei : (nI i).toNatClampNeg = i := q_cl (by omega)
      have a1 : ix (nI i) N := q_ix (by omega) (by omega)
      obtain ⟨g2, e1, hk⟩ := ih (i + 1) (vp_updL g i (f i + x)) (by omega) (by omega)
      refine ⟨g2, ?_, fun k => ⟨fun h1 => ?_, fun h1 h2 => ?_⟩⟩
      · simp only [f_X3_shifted_8, eN, if_neg h', if_pos a1, ei, es, e1]
      · rw [(hk k).1 (by omega), upd_at, if_neg (by omega)]
      · by_cases e9 : k = i
        · rw [(hk k).1 (by omega), upd_at, if_pos e9, e9]
        · exact (hk k).2 (by omega) h2
theorem sh_eq {f : Nat → Int64} {N : Nat} {x : Int64} (hN : N ≤ 16) : ∃ g, f_X3_shifted N f x = some g ∧ ∀ k, k < N → g k = f k + x := by
  obtain ⟨g2, e1, hk⟩ := sh_loop (f := f) (x := x) hN 24 0 (fun _ => 0) (by omega) (by omega)
  have a1 : ix (Int32.ofNat N) 17 := q_ix (a := N) (n := 17) (by omega) (by omega)
  refine ⟨g2, ?_, fun k h => (hk k).2 (Nat.zero_le _) h⟩
  unfold f_X3_shifted
  rw [if_pos a1]; exact e1

abbrev kAllLet (ce : Nat → Int64) (fr un : Int64) (n : Nat) (sb se : Nat → Int64) (w : Nat) (wb we : Nat → Int64) (x : Int64) (i : Nat) : Prop := (∀ k, i ≤ k → k < 4 → kLet (ce k + x)) ∧ kLet (fr + x) ∧ kLet (un + x) ∧ (∀ k, k < n → kLet (sb k + x) ∧ kLet (se k + x)) ∧ (∀ k, k < w → kLet (wb k + x) ∧ kLet (we k + x))
theorem aa_loop {ce : Nat → Int64} {fr un : Int64} {n : Nat} {sb se : Nat → Int64} {w : Nat} {wb we : Nat → Int64} {x : Int64} (hn : n ≤ 11) (hw : w ≤ 11) : ∀ (u i : Nat), i ≤ 4 → 4 - i < u → ∃ z, f_X1_isAllLetAfter_2 u ce fr un sb se (nI n) wb we (nI w) x (nI i) = some z ∧ ((z = 1 ∧ kAllLet ce fr un n sb se w wb we x i) ∨ (z = 0 ∧ ¬ kAllLet ce fr un n sb se w wb we x i)) := by
  intro u
  induction u with
  | zero => intro i hi hf; omega
  | succ u ih =>
    intro i hi hf
    by_cases h : 4 ≤ i
    · have h' : (4 : Int32) ≤ nI i := by rw [q_4]; exact (q_le (by omega) (by omega)).mpr h
      by_cases h1 : kLet (fr + x)
      · by_cases h2 : kLet (un + x)
        · obtain ⟨z3, e3, hz3⟩ := la_eq (b := sb) (e := se) (x := x) hn
          obtain ⟨z4, e4, hz4⟩ := la_eq (b := wb) (e := we) (x := x) hw
          rcases hz3 with ⟨a3, b3⟩ | ⟨a3, k3, b3, c3⟩
          · rcases hz4 with ⟨a4, b4⟩ | ⟨a4, k4, b4, c4⟩
            · refine ⟨1, ?_, Or.inl ⟨rfl, fun k h5 h6 => by omega, h1, h2, b3, b4⟩⟩
              rw [a3] at e3; rw [a4] at e4
              simp only [f_X1_isAllLetAfter_2, if_pos h', isLet1, if_pos h1, if_pos h2, Option.bind_some, t10, if_false, e3, e4]
            · refine ⟨0, ?_, Or.inr ⟨rfl, fun z => c4 (z.2.2.2.2 k4 b4)⟩⟩
              rw [a3] at e3; rw [a4] at e4
              simp only [f_X1_isAllLetAfter_2, if_pos h', isLet1, if_pos h1, if_pos h2, Option.bind_some, t10, t00, if_true, if_false, e3, e4]
          · refine ⟨0, ?_, Or.inr ⟨rfl, fun z => c3 (z.2.2.2.1 k3 b3)⟩⟩
            rw [a3] at e3
            simp only [f_X1_isAllLetAfter_2, if_pos h', isLet1, if_pos h1, if_pos h2, Option.bind_some, t10, t00, if_true, if_false, e3]
        · refine ⟨0, ?_, Or.inr ⟨rfl, fun z => h2 z.2.2.1⟩⟩
          simp only [f_X1_isAllLetAfter_2, if_pos h', isLet1, if_pos h1, if_neg h2, Option.bind_some, t10, t00, if_true, if_false]
      · refine ⟨0, ?_, Or.inr ⟨rfl, fun z => h1 z.2.1⟩⟩
        simp only [f_X1_isAllLetAfter_2, if_pos h', isLet1, if_neg h1, Option.bind_some, t00, if_true]
    · have h' : ¬ (4 : Int32) ≤ nI i := by rw [q_4]; exact t49 (by omega) (by omega) h
      have es : nI i + 1 = nI (i + 1) := q_s i
      have ei : (nI i).toNatClampNeg = i := q_cl (by omega)
      have a1 : ix (nI i) 4 := q_ix (by omega) (by omega)
      by_cases h1 : kLet (ce i + x)
      · obtain ⟨z, e, hz⟩ := ih (i + 1) (by omega) (by omega)
        refine ⟨z, ?_, ?_⟩
        · simp only [f_X1_isAllLetAfter_2, if_neg h', if_pos a1, ei, isLet1, if_pos h1, Option.bind_some, t10, if_false, es, e]
        · rcases hz with ⟨hz, hp⟩ | ⟨hz, hp⟩
          · refine Or.inl ⟨hz, fun k h5 h6 => ?_, hp.2⟩
            by_cases e9 : k = i
            · rw [e9]; exact h1
            · exact hp.1 k (by omega) h6
          · exact Or.inr ⟨hz, fun z => hp ⟨fun k h5 h6 => z.1 k (by omega) h6, z.2⟩⟩
      · refine ⟨0, ?_, Or.inr ⟨rfl, fun z => h1 (z.1 i (Nat.le_refl _) (by omega))⟩⟩
        simp only [f_X1_isAllLetAfter_2, if_neg h', if_pos a1, ei, isLet1, if_neg h1, Option.bind_some, t00, if_true]
theorem cs_loop {fr un : Int64} {n w : Nat} {sb se wb we sb2 se2 wb2 we2 : Nat → Int64} {ac rf : Int32} {x : Int64} (e1 : f_X0_goOn sb se (nI n) x = some (sb2, se2)) (e2 : f_X0_goOn wb we (nI w) x = some (wb2, we2)) : ∀ (u i : Nat) (ce : Nat → Int64), i ≤ 4 → 4 - i < u → ∃ ce2, f_X1_shift_29 u ce fr un sb se (nI n) wb we (nI w) ac rf x (nI i) = some (6 + 2 * nI n + 2 * nI w, ce2, fr + x, un + x, sb2, se2, wb2, we2, ac + 1, rf) ∧ ∀ k, (k < i → ce2 k = ce k) ∧ (i ≤ k → k < 4 → ce2 k = ce k + x) := by
  intro u
  induction u with
  | zero => intro i ce hi hf; omega
  | succ u ih =>
    intro i ce hi hf
    by_cases h : 4 ≤ i
    · have h' : (4 : Int32) ≤ nI i := by rw [q_4]; exact (q_le (by omega) (by omega)).mpr h
      refine ⟨ce, ?_, fun k => ⟨fun _ => rfl, fun h1 h2 => by omega⟩⟩
      simp only [f_X1_shift_29, if_pos h', e1, e2, f_X0_count, f_X1_done, Option.bind_some]
    · have h' : ¬ (4 : Int32) ≤ nI i := by rw [q_4]; exact t49 (by omega) (by omega) h
      have es : nI i + 1 = nI (i + 1) := q_s i
      have ei : (nI i).toNatClampNeg = i := q_cl (by omega)
      have a1 : ix (nI i) 4 := q_ix (by omega) (by omega)
      obtain ⟨g2, e9, hk⟩ := ih (i + 1) (vp_updL ce i (ce i + x)) (by omega) (by omega)
      refine ⟨g2, ?_, fun k => ⟨fun h1 => ?_, fun h1 h2 => ?_⟩⟩
      · simp only [f_X1_shift_29, if_neg h', if_pos a1, ei, es, e9]
      · rw [(hk k).1 (by omega), upd_at, if_neg (by omega)]
      · by_cases e9 : k = i
        · rw [(hk k).1 (by omega), upd_at, if_pos e9, e9]
        · rw [(hk k).2 (by omega) h2, upd_at, if_neg e9]

theorem lt_add {x a b : Int64} (ha : kLet a) (hb : kLet b) (hx : kBy x) (h : a < b) : a + x < b + x := by
  rw [lt64, addBy ha hx, addBy hb hx]
  have := lt64.mp h
  omega
theorem le_add {x a b : Int64} (ha : kLet a) (hb : kLet b) (hx : kBy x) (h : a ≤ b) : a + x ≤ b + x := by
  rw [le64, addBy ha hx, addBy hb hx]
  have := le64.mp h
  omega
theorem op_shift {ce mce : Nat → Int64} {fr un : Int64} {n w : Nat} {sb se : Nat → Int64} {so : Nat → Int32} {mbe men : Nat → Int64} {mov : Nat → Int32} {wb we mwb mwe : Nat → Int64} {ac rf : Int32} {on : Int64} {p0 p1 : Int32} (hc : kCe ce mce) (hf : kLet fr) (hu : kLet un) (hfu : fr < un) (hS : kSpans fr un n sb se so mbe men mov) (hn : n ≤ 10) (hW : kWish w wb we mwb mwe) (hw : w ≤ 8) : ∃ r r', f_L_shift ce fr un sb se (nI n) wb we (nI w) ac rf on p0 p1 = some r ∧ f_X3_shift mce fr un mbe men (nI n) mwb mwe (nI w) ac rf p0 p1 = some r' ∧ r'.2.2.2.2.2.2.2.2.2.2 = r.1 ∧ (r.1 = 0 → r.2.2.2.2.2.2.2.2.2.2 = r'.1.toInt64) ∧ kCe r.2.1 r'.2.1 ∧ r.2.2.1 = r'.2.2.1 ∧ r.2.2.2.1 = r'.2.2.2.1 ∧ kLet r.2.2.1 ∧ kLet r.2.2.2.1 ∧ r.2.2.1 < r.2.2.2.1 ∧ kSpans r.2.2.1 r.2.2.2.1 n r.2.2.2.2.1 r.2.2.2.2.2.1 so r'.2.2.2.2.1 r'.2.2.2.2.2.1 mov ∧ kWish w r.2.2.2.2.2.2.1 r.2.2.2.2.2.2.2.1 r'.2.2.2.2.2.2.1 r'.2.2.2.2.2.2.2.1 ∧ r.2.2.2.2.2.2.2.2.1 = r'.2.2.2.2.2.2.2.2.1 ∧ r.2.2.2.2.2.2.2.2.2.1 = r'.2.2.2.2.2.2.2.2.2.1 := by
  have e4 := c1e9.2.2.2
  have q128 : ∀ m, f_X3_shift_128 mce fr un mbe men mwb mwe ac rf m = some (-9, mce, fr, un, mbe, men, mwb, mwe, ac, rf + 1, m) := fun m => rfl
  by_cases h1 : kUnitOk (-2000000000) p0 p1
  · have hB := kLen_by (u := p0) h1.2.2.1 h1.2.2.2
    generalize hx : kLen p0 p1 = x at hB
    obtain ⟨z, e, hz⟩ := aa_loop (ce := ce) (fr := fr) (un := un) (sb := sb) (se := se) (wb := wb) (we := we) (x := x) (show n ≤ 11 by omega) (show w ≤ 11 by omega) 24 0 (by omega) (by omega)
    have e' : f_X1_isAllLetAfter ce fr un sb se (nI n) wb we (nI w) x = some z := e
    rcases hz with ⟨hz, hp⟩ | ⟨hz, hp⟩
    · obtain ⟨b1, b2, b3, b4, b5⟩ := hp
      obtain ⟨sb2, se2, g1, g2⟩ := go_eq (x := x) (show n ≤ 11 by omega) sb se
      obtain ⟨wb2, we2, g3, g4⟩ := go_eq (x := x) (show w ≤ 11 by omega) wb we
      obtain ⟨ce2, g5, g6⟩ := cs_loop (fr := fr) (un := un) (ac := ac) (rf := rf) g1 g3 24 0 ce (by omega) (by omega)
      have g5' : f_X1_shift_29 24 ce fr un sb se (nI n) wb we (nI w) ac rf x 0 = some (6 + 2 * nI n + 2 * nI w, ce2, fr + x, un + x, sb2, se2, wb2, we2, ac + 1, rf) := g5
      obtain ⟨m1, k1, l1⟩ := sh_eq (f := mce) (N := 4) (x := x) (by omega)
      obtain ⟨m2, k2, l2⟩ := sh_eq (f := mbe) (N := 10) (x := x) (by omega)
      obtain ⟨m3, k3, l3⟩ := sh_eq (f := men) (N := 10) (x := x) (by omega)
      obtain ⟨m4, k4, l4⟩ := sh_eq (f := mwb) (N := 8) (x := x) (by omega)
      obtain ⟨m5, k5, l5⟩ := sh_eq (f := mwe) (N := 8) (x := x) (by omega)
      have al : ∀ {f : Nat → Int64} {m N : Nat}, m ≤ N → N ≤ 11 → (∀ k, k < m → kLet (f k + x)) → f_X3_areLet N f (nI m) x = some 1 := fun {f m N} h2 h3 h4 => by
        obtain ⟨y, ey, hy⟩ := al_eq (f := f) (x := x) h2 h3
        rcases hy with ⟨hy, -⟩ | ⟨-, k, hk, hk2⟩
        · rw [hy] at ey; exact ey
        · exact absurd (h4 k hk) hk2
      have t1 : f_X3_areLet 4 mce 4 x = some 1 := al (f := mce) (m := 4) (N := 4) (by omega) (by omega) (fun k hk => by rw [← (hc k hk).1]; exact b1 k (Nat.zero_le _) hk)
      have t2 := al (f := mbe) (m := n) (N := 10) hn (by omega) (fun k hk => by rw [← (hS k hk).1]; exact (b4 k hk).1)
      have t3 := al (f := men) (m := n) (N := 10) hn (by omega) (fun k hk => by rw [← (hS k hk).2.1]; exact (b4 k hk).2)
      have t4 := al (f := mwb) (m := w) (N := 8) hw (by omega) (fun k hk => by rw [← (hW k hk).1]; exact (b5 k hk).1)
      have t5 := al (f := mwe) (m := w) (N := 8) hw (by omega) (fun k hk => by rw [← (hW k hk).2.1]; exact (b5 k hk).2)
      rw [hz] at e'
      simp only [f_L_shift, fx_X1_shift, f_X1_shift, needUnits1, e4, if_pos h1, xb_n, Option.bind_some, len1, hx, e', t10, if_false, g5', f_X3_shift, noUnit3, thrown3', t00, if_true, len3, t1, isLet3, if_pos b2, if_pos b3, t2, t3, f_X3_shift_91, t4, t5, k1, k2, k3, k4, k5, f_X3_done]
      refine ⟨_, _, rfl, rfl, rfl, fun _ => rfl, fun k hk => ?_, rfl, rfl, b2, b3, lt_add hf hu hB hfu, fun k hk => ?_, fun k hk => ?_, rfl, rfl⟩
      · show ce2 k = m1 k ∧ kLet (ce2 k)
        rw [(g6 k).2 (Nat.zero_le _) hk, l1 k hk, (hc k hk).1]
        exact ⟨rfl, by rw [← (hc k hk).1]; exact b1 k (Nat.zero_le _) hk⟩
      · obtain ⟨a1, a2, a3, a4, a5, a6⟩ := hS k hk
        obtain ⟨i1, i2, -⟩ := hS.let hf hu hk
        obtain ⟨y1, y2⟩ := g2 k hk
        show sb2 k = m2 k ∧ se2 k = m3 k ∧ so k = mov k ∧ sb2 k < se2 k ∧ fr + x ≤ sb2 k ∧ se2 k ≤ un + x
        rw [y1, y2, l2 k (by omega), l3 k (by omega), ← a1, ← a2]
        rw [← a1] at i1
        rw [← a2] at i2
        exact ⟨rfl, rfl, a3, lt_add i1 i2 hB a4, le_add hf i1 hB a5, le_add i2 hu hB a6⟩
      · obtain ⟨a1, a2, a3, a4, a5⟩ := hW k hk
        obtain ⟨y1, y2⟩ := g4 k hk
        show wb2 k = m4 k ∧ we2 k = m5 k ∧ wb2 k < we2 k ∧ kLet (wb2 k) ∧ kLet (we2 k)
        rw [y1, y2, l4 k (by omega), l5 k (by omega), ← a1, ← a2]
        exact ⟨rfl, rfl, lt_add a4 a5 hB a3, (b5 k hk).1, (b5 k hk).2⟩
    · have q90 : ∀ m, f_X3_shift_90 mce fr un mbe men (nI n) mwb mwe (nI w) ac rf m x = some (-9, mce, fr, un, mbe, men, mwb, mwe, ac, rf + 1, m) := fun m => by
        simp only [f_X3_shift_90, f_X3_shift_91, t00, if_true, q128]
      have hM : f_X3_shift mce fr un mbe men (nI n) mwb mwe (nI w) ac rf p0 p1 = some (-9, mce, fr, un, mbe, men, mwb, mwe, ac, rf + 1, 0) := by
        obtain ⟨z1, c1, d1⟩ := al_eq (f := mce) (n := 4) (N := 4) (x := x) (by omega) (by omega)
        obtain ⟨z2, c2, d2⟩ := al_eq (f := mbe) (x := x) hn (show 10 ≤ 11 by omega)
        obtain ⟨z3, c3, d3⟩ := al_eq (f := men) (x := x) hn (show 10 ≤ 11 by omega)
        obtain ⟨z4, c4, d4⟩ := al_eq (f := mwb) (x := x) hw (show 8 ≤ 11 by omega)
        obtain ⟨z5, c5, d5⟩ := al_eq (f := mwe) (x := x) hw (show 8 ≤ 11 by omega)
        have c1' : f_X3_areLet 4 mce 4 x = some z1 := c1
        rcases d1 with ⟨a1, d1⟩ | ⟨a1, -⟩
        · by_cases hh1 : kLet (fr + x)
          · by_cases hh2 : kLet (un + x)
            · rcases d2 with ⟨a2, d2⟩ | ⟨a2, -⟩
              · rcases d3 with ⟨a3, d3⟩ | ⟨a3, -⟩
                · rcases d4 with ⟨a4, d4⟩ | ⟨a4, -⟩
                  · rcases d5 with ⟨a5, d5⟩ | ⟨a5, -⟩
                    · exact absurd ⟨fun k _ hk => by rw [(hc k hk).1]; exact d1 k hk, hh1, hh2, fun k hk => ⟨by rw [(hS k hk).1]; exact d2 k hk, by rw [(hS k hk).2.1]; exact d3 k hk⟩, fun k hk => ⟨by rw [(hW k hk).1]; exact d4 k hk, by rw [(hW k hk).2.1]; exact d5 k hk⟩⟩ hp
                    · rw [a1] at c1'; rw [a2] at c2; rw [a3] at c3; rw [a4] at c4; rw [a5] at c5
                      simp only [f_X3_shift, noUnit3, if_pos h1, Option.bind_some, thrown3', t00, t10, if_true, if_false, len3, hx, c1', isLet3, if_pos hh1, if_pos hh2, c2, c3, f_X3_shift_91, c4, c5, q128]
                  · rw [a1] at c1'; rw [a2] at c2; rw [a3] at c3; rw [a4] at c4
                    simp only [f_X3_shift, noUnit3, if_pos h1, Option.bind_some, thrown3', t00, t10, if_true, if_false, len3, hx, c1', isLet3, if_pos hh1, if_pos hh2, c2, c3, f_X3_shift_91, c4, q128]
                · rw [a1] at c1'; rw [a2] at c2; rw [a3] at c3
                  simp only [f_X3_shift, noUnit3, if_pos h1, Option.bind_some, thrown3', t00, t10, if_true, if_false, len3, hx, c1', isLet3, if_pos hh1, if_pos hh2, c2, c3, q90]
              · rw [a1] at c1'; rw [a2] at c2
                simp only [f_X3_shift, noUnit3, if_pos h1, Option.bind_some, thrown3', t00, t10, if_true, if_false, len3, hx, c1', isLet3, if_pos hh1, if_pos hh2, c2, q90]
            · rw [a1] at c1'
              simp only [f_X3_shift, noUnit3, if_pos h1, Option.bind_some, thrown3', t00, t10, if_true, if_false, len3, hx, c1', isLet3, if_pos hh1, if_neg hh2, q90]
          · rw [a1] at c1'
            simp only [f_X3_shift, noUnit3, if_pos h1, Option.bind_some, thrown3', t00, t10, if_true, if_false, len3, hx, c1', isLet3, if_neg hh1, q90]
        · rw [a1] at c1'
          simp only [f_X3_shift, noUnit3, if_pos h1, Option.bind_some, thrown3', t00, if_true, len3, hx, c1', q90]
      rw [hM]
      rw [hz] at e'
      simp only [f_L_shift, fx_X1_shift, f_X1_shift, needUnits1, e4, if_pos h1, xb_n, Option.bind_some, len1, hx, e', t00, if_true, f_X1_refuse]
      exact ⟨_, _, rfl, rfl, rfl, fun _ => rfl, hc, rfl, rfl, hf, hu, hfu, hS, hW, rfl, rfl⟩
  · simp only [f_L_shift, fx_X1_shift, needUnits1, e4, if_neg h1, xb_s, u21, if_false, f_X3_shift, noUnit3, Option.bind_some, thrown3', t10]
    exact ⟨_, _, rfl, rfl, rfl, fun z => no1 z, hc, rfl, rfl, hf, hu, hfu, hS, hW, rfl, rfl⟩
end
