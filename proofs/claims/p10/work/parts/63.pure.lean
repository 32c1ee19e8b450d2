/-! texts: the calls return (what they hold isn't looked at) -/
/-- all entries are bytes -/
abbrev kAf (v : Nat → Int32) : Prop := ∀ i, fits .byte (.int (v i)) = true
theorem kAf_0 : kAf (fun _ => 0) := fun _ => (by decide : fits .byte (.int 0) = true)
theorem kAf_32 : kAf (fun _ => 32) := fun _ => (by decide : fits .byte (.int 32) = true)
theorem nar_fits (x : Int32) : fits .byte (.int (vp_nar .byte x)) = true := by
  rw [vp_nar_byte]
  have h1 := Int8.le_toInt x.toInt8
  have h2 := Int8.toInt_lt x.toInt8
  have e : (x.toInt8.toInt32).toInt = x.toInt8.toInt := Int8.toInt_toInt32 _
  have e1 : (-128 : Int32).toInt = -128 := by decide
  have e2 : (127 : Int32).toInt = 127 := by decide
  show ((-128 ≤ x.toInt8.toInt32 && x.toInt8.toInt32 ≤ 127) : Bool) = true
  rw [Bool.and_eq_true_iff, decide_eq_true_iff, decide_eq_true_iff, le32, le32, e, e1, e2]
  omega
theorem kAf.upd {v : Nat → Int32} (h : kAf v) (j : Nat) (x : Int32) : kAf (upd v j (vp_nar .byte x)) := fun i => by
  rw [updI_at]
  by_cases e : i = j
  · rw [if_pos e]; exact nar_fits x
  · rw [if_neg e]; exact h i
theorem kAf.cpy {f g : Nat → Int32} (hf : kAf f) (hg : kAf g) (a b c : Nat) : kAf (va_cpy f g a b c) := fun i => by
  unfold va_cpy
  split
  · exact hf _
  · exact hg _
theorem kAf.fit {v : Nat → Int32} (h : kAf v) (o n : Nat) : kfit v o n := fun _ => h _
theorem m32 {x y : Int32} (h1 : -2147483648 ≤ x.toInt * y.toInt) (h2 : x.toInt * y.toInt < 2147483648) : (x * y).toInt = x.toInt * y.toInt := by
  rw [Int32.toInt_mul]; exact Int.bmod_eq_of_le (by omega) (by omega)
theorem c10' : (10 : Int32).toInt = 10 := by decide
theorem ss_loop {x d : Int32} {y : Nat} (hx : x.toInt = -(y : Int)) (hy : y ≤ 1000000000) : ∀ (u i : Nat) (p : Int32), 1 ≤ i → i ≤ 10 → 10 - i < u → (i < 10 → p.toInt = -((10 ^ i : Nat) : Int)) → ∃ s, 1 ≤ s ∧ s ≤ 10 ∧ y < 10 ^ s ∧ f_J6_stringSize_0f7a4_16 u x d p (nI i) = some (nI s + d) := by
  intro u
  induction u with
  | zero => intro i p h1 hi hf; omega
  | succ u ih =>
    intro i p h1 hi hf hp
    by_cases h : 10 ≤ i
    · have h' : (10 : Int32) ≤ nI i := (q_le (a := 10) (by omega) (by omega)).mpr h
      refine ⟨10, by omega, by omega, by omega, ?_⟩
      simp only [f_J6_stringSize_0f7a4_16, if_pos h']
      rfl
    · have h' : ¬ (10 : Int32) ≤ nI i := t49 (a := 10) (by omega) (by omega) h
      have hp' := hp (by omega)
      by_cases h2 : x ≤ p
      · have hm : i + 1 < 10 → ((10 : Int32) * p).toInt = -((10 ^ (i + 1) : Nat) : Int) := fun h3 => by
          have h4 : 10 ^ i ≤ 10 ^ 8 := Nat.pow_le_pow_right (by omega) (by omega)
          obtain ⟨Q, hQ⟩ : ∃ Q, Q = 10 ^ i := ⟨_, rfl⟩
          have hp2 := hp'
          rw [← hQ] at hp2 h4
          rw [m32 (by rw [c10', hp2]; omega) (by rw [c10', hp2]; omega), c10', hp2, Nat.pow_succ, ← hQ]
          omega
        obtain ⟨s, g1, g2, g3, g4⟩ := ih (i + 1) ((10 : Int32) * p) (by omega) (by omega) (by omega) hm
        refine ⟨s, g1, g2, g3, ?_⟩
        simp only [f_J6_stringSize_0f7a4_16, if_neg h', if_pos h2, q_s, g4]
      · refine ⟨i, h1, by omega, ?_, ?_⟩
        · rw [le32, hx, hp'] at h2
          omega
        · simp only [f_J6_stringSize_0f7a4_16, if_neg h', if_neg h2]
theorem b10 : (-10 : Int32).toInt = -10 := by decide
theorem ss_eq {v : Int32} (h1 : -1000000000 ≤ v.toInt) (h2 : v.toInt ≤ 1000000000) : ∃ (s sg y : Nat), sg ≤ 1 ∧ 1 ≤ s ∧ s ≤ 10 ∧ y < 10 ^ s ∧ y ≤ 1000000000 ∧ f_J6_stringSize_0f7a4 v = some (nI (s + sg)) ∧ ((sg = 0 ∧ 0 ≤ v.toInt ∧ (-v).toInt = -(y : Int)) ∨ (sg = 1 ∧ v.toInt < 0 ∧ v.toInt = -(y : Int))) := by
  have hp : ∀ i : Nat, i = 1 → (i < 10 → (-10 : Int32).toInt = -((10 ^ i : Nat) : Int)) := fun i hi _ => by rw [hi, b10]; rfl
  by_cases h : v < 0
  · have h' := h
    rw [lt32, i0] at h'
    obtain ⟨s, g1, g2, g3, g4⟩ := ss_loop (d := 1) (x := v) (y := (-v.toInt).toNat) (by omega) (by omega) 24 1 (-10) (by omega) (by omega) (by omega) (hp 1 rfl)
    refine ⟨s, 1, (-v.toInt).toNat, by omega, g1, g2, g3, by omega, ?_, Or.inr ⟨rfl, h', by omega⟩⟩
    have g4' : f_J6_stringSize_0f7a4_16 24 v 1 (-10) 1 = some (nI s + 1) := g4
    simp only [f_J6_stringSize_0f7a4, if_pos h, g4', q_s]
  · have h' := h
    rw [lt32, i0] at h'
    have en : (-v).toInt = -v.toInt := by
      rw [Int32.toInt_neg]; exact Int.bmod_eq_of_le (by omega) (by omega)
    obtain ⟨s, g1, g2, g3, g4⟩ := ss_loop (d := 0) (x := -v) (y := v.toInt.toNat) (by omega) (by omega) 24 1 (-10) (by omega) (by omega) (by omega) (hp 1 rfl)
    refine ⟨s, 0, v.toInt.toNat, by omega, g1, g2, g3, by omega, ?_, Or.inl ⟨rfl, by omega, by omega⟩⟩
    have g4' : f_J6_stringSize_0f7a4_16 24 (-v) 0 (-10) 1 = some (nI s + 0) := g4
    simp only [f_J6_stringSize_0f7a4, if_neg h, g4', Int32.add_zero, Nat.add_zero]
theorem nI_m {a : Nat} : nI (a + 1) + (-1) = nI a := by
  rw [← Int32.sub_eq_add_neg]; exact nI_pred a
theorem div100 {x : Int32} {y : Nat} (hx : x.toInt = -(y : Int)) (hy : y ≤ 1000000000) : (x / 100).toInt = -((y / 100 : Nat) : Int) ∧ ((x / 100) * (100 : Int32) - x).toInt = ((y % 100 : Nat) : Int) := by
  have e1 : (100 : Int32).toInt = 100 := by decide
  have hd : (x / 100).toInt = -((y / 100 : Nat) : Int) := by
    rw [Int32.toInt_div, e1, hx, Int.neg_tdiv, Int.tdiv_eq_ediv_of_nonneg (by omega)]
    exact Int.bmod_eq_of_le (by omega) (by omega)
  refine ⟨hd, ?_⟩
  have hm : ((x / 100) * (100 : Int32)).toInt = -((y / 100 : Nat) : Int) * 100 := by
    rw [m32 (by rw [hd, e1]; omega) (by rw [hd, e1]; omega), hd, e1]
  rw [Int32.toInt_sub, hm, hx]
  rw [Int.bmod_eq_of_le (by omega) (by omega)]
  omega
theorem gc_loop {n : Nat} {sg : Nat} {x6 : Int32} (hn : n ≤ 64) (hsg : (sg = 0 ∧ x6 = 0) ∨ (sg = 1 ∧ ¬ x6 = 0)) : ∀ (u s c y : Nat) (x : Int32) (v : Nat → Int32), 1 ≤ s → s < 2 * u → s ≤ 10 → y < 10 ^ s → y ≤ 1000000000 → x.toInt = -(y : Int) → c + s + sg ≤ n → kAf v → ∃ r v', f_J6_getChars_ba4f3_22 n u v x (nI (c + s + sg)) x6 = some (r, v') ∧ kAf v' := by
  intro u
  induction u with
  | zero => intro s c y x v h1 h2; omega
  | succ u ih =>
    intro s c y x v h1 h2 h3 hy hy9 hx hc hv
    have e100 : (-100 : Int32).toInt = -100 := by decide
    have e9 : (-9 : Int32).toInt = -9 := by decide
    obtain ⟨t, rfl⟩ : ∃ t, s = t + 1 := ⟨s - 1, by omega⟩
    have p1 : nI (c + (t + 1) + sg) + (-1) = nI (c + t + sg) := by
      rw [show c + (t + 1) + sg = c + t + sg + 1 by omega]; exact nI_m
    have a1 : ix (nI (c + t + sg)) n := q_ix (by omega) (by omega)
    by_cases hbig : y ≤ 99
    · have g0 : (-100 : Int32) < x := by rw [lt32, e100, hx]; omega
      have en : (-x).toInt = (y : Int) := by
        rw [Int32.toInt_neg, Int.bmod_eq_of_le (by omega) (by omega)]; omega
      have g1 : ix (-x) 100 := ⟨by omega, by omega⟩
      by_cases hs : y ≤ 9
      · have g2 : (-9 : Int32) ≤ x := by rw [le32, e9, hx]; omega
        rcases hsg with ⟨hs0, hs1⟩ | ⟨hs0, hs1⟩
        · simp only [f_J6_getChars_ba4f3_22, if_pos g0, if_pos g1, p1, if_pos a1, if_pos g2, if_pos hs1]
          exact ⟨_, _, rfl, hv.upd _ _⟩
        · have p2 : nI (c + t + sg) + (-1) = nI (c + t) := by rw [hs0]; exact nI_m
          have a2 : ix (nI (c + t)) n := q_ix (by omega) (by omega)
          simp only [f_J6_getChars_ba4f3_22, if_pos g0, if_pos g1, p1, if_pos a1, if_pos g2, if_neg hs1, p2, if_pos a2]
          exact ⟨_, _, rfl, (hv.upd _ _).upd _ _⟩
      · have g2 : ¬ (-9 : Int32) ≤ x := by rw [le32, e9, hx]; omega
        have ht : 1 ≤ t := by
          by_cases h0 : t = 0
          · rw [h0] at hy; omega
          · omega
        obtain ⟨t2, rfl⟩ : ∃ t2, t = t2 + 1 := ⟨t - 1, by omega⟩
        have p2 : nI (c + (t2 + 1) + sg) + (-1) = nI (c + t2 + sg) := by
          rw [show c + (t2 + 1) + sg = c + t2 + sg + 1 by omega]; exact nI_m
        have a2 : ix (nI (c + t2 + sg)) n := q_ix (by omega) (by omega)
        rcases hsg with ⟨hs0, hs1⟩ | ⟨hs0, hs1⟩
        · simp only [f_J6_getChars_ba4f3_22, if_pos g0, if_pos g1, p1, if_pos a1, if_neg g2, p2, if_pos a2, if_pos hs1]
          exact ⟨_, _, rfl, (hv.upd _ _).upd _ _⟩
        · have p3 : nI (c + t2 + sg) + (-1) = nI (c + t2) := by rw [hs0]; exact nI_m
          have a3 : ix (nI (c + t2)) n := q_ix (by omega) (by omega)
          simp only [f_J6_getChars_ba4f3_22, if_pos g0, if_pos g1, p1, if_pos a1, if_neg g2, p2, if_pos a2, if_neg hs1, p3, if_pos a3]
          exact ⟨_, _, rfl, ((hv.upd _ _).upd _ _).upd _ _⟩
    · have g0 : ¬ (-100 : Int32) < x := by rw [lt32, e100, hx]; omega
      obtain ⟨d1, d2⟩ := div100 hx hy9
      have g1 : ix ((x / 100) * (100 : Int32) - x) 100 := ⟨by omega, by omega⟩
      have ht : 2 ≤ t := by
        by_cases h0 : t = 0
        · rw [h0] at hy; omega
        · by_cases h4 : t = 1
          · rw [h4] at hy; omega
          · omega
      obtain ⟨t2, rfl⟩ : ∃ t2, t = t2 + 1 := ⟨t - 1, by omega⟩
      have p2 : nI (c + (t2 + 1) + sg) + (-1) = nI (c + t2 + sg) := by
        rw [show c + (t2 + 1) + sg = c + t2 + sg + 1 by omega]; exact nI_m
      have a2 : ix (nI (c + t2 + sg)) n := q_ix (by omega) (by omega)
      have hy2 : y / 100 < 10 ^ t2 := by
        rw [Nat.pow_succ, Nat.pow_succ] at hy
        omega
      obtain ⟨r, v', g5, g6⟩ := ih t2 c (y / 100) (x / 100) _ (by omega) (by omega) (by omega) hy2 (by omega) d1 (by omega) ((hv.upd (nI (c + (t2 + 1) + sg)).toNatClampNeg (kOnes (((x / 100) * (100 : Int32)) - x).toNatClampNeg)).upd (nI (c + t2 + sg)).toNatClampNeg (kTens (((x / 100) * (100 : Int32)) - x).toNatClampNeg))
      refine ⟨r, v', ?_, g6⟩
      simp only [f_J6_getChars_ba4f3_22, if_neg g0, if_pos g1, p1, if_pos a1, p2, if_pos a2, g5]
/-- a buffer: of 16 bytes, or grown to 34; t of them are written -/
abbrev kBuf (n : Nat) (v : Nat → Int32) : Prop := (n = 16 ∨ n = 34) ∧ kAf v
theorem sh0 : (16 : Int32) >>> ((0 : Int32) &&& 31) = nI 16 ∧ (34 : Int32) >>> ((0 : Int32) &&& 31) = nI 34 := by decide
theorem cap34 : ∀ t, t < 35 → 16 < t → f_J5_newCapacity_0f7a4 16 (nI t) = some (nI 34) := by decide +kernel
theorem ens {n t : Nat} {v : Nat → Int32} {k : Int32} (hb : kBuf n v) (ht : t ≤ 34) : ∃ n' v', f_J5_ensureCapacityInternal_d00df n v k (nI t) = some (n', v', k) ∧ kBuf n' v' ∧ t ≤ n' := by
  obtain ⟨hn, hv⟩ := hb
  have sub : ∀ m : Nat, m ≤ 34 → ((nI t - nI m) ≤ 0 ↔ t ≤ m) := fun m hm => by
    rw [le32, i0, Int32.toInt_sub, nI_toInt (by omega), nI_toInt (by omega), Int.bmod_eq_of_le (by omega) (by omega)]
    omega
  have e16 : (Int32.ofNat 16) >>> ((0 : Int32) &&& 31) = nI 16 := by decide
  have e34 : (Int32.ofNat 34) >>> ((0 : Int32) &&& 31) = nI 34 := by decide
  rcases hn with rfl | rfl
  · by_cases h : t ≤ 16
    · have h' := (sub 16 (by omega)).mpr h
      refine ⟨16, v, ?_, ⟨Or.inl rfl, hv⟩, h⟩
      simp only [f_J5_ensureCapacityInternal_d00df, e16, if_pos h']
    · have h' : ¬ (nI t - nI 16) ≤ 0 := fun z => h ((sub 16 (by omega)).mp z)
      have eS : nI 34 <<< ((0 : Int32) &&& 31) = nI 34 := by decide
      have c1 : ¬ nI 34 = Int32.ofNat 16 := by decide
      have c2 : ix (nI 34) 65 := q_ix (by omega) (by omega)
      have c3 : (if nI 34 < Int32.ofNat 16 then nI 34 else Int32.ofNat 16) = nI 16 := by decide
      have c4 : (nI 34).toNatClampNeg = 34 := q_cl (by omega)
      have c5 : kcp v (0 : Int32) (0 : Int32) (nI 16) 16 34 := by
        have z16 : (nI 16).toNatClampNeg = 16 := q_cl (by omega)
        refine ⟨by decide, by decide, by decide, by decide, by decide, ?_⟩
        exact hv.fit _ _
      refine ⟨34, va_cpy v (fun _ => 0) (0 : Int32).toNatClampNeg (0 : Int32).toNatClampNeg (nI 16).toNatClampNeg, ?_, ⟨Or.inr rfl, hv.cpy kAf_0 _ _ _⟩, by omega⟩
      simp only [f_J5_ensureCapacityInternal_d00df, e16, if_neg h', cap34 t (by omega) (by omega), Option.bind_some, eS, f_J7_copyOf_9075b, if_neg c1, if_pos c2, c3, c4, if_pos c5]
  · have h' := (sub 34 (by omega)).mpr ht
    refine ⟨34, v, ?_, ⟨Or.inr rfl, hv⟩, ht⟩
    simp only [f_J5_ensureCapacityInternal_d00df, e34, if_pos h']
theorem kBuf.le {n : Nat} {v : Nat → Int32} (h : kBuf n v) : n ≤ 64 := by
  rcases h.1 with h | h <;> omega
theorem app_int {n t : Nat} {v : Nat → Int32} {p : Int32} (hb : kBuf n v) (ht : t ≤ 12) (h1 : -1000000000 ≤ p.toInt) (h2 : p.toInt ≤ 1000000000) : ∃ n' v' t', f_J4_append_bf812 n v (nI t) p = some (n', v', nI t') ∧ kBuf n' v' ∧ t' ≤ n' ∧ t ≤ t' ∧ t' ≤ t + 11 := by
  obtain ⟨s, sg, y, h3, h4, h5, h6, h7, e1, hc⟩ := ss_eq h1 h2
  obtain ⟨n', v', e2, hb', hl⟩ := ens (k := nI t) (t := t + (s + sg)) hb (by omega)
  have ea : nI t + nI (s + sg) = nI (t + (s + sg)) := nI_add _ _
  have e0 : ¬ (1 : Int32) = 0 := by decide
  obtain ⟨r, v2, e3, hv2⟩ : ∃ r v2, f_J6_getChars_ba4f3 n' v' p (nI (t + (s + sg))) = some (r, v2) ∧ kAf v2 := by
    rcases hc with ⟨c1, c2, c3⟩ | ⟨c1, c2, c3⟩
    · have g : (0 : Int32) ≤ p := by rw [le32, i0]; exact c2
      obtain ⟨r, v2, e3, hv2⟩ := gc_loop (x6 := 0) (sg := sg) hb'.le (Or.inl ⟨c1, rfl⟩) 24 s t y (-p) v' h4 (by omega) h5 h6 h7 c3 (by omega) hb'.2
      refine ⟨r, v2, ?_, hv2⟩
      simp only [f_J6_getChars_ba4f3, if_pos g]
      rw [← Nat.add_assoc]; exact e3
    · have g : ¬ (0 : Int32) ≤ p := by rw [le32, i0]; omega
      obtain ⟨r, v2, e3, hv2⟩ := gc_loop (x6 := 1) (sg := sg) hb'.le (Or.inr ⟨c1, e0⟩) 24 s t y p v' h4 (by omega) h5 h6 h7 c3 (by omega) hb'.2
      refine ⟨r, v2, ?_, hv2⟩
      simp only [f_J6_getChars_ba4f3, if_neg g]
      rw [← Nat.add_assoc]; exact e3
  refine ⟨n', v2, t + (s + sg), ?_, ⟨hb'.1, hv2⟩, hl, by omega, by omega⟩
  simp only [f_J4_append_bf812, f_J5_append_c97b9, e1, Option.bind_some, ea, e2, f_J5_isLatin1_aae02, t10, if_false, e3]
theorem app_chr {n t : Nat} {v : Nat → Int32} (hb : kBuf n v) (ht : t ≤ 12) : ∃ n' v', f_J4_append_cf468 n v (nI t) 32 = some (n', v', nI (t + 1)) ∧ kBuf n' v' ∧ t + 1 ≤ n' := by
  obtain ⟨n', v', e2, hb', hl⟩ := ens (k := nI t) (t := t + 1) hb (by omega)
  have hl' := hb'.le
  have a1 : ix (nI t) n' := q_ix (by omega) (by omega)
  have g : ¬ (255 : Int32) < 32 := by decide
  refine ⟨n', _, ?_, ⟨hb'.1, hb'.2.upd (nI t).toNatClampNeg (32 : Int32).toInt8.toInt32⟩, hl⟩
  simp only [f_J4_append_cf468, f_J5_append_3fe6f, q_s, e2, Option.bind_some, f_J5_isLatin1_aae02, t10, if_false, f_J1_canEncode_fc78d, if_neg g, if_pos a1]
theorem app_str {n t : Nat} {v : Nat → Int32} (hb : kBuf n v) (ht : t ≤ 12) : ∃ n' v', f_J4_append_15ec4 n v (nI t) = some (n', v', nI (t + 1)) ∧ kBuf n' v' ∧ t + 1 ≤ n' := by
  obtain ⟨n', v', e2, hb', hl⟩ := ens (k := nI t) (t := t + 1) hb (by omega)
  have e1 : (1 : Int32) >>> ((0 : Int32) &&& 31) = 1 := by decide
  have eS : nI t <<< ((0 : Int32) &&& 31) = nI t := by
    have h : ∀ t, t < 13 → nI t <<< ((0 : Int32) &&& 31) = nI t := by decide +kernel
    exact h t (by omega)
  have c4 : (nI t).toNatClampNeg = t := q_cl (by omega)
  have c5 : kcp (fun _ => 32) (0 : Int32) (nI t) (1 : Int32) 1 n' := by
    refine ⟨by decide, ?_, by decide, by decide, ?_, ?_⟩
    · rw [nI_lt0 (show t ≤ 65536 by omega)]; exact id
    · rw [c4]; exact hl
    · exact kAf_32.fit _ _
  refine ⟨n', _, ?_, ⟨hb'.1, kAf_32.cpy hb'.2 (0 : Int32).toNatClampNeg (nI t).toNatClampNeg (1 : Int32).toNatClampNeg⟩, hl⟩
  simp only [f_J4_append_15ec4, f_J5_append_cf1ce, f_J0_length_8abf5, f_J0_coder_7d493, Option.bind_some, e1, q_s, e2, f_J5_putStringAt_47b60, f_J5_inflateIfNeededFor_a7421, if_true, f_J0_getBytes_840e7, eS, if_pos c5]
theorem to_str {n t : Nat} {v : Nat → Int32} (hb : kBuf n v) (ht : t ≤ n) : f_J4_toString_0e30d n v (nI t) = some () := by
  have hl := hb.le
  have c4 : (nI t).toNatClampNeg = t := q_cl (by omega)
  have e0 : nI t - 0 = nI t := Int32.sub_zero _
  have en : Int32.ofNat n - 0 = nI n := Int32.sub_zero _
  have h0 : (0 : Int32) ≤ nI t := Int32.not_lt.mp (by rw [nI_lt0 (show t ≤ 65536 by omega)]; exact id)
  have e9 : f_J7_copyOfRange_39247 n v 0 (nI t) = some () := by
    by_cases h : nI t = Int32.ofNat n
    · have hk : kfit v 0 n ∧ n ≤ 64 := ⟨hb.2.fit _ _, hl⟩
      simp only [f_J7_copyOfRange_39247, if_true, if_pos h, if_pos hk]
    · have hlt : nI t < nI n := by
        rw [q_lt (by omega) (by omega)]
        by_cases e : t = n
        · rw [e] at h; exact absurd rfl h
        · omega
      have c2 : ix (nI t) 65 := q_ix (by omega) (by omega)
      have c5 : kcp v (0 : Int32) (0 : Int32) (nI t) n t := by
        refine ⟨by decide, by decide, ?_, ?_, ?_, ?_⟩
        · rw [nI_lt0 (show t ≤ 65536 by omega)]; exact id
        · rw [c4]; exact (show 0 + t ≤ n by omega)
        · rw [c4]; exact (show 0 + t ≤ t by omega)
        · exact hb.2.fit _ _
      simp only [f_J7_copyOfRange_39247, if_true, if_neg h, f_J7_copyOfRange_39247_10, f_J7_copyOfRangeByte_39247, f_J7_checkLength_df160, if_pos h0, Option.bind_some, e0, en, if_pos c2, if_pos hlt, c4, if_pos c5]
  simp only [f_J4_toString_0e30d, f_J0_init_81219, f_J0_init_db425, f_J5_getValue_6d5f1, f_J4_length_8abf5, f_J5_length_8abf5, f_J5_isLatin1_aae02, Option.bind_some, t10, if_false, e9]
theorem sb_new : ∃ n v, f_J4_init_da8c8 = some (n, v, nI 0) ∧ kBuf n v := by
  have a : ix (16 : Int32) 17 := by decide
  refine ⟨(16 : Int32).toNatClampNeg, fun _ => 0, ?_, ⟨Or.inl rfl, kAf_0⟩⟩
  simp only [f_J4_init_da8c8, f_J5_init_d00df, if_pos a, Option.bind_some]
  rfl
theorem kSec_r {x : Int64} (h : kLet x) : -1000000000 ≤ (kSec x).toInt ∧ (kSec x).toInt ≤ 1000000000 := by
  have h1 := h.1; have h2 := h.2
  have e : (kSec x).toInt = x.toInt / 1000000000 := by
    unfold kSec
    rw [Int32.toInt_ofInt]
    show (x.toInt / 1000000000).bmod 4294967296 = _
    exact Int.bmod_eq_of_le (by omega) (by omega)
  omega
theorem kNan_r {x : Int64} : -1000000000 ≤ (kNan x).toInt ∧ (kNan x).toInt ≤ 1000000000 := by
  have e : (kNan x).toInt = x.toInt % 1000000000 := by
    unfold kNan
    rw [Int32.toInt_ofInt]
    show (x.toInt % 1000000000).bmod 4294967296 = _
    exact Int.bmod_eq_of_le (by omega) (by omega)
  omega
theorem ob_text {ce mce : Nat → Int64} {p0 : Int32} (hc : kCe ce mce) : ∃ c, f_L_text ce p0 = some c ∧ f_X3_text mce p0 = some c := by
  by_cases h0 : ix p0 4
  · have hl := hc.let h0
    obtain ⟨n0, v0, e0, hb0⟩ := sb_new
    have r1 := kSec_r hl
    have r2 := kNan_r (x := mce p0.toNatClampNeg)
    obtain ⟨n1, v1, t1, e1, hb1, h1, -, h2⟩ := app_int (t := 0) hb0 (by omega) r1.1 r1.2
    obtain ⟨n2, v2, e2, hb2, h3⟩ := app_chr hb1 (show t1 ≤ 12 by omega)
    obtain ⟨n3, v3, t3, e3, hb3, h4, -, h5⟩ := app_int hb2 (show t1 + 1 ≤ 12 by omega) r2.1 r2.2
    obtain ⟨n4, v4, e4, hb4, h6⟩ := app_str hb1 (show t1 ≤ 12 by omega)
    obtain ⟨n5, v5, t5, e5, hb5, h7, -, h8⟩ := app_int hb4 (show t1 + 1 ≤ 12 by omega) r2.1 r2.2
    refine ⟨0, ?_, ?_⟩
    · simp only [f_L_text, fx_X1_text, f_X1_text, (needCell h0).1, (needCell h0).2, xb_n, Option.bind_some, e0, if_pos h0, hc.eq h0, sec1 hl.wide, nan1 hl.wide, e1, e2, e3, to_str hb3 h4]
    · simp only [f_X3_text, f_X3_text_13, is3, if_pos h0, t10, if_false, thrown3', if_true, Option.bind_some, e0, sec3 hl.wide, nan3 hl.wide, e1, e4, e5, to_str hb5 h7]
  · refine ⟨1, ?_, ?_⟩
    · simp only [f_L_text, fx_X1_text, (needCellN h0).1, (needCellN h0).2, xb_s, u12, if_true]
    · simp only [f_X3_text, f_X3_text_13, is3, if_neg h0, if_true, thrown3', t10, if_false, Option.bind_some]
