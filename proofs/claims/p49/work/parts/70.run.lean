-- 70.inv.lean.txt
section
/-! what holds between the class and the reference, call by call -/
abbrev kIv : kInvT := fun ce fr un sb se so sc wb we wo wc fb fe fo fc rm ac rf kn mce mfr mun mbe men mov msp mwb mwe mwi mac mre mkn mth on => kCe ce mce ∧ fr = mfr ∧ un = mun ∧ kLet fr ∧ kLet un ∧ fr < un ∧ (∃ n, n ≤ 10 ∧ sc = nI n ∧ msp = nI n ∧ kSpans fr un n sb se so mbe men mov) ∧ (∃ w, w ≤ 8 ∧ wc = nI w ∧ mwi = nI w ∧ kWish w wb we mwb mwe) ∧ ac = mac ∧ rf = mre ∧ kn = mkn
theorem kIv_0 : kIv (fun _ => 0) 0 86400000000000 (fun _ => 0) (fun _ => 0) (fun _ => 0) 0 (fun _ => 0) (fun _ => 0) (fun _ => 0) 0 (fun _ => 0) (fun _ => 0) (fun _ => 0) 0 (fun _ => 0) 0 0 0 (fun _ => 0) 0 86400000000000 (fun _ => 0) (fun _ => 0) (fun _ => 0) 0 (fun _ => 0) (fun _ => 0) 0 0 0 0 0 0 := by
  have e0 : (0 : Int64).toInt = 0 := by decide
  have e8 : (86400000000000 : Int64).toInt = 86400000000000 := by decide +kernel
  have l0 : kLet 0 := ⟨by rw [e0]; omega, by rw [e0]; omega⟩
  exact ⟨fun _ _ => ⟨rfl, l0⟩, rfl, rfl, l0, ⟨by rw [e8]; omega, by rw [e8]; omega⟩, by rw [lt64, e0, e8]; omega, ⟨0, Nat.zero_le _, rfl, rfl, fun k hk => absurd hk (Nat.not_lt_zero k)⟩, ⟨0, Nat.zero_le _, rfl, rfl, fun k hk => absurd hk (Nat.not_lt_zero k)⟩, rfl, rfl, rfl⟩
theorem kixL {L j i : Nat} (h5 : 5 * j + 5 ≤ L) (hL : L ≤ 320) (hi : i ≤ 4) : ix (nI (5 * j) + nI i) L := by
  rw [nI_add]; exact q_ix (by omega) (by omega)
end
-- 71.cases.lean.txt
section
/-! the calls, one by one -/
set_option maxHeartbeats 4000000 in
theorem hC_0 {L j : Nat} {xs : Nat → Int32} {ce : Nat → Int64} {fr : Int64} {un : Int64} {sb : Nat → Int64} {se : Nat → Int64} {so : Nat → Int32} {sc : Int32} {wb : Nat → Int64} {we : Nat → Int64} {wo : Nat → Int32} {wc : Int32} {fb : Nat → Int64} {fe : Nat → Int64} {fo : Nat → Int32} {fc : Int32} {rm : Nat → Int32} {ac : Int32} {rf : Int32} {kn : Int32} {mce : Nat → Int64} {mfr : Int64} {mun : Int64} {mbe : Nat → Int64} {men : Nat → Int64} {mov : Nat → Int32} {msp : Int32} {mwb : Nat → Int64} {mwe : Nat → Int64} {mwi : Int32} {mac : Int32} {mre : Int32} {mkn : Int32} {mth : Int32} {on : Int64} (h5 : 5 * j + 5 ≤ L) (hL : L ≤ 320) (hI : kIv ce fr un sb se so sc wb we wo wc fb fe fo fc rm ac rf kn mce mfr mun mbe men mov msp mwb mwe mwi mac mre mkn mth on) : flaw_248 L xs (KInv kIv (nI (5 * j))) ce fr un sb se so sc wb we wo wc fb fe fo fc rm ac rf kn mce mfr mun mbe men mov msp mwb mwe mwi mac mre mkn mth on (nI (5 * j)) = some 1 := by
  obtain ⟨hc, x1, x2, hf, hu, hfu, ⟨n, hn, x3, x4, hS⟩, ⟨w, hw, x5, x6, hW⟩, x7, x8, x9⟩ := hI
  subst x1; subst x2; subst x3; subst x4; subst x5; subst x6; subst x7; subst x8; subst x9
  have a1 : ix (nI (5 * j) + 1) L := kixL (i := 1) h5 hL (by omega)
  have a2 : ix (nI (5 * j) + 2) L := kixL (i := 2) h5 hL (by omega)
  have a3 : ix (nI (5 * j) + 3) L := kixL (i := 3) h5 hL (by omega)
  obtain ⟨r, r', e1, e3, ht, hv, g1, g2, g3⟩ := op_set (ac := ac) (rf := rf) (on := on) (p0 := xs (nI (5 * j) + 1).toNatClampNeg) (p1 := xs (nI (5 * j) + 2).toNatClampNeg) (p2 := xs (nI (5 * j) + 3).toNatClampNeg) hc rfl rfl
  simp only [flaw_248, if_pos a1, if_pos a2, if_pos a3, e1, e3, Option.bind_some]
  exact KInv_yes ⟨g1, rfl, rfl, hf, hu, hfu, ⟨n, hn, rfl, rfl, hS⟩, ⟨w, hw, rfl, rfl, hW⟩, g2, g3, rfl⟩
set_option maxHeartbeats 4000000 in
theorem hC_1 {L j : Nat} {xs : Nat → Int32} {ce : Nat → Int64} {fr : Int64} {un : Int64} {sb : Nat → Int64} {se : Nat → Int64} {so : Nat → Int32} {sc : Int32} {wb : Nat → Int64} {we : Nat → Int64} {wo : Nat → Int32} {wc : Int32} {fb : Nat → Int64} {fe : Nat → Int64} {fo : Nat → Int32} {fc : Int32} {rm : Nat → Int32} {ac : Int32} {rf : Int32} {kn : Int32} {mce : Nat → Int64} {mfr : Int64} {mun : Int64} {mbe : Nat → Int64} {men : Nat → Int64} {mov : Nat → Int32} {msp : Int32} {mwb : Nat → Int64} {mwe : Nat → Int64} {mwi : Int32} {mac : Int32} {mre : Int32} {mkn : Int32} {mth : Int32} {on : Int64} (h5 : 5 * j + 5 ≤ L) (hL : L ≤ 320) (hI : kIv ce fr un sb se so sc wb we wo wc fb fe fo fc rm ac rf kn mce mfr mun mbe men mov msp mwb mwe mwi mac mre mkn mth on) : flaw_300 L xs (KInv kIv (nI (5 * j))) ce fr un sb se so sc wb we wo wc fb fe fo fc rm ac rf kn mce mfr mun mbe men mov msp mwb mwe mwi mac mre mkn mth on (nI (5 * j)) = some 1 := by
  obtain ⟨hc, x1, x2, hf, hu, hfu, ⟨n, hn, x3, x4, hS⟩, ⟨w, hw, x5, x6, hW⟩, x7, x8, x9⟩ := hI
  subst x1; subst x2; subst x3; subst x4; subst x5; subst x6; subst x7; subst x8; subst x9
  have a1 : ix (nI (5 * j) + 1) L := kixL (i := 1) h5 hL (by omega)
  have a2 : ix (nI (5 * j) + 2) L := kixL (i := 2) h5 hL (by omega)
  have a3 : ix (nI (5 * j) + 3) L := kixL (i := 3) h5 hL (by omega)
  have a4 : ix (nI (5 * j) + 4) L := kixL (i := 4) h5 hL (by omega)
  by_cases hb : xs (nI (5 * j) + 4).toNatClampNeg = 0
  · obtain ⟨r, r', e1, e3, ht, hv, g1, g2, g3⟩ := op_go (ac := ac) (rf := rf) (on := on) (p0 := xs (nI (5 * j) + 1).toNatClampNeg) (p1 := xs (nI (5 * j) + 2).toNatClampNeg) (p2 := xs (nI (5 * j) + 3).toNatClampNeg) (p3 := 0) hc rfl rfl
    simp only [flaw_300, flaw_333, flaw_372, if_pos a1, if_pos a2, if_pos a3, if_pos a4, if_pos hb, e1, e3, Option.bind_some]
    exact KInv_yes ⟨g1, rfl, rfl, hf, hu, hfu, ⟨n, hn, rfl, rfl, hS⟩, ⟨w, hw, rfl, rfl, hW⟩, g2, g3, rfl⟩
  · obtain ⟨r, r', e1, e3, ht, hv, g1, g2, g3⟩ := op_go (ac := ac) (rf := rf) (on := on) (p0 := xs (nI (5 * j) + 1).toNatClampNeg) (p1 := xs (nI (5 * j) + 2).toNatClampNeg) (p2 := xs (nI (5 * j) + 3).toNatClampNeg) (p3 := 1) hc rfl rfl
    simp only [flaw_300, flaw_333, flaw_372, if_pos a1, if_pos a2, if_pos a3, if_pos a4, if_neg hb, e1, e3, Option.bind_some]
    exact KInv_yes ⟨g1, rfl, rfl, hf, hu, hfu, ⟨n, hn, rfl, rfl, hS⟩, ⟨w, hw, rfl, rfl, hW⟩, g2, g3, rfl⟩
set_option maxHeartbeats 4000000 in
theorem hC_2 {L j : Nat} {xs : Nat → Int32} {ce : Nat → Int64} {fr : Int64} {un : Int64} {sb : Nat → Int64} {se : Nat → Int64} {so : Nat → Int32} {sc : Int32} {wb : Nat → Int64} {we : Nat → Int64} {wo : Nat → Int32} {wc : Int32} {fb : Nat → Int64} {fe : Nat → Int64} {fo : Nat → Int32} {fc : Int32} {rm : Nat → Int32} {ac : Int32} {rf : Int32} {kn : Int32} {mce : Nat → Int64} {mfr : Int64} {mun : Int64} {mbe : Nat → Int64} {men : Nat → Int64} {mov : Nat → Int32} {msp : Int32} {mwb : Nat → Int64} {mwe : Nat → Int64} {mwi : Int32} {mac : Int32} {mre : Int32} {mkn : Int32} {mth : Int32} {on : Int64} (h5 : 5 * j + 5 ≤ L) (hL : L ≤ 320) (hI : kIv ce fr un sb se so sc wb we wo wc fb fe fo fc rm ac rf kn mce mfr mun mbe men mov msp mwb mwe mwi mac mre mkn mth on) : flaw_380 L xs (KInv kIv (nI (5 * j))) ce fr un sb se so sc wb we wo wc fb fe fo fc rm ac rf kn mce mfr mun mbe men mov msp mwb mwe mwi mac mre mkn mth on (nI (5 * j)) = some 1 := by
  obtain ⟨hc, x1, x2, hf, hu, hfu, ⟨n, hn, x3, x4, hS⟩, ⟨w, hw, x5, x6, hW⟩, x7, x8, x9⟩ := hI
  subst x1; subst x2; subst x3; subst x4; subst x5; subst x6; subst x7; subst x8; subst x9
  have a1 : ix (nI (5 * j) + 1) L := kixL (i := 1) h5 hL (by omega)
  have a2 : ix (nI (5 * j) + 2) L := kixL (i := 2) h5 hL (by omega)
  obtain ⟨r, r', e1, e3, ht, hv, g1, g2⟩ := op_copy (ac := ac) (on := on) (p0 := xs (nI (5 * j) + 1).toNatClampNeg) (p1 := xs (nI (5 * j) + 2).toNatClampNeg) hc rfl
  simp only [flaw_380, if_pos a1, if_pos a2, e1, e3, Option.bind_some]
  exact KInv_yes ⟨g1, rfl, rfl, hf, hu, hfu, ⟨n, hn, rfl, rfl, hS⟩, ⟨w, hw, rfl, rfl, hW⟩, g2, rfl, rfl⟩
set_option maxHeartbeats 4000000 in
theorem hC_3 {L j : Nat} {xs : Nat → Int32} {ce : Nat → Int64} {fr : Int64} {un : Int64} {sb : Nat → Int64} {se : Nat → Int64} {so : Nat → Int32} {sc : Int32} {wb : Nat → Int64} {we : Nat → Int64} {wo : Nat → Int32} {wc : Int32} {fb : Nat → Int64} {fe : Nat → Int64} {fo : Nat → Int32} {fc : Int32} {rm : Nat → Int32} {ac : Int32} {rf : Int32} {kn : Int32} {mce : Nat → Int64} {mfr : Int64} {mun : Int64} {mbe : Nat → Int64} {men : Nat → Int64} {mov : Nat → Int32} {msp : Int32} {mwb : Nat → Int64} {mwe : Nat → Int64} {mwi : Int32} {mac : Int32} {mre : Int32} {mkn : Int32} {mth : Int32} {on : Int64} (h5 : 5 * j + 5 ≤ L) (hL : L ≤ 320) (hI : kIv ce fr un sb se so sc wb we wo wc fb fe fo fc rm ac rf kn mce mfr mun mbe men mov msp mwb mwe mwi mac mre mkn mth on) : flaw_420 L xs (KInv kIv (nI (5 * j))) ce fr un sb se so sc wb we wo wc fb fe fo fc rm ac rf kn mce mfr mun mbe men mov msp mwb mwe mwi mac mre mkn mth on (nI (5 * j)) = some 1 := by
  obtain ⟨hc, x1, x2, hf, hu, hfu, ⟨n, hn, x3, x4, hS⟩, ⟨w, hw, x5, x6, hW⟩, x7, x8, x9⟩ := hI
  subst x1; subst x2; subst x3; subst x4; subst x5; subst x6; subst x7; subst x8; subst x9
  have a1 : ix (nI (5 * j) + 1) L := kixL (i := 1) h5 hL (by omega)
  have a2 : ix (nI (5 * j) + 2) L := kixL (i := 2) h5 hL (by omega)
  obtain ⟨r, r', e1, e3, ht, hv, g1, g2⟩ := op_swap (ac := ac) (on := on) (p0 := xs (nI (5 * j) + 1).toNatClampNeg) (p1 := xs (nI (5 * j) + 2).toNatClampNeg) hc rfl
  simp only [flaw_420, if_pos a1, if_pos a2, e1, e3, Option.bind_some]
  exact KInv_yes ⟨g1, rfl, rfl, hf, hu, hfu, ⟨n, hn, rfl, rfl, hS⟩, ⟨w, hw, rfl, rfl, hW⟩, g2, rfl, rfl⟩
set_option maxHeartbeats 4000000 in
theorem hC_4 {L j : Nat} {xs : Nat → Int32} {ce : Nat → Int64} {fr : Int64} {un : Int64} {sb : Nat → Int64} {se : Nat → Int64} {so : Nat → Int32} {sc : Int32} {wb : Nat → Int64} {we : Nat → Int64} {wo : Nat → Int32} {wc : Int32} {fb : Nat → Int64} {fe : Nat → Int64} {fo : Nat → Int32} {fc : Int32} {rm : Nat → Int32} {ac : Int32} {rf : Int32} {kn : Int32} {mce : Nat → Int64} {mfr : Int64} {mun : Int64} {mbe : Nat → Int64} {men : Nat → Int64} {mov : Nat → Int32} {msp : Int32} {mwb : Nat → Int64} {mwe : Nat → Int64} {mwi : Int32} {mac : Int32} {mre : Int32} {mkn : Int32} {mth : Int32} {on : Int64} (h5 : 5 * j + 5 ≤ L) (hL : L ≤ 320) (hI : kIv ce fr un sb se so sc wb we wo wc fb fe fo fc rm ac rf kn mce mfr mun mbe men mov msp mwb mwe mwi mac mre mkn mth on) : flaw_460 L xs (KInv kIv (nI (5 * j))) ce fr un sb se so sc wb we wo wc fb fe fo fc rm ac rf kn mce mfr mun mbe men mov msp mwb mwe mwi mac mre mkn mth on (nI (5 * j)) = some 1 := by
  obtain ⟨hc, x1, x2, hf, hu, hfu, ⟨n, hn, x3, x4, hS⟩, ⟨w, hw, x5, x6, hW⟩, x7, x8, x9⟩ := hI
  subst x1; subst x2; subst x3; subst x4; subst x5; subst x6; subst x7; subst x8; subst x9
  have a1 : ix (nI (5 * j) + 1) L := kixL (i := 1) h5 hL (by omega)
  have a2 : ix (nI (5 * j) + 2) L := kixL (i := 2) h5 hL (by omega)
  by_cases hb : xs (nI (5 * j) + 1).toNatClampNeg = 0
  · obtain ⟨r, r', e1, e3, ht, hv, g1, g2⟩ := op_pick (ac := ac) (on := on) (p0 := 0) (p1 := xs (nI (5 * j) + 2).toNatClampNeg) hc rfl
    simp only [flaw_460, flaw_475, flaw_502, if_pos a1, if_pos a2, if_pos hb, e1, e3, Option.bind_some]
    exact KInv_yes ⟨g1, rfl, rfl, hf, hu, hfu, ⟨n, hn, rfl, rfl, hS⟩, ⟨w, hw, rfl, rfl, hW⟩, g2, rfl, rfl⟩
  · obtain ⟨r, r', e1, e3, ht, hv, g1, g2⟩ := op_pick (ac := ac) (on := on) (p0 := 1) (p1 := xs (nI (5 * j) + 2).toNatClampNeg) hc rfl
    simp only [flaw_460, flaw_475, flaw_502, if_pos a1, if_pos a2, if_neg hb, e1, e3, Option.bind_some]
    exact KInv_yes ⟨g1, rfl, rfl, hf, hu, hfu, ⟨n, hn, rfl, rfl, hS⟩, ⟨w, hw, rfl, rfl, hW⟩, g2, rfl, rfl⟩
set_option maxHeartbeats 4000000 in
theorem hC_5 {L j : Nat} {xs : Nat → Int32} {ce : Nat → Int64} {fr : Int64} {un : Int64} {sb : Nat → Int64} {se : Nat → Int64} {so : Nat → Int32} {sc : Int32} {wb : Nat → Int64} {we : Nat → Int64} {wo : Nat → Int32} {wc : Int32} {fb : Nat → Int64} {fe : Nat → Int64} {fo : Nat → Int32} {fc : Int32} {rm : Nat → Int32} {ac : Int32} {rf : Int32} {kn : Int32} {mce : Nat → Int64} {mfr : Int64} {mun : Int64} {mbe : Nat → Int64} {men : Nat → Int64} {mov : Nat → Int32} {msp : Int32} {mwb : Nat → Int64} {mwe : Nat → Int64} {mwi : Int32} {mac : Int32} {mre : Int32} {mkn : Int32} {mth : Int32} {on : Int64} (h5 : 5 * j + 5 ≤ L) (hL : L ≤ 320) (hI : kIv ce fr un sb se so sc wb we wo wc fb fe fo fc rm ac rf kn mce mfr mun mbe men mov msp mwb mwe mwi mac mre mkn mth on) : flaw_516 L xs (KInv kIv (nI (5 * j))) ce fr un sb se so sc wb we wo wc fb fe fo fc rm ac rf kn mce mfr mun mbe men mov msp mwb mwe mwi mac mre mkn mth on (nI (5 * j)) = some 1 := by
  obtain ⟨hc, x1, x2, hf, hu, hfu, ⟨n, hn, x3, x4, hS⟩, ⟨w, hw, x5, x6, hW⟩, x7, x8, x9⟩ := hI
  subst x1; subst x2; subst x3; subst x4; subst x5; subst x6; subst x7; subst x8; subst x9
  have a1 : ix (nI (5 * j) + 1) L := kixL (i := 1) h5 hL (by omega)
  have a2 : ix (nI (5 * j) + 2) L := kixL (i := 2) h5 hL (by omega)
  obtain ⟨r, r', e1, e3, ht, hv, g1, g2, g3, g4, g5, g6, g7, g8, g9, g10⟩ := op_shift (ac := ac) (rf := rf) (on := on) (p0 := xs (nI (5 * j) + 1).toNatClampNeg) (p1 := xs (nI (5 * j) + 2).toNatClampNeg) hc hf hu hfu hS hn hW hw
  simp only [flaw_516, if_pos a1, if_pos a2, e1, e3, Option.bind_some]
  exact KInv_yes ⟨g1, g2, g3, g4, g5, g6, ⟨n, hn, rfl, rfl, g7⟩, ⟨w, hw, rfl, rfl, g8⟩, g9, g10, rfl⟩
set_option maxHeartbeats 4000000 in
theorem hC_6 {L j : Nat} {xs : Nat → Int32} {ce : Nat → Int64} {fr : Int64} {un : Int64} {sb : Nat → Int64} {se : Nat → Int64} {so : Nat → Int32} {sc : Int32} {wb : Nat → Int64} {we : Nat → Int64} {wo : Nat → Int32} {wc : Int32} {fb : Nat → Int64} {fe : Nat → Int64} {fo : Nat → Int32} {fc : Int32} {rm : Nat → Int32} {ac : Int32} {rf : Int32} {kn : Int32} {mce : Nat → Int64} {mfr : Int64} {mun : Int64} {mbe : Nat → Int64} {men : Nat → Int64} {mov : Nat → Int32} {msp : Int32} {mwb : Nat → Int64} {mwe : Nat → Int64} {mwi : Int32} {mac : Int32} {mre : Int32} {mkn : Int32} {mth : Int32} {on : Int64} (h5 : 5 * j + 5 ≤ L) (hL : L ≤ 320) (hI : kIv ce fr un sb se so sc wb we wo wc fb fe fo fc rm ac rf kn mce mfr mun mbe men mov msp mwb mwe mwi mac mre mkn mth on) : flaw_556 L xs (KInv kIv (nI (5 * j))) ce fr un sb se so sc wb we wo wc fb fe fo fc rm ac rf kn mce mfr mun mbe men mov msp mwb mwe mwi mac mre mkn mth on (nI (5 * j)) = some 1 := by
  obtain ⟨hc, x1, x2, hf, hu, hfu, ⟨n, hn, x3, x4, hS⟩, ⟨w, hw, x5, x6, hW⟩, x7, x8, x9⟩ := hI
  subst x1; subst x2; subst x3; subst x4; subst x5; subst x6; subst x7; subst x8; subst x9
  have a1 : ix (nI (5 * j) + 1) L := kixL (i := 1) h5 hL (by omega)
  have a2 : ix (nI (5 * j) + 2) L := kixL (i := 2) h5 hL (by omega)
  obtain ⟨r, r', e1, e3, ht, hv, g1, g2, g3, g4, g5, g6⟩ := op_open (fr := fr) (un := un) (sc := nI n) (ac := ac) (rf := rf) (on := on) (p0 := xs (nI (5 * j) + 1).toNatClampNeg) (p1 := xs (nI (5 * j) + 2).toNatClampNeg) hc rfl rfl rfl rfl rfl
  obtain ⟨g7, g8, g9, n', hn', g10, g11⟩ : kLet r.2.1 ∧ kLet r.2.2.1 ∧ r.2.1 < r.2.2.1 ∧ ∃ n', n' ≤ 10 ∧ r.2.2.2.1 = nI n' ∧ kSpans r.2.1 r.2.2.1 n' sb se so mbe men mov := by
    rcases g6 with ⟨y1, y2, y3⟩ | ⟨y1, y2, y3, y4⟩
    · rw [y1, y2, y3]; exact ⟨hf, hu, hfu, n, hn, rfl, hS⟩
    · exact ⟨y1, y2, y3, 0, Nat.zero_le _, y4, fun k hk => absurd hk (Nat.not_lt_zero k)⟩
  simp only [flaw_556, if_pos a1, if_pos a2, e1, e3, Option.bind_some]
  exact KInv_yes ⟨hc, g1, g2, g7, g8, g9, ⟨n', hn', g10, g3.symm.trans g10, g11⟩, ⟨w, hw, rfl, rfl, hW⟩, g4, g5, rfl⟩
set_option maxHeartbeats 4000000 in
theorem hC_7 {L j : Nat} {xs : Nat → Int32} {ce : Nat → Int64} {fr : Int64} {un : Int64} {sb : Nat → Int64} {se : Nat → Int64} {so : Nat → Int32} {sc : Int32} {wb : Nat → Int64} {we : Nat → Int64} {wo : Nat → Int32} {wc : Int32} {fb : Nat → Int64} {fe : Nat → Int64} {fo : Nat → Int32} {fc : Int32} {rm : Nat → Int32} {ac : Int32} {rf : Int32} {kn : Int32} {mce : Nat → Int64} {mfr : Int64} {mun : Int64} {mbe : Nat → Int64} {men : Nat → Int64} {mov : Nat → Int32} {msp : Int32} {mwb : Nat → Int64} {mwe : Nat → Int64} {mwi : Int32} {mac : Int32} {mre : Int32} {mkn : Int32} {mth : Int32} {on : Int64} (h5 : 5 * j + 5 ≤ L) (hL : L ≤ 320) (hI : kIv ce fr un sb se so sc wb we wo wc fb fe fo fc rm ac rf kn mce mfr mun mbe men mov msp mwb mwe mwi mac mre mkn mth on) : flaw_596 L xs (KInv kIv (nI (5 * j))) ce fr un sb se so sc wb we wo wc fb fe fo fc rm ac rf kn mce mfr mun mbe men mov msp mwb mwe mwi mac mre mkn mth on (nI (5 * j)) = some 1 := by
  obtain ⟨hc, x1, x2, hf, hu, hfu, ⟨n, hn, x3, x4, hS⟩, ⟨w, hw, x5, x6, hW⟩, x7, x8, x9⟩ := hI
  subst x1; subst x2; subst x3; subst x4; subst x5; subst x6; subst x7; subst x8; subst x9
  have a1 : ix (nI (5 * j) + 1) L := kixL (i := 1) h5 hL (by omega)
  have a2 : ix (nI (5 * j) + 2) L := kixL (i := 2) h5 hL (by omega)
  have a3 : ix (nI (5 * j) + 3) L := kixL (i := 3) h5 hL (by omega)
  by_cases hb : xs (nI (5 * j) + 3).toNatClampNeg = 0
  · obtain ⟨r, r', n', e1, e3, ht, hv, g1, g2, g3, g4, g5, g6⟩ := op_book (ac := ac) (rf := rf) (on := on) (p0 := xs (nI (5 * j) + 1).toNatClampNeg) (p1 := xs (nI (5 * j) + 2).toNatClampNeg) (p2 := 0) hc hS hn
    simp only [flaw_596, flaw_623, flaw_656, if_pos a1, if_pos a2, if_pos a3, if_pos hb, e1, e3, Option.bind_some]
    exact KInv_yes ⟨hc, rfl, rfl, hf, hu, hfu, ⟨n', g1, g2, g3, g4⟩, ⟨w, hw, rfl, rfl, hW⟩, g5, g6, rfl⟩
  · obtain ⟨r, r', n', e1, e3, ht, hv, g1, g2, g3, g4, g5, g6⟩ := op_book (ac := ac) (rf := rf) (on := on) (p0 := xs (nI (5 * j) + 1).toNatClampNeg) (p1 := xs (nI (5 * j) + 2).toNatClampNeg) (p2 := 1) hc hS hn
    simp only [flaw_596, flaw_623, flaw_656, if_pos a1, if_pos a2, if_pos a3, if_neg hb, e1, e3, Option.bind_some]
    exact KInv_yes ⟨hc, rfl, rfl, hf, hu, hfu, ⟨n', g1, g2, g3, g4⟩, ⟨w, hw, rfl, rfl, hW⟩, g5, g6, rfl⟩
set_option maxHeartbeats 4000000 in
theorem hC_8 {L j : Nat} {xs : Nat → Int32} {ce : Nat → Int64} {fr : Int64} {un : Int64} {sb : Nat → Int64} {se : Nat → Int64} {so : Nat → Int32} {sc : Int32} {wb : Nat → Int64} {we : Nat → Int64} {wo : Nat → Int32} {wc : Int32} {fb : Nat → Int64} {fe : Nat → Int64} {fo : Nat → Int32} {fc : Int32} {rm : Nat → Int32} {ac : Int32} {rf : Int32} {kn : Int32} {mce : Nat → Int64} {mfr : Int64} {mun : Int64} {mbe : Nat → Int64} {men : Nat → Int64} {mov : Nat → Int32} {msp : Int32} {mwb : Nat → Int64} {mwe : Nat → Int64} {mwi : Int32} {mac : Int32} {mre : Int32} {mkn : Int32} {mth : Int32} {on : Int64} (h5 : 5 * j + 5 ≤ L) (hL : L ≤ 320) (hI : kIv ce fr un sb se so sc wb we wo wc fb fe fo fc rm ac rf kn mce mfr mun mbe men mov msp mwb mwe mwi mac mre mkn mth on) : flaw_664 L xs (KInv kIv (nI (5 * j))) ce fr un sb se so sc wb we wo wc fb fe fo fc rm ac rf kn mce mfr mun mbe men mov msp mwb mwe mwi mac mre mkn mth on (nI (5 * j)) = some 1 := by
  obtain ⟨hc, x1, x2, hf, hu, hfu, ⟨n, hn, x3, x4, hS⟩, ⟨w, hw, x5, x6, hW⟩, x7, x8, x9⟩ := hI
  subst x1; subst x2; subst x3; subst x4; subst x5; subst x6; subst x7; subst x8; subst x9
  have a1 : ix (nI (5 * j) + 1) L := kixL (i := 1) h5 hL (by omega)
  obtain ⟨r, r', n', e1, e3, ht, hv, g1, g2, g3, g4, g5⟩ := op_unbook (ac := ac) (on := on) (p0 := xs (nI (5 * j) + 1).toNatClampNeg) hS hn
  simp only [flaw_664, if_pos a1, e1, e3, Option.bind_some]
  exact KInv_yes ⟨hc, rfl, rfl, hf, hu, hfu, ⟨n', g1, g2, g3, g4⟩, ⟨w, hw, rfl, rfl, hW⟩, g5, rfl, rfl⟩
set_option maxHeartbeats 4000000 in
theorem hC_9 {L j : Nat} {xs : Nat → Int32} {ce : Nat → Int64} {fr : Int64} {un : Int64} {sb : Nat → Int64} {se : Nat → Int64} {so : Nat → Int32} {sc : Int32} {wb : Nat → Int64} {we : Nat → Int64} {wo : Nat → Int32} {wc : Int32} {fb : Nat → Int64} {fe : Nat → Int64} {fo : Nat → Int32} {fc : Int32} {rm : Nat → Int32} {ac : Int32} {rf : Int32} {kn : Int32} {mce : Nat → Int64} {mfr : Int64} {mun : Int64} {mbe : Nat → Int64} {men : Nat → Int64} {mov : Nat → Int32} {msp : Int32} {mwb : Nat → Int64} {mwe : Nat → Int64} {mwi : Int32} {mac : Int32} {mre : Int32} {mkn : Int32} {mth : Int32} {on : Int64} (h5 : 5 * j + 5 ≤ L) (hL : L ≤ 320) (hI : kIv ce fr un sb se so sc wb we wo wc fb fe fo fc rm ac rf kn mce mfr mun mbe men mov msp mwb mwe mwi mac mre mkn mth on) : flaw_692 L xs (KInv kIv (nI (5 * j))) ce fr un sb se so sc wb we wo wc fb fe fo fc rm ac rf kn mce mfr mun mbe men mov msp mwb mwe mwi mac mre mkn mth on (nI (5 * j)) = some 1 := by
  obtain ⟨hc, x1, x2, hf, hu, hfu, ⟨n, hn, x3, x4, hS⟩, ⟨w, hw, x5, x6, hW⟩, x7, x8, x9⟩ := hI
  subst x1; subst x2; subst x3; subst x4; subst x5; subst x6; subst x7; subst x8; subst x9
  simp only [flaw_692, f_X1_empty, f_X0_clear, f_X1_done, f_X3_empty, f_X3_done, Option.bind_some]
  exact KInv_yes ⟨hc, rfl, rfl, hf, hu, hfu, ⟨0, Nat.zero_le _, rfl, rfl, fun k hk => absurd hk (Nat.not_lt_zero k)⟩, ⟨w, hw, rfl, rfl, hW⟩, rfl, rfl, rfl⟩
set_option maxHeartbeats 4000000 in
theorem hC_10 {L j : Nat} {xs : Nat → Int32} {ce : Nat → Int64} {fr : Int64} {un : Int64} {sb : Nat → Int64} {se : Nat → Int64} {so : Nat → Int32} {sc : Int32} {wb : Nat → Int64} {we : Nat → Int64} {wo : Nat → Int32} {wc : Int32} {fb : Nat → Int64} {fe : Nat → Int64} {fo : Nat → Int32} {fc : Int32} {rm : Nat → Int32} {ac : Int32} {rf : Int32} {kn : Int32} {mce : Nat → Int64} {mfr : Int64} {mun : Int64} {mbe : Nat → Int64} {men : Nat → Int64} {mov : Nat → Int32} {msp : Int32} {mwb : Nat → Int64} {mwe : Nat → Int64} {mwi : Int32} {mac : Int32} {mre : Int32} {mkn : Int32} {mth : Int32} {on : Int64} (h5 : 5 * j + 5 ≤ L) (hL : L ≤ 320) (hI : kIv ce fr un sb se so sc wb we wo wc fb fe fo fc rm ac rf kn mce mfr mun mbe men mov msp mwb mwe mwi mac mre mkn mth on) : flaw_705 L xs (KInv kIv (nI (5 * j))) ce fr un sb se so sc wb we wo wc fb fe fo fc rm ac rf kn mce mfr mun mbe men mov msp mwb mwe mwi mac mre mkn mth on (nI (5 * j)) = some 1 := by
  obtain ⟨hc, x1, x2, hf, hu, hfu, ⟨n, hn, x3, x4, hS⟩, ⟨w, hw, x5, x6, hW⟩, x7, x8, x9⟩ := hI
  subst x1; subst x2; subst x3; subst x4; subst x5; subst x6; subst x7; subst x8; subst x9
  have a1 : ix (nI (5 * j) + 1) L := kixL (i := 1) h5 hL (by omega)
  have a2 : ix (nI (5 * j) + 2) L := kixL (i := 2) h5 hL (by omega)
  have a3 : ix (nI (5 * j) + 3) L := kixL (i := 3) h5 hL (by omega)
  obtain ⟨r, r', e1, e3, ht, hv, g1, g2, g3⟩ := op_move (ac := ac) (rf := rf) (on := on) (p0 := xs (nI (5 * j) + 1).toNatClampNeg) (p1 := xs (nI (5 * j) + 2).toNatClampNeg) (p2 := xs (nI (5 * j) + 3).toNatClampNeg) hS hn hf hu
  simp only [flaw_705, if_pos a1, if_pos a2, if_pos a3, e1, e3, Option.bind_some]
  exact KInv_yes ⟨hc, rfl, rfl, hf, hu, hfu, ⟨n, hn, rfl, rfl, g1⟩, ⟨w, hw, rfl, rfl, hW⟩, g2, g3, rfl⟩
set_option maxHeartbeats 4000000 in
theorem hC_11 {L j : Nat} {xs : Nat → Int32} {ce : Nat → Int64} {fr : Int64} {un : Int64} {sb : Nat → Int64} {se : Nat → Int64} {so : Nat → Int32} {sc : Int32} {wb : Nat → Int64} {we : Nat → Int64} {wo : Nat → Int32} {wc : Int32} {fb : Nat → Int64} {fe : Nat → Int64} {fo : Nat → Int32} {fc : Int32} {rm : Nat → Int32} {ac : Int32} {rf : Int32} {kn : Int32} {mce : Nat → Int64} {mfr : Int64} {mun : Int64} {mbe : Nat → Int64} {men : Nat → Int64} {mov : Nat → Int32} {msp : Int32} {mwb : Nat → Int64} {mwe : Nat → Int64} {mwi : Int32} {mac : Int32} {mre : Int32} {mkn : Int32} {mth : Int32} {on : Int64} (h5 : 5 * j + 5 ≤ L) (hL : L ≤ 320) (hI : kIv ce fr un sb se so sc wb we wo wc fb fe fo fc rm ac rf kn mce mfr mun mbe men mov msp mwb mwe mwi mac mre mkn mth on) : flaw_757 L xs (KInv kIv (nI (5 * j))) ce fr un sb se so sc wb we wo wc fb fe fo fc rm ac rf kn mce mfr mun mbe men mov msp mwb mwe mwi mac mre mkn mth on (nI (5 * j)) = some 1 := by
  obtain ⟨hc, x1, x2, hf, hu, hfu, ⟨n, hn, x3, x4, hS⟩, ⟨w, hw, x5, x6, hW⟩, x7, x8, x9⟩ := hI
  subst x1; subst x2; subst x3; subst x4; subst x5; subst x6; subst x7; subst x8; subst x9
  have a1 : ix (nI (5 * j) + 1) L := kixL (i := 1) h5 hL (by omega)
  have a2 : ix (nI (5 * j) + 2) L := kixL (i := 2) h5 hL (by omega)
  have a3 : ix (nI (5 * j) + 3) L := kixL (i := 3) h5 hL (by omega)
  obtain ⟨r, r', e1, e3, ht, hv, g1, g2, g3⟩ := op_stretch (ac := ac) (rf := rf) (on := on) (p0 := xs (nI (5 * j) + 1).toNatClampNeg) (p1 := xs (nI (5 * j) + 2).toNatClampNeg) (p2 := xs (nI (5 * j) + 3).toNatClampNeg) hS hn hf hu
  simp only [flaw_757, if_pos a1, if_pos a2, if_pos a3, e1, e3, Option.bind_some]
  exact KInv_yes ⟨hc, rfl, rfl, hf, hu, hfu, ⟨n, hn, rfl, rfl, g1⟩, ⟨w, hw, rfl, rfl, hW⟩, g2, g3, rfl⟩
set_option maxHeartbeats 4000000 in
theorem hC_12 {L j : Nat} {xs : Nat → Int32} {ce : Nat → Int64} {fr : Int64} {un : Int64} {sb : Nat → Int64} {se : Nat → Int64} {so : Nat → Int32} {sc : Int32} {wb : Nat → Int64} {we : Nat → Int64} {wo : Nat → Int32} {wc : Int32} {fb : Nat → Int64} {fe : Nat → Int64} {fo : Nat → Int32} {fc : Int32} {rm : Nat → Int32} {ac : Int32} {rf : Int32} {kn : Int32} {mce : Nat → Int64} {mfr : Int64} {mun : Int64} {mbe : Nat → Int64} {men : Nat → Int64} {mov : Nat → Int32} {msp : Int32} {mwb : Nat → Int64} {mwe : Nat → Int64} {mwi : Int32} {mac : Int32} {mre : Int32} {mkn : Int32} {mth : Int32} {on : Int64} (h5 : 5 * j + 5 ≤ L) (hL : L ≤ 320) (hI : kIv ce fr un sb se so sc wb we wo wc fb fe fo fc rm ac rf kn mce mfr mun mbe men mov msp mwb mwe mwi mac mre mkn mth on) : flaw_809 L xs (KInv kIv (nI (5 * j))) ce fr un sb se so sc wb we wo wc fb fe fo fc rm ac rf kn mce mfr mun mbe men mov msp mwb mwe mwi mac mre mkn mth on (nI (5 * j)) = some 1 := by
  obtain ⟨hc, x1, x2, hf, hu, hfu, ⟨n, hn, x3, x4, hS⟩, ⟨w, hw, x5, x6, hW⟩, x7, x8, x9⟩ := hI
  subst x1; subst x2; subst x3; subst x4; subst x5; subst x6; subst x7; subst x8; subst x9
  have a1 : ix (nI (5 * j) + 1) L := kixL (i := 1) h5 hL (by omega)
  have a2 : ix (nI (5 * j) + 2) L := kixL (i := 2) h5 hL (by omega)
  have a3 : ix (nI (5 * j) + 3) L := kixL (i := 3) h5 hL (by omega)
  have a4 : ix (nI (5 * j) + 4) L := kixL (i := 4) h5 hL (by omega)
  obtain ⟨r, r', e1, e3, ht, hv, g1, g2, g3⟩ := op_fit (ac := ac) (rf := rf) (on := on) (p0 := xs (nI (5 * j) + 1).toNatClampNeg) (p1 := xs (nI (5 * j) + 2).toNatClampNeg) (p2 := xs (nI (5 * j) + 3).toNatClampNeg) (p3 := xs (nI (5 * j) + 4).toNatClampNeg) hc hS hn hf hu
  simp only [flaw_809, if_pos a1, if_pos a2, if_pos a3, if_pos a4, e1, e3, Option.bind_some]
  exact KInv_yes ⟨g1, rfl, rfl, hf, hu, hfu, ⟨n, hn, rfl, rfl, hS⟩, ⟨w, hw, rfl, rfl, hW⟩, g2, g3, rfl⟩
set_option maxHeartbeats 4000000 in
theorem hC_13 {L j : Nat} {xs : Nat → Int32} {ce : Nat → Int64} {fr : Int64} {un : Int64} {sb : Nat → Int64} {se : Nat → Int64} {so : Nat → Int32} {sc : Int32} {wb : Nat → Int64} {we : Nat → Int64} {wo : Nat → Int32} {wc : Int32} {fb : Nat → Int64} {fe : Nat → Int64} {fo : Nat → Int32} {fc : Int32} {rm : Nat → Int32} {ac : Int32} {rf : Int32} {kn : Int32} {mce : Nat → Int64} {mfr : Int64} {mun : Int64} {mbe : Nat → Int64} {men : Nat → Int64} {mov : Nat → Int32} {msp : Int32} {mwb : Nat → Int64} {mwe : Nat → Int64} {mwi : Int32} {mac : Int32} {mre : Int32} {mkn : Int32} {mth : Int32} {on : Int64} (h5 : 5 * j + 5 ≤ L) (hL : L ≤ 320) (hI : kIv ce fr un sb se so sc wb we wo wc fb fe fo fc rm ac rf kn mce mfr mun mbe men mov msp mwb mwe mwi mac mre mkn mth on) : flaw_873 L xs (KInv kIv (nI (5 * j))) ce fr un sb se so sc wb we wo wc fb fe fo fc rm ac rf kn mce mfr mun mbe men mov msp mwb mwe mwi mac mre mkn mth on (nI (5 * j)) = some 1 := by
  obtain ⟨hc, x1, x2, hf, hu, hfu, ⟨n, hn, x3, x4, hS⟩, ⟨w, hw, x5, x6, hW⟩, x7, x8, x9⟩ := hI
  subst x1; subst x2; subst x3; subst x4; subst x5; subst x6; subst x7; subst x8; subst x9
  have a1 : ix (nI (5 * j) + 1) L := kixL (i := 1) h5 hL (by omega)
  have a2 : ix (nI (5 * j) + 2) L := kixL (i := 2) h5 hL (by omega)
  obtain ⟨r, r', n', e1, e3, ht, hv, g1, g2, g3, g4, g5, g6⟩ := op_wish (wo := wo) (ac := ac) (rf := rf) (on := on) (p0 := xs (nI (5 * j) + 1).toNatClampNeg) (p1 := xs (nI (5 * j) + 2).toNatClampNeg) hc hW hw
  simp only [flaw_873, if_pos a1, if_pos a2, e1, e3, Option.bind_some]
  exact KInv_yes ⟨hc, rfl, rfl, hf, hu, hfu, ⟨n, hn, rfl, rfl, hS⟩, ⟨n', g1, g2, g3, g4⟩, g5, g6, rfl⟩
set_option maxHeartbeats 4000000 in
theorem hC_14 {L j : Nat} {xs : Nat → Int32} {ce : Nat → Int64} {fr : Int64} {un : Int64} {sb : Nat → Int64} {se : Nat → Int64} {so : Nat → Int32} {sc : Int32} {wb : Nat → Int64} {we : Nat → Int64} {wo : Nat → Int32} {wc : Int32} {fb : Nat → Int64} {fe : Nat → Int64} {fo : Nat → Int32} {fc : Int32} {rm : Nat → Int32} {ac : Int32} {rf : Int32} {kn : Int32} {mce : Nat → Int64} {mfr : Int64} {mun : Int64} {mbe : Nat → Int64} {men : Nat → Int64} {mov : Nat → Int32} {msp : Int32} {mwb : Nat → Int64} {mwe : Nat → Int64} {mwi : Int32} {mac : Int32} {mre : Int32} {mkn : Int32} {mth : Int32} {on : Int64} (h5 : 5 * j + 5 ≤ L) (hL : L ≤ 320) (hI : kIv ce fr un sb se so sc wb we wo wc fb fe fo fc rm ac rf kn mce mfr mun mbe men mov msp mwb mwe mwi mac mre mkn mth on) : flaw_913 L xs (KInv kIv (nI (5 * j))) ce fr un sb se so sc wb we wo wc fb fe fo fc rm ac rf kn mce mfr mun mbe men mov msp mwb mwe mwi mac mre mkn mth on (nI (5 * j)) = some 1 := by
  obtain ⟨hc, x1, x2, hf, hu, hfu, ⟨n, hn, x3, x4, hS⟩, ⟨w, hw, x5, x6, hW⟩, x7, x8, x9⟩ := hI
  subst x1; subst x2; subst x3; subst x4; subst x5; subst x6; subst x7; subst x8; subst x9
  have a1 : ix (nI (5 * j) + 1) L := kixL (i := 1) h5 hL (by omega)
  obtain ⟨r, r', n', e1, e3, ht, hv, g1, g2, g3, g4, g5⟩ := op_unwish (wo := wo) (ac := ac) (on := on) (p0 := xs (nI (5 * j) + 1).toNatClampNeg) hW hw
  simp only [flaw_913, if_pos a1, e1, e3, Option.bind_some]
  exact KInv_yes ⟨hc, rfl, rfl, hf, hu, hfu, ⟨n, hn, rfl, rfl, hS⟩, ⟨n', g1, g2, g3, g4⟩, g5, rfl, rfl⟩
set_option maxHeartbeats 4000000 in
theorem hC_15 {L j : Nat} {xs : Nat → Int32} {ce : Nat → Int64} {fr : Int64} {un : Int64} {sb : Nat → Int64} {se : Nat → Int64} {so : Nat → Int32} {sc : Int32} {wb : Nat → Int64} {we : Nat → Int64} {wo : Nat → Int32} {wc : Int32} {fb : Nat → Int64} {fe : Nat → Int64} {fo : Nat → Int32} {fc : Int32} {rm : Nat → Int32} {ac : Int32} {rf : Int32} {kn : Int32} {mce : Nat → Int64} {mfr : Int64} {mun : Int64} {mbe : Nat → Int64} {men : Nat → Int64} {mov : Nat → Int32} {msp : Int32} {mwb : Nat → Int64} {mwe : Nat → Int64} {mwi : Int32} {mac : Int32} {mre : Int32} {mkn : Int32} {mth : Int32} {on : Int64} (h5 : 5 * j + 5 ≤ L) (hL : L ≤ 320) (hI : kIv ce fr un sb se so sc wb we wo wc fb fe fo fc rm ac rf kn mce mfr mun mbe men mov msp mwb mwe mwi mac mre mkn mth on) : flaw_941 L xs (KInv kIv (nI (5 * j))) ce fr un sb se so sc wb we wo wc fb fe fo fc rm ac rf kn mce mfr mun mbe men mov msp mwb mwe mwi mac mre mkn mth on (nI (5 * j)) = some 1 := by
  obtain ⟨hc, x1, x2, hf, hu, hfu, ⟨n, hn, x3, x4, hS⟩, ⟨w, hw, x5, x6, hW⟩, x7, x8, x9⟩ := hI
  subst x1; subst x2; subst x3; subst x4; subst x5; subst x6; subst x7; subst x8; subst x9
  have a1 : ix (nI (5 * j) + 1) L := kixL (i := 1) h5 hL (by omega)
  obtain ⟨r, r', n', w', e1, e3, ht, hv, g1, g2, g3, g4, g5, g6, g7, g8, g9, g10⟩ := op_grant (wo := wo) (ac := ac) (rf := rf) (on := on) (p0 := xs (nI (5 * j) + 1).toNatClampNeg) hS hn hW hw
  simp only [flaw_941, if_pos a1, e1, e3, Option.bind_some]
  exact KInv_yes ⟨hc, rfl, rfl, hf, hu, hfu, ⟨n', g1, g2, g3, g4⟩, ⟨w', g5, g6, g7, g8⟩, g9, g10, rfl⟩
set_option maxHeartbeats 4000000 in
theorem hC_16 {L j : Nat} {xs : Nat → Int32} {ce : Nat → Int64} {fr : Int64} {un : Int64} {sb : Nat → Int64} {se : Nat → Int64} {so : Nat → Int32} {sc : Int32} {wb : Nat → Int64} {we : Nat → Int64} {wo : Nat → Int32} {wc : Int32} {fb : Nat → Int64} {fe : Nat → Int64} {fo : Nat → Int32} {fc : Int32} {rm : Nat → Int32} {ac : Int32} {rf : Int32} {kn : Int32} {mce : Nat → Int64} {mfr : Int64} {mun : Int64} {mbe : Nat → Int64} {men : Nat → Int64} {mov : Nat → Int32} {msp : Int32} {mwb : Nat → Int64} {mwe : Nat → Int64} {mwi : Int32} {mac : Int32} {mre : Int32} {mkn : Int32} {mth : Int32} {on : Int64} (h5 : 5 * j + 5 ≤ L) (hL : L ≤ 320) (hI : kIv ce fr un sb se so sc wb we wo wc fb fe fo fc rm ac rf kn mce mfr mun mbe men mov msp mwb mwe mwi mac mre mkn mth on) : flaw_969 L xs (KInv kIv (nI (5 * j))) ce fr un sb se so sc wb we wo wc fb fe fo fc rm ac rf kn mce mfr mun mbe men mov msp mwb mwe mwi mac mre mkn mth on (nI (5 * j)) = some 1 := by
  obtain ⟨hc, x1, x2, hf, hu, hfu, ⟨n, hn, x3, x4, hS⟩, ⟨w, hw, x5, x6, hW⟩, x7, x8, x9⟩ := hI
  subst x1; subst x2; subst x3; subst x4; subst x5; subst x6; subst x7; subst x8; subst x9
  have a1 : ix (nI (5 * j) + 1) L := kixL (i := 1) h5 hL (by omega)
  obtain ⟨r, r', e1, e3, ht, hv⟩ := ob_second (on := on) (p0 := xs (nI (5 * j) + 1).toNatClampNeg) hc
  simp only [flaw_969, if_pos a1, e1, e3, Option.bind_some]
  exact KInv_yes ⟨hc, rfl, rfl, hf, hu, hfu, ⟨n, hn, rfl, rfl, hS⟩, ⟨w, hw, rfl, rfl, hW⟩, rfl, rfl, rfl⟩
set_option maxHeartbeats 4000000 in
theorem hC_17 {L j : Nat} {xs : Nat → Int32} {ce : Nat → Int64} {fr : Int64} {un : Int64} {sb : Nat → Int64} {se : Nat → Int64} {so : Nat → Int32} {sc : Int32} {wb : Nat → Int64} {we : Nat → Int64} {wo : Nat → Int32} {wc : Int32} {fb : Nat → Int64} {fe : Nat → Int64} {fo : Nat → Int32} {fc : Int32} {rm : Nat → Int32} {ac : Int32} {rf : Int32} {kn : Int32} {mce : Nat → Int64} {mfr : Int64} {mun : Int64} {mbe : Nat → Int64} {men : Nat → Int64} {mov : Nat → Int32} {msp : Int32} {mwb : Nat → Int64} {mwe : Nat → Int64} {mwi : Int32} {mac : Int32} {mre : Int32} {mkn : Int32} {mth : Int32} {on : Int64} (h5 : 5 * j + 5 ≤ L) (hL : L ≤ 320) (hI : kIv ce fr un sb se so sc wb we wo wc fb fe fo fc rm ac rf kn mce mfr mun mbe men mov msp mwb mwe mwi mac mre mkn mth on) : flaw_997 L xs (KInv kIv (nI (5 * j))) ce fr un sb se so sc wb we wo wc fb fe fo fc rm ac rf kn mce mfr mun mbe men mov msp mwb mwe mwi mac mre mkn mth on (nI (5 * j)) = some 1 := by
  obtain ⟨hc, x1, x2, hf, hu, hfu, ⟨n, hn, x3, x4, hS⟩, ⟨w, hw, x5, x6, hW⟩, x7, x8, x9⟩ := hI
  subst x1; subst x2; subst x3; subst x4; subst x5; subst x6; subst x7; subst x8; subst x9
  have a1 : ix (nI (5 * j) + 1) L := kixL (i := 1) h5 hL (by omega)
  obtain ⟨r, r', e1, e3, ht, hv⟩ := ob_nano (on := on) (p0 := xs (nI (5 * j) + 1).toNatClampNeg) hc
  simp only [flaw_997, if_pos a1, e1, e3, Option.bind_some]
  exact KInv_yes ⟨hc, rfl, rfl, hf, hu, hfu, ⟨n, hn, rfl, rfl, hS⟩, ⟨w, hw, rfl, rfl, hW⟩, rfl, rfl, rfl⟩
set_option maxHeartbeats 4000000 in
theorem hC_18 {L j : Nat} {xs : Nat → Int32} {ce : Nat → Int64} {fr : Int64} {un : Int64} {sb : Nat → Int64} {se : Nat → Int64} {so : Nat → Int32} {sc : Int32} {wb : Nat → Int64} {we : Nat → Int64} {wo : Nat → Int32} {wc : Int32} {fb : Nat → Int64} {fe : Nat → Int64} {fo : Nat → Int32} {fc : Int32} {rm : Nat → Int32} {ac : Int32} {rf : Int32} {kn : Int32} {mce : Nat → Int64} {mfr : Int64} {mun : Int64} {mbe : Nat → Int64} {men : Nat → Int64} {mov : Nat → Int32} {msp : Int32} {mwb : Nat → Int64} {mwe : Nat → Int64} {mwi : Int32} {mac : Int32} {mre : Int32} {mkn : Int32} {mth : Int32} {on : Int64} (h5 : 5 * j + 5 ≤ L) (hL : L ≤ 320) (hI : kIv ce fr un sb se so sc wb we wo wc fb fe fo fc rm ac rf kn mce mfr mun mbe men mov msp mwb mwe mwi mac mre mkn mth on) : flaw_1025 L xs (KInv kIv (nI (5 * j))) ce fr un sb se so sc wb we wo wc fb fe fo fc rm ac rf kn mce mfr mun mbe men mov msp mwb mwe mwi mac mre mkn mth on (nI (5 * j)) = some 1 := by
  obtain ⟨hc, x1, x2, hf, hu, hfu, ⟨n, hn, x3, x4, hS⟩, ⟨w, hw, x5, x6, hW⟩, x7, x8, x9⟩ := hI
  subst x1; subst x2; subst x3; subst x4; subst x5; subst x6; subst x7; subst x8; subst x9
  have a1 : ix (nI (5 * j) + 1) L := kixL (i := 1) h5 hL (by omega)
  obtain ⟨c, e1, e3⟩ := ob_text (p0 := xs (nI (5 * j) + 1).toNatClampNeg) hc
  simp only [flaw_1025, if_pos a1, e1, e3, Option.bind_some]
  exact KInv_yes ⟨hc, rfl, rfl, hf, hu, hfu, ⟨n, hn, rfl, rfl, hS⟩, ⟨w, hw, rfl, rfl, hW⟩, rfl, rfl, rfl⟩
set_option maxHeartbeats 4000000 in
theorem hC_19 {L j : Nat} {xs : Nat → Int32} {ce : Nat → Int64} {fr : Int64} {un : Int64} {sb : Nat → Int64} {se : Nat → Int64} {so : Nat → Int32} {sc : Int32} {wb : Nat → Int64} {we : Nat → Int64} {wo : Nat → Int32} {wc : Int32} {fb : Nat → Int64} {fe : Nat → Int64} {fo : Nat → Int32} {fc : Int32} {rm : Nat → Int32} {ac : Int32} {rf : Int32} {kn : Int32} {mce : Nat → Int64} {mfr : Int64} {mun : Int64} {mbe : Nat → Int64} {men : Nat → Int64} {mov : Nat → Int32} {msp : Int32} {mwb : Nat → Int64} {mwe : Nat → Int64} {mwi : Int32} {mac : Int32} {mre : Int32} {mkn : Int32} {mth : Int32} {on : Int64} (h5 : 5 * j + 5 ≤ L) (hL : L ≤ 320) (hI : kIv ce fr un sb se so sc wb we wo wc fb fe fo fc rm ac rf kn mce mfr mun mbe men mov msp mwb mwe mwi mac mre mkn mth on) : flaw_1053 L xs (KInv kIv (nI (5 * j))) ce fr un sb se so sc wb we wo wc fb fe fo fc rm ac rf kn mce mfr mun mbe men mov msp mwb mwe mwi mac mre mkn mth on (nI (5 * j)) = some 1 := by
  obtain ⟨hc, x1, x2, hf, hu, hfu, ⟨n, hn, x3, x4, hS⟩, ⟨w, hw, x5, x6, hW⟩, x7, x8, x9⟩ := hI
  subst x1; subst x2; subst x3; subst x4; subst x5; subst x6; subst x7; subst x8; subst x9
  have a1 : ix (nI (5 * j) + 1) L := kixL (i := 1) h5 hL (by omega)
  have a2 : ix (nI (5 * j) + 2) L := kixL (i := 2) h5 hL (by omega)
  obtain ⟨r, r', e1, e3, ht, hv⟩ := ob_order (on := on) (p0 := xs (nI (5 * j) + 1).toNatClampNeg) (p1 := xs (nI (5 * j) + 2).toNatClampNeg) hc
  simp only [flaw_1053, if_pos a1, if_pos a2, e1, e3, Option.bind_some]
  exact KInv_yes ⟨hc, rfl, rfl, hf, hu, hfu, ⟨n, hn, rfl, rfl, hS⟩, ⟨w, hw, rfl, rfl, hW⟩, rfl, rfl, rfl⟩
set_option maxHeartbeats 4000000 in
theorem hC_20 {L j : Nat} {xs : Nat → Int32} {ce : Nat → Int64} {fr : Int64} {un : Int64} {sb : Nat → Int64} {se : Nat → Int64} {so : Nat → Int32} {sc : Int32} {wb : Nat → Int64} {we : Nat → Int64} {wo : Nat → Int32} {wc : Int32} {fb : Nat → Int64} {fe : Nat → Int64} {fo : Nat → Int32} {fc : Int32} {rm : Nat → Int32} {ac : Int32} {rf : Int32} {kn : Int32} {mce : Nat → Int64} {mfr : Int64} {mun : Int64} {mbe : Nat → Int64} {men : Nat → Int64} {mov : Nat → Int32} {msp : Int32} {mwb : Nat → Int64} {mwe : Nat → Int64} {mwi : Int32} {mac : Int32} {mre : Int32} {mkn : Int32} {mth : Int32} {on : Int64} (h5 : 5 * j + 5 ≤ L) (hL : L ≤ 320) (hI : kIv ce fr un sb se so sc wb we wo wc fb fe fo fc rm ac rf kn mce mfr mun mbe men mov msp mwb mwe mwi mac mre mkn mth on) : flaw_1093 L xs (KInv kIv (nI (5 * j))) ce fr un sb se so sc wb we wo wc fb fe fo fc rm ac rf kn mce mfr mun mbe men mov msp mwb mwe mwi mac mre mkn mth on (nI (5 * j)) = some 1 := by
  obtain ⟨hc, x1, x2, hf, hu, hfu, ⟨n, hn, x3, x4, hS⟩, ⟨w, hw, x5, x6, hW⟩, x7, x8, x9⟩ := hI
  subst x1; subst x2; subst x3; subst x4; subst x5; subst x6; subst x7; subst x8; subst x9
  have a1 : ix (nI (5 * j) + 1) L := kixL (i := 1) h5 hL (by omega)
  have a2 : ix (nI (5 * j) + 2) L := kixL (i := 2) h5 hL (by omega)
  obtain ⟨r, r', e1, e3, ht, hv⟩ := ob_isBefore (on := on) (p0 := xs (nI (5 * j) + 1).toNatClampNeg) (p1 := xs (nI (5 * j) + 2).toNatClampNeg) hc
  simp only [flaw_1093, if_pos a1, if_pos a2, e1, e3, Option.bind_some]
  exact KInv_yes ⟨hc, rfl, rfl, hf, hu, hfu, ⟨n, hn, rfl, rfl, hS⟩, ⟨w, hw, rfl, rfl, hW⟩, rfl, rfl, rfl⟩
set_option maxHeartbeats 4000000 in
theorem hC_21 {L j : Nat} {xs : Nat → Int32} {ce : Nat → Int64} {fr : Int64} {un : Int64} {sb : Nat → Int64} {se : Nat → Int64} {so : Nat → Int32} {sc : Int32} {wb : Nat → Int64} {we : Nat → Int64} {wo : Nat → Int32} {wc : Int32} {fb : Nat → Int64} {fe : Nat → Int64} {fo : Nat → Int32} {fc : Int32} {rm : Nat → Int32} {ac : Int32} {rf : Int32} {kn : Int32} {mce : Nat → Int64} {mfr : Int64} {mun : Int64} {mbe : Nat → Int64} {men : Nat → Int64} {mov : Nat → Int32} {msp : Int32} {mwb : Nat → Int64} {mwe : Nat → Int64} {mwi : Int32} {mac : Int32} {mre : Int32} {mkn : Int32} {mth : Int32} {on : Int64} (h5 : 5 * j + 5 ≤ L) (hL : L ≤ 320) (hI : kIv ce fr un sb se so sc wb we wo wc fb fe fo fc rm ac rf kn mce mfr mun mbe men mov msp mwb mwe mwi mac mre mkn mth on) : flaw_1133 L xs (KInv kIv (nI (5 * j))) ce fr un sb se so sc wb we wo wc fb fe fo fc rm ac rf kn mce mfr mun mbe men mov msp mwb mwe mwi mac mre mkn mth on (nI (5 * j)) = some 1 := by
  obtain ⟨hc, x1, x2, hf, hu, hfu, ⟨n, hn, x3, x4, hS⟩, ⟨w, hw, x5, x6, hW⟩, x7, x8, x9⟩ := hI
  subst x1; subst x2; subst x3; subst x4; subst x5; subst x6; subst x7; subst x8; subst x9
  have a1 : ix (nI (5 * j) + 1) L := kixL (i := 1) h5 hL (by omega)
  have a2 : ix (nI (5 * j) + 2) L := kixL (i := 2) h5 hL (by omega)
  obtain ⟨r, r', e1, e3, ht, hv⟩ := ob_isAfter (on := on) (p0 := xs (nI (5 * j) + 1).toNatClampNeg) (p1 := xs (nI (5 * j) + 2).toNatClampNeg) hc
  simp only [flaw_1133, if_pos a1, if_pos a2, e1, e3, Option.bind_some]
  exact KInv_yes ⟨hc, rfl, rfl, hf, hu, hfu, ⟨n, hn, rfl, rfl, hS⟩, ⟨w, hw, rfl, rfl, hW⟩, rfl, rfl, rfl⟩
set_option maxHeartbeats 4000000 in
theorem hC_22 {L j : Nat} {xs : Nat → Int32} {ce : Nat → Int64} {fr : Int64} {un : Int64} {sb : Nat → Int64} {se : Nat → Int64} {so : Nat → Int32} {sc : Int32} {wb : Nat → Int64} {we : Nat → Int64} {wo : Nat → Int32} {wc : Int32} {fb : Nat → Int64} {fe : Nat → Int64} {fo : Nat → Int32} {fc : Int32} {rm : Nat → Int32} {ac : Int32} {rf : Int32} {kn : Int32} {mce : Nat → Int64} {mfr : Int64} {mun : Int64} {mbe : Nat → Int64} {men : Nat → Int64} {mov : Nat → Int32} {msp : Int32} {mwb : Nat → Int64} {mwe : Nat → Int64} {mwi : Int32} {mac : Int32} {mre : Int32} {mkn : Int32} {mth : Int32} {on : Int64} (h5 : 5 * j + 5 ≤ L) (hL : L ≤ 320) (hI : kIv ce fr un sb se so sc wb we wo wc fb fe fo fc rm ac rf kn mce mfr mun mbe men mov msp mwb mwe mwi mac mre mkn mth on) : flaw_1173 L xs (KInv kIv (nI (5 * j))) ce fr un sb se so sc wb we wo wc fb fe fo fc rm ac rf kn mce mfr mun mbe men mov msp mwb mwe mwi mac mre mkn mth on (nI (5 * j)) = some 1 := by
  obtain ⟨hc, x1, x2, hf, hu, hfu, ⟨n, hn, x3, x4, hS⟩, ⟨w, hw, x5, x6, hW⟩, x7, x8, x9⟩ := hI
  subst x1; subst x2; subst x3; subst x4; subst x5; subst x6; subst x7; subst x8; subst x9
  have a1 : ix (nI (5 * j) + 1) L := kixL (i := 1) h5 hL (by omega)
  have a2 : ix (nI (5 * j) + 2) L := kixL (i := 2) h5 hL (by omega)
  have a3 : ix (nI (5 * j) + 3) L := kixL (i := 3) h5 hL (by omega)
  obtain ⟨r, r', e1, e3, ht, hv⟩ := ob_same (on := on) (p0 := xs (nI (5 * j) + 1).toNatClampNeg) (p1 := xs (nI (5 * j) + 2).toNatClampNeg) (p2 := xs (nI (5 * j) + 3).toNatClampNeg) hc
  simp only [flaw_1173, if_pos a1, if_pos a2, if_pos a3, e1, e3, Option.bind_some]
  exact KInv_yes ⟨hc, rfl, rfl, hf, hu, hfu, ⟨n, hn, rfl, rfl, hS⟩, ⟨w, hw, rfl, rfl, hW⟩, rfl, rfl, rfl⟩
set_option maxHeartbeats 4000000 in
theorem hC_23 {L j : Nat} {xs : Nat → Int32} {ce : Nat → Int64} {fr : Int64} {un : Int64} {sb : Nat → Int64} {se : Nat → Int64} {so : Nat → Int32} {sc : Int32} {wb : Nat → Int64} {we : Nat → Int64} {wo : Nat → Int32} {wc : Int32} {fb : Nat → Int64} {fe : Nat → Int64} {fo : Nat → Int32} {fc : Int32} {rm : Nat → Int32} {ac : Int32} {rf : Int32} {kn : Int32} {mce : Nat → Int64} {mfr : Int64} {mun : Int64} {mbe : Nat → Int64} {men : Nat → Int64} {mov : Nat → Int32} {msp : Int32} {mwb : Nat → Int64} {mwe : Nat → Int64} {mwi : Int32} {mac : Int32} {mre : Int32} {mkn : Int32} {mth : Int32} {on : Int64} (h5 : 5 * j + 5 ≤ L) (hL : L ≤ 320) (hI : kIv ce fr un sb se so sc wb we wo wc fb fe fo fc rm ac rf kn mce mfr mun mbe men mov msp mwb mwe mwi mac mre mkn mth on) : flaw_1225 L xs (KInv kIv (nI (5 * j))) ce fr un sb se so sc wb we wo wc fb fe fo fc rm ac rf kn mce mfr mun mbe men mov msp mwb mwe mwi mac mre mkn mth on (nI (5 * j)) = some 1 := by
  obtain ⟨hc, x1, x2, hf, hu, hfu, ⟨n, hn, x3, x4, hS⟩, ⟨w, hw, x5, x6, hW⟩, x7, x8, x9⟩ := hI
  subst x1; subst x2; subst x3; subst x4; subst x5; subst x6; subst x7; subst x8; subst x9
  have a1 : ix (nI (5 * j) + 1) L := kixL (i := 1) h5 hL (by omega)
  have a2 : ix (nI (5 * j) + 2) L := kixL (i := 2) h5 hL (by omega)
  have a3 : ix (nI (5 * j) + 3) L := kixL (i := 3) h5 hL (by omega)
  obtain ⟨r, r', e1, e3, ht, hv⟩ := ob_apart (on := on) (p0 := xs (nI (5 * j) + 1).toNatClampNeg) (p1 := xs (nI (5 * j) + 2).toNatClampNeg) (p2 := xs (nI (5 * j) + 3).toNatClampNeg) hc
  simp only [flaw_1225, if_pos a1, if_pos a2, if_pos a3, e1, e3, Option.bind_some]
  exact KInv_yes ⟨hc, rfl, rfl, hf, hu, hfu, ⟨n, hn, rfl, rfl, hS⟩, ⟨w, hw, rfl, rfl, hW⟩, rfl, rfl, rfl⟩
set_option maxHeartbeats 4000000 in
theorem hC_24 {L j : Nat} {xs : Nat → Int32} {ce : Nat → Int64} {fr : Int64} {un : Int64} {sb : Nat → Int64} {se : Nat → Int64} {so : Nat → Int32} {sc : Int32} {wb : Nat → Int64} {we : Nat → Int64} {wo : Nat → Int32} {wc : Int32} {fb : Nat → Int64} {fe : Nat → Int64} {fo : Nat → Int32} {fc : Int32} {rm : Nat → Int32} {ac : Int32} {rf : Int32} {kn : Int32} {mce : Nat → Int64} {mfr : Int64} {mun : Int64} {mbe : Nat → Int64} {men : Nat → Int64} {mov : Nat → Int32} {msp : Int32} {mwb : Nat → Int64} {mwe : Nat → Int64} {mwi : Int32} {mac : Int32} {mre : Int32} {mkn : Int32} {mth : Int32} {on : Int64} (h5 : 5 * j + 5 ≤ L) (hL : L ≤ 320) (hI : kIv ce fr un sb se so sc wb we wo wc fb fe fo fc rm ac rf kn mce mfr mun mbe men mov msp mwb mwe mwi mac mre mkn mth on) : flaw_1277 L xs (KInv kIv (nI (5 * j))) ce fr un sb se so sc wb we wo wc fb fe fo fc rm ac rf kn mce mfr mun mbe men mov msp mwb mwe mwi mac mre mkn mth on (nI (5 * j)) = some 1 := by
  obtain ⟨hc, x1, x2, hf, hu, hfu, ⟨n, hn, x3, x4, hS⟩, ⟨w, hw, x5, x6, hW⟩, x7, x8, x9⟩ := hI
  subst x1; subst x2; subst x3; subst x4; subst x5; subst x6; subst x7; subst x8; subst x9
  have a1 : ix (nI (5 * j) + 1) L := kixL (i := 1) h5 hL (by omega)
  obtain ⟨r, r', e1, e3, ht, hv⟩ := ob_calendar (on := on) (p0 := xs (nI (5 * j) + 1).toNatClampNeg) hf hu
  simp only [flaw_1277, if_pos a1, e1, e3, Option.bind_some]
  exact KInv_yes ⟨hc, rfl, rfl, hf, hu, hfu, ⟨n, hn, rfl, rfl, hS⟩, ⟨w, hw, rfl, rfl, hW⟩, rfl, rfl, rfl⟩
set_option maxHeartbeats 4000000 in
theorem hC_25 {L j : Nat} {xs : Nat → Int32} {ce : Nat → Int64} {fr : Int64} {un : Int64} {sb : Nat → Int64} {se : Nat → Int64} {so : Nat → Int32} {sc : Int32} {wb : Nat → Int64} {we : Nat → Int64} {wo : Nat → Int32} {wc : Int32} {fb : Nat → Int64} {fe : Nat → Int64} {fo : Nat → Int32} {fc : Int32} {rm : Nat → Int32} {ac : Int32} {rf : Int32} {kn : Int32} {mce : Nat → Int64} {mfr : Int64} {mun : Int64} {mbe : Nat → Int64} {men : Nat → Int64} {mov : Nat → Int32} {msp : Int32} {mwb : Nat → Int64} {mwe : Nat → Int64} {mwi : Int32} {mac : Int32} {mre : Int32} {mkn : Int32} {mth : Int32} {on : Int64} (h5 : 5 * j + 5 ≤ L) (hL : L ≤ 320) (hI : kIv ce fr un sb se so sc wb we wo wc fb fe fo fc rm ac rf kn mce mfr mun mbe men mov msp mwb mwe mwi mac mre mkn mth on) : flaw_1305 L xs (KInv kIv (nI (5 * j))) ce fr un sb se so sc wb we wo wc fb fe fo fc rm ac rf kn mce mfr mun mbe men mov msp mwb mwe mwi mac mre mkn mth on (nI (5 * j)) = some 1 := by
  obtain ⟨hc, x1, x2, hf, hu, hfu, ⟨n, hn, x3, x4, hS⟩, ⟨w, hw, x5, x6, hW⟩, x7, x8, x9⟩ := hI
  subst x1; subst x2; subst x3; subst x4; subst x5; subst x6; subst x7; subst x8; subst x9
  simp only [flaw_1305, f_X1_spans, f_X0_count, f_X3_spans, Option.bind_some]
  exact KInv_yes ⟨hc, rfl, rfl, hf, hu, hfu, ⟨n, hn, rfl, rfl, hS⟩, ⟨w, hw, rfl, rfl, hW⟩, rfl, rfl, rfl⟩
set_option maxHeartbeats 4000000 in
theorem hC_26 {L j : Nat} {xs : Nat → Int32} {ce : Nat → Int64} {fr : Int64} {un : Int64} {sb : Nat → Int64} {se : Nat → Int64} {so : Nat → Int32} {sc : Int32} {wb : Nat → Int64} {we : Nat → Int64} {wo : Nat → Int32} {wc : Int32} {fb : Nat → Int64} {fe : Nat → Int64} {fo : Nat → Int32} {fc : Int32} {rm : Nat → Int32} {ac : Int32} {rf : Int32} {kn : Int32} {mce : Nat → Int64} {mfr : Int64} {mun : Int64} {mbe : Nat → Int64} {men : Nat → Int64} {mov : Nat → Int32} {msp : Int32} {mwb : Nat → Int64} {mwe : Nat → Int64} {mwi : Int32} {mac : Int32} {mre : Int32} {mkn : Int32} {mth : Int32} {on : Int64} (h5 : 5 * j + 5 ≤ L) (hL : L ≤ 320) (hI : kIv ce fr un sb se so sc wb we wo wc fb fe fo fc rm ac rf kn mce mfr mun mbe men mov msp mwb mwe mwi mac mre mkn mth on) : flaw_1318 L xs (KInv kIv (nI (5 * j))) ce fr un sb se so sc wb we wo wc fb fe fo fc rm ac rf kn mce mfr mun mbe men mov msp mwb mwe mwi mac mre mkn mth on (nI (5 * j)) = some 1 := by
  obtain ⟨hc, x1, x2, hf, hu, hfu, ⟨n, hn, x3, x4, hS⟩, ⟨w, hw, x5, x6, hW⟩, x7, x8, x9⟩ := hI
  subst x1; subst x2; subst x3; subst x4; subst x5; subst x6; subst x7; subst x8; subst x9
  have a1 : ix (nI (5 * j) + 1) L := kixL (i := 1) h5 hL (by omega)
  have a2 : ix (nI (5 * j) + 2) L := kixL (i := 2) h5 hL (by omega)
  obtain ⟨r, r', e1, e3, ht, hv⟩ := ob_ofSpan (on := on) (p0 := xs (nI (5 * j) + 1).toNatClampNeg) (p1 := xs (nI (5 * j) + 2).toNatClampNeg) hS hn hf hu
  simp only [flaw_1318, if_pos a1, if_pos a2, e1, e3, Option.bind_some]
  exact KInv_yes ⟨hc, rfl, rfl, hf, hu, hfu, ⟨n, hn, rfl, rfl, hS⟩, ⟨w, hw, rfl, rfl, hW⟩, rfl, rfl, rfl⟩
set_option maxHeartbeats 4000000 in
theorem hC_27 {L j : Nat} {xs : Nat → Int32} {ce : Nat → Int64} {fr : Int64} {un : Int64} {sb : Nat → Int64} {se : Nat → Int64} {so : Nat → Int32} {sc : Int32} {wb : Nat → Int64} {we : Nat → Int64} {wo : Nat → Int32} {wc : Int32} {fb : Nat → Int64} {fe : Nat → Int64} {fo : Nat → Int32} {fc : Int32} {rm : Nat → Int32} {ac : Int32} {rf : Int32} {kn : Int32} {mce : Nat → Int64} {mfr : Int64} {mun : Int64} {mbe : Nat → Int64} {men : Nat → Int64} {mov : Nat → Int32} {msp : Int32} {mwb : Nat → Int64} {mwe : Nat → Int64} {mwi : Int32} {mac : Int32} {mre : Int32} {mkn : Int32} {mth : Int32} {on : Int64} (h5 : 5 * j + 5 ≤ L) (hL : L ≤ 320) (hI : kIv ce fr un sb se so sc wb we wo wc fb fe fo fc rm ac rf kn mce mfr mun mbe men mov msp mwb mwe mwi mac mre mkn mth on) : flaw_1358 L xs (KInv kIv (nI (5 * j))) ce fr un sb se so sc wb we wo wc fb fe fo fc rm ac rf kn mce mfr mun mbe men mov msp mwb mwe mwi mac mre mkn mth on (nI (5 * j)) = some 1 := by
  obtain ⟨hc, x1, x2, hf, hu, hfu, ⟨n, hn, x3, x4, hS⟩, ⟨w, hw, x5, x6, hW⟩, x7, x8, x9⟩ := hI
  subst x1; subst x2; subst x3; subst x4; subst x5; subst x6; subst x7; subst x8; subst x9
  have a1 : ix (nI (5 * j) + 1) L := kixL (i := 1) h5 hL (by omega)
  have a2 : ix (nI (5 * j) + 2) L := kixL (i := 2) h5 hL (by omega)
  obtain ⟨r, r', e1, e3, ht, hv⟩ := ob_meets (on := on) (p0 := xs (nI (5 * j) + 1).toNatClampNeg) (p1 := xs (nI (5 * j) + 2).toNatClampNeg) hS.row hn
  simp only [flaw_1358, if_pos a1, if_pos a2, e1, e3, Option.bind_some]
  exact KInv_yes ⟨hc, rfl, rfl, hf, hu, hfu, ⟨n, hn, rfl, rfl, hS⟩, ⟨w, hw, rfl, rfl, hW⟩, rfl, rfl, rfl⟩
set_option maxHeartbeats 4000000 in
theorem hC_28 {L j : Nat} {xs : Nat → Int32} {ce : Nat → Int64} {fr : Int64} {un : Int64} {sb : Nat → Int64} {se : Nat → Int64} {so : Nat → Int32} {sc : Int32} {wb : Nat → Int64} {we : Nat → Int64} {wo : Nat → Int32} {wc : Int32} {fb : Nat → Int64} {fe : Nat → Int64} {fo : Nat → Int32} {fc : Int32} {rm : Nat → Int32} {ac : Int32} {rf : Int32} {kn : Int32} {mce : Nat → Int64} {mfr : Int64} {mun : Int64} {mbe : Nat → Int64} {men : Nat → Int64} {mov : Nat → Int32} {msp : Int32} {mwb : Nat → Int64} {mwe : Nat → Int64} {mwi : Int32} {mac : Int32} {mre : Int32} {mkn : Int32} {mth : Int32} {on : Int64} (h5 : 5 * j + 5 ≤ L) (hL : L ≤ 320) (hI : kIv ce fr un sb se so sc wb we wo wc fb fe fo fc rm ac rf kn mce mfr mun mbe men mov msp mwb mwe mwi mac mre mkn mth on) : flaw_1398 L xs (KInv kIv (nI (5 * j))) ce fr un sb se so sc wb we wo wc fb fe fo fc rm ac rf kn mce mfr mun mbe men mov msp mwb mwe mwi mac mre mkn mth on (nI (5 * j)) = some 1 := by
  obtain ⟨hc, x1, x2, hf, hu, hfu, ⟨n, hn, x3, x4, hS⟩, ⟨w, hw, x5, x6, hW⟩, x7, x8, x9⟩ := hI
  subst x1; subst x2; subst x3; subst x4; subst x5; subst x6; subst x7; subst x8; subst x9
  obtain ⟨a, e1, e3⟩ := ob_clashes hS.row hn
  simp only [flaw_1398, e1, e3, Option.bind_some]
  exact KInv_yes ⟨hc, rfl, rfl, hf, hu, hfu, ⟨n, hn, rfl, rfl, hS⟩, ⟨w, hw, rfl, rfl, hW⟩, rfl, rfl, rfl⟩
set_option maxHeartbeats 4000000 in
theorem hC_29 {L j : Nat} {xs : Nat → Int32} {ce : Nat → Int64} {fr : Int64} {un : Int64} {sb : Nat → Int64} {se : Nat → Int64} {so : Nat → Int32} {sc : Int32} {wb : Nat → Int64} {we : Nat → Int64} {wo : Nat → Int32} {wc : Int32} {fb : Nat → Int64} {fe : Nat → Int64} {fo : Nat → Int32} {fc : Int32} {rm : Nat → Int32} {ac : Int32} {rf : Int32} {kn : Int32} {mce : Nat → Int64} {mfr : Int64} {mun : Int64} {mbe : Nat → Int64} {men : Nat → Int64} {mov : Nat → Int32} {msp : Int32} {mwb : Nat → Int64} {mwe : Nat → Int64} {mwi : Int32} {mac : Int32} {mre : Int32} {mkn : Int32} {mth : Int32} {on : Int64} (h5 : 5 * j + 5 ≤ L) (hL : L ≤ 320) (hI : kIv ce fr un sb se so sc wb we wo wc fb fe fo fc rm ac rf kn mce mfr mun mbe men mov msp mwb mwe mwi mac mre mkn mth on) : flaw_1411 L xs (KInv kIv (nI (5 * j))) ce fr un sb se so sc wb we wo wc fb fe fo fc rm ac rf kn mce mfr mun mbe men mov msp mwb mwe mwi mac mre mkn mth on (nI (5 * j)) = some 1 := by
  obtain ⟨hc, x1, x2, hf, hu, hfu, ⟨n, hn, x3, x4, hS⟩, ⟨w, hw, x5, x6, hW⟩, x7, x8, x9⟩ := hI
  subst x1; subst x2; subst x3; subst x4; subst x5; subst x6; subst x7; subst x8; subst x9
  have a1 : ix (nI (5 * j) + 1) L := kixL (i := 1) h5 hL (by omega)
  obtain ⟨r, r', e1, e3, ht, hv⟩ := ob_at (on := on) (p0 := xs (nI (5 * j) + 1).toNatClampNeg) hc hS.row hn
  simp only [flaw_1411, if_pos a1, e1, e3, Option.bind_some]
  exact KInv_yes ⟨hc, rfl, rfl, hf, hu, hfu, ⟨n, hn, rfl, rfl, hS⟩, ⟨w, hw, rfl, rfl, hW⟩, rfl, rfl, rfl⟩
set_option maxHeartbeats 4000000 in
theorem hC_30 {L j : Nat} {xs : Nat → Int32} {ce : Nat → Int64} {fr : Int64} {un : Int64} {sb : Nat → Int64} {se : Nat → Int64} {so : Nat → Int32} {sc : Int32} {wb : Nat → Int64} {we : Nat → Int64} {wo : Nat → Int32} {wc : Int32} {fb : Nat → Int64} {fe : Nat → Int64} {fo : Nat → Int32} {fc : Int32} {rm : Nat → Int32} {ac : Int32} {rf : Int32} {kn : Int32} {mce : Nat → Int64} {mfr : Int64} {mun : Int64} {mbe : Nat → Int64} {men : Nat → Int64} {mov : Nat → Int32} {msp : Int32} {mwb : Nat → Int64} {mwe : Nat → Int64} {mwi : Int32} {mac : Int32} {mre : Int32} {mkn : Int32} {mth : Int32} {on : Int64} (h5 : 5 * j + 5 ≤ L) (hL : L ≤ 320) (hI : kIv ce fr un sb se so sc wb we wo wc fb fe fo fc rm ac rf kn mce mfr mun mbe men mov msp mwb mwe mwi mac mre mkn mth on) : flaw_1439 L xs (KInv kIv (nI (5 * j))) ce fr un sb se so sc wb we wo wc fb fe fo fc rm ac rf kn mce mfr mun mbe men mov msp mwb mwe mwi mac mre mkn mth on (nI (5 * j)) = some 1 := by
  obtain ⟨hc, x1, x2, hf, hu, hfu, ⟨n, hn, x3, x4, hS⟩, ⟨w, hw, x5, x6, hW⟩, x7, x8, x9⟩ := hI
  subst x1; subst x2; subst x3; subst x4; subst x5; subst x6; subst x7; subst x8; subst x9
  obtain ⟨a, e1, e3⟩ := ob_deepest hS.row hn
  simp only [flaw_1439, e1, e3, Option.bind_some]
  exact KInv_yes ⟨hc, rfl, rfl, hf, hu, hfu, ⟨n, hn, rfl, rfl, hS⟩, ⟨w, hw, rfl, rfl, hW⟩, rfl, rfl, rfl⟩
set_option maxHeartbeats 4000000 in
theorem hC_31 {L j : Nat} {xs : Nat → Int32} {ce : Nat → Int64} {fr : Int64} {un : Int64} {sb : Nat → Int64} {se : Nat → Int64} {so : Nat → Int32} {sc : Int32} {wb : Nat → Int64} {we : Nat → Int64} {wo : Nat → Int32} {wc : Int32} {fb : Nat → Int64} {fe : Nat → Int64} {fo : Nat → Int32} {fc : Int32} {rm : Nat → Int32} {ac : Int32} {rf : Int32} {kn : Int32} {mce : Nat → Int64} {mfr : Int64} {mun : Int64} {mbe : Nat → Int64} {men : Nat → Int64} {mov : Nat → Int32} {msp : Int32} {mwb : Nat → Int64} {mwe : Nat → Int64} {mwi : Int32} {mac : Int32} {mre : Int32} {mkn : Int32} {mth : Int32} {on : Int64} (h5 : 5 * j + 5 ≤ L) (hL : L ≤ 320) (hI : kIv ce fr un sb se so sc wb we wo wc fb fe fo fc rm ac rf kn mce mfr mun mbe men mov msp mwb mwe mwi mac mre mkn mth on) : flaw_1452 L xs (KInv kIv (nI (5 * j))) ce fr un sb se so sc wb we wo wc fb fe fo fc rm ac rf kn mce mfr mun mbe men mov msp mwb mwe mwi mac mre mkn mth on (nI (5 * j)) = some 1 := by
  obtain ⟨hc, x1, x2, hf, hu, hfu, ⟨n, hn, x3, x4, hS⟩, ⟨w, hw, x5, x6, hW⟩, x7, x8, x9⟩ := hI
  subst x1; subst x2; subst x3; subst x4; subst x5; subst x6; subst x7; subst x8; subst x9
  have a1 : ix (nI (5 * j) + 1) L := kixL (i := 1) h5 hL (by omega)
  have a2 : ix (nI (5 * j) + 2) L := kixL (i := 2) h5 hL (by omega)
  obtain ⟨r, r', e1, e3, ht, hv⟩ := ob_isFree (fr := fr) (un := un) (on := on) (p0 := xs (nI (5 * j) + 1).toNatClampNeg) (p1 := xs (nI (5 * j) + 2).toNatClampNeg) hc hS.row hn
  simp only [flaw_1452, if_pos a1, if_pos a2, e1, e3, Option.bind_some]
  exact KInv_yes ⟨hc, rfl, rfl, hf, hu, hfu, ⟨n, hn, rfl, rfl, hS⟩, ⟨w, hw, rfl, rfl, hW⟩, rfl, rfl, rfl⟩
set_option maxHeartbeats 4000000 in
theorem hC_32 {L j : Nat} {xs : Nat → Int32} {ce : Nat → Int64} {fr : Int64} {un : Int64} {sb : Nat → Int64} {se : Nat → Int64} {so : Nat → Int32} {sc : Int32} {wb : Nat → Int64} {we : Nat → Int64} {wo : Nat → Int32} {wc : Int32} {fb : Nat → Int64} {fe : Nat → Int64} {fo : Nat → Int32} {fc : Int32} {rm : Nat → Int32} {ac : Int32} {rf : Int32} {kn : Int32} {mce : Nat → Int64} {mfr : Int64} {mun : Int64} {mbe : Nat → Int64} {men : Nat → Int64} {mov : Nat → Int32} {msp : Int32} {mwb : Nat → Int64} {mwe : Nat → Int64} {mwi : Int32} {mac : Int32} {mre : Int32} {mkn : Int32} {mth : Int32} {on : Int64} (h5 : 5 * j + 5 ≤ L) (hL : L ≤ 320) (hI : kIv ce fr un sb se so sc wb we wo wc fb fe fo fc rm ac rf kn mce mfr mun mbe men mov msp mwb mwe mwi mac mre mkn mth on) : flaw_1492 L xs (KInv kIv (nI (5 * j))) ce fr un sb se so sc wb we wo wc fb fe fo fc rm ac rf kn mce mfr mun mbe men mov msp mwb mwe mwi mac mre mkn mth on (nI (5 * j)) = some 1 := by
  obtain ⟨hc, x1, x2, hf, hu, hfu, ⟨n, hn, x3, x4, hS⟩, ⟨w, hw, x5, x6, hW⟩, x7, x8, x9⟩ := hI
  subst x1; subst x2; subst x3; subst x4; subst x5; subst x6; subst x7; subst x8; subst x9
  obtain ⟨r, r', e1, e3, hv⟩ := ob_frees (fb := fb) (fe := fe) (fo := fo) (fc := fc) hS hn hf hu hfu
  simp only [flaw_1492, e1, e3, Option.bind_some]
  exact KInv_yes ⟨hc, rfl, rfl, hf, hu, hfu, ⟨n, hn, rfl, rfl, hS⟩, ⟨w, hw, rfl, rfl, hW⟩, rfl, rfl, rfl⟩
set_option maxHeartbeats 4000000 in
theorem hC_33 {L j : Nat} {xs : Nat → Int32} {ce : Nat → Int64} {fr : Int64} {un : Int64} {sb : Nat → Int64} {se : Nat → Int64} {so : Nat → Int32} {sc : Int32} {wb : Nat → Int64} {we : Nat → Int64} {wo : Nat → Int32} {wc : Int32} {fb : Nat → Int64} {fe : Nat → Int64} {fo : Nat → Int32} {fc : Int32} {rm : Nat → Int32} {ac : Int32} {rf : Int32} {kn : Int32} {mce : Nat → Int64} {mfr : Int64} {mun : Int64} {mbe : Nat → Int64} {men : Nat → Int64} {mov : Nat → Int32} {msp : Int32} {mwb : Nat → Int64} {mwe : Nat → Int64} {mwi : Int32} {mac : Int32} {mre : Int32} {mkn : Int32} {mth : Int32} {on : Int64} (h5 : 5 * j + 5 ≤ L) (hL : L ≤ 320) (hI : kIv ce fr un sb se so sc wb we wo wc fb fe fo fc rm ac rf kn mce mfr mun mbe men mov msp mwb mwe mwi mac mre mkn mth on) : flaw_1505 L xs (KInv kIv (nI (5 * j))) ce fr un sb se so sc wb we wo wc fb fe fo fc rm ac rf kn mce mfr mun mbe men mov msp mwb mwe mwi mac mre mkn mth on (nI (5 * j)) = some 1 := by
  obtain ⟨hc, x1, x2, hf, hu, hfu, ⟨n, hn, x3, x4, hS⟩, ⟨w, hw, x5, x6, hW⟩, x7, x8, x9⟩ := hI
  subst x1; subst x2; subst x3; subst x4; subst x5; subst x6; subst x7; subst x8; subst x9
  have a1 : ix (nI (5 * j) + 1) L := kixL (i := 1) h5 hL (by omega)
  have a2 : ix (nI (5 * j) + 2) L := kixL (i := 2) h5 hL (by omega)
  obtain ⟨r, r', e1, e3, ht, hv⟩ := ob_ofFree (fb := fb) (fe := fe) (fo := fo) (fc := fc) (on := on) (p0 := xs (nI (5 * j) + 1).toNatClampNeg) (p1 := xs (nI (5 * j) + 2).toNatClampNeg) hS hn hf hu hfu
  simp only [flaw_1505, if_pos a1, if_pos a2, e1, e3, Option.bind_some]
  exact KInv_yes ⟨hc, rfl, rfl, hf, hu, hfu, ⟨n, hn, rfl, rfl, hS⟩, ⟨w, hw, rfl, rfl, hW⟩, rfl, rfl, rfl⟩
set_option maxHeartbeats 4000000 in
theorem hC_34 {L j : Nat} {xs : Nat → Int32} {ce : Nat → Int64} {fr : Int64} {un : Int64} {sb : Nat → Int64} {se : Nat → Int64} {so : Nat → Int32} {sc : Int32} {wb : Nat → Int64} {we : Nat → Int64} {wo : Nat → Int32} {wc : Int32} {fb : Nat → Int64} {fe : Nat → Int64} {fo : Nat → Int32} {fc : Int32} {rm : Nat → Int32} {ac : Int32} {rf : Int32} {kn : Int32} {mce : Nat → Int64} {mfr : Int64} {mun : Int64} {mbe : Nat → Int64} {men : Nat → Int64} {mov : Nat → Int32} {msp : Int32} {mwb : Nat → Int64} {mwe : Nat → Int64} {mwi : Int32} {mac : Int32} {mre : Int32} {mkn : Int32} {mth : Int32} {on : Int64} (h5 : 5 * j + 5 ≤ L) (hL : L ≤ 320) (hI : kIv ce fr un sb se so sc wb we wo wc fb fe fo fc rm ac rf kn mce mfr mun mbe men mov msp mwb mwe mwi mac mre mkn mth on) : flaw_1545 L xs (KInv kIv (nI (5 * j))) ce fr un sb se so sc wb we wo wc fb fe fo fc rm ac rf kn mce mfr mun mbe men mov msp mwb mwe mwi mac mre mkn mth on (nI (5 * j)) = some 1 := by
  obtain ⟨hc, x1, x2, hf, hu, hfu, ⟨n, hn, x3, x4, hS⟩, ⟨w, hw, x5, x6, hW⟩, x7, x8, x9⟩ := hI
  subst x1; subst x2; subst x3; subst x4; subst x5; subst x6; subst x7; subst x8; subst x9
  have a1 : ix (nI (5 * j) + 1) L := kixL (i := 1) h5 hL (by omega)
  obtain ⟨r, r', e1, e3, ht, hv⟩ := ob_freeAt (fb := fb) (fe := fe) (fo := fo) (fc := fc) (on := on) (p0 := xs (nI (5 * j) + 1).toNatClampNeg) hc hS hn hf hu hfu
  simp only [flaw_1545, if_pos a1, e1, e3, Option.bind_some]
  exact KInv_yes ⟨hc, rfl, rfl, hf, hu, hfu, ⟨n, hn, rfl, rfl, hS⟩, ⟨w, hw, rfl, rfl, hW⟩, rfl, rfl, rfl⟩
set_option maxHeartbeats 4000000 in
theorem hC_35 {L j : Nat} {xs : Nat → Int32} {ce : Nat → Int64} {fr : Int64} {un : Int64} {sb : Nat → Int64} {se : Nat → Int64} {so : Nat → Int32} {sc : Int32} {wb : Nat → Int64} {we : Nat → Int64} {wo : Nat → Int32} {wc : Int32} {fb : Nat → Int64} {fe : Nat → Int64} {fo : Nat → Int32} {fc : Int32} {rm : Nat → Int32} {ac : Int32} {rf : Int32} {kn : Int32} {mce : Nat → Int64} {mfr : Int64} {mun : Int64} {mbe : Nat → Int64} {men : Nat → Int64} {mov : Nat → Int32} {msp : Int32} {mwb : Nat → Int64} {mwe : Nat → Int64} {mwi : Int32} {mac : Int32} {mre : Int32} {mkn : Int32} {mth : Int32} {on : Int64} (h5 : 5 * j + 5 ≤ L) (hL : L ≤ 320) (hI : kIv ce fr un sb se so sc wb we wo wc fb fe fo fc rm ac rf kn mce mfr mun mbe men mov msp mwb mwe mwi mac mre mkn mth on) : flaw_1573 L xs (KInv kIv (nI (5 * j))) ce fr un sb se so sc wb we wo wc fb fe fo fc rm ac rf kn mce mfr mun mbe men mov msp mwb mwe mwi mac mre mkn mth on (nI (5 * j)) = some 1 := by
  obtain ⟨hc, x1, x2, hf, hu, hfu, ⟨n, hn, x3, x4, hS⟩, ⟨w, hw, x5, x6, hW⟩, x7, x8, x9⟩ := hI
  subst x1; subst x2; subst x3; subst x4; subst x5; subst x6; subst x7; subst x8; subst x9
  have a1 : ix (nI (5 * j) + 1) L := kixL (i := 1) h5 hL (by omega)
  obtain ⟨r, r', e1, e3, ht, hv⟩ := ob_length (fb := fb) (fe := fe) (fo := fo) (fc := fc) (on := on) (p0 := xs (nI (5 * j) + 1).toNatClampNeg) hS hn hf hu hfu
  simp only [flaw_1573, if_pos a1, e1, e3, Option.bind_some]
  exact KInv_yes ⟨hc, rfl, rfl, hf, hu, hfu, ⟨n, hn, rfl, rfl, hS⟩, ⟨w, hw, rfl, rfl, hW⟩, rfl, rfl, rfl⟩
set_option maxHeartbeats 4000000 in
theorem hC_36 {L j : Nat} {xs : Nat → Int32} {ce : Nat → Int64} {fr : Int64} {un : Int64} {sb : Nat → Int64} {se : Nat → Int64} {so : Nat → Int32} {sc : Int32} {wb : Nat → Int64} {we : Nat → Int64} {wo : Nat → Int32} {wc : Int32} {fb : Nat → Int64} {fe : Nat → Int64} {fo : Nat → Int32} {fc : Int32} {rm : Nat → Int32} {ac : Int32} {rf : Int32} {kn : Int32} {mce : Nat → Int64} {mfr : Int64} {mun : Int64} {mbe : Nat → Int64} {men : Nat → Int64} {mov : Nat → Int32} {msp : Int32} {mwb : Nat → Int64} {mwe : Nat → Int64} {mwi : Int32} {mac : Int32} {mre : Int32} {mkn : Int32} {mth : Int32} {on : Int64} (h5 : 5 * j + 5 ≤ L) (hL : L ≤ 320) (hI : kIv ce fr un sb se so sc wb we wo wc fb fe fo fc rm ac rf kn mce mfr mun mbe men mov msp mwb mwe mwi mac mre mkn mth on) : flaw_1601 L xs (KInv kIv (nI (5 * j))) ce fr un sb se so sc wb we wo wc fb fe fo fc rm ac rf kn mce mfr mun mbe men mov msp mwb mwe mwi mac mre mkn mth on (nI (5 * j)) = some 1 := by
  obtain ⟨hc, x1, x2, hf, hu, hfu, ⟨n, hn, x3, x4, hS⟩, ⟨w, hw, x5, x6, hW⟩, x7, x8, x9⟩ := hI
  subst x1; subst x2; subst x3; subst x4; subst x5; subst x6; subst x7; subst x8; subst x9
  simp only [flaw_1601, f_X1_wishes, f_X0_count, f_X3_wishes, Option.bind_some]
  exact KInv_yes ⟨hc, rfl, rfl, hf, hu, hfu, ⟨n, hn, rfl, rfl, hS⟩, ⟨w, hw, rfl, rfl, hW⟩, rfl, rfl, rfl⟩
set_option maxHeartbeats 4000000 in
theorem hC_37 {L j : Nat} {xs : Nat → Int32} {ce : Nat → Int64} {fr : Int64} {un : Int64} {sb : Nat → Int64} {se : Nat → Int64} {so : Nat → Int32} {sc : Int32} {wb : Nat → Int64} {we : Nat → Int64} {wo : Nat → Int32} {wc : Int32} {fb : Nat → Int64} {fe : Nat → Int64} {fo : Nat → Int32} {fc : Int32} {rm : Nat → Int32} {ac : Int32} {rf : Int32} {kn : Int32} {mce : Nat → Int64} {mfr : Int64} {mun : Int64} {mbe : Nat → Int64} {men : Nat → Int64} {mov : Nat → Int32} {msp : Int32} {mwb : Nat → Int64} {mwe : Nat → Int64} {mwi : Int32} {mac : Int32} {mre : Int32} {mkn : Int32} {mth : Int32} {on : Int64} (h5 : 5 * j + 5 ≤ L) (hL : L ≤ 320) (hI : kIv ce fr un sb se so sc wb we wo wc fb fe fo fc rm ac rf kn mce mfr mun mbe men mov msp mwb mwe mwi mac mre mkn mth on) : flaw_1614 L xs (KInv kIv (nI (5 * j))) ce fr un sb se so sc wb we wo wc fb fe fo fc rm ac rf kn mce mfr mun mbe men mov msp mwb mwe mwi mac mre mkn mth on (nI (5 * j)) = some 1 := by
  obtain ⟨hc, x1, x2, hf, hu, hfu, ⟨n, hn, x3, x4, hS⟩, ⟨w, hw, x5, x6, hW⟩, x7, x8, x9⟩ := hI
  subst x1; subst x2; subst x3; subst x4; subst x5; subst x6; subst x7; subst x8; subst x9
  have a1 : ix (nI (5 * j) + 1) L := kixL (i := 1) h5 hL (by omega)
  have a2 : ix (nI (5 * j) + 2) L := kixL (i := 2) h5 hL (by omega)
  obtain ⟨r, r', e1, e3, ht, hv⟩ := ob_ofWish (on := on) (p0 := xs (nI (5 * j) + 1).toNatClampNeg) (p1 := xs (nI (5 * j) + 2).toNatClampNeg) hW hw
  simp only [flaw_1614, if_pos a1, if_pos a2, e1, e3, Option.bind_some]
  exact KInv_yes ⟨hc, rfl, rfl, hf, hu, hfu, ⟨n, hn, rfl, rfl, hS⟩, ⟨w, hw, rfl, rfl, hW⟩, rfl, rfl, rfl⟩
set_option maxHeartbeats 4000000 in
theorem hC_38 {L j : Nat} {xs : Nat → Int32} {ce : Nat → Int64} {fr : Int64} {un : Int64} {sb : Nat → Int64} {se : Nat → Int64} {so : Nat → Int32} {sc : Int32} {wb : Nat → Int64} {we : Nat → Int64} {wo : Nat → Int32} {wc : Int32} {fb : Nat → Int64} {fe : Nat → Int64} {fo : Nat → Int32} {fc : Int32} {rm : Nat → Int32} {ac : Int32} {rf : Int32} {kn : Int32} {mce : Nat → Int64} {mfr : Int64} {mun : Int64} {mbe : Nat → Int64} {men : Nat → Int64} {mov : Nat → Int32} {msp : Int32} {mwb : Nat → Int64} {mwe : Nat → Int64} {mwi : Int32} {mac : Int32} {mre : Int32} {mkn : Int32} {mth : Int32} {on : Int64} (h5 : 5 * j + 5 ≤ L) (hL : L ≤ 320) (hI : kIv ce fr un sb se so sc wb we wo wc fb fe fo fc rm ac rf kn mce mfr mun mbe men mov msp mwb mwe mwi mac mre mkn mth on) : flaw_1654 L xs (KInv kIv (nI (5 * j))) ce fr un sb se so sc wb we wo wc fb fe fo fc rm ac rf kn mce mfr mun mbe men mov msp mwb mwe mwi mac mre mkn mth on (nI (5 * j)) = some 1 := by
  obtain ⟨hc, x1, x2, hf, hu, hfu, ⟨n, hn, x3, x4, hS⟩, ⟨w, hw, x5, x6, hW⟩, x7, x8, x9⟩ := hI
  subst x1; subst x2; subst x3; subst x4; subst x5; subst x6; subst x7; subst x8; subst x9
  have a1 : ix (nI (5 * j) + 1) L := kixL (i := 1) h5 hL (by omega)
  obtain ⟨r, r', e1, e3, ht, hv⟩ := ob_isApart (on := on) (p0 := xs (nI (5 * j) + 1).toNatClampNeg) hW hw
  simp only [flaw_1654, if_pos a1, e1, e3, Option.bind_some]
  exact KInv_yes ⟨hc, rfl, rfl, hf, hu, hfu, ⟨n, hn, rfl, rfl, hS⟩, ⟨w, hw, rfl, rfl, hW⟩, rfl, rfl, rfl⟩
set_option maxHeartbeats 4000000 in
theorem hC_39 {L j : Nat} {xs : Nat → Int32} {ce : Nat → Int64} {fr : Int64} {un : Int64} {sb : Nat → Int64} {se : Nat → Int64} {so : Nat → Int32} {sc : Int32} {wb : Nat → Int64} {we : Nat → Int64} {wo : Nat → Int32} {wc : Int32} {fb : Nat → Int64} {fe : Nat → Int64} {fo : Nat → Int32} {fc : Int32} {rm : Nat → Int32} {ac : Int32} {rf : Int32} {kn : Int32} {mce : Nat → Int64} {mfr : Int64} {mun : Int64} {mbe : Nat → Int64} {men : Nat → Int64} {mov : Nat → Int32} {msp : Int32} {mwb : Nat → Int64} {mwe : Nat → Int64} {mwi : Int32} {mac : Int32} {mre : Int32} {mkn : Int32} {mth : Int32} {on : Int64} (h5 : 5 * j + 5 ≤ L) (hL : L ≤ 320) (hI : kIv ce fr un sb se so sc wb we wo wc fb fe fo fc rm ac rf kn mce mfr mun mbe men mov msp mwb mwe mwi mac mre mkn mth on) : flaw_1682 L xs (KInv kIv (nI (5 * j))) ce fr un sb se so sc wb we wo wc fb fe fo fc rm ac rf kn mce mfr mun mbe men mov msp mwb mwe mwi mac mre mkn mth on (nI (5 * j)) = some 1 := by
  obtain ⟨hc, x1, x2, hf, hu, hfu, ⟨n, hn, x3, x4, hS⟩, ⟨w, hw, x5, x6, hW⟩, x7, x8, x9⟩ := hI
  subst x1; subst x2; subst x3; subst x4; subst x5; subst x6; subst x7; subst x8; subst x9
  obtain ⟨a, e1, e3⟩ := ob_chosen hW hw
  simp only [flaw_1682, e1, e3, Option.bind_some]
  exact KInv_yes ⟨hc, rfl, rfl, hf, hu, hfu, ⟨n, hn, rfl, rfl, hS⟩, ⟨w, hw, rfl, rfl, hW⟩, rfl, rfl, rfl⟩
set_option maxHeartbeats 4000000 in
theorem hC_40 {L j : Nat} {xs : Nat → Int32} {ce : Nat → Int64} {fr : Int64} {un : Int64} {sb : Nat → Int64} {se : Nat → Int64} {so : Nat → Int32} {sc : Int32} {wb : Nat → Int64} {we : Nat → Int64} {wo : Nat → Int32} {wc : Int32} {fb : Nat → Int64} {fe : Nat → Int64} {fo : Nat → Int32} {fc : Int32} {rm : Nat → Int32} {ac : Int32} {rf : Int32} {kn : Int32} {mce : Nat → Int64} {mfr : Int64} {mun : Int64} {mbe : Nat → Int64} {men : Nat → Int64} {mov : Nat → Int32} {msp : Int32} {mwb : Nat → Int64} {mwe : Nat → Int64} {mwi : Int32} {mac : Int32} {mre : Int32} {mkn : Int32} {mth : Int32} {on : Int64} (h5 : 5 * j + 5 ≤ L) (hL : L ≤ 320) (hI : kIv ce fr un sb se so sc wb we wo wc fb fe fo fc rm ac rf kn mce mfr mun mbe men mov msp mwb mwe mwi mac mre mkn mth on) : flaw_1695 L xs (KInv kIv (nI (5 * j))) ce fr un sb se so sc wb we wo wc fb fe fo fc rm ac rf kn mce mfr mun mbe men mov msp mwb mwe mwi mac mre mkn mth on (nI (5 * j)) = some 1 := by
  obtain ⟨hc, x1, x2, hf, hu, hfu, ⟨n, hn, x3, x4, hS⟩, ⟨w, hw, x5, x6, hW⟩, x7, x8, x9⟩ := hI
  subst x1; subst x2; subst x3; subst x4; subst x5; subst x6; subst x7; subst x8; subst x9
  have a1 : ix (nI (5 * j) + 1) L := kixL (i := 1) h5 hL (by omega)
  obtain ⟨r, r', e1, e3, ht, hv⟩ := ob_most (on := on) (p0 := xs (nI (5 * j) + 1).toNatClampNeg) hW hw
  simp only [flaw_1695, if_pos a1, e1, e3, Option.bind_some]
  exact KInv_yes ⟨hc, rfl, rfl, hf, hu, hfu, ⟨n, hn, rfl, rfl, hS⟩, ⟨w, hw, rfl, rfl, hW⟩, rfl, rfl, rfl⟩
set_option maxHeartbeats 4000000 in
theorem hC_41 {L j : Nat} {xs : Nat → Int32} {ce : Nat → Int64} {fr : Int64} {un : Int64} {sb : Nat → Int64} {se : Nat → Int64} {so : Nat → Int32} {sc : Int32} {wb : Nat → Int64} {we : Nat → Int64} {wo : Nat → Int32} {wc : Int32} {fb : Nat → Int64} {fe : Nat → Int64} {fo : Nat → Int32} {fc : Int32} {rm : Nat → Int32} {ac : Int32} {rf : Int32} {kn : Int32} {mce : Nat → Int64} {mfr : Int64} {mun : Int64} {mbe : Nat → Int64} {men : Nat → Int64} {mov : Nat → Int32} {msp : Int32} {mwb : Nat → Int64} {mwe : Nat → Int64} {mwi : Int32} {mac : Int32} {mre : Int32} {mkn : Int32} {mth : Int32} {on : Int64} (h5 : 5 * j + 5 ≤ L) (hL : L ≤ 320) (hI : kIv ce fr un sb se so sc wb we wo wc fb fe fo fc rm ac rf kn mce mfr mun mbe men mov msp mwb mwe mwi mac mre mkn mth on) : flaw_1723 L xs (KInv kIv (nI (5 * j))) ce fr un sb se so sc wb we wo wc fb fe fo fc rm ac rf kn mce mfr mun mbe men mov msp mwb mwe mwi mac mre mkn mth on (nI (5 * j)) = some 1 := by
  obtain ⟨hc, x1, x2, hf, hu, hfu, ⟨n, hn, x3, x4, hS⟩, ⟨w, hw, x5, x6, hW⟩, x7, x8, x9⟩ := hI
  subst x1; subst x2; subst x3; subst x4; subst x5; subst x6; subst x7; subst x8; subst x9
  obtain ⟨a, e1, e3⟩ := ob_crowd hW hw
  simp only [flaw_1723, e1, e3, Option.bind_some]
  exact KInv_yes ⟨hc, rfl, rfl, hf, hu, hfu, ⟨n, hn, rfl, rfl, hS⟩, ⟨w, hw, rfl, rfl, hW⟩, rfl, rfl, rfl⟩
set_option maxHeartbeats 4000000 in
theorem hC_42 {L j : Nat} {xs : Nat → Int32} {ce : Nat → Int64} {fr : Int64} {un : Int64} {sb : Nat → Int64} {se : Nat → Int64} {so : Nat → Int32} {sc : Int32} {wb : Nat → Int64} {we : Nat → Int64} {wo : Nat → Int32} {wc : Int32} {fb : Nat → Int64} {fe : Nat → Int64} {fo : Nat → Int32} {fc : Int32} {rm : Nat → Int32} {ac : Int32} {rf : Int32} {kn : Int32} {mce : Nat → Int64} {mfr : Int64} {mun : Int64} {mbe : Nat → Int64} {men : Nat → Int64} {mov : Nat → Int32} {msp : Int32} {mwb : Nat → Int64} {mwe : Nat → Int64} {mwi : Int32} {mac : Int32} {mre : Int32} {mkn : Int32} {mth : Int32} {on : Int64} (h5 : 5 * j + 5 ≤ L) (hL : L ≤ 320) (hI : kIv ce fr un sb se so sc wb we wo wc fb fe fo fc rm ac rf kn mce mfr mun mbe men mov msp mwb mwe mwi mac mre mkn mth on) : flaw_1736 L xs (KInv kIv (nI (5 * j))) ce fr un sb se so sc wb we wo wc fb fe fo fc rm ac rf kn mce mfr mun mbe men mov msp mwb mwe mwi mac mre mkn mth on (nI (5 * j)) = some 1 := by
  obtain ⟨hc, x1, x2, hf, hu, hfu, ⟨n, hn, x3, x4, hS⟩, ⟨w, hw, x5, x6, hW⟩, x7, x8, x9⟩ := hI
  subst x1; subst x2; subst x3; subst x4; subst x5; subst x6; subst x7; subst x8; subst x9
  have a1 : ix (nI (5 * j) + 1) L := kixL (i := 1) h5 hL (by omega)
  obtain ⟨r, r', e1, e3, ht, hv⟩ := ob_room (rm := rm) (on := on) (p0 := xs (nI (5 * j) + 1).toNatClampNeg) hW hw
  simp only [flaw_1736, if_pos a1, e1, e3, Option.bind_some]
  exact KInv_yes ⟨hc, rfl, rfl, hf, hu, hfu, ⟨n, hn, rfl, rfl, hS⟩, ⟨w, hw, rfl, rfl, hW⟩, rfl, rfl, rfl⟩
set_option maxHeartbeats 4000000 in
theorem hC_43 {L j : Nat} {xs : Nat → Int32} {ce : Nat → Int64} {fr : Int64} {un : Int64} {sb : Nat → Int64} {se : Nat → Int64} {so : Nat → Int32} {sc : Int32} {wb : Nat → Int64} {we : Nat → Int64} {wo : Nat → Int32} {wc : Int32} {fb : Nat → Int64} {fe : Nat → Int64} {fo : Nat → Int32} {fc : Int32} {rm : Nat → Int32} {ac : Int32} {rf : Int32} {kn : Int32} {mce : Nat → Int64} {mfr : Int64} {mun : Int64} {mbe : Nat → Int64} {men : Nat → Int64} {mov : Nat → Int32} {msp : Int32} {mwb : Nat → Int64} {mwe : Nat → Int64} {mwi : Int32} {mac : Int32} {mre : Int32} {mkn : Int32} {mth : Int32} {on : Int64} (h5 : 5 * j + 5 ≤ L) (hL : L ≤ 320) (hI : kIv ce fr un sb se so sc wb we wo wc fb fe fo fc rm ac rf kn mce mfr mun mbe men mov msp mwb mwe mwi mac mre mkn mth on) : flaw_1764 L xs (KInv kIv (nI (5 * j))) ce fr un sb se so sc wb we wo wc fb fe fo fc rm ac rf kn mce mfr mun mbe men mov msp mwb mwe mwi mac mre mkn mth on (nI (5 * j)) = some 1 := by
  obtain ⟨hc, x1, x2, hf, hu, hfu, ⟨n, hn, x3, x4, hS⟩, ⟨w, hw, x5, x6, hW⟩, x7, x8, x9⟩ := hI
  subst x1; subst x2; subst x3; subst x4; subst x5; subst x6; subst x7; subst x8; subst x9
  obtain ⟨r, r', e1, e3, hv⟩ := ob_rooms (rm := rm) hW hw
  simp only [flaw_1764, e1, e3, Option.bind_some]
  exact KInv_yes ⟨hc, rfl, rfl, hf, hu, hfu, ⟨n, hn, rfl, rfl, hS⟩, ⟨w, hw, rfl, rfl, hW⟩, rfl, rfl, rfl⟩
set_option maxHeartbeats 4000000 in
theorem hC_44 {L j : Nat} {xs : Nat → Int32} {ce : Nat → Int64} {fr : Int64} {un : Int64} {sb : Nat → Int64} {se : Nat → Int64} {so : Nat → Int32} {sc : Int32} {wb : Nat → Int64} {we : Nat → Int64} {wo : Nat → Int32} {wc : Int32} {fb : Nat → Int64} {fe : Nat → Int64} {fo : Nat → Int32} {fc : Int32} {rm : Nat → Int32} {ac : Int32} {rf : Int32} {kn : Int32} {mce : Nat → Int64} {mfr : Int64} {mun : Int64} {mbe : Nat → Int64} {men : Nat → Int64} {mov : Nat → Int32} {msp : Int32} {mwb : Nat → Int64} {mwe : Nat → Int64} {mwi : Int32} {mac : Int32} {mre : Int32} {mkn : Int32} {mth : Int32} {on : Int64} (h5 : 5 * j + 5 ≤ L) (hL : L ≤ 320) (hI : kIv ce fr un sb se so sc wb we wo wc fb fe fo fc rm ac rf kn mce mfr mun mbe men mov msp mwb mwe mwi mac mre mkn mth on) : flaw_1777 L xs (KInv kIv (nI (5 * j))) ce fr un sb se so sc wb we wo wc fb fe fo fc rm ac rf kn mce mfr mun mbe men mov msp mwb mwe mwi mac mre mkn mth on (nI (5 * j)) = some 1 := by
  obtain ⟨hc, x1, x2, hf, hu, hfu, ⟨n, hn, x3, x4, hS⟩, ⟨w, hw, x5, x6, hW⟩, x7, x8, x9⟩ := hI
  subst x1; subst x2; subst x3; subst x4; subst x5; subst x6; subst x7; subst x8; subst x9
  have a1 : ix (nI (5 * j) + 1) L := kixL (i := 1) h5 hL (by omega)
  obtain ⟨r, r', e1, e3, ht, hv⟩ := ob_house (ac := ac) (rf := rf) (kn := kn) (on := on) (p0 := xs (nI (5 * j) + 1).toNatClampNeg)
  simp only [flaw_1777, if_pos a1, e1, e3, Option.bind_some]
  exact KInv_yes ⟨hc, rfl, rfl, hf, hu, hfu, ⟨n, hn, rfl, rfl, hS⟩, ⟨w, hw, rfl, rfl, hW⟩, rfl, rfl, rfl⟩
set_option maxHeartbeats 4000000 in
theorem hC_45 {L j : Nat} {xs : Nat → Int32} {ce : Nat → Int64} {fr : Int64} {un : Int64} {sb : Nat → Int64} {se : Nat → Int64} {so : Nat → Int32} {sc : Int32} {wb : Nat → Int64} {we : Nat → Int64} {wo : Nat → Int32} {wc : Int32} {fb : Nat → Int64} {fe : Nat → Int64} {fo : Nat → Int32} {fc : Int32} {rm : Nat → Int32} {ac : Int32} {rf : Int32} {kn : Int32} {mce : Nat → Int64} {mfr : Int64} {mun : Int64} {mbe : Nat → Int64} {men : Nat → Int64} {mov : Nat → Int32} {msp : Int32} {mwb : Nat → Int64} {mwe : Nat → Int64} {mwi : Int32} {mac : Int32} {mre : Int32} {mkn : Int32} {mth : Int32} {on : Int64} (h5 : 5 * j + 5 ≤ L) (hL : L ≤ 320) (hI : kIv ce fr un sb se so sc wb we wo wc fb fe fo fc rm ac rf kn mce mfr mun mbe men mov msp mwb mwe mwi mac mre mkn mth on) : flaw_1805 L xs (KInv kIv (nI (5 * j))) ce fr un sb se so sc wb we wo wc fb fe fo fc rm ac rf kn mce mfr mun mbe men mov msp mwb mwe mwi mac mre mkn mth on (nI (5 * j)) = some 1 := by
  obtain ⟨hc, x1, x2, hf, hu, hfu, ⟨n, hn, x3, x4, hS⟩, ⟨w, hw, x5, x6, hW⟩, x7, x8, x9⟩ := hI
  subst x1; subst x2; subst x3; subst x4; subst x5; subst x6; subst x7; subst x8; subst x9
  simp only [flaw_1805, f_X1_knock, f_X3_knock, Option.bind_some]
  exact KInv_yes ⟨hc, rfl, rfl, hf, hu, hfu, ⟨n, hn, rfl, rfl, hS⟩, ⟨w, hw, rfl, rfl, hW⟩, rfl, rfl, rfl⟩
set_option maxHeartbeats 4000000 in
theorem hC_46 {L j : Nat} {xs : Nat → Int32} {ce : Nat → Int64} {fr : Int64} {un : Int64} {sb : Nat → Int64} {se : Nat → Int64} {so : Nat → Int32} {sc : Int32} {wb : Nat → Int64} {we : Nat → Int64} {wo : Nat → Int32} {wc : Int32} {fb : Nat → Int64} {fe : Nat → Int64} {fo : Nat → Int32} {fc : Int32} {rm : Nat → Int32} {ac : Int32} {rf : Int32} {kn : Int32} {mce : Nat → Int64} {mfr : Int64} {mun : Int64} {mbe : Nat → Int64} {men : Nat → Int64} {mov : Nat → Int32} {msp : Int32} {mwb : Nat → Int64} {mwe : Nat → Int64} {mwi : Int32} {mac : Int32} {mre : Int32} {mkn : Int32} {mth : Int32} {on : Int64} (h5 : 5 * j + 5 ≤ L) (hL : L ≤ 320) (hI : kIv ce fr un sb se so sc wb we wo wc fb fe fo fc rm ac rf kn mce mfr mun mbe men mov msp mwb mwe mwi mac mre mkn mth on) : flaw_1818 L xs (KInv kIv (nI (5 * j))) ce fr un sb se so sc wb we wo wc fb fe fo fc rm ac rf kn mce mfr mun mbe men mov msp mwb mwe mwi mac mre mkn mth on (nI (5 * j)) = some 1 := by
  obtain ⟨hc, x1, x2, hf, hu, hfu, ⟨n, hn, x3, x4, hS⟩, ⟨w, hw, x5, x6, hW⟩, x7, x8, x9⟩ := hI
  subst x1; subst x2; subst x3; subst x4; subst x5; subst x6; subst x7; subst x8; subst x9
  obtain ⟨z, fb', fe', fo', fc', rm', e1, e3⟩ := sound_both (fb := fb) (fe := fe) (fo := fo) (fc := fc) (rm := rm) hS hn hf hu hfu hW hw
  simp only [flaw_1818, e1, e3, Option.bind_some]
  exact KInv_yes ⟨hc, rfl, rfl, hf, hu, hfu, ⟨n, hn, rfl, rfl, hS⟩, ⟨w, hw, rfl, rfl, hW⟩, rfl, rfl, rfl⟩
set_option maxHeartbeats 4000000 in
theorem hC_47 {L j : Nat} {xs : Nat → Int32} {ce : Nat → Int64} {fr : Int64} {un : Int64} {sb : Nat → Int64} {se : Nat → Int64} {so : Nat → Int32} {sc : Int32} {wb : Nat → Int64} {we : Nat → Int64} {wo : Nat → Int32} {wc : Int32} {fb : Nat → Int64} {fe : Nat → Int64} {fo : Nat → Int32} {fc : Int32} {rm : Nat → Int32} {ac : Int32} {rf : Int32} {kn : Int32} {mce : Nat → Int64} {mfr : Int64} {mun : Int64} {mbe : Nat → Int64} {men : Nat → Int64} {mov : Nat → Int32} {msp : Int32} {mwb : Nat → Int64} {mwe : Nat → Int64} {mwi : Int32} {mac : Int32} {mre : Int32} {mkn : Int32} {mth : Int32} {on : Int64} (h5 : 5 * j + 5 ≤ L) (hL : L ≤ 320) (hI : kIv ce fr un sb se so sc wb we wo wc fb fe fo fc rm ac rf kn mce mfr mun mbe men mov msp mwb mwe mwi mac mre mkn mth on) : flaw_1831 L xs (KInv kIv (nI (5 * j))) ce fr un sb se so sc wb we wo wc fb fe fo fc rm ac rf kn mce mfr mun mbe men mov msp mwb mwe mwi mac mre mkn mth on (nI (5 * j)) = some 1 := by
  obtain ⟨hc, x1, x2, hf, hu, hfu, ⟨n, hn, x3, x4, hS⟩, ⟨w, hw, x5, x6, hW⟩, x7, x8, x9⟩ := hI
  subst x1; subst x2; subst x3; subst x4; subst x5; subst x6; subst x7; subst x8; subst x9
  obtain ⟨d, fb', fe', fo', fc', rm', e1, e3⟩ := digest_both (fb := fb) (fe := fe) (fo := fo) (fc := fc) (rm := rm) (ac := ac) (rf := rf) (kn := kn) hc hS hn hf hu hfu hW hw
  simp only [flaw_1831, e1, e3, Option.bind_some]
  first | (rw [if_pos rfl]; exact KInv_yes ⟨hc, rfl, rfl, hf, hu, hfu, ⟨n, hn, rfl, rfl, hS⟩, ⟨w, hw, rfl, rfl, hW⟩, rfl, rfl, rfl⟩) | (rw [if_pos hv]; exact KInv_yes ⟨hc, rfl, rfl, hf, hu, hfu, ⟨n, hn, rfl, rfl, hS⟩, ⟨w, hw, rfl, rfl, hW⟩, rfl, rfl, rfl⟩) | exact KInv_yes ⟨hc, rfl, rfl, hf, hu, hfu, ⟨n, hn, rfl, rfl, hS⟩, ⟨w, hw, rfl, rfl, hW⟩, rfl, rfl, rfl⟩
end
-- 90.main.lean.txt
section
theorem hC_all : ∀ (L : Nat) (xs : Nat → Int32) (k j : Nat) (ce : Nat → Int64) (fr : Int64) (un : Int64) (sb : Nat → Int64) (se : Nat → Int64) (so : Nat → Int32) (sc : Int32) (wb : Nat → Int64) (we : Nat → Int64) (wo : Nat → Int32) (wc : Int32) (fb : Nat → Int64) (fe : Nat → Int64) (fo : Nat → Int32) (fc : Int32) (rm : Nat → Int32) (ac : Int32) (rf : Int32) (kn : Int32) (mce : Nat → Int64) (mfr : Int64) (mun : Int64) (mbe : Nat → Int64) (men : Nat → Int64) (mov : Nat → Int32) (msp : Int32) (mwb : Nat → Int64) (mwe : Nat → Int64) (mwi : Int32) (mac : Int32) (mre : Int32) (mkn : Int32) (mth : Int32) (on : Int64), 5 * j + 5 ≤ L → L ≤ 320 → kIv ce fr un sb se so sc wb we wo wc fb fe fo fc rm ac rf kn mce mfr mun mbe men mov msp mwb mwe mwi mac mre mkn mth on → flawAt k L xs (KInv kIv (nI (5 * j))) ce fr un sb se so sc wb we wo wc fb fe fo fc rm ac rf kn mce mfr mun mbe men mov msp mwb mwe mwi mac mre mkn mth on (nI (5 * j)) = some 1 := by
  intro L xs k j ce fr un sb se so sc wb we wo wc fb fe fo fc rm ac rf kn mce mfr mun mbe men mov msp mwb mwe mwi mac mre mkn mth on h5 hL hI
  match k with
  | 0 => exact hC_0 (xs := xs) h5 hL hI
  | 1 => exact hC_1 (xs := xs) h5 hL hI
  | 2 => exact hC_2 (xs := xs) h5 hL hI
  | 3 => exact hC_3 (xs := xs) h5 hL hI
  | 4 => exact hC_4 (xs := xs) h5 hL hI
  | 5 => exact hC_5 (xs := xs) h5 hL hI
  | 6 => exact hC_6 (xs := xs) h5 hL hI
  | 7 => exact hC_7 (xs := xs) h5 hL hI
  | 8 => exact hC_8 (xs := xs) h5 hL hI
  | 9 => exact hC_9 (xs := xs) h5 hL hI
  | 10 => exact hC_10 (xs := xs) h5 hL hI
  | 11 => exact hC_11 (xs := xs) h5 hL hI
  | 12 => exact hC_12 (xs := xs) h5 hL hI
  | 13 => exact hC_13 (xs := xs) h5 hL hI
  | 14 => exact hC_14 (xs := xs) h5 hL hI
  | 15 => exact hC_15 (xs := xs) h5 hL hI
  | 16 => exact hC_16 (xs := xs) h5 hL hI
  | 17 => exact hC_17 (xs := xs) h5 hL hI
  | 18 => exact hC_18 (xs := xs) h5 hL hI
  | 19 => exact hC_19 (xs := xs) h5 hL hI
  | 20 => exact hC_20 (xs := xs) h5 hL hI
  | 21 => exact hC_21 (xs := xs) h5 hL hI
  | 22 => exact hC_22 (xs := xs) h5 hL hI
  | 23 => exact hC_23 (xs := xs) h5 hL hI
  | 24 => exact hC_24 (xs := xs) h5 hL hI
  | 25 => exact hC_25 (xs := xs) h5 hL hI
  | 26 => exact hC_26 (xs := xs) h5 hL hI
  | 27 => exact hC_27 (xs := xs) h5 hL hI
  | 28 => exact hC_28 (xs := xs) h5 hL hI
  | 29 => exact hC_29 (xs := xs) h5 hL hI
  | 30 => exact hC_30 (xs := xs) h5 hL hI
  | 31 => exact hC_31 (xs := xs) h5 hL hI
  | 32 => exact hC_32 (xs := xs) h5 hL hI
  | 33 => exact hC_33 (xs := xs) h5 hL hI
  | 34 => exact hC_34 (xs := xs) h5 hL hI
  | 35 => exact hC_35 (xs := xs) h5 hL hI
  | 36 => exact hC_36 (xs := xs) h5 hL hI
  | 37 => exact hC_37 (xs := xs) h5 hL hI
  | 38 => exact hC_38 (xs := xs) h5 hL hI
  | 39 => exact hC_39 (xs := xs) h5 hL hI
  | 40 => exact hC_40 (xs := xs) h5 hL hI
  | 41 => exact hC_41 (xs := xs) h5 hL hI
  | 42 => exact hC_42 (xs := xs) h5 hL hI
  | 43 => exact hC_43 (xs := xs) h5 hL hI
  | 44 => exact hC_44 (xs := xs) h5 hL hI
  | 45 => exact hC_45 (xs := xs) h5 hL hI
  | 46 => exact hC_46 (xs := xs) h5 hL hI
  | 47 => exact hC_47 (xs := xs) h5 hL hI
  | k + 48 => exact KInv_yes hI
theorem whole_start {p : Program} {e : Env} {s : State} {m : MethodId} {below : List Frame} {meth : Method} {c : Code} (l : Launch) (hflags : l.flags = flags0) {b L : Nat} {xs : Nat → Int32} (hL : L ≤ 320) (C0 : lw_At p s m meth c b L xs) : W p l e room_1 s m #[Value.ref b] below meth c s.heap [] 0 0 (lw_Z below #[Value.ref b] s) (entryFrame m ([Value.ref b] : List Value).toArray 7) := whole_start0 l hflags hL C0 kIv kIv_0 hC_all
end
