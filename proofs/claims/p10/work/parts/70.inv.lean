/-! what holds between the class and the reference, call by call -/
abbrev kIv : kInvT := fun ce fr un sb se so sc wb we wo wc fb fe fo fc rm ac rf kn mce mfr mun mbe men mov msp mwb mwe mwi mac mre mkn mth on => kCe ce mce ∧ fr = mfr ∧ un = mun ∧ kLet fr ∧ kLet un ∧ fr < un ∧ (∃ n, n ≤ 10 ∧ sc = nI n ∧ msp = nI n ∧ kSpans fr un n sb se so mbe men mov) ∧ (∃ w, w ≤ 8 ∧ wc = nI w ∧ mwi = nI w ∧ kWish w wb we mwb mwe) ∧ ac = mac ∧ rf = mre ∧ kn = mkn
theorem kIv_0 : kIv (fun _ => 0) 0 86400000000000 (fun _ => 0) (fun _ => 0) (fun _ => 0) 0 (fun _ => 0) (fun _ => 0) (fun _ => 0) 0 (fun _ => 0) (fun _ => 0) (fun _ => 0) 0 (fun _ => 0) 0 0 0 (fun _ => 0) 0 86400000000000 (fun _ => 0) (fun _ => 0) (fun _ => 0) 0 (fun _ => 0) (fun _ => 0) 0 0 0 0 0 0 := by
  have e0 : (0 : Int64).toInt = 0 := by decide
  have e8 : (86400000000000 : Int64).toInt = 86400000000000 := by decide +kernel
  have l0 : kLet 0 := ⟨by rw [e0]; omega, by rw [e0]; omega⟩
  exact ⟨fun _ _ => ⟨rfl, l0⟩, rfl, rfl, l0, ⟨by rw [e8]; omega, by rw [e8]; omega⟩, by rw [lt64, e0, e8]; omega, ⟨0, Nat.zero_le _, rfl, rfl, fun k hk => absurd hk (Nat.not_lt_zero k)⟩, ⟨0, Nat.zero_le _, rfl, rfl, fun k hk => absurd hk (Nat.not_lt_zero k)⟩, rfl, rfl, rfl⟩
theorem kixL {L j i : Nat} (h5 : 5 * j + 5 ≤ L) (hL : L ≤ 320) (hi : i ≤ 4) : ix (nI (5 * j) + nI i) L := by
  rw [nI_add]; exact q_ix (by omega) (by omega)
