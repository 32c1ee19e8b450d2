theorem hC_all : ∀ (L : Nat) (xs : Nat → Int32) (k j : Nat) (ce : Nat → Int64) (fr : Int64) (un : Int64) (sb : Nat → Int64) (se : Nat → Int64) (so : Nat → Int32) (sc : Int32) (wb : Nat → Int64) (we : Nat → Int64) (wo : Nat → Int32) (wc : Int32) (fb : Nat → Int64) (fe : Nat → Int64) (fo : Nat → Int32) (fc : Int32) (rm : Nat → Int32) (ac : Int32) (rf : Int32) (kn : Int32) (mce : Nat → Int64) (mfr : Int64) (mun : Int64) (mbe : Nat → Int64) (men : Nat → Int64) (mov : Nat → Int32) (msp : Int32) (mwb : Nat → Int64) (mwe : Nat → Int64) (mwi : Int32) (mac : Int32) (mre : Int32) (mkn : Int32) (mth : Int32) (on : Int64), 5 * j + 5 ≤ L → L ≤ 320 → kIv ce fr un sb se so sc wb we wo wc fb fe fo fc rm ac rf kn mce mfr mun mbe men mov msp mwb mwe mwi mac mre mkn mth on → flawAt k L xs (KInv kIv (nI (5 * j))) ce fr un sb se so sc wb we wo wc fb fe fo fc rm ac rf kn mce mfr mun mbe men mov msp mwb mwe mwi mac mre mkn mth on (nI (5 * j)) = some 1 := by
  intro L xs k j ce fr un sb se so sc wb we wo wc fb fe fo fc rm ac rf kn mce mfr mun mbe men mov msp mwb mwe mwi mac mre mkn mth on h5 hL hI
  match k with
  | 0 => exact hC_0 (xs := xs) h5 hL hI
  | 1 => exact hC_1 (xs := xs) h5 hL hI
  | 2 => exact hC_2 (xs := xs) h5 hL hI
  | 3 => exact hC_3 (xs := xs) h5 hL hI
  | 4 => exact hC_4 (xs := xs) h5 hL hI
  | 5 => exact hC_5 (xs := xs) h5 hL hI
  | 6 => exact hC_6 (xs := xs) h5 hL hI
  | 7 => exact hC_7 (xs := xs) h5 hL hI
  | 8 => exact hC_8 (xs := xs) h5 hL hI
  | 9 => exact hC_9 (xs := xs) h5 hL hI
  | 10 => exact hC_10 (xs := xs) h5 hL hI
  | 11 => exact hC_11 (xs := xs) h5 hL hI
  | 12 => exact hC_12 (xs := xs) h5 hL hI
  | 13 => exact hC_13 (xs := xs) h5 hL hI
  | 14 => exact hC_14 (xs := xs) h5 hL hI
  | 15 => exact hC_15 (xs := xs) h5 hL hI
  | 16 => exact hC_16 (xs := xs) h5 hL hI
  | 17 => exact hC_17 (xs := xs) h5 hL hI
  | 18 => exact hC_18 (xs := xs) h5 hL hI
  | 19 => exact hC_19 (xs := xs) h5 hL hI
  | 20 => exact hC_20 (xs := xs) h5 hL hI
  | 21 => exact hC_21 (xs := xs) h5 hL hI
  | 22 => exact hC_22 (xs := xs) h5 hL hI
  | 23 => exact hC_23 (xs := xs) h5 hL hI
  | 24 => exact hC_24 (xs := xs) h5 hL hI
  | 25 => exact hC_25 (xs := xs) h5 hL hI
  | 26 => exact hC_26 (xs := xs) h5 hL hI
  | 27 => exact hC_27 (xs := xs) h5 hL hI
  | 28 => exact hC_28 (xs := xs) h5 hL hI
  | 29 => exact hC_29 (xs := xs) h5 hL hI
  | 30 => exact hC_30 (xs := xs) h5 hL hI
  | 31 => exact hC_31 (xs := xs) h5 hL hI
  | 32 => exact hC_32 (xs := xs) h5 hL hI
  | 33 => exact hC_33 (xs := xs) h5 hL hI
  | 34 => exact hC_34 (xs := xs) h5 hL hI
  | 35 => exact hC_35 (xs := xs) h5 hL hI
  | 36 => exact hC_36 (xs := xs) h5 hL hI
  | 37 => exact hC_37 (xs := xs) h5 hL hI
  | 38 => exact hC_38 (xs := xs) h5 hL hI
  | 39 => exact hC_39 (xs := xs) h5 hL hI
  | 40 => exact hC_40 (xs := xs) h5 hL hI
  | 41 => exact hC_41 (xs := xs) h5 hL hI
  | 42 => exact hC_42 (xs := xs) h5 hL hI
  | 43 => exact hC_43 (xs := xs) h5 hL hI
  | 44 => exact hC_44 (xs := xs) h5 hL hI
  | 45 => exact hC_45 (xs := xs) h5 hL hI
  | 46 => exact hC_46 (xs := xs) h5 hL hI
  | 47 => exact hC_47 (xs := xs) h5 hL hI
  | k + 48 => exact KInv_yes hI
theorem whole_start {p : Program} {e : Env} {s : State} {m : MethodId} {below : List Frame} {meth : Method} {c : Code} (l : Launch) (hflags : l.flags = flags0) {b L : Nat} {xs : Nat → Int32} (hL : L ≤ 320) (C0 : lw_At p s m meth c b L xs) : W p l e room_1 s m #[Value.ref b] below meth c s.heap [] 0 0 (lw_Z below #[Value.ref b] s) (entryFrame m ([Value.ref b] : List Value).toArray 7) := whole_start0 l hflags hL C0 kIv kIv_0 hC_all
