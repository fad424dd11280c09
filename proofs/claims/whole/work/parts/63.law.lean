set_option maxRecDepth 100000 in
theorem lh_law (L : Nat) (xs : Nat → Int32) (fa : Nat → List sl_V → sl_M → Option (sl_PL × sl_M)) (C9 : sl_S → sl_L → Option (sl_PL × sl_L)) (i : Int32) (u w : Option sl_V) (m : sl_L) :
    sl_Lg L xs fa sl_stp C9 400 (23, sl_lo7 i u w, []) m = if i > Int32.ofNat L - 6 then some ((1, 0, 0), m) else sl_rdx L xs i (fun v => sl_tsw (fun s' m' => bif sl_stp s'.1 then C9 s' m' else sl_Lg L xs fa sl_stp C9 388 s' m') (sl_lo7 i u w) [.inl (v &&& 31)] m 1028 [136, 209, 282, 307, 320, 376, 389, 469, 482, 562, 642, 722, 778, 846, 914, 939, 952, 965, 990, 1003]) := by
  unfold sl_Lg
  rfl
set_option maxRecDepth 100000 in
theorem ld_law (L : Nat) (xs : Nat → Int32) (fa : Nat → List sl_V → sl_M → Option (sl_PL × sl_M)) (X : sl_S → sl_L → Option (sl_PL × sl_L)) (i : Int32) (u w : Option sl_V) (m : sl_L) :
    sl_Lg L xs fa sl_stp (sl_LC L xs X) 388 (1028, sl_lo7 i u w, []) m = X (23, sl_lo7 (i + 6) u w, []) m := by
  unfold sl_Lg
  rfl
