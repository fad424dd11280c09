/-! ===== the cases of the law's round ===== -/
def sl_lo7 (i : Int32) (u w : Option sl_V) : List (Option sl_V) := [some (.inr (.inl (some (41, 0)))), some (.inr (.inl (some (10, 0)))), some (.inr (.inl (some (11, 0)))), some (.inr (.inl (some (40, 0)))), some (.inl i), u, w]
def sl_Lg (L : Nat) (xs : Nat → Int32) (fa : Nat → List sl_V → sl_M → Option (sl_PL × sl_M)) (stop : Nat → Bool) (C9 : sl_S → sl_L → Option (sl_PL × sl_L)) (N : Nat) (S : sl_S) (m : sl_L) : Option (sl_PL × sl_L) := sl_run tb_L (fun _ => none) (fun _ => none) cl_LL (fun _ => none) sl_rdL sl_wrL sl_alL sl_ln L xs (fun y => sl_lf (fa y)) stop C9 N S m
theorem sl_Lg_eq (L : Nat) (xs : Nat → Int32) (stop : Nat → Bool) (C9 : sl_S → sl_L → Option (sl_PL × sl_L)) (N : Nat) (S : sl_S) (m : sl_L) : sl_Lr L xs stop C9 N S m = sl_Lg L xs fa_L stop C9 N S m := by
  unfold sl_Lg sl_Lr
  with_reducible rfl
/-- a read of the script -/
def sl_rdx (L : Nat) (xs : Nat → Int32) (v : Int32) (k : Int32 → Option (sl_PL × sl_L)) : Option (sl_PL × sl_L) := if 0 ≤ v ∧ v.toNatClampNeg < L then k (xs v.toNatClampNeg) else none
/-- both answers alike: on, behind this call -/
def sl_cmp (X : sl_S → sl_L → Option (sl_PL × sl_L)) (u w : Option sl_V) (i a b : Int32) (m : sl_L) : Option (sl_PL × sl_L) := if a = b then X (23, sl_lo7 (i + 6) u w, []) m else some ((0, 0, 0), m)
set_option maxRecDepth 100000 in
theorem lc_open (L : Nat) (xs : Nat → Int32) (fa : Nat → List sl_V → sl_M → Option (sl_PL × sl_M)) (X : sl_S → sl_L → Option (sl_PL × sl_L)) (i : Int32) (u w : Option sl_V) (m : sl_L) :
    sl_Lg L xs fa sl_stp (sl_LC L xs X) 388 (136, sl_lo7 i u w, []) m = sl_rdx L xs (i + 1) (fun v0 => sl_rdx L xs (i + 2) (fun v1 => sl_rdx L xs (i + 3) (fun v2 => sl_rdx L xs (i + 4) (fun v3 => sl_rdx L xs (i + 5) (fun v4 => (sl_lf (fa 62) [.inr (.inl (some (10, 0))), .inl v0, .inl v1, .inl v2, .inl v3, .inl v4] m).bind (fun q1 => sl_rdx L xs (i + 1) (fun v5 => sl_rdx L xs (i + 2) (fun v6 => sl_rdx L xs (i + 3) (fun v7 => sl_rdx L xs (i + 4) (fun v8 => sl_rdx L xs (i + 5) (fun v9 => (sl_lf (fa 105) [.inr (.inl (some (11, 0))), .inl v5, .inl v6, .inl v7, .inl v8, .inl v9] q1.2).bind (fun q2 => sl_cmp X u w i q1.1.1 q2.1.1 q2.2)))))))))))) := by
  unfold sl_Lg
  rfl
set_option maxRecDepth 100000 in
theorem lc_feed (L : Nat) (xs : Nat → Int32) (fa : Nat → List sl_V → sl_M → Option (sl_PL × sl_M)) (X : sl_S → sl_L → Option (sl_PL × sl_L)) (i : Int32) (u w : Option sl_V) (m : sl_L) :
    sl_Lg L xs fa sl_stp (sl_LC L xs X) 388 (209, sl_lo7 i u w, []) m = sl_rdx L xs (i + 1) (fun v0 => sl_rdx L xs (i + 2) (fun v1 => sl_rdx L xs (i + 3) (fun v2 => sl_rdx L xs (i + 4) (fun v3 => sl_rdx L xs (i + 5) (fun v4 => (sl_lf (fa 63) [.inr (.inl (some (10, 0))), .inl v0, .inl v1, .inl v2, .inl v3, .inl v4] m).bind (fun q1 => sl_rdx L xs (i + 1) (fun v5 => sl_rdx L xs (i + 2) (fun v6 => sl_rdx L xs (i + 3) (fun v7 => sl_rdx L xs (i + 4) (fun v8 => sl_rdx L xs (i + 5) (fun v9 => (sl_lf (fa 92) [.inr (.inl (some (11, 0))), .inl v5, .inl v6, .inl v7, .inl v8, .inl v9] q1.2).bind (fun q2 => sl_cmp X u w i q1.1.1 q2.1.1 q2.2)))))))))))) := by
  unfold sl_Lg
  rfl
set_option maxRecDepth 100000 in
theorem lc_cut (L : Nat) (xs : Nat → Int32) (fa : Nat → List sl_V → sl_M → Option (sl_PL × sl_M)) (X : sl_S → sl_L → Option (sl_PL × sl_L)) (i : Int32) (u w : Option sl_V) (m : sl_L) :
    sl_Lg L xs fa sl_stp (sl_LC L xs X) 388 (282, sl_lo7 i u w, []) m = sl_rdx L xs (i + 1) (fun v0 => (sl_lf (fa 65) [.inr (.inl (some (10, 0))), .inl v0] m).bind (fun q1 => sl_rdx L xs (i + 1) (fun v1 => (sl_lf (fa 93) [.inr (.inl (some (11, 0))), .inl v1] q1.2).bind (fun q2 => sl_cmp X u w i q1.1.1 q2.1.1 q2.2)))) := by
  unfold sl_Lg
  rfl
set_option maxRecDepth 100000 in
theorem lc_take (L : Nat) (xs : Nat → Int32) (fa : Nat → List sl_V → sl_M → Option (sl_PL × sl_M)) (X : sl_S → sl_L → Option (sl_PL × sl_L)) (i : Int32) (u w : Option sl_V) (m : sl_L) :
    sl_Lg L xs fa sl_stp (sl_LC L xs X) 388 (307, sl_lo7 i u w, []) m = (sl_lf (fa 66) [.inr (.inl (some (10, 0)))] m).bind (fun q1 => (sl_lf (fa 94) [.inr (.inl (some (11, 0)))] q1.2).bind (fun q2 => sl_cmp X u w i q1.1.1 q2.1.1 q2.2)) := by
  unfold sl_Lg
  rfl
set_option maxRecDepth 100000 in
theorem lc_tick (L : Nat) (xs : Nat → Int32) (fa : Nat → List sl_V → sl_M → Option (sl_PL × sl_M)) (X : sl_S → sl_L → Option (sl_PL × sl_L)) (i : Int32) (u w : Option sl_V) (m : sl_L) :
    sl_Lg L xs fa sl_stp (sl_LC L xs X) 388 (376, sl_lo7 i u w, []) m = (sl_lf (fa 68) [.inr (.inl (some (10, 0)))] m).bind (fun q1 => (sl_lf (fa 113) [.inr (.inl (some (11, 0)))] q1.2).bind (fun q2 => sl_cmp X u w i q1.1.1 q2.1.1 q2.2)) := by
  unfold sl_Lg
  rfl
set_option maxRecDepth 100000 in
theorem lc_round (L : Nat) (xs : Nat → Int32) (fa : Nat → List sl_V → sl_M → Option (sl_PL × sl_M)) (X : sl_S → sl_L → Option (sl_PL × sl_L)) (i : Int32) (u w : Option sl_V) (m : sl_L) :
    sl_Lg L xs fa sl_stp (sl_LC L xs X) 388 (469, sl_lo7 i u w, []) m = (sl_lf (fa 73) [.inr (.inl (some (10, 0)))] m).bind (fun q1 => if q1.1.2.2 = 2 then some ((0, 0, 2), q1.2) else (sl_lf (fa 125) [.inr (.inl (some (11, 0)))] q1.2).bind (fun q2 => sl_cmp X u w i q1.1.1 q2.1.1 q2.2)) := by
  unfold sl_Lg
  rfl
set_option maxRecDepth 100000 in
theorem lc_count (L : Nat) (xs : Nat → Int32) (fa : Nat → List sl_V → sl_M → Option (sl_PL × sl_M)) (X : sl_S → sl_L → Option (sl_PL × sl_L)) (i : Int32) (u w : Option sl_V) (m : sl_L) :
    sl_Lg L xs fa sl_stp (sl_LC L xs X) 388 (914, sl_lo7 i u w, []) m = sl_rdx L xs (i + 1) (fun v0 => (sl_lf (fa 80) [.inr (.inl (some (10, 0))), .inl v0] m).bind (fun q1 => sl_rdx L xs (i + 1) (fun v1 => (sl_lf (fa 133) [.inr (.inl (some (11, 0))), .inl v1] q1.2).bind (fun q2 => sl_cmp X u w i q1.1.1 q2.1.1 q2.2)))) := by
  unfold sl_Lg
  rfl
set_option maxRecDepth 100000 in
theorem lc_stuff (L : Nat) (xs : Nat → Int32) (fa : Nat → List sl_V → sl_M → Option (sl_PL × sl_M)) (X : sl_S → sl_L → Option (sl_PL × sl_L)) (i : Int32) (u w : Option sl_V) (m : sl_L) :
    sl_Lg L xs fa sl_stp (sl_LC L xs X) 388 (939, sl_lo7 i u w, []) m = (sl_lf (fa 81) [.inr (.inl (some (10, 0)))] m).bind (fun q1 => (sl_lf (fa 100) [.inr (.inl (some (11, 0)))] q1.2).bind (fun q2 => sl_cmp X u w i q1.1.1 q2.1.1 q2.2)) := by
  unfold sl_Lg
  rfl
set_option maxRecDepth 100000 in
theorem lc_unstuff (L : Nat) (xs : Nat → Int32) (fa : Nat → List sl_V → sl_M → Option (sl_PL × sl_M)) (X : sl_S → sl_L → Option (sl_PL × sl_L)) (i : Int32) (u w : Option sl_V) (m : sl_L) :
    sl_Lg L xs fa sl_stp (sl_LC L xs X) 388 (952, sl_lo7 i u w, []) m = (sl_lf (fa 82) [.inr (.inl (some (10, 0)))] m).bind (fun q1 => (sl_lf (fa 101) [.inr (.inl (some (11, 0)))] q1.2).bind (fun q2 => sl_cmp X u w i q1.1.1 q2.1.1 q2.2)) := by
  unfold sl_Lg
  rfl
set_option maxRecDepth 100000 in
theorem lc_fault (L : Nat) (xs : Nat → Int32) (fa : Nat → List sl_V → sl_M → Option (sl_PL × sl_M)) (X : sl_S → sl_L → Option (sl_PL × sl_L)) (i : Int32) (u w : Option sl_V) (m : sl_L) :
    sl_Lg L xs fa sl_stp (sl_LC L xs X) 388 (965, sl_lo7 i u w, []) m = sl_rdx L xs (i + 1) (fun v0 => (sl_lf (fa 83) [.inr (.inl (some (10, 0))), .inl v0] m).bind (fun q1 => sl_rdx L xs (i + 1) (fun v1 => (sl_lf (fa 102) [.inr (.inl (some (11, 0))), .inl v1] q1.2).bind (fun q2 => sl_cmp X u w i q1.1.1 q2.1.1 q2.2)))) := by
  unfold sl_Lg
  rfl
set_option maxRecDepth 100000 in
theorem lc_check (L : Nat) (xs : Nat → Int32) (fa : Nat → List sl_V → sl_M → Option (sl_PL × sl_M)) (X : sl_S → sl_L → Option (sl_PL × sl_L)) (i : Int32) (u w : Option sl_V) (m : sl_L) :
    sl_Lg L xs fa sl_stp (sl_LC L xs X) 388 (990, sl_lo7 i u w, []) m = (sl_lf (fa 84) [.inr (.inl (some (10, 0)))] m).bind (fun q1 => (sl_lf (fa 96) [.inr (.inl (some (11, 0)))] q1.2).bind (fun q2 => sl_cmp X u w i q1.1.1 q2.1.1 q2.2)) := by
  unfold sl_Lg
  rfl
set_option maxRecDepth 100000 in
theorem lc_out (L : Nat) (xs : Nat → Int32) (fa : Nat → List sl_V → sl_M → Option (sl_PL × sl_M)) (X : sl_S → sl_L → Option (sl_PL × sl_L)) (i : Int32) (u w : Option sl_V) (m : sl_L) :
    sl_Lg L xs fa sl_stp (sl_LC L xs X) 388 (1003, sl_lo7 i u w, []) m = sl_rdx L xs (i + 1) (fun v0 => (sl_lf (fa 85) [.inr (.inl (some (10, 0))), .inl v0] m).bind (fun q1 => sl_rdx L xs (i + 1) (fun v1 => (sl_lf (fa 103) [.inr (.inl (some (11, 0))), .inl v1] q1.2).bind (fun q2 => sl_cmp X u w i q1.1.1 q2.1.1 q2.2)))) := by
  unfold sl_Lg
  rfl
