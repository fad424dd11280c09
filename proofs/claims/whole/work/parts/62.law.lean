/-! ===== the cases with handlers; the head of the round ===== -/
def sl_cm2 (X : sl_S → sl_L → Option (sl_PL × sl_L)) (i r d t : Int32) (m : sl_L) : Option (sl_PL × sl_L) :=
  if t = r then (if r = 0 then (if lg_cmp m.1.2 d.toInt64 = 0 then X (23, sl_lo7 (i + 6) (some (.inl r)) (some (.inl d)), []) m else some ((0, 0, 0), m)) else X (23, sl_lo7 (i + 6) (some (.inl r)) (some (.inl d)), []) m) else some ((0, 0, 0), m)
set_option maxRecDepth 100000 in
theorem lp_give (L : Nat) (xs : Nat → Int32) (fa : Nat → List sl_V → sl_M → Option (sl_PL × sl_M)) (C9 : sl_S → sl_L → Option (sl_PL × sl_L)) (i : Int32) (u w : Option sl_V) (m : sl_L) :
    sl_Lg L xs fa sl_stp C9 388 (320, sl_lo7 i u w, []) m = sl_rdx L xs (i + 1) (fun v0 => C9 (328, sl_lo7 i u w, [.inr (.inl (some (40, 0))), .inl v0, .inr (.inl (some (10, 0)))]) m) := by
  unfold sl_Lg
  rfl
set_option maxRecDepth 100000 in
theorem lq_give (L : Nat) (xs : Nat → Int32) (fa : Nat → List sl_V → sl_M → Option (sl_PL × sl_M)) (X : sl_S → sl_L → Option (sl_PL × sl_L)) (i r : Int32) (u w : Option sl_V) (m : sl_L) :
    sl_Lg L xs fa sl_stp (sl_LX X) 400 (331, sl_lo7 i u w, [.inl r]) m = sl_rdx L xs (i + 1) (fun v0 => (sl_lf (fa 106) [.inr (.inl (some (11, 0))), .inl v0] m).bind (fun q1 => (sl_lf (fa 90) [.inr (.inl (some (11, 0)))] q1.2).bind (fun q2 => sl_cm2 X i r q1.1.1 q2.1.1 q2.2))) := by
  unfold sl_Lg
  rfl
set_option maxRecDepth 100000 in
theorem lp_carry (L : Nat) (xs : Nat → Int32) (fa : Nat → List sl_V → sl_M → Option (sl_PL × sl_M)) (C9 : sl_S → sl_L → Option (sl_PL × sl_L)) (i : Int32) (u w : Option sl_V) (m : sl_L) :
    sl_Lg L xs fa sl_stp C9 388 (389, sl_lo7 i u w, []) m = sl_rdx L xs (i + 1) (fun v0 => sl_rdx L xs (i + 2) (fun v1 => sl_rdx L xs (i + 3) (fun v2 => C9 (409, sl_lo7 i u w, [.inr (.inl (some (40, 0))), .inl v2, .inl v1, .inl v0, .inr (.inl (some (10, 0)))]) m))) := by
  unfold sl_Lg
  rfl
set_option maxRecDepth 100000 in
theorem lq_carry (L : Nat) (xs : Nat → Int32) (fa : Nat → List sl_V → sl_M → Option (sl_PL × sl_M)) (X : sl_S → sl_L → Option (sl_PL × sl_L)) (i r : Int32) (u w : Option sl_V) (m : sl_L) :
    sl_Lg L xs fa sl_stp (sl_LX X) 400 (412, sl_lo7 i u w, [.inl r]) m = sl_rdx L xs (i + 1) (fun v0 => sl_rdx L xs (i + 2) (fun v1 => sl_rdx L xs (i + 3) (fun v2 => (sl_lf (fa 124) [.inr (.inl (some (11, 0))), .inl v0, .inl v1, .inl v2] m).bind (fun q1 => (sl_lf (fa 90) [.inr (.inl (some (11, 0)))] q1.2).bind (fun q2 => sl_cm2 X i r q1.1.1 q2.1.1 q2.2))))) := by
  unfold sl_Lg
  rfl
set_option maxRecDepth 100000 in
theorem lp_noise (L : Nat) (xs : Nat → Int32) (fa : Nat → List sl_V → sl_M → Option (sl_PL × sl_M)) (C9 : sl_S → sl_L → Option (sl_PL × sl_L)) (i : Int32) (u w : Option sl_V) (m : sl_L) :
    sl_Lg L xs fa sl_stp C9 388 (482, sl_lo7 i u w, []) m = sl_rdx L xs (i + 1) (fun v0 => sl_rdx L xs (i + 2) (fun v1 => sl_rdx L xs (i + 3) (fun v2 => C9 (502, sl_lo7 i u w, [.inr (.inl (some (40, 0))), .inl v2, .inl v1, .inl v0, .inr (.inl (some (10, 0)))]) m))) := by
  unfold sl_Lg
  rfl
set_option maxRecDepth 100000 in
theorem lq_noise (L : Nat) (xs : Nat → Int32) (fa : Nat → List sl_V → sl_M → Option (sl_PL × sl_M)) (X : sl_S → sl_L → Option (sl_PL × sl_L)) (i r : Int32) (u w : Option sl_V) (m : sl_L) :
    sl_Lg L xs fa sl_stp (sl_LX X) 400 (505, sl_lo7 i u w, [.inl r]) m = sl_rdx L xs (i + 1) (fun v0 => sl_rdx L xs (i + 2) (fun v1 => sl_rdx L xs (i + 3) (fun v2 => (sl_lf (fa 126) [.inr (.inl (some (11, 0))), .inl v0, .inl v1, .inl v2] m).bind (fun q1 => (sl_lf (fa 90) [.inr (.inl (some (11, 0)))] q1.2).bind (fun q2 => sl_cm2 X i r q1.1.1 q2.1.1 q2.2))))) := by
  unfold sl_Lg
  rfl
set_option maxRecDepth 100000 in
theorem lp_frame (L : Nat) (xs : Nat → Int32) (fa : Nat → List sl_V → sl_M → Option (sl_PL × sl_M)) (C9 : sl_S → sl_L → Option (sl_PL × sl_L)) (i : Int32) (u w : Option sl_V) (m : sl_L) :
    sl_Lg L xs fa sl_stp C9 388 (562, sl_lo7 i u w, []) m = sl_rdx L xs (i + 1) (fun v0 => sl_rdx L xs (i + 2) (fun v1 => sl_rdx L xs (i + 3) (fun v2 => C9 (582, sl_lo7 i u w, [.inr (.inl (some (40, 0))), .inl v2, .inl v1, .inl v0, .inr (.inl (some (10, 0)))]) m))) := by
  unfold sl_Lg
  rfl
set_option maxRecDepth 100000 in
theorem lq_frame (L : Nat) (xs : Nat → Int32) (fa : Nat → List sl_V → sl_M → Option (sl_PL × sl_M)) (X : sl_S → sl_L → Option (sl_PL × sl_L)) (i r : Int32) (u w : Option sl_V) (m : sl_L) :
    sl_Lg L xs fa sl_stp (sl_LX X) 400 (585, sl_lo7 i u w, [.inl r]) m = sl_rdx L xs (i + 1) (fun v0 => sl_rdx L xs (i + 2) (fun v1 => sl_rdx L xs (i + 3) (fun v2 => (sl_lf (fa 128) [.inr (.inl (some (11, 0))), .inl v0, .inl v1, .inl v2] m).bind (fun q1 => (sl_lf (fa 90) [.inr (.inl (some (11, 0)))] q1.2).bind (fun q2 => sl_cm2 X i r q1.1.1 q2.1.1 q2.2))))) := by
  unfold sl_Lg
  rfl
set_option maxRecDepth 100000 in
theorem lp_octet (L : Nat) (xs : Nat → Int32) (fa : Nat → List sl_V → sl_M → Option (sl_PL × sl_M)) (C9 : sl_S → sl_L → Option (sl_PL × sl_L)) (i : Int32) (u w : Option sl_V) (m : sl_L) :
    sl_Lg L xs fa sl_stp C9 388 (642, sl_lo7 i u w, []) m = sl_rdx L xs (i + 1) (fun v0 => sl_rdx L xs (i + 2) (fun v1 => sl_rdx L xs (i + 3) (fun v2 => C9 (662, sl_lo7 i u w, [.inr (.inl (some (40, 0))), .inl v2, .inl v1, .inl v0, .inr (.inl (some (10, 0)))]) m))) := by
  unfold sl_Lg
  rfl
set_option maxRecDepth 100000 in
theorem lq_octet (L : Nat) (xs : Nat → Int32) (fa : Nat → List sl_V → sl_M → Option (sl_PL × sl_M)) (X : sl_S → sl_L → Option (sl_PL × sl_L)) (i r : Int32) (u w : Option sl_V) (m : sl_L) :
    sl_Lg L xs fa sl_stp (sl_LX X) 400 (665, sl_lo7 i u w, [.inl r]) m = sl_rdx L xs (i + 1) (fun v0 => sl_rdx L xs (i + 2) (fun v1 => sl_rdx L xs (i + 3) (fun v2 => (sl_lf (fa 129) [.inr (.inl (some (11, 0))), .inl v0, .inl v1, .inl v2] m).bind (fun q1 => (sl_lf (fa 90) [.inr (.inl (some (11, 0)))] q1.2).bind (fun q2 => sl_cm2 X i r q1.1.1 q2.1.1 q2.2))))) := by
  unfold sl_Lg
  rfl
set_option maxRecDepth 100000 in
theorem lp_line (L : Nat) (xs : Nat → Int32) (fa : Nat → List sl_V → sl_M → Option (sl_PL × sl_M)) (C9 : sl_S → sl_L → Option (sl_PL × sl_L)) (i : Int32) (u w : Option sl_V) (m : sl_L) :
    sl_Lg L xs fa sl_stp C9 388 (722, sl_lo7 i u w, []) m = sl_rdx L xs (i + 1) (fun v0 => C9 (730, sl_lo7 i u w, [.inr (.inl (some (40, 0))), .inl v0, .inr (.inl (some (10, 0)))]) m) := by
  unfold sl_Lg
  rfl
set_option maxRecDepth 100000 in
theorem lq_line (L : Nat) (xs : Nat → Int32) (fa : Nat → List sl_V → sl_M → Option (sl_PL × sl_M)) (X : sl_S → sl_L → Option (sl_PL × sl_L)) (i r : Int32) (u w : Option sl_V) (m : sl_L) :
    sl_Lg L xs fa sl_stp (sl_LX X) 400 (733, sl_lo7 i u w, [.inl r]) m = sl_rdx L xs (i + 1) (fun v0 => (sl_lf (fa 130) [.inr (.inl (some (11, 0))), .inl v0] m).bind (fun q1 => (sl_lf (fa 90) [.inr (.inl (some (11, 0)))] q1.2).bind (fun q2 => sl_cm2 X i r q1.1.1 q2.1.1 q2.2))) := by
  unfold sl_Lg
  rfl
set_option maxRecDepth 100000 in
theorem lp_state (L : Nat) (xs : Nat → Int32) (fa : Nat → List sl_V → sl_M → Option (sl_PL × sl_M)) (C9 : sl_S → sl_L → Option (sl_PL × sl_L)) (i : Int32) (u w : Option sl_V) (m : sl_L) :
    sl_Lg L xs fa sl_stp C9 388 (778, sl_lo7 i u w, []) m = sl_rdx L xs (i + 1) (fun v0 => sl_rdx L xs (i + 2) (fun v1 => C9 (792, sl_lo7 i u w, [.inr (.inl (some (40, 0))), .inl v1, .inl v0, .inr (.inl (some (10, 0)))]) m)) := by
  unfold sl_Lg
  rfl
set_option maxRecDepth 100000 in
theorem lq_state (L : Nat) (xs : Nat → Int32) (fa : Nat → List sl_V → sl_M → Option (sl_PL × sl_M)) (X : sl_S → sl_L → Option (sl_PL × sl_L)) (i r : Int32) (u w : Option sl_V) (m : sl_L) :
    sl_Lg L xs fa sl_stp (sl_LX X) 400 (795, sl_lo7 i u w, [.inl r]) m = sl_rdx L xs (i + 1) (fun v0 => sl_rdx L xs (i + 2) (fun v1 => (sl_lf (fa 131) [.inr (.inl (some (11, 0))), .inl v0, .inl v1] m).bind (fun q1 => (sl_lf (fa 90) [.inr (.inl (some (11, 0)))] q1.2).bind (fun q2 => sl_cm2 X i r q1.1.1 q2.1.1 q2.2)))) := by
  unfold sl_Lg
  rfl
set_option maxRecDepth 100000 in
theorem lp_taken (L : Nat) (xs : Nat → Int32) (fa : Nat → List sl_V → sl_M → Option (sl_PL × sl_M)) (C9 : sl_S → sl_L → Option (sl_PL × sl_L)) (i : Int32) (u w : Option sl_V) (m : sl_L) :
    sl_Lg L xs fa sl_stp C9 388 (846, sl_lo7 i u w, []) m = sl_rdx L xs (i + 1) (fun v0 => sl_rdx L xs (i + 2) (fun v1 => C9 (860, sl_lo7 i u w, [.inr (.inl (some (40, 0))), .inl v1, .inl v0, .inr (.inl (some (10, 0)))]) m)) := by
  unfold sl_Lg
  rfl
set_option maxRecDepth 100000 in
theorem lq_taken (L : Nat) (xs : Nat → Int32) (fa : Nat → List sl_V → sl_M → Option (sl_PL × sl_M)) (X : sl_S → sl_L → Option (sl_PL × sl_L)) (i r : Int32) (u w : Option sl_V) (m : sl_L) :
    sl_Lg L xs fa sl_stp (sl_LX X) 400 (863, sl_lo7 i u w, [.inl r]) m = sl_rdx L xs (i + 1) (fun v0 => sl_rdx L xs (i + 2) (fun v1 => (sl_lf (fa 132) [.inr (.inl (some (11, 0))), .inl v0, .inl v1] m).bind (fun q1 => (sl_lf (fa 90) [.inr (.inl (some (11, 0)))] q1.2).bind (fun q2 => sl_cm2 X i r q1.1.1 q2.1.1 q2.2)))) := by
  unfold sl_Lg
  rfl
