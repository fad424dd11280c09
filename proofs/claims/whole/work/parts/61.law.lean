/-! ===== the cases of the law's round ===== -/
def sl_lo7 (i : Int32) : List (Option sl_V) := [some (.inr (.inl (some (41, 0)))), some (.inr (.inl (some (10, 0)))), some (.inr (.inl (some (11, 0)))), some (.inr (.inl (some (40, 0)))), some (.inl i), none, none]
def sl_Lg (L : Nat) (xs : Nat → Int32) (fa : Nat → List sl_V → sl_M → Option (sl_PL × sl_M)) (stop : Nat → Bool) (C9 : sl_S → sl_L → Option (sl_PL × sl_L)) (N : Nat) (S : sl_S) (m : sl_L) : Option (sl_PL × sl_L) := sl_run tb_L (fun _ => none) (fun _ => none) cl_LL (fun _ => none) sl_rdL sl_wrL sl_alL sl_ln L xs (fun y => sl_lf (fa y)) stop C9 N S m
/-- both answers alike: on, behind this call -/
def sl_eqk (A B : sl_L → Option (sl_PL × sl_L)) (X : sl_S → sl_L → Option (sl_PL × sl_L)) (i : Int32) (m : sl_L) : Option (sl_PL × sl_L) :=
  (A m).bind (fun q => (B q.2).bind (fun q2 => if q.1.1 = q2.1.1 then X (23, sl_lo7 (i + 6), []) q2.2 else some ((0, 0, 0), q2.2)))
theorem lc_take (L : Nat) (xs : Nat → Int32) (fa : Nat → List sl_V → sl_M → Option (sl_PL × sl_M)) (X : sl_S → sl_L → Option (sl_PL × sl_L)) (i : Int32) (m : sl_L) :
    sl_Lg L xs fa sl_stp (sl_LX X) 388 (307, sl_lo7 i, []) m = sl_eqk (sl_lf (fa 66) [.inr (.inl (some (10, 0)))]) (sl_lf (fa 94) [.inr (.inl (some (11, 0)))]) X i m := by
  unfold sl_Lg
  rfl
