def tb_X7_makePiece (p : Nat) : Option sl_E := bif Nat.ble 117 p then none else (bif Nat.ble 60 p then (bif Nat.ble 86 p then (bif Nat.ble 102 p then (bif Nat.ble 108 p then (bif Nat.ble 112 p then (bif Nat.ble 113 p then (bif Nat.ble 116 p then (bif Nat.beq p 116 then some (50, 0, 0, 1, []) else none) else (bif Nat.beq p 113 then some (36, 0, 62, 3, []) else none)) else (bif Nat.beq p 112 then some (6, 0, 0, 1, []) else none)) else (bif Nat.ble 111 p then (bif Nat.beq p 111 then some (2, 1, 0, 1, []) else none) else (bif Nat.beq p 108 then some (35, 0, 62, 3, []) else none))) else (bif Nat.ble 106 p then (bif Nat.ble 107 p then (bif Nat.beq p 107 then some (19, 0, 0, 1, []) else none) else (bif Nat.beq p 106 then some (1, 0, 0, 1, []) else none)) else (bif Nat.ble 103 p then (bif Nat.beq p 103 then some (46, 0, 90, 3, []) else none) else (bif Nat.beq p 102 then some (2, 0, 0, 1, []) else none)))) else (bif Nat.ble 94 p then (bif Nat.ble 98 p then (bif Nat.ble 99 p then (bif Nat.beq p 99 then some (35, 0, 62, 3, []) else none) else (bif Nat.beq p 98 then some (1, 0, 0, 1, []) else none)) else (bif Nat.ble 97 p then (bif Nat.beq p 97 then some (1, 0, 0, 1, []) else none) else (bif Nat.beq p 94 then some (36, 0, 56, 3, []) else none))) else (bif Nat.ble 90 p then (bif Nat.ble 91 p then (bif Nat.beq p 91 then some (35, 0, 53, 3, []) else none) else (bif Nat.beq p 90 then some (1, 0, 0, 1, []) else none)) else (bif Nat.ble 89 p then (bif Nat.beq p 89 then some (1, 0, 0, 1, []) else none) else (bif Nat.beq p 86 then some (23, 0, 97, 3, []) else none))))) else (bif Nat.ble 72 p then (bif Nat.ble 78 p then (bif Nat.ble 82 p then (bif Nat.ble 83 p then (bif Nat.beq p 83 then some (35, 0, 59, 3, []) else none) else (bif Nat.beq p 82 then some (1, 0, 0, 1, []) else none)) else (bif Nat.ble 79 p then (bif Nat.beq p 79 then some (35, 0, 62, 3, []) else none) else (bif Nat.beq p 78 then some (1, 0, 0, 1, []) else none))) else (bif Nat.ble 74 p then (bif Nat.ble 75 p then (bif Nat.beq p 75 then some (36, 0, 49, 3, []) else none) else (bif Nat.beq p 74 then some (6, 0, 0, 1, []) else none)) else (bif Nat.ble 73 p then (bif Nat.beq p 73 then some (37, 0, 0, 1, []) else none) else (bif Nat.beq p 72 then some (0, 0, 1, 1, []) else none)))) else (bif Nat.ble 64 p then (bif Nat.ble 68 p then (bif Nat.ble 69 p then (bif Nat.beq p 69 then some (35, 0, 24, 3, []) else none) else (bif Nat.beq p 68 then some (1, 0, 0, 1, []) else none)) else (bif Nat.ble 65 p then (bif Nat.beq p 65 then some (35, 0, 49, 3, []) else none) else (bif Nat.beq p 64 then some (19, 0, 0, 1, []) else none))) else (bif Nat.ble 62 p then (bif Nat.ble 63 p then (bif Nat.beq p 63 then some (1, 0, 0, 1, []) else none) else (bif Nat.beq p 62 then some (42, 0, 0, 1, []) else none)) else (bif Nat.ble 61 p then (bif Nat.beq p 61 then some (2, 0, 0, 1, []) else none) else (bif Nat.beq p 60 then some (0, 0, 1, 1, []) else none)))))) else (bif Nat.ble 27 p then (bif Nat.ble 45 p then (bif Nat.ble 51 p then (bif Nat.ble 55 p then (bif Nat.ble 56 p then (bif Nat.ble 57 p then (bif Nat.beq p 57 then some (35, 0, 30, 3, []) else none) else (bif Nat.beq p 56 then some (1, 0, 0, 1, []) else none)) else (bif Nat.beq p 55 then some (41, 0, 0, 1, []) else none)) else (bif Nat.ble 52 p then (bif Nat.beq p 52 then some (35, 0, 53, 3, []) else none) else (bif Nat.beq p 51 then some (1, 0, 0, 1, []) else none))) else (bif Nat.ble 47 p then (bif Nat.ble 50 p then (bif Nat.beq p 50 then some (0, 0, 1, 1, []) else none) else (bif Nat.beq p 47 then some (35, 0, 27, 3, []) else none)) else (bif Nat.ble 46 p then (bif Nat.beq p 46 then some (1, 0, 0, 1, []) else none) else (bif Nat.beq p 45 then some (41, 0, 0, 1, []) else none)))) else (bif Nat.ble 37 p then (bif Nat.ble 41 p then (bif Nat.ble 42 p then (bif Nat.beq p 42 then some (46, 0, 97, 3, []) else none) else (bif Nat.beq p 41 then some (7, 0, 0, 1, []) else none)) else (bif Nat.ble 38 p then (bif Nat.beq p 38 then some (35, 0, 49, 3, []) else none) else (bif Nat.beq p 37 then some (1, 0, 0, 1, []) else none))) else (bif Nat.ble 31 p then (bif Nat.ble 34 p then (bif Nat.beq p 34 then some (35, 0, 81, 3, []) else none) else (bif Nat.beq p 31 then some (35, 0, 14, 3, []) else none)) else (bif Nat.ble 30 p then (bif Nat.beq p 30 then some (1, 0, 0, 1, []) else none) else (bif Nat.beq p 27 then some (35, 0, 94, 3, []) else none))))) else (bif Nat.ble 13 p then (bif Nat.ble 19 p then (bif Nat.ble 23 p then (bif Nat.ble 24 p then (bif Nat.beq p 24 then some (35, 0, 34, 3, []) else none) else (bif Nat.beq p 23 then some (1, 0, 0, 1, []) else none)) else (bif Nat.ble 22 p then (bif Nat.beq p 22 then some (0, 0, 1, 1, []) else none) else (bif Nat.beq p 19 then some (35, 0, 24, 3, []) else none))) else (bif Nat.ble 17 p then (bif Nat.ble 18 p then (bif Nat.beq p 18 then some (1, 0, 0, 1, []) else none) else (bif Nat.beq p 17 then some (41, 0, 0, 1, []) else none)) else (bif Nat.ble 14 p then (bif Nat.beq p 14 then some (35, 0, 49, 3, []) else none) else (bif Nat.beq p 13 then some (1, 0, 0, 1, []) else none)))) else (bif Nat.ble 7 p then (bif Nat.ble 9 p then (bif Nat.ble 12 p then (bif Nat.beq p 12 then some (0, 0, 1, 1, []) else none) else (bif Nat.beq p 9 then some (35, 0, 20, 3, []) else none)) else (bif Nat.ble 8 p then (bif Nat.beq p 8 then some (1, 0, 0, 1, []) else none) else (bif Nat.beq p 7 then some (3, 0, 1, 1, []) else none))) else (bif Nat.ble 4 p then (bif Nat.ble 6 p then (bif Nat.beq p 6 then some (11, 0, 0, 1, []) else none) else (bif Nat.beq p 4 then some (2, 63, 0, 2, []) else none)) else (bif Nat.ble 1 p then (bif Nat.beq p 1 then some (35, 0, 62, 3, []) else none) else (bif Nat.beq p 0 then some (1, 0, 0, 1, []) else none)))))))
def ca_X7_makePiece (y : Nat) (as : List sl_V) (m : sl_M) : Option (sl_PL × sl_M) := bif Nat.ble 136 y then (bif Nat.beq y 136 then F_J9_min_7cf53 as m else none) else (bif Nat.beq y 46 then F_X7_layPiece as m else none)
def sp_X7_makePiece (p : Nat) : Bool := false
def mk_X7_makePiece (p : Nat) : List Bool := []
def cl_X7_makePiece (p : Nat) : Option sl_C := bif Nat.ble 98 p then none else (bif Nat.ble 97 p then (bif Nat.beq p 97 then some (136, 2, 1, 0, 0, 0) else none) else (bif Nat.beq p 90 then some (46, 3, 0, 0, 0, 8) else none))
def R_X7_makePiece (ca : Nat → List sl_V → sl_M → Option (sl_PL × sl_M)) : Nat → sl_S → sl_M → Option (sl_PL × sl_M) := sl_B tb_X7_makePiece fl_X7 pf_X7 cl_X7_makePiece nw_X7 sl_rd sl_wr sl_al sl_ln 0 (fun _ => 0) ca sp_X7_makePiece mk_X7_makePiece
def F_X7_makePiece (as : List sl_V) (m : sl_M) : Option (sl_PL × sl_M) := R_X7_makePiece ca_X7_makePiece 100000 (0, sl_lo 2 as, []) m
def f_X7_makePiece (this : Nat) (m : sl_M) : Option (sl_PL × sl_M) := F_X7_makePiece [.inr (.inl (some (7, this)))] m
def r_X7_makePiece_0 (ca : Nat → List sl_V → sl_M → Option (sl_PL × sl_M)) (n : Nat) (this : Nat) (m : sl_M) : Option (sl_PL × sl_M) := R_X7_makePiece ca n (0, sl_lo 2 [.inr (.inl (some (7, this)))], []) m
set_option maxRecDepth 100000 in
theorem g_X7_makePiece_0 (ca : Nat → List sl_V → sl_M → Option (sl_PL × sl_M)) (n : Nat) (this : Nat) (m : sl_M) : r_X7_makePiece_0 ca (n + 1) this m =
  if 0 ≤ ((m.1 7 this 8) &&& (63 : Int32)) ∧ ((m.1 7 this 8) &&& (63 : Int32)).toNatClampNeg < 64 then
  (ca 136 [.inl (m.1 8 0 3), .inl ((m.1 6 (4 + this) 1) - (m.1 7 this 4))] (sl_up m 23 this (((m.1 7 this 8) &&& (63 : Int32)).toNatClampNeg) (m.1 7 this 4))).bind (fun q1 =>
  if 0 ≤ ((m.1 7 this 8) &&& (63 : Int32)) ∧ ((m.1 7 this 8) &&& (63 : Int32)).toNatClampNeg < 64 then
  if 0 ≤ ((m.1 7 this 8) &&& (63 : Int32)) ∧ ((m.1 7 this 8) &&& (63 : Int32)).toNatClampNeg < 64 then
  if 0 ≤ ((m.1 7 this 8) &&& (63 : Int32)) ∧ ((m.1 7 this 8) &&& (63 : Int32)).toNatClampNeg < 64 then
  if 0 ≤ ((m.1 7 this 8) &&& (63 : Int32)) ∧ ((m.1 7 this 8) &&& (63 : Int32)).toNatClampNeg < 64 then
  if (q1.2.1 7 this 8) = (q1.2.1 7 this 7) then
    (ca 46 [.inr (.inl (some (7, this))), .inl (q1.2.1 7 this 8), .inl (0 : Int32)] (sl_up (sl_up (sl_up (sl_up (sl_up q1.2 24 this (((m.1 7 this 8) &&& (63 : Int32)).toNatClampNeg) q1.1.1) 25 this (((m.1 7 this 8) &&& (63 : Int32)).toNatClampNeg) (q1.2.1 7 this 5)) 26 this (((m.1 7 this 8) &&& (63 : Int32)).toNatClampNeg) (0 : Int32)) 7 this 4 ((q1.2.1 7 this 4) + ((sl_up q1.2 24 this (((m.1 7 this 8) &&& (63 : Int32)).toNatClampNeg) q1.1.1).1 24 this (((m.1 7 this 8) &&& (63 : Int32)).toNatClampNeg)))) 7 this 6 (q1.2.1 7 this 5))).bind (fun q2 =>
    some ((0, 0, 0), (sl_up q2.2 7 this 8 ((q2.2.1 7 this 8) + (1 : Int32)))))
  else
    (ca 46 [.inr (.inl (some (7, this))), .inl (q1.2.1 7 this 8), .inl (0 : Int32)] (sl_up (sl_up (sl_up (sl_up q1.2 24 this (((m.1 7 this 8) &&& (63 : Int32)).toNatClampNeg) q1.1.1) 25 this (((m.1 7 this 8) &&& (63 : Int32)).toNatClampNeg) (q1.2.1 7 this 5)) 26 this (((m.1 7 this 8) &&& (63 : Int32)).toNatClampNeg) (0 : Int32)) 7 this 4 ((q1.2.1 7 this 4) + ((sl_up q1.2 24 this (((m.1 7 this 8) &&& (63 : Int32)).toNatClampNeg) q1.1.1).1 24 this (((m.1 7 this 8) &&& (63 : Int32)).toNatClampNeg))))).bind (fun q3 =>
    some ((0, 0, 0), (sl_up q3.2 7 this 8 ((q3.2.1 7 this 8) + (1 : Int32)))))
  else none
  else none
  else none
  else none)
  else none := by rfl
theorem cq_X7_makePiece_X7_layPiece (this : Nat) (a0 : Int32) (a1 : Int32) (m : sl_M) : ca_X7_makePiece 46 [.inr (.inl (some (7, this))), .inl a0, .inl a1] m = f_X7_layPiece this a0 a1 m := by
  unfold ca_X7_makePiece f_X7_layPiece
  rw [show Nat.ble 136 46 = false from rfl, cond_false, show Nat.beq 46 46 = true from rfl, cond_true]
theorem cq_X7_makePiece_J9_min_7cf53 (a0 : Int32) (a1 : Int32) (m : sl_M) : ca_X7_makePiece 136 [.inl a0, .inl a1] m = f_J9_min_7cf53 a0 a1 m := by
  unfold ca_X7_makePiece f_J9_min_7cf53
  rw [show Nat.ble 136 136 = true from rfl, cond_true, show Nat.beq 136 136 = true from rfl, cond_true]
theorem e_X7_makePiece (this : Nat) (m : sl_M) : f_X7_makePiece this m =
  if 0 ≤ ((m.1 7 this 8) &&& (63 : Int32)) ∧ ((m.1 7 this 8) &&& (63 : Int32)).toNatClampNeg < 64 then
  (f_J9_min_7cf53 (m.1 8 0 3) ((m.1 6 (4 + this) 1) - (m.1 7 this 4)) (sl_up m 23 this (((m.1 7 this 8) &&& (63 : Int32)).toNatClampNeg) (m.1 7 this 4))).bind (fun q1 =>
  if 0 ≤ ((m.1 7 this 8) &&& (63 : Int32)) ∧ ((m.1 7 this 8) &&& (63 : Int32)).toNatClampNeg < 64 then
  if 0 ≤ ((m.1 7 this 8) &&& (63 : Int32)) ∧ ((m.1 7 this 8) &&& (63 : Int32)).toNatClampNeg < 64 then
  if 0 ≤ ((m.1 7 this 8) &&& (63 : Int32)) ∧ ((m.1 7 this 8) &&& (63 : Int32)).toNatClampNeg < 64 then
  if 0 ≤ ((m.1 7 this 8) &&& (63 : Int32)) ∧ ((m.1 7 this 8) &&& (63 : Int32)).toNatClampNeg < 64 then
  if (q1.2.1 7 this 8) = (q1.2.1 7 this 7) then
    (f_X7_layPiece this (q1.2.1 7 this 8) (0 : Int32) (sl_up (sl_up (sl_up (sl_up (sl_up q1.2 24 this (((m.1 7 this 8) &&& (63 : Int32)).toNatClampNeg) q1.1.1) 25 this (((m.1 7 this 8) &&& (63 : Int32)).toNatClampNeg) (q1.2.1 7 this 5)) 26 this (((m.1 7 this 8) &&& (63 : Int32)).toNatClampNeg) (0 : Int32)) 7 this 4 ((q1.2.1 7 this 4) + ((sl_up q1.2 24 this (((m.1 7 this 8) &&& (63 : Int32)).toNatClampNeg) q1.1.1).1 24 this (((m.1 7 this 8) &&& (63 : Int32)).toNatClampNeg)))) 7 this 6 (q1.2.1 7 this 5))).bind (fun q2 =>
    some ((0, 0, 0), (sl_up q2.2 7 this 8 ((q2.2.1 7 this 8) + (1 : Int32)))))
  else
    (f_X7_layPiece this (q1.2.1 7 this 8) (0 : Int32) (sl_up (sl_up (sl_up (sl_up q1.2 24 this (((m.1 7 this 8) &&& (63 : Int32)).toNatClampNeg) q1.1.1) 25 this (((m.1 7 this 8) &&& (63 : Int32)).toNatClampNeg) (q1.2.1 7 this 5)) 26 this (((m.1 7 this 8) &&& (63 : Int32)).toNatClampNeg) (0 : Int32)) 7 this 4 ((q1.2.1 7 this 4) + ((sl_up q1.2 24 this (((m.1 7 this 8) &&& (63 : Int32)).toNatClampNeg) q1.1.1).1 24 this (((m.1 7 this 8) &&& (63 : Int32)).toNatClampNeg))))).bind (fun q3 =>
    some ((0, 0, 0), (sl_up q3.2 7 this 8 ((q3.2.1 7 this 8) + (1 : Int32)))))
  else none
  else none
  else none
  else none)
  else none := by
  have h := g_X7_makePiece_0 ca_X7_makePiece 99999 this m
  simp only [cq_X7_makePiece_X7_layPiece, cq_X7_makePiece_J9_min_7cf53] at h
  exact h

def tb_X7_passTick (p : Nat) : Option sl_E := bif Nat.ble 83 p then none else (bif Nat.ble 40 p then (bif Nat.ble 58 p then (bif Nat.ble 69 p then (bif Nat.ble 78 p then (bif Nat.ble 81 p then (bif Nat.ble 82 p then (bif Nat.beq p 82 then some (47, 0, 1, 1, []) else none) else (bif Nat.beq p 81 then some (0, 0, 1, 1, []) else none)) else (bif Nat.beq p 78 then some (34, 0, 50, 3, []) else none)) else (bif Nat.ble 72 p then (bif Nat.ble 75 p then (bif Nat.beq p 75 then some (5, (-1), 2, 3, []) else none) else (bif Nat.beq p 72 then some (5, 1, 1, 3, []) else none)) else (bif Nat.beq p 69 then some (46, 0, 84, 3, []) else none))) else (bif Nat.ble 62 p then (bif Nat.ble 65 p then (bif Nat.ble 68 p then (bif Nat.beq p 68 then some (1, 0, 0, 1, []) else none) else (bif Nat.beq p 65 then some (25, 0, 81, 3, []) else none)) else (bif Nat.beq p 62 then some (35, 0, 81, 3, []) else none)) else (bif Nat.ble 59 p then (bif Nat.beq p 59 then some (35, 0, 14, 3, []) else none) else (bif Nat.beq p 58 then some (1, 0, 0, 1, []) else none)))) else (bif Nat.ble 49 p then (bif Nat.ble 51 p then (bif Nat.ble 54 p then (bif Nat.ble 55 p then (bif Nat.beq p 55 then some (35, 0, 49, 3, []) else none) else (bif Nat.beq p 54 then some (1, 0, 0, 1, []) else none)) else (bif Nat.beq p 51 then some (33, 0, 81, 3, []) else none)) else (bif Nat.ble 50 p then (bif Nat.beq p 50 then some (0, 0, 2, 1, []) else none) else (bif Nat.beq p 49 then some (3, 0, 2, 1, []) else none))) else (bif Nat.ble 44 p then (bif Nat.ble 47 p then (bif Nat.ble 48 p then (bif Nat.beq p 48 then some (7, 0, 0, 1, []) else none) else (bif Nat.beq p 47 then some (7, 0, 0, 1, []) else none)) else (bif Nat.beq p 44 then some (35, 0, 59, 3, []) else none)) else (bif Nat.ble 43 p then (bif Nat.beq p 43 then some (1, 0, 0, 1, []) else none) else (bif Nat.beq p 40 then some (35, 0, 62, 3, []) else none))))) else (bif Nat.ble 20 p then (bif Nat.ble 31 p then (bif Nat.ble 33 p then (bif Nat.ble 36 p then (bif Nat.ble 39 p then (bif Nat.beq p 39 then some (1, 0, 0, 1, []) else none) else (bif Nat.beq p 36 then some (35, 0, 78, 3, []) else none)) else (bif Nat.beq p 33 then some (35, 0, 34, 3, []) else none)) else (bif Nat.ble 32 p then (bif Nat.beq p 32 then some (1, 0, 0, 1, []) else none) else (bif Nat.beq p 31 then some (3, 0, 1, 1, []) else none))) else (bif Nat.ble 24 p then (bif Nat.ble 27 p then (bif Nat.ble 28 p then (bif Nat.beq p 28 then some (46, 0, 75, 3, []) else none) else (bif Nat.beq p 27 then some (1, 0, 0, 1, []) else none)) else (bif Nat.beq p 24 then some (34, 0, 31, 3, []) else none)) else (bif Nat.ble 21 p then (bif Nat.beq p 21 then some (46, 0, 71, 3, []) else none) else (bif Nat.beq p 20 then some (1, 0, 0, 1, []) else none)))) else (bif Nat.ble 7 p then (bif Nat.ble 11 p then (bif Nat.ble 14 p then (bif Nat.ble 17 p then (bif Nat.beq p 17 then some (28, 0, 27, 3, []) else none) else (bif Nat.beq p 14 then some (46, 0, 65, 3, []) else none)) else (bif Nat.beq p 11 then some (35, 0, 34, 3, []) else none)) else (bif Nat.ble 10 p then (bif Nat.beq p 10 then some (1, 0, 0, 1, []) else none) else (bif Nat.beq p 7 then some (36, 0, 53, 3, []) else none))) else (bif Nat.ble 2 p then (bif Nat.ble 5 p then (bif Nat.ble 6 p then (bif Nat.beq p 6 then some (6, 0, 0, 1, []) else none) else (bif Nat.beq p 5 then some (2, 1, 0, 1, []) else none)) else (bif Nat.beq p 2 then some (35, 0, 53, 3, []) else none)) else (bif Nat.ble 1 p then (bif Nat.beq p 1 then some (19, 0, 0, 1, []) else none) else (bif Nat.beq p 0 then some (1, 0, 0, 1, []) else none))))))
def ca_X7_passTick (y : Nat) (as : List sl_V) (m : sl_M) : Option (sl_PL × sl_M) := bif Nat.ble 45 y then (bif Nat.ble 54 y then (bif Nat.beq y 54 then F_X8_eachByItself as m else none) else (bif Nat.beq y 45 then F_X7_makePiece as m else none)) else (bif Nat.ble 44 y then (bif Nat.beq y 44 then F_X7_layLateOnes as m else none) else (bif Nat.beq y 43 then F_X7_layAllIfLate as m else none))
def sp_X7_passTick (p : Nat) : Bool := Nat.beq p 50
def mk_X7_passTick (p : Nat) : List Bool := bif Nat.beq p 50 then [true, true, true] else []
def cl_X7_passTick (p : Nat) : Option sl_C := bif Nat.ble 85 p then none else (bif Nat.ble 75 p then (bif Nat.ble 84 p then (bif Nat.beq p 84 then some (45, 1, 0, 0, 0, 8) else none) else (bif Nat.beq p 75 then some (43, 1, 1, 0, 0, 8) else none)) else (bif Nat.ble 71 p then (bif Nat.beq p 71 then some (44, 1, 1, 0, 0, 8) else none) else (bif Nat.beq p 65 then some (54, 1, 1, 0, 0, 9) else none)))
def R_X7_passTick (ca : Nat → List sl_V → sl_M → Option (sl_PL × sl_M)) : Nat → sl_S → sl_M → Option (sl_PL × sl_M) := sl_B tb_X7_passTick fl_X7 pf_X7 cl_X7_passTick nw_X7 sl_rd sl_wr sl_al sl_ln 0 (fun _ => 0) ca sp_X7_passTick mk_X7_passTick
def F_X7_passTick (as : List sl_V) (m : sl_M) : Option (sl_PL × sl_M) := R_X7_passTick ca_X7_passTick 100000 (0, sl_lo 3 as, []) m
def f_X7_passTick (this : Nat) (m : sl_M) : Option (sl_PL × sl_M) := F_X7_passTick [.inr (.inl (some (7, this)))] m
def r_X7_passTick_0 (ca : Nat → List sl_V → sl_M → Option (sl_PL × sl_M)) (n : Nat) (this : Nat) (m : sl_M) : Option (sl_PL × sl_M) := R_X7_passTick ca n (0, sl_lo 3 [.inr (.inl (some (7, this)))], []) m
def r_X7_passTick_50 (ca : Nat → List sl_V → sl_M → Option (sl_PL × sl_M)) (n : Nat) (v0 : Nat) (v1 : Int32) (v2 : Int32) (m : sl_M) : Option (sl_PL × sl_M) := R_X7_passTick ca n (50, [some (.inr (.inl (some (7, v0)))), some (.inl v1), some (.inl v2)], []) m
def b_X7_passTick_50 (n : Nat) (v0 : Nat) (v1 : Int32) (v2 : Int32) (m : sl_M) : Option (sl_PL × sl_M) := r_X7_passTick_50 ca_X7_passTick n v0 v1 v2 m
set_option maxRecDepth 100000 in
theorem g_X7_passTick_0 (ca : Nat → List sl_V → sl_M → Option (sl_PL × sl_M)) (n : Nat) (this : Nat) (m : sl_M) : r_X7_passTick_0 ca (n + 1) this m =
  (ca 54 [.inr (.inl (some (8, 0)))] (sl_up m 7 this 5 ((m.1 7 this 5) + (1 : Int32)))).bind (fun q1 =>
  if q1.1.1 = 0 then
    (ca 43 [.inr (.inl (some (7, this)))] q1.2).bind (fun q2 =>
    r_X7_passTick_50 ca n this q2.1.1 ((q2.2.1 8 0 2) - ((q2.2.1 7 this 8) - (q2.2.1 7 this 7))) q2.2)
  else
    (ca 44 [.inr (.inl (some (7, this)))] q1.2).bind (fun q3 =>
    r_X7_passTick_50 ca n this q3.1.1 ((q3.2.1 8 0 2) - ((q3.2.1 7 this 8) - (q3.2.1 7 this 7))) q3.2)) := by rfl
set_option maxRecDepth 100000 in
theorem g_X7_passTick_50 (ca : Nat → List sl_V → sl_M → Option (sl_PL × sl_M)) (n : Nat) (v0 : Nat) (v1 : Int32) (v2 : Int32) (m : sl_M) : r_X7_passTick_50 ca (n + 1) v0 v1 v2 m =
  if v2 ≤ 0 then
    some ((v1, 0, 0), m)
  else
    if (m.1 6 (4 + v0) 1) ≤ (m.1 7 v0 4) then
      some ((v1, 0, 0), m)
    else
      (ca 45 [.inr (.inl (some (7, v0)))] m).bind (fun q1 =>
      r_X7_passTick_50 ca n v0 (v1 + (1 : Int32)) (v2 + (-1 : Int32)) q1.2) := by rfl
theorem cq_X7_passTick_X7_layAllIfLate (this : Nat) (m : sl_M) : ca_X7_passTick 43 [.inr (.inl (some (7, this)))] m = f_X7_layAllIfLate this m := by
  unfold ca_X7_passTick f_X7_layAllIfLate
  rw [show Nat.ble 45 43 = false from rfl, cond_false, show Nat.ble 44 43 = false from rfl, cond_false, show Nat.beq 43 43 = true from rfl, cond_true]
theorem cq_X7_passTick_X7_layLateOnes (this : Nat) (m : sl_M) : ca_X7_passTick 44 [.inr (.inl (some (7, this)))] m = f_X7_layLateOnes this m := by
  unfold ca_X7_passTick f_X7_layLateOnes
  rw [show Nat.ble 45 44 = false from rfl, cond_false, show Nat.ble 44 44 = true from rfl, cond_true, show Nat.beq 44 44 = true from rfl, cond_true]
theorem cq_X7_passTick_X7_makePiece (this : Nat) (m : sl_M) : ca_X7_passTick 45 [.inr (.inl (some (7, this)))] m = f_X7_makePiece this m := by
  unfold ca_X7_passTick f_X7_makePiece
  rw [show Nat.ble 45 45 = true from rfl, cond_true, show Nat.ble 54 45 = false from rfl, cond_false, show Nat.beq 45 45 = true from rfl, cond_true]
theorem cq_X7_passTick_X8_eachByItself  (m : sl_M) : ca_X7_passTick 54 [.inr (.inl (some (8, 0)))] m = f_X8_eachByItself m := by
  unfold ca_X7_passTick f_X8_eachByItself
  rw [show Nat.ble 45 54 = true from rfl, cond_true, show Nat.ble 54 54 = true from rfl, cond_true, show Nat.beq 54 54 = true from rfl, cond_true]
theorem bq_X7_passTick_50 (n : Nat) (v0 : Nat) (v1 : Int32) (v2 : Int32) (m : sl_M) : r_X7_passTick_50 ca_X7_passTick n v0 v1 v2 m = b_X7_passTick_50 n v0 v1 v2 m := rfl
theorem e_X7_passTick (this : Nat) (m : sl_M) : f_X7_passTick this m =
  (f_X8_eachByItself (sl_up m 7 this 5 ((m.1 7 this 5) + (1 : Int32)))).bind (fun q1 =>
  if q1.1.1 = 0 then
    (f_X7_layAllIfLate this q1.2).bind (fun q2 =>
    b_X7_passTick_50 99999 this q2.1.1 ((q2.2.1 8 0 2) - ((q2.2.1 7 this 8) - (q2.2.1 7 this 7))) q2.2)
  else
    (f_X7_layLateOnes this q1.2).bind (fun q3 =>
    b_X7_passTick_50 99999 this q3.1.1 ((q3.2.1 8 0 2) - ((q3.2.1 7 this 8) - (q3.2.1 7 this 7))) q3.2)) := by
  have h := g_X7_passTick_0 ca_X7_passTick 99999 this m
  simp only [cq_X7_passTick_X7_layAllIfLate, cq_X7_passTick_X7_layLateOnes, cq_X7_passTick_X7_makePiece, cq_X7_passTick_X8_eachByItself, bq_X7_passTick_50] at h
  exact h
theorem e_X7_passTick_50 (n : Nat) (v0 : Nat) (v1 : Int32) (v2 : Int32) (m : sl_M) : b_X7_passTick_50 (n + 1) v0 v1 v2 m =
  if v2 ≤ 0 then
    some ((v1, 0, 0), m)
  else
    if (m.1 6 (4 + v0) 1) ≤ (m.1 7 v0 4) then
      some ((v1, 0, 0), m)
    else
      (f_X7_makePiece v0 m).bind (fun q1 =>
      b_X7_passTick_50 n v0 (v1 + (1 : Int32)) (v2 + (-1 : Int32)) q1.2) := by
  have h := g_X7_passTick_50 ca_X7_passTick n v0 v1 v2 m
  simp only [cq_X7_passTick_X7_layAllIfLate, cq_X7_passTick_X7_layLateOnes, cq_X7_passTick_X7_makePiece, cq_X7_passTick_X8_eachByItself, bq_X7_passTick_50] at h
  exact h

def tb_X7_keptPieces (p : Nat) : Option sl_E := bif Nat.ble 43 p then none else (bif Nat.ble 21 p then (bif Nat.ble 32 p then (bif Nat.ble 35 p then (bif Nat.ble 41 p then (bif Nat.ble 42 p then (bif Nat.beq p 42 then some (47, 0, 1, 1, []) else none) else (bif Nat.beq p 41 then some (0, 0, 1, 1, []) else none)) else (bif Nat.ble 38 p then (bif Nat.beq p 38 then some (34, 0, 7, 3, []) else none) else (bif Nat.beq p 35 then some (5, 1, 2, 3, []) else none))) else (bif Nat.ble 33 p then (bif Nat.ble 34 p then (bif Nat.beq p 34 then some (3, 0, 1, 1, []) else none) else (bif Nat.beq p 33 then some (6, 0, 0, 1, []) else none)) else (bif Nat.beq p 32 then some (2, 0, 0, 1, []) else none))) else (bif Nat.ble 25 p then (bif Nat.ble 28 p then (bif Nat.ble 29 p then (bif Nat.beq p 29 then some (34, 0, 33, 3, []) else none) else (bif Nat.beq p 28 then some (2, 1, 0, 1, []) else none)) else (bif Nat.beq p 25 then some (28, 0, 32, 3, []) else none)) else (bif Nat.ble 23 p then (bif Nat.ble 24 p then (bif Nat.beq p 24 then some (38, 0, 0, 1, []) else none) else (bif Nat.beq p 23 then some (11, 0, 0, 1, []) else none)) else (bif Nat.beq p 21 then some (2, 63, 0, 2, []) else none)))) else (bif Nat.ble 8 p then (bif Nat.ble 15 p then (bif Nat.ble 17 p then (bif Nat.ble 20 p then (bif Nat.beq p 20 then some (0, 0, 2, 1, []) else none) else (bif Nat.beq p 17 then some (35, 0, 30, 3, []) else none)) else (bif Nat.ble 16 p then (bif Nat.beq p 16 then some (1, 0, 0, 1, []) else none) else (bif Nat.beq p 15 then some (0, 0, 1, 1, []) else none))) else (bif Nat.ble 9 p then (bif Nat.ble 12 p then (bif Nat.beq p 12 then some (25, 0, 41, 3, []) else none) else (bif Nat.beq p 9 then some (35, 0, 62, 3, []) else none)) else (bif Nat.beq p 8 then some (1, 0, 0, 1, []) else none))) else (bif Nat.ble 3 p then (bif Nat.ble 6 p then (bif Nat.ble 7 p then (bif Nat.beq p 7 then some (0, 0, 2, 1, []) else none) else (bif Nat.beq p 6 then some (3, 0, 2, 1, []) else none)) else (bif Nat.beq p 3 then some (35, 0, 59, 3, []) else none)) else (bif Nat.ble 1 p then (bif Nat.ble 2 p then (bif Nat.beq p 2 then some (1, 0, 0, 1, []) else none) else (bif Nat.beq p 1 then some (3, 0, 1, 1, []) else none)) else (bif Nat.beq p 0 then some (2, 0, 0, 1, []) else none)))))
def ca_X7_keptPieces (y : Nat) (as : List sl_V) (m : sl_M) : Option (sl_PL × sl_M) := none
def sp_X7_keptPieces (p : Nat) : Bool := Nat.beq p 7
def mk_X7_keptPieces (p : Nat) : List Bool := bif Nat.beq p 7 then [true, true, true] else []
def cl_X7_keptPieces (p : Nat) : Option sl_C := none
def R_X7_keptPieces (ca : Nat → List sl_V → sl_M → Option (sl_PL × sl_M)) : Nat → sl_S → sl_M → Option (sl_PL × sl_M) := sl_B tb_X7_keptPieces fl_X7 pf_X7 cl_X7_keptPieces nw_X7 sl_rd sl_wr sl_al sl_ln 0 (fun _ => 0) ca sp_X7_keptPieces mk_X7_keptPieces
def F_X7_keptPieces (as : List sl_V) (m : sl_M) : Option (sl_PL × sl_M) := R_X7_keptPieces ca_X7_keptPieces 100000 (0, sl_lo 3 as, []) m
def f_X7_keptPieces (this : Nat) (m : sl_M) : Option (sl_PL × sl_M) := F_X7_keptPieces [.inr (.inl (some (7, this)))] m
def r_X7_keptPieces_0 (ca : Nat → List sl_V → sl_M → Option (sl_PL × sl_M)) (n : Nat) (this : Nat) (m : sl_M) : Option (sl_PL × sl_M) := R_X7_keptPieces ca n (0, sl_lo 3 [.inr (.inl (some (7, this)))], []) m
def r_X7_keptPieces_7 (ca : Nat → List sl_V → sl_M → Option (sl_PL × sl_M)) (n : Nat) (v0 : Nat) (v1 : Int32) (v2 : Int32) (m : sl_M) : Option (sl_PL × sl_M) := R_X7_keptPieces ca n (7, [some (.inr (.inl (some (7, v0)))), some (.inl v1), some (.inl v2)], []) m
def b_X7_keptPieces_7 (n : Nat) (v0 : Nat) (v1 : Int32) (v2 : Int32) (m : sl_M) : Option (sl_PL × sl_M) := r_X7_keptPieces_7 ca_X7_keptPieces n v0 v1 v2 m
set_option maxRecDepth 100000 in
theorem g_X7_keptPieces_0 (ca : Nat → List sl_V → sl_M → Option (sl_PL × sl_M)) (n : Nat) (this : Nat) (m : sl_M) : r_X7_keptPieces_0 ca (n + 1) this m =
  r_X7_keptPieces_7 ca n this (0 : Int32) (m.1 7 this 7) m := by rfl
set_option maxRecDepth 100000 in
theorem g_X7_keptPieces_7 (ca : Nat → List sl_V → sl_M → Option (sl_PL × sl_M)) (n : Nat) (v0 : Nat) (v1 : Int32) (v2 : Int32) (m : sl_M) : r_X7_keptPieces_7 ca (n + 1) v0 v1 v2 m =
  if (m.1 7 v0 8) ≤ v2 then
    some ((v1, 0, 0), m)
  else
    if 0 ≤ (v2 &&& (63 : Int32)) ∧ (v2 &&& (63 : Int32)).toNatClampNeg < 64 then
    if ((m.1 26 v0 ((v2 &&& (63 : Int32)).toNatClampNeg)) &&& 1) = 0 then
      r_X7_keptPieces_7 ca n v0 (v1 + (0 : Int32)) (v2 + (1 : Int32)) m
    else
      r_X7_keptPieces_7 ca n v0 (v1 + (1 : Int32)) (v2 + (1 : Int32)) m
    else none := by rfl
theorem bq_X7_keptPieces_7 (n : Nat) (v0 : Nat) (v1 : Int32) (v2 : Int32) (m : sl_M) : r_X7_keptPieces_7 ca_X7_keptPieces n v0 v1 v2 m = b_X7_keptPieces_7 n v0 v1 v2 m := rfl
theorem e_X7_keptPieces (this : Nat) (m : sl_M) : f_X7_keptPieces this m =
  b_X7_keptPieces_7 99999 this (0 : Int32) (m.1 7 this 7) m := by
  have h := g_X7_keptPieces_0 ca_X7_keptPieces 99999 this m
  simp only [bq_X7_keptPieces_7] at h
  exact h
theorem e_X7_keptPieces_7 (n : Nat) (v0 : Nat) (v1 : Int32) (v2 : Int32) (m : sl_M) : b_X7_keptPieces_7 (n + 1) v0 v1 v2 m =
  if (m.1 7 v0 8) ≤ v2 then
    some ((v1, 0, 0), m)
  else
    if 0 ≤ (v2 &&& (63 : Int32)) ∧ (v2 &&& (63 : Int32)).toNatClampNeg < 64 then
    if ((m.1 26 v0 ((v2 &&& (63 : Int32)).toNatClampNeg)) &&& 1) = 0 then
      b_X7_keptPieces_7 n v0 (v1 + (0 : Int32)) (v2 + (1 : Int32)) m
    else
      b_X7_keptPieces_7 n v0 (v1 + (1 : Int32)) (v2 + (1 : Int32)) m
    else none := by
  have h := g_X7_keptPieces_7 ca_X7_keptPieces n v0 v1 v2 m
  simp only [bq_X7_keptPieces_7] at h
  exact h

def tb_X8_widestWindow (p : Nat) : Option sl_E := bif Nat.ble 21 p then none else (bif Nat.ble 11 p then (bif Nat.ble 17 p then (bif Nat.ble 19 p then (bif Nat.ble 20 p then (bif Nat.beq p 20 then some (47, 0, 1, 1, []) else none) else (bif Nat.beq p 19 then some (9, 0, 0, 1, []) else none)) else (bif Nat.ble 18 p then (bif Nat.beq p 18 then some (2, 2, 0, 1, []) else none) else (bif Nat.beq p 17 then some (0, 0, 1, 1, []) else none))) else (bif Nat.ble 13 p then (bif Nat.ble 14 p then (bif Nat.beq p 14 then some (34, 0, 20, 3, []) else none) else (bif Nat.beq p 13 then some (7, 0, 0, 1, []) else none)) else (bif Nat.ble 12 p then (bif Nat.beq p 12 then some (2, 1, 0, 1, []) else none) else (bif Nat.beq p 11 then some (0, 0, 1, 1, []) else none)))) else (bif Nat.ble 5 p then (bif Nat.ble 7 p then (bif Nat.ble 8 p then (bif Nat.beq p 8 then some (23, 0, 17, 3, []) else none) else (bif Nat.beq p 7 then some (2, 1, 0, 1, []) else none)) else (bif Nat.ble 6 p then (bif Nat.beq p 6 then some (0, 0, 0, 1, []) else none) else (bif Nat.beq p 5 then some (47, 0, 1, 1, []) else none))) else (bif Nat.ble 1 p then (bif Nat.ble 4 p then (bif Nat.beq p 4 then some (2, 1, 0, 1, []) else none) else (bif Nat.beq p 1 then some (29, 0, 6, 3, []) else none)) else (bif Nat.beq p 0 then some (0, 0, 0, 1, []) else none))))
def ca_X8_widestWindow (y : Nat) (as : List sl_V) (m : sl_M) : Option (sl_PL × sl_M) := none
def sp_X8_widestWindow (p : Nat) : Bool := false
def mk_X8_widestWindow (p : Nat) : List Bool := []
def cl_X8_widestWindow (p : Nat) : Option sl_C := none
def R_X8_widestWindow (ca : Nat → List sl_V → sl_M → Option (sl_PL × sl_M)) : Nat → sl_S → sl_M → Option (sl_PL × sl_M) := sl_B tb_X8_widestWindow fl_X8 pf_X8 cl_X8_widestWindow nw_X8 sl_rd sl_wr sl_al sl_ln 0 (fun _ => 0) ca sp_X8_widestWindow mk_X8_widestWindow
def F_X8_widestWindow (as : List sl_V) (m : sl_M) : Option (sl_PL × sl_M) := R_X8_widestWindow ca_X8_widestWindow 100000 (0, sl_lo 2 as, []) m
def f_X8_widestWindow (a0 : Int32) (a1 : Int32) (m : sl_M) : Option (sl_PL × sl_M) := F_X8_widestWindow [.inl a0, .inl a1] m
def r_X8_widestWindow_0 (ca : Nat → List sl_V → sl_M → Option (sl_PL × sl_M)) (n : Nat) (a0 : Int32) (a1 : Int32) (m : sl_M) : Option (sl_PL × sl_M) := R_X8_widestWindow ca n (0, sl_lo 2 [.inl a0, .inl a1], []) m
set_option maxRecDepth 100000 in
theorem g_X8_widestWindow_0 (ca : Nat → List sl_V → sl_M → Option (sl_PL × sl_M)) (n : Nat) (a0 : Int32) (a1 : Int32) (m : sl_M) : r_X8_widestWindow_0 ca (n + 1) a0 a1 m =
  if a0 = 0 then
    some (((1 : Int32), 0, 0), m)
  else
    if a0 = (1 : Int32) then
      some (((a1 - (1 : Int32)), 0, 0), m)
    else
      some (((a1 / (2 : Int32)), 0, 0), m) := by rfl
theorem e_X8_widestWindow (a0 : Int32) (a1 : Int32) (m : sl_M) : f_X8_widestWindow a0 a1 m =
  if a0 = 0 then
    some (((1 : Int32), 0, 0), m)
  else
    if a0 = (1 : Int32) then
      some (((a1 - (1 : Int32)), 0, 0), m)
    else
      some (((a1 / (2 : Int32)), 0, 0), m) := by
  have h := g_X8_widestWindow_0 ca_X8_widestWindow 99999 a0 a1 m
  exact h

def tb_X8_canBe (p : Nat) : Option sl_E := bif Nat.ble 64 p then none else (bif Nat.ble 28 p then (bif Nat.ble 47 p then (bif Nat.ble 55 p then (bif Nat.ble 59 p then (bif Nat.ble 62 p then (bif Nat.ble 63 p then (bif Nat.beq p 63 then some (47, 0, 2, 1, []) else none) else (bif Nat.beq p 62 then some (2, 0, 0, 1, []) else none)) else (bif Nat.beq p 59 then some (34, 0, 63, 3, []) else none)) else (bif Nat.ble 58 p then (bif Nat.beq p 58 then some (2, 1, 0, 1, []) else none) else (bif Nat.beq p 55 then some (26, 0, 62, 3, []) else none))) else (bif Nat.ble 51 p then (bif Nat.ble 53 p then (bif Nat.beq p 53 then some (2, 50, 0, 2, []) else none) else (bif Nat.beq p 51 then some (0, 0, 4, 2, []) else none)) else (bif Nat.ble 48 p then (bif Nat.beq p 48 then some (24, 0, 62, 3, []) else none) else (bif Nat.beq p 47 then some (2, 1, 0, 1, []) else none)))) else (bif Nat.ble 36 p then (bif Nat.ble 40 p then (bif Nat.ble 42 p then (bif Nat.ble 45 p then (bif Nat.beq p 45 then some (0, 0, 4, 2, []) else none) else (bif Nat.beq p 42 then some (26, 0, 62, 3, []) else none)) else (bif Nat.beq p 40 then some (2, 60, 0, 2, []) else none)) else (bif Nat.ble 39 p then (bif Nat.beq p 39 then some (0, 0, 3, 1, []) else none) else (bif Nat.beq p 36 then some (24, 0, 62, 3, []) else none))) else (bif Nat.ble 34 p then (bif Nat.ble 35 p then (bif Nat.beq p 35 then some (2, 1, 0, 1, []) else none) else (bif Nat.beq p 34 then some (0, 0, 3, 1, []) else none)) else (bif Nat.ble 31 p then (bif Nat.beq p 31 then some (26, 0, 62, 3, []) else none) else (bif Nat.beq p 28 then some (46, 0, 27, 3, []) else none))))) else (bif Nat.ble 14 p then (bif Nat.ble 21 p then (bif Nat.ble 25 p then (bif Nat.ble 26 p then (bif Nat.ble 27 p then (bif Nat.beq p 27 then some (0, 0, 1, 1, []) else none) else (bif Nat.beq p 26 then some (0, 0, 0, 1, []) else none)) else (bif Nat.beq p 25 then some (0, 0, 2, 1, []) else none)) else (bif Nat.ble 22 p then (bif Nat.beq p 22 then some (24, 0, 62, 3, []) else none) else (bif Nat.beq p 21 then some (2, 1, 0, 1, []) else none))) else (bif Nat.ble 17 p then (bif Nat.ble 20 p then (bif Nat.beq p 20 then some (0, 0, 2, 1, []) else none) else (bif Nat.beq p 17 then some (26, 0, 62, 3, []) else none)) else (bif Nat.ble 15 p then (bif Nat.beq p 15 then some (2, 64, 0, 2, []) else none) else (bif Nat.beq p 14 then some (0, 0, 1, 1, []) else none)))) else (bif Nat.ble 6 p then (bif Nat.ble 10 p then (bif Nat.ble 11 p then (bif Nat.beq p 11 then some (24, 0, 62, 3, []) else none) else (bif Nat.beq p 10 then some (2, 2, 0, 1, []) else none)) else (bif Nat.ble 9 p then (bif Nat.beq p 9 then some (0, 0, 1, 1, []) else none) else (bif Nat.beq p 6 then some (26, 0, 62, 3, []) else none))) else (bif Nat.ble 4 p then (bif Nat.ble 5 p then (bif Nat.beq p 5 then some (2, 2, 0, 1, []) else none) else (bif Nat.beq p 4 then some (0, 0, 0, 1, []) else none)) else (bif Nat.ble 1 p then (bif Nat.beq p 1 then some (30, 0, 62, 3, []) else none) else (bif Nat.beq p 0 then some (0, 0, 0, 1, []) else none))))))
def ca_X8_canBe (y : Nat) (as : List sl_V) (m : sl_M) : Option (sl_PL × sl_M) := bif Nat.beq y 52 then F_X8_widestWindow as m else none
def sp_X8_canBe (p : Nat) : Bool := false
def mk_X8_canBe (p : Nat) : List Bool := []
def cl_X8_canBe (p : Nat) : Option sl_C := bif Nat.ble 28 p then none else (bif Nat.beq p 27 then some (52, 2, 1, 0, 0, 0) else none)
def R_X8_canBe (ca : Nat → List sl_V → sl_M → Option (sl_PL × sl_M)) : Nat → sl_S → sl_M → Option (sl_PL × sl_M) := sl_B tb_X8_canBe fl_X8 pf_X8 cl_X8_canBe nw_X8 sl_rd sl_wr sl_al sl_ln 0 (fun _ => 0) ca sp_X8_canBe mk_X8_canBe
def F_X8_canBe (as : List sl_V) (m : sl_M) : Option (sl_PL × sl_M) := R_X8_canBe ca_X8_canBe 100000 (0, sl_lo 5 as, []) m
def f_X8_canBe (a0 : Int32) (a1 : Int32) (a2 : Int32) (a3 : Int32) (a4 : Int32) (m : sl_M) : Option (sl_PL × sl_M) := F_X8_canBe [.inl a0, .inl a1, .inl a2, .inl a3, .inl a4] m
def r_X8_canBe_0 (ca : Nat → List sl_V → sl_M → Option (sl_PL × sl_M)) (n : Nat) (a0 : Int32) (a1 : Int32) (a2 : Int32) (a3 : Int32) (a4 : Int32) (m : sl_M) : Option (sl_PL × sl_M) := R_X8_canBe ca n (0, sl_lo 5 [.inl a0, .inl a1, .inl a2, .inl a3, .inl a4], []) m
set_option maxRecDepth 100000 in
theorem g_X8_canBe_0 (ca : Nat → List sl_V → sl_M → Option (sl_PL × sl_M)) (n : Nat) (a0 : Int32) (a1 : Int32) (a2 : Int32) (a3 : Int32) (a4 : Int32) (m : sl_M) : r_X8_canBe_0 ca (n + 1) a0 a1 a2 a3 a4 m =
  if a0 < 0 then
    some (((0 : Int32), 0, 0), m)
  else
    if (2 : Int32) < a0 then
      some (((0 : Int32), 0, 0), m)
    else
      if a1 < (2 : Int32) then
        some (((0 : Int32), 0, 0), m)
      else
        if (64 : Int32) < a1 then
          some (((0 : Int32), 0, 0), m)
        else
          if a2 < (1 : Int32) then
            some (((0 : Int32), 0, 0), m)
          else
            (ca 52 [.inl a0, .inl a1] m).bind (fun q1 =>
            if q1.1.1 < a2 then
              some (((0 : Int32), 0, 0), q1.2)
            else
              if a3 < (1 : Int32) then
                some (((0 : Int32), 0, 0), q1.2)
              else
                if (60 : Int32) < a3 then
                  some (((0 : Int32), 0, 0), q1.2)
                else
                  if a4 < (1 : Int32) then
                    some (((0 : Int32), 0, 0), q1.2)
                  else
                    if (50 : Int32) < a4 then
                      some (((0 : Int32), 0, 0), q1.2)
                    else
                      some (((1 : Int32), 0, 0), q1.2)) := by rfl
theorem cq_X8_canBe_X8_widestWindow (a0 : Int32) (a1 : Int32) (m : sl_M) : ca_X8_canBe 52 [.inl a0, .inl a1] m = f_X8_widestWindow a0 a1 m := by
  unfold ca_X8_canBe f_X8_widestWindow
  rw [show Nat.beq 52 52 = true from rfl, cond_true]
theorem e_X8_canBe (a0 : Int32) (a1 : Int32) (a2 : Int32) (a3 : Int32) (a4 : Int32) (m : sl_M) : f_X8_canBe a0 a1 a2 a3 a4 m =
  if a0 < 0 then
    some (((0 : Int32), 0, 0), m)
  else
    if (2 : Int32) < a0 then
      some (((0 : Int32), 0, 0), m)
    else
      if a1 < (2 : Int32) then
        some (((0 : Int32), 0, 0), m)
      else
        if (64 : Int32) < a1 then
          some (((0 : Int32), 0, 0), m)
        else
          if a2 < (1 : Int32) then
            some (((0 : Int32), 0, 0), m)
          else
            (f_X8_widestWindow a0 a1 m).bind (fun q1 =>
            if q1.1.1 < a2 then
              some (((0 : Int32), 0, 0), q1.2)
            else
              if a3 < (1 : Int32) then
                some (((0 : Int32), 0, 0), q1.2)
              else
                if (60 : Int32) < a3 then
                  some (((0 : Int32), 0, 0), q1.2)
                else
                  if a4 < (1 : Int32) then
                    some (((0 : Int32), 0, 0), q1.2)
                  else
                    if (50 : Int32) < a4 then
                      some (((0 : Int32), 0, 0), q1.2)
                    else
                      some (((1 : Int32), 0, 0), q1.2)) := by
  have h := g_X8_canBe_0 ca_X8_canBe 99999 a0 a1 a2 a3 a4 m
  simp only [cq_X8_canBe_X8_widestWindow] at h
  exact h

def tb_X8_choose (p : Nat) : Option sl_E := bif Nat.ble 28 p then none else (bif Nat.ble 12 p then (bif Nat.ble 21 p then (bif Nat.ble 24 p then (bif Nat.ble 27 p then (bif Nat.beq p 27 then some (50, 0, 0, 1, []) else none) else (bif Nat.beq p 24 then some (36, 0, 24, 3, []) else none)) else (bif Nat.ble 22 p then (bif Nat.beq p 22 then some (0, 0, 5, 2, []) else none) else (bif Nat.beq p 21 then some (1, 0, 0, 1, []) else none))) else (bif Nat.ble 16 p then (bif Nat.ble 18 p then (bif Nat.beq p 18 then some (36, 0, 21, 3, []) else none) else (bif Nat.beq p 16 then some (0, 0, 4, 2, []) else none)) else (bif Nat.ble 15 p then (bif Nat.beq p 15 then some (1, 0, 0, 1, []) else none) else (bif Nat.beq p 12 then some (36, 0, 18, 3, []) else none)))) else (bif Nat.ble 6 p then (bif Nat.ble 10 p then (bif Nat.ble 11 p then (bif Nat.beq p 11 then some (0, 0, 3, 1, []) else none) else (bif Nat.beq p 10 then some (1, 0, 0, 1, []) else none)) else (bif Nat.ble 7 p then (bif Nat.beq p 7 then some (36, 0, 15, 3, []) else none) else (bif Nat.beq p 6 then some (0, 0, 2, 1, []) else none))) else (bif Nat.ble 2 p then (bif Nat.ble 5 p then (bif Nat.beq p 5 then some (1, 0, 0, 1, []) else none) else (bif Nat.beq p 2 then some (36, 0, 9, 3, []) else none)) else (bif Nat.ble 1 p then (bif Nat.beq p 1 then some (0, 0, 1, 1, []) else none) else (bif Nat.beq p 0 then some (1, 0, 0, 1, []) else none)))))
def ca_X8_choose (y : Nat) (as : List sl_V) (m : sl_M) : Option (sl_PL × sl_M) := none
def sp_X8_choose (p : Nat) : Bool := false
def mk_X8_choose (p : Nat) : List Bool := []
def cl_X8_choose (p : Nat) : Option sl_C := none
def R_X8_choose (ca : Nat → List sl_V → sl_M → Option (sl_PL × sl_M)) : Nat → sl_S → sl_M → Option (sl_PL × sl_M) := sl_B tb_X8_choose fl_X8 pf_X8 cl_X8_choose nw_X8 sl_rd sl_wr sl_al sl_ln 0 (fun _ => 0) ca sp_X8_choose mk_X8_choose
def F_X8_choose (as : List sl_V) (m : sl_M) : Option (sl_PL × sl_M) := R_X8_choose ca_X8_choose 100000 (0, sl_lo 6 as, []) m
def f_X8_choose (a0 : Int32) (a1 : Int32) (a2 : Int32) (a3 : Int32) (a4 : Int32) (m : sl_M) : Option (sl_PL × sl_M) := F_X8_choose [.inr (.inl (some (8, 0))), .inl a0, .inl a1, .inl a2, .inl a3, .inl a4] m
def r_X8_choose_0 (ca : Nat → List sl_V → sl_M → Option (sl_PL × sl_M)) (n : Nat) (a0 : Int32) (a1 : Int32) (a2 : Int32) (a3 : Int32) (a4 : Int32) (m : sl_M) : Option (sl_PL × sl_M) := R_X8_choose ca n (0, sl_lo 6 [.inr (.inl (some (8, 0))), .inl a0, .inl a1, .inl a2, .inl a3, .inl a4], []) m
set_option maxRecDepth 100000 in
theorem g_X8_choose_0 (ca : Nat → List sl_V → sl_M → Option (sl_PL × sl_M)) (n : Nat) (a0 : Int32) (a1 : Int32) (a2 : Int32) (a3 : Int32) (a4 : Int32) (m : sl_M) : r_X8_choose_0 ca (n + 1) a0 a1 a2 a3 a4 m =
  some ((0, 0, 0), (sl_up (sl_up (sl_up (sl_up (sl_up m 8 0 0 a0) 8 0 1 a1) 8 0 2 a2) 8 0 3 a3) 8 0 4 a4)) := by rfl
theorem e_X8_choose (a0 : Int32) (a1 : Int32) (a2 : Int32) (a3 : Int32) (a4 : Int32) (m : sl_M) : f_X8_choose a0 a1 a2 a3 a4 m =
  some ((0, 0, 0), (sl_up (sl_up (sl_up (sl_up (sl_up m 8 0 0 a0) 8 0 1 a1) 8 0 2 a2) 8 0 3 a3) 8 0 4 a4)) := by
  have h := g_X8_choose_0 ca_X8_choose 99999 a0 a1 a2 a3 a4 m
  exact h

def tb_X9_clear (p : Nat) : Option sl_E := bif Nat.ble 9 p then none else (bif Nat.ble 4 p then (bif Nat.ble 5 p then (bif Nat.ble 8 p then (bif Nat.beq p 8 then some (50, 0, 0, 1, []) else none) else (bif Nat.beq p 5 then some (46, 0, 15, 3, []) else none)) else (bif Nat.beq p 4 then some (2, 0, 0, 1, []) else none)) else (bif Nat.ble 1 p then (bif Nat.beq p 1 then some (35, 0, 9, 3, []) else none) else (bif Nat.beq p 0 then some (1, 0, 0, 1, []) else none)))
def ca_X9_clear (y : Nat) (as : List sl_V) (m : sl_M) : Option (sl_PL × sl_M) := bif Nat.beq y 137 then F_J7_fill_53178 as m else none
def sp_X9_clear (p : Nat) : Bool := false
def mk_X9_clear (p : Nat) : List Bool := []
def cl_X9_clear (p : Nat) : Option sl_C := bif Nat.ble 16 p then none else (bif Nat.beq p 15 then some (137, 2, 0, 0, 0, 0) else none)
def R_X9_clear (ca : Nat → List sl_V → sl_M → Option (sl_PL × sl_M)) : Nat → sl_S → sl_M → Option (sl_PL × sl_M) := sl_B tb_X9_clear fl_X9 pf_X9 cl_X9_clear nw_X9 sl_rd sl_wr sl_al sl_ln 0 (fun _ => 0) ca sp_X9_clear mk_X9_clear
def F_X9_clear (as : List sl_V) (m : sl_M) : Option (sl_PL × sl_M) := R_X9_clear ca_X9_clear 100000 (0, sl_lo 1 as, []) m
def f_X9_clear  (m : sl_M) : Option (sl_PL × sl_M) := F_X9_clear [.inr (.inl (some (9, 0)))] m
def r_X9_clear_0 (ca : Nat → List sl_V → sl_M → Option (sl_PL × sl_M)) (n : Nat)  (m : sl_M) : Option (sl_PL × sl_M) := R_X9_clear ca n (0, sl_lo 1 [.inr (.inl (some (9, 0)))], []) m
set_option maxRecDepth 100000 in
theorem g_X9_clear_0 (ca : Nat → List sl_V → sl_M → Option (sl_PL × sl_M)) (n : Nat)  (m : sl_M) : r_X9_clear_0 ca (n + 1) m =
  (ca 137 [.inr (.inl (some (27, 2))), .inl (0 : Int32)] m).bind (fun q1 =>
  some ((0, 0, 0), q1.2)) := by rfl
theorem cq_X9_clear_J7_fill_53178 (a0 : Nat) (a1 : Int32) (m : sl_M) : ca_X9_clear 137 [.inr (.inl (some (27, a0))), .inl a1] m = f_J7_fill_53178 a0 a1 m := by
  unfold ca_X9_clear f_J7_fill_53178
  rw [show Nat.beq 137 137 = true from rfl, cond_true]
theorem e_X9_clear  (m : sl_M) : f_X9_clear m =
  (f_J7_fill_53178 2 (0 : Int32) m).bind (fun q1 =>
  some ((0, 0, 0), q1.2)) := by
  have h := g_X9_clear_0 ca_X9_clear 99999 m
  simp only [cq_X9_clear_J7_fill_53178] at h
  exact h

def tb_X9_of (p : Nat) : Option sl_E := bif Nat.ble 30 p then none else (bif Nat.ble 14 p then (bif Nat.ble 23 p then (bif Nat.ble 25 p then (bif Nat.ble 28 p then (bif Nat.ble 29 p then (bif Nat.beq p 29 then some (47, 0, 1, 1, []) else none) else (bif Nat.beq p 28 then some (2, (-1), 0, 1, []) else none)) else (bif Nat.beq p 25 then some (34, 0, 29, 3, []) else none)) else (bif Nat.ble 24 p then (bif Nat.beq p 24 then some (37, 0, 0, 1, []) else none) else (bif Nat.beq p 23 then some (0, 0, 1, 1, []) else none))) else (bif Nat.ble 19 p then (bif Nat.ble 20 p then (bif Nat.beq p 20 then some (35, 0, 9, 3, []) else none) else (bif Nat.beq p 19 then some (1, 0, 0, 1, []) else none)) else (bif Nat.ble 16 p then (bif Nat.beq p 16 then some (22, 0, 28, 3, []) else none) else (bif Nat.beq p 14 then some (2, 10, 0, 2, []) else none)))) else (bif Nat.ble 6 p then (bif Nat.ble 10 p then (bif Nat.ble 13 p then (bif Nat.beq p 13 then some (0, 0, 1, 1, []) else none) else (bif Nat.beq p 10 then some (25, 0, 28, 3, []) else none)) else (bif Nat.ble 9 p then (bif Nat.beq p 9 then some (45, 0, 0, 1, []) else none) else (bif Nat.beq p 6 then some (35, 0, 9, 3, []) else none))) else (bif Nat.ble 4 p then (bif Nat.ble 5 p then (bif Nat.beq p 5 then some (1, 0, 0, 1, []) else none) else (bif Nat.beq p 4 then some (0, 0, 1, 1, []) else none)) else (bif Nat.ble 1 p then (bif Nat.beq p 1 then some (30, 0, 28, 3, []) else none) else (bif Nat.beq p 0 then some (0, 0, 1, 1, []) else none)))))
def ca_X9_of (y : Nat) (as : List sl_V) (m : sl_M) : Option (sl_PL × sl_M) := none
def sp_X9_of (p : Nat) : Bool := false
def mk_X9_of (p : Nat) : List Bool := []
def cl_X9_of (p : Nat) : Option sl_C := none
def R_X9_of (ca : Nat → List sl_V → sl_M → Option (sl_PL × sl_M)) : Nat → sl_S → sl_M → Option (sl_PL × sl_M) := sl_B tb_X9_of fl_X9 pf_X9 cl_X9_of nw_X9 sl_rd sl_wr sl_al sl_ln 0 (fun _ => 0) ca sp_X9_of mk_X9_of
def F_X9_of (as : List sl_V) (m : sl_M) : Option (sl_PL × sl_M) := R_X9_of ca_X9_of 100000 (0, sl_lo 2 as, []) m
def f_X9_of (a0 : Int32) (m : sl_M) : Option (sl_PL × sl_M) := F_X9_of [.inr (.inl (some (9, 0))), .inl a0] m
def r_X9_of_0 (ca : Nat → List sl_V → sl_M → Option (sl_PL × sl_M)) (n : Nat) (a0 : Int32) (m : sl_M) : Option (sl_PL × sl_M) := R_X9_of ca n (0, sl_lo 2 [.inr (.inl (some (9, 0))), .inl a0], []) m
set_option maxRecDepth 100000 in
theorem g_X9_of_0 (ca : Nat → List sl_V → sl_M → Option (sl_PL × sl_M)) (n : Nat) (a0 : Int32) (m : sl_M) : r_X9_of_0 ca (n + 1) a0 m =
  if a0 < 0 then
    some (((-1 : Int32), 0, 0), m)
  else
    if (Int32.ofNat 16) ≤ a0 then
      some (((-1 : Int32), 0, 0), m)
    else
      if a0 = (10 : Int32) then
        some (((-1 : Int32), 0, 0), m)
      else
        if 0 ≤ a0 ∧ a0.toNatClampNeg < 16 then
        some (((m.1 27 2 a0.toNatClampNeg), 0, 0), m)
        else none := by rfl
theorem e_X9_of (a0 : Int32) (m : sl_M) : f_X9_of a0 m =
  if a0 < 0 then
    some (((-1 : Int32), 0, 0), m)
  else
    if (Int32.ofNat 16) ≤ a0 then
      some (((-1 : Int32), 0, 0), m)
    else
      if a0 = (10 : Int32) then
        some (((-1 : Int32), 0, 0), m)
      else
        if 0 ≤ a0 ∧ a0.toNatClampNeg < 16 then
        some (((m.1 27 2 a0.toNatClampNeg), 0, 0), m)
        else none := by
  have h := g_X9_of_0 ca_X9_of 99999 a0 m
  exact h

def tb_X10_open (p : Nat) : Option sl_E := bif Nat.ble 73 p then none else (bif Nat.ble 30 p then (bif Nat.ble 51 p then (bif Nat.ble 64 p then (bif Nat.ble 68 p then (bif Nat.ble 71 p then (bif Nat.ble 72 p then (bif Nat.beq p 72 then some (47, 0, 2, 1, []) else none) else (bif Nat.beq p 71 then some (2, 1, 0, 1, []) else none)) else (bif Nat.beq p 68 then some (46, 0, 79, 3, []) else none)) else (bif Nat.ble 65 p then (bif Nat.beq p 65 then some (35, 0, 62, 3, []) else none) else (bif Nat.beq p 64 then some (1, 0, 0, 1, []) else none))) else (bif Nat.ble 57 p then (bif Nat.ble 58 p then (bif Nat.ble 61 p then (bif Nat.beq p 61 then some (46, 0, 78, 3, []) else none) else (bif Nat.beq p 58 then some (35, 0, 44, 3, []) else none)) else (bif Nat.beq p 57 then some (1, 0, 0, 1, []) else none)) else (bif Nat.ble 54 p then (bif Nat.beq p 54 then some (46, 0, 78, 3, []) else none) else (bif Nat.beq p 51 then some (35, 0, 40, 3, []) else none)))) else (bif Nat.ble 40 p then (bif Nat.ble 44 p then (bif Nat.ble 47 p then (bif Nat.ble 50 p then (bif Nat.beq p 50 then some (1, 0, 0, 1, []) else none) else (bif Nat.beq p 47 then some (46, 0, 77, 3, []) else none)) else (bif Nat.beq p 44 then some (35, 0, 32, 3, []) else none)) else (bif Nat.ble 43 p then (bif Nat.beq p 43 then some (1, 0, 0, 1, []) else none) else (bif Nat.beq p 40 then some (46, 0, 77, 3, []) else none))) else (bif Nat.ble 36 p then (bif Nat.ble 37 p then (bif Nat.beq p 37 then some (35, 0, 28, 3, []) else none) else (bif Nat.beq p 36 then some (1, 0, 0, 1, []) else none)) else (bif Nat.ble 33 p then (bif Nat.beq p 33 then some (46, 0, 74, 3, []) else none) else (bif Nat.beq p 30 then some (35, 0, 19, 3, []) else none))))) else (bif Nat.ble 15 p then (bif Nat.ble 21 p then (bif Nat.ble 24 p then (bif Nat.ble 26 p then (bif Nat.ble 29 p then (bif Nat.beq p 29 then some (1, 0, 0, 1, []) else none) else (bif Nat.beq p 26 then some (46, 0, 70, 3, []) else none)) else (bif Nat.beq p 24 then some (0, 0, 5, 2, []) else none)) else (bif Nat.ble 22 p then (bif Nat.beq p 22 then some (0, 0, 4, 2, []) else none) else (bif Nat.beq p 21 then some (0, 0, 3, 1, []) else none))) else (bif Nat.ble 19 p then (bif Nat.ble 20 p then (bif Nat.beq p 20 then some (0, 0, 2, 1, []) else none) else (bif Nat.beq p 19 then some (0, 0, 1, 1, []) else none)) else (bif Nat.ble 16 p then (bif Nat.beq p 16 then some (35, 0, 12, 3, []) else none) else (bif Nat.beq p 15 then some (1, 0, 0, 1, []) else none)))) else (bif Nat.ble 5 p then (bif Nat.ble 10 p then (bif Nat.ble 13 p then (bif Nat.ble 14 p then (bif Nat.beq p 14 then some (47, 0, 2, 1, []) else none) else (bif Nat.beq p 13 then some (2, 0, 0, 1, []) else none)) else (bif Nat.beq p 10 then some (29, 0, 15, 3, []) else none)) else (bif Nat.ble 7 p then (bif Nat.beq p 7 then some (46, 0, 66, 3, []) else none) else (bif Nat.beq p 5 then some (0, 0, 5, 2, []) else none))) else (bif Nat.ble 2 p then (bif Nat.ble 3 p then (bif Nat.beq p 3 then some (0, 0, 4, 2, []) else none) else (bif Nat.beq p 2 then some (0, 0, 3, 1, []) else none)) else (bif Nat.ble 1 p then (bif Nat.beq p 1 then some (0, 0, 2, 1, []) else none) else (bif Nat.beq p 0 then some (0, 0, 1, 1, []) else none))))))
def ca_X10_open (y : Nat) (as : List sl_V) (m : sl_M) : Option (sl_PL × sl_M) := bif Nat.ble 51 y then (bif Nat.ble 53 y then (bif Nat.ble 58 y then (bif Nat.beq y 58 then F_X9_clear as m else none) else (bif Nat.beq y 53 then F_X8_choose as m else none)) else (bif Nat.beq y 51 then F_X8_canBe as m else none)) else (bif Nat.ble 14 y then (bif Nat.ble 18 y then (bif Nat.beq y 18 then F_X4_clear as m else none) else (bif Nat.beq y 14 then F_X3_clear as m else none)) else (bif Nat.beq y 4 then F_X1_clear as m else none))
def sp_X10_open (p : Nat) : Bool := false
def mk_X10_open (p : Nat) : List Bool := []
def cl_X10_open (p : Nat) : Option sl_C := bif Nat.ble 80 p then none else (bif Nat.ble 77 p then (bif Nat.ble 78 p then (bif Nat.ble 79 p then (bif Nat.beq p 79 then some (14, 1, 0, 0, 0, 4) else none) else (bif Nat.beq p 78 then some (4, 1, 0, 0, 0, 2) else none)) else (bif Nat.beq p 77 then some (18, 1, 0, 0, 0, 5) else none)) else (bif Nat.ble 70 p then (bif Nat.ble 74 p then (bif Nat.beq p 74 then some (58, 1, 0, 0, 0, 10) else none) else (bif Nat.beq p 70 then some (53, 6, 0, 0, 0, 9) else none)) else (bif Nat.beq p 66 then some (51, 5, 1, 0, 0, 0) else none)))
def R_X10_open (ca : Nat → List sl_V → sl_M → Option (sl_PL × sl_M)) : Nat → sl_S → sl_M → Option (sl_PL × sl_M) := sl_B tb_X10_open fl_X10 pf_X10 cl_X10_open nw_X10 sl_rd sl_wr sl_al sl_ln 0 (fun _ => 0) ca sp_X10_open mk_X10_open
def F_X10_open (as : List sl_V) (m : sl_M) : Option (sl_PL × sl_M) := R_X10_open ca_X10_open 100000 (0, sl_lo 6 as, []) m
def f_X10_open (a0 : Int32) (a1 : Int32) (a2 : Int32) (a3 : Int32) (a4 : Int32) (m : sl_M) : Option (sl_PL × sl_M) := F_X10_open [.inr (.inl (some (10, 0))), .inl a0, .inl a1, .inl a2, .inl a3, .inl a4] m
def r_X10_open_0 (ca : Nat → List sl_V → sl_M → Option (sl_PL × sl_M)) (n : Nat) (a0 : Int32) (a1 : Int32) (a2 : Int32) (a3 : Int32) (a4 : Int32) (m : sl_M) : Option (sl_PL × sl_M) := R_X10_open ca n (0, sl_lo 6 [.inr (.inl (some (10, 0))), .inl a0, .inl a1, .inl a2, .inl a3, .inl a4], []) m
set_option maxRecDepth 100000 in
theorem g_X10_open_0 (ca : Nat → List sl_V → sl_M → Option (sl_PL × sl_M)) (n : Nat) (a0 : Int32) (a1 : Int32) (a2 : Int32) (a3 : Int32) (a4 : Int32) (m : sl_M) : r_X10_open_0 ca (n + 1) a0 a1 a2 a3 a4 m =
  (ca 51 [.inl a0, .inl a1, .inl a2, .inl a3, .inl a4] m).bind (fun q1 =>
  if q1.1.1 = 0 then
    some (((0 : Int32), 0, 0), q1.2)
  else
    (ca 53 [.inr (.inl (some (8, 0))), .inl a0, .inl a1, .inl a2, .inl a3, .inl a4] q1.2).bind (fun q2 =>
    (ca 58 [.inr (.inl (some (9, 0)))] q2.2).bind (fun q3 =>
    (ca 18 [.inr (.inl (some (4, 0)))] q3.2).bind (fun q4 =>
    (ca 18 [.inr (.inl (some (4, 1)))] q4.2).bind (fun q5 =>
    (ca 4 [.inr (.inl (some (1, 0)))] q5.2).bind (fun q6 =>
    (ca 4 [.inr (.inl (some (1, 1)))] q6.2).bind (fun q7 =>
    (ca 14 [.inr (.inl (some (3, 0)))] q7.2).bind (fun q8 =>
    some (((1 : Int32), 0, 0), q8.2))))))))) := by rfl
theorem cq_X10_open_X1_clear (this : Nat) (m : sl_M) : ca_X10_open 4 [.inr (.inl (some (1, this)))] m = f_X1_clear this m := by
  unfold ca_X10_open f_X1_clear
  rw [show Nat.ble 51 4 = false from rfl, cond_false, show Nat.ble 14 4 = false from rfl, cond_false, show Nat.beq 4 4 = true from rfl, cond_true]
theorem cq_X10_open_X3_clear (this : Nat) (m : sl_M) : ca_X10_open 14 [.inr (.inl (some (3, this)))] m = f_X3_clear this m := by
  unfold ca_X10_open f_X3_clear
  rw [show Nat.ble 51 14 = false from rfl, cond_false, show Nat.ble 14 14 = true from rfl, cond_true, show Nat.ble 18 14 = false from rfl, cond_false, show Nat.beq 14 14 = true from rfl, cond_true]
theorem cq_X10_open_X4_clear (this : Nat) (m : sl_M) : ca_X10_open 18 [.inr (.inl (some (4, this)))] m = f_X4_clear this m := by
  unfold ca_X10_open f_X4_clear
  rw [show Nat.ble 51 18 = false from rfl, cond_false, show Nat.ble 14 18 = true from rfl, cond_true, show Nat.ble 18 18 = true from rfl, cond_true, show Nat.beq 18 18 = true from rfl, cond_true]
theorem cq_X10_open_X8_canBe (a0 : Int32) (a1 : Int32) (a2 : Int32) (a3 : Int32) (a4 : Int32) (m : sl_M) : ca_X10_open 51 [.inl a0, .inl a1, .inl a2, .inl a3, .inl a4] m = f_X8_canBe a0 a1 a2 a3 a4 m := by
  unfold ca_X10_open f_X8_canBe
  rw [show Nat.ble 51 51 = true from rfl, cond_true, show Nat.ble 53 51 = false from rfl, cond_false, show Nat.beq 51 51 = true from rfl, cond_true]
theorem cq_X10_open_X8_choose (a0 : Int32) (a1 : Int32) (a2 : Int32) (a3 : Int32) (a4 : Int32) (m : sl_M) : ca_X10_open 53 [.inr (.inl (some (8, 0))), .inl a0, .inl a1, .inl a2, .inl a3, .inl a4] m = f_X8_choose a0 a1 a2 a3 a4 m := by
  unfold ca_X10_open f_X8_choose
  rw [show Nat.ble 51 53 = true from rfl, cond_true, show Nat.ble 53 53 = true from rfl, cond_true, show Nat.ble 58 53 = false from rfl, cond_false, show Nat.beq 53 53 = true from rfl, cond_true]
theorem cq_X10_open_X9_clear  (m : sl_M) : ca_X10_open 58 [.inr (.inl (some (9, 0)))] m = f_X9_clear m := by
  unfold ca_X10_open f_X9_clear
  rw [show Nat.ble 51 58 = true from rfl, cond_true, show Nat.ble 53 58 = true from rfl, cond_true, show Nat.ble 58 58 = true from rfl, cond_true, show Nat.beq 58 58 = true from rfl, cond_true]
theorem e_X10_open (a0 : Int32) (a1 : Int32) (a2 : Int32) (a3 : Int32) (a4 : Int32) (m : sl_M) : f_X10_open a0 a1 a2 a3 a4 m =
  (f_X8_canBe a0 a1 a2 a3 a4 m).bind (fun q1 =>
  if q1.1.1 = 0 then
    some (((0 : Int32), 0, 0), q1.2)
  else
    (f_X8_choose a0 a1 a2 a3 a4 q1.2).bind (fun q2 =>
    (f_X9_clear q2.2).bind (fun q3 =>
    (f_X4_clear 0 q3.2).bind (fun q4 =>
    (f_X4_clear 1 q4.2).bind (fun q5 =>
    (f_X1_clear 0 q5.2).bind (fun q6 =>
    (f_X1_clear 1 q6.2).bind (fun q7 =>
    (f_X3_clear 0 q7.2).bind (fun q8 =>
    some (((1 : Int32), 0, 0), q8.2))))))))) := by
  have h := g_X10_open_0 ca_X10_open 99999 a0 a1 a2 a3 a4 m
  simp only [cq_X10_open_X1_clear, cq_X10_open_X3_clear, cq_X10_open_X4_clear, cq_X10_open_X8_canBe, cq_X10_open_X8_choose, cq_X10_open_X9_clear] at h
  exact h

def tb_X10_feedNumber (p : Nat) : Option sl_E := bif Nat.ble 25 p then none else (bif Nat.ble 12 p then (bif Nat.ble 17 p then (bif Nat.ble 21 p then (bif Nat.ble 24 p then (bif Nat.beq p 24 then some (50, 0, 0, 1, []) else none) else (bif Nat.beq p 21 then some (34, 0, 3, 3, []) else none)) else (bif Nat.ble 18 p then (bif Nat.beq p 18 then some (5, (-8), 2, 3, []) else none) else (bif Nat.beq p 17 then some (21, 0, 0, 1, []) else none))) else (bif Nat.ble 13 p then (bif Nat.ble 14 p then (bif Nat.beq p 14 then some (46, 0, 91, 3, []) else none) else (bif Nat.beq p 13 then some (16, 0, 0, 1, []) else none)) else (bif Nat.beq p 12 then some (0, 0, 2, 1, []) else none))) else (bif Nat.ble 4 p then (bif Nat.ble 8 p then (bif Nat.ble 11 p then (bif Nat.beq p 11 then some (0, 0, 1, 1, []) else none) else (bif Nat.beq p 8 then some (35, 0, 52, 3, []) else none)) else (bif Nat.ble 7 p then (bif Nat.beq p 7 then some (1, 0, 0, 1, []) else none) else (bif Nat.beq p 4 then some (30, 0, 24, 3, []) else none))) else (bif Nat.ble 2 p then (bif Nat.ble 3 p then (bif Nat.beq p 3 then some (0, 0, 2, 1, []) else none) else (bif Nat.beq p 2 then some (3, 0, 2, 1, []) else none)) else (bif Nat.beq p 0 then some (2, 24, 0, 2, []) else none))))
def ca_X10_feedNumber (y : Nat) (as : List sl_V) (m : sl_M) : Option (sl_PL × sl_M) := bif Nat.beq y 37 then F_X6_add as m else none
def sp_X10_feedNumber (p : Nat) : Bool := Nat.beq p 3
def mk_X10_feedNumber (p : Nat) : List Bool := bif Nat.beq p 3 then [true, true, true] else []
def cl_X10_feedNumber (p : Nat) : Option sl_C := bif Nat.ble 92 p then none else (bif Nat.beq p 91 then some (37, 2, 1, 0, 0, 7) else none)
def R_X10_feedNumber (ca : Nat → List sl_V → sl_M → Option (sl_PL × sl_M)) : Nat → sl_S → sl_M → Option (sl_PL × sl_M) := sl_B tb_X10_feedNumber fl_X10 pf_X10 cl_X10_feedNumber nw_X10 sl_rd sl_wr sl_al sl_ln 0 (fun _ => 0) ca sp_X10_feedNumber mk_X10_feedNumber
def F_X10_feedNumber (as : List sl_V) (m : sl_M) : Option (sl_PL × sl_M) := R_X10_feedNumber ca_X10_feedNumber 100000 (0, sl_lo 3 as, []) m
def f_X10_feedNumber (a0 : Int32) (m : sl_M) : Option (sl_PL × sl_M) := F_X10_feedNumber [.inr (.inl (some (10, 0))), .inl a0] m
def r_X10_feedNumber_0 (ca : Nat → List sl_V → sl_M → Option (sl_PL × sl_M)) (n : Nat) (a0 : Int32) (m : sl_M) : Option (sl_PL × sl_M) := R_X10_feedNumber ca n (0, sl_lo 3 [.inr (.inl (some (10, 0))), .inl a0], []) m
def r_X10_feedNumber_3 (ca : Nat → List sl_V → sl_M → Option (sl_PL × sl_M)) (n : Nat) (v1 : Int32) (v2 : Int32) (m : sl_M) : Option (sl_PL × sl_M) := R_X10_feedNumber ca n (3, [some (.inr (.inl (some (10, 0)))), some (.inl v1), some (.inl v2)], []) m
def b_X10_feedNumber_3 (n : Nat) (v1 : Int32) (v2 : Int32) (m : sl_M) : Option (sl_PL × sl_M) := r_X10_feedNumber_3 ca_X10_feedNumber n v1 v2 m
set_option maxRecDepth 100000 in
theorem g_X10_feedNumber_0 (ca : Nat → List sl_V → sl_M → Option (sl_PL × sl_M)) (n : Nat) (a0 : Int32) (m : sl_M) : r_X10_feedNumber_0 ca (n + 1) a0 m =
  r_X10_feedNumber_3 ca n a0 (24 : Int32) m := by rfl
set_option maxRecDepth 100000 in
theorem g_X10_feedNumber_3 (ca : Nat → List sl_V → sl_M → Option (sl_PL × sl_M)) (n : Nat) (v1 : Int32) (v2 : Int32) (m : sl_M) : r_X10_feedNumber_3 ca (n + 1) v1 v2 m =
  if v2 < 0 then
    some ((0, 0, 0), m)
  else
    (ca 37 [.inr (.inl (some (6, 0))), .inl (sl_ush v1 v2)] m).bind (fun q1 =>
    r_X10_feedNumber_3 ca n v1 (v2 + (-8 : Int32)) q1.2) := by rfl
theorem cq_X10_feedNumber_X6_add (this : Nat) (a0 : Int32) (m : sl_M) : ca_X10_feedNumber 37 [.inr (.inl (some (6, this))), .inl a0] m = f_X6_add this a0 m := by
  unfold ca_X10_feedNumber f_X6_add
  rw [show Nat.beq 37 37 = true from rfl, cond_true]
theorem bq_X10_feedNumber_3 (n : Nat) (v1 : Int32) (v2 : Int32) (m : sl_M) : r_X10_feedNumber_3 ca_X10_feedNumber n v1 v2 m = b_X10_feedNumber_3 n v1 v2 m := rfl
theorem e_X10_feedNumber (a0 : Int32) (m : sl_M) : f_X10_feedNumber a0 m =
  b_X10_feedNumber_3 99999 a0 (24 : Int32) m := by
  have h := g_X10_feedNumber_0 ca_X10_feedNumber 99999 a0 m
  simp only [cq_X10_feedNumber_X6_add, bq_X10_feedNumber_3] at h
  exact h
theorem e_X10_feedNumber_3 (n : Nat) (v1 : Int32) (v2 : Int32) (m : sl_M) : b_X10_feedNumber_3 (n + 1) v1 v2 m =
  if v2 < 0 then
    some ((0, 0, 0), m)
  else
    (f_X6_add 0 (sl_ush v1 v2) m).bind (fun q1 =>
    b_X10_feedNumber_3 n v1 (v2 + (-8 : Int32)) q1.2) := by
  have h := g_X10_feedNumber_3 ca_X10_feedNumber n v1 v2 m
  simp only [cq_X10_feedNumber_X6_add, bq_X10_feedNumber_3] at h
  exact h

def tb_X10_feed (p : Nat) : Option sl_E := bif Nat.ble 49 p then none else (bif Nat.ble 24 p then (bif Nat.ble 35 p then (bif Nat.ble 41 p then (bif Nat.ble 45 p then (bif Nat.ble 48 p then (bif Nat.beq p 48 then some (47, 0, 1, 1, []) else none) else (bif Nat.beq p 45 then some (35, 0, 87, 3, []) else none)) else (bif Nat.ble 42 p then (bif Nat.beq p 42 then some (35, 0, 52, 3, []) else none) else (bif Nat.beq p 41 then some (1, 0, 0, 1, []) else none))) else (bif Nat.ble 36 p then (bif Nat.ble 38 p then (bif Nat.beq p 38 then some (46, 0, 84, 3, []) else none) else (bif Nat.beq p 36 then some (0, 0, 5, 2, []) else none)) else (bif Nat.beq p 35 then some (1, 0, 0, 1, []) else none))) else (bif Nat.ble 29 p then (bif Nat.ble 30 p then (bif Nat.ble 32 p then (bif Nat.beq p 32 then some (46, 0, 84, 3, []) else none) else (bif Nat.beq p 30 then some (0, 0, 4, 2, []) else none)) else (bif Nat.beq p 29 then some (1, 0, 0, 1, []) else none)) else (bif Nat.ble 25 p then (bif Nat.ble 26 p then (bif Nat.beq p 26 then some (46, 0, 84, 3, []) else none) else (bif Nat.beq p 25 then some (0, 0, 3, 1, []) else none)) else (bif Nat.beq p 24 then some (1, 0, 0, 1, []) else none)))) else (bif Nat.ble 13 p then (bif Nat.ble 16 p then (bif Nat.ble 20 p then (bif Nat.ble 21 p then (bif Nat.beq p 21 then some (46, 0, 84, 3, []) else none) else (bif Nat.beq p 20 then some (0, 0, 2, 1, []) else none)) else (bif Nat.ble 19 p then (bif Nat.beq p 19 then some (1, 0, 0, 1, []) else none) else (bif Nat.beq p 16 then some (46, 0, 84, 3, []) else none))) else (bif Nat.ble 14 p then (bif Nat.ble 15 p then (bif Nat.beq p 15 then some (0, 0, 1, 1, []) else none) else (bif Nat.beq p 14 then some (1, 0, 0, 1, []) else none)) else (bif Nat.beq p 13 then some (47, 0, 1, 1, []) else none))) else (bif Nat.ble 6 p then (bif Nat.ble 9 p then (bif Nat.ble 12 p then (bif Nat.beq p 12 then some (2, (-1), 0, 1, []) else none) else (bif Nat.beq p 9 then some (29, 0, 14, 3, []) else none)) else (bif Nat.beq p 6 then some (46, 0, 80, 3, []) else none)) else (bif Nat.ble 1 p then (bif Nat.ble 4 p then (bif Nat.beq p 4 then some (2, 20, 0, 2, []) else none) else (bif Nat.beq p 1 then some (35, 0, 52, 3, []) else none)) else (bif Nat.beq p 0 then some (1, 0, 0, 1, []) else none)))))
def ca_X10_feed (y : Nat) (as : List sl_V) (m : sl_M) : Option (sl_PL × sl_M) := bif Nat.ble 64 y then (bif Nat.beq y 64 then F_X10_feedNumber as m else none) else (bif Nat.beq y 35 then F_X6_hasRoom as m else none)
def sp_X10_feed (p : Nat) : Bool := false
def mk_X10_feed (p : Nat) : List Bool := []
def cl_X10_feed (p : Nat) : Option sl_C := bif Nat.ble 85 p then none else (bif Nat.ble 84 p then (bif Nat.beq p 84 then some (64, 2, 0, 0, 0, 11) else none) else (bif Nat.beq p 80 then some (35, 2, 1, 0, 0, 7) else none))
def R_X10_feed (ca : Nat → List sl_V → sl_M → Option (sl_PL × sl_M)) : Nat → sl_S → sl_M → Option (sl_PL × sl_M) := sl_B tb_X10_feed fl_X10 pf_X10 cl_X10_feed nw_X10 sl_rd sl_wr sl_al sl_ln 0 (fun _ => 0) ca sp_X10_feed mk_X10_feed
def F_X10_feed (as : List sl_V) (m : sl_M) : Option (sl_PL × sl_M) := R_X10_feed ca_X10_feed 100000 (0, sl_lo 6 as, []) m
def f_X10_feed (a0 : Int32) (a1 : Int32) (a2 : Int32) (a3 : Int32) (a4 : Int32) (m : sl_M) : Option (sl_PL × sl_M) := F_X10_feed [.inr (.inl (some (10, 0))), .inl a0, .inl a1, .inl a2, .inl a3, .inl a4] m
def r_X10_feed_0 (ca : Nat → List sl_V → sl_M → Option (sl_PL × sl_M)) (n : Nat) (a0 : Int32) (a1 : Int32) (a2 : Int32) (a3 : Int32) (a4 : Int32) (m : sl_M) : Option (sl_PL × sl_M) := R_X10_feed ca n (0, sl_lo 6 [.inr (.inl (some (10, 0))), .inl a0, .inl a1, .inl a2, .inl a3, .inl a4], []) m
set_option maxRecDepth 100000 in
theorem g_X10_feed_0 (ca : Nat → List sl_V → sl_M → Option (sl_PL × sl_M)) (n : Nat) (a0 : Int32) (a1 : Int32) (a2 : Int32) (a3 : Int32) (a4 : Int32) (m : sl_M) : r_X10_feed_0 ca (n + 1) a0 a1 a2 a3 a4 m =
  (ca 35 [.inr (.inl (some (6, 0))), .inl (20 : Int32)] m).bind (fun q1 =>
  if q1.1.1 = 0 then
    some (((-1 : Int32), 0, 0), q1.2)
  else
    (ca 64 [.inr (.inl (some (10, 0))), .inl a0] q1.2).bind (fun q2 =>
    (ca 64 [.inr (.inl (some (10, 0))), .inl a1] q2.2).bind (fun q3 =>
    (ca 64 [.inr (.inl (some (10, 0))), .inl a2] q3.2).bind (fun q4 =>
    (ca 64 [.inr (.inl (some (10, 0))), .inl a3] q4.2).bind (fun q5 =>
    (ca 64 [.inr (.inl (some (10, 0))), .inl a4] q5.2).bind (fun q6 =>
    some (((q6.2.1 6 0 1), 0, 0), q6.2))))))) := by rfl
theorem cq_X10_feed_X6_hasRoom (this : Nat) (a0 : Int32) (m : sl_M) : ca_X10_feed 35 [.inr (.inl (some (6, this))), .inl a0] m = f_X6_hasRoom this a0 m := by
  unfold ca_X10_feed f_X6_hasRoom
  rw [show Nat.ble 64 35 = false from rfl, cond_false, show Nat.beq 35 35 = true from rfl, cond_true]
theorem cq_X10_feed_X10_feedNumber (a0 : Int32) (m : sl_M) : ca_X10_feed 64 [.inr (.inl (some (10, 0))), .inl a0] m = f_X10_feedNumber a0 m := by
  unfold ca_X10_feed f_X10_feedNumber
  rw [show Nat.ble 64 64 = true from rfl, cond_true, show Nat.beq 64 64 = true from rfl, cond_true]
theorem e_X10_feed (a0 : Int32) (a1 : Int32) (a2 : Int32) (a3 : Int32) (a4 : Int32) (m : sl_M) : f_X10_feed a0 a1 a2 a3 a4 m =
  (f_X6_hasRoom 0 (20 : Int32) m).bind (fun q1 =>
  if q1.1.1 = 0 then
    some (((-1 : Int32), 0, 0), q1.2)
  else
    (f_X10_feedNumber a0 q1.2).bind (fun q2 =>
    (f_X10_feedNumber a1 q2.2).bind (fun q3 =>
    (f_X10_feedNumber a2 q3.2).bind (fun q4 =>
    (f_X10_feedNumber a3 q4.2).bind (fun q5 =>
    (f_X10_feedNumber a4 q5.2).bind (fun q6 =>
    some (((q6.2.1 6 0 1), 0, 0), q6.2))))))) := by
  have h := g_X10_feed_0 ca_X10_feed 99999 a0 a1 a2 a3 a4 m
  simp only [cq_X10_feed_X6_hasRoom, cq_X10_feed_X10_feedNumber] at h
  exact h

def tb_X10_cut (p : Nat) : Option sl_E := bif Nat.ble 27 p then none else (bif Nat.ble 15 p then (bif Nat.ble 21 p then (bif Nat.ble 25 p then (bif Nat.ble 26 p then (bif Nat.beq p 26 then some (47, 0, 2, 1, []) else none) else (bif Nat.beq p 25 then some (2, 1, 0, 1, []) else none)) else (bif Nat.ble 22 p then (bif Nat.beq p 22 then some (46, 0, 94, 3, []) else none) else (bif Nat.beq p 21 then some (0, 0, 1, 1, []) else none))) else (bif Nat.ble 17 p then (bif Nat.ble 18 p then (bif Nat.beq p 18 then some (35, 0, 52, 3, []) else none) else (bif Nat.beq p 17 then some (1, 0, 0, 1, []) else none)) else (bif Nat.ble 16 p then (bif Nat.beq p 16 then some (47, 0, 2, 1, []) else none) else (bif Nat.beq p 15 then some (2, 0, 0, 1, []) else none)))) else (bif Nat.ble 5 p then (bif Nat.ble 9 p then (bif Nat.ble 12 p then (bif Nat.beq p 12 then some (27, 0, 17, 3, []) else none) else (bif Nat.beq p 9 then some (35, 0, 87, 3, []) else none)) else (bif Nat.ble 6 p then (bif Nat.beq p 6 then some (35, 0, 52, 3, []) else none) else (bif Nat.beq p 5 then some (1, 0, 0, 1, []) else none))) else (bif Nat.ble 1 p then (bif Nat.ble 4 p then (bif Nat.beq p 4 then some (0, 0, 1, 1, []) else none) else (bif Nat.beq p 1 then some (30, 0, 15, 3, []) else none)) else (bif Nat.beq p 0 then some (0, 0, 1, 1, []) else none))))
def ca_X10_cut (y : Nat) (as : List sl_V) (m : sl_M) : Option (sl_PL × sl_M) := bif Nat.beq y 34 then F_X6_cutTo as m else none
def sp_X10_cut (p : Nat) : Bool := false
def mk_X10_cut (p : Nat) : List Bool := []
def cl_X10_cut (p : Nat) : Option sl_C := bif Nat.ble 95 p then none else (bif Nat.beq p 94 then some (34, 2, 0, 0, 0, 7) else none)
def R_X10_cut (ca : Nat → List sl_V → sl_M → Option (sl_PL × sl_M)) : Nat → sl_S → sl_M → Option (sl_PL × sl_M) := sl_B tb_X10_cut fl_X10 pf_X10 cl_X10_cut nw_X10 sl_rd sl_wr sl_al sl_ln 0 (fun _ => 0) ca sp_X10_cut mk_X10_cut
def F_X10_cut (as : List sl_V) (m : sl_M) : Option (sl_PL × sl_M) := R_X10_cut ca_X10_cut 100000 (0, sl_lo 2 as, []) m
def f_X10_cut (a0 : Int32) (m : sl_M) : Option (sl_PL × sl_M) := F_X10_cut [.inr (.inl (some (10, 0))), .inl a0] m
def r_X10_cut_0 (ca : Nat → List sl_V → sl_M → Option (sl_PL × sl_M)) (n : Nat) (a0 : Int32) (m : sl_M) : Option (sl_PL × sl_M) := R_X10_cut ca n (0, sl_lo 2 [.inr (.inl (some (10, 0))), .inl a0], []) m
set_option maxRecDepth 100000 in
theorem g_X10_cut_0 (ca : Nat → List sl_V → sl_M → Option (sl_PL × sl_M)) (n : Nat) (a0 : Int32) (m : sl_M) : r_X10_cut_0 ca (n + 1) a0 m =
  if a0 < 0 then
    some (((0 : Int32), 0, 0), m)
  else
    if a0 ≤ (m.1 6 0 1) then
      (ca 34 [.inr (.inl (some (6, 0))), .inl a0] m).bind (fun q1 =>
      some (((1 : Int32), 0, 0), q1.2))
    else
      some (((0 : Int32), 0, 0), m) := by rfl
theorem cq_X10_cut_X6_cutTo (this : Nat) (a0 : Int32) (m : sl_M) : ca_X10_cut 34 [.inr (.inl (some (6, this))), .inl a0] m = f_X6_cutTo this a0 m := by
  unfold ca_X10_cut f_X6_cutTo
  rw [show Nat.beq 34 34 = true from rfl, cond_true]
theorem e_X10_cut (a0 : Int32) (m : sl_M) : f_X10_cut a0 m =
  if a0 < 0 then
    some (((0 : Int32), 0, 0), m)
  else
    if a0 ≤ (m.1 6 0 1) then
      (f_X6_cutTo 0 a0 m).bind (fun q1 =>
      some (((1 : Int32), 0, 0), q1.2))
    else
      some (((0 : Int32), 0, 0), m) := by
  have h := g_X10_cut_0 ca_X10_cut 99999 a0 m
  simp only [cq_X10_cut_X6_cutTo] at h
  exact h

def tb_X10_take (p : Nat) : Option sl_E := bif Nat.ble 40 p then none else (bif Nat.ble 17 p then (bif Nat.ble 29 p then (bif Nat.ble 33 p then (bif Nat.ble 36 p then (bif Nat.ble 39 p then (bif Nat.beq p 39 then some (47, 0, 1, 1, []) else none) else (bif Nat.beq p 36 then some (35, 0, 87, 3, []) else none)) else (bif Nat.beq p 33 then some (35, 0, 52, 3, []) else none)) else (bif Nat.ble 32 p then (bif Nat.beq p 32 then some (1, 0, 0, 1, []) else none) else (bif Nat.beq p 29 then some (46, 0, 104, 3, []) else none))) else (bif Nat.ble 23 p then (bif Nat.ble 26 p then (bif Nat.beq p 26 then some (46, 0, 98, 3, []) else none) else (bif Nat.beq p 23 then some (2, 1200, 0, 3, []) else none)) else (bif Nat.ble 20 p then (bif Nat.beq p 20 then some (35, 0, 87, 3, []) else none) else (bif Nat.beq p 17 then some (35, 0, 56, 3, []) else none)))) else (bif Nat.ble 8 p then (bif Nat.ble 12 p then (bif Nat.ble 15 p then (bif Nat.ble 16 p then (bif Nat.beq p 16 then some (1, 0, 0, 1, []) else none) else (bif Nat.beq p 15 then some (2, 0, 0, 1, []) else none)) else (bif Nat.beq p 12 then some (35, 0, 56, 3, []) else none)) else (bif Nat.ble 11 p then (bif Nat.beq p 11 then some (1, 0, 0, 1, []) else none) else (bif Nat.beq p 8 then some (35, 0, 52, 3, []) else none))) else (bif Nat.ble 4 p then (bif Nat.ble 7 p then (bif Nat.beq p 7 then some (1, 0, 0, 1, []) else none) else (bif Nat.beq p 4 then some (46, 0, 97, 3, []) else none)) else (bif Nat.ble 1 p then (bif Nat.beq p 1 then some (35, 0, 52, 3, []) else none) else (bif Nat.beq p 0 then some (1, 0, 0, 1, []) else none)))))
def ca_X10_take (y : Nat) (as : List sl_V) (m : sl_M) : Option (sl_PL × sl_M) := bif Nat.ble 39 y then (bif Nat.ble 136 y then (bif Nat.beq y 136 then F_J9_min_7cf53 as m else none) else (bif Nat.beq y 39 then F_X6_addPart as m else none)) else (bif Nat.beq y 33 then F_X6_clear as m else none)
def sp_X10_take (p : Nat) : Bool := false
def mk_X10_take (p : Nat) : List Bool := []
def cl_X10_take (p : Nat) : Option sl_C := bif Nat.ble 105 p then none else (bif Nat.ble 98 p then (bif Nat.ble 104 p then (bif Nat.beq p 104 then some (39, 4, 0, 0, 0, 7) else none) else (bif Nat.beq p 98 then some (136, 2, 1, 0, 0, 0) else none)) else (bif Nat.beq p 97 then some (33, 1, 0, 0, 0, 7) else none))
def R_X10_take (ca : Nat → List sl_V → sl_M → Option (sl_PL × sl_M)) : Nat → sl_S → sl_M → Option (sl_PL × sl_M) := sl_B tb_X10_take fl_X10 pf_X10 cl_X10_take nw_X10 sl_rd sl_wr sl_al sl_ln 0 (fun _ => 0) ca sp_X10_take mk_X10_take
def F_X10_take (as : List sl_V) (m : sl_M) : Option (sl_PL × sl_M) := R_X10_take ca_X10_take 100000 (0, sl_lo 1 as, []) m
def f_X10_take  (m : sl_M) : Option (sl_PL × sl_M) := F_X10_take [.inr (.inl (some (10, 0)))] m
def r_X10_take_0 (ca : Nat → List sl_V → sl_M → Option (sl_PL × sl_M)) (n : Nat)  (m : sl_M) : Option (sl_PL × sl_M) := R_X10_take ca n (0, sl_lo 1 [.inr (.inl (some (10, 0)))], []) m
set_option maxRecDepth 100000 in
theorem g_X10_take_0 (ca : Nat → List sl_V → sl_M → Option (sl_PL × sl_M)) (n : Nat)  (m : sl_M) : r_X10_take_0 ca (n + 1) m =
  (ca 33 [.inr (.inl (some (6, 0)))] m).bind (fun q1 =>
  (ca 136 [.inl (q1.2.1 6 1 1), .inl (1200 : Int32)] q1.2).bind (fun q2 =>
  (ca 39 [.inr (.inl (some (6, 0))), .inr (.inl (some (6, 1))), .inl (0 : Int32), .inl q2.1.1] q2.2).bind (fun q3 =>
  some (((q3.2.1 6 0 1), 0, 0), q3.2)))) := by rfl
theorem cq_X10_take_X6_clear (this : Nat) (m : sl_M) : ca_X10_take 33 [.inr (.inl (some (6, this)))] m = f_X6_clear this m := by
  unfold ca_X10_take f_X6_clear
  rw [show Nat.ble 39 33 = false from rfl, cond_false, show Nat.beq 33 33 = true from rfl, cond_true]
theorem cq_X10_take_X6_addPart (this : Nat) (a0 : Nat) (a1 : Int32) (a2 : Int32) (m : sl_M) : ca_X10_take 39 [.inr (.inl (some (6, this))), .inr (.inl (some (6, a0))), .inl a1, .inl a2] m = f_X6_addPart this a0 a1 a2 m := by
  unfold ca_X10_take f_X6_addPart
  rw [show Nat.ble 39 39 = true from rfl, cond_true, show Nat.ble 136 39 = false from rfl, cond_false, show Nat.beq 39 39 = true from rfl, cond_true]
theorem cq_X10_take_J9_min_7cf53 (a0 : Int32) (a1 : Int32) (m : sl_M) : ca_X10_take 136 [.inl a0, .inl a1] m = f_J9_min_7cf53 a0 a1 m := by
  unfold ca_X10_take f_J9_min_7cf53
  rw [show Nat.ble 39 136 = true from rfl, cond_true, show Nat.ble 136 136 = true from rfl, cond_true, show Nat.beq 136 136 = true from rfl, cond_true]
theorem e_X10_take  (m : sl_M) : f_X10_take m =
  (f_X6_clear 0 m).bind (fun q1 =>
  (f_J9_min_7cf53 (q1.2.1 6 1 1) (1200 : Int32) q1.2).bind (fun q2 =>
  (f_X6_addPart 0 1 (0 : Int32) q2.1.1 q2.2).bind (fun q3 =>
  some (((q3.2.1 6 0 1), 0, 0), q3.2)))) := by
  have h := g_X10_take_0 ca_X10_take 99999 m
  simp only [cq_X10_take_X6_clear, cq_X10_take_X6_addPart, cq_X10_take_J9_min_7cf53] at h
  exact h

def tb_X10_endAt (p : Nat) : Option sl_E := bif Nat.ble 20 p then none else (bif Nat.ble 10 p then (bif Nat.ble 15 p then (bif Nat.ble 18 p then (bif Nat.ble 19 p then (bif Nat.beq p 19 then some (56, 0, 240, 3, []) else none) else (bif Nat.beq p 18 then some (48, 0, 1, 1, []) else none)) else (bif Nat.beq p 15 then some (35, 0, 44, 3, []) else none)) else (bif Nat.ble 11 p then (bif Nat.ble 14 p then (bif Nat.beq p 14 then some (1, 0, 0, 1, []) else none) else (bif Nat.beq p 11 then some (23, 0, 19, 3, []) else none)) else (bif Nat.beq p 10 then some (2, 1, 0, 1, []) else none))) else (bif Nat.ble 5 p then (bif Nat.ble 8 p then (bif Nat.ble 9 p then (bif Nat.beq p 9 then some (0, 0, 1, 1, []) else none) else (bif Nat.beq p 8 then some (48, 0, 1, 1, []) else none)) else (bif Nat.beq p 5 then some (35, 0, 40, 3, []) else none)) else (bif Nat.ble 1 p then (bif Nat.ble 4 p then (bif Nat.beq p 4 then some (1, 0, 0, 1, []) else none) else (bif Nat.beq p 1 then some (29, 0, 9, 3, []) else none)) else (bif Nat.beq p 0 then some (0, 0, 1, 1, []) else none))))
def ca_X10_endAt (y : Nat) (as : List sl_V) (m : sl_M) : Option (sl_PL × sl_M) := none
def sp_X10_endAt (p : Nat) : Bool := false
def mk_X10_endAt (p : Nat) : List Bool := []
def cl_X10_endAt (p : Nat) : Option sl_C := none
def R_X10_endAt (ca : Nat → List sl_V → sl_M → Option (sl_PL × sl_M)) : Nat → sl_S → sl_M → Option (sl_PL × sl_M) := sl_B tb_X10_endAt fl_X10 pf_X10 cl_X10_endAt nw_X10 sl_rd sl_wr sl_al sl_ln 0 (fun _ => 0) ca sp_X10_endAt mk_X10_endAt
def F_X10_endAt (as : List sl_V) (m : sl_M) : Option (sl_PL × sl_M) := R_X10_endAt ca_X10_endAt 100000 (0, sl_lo 2 as, []) m
def f_X10_endAt (a0 : Int32) (m : sl_M) : Option (sl_PL × sl_M) := F_X10_endAt [.inr (.inl (some (10, 0))), .inl a0] m
def r_X10_endAt_0 (ca : Nat → List sl_V → sl_M → Option (sl_PL × sl_M)) (n : Nat) (a0 : Int32) (m : sl_M) : Option (sl_PL × sl_M) := R_X10_endAt ca n (0, sl_lo 2 [.inr (.inl (some (10, 0))), .inl a0], []) m
set_option maxRecDepth 100000 in
theorem g_X10_endAt_0 (ca : Nat → List sl_V → sl_M → Option (sl_PL × sl_M)) (n : Nat) (a0 : Int32) (m : sl_M) : r_X10_endAt_0 ca (n + 1) a0 m =
  if a0 = 0 then
    some ((0, 0, 0), m)
  else
    if a0 = (1 : Int32) then
      some ((0, 1, 0), m)
    else
      some ((0, 0, 2), m) := by rfl
theorem e_X10_endAt (a0 : Int32) (m : sl_M) : f_X10_endAt a0 m =
  if a0 = 0 then
    some ((0, 0, 0), m)
  else
    if a0 = (1 : Int32) then
      some ((0, 1, 0), m)
    else
      some ((0, 0, 2), m) := by
  have h := g_X10_endAt_0 ca_X10_endAt 99999 a0 m
  exact h

def tb_X10_give (p : Nat) : Option sl_E := bif Nat.ble 56 p then none else (bif Nat.ble 28 p then (bif Nat.ble 41 p then (bif Nat.ble 48 p then (bif Nat.ble 52 p then (bif Nat.ble 55 p then (bif Nat.beq p 55 then some (47, 0, 1, 1, []) else none) else (bif Nat.beq p 52 then some (35, 0, 87, 3, []) else none)) else (bif Nat.ble 51 p then (bif Nat.beq p 51 then some (1, 0, 2, 1, []) else none) else (bif Nat.beq p 48 then some (46, 0, 97, 3, []) else none))) else (bif Nat.ble 44 p then (bif Nat.ble 45 p then (bif Nat.beq p 45 then some (35, 0, 52, 3, []) else none) else (bif Nat.beq p 44 then some (1, 0, 0, 1, []) else none)) else (bif Nat.beq p 41 then some (46, 0, 104, 3, []) else none))) else (bif Nat.ble 33 p then (bif Nat.ble 35 p then (bif Nat.ble 38 p then (bif Nat.beq p 38 then some (35, 0, 87, 3, []) else none) else (bif Nat.beq p 35 then some (35, 0, 52, 3, []) else none)) else (bif Nat.ble 34 p then (bif Nat.beq p 34 then some (1, 0, 0, 1, []) else none) else (bif Nat.beq p 33 then some (2, 0, 0, 1, []) else none))) else (bif Nat.ble 29 p then (bif Nat.ble 30 p then (bif Nat.beq p 30 then some (35, 0, 52, 3, []) else none) else (bif Nat.beq p 29 then some (1, 0, 0, 1, []) else none)) else (bif Nat.beq p 28 then some (1, 0, 2, 1, []) else none)))) else (bif Nat.ble 13 p then (bif Nat.ble 20 p then (bif Nat.ble 26 p then (bif Nat.ble 27 p then (bif Nat.beq p 27 then some (47, 0, 1, 1, []) else none) else (bif Nat.beq p 26 then some (2, (-1), 0, 1, []) else none)) else (bif Nat.ble 23 p then (bif Nat.beq p 23 then some (29, 0, 28, 3, []) else none) else (bif Nat.beq p 20 then some (46, 0, 80, 3, []) else none))) else (bif Nat.ble 14 p then (bif Nat.ble 17 p then (bif Nat.beq p 17 then some (35, 0, 87, 3, []) else none) else (bif Nat.beq p 14 then some (35, 0, 52, 3, []) else none)) else (bif Nat.beq p 13 then some (1, 0, 0, 1, []) else none))) else (bif Nat.ble 5 p then (bif Nat.ble 11 p then (bif Nat.ble 12 p then (bif Nat.beq p 12 then some (1, 0, 2, 1, []) else none) else (bif Nat.beq p 11 then some (4, 0, 2, 1, []) else none)) else (bif Nat.ble 8 p then (bif Nat.beq p 8 then some (35, 0, 116, 3, []) else none) else (bif Nat.beq p 5 then some (35, 0, 112, 3, []) else none))) else (bif Nat.ble 1 p then (bif Nat.ble 2 p then (bif Nat.beq p 2 then some (46, 0, 108, 3, []) else none) else (bif Nat.beq p 1 then some (0, 0, 1, 1, []) else none)) else (bif Nat.beq p 0 then some (1, 0, 0, 1, []) else none)))))
def ca_X10_give (y : Nat) (as : List sl_V) (m : sl_M) : Option (sl_PL × sl_M) := bif Nat.ble 39 y then (bif Nat.ble 86 y then (bif Nat.beq y 86 then F_X10_endAt as m else none) else (bif Nat.beq y 39 then F_X6_addPart as m else none)) else (bif Nat.ble 35 y then (bif Nat.beq y 35 then F_X6_hasRoom as m else none) else (bif Nat.beq y 33 then F_X6_clear as m else none))
def sp_X10_give (p : Nat) : Bool := false
def mk_X10_give (p : Nat) : List Bool := []
def cl_X10_give (p : Nat) : Option sl_C := bif Nat.ble 109 p then none else (bif Nat.ble 104 p then (bif Nat.ble 108 p then (bif Nat.beq p 108 then some (86, 2, 2, 1, 1, 11) else none) else (bif Nat.beq p 104 then some (39, 4, 0, 0, 0, 7) else none)) else (bif Nat.ble 97 p then (bif Nat.beq p 97 then some (33, 1, 0, 0, 0, 7) else none) else (bif Nat.beq p 80 then some (35, 2, 1, 0, 0, 7) else none)))
def R_X10_give (ca : Nat → List sl_V → sl_M → Option (sl_PL × sl_M)) : Nat → sl_S → sl_M → Option (sl_PL × sl_M) := sl_B tb_X10_give fl_X10 pf_X10 cl_X10_give nw_X10 sl_rd sl_wr sl_al sl_ln 0 (fun _ => 0) ca sp_X10_give mk_X10_give
def F_X10_give (as : List sl_V) (m : sl_M) : Option (sl_PL × sl_M) := R_X10_give ca_X10_give 100000 (0, sl_lo 3 as, []) m
def f_X10_give (a0 : Int32) (m : sl_M) : Option (sl_PL × sl_M) := F_X10_give [.inr (.inl (some (10, 0))), .inl a0] m
def r_X10_give_0 (ca : Nat → List sl_V → sl_M → Option (sl_PL × sl_M)) (n : Nat) (a0 : Int32) (m : sl_M) : Option (sl_PL × sl_M) := R_X10_give ca n (0, sl_lo 3 [.inr (.inl (some (10, 0))), .inl a0], []) m
set_option maxRecDepth 100000 in
theorem g_X10_give_0 (ca : Nat → List sl_V → sl_M → Option (sl_PL × sl_M)) (n : Nat) (a0 : Int32) (m : sl_M) : r_X10_give_0 ca (n + 1) a0 m =
  (ca 86 [.inr (.inl (some (10, 0))), .inl a0] m).bind (fun q1 =>
  if q1.1.2.2 = 2 then some ((0, 0, 2), q1.2) else
  (ca 35 [.inr (.inl (some (6, (4 + q1.1.2.1)))), .inl (q1.2.1 6 0 1)] q1.2).bind (fun q2 =>
  if q2.1.1 = 0 then
    some (((-1 : Int32), 0, 0), q2.2)
  else
    (ca 39 [.inr (.inl (some (6, (4 + q1.1.2.1)))), .inr (.inl (some (6, 0))), .inl (0 : Int32), .inl (q2.2.1 6 0 1)] q2.2).bind (fun q3 =>
    (ca 33 [.inr (.inl (some (6, 0)))] q3.2).bind (fun q4 =>
    some (((q4.2.1 6 (4 + q1.1.2.1) 1), 0, 0), q4.2))))) := by rfl
theorem cq_X10_give_X6_clear (this : Nat) (m : sl_M) : ca_X10_give 33 [.inr (.inl (some (6, this)))] m = f_X6_clear this m := by
  unfold ca_X10_give f_X6_clear
  rw [show Nat.ble 39 33 = false from rfl, cond_false, show Nat.ble 35 33 = false from rfl, cond_false, show Nat.beq 33 33 = true from rfl, cond_true]
theorem cq_X10_give_X6_hasRoom (this : Nat) (a0 : Int32) (m : sl_M) : ca_X10_give 35 [.inr (.inl (some (6, this))), .inl a0] m = f_X6_hasRoom this a0 m := by
  unfold ca_X10_give f_X6_hasRoom
  rw [show Nat.ble 39 35 = false from rfl, cond_false, show Nat.ble 35 35 = true from rfl, cond_true, show Nat.beq 35 35 = true from rfl, cond_true]
theorem cq_X10_give_X6_addPart (this : Nat) (a0 : Nat) (a1 : Int32) (a2 : Int32) (m : sl_M) : ca_X10_give 39 [.inr (.inl (some (6, this))), .inr (.inl (some (6, a0))), .inl a1, .inl a2] m = f_X6_addPart this a0 a1 a2 m := by
  unfold ca_X10_give f_X6_addPart
  rw [show Nat.ble 39 39 = true from rfl, cond_true, show Nat.ble 86 39 = false from rfl, cond_false, show Nat.beq 39 39 = true from rfl, cond_true]
theorem cq_X10_give_X10_endAt (a0 : Int32) (m : sl_M) : ca_X10_give 86 [.inr (.inl (some (10, 0))), .inl a0] m = f_X10_endAt a0 m := by
  unfold ca_X10_give f_X10_endAt
  rw [show Nat.ble 39 86 = true from rfl, cond_true, show Nat.ble 86 86 = true from rfl, cond_true, show Nat.beq 86 86 = true from rfl, cond_true]
theorem e_X10_give (a0 : Int32) (m : sl_M) : f_X10_give a0 m =
  (f_X10_endAt a0 m).bind (fun q1 =>
  if q1.1.2.2 = 2 then some ((0, 0, 2), q1.2) else
  (f_X6_hasRoom (4 + q1.1.2.1) (q1.2.1 6 0 1) q1.2).bind (fun q2 =>
  if q2.1.1 = 0 then
    some (((-1 : Int32), 0, 0), q2.2)
  else
    (f_X6_addPart (4 + q1.1.2.1) 0 (0 : Int32) (q2.2.1 6 0 1) q2.2).bind (fun q3 =>
    (f_X6_clear 0 q3.2).bind (fun q4 =>
    some (((q4.2.1 6 (4 + q1.1.2.1) 1), 0, 0), q4.2))))) := by
  have h := g_X10_give_0 ca_X10_give 99999 a0 m
  simp only [cq_X10_give_X6_clear, cq_X10_give_X6_hasRoom, cq_X10_give_X6_addPart, cq_X10_give_X10_endAt] at h
  exact h

def tb_X10_tickBoth (p : Nat) : Option sl_E := bif Nat.ble 33 p then none else (bif Nat.ble 19 p then (bif Nat.ble 25 p then (bif Nat.ble 31 p then (bif Nat.ble 32 p then (bif Nat.beq p 32 then some (47, 0, 1, 1, []) else none) else (bif Nat.beq p 31 then some (6, 0, 0, 1, []) else none)) else (bif Nat.ble 28 p then (bif Nat.beq p 28 then some (46, 0, 127, 3, []) else none) else (bif Nat.beq p 25 then some (35, 0, 112, 3, []) else none))) else (bif Nat.ble 21 p then (bif Nat.ble 22 p then (bif Nat.beq p 22 then some (35, 0, 44, 3, []) else none) else (bif Nat.beq p 21 then some (1, 0, 0, 1, []) else none)) else (bif Nat.ble 20 p then (bif Nat.beq p 20 then some (0, 0, 1, 1, []) else none) else (bif Nat.beq p 19 then some (3, 0, 1, 1, []) else none)))) else (bif Nat.ble 9 p then (bif Nat.ble 13 p then (bif Nat.ble 16 p then (bif Nat.beq p 16 then some (46, 0, 127, 3, []) else none) else (bif Nat.beq p 13 then some (35, 0, 112, 3, []) else none)) else (bif Nat.ble 10 p then (bif Nat.beq p 10 then some (35, 0, 40, 3, []) else none) else (bif Nat.beq p 9 then some (1, 0, 0, 1, []) else none))) else (bif Nat.ble 4 p then (bif Nat.ble 6 p then (bif Nat.beq p 6 then some (46, 0, 125, 3, []) else none) else (bif Nat.beq p 4 then some (2, 9, 0, 2, []) else none)) else (bif Nat.ble 1 p then (bif Nat.beq p 1 then some (35, 0, 19, 3, []) else none) else (bif Nat.beq p 0 then some (1, 0, 0, 1, []) else none)))))
def ca_X10_tickBoth (y : Nat) (as : List sl_V) (m : sl_M) : Option (sl_PL × sl_M) := bif Nat.ble 59 y then (bif Nat.beq y 59 then F_X9_add as m else none) else (bif Nat.beq y 42 then F_X7_passTick as m else none)
def sp_X10_tickBoth (p : Nat) : Bool := false
def mk_X10_tickBoth (p : Nat) : List Bool := []
def cl_X10_tickBoth (p : Nat) : Option sl_C := bif Nat.ble 128 p then none else (bif Nat.ble 127 p then (bif Nat.beq p 127 then some (42, 1, 1, 0, 0, 8) else none) else (bif Nat.beq p 125 then some (59, 2, 0, 0, 0, 10) else none))
def R_X10_tickBoth (ca : Nat → List sl_V → sl_M → Option (sl_PL × sl_M)) : Nat → sl_S → sl_M → Option (sl_PL × sl_M) := sl_B tb_X10_tickBoth fl_X10 pf_X10 cl_X10_tickBoth nw_X10 sl_rd sl_wr sl_al sl_ln 0 (fun _ => 0) ca sp_X10_tickBoth mk_X10_tickBoth
def F_X10_tickBoth (as : List sl_V) (m : sl_M) : Option (sl_PL × sl_M) := R_X10_tickBoth ca_X10_tickBoth 100000 (0, sl_lo 2 as, []) m
def f_X10_tickBoth  (m : sl_M) : Option (sl_PL × sl_M) := F_X10_tickBoth [.inr (.inl (some (10, 0)))] m
def r_X10_tickBoth_0 (ca : Nat → List sl_V → sl_M → Option (sl_PL × sl_M)) (n : Nat)  (m : sl_M) : Option (sl_PL × sl_M) := R_X10_tickBoth ca n (0, sl_lo 2 [.inr (.inl (some (10, 0)))], []) m
set_option maxRecDepth 100000 in
theorem g_X10_tickBoth_0 (ca : Nat → List sl_V → sl_M → Option (sl_PL × sl_M)) (n : Nat)  (m : sl_M) : r_X10_tickBoth_0 ca (n + 1) m =
  (ca 59 [.inr (.inl (some (9, 0))), .inl (9 : Int32)] m).bind (fun q1 =>
  (ca 42 [.inr (.inl (some (7, 0)))] q1.2).bind (fun q2 =>
  (ca 42 [.inr (.inl (some (7, 1)))] q2.2).bind (fun q3 =>
  some (((q2.1.1 + q3.1.1), 0, 0), q3.2)))) := by rfl
theorem cq_X10_tickBoth_X7_passTick (this : Nat) (m : sl_M) : ca_X10_tickBoth 42 [.inr (.inl (some (7, this)))] m = f_X7_passTick this m := by
  unfold ca_X10_tickBoth f_X7_passTick
  rw [show Nat.ble 59 42 = false from rfl, cond_false, show Nat.beq 42 42 = true from rfl, cond_true]
theorem cq_X10_tickBoth_X9_add (a0 : Int32) (m : sl_M) : ca_X10_tickBoth 59 [.inr (.inl (some (9, 0))), .inl a0] m = f_X9_add a0 m := by
  unfold ca_X10_tickBoth f_X9_add
  rw [show Nat.ble 59 59 = true from rfl, cond_true, show Nat.beq 59 59 = true from rfl, cond_true]
theorem e_X10_tickBoth  (m : sl_M) : f_X10_tickBoth m =
  (f_X9_add (9 : Int32) m).bind (fun q1 =>
  (f_X7_passTick 0 q1.2).bind (fun q2 =>
  (f_X7_passTick 1 q2.2).bind (fun q3 =>
  some (((q2.1.1 + q3.1.1), 0, 0), q3.2)))) := by
  have h := g_X10_tickBoth_0 ca_X10_tickBoth 99999 m
  simp only [cq_X10_tickBoth_X7_passTick, cq_X10_tickBoth_X9_add] at h
  exact h
