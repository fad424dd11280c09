def tb_X1_headHolds (p : Nat) : Option sl_E := bif Nat.ble 88 p then none else (bif Nat.ble 44 p then (bif Nat.ble 66 p then (bif Nat.ble 76 p then (bif Nat.ble 83 p then (bif Nat.ble 86 p then (bif Nat.ble 87 p then (bif Nat.beq p 87 then some (47, 0, 2, 1, []) else none) else (bif Nat.beq p 86 then some (2, 0, 0, 1, []) else none)) else (bif Nat.beq p 83 then some (34, 0, 87, 3, []) else none)) else (bif Nat.ble 79 p then (bif Nat.ble 82 p then (bif Nat.beq p 82 then some (2, 1, 0, 1, []) else none) else (bif Nat.beq p 79 then some (23, 0, 86, 3, []) else none)) else (bif Nat.beq p 76 then some (46, 0, 133, 3, []) else none))) else (bif Nat.ble 71 p then (bif Nat.ble 72 p then (bif Nat.ble 73 p then (bif Nat.beq p 73 then some (35, 0, 30, 3, []) else none) else (bif Nat.beq p 72 then some (1, 0, 0, 1, []) else none)) else (bif Nat.beq p 71 then some (0, 0, 2, 1, []) else none)) else (bif Nat.ble 67 p then (bif Nat.ble 68 p then (bif Nat.beq p 68 then some (23, 0, 86, 3, []) else none) else (bif Nat.beq p 67 then some (2, 1, 0, 1, []) else none)) else (bif Nat.beq p 66 then some (0, 0, 1, 1, []) else none)))) else (bif Nat.ble 54 p then (bif Nat.ble 61 p then (bif Nat.ble 64 p then (bif Nat.ble 65 p then (bif Nat.beq p 65 then some (47, 0, 2, 1, []) else none) else (bif Nat.beq p 64 then some (2, 0, 0, 1, []) else none)) else (bif Nat.beq p 61 then some (34, 0, 65, 3, []) else none)) else (bif Nat.ble 57 p then (bif Nat.ble 60 p then (bif Nat.beq p 60 then some (2, 1, 0, 1, []) else none) else (bif Nat.beq p 57 then some (26, 0, 64, 3, []) else none)) else (bif Nat.beq p 54 then some (35, 0, 130, 3, []) else none))) else (bif Nat.ble 49 p then (bif Nat.ble 50 p then (bif Nat.ble 51 p then (bif Nat.beq p 51 then some (35, 0, 30, 3, []) else none) else (bif Nat.beq p 50 then some (1, 0, 0, 1, []) else none)) else (bif Nat.beq p 49 then some (0, 0, 2, 1, []) else none)) else (bif Nat.ble 45 p then (bif Nat.ble 46 p then (bif Nat.beq p 46 then some (24, 0, 64, 3, []) else none) else (bif Nat.beq p 45 then some (2, 1, 0, 1, []) else none)) else (bif Nat.beq p 44 then some (0, 0, 2, 1, []) else none))))) else (bif Nat.ble 21 p then (bif Nat.ble 32 p then (bif Nat.ble 39 p then (bif Nat.ble 40 p then (bif Nat.ble 41 p then (bif Nat.beq p 41 then some (29, 0, 66, 3, []) else none) else (bif Nat.beq p 40 then some (0, 0, 1, 1, []) else none)) else (bif Nat.beq p 39 then some (47, 0, 2, 1, []) else none)) else (bif Nat.ble 35 p then (bif Nat.ble 38 p then (bif Nat.beq p 38 then some (2, 0, 0, 1, []) else none) else (bif Nat.beq p 35 then some (24, 0, 40, 3, []) else none)) else (bif Nat.beq p 32 then some (35, 0, 125, 3, []) else none))) else (bif Nat.ble 27 p then (bif Nat.ble 28 p then (bif Nat.ble 29 p then (bif Nat.beq p 29 then some (35, 0, 30, 3, []) else none) else (bif Nat.beq p 28 then some (1, 0, 0, 1, []) else none)) else (bif Nat.beq p 27 then some (10, 0, 0, 1, []) else none)) else (bif Nat.ble 22 p then (bif Nat.ble 25 p then (bif Nat.beq p 25 then some (2, 64, 0, 2, []) else none) else (bif Nat.beq p 22 then some (46, 0, 86, 3, []) else none)) else (bif Nat.beq p 21 then some (2, 0, 0, 1, []) else none)))) else (bif Nat.ble 11 p then (bif Nat.ble 16 p then (bif Nat.ble 17 p then (bif Nat.ble 18 p then (bif Nat.beq p 18 then some (35, 0, 20, 3, []) else none) else (bif Nat.beq p 17 then some (1, 0, 0, 1, []) else none)) else (bif Nat.beq p 16 then some (3, 0, 2, 1, []) else none)) else (bif Nat.ble 12 p then (bif Nat.ble 13 p then (bif Nat.beq p 13 then some (46, 0, 94, 3, []) else none) else (bif Nat.beq p 12 then some (1, 0, 0, 1, []) else none)) else (bif Nat.beq p 11 then some (3, 0, 1, 1, []) else none))) else (bif Nat.ble 5 p then (bif Nat.ble 8 p then (bif Nat.ble 10 p then (bif Nat.beq p 10 then some (9, 0, 0, 1, []) else none) else (bif Nat.beq p 8 then some (2, 64, 0, 2, []) else none)) else (bif Nat.beq p 5 then some (46, 0, 86, 3, []) else none)) else (bif Nat.ble 1 p then (bif Nat.ble 4 p then (bif Nat.beq p 4 then some (2, 0, 0, 1, []) else none) else (bif Nat.beq p 1 then some (35, 0, 20, 3, []) else none)) else (bif Nat.beq p 0 then some (1, 0, 0, 1, []) else none))))))
def ca_X1_headHolds (y : Nat) (as : List sl_V) (m : sl_M) : Option (sl_PL × sl_M) := bif Nat.ble 36 y then (bif Nat.ble 56 y then (bif Nat.beq y 56 then F_X8_knownLoad as m else none) else (bif Nat.beq y 36 then F_X6_at as m else none)) else (bif Nat.beq y 8 then F_X1_loadOfBody as m else none)
def sp_X1_headHolds (p : Nat) : Bool := false
def mk_X1_headHolds (p : Nat) : List Bool := []
def cl_X1_headHolds (p : Nat) : Option sl_C := bif Nat.ble 134 p then none else (bif Nat.ble 94 p then (bif Nat.ble 133 p then (bif Nat.beq p 133 then some (56, 1, 1, 0, 0, 9) else none) else (bif Nat.beq p 94 then some (8, 1, 1, 0, 0, 2) else none)) else (bif Nat.beq p 86 then some (36, 2, 1, 0, 0, 7) else none))
def R_X1_headHolds (ca : Nat → List sl_V → sl_M → Option (sl_PL × sl_M)) : Nat → sl_S → sl_M → Option (sl_PL × sl_M) := sl_B tb_X1_headHolds fl_X1 pf_X1 cl_X1_headHolds nw_X1 sl_rd sl_wr sl_al sl_ln 0 (fun _ => 0) ca sp_X1_headHolds mk_X1_headHolds
def F_X1_headHolds (as : List sl_V) (m : sl_M) : Option (sl_PL × sl_M) := R_X1_headHolds ca_X1_headHolds 100000 (0, sl_lo 3 as, []) m
def f_X1_headHolds (this : Nat) (m : sl_M) : Option (sl_PL × sl_M) := F_X1_headHolds [.inr (.inl (some (1, this)))] m
def r_X1_headHolds_0 (ca : Nat → List sl_V → sl_M → Option (sl_PL × sl_M)) (n : Nat) (this : Nat) (m : sl_M) : Option (sl_PL × sl_M) := R_X1_headHolds ca n (0, sl_lo 3 [.inr (.inl (some (1, this)))], []) m
set_option maxRecDepth 100000 in
theorem g_X1_headHolds_0 (ca : Nat → List sl_V → sl_M → Option (sl_PL × sl_M)) (n : Nat) (this : Nat) (m : sl_M) : r_X1_headHolds_0 ca (n + 1) this m =
  (ca 36 [.inr (.inl (some (6, (12 + this)))), .inl (0 : Int32)] m).bind (fun q1 =>
  (ca 8 [.inr (.inl (some (1, this)))] q1.2).bind (fun q2 =>
  (ca 36 [.inr (.inl (some (6, (12 + this)))), .inl (0 : Int32)] q2.2).bind (fun q3 =>
  if (q3.1.1 - q3.1.1 / (64 : Int32) * (64 : Int32)) < (q3.2.1 8 0 1) then
    if (q1.1.1 / (64 : Int32)) = 0 then
      if q2.1.1 < (1 : Int32) then
        some (((0 : Int32), 0, 0), q3.2)
      else
        if (q3.2.1 8 0 3) < q2.1.1 then
          some (((0 : Int32), 0, 0), q3.2)
        else
          some (((1 : Int32), 0, 0), q3.2)
    else
      if (q1.1.1 / (64 : Int32)) = (1 : Int32) then
        (ca 56 [.inr (.inl (some (8, 0)))] q3.2).bind (fun q4 =>
        if q2.1.1 = q4.1.1 then
          some (((1 : Int32), 0, 0), q4.2)
        else
          some (((0 : Int32), 0, 0), q4.2))
      else
        some (((0 : Int32), 0, 0), q3.2)
  else
    some (((0 : Int32), 0, 0), q3.2)))) := by rfl
theorem cq_X1_headHolds_X1_loadOfBody (this : Nat) (m : sl_M) : ca_X1_headHolds 8 [.inr (.inl (some (1, this)))] m = f_X1_loadOfBody this m := by
  unfold ca_X1_headHolds f_X1_loadOfBody
  rw [show Nat.ble 36 8 = false from rfl, cond_false, show Nat.beq 8 8 = true from rfl, cond_true]
theorem cq_X1_headHolds_X6_at (this : Nat) (a0 : Int32) (m : sl_M) : ca_X1_headHolds 36 [.inr (.inl (some (6, this))), .inl a0] m = f_X6_at this a0 m := by
  unfold ca_X1_headHolds f_X6_at
  rw [show Nat.ble 36 36 = true from rfl, cond_true, show Nat.ble 56 36 = false from rfl, cond_false, show Nat.beq 36 36 = true from rfl, cond_true]
theorem cq_X1_headHolds_X8_knownLoad  (m : sl_M) : ca_X1_headHolds 56 [.inr (.inl (some (8, 0)))] m = f_X8_knownLoad m := by
  unfold ca_X1_headHolds f_X8_knownLoad
  rw [show Nat.ble 36 56 = true from rfl, cond_true, show Nat.ble 56 56 = true from rfl, cond_true, show Nat.beq 56 56 = true from rfl, cond_true]
theorem e_X1_headHolds (this : Nat) (m : sl_M) : f_X1_headHolds this m =
  (f_X6_at (12 + this) (0 : Int32) m).bind (fun q1 =>
  (f_X1_loadOfBody this q1.2).bind (fun q2 =>
  (f_X6_at (12 + this) (0 : Int32) q2.2).bind (fun q3 =>
  if (q3.1.1 - q3.1.1 / (64 : Int32) * (64 : Int32)) < (q3.2.1 8 0 1) then
    if (q1.1.1 / (64 : Int32)) = 0 then
      if q2.1.1 < (1 : Int32) then
        some (((0 : Int32), 0, 0), q3.2)
      else
        if (q3.2.1 8 0 3) < q2.1.1 then
          some (((0 : Int32), 0, 0), q3.2)
        else
          some (((1 : Int32), 0, 0), q3.2)
    else
      if (q1.1.1 / (64 : Int32)) = (1 : Int32) then
        (f_X8_knownLoad q3.2).bind (fun q4 =>
        if q2.1.1 = q4.1.1 then
          some (((1 : Int32), 0, 0), q4.2)
        else
          some (((0 : Int32), 0, 0), q4.2))
      else
        some (((0 : Int32), 0, 0), q3.2)
  else
    some (((0 : Int32), 0, 0), q3.2)))) := by
  have h := g_X1_headHolds_0 ca_X1_headHolds 99999 this m
  simp only [cq_X1_headHolds_X1_loadOfBody, cq_X1_headHolds_X6_at, cq_X1_headHolds_X8_knownLoad] at h
  exact h

def tb_X3_clear (p : Nat) : Option sl_E := bif Nat.ble 11 p then none else (bif Nat.ble 5 p then (bif Nat.ble 7 p then (bif Nat.ble 10 p then (bif Nat.beq p 10 then some (50, 0, 0, 1, []) else none) else (bif Nat.beq p 7 then some (36, 0, 9, 3, []) else none)) else (bif Nat.ble 6 p then (bif Nat.beq p 6 then some (2, (-1), 0, 1, []) else none) else (bif Nat.beq p 5 then some (1, 0, 0, 1, []) else none))) else (bif Nat.ble 1 p then (bif Nat.ble 2 p then (bif Nat.beq p 2 then some (36, 0, 15, 3, []) else none) else (bif Nat.beq p 1 then some (2, 0, 0, 1, []) else none)) else (bif Nat.beq p 0 then some (1, 0, 0, 1, []) else none)))
def ca_X3_clear (y : Nat) (as : List sl_V) (m : sl_M) : Option (sl_PL × sl_M) := none
def sp_X3_clear (p : Nat) : Bool := false
def mk_X3_clear (p : Nat) : List Bool := []
def cl_X3_clear (p : Nat) : Option sl_C := none
def R_X3_clear (ca : Nat → List sl_V → sl_M → Option (sl_PL × sl_M)) : Nat → sl_S → sl_M → Option (sl_PL × sl_M) := sl_B tb_X3_clear fl_X3 pf_X3 cl_X3_clear nw_X3 sl_rd sl_wr sl_al sl_ln 0 (fun _ => 0) ca sp_X3_clear mk_X3_clear
def F_X3_clear (as : List sl_V) (m : sl_M) : Option (sl_PL × sl_M) := R_X3_clear ca_X3_clear 100000 (0, sl_lo 1 as, []) m
def f_X3_clear (this : Nat) (m : sl_M) : Option (sl_PL × sl_M) := F_X3_clear [.inr (.inl (some (3, this)))] m
def r_X3_clear_0 (ca : Nat → List sl_V → sl_M → Option (sl_PL × sl_M)) (n : Nat) (this : Nat) (m : sl_M) : Option (sl_PL × sl_M) := R_X3_clear ca n (0, sl_lo 1 [.inr (.inl (some (3, this)))], []) m
set_option maxRecDepth 100000 in
theorem g_X3_clear_0 (ca : Nat → List sl_V → sl_M → Option (sl_PL × sl_M)) (n : Nat) (this : Nat) (m : sl_M) : r_X3_clear_0 ca (n + 1) this m =
  some ((0, 0, 0), (sl_up (sl_up m 3 this 0 (0 : Int32)) 3 this 1 (-1 : Int32))) := by rfl
theorem e_X3_clear (this : Nat) (m : sl_M) : f_X3_clear this m =
  some ((0, 0, 0), (sl_up (sl_up m 3 this 0 (0 : Int32)) 3 this 1 (-1 : Int32))) := by
  have h := g_X3_clear_0 ca_X3_clear 99999 this m
  exact h

def tb_X3_found (p : Nat) : Option sl_E := bif Nat.ble 12 p then none else (bif Nat.ble 6 p then (bif Nat.ble 10 p then (bif Nat.ble 11 p then (bif Nat.beq p 11 then some (47, 0, 2, 1, []) else none) else (bif Nat.beq p 10 then some (2, 0, 0, 1, []) else none)) else (bif Nat.ble 7 p then (bif Nat.beq p 7 then some (36, 0, 9, 3, []) else none) else (bif Nat.beq p 6 then some (0, 0, 2, 1, []) else none))) else (bif Nat.ble 2 p then (bif Nat.ble 5 p then (bif Nat.beq p 5 then some (1, 0, 0, 1, []) else none) else (bif Nat.beq p 2 then some (36, 0, 15, 3, []) else none)) else (bif Nat.ble 1 p then (bif Nat.beq p 1 then some (0, 0, 1, 1, []) else none) else (bif Nat.beq p 0 then some (1, 0, 0, 1, []) else none))))
def ca_X3_found (y : Nat) (as : List sl_V) (m : sl_M) : Option (sl_PL × sl_M) := none
def sp_X3_found (p : Nat) : Bool := false
def mk_X3_found (p : Nat) : List Bool := []
def cl_X3_found (p : Nat) : Option sl_C := none
def R_X3_found (ca : Nat → List sl_V → sl_M → Option (sl_PL × sl_M)) : Nat → sl_S → sl_M → Option (sl_PL × sl_M) := sl_B tb_X3_found fl_X3 pf_X3 cl_X3_found nw_X3 sl_rd sl_wr sl_al sl_ln 0 (fun _ => 0) ca sp_X3_found mk_X3_found
def F_X3_found (as : List sl_V) (m : sl_M) : Option (sl_PL × sl_M) := R_X3_found ca_X3_found 100000 (0, sl_lo 3 as, []) m
def f_X3_found (this : Nat) (a0 : Int32) (a1 : Int32) (m : sl_M) : Option (sl_PL × sl_M) := F_X3_found [.inr (.inl (some (3, this))), .inl a0, .inl a1] m
def r_X3_found_0 (ca : Nat → List sl_V → sl_M → Option (sl_PL × sl_M)) (n : Nat) (this : Nat) (a0 : Int32) (a1 : Int32) (m : sl_M) : Option (sl_PL × sl_M) := R_X3_found ca n (0, sl_lo 3 [.inr (.inl (some (3, this))), .inl a0, .inl a1], []) m
set_option maxRecDepth 100000 in
theorem g_X3_found_0 (ca : Nat → List sl_V → sl_M → Option (sl_PL × sl_M)) (n : Nat) (this : Nat) (a0 : Int32) (a1 : Int32) (m : sl_M) : r_X3_found_0 ca (n + 1) this a0 a1 m =
  some (((0 : Int32), 0, 0), (sl_up (sl_up m 3 this 0 a0) 3 this 1 a1)) := by rfl
theorem e_X3_found (this : Nat) (a0 : Int32) (a1 : Int32) (m : sl_M) : f_X3_found this a0 a1 m =
  some (((0 : Int32), 0, 0), (sl_up (sl_up m 3 this 0 a0) 3 this 1 a1)) := by
  have h := g_X3_found_0 ca_X3_found 99999 this a0 a1 m
  exact h

def tb_X3_isSound (p : Nat) : Option sl_E := bif Nat.ble 128 p then none else (bif Nat.ble 64 p then (bif Nat.ble 95 p then (bif Nat.ble 111 p then (bif Nat.ble 119 p then (bif Nat.ble 123 p then (bif Nat.ble 126 p then (bif Nat.ble 127 p then (bif Nat.beq p 127 then some (47, 0, 2, 1, []) else none) else (bif Nat.beq p 126 then some (2, 0, 0, 1, []) else none)) else (bif Nat.beq p 123 then some (34, 0, 127, 3, []) else none)) else (bif Nat.ble 122 p then (bif Nat.beq p 122 then some (2, 1, 0, 1, []) else none) else (bif Nat.beq p 119 then some (28, 0, 126, 3, []) else none))) else (bif Nat.ble 113 p then (bif Nat.ble 116 p then (bif Nat.beq p 116 then some (46, 0, 30, 3, []) else none) else (bif Nat.beq p 113 then some (35, 0, 21, 3, []) else none)) else (bif Nat.ble 112 p then (bif Nat.beq p 112 then some (1, 0, 1, 1, []) else none) else (bif Nat.beq p 111 then some (2, 2, 0, 1, []) else none)))) else (bif Nat.ble 103 p then (bif Nat.ble 107 p then (bif Nat.ble 110 p then (bif Nat.beq p 110 then some (1, 0, 0, 1, []) else none) else (bif Nat.beq p 107 then some (23, 0, 122, 3, []) else none)) else (bif Nat.ble 104 p then (bif Nat.beq p 104 then some (2, 255, 0, 3, []) else none) else (bif Nat.beq p 103 then some (0, 0, 2, 1, []) else none))) else (bif Nat.ble 97 p then (bif Nat.ble 100 p then (bif Nat.beq p 100 then some (34, 0, 13, 3, []) else none) else (bif Nat.beq p 97 then some (5, 1, 4, 3, []) else none)) else (bif Nat.ble 96 p then (bif Nat.beq p 96 then some (3, 0, 3, 1, []) else none) else (bif Nat.beq p 95 then some (7, 0, 0, 1, []) else none))))) else (bif Nat.ble 81 p then (bif Nat.ble 88 p then (bif Nat.ble 93 p then (bif Nat.ble 94 p then (bif Nat.beq p 94 then some (2, 1, 0, 1, []) else none) else (bif Nat.beq p 93 then some (0, 0, 3, 1, []) else none)) else (bif Nat.ble 90 p then (bif Nat.beq p 90 then some (34, 0, 94, 3, []) else none) else (bif Nat.beq p 88 then some (0, 0, 5, 2, []) else none))) else (bif Nat.ble 83 p then (bif Nat.ble 85 p then (bif Nat.beq p 85 then some (28, 0, 93, 3, []) else none) else (bif Nat.beq p 83 then some (0, 0, 6, 2, []) else none)) else (bif Nat.ble 82 p then (bif Nat.beq p 82 then some (3, 0, 2, 1, []) else none) else (bif Nat.beq p 81 then some (0, 0, 2, 1, []) else none)))) else (bif Nat.ble 71 p then (bif Nat.ble 76 p then (bif Nat.ble 78 p then (bif Nat.beq p 78 then some (34, 0, 82, 3, []) else none) else (bif Nat.beq p 76 then some (0, 0, 5, 2, []) else none)) else (bif Nat.ble 73 p then (bif Nat.beq p 73 then some (28, 0, 81, 3, []) else none) else (bif Nat.beq p 71 then some (0, 0, 6, 2, []) else none))) else (bif Nat.ble 67 p then (bif Nat.ble 70 p then (bif Nat.beq p 70 then some (47, 0, 2, 1, []) else none) else (bif Nat.beq p 67 then some (46, 0, 30, 3, []) else none)) else (bif Nat.ble 65 p then (bif Nat.beq p 65 then some (0, 0, 4, 2, []) else none) else (bif Nat.beq p 64 then some (2, 1, 0, 1, []) else none)))))) else (bif Nat.ble 30 p then (bif Nat.ble 46 p then (bif Nat.ble 54 p then (bif Nat.ble 59 p then (bif Nat.ble 60 p then (bif Nat.ble 63 p then (bif Nat.beq p 63 then some (1, 0, 0, 1, []) else none) else (bif Nat.beq p 60 then some (27, 0, 71, 3, []) else none)) else (bif Nat.beq p 59 then some (7, 0, 0, 1, []) else none)) else (bif Nat.ble 57 p then (bif Nat.beq p 57 then some (0, 0, 4, 2, []) else none) else (bif Nat.beq p 54 then some (35, 0, 21, 3, []) else none))) else (bif Nat.ble 51 p then (bif Nat.ble 53 p then (bif Nat.beq p 53 then some (1, 0, 1, 1, []) else none) else (bif Nat.beq p 51 then some (0, 0, 5, 2, []) else none)) else (bif Nat.ble 48 p then (bif Nat.beq p 48 then some (28, 0, 71, 3, []) else none) else (bif Nat.beq p 46 then some (0, 0, 6, 2, []) else none)))) else (bif Nat.ble 38 p then (bif Nat.ble 41 p then (bif Nat.ble 43 p then (bif Nat.beq p 43 then some (28, 0, 63, 3, []) else none) else (bif Nat.beq p 41 then some (0, 0, 5, 2, []) else none)) else (bif Nat.ble 39 p then (bif Nat.beq p 39 then some (3, 0, 6, 2, []) else none) else (bif Nat.beq p 38 then some (2, 0, 0, 1, []) else none))) else (bif Nat.ble 34 p then (bif Nat.ble 35 p then (bif Nat.beq p 35 then some (34, 0, 39, 3, []) else none) else (bif Nat.beq p 34 then some (2, 1, 0, 1, []) else none)) else (bif Nat.ble 31 p then (bif Nat.beq p 31 then some (29, 0, 38, 3, []) else none) else (bif Nat.beq p 30 then some (0, 0, 3, 1, []) else none))))) else (bif Nat.ble 13 p then (bif Nat.ble 22 p then (bif Nat.ble 25 p then (bif Nat.ble 28 p then (bif Nat.beq p 28 then some (3, 0, 5, 2, []) else none) else (bif Nat.beq p 25 then some (46, 0, 26, 3, []) else none)) else (bif Nat.ble 23 p then (bif Nat.beq p 23 then some (0, 0, 4, 2, []) else none) else (bif Nat.beq p 22 then some (1, 0, 1, 1, []) else none))) else (bif Nat.ble 16 p then (bif Nat.ble 19 p then (bif Nat.beq p 19 then some (25, 0, 103, 3, []) else none) else (bif Nat.beq p 16 then some (35, 0, 21, 3, []) else none)) else (bif Nat.ble 15 p then (bif Nat.beq p 15 then some (1, 0, 1, 1, []) else none) else (bif Nat.beq p 13 then some (0, 0, 4, 2, []) else none)))) else (bif Nat.ble 8 p then (bif Nat.ble 10 p then (bif Nat.ble 11 p then (bif Nat.beq p 11 then some (3, 0, 4, 2, []) else none) else (bif Nat.beq p 10 then some (2, 0, 0, 1, []) else none)) else (bif Nat.ble 9 p then (bif Nat.beq p 9 then some (3, 0, 3, 1, []) else none) else (bif Nat.beq p 8 then some (2, 0, 0, 1, []) else none))) else (bif Nat.ble 4 p then (bif Nat.ble 7 p then (bif Nat.beq p 7 then some (3, 0, 2, 1, []) else none) else (bif Nat.beq p 4 then some (2, 255, 0, 3, []) else none)) else (bif Nat.ble 1 p then (bif Nat.beq p 1 then some (46, 0, 18, 3, []) else none) else (bif Nat.beq p 0 then some (1, 0, 0, 1, []) else none)))))))
def ca_X3_isSound (y : Nat) (as : List sl_V) (m : sl_M) : Option (sl_PL × sl_M) := bif Nat.ble 16 y then (bif Nat.ble 36 y then (bif Nat.beq y 36 then F_X6_at as m else none) else (bif Nat.beq y 16 then F_X3_found as m else none)) else (bif Nat.beq y 14 then F_X3_clear as m else none)
def sp_X3_isSound (p : Nat) : Bool := Nat.beq p 13
def mk_X3_isSound (p : Nat) : List Bool := bif Nat.beq p 13 then [true, true, true, true, true, false, false] else []
def cl_X3_isSound (p : Nat) : Option sl_C := bif Nat.ble 31 p then none else (bif Nat.ble 26 p then (bif Nat.ble 30 p then (bif Nat.beq p 30 then some (16, 3, 1, 0, 0, 4) else none) else (bif Nat.beq p 26 then some (36, 2, 1, 0, 0, 7) else none)) else (bif Nat.beq p 18 then some (14, 1, 0, 0, 0, 4) else none))
def R_X3_isSound (ca : Nat → List sl_V → sl_M → Option (sl_PL × sl_M)) : Nat → sl_S → sl_M → Option (sl_PL × sl_M) := sl_B tb_X3_isSound fl_X3 pf_X3 cl_X3_isSound nw_X3 sl_rd sl_wr sl_al sl_ln 0 (fun _ => 0) ca sp_X3_isSound mk_X3_isSound
def F_X3_isSound (as : List sl_V) (m : sl_M) : Option (sl_PL × sl_M) := R_X3_isSound ca_X3_isSound 100000 (0, sl_lo 7 as, []) m
def f_X3_isSound (this : Nat) (a0 : Nat) (m : sl_M) : Option (sl_PL × sl_M) := F_X3_isSound [.inr (.inl (some (3, this))), .inr (.inl (some (6, a0)))] m
def r_X3_isSound_0 (ca : Nat → List sl_V → sl_M → Option (sl_PL × sl_M)) (n : Nat) (this : Nat) (a0 : Nat) (m : sl_M) : Option (sl_PL × sl_M) := R_X3_isSound ca n (0, sl_lo 7 [.inr (.inl (some (3, this))), .inr (.inl (some (6, a0)))], []) m
def r_X3_isSound_13 (ca : Nat → List sl_V → sl_M → Option (sl_PL × sl_M)) (n : Nat) (v0 : Nat) (v1 : Nat) (v2 : Int32) (v3 : Int32) (v4 : Int32) (m : sl_M) : Option (sl_PL × sl_M) := R_X3_isSound ca n (13, [some (.inr (.inl (some (3, v0)))), some (.inr (.inl (some (6, v1)))), some (.inl v2), some (.inl v3), some (.inl v4), none, none], []) m
def b_X3_isSound_13 (n : Nat) (v0 : Nat) (v1 : Nat) (v2 : Int32) (v3 : Int32) (v4 : Int32) (m : sl_M) : Option (sl_PL × sl_M) := r_X3_isSound_13 ca_X3_isSound n v0 v1 v2 v3 v4 m
set_option maxRecDepth 100000 in
theorem g_X3_isSound_0 (ca : Nat → List sl_V → sl_M → Option (sl_PL × sl_M)) (n : Nat) (this : Nat) (a0 : Nat) (m : sl_M) : r_X3_isSound_0 ca (n + 1) this a0 m =
  (ca 14 [.inr (.inl (some (3, this)))] m).bind (fun q1 =>
  r_X3_isSound_13 ca n this a0 (255 : Int32) (0 : Int32) (0 : Int32) q1.2) := by rfl
set_option maxRecDepth 100000 in
theorem g_X3_isSound_13 (ca : Nat → List sl_V → sl_M → Option (sl_PL × sl_M)) (n : Nat) (v0 : Nat) (v1 : Nat) (v2 : Int32) (v3 : Int32) (v4 : Int32) (m : sl_M) : r_X3_isSound_13 ca (n + 1) v0 v1 v2 v3 v4 m =
  if (m.1 6 v1 1) ≤ v4 then
    if v2 = (255 : Int32) then
      (ca 16 [.inr (.inl (some (3, v0))), .inl (2 : Int32), .inl (m.1 6 v1 1)] m).bind (fun q1 =>
      if q1.1.1 = 0 then
        some (((0 : Int32), 0, 0), q1.2)
      else
        some (((1 : Int32), 0, 0), q1.2))
    else
      some (((1 : Int32), 0, 0), m)
  else
    (ca 36 [.inr (.inl (some (6, v1))), .inl v4] m).bind (fun q2 =>
    if v3 = 0 then
      if q2.1.1 = 0 then
        (ca 16 [.inr (.inl (some (3, v0))), .inl (1 : Int32), .inl v4] q2.2).bind (fun q3 =>
        if q3.1.1 = 0 ∨ q3.1.1 = 1 then some ((q3.1.1, 0, 0), q3.2) else none)
      else
        if q2.1.1 ≤ ((q2.2.1 6 v1 1) - v4) then
          r_X3_isSound_13 ca n v0 v1 q2.1.1 (q2.1.1 - (1 : Int32)) (v4 + (1 : Int32)) q2.2
        else
          (ca 16 [.inr (.inl (some (3, v0))), .inl (1 : Int32), .inl v4] q2.2).bind (fun q4 =>
          if q4.1.1 = 0 ∨ q4.1.1 = 1 then some ((q4.1.1, 0, 0), q4.2) else none)
    else
      if q2.1.1 = 0 then
        (ca 16 [.inr (.inl (some (3, v0))), .inl (1 : Int32), .inl v4] q2.2).bind (fun q5 =>
        if q5.1.1 = 0 ∨ q5.1.1 = 1 then some ((q5.1.1, 0, 0), q5.2) else none)
      else
        r_X3_isSound_13 ca n v0 v1 v2 (v3 - (1 : Int32)) (v4 + (1 : Int32)) q2.2) := by rfl
theorem cq_X3_isSound_X3_clear (this : Nat) (m : sl_M) : ca_X3_isSound 14 [.inr (.inl (some (3, this)))] m = f_X3_clear this m := by
  unfold ca_X3_isSound f_X3_clear
  rw [show Nat.ble 16 14 = false from rfl, cond_false, show Nat.beq 14 14 = true from rfl, cond_true]
theorem cq_X3_isSound_X3_found (this : Nat) (a0 : Int32) (a1 : Int32) (m : sl_M) : ca_X3_isSound 16 [.inr (.inl (some (3, this))), .inl a0, .inl a1] m = f_X3_found this a0 a1 m := by
  unfold ca_X3_isSound f_X3_found
  rw [show Nat.ble 16 16 = true from rfl, cond_true, show Nat.ble 36 16 = false from rfl, cond_false, show Nat.beq 16 16 = true from rfl, cond_true]
theorem cq_X3_isSound_X6_at (this : Nat) (a0 : Int32) (m : sl_M) : ca_X3_isSound 36 [.inr (.inl (some (6, this))), .inl a0] m = f_X6_at this a0 m := by
  unfold ca_X3_isSound f_X6_at
  rw [show Nat.ble 16 36 = true from rfl, cond_true, show Nat.ble 36 36 = true from rfl, cond_true, show Nat.beq 36 36 = true from rfl, cond_true]
theorem bq_X3_isSound_13 (n : Nat) (v0 : Nat) (v1 : Nat) (v2 : Int32) (v3 : Int32) (v4 : Int32) (m : sl_M) : r_X3_isSound_13 ca_X3_isSound n v0 v1 v2 v3 v4 m = b_X3_isSound_13 n v0 v1 v2 v3 v4 m := rfl
theorem e_X3_isSound (this : Nat) (a0 : Nat) (m : sl_M) : f_X3_isSound this a0 m =
  (f_X3_clear this m).bind (fun q1 =>
  b_X3_isSound_13 99999 this a0 (255 : Int32) (0 : Int32) (0 : Int32) q1.2) := by
  have h := g_X3_isSound_0 ca_X3_isSound 99999 this a0 m
  simp only [cq_X3_isSound_X3_clear, cq_X3_isSound_X3_found, cq_X3_isSound_X6_at, bq_X3_isSound_13] at h
  exact h
theorem e_X3_isSound_13 (n : Nat) (v0 : Nat) (v1 : Nat) (v2 : Int32) (v3 : Int32) (v4 : Int32) (m : sl_M) : b_X3_isSound_13 (n + 1) v0 v1 v2 v3 v4 m =
  if (m.1 6 v1 1) ≤ v4 then
    if v2 = (255 : Int32) then
      (f_X3_found v0 (2 : Int32) (m.1 6 v1 1) m).bind (fun q1 =>
      if q1.1.1 = 0 then
        some (((0 : Int32), 0, 0), q1.2)
      else
        some (((1 : Int32), 0, 0), q1.2))
    else
      some (((1 : Int32), 0, 0), m)
  else
    (f_X6_at v1 v4 m).bind (fun q2 =>
    if v3 = 0 then
      if q2.1.1 = 0 then
        (f_X3_found v0 (1 : Int32) v4 q2.2).bind (fun q3 =>
        if q3.1.1 = 0 ∨ q3.1.1 = 1 then some ((q3.1.1, 0, 0), q3.2) else none)
      else
        if q2.1.1 ≤ ((q2.2.1 6 v1 1) - v4) then
          b_X3_isSound_13 n v0 v1 q2.1.1 (q2.1.1 - (1 : Int32)) (v4 + (1 : Int32)) q2.2
        else
          (f_X3_found v0 (1 : Int32) v4 q2.2).bind (fun q4 =>
          if q4.1.1 = 0 ∨ q4.1.1 = 1 then some ((q4.1.1, 0, 0), q4.2) else none)
    else
      if q2.1.1 = 0 then
        (f_X3_found v0 (1 : Int32) v4 q2.2).bind (fun q5 =>
        if q5.1.1 = 0 ∨ q5.1.1 = 1 then some ((q5.1.1, 0, 0), q5.2) else none)
      else
        b_X3_isSound_13 n v0 v1 v2 (v3 - (1 : Int32)) (v4 + (1 : Int32)) q2.2) := by
  have h := g_X3_isSound_13 ca_X3_isSound n v0 v1 v2 v3 v4 m
  simp only [cq_X3_isSound_X3_clear, cq_X3_isSound_X3_found, cq_X3_isSound_X6_at, bq_X3_isSound_13] at h
  exact h

def tb_X1_kindOfWrong (p : Nat) : Option sl_E := bif Nat.ble 71 p then none else (bif Nat.ble 36 p then (bif Nat.ble 53 p then (bif Nat.ble 62 p then (bif Nat.ble 66 p then (bif Nat.ble 69 p then (bif Nat.ble 70 p then (bif Nat.beq p 70 then some (47, 0, 1, 1, []) else none) else (bif Nat.beq p 69 then some (2, 4, 0, 1, []) else none)) else (bif Nat.beq p 66 then some (34, 0, 70, 3, []) else none)) else (bif Nat.ble 65 p then (bif Nat.beq p 65 then some (2, 0, 0, 1, []) else none) else (bif Nat.beq p 62 then some (28, 0, 69, 3, []) else none))) else (bif Nat.ble 57 p then (bif Nat.ble 58 p then (bif Nat.ble 59 p then (bif Nat.beq p 59 then some (46, 0, 118, 3, []) else none) else (bif Nat.beq p 58 then some (1, 0, 0, 1, []) else none)) else (bif Nat.beq p 57 then some (47, 0, 1, 1, []) else none)) else (bif Nat.ble 56 p then (bif Nat.beq p 56 then some (2, 3, 0, 1, []) else none) else (bif Nat.beq p 53 then some (29, 0, 58, 3, []) else none)))) else (bif Nat.ble 44 p then (bif Nat.ble 48 p then (bif Nat.ble 49 p then (bif Nat.ble 50 p then (bif Nat.beq p 50 then some (46, 0, 114, 3, []) else none) else (bif Nat.beq p 49 then some (1, 0, 0, 1, []) else none)) else (bif Nat.beq p 48 then some (47, 0, 1, 1, []) else none)) else (bif Nat.ble 47 p then (bif Nat.beq p 47 then some (2, 2, 0, 1, []) else none) else (bif Nat.beq p 44 then some (25, 0, 49, 3, []) else none))) else (bif Nat.ble 40 p then (bif Nat.ble 43 p then (bif Nat.beq p 43 then some (2, 5, 0, 1, []) else none) else (bif Nat.beq p 40 then some (35, 0, 70, 3, []) else none)) else (bif Nat.ble 37 p then (bif Nat.beq p 37 then some (35, 0, 20, 3, []) else none) else (bif Nat.beq p 36 then some (1, 0, 0, 1, []) else none))))) else (bif Nat.ble 17 p then (bif Nat.ble 25 p then (bif Nat.ble 29 p then (bif Nat.ble 30 p then (bif Nat.ble 33 p then (bif Nat.beq p 33 then some (46, 0, 108, 3, []) else none) else (bif Nat.beq p 30 then some (35, 0, 20, 3, []) else none)) else (bif Nat.beq p 29 then some (1, 0, 0, 1, []) else none)) else (bif Nat.ble 26 p then (bif Nat.beq p 26 then some (35, 0, 14, 3, []) else none) else (bif Nat.beq p 25 then some (1, 0, 0, 1, []) else none))) else (bif Nat.ble 23 p then (bif Nat.ble 24 p then (bif Nat.beq p 24 then some (47, 0, 1, 1, []) else none) else (bif Nat.beq p 23 then some (2, 1, 0, 1, []) else none)) else (bif Nat.ble 20 p then (bif Nat.beq p 20 then some (29, 0, 25, 3, []) else none) else (bif Nat.beq p 17 then some (46, 0, 104, 3, []) else none)))) else (bif Nat.ble 8 p then (bif Nat.ble 10 p then (bif Nat.ble 13 p then (bif Nat.ble 14 p then (bif Nat.beq p 14 then some (35, 0, 14, 3, []) else none) else (bif Nat.beq p 13 then some (1, 0, 0, 1, []) else none)) else (bif Nat.beq p 10 then some (35, 0, 26, 3, []) else none)) else (bif Nat.ble 9 p then (bif Nat.beq p 9 then some (1, 0, 0, 1, []) else none) else (bif Nat.beq p 8 then some (47, 0, 1, 1, []) else none))) else (bif Nat.ble 4 p then (bif Nat.ble 7 p then (bif Nat.beq p 7 then some (2, 5, 0, 1, []) else none) else (bif Nat.beq p 4 then some (28, 0, 9, 3, []) else none)) else (bif Nat.ble 1 p then (bif Nat.beq p 1 then some (35, 0, 62, 3, []) else none) else (bif Nat.beq p 0 then some (1, 0, 0, 1, []) else none))))))
def ca_X1_kindOfWrong (y : Nat) (as : List sl_V) (m : sl_M) : Option (sl_PL × sl_M) := bif Nat.ble 11 y then (bif Nat.ble 15 y then (bif Nat.beq y 15 then F_X3_isSound as m else none) else (bif Nat.beq y 11 then F_X1_headHolds as m else none)) else (bif Nat.ble 10 y then (bif Nat.beq y 10 then F_X1_checkHolds as m else none) else (bif Nat.beq y 2 then F_X0_unpack as m else none))
def sp_X1_kindOfWrong (p : Nat) : Bool := false
def mk_X1_kindOfWrong (p : Nat) : List Bool := []
def cl_X1_kindOfWrong (p : Nat) : Option sl_C := bif Nat.ble 119 p then none else (bif Nat.ble 114 p then (bif Nat.ble 118 p then (bif Nat.beq p 118 then some (11, 1, 1, 0, 0, 2) else none) else (bif Nat.beq p 114 then some (10, 1, 1, 0, 0, 2) else none)) else (bif Nat.ble 108 p then (bif Nat.beq p 108 then some (2, 2, 0, 0, 0, 0) else none) else (bif Nat.beq p 104 then some (15, 2, 1, 0, 0, 4) else none)))
def R_X1_kindOfWrong (ca : Nat → List sl_V → sl_M → Option (sl_PL × sl_M)) : Nat → sl_S → sl_M → Option (sl_PL × sl_M) := sl_B tb_X1_kindOfWrong fl_X1 pf_X1 cl_X1_kindOfWrong nw_X1 sl_rd sl_wr sl_al sl_ln 0 (fun _ => 0) ca sp_X1_kindOfWrong mk_X1_kindOfWrong
def F_X1_kindOfWrong (as : List sl_V) (m : sl_M) : Option (sl_PL × sl_M) := R_X1_kindOfWrong ca_X1_kindOfWrong 100000 (0, sl_lo 1 as, []) m
def f_X1_kindOfWrong (this : Nat) (m : sl_M) : Option (sl_PL × sl_M) := F_X1_kindOfWrong [.inr (.inl (some (1, this)))] m
def r_X1_kindOfWrong_0 (ca : Nat → List sl_V → sl_M → Option (sl_PL × sl_M)) (n : Nat) (this : Nat) (m : sl_M) : Option (sl_PL × sl_M) := R_X1_kindOfWrong ca n (0, sl_lo 1 [.inr (.inl (some (1, this)))], []) m
set_option maxRecDepth 100000 in
theorem g_X1_kindOfWrong_0 (ca : Nat → List sl_V → sl_M → Option (sl_PL × sl_M)) (n : Nat) (this : Nat) (m : sl_M) : r_X1_kindOfWrong_0 ca (n + 1) this m =
  if (m.1 1 this 5) = 0 then
    (ca 15 [.inr (.inl (some (3, (1 + this)))), .inr (.inl (some (6, (10 + this))))] m).bind (fun q1 =>
    if q1.1.1 = 0 then
      some (((1 : Int32), 0, 0), q1.2)
    else
      (ca 2 [.inr (.inl (some (6, (10 + this)))), .inr (.inl (some (6, (12 + this))))] q1.2).bind (fun q2 =>
      if (5 : Int32) ≤ (q2.2.1 6 (12 + this) 1) then
        (ca 10 [.inr (.inl (some (1, this)))] q2.2).bind (fun q3 =>
        if q3.1.1 = 0 then
          some (((3 : Int32), 0, 0), q3.2)
        else
          (ca 11 [.inr (.inl (some (1, this)))] q3.2).bind (fun q4 =>
          if q4.1.1 = 0 then
            some (((4 : Int32), 0, 0), q4.2)
          else
            some (((0 : Int32), 0, 0), q4.2)))
      else
        some (((2 : Int32), 0, 0), q2.2)))
  else
    some (((5 : Int32), 0, 0), m) := by rfl
theorem cq_X1_kindOfWrong_X0_unpack (a0 : Nat) (a1 : Nat) (m : sl_M) : ca_X1_kindOfWrong 2 [.inr (.inl (some (6, a0))), .inr (.inl (some (6, a1)))] m = f_X0_unpack a0 a1 m := by
  unfold ca_X1_kindOfWrong f_X0_unpack
  rw [show Nat.ble 11 2 = false from rfl, cond_false, show Nat.ble 10 2 = false from rfl, cond_false, show Nat.beq 2 2 = true from rfl, cond_true]
theorem cq_X1_kindOfWrong_X1_checkHolds (this : Nat) (m : sl_M) : ca_X1_kindOfWrong 10 [.inr (.inl (some (1, this)))] m = f_X1_checkHolds this m := by
  unfold ca_X1_kindOfWrong f_X1_checkHolds
  rw [show Nat.ble 11 10 = false from rfl, cond_false, show Nat.ble 10 10 = true from rfl, cond_true, show Nat.beq 10 10 = true from rfl, cond_true]
theorem cq_X1_kindOfWrong_X1_headHolds (this : Nat) (m : sl_M) : ca_X1_kindOfWrong 11 [.inr (.inl (some (1, this)))] m = f_X1_headHolds this m := by
  unfold ca_X1_kindOfWrong f_X1_headHolds
  rw [show Nat.ble 11 11 = true from rfl, cond_true, show Nat.ble 15 11 = false from rfl, cond_false, show Nat.beq 11 11 = true from rfl, cond_true]
theorem cq_X1_kindOfWrong_X3_isSound (this : Nat) (a0 : Nat) (m : sl_M) : ca_X1_kindOfWrong 15 [.inr (.inl (some (3, this))), .inr (.inl (some (6, a0)))] m = f_X3_isSound this a0 m := by
  unfold ca_X1_kindOfWrong f_X3_isSound
  rw [show Nat.ble 11 15 = true from rfl, cond_true, show Nat.ble 15 15 = true from rfl, cond_true, show Nat.beq 15 15 = true from rfl, cond_true]
theorem e_X1_kindOfWrong (this : Nat) (m : sl_M) : f_X1_kindOfWrong this m =
  if (m.1 1 this 5) = 0 then
    (f_X3_isSound (1 + this) (10 + this) m).bind (fun q1 =>
    if q1.1.1 = 0 then
      some (((1 : Int32), 0, 0), q1.2)
    else
      (f_X0_unpack (10 + this) (12 + this) q1.2).bind (fun q2 =>
      if (5 : Int32) ≤ (q2.2.1 6 (12 + this) 1) then
        (f_X1_checkHolds this q2.2).bind (fun q3 =>
        if q3.1.1 = 0 then
          some (((3 : Int32), 0, 0), q3.2)
        else
          (f_X1_headHolds this q3.2).bind (fun q4 =>
          if q4.1.1 = 0 then
            some (((4 : Int32), 0, 0), q4.2)
          else
            some (((0 : Int32), 0, 0), q4.2)))
      else
        some (((2 : Int32), 0, 0), q2.2)))
  else
    some (((5 : Int32), 0, 0), m) := by
  have h := g_X1_kindOfWrong_0 ca_X1_kindOfWrong 99999 this m
  simp only [cq_X1_kindOfWrong_X0_unpack, cq_X1_kindOfWrong_X1_checkHolds, cq_X1_kindOfWrong_X1_headHolds, cq_X1_kindOfWrong_X3_isSound] at h
  exact h

def tb_X9_add (p : Nat) : Option sl_E := bif Nat.ble 24 p then none else (bif Nat.ble 14 p then (bif Nat.ble 20 p then (bif Nat.ble 22 p then (bif Nat.ble 23 p then (bif Nat.beq p 23 then some (50, 0, 0, 1, []) else none) else (bif Nat.beq p 22 then some (41, 0, 0, 1, []) else none)) else (bif Nat.ble 21 p then (bif Nat.beq p 21 then some (6, 0, 0, 1, []) else none) else (bif Nat.beq p 20 then some (2, 1, 0, 1, []) else none))) else (bif Nat.ble 18 p then (bif Nat.ble 19 p then (bif Nat.beq p 19 then some (37, 0, 0, 1, []) else none) else (bif Nat.beq p 18 then some (20, 0, 0, 1, []) else none)) else (bif Nat.ble 17 p then (bif Nat.beq p 17 then some (0, 0, 1, 1, []) else none) else (bif Nat.beq p 14 then some (35, 0, 9, 3, []) else none)))) else (bif Nat.ble 6 p then (bif Nat.ble 10 p then (bif Nat.ble 13 p then (bif Nat.beq p 13 then some (1, 0, 0, 1, []) else none) else (bif Nat.beq p 10 then some (25, 0, 23, 3, []) else none)) else (bif Nat.ble 9 p then (bif Nat.beq p 9 then some (45, 0, 0, 1, []) else none) else (bif Nat.beq p 6 then some (35, 0, 9, 3, []) else none))) else (bif Nat.ble 4 p then (bif Nat.ble 5 p then (bif Nat.beq p 5 then some (1, 0, 0, 1, []) else none) else (bif Nat.beq p 4 then some (0, 0, 1, 1, []) else none)) else (bif Nat.ble 1 p then (bif Nat.beq p 1 then some (30, 0, 23, 3, []) else none) else (bif Nat.beq p 0 then some (0, 0, 1, 1, []) else none)))))
def ca_X9_add (y : Nat) (as : List sl_V) (m : sl_M) : Option (sl_PL × sl_M) := none
def sp_X9_add (p : Nat) : Bool := false
def mk_X9_add (p : Nat) : List Bool := []
def cl_X9_add (p : Nat) : Option sl_C := none
def R_X9_add (ca : Nat → List sl_V → sl_M → Option (sl_PL × sl_M)) : Nat → sl_S → sl_M → Option (sl_PL × sl_M) := sl_B tb_X9_add fl_X9 pf_X9 cl_X9_add nw_X9 sl_rd sl_wr sl_al sl_ln 0 (fun _ => 0) ca sp_X9_add mk_X9_add
def F_X9_add (as : List sl_V) (m : sl_M) : Option (sl_PL × sl_M) := R_X9_add ca_X9_add 100000 (0, sl_lo 2 as, []) m
def f_X9_add (a0 : Int32) (m : sl_M) : Option (sl_PL × sl_M) := F_X9_add [.inr (.inl (some (9, 0))), .inl a0] m
def r_X9_add_0 (ca : Nat → List sl_V → sl_M → Option (sl_PL × sl_M)) (n : Nat) (a0 : Int32) (m : sl_M) : Option (sl_PL × sl_M) := R_X9_add ca n (0, sl_lo 2 [.inr (.inl (some (9, 0))), .inl a0], []) m
set_option maxRecDepth 100000 in
theorem g_X9_add_0 (ca : Nat → List sl_V → sl_M → Option (sl_PL × sl_M)) (n : Nat) (a0 : Int32) (m : sl_M) : r_X9_add_0 ca (n + 1) a0 m =
  if a0 < 0 then
    some ((0, 0, 0), m)
  else
    if (Int32.ofNat 16) ≤ a0 then
      some ((0, 0, 0), m)
    else
      if 0 ≤ a0 ∧ a0.toNatClampNeg < 16 then
      if 0 ≤ a0 ∧ a0.toNatClampNeg < 16 then
      some ((0, 0, 0), (sl_up m 27 2 a0.toNatClampNeg ((m.1 27 2 a0.toNatClampNeg) + (1 : Int32))))
      else none
      else none := by rfl
theorem e_X9_add (a0 : Int32) (m : sl_M) : f_X9_add a0 m =
  if a0 < 0 then
    some ((0, 0, 0), m)
  else
    if (Int32.ofNat 16) ≤ a0 then
      some ((0, 0, 0), m)
    else
      if 0 ≤ a0 ∧ a0.toNatClampNeg < 16 then
      if 0 ≤ a0 ∧ a0.toNatClampNeg < 16 then
      some ((0, 0, 0), (sl_up m 27 2 a0.toNatClampNeg ((m.1 27 2 a0.toNatClampNeg) + (1 : Int32))))
      else none
      else none := by
  have h := g_X9_add_0 ca_X9_add 99999 a0 m
  exact h

def tb_X5_hold (p : Nat) : Option sl_E := bif Nat.ble 88 p then none else (bif Nat.ble 44 p then (bif Nat.ble 64 p then (bif Nat.ble 79 p then (bif Nat.ble 85 p then (bif Nat.ble 86 p then (bif Nat.ble 87 p then (bif Nat.beq p 87 then some (50, 0, 0, 1, []) else none) else (bif Nat.beq p 86 then some (41, 0, 0, 1, []) else none)) else (bif Nat.beq p 85 then some (0, 0, 3, 1, []) else none)) else (bif Nat.ble 80 p then (bif Nat.ble 83 p then (bif Nat.beq p 83 then some (0, 0, 4, 2, []) else none) else (bif Nat.beq p 80 then some (35, 0, 20, 3, []) else none)) else (bif Nat.beq p 79 then some (1, 0, 0, 1, []) else none))) else (bif Nat.ble 70 p then (bif Nat.ble 73 p then (bif Nat.ble 76 p then (bif Nat.beq p 76 then some (34, 0, 44, 3, []) else none) else (bif Nat.beq p 73 then some (5, 1, 5, 3, []) else none)) else (bif Nat.beq p 70 then some (46, 0, 91, 3, []) else none)) else (bif Nat.ble 66 p then (bif Nat.ble 67 p then (bif Nat.beq p 67 then some (46, 0, 88, 3, []) else none) else (bif Nat.beq p 66 then some (6, 0, 0, 1, []) else none)) else (bif Nat.beq p 64 then some (0, 0, 5, 2, []) else none)))) else (bif Nat.ble 56 p then (bif Nat.ble 61 p then (bif Nat.ble 62 p then (bif Nat.ble 63 p then (bif Nat.beq p 63 then some (2, 1, 0, 1, []) else none) else (bif Nat.beq p 62 then some (1, 0, 2, 1, []) else none)) else (bif Nat.beq p 61 then some (6, 0, 0, 1, []) else none)) else (bif Nat.ble 58 p then (bif Nat.ble 59 p then (bif Nat.beq p 59 then some (0, 0, 5, 2, []) else none) else (bif Nat.beq p 58 then some (8, 0, 0, 1, []) else none)) else (bif Nat.beq p 56 then some (2, 60, 0, 2, []) else none))) else (bif Nat.ble 50 p then (bif Nat.ble 51 p then (bif Nat.ble 54 p then (bif Nat.beq p 54 then some (0, 0, 4, 2, []) else none) else (bif Nat.beq p 51 then some (35, 0, 24, 3, []) else none)) else (bif Nat.beq p 50 then some (1, 0, 0, 1, []) else none)) else (bif Nat.ble 46 p then (bif Nat.ble 47 p then (bif Nat.beq p 47 then some (25, 0, 79, 3, []) else none) else (bif Nat.beq p 46 then some (0, 0, 3, 1, []) else none)) else (bif Nat.beq p 44 then some (0, 0, 5, 2, []) else none))))) else (bif Nat.ble 22 p then (bif Nat.ble 33 p then (bif Nat.ble 40 p then (bif Nat.ble 41 p then (bif Nat.ble 42 p then (bif Nat.beq p 42 then some (3, 0, 5, 2, []) else none) else (bif Nat.beq p 41 then some (2, 0, 0, 1, []) else none)) else (bif Nat.beq p 40 then some (50, 0, 0, 1, []) else none)) else (bif Nat.ble 36 p then (bif Nat.ble 37 p then (bif Nat.beq p 37 then some (46, 0, 76, 3, []) else none) else (bif Nat.beq p 36 then some (2, 5, 0, 1, []) else none)) else (bif Nat.beq p 33 then some (35, 0, 31, 3, []) else none))) else (bif Nat.ble 28 p then (bif Nat.ble 29 p then (bif Nat.ble 32 p then (bif Nat.beq p 32 then some (1, 0, 0, 1, []) else none) else (bif Nat.beq p 29 then some (33, 0, 41, 3, []) else none)) else (bif Nat.beq p 28 then some (37, 0, 0, 1, []) else none)) else (bif Nat.ble 23 p then (bif Nat.ble 26 p then (bif Nat.beq p 26 then some (0, 0, 4, 2, []) else none) else (bif Nat.beq p 23 then some (35, 0, 20, 3, []) else none)) else (bif Nat.beq p 22 then some (1, 0, 0, 1, []) else none)))) else (bif Nat.ble 9 p then (bif Nat.ble 13 p then (bif Nat.ble 16 p then (bif Nat.ble 19 p then (bif Nat.beq p 19 then some (25, 0, 32, 3, []) else none) else (bif Nat.beq p 16 then some (35, 0, 85, 3, []) else none)) else (bif Nat.beq p 13 then some (35, 0, 27, 3, []) else none)) else (bif Nat.ble 11 p then (bif Nat.ble 12 p then (bif Nat.beq p 12 then some (1, 0, 0, 1, []) else none) else (bif Nat.beq p 11 then some (0, 0, 1, 1, []) else none)) else (bif Nat.beq p 9 then some (3, 0, 4, 2, []) else none))) else (bif Nat.ble 5 p then (bif Nat.ble 6 p then (bif Nat.ble 8 p then (bif Nat.beq p 8 then some (11, 0, 0, 1, []) else none) else (bif Nat.beq p 6 then some (2, 63, 0, 2, []) else none)) else (bif Nat.beq p 5 then some (6, 0, 0, 1, []) else none)) else (bif Nat.ble 1 p then (bif Nat.ble 4 p then (bif Nat.beq p 4 then some (0, 0, 1, 1, []) else none) else (bif Nat.beq p 1 then some (35, 0, 46, 3, []) else none)) else (bif Nat.beq p 0 then some (1, 0, 0, 1, []) else none))))))
def ca_X5_hold (y : Nat) (as : List sl_V) (m : sl_M) : Option (sl_PL × sl_M) := bif Nat.ble 38 y then (bif Nat.ble 59 y then (bif Nat.beq y 59 then F_X9_add as m else none) else (bif Nat.beq y 38 then F_X6_put as m else none)) else (bif Nat.beq y 36 then F_X6_at as m else none)
def sp_X5_hold (p : Nat) : Bool := Nat.beq p 44
def mk_X5_hold (p : Nat) : List Bool := bif Nat.beq p 44 then [true, false, true, true, true, true] else []
def cl_X5_hold (p : Nat) : Option sl_C := bif Nat.ble 92 p then none else (bif Nat.ble 88 p then (bif Nat.ble 91 p then (bif Nat.beq p 91 then some (38, 3, 0, 0, 0, 7) else none) else (bif Nat.beq p 88 then some (36, 2, 1, 0, 0, 7) else none)) else (bif Nat.beq p 76 then some (59, 2, 0, 0, 0, 10) else none))
def R_X5_hold (ca : Nat → List sl_V → sl_M → Option (sl_PL × sl_M)) : Nat → sl_S → sl_M → Option (sl_PL × sl_M) := sl_B tb_X5_hold fl_X5 pf_X5 cl_X5_hold nw_X5 sl_rd sl_wr sl_al sl_ln 0 (fun _ => 0) ca sp_X5_hold mk_X5_hold
def F_X5_hold (as : List sl_V) (m : sl_M) : Option (sl_PL × sl_M) := R_X5_hold ca_X5_hold 100000 (0, sl_lo 6 as, []) m
def f_X5_hold (this : Nat) (a0 : Int32) (a1 : Nat) (a2 : Int32) (m : sl_M) : Option (sl_PL × sl_M) := F_X5_hold [.inr (.inl (some (5, this))), .inl a0, .inr (.inl (some (6, a1))), .inl a2] m
def r_X5_hold_0 (ca : Nat → List sl_V → sl_M → Option (sl_PL × sl_M)) (n : Nat) (this : Nat) (a0 : Int32) (a1 : Nat) (a2 : Int32) (m : sl_M) : Option (sl_PL × sl_M) := R_X5_hold ca n (0, sl_lo 6 [.inr (.inl (some (5, this))), .inl a0, .inr (.inl (some (6, a1))), .inl a2], []) m
def r_X5_hold_44 (ca : Nat → List sl_V → sl_M → Option (sl_PL × sl_M)) (n : Nat) (v0 : Nat) (v2 : Nat) (v3 : Int32) (v4 : Int32) (v5 : Int32) (m : sl_M) : Option (sl_PL × sl_M) := R_X5_hold ca n (44, [some (.inr (.inl (some (5, v0)))), none, some (.inr (.inl (some (6, v2)))), some (.inl v3), some (.inl v4), some (.inl v5)], []) m
def b_X5_hold_44 (n : Nat) (v0 : Nat) (v2 : Nat) (v3 : Int32) (v4 : Int32) (v5 : Int32) (m : sl_M) : Option (sl_PL × sl_M) := r_X5_hold_44 ca_X5_hold n v0 v2 v3 v4 v5 m
set_option maxRecDepth 100000 in
theorem g_X5_hold_0 (ca : Nat → List sl_V → sl_M → Option (sl_PL × sl_M)) (n : Nat) (this : Nat) (a0 : Int32) (a1 : Nat) (a2 : Int32) (m : sl_M) : r_X5_hold_0 ca (n + 1) this a0 a1 a2 m =
  if (m.1 8 0 2) ≤ a0 then
    (ca 59 [.inr (.inl (some (9, 0))), .inl (5 : Int32)] m).bind (fun q1 =>
    some ((0, 0, 0), q1.2))
  else
    if 0 ≤ (((m.1 5 this 4) + a0) &&& (63 : Int32)) ∧ (((m.1 5 this 4) + a0) &&& (63 : Int32)).toNatClampNeg < sl_l7 this then
    if (m.1 27 this ((((m.1 5 this 4) + a0) &&& (63 : Int32)).toNatClampNeg)) ≤ 0 then
      r_X5_hold_44 ca n this a1 a2 (((m.1 5 this 4) + a0) &&& (63 : Int32)) (0 : Int32) m
    else
      (ca 59 [.inr (.inl (some (9, 0))), .inl (5 : Int32)] m).bind (fun q2 =>
      some ((0, 0, 0), q2.2))
    else none := by rfl
set_option maxRecDepth 100000 in
theorem g_X5_hold_44 (ca : Nat → List sl_V → sl_M → Option (sl_PL × sl_M)) (n : Nat) (v0 : Nat) (v2 : Nat) (v3 : Int32) (v4 : Int32) (v5 : Int32) (m : sl_M) : r_X5_hold_44 ca (n + 1) v0 v2 v3 v4 v5 m =
  if v3 ≤ v5 then
    if 0 ≤ v4 ∧ v4.toNatClampNeg < sl_l7 v0 then
    some ((0, 0, 0), (sl_up m 27 v0 v4.toNatClampNeg v3))
    else none
  else
    (ca 36 [.inr (.inl (some (6, v2))), .inl ((1 : Int32) + v5)] m).bind (fun q1 =>
    (ca 38 [.inr (.inl (some (6, (8 + v0)))), .inl ((v4 * (60 : Int32)) + v5), .inl q1.1.1] q1.2).bind (fun q2 =>
    r_X5_hold_44 ca n v0 v2 v3 v4 (v5 + (1 : Int32)) q2.2)) := by rfl
theorem cq_X5_hold_X6_at (this : Nat) (a0 : Int32) (m : sl_M) : ca_X5_hold 36 [.inr (.inl (some (6, this))), .inl a0] m = f_X6_at this a0 m := by
  unfold ca_X5_hold f_X6_at
  rw [show Nat.ble 38 36 = false from rfl, cond_false, show Nat.beq 36 36 = true from rfl, cond_true]
theorem cq_X5_hold_X6_put (this : Nat) (a0 : Int32) (a1 : Int32) (m : sl_M) : ca_X5_hold 38 [.inr (.inl (some (6, this))), .inl a0, .inl a1] m = f_X6_put this a0 a1 m := by
  unfold ca_X5_hold f_X6_put
  rw [show Nat.ble 38 38 = true from rfl, cond_true, show Nat.ble 59 38 = false from rfl, cond_false, show Nat.beq 38 38 = true from rfl, cond_true]
theorem cq_X5_hold_X9_add (a0 : Int32) (m : sl_M) : ca_X5_hold 59 [.inr (.inl (some (9, 0))), .inl a0] m = f_X9_add a0 m := by
  unfold ca_X5_hold f_X9_add
  rw [show Nat.ble 38 59 = true from rfl, cond_true, show Nat.ble 59 59 = true from rfl, cond_true, show Nat.beq 59 59 = true from rfl, cond_true]
theorem bq_X5_hold_44 (n : Nat) (v0 : Nat) (v2 : Nat) (v3 : Int32) (v4 : Int32) (v5 : Int32) (m : sl_M) : r_X5_hold_44 ca_X5_hold n v0 v2 v3 v4 v5 m = b_X5_hold_44 n v0 v2 v3 v4 v5 m := rfl
theorem e_X5_hold (this : Nat) (a0 : Int32) (a1 : Nat) (a2 : Int32) (m : sl_M) : f_X5_hold this a0 a1 a2 m =
  if (m.1 8 0 2) ≤ a0 then
    (f_X9_add (5 : Int32) m).bind (fun q1 =>
    some ((0, 0, 0), q1.2))
  else
    if 0 ≤ (((m.1 5 this 4) + a0) &&& (63 : Int32)) ∧ (((m.1 5 this 4) + a0) &&& (63 : Int32)).toNatClampNeg < sl_l7 this then
    if (m.1 27 this ((((m.1 5 this 4) + a0) &&& (63 : Int32)).toNatClampNeg)) ≤ 0 then
      b_X5_hold_44 99999 this a1 a2 (((m.1 5 this 4) + a0) &&& (63 : Int32)) (0 : Int32) m
    else
      (f_X9_add (5 : Int32) m).bind (fun q2 =>
      some ((0, 0, 0), q2.2))
    else none := by
  have h := g_X5_hold_0 ca_X5_hold 99999 this a0 a1 a2 m
  simp only [cq_X5_hold_X6_at, cq_X5_hold_X6_put, cq_X5_hold_X9_add, bq_X5_hold_44] at h
  exact h
theorem e_X5_hold_44 (n : Nat) (v0 : Nat) (v2 : Nat) (v3 : Int32) (v4 : Int32) (v5 : Int32) (m : sl_M) : b_X5_hold_44 (n + 1) v0 v2 v3 v4 v5 m =
  if v3 ≤ v5 then
    if 0 ≤ v4 ∧ v4.toNatClampNeg < sl_l7 v0 then
    some ((0, 0, 0), (sl_up m 27 v0 v4.toNatClampNeg v3))
    else none
  else
    (f_X6_at v2 ((1 : Int32) + v5) m).bind (fun q1 =>
    (f_X6_put (8 + v0) ((v4 * (60 : Int32)) + v5) q1.1.1 q1.2).bind (fun q2 =>
    b_X5_hold_44 n v0 v2 v3 v4 (v5 + (1 : Int32)) q2.2)) := by
  have h := g_X5_hold_44 ca_X5_hold n v0 v2 v3 v4 v5 m
  simp only [cq_X5_hold_X6_at, cq_X5_hold_X6_put, cq_X5_hold_X9_add, bq_X5_hold_44] at h
  exact h

def tb_X6_hasRoom (p : Nat) : Option sl_E := bif Nat.ble 20 p then none else (bif Nat.ble 10 p then (bif Nat.ble 15 p then (bif Nat.ble 18 p then (bif Nat.ble 19 p then (bif Nat.beq p 19 then some (47, 0, 2, 1, []) else none) else (bif Nat.beq p 18 then some (2, 0, 0, 1, []) else none)) else (bif Nat.beq p 15 then some (34, 0, 19, 3, []) else none)) else (bif Nat.ble 11 p then (bif Nat.ble 14 p then (bif Nat.beq p 14 then some (2, 1, 0, 1, []) else none) else (bif Nat.beq p 11 then some (26, 0, 18, 3, []) else none)) else (bif Nat.beq p 10 then some (7, 0, 0, 1, []) else none))) else (bif Nat.ble 5 p then (bif Nat.ble 6 p then (bif Nat.ble 7 p then (bif Nat.beq p 7 then some (35, 0, 15, 3, []) else none) else (bif Nat.beq p 6 then some (1, 0, 0, 1, []) else none)) else (bif Nat.beq p 5 then some (45, 0, 0, 1, []) else none)) else (bif Nat.ble 1 p then (bif Nat.ble 2 p then (bif Nat.beq p 2 then some (35, 0, 9, 3, []) else none) else (bif Nat.beq p 1 then some (1, 0, 0, 1, []) else none)) else (bif Nat.beq p 0 then some (0, 0, 1, 1, []) else none))))
def ca_X6_hasRoom (y : Nat) (as : List sl_V) (m : sl_M) : Option (sl_PL × sl_M) := none
def sp_X6_hasRoom (p : Nat) : Bool := false
def mk_X6_hasRoom (p : Nat) : List Bool := []
def cl_X6_hasRoom (p : Nat) : Option sl_C := none
def R_X6_hasRoom (ca : Nat → List sl_V → sl_M → Option (sl_PL × sl_M)) : Nat → sl_S → sl_M → Option (sl_PL × sl_M) := sl_B tb_X6_hasRoom fl_X6 pf_X6 cl_X6_hasRoom nw_X6 sl_rd sl_wr sl_al sl_ln 0 (fun _ => 0) ca sp_X6_hasRoom mk_X6_hasRoom
def F_X6_hasRoom (as : List sl_V) (m : sl_M) : Option (sl_PL × sl_M) := R_X6_hasRoom ca_X6_hasRoom 100000 (0, sl_lo 2 as, []) m
def f_X6_hasRoom (this : Nat) (a0 : Int32) (m : sl_M) : Option (sl_PL × sl_M) := F_X6_hasRoom [.inr (.inl (some (6, this))), .inl a0] m
def r_X6_hasRoom_0 (ca : Nat → List sl_V → sl_M → Option (sl_PL × sl_M)) (n : Nat) (this : Nat) (a0 : Int32) (m : sl_M) : Option (sl_PL × sl_M) := R_X6_hasRoom ca n (0, sl_lo 2 [.inr (.inl (some (6, this))), .inl a0], []) m
set_option maxRecDepth 100000 in
theorem g_X6_hasRoom_0 (ca : Nat → List sl_V → sl_M → Option (sl_PL × sl_M)) (n : Nat) (this : Nat) (a0 : Int32) (m : sl_M) : r_X6_hasRoom_0 ca (n + 1) this a0 m =
  if ((Int32.ofNat (sl_lr this)) - (m.1 6 this 1)) < a0 then
    some (((0 : Int32), 0, 0), m)
  else
    some (((1 : Int32), 0, 0), m) := by rfl
theorem e_X6_hasRoom (this : Nat) (a0 : Int32) (m : sl_M) : f_X6_hasRoom this a0 m =
  if ((Int32.ofNat (sl_lr this)) - (m.1 6 this 1)) < a0 then
    some (((0 : Int32), 0, 0), m)
  else
    some (((1 : Int32), 0, 0), m) := by
  have h := g_X6_hasRoom_0 ca_X6_hasRoom 99999 this a0 m
  exact h

def tb_X6_addPart (p : Nat) : Option sl_E := bif Nat.ble 29 p then none else (bif Nat.ble 12 p then (bif Nat.ble 21 p then (bif Nat.ble 25 p then (bif Nat.ble 28 p then (bif Nat.beq p 28 then some (50, 0, 0, 1, []) else none) else (bif Nat.beq p 25 then some (34, 0, 3, 3, []) else none)) else (bif Nat.ble 22 p then (bif Nat.beq p 22 then some (5, 1, 4, 3, []) else none) else (bif Nat.beq p 21 then some (21, 0, 0, 1, []) else none))) else (bif Nat.ble 15 p then (bif Nat.ble 18 p then (bif Nat.beq p 18 then some (46, 0, 32, 3, []) else none) else (bif Nat.beq p 15 then some (46, 0, 28, 3, []) else none)) else (bif Nat.ble 14 p then (bif Nat.beq p 14 then some (6, 0, 0, 1, []) else none) else (bif Nat.beq p 12 then some (0, 0, 4, 2, []) else none)))) else (bif Nat.ble 6 p then (bif Nat.ble 10 p then (bif Nat.ble 11 p then (bif Nat.beq p 11 then some (0, 0, 2, 1, []) else none) else (bif Nat.beq p 10 then some (1, 0, 1, 1, []) else none)) else (bif Nat.ble 9 p then (bif Nat.beq p 9 then some (1, 0, 0, 1, []) else none) else (bif Nat.beq p 6 then some (25, 0, 28, 3, []) else none))) else (bif Nat.ble 3 p then (bif Nat.ble 5 p then (bif Nat.beq p 5 then some (0, 0, 3, 1, []) else none) else (bif Nat.beq p 3 then some (0, 0, 4, 2, []) else none)) else (bif Nat.ble 1 p then (bif Nat.beq p 1 then some (3, 0, 4, 2, []) else none) else (bif Nat.beq p 0 then some (2, 0, 0, 1, []) else none)))))
def ca_X6_addPart (y : Nat) (as : List sl_V) (m : sl_M) : Option (sl_PL × sl_M) := bif Nat.ble 37 y then (bif Nat.beq y 37 then F_X6_add as m else none) else (bif Nat.beq y 36 then F_X6_at as m else none)
def sp_X6_addPart (p : Nat) : Bool := Nat.beq p 3
def mk_X6_addPart (p : Nat) : List Bool := bif Nat.beq p 3 then [true, true, true, true, true] else []
def cl_X6_addPart (p : Nat) : Option sl_C := bif Nat.ble 33 p then none else (bif Nat.ble 32 p then (bif Nat.beq p 32 then some (37, 2, 1, 0, 0, 7) else none) else (bif Nat.beq p 28 then some (36, 2, 1, 0, 0, 7) else none))
def R_X6_addPart (ca : Nat → List sl_V → sl_M → Option (sl_PL × sl_M)) : Nat → sl_S → sl_M → Option (sl_PL × sl_M) := sl_B tb_X6_addPart fl_X6 pf_X6 cl_X6_addPart nw_X6 sl_rd sl_wr sl_al sl_ln 0 (fun _ => 0) ca sp_X6_addPart mk_X6_addPart
def F_X6_addPart (as : List sl_V) (m : sl_M) : Option (sl_PL × sl_M) := R_X6_addPart ca_X6_addPart 100000 (0, sl_lo 5 as, []) m
def f_X6_addPart (this : Nat) (a0 : Nat) (a1 : Int32) (a2 : Int32) (m : sl_M) : Option (sl_PL × sl_M) := F_X6_addPart [.inr (.inl (some (6, this))), .inr (.inl (some (6, a0))), .inl a1, .inl a2] m
def r_X6_addPart_0 (ca : Nat → List sl_V → sl_M → Option (sl_PL × sl_M)) (n : Nat) (this : Nat) (a0 : Nat) (a1 : Int32) (a2 : Int32) (m : sl_M) : Option (sl_PL × sl_M) := R_X6_addPart ca n (0, sl_lo 5 [.inr (.inl (some (6, this))), .inr (.inl (some (6, a0))), .inl a1, .inl a2], []) m
def r_X6_addPart_3 (ca : Nat → List sl_V → sl_M → Option (sl_PL × sl_M)) (n : Nat) (v0 : Nat) (v1 : Nat) (v2 : Int32) (v3 : Int32) (v4 : Int32) (m : sl_M) : Option (sl_PL × sl_M) := R_X6_addPart ca n (3, [some (.inr (.inl (some (6, v0)))), some (.inr (.inl (some (6, v1)))), some (.inl v2), some (.inl v3), some (.inl v4)], []) m
def b_X6_addPart_3 (n : Nat) (v0 : Nat) (v1 : Nat) (v2 : Int32) (v3 : Int32) (v4 : Int32) (m : sl_M) : Option (sl_PL × sl_M) := r_X6_addPart_3 ca_X6_addPart n v0 v1 v2 v3 v4 m
set_option maxRecDepth 100000 in
theorem g_X6_addPart_0 (ca : Nat → List sl_V → sl_M → Option (sl_PL × sl_M)) (n : Nat) (this : Nat) (a0 : Nat) (a1 : Int32) (a2 : Int32) (m : sl_M) : r_X6_addPart_0 ca (n + 1) this a0 a1 a2 m =
  r_X6_addPart_3 ca n this a0 a1 a2 (0 : Int32) m := by rfl
set_option maxRecDepth 100000 in
theorem g_X6_addPart_3 (ca : Nat → List sl_V → sl_M → Option (sl_PL × sl_M)) (n : Nat) (v0 : Nat) (v1 : Nat) (v2 : Int32) (v3 : Int32) (v4 : Int32) (m : sl_M) : r_X6_addPart_3 ca (n + 1) v0 v1 v2 v3 v4 m =
  if v3 ≤ v4 then
    some ((0, 0, 0), m)
  else
    (ca 36 [.inr (.inl (some (6, v1))), .inl (v2 + v4)] m).bind (fun q1 =>
    (ca 37 [.inr (.inl (some (6, v0))), .inl q1.1.1] q1.2).bind (fun q2 =>
    r_X6_addPart_3 ca n v0 v1 v2 v3 (v4 + (1 : Int32)) q2.2)) := by rfl
theorem cq_X6_addPart_X6_at (this : Nat) (a0 : Int32) (m : sl_M) : ca_X6_addPart 36 [.inr (.inl (some (6, this))), .inl a0] m = f_X6_at this a0 m := by
  unfold ca_X6_addPart f_X6_at
  rw [show Nat.ble 37 36 = false from rfl, cond_false, show Nat.beq 36 36 = true from rfl, cond_true]
theorem cq_X6_addPart_X6_add (this : Nat) (a0 : Int32) (m : sl_M) : ca_X6_addPart 37 [.inr (.inl (some (6, this))), .inl a0] m = f_X6_add this a0 m := by
  unfold ca_X6_addPart f_X6_add
  rw [show Nat.ble 37 37 = true from rfl, cond_true, show Nat.beq 37 37 = true from rfl, cond_true]
theorem bq_X6_addPart_3 (n : Nat) (v0 : Nat) (v1 : Nat) (v2 : Int32) (v3 : Int32) (v4 : Int32) (m : sl_M) : r_X6_addPart_3 ca_X6_addPart n v0 v1 v2 v3 v4 m = b_X6_addPart_3 n v0 v1 v2 v3 v4 m := rfl
theorem e_X6_addPart (this : Nat) (a0 : Nat) (a1 : Int32) (a2 : Int32) (m : sl_M) : f_X6_addPart this a0 a1 a2 m =
  b_X6_addPart_3 99999 this a0 a1 a2 (0 : Int32) m := by
  have h := g_X6_addPart_0 ca_X6_addPart 99999 this a0 a1 a2 m
  simp only [cq_X6_addPart_X6_at, cq_X6_addPart_X6_add, bq_X6_addPart_3] at h
  exact h
theorem e_X6_addPart_3 (n : Nat) (v0 : Nat) (v1 : Nat) (v2 : Int32) (v3 : Int32) (v4 : Int32) (m : sl_M) : b_X6_addPart_3 (n + 1) v0 v1 v2 v3 v4 m =
  if v3 ≤ v4 then
    some ((0, 0, 0), m)
  else
    (f_X6_at v1 (v2 + v4) m).bind (fun q1 =>
    (f_X6_add v0 q1.1.1 q1.2).bind (fun q2 =>
    b_X6_addPart_3 n v0 v1 v2 v3 (v4 + (1 : Int32)) q2.2)) := by
  have h := g_X6_addPart_3 ca_X6_addPart n v0 v1 v2 v3 v4 m
  simp only [cq_X6_addPart_X6_at, cq_X6_addPart_X6_add, bq_X6_addPart_3] at h
  exact h

def tb_X5_takeHeld (p : Nat) : Option sl_E := bif Nat.ble 89 p then none else (bif Nat.ble 45 p then (bif Nat.ble 66 p then (bif Nat.ble 74 p then (bif Nat.ble 79 p then (bif Nat.ble 85 p then (bif Nat.ble 88 p then (bif Nat.beq p 88 then some (50, 0, 0, 1, []) else none) else (bif Nat.beq p 85 then some (34, 0, 2, 3, []) else none)) else (bif Nat.ble 82 p then (bif Nat.beq p 82 then some (5, 1, 1, 3, []) else none) else (bif Nat.beq p 79 then some (36, 0, 46, 3, []) else none))) else (bif Nat.ble 77 p then (bif Nat.ble 78 p then (bif Nat.beq p 78 then some (6, 0, 0, 1, []) else none) else (bif Nat.beq p 77 then some (2, 1, 0, 1, []) else none)) else (bif Nat.beq p 74 then some (35, 0, 46, 3, []) else none))) else (bif Nat.ble 71 p then (bif Nat.ble 72 p then (bif Nat.ble 73 p then (bif Nat.beq p 73 then some (19, 0, 0, 1, []) else none) else (bif Nat.beq p 72 then some (1, 0, 0, 1, []) else none)) else (bif Nat.beq p 71 then some (41, 0, 0, 1, []) else none)) else (bif Nat.ble 69 p then (bif Nat.ble 70 p then (bif Nat.beq p 70 then some (2, 0, 0, 1, []) else none) else (bif Nat.beq p 69 then some (0, 0, 2, 1, []) else none)) else (bif Nat.beq p 66 then some (35, 0, 20, 3, []) else none)))) else (bif Nat.ble 56 p then (bif Nat.ble 61 p then (bif Nat.ble 62 p then (bif Nat.ble 65 p then (bif Nat.beq p 65 then some (1, 0, 0, 1, []) else none) else (bif Nat.beq p 62 then some (46, 0, 81, 3, []) else none)) else (bif Nat.beq p 61 then some (37, 0, 0, 1, []) else none)) else (bif Nat.ble 57 p then (bif Nat.ble 60 p then (bif Nat.beq p 60 then some (0, 0, 2, 1, []) else none) else (bif Nat.beq p 57 then some (35, 0, 20, 3, []) else none)) else (bif Nat.beq p 56 then some (1, 0, 0, 1, []) else none))) else (bif Nat.ble 52 p then (bif Nat.ble 53 p then (bif Nat.ble 55 p then (bif Nat.beq p 55 then some (8, 0, 0, 1, []) else none) else (bif Nat.beq p 53 then some (2, 60, 0, 2, []) else none)) else (bif Nat.beq p 52 then some (0, 0, 2, 1, []) else none)) else (bif Nat.ble 48 p then (bif Nat.ble 49 p then (bif Nat.beq p 49 then some (35, 0, 24, 3, []) else none) else (bif Nat.beq p 48 then some (1, 0, 0, 1, []) else none)) else (bif Nat.beq p 45 then some (35, 0, 14, 3, []) else none))))) else (bif Nat.ble 20 p then (bif Nat.ble 30 p then (bif Nat.ble 35 p then (bif Nat.ble 41 p then (bif Nat.ble 44 p then (bif Nat.beq p 44 then some (1, 0, 0, 1, []) else none) else (bif Nat.beq p 41 then some (34, 0, 88, 3, []) else none)) else (bif Nat.ble 38 p then (bif Nat.beq p 38 then some (29, 0, 44, 3, []) else none) else (bif Nat.beq p 35 then some (46, 0, 72, 3, []) else none))) else (bif Nat.ble 33 p then (bif Nat.ble 34 p then (bif Nat.beq p 34 then some (37, 0, 0, 1, []) else none) else (bif Nat.beq p 33 then some (0, 0, 2, 1, []) else none)) else (bif Nat.beq p 30 then some (35, 0, 20, 3, []) else none))) else (bif Nat.ble 25 p then (bif Nat.ble 26 p then (bif Nat.ble 29 p then (bif Nat.beq p 29 then some (1, 0, 0, 1, []) else none) else (bif Nat.beq p 26 then some (35, 0, 14, 3, []) else none)) else (bif Nat.beq p 25 then some (1, 0, 0, 1, []) else none)) else (bif Nat.ble 21 p then (bif Nat.ble 22 p then (bif Nat.beq p 22 then some (28, 0, 88, 3, []) else none) else (bif Nat.beq p 21 then some (37, 0, 0, 1, []) else none)) else (bif Nat.beq p 20 then some (0, 0, 2, 1, []) else none)))) else (bif Nat.ble 9 p then (bif Nat.ble 15 p then (bif Nat.ble 16 p then (bif Nat.ble 17 p then (bif Nat.beq p 17 then some (35, 0, 20, 3, []) else none) else (bif Nat.beq p 16 then some (1, 0, 0, 1, []) else none)) else (bif Nat.beq p 15 then some (3, 0, 2, 1, []) else none)) else (bif Nat.ble 12 p then (bif Nat.ble 14 p then (bif Nat.beq p 14 then some (11, 0, 0, 1, []) else none) else (bif Nat.beq p 12 then some (2, 63, 0, 2, []) else none)) else (bif Nat.beq p 9 then some (35, 0, 46, 3, []) else none))) else (bif Nat.ble 3 p then (bif Nat.ble 5 p then (bif Nat.ble 8 p then (bif Nat.beq p 8 then some (1, 0, 0, 1, []) else none) else (bif Nat.beq p 5 then some (25, 0, 88, 3, []) else none)) else (bif Nat.beq p 3 then some (2, 64, 0, 2, []) else none)) else (bif Nat.ble 1 p then (bif Nat.ble 2 p then (bif Nat.beq p 2 then some (0, 0, 1, 1, []) else none) else (bif Nat.beq p 1 then some (3, 0, 1, 1, []) else none)) else (bif Nat.beq p 0 then some (2, 0, 0, 1, []) else none))))))
def ca_X5_takeHeld (y : Nat) (as : List sl_V) (m : sl_M) : Option (sl_PL × sl_M) := bif Nat.ble 39 y then (bif Nat.beq y 39 then F_X6_addPart as m else none) else (bif Nat.beq y 35 then F_X6_hasRoom as m else none)
def sp_X5_takeHeld (p : Nat) : Bool := Nat.beq p 2
def mk_X5_takeHeld (p : Nat) : List Bool := bif Nat.beq p 2 then [true, true, false] else []
def cl_X5_takeHeld (p : Nat) : Option sl_C := bif Nat.ble 82 p then none else (bif Nat.ble 81 p then (bif Nat.beq p 81 then some (39, 4, 0, 0, 0, 7) else none) else (bif Nat.beq p 72 then some (35, 2, 1, 0, 0, 7) else none))
def R_X5_takeHeld (ca : Nat → List sl_V → sl_M → Option (sl_PL × sl_M)) : Nat → sl_S → sl_M → Option (sl_PL × sl_M) := sl_B tb_X5_takeHeld fl_X5 pf_X5 cl_X5_takeHeld nw_X5 sl_rd sl_wr sl_al sl_ln 0 (fun _ => 0) ca sp_X5_takeHeld mk_X5_takeHeld
def F_X5_takeHeld (as : List sl_V) (m : sl_M) : Option (sl_PL × sl_M) := R_X5_takeHeld ca_X5_takeHeld 100000 (0, sl_lo 3 as, []) m
def f_X5_takeHeld (this : Nat) (m : sl_M) : Option (sl_PL × sl_M) := F_X5_takeHeld [.inr (.inl (some (5, this)))] m
def r_X5_takeHeld_0 (ca : Nat → List sl_V → sl_M → Option (sl_PL × sl_M)) (n : Nat) (this : Nat) (m : sl_M) : Option (sl_PL × sl_M) := R_X5_takeHeld ca n (0, sl_lo 3 [.inr (.inl (some (5, this)))], []) m
def r_X5_takeHeld_2 (ca : Nat → List sl_V → sl_M → Option (sl_PL × sl_M)) (n : Nat) (v0 : Nat) (v1 : Int32) (m : sl_M) : Option (sl_PL × sl_M) := R_X5_takeHeld ca n (2, [some (.inr (.inl (some (5, v0)))), some (.inl v1), none], []) m
def b_X5_takeHeld_2 (n : Nat) (v0 : Nat) (v1 : Int32) (m : sl_M) : Option (sl_PL × sl_M) := r_X5_takeHeld_2 ca_X5_takeHeld n v0 v1 m
set_option maxRecDepth 100000 in
theorem g_X5_takeHeld_0 (ca : Nat → List sl_V → sl_M → Option (sl_PL × sl_M)) (n : Nat) (this : Nat) (m : sl_M) : r_X5_takeHeld_0 ca (n + 1) this m =
  r_X5_takeHeld_2 ca n this (0 : Int32) m := by rfl
set_option maxRecDepth 100000 in
theorem g_X5_takeHeld_2 (ca : Nat → List sl_V → sl_M → Option (sl_PL × sl_M)) (n : Nat) (v0 : Nat) (v1 : Int32) (m : sl_M) : r_X5_takeHeld_2 ca (n + 1) v0 v1 m =
  if (64 : Int32) ≤ v1 then
    some ((0, 0, 0), m)
  else
    if 0 ≤ ((m.1 5 v0 4) &&& (63 : Int32)) ∧ ((m.1 5 v0 4) &&& (63 : Int32)).toNatClampNeg < sl_l7 v0 then
    if (m.1 27 v0 (((m.1 5 v0 4) &&& (63 : Int32)).toNatClampNeg)) = 0 then
      some ((0, 0, 0), m)
    else
      if 0 ≤ ((m.1 5 v0 4) &&& (63 : Int32)) ∧ ((m.1 5 v0 4) &&& (63 : Int32)).toNatClampNeg < sl_l7 v0 then
      (ca 35 [.inr (.inl (some (6, (6 + v0)))), .inl (m.1 27 v0 (((m.1 5 v0 4) &&& (63 : Int32)).toNatClampNeg))] m).bind (fun q1 =>
      if q1.1.1 = 0 then
        some ((0, 0, 0), q1.2)
      else
        if 0 ≤ ((m.1 5 v0 4) &&& (63 : Int32)) ∧ ((m.1 5 v0 4) &&& (63 : Int32)).toNatClampNeg < sl_l7 v0 then
        (ca 39 [.inr (.inl (some (6, (6 + v0)))), .inr (.inl (some (6, (8 + v0)))), .inl (((m.1 5 v0 4) &&& (63 : Int32)) * (60 : Int32)), .inl (q1.2.1 27 v0 (((m.1 5 v0 4) &&& (63 : Int32)).toNatClampNeg))] q1.2).bind (fun q2 =>
        if 0 ≤ ((m.1 5 v0 4) &&& (63 : Int32)) ∧ ((m.1 5 v0 4) &&& (63 : Int32)).toNatClampNeg < sl_l7 v0 then
        r_X5_takeHeld_2 ca n v0 (v1 + (1 : Int32)) (sl_up (sl_up q2.2 27 v0 (((m.1 5 v0 4) &&& (63 : Int32)).toNatClampNeg) (0 : Int32)) 5 v0 4 ((q2.2.1 5 v0 4) + (1 : Int32)))
        else none)
        else none)
      else none
    else none := by rfl
theorem cq_X5_takeHeld_X6_hasRoom (this : Nat) (a0 : Int32) (m : sl_M) : ca_X5_takeHeld 35 [.inr (.inl (some (6, this))), .inl a0] m = f_X6_hasRoom this a0 m := by
  unfold ca_X5_takeHeld f_X6_hasRoom
  rw [show Nat.ble 39 35 = false from rfl, cond_false, show Nat.beq 35 35 = true from rfl, cond_true]
theorem cq_X5_takeHeld_X6_addPart (this : Nat) (a0 : Nat) (a1 : Int32) (a2 : Int32) (m : sl_M) : ca_X5_takeHeld 39 [.inr (.inl (some (6, this))), .inr (.inl (some (6, a0))), .inl a1, .inl a2] m = f_X6_addPart this a0 a1 a2 m := by
  unfold ca_X5_takeHeld f_X6_addPart
  rw [show Nat.ble 39 39 = true from rfl, cond_true, show Nat.beq 39 39 = true from rfl, cond_true]
theorem bq_X5_takeHeld_2 (n : Nat) (v0 : Nat) (v1 : Int32) (m : sl_M) : r_X5_takeHeld_2 ca_X5_takeHeld n v0 v1 m = b_X5_takeHeld_2 n v0 v1 m := rfl
theorem e_X5_takeHeld (this : Nat) (m : sl_M) : f_X5_takeHeld this m =
  b_X5_takeHeld_2 99999 this (0 : Int32) m := by
  have h := g_X5_takeHeld_0 ca_X5_takeHeld 99999 this m
  simp only [cq_X5_takeHeld_X6_hasRoom, cq_X5_takeHeld_X6_addPart, bq_X5_takeHeld_2] at h
  exact h
theorem e_X5_takeHeld_2 (n : Nat) (v0 : Nat) (v1 : Int32) (m : sl_M) : b_X5_takeHeld_2 (n + 1) v0 v1 m =
  if (64 : Int32) ≤ v1 then
    some ((0, 0, 0), m)
  else
    if 0 ≤ ((m.1 5 v0 4) &&& (63 : Int32)) ∧ ((m.1 5 v0 4) &&& (63 : Int32)).toNatClampNeg < sl_l7 v0 then
    if (m.1 27 v0 (((m.1 5 v0 4) &&& (63 : Int32)).toNatClampNeg)) = 0 then
      some ((0, 0, 0), m)
    else
      if 0 ≤ ((m.1 5 v0 4) &&& (63 : Int32)) ∧ ((m.1 5 v0 4) &&& (63 : Int32)).toNatClampNeg < sl_l7 v0 then
      (f_X6_hasRoom (6 + v0) (m.1 27 v0 (((m.1 5 v0 4) &&& (63 : Int32)).toNatClampNeg)) m).bind (fun q1 =>
      if q1.1.1 = 0 then
        some ((0, 0, 0), q1.2)
      else
        if 0 ≤ ((m.1 5 v0 4) &&& (63 : Int32)) ∧ ((m.1 5 v0 4) &&& (63 : Int32)).toNatClampNeg < sl_l7 v0 then
        (f_X6_addPart (6 + v0) (8 + v0) (((m.1 5 v0 4) &&& (63 : Int32)) * (60 : Int32)) (q1.2.1 27 v0 (((m.1 5 v0 4) &&& (63 : Int32)).toNatClampNeg)) q1.2).bind (fun q2 =>
        if 0 ≤ ((m.1 5 v0 4) &&& (63 : Int32)) ∧ ((m.1 5 v0 4) &&& (63 : Int32)).toNatClampNeg < sl_l7 v0 then
        b_X5_takeHeld_2 n v0 (v1 + (1 : Int32)) (sl_up (sl_up q2.2 27 v0 (((m.1 5 v0 4) &&& (63 : Int32)).toNatClampNeg) (0 : Int32)) 5 v0 4 ((q2.2.1 5 v0 4) + (1 : Int32)))
        else none)
        else none)
      else none
    else none := by
  have h := g_X5_takeHeld_2 ca_X5_takeHeld n v0 v1 m
  simp only [cq_X5_takeHeld_X6_hasRoom, cq_X5_takeHeld_X6_addPart, bq_X5_takeHeld_2] at h
  exact h

def tb_J9_floorMod_7cf53 (p : Nat) : Option sl_E := bif Nat.ble 20 p then none else (bif Nat.ble 10 p then (bif Nat.ble 16 p then (bif Nat.ble 18 p then (bif Nat.ble 19 p then (bif Nat.beq p 19 then some (47, 0, 1, 1, []) else none) else (bif Nat.beq p 18 then some (0, 0, 2, 1, []) else none)) else (bif Nat.ble 17 p then (bif Nat.beq p 17 then some (47, 0, 1, 1, []) else none) else (bif Nat.beq p 16 then some (6, 0, 0, 1, []) else none))) else (bif Nat.ble 14 p then (bif Nat.ble 15 p then (bif Nat.beq p 15 then some (0, 0, 1, 1, []) else none) else (bif Nat.beq p 14 then some (0, 0, 2, 1, []) else none)) else (bif Nat.ble 11 p then (bif Nat.beq p 11 then some (28, 0, 18, 3, []) else none) else (bif Nat.beq p 10 then some (0, 0, 2, 1, []) else none)))) else (bif Nat.ble 4 p then (bif Nat.ble 6 p then (bif Nat.ble 7 p then (bif Nat.beq p 7 then some (31, 0, 18, 3, []) else none) else (bif Nat.beq p 6 then some (13, 0, 0, 1, []) else none)) else (bif Nat.ble 5 p then (bif Nat.beq p 5 then some (0, 0, 1, 1, []) else none) else (bif Nat.beq p 4 then some (0, 0, 0, 1, []) else none))) else (bif Nat.ble 2 p then (bif Nat.ble 3 p then (bif Nat.beq p 3 then some (3, 0, 2, 1, []) else none) else (bif Nat.beq p 2 then some (10, 0, 0, 1, []) else none)) else (bif Nat.ble 1 p then (bif Nat.beq p 1 then some (0, 0, 1, 1, []) else none) else (bif Nat.beq p 0 then some (0, 0, 0, 1, []) else none)))))
def ca_J9_floorMod_7cf53 (y : Nat) (as : List sl_V) (m : sl_M) : Option (sl_PL × sl_M) := none
def sp_J9_floorMod_7cf53 (p : Nat) : Bool := false
def mk_J9_floorMod_7cf53 (p : Nat) : List Bool := []
def cl_J9_floorMod_7cf53 (p : Nat) : Option sl_C := none
def R_J9_floorMod_7cf53 (ca : Nat → List sl_V → sl_M → Option (sl_PL × sl_M)) : Nat → sl_S → sl_M → Option (sl_PL × sl_M) := sl_B tb_J9_floorMod_7cf53 fl_J9 pf_J9 cl_J9_floorMod_7cf53 nw_J9 sl_rd sl_wr sl_al sl_ln 0 (fun _ => 0) ca sp_J9_floorMod_7cf53 mk_J9_floorMod_7cf53
def F_J9_floorMod_7cf53 (as : List sl_V) (m : sl_M) : Option (sl_PL × sl_M) := R_J9_floorMod_7cf53 ca_J9_floorMod_7cf53 100000 (0, sl_lo 3 as, []) m
def f_J9_floorMod_7cf53 (a0 : Int32) (a1 : Int32) (m : sl_M) : Option (sl_PL × sl_M) := F_J9_floorMod_7cf53 [.inl a0, .inl a1] m
def r_J9_floorMod_7cf53_0 (ca : Nat → List sl_V → sl_M → Option (sl_PL × sl_M)) (n : Nat) (a0 : Int32) (a1 : Int32) (m : sl_M) : Option (sl_PL × sl_M) := R_J9_floorMod_7cf53 ca n (0, sl_lo 3 [.inl a0, .inl a1], []) m
set_option maxRecDepth 100000 in
theorem g_J9_floorMod_7cf53_0 (ca : Nat → List sl_V → sl_M → Option (sl_PL × sl_M)) (n : Nat) (a0 : Int32) (a1 : Int32) (m : sl_M) : r_J9_floorMod_7cf53_0 ca (n + 1) a0 a1 m =
  if a1 = 0 then none else
  if 0 ≤ (a0 ^^^ a1) then
      some (((a0 - a0 / a1 * a1), 0, 0), m)
    else
      if (a0 - a0 / a1 * a1) = 0 then
        some (((a0 - a0 / a1 * a1), 0, 0), m)
      else
        some ((((a0 - a0 / a1 * a1) + a1), 0, 0), m) := by rfl
theorem e_J9_floorMod_7cf53 (a0 : Int32) (a1 : Int32) (m : sl_M) : f_J9_floorMod_7cf53 a0 a1 m =
  if a1 = 0 then none else
  if 0 ≤ (a0 ^^^ a1) then
      some (((a0 - a0 / a1 * a1), 0, 0), m)
    else
      if (a0 - a0 / a1 * a1) = 0 then
        some (((a0 - a0 / a1 * a1), 0, 0), m)
      else
        some ((((a0 - a0 / a1 * a1) + a1), 0, 0), m) := by
  have h := g_J9_floorMod_7cf53_0 ca_J9_floorMod_7cf53 99999 a0 a1 m
  exact h

def tb_X8_inRing (p : Nat) : Option sl_E := bif Nat.ble 20 p then none else (bif Nat.ble 9 p then (bif Nat.ble 15 p then (bif Nat.ble 18 p then (bif Nat.ble 19 p then (bif Nat.beq p 19 then some (47, 0, 1, 1, []) else none) else (bif Nat.beq p 18 then some (2, 0, 0, 1, []) else none)) else (bif Nat.beq p 15 then some (34, 0, 19, 3, []) else none)) else (bif Nat.ble 12 p then (bif Nat.beq p 12 then some (46, 0, 31, 3, []) else none) else (bif Nat.beq p 9 then some (35, 0, 15, 3, []) else none))) else (bif Nat.ble 4 p then (bif Nat.ble 7 p then (bif Nat.ble 8 p then (bif Nat.beq p 8 then some (1, 0, 0, 1, []) else none) else (bif Nat.beq p 7 then some (0, 0, 1, 1, []) else none)) else (bif Nat.beq p 4 then some (33, 0, 18, 3, []) else none)) else (bif Nat.ble 1 p then (bif Nat.beq p 1 then some (35, 0, 15, 3, []) else none) else (bif Nat.beq p 0 then some (1, 0, 0, 1, []) else none))))
def ca_X8_inRing (y : Nat) (as : List sl_V) (m : sl_M) : Option (sl_PL × sl_M) := bif Nat.beq y 134 then F_J9_floorMod_7cf53 as m else none
def sp_X8_inRing (p : Nat) : Bool := false
def mk_X8_inRing (p : Nat) : List Bool := []
def cl_X8_inRing (p : Nat) : Option sl_C := bif Nat.ble 32 p then none else (bif Nat.beq p 31 then some (134, 2, 1, 0, 0, 0) else none)
def R_X8_inRing (ca : Nat → List sl_V → sl_M → Option (sl_PL × sl_M)) : Nat → sl_S → sl_M → Option (sl_PL × sl_M) := sl_B tb_X8_inRing fl_X8 pf_X8 cl_X8_inRing nw_X8 sl_rd sl_wr sl_al sl_ln 0 (fun _ => 0) ca sp_X8_inRing mk_X8_inRing
def F_X8_inRing (as : List sl_V) (m : sl_M) : Option (sl_PL × sl_M) := R_X8_inRing ca_X8_inRing 100000 (0, sl_lo 2 as, []) m
def f_X8_inRing (a0 : Int32) (m : sl_M) : Option (sl_PL × sl_M) := F_X8_inRing [.inr (.inl (some (8, 0))), .inl a0] m
def r_X8_inRing_0 (ca : Nat → List sl_V → sl_M → Option (sl_PL × sl_M)) (n : Nat) (a0 : Int32) (m : sl_M) : Option (sl_PL × sl_M) := R_X8_inRing ca n (0, sl_lo 2 [.inr (.inl (some (8, 0))), .inl a0], []) m
set_option maxRecDepth 100000 in
theorem g_X8_inRing_0 (ca : Nat → List sl_V → sl_M → Option (sl_PL × sl_M)) (n : Nat) (a0 : Int32) (m : sl_M) : r_X8_inRing_0 ca (n + 1) a0 m =
  if (m.1 8 0 1) ≤ 0 then
    some (((0 : Int32), 0, 0), m)
  else
    (ca 134 [.inl a0, .inl (m.1 8 0 1)] m).bind (fun q1 =>
    some ((q1.1.1, 0, 0), q1.2)) := by rfl
theorem cq_X8_inRing_J9_floorMod_7cf53 (a0 : Int32) (a1 : Int32) (m : sl_M) : ca_X8_inRing 134 [.inl a0, .inl a1] m = f_J9_floorMod_7cf53 a0 a1 m := by
  unfold ca_X8_inRing f_J9_floorMod_7cf53
  rw [show Nat.beq 134 134 = true from rfl, cond_true]
theorem e_X8_inRing (a0 : Int32) (m : sl_M) : f_X8_inRing a0 m =
  if (m.1 8 0 1) ≤ 0 then
    some (((0 : Int32), 0, 0), m)
  else
    (f_J9_floorMod_7cf53 a0 (m.1 8 0 1) m).bind (fun q1 =>
    some ((q1.1.1, 0, 0), q1.2)) := by
  have h := g_X8_inRing_0 ca_X8_inRing 99999 a0 m
  simp only [cq_X8_inRing_J9_floorMod_7cf53] at h
  exact h

def tb_X5_hearData (p : Nat) : Option sl_E := bif Nat.ble 100 p then none else (bif Nat.ble 51 p then (bif Nat.ble 78 p then (bif Nat.ble 89 p then (bif Nat.ble 94 p then (bif Nat.ble 98 p then (bif Nat.ble 99 p then (bif Nat.beq p 99 then some (47, 0, 2, 1, []) else none) else (bif Nat.beq p 98 then some (2, 1, 0, 1, []) else none)) else (bif Nat.ble 95 p then (bif Nat.beq p 95 then some (36, 0, 46, 3, []) else none) else (bif Nat.beq p 94 then some (6, 0, 0, 1, []) else none))) else (bif Nat.ble 90 p then (bif Nat.ble 93 p then (bif Nat.beq p 93 then some (2, 1, 0, 1, []) else none) else (bif Nat.beq p 90 then some (35, 0, 46, 3, []) else none)) else (bif Nat.beq p 89 then some (19, 0, 0, 1, []) else none))) else (bif Nat.ble 83 p then (bif Nat.ble 85 p then (bif Nat.ble 88 p then (bif Nat.beq p 88 then some (1, 0, 0, 1, []) else none) else (bif Nat.beq p 85 then some (46, 0, 81, 3, []) else none)) else (bif Nat.ble 84 p then (bif Nat.beq p 84 then some (0, 0, 3, 1, []) else none) else (bif Nat.beq p 83 then some (2, 1, 0, 1, []) else none))) else (bif Nat.ble 79 p then (bif Nat.ble 82 p then (bif Nat.beq p 82 then some (1, 0, 2, 1, []) else none) else (bif Nat.beq p 79 then some (35, 0, 14, 3, []) else none)) else (bif Nat.beq p 78 then some (1, 0, 0, 1, []) else none)))) else (bif Nat.ble 64 p then (bif Nat.ble 72 p then (bif Nat.ble 76 p then (bif Nat.ble 77 p then (bif Nat.beq p 77 then some (47, 0, 2, 1, []) else none) else (bif Nat.beq p 76 then some (2, 0, 0, 1, []) else none)) else (bif Nat.ble 73 p then (bif Nat.beq p 73 then some (34, 0, 77, 3, []) else none) else (bif Nat.beq p 72 then some (2, 1, 0, 1, []) else none))) else (bif Nat.ble 67 p then (bif Nat.ble 69 p then (bif Nat.beq p 69 then some (28, 0, 76, 3, []) else none) else (bif Nat.beq p 67 then some (0, 0, 4, 2, []) else none)) else (bif Nat.beq p 64 then some (46, 0, 76, 3, []) else none))) else (bif Nat.ble 59 p then (bif Nat.ble 60 p then (bif Nat.ble 63 p then (bif Nat.beq p 63 then some (2, 5, 0, 1, []) else none) else (bif Nat.beq p 60 then some (35, 0, 31, 3, []) else none)) else (bif Nat.beq p 59 then some (1, 0, 0, 1, []) else none)) else (bif Nat.ble 54 p then (bif Nat.ble 56 p then (bif Nat.beq p 56 then some (29, 0, 78, 3, []) else none) else (bif Nat.beq p 54 then some (0, 0, 5, 2, []) else none)) else (bif Nat.beq p 51 then some (29, 0, 59, 3, []) else none))))) else (bif Nat.ble 26 p then (bif Nat.ble 38 p then (bif Nat.ble 43 p then (bif Nat.ble 47 p then (bif Nat.ble 49 p then (bif Nat.beq p 49 then some (0, 0, 4, 2, []) else none) else (bif Nat.beq p 47 then some (3, 0, 5, 2, []) else none)) else (bif Nat.ble 44 p then (bif Nat.beq p 44 then some (46, 0, 72, 3, []) else none) else (bif Nat.beq p 43 then some (0, 0, 3, 1, []) else none))) else (bif Nat.ble 39 p then (bif Nat.ble 40 p then (bif Nat.beq p 40 then some (35, 0, 14, 3, []) else none) else (bif Nat.beq p 39 then some (1, 0, 0, 1, []) else none)) else (bif Nat.beq p 38 then some (47, 0, 2, 1, []) else none))) else (bif Nat.ble 30 p then (bif Nat.ble 34 p then (bif Nat.ble 37 p then (bif Nat.beq p 37 then some (2, 1, 0, 1, []) else none) else (bif Nat.beq p 34 then some (46, 0, 69, 3, []) else none)) else (bif Nat.ble 33 p then (bif Nat.beq p 33 then some (1, 0, 0, 1, []) else none) else (bif Nat.beq p 30 then some (46, 0, 65, 3, []) else none))) else (bif Nat.ble 28 p then (bif Nat.ble 29 p then (bif Nat.beq p 29 then some (0, 0, 3, 1, []) else none) else (bif Nat.beq p 28 then some (1, 0, 2, 1, []) else none)) else (bif Nat.beq p 26 then some (0, 0, 4, 2, []) else none)))) else (bif Nat.ble 10 p then (bif Nat.ble 16 p then (bif Nat.ble 22 p then (bif Nat.ble 25 p then (bif Nat.beq p 25 then some (1, 0, 0, 1, []) else none) else (bif Nat.beq p 22 then some (28, 0, 39, 3, []) else none)) else (bif Nat.ble 19 p then (bif Nat.beq p 19 then some (46, 0, 61, 3, []) else none) else (bif Nat.beq p 16 then some (35, 0, 27, 3, []) else none))) else (bif Nat.ble 13 p then (bif Nat.ble 15 p then (bif Nat.beq p 15 then some (1, 0, 0, 1, []) else none) else (bif Nat.beq p 13 then some (3, 0, 4, 2, []) else none)) else (bif Nat.beq p 10 then some (46, 0, 55, 3, []) else none))) else (bif Nat.ble 5 p then (bif Nat.ble 6 p then (bif Nat.ble 9 p then (bif Nat.beq p 9 then some (7, 0, 0, 1, []) else none) else (bif Nat.beq p 6 then some (35, 0, 46, 3, []) else none)) else (bif Nat.beq p 5 then some (1, 0, 0, 1, []) else none)) else (bif Nat.ble 1 p then (bif Nat.ble 4 p then (bif Nat.beq p 4 then some (0, 0, 1, 1, []) else none) else (bif Nat.beq p 1 then some (35, 0, 27, 3, []) else none)) else (bif Nat.beq p 0 then some (1, 0, 0, 1, []) else none))))))
def ca_X5_hearData (y : Nat) (as : List sl_V) (m : sl_M) : Option (sl_PL × sl_M) := bif Nat.ble 39 y then (bif Nat.ble 55 y then (bif Nat.ble 59 y then (bif Nat.beq y 59 then F_X9_add as m else none) else (bif Nat.beq y 55 then F_X8_inRing as m else none)) else (bif Nat.ble 54 y then (bif Nat.beq y 54 then F_X8_eachByItself as m else none) else (bif Nat.beq y 39 then F_X6_addPart as m else none))) else (bif Nat.ble 28 y then (bif Nat.ble 35 y then (bif Nat.beq y 35 then F_X6_hasRoom as m else none) else (bif Nat.beq y 28 then F_X5_takeHeld as m else none)) else (bif Nat.beq y 27 then F_X5_hold as m else none))
def sp_X5_hearData (p : Nat) : Bool := false
def mk_X5_hearData (p : Nat) : List Bool := []
def cl_X5_hearData (p : Nat) : Option sl_C := bif Nat.ble 82 p then none else (bif Nat.ble 69 p then (bif Nat.ble 76 p then (bif Nat.ble 81 p then (bif Nat.beq p 81 then some (39, 4, 0, 0, 0, 7) else none) else (bif Nat.beq p 76 then some (59, 2, 0, 0, 0, 10) else none)) else (bif Nat.ble 72 p then (bif Nat.beq p 72 then some (35, 2, 1, 0, 0, 7) else none) else (bif Nat.beq p 69 then some (28, 1, 0, 0, 0, 6) else none))) else (bif Nat.ble 61 p then (bif Nat.ble 65 p then (bif Nat.beq p 65 then some (27, 4, 0, 0, 0, 6) else none) else (bif Nat.beq p 61 then some (54, 1, 1, 0, 0, 9) else none)) else (bif Nat.beq p 55 then some (55, 2, 1, 0, 0, 9) else none)))
def R_X5_hearData (ca : Nat → List sl_V → sl_M → Option (sl_PL × sl_M)) : Nat → sl_S → sl_M → Option (sl_PL × sl_M) := sl_B tb_X5_hearData fl_X5 pf_X5 cl_X5_hearData nw_X5 sl_rd sl_wr sl_al sl_ln 0 (fun _ => 0) ca sp_X5_hearData mk_X5_hearData
def F_X5_hearData (as : List sl_V) (m : sl_M) : Option (sl_PL × sl_M) := R_X5_hearData ca_X5_hearData 100000 (0, sl_lo 6 as, []) m
def f_X5_hearData (this : Nat) (a0 : Int32) (a1 : Nat) (a2 : Int32) (m : sl_M) : Option (sl_PL × sl_M) := F_X5_hearData [.inr (.inl (some (5, this))), .inl a0, .inr (.inl (some (6, a1))), .inl a2] m
def r_X5_hearData_0 (ca : Nat → List sl_V → sl_M → Option (sl_PL × sl_M)) (n : Nat) (this : Nat) (a0 : Int32) (a1 : Nat) (a2 : Int32) (m : sl_M) : Option (sl_PL × sl_M) := R_X5_hearData ca n (0, sl_lo 6 [.inr (.inl (some (5, this))), .inl a0, .inr (.inl (some (6, a1))), .inl a2], []) m
set_option maxRecDepth 100000 in
theorem g_X5_hearData_0 (ca : Nat → List sl_V → sl_M → Option (sl_PL × sl_M)) (n : Nat) (this : Nat) (a0 : Int32) (a1 : Nat) (a2 : Int32) (m : sl_M) : r_X5_hearData_0 ca (n + 1) this a0 a1 a2 m =
  (ca 55 [.inr (.inl (some (8, 0))), .inl (a0 - (m.1 5 this 4))] m).bind (fun q1 =>
  (ca 54 [.inr (.inl (some (8, 0)))] q1.2).bind (fun q2 =>
  if q2.1.1 = 0 then
    (ca 35 [.inr (.inl (some (6, (6 + this)))), .inl a2] q2.2).bind (fun q3 =>
    if q1.1.1 = 0 then
      if q3.1.1 = 0 then
        (ca 59 [.inr (.inl (some (9, 0))), .inl (5 : Int32)] q3.2).bind (fun q4 =>
        if q1.1.1 = 0 then
          some (((0 : Int32), 0, 0), q4.2)
        else
          some (((1 : Int32), 0, 0), q4.2))
      else
        (ca 39 [.inr (.inl (some (6, (6 + this)))), .inr (.inl (some (6, a1))), .inl (1 : Int32), .inl a2] q3.2).bind (fun q5 =>
        some (((1 : Int32), 0, 0), (sl_up q5.2 5 this 4 ((q5.2.1 5 this 4) + (1 : Int32)))))
    else
      (ca 59 [.inr (.inl (some (9, 0))), .inl (5 : Int32)] q3.2).bind (fun q6 =>
      if q1.1.1 = 0 then
        some (((0 : Int32), 0, 0), q6.2)
      else
        some (((1 : Int32), 0, 0), q6.2)))
  else
    (ca 27 [.inr (.inl (some (5, this))), .inl q1.1.1, .inr (.inl (some (6, a1))), .inl a2] q2.2).bind (fun q7 =>
    (ca 28 [.inr (.inl (some (5, this)))] q7.2).bind (fun q8 =>
    some (((1 : Int32), 0, 0), q8.2))))) := by rfl
theorem cq_X5_hearData_X5_hold (this : Nat) (a0 : Int32) (a1 : Nat) (a2 : Int32) (m : sl_M) : ca_X5_hearData 27 [.inr (.inl (some (5, this))), .inl a0, .inr (.inl (some (6, a1))), .inl a2] m = f_X5_hold this a0 a1 a2 m := by
  unfold ca_X5_hearData f_X5_hold
  rw [show Nat.ble 39 27 = false from rfl, cond_false, show Nat.ble 28 27 = false from rfl, cond_false, show Nat.beq 27 27 = true from rfl, cond_true]
theorem cq_X5_hearData_X5_takeHeld (this : Nat) (m : sl_M) : ca_X5_hearData 28 [.inr (.inl (some (5, this)))] m = f_X5_takeHeld this m := by
  unfold ca_X5_hearData f_X5_takeHeld
  rw [show Nat.ble 39 28 = false from rfl, cond_false, show Nat.ble 28 28 = true from rfl, cond_true, show Nat.ble 35 28 = false from rfl, cond_false, show Nat.beq 28 28 = true from rfl, cond_true]
theorem cq_X5_hearData_X6_hasRoom (this : Nat) (a0 : Int32) (m : sl_M) : ca_X5_hearData 35 [.inr (.inl (some (6, this))), .inl a0] m = f_X6_hasRoom this a0 m := by
  unfold ca_X5_hearData f_X6_hasRoom
  rw [show Nat.ble 39 35 = false from rfl, cond_false, show Nat.ble 28 35 = true from rfl, cond_true, show Nat.ble 35 35 = true from rfl, cond_true, show Nat.beq 35 35 = true from rfl, cond_true]
theorem cq_X5_hearData_X6_addPart (this : Nat) (a0 : Nat) (a1 : Int32) (a2 : Int32) (m : sl_M) : ca_X5_hearData 39 [.inr (.inl (some (6, this))), .inr (.inl (some (6, a0))), .inl a1, .inl a2] m = f_X6_addPart this a0 a1 a2 m := by
  unfold ca_X5_hearData f_X6_addPart
  rw [show Nat.ble 39 39 = true from rfl, cond_true, show Nat.ble 55 39 = false from rfl, cond_false, show Nat.ble 54 39 = false from rfl, cond_false, show Nat.beq 39 39 = true from rfl, cond_true]
theorem cq_X5_hearData_X8_eachByItself  (m : sl_M) : ca_X5_hearData 54 [.inr (.inl (some (8, 0)))] m = f_X8_eachByItself m := by
  unfold ca_X5_hearData f_X8_eachByItself
  rw [show Nat.ble 39 54 = true from rfl, cond_true, show Nat.ble 55 54 = false from rfl, cond_false, show Nat.ble 54 54 = true from rfl, cond_true, show Nat.beq 54 54 = true from rfl, cond_true]
theorem cq_X5_hearData_X8_inRing (a0 : Int32) (m : sl_M) : ca_X5_hearData 55 [.inr (.inl (some (8, 0))), .inl a0] m = f_X8_inRing a0 m := by
  unfold ca_X5_hearData f_X8_inRing
  rw [show Nat.ble 39 55 = true from rfl, cond_true, show Nat.ble 55 55 = true from rfl, cond_true, show Nat.ble 59 55 = false from rfl, cond_false, show Nat.beq 55 55 = true from rfl, cond_true]
theorem cq_X5_hearData_X9_add (a0 : Int32) (m : sl_M) : ca_X5_hearData 59 [.inr (.inl (some (9, 0))), .inl a0] m = f_X9_add a0 m := by
  unfold ca_X5_hearData f_X9_add
  rw [show Nat.ble 39 59 = true from rfl, cond_true, show Nat.ble 55 59 = true from rfl, cond_true, show Nat.ble 59 59 = true from rfl, cond_true, show Nat.beq 59 59 = true from rfl, cond_true]
theorem e_X5_hearData (this : Nat) (a0 : Int32) (a1 : Nat) (a2 : Int32) (m : sl_M) : f_X5_hearData this a0 a1 a2 m =
  (f_X8_inRing (a0 - (m.1 5 this 4)) m).bind (fun q1 =>
  (f_X8_eachByItself q1.2).bind (fun q2 =>
  if q2.1.1 = 0 then
    (f_X6_hasRoom (6 + this) a2 q2.2).bind (fun q3 =>
    if q1.1.1 = 0 then
      if q3.1.1 = 0 then
        (f_X9_add (5 : Int32) q3.2).bind (fun q4 =>
        if q1.1.1 = 0 then
          some (((0 : Int32), 0, 0), q4.2)
        else
          some (((1 : Int32), 0, 0), q4.2))
      else
        (f_X6_addPart (6 + this) a1 (1 : Int32) a2 q3.2).bind (fun q5 =>
        some (((1 : Int32), 0, 0), (sl_up q5.2 5 this 4 ((q5.2.1 5 this 4) + (1 : Int32)))))
    else
      (f_X9_add (5 : Int32) q3.2).bind (fun q6 =>
      if q1.1.1 = 0 then
        some (((0 : Int32), 0, 0), q6.2)
      else
        some (((1 : Int32), 0, 0), q6.2)))
  else
    (f_X5_hold this q1.1.1 a1 a2 q2.2).bind (fun q7 =>
    (f_X5_takeHeld this q7.2).bind (fun q8 =>
    some (((1 : Int32), 0, 0), q8.2))))) := by
  have h := g_X5_hearData_0 ca_X5_hearData 99999 this a0 a1 a2 m
  simp only [cq_X5_hearData_X5_hold, cq_X5_hearData_X5_takeHeld, cq_X5_hearData_X6_hasRoom, cq_X5_hearData_X6_addPart, cq_X5_hearData_X8_eachByItself, cq_X5_hearData_X8_inRing, cq_X5_hearData_X9_add] at h
  exact h

def tb_X4_startBody (p : Nat) : Option sl_E := bif Nat.ble 26 p then none else (bif Nat.ble 14 p then (bif Nat.ble 20 p then (bif Nat.ble 22 p then (bif Nat.ble 25 p then (bif Nat.beq p 25 then some (48, 0, 6, 1, []) else none) else (bif Nat.beq p 22 then some (35, 0, 22, 3, []) else none)) else (bif Nat.ble 21 p then (bif Nat.beq p 21 then some (1, 0, 0, 1, []) else none) else (bif Nat.beq p 20 then some (21, 0, 0, 1, []) else none))) else (bif Nat.ble 16 p then (bif Nat.ble 17 p then (bif Nat.beq p 17 then some (46, 0, 51, 3, []) else none) else (bif Nat.beq p 16 then some (6, 0, 0, 1, []) else none)) else (bif Nat.ble 15 p then (bif Nat.beq p 15 then some (0, 0, 2, 1, []) else none) else (bif Nat.beq p 14 then some (8, 0, 0, 1, []) else none)))) else (bif Nat.ble 7 p then (bif Nat.ble 11 p then (bif Nat.ble 13 p then (bif Nat.beq p 13 then some (0, 0, 1, 1, []) else none) else (bif Nat.beq p 11 then some (2, 64, 0, 2, []) else none)) else (bif Nat.ble 8 p then (bif Nat.beq p 8 then some (35, 0, 22, 3, []) else none) else (bif Nat.beq p 7 then some (1, 0, 0, 1, []) else none))) else (bif Nat.ble 1 p then (bif Nat.ble 4 p then (bif Nat.beq p 4 then some (46, 0, 48, 3, []) else none) else (bif Nat.beq p 1 then some (35, 0, 22, 3, []) else none)) else (bif Nat.beq p 0 then some (1, 0, 0, 1, []) else none))))
def ca_X4_startBody (y : Nat) (as : List sl_V) (m : sl_M) : Option (sl_PL × sl_M) := bif Nat.ble 37 y then (bif Nat.beq y 37 then F_X6_add as m else none) else (bif Nat.beq y 33 then F_X6_clear as m else none)
def sp_X4_startBody (p : Nat) : Bool := false
def mk_X4_startBody (p : Nat) : List Bool := []
def cl_X4_startBody (p : Nat) : Option sl_C := bif Nat.ble 52 p then none else (bif Nat.ble 51 p then (bif Nat.beq p 51 then some (37, 2, 1, 0, 0, 7) else none) else (bif Nat.beq p 48 then some (33, 1, 0, 0, 0, 7) else none))
def R_X4_startBody (ca : Nat → List sl_V → sl_M → Option (sl_PL × sl_M)) : Nat → sl_S → sl_M → Option (sl_PL × sl_M) := sl_B tb_X4_startBody fl_X4 pf_X4 cl_X4_startBody nw_X4 sl_rd sl_wr sl_al sl_ln 0 (fun _ => 0) ca sp_X4_startBody mk_X4_startBody
def F_X4_startBody (as : List sl_V) (m : sl_M) : Option (sl_PL × sl_M) := R_X4_startBody ca_X4_startBody 100000 (0, sl_lo 3 as, []) m
def f_X4_startBody (this : Nat) (a0 : Int32) (a1 : Int32) (m : sl_M) : Option (sl_PL × sl_M) := F_X4_startBody [.inr (.inl (some (4, this))), .inl a0, .inl a1] m
def r_X4_startBody_0 (ca : Nat → List sl_V → sl_M → Option (sl_PL × sl_M)) (n : Nat) (this : Nat) (a0 : Int32) (a1 : Int32) (m : sl_M) : Option (sl_PL × sl_M) := R_X4_startBody ca n (0, sl_lo 3 [.inr (.inl (some (4, this))), .inl a0, .inl a1], []) m
set_option maxRecDepth 100000 in
theorem g_X4_startBody_0 (ca : Nat → List sl_V → sl_M → Option (sl_PL × sl_M)) (n : Nat) (this : Nat) (a0 : Int32) (a1 : Int32) (m : sl_M) : r_X4_startBody_0 ca (n + 1) this a0 a1 m =
  (ca 33 [.inr (.inl (some (6, (2 + this))))] m).bind (fun q1 =>
  (ca 37 [.inr (.inl (some (6, (2 + this)))), .inl (((64 : Int32) * a0) + a1)] q1.2).bind (fun q2 =>
  some ((0, (2 + this), 0), q2.2))) := by rfl
theorem cq_X4_startBody_X6_clear (this : Nat) (m : sl_M) : ca_X4_startBody 33 [.inr (.inl (some (6, this)))] m = f_X6_clear this m := by
  unfold ca_X4_startBody f_X6_clear
  rw [show Nat.ble 37 33 = false from rfl, cond_false, show Nat.beq 33 33 = true from rfl, cond_true]
theorem cq_X4_startBody_X6_add (this : Nat) (a0 : Int32) (m : sl_M) : ca_X4_startBody 37 [.inr (.inl (some (6, this))), .inl a0] m = f_X6_add this a0 m := by
  unfold ca_X4_startBody f_X6_add
  rw [show Nat.ble 37 37 = true from rfl, cond_true, show Nat.beq 37 37 = true from rfl, cond_true]
theorem e_X4_startBody (this : Nat) (a0 : Int32) (a1 : Int32) (m : sl_M) : f_X4_startBody this a0 a1 m =
  (f_X6_clear (2 + this) m).bind (fun q1 =>
  (f_X6_add (2 + this) (((64 : Int32) * a0) + a1) q1.2).bind (fun q2 =>
  some ((0, (2 + this), 0), q2.2))) := by
  have h := g_X4_startBody_0 ca_X4_startBody 99999 this a0 a1 m
  simp only [cq_X4_startBody_X6_clear, cq_X4_startBody_X6_add] at h
  exact h

def tb_X4_slot (p : Nat) : Option sl_E := bif Nat.ble 36 p then none else (bif Nat.ble 17 p then (bif Nat.ble 26 p then (bif Nat.ble 31 p then (bif Nat.ble 34 p then (bif Nat.ble 35 p then (bif Nat.beq p 35 then some (49, 0, 2, 1, []) else none) else (bif Nat.beq p 34 then some (51, 0, 0, 1, []) else none)) else (bif Nat.beq p 31 then some (34, 0, 35, 3, []) else none)) else (bif Nat.ble 29 p then (bif Nat.ble 30 p then (bif Nat.beq p 30 then some (39, 0, 0, 1, []) else none) else (bif Nat.beq p 29 then some (0, 0, 2, 1, []) else none)) else (bif Nat.beq p 26 then some (35, 0, 11, 3, []) else none))) else (bif Nat.ble 21 p then (bif Nat.ble 22 p then (bif Nat.ble 25 p then (bif Nat.beq p 25 then some (1, 0, 0, 1, []) else none) else (bif Nat.beq p 22 then some (25, 0, 34, 3, []) else none)) else (bif Nat.beq p 21 then some (45, 0, 0, 1, []) else none)) else (bif Nat.ble 18 p then (bif Nat.beq p 18 then some (35, 0, 11, 3, []) else none) else (bif Nat.beq p 17 then some (1, 0, 0, 1, []) else none)))) else (bif Nat.ble 8 p then (bif Nat.ble 12 p then (bif Nat.ble 13 p then (bif Nat.ble 16 p then (bif Nat.beq p 16 then some (0, 0, 2, 1, []) else none) else (bif Nat.beq p 13 then some (30, 0, 34, 3, []) else none)) else (bif Nat.beq p 12 then some (0, 0, 2, 1, []) else none)) else (bif Nat.ble 11 p then (bif Nat.beq p 11 then some (3, 0, 2, 1, []) else none) else (bif Nat.beq p 8 then some (46, 0, 42, 3, []) else none))) else (bif Nat.ble 4 p then (bif Nat.ble 5 p then (bif Nat.ble 6 p then (bif Nat.beq p 6 then some (2, 40, 0, 2, []) else none) else (bif Nat.beq p 5 then some (6, 0, 0, 1, []) else none)) else (bif Nat.beq p 4 then some (0, 0, 1, 1, []) else none)) else (bif Nat.ble 1 p then (bif Nat.beq p 1 then some (35, 0, 31, 3, []) else none) else (bif Nat.beq p 0 then some (1, 0, 0, 1, []) else none)))))
def ca_X4_slot (y : Nat) (as : List sl_V) (m : sl_M) : Option (sl_PL × sl_M) := bif Nat.beq y 134 then F_J9_floorMod_7cf53 as m else none
def sp_X4_slot (p : Nat) : Bool := false
def mk_X4_slot (p : Nat) : List Bool := []
def cl_X4_slot (p : Nat) : Option sl_C := bif Nat.ble 43 p then none else (bif Nat.beq p 42 then some (134, 2, 1, 0, 0, 0) else none)
def R_X4_slot (ca : Nat → List sl_V → sl_M → Option (sl_PL × sl_M)) : Nat → sl_S → sl_M → Option (sl_PL × sl_M) := sl_B tb_X4_slot fl_X4 pf_X4 cl_X4_slot nw_X4 sl_rd sl_wr sl_al sl_ln 0 (fun _ => 0) ca sp_X4_slot mk_X4_slot
def F_X4_slot (as : List sl_V) (m : sl_M) : Option (sl_PL × sl_M) := R_X4_slot ca_X4_slot 100000 (0, sl_lo 3 as, []) m
def f_X4_slot (this : Nat) (a0 : Int32) (m : sl_M) : Option (sl_PL × sl_M) := F_X4_slot [.inr (.inl (some (4, this))), .inl a0] m
def r_X4_slot_0 (ca : Nat → List sl_V → sl_M → Option (sl_PL × sl_M)) (n : Nat) (this : Nat) (a0 : Int32) (m : sl_M) : Option (sl_PL × sl_M) := R_X4_slot ca n (0, sl_lo 3 [.inr (.inl (some (4, this))), .inl a0], []) m
set_option maxRecDepth 100000 in
theorem g_X4_slot_0 (ca : Nat → List sl_V → sl_M → Option (sl_PL × sl_M)) (n : Nat) (this : Nat) (a0 : Int32) (m : sl_M) : r_X4_slot_0 ca (n + 1) this a0 m =
  (ca 134 [.inl ((m.1 4 this 3) + a0), .inl (40 : Int32)] m).bind (fun q1 =>
  if q1.1.1 < 0 then
    some ((0, 0, 1), q1.2)
  else
    if (Int32.ofNat 40) ≤ q1.1.1 then
      some ((0, 0, 1), q1.2)
    else
      if 0 ≤ q1.1.1 ∧ q1.1.1.toNatClampNeg < 40 then
      some ((0, (40 * this + q1.1.1.toNatClampNeg), 0), q1.2)
      else none) := by rfl
theorem cq_X4_slot_J9_floorMod_7cf53 (a0 : Int32) (a1 : Int32) (m : sl_M) : ca_X4_slot 134 [.inl a0, .inl a1] m = f_J9_floorMod_7cf53 a0 a1 m := by
  unfold ca_X4_slot f_J9_floorMod_7cf53
  rw [show Nat.beq 134 134 = true from rfl, cond_true]
theorem e_X4_slot (this : Nat) (a0 : Int32) (m : sl_M) : f_X4_slot this a0 m =
  (f_J9_floorMod_7cf53 ((m.1 4 this 3) + a0) (40 : Int32) m).bind (fun q1 =>
  if q1.1.1 < 0 then
    some ((0, 0, 1), q1.2)
  else
    if (Int32.ofNat 40) ≤ q1.1.1 then
      some ((0, 0, 1), q1.2)
    else
      if 0 ≤ q1.1.1 ∧ q1.1.1.toNatClampNeg < 40 then
      some ((0, (40 * this + q1.1.1.toNatClampNeg), 0), q1.2)
      else none) := by
  have h := g_X4_slot_0 ca_X4_slot 99999 this a0 m
  simp only [cq_X4_slot_J9_floorMod_7cf53] at h
  exact h

def tb_X4_lay (p : Nat) : Option sl_E := bif Nat.ble 176 p then none else (bif Nat.ble 84 p then (bif Nat.ble 129 p then (bif Nat.ble 152 p then (bif Nat.ble 166 p then (bif Nat.ble 171 p then (bif Nat.ble 174 p then (bif Nat.ble 175 p then (bif Nat.beq p 175 then some (50, 0, 0, 1, []) else none) else (bif Nat.beq p 174 then some (21, 0, 0, 1, []) else none)) else (bif Nat.beq p 171 then some (46, 0, 51, 3, []) else none)) else (bif Nat.ble 167 p then (bif Nat.ble 170 p then (bif Nat.beq p 170 then some (2, 0, 0, 1, []) else none) else (bif Nat.beq p 167 then some (35, 0, 85, 3, []) else none)) else (bif Nat.beq p 166 then some (1, 0, 2, 1, []) else none))) else (bif Nat.ble 159 p then (bif Nat.ble 160 p then (bif Nat.ble 163 p then (bif Nat.beq p 163 then some (46, 0, 88, 3, []) else none) else (bif Nat.beq p 160 then some (35, 0, 85, 3, []) else none)) else (bif Nat.beq p 159 then some (1, 0, 2, 1, []) else none)) else (bif Nat.ble 155 p then (bif Nat.ble 156 p then (bif Nat.beq p 156 then some (35, 0, 22, 3, []) else none) else (bif Nat.beq p 155 then some (1, 0, 0, 1, []) else none)) else (bif Nat.beq p 152 then some (34, 0, 127, 3, []) else none)))) else (bif Nat.ble 141 p then (bif Nat.ble 145 p then (bif Nat.ble 148 p then (bif Nat.ble 149 p then (bif Nat.beq p 149 then some (5, 1, 5, 3, []) else none) else (bif Nat.beq p 148 then some (21, 0, 0, 1, []) else none)) else (bif Nat.beq p 145 then some (46, 0, 51, 3, []) else none)) else (bif Nat.ble 143 p then (bif Nat.ble 144 p then (bif Nat.beq p 144 then some (16, 0, 0, 1, []) else none) else (bif Nat.beq p 143 then some (8, 0, 0, 1, []) else none)) else (bif Nat.beq p 141 then some (0, 0, 5, 2, []) else none))) else (bif Nat.ble 134 p then (bif Nat.ble 137 p then (bif Nat.ble 139 p then (bif Nat.beq p 139 then some (2, 8, 0, 2, []) else none) else (bif Nat.beq p 137 then some (0, 0, 4, 2, []) else none)) else (bif Nat.beq p 134 then some (35, 0, 22, 3, []) else none)) else (bif Nat.ble 130 p then (bif Nat.ble 133 p then (bif Nat.beq p 133 then some (1, 0, 0, 1, []) else none) else (bif Nat.beq p 130 then some (25, 0, 155, 3, []) else none)) else (bif Nat.beq p 129 then some (2, 4, 0, 1, []) else none))))) else (bif Nat.ble 104 p then (bif Nat.ble 116 p then (bif Nat.ble 124 p then (bif Nat.ble 125 p then (bif Nat.ble 127 p then (bif Nat.beq p 127 then some (0, 0, 5, 2, []) else none) else (bif Nat.beq p 125 then some (3, 0, 5, 2, []) else none)) else (bif Nat.beq p 124 then some (2, 0, 0, 1, []) else none)) else (bif Nat.ble 119 p then (bif Nat.ble 122 p then (bif Nat.beq p 122 then some (3, 0, 4, 2, []) else none) else (bif Nat.beq p 119 then some (46, 0, 79, 3, []) else none)) else (bif Nat.beq p 116 then some (35, 0, 69, 3, []) else none))) else (bif Nat.ble 109 p then (bif Nat.ble 112 p then (bif Nat.ble 113 p then (bif Nat.beq p 113 then some (35, 0, 22, 3, []) else none) else (bif Nat.beq p 112 then some (1, 0, 0, 1, []) else none)) else (bif Nat.beq p 109 then some (35, 0, 22, 3, []) else none)) else (bif Nat.ble 105 p then (bif Nat.ble 108 p then (bif Nat.beq p 108 then some (1, 0, 0, 1, []) else none) else (bif Nat.beq p 105 then some (36, 0, 75, 3, []) else none)) else (bif Nat.beq p 104 then some (0, 0, 1, 1, []) else none)))) else (bif Nat.ble 92 p then (bif Nat.ble 99 p then (bif Nat.ble 100 p then (bif Nat.ble 103 p then (bif Nat.beq p 103 then some (1, 0, 2, 1, []) else none) else (bif Nat.beq p 100 then some (36, 0, 72, 3, []) else none)) else (bif Nat.beq p 99 then some (7, 0, 0, 1, []) else none)) else (bif Nat.ble 95 p then (bif Nat.ble 98 p then (bif Nat.beq p 98 then some (2, 1, 0, 1, []) else none) else (bif Nat.beq p 95 then some (35, 0, 69, 3, []) else none)) else (bif Nat.beq p 92 then some (35, 0, 22, 3, []) else none))) else (bif Nat.ble 87 p then (bif Nat.ble 90 p then (bif Nat.ble 91 p then (bif Nat.beq p 91 then some (1, 0, 0, 1, []) else none) else (bif Nat.beq p 90 then some (1, 0, 2, 1, []) else none)) else (bif Nat.beq p 87 then some (36, 0, 66, 3, []) else none)) else (bif Nat.ble 86 p then (bif Nat.beq p 86 then some (10, 0, 0, 1, []) else none) else (bif Nat.beq p 84 then some (2, 64, 0, 2, []) else none)))))) else (bif Nat.ble 46 p then (bif Nat.ble 65 p then (bif Nat.ble 75 p then (bif Nat.ble 79 p then (bif Nat.ble 82 p then (bif Nat.ble 83 p then (bif Nat.beq p 83 then some (0, 0, 3, 1, []) else none) else (bif Nat.beq p 82 then some (1, 0, 2, 1, []) else none)) else (bif Nat.beq p 79 then some (36, 0, 63, 3, []) else none)) else (bif Nat.ble 76 p then (bif Nat.ble 78 p then (bif Nat.beq p 78 then some (9, 0, 0, 1, []) else none) else (bif Nat.beq p 76 then some (2, 64, 0, 2, []) else none)) else (bif Nat.beq p 75 then some (0, 0, 3, 1, []) else none))) else (bif Nat.ble 70 p then (bif Nat.ble 73 p then (bif Nat.ble 74 p then (bif Nat.beq p 74 then some (1, 0, 2, 1, []) else none) else (bif Nat.beq p 73 then some (3, 0, 3, 1, []) else none)) else (bif Nat.beq p 70 then some (46, 0, 59, 3, []) else none)) else (bif Nat.ble 66 p then (bif Nat.ble 69 p then (bif Nat.beq p 69 then some (2, 0, 0, 1, []) else none) else (bif Nat.beq p 66 then some (35, 0, 22, 3, []) else none)) else (bif Nat.beq p 65 then some (1, 0, 0, 1, []) else none)))) else (bif Nat.ble 55 p then (bif Nat.ble 60 p then (bif Nat.ble 61 p then (bif Nat.ble 62 p then (bif Nat.beq p 62 then some (36, 0, 35, 3, []) else none) else (bif Nat.beq p 61 then some (6, 0, 0, 1, []) else none)) else (bif Nat.beq p 60 then some (2, 1, 0, 1, []) else none)) else (bif Nat.ble 56 p then (bif Nat.ble 57 p then (bif Nat.beq p 57 then some (35, 0, 35, 3, []) else none) else (bif Nat.beq p 56 then some (19, 0, 0, 1, []) else none)) else (bif Nat.beq p 55 then some (1, 0, 0, 1, []) else none))) else (bif Nat.ble 50 p then (bif Nat.ble 51 p then (bif Nat.ble 54 p then (bif Nat.beq p 54 then some (50, 0, 0, 1, []) else none) else (bif Nat.beq p 51 then some (46, 0, 55, 3, []) else none)) else (bif Nat.beq p 50 then some (2, 2, 0, 1, []) else none)) else (bif Nat.ble 47 p then (bif Nat.beq p 47 then some (35, 0, 26, 3, []) else none) else (bif Nat.beq p 46 then some (1, 0, 0, 1, []) else none))))) else (bif Nat.ble 21 p then (bif Nat.ble 34 p then (bif Nat.ble 41 p then (bif Nat.ble 42 p then (bif Nat.ble 43 p then (bif Nat.beq p 43 then some (53, 0, 55, 3, []) else none) else (bif Nat.beq p 42 then some (1, 0, 2, 1, []) else none)) else (bif Nat.beq p 41 then some (4, 0, 2, 1, []) else none)) else (bif Nat.ble 37 p then (bif Nat.ble 40 p then (bif Nat.beq p 40 then some (51, 0, 0, 1, []) else none) else (bif Nat.beq p 37 then some (34, 0, 41, 3, []) else none)) else (bif Nat.beq p 34 then some (46, 0, 38, 3, []) else none))) else (bif Nat.ble 29 p then (bif Nat.ble 30 p then (bif Nat.ble 31 p then (bif Nat.beq p 31 then some (35, 0, 35, 3, []) else none) else (bif Nat.beq p 30 then some (1, 0, 0, 1, []) else none)) else (bif Nat.beq p 29 then some (1, 0, 0, 1, []) else none)) else (bif Nat.ble 24 p then (bif Nat.ble 26 p then (bif Nat.beq p 26 then some (25, 0, 40, 3, []) else none) else (bif Nat.beq p 24 then some (2, 40, 0, 2, []) else none)) else (bif Nat.beq p 21 then some (35, 0, 35, 3, []) else none)))) else (bif Nat.ble 9 p then (bif Nat.ble 16 p then (bif Nat.ble 17 p then (bif Nat.ble 20 p then (bif Nat.beq p 20 then some (1, 0, 0, 1, []) else none) else (bif Nat.beq p 17 then some (46, 0, 55, 3, []) else none)) else (bif Nat.beq p 16 then some (2, 1, 0, 1, []) else none)) else (bif Nat.ble 12 p then (bif Nat.ble 13 p then (bif Nat.beq p 13 then some (35, 0, 26, 3, []) else none) else (bif Nat.beq p 12 then some (1, 0, 0, 1, []) else none)) else (bif Nat.beq p 9 then some (28, 0, 20, 3, []) else none))) else (bif Nat.ble 4 p then (bif Nat.ble 5 p then (bif Nat.ble 8 p then (bif Nat.beq p 8 then some (0, 0, 1, 1, []) else none) else (bif Nat.beq p 5 then some (46, 0, 55, 3, []) else none)) else (bif Nat.beq p 4 then some (2, 0, 0, 1, []) else none)) else (bif Nat.ble 1 p then (bif Nat.beq p 1 then some (35, 0, 26, 3, []) else none) else (bif Nat.beq p 0 then some (1, 0, 0, 1, []) else none)))))))
def ca_X4_lay (y : Nat) (as : List sl_V) (m : sl_M) : Option (sl_PL × sl_M) := bif Nat.ble 36 y then (bif Nat.ble 37 y then (bif Nat.ble 59 y then (bif Nat.beq y 59 then F_X9_add as m else none) else (bif Nat.beq y 37 then F_X6_add as m else none)) else (bif Nat.beq y 36 then F_X6_at as m else none)) else (bif Nat.ble 1 y then (bif Nat.ble 20 y then (bif Nat.beq y 20 then F_X4_slot as m else none) else (bif Nat.beq y 1 then F_X0_pack as m else none)) else (bif Nat.beq y 0 then F_X0_checkOf as m else none))
def sp_X4_lay (p : Nat) : Bool := Nat.beq p 127
def mk_X4_lay (p : Nat) : List Bool := bif Nat.beq p 127 then [true, false, true, false, true, true] else []
def cl_X4_lay (p : Nat) : Option sl_C := bif Nat.ble 89 p then none else (bif Nat.ble 59 p then (bif Nat.ble 79 p then (bif Nat.ble 88 p then (bif Nat.beq p 88 then some (1, 2, 0, 0, 0, 0) else none) else (bif Nat.beq p 79 then some (0, 2, 1, 0, 0, 0) else none)) else (bif Nat.beq p 59 then some (36, 2, 1, 0, 0, 7) else none)) else (bif Nat.ble 51 p then (bif Nat.ble 55 p then (bif Nat.beq p 55 then some (59, 2, 0, 0, 0, 10) else none) else (bif Nat.beq p 51 then some (37, 2, 1, 0, 0, 7) else none)) else (bif Nat.beq p 38 then some (20, 2, 3, 2, 0, 5) else none)))
def R_X4_lay (ca : Nat → List sl_V → sl_M → Option (sl_PL × sl_M)) : Nat → sl_S → sl_M → Option (sl_PL × sl_M) := sl_B tb_X4_lay fl_X4 pf_X4 cl_X4_lay nw_X4 sl_rd sl_wr sl_al sl_ln 0 (fun _ => 0) ca sp_X4_lay mk_X4_lay
def F_X4_lay (as : List sl_V) (m : sl_M) : Option (sl_PL × sl_M) := R_X4_lay ca_X4_lay 100000 (0, sl_lo 6 as, []) m
def f_X4_lay (this : Nat) (a0 : Int32) (m : sl_M) : Option (sl_PL × sl_M) := F_X4_lay [.inr (.inl (some (4, this))), .inl a0] m
def r_X4_lay_0 (ca : Nat → List sl_V → sl_M → Option (sl_PL × sl_M)) (n : Nat) (this : Nat) (a0 : Int32) (m : sl_M) : Option (sl_PL × sl_M) := R_X4_lay ca n (0, sl_lo 6 [.inr (.inl (some (4, this))), .inl a0], []) m
def r_X4_lay_127 (ca : Nat → List sl_V → sl_M → Option (sl_PL × sl_M)) (n : Nat) (v0 : Nat) (v2 : Nat) (v4 : Int32) (v5 : Int32) (m : sl_M) : Option (sl_PL × sl_M) := R_X4_lay ca n (127, [some (.inr (.inl (some (4, v0)))), none, some (.inr (.inl (some (2, v2)))), none, some (.inl v4), some (.inl v5)], []) m
def b_X4_lay_127 (n : Nat) (v0 : Nat) (v2 : Nat) (v4 : Int32) (v5 : Int32) (m : sl_M) : Option (sl_PL × sl_M) := r_X4_lay_127 ca_X4_lay n v0 v2 v4 v5 m
set_option maxRecDepth 100000 in
theorem g_X4_lay_0 (ca : Nat → List sl_V → sl_M → Option (sl_PL × sl_M)) (n : Nat) (this : Nat) (a0 : Int32) (m : sl_M) : r_X4_lay_0 ca (n + 1) this a0 m =
  (ca 59 [.inr (.inl (some (9, 0))), .inl (0 : Int32)] m).bind (fun q1 =>
  if a0 = 0 then
    if (40 : Int32) ≤ (q1.2.1 4 this 4) then
      (ca 59 [.inr (.inl (some (9, 0))), .inl (2 : Int32)] q1.2).bind (fun q2 =>
      some ((0, 0, 0), q2.2))
    else
      (ca 20 [.inr (.inl (some (4, this))), .inl (q1.2.1 4 this 4)] q1.2).bind (fun q3 =>
      if q3.1.2.2 = 1 then
        (ca 59 [.inr (.inl (some (9, 0))), .inl (2 : Int32)] q3.2).bind (fun q4 =>
        some ((0, 0, 0), q4.2))
      else
        (ca 36 [.inr (.inl (some (6, (2 + this)))), .inl (0 : Int32)] (sl_up q3.2 4 this 4 ((q3.2.1 4 this 4) + (1 : Int32)))).bind (fun q5 =>
        if a0 = 0 ∨ a0 = 1 then
          (ca 0 [.inr (.inl (some (6, (2 + this)))), .inl (q5.2.1 6 (2 + this) 1)] (sl_up (sl_up (sl_up (sl_up q5.2 2 q3.1.2.1 1 (q5.1.1 / (64 : Int32))) 2 q3.1.2.1 2 (q5.1.1 - q5.1.1 / (64 : Int32) * (64 : Int32))) 2 q3.1.2.1 3 ((q5.2.1 6 (2 + this) 1) - (1 : Int32))) 2 q3.1.2.1 4 a0)).bind (fun q6 =>
          r_X4_lay_127 ca n this q3.1.2.1 q6.1.1 (0 : Int32) q6.2)
        else none))
  else
    (ca 59 [.inr (.inl (some (9, 0))), .inl (1 : Int32)] q1.2).bind (fun q7 =>
    if (40 : Int32) ≤ (q7.2.1 4 this 4) then
      (ca 59 [.inr (.inl (some (9, 0))), .inl (2 : Int32)] q7.2).bind (fun q8 =>
      some ((0, 0, 0), q8.2))
    else
      (ca 20 [.inr (.inl (some (4, this))), .inl (q7.2.1 4 this 4)] q7.2).bind (fun q9 =>
      if q9.1.2.2 = 1 then
        (ca 59 [.inr (.inl (some (9, 0))), .inl (2 : Int32)] q9.2).bind (fun q10 =>
        some ((0, 0, 0), q10.2))
      else
        (ca 36 [.inr (.inl (some (6, (2 + this)))), .inl (0 : Int32)] (sl_up q9.2 4 this 4 ((q9.2.1 4 this 4) + (1 : Int32)))).bind (fun q11 =>
        if a0 = 0 ∨ a0 = 1 then
          (ca 0 [.inr (.inl (some (6, (2 + this)))), .inl (q11.2.1 6 (2 + this) 1)] (sl_up (sl_up (sl_up (sl_up q11.2 2 q9.1.2.1 1 (q11.1.1 / (64 : Int32))) 2 q9.1.2.1 2 (q11.1.1 - q11.1.1 / (64 : Int32) * (64 : Int32))) 2 q9.1.2.1 3 ((q11.2.1 6 (2 + this) 1) - (1 : Int32))) 2 q9.1.2.1 4 a0)).bind (fun q12 =>
          r_X4_lay_127 ca n this q9.1.2.1 q12.1.1 (0 : Int32) q12.2)
        else none)))) := by rfl
set_option maxRecDepth 100000 in
theorem g_X4_lay_127 (ca : Nat → List sl_V → sl_M → Option (sl_PL × sl_M)) (n : Nat) (v0 : Nat) (v2 : Nat) (v4 : Int32) (v5 : Int32) (m : sl_M) : r_X4_lay_127 ca (n + 1) v0 v2 v4 v5 m =
  if (4 : Int32) ≤ v5 then
    (ca 1 [.inr (.inl (some (6, (2 + v0)))), .inr (.inl (some (6, (14 + v2))))] m).bind (fun q1 =>
    (ca 37 [.inr (.inl (some (6, (14 + v2)))), .inl (0 : Int32)] q1.2).bind (fun q2 =>
    some ((0, 0, 0), q2.2)))
  else
    (ca 37 [.inr (.inl (some (6, (2 + v0)))), .inl (sl_ush v4 ((8 : Int32) * v5))] m).bind (fun q3 =>
    r_X4_lay_127 ca n v0 v2 v4 (v5 + (1 : Int32)) q3.2) := by rfl
theorem cq_X4_lay_X0_checkOf (a0 : Nat) (a1 : Int32) (m : sl_M) : ca_X4_lay 0 [.inr (.inl (some (6, a0))), .inl a1] m = f_X0_checkOf a0 a1 m := by
  unfold ca_X4_lay f_X0_checkOf
  rw [show Nat.ble 36 0 = false from rfl, cond_false, show Nat.ble 1 0 = false from rfl, cond_false, show Nat.beq 0 0 = true from rfl, cond_true]
theorem cq_X4_lay_X0_pack (a0 : Nat) (a1 : Nat) (m : sl_M) : ca_X4_lay 1 [.inr (.inl (some (6, a0))), .inr (.inl (some (6, a1)))] m = f_X0_pack a0 a1 m := by
  unfold ca_X4_lay f_X0_pack
  rw [show Nat.ble 36 1 = false from rfl, cond_false, show Nat.ble 1 1 = true from rfl, cond_true, show Nat.ble 20 1 = false from rfl, cond_false, show Nat.beq 1 1 = true from rfl, cond_true]
theorem cq_X4_lay_X4_slot (this : Nat) (a0 : Int32) (m : sl_M) : ca_X4_lay 20 [.inr (.inl (some (4, this))), .inl a0] m = f_X4_slot this a0 m := by
  unfold ca_X4_lay f_X4_slot
  rw [show Nat.ble 36 20 = false from rfl, cond_false, show Nat.ble 1 20 = true from rfl, cond_true, show Nat.ble 20 20 = true from rfl, cond_true, show Nat.beq 20 20 = true from rfl, cond_true]
theorem cq_X4_lay_X6_at (this : Nat) (a0 : Int32) (m : sl_M) : ca_X4_lay 36 [.inr (.inl (some (6, this))), .inl a0] m = f_X6_at this a0 m := by
  unfold ca_X4_lay f_X6_at
  rw [show Nat.ble 36 36 = true from rfl, cond_true, show Nat.ble 37 36 = false from rfl, cond_false, show Nat.beq 36 36 = true from rfl, cond_true]
theorem cq_X4_lay_X6_add (this : Nat) (a0 : Int32) (m : sl_M) : ca_X4_lay 37 [.inr (.inl (some (6, this))), .inl a0] m = f_X6_add this a0 m := by
  unfold ca_X4_lay f_X6_add
  rw [show Nat.ble 36 37 = true from rfl, cond_true, show Nat.ble 37 37 = true from rfl, cond_true, show Nat.ble 59 37 = false from rfl, cond_false, show Nat.beq 37 37 = true from rfl, cond_true]
theorem cq_X4_lay_X9_add (a0 : Int32) (m : sl_M) : ca_X4_lay 59 [.inr (.inl (some (9, 0))), .inl a0] m = f_X9_add a0 m := by
  unfold ca_X4_lay f_X9_add
  rw [show Nat.ble 36 59 = true from rfl, cond_true, show Nat.ble 37 59 = true from rfl, cond_true, show Nat.ble 59 59 = true from rfl, cond_true, show Nat.beq 59 59 = true from rfl, cond_true]
theorem bq_X4_lay_127 (n : Nat) (v0 : Nat) (v2 : Nat) (v4 : Int32) (v5 : Int32) (m : sl_M) : r_X4_lay_127 ca_X4_lay n v0 v2 v4 v5 m = b_X4_lay_127 n v0 v2 v4 v5 m := rfl
theorem e_X4_lay (this : Nat) (a0 : Int32) (m : sl_M) : f_X4_lay this a0 m =
  (f_X9_add (0 : Int32) m).bind (fun q1 =>
  if a0 = 0 then
    if (40 : Int32) ≤ (q1.2.1 4 this 4) then
      (f_X9_add (2 : Int32) q1.2).bind (fun q2 =>
      some ((0, 0, 0), q2.2))
    else
      (f_X4_slot this (q1.2.1 4 this 4) q1.2).bind (fun q3 =>
      if q3.1.2.2 = 1 then
        (f_X9_add (2 : Int32) q3.2).bind (fun q4 =>
        some ((0, 0, 0), q4.2))
      else
        (f_X6_at (2 + this) (0 : Int32) (sl_up q3.2 4 this 4 ((q3.2.1 4 this 4) + (1 : Int32)))).bind (fun q5 =>
        if a0 = 0 ∨ a0 = 1 then
          (f_X0_checkOf (2 + this) (q5.2.1 6 (2 + this) 1) (sl_up (sl_up (sl_up (sl_up q5.2 2 q3.1.2.1 1 (q5.1.1 / (64 : Int32))) 2 q3.1.2.1 2 (q5.1.1 - q5.1.1 / (64 : Int32) * (64 : Int32))) 2 q3.1.2.1 3 ((q5.2.1 6 (2 + this) 1) - (1 : Int32))) 2 q3.1.2.1 4 a0)).bind (fun q6 =>
          b_X4_lay_127 99999 this q3.1.2.1 q6.1.1 (0 : Int32) q6.2)
        else none))
  else
    (f_X9_add (1 : Int32) q1.2).bind (fun q7 =>
    if (40 : Int32) ≤ (q7.2.1 4 this 4) then
      (f_X9_add (2 : Int32) q7.2).bind (fun q8 =>
      some ((0, 0, 0), q8.2))
    else
      (f_X4_slot this (q7.2.1 4 this 4) q7.2).bind (fun q9 =>
      if q9.1.2.2 = 1 then
        (f_X9_add (2 : Int32) q9.2).bind (fun q10 =>
        some ((0, 0, 0), q10.2))
      else
        (f_X6_at (2 + this) (0 : Int32) (sl_up q9.2 4 this 4 ((q9.2.1 4 this 4) + (1 : Int32)))).bind (fun q11 =>
        if a0 = 0 ∨ a0 = 1 then
          (f_X0_checkOf (2 + this) (q11.2.1 6 (2 + this) 1) (sl_up (sl_up (sl_up (sl_up q11.2 2 q9.1.2.1 1 (q11.1.1 / (64 : Int32))) 2 q9.1.2.1 2 (q11.1.1 - q11.1.1 / (64 : Int32) * (64 : Int32))) 2 q9.1.2.1 3 ((q11.2.1 6 (2 + this) 1) - (1 : Int32))) 2 q9.1.2.1 4 a0)).bind (fun q12 =>
          b_X4_lay_127 99999 this q9.1.2.1 q12.1.1 (0 : Int32) q12.2)
        else none)))) := by
  have h := g_X4_lay_0 ca_X4_lay 99999 this a0 m
  simp only [cq_X4_lay_X0_checkOf, cq_X4_lay_X0_pack, cq_X4_lay_X4_slot, cq_X4_lay_X6_at, cq_X4_lay_X6_add, cq_X4_lay_X9_add, bq_X4_lay_127] at h
  exact h
theorem e_X4_lay_127 (n : Nat) (v0 : Nat) (v2 : Nat) (v4 : Int32) (v5 : Int32) (m : sl_M) : b_X4_lay_127 (n + 1) v0 v2 v4 v5 m =
  if (4 : Int32) ≤ v5 then
    (f_X0_pack (2 + v0) (14 + v2) m).bind (fun q1 =>
    (f_X6_add (14 + v2) (0 : Int32) q1.2).bind (fun q2 =>
    some ((0, 0, 0), q2.2)))
  else
    (f_X6_add (2 + v0) (sl_ush v4 ((8 : Int32) * v5)) m).bind (fun q3 =>
    b_X4_lay_127 n v0 v2 v4 (v5 + (1 : Int32)) q3.2) := by
  have h := g_X4_lay_127 ca_X4_lay n v0 v2 v4 v5 m
  simp only [cq_X4_lay_X0_checkOf, cq_X4_lay_X0_pack, cq_X4_lay_X4_slot, cq_X4_lay_X6_at, cq_X4_lay_X6_add, cq_X4_lay_X9_add, bq_X4_lay_127] at h
  exact h
