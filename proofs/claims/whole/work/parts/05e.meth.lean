def tb_X10_tick (p : Nat) : Option sl_E := bif Nat.ble 5 p then none else (bif Nat.ble 1 p then (bif Nat.ble 4 p then (bif Nat.beq p 4 then some (47, 0, 1, 1, []) else none) else (bif Nat.beq p 1 then some (46, 0, 121, 3, []) else none)) else (bif Nat.beq p 0 then some (1, 0, 0, 1, []) else none))
def ca_X10_tick (y : Nat) (as : List sl_V) (m : sl_M) : Option (sl_PL × sl_M) := bif Nat.beq y 69 then F_X10_tickBoth as m else none
def sp_X10_tick (p : Nat) : Bool := false
def mk_X10_tick (p : Nat) : List Bool := []
def cl_X10_tick (p : Nat) : Option sl_C := bif Nat.ble 122 p then none else (bif Nat.beq p 121 then some (69, 1, 1, 0, 0, 11) else none)
def R_X10_tick (ca : Nat → List sl_V → sl_M → Option (sl_PL × sl_M)) : Nat → sl_S → sl_M → Option (sl_PL × sl_M) := sl_B tb_X10_tick fl_X10 pf_X10 cl_X10_tick nw_X10 sl_rd sl_wr sl_al sl_ln 0 (fun _ => 0) ca sp_X10_tick mk_X10_tick
def F_X10_tick (as : List sl_V) (m : sl_M) : Option (sl_PL × sl_M) := R_X10_tick ca_X10_tick 100000 (0, sl_lo 1 as, []) m
def f_X10_tick  (m : sl_M) : Option (sl_PL × sl_M) := F_X10_tick [.inr (.inl (some (10, 0)))] m
def r_X10_tick_0 (ca : Nat → List sl_V → sl_M → Option (sl_PL × sl_M)) (n : Nat)  (m : sl_M) : Option (sl_PL × sl_M) := R_X10_tick ca n (0, sl_lo 1 [.inr (.inl (some (10, 0)))], []) m
set_option maxRecDepth 100000 in
theorem g_X10_tick_0 (ca : Nat → List sl_V → sl_M → Option (sl_PL × sl_M)) (n : Nat)  (m : sl_M) : r_X10_tick_0 ca (n + 1) m =
  (ca 69 [.inr (.inl (some (10, 0)))] m).bind (fun q1 =>
  some ((q1.1.1, 0, 0), q1.2)) := by rfl
theorem cq_X10_tick_X10_tickBoth  (m : sl_M) : ca_X10_tick 69 [.inr (.inl (some (10, 0)))] m = f_X10_tickBoth m := by
  unfold ca_X10_tick f_X10_tickBoth
  rw [show Nat.beq 69 69 = true from rfl, cond_true]
theorem e_X10_tick  (m : sl_M) : f_X10_tick m =
  (f_X10_tickBoth m).bind (fun q1 =>
  some ((q1.1.1, 0, 0), q1.2)) := by
  have h := g_X10_tick_0 ca_X10_tick 99999 m
  simp only [cq_X10_tick_X10_tickBoth] at h
  exact h

def tb_X10_canCarry (p : Nat) : Option sl_E := bif Nat.ble 69 p then none else (bif Nat.ble 35 p then (bif Nat.ble 51 p then (bif Nat.ble 62 p then (bif Nat.ble 66 p then (bif Nat.ble 67 p then (bif Nat.ble 68 p then (bif Nat.beq p 68 then some (47, 0, 2, 1, []) else none) else (bif Nat.beq p 67 then some (2, 1, 0, 1, []) else none)) else (bif Nat.beq p 66 then some (47, 0, 2, 1, []) else none)) else (bif Nat.ble 65 p then (bif Nat.beq p 65 then some (2, 0, 0, 1, []) else none) else (bif Nat.beq p 62 then some (34, 0, 66, 3, []) else none))) else (bif Nat.ble 55 p then (bif Nat.ble 58 p then (bif Nat.ble 61 p then (bif Nat.beq p 61 then some (2, 1, 0, 1, []) else none) else (bif Nat.beq p 58 then some (25, 0, 65, 3, []) else none)) else (bif Nat.beq p 55 then some (35, 0, 87, 3, []) else none)) else (bif Nat.ble 52 p then (bif Nat.beq p 52 then some (35, 0, 145, 3, []) else none) else (bif Nat.beq p 51 then some (1, 0, 0, 1, []) else none)))) else (bif Nat.ble 42 p then (bif Nat.ble 46 p then (bif Nat.ble 47 p then (bif Nat.ble 50 p then (bif Nat.beq p 50 then some (0, 0, 2, 1, []) else none) else (bif Nat.beq p 47 then some (30, 0, 65, 3, []) else none)) else (bif Nat.beq p 46 then some (0, 0, 2, 1, []) else none)) else (bif Nat.ble 43 p then (bif Nat.beq p 43 then some (23, 0, 67, 3, []) else none) else (bif Nat.beq p 42 then some (2, 4, 0, 1, []) else none))) else (bif Nat.ble 39 p then (bif Nat.ble 40 p then (bif Nat.ble 41 p then (bif Nat.beq p 41 then some (0, 0, 1, 1, []) else none) else (bif Nat.beq p 40 then some (47, 0, 2, 1, []) else none)) else (bif Nat.beq p 39 then some (2, 0, 0, 1, []) else none)) else (bif Nat.ble 36 p then (bif Nat.beq p 36 then some (34, 0, 40, 3, []) else none) else (bif Nat.beq p 35 then some (2, 1, 0, 1, []) else none))))) else (bif Nat.ble 13 p then (bif Nat.ble 24 p then (bif Nat.ble 26 p then (bif Nat.ble 29 p then (bif Nat.ble 32 p then (bif Nat.beq p 32 then some (25, 0, 39, 3, []) else none) else (bif Nat.beq p 29 then some (35, 0, 87, 3, []) else none)) else (bif Nat.beq p 26 then some (35, 0, 145, 3, []) else none)) else (bif Nat.ble 25 p then (bif Nat.beq p 25 then some (1, 0, 0, 1, []) else none) else (bif Nat.beq p 24 then some (9, 0, 0, 1, []) else none))) else (bif Nat.ble 17 p then (bif Nat.ble 20 p then (bif Nat.ble 21 p then (bif Nat.beq p 21 then some (2, 256, 0, 3, []) else none) else (bif Nat.beq p 20 then some (0, 0, 2, 1, []) else none)) else (bif Nat.beq p 17 then some (30, 0, 39, 3, []) else none)) else (bif Nat.ble 16 p then (bif Nat.beq p 16 then some (0, 0, 2, 1, []) else none) else (bif Nat.beq p 13 then some (23, 0, 41, 3, []) else none)))) else (bif Nat.ble 6 p then (bif Nat.ble 10 p then (bif Nat.ble 11 p then (bif Nat.ble 12 p then (bif Nat.beq p 12 then some (2, 3, 0, 1, []) else none) else (bif Nat.beq p 11 then some (0, 0, 1, 1, []) else none)) else (bif Nat.beq p 10 then some (47, 0, 2, 1, []) else none)) else (bif Nat.ble 9 p then (bif Nat.beq p 9 then some (2, 0, 0, 1, []) else none) else (bif Nat.beq p 6 then some (27, 0, 11, 3, []) else none))) else (bif Nat.ble 4 p then (bif Nat.ble 5 p then (bif Nat.beq p 5 then some (2, 5, 0, 1, []) else none) else (bif Nat.beq p 4 then some (0, 0, 1, 1, []) else none)) else (bif Nat.ble 1 p then (bif Nat.beq p 1 then some (30, 0, 9, 3, []) else none) else (bif Nat.beq p 0 then some (0, 0, 1, 1, []) else none))))))
def ca_X10_canCarry (y : Nat) (as : List sl_V) (m : sl_M) : Option (sl_PL × sl_M) := none
def sp_X10_canCarry (p : Nat) : Bool := false
def mk_X10_canCarry (p : Nat) : List Bool := []
def cl_X10_canCarry (p : Nat) : Option sl_C := none
def R_X10_canCarry (ca : Nat → List sl_V → sl_M → Option (sl_PL × sl_M)) : Nat → sl_S → sl_M → Option (sl_PL × sl_M) := sl_B tb_X10_canCarry fl_X10 pf_X10 cl_X10_canCarry nw_X10 sl_rd sl_wr sl_al sl_ln 0 (fun _ => 0) ca sp_X10_canCarry mk_X10_canCarry
def F_X10_canCarry (as : List sl_V) (m : sl_M) : Option (sl_PL × sl_M) := R_X10_canCarry ca_X10_canCarry 100000 (0, sl_lo 3 as, []) m
def f_X10_canCarry (a0 : Nat) (a1 : Int32) (a2 : Int32) (m : sl_M) : Option (sl_PL × sl_M) := F_X10_canCarry [.inr (.inl (some (2, a0))), .inl a1, .inl a2] m
def r_X10_canCarry_0 (ca : Nat → List sl_V → sl_M → Option (sl_PL × sl_M)) (n : Nat) (a0 : Nat) (a1 : Int32) (a2 : Int32) (m : sl_M) : Option (sl_PL × sl_M) := R_X10_canCarry ca n (0, sl_lo 3 [.inr (.inl (some (2, a0))), .inl a1, .inl a2], []) m
set_option maxRecDepth 100000 in
theorem g_X10_canCarry_0 (ca : Nat → List sl_V → sl_M → Option (sl_PL × sl_M)) (n : Nat) (a0 : Nat) (a1 : Int32) (a2 : Int32) (m : sl_M) : r_X10_canCarry_0 ca (n + 1) a0 a1 a2 m =
  if a1 < 0 then
    some (((0 : Int32), 0, 0), m)
  else
    if a1 ≤ (5 : Int32) then
      if a1 = (3 : Int32) then
        if a2 < 0 then
          some (((0 : Int32), 0, 0), m)
        else
          if (m.1 6 (14 + a0) 1) ≤ (a2 / (256 : Int32)) then
            some (((0 : Int32), 0, 0), m)
          else
            some (((1 : Int32), 0, 0), m)
      else
        if a1 = (4 : Int32) then
          if a2 < 0 then
            some (((0 : Int32), 0, 0), m)
          else
            if (m.1 6 (14 + a0) 1) ≤ a2 then
              some (((0 : Int32), 0, 0), m)
            else
              some (((1 : Int32), 0, 0), m)
        else
          some (((1 : Int32), 0, 0), m)
    else
      some (((0 : Int32), 0, 0), m) := by rfl
theorem e_X10_canCarry (a0 : Nat) (a1 : Int32) (a2 : Int32) (m : sl_M) : f_X10_canCarry a0 a1 a2 m =
  if a1 < 0 then
    some (((0 : Int32), 0, 0), m)
  else
    if a1 ≤ (5 : Int32) then
      if a1 = (3 : Int32) then
        if a2 < 0 then
          some (((0 : Int32), 0, 0), m)
        else
          if (m.1 6 (14 + a0) 1) ≤ (a2 / (256 : Int32)) then
            some (((0 : Int32), 0, 0), m)
          else
            some (((1 : Int32), 0, 0), m)
      else
        if a1 = (4 : Int32) then
          if a2 < 0 then
            some (((0 : Int32), 0, 0), m)
          else
            if (m.1 6 (14 + a0) 1) ≤ a2 then
              some (((0 : Int32), 0, 0), m)
            else
              some (((1 : Int32), 0, 0), m)
        else
          some (((1 : Int32), 0, 0), m)
    else
      some (((0 : Int32), 0, 0), m) := by
  have h := g_X10_canCarry_0 ca_X10_canCarry 99999 a0 a1 a2 m
  exact h

def tb_X10_bring (p : Nat) : Option sl_E := bif Nat.ble 82 p then none else (bif Nat.ble 40 p then (bif Nat.ble 61 p then (bif Nat.ble 70 p then (bif Nat.ble 75 p then (bif Nat.ble 78 p then (bif Nat.ble 81 p then (bif Nat.beq p 81 then some (50, 0, 0, 1, []) else none) else (bif Nat.beq p 78 then some (34, 0, 36, 3, []) else none)) else (bif Nat.beq p 75 then some (5, 1, 6, 3, []) else none)) else (bif Nat.ble 72 p then (bif Nat.beq p 72 then some (46, 0, 154, 3, []) else none) else (bif Nat.beq p 70 then some (0, 0, 5, 2, []) else none))) else (bif Nat.ble 64 p then (bif Nat.ble 65 p then (bif Nat.ble 68 p then (bif Nat.beq p 68 then some (0, 0, 7, 2, []) else none) else (bif Nat.beq p 65 then some (34, 0, 70, 3, []) else none)) else (bif Nat.beq p 64 then some (13, 0, 0, 1, []) else none)) else (bif Nat.ble 63 p then (bif Nat.beq p 63 then some (0, 0, 3, 1, []) else none) else (bif Nat.beq p 61 then some (0, 0, 7, 2, []) else none)))) else (bif Nat.ble 52 p then (bif Nat.ble 55 p then (bif Nat.ble 57 p then (bif Nat.ble 58 p then (bif Nat.beq p 58 then some (23, 0, 68, 3, []) else none) else (bif Nat.beq p 57 then some (0, 0, 2, 1, []) else none)) else (bif Nat.beq p 55 then some (0, 0, 6, 2, []) else none)) else (bif Nat.ble 54 p then (bif Nat.beq p 54 then some (1, 0, 1, 1, []) else none) else (bif Nat.beq p 52 then some (3, 0, 7, 2, []) else none))) else (bif Nat.ble 44 p then (bif Nat.ble 47 p then (bif Nat.ble 49 p then (bif Nat.beq p 49 then some (46, 0, 167, 3, []) else none) else (bif Nat.beq p 47 then some (0, 0, 6, 2, []) else none)) else (bif Nat.beq p 44 then some (35, 0, 145, 3, []) else none)) else (bif Nat.ble 43 p then (bif Nat.beq p 43 then some (1, 0, 0, 1, []) else none) else (bif Nat.beq p 40 then some (25, 0, 81, 3, []) else none))))) else (bif Nat.ble 20 p then (bif Nat.ble 31 p then (bif Nat.ble 34 p then (bif Nat.ble 36 p then (bif Nat.ble 38 p then (bif Nat.beq p 38 then some (0, 0, 4, 2, []) else none) else (bif Nat.beq p 36 then some (0, 0, 6, 2, []) else none)) else (bif Nat.beq p 34 then some (3, 0, 6, 2, []) else none)) else (bif Nat.ble 33 p then (bif Nat.beq p 33 then some (2, 0, 0, 1, []) else none) else (bif Nat.beq p 31 then some (3, 0, 5, 2, []) else none))) else (bif Nat.ble 26 p then (bif Nat.ble 27 p then (bif Nat.ble 30 p then (bif Nat.beq p 30 then some (2, 0, 0, 1, []) else none) else (bif Nat.beq p 27 then some (34, 0, 31, 3, []) else none)) else (bif Nat.beq p 26 then some (2, 1, 0, 1, []) else none)) else (bif Nat.ble 23 p then (bif Nat.beq p 23 then some (29, 0, 30, 3, []) else none) else (bif Nat.beq p 20 then some (35, 0, 87, 3, []) else none)))) else (bif Nat.ble 7 p then (bif Nat.ble 13 p then (bif Nat.ble 16 p then (bif Nat.ble 17 p then (bif Nat.beq p 17 then some (35, 0, 164, 3, []) else none) else (bif Nat.beq p 16 then some (1, 0, 1, 1, []) else none)) else (bif Nat.beq p 13 then some (23, 0, 30, 3, []) else none)) else (bif Nat.ble 10 p then (bif Nat.beq p 10 then some (35, 0, 87, 3, []) else none) else (bif Nat.beq p 7 then some (35, 0, 145, 3, []) else none))) else (bif Nat.ble 4 p then (bif Nat.ble 6 p then (bif Nat.beq p 6 then some (1, 0, 0, 1, []) else none) else (bif Nat.beq p 4 then some (0, 0, 4, 2, []) else none)) else (bif Nat.ble 1 p then (bif Nat.beq p 1 then some (29, 0, 30, 3, []) else none) else (bif Nat.beq p 0 then some (0, 0, 3, 1, []) else none))))))
def ca_X10_bring (y : Nat) (as : List sl_V) (m : sl_M) : Option (sl_PL × sl_M) := bif Nat.ble 36 y then (bif Nat.beq y 36 then F_X6_at as m else none) else (bif Nat.beq y 6 then F_X1_hear as m else none)
def sp_X10_bring (p : Nat) : Bool := Nat.beq p 36
def mk_X10_bring (p : Nat) : List Bool := bif Nat.beq p 36 then [true, true, true, true, true, true, true, false] else []
def cl_X10_bring (p : Nat) : Option sl_C := bif Nat.ble 168 p then none else (bif Nat.ble 167 p then (bif Nat.beq p 167 then some (36, 2, 1, 0, 0, 7) else none) else (bif Nat.beq p 154 then some (6, 3, 0, 0, 0, 2) else none))
def R_X10_bring (ca : Nat → List sl_V → sl_M → Option (sl_PL × sl_M)) : Nat → sl_S → sl_M → Option (sl_PL × sl_M) := sl_B tb_X10_bring fl_X10 pf_X10 cl_X10_bring nw_X10 sl_rd sl_wr sl_al sl_ln 0 (fun _ => 0) ca sp_X10_bring mk_X10_bring
def F_X10_bring (as : List sl_V) (m : sl_M) : Option (sl_PL × sl_M) := R_X10_bring ca_X10_bring 100000 (0, sl_lo 8 as, []) m
def f_X10_bring (a0 : Nat) (a1 : Nat) (a2 : Int32) (a3 : Int32) (a4 : Int32) (m : sl_M) : Option (sl_PL × sl_M) := F_X10_bring [.inr (.inl (some (2, a0))), .inr (.inl (some (1, a1))), .inl a2, .inl a3, .inl a4] m
def r_X10_bring_0 (ca : Nat → List sl_V → sl_M → Option (sl_PL × sl_M)) (n : Nat) (a0 : Nat) (a1 : Nat) (a2 : Int32) (a3 : Int32) (a4 : Int32) (m : sl_M) : Option (sl_PL × sl_M) := R_X10_bring ca n (0, sl_lo 8 [.inr (.inl (some (2, a0))), .inr (.inl (some (1, a1))), .inl a2, .inl a3, .inl a4], []) m
def r_X10_bring_36 (ca : Nat → List sl_V → sl_M → Option (sl_PL × sl_M)) (n : Nat) (v0 : Nat) (v1 : Nat) (v2 : Int32) (v3 : Int32) (v4 : Int32) (v5 : Int32) (v6 : Int32) (m : sl_M) : Option (sl_PL × sl_M) := R_X10_bring ca n (36, [some (.inr (.inl (some (2, v0)))), some (.inr (.inl (some (1, v1)))), some (.inl v2), some (.inl v3), some (.inl v4), some (.inl v5), some (.inl v6), none], []) m
def b_X10_bring_36 (n : Nat) (v0 : Nat) (v1 : Nat) (v2 : Int32) (v3 : Int32) (v4 : Int32) (v5 : Int32) (v6 : Int32) (m : sl_M) : Option (sl_PL × sl_M) := r_X10_bring_36 ca_X10_bring n v0 v1 v2 v3 v4 v5 v6 m
set_option maxRecDepth 100000 in
theorem g_X10_bring_0 (ca : Nat → List sl_V → sl_M → Option (sl_PL × sl_M)) (n : Nat) (a0 : Nat) (a1 : Nat) (a2 : Int32) (a3 : Int32) (a4 : Int32) (m : sl_M) : r_X10_bring_0 ca (n + 1) a0 a1 a2 a3 a4 m =
  if a3 = 0 then
    if a4 = (m.1 6 (14 + a0) 1) then
      if (m.1 6 (10 + a1) 1) = 0 then
        r_X10_bring_36 ca n a0 a1 a2 a3 a4 (1 : Int32) (0 : Int32) m
      else
        r_X10_bring_36 ca n a0 a1 a2 a3 a4 (0 : Int32) (0 : Int32) m
    else
      r_X10_bring_36 ca n a0 a1 a2 a3 a4 (0 : Int32) (0 : Int32) m
  else
    r_X10_bring_36 ca n a0 a1 a2 a3 a4 (0 : Int32) (0 : Int32) m := by rfl
set_option maxRecDepth 100000 in
theorem g_X10_bring_36 (ca : Nat → List sl_V → sl_M → Option (sl_PL × sl_M)) (n : Nat) (v0 : Nat) (v1 : Nat) (v2 : Int32) (v3 : Int32) (v4 : Int32) (v5 : Int32) (v6 : Int32) (m : sl_M) : r_X10_bring_36 ca (n + 1) v0 v1 v2 v3 v4 v5 v6 m =
  if v4 ≤ v6 then
    some ((0, 0, 0), m)
  else
    (ca 36 [.inr (.inl (some (6, (14 + v0)))), .inl v6] m).bind (fun q1 =>
    if v6 = v2 then
      (ca 6 [.inr (.inl (some (1, v1))), .inl (q1.1.1 ^^^ v3), .inl v5] q1.2).bind (fun q2 =>
      r_X10_bring_36 ca n v0 v1 v2 v3 v4 v5 (v6 + (1 : Int32)) q2.2)
    else
      (ca 6 [.inr (.inl (some (1, v1))), .inl q1.1.1, .inl v5] q1.2).bind (fun q3 =>
      r_X10_bring_36 ca n v0 v1 v2 v3 v4 v5 (v6 + (1 : Int32)) q3.2)) := by rfl
theorem cq_X10_bring_X1_hear (this : Nat) (a0 : Int32) (a1 : Int32) (m : sl_M) : ca_X10_bring 6 [.inr (.inl (some (1, this))), .inl a0, .inl a1] m = f_X1_hear this a0 a1 m := by
  unfold ca_X10_bring f_X1_hear
  rw [show Nat.ble 36 6 = false from rfl, cond_false, show Nat.beq 6 6 = true from rfl, cond_true]
theorem cq_X10_bring_X6_at (this : Nat) (a0 : Int32) (m : sl_M) : ca_X10_bring 36 [.inr (.inl (some (6, this))), .inl a0] m = f_X6_at this a0 m := by
  unfold ca_X10_bring f_X6_at
  rw [show Nat.ble 36 36 = true from rfl, cond_true, show Nat.beq 36 36 = true from rfl, cond_true]
theorem bq_X10_bring_36 (n : Nat) (v0 : Nat) (v1 : Nat) (v2 : Int32) (v3 : Int32) (v4 : Int32) (v5 : Int32) (v6 : Int32) (m : sl_M) : r_X10_bring_36 ca_X10_bring n v0 v1 v2 v3 v4 v5 v6 m = b_X10_bring_36 n v0 v1 v2 v3 v4 v5 v6 m := rfl
theorem e_X10_bring (a0 : Nat) (a1 : Nat) (a2 : Int32) (a3 : Int32) (a4 : Int32) (m : sl_M) : f_X10_bring a0 a1 a2 a3 a4 m =
  if a3 = 0 then
    if a4 = (m.1 6 (14 + a0) 1) then
      if (m.1 6 (10 + a1) 1) = 0 then
        b_X10_bring_36 99999 a0 a1 a2 a3 a4 (1 : Int32) (0 : Int32) m
      else
        b_X10_bring_36 99999 a0 a1 a2 a3 a4 (0 : Int32) (0 : Int32) m
    else
      b_X10_bring_36 99999 a0 a1 a2 a3 a4 (0 : Int32) (0 : Int32) m
  else
    b_X10_bring_36 99999 a0 a1 a2 a3 a4 (0 : Int32) (0 : Int32) m := by
  have h := g_X10_bring_0 ca_X10_bring 99999 a0 a1 a2 a3 a4 m
  simp only [cq_X10_bring_X1_hear, cq_X10_bring_X6_at, bq_X10_bring_36] at h
  exact h
theorem e_X10_bring_36 (n : Nat) (v0 : Nat) (v1 : Nat) (v2 : Int32) (v3 : Int32) (v4 : Int32) (v5 : Int32) (v6 : Int32) (m : sl_M) : b_X10_bring_36 (n + 1) v0 v1 v2 v3 v4 v5 v6 m =
  if v4 ≤ v6 then
    some ((0, 0, 0), m)
  else
    (f_X6_at (14 + v0) v6 m).bind (fun q1 =>
    if v6 = v2 then
      (f_X1_hear v1 (q1.1.1 ^^^ v3) v5 q1.2).bind (fun q2 =>
      b_X10_bring_36 n v0 v1 v2 v3 v4 v5 (v6 + (1 : Int32)) q2.2)
    else
      (f_X1_hear v1 q1.1.1 v5 q1.2).bind (fun q3 =>
      b_X10_bring_36 n v0 v1 v2 v3 v4 v5 (v6 + (1 : Int32)) q3.2)) := by
  have h := g_X10_bring_36 ca_X10_bring n v0 v1 v2 v3 v4 v5 v6 m
  simp only [cq_X10_bring_X1_hear, cq_X10_bring_X6_at, bq_X10_bring_36] at h
  exact h

def tb_X10_laneAt (p : Nat) : Option sl_E := bif Nat.ble 20 p then none else (bif Nat.ble 10 p then (bif Nat.ble 15 p then (bif Nat.ble 18 p then (bif Nat.ble 19 p then (bif Nat.beq p 19 then some (56, 0, 240, 3, []) else none) else (bif Nat.beq p 18 then some (48, 0, 4, 1, []) else none)) else (bif Nat.beq p 15 then some (35, 0, 32, 3, []) else none)) else (bif Nat.ble 11 p then (bif Nat.ble 14 p then (bif Nat.beq p 14 then some (1, 0, 0, 1, []) else none) else (bif Nat.beq p 11 then some (23, 0, 19, 3, []) else none)) else (bif Nat.beq p 10 then some (2, 1, 0, 1, []) else none))) else (bif Nat.ble 5 p then (bif Nat.ble 8 p then (bif Nat.ble 9 p then (bif Nat.beq p 9 then some (0, 0, 1, 1, []) else none) else (bif Nat.beq p 8 then some (48, 0, 4, 1, []) else none)) else (bif Nat.beq p 5 then some (35, 0, 28, 3, []) else none)) else (bif Nat.ble 1 p then (bif Nat.ble 4 p then (bif Nat.beq p 4 then some (1, 0, 0, 1, []) else none) else (bif Nat.beq p 1 then some (29, 0, 9, 3, []) else none)) else (bif Nat.beq p 0 then some (0, 0, 1, 1, []) else none))))
def ca_X10_laneAt (y : Nat) (as : List sl_V) (m : sl_M) : Option (sl_PL × sl_M) := none
def sp_X10_laneAt (p : Nat) : Bool := false
def mk_X10_laneAt (p : Nat) : List Bool := []
def cl_X10_laneAt (p : Nat) : Option sl_C := none
def R_X10_laneAt (ca : Nat → List sl_V → sl_M → Option (sl_PL × sl_M)) : Nat → sl_S → sl_M → Option (sl_PL × sl_M) := sl_B tb_X10_laneAt fl_X10 pf_X10 cl_X10_laneAt nw_X10 sl_rd sl_wr sl_al sl_ln 0 (fun _ => 0) ca sp_X10_laneAt mk_X10_laneAt
def F_X10_laneAt (as : List sl_V) (m : sl_M) : Option (sl_PL × sl_M) := R_X10_laneAt ca_X10_laneAt 100000 (0, sl_lo 2 as, []) m
def f_X10_laneAt (a0 : Int32) (m : sl_M) : Option (sl_PL × sl_M) := F_X10_laneAt [.inr (.inl (some (10, 0))), .inl a0] m
def r_X10_laneAt_0 (ca : Nat → List sl_V → sl_M → Option (sl_PL × sl_M)) (n : Nat) (a0 : Int32) (m : sl_M) : Option (sl_PL × sl_M) := R_X10_laneAt ca n (0, sl_lo 2 [.inr (.inl (some (10, 0))), .inl a0], []) m
set_option maxRecDepth 100000 in
theorem g_X10_laneAt_0 (ca : Nat → List sl_V → sl_M → Option (sl_PL × sl_M)) (n : Nat) (a0 : Int32) (m : sl_M) : r_X10_laneAt_0 ca (n + 1) a0 m =
  if a0 = 0 then
    some ((0, 0, 0), m)
  else
    if a0 = (1 : Int32) then
      some ((0, 1, 0), m)
    else
      some ((0, 0, 2), m) := by rfl
theorem e_X10_laneAt (a0 : Int32) (m : sl_M) : f_X10_laneAt a0 m =
  if a0 = 0 then
    some ((0, 0, 0), m)
  else
    if a0 = (1 : Int32) then
      some ((0, 1, 0), m)
    else
      some ((0, 0, 2), m) := by
  have h := g_X10_laneAt_0 ca_X10_laneAt 99999 a0 m
  exact h

def tb_X10_hearerOf (p : Nat) : Option sl_E := bif Nat.ble 16 p then none else (bif Nat.ble 8 p then (bif Nat.ble 12 p then (bif Nat.ble 15 p then (bif Nat.beq p 15 then some (48, 0, 1, 1, []) else none) else (bif Nat.beq p 12 then some (35, 0, 40, 3, []) else none)) else (bif Nat.ble 11 p then (bif Nat.beq p 11 then some (1, 0, 0, 1, []) else none) else (bif Nat.beq p 8 then some (34, 0, 15, 3, []) else none))) else (bif Nat.ble 4 p then (bif Nat.ble 5 p then (bif Nat.beq p 5 then some (35, 0, 44, 3, []) else none) else (bif Nat.beq p 4 then some (1, 0, 0, 1, []) else none)) else (bif Nat.ble 1 p then (bif Nat.beq p 1 then some (29, 0, 11, 3, []) else none) else (bif Nat.beq p 0 then some (0, 0, 1, 1, []) else none))))
def ca_X10_hearerOf (y : Nat) (as : List sl_V) (m : sl_M) : Option (sl_PL × sl_M) := none
def sp_X10_hearerOf (p : Nat) : Bool := false
def mk_X10_hearerOf (p : Nat) : List Bool := []
def cl_X10_hearerOf (p : Nat) : Option sl_C := none
def R_X10_hearerOf (ca : Nat → List sl_V → sl_M → Option (sl_PL × sl_M)) : Nat → sl_S → sl_M → Option (sl_PL × sl_M) := sl_B tb_X10_hearerOf fl_X10 pf_X10 cl_X10_hearerOf nw_X10 sl_rd sl_wr sl_al sl_ln 0 (fun _ => 0) ca sp_X10_hearerOf mk_X10_hearerOf
def F_X10_hearerOf (as : List sl_V) (m : sl_M) : Option (sl_PL × sl_M) := R_X10_hearerOf ca_X10_hearerOf 100000 (0, sl_lo 2 as, []) m
def f_X10_hearerOf (a0 : Int32) (m : sl_M) : Option (sl_PL × sl_M) := F_X10_hearerOf [.inr (.inl (some (10, 0))), .inl a0] m
def r_X10_hearerOf_0 (ca : Nat → List sl_V → sl_M → Option (sl_PL × sl_M)) (n : Nat) (a0 : Int32) (m : sl_M) : Option (sl_PL × sl_M) := R_X10_hearerOf ca n (0, sl_lo 2 [.inr (.inl (some (10, 0))), .inl a0], []) m
set_option maxRecDepth 100000 in
theorem g_X10_hearerOf_0 (ca : Nat → List sl_V → sl_M → Option (sl_PL × sl_M)) (n : Nat) (a0 : Int32) (m : sl_M) : r_X10_hearerOf_0 ca (n + 1) a0 m =
  if a0 = 0 then
    some ((0, 1, 0), m)
  else
    some ((0, 0, 0), m) := by rfl
theorem e_X10_hearerOf (a0 : Int32) (m : sl_M) : f_X10_hearerOf a0 m =
  if a0 = 0 then
    some ((0, 1, 0), m)
  else
    some ((0, 0, 0), m) := by
  have h := g_X10_hearerOf_0 ca_X10_hearerOf 99999 a0 m
  exact h

def tb_X10_carry (p : Nat) : Option sl_E := bif Nat.ble 155 p then none else (bif Nat.ble 74 p then (bif Nat.ble 114 p then (bif Nat.ble 133 p then (bif Nat.ble 144 p then (bif Nat.ble 149 p then (bif Nat.ble 151 p then (bif Nat.ble 154 p then (bif Nat.beq p 154 then some (47, 0, 1, 1, []) else none) else (bif Nat.beq p 151 then some (35, 0, 161, 3, []) else none)) else (bif Nat.beq p 149 then some (1, 0, 4, 2, []) else none)) else (bif Nat.ble 146 p then (bif Nat.beq p 146 then some (46, 0, 158, 3, []) else none) else (bif Nat.beq p 144 then some (1, 0, 4, 2, []) else none))) else (bif Nat.ble 139 p then (bif Nat.ble 140 p then (bif Nat.ble 141 p then (bif Nat.beq p 141 then some (22, 0, 149, 3, []) else none) else (bif Nat.beq p 140 then some (2, 2, 0, 1, []) else none)) else (bif Nat.beq p 139 then some (0, 0, 2, 1, []) else none)) else (bif Nat.ble 136 p then (bif Nat.beq p 136 then some (46, 0, 150, 3, []) else none) else (bif Nat.beq p 133 then some (35, 0, 87, 3, []) else none)))) else (bif Nat.ble 124 p then (bif Nat.ble 127 p then (bif Nat.ble 128 p then (bif Nat.ble 130 p then (bif Nat.beq p 130 then some (35, 0, 145, 3, []) else none) else (bif Nat.beq p 128 then some (1, 0, 5, 2, []) else none)) else (bif Nat.beq p 127 then some (2, 0, 0, 1, []) else none)) else (bif Nat.ble 126 p then (bif Nat.beq p 126 then some (2, (-1), 0, 1, []) else none) else (bif Nat.beq p 124 then some (1, 0, 6, 2, []) else none))) else (bif Nat.ble 118 p then (bif Nat.ble 119 p then (bif Nat.ble 122 p then (bif Nat.beq p 122 then some (1, 0, 5, 2, []) else none) else (bif Nat.beq p 119 then some (46, 0, 154, 3, []) else none)) else (bif Nat.beq p 118 then some (2, 0, 0, 1, []) else none)) else (bif Nat.ble 117 p then (bif Nat.beq p 117 then some (11, 0, 0, 1, []) else none) else (bif Nat.beq p 114 then some (2, 255, 0, 3, []) else none))))) else (bif Nat.ble 97 p then (bif Nat.ble 106 p then (bif Nat.ble 108 p then (bif Nat.ble 111 p then (bif Nat.ble 113 p then (bif Nat.beq p 113 then some (0, 0, 3, 1, []) else none) else (bif Nat.beq p 111 then some (1, 0, 6, 2, []) else none)) else (bif Nat.beq p 108 then some (23, 0, 122, 3, []) else none)) else (bif Nat.ble 107 p then (bif Nat.beq p 107 then some (2, 5, 0, 1, []) else none) else (bif Nat.beq p 106 then some (0, 0, 2, 1, []) else none))) else (bif Nat.ble 99 p then (bif Nat.ble 100 p then (bif Nat.ble 103 p then (bif Nat.beq p 103 then some (34, 0, 139, 3, []) else none) else (bif Nat.beq p 100 then some (46, 0, 150, 3, []) else none)) else (bif Nat.beq p 99 then some (0, 0, 3, 1, []) else none)) else (bif Nat.ble 98 p then (bif Nat.beq p 98 then some (2, 0, 0, 1, []) else none) else (bif Nat.beq p 97 then some (2, (-1), 0, 1, []) else none)))) else (bif Nat.ble 88 p then (bif Nat.ble 90 p then (bif Nat.ble 93 p then (bif Nat.ble 95 p then (bif Nat.beq p 95 then some (1, 0, 6, 2, []) else none) else (bif Nat.beq p 93 then some (1, 0, 5, 2, []) else none)) else (bif Nat.beq p 90 then some (23, 0, 106, 3, []) else none)) else (bif Nat.ble 89 p then (bif Nat.beq p 89 then some (2, 4, 0, 1, []) else none) else (bif Nat.beq p 88 then some (0, 0, 2, 1, []) else none))) else (bif Nat.ble 79 p then (bif Nat.ble 82 p then (bif Nat.ble 85 p then (bif Nat.beq p 85 then some (34, 0, 139, 3, []) else none) else (bif Nat.beq p 82 then some (46, 0, 150, 3, []) else none)) else (bif Nat.beq p 79 then some (35, 0, 87, 3, []) else none)) else (bif Nat.ble 76 p then (bif Nat.beq p 76 then some (35, 0, 145, 3, []) else none) else (bif Nat.beq p 74 then some (1, 0, 5, 2, []) else none)))))) else (bif Nat.ble 37 p then (bif Nat.ble 56 p then (bif Nat.ble 65 p then (bif Nat.ble 69 p then (bif Nat.ble 70 p then (bif Nat.ble 73 p then (bif Nat.beq p 73 then some (10, 0, 0, 1, []) else none) else (bif Nat.beq p 70 then some (2, 256, 0, 3, []) else none)) else (bif Nat.beq p 69 then some (0, 0, 3, 1, []) else none)) else (bif Nat.ble 68 p then (bif Nat.beq p 68 then some (9, 0, 0, 1, []) else none) else (bif Nat.beq p 65 then some (2, 256, 0, 3, []) else none))) else (bif Nat.ble 60 p then (bif Nat.ble 62 p then (bif Nat.ble 64 p then (bif Nat.beq p 64 then some (0, 0, 3, 1, []) else none) else (bif Nat.beq p 62 then some (1, 0, 6, 2, []) else none)) else (bif Nat.beq p 60 then some (1, 0, 5, 2, []) else none)) else (bif Nat.ble 57 p then (bif Nat.beq p 57 then some (23, 0, 88, 3, []) else none) else (bif Nat.beq p 56 then some (2, 3, 0, 1, []) else none)))) else (bif Nat.ble 45 p then (bif Nat.ble 49 p then (bif Nat.ble 52 p then (bif Nat.ble 55 p then (bif Nat.beq p 55 then some (0, 0, 2, 1, []) else none) else (bif Nat.beq p 52 then some (34, 0, 139, 3, []) else none)) else (bif Nat.beq p 49 then some (46, 0, 125, 3, []) else none)) else (bif Nat.ble 48 p then (bif Nat.beq p 48 then some (2, 3, 0, 1, []) else none) else (bif Nat.beq p 45 then some (35, 0, 19, 3, []) else none))) else (bif Nat.ble 40 p then (bif Nat.ble 41 p then (bif Nat.ble 44 p then (bif Nat.beq p 44 then some (1, 0, 0, 1, []) else none) else (bif Nat.beq p 41 then some (23, 0, 55, 3, []) else none)) else (bif Nat.beq p 40 then some (2, 1, 0, 1, []) else none)) else (bif Nat.ble 39 p then (bif Nat.beq p 39 then some (0, 0, 2, 1, []) else none) else (bif Nat.beq p 37 then some (4, 0, 6, 2, []) else none))))) else (bif Nat.ble 20 p then (bif Nat.ble 30 p then (bif Nat.ble 32 p then (bif Nat.ble 33 p then (bif Nat.ble 34 p then (bif Nat.beq p 34 then some (46, 0, 142, 3, []) else none) else (bif Nat.beq p 33 then some (0, 0, 1, 1, []) else none)) else (bif Nat.beq p 32 then some (1, 0, 0, 1, []) else none)) else (bif Nat.ble 31 p then (bif Nat.beq p 31 then some (47, 0, 1, 1, []) else none) else (bif Nat.beq p 30 then some (2, (-1), 0, 1, []) else none))) else (bif Nat.ble 23 p then (bif Nat.ble 24 p then (bif Nat.ble 27 p then (bif Nat.beq p 27 then some (29, 0, 32, 3, []) else none) else (bif Nat.beq p 24 then some (46, 0, 138, 3, []) else none)) else (bif Nat.beq p 23 then some (0, 0, 3, 1, []) else none)) else (bif Nat.ble 22 p then (bif Nat.beq p 22 then some (0, 0, 2, 1, []) else none) else (bif Nat.beq p 20 then some (1, 0, 5, 2, []) else none)))) else (bif Nat.ble 9 p then (bif Nat.ble 13 p then (bif Nat.ble 15 p then (bif Nat.ble 17 p then (bif Nat.beq p 17 then some (52, 0, 30, 3, []) else none) else (bif Nat.beq p 15 then some (1, 0, 5, 2, []) else none)) else (bif Nat.beq p 13 then some (4, 0, 5, 2, []) else none)) else (bif Nat.ble 10 p then (bif Nat.beq p 10 then some (46, 0, 134, 3, []) else none) else (bif Nat.beq p 9 then some (2, 0, 0, 1, []) else none))) else (bif Nat.ble 2 p then (bif Nat.ble 5 p then (bif Nat.ble 7 p then (bif Nat.beq p 7 then some (1, 0, 4, 2, []) else none) else (bif Nat.beq p 5 then some (4, 0, 4, 2, []) else none)) else (bif Nat.beq p 2 then some (46, 0, 130, 3, []) else none)) else (bif Nat.ble 1 p then (bif Nat.beq p 1 then some (0, 0, 1, 1, []) else none) else (bif Nat.beq p 0 then some (1, 0, 0, 1, []) else none)))))))
def ca_X10_carry (y : Nat) (as : List sl_V) (m : sl_M) : Option (sl_PL × sl_M) := bif Nat.ble 71 y then (bif Nat.ble 87 y then (bif Nat.ble 88 y then (bif Nat.beq y 88 then F_X10_hearerOf as m else none) else (bif Nat.beq y 87 then F_X10_laneAt as m else none)) else (bif Nat.ble 72 y then (bif Nat.beq y 72 then F_X10_bring as m else none) else (bif Nat.beq y 71 then F_X10_canCarry as m else none))) else (bif Nat.ble 21 y then (bif Nat.ble 59 y then (bif Nat.beq y 59 then F_X9_add as m else none) else (bif Nat.beq y 21 then F_X4_dropFirst as m else none)) else (bif Nat.ble 19 y then (bif Nat.beq y 19 then F_X4_nth as m else none) else (bif Nat.beq y 6 then F_X1_hear as m else none)))
def sp_X10_carry (p : Nat) : Bool := false
def mk_X10_carry (p : Nat) : List Bool := []
def cl_X10_carry (p : Nat) : Option sl_C := bif Nat.ble 159 p then none else (bif Nat.ble 142 p then (bif Nat.ble 154 p then (bif Nat.ble 158 p then (bif Nat.beq p 158 then some (21, 1, 0, 0, 0, 5) else none) else (bif Nat.beq p 154 then some (6, 3, 0, 0, 0, 2) else none)) else (bif Nat.ble 150 p then (bif Nat.beq p 150 then some (72, 5, 0, 0, 0, 0) else none) else (bif Nat.beq p 142 then some (88, 2, 2, 1, 0, 11) else none))) else (bif Nat.ble 134 p then (bif Nat.ble 138 p then (bif Nat.beq p 138 then some (71, 3, 1, 0, 0, 0) else none) else (bif Nat.beq p 134 then some (19, 2, 3, 2, 0, 5) else none)) else (bif Nat.ble 130 p then (bif Nat.beq p 130 then some (87, 2, 2, 4, 1, 11) else none) else (bif Nat.beq p 125 then some (59, 2, 0, 0, 0, 10) else none))))
def R_X10_carry (ca : Nat → List sl_V → sl_M → Option (sl_PL × sl_M)) : Nat → sl_S → sl_M → Option (sl_PL × sl_M) := sl_B tb_X10_carry fl_X10 pf_X10 cl_X10_carry nw_X10 sl_rd sl_wr sl_al sl_ln 0 (fun _ => 0) ca sp_X10_carry mk_X10_carry
def F_X10_carry (as : List sl_V) (m : sl_M) : Option (sl_PL × sl_M) := R_X10_carry ca_X10_carry 100000 (0, sl_lo 7 as, []) m
def f_X10_carry (a0 : Int32) (a1 : Int32) (a2 : Int32) (m : sl_M) : Option (sl_PL × sl_M) := F_X10_carry [.inr (.inl (some (10, 0))), .inl a0, .inl a1, .inl a2] m
def r_X10_carry_0 (ca : Nat → List sl_V → sl_M → Option (sl_PL × sl_M)) (n : Nat) (a0 : Int32) (a1 : Int32) (a2 : Int32) (m : sl_M) : Option (sl_PL × sl_M) := R_X10_carry ca n (0, sl_lo 7 [.inr (.inl (some (10, 0))), .inl a0, .inl a1, .inl a2], []) m
set_option maxRecDepth 100000 in
theorem g_X10_carry_0 (ca : Nat → List sl_V → sl_M → Option (sl_PL × sl_M)) (n : Nat) (a0 : Int32) (a1 : Int32) (a2 : Int32) (m : sl_M) : r_X10_carry_0 ca (n + 1) a0 a1 a2 m =
  (ca 87 [.inr (.inl (some (10, 0))), .inl a0] m).bind (fun q1 =>
  if q1.1.2.2 = 2 then some ((0, 0, 2), q1.2) else
  (ca 19 [.inr (.inl (some (4, q1.1.2.1))), .inl (0 : Int32)] q1.2).bind (fun q2 =>
  if q2.1.2.2 = 1 then
    some (((-1 : Int32), 0, 0), q2.2)
  else
    (ca 71 [.inr (.inl (some (2, q2.1.2.1))), .inl a1, .inl a2] q2.2).bind (fun q3 =>
    if q3.1.1 = 0 then
      some (((-1 : Int32), 0, 0), q3.2)
    else
      (ca 88 [.inr (.inl (some (10, 0))), .inl a0] q3.2).bind (fun q4 =>
      if a1 = (1 : Int32) then
        (ca 59 [.inr (.inl (some (9, 0))), .inl (3 : Int32)] q4.2).bind (fun q5 =>
        if a1 = (2 : Int32) then
          some (((q5.2.1 4 q1.1.2.1 4), 0, 0), q5.2)
        else
          (ca 21 [.inr (.inl (some (4, q1.1.2.1)))] q5.2).bind (fun q6 =>
          some (((q6.2.1 4 q1.1.2.1 4), 0, 0), q6.2)))
      else
        if a1 = (3 : Int32) then
          (ca 72 [.inr (.inl (some (2, q2.1.2.1))), .inr (.inl (some (1, q4.1.2.1))), .inl (a2 / (256 : Int32)), .inl (a2 - a2 / (256 : Int32) * (256 : Int32)), .inl (q4.2.1 6 (14 + q2.1.2.1) 1)] q4.2).bind (fun q7 =>
          if a1 = (2 : Int32) then
            some (((q7.2.1 4 q1.1.2.1 4), 0, 0), q7.2)
          else
            (ca 21 [.inr (.inl (some (4, q1.1.2.1)))] q7.2).bind (fun q8 =>
            some (((q8.2.1 4 q1.1.2.1 4), 0, 0), q8.2)))
        else
          if a1 = (4 : Int32) then
            (ca 72 [.inr (.inl (some (2, q2.1.2.1))), .inr (.inl (some (1, q4.1.2.1))), .inl (-1 : Int32), .inl (0 : Int32), .inl a2] q4.2).bind (fun q9 =>
            if a1 = (2 : Int32) then
              some (((q9.2.1 4 q1.1.2.1 4), 0, 0), q9.2)
            else
              (ca 21 [.inr (.inl (some (4, q1.1.2.1)))] q9.2).bind (fun q10 =>
              some (((q10.2.1 4 q1.1.2.1 4), 0, 0), q10.2)))
          else
            if a1 = (5 : Int32) then
              (ca 6 [.inr (.inl (some (1, q4.1.2.1))), .inl (a2 &&& (255 : Int32)), .inl (0 : Int32)] q4.2).bind (fun q11 =>
              (ca 72 [.inr (.inl (some (2, q2.1.2.1))), .inr (.inl (some (1, q4.1.2.1))), .inl (-1 : Int32), .inl (0 : Int32), .inl (q11.2.1 6 (14 + q2.1.2.1) 1)] q11.2).bind (fun q12 =>
              if a1 = (2 : Int32) then
                some (((q12.2.1 4 q1.1.2.1 4), 0, 0), q12.2)
              else
                (ca 21 [.inr (.inl (some (4, q1.1.2.1)))] q12.2).bind (fun q13 =>
                some (((q13.2.1 4 q1.1.2.1 4), 0, 0), q13.2))))
            else
              (ca 72 [.inr (.inl (some (2, q2.1.2.1))), .inr (.inl (some (1, q4.1.2.1))), .inl (-1 : Int32), .inl (0 : Int32), .inl (q4.2.1 6 (14 + q2.1.2.1) 1)] q4.2).bind (fun q14 =>
              if a1 = (2 : Int32) then
                some (((q14.2.1 4 q1.1.2.1 4), 0, 0), q14.2)
              else
                (ca 21 [.inr (.inl (some (4, q1.1.2.1)))] q14.2).bind (fun q15 =>
                some (((q15.2.1 4 q1.1.2.1 4), 0, 0), q15.2))))))) := by rfl
theorem cq_X10_carry_X1_hear (this : Nat) (a0 : Int32) (a1 : Int32) (m : sl_M) : ca_X10_carry 6 [.inr (.inl (some (1, this))), .inl a0, .inl a1] m = f_X1_hear this a0 a1 m := by
  unfold ca_X10_carry f_X1_hear
  rw [show Nat.ble 71 6 = false from rfl, cond_false, show Nat.ble 21 6 = false from rfl, cond_false, show Nat.ble 19 6 = false from rfl, cond_false, show Nat.beq 6 6 = true from rfl, cond_true]
theorem cq_X10_carry_X4_nth (this : Nat) (a0 : Int32) (m : sl_M) : ca_X10_carry 19 [.inr (.inl (some (4, this))), .inl a0] m = f_X4_nth this a0 m := by
  unfold ca_X10_carry f_X4_nth
  rw [show Nat.ble 71 19 = false from rfl, cond_false, show Nat.ble 21 19 = false from rfl, cond_false, show Nat.ble 19 19 = true from rfl, cond_true, show Nat.beq 19 19 = true from rfl, cond_true]
theorem cq_X10_carry_X4_dropFirst (this : Nat) (m : sl_M) : ca_X10_carry 21 [.inr (.inl (some (4, this)))] m = f_X4_dropFirst this m := by
  unfold ca_X10_carry f_X4_dropFirst
  rw [show Nat.ble 71 21 = false from rfl, cond_false, show Nat.ble 21 21 = true from rfl, cond_true, show Nat.ble 59 21 = false from rfl, cond_false, show Nat.beq 21 21 = true from rfl, cond_true]
theorem cq_X10_carry_X9_add (a0 : Int32) (m : sl_M) : ca_X10_carry 59 [.inr (.inl (some (9, 0))), .inl a0] m = f_X9_add a0 m := by
  unfold ca_X10_carry f_X9_add
  rw [show Nat.ble 71 59 = false from rfl, cond_false, show Nat.ble 21 59 = true from rfl, cond_true, show Nat.ble 59 59 = true from rfl, cond_true, show Nat.beq 59 59 = true from rfl, cond_true]
theorem cq_X10_carry_X10_canCarry (a0 : Nat) (a1 : Int32) (a2 : Int32) (m : sl_M) : ca_X10_carry 71 [.inr (.inl (some (2, a0))), .inl a1, .inl a2] m = f_X10_canCarry a0 a1 a2 m := by
  unfold ca_X10_carry f_X10_canCarry
  rw [show Nat.ble 71 71 = true from rfl, cond_true, show Nat.ble 87 71 = false from rfl, cond_false, show Nat.ble 72 71 = false from rfl, cond_false, show Nat.beq 71 71 = true from rfl, cond_true]
theorem cq_X10_carry_X10_bring (a0 : Nat) (a1 : Nat) (a2 : Int32) (a3 : Int32) (a4 : Int32) (m : sl_M) : ca_X10_carry 72 [.inr (.inl (some (2, a0))), .inr (.inl (some (1, a1))), .inl a2, .inl a3, .inl a4] m = f_X10_bring a0 a1 a2 a3 a4 m := by
  unfold ca_X10_carry f_X10_bring
  rw [show Nat.ble 71 72 = true from rfl, cond_true, show Nat.ble 87 72 = false from rfl, cond_false, show Nat.ble 72 72 = true from rfl, cond_true, show Nat.beq 72 72 = true from rfl, cond_true]
theorem cq_X10_carry_X10_laneAt (a0 : Int32) (m : sl_M) : ca_X10_carry 87 [.inr (.inl (some (10, 0))), .inl a0] m = f_X10_laneAt a0 m := by
  unfold ca_X10_carry f_X10_laneAt
  rw [show Nat.ble 71 87 = true from rfl, cond_true, show Nat.ble 87 87 = true from rfl, cond_true, show Nat.ble 88 87 = false from rfl, cond_false, show Nat.beq 87 87 = true from rfl, cond_true]
theorem cq_X10_carry_X10_hearerOf (a0 : Int32) (m : sl_M) : ca_X10_carry 88 [.inr (.inl (some (10, 0))), .inl a0] m = f_X10_hearerOf a0 m := by
  unfold ca_X10_carry f_X10_hearerOf
  rw [show Nat.ble 71 88 = true from rfl, cond_true, show Nat.ble 87 88 = true from rfl, cond_true, show Nat.ble 88 88 = true from rfl, cond_true, show Nat.beq 88 88 = true from rfl, cond_true]
theorem e_X10_carry (a0 : Int32) (a1 : Int32) (a2 : Int32) (m : sl_M) : f_X10_carry a0 a1 a2 m =
  (f_X10_laneAt a0 m).bind (fun q1 =>
  if q1.1.2.2 = 2 then some ((0, 0, 2), q1.2) else
  (f_X4_nth q1.1.2.1 (0 : Int32) q1.2).bind (fun q2 =>
  if q2.1.2.2 = 1 then
    some (((-1 : Int32), 0, 0), q2.2)
  else
    (f_X10_canCarry q2.1.2.1 a1 a2 q2.2).bind (fun q3 =>
    if q3.1.1 = 0 then
      some (((-1 : Int32), 0, 0), q3.2)
    else
      (f_X10_hearerOf a0 q3.2).bind (fun q4 =>
      if a1 = (1 : Int32) then
        (f_X9_add (3 : Int32) q4.2).bind (fun q5 =>
        if a1 = (2 : Int32) then
          some (((q5.2.1 4 q1.1.2.1 4), 0, 0), q5.2)
        else
          (f_X4_dropFirst q1.1.2.1 q5.2).bind (fun q6 =>
          some (((q6.2.1 4 q1.1.2.1 4), 0, 0), q6.2)))
      else
        if a1 = (3 : Int32) then
          (f_X10_bring q2.1.2.1 q4.1.2.1 (a2 / (256 : Int32)) (a2 - a2 / (256 : Int32) * (256 : Int32)) (q4.2.1 6 (14 + q2.1.2.1) 1) q4.2).bind (fun q7 =>
          if a1 = (2 : Int32) then
            some (((q7.2.1 4 q1.1.2.1 4), 0, 0), q7.2)
          else
            (f_X4_dropFirst q1.1.2.1 q7.2).bind (fun q8 =>
            some (((q8.2.1 4 q1.1.2.1 4), 0, 0), q8.2)))
        else
          if a1 = (4 : Int32) then
            (f_X10_bring q2.1.2.1 q4.1.2.1 (-1 : Int32) (0 : Int32) a2 q4.2).bind (fun q9 =>
            if a1 = (2 : Int32) then
              some (((q9.2.1 4 q1.1.2.1 4), 0, 0), q9.2)
            else
              (f_X4_dropFirst q1.1.2.1 q9.2).bind (fun q10 =>
              some (((q10.2.1 4 q1.1.2.1 4), 0, 0), q10.2)))
          else
            if a1 = (5 : Int32) then
              (f_X1_hear q4.1.2.1 (a2 &&& (255 : Int32)) (0 : Int32) q4.2).bind (fun q11 =>
              (f_X10_bring q2.1.2.1 q4.1.2.1 (-1 : Int32) (0 : Int32) (q11.2.1 6 (14 + q2.1.2.1) 1) q11.2).bind (fun q12 =>
              if a1 = (2 : Int32) then
                some (((q12.2.1 4 q1.1.2.1 4), 0, 0), q12.2)
              else
                (f_X4_dropFirst q1.1.2.1 q12.2).bind (fun q13 =>
                some (((q13.2.1 4 q1.1.2.1 4), 0, 0), q13.2))))
            else
              (f_X10_bring q2.1.2.1 q4.1.2.1 (-1 : Int32) (0 : Int32) (q4.2.1 6 (14 + q2.1.2.1) 1) q4.2).bind (fun q14 =>
              if a1 = (2 : Int32) then
                some (((q14.2.1 4 q1.1.2.1 4), 0, 0), q14.2)
              else
                (f_X4_dropFirst q1.1.2.1 q14.2).bind (fun q15 =>
                some (((q15.2.1 4 q1.1.2.1 4), 0, 0), q15.2))))))) := by
  have h := g_X10_carry_0 ca_X10_carry 99999 a0 a1 a2 m
  simp only [cq_X10_carry_X1_hear, cq_X10_carry_X4_nth, cq_X10_carry_X4_dropFirst, cq_X10_carry_X9_add, cq_X10_carry_X10_canCarry, cq_X10_carry_X10_bring, cq_X10_carry_X10_laneAt, cq_X10_carry_X10_hearerOf] at h
  exact h

def tb_X10_round (p : Nat) : Option sl_E := bif Nat.ble 91 p then none else (bif Nat.ble 41 p then (bif Nat.ble 63 p then (bif Nat.ble 77 p then (bif Nat.ble 86 p then (bif Nat.ble 89 p then (bif Nat.ble 90 p then (bif Nat.beq p 90 then some (47, 0, 1, 1, []) else none) else (bif Nat.beq p 89 then some (0, 0, 1, 1, []) else none)) else (bif Nat.beq p 86 then some (34, 0, 9, 3, []) else none)) else (bif Nat.ble 80 p then (bif Nat.ble 83 p then (bif Nat.beq p 83 then some (5, 1, 2, 3, []) else none) else (bif Nat.beq p 80 then some (5, 1, 1, 3, []) else none)) else (bif Nat.beq p 77 then some (46, 0, 158, 3, []) else none))) else (bif Nat.ble 69 p then (bif Nat.ble 72 p then (bif Nat.ble 75 p then (bif Nat.beq p 75 then some (1, 0, 4, 2, []) else none) else (bif Nat.beq p 72 then some (46, 0, 150, 3, []) else none)) else (bif Nat.beq p 69 then some (35, 0, 87, 3, []) else none)) else (bif Nat.ble 64 p then (bif Nat.ble 66 p then (bif Nat.beq p 66 then some (35, 0, 145, 3, []) else none) else (bif Nat.beq p 64 then some (1, 0, 5, 2, []) else none)) else (bif Nat.beq p 63 then some (2, 0, 0, 1, []) else none)))) else (bif Nat.ble 52 p then (bif Nat.ble 58 p then (bif Nat.ble 59 p then (bif Nat.ble 62 p then (bif Nat.beq p 62 then some (2, (-1), 0, 1, []) else none) else (bif Nat.beq p 59 then some (46, 0, 142, 3, []) else none)) else (bif Nat.beq p 58 then some (0, 0, 3, 1, []) else none)) else (bif Nat.ble 55 p then (bif Nat.ble 57 p then (bif Nat.beq p 57 then some (1, 0, 0, 1, []) else none) else (bif Nat.beq p 55 then some (1, 0, 5, 2, []) else none)) else (bif Nat.beq p 52 then some (34, 0, 89, 3, []) else none))) else (bif Nat.ble 45 p then (bif Nat.ble 47 p then (bif Nat.ble 49 p then (bif Nat.beq p 49 then some (53, 0, 55, 3, []) else none) else (bif Nat.beq p 47 then some (1, 0, 5, 2, []) else none)) else (bif Nat.beq p 45 then some (4, 0, 5, 2, []) else none)) else (bif Nat.ble 42 p then (bif Nat.beq p 42 then some (46, 0, 134, 3, []) else none) else (bif Nat.beq p 41 then some (2, 0, 0, 1, []) else none))))) else (bif Nat.ble 17 p then (bif Nat.ble 31 p then (bif Nat.ble 34 p then (bif Nat.ble 37 p then (bif Nat.ble 39 p then (bif Nat.beq p 39 then some (1, 0, 4, 2, []) else none) else (bif Nat.beq p 37 then some (4, 0, 4, 2, []) else none)) else (bif Nat.beq p 34 then some (46, 0, 130, 3, []) else none)) else (bif Nat.ble 32 p then (bif Nat.ble 33 p then (bif Nat.beq p 33 then some (0, 0, 3, 1, []) else none) else (bif Nat.beq p 32 then some (1, 0, 0, 1, []) else none)) else (bif Nat.beq p 31 then some (3, 0, 3, 1, []) else none))) else (bif Nat.ble 26 p then (bif Nat.ble 27 p then (bif Nat.ble 30 p then (bif Nat.beq p 30 then some (2, 1, 0, 1, []) else none) else (bif Nat.beq p 27 then some (34, 0, 31, 3, []) else none)) else (bif Nat.beq p 26 then some (2, 0, 0, 1, []) else none)) else (bif Nat.ble 20 p then (bif Nat.ble 23 p then (bif Nat.beq p 23 then some (33, 0, 30, 3, []) else none) else (bif Nat.beq p 20 then some (35, 0, 161, 3, []) else none)) else (bif Nat.beq p 17 then some (35, 0, 28, 3, []) else none)))) else (bif Nat.ble 7 p then (bif Nat.ble 10 p then (bif Nat.ble 13 p then (bif Nat.ble 16 p then (bif Nat.beq p 16 then some (1, 0, 0, 1, []) else none) else (bif Nat.beq p 13 then some (25, 0, 89, 3, []) else none)) else (bif Nat.beq p 10 then some (2, 160, 0, 3, []) else none)) else (bif Nat.ble 8 p then (bif Nat.ble 9 p then (bif Nat.beq p 9 then some (0, 0, 2, 1, []) else none) else (bif Nat.beq p 8 then some (3, 0, 2, 1, []) else none)) else (bif Nat.beq p 7 then some (2, 0, 0, 1, []) else none))) else (bif Nat.ble 4 p then (bif Nat.ble 5 p then (bif Nat.ble 6 p then (bif Nat.beq p 6 then some (3, 0, 1, 1, []) else none) else (bif Nat.beq p 5 then some (2, 0, 0, 1, []) else none)) else (bif Nat.beq p 4 then some (21, 0, 0, 1, []) else none)) else (bif Nat.ble 1 p then (bif Nat.beq p 1 then some (46, 0, 121, 3, []) else none) else (bif Nat.beq p 0 then some (1, 0, 0, 1, []) else none))))))
def ca_X10_round (y : Nat) (as : List sl_V) (m : sl_M) : Option (sl_PL × sl_M) := bif Nat.ble 72 y then (bif Nat.ble 87 y then (bif Nat.ble 88 y then (bif Nat.beq y 88 then F_X10_hearerOf as m else none) else (bif Nat.beq y 87 then F_X10_laneAt as m else none)) else (bif Nat.beq y 72 then F_X10_bring as m else none)) else (bif Nat.ble 21 y then (bif Nat.ble 69 y then (bif Nat.beq y 69 then F_X10_tickBoth as m else none) else (bif Nat.beq y 21 then F_X4_dropFirst as m else none)) else (bif Nat.beq y 19 then F_X4_nth as m else none))
def sp_X10_round (p : Nat) : Bool := Nat.beq p 9
def mk_X10_round (p : Nat) : List Bool := bif Nat.beq p 9 then [true, true, true, false, false, false] else []
def cl_X10_round (p : Nat) : Option sl_C := bif Nat.ble 159 p then none else (bif Nat.ble 142 p then (bif Nat.ble 150 p then (bif Nat.ble 158 p then (bif Nat.beq p 158 then some (21, 1, 0, 0, 0, 5) else none) else (bif Nat.beq p 150 then some (72, 5, 0, 0, 0, 0) else none)) else (bif Nat.beq p 142 then some (88, 2, 2, 1, 0, 11) else none)) else (bif Nat.ble 130 p then (bif Nat.ble 134 p then (bif Nat.beq p 134 then some (19, 2, 3, 2, 0, 5) else none) else (bif Nat.beq p 130 then some (87, 2, 2, 4, 1, 11) else none)) else (bif Nat.beq p 121 then some (69, 1, 1, 0, 0, 11) else none)))
def R_X10_round (ca : Nat → List sl_V → sl_M → Option (sl_PL × sl_M)) : Nat → sl_S → sl_M → Option (sl_PL × sl_M) := sl_B tb_X10_round fl_X10 pf_X10 cl_X10_round nw_X10 sl_rd sl_wr sl_al sl_ln 0 (fun _ => 0) ca sp_X10_round mk_X10_round
def F_X10_round (as : List sl_V) (m : sl_M) : Option (sl_PL × sl_M) := R_X10_round ca_X10_round 100000 (0, sl_lo 6 as, []) m
def f_X10_round  (m : sl_M) : Option (sl_PL × sl_M) := F_X10_round [.inr (.inl (some (10, 0)))] m
def r_X10_round_0 (ca : Nat → List sl_V → sl_M → Option (sl_PL × sl_M)) (n : Nat)  (m : sl_M) : Option (sl_PL × sl_M) := R_X10_round ca n (0, sl_lo 6 [.inr (.inl (some (10, 0)))], []) m
def r_X10_round_9 (ca : Nat → List sl_V → sl_M → Option (sl_PL × sl_M)) (n : Nat) (v1 : Int32) (v2 : Int32) (m : sl_M) : Option (sl_PL × sl_M) := R_X10_round ca n (9, [some (.inr (.inl (some (10, 0)))), some (.inl v1), some (.inl v2), none, none, none], []) m
def b_X10_round_9 (n : Nat) (v1 : Int32) (v2 : Int32) (m : sl_M) : Option (sl_PL × sl_M) := r_X10_round_9 ca_X10_round n v1 v2 m
set_option maxRecDepth 100000 in
theorem g_X10_round_0 (ca : Nat → List sl_V → sl_M → Option (sl_PL × sl_M)) (n : Nat)  (m : sl_M) : r_X10_round_0 ca (n + 1) m =
  (ca 69 [.inr (.inl (some (10, 0)))] m).bind (fun q1 =>
  r_X10_round_9 ca n (0 : Int32) (0 : Int32) q1.2) := by rfl
set_option maxRecDepth 100000 in
theorem g_X10_round_9 (ca : Nat → List sl_V → sl_M → Option (sl_PL × sl_M)) (n : Nat) (v1 : Int32) (v2 : Int32) (m : sl_M) : r_X10_round_9 ca (n + 1) v1 v2 m =
  if (160 : Int32) ≤ v2 then
    some ((v1, 0, 0), m)
  else
    if (m.1 4 0 4) ≤ 0 then
      (ca 87 [.inr (.inl (some (10, 0))), .inl (1 : Int32)] m).bind (fun q1 =>
      if q1.1.2.2 = 2 then some ((0, 0, 2), q1.2) else
      (ca 19 [.inr (.inl (some (4, q1.1.2.1))), .inl (0 : Int32)] q1.2).bind (fun q2 =>
      if q2.1.2.2 = 1 then
        some ((v1, 0, 0), q2.2)
      else
        (ca 88 [.inr (.inl (some (10, 0))), .inl (1 : Int32)] q2.2).bind (fun q3 =>
        (ca 72 [.inr (.inl (some (2, q2.1.2.1))), .inr (.inl (some (1, q3.1.2.1))), .inl (-1 : Int32), .inl (0 : Int32), .inl (q3.2.1 6 (14 + q2.1.2.1) 1)] q3.2).bind (fun q4 =>
        (ca 21 [.inr (.inl (some (4, q1.1.2.1)))] q4.2).bind (fun q5 =>
        r_X10_round_9 ca n (v1 + (1 : Int32)) (v2 + (1 : Int32)) q5.2)))))
    else
      (ca 87 [.inr (.inl (some (10, 0))), .inl (0 : Int32)] m).bind (fun q6 =>
      if q6.1.2.2 = 2 then some ((0, 0, 2), q6.2) else
      (ca 19 [.inr (.inl (some (4, q6.1.2.1))), .inl (0 : Int32)] q6.2).bind (fun q7 =>
      if q7.1.2.2 = 1 then
        some ((v1, 0, 0), q7.2)
      else
        (ca 88 [.inr (.inl (some (10, 0))), .inl (0 : Int32)] q7.2).bind (fun q8 =>
        (ca 72 [.inr (.inl (some (2, q7.1.2.1))), .inr (.inl (some (1, q8.1.2.1))), .inl (-1 : Int32), .inl (0 : Int32), .inl (q8.2.1 6 (14 + q7.1.2.1) 1)] q8.2).bind (fun q9 =>
        (ca 21 [.inr (.inl (some (4, q6.1.2.1)))] q9.2).bind (fun q10 =>
        r_X10_round_9 ca n (v1 + (1 : Int32)) (v2 + (1 : Int32)) q10.2))))) := by rfl
theorem cq_X10_round_X4_nth (this : Nat) (a0 : Int32) (m : sl_M) : ca_X10_round 19 [.inr (.inl (some (4, this))), .inl a0] m = f_X4_nth this a0 m := by
  unfold ca_X10_round f_X4_nth
  rw [show Nat.ble 72 19 = false from rfl, cond_false, show Nat.ble 21 19 = false from rfl, cond_false, show Nat.beq 19 19 = true from rfl, cond_true]
theorem cq_X10_round_X4_dropFirst (this : Nat) (m : sl_M) : ca_X10_round 21 [.inr (.inl (some (4, this)))] m = f_X4_dropFirst this m := by
  unfold ca_X10_round f_X4_dropFirst
  rw [show Nat.ble 72 21 = false from rfl, cond_false, show Nat.ble 21 21 = true from rfl, cond_true, show Nat.ble 69 21 = false from rfl, cond_false, show Nat.beq 21 21 = true from rfl, cond_true]
theorem cq_X10_round_X10_tickBoth  (m : sl_M) : ca_X10_round 69 [.inr (.inl (some (10, 0)))] m = f_X10_tickBoth m := by
  unfold ca_X10_round f_X10_tickBoth
  rw [show Nat.ble 72 69 = false from rfl, cond_false, show Nat.ble 21 69 = true from rfl, cond_true, show Nat.ble 69 69 = true from rfl, cond_true, show Nat.beq 69 69 = true from rfl, cond_true]
theorem cq_X10_round_X10_bring (a0 : Nat) (a1 : Nat) (a2 : Int32) (a3 : Int32) (a4 : Int32) (m : sl_M) : ca_X10_round 72 [.inr (.inl (some (2, a0))), .inr (.inl (some (1, a1))), .inl a2, .inl a3, .inl a4] m = f_X10_bring a0 a1 a2 a3 a4 m := by
  unfold ca_X10_round f_X10_bring
  rw [show Nat.ble 72 72 = true from rfl, cond_true, show Nat.ble 87 72 = false from rfl, cond_false, show Nat.beq 72 72 = true from rfl, cond_true]
theorem cq_X10_round_X10_laneAt (a0 : Int32) (m : sl_M) : ca_X10_round 87 [.inr (.inl (some (10, 0))), .inl a0] m = f_X10_laneAt a0 m := by
  unfold ca_X10_round f_X10_laneAt
  rw [show Nat.ble 72 87 = true from rfl, cond_true, show Nat.ble 87 87 = true from rfl, cond_true, show Nat.ble 88 87 = false from rfl, cond_false, show Nat.beq 87 87 = true from rfl, cond_true]
theorem cq_X10_round_X10_hearerOf (a0 : Int32) (m : sl_M) : ca_X10_round 88 [.inr (.inl (some (10, 0))), .inl a0] m = f_X10_hearerOf a0 m := by
  unfold ca_X10_round f_X10_hearerOf
  rw [show Nat.ble 72 88 = true from rfl, cond_true, show Nat.ble 87 88 = true from rfl, cond_true, show Nat.ble 88 88 = true from rfl, cond_true, show Nat.beq 88 88 = true from rfl, cond_true]
theorem bq_X10_round_9 (n : Nat) (v1 : Int32) (v2 : Int32) (m : sl_M) : r_X10_round_9 ca_X10_round n v1 v2 m = b_X10_round_9 n v1 v2 m := rfl
theorem e_X10_round  (m : sl_M) : f_X10_round m =
  (f_X10_tickBoth m).bind (fun q1 =>
  b_X10_round_9 99999 (0 : Int32) (0 : Int32) q1.2) := by
  have h := g_X10_round_0 ca_X10_round 99999 m
  simp only [cq_X10_round_X4_nth, cq_X10_round_X4_dropFirst, cq_X10_round_X10_tickBoth, cq_X10_round_X10_bring, cq_X10_round_X10_laneAt, cq_X10_round_X10_hearerOf, bq_X10_round_9] at h
  exact h
theorem e_X10_round_9 (n : Nat) (v1 : Int32) (v2 : Int32) (m : sl_M) : b_X10_round_9 (n + 1) v1 v2 m =
  if (160 : Int32) ≤ v2 then
    some ((v1, 0, 0), m)
  else
    if (m.1 4 0 4) ≤ 0 then
      (f_X10_laneAt (1 : Int32) m).bind (fun q1 =>
      if q1.1.2.2 = 2 then some ((0, 0, 2), q1.2) else
      (f_X4_nth q1.1.2.1 (0 : Int32) q1.2).bind (fun q2 =>
      if q2.1.2.2 = 1 then
        some ((v1, 0, 0), q2.2)
      else
        (f_X10_hearerOf (1 : Int32) q2.2).bind (fun q3 =>
        (f_X10_bring q2.1.2.1 q3.1.2.1 (-1 : Int32) (0 : Int32) (q3.2.1 6 (14 + q2.1.2.1) 1) q3.2).bind (fun q4 =>
        (f_X4_dropFirst q1.1.2.1 q4.2).bind (fun q5 =>
        b_X10_round_9 n (v1 + (1 : Int32)) (v2 + (1 : Int32)) q5.2)))))
    else
      (f_X10_laneAt (0 : Int32) m).bind (fun q6 =>
      if q6.1.2.2 = 2 then some ((0, 0, 2), q6.2) else
      (f_X4_nth q6.1.2.1 (0 : Int32) q6.2).bind (fun q7 =>
      if q7.1.2.2 = 1 then
        some ((v1, 0, 0), q7.2)
      else
        (f_X10_hearerOf (0 : Int32) q7.2).bind (fun q8 =>
        (f_X10_bring q7.1.2.1 q8.1.2.1 (-1 : Int32) (0 : Int32) (q8.2.1 6 (14 + q7.1.2.1) 1) q8.2).bind (fun q9 =>
        (f_X4_dropFirst q6.1.2.1 q9.2).bind (fun q10 =>
        b_X10_round_9 n (v1 + (1 : Int32)) (v2 + (1 : Int32)) q10.2))))) := by
  have h := g_X10_round_9 ca_X10_round n v1 v2 m
  simp only [cq_X10_round_X4_nth, cq_X10_round_X4_dropFirst, cq_X10_round_X10_tickBoth, cq_X10_round_X10_bring, cq_X10_round_X10_laneAt, cq_X10_round_X10_hearerOf, bq_X10_round_9] at h
  exact h

def tb_X10_noise (p : Nat) : Option sl_E := bif Nat.ble 54 p then none else (bif Nat.ble 24 p then (bif Nat.ble 38 p then (bif Nat.ble 46 p then (bif Nat.ble 52 p then (bif Nat.ble 53 p then (bif Nat.beq p 53 then some (47, 0, 1, 1, []) else none) else (bif Nat.beq p 52 then some (0, 0, 3, 1, []) else none)) else (bif Nat.ble 49 p then (bif Nat.beq p 49 then some (34, 0, 24, 3, []) else none) else (bif Nat.beq p 46 then some (5, (-1), 5, 3, []) else none))) else (bif Nat.ble 42 p then (bif Nat.ble 43 p then (bif Nat.beq p 43 then some (46, 0, 154, 3, []) else none) else (bif Nat.beq p 42 then some (2, 0, 0, 1, []) else none)) else (bif Nat.ble 41 p then (bif Nat.beq p 41 then some (11, 0, 0, 1, []) else none) else (bif Nat.beq p 38 then some (2, 255, 0, 3, []) else none)))) else (bif Nat.ble 32 p then (bif Nat.ble 36 p then (bif Nat.ble 37 p then (bif Nat.beq p 37 then some (16, 0, 0, 1, []) else none) else (bif Nat.beq p 36 then some (8, 0, 0, 1, []) else none)) else (bif Nat.ble 34 p then (bif Nat.beq p 34 then some (0, 0, 5, 2, []) else none) else (bif Nat.beq p 32 then some (2, 8, 0, 2, []) else none))) else (bif Nat.ble 29 p then (bif Nat.ble 31 p then (bif Nat.beq p 31 then some (0, 0, 2, 1, []) else none) else (bif Nat.beq p 29 then some (1, 0, 4, 2, []) else none)) else (bif Nat.ble 26 p then (bif Nat.beq p 26 then some (30, 0, 52, 3, []) else none) else (bif Nat.beq p 24 then some (0, 0, 5, 2, []) else none))))) else (bif Nat.ble 13 p then (bif Nat.ble 19 p then (bif Nat.ble 21 p then (bif Nat.ble 22 p then (bif Nat.beq p 22 then some (3, 0, 5, 2, []) else none) else (bif Nat.beq p 21 then some (7, 0, 0, 1, []) else none)) else (bif Nat.ble 20 p then (bif Nat.beq p 20 then some (2, 1, 0, 1, []) else none) else (bif Nat.beq p 19 then some (0, 0, 3, 1, []) else none))) else (bif Nat.ble 17 p then (bif Nat.ble 18 p then (bif Nat.beq p 18 then some (47, 0, 1, 1, []) else none) else (bif Nat.beq p 17 then some (2, (-1), 0, 1, []) else none)) else (bif Nat.ble 14 p then (bif Nat.beq p 14 then some (27, 0, 19, 3, []) else none) else (bif Nat.beq p 13 then some (2, 4, 0, 1, []) else none)))) else (bif Nat.ble 7 p then (bif Nat.ble 9 p then (bif Nat.ble 12 p then (bif Nat.beq p 12 then some (0, 0, 3, 1, []) else none) else (bif Nat.beq p 9 then some (24, 0, 17, 3, []) else none)) else (bif Nat.ble 8 p then (bif Nat.beq p 8 then some (2, 1, 0, 1, []) else none) else (bif Nat.beq p 7 then some (0, 0, 3, 1, []) else none))) else (bif Nat.ble 2 p then (bif Nat.ble 5 p then (bif Nat.beq p 5 then some (4, 0, 4, 2, []) else none) else (bif Nat.beq p 2 then some (46, 0, 108, 3, []) else none)) else (bif Nat.ble 1 p then (bif Nat.beq p 1 then some (0, 0, 1, 1, []) else none) else (bif Nat.beq p 0 then some (1, 0, 0, 1, []) else none))))))
def ca_X10_noise (y : Nat) (as : List sl_V) (m : sl_M) : Option (sl_PL × sl_M) := bif Nat.ble 86 y then (bif Nat.beq y 86 then F_X10_endAt as m else none) else (bif Nat.beq y 6 then F_X1_hear as m else none)
def sp_X10_noise (p : Nat) : Bool := Nat.beq p 24
def mk_X10_noise (p : Nat) : List Bool := bif Nat.beq p 24 then [false, false, true, true, true, true] else []
def cl_X10_noise (p : Nat) : Option sl_C := bif Nat.ble 155 p then none else (bif Nat.ble 154 p then (bif Nat.beq p 154 then some (6, 3, 0, 0, 0, 2) else none) else (bif Nat.beq p 108 then some (86, 2, 2, 1, 1, 11) else none))
def R_X10_noise (ca : Nat → List sl_V → sl_M → Option (sl_PL × sl_M)) : Nat → sl_S → sl_M → Option (sl_PL × sl_M) := sl_B tb_X10_noise fl_X10 pf_X10 cl_X10_noise nw_X10 sl_rd sl_wr sl_al sl_ln 0 (fun _ => 0) ca sp_X10_noise mk_X10_noise
def F_X10_noise (as : List sl_V) (m : sl_M) : Option (sl_PL × sl_M) := R_X10_noise ca_X10_noise 100000 (0, sl_lo 6 as, []) m
def f_X10_noise (a0 : Int32) (a1 : Int32) (a2 : Int32) (m : sl_M) : Option (sl_PL × sl_M) := F_X10_noise [.inr (.inl (some (10, 0))), .inl a0, .inl a1, .inl a2] m
def r_X10_noise_0 (ca : Nat → List sl_V → sl_M → Option (sl_PL × sl_M)) (n : Nat) (a0 : Int32) (a1 : Int32) (a2 : Int32) (m : sl_M) : Option (sl_PL × sl_M) := R_X10_noise ca n (0, sl_lo 6 [.inr (.inl (some (10, 0))), .inl a0, .inl a1, .inl a2], []) m
def r_X10_noise_24 (ca : Nat → List sl_V → sl_M → Option (sl_PL × sl_M)) (n : Nat) (v2 : Int32) (v3 : Int32) (v4 : Nat) (v5 : Int32) (m : sl_M) : Option (sl_PL × sl_M) := R_X10_noise ca n (24, [none, none, some (.inl v2), some (.inl v3), some (.inr (.inl (some (1, v4)))), some (.inl v5)], []) m
def b_X10_noise_24 (n : Nat) (v2 : Int32) (v3 : Int32) (v4 : Nat) (v5 : Int32) (m : sl_M) : Option (sl_PL × sl_M) := r_X10_noise_24 ca_X10_noise n v2 v3 v4 v5 m
set_option maxRecDepth 100000 in
theorem g_X10_noise_0 (ca : Nat → List sl_V → sl_M → Option (sl_PL × sl_M)) (n : Nat) (a0 : Int32) (a1 : Int32) (a2 : Int32) (m : sl_M) : r_X10_noise_0 ca (n + 1) a0 a1 a2 m =
  (ca 86 [.inr (.inl (some (10, 0))), .inl a0] m).bind (fun q1 =>
  if q1.1.2.2 = 2 then some ((0, 0, 2), q1.2) else
  if a2 < (1 : Int32) then
    some (((-1 : Int32), 0, 0), q1.2)
  else
    if a2 ≤ (4 : Int32) then
      r_X10_noise_24 ca n a1 a2 q1.1.2.1 (a2 - (1 : Int32)) q1.2
    else
      some (((-1 : Int32), 0, 0), q1.2)) := by rfl
set_option maxRecDepth 100000 in
theorem g_X10_noise_24 (ca : Nat → List sl_V → sl_M → Option (sl_PL × sl_M)) (n : Nat) (v2 : Int32) (v3 : Int32) (v4 : Nat) (v5 : Int32) (m : sl_M) : r_X10_noise_24 ca (n + 1) v2 v3 v4 v5 m =
  if v5 < 0 then
    some ((v3, 0, 0), m)
  else
    (ca 6 [.inr (.inl (some (1, v4))), .inl ((sl_ush v2 ((8 : Int32) * v5)) &&& (255 : Int32)), .inl (0 : Int32)] m).bind (fun q1 =>
    r_X10_noise_24 ca n v2 v3 v4 (v5 + (-1 : Int32)) q1.2) := by rfl
theorem cq_X10_noise_X1_hear (this : Nat) (a0 : Int32) (a1 : Int32) (m : sl_M) : ca_X10_noise 6 [.inr (.inl (some (1, this))), .inl a0, .inl a1] m = f_X1_hear this a0 a1 m := by
  unfold ca_X10_noise f_X1_hear
  rw [show Nat.ble 86 6 = false from rfl, cond_false, show Nat.beq 6 6 = true from rfl, cond_true]
theorem cq_X10_noise_X10_endAt (a0 : Int32) (m : sl_M) : ca_X10_noise 86 [.inr (.inl (some (10, 0))), .inl a0] m = f_X10_endAt a0 m := by
  unfold ca_X10_noise f_X10_endAt
  rw [show Nat.ble 86 86 = true from rfl, cond_true, show Nat.beq 86 86 = true from rfl, cond_true]
theorem bq_X10_noise_24 (n : Nat) (v2 : Int32) (v3 : Int32) (v4 : Nat) (v5 : Int32) (m : sl_M) : r_X10_noise_24 ca_X10_noise n v2 v3 v4 v5 m = b_X10_noise_24 n v2 v3 v4 v5 m := rfl
theorem e_X10_noise (a0 : Int32) (a1 : Int32) (a2 : Int32) (m : sl_M) : f_X10_noise a0 a1 a2 m =
  (f_X10_endAt a0 m).bind (fun q1 =>
  if q1.1.2.2 = 2 then some ((0, 0, 2), q1.2) else
  if a2 < (1 : Int32) then
    some (((-1 : Int32), 0, 0), q1.2)
  else
    if a2 ≤ (4 : Int32) then
      b_X10_noise_24 99999 a1 a2 q1.1.2.1 (a2 - (1 : Int32)) q1.2
    else
      some (((-1 : Int32), 0, 0), q1.2)) := by
  have h := g_X10_noise_0 ca_X10_noise 99999 a0 a1 a2 m
  simp only [cq_X10_noise_X1_hear, cq_X10_noise_X10_endAt, bq_X10_noise_24] at h
  exact h
theorem e_X10_noise_24 (n : Nat) (v2 : Int32) (v3 : Int32) (v4 : Nat) (v5 : Int32) (m : sl_M) : b_X10_noise_24 (n + 1) v2 v3 v4 v5 m =
  if v5 < 0 then
    some ((v3, 0, 0), m)
  else
    (f_X1_hear v4 ((sl_ush v2 ((8 : Int32) * v5)) &&& (255 : Int32)) (0 : Int32) m).bind (fun q1 =>
    b_X10_noise_24 n v2 v3 v4 (v5 + (-1 : Int32)) q1.2) := by
  have h := g_X10_noise_24 ca_X10_noise n v2 v3 v4 v5 m
  simp only [cq_X10_noise_X1_hear, cq_X10_noise_X10_endAt, bq_X10_noise_24] at h
  exact h

def tb_X10_frame (p : Nat) : Option sl_E := bif Nat.ble 95 p then none else (bif Nat.ble 63 p then (bif Nat.ble 79 p then (bif Nat.ble 88 p then (bif Nat.ble 92 p then (bif Nat.ble 93 p then (bif Nat.ble 94 p then (bif Nat.beq p 94 then some (47, 0, 1, 1, []) else none) else (bif Nat.beq p 93 then some (2, (-1), 0, 1, []) else none)) else (bif Nat.beq p 92 then some (47, 0, 1, 1, []) else none)) else (bif Nat.ble 91 p then (bif Nat.beq p 91 then some (2, 0, 0, 1, []) else none) else (bif Nat.beq p 88 then some (34, 0, 92, 3, []) else none))) else (bif Nat.ble 84 p then (bif Nat.ble 87 p then (bif Nat.beq p 87 then some (2, 1, 0, 1, []) else none) else (bif Nat.beq p 84 then some (28, 0, 91, 3, []) else none)) else (bif Nat.ble 81 p then (bif Nat.beq p 81 then some (35, 0, 180, 3, []) else none) else (bif Nat.beq p 79 then some (1, 0, 4, 2, []) else none)))) else (bif Nat.ble 72 p then (bif Nat.ble 75 p then (bif Nat.ble 78 p then (bif Nat.beq p 78 then some (47, 0, 1, 1, []) else none) else (bif Nat.beq p 75 then some (35, 0, 177, 3, []) else none)) else (bif Nat.ble 73 p then (bif Nat.beq p 73 then some (1, 0, 4, 2, []) else none) else (bif Nat.beq p 72 then some (47, 0, 1, 1, []) else none))) else (bif Nat.ble 67 p then (bif Nat.ble 69 p then (bif Nat.beq p 69 then some (35, 0, 174, 3, []) else none) else (bif Nat.beq p 67 then some (1, 0, 4, 2, []) else none)) else (bif Nat.ble 66 p then (bif Nat.beq p 66 then some (47, 0, 1, 1, []) else none) else (bif Nat.beq p 63 then some (35, 0, 171, 3, []) else none))))) else (bif Nat.ble 16 p then (bif Nat.ble 52 p then (bif Nat.ble 57 p then (bif Nat.ble 60 p then (bif Nat.ble 61 p then (bif Nat.beq p 61 then some (1, 0, 4, 2, []) else none) else (bif Nat.beq p 60 then some (47, 0, 1, 1, []) else none)) else (bif Nat.beq p 57 then some (35, 0, 87, 3, []) else none)) else (bif Nat.ble 54 p then (bif Nat.beq p 54 then some (35, 0, 145, 3, []) else none) else (bif Nat.beq p 52 then some (1, 0, 4, 2, []) else none))) else (bif Nat.ble 18 p then (bif Nat.ble 19 p then (bif Nat.beq p 19 then some (57, 0, 93, 33, [52, 61, 67, 73, 79]) else none) else (bif Nat.beq p 18 then some (0, 0, 3, 1, []) else none)) else (bif Nat.ble 17 p then (bif Nat.beq p 17 then some (47, 0, 1, 1, []) else none) else (bif Nat.beq p 16 then some (2, (-1), 0, 1, []) else none)))) else (bif Nat.ble 6 p then (bif Nat.ble 11 p then (bif Nat.ble 13 p then (bif Nat.beq p 13 then some (53, 0, 18, 3, []) else none) else (bif Nat.beq p 11 then some (1, 0, 4, 2, []) else none)) else (bif Nat.ble 9 p then (bif Nat.beq p 9 then some (4, 0, 4, 2, []) else none) else (bif Nat.beq p 6 then some (46, 0, 134, 3, []) else none))) else (bif Nat.ble 2 p then (bif Nat.ble 5 p then (bif Nat.beq p 5 then some (0, 0, 2, 1, []) else none) else (bif Nat.beq p 2 then some (46, 0, 130, 3, []) else none)) else (bif Nat.ble 1 p then (bif Nat.beq p 1 then some (0, 0, 1, 1, []) else none) else (bif Nat.beq p 0 then some (1, 0, 0, 1, []) else none))))))
def ca_X10_frame (y : Nat) (as : List sl_V) (m : sl_M) : Option (sl_PL × sl_M) := bif Nat.ble 87 y then (bif Nat.beq y 87 then F_X10_laneAt as m else none) else (bif Nat.beq y 19 then F_X4_nth as m else none)
def sp_X10_frame (p : Nat) : Bool := false
def mk_X10_frame (p : Nat) : List Bool := []
def cl_X10_frame (p : Nat) : Option sl_C := bif Nat.ble 135 p then none else (bif Nat.ble 134 p then (bif Nat.beq p 134 then some (19, 2, 3, 2, 0, 5) else none) else (bif Nat.beq p 130 then some (87, 2, 2, 4, 1, 11) else none))
def R_X10_frame (ca : Nat → List sl_V → sl_M → Option (sl_PL × sl_M)) : Nat → sl_S → sl_M → Option (sl_PL × sl_M) := sl_B tb_X10_frame fl_X10 pf_X10 cl_X10_frame nw_X10 sl_rd sl_wr sl_al sl_ln 0 (fun _ => 0) ca sp_X10_frame mk_X10_frame
def F_X10_frame (as : List sl_V) (m : sl_M) : Option (sl_PL × sl_M) := R_X10_frame ca_X10_frame 100000 (0, sl_lo 5 as, []) m
def f_X10_frame (a0 : Int32) (a1 : Int32) (a2 : Int32) (m : sl_M) : Option (sl_PL × sl_M) := F_X10_frame [.inr (.inl (some (10, 0))), .inl a0, .inl a1, .inl a2] m
def r_X10_frame_0 (ca : Nat → List sl_V → sl_M → Option (sl_PL × sl_M)) (n : Nat) (a0 : Int32) (a1 : Int32) (a2 : Int32) (m : sl_M) : Option (sl_PL × sl_M) := R_X10_frame ca n (0, sl_lo 5 [.inr (.inl (some (10, 0))), .inl a0, .inl a1, .inl a2], []) m
set_option maxRecDepth 100000 in
theorem g_X10_frame_0 (ca : Nat → List sl_V → sl_M → Option (sl_PL × sl_M)) (n : Nat) (a0 : Int32) (a1 : Int32) (a2 : Int32) (m : sl_M) : r_X10_frame_0 ca (n + 1) a0 a1 a2 m =
  (ca 87 [.inr (.inl (some (10, 0))), .inl a0] m).bind (fun q1 =>
  if q1.1.2.2 = 2 then some ((0, 0, 2), q1.2) else
  (ca 19 [.inr (.inl (some (4, q1.1.2.1))), .inl a1] q1.2).bind (fun q2 =>
  if q2.1.2.2 = 1 then
    some (((-1 : Int32), 0, 0), q2.2)
  else
    if a2 = (0 : Int32) then
      some (((q2.2.1 6 (14 + q2.1.2.1) 1), 0, 0), q2.2)
    else if a2 = (1 : Int32) then
      some (((q2.2.1 2 q2.1.2.1 1), 0, 0), q2.2)
    else if a2 = (2 : Int32) then
      some (((q2.2.1 2 q2.1.2.1 2), 0, 0), q2.2)
    else if a2 = (3 : Int32) then
      some (((q2.2.1 2 q2.1.2.1 3), 0, 0), q2.2)
    else if a2 = (4 : Int32) then
      if (q2.2.1 2 q2.1.2.1 4) = 0 then
        some (((0 : Int32), 0, 0), q2.2)
      else
        some (((1 : Int32), 0, 0), q2.2)
    else 
    some (((-1 : Int32), 0, 0), q2.2))) := by rfl
theorem cq_X10_frame_X4_nth (this : Nat) (a0 : Int32) (m : sl_M) : ca_X10_frame 19 [.inr (.inl (some (4, this))), .inl a0] m = f_X4_nth this a0 m := by
  unfold ca_X10_frame f_X4_nth
  rw [show Nat.ble 87 19 = false from rfl, cond_false, show Nat.beq 19 19 = true from rfl, cond_true]
theorem cq_X10_frame_X10_laneAt (a0 : Int32) (m : sl_M) : ca_X10_frame 87 [.inr (.inl (some (10, 0))), .inl a0] m = f_X10_laneAt a0 m := by
  unfold ca_X10_frame f_X10_laneAt
  rw [show Nat.ble 87 87 = true from rfl, cond_true, show Nat.beq 87 87 = true from rfl, cond_true]
theorem e_X10_frame (a0 : Int32) (a1 : Int32) (a2 : Int32) (m : sl_M) : f_X10_frame a0 a1 a2 m =
  (f_X10_laneAt a0 m).bind (fun q1 =>
  if q1.1.2.2 = 2 then some ((0, 0, 2), q1.2) else
  (f_X4_nth q1.1.2.1 a1 q1.2).bind (fun q2 =>
  if q2.1.2.2 = 1 then
    some (((-1 : Int32), 0, 0), q2.2)
  else
    if a2 = (0 : Int32) then
      some (((q2.2.1 6 (14 + q2.1.2.1) 1), 0, 0), q2.2)
    else if a2 = (1 : Int32) then
      some (((q2.2.1 2 q2.1.2.1 1), 0, 0), q2.2)
    else if a2 = (2 : Int32) then
      some (((q2.2.1 2 q2.1.2.1 2), 0, 0), q2.2)
    else if a2 = (3 : Int32) then
      some (((q2.2.1 2 q2.1.2.1 3), 0, 0), q2.2)
    else if a2 = (4 : Int32) then
      if (q2.2.1 2 q2.1.2.1 4) = 0 then
        some (((0 : Int32), 0, 0), q2.2)
      else
        some (((1 : Int32), 0, 0), q2.2)
    else 
    some (((-1 : Int32), 0, 0), q2.2))) := by
  have h := g_X10_frame_0 ca_X10_frame 99999 a0 a1 a2 m
  simp only [cq_X10_frame_X4_nth, cq_X10_frame_X10_laneAt] at h
  exact h

def tb_X10_octet (p : Nat) : Option sl_E := bif Nat.ble 30 p then none else (bif Nat.ble 13 p then (bif Nat.ble 22 p then (bif Nat.ble 26 p then (bif Nat.ble 29 p then (bif Nat.beq p 29 then some (47, 0, 1, 1, []) else none) else (bif Nat.beq p 26 then some (46, 0, 167, 3, []) else none)) else (bif Nat.ble 25 p then (bif Nat.beq p 25 then some (0, 0, 3, 1, []) else none) else (bif Nat.beq p 22 then some (35, 0, 145, 3, []) else none))) else (bif Nat.ble 17 p then (bif Nat.ble 20 p then (bif Nat.beq p 20 then some (1, 0, 4, 2, []) else none) else (bif Nat.beq p 17 then some (34, 0, 29, 3, []) else none)) else (bif Nat.ble 16 p then (bif Nat.beq p 16 then some (2, (-1), 0, 1, []) else none) else (bif Nat.beq p 13 then some (53, 0, 20, 3, []) else none)))) else (bif Nat.ble 5 p then (bif Nat.ble 9 p then (bif Nat.ble 11 p then (bif Nat.beq p 11 then some (1, 0, 4, 2, []) else none) else (bif Nat.beq p 9 then some (4, 0, 4, 2, []) else none)) else (bif Nat.ble 6 p then (bif Nat.beq p 6 then some (46, 0, 134, 3, []) else none) else (bif Nat.beq p 5 then some (0, 0, 2, 1, []) else none))) else (bif Nat.ble 1 p then (bif Nat.ble 2 p then (bif Nat.beq p 2 then some (46, 0, 130, 3, []) else none) else (bif Nat.beq p 1 then some (0, 0, 1, 1, []) else none)) else (bif Nat.beq p 0 then some (1, 0, 0, 1, []) else none))))
def ca_X10_octet (y : Nat) (as : List sl_V) (m : sl_M) : Option (sl_PL × sl_M) := bif Nat.ble 36 y then (bif Nat.ble 87 y then (bif Nat.beq y 87 then F_X10_laneAt as m else none) else (bif Nat.beq y 36 then F_X6_at as m else none)) else (bif Nat.beq y 19 then F_X4_nth as m else none)
def sp_X10_octet (p : Nat) : Bool := false
def mk_X10_octet (p : Nat) : List Bool := []
def cl_X10_octet (p : Nat) : Option sl_C := bif Nat.ble 168 p then none else (bif Nat.ble 134 p then (bif Nat.ble 167 p then (bif Nat.beq p 167 then some (36, 2, 1, 0, 0, 7) else none) else (bif Nat.beq p 134 then some (19, 2, 3, 2, 0, 5) else none)) else (bif Nat.beq p 130 then some (87, 2, 2, 4, 1, 11) else none))
def R_X10_octet (ca : Nat → List sl_V → sl_M → Option (sl_PL × sl_M)) : Nat → sl_S → sl_M → Option (sl_PL × sl_M) := sl_B tb_X10_octet fl_X10 pf_X10 cl_X10_octet nw_X10 sl_rd sl_wr sl_al sl_ln 0 (fun _ => 0) ca sp_X10_octet mk_X10_octet
def F_X10_octet (as : List sl_V) (m : sl_M) : Option (sl_PL × sl_M) := R_X10_octet ca_X10_octet 100000 (0, sl_lo 5 as, []) m
def f_X10_octet (a0 : Int32) (a1 : Int32) (a2 : Int32) (m : sl_M) : Option (sl_PL × sl_M) := F_X10_octet [.inr (.inl (some (10, 0))), .inl a0, .inl a1, .inl a2] m
def r_X10_octet_0 (ca : Nat → List sl_V → sl_M → Option (sl_PL × sl_M)) (n : Nat) (a0 : Int32) (a1 : Int32) (a2 : Int32) (m : sl_M) : Option (sl_PL × sl_M) := R_X10_octet ca n (0, sl_lo 5 [.inr (.inl (some (10, 0))), .inl a0, .inl a1, .inl a2], []) m
set_option maxRecDepth 100000 in
theorem g_X10_octet_0 (ca : Nat → List sl_V → sl_M → Option (sl_PL × sl_M)) (n : Nat) (a0 : Int32) (a1 : Int32) (a2 : Int32) (m : sl_M) : r_X10_octet_0 ca (n + 1) a0 a1 a2 m =
  (ca 87 [.inr (.inl (some (10, 0))), .inl a0] m).bind (fun q1 =>
  if q1.1.2.2 = 2 then some ((0, 0, 2), q1.2) else
  (ca 19 [.inr (.inl (some (4, q1.1.2.1))), .inl a1] q1.2).bind (fun q2 =>
  if q2.1.2.2 = 1 then
    some (((-1 : Int32), 0, 0), q2.2)
  else
    (ca 36 [.inr (.inl (some (6, (14 + q2.1.2.1)))), .inl a2] q2.2).bind (fun q3 =>
    some ((q3.1.1, 0, 0), q3.2)))) := by rfl
theorem cq_X10_octet_X4_nth (this : Nat) (a0 : Int32) (m : sl_M) : ca_X10_octet 19 [.inr (.inl (some (4, this))), .inl a0] m = f_X4_nth this a0 m := by
  unfold ca_X10_octet f_X4_nth
  rw [show Nat.ble 36 19 = false from rfl, cond_false, show Nat.beq 19 19 = true from rfl, cond_true]
theorem cq_X10_octet_X6_at (this : Nat) (a0 : Int32) (m : sl_M) : ca_X10_octet 36 [.inr (.inl (some (6, this))), .inl a0] m = f_X6_at this a0 m := by
  unfold ca_X10_octet f_X6_at
  rw [show Nat.ble 36 36 = true from rfl, cond_true, show Nat.ble 87 36 = false from rfl, cond_false, show Nat.beq 36 36 = true from rfl, cond_true]
theorem cq_X10_octet_X10_laneAt (a0 : Int32) (m : sl_M) : ca_X10_octet 87 [.inr (.inl (some (10, 0))), .inl a0] m = f_X10_laneAt a0 m := by
  unfold ca_X10_octet f_X10_laneAt
  rw [show Nat.ble 36 87 = true from rfl, cond_true, show Nat.ble 87 87 = true from rfl, cond_true, show Nat.beq 87 87 = true from rfl, cond_true]
theorem e_X10_octet (a0 : Int32) (a1 : Int32) (a2 : Int32) (m : sl_M) : f_X10_octet a0 a1 a2 m =
  (f_X10_laneAt a0 m).bind (fun q1 =>
  if q1.1.2.2 = 2 then some ((0, 0, 2), q1.2) else
  (f_X4_nth q1.1.2.1 a1 q1.2).bind (fun q2 =>
  if q2.1.2.2 = 1 then
    some (((-1 : Int32), 0, 0), q2.2)
  else
    (f_X6_at (14 + q2.1.2.1) a2 q2.2).bind (fun q3 =>
    some ((q3.1.1, 0, 0), q3.2)))) := by
  have h := g_X10_octet_0 ca_X10_octet 99999 a0 a1 a2 m
  simp only [cq_X10_octet_X4_nth, cq_X10_octet_X6_at, cq_X10_octet_X10_laneAt] at h
  exact h

def tb_X10_line (p : Nat) : Option sl_E := bif Nat.ble 9 p then none else (bif Nat.ble 2 p then (bif Nat.ble 5 p then (bif Nat.ble 8 p then (bif Nat.beq p 8 then some (47, 0, 1, 1, []) else none) else (bif Nat.beq p 5 then some (35, 0, 161, 3, []) else none)) else (bif Nat.beq p 2 then some (46, 0, 130, 3, []) else none)) else (bif Nat.ble 1 p then (bif Nat.beq p 1 then some (0, 0, 1, 1, []) else none) else (bif Nat.beq p 0 then some (1, 0, 0, 1, []) else none)))
def ca_X10_line (y : Nat) (as : List sl_V) (m : sl_M) : Option (sl_PL × sl_M) := bif Nat.beq y 87 then F_X10_laneAt as m else none
def sp_X10_line (p : Nat) : Bool := false
def mk_X10_line (p : Nat) : List Bool := []
def cl_X10_line (p : Nat) : Option sl_C := bif Nat.ble 131 p then none else (bif Nat.beq p 130 then some (87, 2, 2, 4, 1, 11) else none)
def R_X10_line (ca : Nat → List sl_V → sl_M → Option (sl_PL × sl_M)) : Nat → sl_S → sl_M → Option (sl_PL × sl_M) := sl_B tb_X10_line fl_X10 pf_X10 cl_X10_line nw_X10 sl_rd sl_wr sl_al sl_ln 0 (fun _ => 0) ca sp_X10_line mk_X10_line
def F_X10_line (as : List sl_V) (m : sl_M) : Option (sl_PL × sl_M) := R_X10_line ca_X10_line 100000 (0, sl_lo 2 as, []) m
def f_X10_line (a0 : Int32) (m : sl_M) : Option (sl_PL × sl_M) := F_X10_line [.inr (.inl (some (10, 0))), .inl a0] m
def r_X10_line_0 (ca : Nat → List sl_V → sl_M → Option (sl_PL × sl_M)) (n : Nat) (a0 : Int32) (m : sl_M) : Option (sl_PL × sl_M) := R_X10_line ca n (0, sl_lo 2 [.inr (.inl (some (10, 0))), .inl a0], []) m
set_option maxRecDepth 100000 in
theorem g_X10_line_0 (ca : Nat → List sl_V → sl_M → Option (sl_PL × sl_M)) (n : Nat) (a0 : Int32) (m : sl_M) : r_X10_line_0 ca (n + 1) a0 m =
  (ca 87 [.inr (.inl (some (10, 0))), .inl a0] m).bind (fun q1 =>
  if q1.1.2.2 = 2 then some ((0, 0, 2), q1.2) else
  some (((q1.2.1 4 q1.1.2.1 4), 0, 0), q1.2)) := by rfl
theorem cq_X10_line_X10_laneAt (a0 : Int32) (m : sl_M) : ca_X10_line 87 [.inr (.inl (some (10, 0))), .inl a0] m = f_X10_laneAt a0 m := by
  unfold ca_X10_line f_X10_laneAt
  rw [show Nat.beq 87 87 = true from rfl, cond_true]
theorem e_X10_line (a0 : Int32) (m : sl_M) : f_X10_line a0 m =
  (f_X10_laneAt a0 m).bind (fun q1 =>
  if q1.1.2.2 = 2 then some ((0, 0, 2), q1.2) else
  some (((q1.2.1 4 q1.1.2.1 4), 0, 0), q1.2)) := by
  have h := g_X10_line_0 ca_X10_line 99999 a0 m
  simp only [cq_X10_line_X10_laneAt] at h
  exact h

def tb_X10_state (p : Nat) : Option sl_E := bif Nat.ble 148 p then none else (bif Nat.ble 99 p then (bif Nat.ble 123 p then (bif Nat.ble 137 p then (bif Nat.ble 142 p then (bif Nat.ble 146 p then (bif Nat.ble 147 p then (bif Nat.beq p 147 then some (47, 0, 1, 1, []) else none) else (bif Nat.beq p 146 then some (2, (-1), 0, 1, []) else none)) else (bif Nat.ble 145 p then (bif Nat.beq p 145 then some (47, 0, 1, 1, []) else none) else (bif Nat.beq p 142 then some (46, 0, 211, 3, []) else none))) else (bif Nat.ble 138 p then (bif Nat.ble 139 p then (bif Nat.beq p 139 then some (35, 0, 112, 3, []) else none) else (bif Nat.beq p 138 then some (1, 0, 3, 1, []) else none)) else (bif Nat.beq p 137 then some (47, 0, 1, 1, []) else none))) else (bif Nat.ble 130 p then (bif Nat.ble 131 p then (bif Nat.ble 134 p then (bif Nat.beq p 134 then some (35, 0, 87, 3, []) else none) else (bif Nat.beq p 131 then some (35, 0, 164, 3, []) else none)) else (bif Nat.beq p 130 then some (1, 0, 3, 1, []) else none)) else (bif Nat.ble 126 p then (bif Nat.ble 129 p then (bif Nat.beq p 129 then some (47, 0, 1, 1, []) else none) else (bif Nat.beq p 126 then some (35, 0, 208, 3, []) else none)) else (bif Nat.beq p 123 then some (35, 0, 112, 3, []) else none)))) else (bif Nat.ble 113 p then (bif Nat.ble 118 p then (bif Nat.ble 121 p then (bif Nat.ble 122 p then (bif Nat.beq p 122 then some (1, 0, 3, 1, []) else none) else (bif Nat.beq p 121 then some (47, 0, 1, 1, []) else none)) else (bif Nat.beq p 118 then some (46, 0, 205, 3, []) else none)) else (bif Nat.ble 114 p then (bif Nat.ble 115 p then (bif Nat.beq p 115 then some (35, 0, 193, 3, []) else none) else (bif Nat.beq p 114 then some (1, 0, 3, 1, []) else none)) else (bif Nat.beq p 113 then some (47, 0, 1, 1, []) else none))) else (bif Nat.ble 104 p then (bif Nat.ble 107 p then (bif Nat.ble 110 p then (bif Nat.beq p 110 then some (35, 0, 87, 3, []) else none) else (bif Nat.beq p 107 then some (35, 0, 202, 3, []) else none)) else (bif Nat.beq p 104 then some (35, 0, 193, 3, []) else none)) else (bif Nat.ble 102 p then (bif Nat.ble 103 p then (bif Nat.beq p 103 then some (1, 0, 3, 1, []) else none) else (bif Nat.beq p 102 then some (47, 0, 1, 1, []) else none)) else (bif Nat.beq p 99 then some (35, 0, 197, 3, []) else none))))) else (bif Nat.ble 72 p then (bif Nat.ble 86 p then (bif Nat.ble 91 p then (bif Nat.ble 95 p then (bif Nat.ble 96 p then (bif Nat.beq p 96 then some (35, 0, 193, 3, []) else none) else (bif Nat.beq p 95 then some (1, 0, 3, 1, []) else none)) else (bif Nat.ble 94 p then (bif Nat.beq p 94 then some (47, 0, 1, 1, []) else none) else (bif Nat.beq p 91 then some (35, 0, 190, 3, []) else none))) else (bif Nat.ble 87 p then (bif Nat.ble 88 p then (bif Nat.beq p 88 then some (35, 0, 112, 3, []) else none) else (bif Nat.beq p 87 then some (1, 0, 3, 1, []) else none)) else (bif Nat.beq p 86 then some (47, 0, 1, 1, []) else none))) else (bif Nat.ble 79 p then (bif Nat.ble 80 p then (bif Nat.ble 83 p then (bif Nat.beq p 83 then some (35, 0, 187, 3, []) else none) else (bif Nat.beq p 80 then some (35, 0, 112, 3, []) else none)) else (bif Nat.beq p 79 then some (1, 0, 3, 1, []) else none)) else (bif Nat.ble 75 p then (bif Nat.ble 78 p then (bif Nat.beq p 78 then some (47, 0, 1, 1, []) else none) else (bif Nat.beq p 75 then some (35, 0, 184, 3, []) else none)) else (bif Nat.beq p 72 then some (35, 0, 112, 3, []) else none)))) else (bif Nat.ble 60 p then (bif Nat.ble 67 p then (bif Nat.ble 70 p then (bif Nat.ble 71 p then (bif Nat.beq p 71 then some (1, 0, 3, 1, []) else none) else (bif Nat.beq p 70 then some (47, 0, 1, 1, []) else none)) else (bif Nat.beq p 67 then some (35, 0, 87, 3, []) else none)) else (bif Nat.ble 61 p then (bif Nat.ble 64 p then (bif Nat.beq p 64 then some (35, 0, 116, 3, []) else none) else (bif Nat.beq p 61 then some (35, 0, 112, 3, []) else none)) else (bif Nat.beq p 60 then some (1, 0, 3, 1, []) else none))) else (bif Nat.ble 5 p then (bif Nat.ble 6 p then (bif Nat.ble 7 p then (bif Nat.beq p 7 then some (57, 0, 146, 53, [60, 71, 79, 87, 95, 103, 114, 122, 130, 138]) else none) else (bif Nat.beq p 6 then some (0, 0, 2, 1, []) else none)) else (bif Nat.beq p 5 then some (4, 0, 3, 1, []) else none)) else (bif Nat.ble 1 p then (bif Nat.ble 2 p then (bif Nat.beq p 2 then some (46, 0, 108, 3, []) else none) else (bif Nat.beq p 1 then some (0, 0, 1, 1, []) else none)) else (bif Nat.beq p 0 then some (1, 0, 0, 1, []) else none))))))
def ca_X10_state (y : Nat) (as : List sl_V) (m : sl_M) : Option (sl_PL × sl_M) := bif Nat.ble 49 y then (bif Nat.ble 86 y then (bif Nat.beq y 86 then F_X10_endAt as m else none) else (bif Nat.beq y 49 then F_X7_keptPieces as m else none)) else (bif Nat.beq y 31 then F_X5_heldPieces as m else none)
def sp_X10_state (p : Nat) : Bool := false
def mk_X10_state (p : Nat) : List Bool := []
def cl_X10_state (p : Nat) : Option sl_C := bif Nat.ble 212 p then none else (bif Nat.ble 205 p then (bif Nat.ble 211 p then (bif Nat.beq p 211 then some (49, 1, 1, 0, 0, 8) else none) else (bif Nat.beq p 205 then some (31, 1, 1, 0, 0, 6) else none)) else (bif Nat.beq p 108 then some (86, 2, 2, 1, 1, 11) else none))
def R_X10_state (ca : Nat → List sl_V → sl_M → Option (sl_PL × sl_M)) : Nat → sl_S → sl_M → Option (sl_PL × sl_M) := sl_B tb_X10_state fl_X10 pf_X10 cl_X10_state nw_X10 sl_rd sl_wr sl_al sl_ln 0 (fun _ => 0) ca sp_X10_state mk_X10_state
def F_X10_state (as : List sl_V) (m : sl_M) : Option (sl_PL × sl_M) := R_X10_state ca_X10_state 100000 (0, sl_lo 4 as, []) m
def f_X10_state (a0 : Int32) (a1 : Int32) (m : sl_M) : Option (sl_PL × sl_M) := F_X10_state [.inr (.inl (some (10, 0))), .inl a0, .inl a1] m
def r_X10_state_0 (ca : Nat → List sl_V → sl_M → Option (sl_PL × sl_M)) (n : Nat) (a0 : Int32) (a1 : Int32) (m : sl_M) : Option (sl_PL × sl_M) := R_X10_state ca n (0, sl_lo 4 [.inr (.inl (some (10, 0))), .inl a0, .inl a1], []) m
set_option maxRecDepth 100000 in
theorem g_X10_state_0 (ca : Nat → List sl_V → sl_M → Option (sl_PL × sl_M)) (n : Nat) (a0 : Int32) (a1 : Int32) (m : sl_M) : r_X10_state_0 ca (n + 1) a0 a1 m =
  (ca 86 [.inr (.inl (some (10, 0))), .inl a0] m).bind (fun q1 =>
  if q1.1.2.2 = 2 then some ((0, 0, 2), q1.2) else
  if a1 = (0 : Int32) then
    some (((q1.2.1 6 (4 + q1.1.2.1) 1), 0, 0), q1.2)
  else if a1 = (1 : Int32) then
    some (((q1.2.1 7 q1.1.2.1 4), 0, 0), q1.2)
  else if a1 = (2 : Int32) then
    some (((q1.2.1 7 q1.1.2.1 7), 0, 0), q1.2)
  else if a1 = (3 : Int32) then
    some (((q1.2.1 7 q1.1.2.1 8), 0, 0), q1.2)
  else if a1 = (4 : Int32) then
    some (((q1.2.1 5 q1.1.2.1 4), 0, 0), q1.2)
  else if a1 = (5 : Int32) then
    some (((q1.2.1 6 (6 + q1.1.2.1) 1), 0, 0), q1.2)
  else if a1 = (6 : Int32) then
    (ca 31 [.inr (.inl (some (5, q1.1.2.1)))] q1.2).bind (fun q2 =>
    some ((q2.1.1, 0, 0), q2.2))
  else if a1 = (7 : Int32) then
    some (((q1.2.1 7 q1.1.2.1 5), 0, 0), q1.2)
  else if a1 = (8 : Int32) then
    some (((q1.2.1 6 (10 + q1.1.2.1) 1), 0, 0), q1.2)
  else if a1 = (9 : Int32) then
    (ca 49 [.inr (.inl (some (7, q1.1.2.1)))] q1.2).bind (fun q3 =>
    some ((q3.1.1, 0, 0), q3.2))
  else 
  some (((-1 : Int32), 0, 0), q1.2)) := by rfl
theorem cq_X10_state_X5_heldPieces (this : Nat) (m : sl_M) : ca_X10_state 31 [.inr (.inl (some (5, this)))] m = f_X5_heldPieces this m := by
  unfold ca_X10_state f_X5_heldPieces
  rw [show Nat.ble 49 31 = false from rfl, cond_false, show Nat.beq 31 31 = true from rfl, cond_true]
theorem cq_X10_state_X7_keptPieces (this : Nat) (m : sl_M) : ca_X10_state 49 [.inr (.inl (some (7, this)))] m = f_X7_keptPieces this m := by
  unfold ca_X10_state f_X7_keptPieces
  rw [show Nat.ble 49 49 = true from rfl, cond_true, show Nat.ble 86 49 = false from rfl, cond_false, show Nat.beq 49 49 = true from rfl, cond_true]
theorem cq_X10_state_X10_endAt (a0 : Int32) (m : sl_M) : ca_X10_state 86 [.inr (.inl (some (10, 0))), .inl a0] m = f_X10_endAt a0 m := by
  unfold ca_X10_state f_X10_endAt
  rw [show Nat.ble 49 86 = true from rfl, cond_true, show Nat.ble 86 86 = true from rfl, cond_true, show Nat.beq 86 86 = true from rfl, cond_true]
theorem e_X10_state (a0 : Int32) (a1 : Int32) (m : sl_M) : f_X10_state a0 a1 m =
  (f_X10_endAt a0 m).bind (fun q1 =>
  if q1.1.2.2 = 2 then some ((0, 0, 2), q1.2) else
  if a1 = (0 : Int32) then
    some (((q1.2.1 6 (4 + q1.1.2.1) 1), 0, 0), q1.2)
  else if a1 = (1 : Int32) then
    some (((q1.2.1 7 q1.1.2.1 4), 0, 0), q1.2)
  else if a1 = (2 : Int32) then
    some (((q1.2.1 7 q1.1.2.1 7), 0, 0), q1.2)
  else if a1 = (3 : Int32) then
    some (((q1.2.1 7 q1.1.2.1 8), 0, 0), q1.2)
  else if a1 = (4 : Int32) then
    some (((q1.2.1 5 q1.1.2.1 4), 0, 0), q1.2)
  else if a1 = (5 : Int32) then
    some (((q1.2.1 6 (6 + q1.1.2.1) 1), 0, 0), q1.2)
  else if a1 = (6 : Int32) then
    (f_X5_heldPieces q1.1.2.1 q1.2).bind (fun q2 =>
    some ((q2.1.1, 0, 0), q2.2))
  else if a1 = (7 : Int32) then
    some (((q1.2.1 7 q1.1.2.1 5), 0, 0), q1.2)
  else if a1 = (8 : Int32) then
    some (((q1.2.1 6 (10 + q1.1.2.1) 1), 0, 0), q1.2)
  else if a1 = (9 : Int32) then
    (f_X7_keptPieces q1.1.2.1 q1.2).bind (fun q3 =>
    some ((q3.1.1, 0, 0), q3.2))
  else 
  some (((-1 : Int32), 0, 0), q1.2)) := by
  have h := g_X10_state_0 ca_X10_state 99999 a0 a1 m
  simp only [cq_X10_state_X5_heldPieces, cq_X10_state_X7_keptPieces, cq_X10_state_X10_endAt] at h
  exact h

def tb_X10_taken (p : Nat) : Option sl_E := bif Nat.ble 16 p then none else (bif Nat.ble 8 p then (bif Nat.ble 12 p then (bif Nat.ble 15 p then (bif Nat.beq p 15 then some (47, 0, 1, 1, []) else none) else (bif Nat.beq p 12 then some (46, 0, 167, 3, []) else none)) else (bif Nat.ble 11 p then (bif Nat.beq p 11 then some (0, 0, 2, 1, []) else none) else (bif Nat.beq p 8 then some (35, 0, 202, 3, []) else none))) else (bif Nat.ble 2 p then (bif Nat.ble 5 p then (bif Nat.beq p 5 then some (35, 0, 193, 3, []) else none) else (bif Nat.beq p 2 then some (46, 0, 108, 3, []) else none)) else (bif Nat.ble 1 p then (bif Nat.beq p 1 then some (0, 0, 1, 1, []) else none) else (bif Nat.beq p 0 then some (1, 0, 0, 1, []) else none))))
def ca_X10_taken (y : Nat) (as : List sl_V) (m : sl_M) : Option (sl_PL × sl_M) := bif Nat.ble 86 y then (bif Nat.beq y 86 then F_X10_endAt as m else none) else (bif Nat.beq y 36 then F_X6_at as m else none)
def sp_X10_taken (p : Nat) : Bool := false
def mk_X10_taken (p : Nat) : List Bool := []
def cl_X10_taken (p : Nat) : Option sl_C := bif Nat.ble 168 p then none else (bif Nat.ble 167 p then (bif Nat.beq p 167 then some (36, 2, 1, 0, 0, 7) else none) else (bif Nat.beq p 108 then some (86, 2, 2, 1, 1, 11) else none))
def R_X10_taken (ca : Nat → List sl_V → sl_M → Option (sl_PL × sl_M)) : Nat → sl_S → sl_M → Option (sl_PL × sl_M) := sl_B tb_X10_taken fl_X10 pf_X10 cl_X10_taken nw_X10 sl_rd sl_wr sl_al sl_ln 0 (fun _ => 0) ca sp_X10_taken mk_X10_taken
def F_X10_taken (as : List sl_V) (m : sl_M) : Option (sl_PL × sl_M) := R_X10_taken ca_X10_taken 100000 (0, sl_lo 3 as, []) m
def f_X10_taken (a0 : Int32) (a1 : Int32) (m : sl_M) : Option (sl_PL × sl_M) := F_X10_taken [.inr (.inl (some (10, 0))), .inl a0, .inl a1] m
def r_X10_taken_0 (ca : Nat → List sl_V → sl_M → Option (sl_PL × sl_M)) (n : Nat) (a0 : Int32) (a1 : Int32) (m : sl_M) : Option (sl_PL × sl_M) := R_X10_taken ca n (0, sl_lo 3 [.inr (.inl (some (10, 0))), .inl a0, .inl a1], []) m
set_option maxRecDepth 100000 in
theorem g_X10_taken_0 (ca : Nat → List sl_V → sl_M → Option (sl_PL × sl_M)) (n : Nat) (a0 : Int32) (a1 : Int32) (m : sl_M) : r_X10_taken_0 ca (n + 1) a0 a1 m =
  (ca 86 [.inr (.inl (some (10, 0))), .inl a0] m).bind (fun q1 =>
  if q1.1.2.2 = 2 then some ((0, 0, 2), q1.2) else
  (ca 36 [.inr (.inl (some (6, (6 + q1.1.2.1)))), .inl a1] q1.2).bind (fun q2 =>
  some ((q2.1.1, 0, 0), q2.2))) := by rfl
theorem cq_X10_taken_X6_at (this : Nat) (a0 : Int32) (m : sl_M) : ca_X10_taken 36 [.inr (.inl (some (6, this))), .inl a0] m = f_X6_at this a0 m := by
  unfold ca_X10_taken f_X6_at
  rw [show Nat.ble 86 36 = false from rfl, cond_false, show Nat.beq 36 36 = true from rfl, cond_true]
theorem cq_X10_taken_X10_endAt (a0 : Int32) (m : sl_M) : ca_X10_taken 86 [.inr (.inl (some (10, 0))), .inl a0] m = f_X10_endAt a0 m := by
  unfold ca_X10_taken f_X10_endAt
  rw [show Nat.ble 86 86 = true from rfl, cond_true, show Nat.beq 86 86 = true from rfl, cond_true]
theorem e_X10_taken (a0 : Int32) (a1 : Int32) (m : sl_M) : f_X10_taken a0 a1 m =
  (f_X10_endAt a0 m).bind (fun q1 =>
  if q1.1.2.2 = 2 then some ((0, 0, 2), q1.2) else
  (f_X6_at (6 + q1.1.2.1) a1 q1.2).bind (fun q2 =>
  some ((q2.1.1, 0, 0), q2.2))) := by
  have h := g_X10_taken_0 ca_X10_taken 99999 a0 a1 m
  simp only [cq_X10_taken_X6_at, cq_X10_taken_X10_endAt] at h
  exact h

def tb_X10_count (p : Nat) : Option sl_E := bif Nat.ble 9 p then none else (bif Nat.ble 4 p then (bif Nat.ble 5 p then (bif Nat.ble 8 p then (bif Nat.beq p 8 then some (47, 0, 1, 1, []) else none) else (bif Nat.beq p 5 then some (46, 0, 214, 3, []) else none)) else (bif Nat.beq p 4 then some (0, 0, 1, 1, []) else none)) else (bif Nat.ble 1 p then (bif Nat.beq p 1 then some (35, 0, 19, 3, []) else none) else (bif Nat.beq p 0 then some (1, 0, 0, 1, []) else none)))
def ca_X10_count (y : Nat) (as : List sl_V) (m : sl_M) : Option (sl_PL × sl_M) := bif Nat.beq y 60 then F_X9_of as m else none
def sp_X10_count (p : Nat) : Bool := false
def mk_X10_count (p : Nat) : List Bool := []
def cl_X10_count (p : Nat) : Option sl_C := bif Nat.ble 215 p then none else (bif Nat.beq p 214 then some (60, 2, 1, 0, 0, 10) else none)
def R_X10_count (ca : Nat → List sl_V → sl_M → Option (sl_PL × sl_M)) : Nat → sl_S → sl_M → Option (sl_PL × sl_M) := sl_B tb_X10_count fl_X10 pf_X10 cl_X10_count nw_X10 sl_rd sl_wr sl_al sl_ln 0 (fun _ => 0) ca sp_X10_count mk_X10_count
def F_X10_count (as : List sl_V) (m : sl_M) : Option (sl_PL × sl_M) := R_X10_count ca_X10_count 100000 (0, sl_lo 2 as, []) m
def f_X10_count (a0 : Int32) (m : sl_M) : Option (sl_PL × sl_M) := F_X10_count [.inr (.inl (some (10, 0))), .inl a0] m
def r_X10_count_0 (ca : Nat → List sl_V → sl_M → Option (sl_PL × sl_M)) (n : Nat) (a0 : Int32) (m : sl_M) : Option (sl_PL × sl_M) := R_X10_count ca n (0, sl_lo 2 [.inr (.inl (some (10, 0))), .inl a0], []) m
set_option maxRecDepth 100000 in
theorem g_X10_count_0 (ca : Nat → List sl_V → sl_M → Option (sl_PL × sl_M)) (n : Nat) (a0 : Int32) (m : sl_M) : r_X10_count_0 ca (n + 1) a0 m =
  (ca 60 [.inr (.inl (some (9, 0))), .inl a0] m).bind (fun q1 =>
  some ((q1.1.1, 0, 0), q1.2)) := by rfl
theorem cq_X10_count_X9_of (a0 : Int32) (m : sl_M) : ca_X10_count 60 [.inr (.inl (some (9, 0))), .inl a0] m = f_X9_of a0 m := by
  unfold ca_X10_count f_X9_of
  rw [show Nat.beq 60 60 = true from rfl, cond_true]
theorem e_X10_count (a0 : Int32) (m : sl_M) : f_X10_count a0 m =
  (f_X9_of a0 m).bind (fun q1 =>
  some ((q1.1.1, 0, 0), q1.2)) := by
  have h := g_X10_count_0 ca_X10_count 99999 a0 m
  simp only [cq_X10_count_X9_of] at h
  exact h

def tb_X10_stuff (p : Nat) : Option sl_E := bif Nat.ble 26 p then none else (bif Nat.ble 12 p then (bif Nat.ble 19 p then (bif Nat.ble 22 p then (bif Nat.ble 25 p then (bif Nat.beq p 25 then some (47, 0, 1, 1, []) else none) else (bif Nat.beq p 22 then some (35, 0, 87, 3, []) else none)) else (bif Nat.beq p 19 then some (35, 0, 56, 3, []) else none)) else (bif Nat.ble 15 p then (bif Nat.ble 18 p then (bif Nat.beq p 18 then some (1, 0, 0, 1, []) else none) else (bif Nat.beq p 15 then some (46, 0, 97, 3, []) else none)) else (bif Nat.beq p 12 then some (35, 0, 52, 3, []) else none))) else (bif Nat.ble 5 p then (bif Nat.ble 8 p then (bif Nat.ble 11 p then (bif Nat.beq p 11 then some (1, 0, 0, 1, []) else none) else (bif Nat.beq p 8 then some (46, 0, 217, 3, []) else none)) else (bif Nat.beq p 5 then some (35, 0, 56, 3, []) else none)) else (bif Nat.ble 1 p then (bif Nat.ble 4 p then (bif Nat.beq p 4 then some (1, 0, 0, 1, []) else none) else (bif Nat.beq p 1 then some (35, 0, 52, 3, []) else none)) else (bif Nat.beq p 0 then some (1, 0, 0, 1, []) else none))))
def ca_X10_stuff (y : Nat) (as : List sl_V) (m : sl_M) : Option (sl_PL × sl_M) := bif Nat.ble 33 y then (bif Nat.beq y 33 then F_X6_clear as m else none) else (bif Nat.beq y 1 then F_X0_pack as m else none)
def sp_X10_stuff (p : Nat) : Bool := false
def mk_X10_stuff (p : Nat) : List Bool := []
def cl_X10_stuff (p : Nat) : Option sl_C := bif Nat.ble 218 p then none else (bif Nat.ble 217 p then (bif Nat.beq p 217 then some (1, 2, 0, 0, 0, 0) else none) else (bif Nat.beq p 97 then some (33, 1, 0, 0, 0, 7) else none))
def R_X10_stuff (ca : Nat → List sl_V → sl_M → Option (sl_PL × sl_M)) : Nat → sl_S → sl_M → Option (sl_PL × sl_M) := sl_B tb_X10_stuff fl_X10 pf_X10 cl_X10_stuff nw_X10 sl_rd sl_wr sl_al sl_ln 0 (fun _ => 0) ca sp_X10_stuff mk_X10_stuff
def F_X10_stuff (as : List sl_V) (m : sl_M) : Option (sl_PL × sl_M) := R_X10_stuff ca_X10_stuff 100000 (0, sl_lo 1 as, []) m
def f_X10_stuff  (m : sl_M) : Option (sl_PL × sl_M) := F_X10_stuff [.inr (.inl (some (10, 0)))] m
def r_X10_stuff_0 (ca : Nat → List sl_V → sl_M → Option (sl_PL × sl_M)) (n : Nat)  (m : sl_M) : Option (sl_PL × sl_M) := R_X10_stuff ca n (0, sl_lo 1 [.inr (.inl (some (10, 0)))], []) m
set_option maxRecDepth 100000 in
theorem g_X10_stuff_0 (ca : Nat → List sl_V → sl_M → Option (sl_PL × sl_M)) (n : Nat)  (m : sl_M) : r_X10_stuff_0 ca (n + 1) m =
  (ca 1 [.inr (.inl (some (6, 0))), .inr (.inl (some (6, 1)))] m).bind (fun q1 =>
  (ca 33 [.inr (.inl (some (6, 0)))] q1.2).bind (fun q2 =>
  some (((q2.2.1 6 1 1), 0, 0), q2.2))) := by rfl
theorem cq_X10_stuff_X0_pack (a0 : Nat) (a1 : Nat) (m : sl_M) : ca_X10_stuff 1 [.inr (.inl (some (6, a0))), .inr (.inl (some (6, a1)))] m = f_X0_pack a0 a1 m := by
  unfold ca_X10_stuff f_X0_pack
  rw [show Nat.ble 33 1 = false from rfl, cond_false, show Nat.beq 1 1 = true from rfl, cond_true]
theorem cq_X10_stuff_X6_clear (this : Nat) (m : sl_M) : ca_X10_stuff 33 [.inr (.inl (some (6, this)))] m = f_X6_clear this m := by
  unfold ca_X10_stuff f_X6_clear
  rw [show Nat.ble 33 33 = true from rfl, cond_true, show Nat.beq 33 33 = true from rfl, cond_true]
theorem e_X10_stuff  (m : sl_M) : f_X10_stuff m =
  (f_X0_pack 0 1 m).bind (fun q1 =>
  (f_X6_clear 0 q1.2).bind (fun q2 =>
  some (((q2.2.1 6 1 1), 0, 0), q2.2))) := by
  have h := g_X10_stuff_0 ca_X10_stuff 99999 m
  simp only [cq_X10_stuff_X0_pack, cq_X10_stuff_X6_clear] at h
  exact h

def tb_X10_unstuff (p : Nat) : Option sl_E := bif Nat.ble 50 p then none else (bif Nat.ble 24 p then (bif Nat.ble 38 p then (bif Nat.ble 45 p then (bif Nat.ble 48 p then (bif Nat.ble 49 p then (bif Nat.beq p 49 then some (47, 0, 1, 1, []) else none) else (bif Nat.beq p 48 then some (2, (-1), 0, 1, []) else none)) else (bif Nat.beq p 45 then some (34, 0, 49, 3, []) else none)) else (bif Nat.ble 39 p then (bif Nat.ble 42 p then (bif Nat.beq p 42 then some (35, 0, 87, 3, []) else none) else (bif Nat.beq p 39 then some (35, 0, 56, 3, []) else none)) else (bif Nat.beq p 38 then some (1, 0, 0, 1, []) else none))) else (bif Nat.ble 31 p then (bif Nat.ble 34 p then (bif Nat.ble 35 p then (bif Nat.beq p 35 then some (28, 0, 48, 3, []) else none) else (bif Nat.beq p 34 then some (0, 0, 1, 1, []) else none)) else (bif Nat.beq p 31 then some (46, 0, 97, 3, []) else none)) else (bif Nat.ble 27 p then (bif Nat.ble 28 p then (bif Nat.beq p 28 then some (35, 0, 52, 3, []) else none) else (bif Nat.beq p 27 then some (1, 0, 0, 1, []) else none)) else (bif Nat.beq p 24 then some (46, 0, 227, 3, []) else none)))) else (bif Nat.ble 12 p then (bif Nat.ble 17 p then (bif Nat.ble 20 p then (bif Nat.ble 21 p then (bif Nat.beq p 21 then some (35, 0, 56, 3, []) else none) else (bif Nat.beq p 20 then some (1, 0, 0, 1, []) else none)) else (bif Nat.beq p 17 then some (35, 0, 52, 3, []) else none)) else (bif Nat.ble 13 p then (bif Nat.ble 16 p then (bif Nat.beq p 16 then some (1, 0, 0, 1, []) else none) else (bif Nat.beq p 13 then some (28, 0, 27, 3, []) else none)) else (bif Nat.beq p 12 then some (0, 0, 1, 1, []) else none))) else (bif Nat.ble 5 p then (bif Nat.ble 8 p then (bif Nat.ble 11 p then (bif Nat.beq p 11 then some (3, 0, 1, 1, []) else none) else (bif Nat.beq p 8 then some (46, 0, 223, 3, []) else none)) else (bif Nat.beq p 5 then some (35, 0, 52, 3, []) else none)) else (bif Nat.ble 1 p then (bif Nat.ble 4 p then (bif Nat.beq p 4 then some (1, 0, 0, 1, []) else none) else (bif Nat.beq p 1 then some (35, 0, 62, 3, []) else none)) else (bif Nat.beq p 0 then some (1, 0, 0, 1, []) else none)))))
def ca_X10_unstuff (y : Nat) (as : List sl_V) (m : sl_M) : Option (sl_PL × sl_M) := bif Nat.ble 15 y then (bif Nat.ble 33 y then (bif Nat.beq y 33 then F_X6_clear as m else none) else (bif Nat.beq y 15 then F_X3_isSound as m else none)) else (bif Nat.beq y 2 then F_X0_unpack as m else none)
def sp_X10_unstuff (p : Nat) : Bool := false
def mk_X10_unstuff (p : Nat) : List Bool := []
def cl_X10_unstuff (p : Nat) : Option sl_C := bif Nat.ble 228 p then none else (bif Nat.ble 223 p then (bif Nat.ble 227 p then (bif Nat.beq p 227 then some (2, 2, 0, 0, 0, 0) else none) else (bif Nat.beq p 223 then some (15, 2, 1, 0, 0, 4) else none)) else (bif Nat.beq p 97 then some (33, 1, 0, 0, 0, 7) else none))
def R_X10_unstuff (ca : Nat → List sl_V → sl_M → Option (sl_PL × sl_M)) : Nat → sl_S → sl_M → Option (sl_PL × sl_M) := sl_B tb_X10_unstuff fl_X10 pf_X10 cl_X10_unstuff nw_X10 sl_rd sl_wr sl_al sl_ln 0 (fun _ => 0) ca sp_X10_unstuff mk_X10_unstuff
def F_X10_unstuff (as : List sl_V) (m : sl_M) : Option (sl_PL × sl_M) := R_X10_unstuff ca_X10_unstuff 100000 (0, sl_lo 2 as, []) m
def f_X10_unstuff  (m : sl_M) : Option (sl_PL × sl_M) := F_X10_unstuff [.inr (.inl (some (10, 0)))] m
def r_X10_unstuff_0 (ca : Nat → List sl_V → sl_M → Option (sl_PL × sl_M)) (n : Nat)  (m : sl_M) : Option (sl_PL × sl_M) := R_X10_unstuff ca n (0, sl_lo 2 [.inr (.inl (some (10, 0)))], []) m
set_option maxRecDepth 100000 in
theorem g_X10_unstuff_0 (ca : Nat → List sl_V → sl_M → Option (sl_PL × sl_M)) (n : Nat)  (m : sl_M) : r_X10_unstuff_0 ca (n + 1) m =
  (ca 15 [.inr (.inl (some (3, 0))), .inr (.inl (some (6, 0)))] m).bind (fun q1 =>
  if q1.1.1 = 0 then
    (ca 33 [.inr (.inl (some (6, 0)))] q1.2).bind (fun q2 =>
    if q1.1.1 = 0 then
      some (((-1 : Int32), 0, 0), q2.2)
    else
      some (((q2.2.1 6 1 1), 0, 0), q2.2))
  else
    (ca 2 [.inr (.inl (some (6, 0))), .inr (.inl (some (6, 1)))] q1.2).bind (fun q3 =>
    (ca 33 [.inr (.inl (some (6, 0)))] q3.2).bind (fun q4 =>
    if q1.1.1 = 0 then
      some (((-1 : Int32), 0, 0), q4.2)
    else
      some (((q4.2.1 6 1 1), 0, 0), q4.2)))) := by rfl
theorem cq_X10_unstuff_X0_unpack (a0 : Nat) (a1 : Nat) (m : sl_M) : ca_X10_unstuff 2 [.inr (.inl (some (6, a0))), .inr (.inl (some (6, a1)))] m = f_X0_unpack a0 a1 m := by
  unfold ca_X10_unstuff f_X0_unpack
  rw [show Nat.ble 15 2 = false from rfl, cond_false, show Nat.beq 2 2 = true from rfl, cond_true]
theorem cq_X10_unstuff_X3_isSound (this : Nat) (a0 : Nat) (m : sl_M) : ca_X10_unstuff 15 [.inr (.inl (some (3, this))), .inr (.inl (some (6, a0)))] m = f_X3_isSound this a0 m := by
  unfold ca_X10_unstuff f_X3_isSound
  rw [show Nat.ble 15 15 = true from rfl, cond_true, show Nat.ble 33 15 = false from rfl, cond_false, show Nat.beq 15 15 = true from rfl, cond_true]
theorem cq_X10_unstuff_X6_clear (this : Nat) (m : sl_M) : ca_X10_unstuff 33 [.inr (.inl (some (6, this)))] m = f_X6_clear this m := by
  unfold ca_X10_unstuff f_X6_clear
  rw [show Nat.ble 15 33 = true from rfl, cond_true, show Nat.ble 33 33 = true from rfl, cond_true, show Nat.beq 33 33 = true from rfl, cond_true]
theorem e_X10_unstuff  (m : sl_M) : f_X10_unstuff m =
  (f_X3_isSound 0 0 m).bind (fun q1 =>
  if q1.1.1 = 0 then
    (f_X6_clear 0 q1.2).bind (fun q2 =>
    if q1.1.1 = 0 then
      some (((-1 : Int32), 0, 0), q2.2)
    else
      some (((q2.2.1 6 1 1), 0, 0), q2.2))
  else
    (f_X0_unpack 0 1 q1.2).bind (fun q3 =>
    (f_X6_clear 0 q3.2).bind (fun q4 =>
    if q1.1.1 = 0 then
      some (((-1 : Int32), 0, 0), q4.2)
    else
      some (((q4.2.1 6 1 1), 0, 0), q4.2)))) := by
  have h := g_X10_unstuff_0 ca_X10_unstuff 99999 m
  simp only [cq_X10_unstuff_X0_unpack, cq_X10_unstuff_X3_isSound, cq_X10_unstuff_X6_clear] at h
  exact h
