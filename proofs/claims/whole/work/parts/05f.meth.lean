def tb_X10_fault (p : Nat) : Option sl_E := bif Nat.ble 29 p then none else (bif Nat.ble 13 p then (bif Nat.ble 21 p then (bif Nat.ble 27 p then (bif Nat.ble 28 p then (bif Nat.beq p 28 then some (47, 0, 1, 1, []) else none) else (bif Nat.beq p 27 then some (2, (-1), 0, 1, []) else none)) else (bif Nat.ble 24 p then (bif Nat.beq p 24 then some (34, 0, 28, 3, []) else none) else (bif Nat.beq p 21 then some (35, 0, 233, 3, []) else none))) else (bif Nat.ble 17 p then (bif Nat.ble 18 p then (bif Nat.beq p 18 then some (35, 0, 62, 3, []) else none) else (bif Nat.beq p 17 then some (1, 0, 0, 1, []) else none)) else (bif Nat.ble 14 p then (bif Nat.beq p 14 then some (23, 0, 27, 3, []) else none) else (bif Nat.beq p 13 then some (2, 1, 0, 1, []) else none)))) else (bif Nat.ble 5 p then (bif Nat.ble 11 p then (bif Nat.ble 12 p then (bif Nat.beq p 12 then some (0, 0, 1, 1, []) else none) else (bif Nat.beq p 11 then some (47, 0, 1, 1, []) else none)) else (bif Nat.ble 8 p then (bif Nat.beq p 8 then some (35, 0, 230, 3, []) else none) else (bif Nat.beq p 5 then some (35, 0, 62, 3, []) else none))) else (bif Nat.ble 1 p then (bif Nat.ble 4 p then (bif Nat.beq p 4 then some (1, 0, 0, 1, []) else none) else (bif Nat.beq p 1 then some (29, 0, 12, 3, []) else none)) else (bif Nat.beq p 0 then some (0, 0, 1, 1, []) else none))))
def ca_X10_fault (y : Nat) (as : List sl_V) (m : sl_M) : Option (sl_PL × sl_M) := none
def sp_X10_fault (p : Nat) : Bool := false
def mk_X10_fault (p : Nat) : List Bool := []
def cl_X10_fault (p : Nat) : Option sl_C := none
def R_X10_fault (ca : Nat → List sl_V → sl_M → Option (sl_PL × sl_M)) : Nat → sl_S → sl_M → Option (sl_PL × sl_M) := sl_B tb_X10_fault fl_X10 pf_X10 cl_X10_fault nw_X10 sl_rd sl_wr sl_al sl_ln 0 (fun _ => 0) ca sp_X10_fault mk_X10_fault
def F_X10_fault (as : List sl_V) (m : sl_M) : Option (sl_PL × sl_M) := R_X10_fault ca_X10_fault 100000 (0, sl_lo 2 as, []) m
def f_X10_fault (a0 : Int32) (m : sl_M) : Option (sl_PL × sl_M) := F_X10_fault [.inr (.inl (some (10, 0))), .inl a0] m
def r_X10_fault_0 (ca : Nat → List sl_V → sl_M → Option (sl_PL × sl_M)) (n : Nat) (a0 : Int32) (m : sl_M) : Option (sl_PL × sl_M) := R_X10_fault ca n (0, sl_lo 2 [.inr (.inl (some (10, 0))), .inl a0], []) m
set_option maxRecDepth 100000 in
theorem g_X10_fault_0 (ca : Nat → List sl_V → sl_M → Option (sl_PL × sl_M)) (n : Nat) (a0 : Int32) (m : sl_M) : r_X10_fault_0 ca (n + 1) a0 m =
  if a0 = 0 then
    some (((m.1 3 0 0), 0, 0), m)
  else
    if a0 = (1 : Int32) then
      some (((m.1 3 0 1), 0, 0), m)
    else
      some (((-1 : Int32), 0, 0), m) := by rfl
theorem e_X10_fault (a0 : Int32) (m : sl_M) : f_X10_fault a0 m =
  if a0 = 0 then
    some (((m.1 3 0 0), 0, 0), m)
  else
    if a0 = (1 : Int32) then
      some (((m.1 3 0 1), 0, 0), m)
    else
      some (((-1 : Int32), 0, 0), m) := by
  have h := g_X10_fault_0 ca_X10_fault 99999 a0 m
  exact h

def tb_X10_check (p : Nat) : Option sl_E := bif Nat.ble 24 p then none else (bif Nat.ble 14 p then (bif Nat.ble 19 p then (bif Nat.ble 22 p then (bif Nat.ble 23 p then (bif Nat.beq p 23 then some (47, 0, 1, 1, []) else none) else (bif Nat.beq p 22 then some (0, 0, 1, 1, []) else none)) else (bif Nat.beq p 19 then some (46, 0, 97, 3, []) else none)) else (bif Nat.ble 15 p then (bif Nat.ble 16 p then (bif Nat.beq p 16 then some (35, 0, 52, 3, []) else none) else (bif Nat.beq p 15 then some (1, 0, 0, 1, []) else none)) else (bif Nat.beq p 14 then some (3, 0, 1, 1, []) else none))) else (bif Nat.ble 5 p then (bif Nat.ble 8 p then (bif Nat.ble 11 p then (bif Nat.beq p 11 then some (46, 0, 236, 3, []) else none) else (bif Nat.beq p 8 then some (35, 0, 87, 3, []) else none)) else (bif Nat.beq p 5 then some (35, 0, 52, 3, []) else none)) else (bif Nat.ble 1 p then (bif Nat.ble 4 p then (bif Nat.beq p 4 then some (1, 0, 0, 1, []) else none) else (bif Nat.beq p 1 then some (35, 0, 52, 3, []) else none)) else (bif Nat.beq p 0 then some (1, 0, 0, 1, []) else none))))
def ca_X10_check (y : Nat) (as : List sl_V) (m : sl_M) : Option (sl_PL × sl_M) := bif Nat.ble 33 y then (bif Nat.beq y 33 then F_X6_clear as m else none) else (bif Nat.beq y 0 then F_X0_checkOf as m else none)
def sp_X10_check (p : Nat) : Bool := false
def mk_X10_check (p : Nat) : List Bool := []
def cl_X10_check (p : Nat) : Option sl_C := bif Nat.ble 237 p then none else (bif Nat.ble 236 p then (bif Nat.beq p 236 then some (0, 2, 1, 0, 0, 0) else none) else (bif Nat.beq p 97 then some (33, 1, 0, 0, 0, 7) else none))
def R_X10_check (ca : Nat → List sl_V → sl_M → Option (sl_PL × sl_M)) : Nat → sl_S → sl_M → Option (sl_PL × sl_M) := sl_B tb_X10_check fl_X10 pf_X10 cl_X10_check nw_X10 sl_rd sl_wr sl_al sl_ln 0 (fun _ => 0) ca sp_X10_check mk_X10_check
def F_X10_check (as : List sl_V) (m : sl_M) : Option (sl_PL × sl_M) := R_X10_check ca_X10_check 100000 (0, sl_lo 2 as, []) m
def f_X10_check  (m : sl_M) : Option (sl_PL × sl_M) := F_X10_check [.inr (.inl (some (10, 0)))] m
def r_X10_check_0 (ca : Nat → List sl_V → sl_M → Option (sl_PL × sl_M)) (n : Nat)  (m : sl_M) : Option (sl_PL × sl_M) := R_X10_check ca n (0, sl_lo 2 [.inr (.inl (some (10, 0)))], []) m
set_option maxRecDepth 100000 in
theorem g_X10_check_0 (ca : Nat → List sl_V → sl_M → Option (sl_PL × sl_M)) (n : Nat)  (m : sl_M) : r_X10_check_0 ca (n + 1) m =
  (ca 0 [.inr (.inl (some (6, 0))), .inl (m.1 6 0 1)] m).bind (fun q1 =>
  (ca 33 [.inr (.inl (some (6, 0)))] q1.2).bind (fun q2 =>
  some ((q1.1.1, 0, 0), q2.2))) := by rfl
theorem cq_X10_check_X0_checkOf (a0 : Nat) (a1 : Int32) (m : sl_M) : ca_X10_check 0 [.inr (.inl (some (6, a0))), .inl a1] m = f_X0_checkOf a0 a1 m := by
  unfold ca_X10_check f_X0_checkOf
  rw [show Nat.ble 33 0 = false from rfl, cond_false, show Nat.beq 0 0 = true from rfl, cond_true]
theorem cq_X10_check_X6_clear (this : Nat) (m : sl_M) : ca_X10_check 33 [.inr (.inl (some (6, this)))] m = f_X6_clear this m := by
  unfold ca_X10_check f_X6_clear
  rw [show Nat.ble 33 33 = true from rfl, cond_true, show Nat.beq 33 33 = true from rfl, cond_true]
theorem e_X10_check  (m : sl_M) : f_X10_check m =
  (f_X0_checkOf 0 (m.1 6 0 1) m).bind (fun q1 =>
  (f_X6_clear 0 q1.2).bind (fun q2 =>
  some ((q1.1.1, 0, 0), q2.2))) := by
  have h := g_X10_check_0 ca_X10_check 99999 m
  simp only [cq_X10_check_X0_checkOf, cq_X10_check_X6_clear] at h
  exact h

def tb_X10_out (p : Nat) : Option sl_E := bif Nat.ble 9 p then none else (bif Nat.ble 4 p then (bif Nat.ble 5 p then (bif Nat.ble 8 p then (bif Nat.beq p 8 then some (47, 0, 1, 1, []) else none) else (bif Nat.beq p 5 then some (46, 0, 167, 3, []) else none)) else (bif Nat.beq p 4 then some (0, 0, 1, 1, []) else none)) else (bif Nat.ble 1 p then (bif Nat.beq p 1 then some (35, 0, 56, 3, []) else none) else (bif Nat.beq p 0 then some (1, 0, 0, 1, []) else none)))
def ca_X10_out (y : Nat) (as : List sl_V) (m : sl_M) : Option (sl_PL × sl_M) := bif Nat.beq y 36 then F_X6_at as m else none
def sp_X10_out (p : Nat) : Bool := false
def mk_X10_out (p : Nat) : List Bool := []
def cl_X10_out (p : Nat) : Option sl_C := bif Nat.ble 168 p then none else (bif Nat.beq p 167 then some (36, 2, 1, 0, 0, 7) else none)
def R_X10_out (ca : Nat → List sl_V → sl_M → Option (sl_PL × sl_M)) : Nat → sl_S → sl_M → Option (sl_PL × sl_M) := sl_B tb_X10_out fl_X10 pf_X10 cl_X10_out nw_X10 sl_rd sl_wr sl_al sl_ln 0 (fun _ => 0) ca sp_X10_out mk_X10_out
def F_X10_out (as : List sl_V) (m : sl_M) : Option (sl_PL × sl_M) := R_X10_out ca_X10_out 100000 (0, sl_lo 2 as, []) m
def f_X10_out (a0 : Int32) (m : sl_M) : Option (sl_PL × sl_M) := F_X10_out [.inr (.inl (some (10, 0))), .inl a0] m
def r_X10_out_0 (ca : Nat → List sl_V → sl_M → Option (sl_PL × sl_M)) (n : Nat) (a0 : Int32) (m : sl_M) : Option (sl_PL × sl_M) := R_X10_out ca n (0, sl_lo 2 [.inr (.inl (some (10, 0))), .inl a0], []) m
set_option maxRecDepth 100000 in
theorem g_X10_out_0 (ca : Nat → List sl_V → sl_M → Option (sl_PL × sl_M)) (n : Nat) (a0 : Int32) (m : sl_M) : r_X10_out_0 ca (n + 1) a0 m =
  (ca 36 [.inr (.inl (some (6, 1))), .inl a0] m).bind (fun q1 =>
  some ((q1.1.1, 0, 0), q1.2)) := by rfl
theorem cq_X10_out_X6_at (this : Nat) (a0 : Int32) (m : sl_M) : ca_X10_out 36 [.inr (.inl (some (6, this))), .inl a0] m = f_X6_at this a0 m := by
  unfold ca_X10_out f_X6_at
  rw [show Nat.beq 36 36 = true from rfl, cond_true]
theorem e_X10_out (a0 : Int32) (m : sl_M) : f_X10_out a0 m =
  (f_X6_at 1 a0 m).bind (fun q1 =>
  some ((q1.1.1, 0, 0), q1.2)) := by
  have h := g_X10_out_0 ca_X10_out 99999 a0 m
  simp only [cq_X10_out_X6_at] at h
  exact h

def tb_X11_thrown (p : Nat) : Option sl_E := bif Nat.ble 5 p then none else (bif Nat.ble 1 p then (bif Nat.ble 4 p then (bif Nat.beq p 4 then some (47, 0, 1, 1, []) else none) else (bif Nat.beq p 1 then some (35, 0, 7, 3, []) else none)) else (bif Nat.beq p 0 then some (1, 0, 0, 1, []) else none))
def ca_X11_thrown (y : Nat) (as : List sl_V) (m : sl_M) : Option (sl_PL × sl_M) := none
def sp_X11_thrown (p : Nat) : Bool := false
def mk_X11_thrown (p : Nat) : List Bool := []
def cl_X11_thrown (p : Nat) : Option sl_C := none
def R_X11_thrown (ca : Nat → List sl_V → sl_M → Option (sl_PL × sl_M)) : Nat → sl_S → sl_M → Option (sl_PL × sl_M) := sl_B tb_X11_thrown fl_X11 pf_X11 cl_X11_thrown nw_X11 sl_rd sl_wr sl_al sl_ln 0 (fun _ => 0) ca sp_X11_thrown mk_X11_thrown
def F_X11_thrown (as : List sl_V) (m : sl_M) : Option (sl_PL × sl_M) := R_X11_thrown ca_X11_thrown 100000 (0, sl_lo 1 as, []) m
def f_X11_thrown  (m : sl_M) : Option (sl_PL × sl_M) := F_X11_thrown [.inr (.inl (some (11, 0)))] m
def r_X11_thrown_0 (ca : Nat → List sl_V → sl_M → Option (sl_PL × sl_M)) (n : Nat)  (m : sl_M) : Option (sl_PL × sl_M) := R_X11_thrown ca n (0, sl_lo 1 [.inr (.inl (some (11, 0)))], []) m
set_option maxRecDepth 100000 in
theorem g_X11_thrown_0 (ca : Nat → List sl_V → sl_M → Option (sl_PL × sl_M)) (n : Nat)  (m : sl_M) : r_X11_thrown_0 ca (n + 1) m =
  some (((m.1 11 0 0), 0, 0), m) := by rfl
theorem e_X11_thrown  (m : sl_M) : f_X11_thrown m =
  some (((m.1 11 0 0), 0, 0), m) := by
  have h := g_X11_thrown_0 ca_X11_thrown 99999 m
  exact h

def tb_X11_isOut (p : Nat) : Option sl_E := bif Nat.ble 32 p then none else (bif Nat.ble 15 p then (bif Nat.ble 23 p then (bif Nat.ble 27 p then (bif Nat.ble 30 p then (bif Nat.ble 31 p then (bif Nat.beq p 31 then some (47, 0, 2, 1, []) else none) else (bif Nat.beq p 30 then some (2, 0, 0, 1, []) else none)) else (bif Nat.beq p 27 then some (34, 0, 31, 3, []) else none)) else (bif Nat.ble 26 p then (bif Nat.beq p 26 then some (2, 1, 0, 1, []) else none) else (bif Nat.beq p 23 then some (23, 0, 30, 3, []) else none))) else (bif Nat.ble 19 p then (bif Nat.ble 22 p then (bif Nat.beq p 22 then some (2, 1, 0, 1, []) else none) else (bif Nat.beq p 19 then some (35, 0, 7, 3, []) else none)) else (bif Nat.ble 18 p then (bif Nat.beq p 18 then some (1, 0, 0, 1, []) else none) else (bif Nat.beq p 15 then some (36, 0, 7, 3, []) else none)))) else (bif Nat.ble 6 p then (bif Nat.ble 10 p then (bif Nat.ble 11 p then (bif Nat.ble 14 p then (bif Nat.beq p 14 then some (2, 0, 0, 1, []) else none) else (bif Nat.beq p 11 then some (34, 0, 15, 3, []) else none)) else (bif Nat.beq p 10 then some (2, 1, 0, 1, []) else none)) else (bif Nat.ble 7 p then (bif Nat.beq p 7 then some (27, 0, 14, 3, []) else none) else (bif Nat.beq p 6 then some (2, 1, 0, 1, []) else none))) else (bif Nat.ble 2 p then (bif Nat.ble 5 p then (bif Nat.beq p 5 then some (0, 0, 1, 1, []) else none) else (bif Nat.beq p 2 then some (30, 0, 10, 3, []) else none)) else (bif Nat.ble 1 p then (bif Nat.beq p 1 then some (0, 0, 1, 1, []) else none) else (bif Nat.beq p 0 then some (1, 0, 0, 1, []) else none)))))
def ca_X11_isOut (y : Nat) (as : List sl_V) (m : sl_M) : Option (sl_PL × sl_M) := none
def sp_X11_isOut (p : Nat) : Bool := false
def mk_X11_isOut (p : Nat) : List Bool := []
def cl_X11_isOut (p : Nat) : Option sl_C := none
def R_X11_isOut (ca : Nat → List sl_V → sl_M → Option (sl_PL × sl_M)) : Nat → sl_S → sl_M → Option (sl_PL × sl_M) := sl_B tb_X11_isOut fl_X11 pf_X11 cl_X11_isOut nw_X11 sl_rd sl_wr sl_al sl_ln 0 (fun _ => 0) ca sp_X11_isOut mk_X11_isOut
def F_X11_isOut (as : List sl_V) (m : sl_M) : Option (sl_PL × sl_M) := R_X11_isOut ca_X11_isOut 100000 (0, sl_lo 2 as, []) m
def f_X11_isOut (a0 : Int32) (m : sl_M) : Option (sl_PL × sl_M) := F_X11_isOut [.inr (.inl (some (11, 0))), .inl a0] m
def r_X11_isOut_0 (ca : Nat → List sl_V → sl_M → Option (sl_PL × sl_M)) (n : Nat) (a0 : Int32) (m : sl_M) : Option (sl_PL × sl_M) := R_X11_isOut ca n (0, sl_lo 2 [.inr (.inl (some (11, 0))), .inl a0], []) m
set_option maxRecDepth 100000 in
theorem g_X11_isOut_0 (ca : Nat → List sl_V → sl_M → Option (sl_PL × sl_M)) (n : Nat) (a0 : Int32) (m : sl_M) : r_X11_isOut_0 ca (n + 1) a0 m =
  if a0 < 0 then
    some (((1 : Int32), 0, 0), (sl_up m 11 0 0 (1 : Int32)))
  else
    if a0 ≤ (1 : Int32) then
      some (((0 : Int32), 0, 0), (sl_up m 11 0 0 (0 : Int32)))
    else
      some (((1 : Int32), 0, 0), (sl_up m 11 0 0 (1 : Int32))) := by rfl
theorem e_X11_isOut (a0 : Int32) (m : sl_M) : f_X11_isOut a0 m =
  if a0 < 0 then
    some (((1 : Int32), 0, 0), (sl_up m 11 0 0 (1 : Int32)))
  else
    if a0 ≤ (1 : Int32) then
      some (((0 : Int32), 0, 0), (sl_up m 11 0 0 (0 : Int32)))
    else
      some (((1 : Int32), 0, 0), (sl_up m 11 0 0 (1 : Int32))) := by
  have h := g_X11_isOut_0 ca_X11_isOut 99999 a0 m
  exact h

def tb_X11_feed (p : Nat) : Option sl_E := bif Nat.ble 159 p then none else (bif Nat.ble 79 p then (bif Nat.ble 116 p then (bif Nat.ble 136 p then (bif Nat.ble 148 p then (bif Nat.ble 154 p then (bif Nat.ble 155 p then (bif Nat.ble 158 p then (bif Nat.beq p 158 then some (47, 0, 1, 1, []) else none) else (bif Nat.beq p 155 then some (35, 0, 17, 3, []) else none)) else (bif Nat.beq p 154 then some (1, 0, 0, 1, []) else none)) else (bif Nat.ble 150 p then (bif Nat.ble 151 p then (bif Nat.beq p 151 then some (36, 0, 17, 3, []) else none) else (bif Nat.beq p 150 then some (6, 0, 0, 1, []) else none)) else (bif Nat.beq p 148 then some (2, 20, 0, 2, []) else none))) else (bif Nat.ble 143 p then (bif Nat.ble 144 p then (bif Nat.ble 145 p then (bif Nat.beq p 145 then some (35, 0, 17, 3, []) else none) else (bif Nat.beq p 144 then some (19, 0, 0, 1, []) else none)) else (bif Nat.beq p 143 then some (1, 0, 0, 1, []) else none)) else (bif Nat.ble 137 p then (bif Nat.ble 140 p then (bif Nat.beq p 140 then some (34, 0, 23, 3, []) else none) else (bif Nat.beq p 137 then some (5, 1, 6, 3, []) else none)) else (bif Nat.beq p 136 then some (42, 0, 0, 1, []) else none)))) else (bif Nat.ble 127 p then (bif Nat.ble 132 p then (bif Nat.ble 134 p then (bif Nat.ble 135 p then (bif Nat.beq p 135 then some (17, 0, 0, 1, []) else none) else (bif Nat.beq p 134 then some (15, 0, 0, 1, []) else none)) else (bif Nat.beq p 132 then some (0, 0, 7, 2, []) else none)) else (bif Nat.ble 129 p then (bif Nat.ble 130 p then (bif Nat.beq p 130 then some (0, 0, 5, 2, []) else none) else (bif Nat.beq p 129 then some (6, 0, 0, 1, []) else none)) else (bif Nat.beq p 127 then some (0, 0, 6, 2, []) else none))) else (bif Nat.ble 121 p then (bif Nat.ble 124 p then (bif Nat.ble 126 p then (bif Nat.beq p 126 then some (6, 0, 0, 1, []) else none) else (bif Nat.beq p 124 then some (2, 16, 0, 2, []) else none)) else (bif Nat.beq p 121 then some (35, 0, 17, 3, []) else none)) else (bif Nat.ble 117 p then (bif Nat.ble 120 p then (bif Nat.beq p 120 then some (1, 0, 0, 1, []) else none) else (bif Nat.beq p 117 then some (35, 0, 13, 3, []) else none)) else (bif Nat.beq p 116 then some (1, 0, 0, 1, []) else none))))) else (bif Nat.ble 96 p then (bif Nat.ble 108 p then (bif Nat.ble 113 p then (bif Nat.ble 114 p then (bif Nat.ble 115 p then (bif Nat.beq p 115 then some (42, 0, 0, 1, []) else none) else (bif Nat.beq p 114 then some (17, 0, 0, 1, []) else none)) else (bif Nat.beq p 113 then some (15, 0, 0, 1, []) else none)) else (bif Nat.ble 109 p then (bif Nat.ble 111 p then (bif Nat.beq p 111 then some (0, 0, 7, 2, []) else none) else (bif Nat.beq p 109 then some (0, 0, 4, 2, []) else none)) else (bif Nat.beq p 108 then some (6, 0, 0, 1, []) else none))) else (bif Nat.ble 103 p then (bif Nat.ble 105 p then (bif Nat.ble 106 p then (bif Nat.beq p 106 then some (0, 0, 6, 2, []) else none) else (bif Nat.beq p 105 then some (6, 0, 0, 1, []) else none)) else (bif Nat.beq p 103 then some (2, 12, 0, 2, []) else none)) else (bif Nat.ble 99 p then (bif Nat.ble 100 p then (bif Nat.beq p 100 then some (35, 0, 17, 3, []) else none) else (bif Nat.beq p 99 then some (1, 0, 0, 1, []) else none)) else (bif Nat.beq p 96 then some (35, 0, 13, 3, []) else none)))) else (bif Nat.ble 89 p then (bif Nat.ble 93 p then (bif Nat.ble 94 p then (bif Nat.ble 95 p then (bif Nat.beq p 95 then some (1, 0, 0, 1, []) else none) else (bif Nat.beq p 94 then some (42, 0, 0, 1, []) else none)) else (bif Nat.beq p 93 then some (17, 0, 0, 1, []) else none)) else (bif Nat.ble 90 p then (bif Nat.ble 92 p then (bif Nat.beq p 92 then some (15, 0, 0, 1, []) else none) else (bif Nat.beq p 90 then some (0, 0, 7, 2, []) else none)) else (bif Nat.beq p 89 then some (0, 0, 3, 1, []) else none))) else (bif Nat.ble 85 p then (bif Nat.ble 86 p then (bif Nat.ble 88 p then (bif Nat.beq p 88 then some (6, 0, 0, 1, []) else none) else (bif Nat.beq p 86 then some (0, 0, 6, 2, []) else none)) else (bif Nat.beq p 85 then some (6, 0, 0, 1, []) else none)) else (bif Nat.ble 80 p then (bif Nat.ble 83 p then (bif Nat.beq p 83 then some (2, 8, 0, 2, []) else none) else (bif Nat.beq p 80 then some (35, 0, 17, 3, []) else none)) else (bif Nat.beq p 79 then some (1, 0, 0, 1, []) else none)))))) else (bif Nat.ble 43 p then (bif Nat.ble 61 p then (bif Nat.ble 70 p then (bif Nat.ble 74 p then (bif Nat.ble 75 p then (bif Nat.ble 76 p then (bif Nat.beq p 76 then some (35, 0, 13, 3, []) else none) else (bif Nat.beq p 75 then some (1, 0, 0, 1, []) else none)) else (bif Nat.beq p 74 then some (42, 0, 0, 1, []) else none)) else (bif Nat.ble 72 p then (bif Nat.ble 73 p then (bif Nat.beq p 73 then some (17, 0, 0, 1, []) else none) else (bif Nat.beq p 72 then some (15, 0, 0, 1, []) else none)) else (bif Nat.beq p 70 then some (0, 0, 7, 2, []) else none))) else (bif Nat.ble 66 p then (bif Nat.ble 68 p then (bif Nat.ble 69 p then (bif Nat.beq p 69 then some (0, 0, 2, 1, []) else none) else (bif Nat.beq p 68 then some (6, 0, 0, 1, []) else none)) else (bif Nat.beq p 66 then some (0, 0, 6, 2, []) else none)) else (bif Nat.ble 64 p then (bif Nat.ble 65 p then (bif Nat.beq p 65 then some (6, 0, 0, 1, []) else none) else (bif Nat.beq p 64 then some (2, 4, 0, 1, []) else none)) else (bif Nat.beq p 61 then some (35, 0, 17, 3, []) else none)))) else (bif Nat.ble 53 p then (bif Nat.ble 56 p then (bif Nat.ble 57 p then (bif Nat.ble 60 p then (bif Nat.beq p 60 then some (1, 0, 0, 1, []) else none) else (bif Nat.beq p 57 then some (35, 0, 13, 3, []) else none)) else (bif Nat.beq p 56 then some (1, 0, 0, 1, []) else none)) else (bif Nat.ble 54 p then (bif Nat.ble 55 p then (bif Nat.beq p 55 then some (42, 0, 0, 1, []) else none) else (bif Nat.beq p 54 then some (17, 0, 0, 1, []) else none)) else (bif Nat.beq p 53 then some (15, 0, 0, 1, []) else none))) else (bif Nat.ble 49 p then (bif Nat.ble 50 p then (bif Nat.ble 51 p then (bif Nat.beq p 51 then some (0, 0, 7, 2, []) else none) else (bif Nat.beq p 50 then some (0, 0, 1, 1, []) else none)) else (bif Nat.beq p 49 then some (6, 0, 0, 1, []) else none)) else (bif Nat.ble 44 p then (bif Nat.ble 47 p then (bif Nat.beq p 47 then some (0, 0, 6, 2, []) else none) else (bif Nat.beq p 44 then some (35, 0, 17, 3, []) else none)) else (bif Nat.beq p 43 then some (1, 0, 0, 1, []) else none))))) else (bif Nat.ble 21 p then (bif Nat.ble 33 p then (bif Nat.ble 37 p then (bif Nat.ble 39 p then (bif Nat.ble 40 p then (bif Nat.beq p 40 then some (35, 0, 13, 3, []) else none) else (bif Nat.beq p 39 then some (1, 0, 0, 1, []) else none)) else (bif Nat.beq p 37 then some (3, 0, 7, 2, []) else none)) else (bif Nat.ble 35 p then (bif Nat.ble 36 p then (bif Nat.beq p 36 then some (7, 0, 0, 1, []) else none) else (bif Nat.beq p 35 then some (8, 0, 0, 1, []) else none)) else (bif Nat.beq p 33 then some (0, 0, 6, 2, []) else none))) else (bif Nat.ble 26 p then (bif Nat.ble 29 p then (bif Nat.ble 31 p then (bif Nat.beq p 31 then some (2, 8, 0, 2, []) else none) else (bif Nat.beq p 29 then some (2, 24, 0, 2, []) else none)) else (bif Nat.beq p 26 then some (25, 0, 143, 3, []) else none)) else (bif Nat.ble 23 p then (bif Nat.ble 25 p then (bif Nat.beq p 25 then some (2, 4, 0, 1, []) else none) else (bif Nat.beq p 23 then some (0, 0, 6, 2, []) else none)) else (bif Nat.beq p 21 then some (3, 0, 6, 2, []) else none)))) else (bif Nat.ble 11 p then (bif Nat.ble 18 p then (bif Nat.ble 19 p then (bif Nat.ble 20 p then (bif Nat.beq p 20 then some (2, 0, 0, 1, []) else none) else (bif Nat.beq p 19 then some (47, 0, 1, 1, []) else none)) else (bif Nat.beq p 18 then some (2, (-1), 0, 1, []) else none)) else (bif Nat.ble 12 p then (bif Nat.ble 15 p then (bif Nat.beq p 15 then some (27, 0, 20, 3, []) else none) else (bif Nat.beq p 12 then some (2, 1200, 0, 3, []) else none)) else (bif Nat.beq p 11 then some (6, 0, 0, 1, []) else none))) else (bif Nat.ble 5 p then (bif Nat.ble 6 p then (bif Nat.ble 9 p then (bif Nat.beq p 9 then some (2, 20, 0, 2, []) else none) else (bif Nat.beq p 6 then some (35, 0, 17, 3, []) else none)) else (bif Nat.beq p 5 then some (1, 0, 0, 1, []) else none)) else (bif Nat.ble 1 p then (bif Nat.ble 2 p then (bif Nat.beq p 2 then some (36, 0, 7, 3, []) else none) else (bif Nat.beq p 1 then some (2, 0, 0, 1, []) else none)) else (bif Nat.beq p 0 then some (1, 0, 0, 1, []) else none)))))))
def ca_X11_feed (y : Nat) (as : List sl_V) (m : sl_M) : Option (sl_PL × sl_M) := none
def sp_X11_feed (p : Nat) : Bool := Nat.beq p 23
def mk_X11_feed (p : Nat) : List Bool := bif Nat.beq p 23 then [true, true, true, true, true, true, true, false] else []
def cl_X11_feed (p : Nat) : Option sl_C := none
def R_X11_feed (ca : Nat → List sl_V → sl_M → Option (sl_PL × sl_M)) : Nat → sl_S → sl_M → Option (sl_PL × sl_M) := sl_B tb_X11_feed fl_X11 pf_X11 cl_X11_feed nw_X11 sl_rd sl_wr sl_al sl_ln 0 (fun _ => 0) ca sp_X11_feed mk_X11_feed
def F_X11_feed (as : List sl_V) (m : sl_M) : Option (sl_PL × sl_M) := R_X11_feed ca_X11_feed 100000 (0, sl_lo 8 as, []) m
def f_X11_feed (a0 : Int32) (a1 : Int32) (a2 : Int32) (a3 : Int32) (a4 : Int32) (m : sl_M) : Option (sl_PL × sl_M) := F_X11_feed [.inr (.inl (some (11, 0))), .inl a0, .inl a1, .inl a2, .inl a3, .inl a4] m
def r_X11_feed_0 (ca : Nat → List sl_V → sl_M → Option (sl_PL × sl_M)) (n : Nat) (a0 : Int32) (a1 : Int32) (a2 : Int32) (a3 : Int32) (a4 : Int32) (m : sl_M) : Option (sl_PL × sl_M) := R_X11_feed ca n (0, sl_lo 8 [.inr (.inl (some (11, 0))), .inl a0, .inl a1, .inl a2, .inl a3, .inl a4], []) m
def r_X11_feed_23 (ca : Nat → List sl_V → sl_M → Option (sl_PL × sl_M)) (n : Nat) (v1 : Int32) (v2 : Int32) (v3 : Int32) (v4 : Int32) (v5 : Int32) (v6 : Int32) (m : sl_M) : Option (sl_PL × sl_M) := R_X11_feed ca n (23, [some (.inr (.inl (some (11, 0)))), some (.inl v1), some (.inl v2), some (.inl v3), some (.inl v4), some (.inl v5), some (.inl v6), none], []) m
def b_X11_feed_23 (n : Nat) (v1 : Int32) (v2 : Int32) (v3 : Int32) (v4 : Int32) (v5 : Int32) (v6 : Int32) (m : sl_M) : Option (sl_PL × sl_M) := r_X11_feed_23 ca_X11_feed n v1 v2 v3 v4 v5 v6 m
set_option maxRecDepth 100000 in
theorem g_X11_feed_0 (ca : Nat → List sl_V → sl_M → Option (sl_PL × sl_M)) (n : Nat) (a0 : Int32) (a1 : Int32) (a2 : Int32) (a3 : Int32) (a4 : Int32) (m : sl_M) : r_X11_feed_0 ca (n + 1) a0 a1 a2 a3 a4 m =
  if ((m.1 11 0 2) + (20 : Int32)) ≤ (1200 : Int32) then
    r_X11_feed_23 ca n a0 a1 a2 a3 a4 (0 : Int32) (sl_up m 11 0 0 (0 : Int32))
  else
    some (((-1 : Int32), 0, 0), (sl_up m 11 0 0 (0 : Int32))) := by rfl
set_option maxRecDepth 100000 in
theorem g_X11_feed_23 (ca : Nat → List sl_V → sl_M → Option (sl_PL × sl_M)) (n : Nat) (v1 : Int32) (v2 : Int32) (v3 : Int32) (v4 : Int32) (v5 : Int32) (v6 : Int32) (m : sl_M) : r_X11_feed_23 ca (n + 1) v1 v2 v3 v4 v5 v6 m =
  if (4 : Int32) ≤ v6 then
    some ((((m.1 11 0 2) + (20 : Int32)), 0, 0), (sl_up m 11 0 2 ((m.1 11 0 2) + (20 : Int32))))
  else
    if 0 ≤ ((m.1 11 0 2) + v6) ∧ ((m.1 11 0 2) + v6).toNatClampNeg < 1200 then
    if 0 ≤ (((m.1 11 0 2) + (4 : Int32)) + v6) ∧ (((m.1 11 0 2) + (4 : Int32)) + v6).toNatClampNeg < 1200 then
    if 0 ≤ (((m.1 11 0 2) + (8 : Int32)) + v6) ∧ (((m.1 11 0 2) + (8 : Int32)) + v6).toNatClampNeg < 1200 then
    if 0 ≤ (((m.1 11 0 2) + (12 : Int32)) + v6) ∧ (((m.1 11 0 2) + (12 : Int32)) + v6).toNatClampNeg < 1200 then
    if 0 ≤ (((m.1 11 0 2) + (16 : Int32)) + v6) ∧ (((m.1 11 0 2) + (16 : Int32)) + v6).toNatClampNeg < 1200 then
    r_X11_feed_23 ca n v1 v2 v3 v4 v5 (v6 + (1 : Int32)) (sl_up (sl_up (sl_up (sl_up (sl_up m 30 0 (((m.1 11 0 2) + v6).toNatClampNeg) (sl_sx (v1 >>> (((24 : Int32) - ((8 : Int32) * v6)) &&& 31)))) 30 0 ((((m.1 11 0 2) + (4 : Int32)) + v6).toNatClampNeg) (sl_sx (v2 >>> (((24 : Int32) - ((8 : Int32) * v6)) &&& 31)))) 30 0 ((((m.1 11 0 2) + (8 : Int32)) + v6).toNatClampNeg) (sl_sx (v3 >>> (((24 : Int32) - ((8 : Int32) * v6)) &&& 31)))) 30 0 ((((m.1 11 0 2) + (12 : Int32)) + v6).toNatClampNeg) (sl_sx (v4 >>> (((24 : Int32) - ((8 : Int32) * v6)) &&& 31)))) 30 0 ((((m.1 11 0 2) + (16 : Int32)) + v6).toNatClampNeg) (sl_sx (v5 >>> (((24 : Int32) - ((8 : Int32) * v6)) &&& 31))))
    else none
    else none
    else none
    else none
    else none := by rfl
theorem bq_X11_feed_23 (n : Nat) (v1 : Int32) (v2 : Int32) (v3 : Int32) (v4 : Int32) (v5 : Int32) (v6 : Int32) (m : sl_M) : r_X11_feed_23 ca_X11_feed n v1 v2 v3 v4 v5 v6 m = b_X11_feed_23 n v1 v2 v3 v4 v5 v6 m := rfl
theorem e_X11_feed (a0 : Int32) (a1 : Int32) (a2 : Int32) (a3 : Int32) (a4 : Int32) (m : sl_M) : f_X11_feed a0 a1 a2 a3 a4 m =
  if ((m.1 11 0 2) + (20 : Int32)) ≤ (1200 : Int32) then
    b_X11_feed_23 99999 a0 a1 a2 a3 a4 (0 : Int32) (sl_up m 11 0 0 (0 : Int32))
  else
    some (((-1 : Int32), 0, 0), (sl_up m 11 0 0 (0 : Int32))) := by
  have h := g_X11_feed_0 ca_X11_feed 99999 a0 a1 a2 a3 a4 m
  simp only [bq_X11_feed_23] at h
  exact h
theorem e_X11_feed_23 (n : Nat) (v1 : Int32) (v2 : Int32) (v3 : Int32) (v4 : Int32) (v5 : Int32) (v6 : Int32) (m : sl_M) : b_X11_feed_23 (n + 1) v1 v2 v3 v4 v5 v6 m =
  if (4 : Int32) ≤ v6 then
    some ((((m.1 11 0 2) + (20 : Int32)), 0, 0), (sl_up m 11 0 2 ((m.1 11 0 2) + (20 : Int32))))
  else
    if 0 ≤ ((m.1 11 0 2) + v6) ∧ ((m.1 11 0 2) + v6).toNatClampNeg < 1200 then
    if 0 ≤ (((m.1 11 0 2) + (4 : Int32)) + v6) ∧ (((m.1 11 0 2) + (4 : Int32)) + v6).toNatClampNeg < 1200 then
    if 0 ≤ (((m.1 11 0 2) + (8 : Int32)) + v6) ∧ (((m.1 11 0 2) + (8 : Int32)) + v6).toNatClampNeg < 1200 then
    if 0 ≤ (((m.1 11 0 2) + (12 : Int32)) + v6) ∧ (((m.1 11 0 2) + (12 : Int32)) + v6).toNatClampNeg < 1200 then
    if 0 ≤ (((m.1 11 0 2) + (16 : Int32)) + v6) ∧ (((m.1 11 0 2) + (16 : Int32)) + v6).toNatClampNeg < 1200 then
    b_X11_feed_23 n v1 v2 v3 v4 v5 (v6 + (1 : Int32)) (sl_up (sl_up (sl_up (sl_up (sl_up m 30 0 (((m.1 11 0 2) + v6).toNatClampNeg) (sl_sx (v1 >>> (((24 : Int32) - ((8 : Int32) * v6)) &&& 31)))) 30 0 ((((m.1 11 0 2) + (4 : Int32)) + v6).toNatClampNeg) (sl_sx (v2 >>> (((24 : Int32) - ((8 : Int32) * v6)) &&& 31)))) 30 0 ((((m.1 11 0 2) + (8 : Int32)) + v6).toNatClampNeg) (sl_sx (v3 >>> (((24 : Int32) - ((8 : Int32) * v6)) &&& 31)))) 30 0 ((((m.1 11 0 2) + (12 : Int32)) + v6).toNatClampNeg) (sl_sx (v4 >>> (((24 : Int32) - ((8 : Int32) * v6)) &&& 31)))) 30 0 ((((m.1 11 0 2) + (16 : Int32)) + v6).toNatClampNeg) (sl_sx (v5 >>> (((24 : Int32) - ((8 : Int32) * v6)) &&& 31))))
    else none
    else none
    else none
    else none
    else none := by
  have h := g_X11_feed_23 ca_X11_feed n v1 v2 v3 v4 v5 v6 m
  simp only [bq_X11_feed_23] at h
  exact h

def tb_X11_cut (p : Nat) : Option sl_E := bif Nat.ble 26 p then none else (bif Nat.ble 14 p then (bif Nat.ble 20 p then (bif Nat.ble 24 p then (bif Nat.ble 25 p then (bif Nat.beq p 25 then some (47, 0, 2, 1, []) else none) else (bif Nat.beq p 24 then some (2, 1, 0, 1, []) else none)) else (bif Nat.ble 21 p then (bif Nat.beq p 21 then some (36, 0, 17, 3, []) else none) else (bif Nat.beq p 20 then some (0, 0, 1, 1, []) else none))) else (bif Nat.ble 18 p then (bif Nat.ble 19 p then (bif Nat.beq p 19 then some (1, 0, 0, 1, []) else none) else (bif Nat.beq p 18 then some (47, 0, 2, 1, []) else none)) else (bif Nat.ble 17 p then (bif Nat.beq p 17 then some (2, 0, 0, 1, []) else none) else (bif Nat.beq p 14 then some (27, 0, 19, 3, []) else none)))) else (bif Nat.ble 6 p then (bif Nat.ble 10 p then (bif Nat.ble 11 p then (bif Nat.beq p 11 then some (35, 0, 17, 3, []) else none) else (bif Nat.beq p 10 then some (1, 0, 0, 1, []) else none)) else (bif Nat.ble 9 p then (bif Nat.beq p 9 then some (0, 0, 1, 1, []) else none) else (bif Nat.beq p 6 then some (30, 0, 17, 3, []) else none))) else (bif Nat.ble 2 p then (bif Nat.ble 5 p then (bif Nat.beq p 5 then some (0, 0, 1, 1, []) else none) else (bif Nat.beq p 2 then some (36, 0, 7, 3, []) else none)) else (bif Nat.ble 1 p then (bif Nat.beq p 1 then some (2, 0, 0, 1, []) else none) else (bif Nat.beq p 0 then some (1, 0, 0, 1, []) else none)))))
def ca_X11_cut (y : Nat) (as : List sl_V) (m : sl_M) : Option (sl_PL × sl_M) := none
def sp_X11_cut (p : Nat) : Bool := false
def mk_X11_cut (p : Nat) : List Bool := []
def cl_X11_cut (p : Nat) : Option sl_C := none
def R_X11_cut (ca : Nat → List sl_V → sl_M → Option (sl_PL × sl_M)) : Nat → sl_S → sl_M → Option (sl_PL × sl_M) := sl_B tb_X11_cut fl_X11 pf_X11 cl_X11_cut nw_X11 sl_rd sl_wr sl_al sl_ln 0 (fun _ => 0) ca sp_X11_cut mk_X11_cut
def F_X11_cut (as : List sl_V) (m : sl_M) : Option (sl_PL × sl_M) := R_X11_cut ca_X11_cut 100000 (0, sl_lo 2 as, []) m
def f_X11_cut (a0 : Int32) (m : sl_M) : Option (sl_PL × sl_M) := F_X11_cut [.inr (.inl (some (11, 0))), .inl a0] m
def r_X11_cut_0 (ca : Nat → List sl_V → sl_M → Option (sl_PL × sl_M)) (n : Nat) (a0 : Int32) (m : sl_M) : Option (sl_PL × sl_M) := R_X11_cut ca n (0, sl_lo 2 [.inr (.inl (some (11, 0))), .inl a0], []) m
set_option maxRecDepth 100000 in
theorem g_X11_cut_0 (ca : Nat → List sl_V → sl_M → Option (sl_PL × sl_M)) (n : Nat) (a0 : Int32) (m : sl_M) : r_X11_cut_0 ca (n + 1) a0 m =
  if a0 < 0 then
    some (((0 : Int32), 0, 0), (sl_up m 11 0 0 (0 : Int32)))
  else
    if a0 ≤ (m.1 11 0 2) then
      some (((1 : Int32), 0, 0), (sl_up (sl_up m 11 0 0 (0 : Int32)) 11 0 2 a0))
    else
      some (((0 : Int32), 0, 0), (sl_up m 11 0 0 (0 : Int32))) := by rfl
theorem e_X11_cut (a0 : Int32) (m : sl_M) : f_X11_cut a0 m =
  if a0 < 0 then
    some (((0 : Int32), 0, 0), (sl_up m 11 0 0 (0 : Int32)))
  else
    if a0 ≤ (m.1 11 0 2) then
      some (((1 : Int32), 0, 0), (sl_up (sl_up m 11 0 0 (0 : Int32)) 11 0 2 a0))
    else
      some (((0 : Int32), 0, 0), (sl_up m 11 0 0 (0 : Int32))) := by
  have h := g_X11_cut_0 ca_X11_cut 99999 a0 m
  exact h

def tb_X11_take (p : Nat) : Option sl_E := bif Nat.ble 62 p then none else (bif Nat.ble 32 p then (bif Nat.ble 48 p then (bif Nat.ble 54 p then (bif Nat.ble 58 p then (bif Nat.ble 61 p then (bif Nat.beq p 61 then some (47, 0, 1, 1, []) else none) else (bif Nat.beq p 58 then some (35, 0, 17, 3, []) else none)) else (bif Nat.ble 57 p then (bif Nat.beq p 57 then some (1, 0, 0, 1, []) else none) else (bif Nat.beq p 54 then some (34, 0, 31, 3, []) else none))) else (bif Nat.ble 50 p then (bif Nat.ble 51 p then (bif Nat.beq p 51 then some (5, 1, 1, 3, []) else none) else (bif Nat.beq p 50 then some (42, 0, 0, 1, []) else none)) else (bif Nat.ble 49 p then (bif Nat.beq p 49 then some (38, 0, 0, 1, []) else none) else (bif Nat.beq p 48 then some (0, 0, 1, 1, []) else none)))) else (bif Nat.ble 40 p then (bif Nat.ble 44 p then (bif Nat.ble 45 p then (bif Nat.beq p 45 then some (35, 0, 20, 3, []) else none) else (bif Nat.beq p 44 then some (1, 0, 0, 1, []) else none)) else (bif Nat.ble 43 p then (bif Nat.beq p 43 then some (0, 0, 1, 1, []) else none) else (bif Nat.beq p 40 then some (35, 0, 13, 3, []) else none))) else (bif Nat.ble 36 p then (bif Nat.ble 39 p then (bif Nat.beq p 39 then some (1, 0, 0, 1, []) else none) else (bif Nat.beq p 36 then some (25, 0, 57, 3, []) else none)) else (bif Nat.ble 33 p then (bif Nat.beq p 33 then some (35, 0, 17, 3, []) else none) else (bif Nat.beq p 32 then some (1, 0, 0, 1, []) else none))))) else (bif Nat.ble 16 p then (bif Nat.ble 26 p then (bif Nat.ble 30 p then (bif Nat.ble 31 p then (bif Nat.beq p 31 then some (0, 0, 1, 1, []) else none) else (bif Nat.beq p 30 then some (3, 0, 1, 1, []) else none)) else (bif Nat.ble 29 p then (bif Nat.beq p 29 then some (2, 0, 0, 1, []) else none) else (bif Nat.beq p 26 then some (36, 0, 17, 3, []) else none))) else (bif Nat.ble 20 p then (bif Nat.ble 23 p then (bif Nat.beq p 23 then some (2, 1200, 0, 3, []) else none) else (bif Nat.beq p 20 then some (34, 0, 26, 3, []) else none)) else (bif Nat.ble 17 p then (bif Nat.beq p 17 then some (35, 0, 23, 3, []) else none) else (bif Nat.beq p 16 then some (1, 0, 0, 1, []) else none)))) else (bif Nat.ble 6 p then (bif Nat.ble 10 p then (bif Nat.ble 13 p then (bif Nat.beq p 13 then some (25, 0, 23, 3, []) else none) else (bif Nat.beq p 10 then some (2, 1200, 0, 3, []) else none)) else (bif Nat.ble 7 p then (bif Nat.beq p 7 then some (35, 0, 23, 3, []) else none) else (bif Nat.beq p 6 then some (1, 0, 0, 1, []) else none))) else (bif Nat.ble 2 p then (bif Nat.ble 5 p then (bif Nat.beq p 5 then some (1, 0, 0, 1, []) else none) else (bif Nat.beq p 2 then some (36, 0, 7, 3, []) else none)) else (bif Nat.ble 1 p then (bif Nat.beq p 1 then some (2, 0, 0, 1, []) else none) else (bif Nat.beq p 0 then some (1, 0, 0, 1, []) else none))))))
def ca_X11_take (y : Nat) (as : List sl_V) (m : sl_M) : Option (sl_PL × sl_M) := none
def sp_X11_take (p : Nat) : Bool := Nat.beq p 31
def mk_X11_take (p : Nat) : List Bool := bif Nat.beq p 31 then [true, true] else []
def cl_X11_take (p : Nat) : Option sl_C := none
def R_X11_take (ca : Nat → List sl_V → sl_M → Option (sl_PL × sl_M)) : Nat → sl_S → sl_M → Option (sl_PL × sl_M) := sl_B tb_X11_take fl_X11 pf_X11 cl_X11_take nw_X11 sl_rd sl_wr sl_al sl_ln 0 (fun _ => 0) ca sp_X11_take mk_X11_take
def F_X11_take (as : List sl_V) (m : sl_M) : Option (sl_PL × sl_M) := R_X11_take ca_X11_take 100000 (0, sl_lo 2 as, []) m
def f_X11_take  (m : sl_M) : Option (sl_PL × sl_M) := F_X11_take [.inr (.inl (some (11, 0)))] m
def r_X11_take_0 (ca : Nat → List sl_V → sl_M → Option (sl_PL × sl_M)) (n : Nat)  (m : sl_M) : Option (sl_PL × sl_M) := R_X11_take ca n (0, sl_lo 2 [.inr (.inl (some (11, 0)))], []) m
def r_X11_take_31 (ca : Nat → List sl_V → sl_M → Option (sl_PL × sl_M)) (n : Nat) (v1 : Int32) (m : sl_M) : Option (sl_PL × sl_M) := R_X11_take ca n (31, [some (.inr (.inl (some (11, 0)))), some (.inl v1)], []) m
def b_X11_take_31 (n : Nat) (v1 : Int32) (m : sl_M) : Option (sl_PL × sl_M) := r_X11_take_31 ca_X11_take n v1 m
set_option maxRecDepth 100000 in
theorem g_X11_take_0 (ca : Nat → List sl_V → sl_M → Option (sl_PL × sl_M)) (n : Nat)  (m : sl_M) : r_X11_take_0 ca (n + 1) m =
  if (1200 : Int32) ≤ (m.1 11 0 4) then
    r_X11_take_31 ca n (0 : Int32) (sl_up (sl_up m 11 0 0 (0 : Int32)) 11 0 2 (1200 : Int32))
  else
    r_X11_take_31 ca n (0 : Int32) (sl_up (sl_up m 11 0 0 (0 : Int32)) 11 0 2 (m.1 11 0 4)) := by rfl
set_option maxRecDepth 100000 in
theorem g_X11_take_31 (ca : Nat → List sl_V → sl_M → Option (sl_PL × sl_M)) (n : Nat) (v1 : Int32) (m : sl_M) : r_X11_take_31 ca (n + 1) v1 m =
  if (m.1 11 0 2) ≤ v1 then
    some (((m.1 11 0 2), 0, 0), m)
  else
    if 0 ≤ v1 ∧ v1.toNatClampNeg < 1300 then
    if 0 ≤ v1 ∧ v1.toNatClampNeg < 1200 then
    r_X11_take_31 ca n (v1 + (1 : Int32)) (sl_up m 30 0 v1.toNatClampNeg (sl_sx (m.1 30 1 v1.toNatClampNeg)))
    else none
    else none := by rfl
theorem bq_X11_take_31 (n : Nat) (v1 : Int32) (m : sl_M) : r_X11_take_31 ca_X11_take n v1 m = b_X11_take_31 n v1 m := rfl
theorem e_X11_take  (m : sl_M) : f_X11_take m =
  if (1200 : Int32) ≤ (m.1 11 0 4) then
    b_X11_take_31 99999 (0 : Int32) (sl_up (sl_up m 11 0 0 (0 : Int32)) 11 0 2 (1200 : Int32))
  else
    b_X11_take_31 99999 (0 : Int32) (sl_up (sl_up m 11 0 0 (0 : Int32)) 11 0 2 (m.1 11 0 4)) := by
  have h := g_X11_take_0 ca_X11_take 99999 m
  simp only [bq_X11_take_31] at h
  exact h
theorem e_X11_take_31 (n : Nat) (v1 : Int32) (m : sl_M) : b_X11_take_31 (n + 1) v1 m =
  if (m.1 11 0 2) ≤ v1 then
    some (((m.1 11 0 2), 0, 0), m)
  else
    if 0 ≤ v1 ∧ v1.toNatClampNeg < 1300 then
    if 0 ≤ v1 ∧ v1.toNatClampNeg < 1200 then
    b_X11_take_31 n (v1 + (1 : Int32)) (sl_up m 30 0 v1.toNatClampNeg (sl_sx (m.1 30 1 v1.toNatClampNeg)))
    else none
    else none := by
  have h := g_X11_take_31 ca_X11_take n v1 m
  simp only [bq_X11_take_31] at h
  exact h

def tb_X11_checkOf (p : Nat) : Option sl_E := bif Nat.ble 73 p then none else (bif Nat.ble 36 p then (bif Nat.ble 54 p then (bif Nat.ble 62 p then (bif Nat.ble 70 p then (bif Nat.ble 71 p then (bif Nat.ble 72 p then (bif Nat.beq p 72 then some (47, 0, 1, 1, []) else none) else (bif Nat.beq p 71 then some (13, 0, 0, 1, []) else none)) else (bif Nat.beq p 70 then some (2, (-1), 0, 1, []) else none)) else (bif Nat.ble 65 p then (bif Nat.ble 68 p then (bif Nat.beq p 68 then some (0, 0, 4, 2, []) else none) else (bif Nat.beq p 65 then some (34, 0, 6, 3, []) else none)) else (bif Nat.beq p 62 then some (5, 1, 5, 3, []) else none))) else (bif Nat.ble 58 p then (bif Nat.ble 59 p then (bif Nat.ble 60 p then (bif Nat.beq p 60 then some (3, 0, 4, 2, []) else none) else (bif Nat.beq p 59 then some (13, 0, 0, 1, []) else none)) else (bif Nat.beq p 58 then some (37, 0, 0, 1, []) else none)) else (bif Nat.ble 55 p then (bif Nat.ble 57 p then (bif Nat.beq p 57 then some (11, 0, 0, 1, []) else none) else (bif Nat.beq p 55 then some (2, 15, 0, 2, []) else none)) else (bif Nat.beq p 54 then some (13, 0, 0, 1, []) else none)))) else (bif Nat.ble 44 p then (bif Nat.ble 50 p then (bif Nat.ble 52 p then (bif Nat.ble 53 p then (bif Nat.beq p 53 then some (15, 0, 0, 1, []) else none) else (bif Nat.beq p 52 then some (2, 4, 0, 1, []) else none)) else (bif Nat.beq p 50 then some (0, 0, 6, 2, []) else none)) else (bif Nat.ble 45 p then (bif Nat.ble 48 p then (bif Nat.beq p 48 then some (0, 0, 4, 2, []) else none) else (bif Nat.beq p 45 then some (35, 0, 26, 3, []) else none)) else (bif Nat.beq p 44 then some (1, 0, 0, 1, []) else none))) else (bif Nat.ble 40 p then (bif Nat.ble 42 p then (bif Nat.ble 43 p then (bif Nat.beq p 43 then some (16, 0, 0, 1, []) else none) else (bif Nat.beq p 42 then some (2, 4, 0, 1, []) else none)) else (bif Nat.beq p 40 then some (0, 0, 4, 2, []) else none)) else (bif Nat.ble 37 p then (bif Nat.ble 38 p then (bif Nat.beq p 38 then some (3, 0, 4, 2, []) else none) else (bif Nat.beq p 37 then some (13, 0, 0, 1, []) else none)) else (bif Nat.beq p 36 then some (37, 0, 0, 1, []) else none))))) else (bif Nat.ble 17 p then (bif Nat.ble 25 p then (bif Nat.ble 32 p then (bif Nat.ble 33 p then (bif Nat.ble 35 p then (bif Nat.beq p 35 then some (11, 0, 0, 1, []) else none) else (bif Nat.beq p 33 then some (2, 15, 0, 2, []) else none)) else (bif Nat.beq p 32 then some (13, 0, 0, 1, []) else none)) else (bif Nat.ble 28 p then (bif Nat.ble 30 p then (bif Nat.beq p 30 then some (0, 0, 6, 2, []) else none) else (bif Nat.beq p 28 then some (0, 0, 4, 2, []) else none)) else (bif Nat.beq p 25 then some (35, 0, 26, 3, []) else none))) else (bif Nat.ble 22 p then (bif Nat.ble 23 p then (bif Nat.ble 24 p then (bif Nat.beq p 24 then some (1, 0, 0, 1, []) else none) else (bif Nat.beq p 23 then some (16, 0, 0, 1, []) else none)) else (bif Nat.beq p 22 then some (2, 4, 0, 1, []) else none)) else (bif Nat.ble 18 p then (bif Nat.ble 20 p then (bif Nat.beq p 20 then some (0, 0, 4, 2, []) else none) else (bif Nat.beq p 18 then some (3, 0, 6, 2, []) else none)) else (bif Nat.beq p 17 then some (38, 0, 0, 1, []) else none)))) else (bif Nat.ble 8 p then (bif Nat.ble 13 p then (bif Nat.ble 14 p then (bif Nat.ble 16 p then (bif Nat.beq p 16 then some (6, 0, 0, 1, []) else none) else (bif Nat.beq p 14 then some (0, 0, 5, 2, []) else none)) else (bif Nat.beq p 13 then some (0, 0, 2, 1, []) else none)) else (bif Nat.ble 9 p then (bif Nat.ble 12 p then (bif Nat.beq p 12 then some (1, 0, 1, 1, []) else none) else (bif Nat.beq p 9 then some (25, 0, 68, 3, []) else none)) else (bif Nat.beq p 8 then some (0, 0, 3, 1, []) else none))) else (bif Nat.ble 3 p then (bif Nat.ble 4 p then (bif Nat.ble 6 p then (bif Nat.beq p 6 then some (0, 0, 5, 2, []) else none) else (bif Nat.beq p 4 then some (3, 0, 5, 2, []) else none)) else (bif Nat.beq p 3 then some (2, 0, 0, 1, []) else none)) else (bif Nat.ble 1 p then (bif Nat.beq p 1 then some (3, 0, 4, 2, []) else none) else (bif Nat.beq p 0 then some (2, (-1), 0, 1, []) else none))))))
def ca_X11_checkOf (y : Nat) (as : List sl_V) (m : sl_M) : Option (sl_PL × sl_M) := none
def sp_X11_checkOf (p : Nat) : Bool := Nat.beq p 6
def mk_X11_checkOf (p : Nat) : List Bool := bif Nat.beq p 6 then [true, true, true, true, true, true, false] else []
def cl_X11_checkOf (p : Nat) : Option sl_C := none
def R_X11_checkOf (ca : Nat → List sl_V → sl_M → Option (sl_PL × sl_M)) : Nat → sl_S → sl_M → Option (sl_PL × sl_M) := sl_B tb_X11_checkOf fl_X11 pf_X11 cl_X11_checkOf nw_X11 sl_rd sl_wr sl_al sl_ln 0 (fun _ => 0) ca sp_X11_checkOf mk_X11_checkOf
def F_X11_checkOf (as : List sl_V) (m : sl_M) : Option (sl_PL × sl_M) := R_X11_checkOf ca_X11_checkOf 100000 (0, sl_lo 7 as, []) m
def f_X11_checkOf (a0 : Nat) (a1 : Int32) (a2 : Int32) (m : sl_M) : Option (sl_PL × sl_M) := F_X11_checkOf [.inr (.inl (some (11, 0))), .inr (.inl (some (30, a0))), .inl a1, .inl a2] m
def r_X11_checkOf_0 (ca : Nat → List sl_V → sl_M → Option (sl_PL × sl_M)) (n : Nat) (a0 : Nat) (a1 : Int32) (a2 : Int32) (m : sl_M) : Option (sl_PL × sl_M) := R_X11_checkOf ca n (0, sl_lo 7 [.inr (.inl (some (11, 0))), .inr (.inl (some (30, a0))), .inl a1, .inl a2], []) m
def r_X11_checkOf_6 (ca : Nat → List sl_V → sl_M → Option (sl_PL × sl_M)) (n : Nat) (v1 : Nat) (v2 : Int32) (v3 : Int32) (v4 : Int32) (v5 : Int32) (m : sl_M) : Option (sl_PL × sl_M) := R_X11_checkOf ca n (6, [some (.inr (.inl (some (11, 0)))), some (.inr (.inl (some (30, v1)))), some (.inl v2), some (.inl v3), some (.inl v4), some (.inl v5), none], []) m
def b_X11_checkOf_6 (n : Nat) (v1 : Nat) (v2 : Int32) (v3 : Int32) (v4 : Int32) (v5 : Int32) (m : sl_M) : Option (sl_PL × sl_M) := r_X11_checkOf_6 ca_X11_checkOf n v1 v2 v3 v4 v5 m
set_option maxRecDepth 100000 in
theorem g_X11_checkOf_0 (ca : Nat → List sl_V → sl_M → Option (sl_PL × sl_M)) (n : Nat) (a0 : Nat) (a1 : Int32) (a2 : Int32) (m : sl_M) : r_X11_checkOf_0 ca (n + 1) a0 a1 a2 m =
  r_X11_checkOf_6 ca n a0 a1 a2 (-1 : Int32) (0 : Int32) m := by rfl
set_option maxRecDepth 100000 in
theorem g_X11_checkOf_6 (ca : Nat → List sl_V → sl_M → Option (sl_PL × sl_M)) (n : Nat) (v1 : Nat) (v2 : Int32) (v3 : Int32) (v4 : Int32) (v5 : Int32) (m : sl_M) : r_X11_checkOf_6 ca (n + 1) v1 v2 v3 v4 v5 m =
  if v3 ≤ v5 then
    some (((v4 ^^^ (-1 : Int32)), 0, 0), m)
  else
    if 0 ≤ (v2 + v5) ∧ (v2 + v5).toNatClampNeg < sl_lb v1 then
    if 0 ≤ ((v4 ^^^ (sl_sx (m.1 30 v1 ((v2 + v5).toNatClampNeg)))) &&& (15 : Int32)) ∧ ((v4 ^^^ (sl_sx (m.1 30 v1 ((v2 + v5).toNatClampNeg)))) &&& (15 : Int32)).toNatClampNeg < 16 then
    if 0 ≤ ((((sl_ush v4 (4 : Int32)) ^^^ (m.1 50 0 (((v4 ^^^ (sl_sx (m.1 30 v1 ((v2 + v5).toNatClampNeg)))) &&& (15 : Int32)).toNatClampNeg))) ^^^ ((sl_sx (m.1 30 v1 ((v2 + v5).toNatClampNeg))) >>> ((4 : Int32) &&& 31))) &&& (15 : Int32)) ∧ ((((sl_ush v4 (4 : Int32)) ^^^ (m.1 50 0 (((v4 ^^^ (sl_sx (m.1 30 v1 ((v2 + v5).toNatClampNeg)))) &&& (15 : Int32)).toNatClampNeg))) ^^^ ((sl_sx (m.1 30 v1 ((v2 + v5).toNatClampNeg))) >>> ((4 : Int32) &&& 31))) &&& (15 : Int32)).toNatClampNeg < 16 then
    r_X11_checkOf_6 ca n v1 v2 v3 ((sl_ush ((sl_ush v4 (4 : Int32)) ^^^ (m.1 50 0 (((v4 ^^^ (sl_sx (m.1 30 v1 ((v2 + v5).toNatClampNeg)))) &&& (15 : Int32)).toNatClampNeg))) (4 : Int32)) ^^^ (m.1 50 0 (((((sl_ush v4 (4 : Int32)) ^^^ (m.1 50 0 (((v4 ^^^ (sl_sx (m.1 30 v1 ((v2 + v5).toNatClampNeg)))) &&& (15 : Int32)).toNatClampNeg))) ^^^ ((sl_sx (m.1 30 v1 ((v2 + v5).toNatClampNeg))) >>> ((4 : Int32) &&& 31))) &&& (15 : Int32)).toNatClampNeg))) (v5 + (1 : Int32)) m
    else none
    else none
    else none := by rfl
theorem bq_X11_checkOf_6 (n : Nat) (v1 : Nat) (v2 : Int32) (v3 : Int32) (v4 : Int32) (v5 : Int32) (m : sl_M) : r_X11_checkOf_6 ca_X11_checkOf n v1 v2 v3 v4 v5 m = b_X11_checkOf_6 n v1 v2 v3 v4 v5 m := rfl
theorem e_X11_checkOf (a0 : Nat) (a1 : Int32) (a2 : Int32) (m : sl_M) : f_X11_checkOf a0 a1 a2 m =
  b_X11_checkOf_6 99999 a0 a1 a2 (-1 : Int32) (0 : Int32) m := by
  have h := g_X11_checkOf_0 ca_X11_checkOf 99999 a0 a1 a2 m
  simp only [bq_X11_checkOf_6] at h
  exact h
theorem e_X11_checkOf_6 (n : Nat) (v1 : Nat) (v2 : Int32) (v3 : Int32) (v4 : Int32) (v5 : Int32) (m : sl_M) : b_X11_checkOf_6 (n + 1) v1 v2 v3 v4 v5 m =
  if v3 ≤ v5 then
    some (((v4 ^^^ (-1 : Int32)), 0, 0), m)
  else
    if 0 ≤ (v2 + v5) ∧ (v2 + v5).toNatClampNeg < sl_lb v1 then
    if 0 ≤ ((v4 ^^^ (sl_sx (m.1 30 v1 ((v2 + v5).toNatClampNeg)))) &&& (15 : Int32)) ∧ ((v4 ^^^ (sl_sx (m.1 30 v1 ((v2 + v5).toNatClampNeg)))) &&& (15 : Int32)).toNatClampNeg < 16 then
    if 0 ≤ ((((sl_ush v4 (4 : Int32)) ^^^ (m.1 50 0 (((v4 ^^^ (sl_sx (m.1 30 v1 ((v2 + v5).toNatClampNeg)))) &&& (15 : Int32)).toNatClampNeg))) ^^^ ((sl_sx (m.1 30 v1 ((v2 + v5).toNatClampNeg))) >>> ((4 : Int32) &&& 31))) &&& (15 : Int32)) ∧ ((((sl_ush v4 (4 : Int32)) ^^^ (m.1 50 0 (((v4 ^^^ (sl_sx (m.1 30 v1 ((v2 + v5).toNatClampNeg)))) &&& (15 : Int32)).toNatClampNeg))) ^^^ ((sl_sx (m.1 30 v1 ((v2 + v5).toNatClampNeg))) >>> ((4 : Int32) &&& 31))) &&& (15 : Int32)).toNatClampNeg < 16 then
    b_X11_checkOf_6 n v1 v2 v3 ((sl_ush ((sl_ush v4 (4 : Int32)) ^^^ (m.1 50 0 (((v4 ^^^ (sl_sx (m.1 30 v1 ((v2 + v5).toNatClampNeg)))) &&& (15 : Int32)).toNatClampNeg))) (4 : Int32)) ^^^ (m.1 50 0 (((((sl_ush v4 (4 : Int32)) ^^^ (m.1 50 0 (((v4 ^^^ (sl_sx (m.1 30 v1 ((v2 + v5).toNatClampNeg)))) &&& (15 : Int32)).toNatClampNeg))) ^^^ ((sl_sx (m.1 30 v1 ((v2 + v5).toNatClampNeg))) >>> ((4 : Int32) &&& 31))) &&& (15 : Int32)).toNatClampNeg))) (v5 + (1 : Int32)) m
    else none
    else none
    else none := by
  have h := g_X11_checkOf_6 ca_X11_checkOf n v1 v2 v3 v4 v5 m
  simp only [bq_X11_checkOf_6] at h
  exact h

def tb_X11_check (p : Nat) : Option sl_E := bif Nat.ble 26 p then none else (bif Nat.ble 12 p then (bif Nat.ble 20 p then (bif Nat.ble 22 p then (bif Nat.ble 25 p then (bif Nat.beq p 25 then some (47, 0, 1, 1, []) else none) else (bif Nat.beq p 22 then some (46, 0, 149, 3, []) else none)) else (bif Nat.ble 21 p then (bif Nat.beq p 21 then some (0, 0, 1, 1, []) else none) else (bif Nat.beq p 20 then some (2, 0, 0, 1, []) else none))) else (bif Nat.ble 16 p then (bif Nat.ble 17 p then (bif Nat.beq p 17 then some (35, 0, 13, 3, []) else none) else (bif Nat.beq p 16 then some (1, 0, 0, 1, []) else none)) else (bif Nat.ble 15 p then (bif Nat.beq p 15 then some (1, 0, 0, 1, []) else none) else (bif Nat.beq p 12 then some (36, 0, 17, 3, []) else none)))) else (bif Nat.ble 6 p then (bif Nat.ble 10 p then (bif Nat.ble 11 p then (bif Nat.beq p 11 then some (2, 0, 0, 1, []) else none) else (bif Nat.beq p 10 then some (1, 0, 0, 1, []) else none)) else (bif Nat.ble 9 p then (bif Nat.beq p 9 then some (3, 0, 1, 1, []) else none) else (bif Nat.beq p 6 then some (35, 0, 17, 3, []) else none))) else (bif Nat.ble 2 p then (bif Nat.ble 5 p then (bif Nat.beq p 5 then some (1, 0, 0, 1, []) else none) else (bif Nat.beq p 2 then some (36, 0, 7, 3, []) else none)) else (bif Nat.ble 1 p then (bif Nat.beq p 1 then some (2, 0, 0, 1, []) else none) else (bif Nat.beq p 0 then some (1, 0, 0, 1, []) else none)))))
def ca_X11_check (y : Nat) (as : List sl_V) (m : sl_M) : Option (sl_PL × sl_M) := bif Nat.beq y 95 then F_X11_checkOf as m else none
def sp_X11_check (p : Nat) : Bool := false
def mk_X11_check (p : Nat) : List Bool := []
def cl_X11_check (p : Nat) : Option sl_C := bif Nat.ble 150 p then none else (bif Nat.beq p 149 then some (95, 4, 1, 0, 0, 12) else none)
def R_X11_check (ca : Nat → List sl_V → sl_M → Option (sl_PL × sl_M)) : Nat → sl_S → sl_M → Option (sl_PL × sl_M) := sl_B tb_X11_check fl_X11 pf_X11 cl_X11_check nw_X11 sl_rd sl_wr sl_al sl_ln 0 (fun _ => 0) ca sp_X11_check mk_X11_check
def F_X11_check (as : List sl_V) (m : sl_M) : Option (sl_PL × sl_M) := R_X11_check ca_X11_check 100000 (0, sl_lo 2 as, []) m
def f_X11_check  (m : sl_M) : Option (sl_PL × sl_M) := F_X11_check [.inr (.inl (some (11, 0)))] m
def r_X11_check_0 (ca : Nat → List sl_V → sl_M → Option (sl_PL × sl_M)) (n : Nat)  (m : sl_M) : Option (sl_PL × sl_M) := R_X11_check ca n (0, sl_lo 2 [.inr (.inl (some (11, 0)))], []) m
set_option maxRecDepth 100000 in
theorem g_X11_check_0 (ca : Nat → List sl_V → sl_M → Option (sl_PL × sl_M)) (n : Nat)  (m : sl_M) : r_X11_check_0 ca (n + 1) m =
  (ca 95 [.inr (.inl (some (11, 0))), .inr (.inl (some (30, 0))), .inl (0 : Int32), .inl (m.1 11 0 2)] (sl_up (sl_up m 11 0 0 (0 : Int32)) 11 0 2 (0 : Int32))).bind (fun q1 =>
  some ((q1.1.1, 0, 0), q1.2)) := by rfl
theorem cq_X11_check_X11_checkOf (a0 : Nat) (a1 : Int32) (a2 : Int32) (m : sl_M) : ca_X11_check 95 [.inr (.inl (some (11, 0))), .inr (.inl (some (30, a0))), .inl a1, .inl a2] m = f_X11_checkOf a0 a1 a2 m := by
  unfold ca_X11_check f_X11_checkOf
  rw [show Nat.beq 95 95 = true from rfl, cond_true]
theorem e_X11_check  (m : sl_M) : f_X11_check m =
  (f_X11_checkOf 0 (0 : Int32) (m.1 11 0 2) (sl_up (sl_up m 11 0 0 (0 : Int32)) 11 0 2 (0 : Int32))).bind (fun q1 =>
  some ((q1.1.1, 0, 0), q1.2)) := by
  have h := g_X11_check_0 ca_X11_check 99999 m
  simp only [cq_X11_check_X11_checkOf] at h
  exact h

def tb_X11_stuffed (p : Nat) : Option sl_E := bif Nat.ble 116 p then none else (bif Nat.ble 55 p then (bif Nat.ble 89 p then (bif Nat.ble 103 p then (bif Nat.ble 112 p then (bif Nat.ble 114 p then (bif Nat.ble 115 p then (bif Nat.beq p 115 then some (47, 0, 1, 1, []) else none) else (bif Nat.beq p 114 then some (7, 0, 0, 1, []) else none)) else (bif Nat.ble 113 p then (bif Nat.beq p 113 then some (0, 0, 3, 1, []) else none) else (bif Nat.beq p 112 then some (7, 0, 0, 1, []) else none))) else (bif Nat.ble 109 p then (bif Nat.ble 111 p then (bif Nat.beq p 111 then some (2, 1, 0, 1, []) else none) else (bif Nat.beq p 109 then some (0, 0, 5, 2, []) else none)) else (bif Nat.ble 106 p then (bif Nat.beq p 106 then some (34, 0, 11, 3, []) else none) else (bif Nat.beq p 103 then some (5, 1, 6, 3, []) else none)))) else (bif Nat.ble 95 p then (bif Nat.ble 98 p then (bif Nat.ble 100 p then (bif Nat.beq p 100 then some (5, 1, 5, 3, []) else none) else (bif Nat.beq p 98 then some (3, 0, 4, 2, []) else none)) else (bif Nat.ble 96 p then (bif Nat.beq p 96 then some (0, 0, 5, 2, []) else none) else (bif Nat.beq p 95 then some (42, 0, 0, 1, []) else none))) else (bif Nat.ble 93 p then (bif Nat.ble 94 p then (bif Nat.beq p 94 then some (17, 0, 0, 1, []) else none) else (bif Nat.beq p 93 then some (7, 0, 0, 1, []) else none)) else (bif Nat.ble 91 p then (bif Nat.beq p 91 then some (0, 0, 4, 2, []) else none) else (bif Nat.beq p 89 then some (0, 0, 5, 2, []) else none))))) else (bif Nat.ble 73 p then (bif Nat.ble 81 p then (bif Nat.ble 86 p then (bif Nat.ble 87 p then (bif Nat.beq p 87 then some (0, 0, 4, 2, []) else none) else (bif Nat.beq p 86 then some (1, 0, 2, 1, []) else none)) else (bif Nat.ble 83 p then (bif Nat.beq p 83 then some (28, 0, 103, 3, []) else none) else (bif Nat.beq p 81 then some (0, 0, 8, 2, []) else none))) else (bif Nat.ble 76 p then (bif Nat.ble 78 p then (bif Nat.beq p 78 then some (29, 0, 86, 3, []) else none) else (bif Nat.beq p 76 then some (0, 0, 7, 2, []) else none)) else (bif Nat.ble 74 p then (bif Nat.beq p 74 then some (3, 0, 8, 2, []) else none) else (bif Nat.beq p 73 then some (2, 0, 0, 1, []) else none)))) else (bif Nat.ble 63 p then (bif Nat.ble 69 p then (bif Nat.ble 70 p then (bif Nat.beq p 70 then some (34, 0, 74, 3, []) else none) else (bif Nat.beq p 69 then some (2, 1, 0, 1, []) else none)) else (bif Nat.ble 66 p then (bif Nat.beq p 66 then some (23, 0, 73, 3, []) else none) else (bif Nat.beq p 63 then some (2, 255, 0, 3, []) else none))) else (bif Nat.ble 60 p then (bif Nat.ble 62 p then (bif Nat.beq p 62 then some (7, 0, 0, 1, []) else none) else (bif Nat.beq p 60 then some (0, 0, 4, 2, []) else none)) else (bif Nat.ble 58 p then (bif Nat.beq p 58 then some (0, 0, 5, 2, []) else none) else (bif Nat.beq p 55 then some (29, 0, 73, 3, []) else none)))))) else (bif Nat.ble 26 p then (bif Nat.ble 42 p then (bif Nat.ble 48 p then (bif Nat.ble 50 p then (bif Nat.ble 53 p then (bif Nat.beq p 53 then some (0, 0, 7, 2, []) else none) else (bif Nat.beq p 50 then some (5, 1, 5, 3, []) else none)) else (bif Nat.ble 49 p then (bif Nat.beq p 49 then some (42, 0, 0, 1, []) else none) else (bif Nat.beq p 48 then some (38, 0, 0, 1, []) else none))) else (bif Nat.ble 45 p then (bif Nat.ble 46 p then (bif Nat.beq p 46 then some (0, 0, 6, 2, []) else none) else (bif Nat.beq p 45 then some (1, 0, 0, 1, []) else none)) else (bif Nat.ble 43 p then (bif Nat.beq p 43 then some (0, 0, 5, 2, []) else none) else (bif Nat.beq p 42 then some (1, 0, 2, 1, []) else none)))) else (bif Nat.ble 34 p then (bif Nat.ble 37 p then (bif Nat.ble 39 p then (bif Nat.beq p 39 then some (29, 0, 53, 3, []) else none) else (bif Nat.beq p 37 then some (0, 0, 7, 2, []) else none)) else (bif Nat.ble 35 p then (bif Nat.beq p 35 then some (3, 0, 7, 2, []) else none) else (bif Nat.beq p 34 then some (2, 0, 0, 1, []) else none))) else (bif Nat.ble 30 p then (bif Nat.ble 31 p then (bif Nat.beq p 31 then some (34, 0, 35, 3, []) else none) else (bif Nat.beq p 30 then some (2, 1, 0, 1, []) else none)) else (bif Nat.ble 27 p then (bif Nat.beq p 27 then some (29, 0, 34, 3, []) else none) else (bif Nat.beq p 26 then some (38, 0, 0, 1, []) else none))))) else (bif Nat.ble 11 p then (bif Nat.ble 19 p then (bif Nat.ble 23 p then (bif Nat.ble 24 p then (bif Nat.beq p 24 then some (0, 0, 6, 2, []) else none) else (bif Nat.beq p 23 then some (1, 0, 0, 1, []) else none)) else (bif Nat.ble 20 p then (bif Nat.beq p 20 then some (22, 0, 30, 3, []) else none) else (bif Nat.beq p 19 then some (0, 0, 1, 1, []) else none))) else (bif Nat.ble 14 p then (bif Nat.ble 17 p then (bif Nat.beq p 17 then some (0, 0, 6, 2, []) else none) else (bif Nat.beq p 14 then some (26, 0, 109, 3, []) else none)) else (bif Nat.ble 13 p then (bif Nat.beq p 13 then some (0, 0, 1, 1, []) else none) else (bif Nat.beq p 11 then some (0, 0, 6, 2, []) else none)))) else (bif Nat.ble 5 p then (bif Nat.ble 8 p then (bif Nat.ble 9 p then (bif Nat.beq p 9 then some (3, 0, 6, 2, []) else none) else (bif Nat.beq p 8 then some (2, 0, 0, 1, []) else none)) else (bif Nat.ble 6 p then (bif Nat.beq p 6 then some (3, 0, 5, 2, []) else none) else (bif Nat.beq p 5 then some (6, 0, 0, 1, []) else none))) else (bif Nat.ble 3 p then (bif Nat.ble 4 p then (bif Nat.beq p 4 then some (2, 1, 0, 1, []) else none) else (bif Nat.beq p 3 then some (0, 0, 3, 1, []) else none)) else (bif Nat.ble 1 p then (bif Nat.beq p 1 then some (3, 0, 4, 2, []) else none) else (bif Nat.beq p 0 then some (0, 0, 3, 1, []) else none)))))))
def ca_X11_stuffed (y : Nat) (as : List sl_V) (m : sl_M) : Option (sl_PL × sl_M) := none
def sp_X11_stuffed (p : Nat) : Bool := Nat.beq p 11
def mk_X11_stuffed (p : Nat) : List Bool := bif Nat.beq p 11 then [true, true, true, true, true, true, true, false, false] else []
def cl_X11_stuffed (p : Nat) : Option sl_C := none
def R_X11_stuffed (ca : Nat → List sl_V → sl_M → Option (sl_PL × sl_M)) : Nat → sl_S → sl_M → Option (sl_PL × sl_M) := sl_B tb_X11_stuffed fl_X11 pf_X11 cl_X11_stuffed nw_X11 sl_rd sl_wr sl_al sl_ln 0 (fun _ => 0) ca sp_X11_stuffed mk_X11_stuffed
def F_X11_stuffed (as : List sl_V) (m : sl_M) : Option (sl_PL × sl_M) := R_X11_stuffed ca_X11_stuffed 100000 (0, sl_lo 9 as, []) m
def f_X11_stuffed (a0 : Nat) (a1 : Int32) (a2 : Nat) (a3 : Int32) (m : sl_M) : Option (sl_PL × sl_M) := F_X11_stuffed [.inr (.inl (some (30, a0))), .inl a1, .inr (.inl (some (30, a2))), .inl a3] m
def r_X11_stuffed_0 (ca : Nat → List sl_V → sl_M → Option (sl_PL × sl_M)) (n : Nat) (a0 : Nat) (a1 : Int32) (a2 : Nat) (a3 : Int32) (m : sl_M) : Option (sl_PL × sl_M) := R_X11_stuffed ca n (0, sl_lo 9 [.inr (.inl (some (30, a0))), .inl a1, .inr (.inl (some (30, a2))), .inl a3], []) m
def r_X11_stuffed_11 (ca : Nat → List sl_V → sl_M → Option (sl_PL × sl_M)) (n : Nat) (v0 : Nat) (v1 : Int32) (v2 : Nat) (v3 : Int32) (v4 : Int32) (v5 : Int32) (v6 : Int32) (m : sl_M) : Option (sl_PL × sl_M) := R_X11_stuffed ca n (11, [some (.inr (.inl (some (30, v0)))), some (.inl v1), some (.inr (.inl (some (30, v2)))), some (.inl v3), some (.inl v4), some (.inl v5), some (.inl v6), none, none], []) m
def b_X11_stuffed_11 (n : Nat) (v0 : Nat) (v1 : Int32) (v2 : Nat) (v3 : Int32) (v4 : Int32) (v5 : Int32) (v6 : Int32) (m : sl_M) : Option (sl_PL × sl_M) := r_X11_stuffed_11 ca_X11_stuffed n v0 v1 v2 v3 v4 v5 v6 m
set_option maxRecDepth 100000 in
theorem g_X11_stuffed_0 (ca : Nat → List sl_V → sl_M → Option (sl_PL × sl_M)) (n : Nat) (a0 : Nat) (a1 : Int32) (a2 : Nat) (a3 : Int32) (m : sl_M) : r_X11_stuffed_0 ca (n + 1) a0 a1 a2 a3 m =
  r_X11_stuffed_11 ca n a0 a1 a2 a3 a3 (a3 + (1 : Int32)) (0 : Int32) m := by rfl
set_option maxRecDepth 100000 in
theorem g_X11_stuffed_11 (ca : Nat → List sl_V → sl_M → Option (sl_PL × sl_M)) (n : Nat) (v0 : Nat) (v1 : Int32) (v2 : Nat) (v3 : Int32) (v4 : Int32) (v5 : Int32) (v6 : Int32) (m : sl_M) : r_X11_stuffed_11 ca (n + 1) v0 v1 v2 v3 v4 v5 v6 m =
  if v1 < v6 then
    some ((((v5 - (1 : Int32)) - v3), 0, 0), m)
  else
    if v6 = v1 then
      if 0 ≤ v4 ∧ v4.toNatClampNeg < sl_lb v2 then
      r_X11_stuffed_11 ca n v0 v1 v2 v3 v5 (v5 + (1 : Int32)) (v6 + (1 : Int32)) (sl_up m 30 v2 v4.toNatClampNeg (sl_sx (v5 - v4)))
      else none
    else
      if 0 ≤ v6 ∧ v6.toNatClampNeg < sl_lb v0 then
      if (sl_sx (m.1 30 v0 v6.toNatClampNeg)) = 0 then
        if 0 ≤ v4 ∧ v4.toNatClampNeg < sl_lb v2 then
        r_X11_stuffed_11 ca n v0 v1 v2 v3 v5 (v5 + (1 : Int32)) (v6 + (1 : Int32)) (sl_up m 30 v2 v4.toNatClampNeg (sl_sx (v5 - v4)))
        else none
      else
        if 0 ≤ v6 ∧ v6.toNatClampNeg < sl_lb v0 then
        if 0 ≤ v5 ∧ v5.toNatClampNeg < sl_lb v2 then
        if ((v5 + (1 : Int32)) - v4) = (255 : Int32) then
          if 0 ≤ v4 ∧ v4.toNatClampNeg < sl_lb v2 then
          r_X11_stuffed_11 ca n v0 v1 v2 v3 (v5 + (1 : Int32)) ((v5 + (1 : Int32)) + (1 : Int32)) (v6 + (1 : Int32)) (sl_up (sl_up m 30 v2 v5.toNatClampNeg (sl_sx (m.1 30 v0 v6.toNatClampNeg))) 30 v2 v4.toNatClampNeg (sl_sx ((v5 + (1 : Int32)) - v4)))
          else none
        else
          r_X11_stuffed_11 ca n v0 v1 v2 v3 v4 (v5 + (1 : Int32)) (v6 + (1 : Int32)) (sl_up m 30 v2 v5.toNatClampNeg (sl_sx (m.1 30 v0 v6.toNatClampNeg)))
        else none
        else none
      else none := by rfl
theorem bq_X11_stuffed_11 (n : Nat) (v0 : Nat) (v1 : Int32) (v2 : Nat) (v3 : Int32) (v4 : Int32) (v5 : Int32) (v6 : Int32) (m : sl_M) : r_X11_stuffed_11 ca_X11_stuffed n v0 v1 v2 v3 v4 v5 v6 m = b_X11_stuffed_11 n v0 v1 v2 v3 v4 v5 v6 m := rfl
theorem e_X11_stuffed (a0 : Nat) (a1 : Int32) (a2 : Nat) (a3 : Int32) (m : sl_M) : f_X11_stuffed a0 a1 a2 a3 m =
  b_X11_stuffed_11 99999 a0 a1 a2 a3 a3 (a3 + (1 : Int32)) (0 : Int32) m := by
  have h := g_X11_stuffed_0 ca_X11_stuffed 99999 a0 a1 a2 a3 m
  simp only [bq_X11_stuffed_11] at h
  exact h
theorem e_X11_stuffed_11 (n : Nat) (v0 : Nat) (v1 : Int32) (v2 : Nat) (v3 : Int32) (v4 : Int32) (v5 : Int32) (v6 : Int32) (m : sl_M) : b_X11_stuffed_11 (n + 1) v0 v1 v2 v3 v4 v5 v6 m =
  if v1 < v6 then
    some ((((v5 - (1 : Int32)) - v3), 0, 0), m)
  else
    if v6 = v1 then
      if 0 ≤ v4 ∧ v4.toNatClampNeg < sl_lb v2 then
      b_X11_stuffed_11 n v0 v1 v2 v3 v5 (v5 + (1 : Int32)) (v6 + (1 : Int32)) (sl_up m 30 v2 v4.toNatClampNeg (sl_sx (v5 - v4)))
      else none
    else
      if 0 ≤ v6 ∧ v6.toNatClampNeg < sl_lb v0 then
      if (sl_sx (m.1 30 v0 v6.toNatClampNeg)) = 0 then
        if 0 ≤ v4 ∧ v4.toNatClampNeg < sl_lb v2 then
        b_X11_stuffed_11 n v0 v1 v2 v3 v5 (v5 + (1 : Int32)) (v6 + (1 : Int32)) (sl_up m 30 v2 v4.toNatClampNeg (sl_sx (v5 - v4)))
        else none
      else
        if 0 ≤ v6 ∧ v6.toNatClampNeg < sl_lb v0 then
        if 0 ≤ v5 ∧ v5.toNatClampNeg < sl_lb v2 then
        if ((v5 + (1 : Int32)) - v4) = (255 : Int32) then
          if 0 ≤ v4 ∧ v4.toNatClampNeg < sl_lb v2 then
          b_X11_stuffed_11 n v0 v1 v2 v3 (v5 + (1 : Int32)) ((v5 + (1 : Int32)) + (1 : Int32)) (v6 + (1 : Int32)) (sl_up (sl_up m 30 v2 v5.toNatClampNeg (sl_sx (m.1 30 v0 v6.toNatClampNeg))) 30 v2 v4.toNatClampNeg (sl_sx ((v5 + (1 : Int32)) - v4)))
          else none
        else
          b_X11_stuffed_11 n v0 v1 v2 v3 v4 (v5 + (1 : Int32)) (v6 + (1 : Int32)) (sl_up m 30 v2 v5.toNatClampNeg (sl_sx (m.1 30 v0 v6.toNatClampNeg)))
        else none
        else none
      else none := by
  have h := g_X11_stuffed_11 ca_X11_stuffed n v0 v1 v2 v3 v4 v5 v6 m
  simp only [bq_X11_stuffed_11] at h
  exact h

def tb_X11_faulty (p : Nat) : Option sl_E := bif Nat.ble 12 p then none else (bif Nat.ble 6 p then (bif Nat.ble 10 p then (bif Nat.ble 11 p then (bif Nat.beq p 11 then some (47, 0, 1, 1, []) else none) else (bif Nat.beq p 10 then some (2, (-1), 0, 1, []) else none)) else (bif Nat.ble 7 p then (bif Nat.beq p 7 then some (36, 0, 33, 3, []) else none) else (bif Nat.beq p 6 then some (0, 0, 2, 1, []) else none))) else (bif Nat.ble 2 p then (bif Nat.ble 5 p then (bif Nat.beq p 5 then some (1, 0, 0, 1, []) else none) else (bif Nat.beq p 2 then some (36, 0, 30, 3, []) else none)) else (bif Nat.ble 1 p then (bif Nat.beq p 1 then some (0, 0, 1, 1, []) else none) else (bif Nat.beq p 0 then some (1, 0, 0, 1, []) else none))))
def ca_X11_faulty (y : Nat) (as : List sl_V) (m : sl_M) : Option (sl_PL × sl_M) := none
def sp_X11_faulty (p : Nat) : Bool := false
def mk_X11_faulty (p : Nat) : List Bool := []
def cl_X11_faulty (p : Nat) : Option sl_C := none
def R_X11_faulty (ca : Nat → List sl_V → sl_M → Option (sl_PL × sl_M)) : Nat → sl_S → sl_M → Option (sl_PL × sl_M) := sl_B tb_X11_faulty fl_X11 pf_X11 cl_X11_faulty nw_X11 sl_rd sl_wr sl_al sl_ln 0 (fun _ => 0) ca sp_X11_faulty mk_X11_faulty
def F_X11_faulty (as : List sl_V) (m : sl_M) : Option (sl_PL × sl_M) := R_X11_faulty ca_X11_faulty 100000 (0, sl_lo 3 as, []) m
def f_X11_faulty (a0 : Int32) (a1 : Int32) (m : sl_M) : Option (sl_PL × sl_M) := F_X11_faulty [.inr (.inl (some (11, 0))), .inl a0, .inl a1] m
def r_X11_faulty_0 (ca : Nat → List sl_V → sl_M → Option (sl_PL × sl_M)) (n : Nat) (a0 : Int32) (a1 : Int32) (m : sl_M) : Option (sl_PL × sl_M) := R_X11_faulty ca n (0, sl_lo 3 [.inr (.inl (some (11, 0))), .inl a0, .inl a1], []) m
set_option maxRecDepth 100000 in
theorem g_X11_faulty_0 (ca : Nat → List sl_V → sl_M → Option (sl_PL × sl_M)) (n : Nat) (a0 : Int32) (a1 : Int32) (m : sl_M) : r_X11_faulty_0 ca (n + 1) a0 a1 m =
  some (((-1 : Int32), 0, 0), (sl_up (sl_up m 11 0 6 a0) 11 0 7 a1)) := by rfl
theorem e_X11_faulty (a0 : Int32) (a1 : Int32) (m : sl_M) : f_X11_faulty a0 a1 m =
  some (((-1 : Int32), 0, 0), (sl_up (sl_up m 11 0 6 a0) 11 0 7 a1)) := by
  have h := g_X11_faulty_0 ca_X11_faulty 99999 a0 a1 m
  exact h

def tb_X11_unstuffed (p : Nat) : Option sl_E := bif Nat.ble 152 p then none else (bif Nat.ble 73 p then (bif Nat.ble 109 p then (bif Nat.ble 129 p then (bif Nat.ble 141 p then (bif Nat.ble 146 p then (bif Nat.ble 149 p then (bif Nat.ble 151 p then (bif Nat.beq p 151 then some (47, 0, 1, 1, []) else none) else (bif Nat.beq p 149 then some (0, 0, 5, 2, []) else none)) else (bif Nat.beq p 146 then some (34, 0, 151, 3, []) else none)) else (bif Nat.ble 142 p then (bif Nat.ble 143 p then (bif Nat.beq p 143 then some (46, 0, 153, 3, []) else none) else (bif Nat.beq p 142 then some (0, 0, 2, 1, []) else none)) else (bif Nat.beq p 141 then some (2, 2, 0, 1, []) else none))) else (bif Nat.ble 134 p then (bif Nat.ble 137 p then (bif Nat.ble 140 p then (bif Nat.beq p 140 then some (1, 0, 0, 1, []) else none) else (bif Nat.beq p 137 then some (23, 0, 149, 3, []) else none)) else (bif Nat.beq p 134 then some (2, 255, 0, 3, []) else none)) else (bif Nat.ble 132 p then (bif Nat.beq p 132 then some (0, 0, 6, 2, []) else none) else (bif Nat.beq p 129 then some (34, 0, 11, 3, []) else none)))) else (bif Nat.ble 121 p then (bif Nat.ble 124 p then (bif Nat.ble 125 p then (bif Nat.ble 126 p then (bif Nat.beq p 126 then some (5, 1, 5, 3, []) else none) else (bif Nat.beq p 125 then some (42, 0, 0, 1, []) else none)) else (bif Nat.beq p 124 then some (2, 0, 0, 1, []) else none)) else (bif Nat.ble 122 p then (bif Nat.beq p 122 then some (0, 0, 5, 2, []) else none) else (bif Nat.beq p 121 then some (1, 0, 3, 1, []) else none))) else (bif Nat.ble 115 p then (bif Nat.ble 117 p then (bif Nat.ble 118 p then (bif Nat.beq p 118 then some (25, 0, 11, 3, []) else none) else (bif Nat.beq p 117 then some (0, 0, 2, 1, []) else none)) else (bif Nat.beq p 115 then some (0, 0, 4, 2, []) else none)) else (bif Nat.ble 112 p then (bif Nat.beq p 112 then some (25, 0, 11, 3, []) else none) else (bif Nat.beq p 109 then some (2, 255, 0, 3, []) else none))))) else (bif Nat.ble 89 p then (bif Nat.ble 100 p then (bif Nat.ble 104 p then (bif Nat.ble 105 p then (bif Nat.ble 107 p then (bif Nat.beq p 107 then some (0, 0, 6, 2, []) else none) else (bif Nat.beq p 105 then some (3, 0, 4, 2, []) else none)) else (bif Nat.beq p 104 then some (6, 0, 0, 1, []) else none)) else (bif Nat.ble 102 p then (bif Nat.beq p 102 then some (0, 0, 6, 2, []) else none) else (bif Nat.beq p 100 then some (0, 0, 4, 2, []) else none))) else (bif Nat.ble 91 p then (bif Nat.ble 94 p then (bif Nat.ble 97 p then (bif Nat.beq p 97 then some (34, 0, 52, 3, []) else none) else (bif Nat.beq p 94 then some (5, 1, 7, 3, []) else none)) else (bif Nat.beq p 91 then some (5, 1, 5, 3, []) else none)) else (bif Nat.ble 90 p then (bif Nat.beq p 90 then some (42, 0, 0, 1, []) else none) else (bif Nat.beq p 89 then some (38, 0, 0, 1, []) else none)))) else (bif Nat.ble 81 p then (bif Nat.ble 84 p then (bif Nat.ble 86 p then (bif Nat.ble 88 p then (bif Nat.beq p 88 then some (6, 0, 0, 1, []) else none) else (bif Nat.beq p 86 then some (0, 0, 7, 2, []) else none)) else (bif Nat.beq p 84 then some (0, 0, 4, 2, []) else none)) else (bif Nat.ble 83 p then (bif Nat.beq p 83 then some (1, 0, 1, 1, []) else none) else (bif Nat.beq p 81 then some (0, 0, 5, 2, []) else none))) else (bif Nat.ble 76 p then (bif Nat.ble 79 p then (bif Nat.ble 80 p then (bif Nat.beq p 80 then some (1, 0, 3, 1, []) else none) else (bif Nat.beq p 79 then some (47, 0, 1, 1, []) else none)) else (bif Nat.beq p 76 then some (46, 0, 153, 3, []) else none)) else (bif Nat.ble 75 p then (bif Nat.beq p 75 then some (6, 0, 0, 1, []) else none) else (bif Nat.beq p 73 then some (0, 0, 7, 2, []) else none)))))) else (bif Nat.ble 37 p then (bif Nat.ble 54 p then (bif Nat.ble 64 p then (bif Nat.ble 69 p then (bif Nat.ble 70 p then (bif Nat.ble 71 p then (bif Nat.beq p 71 then some (0, 0, 4, 2, []) else none) else (bif Nat.beq p 70 then some (2, 1, 0, 1, []) else none)) else (bif Nat.beq p 69 then some (1, 0, 0, 1, []) else none)) else (bif Nat.ble 65 p then (bif Nat.ble 66 p then (bif Nat.beq p 66 then some (29, 0, 80, 3, []) else none) else (bif Nat.beq p 65 then some (38, 0, 0, 1, []) else none)) else (bif Nat.beq p 64 then some (6, 0, 0, 1, []) else none))) else (bif Nat.ble 59 p then (bif Nat.ble 60 p then (bif Nat.ble 62 p then (bif Nat.beq p 62 then some (0, 0, 7, 2, []) else none) else (bif Nat.beq p 60 then some (0, 0, 4, 2, []) else none)) else (bif Nat.beq p 59 then some (1, 0, 1, 1, []) else none)) else (bif Nat.ble 56 p then (bif Nat.beq p 56 then some (25, 0, 100, 3, []) else none) else (bif Nat.beq p 54 then some (0, 0, 6, 2, []) else none)))) else (bif Nat.ble 45 p then (bif Nat.ble 49 p then (bif Nat.ble 50 p then (bif Nat.ble 52 p then (bif Nat.beq p 52 then some (0, 0, 7, 2, []) else none) else (bif Nat.beq p 50 then some (3, 0, 7, 2, []) else none)) else (bif Nat.beq p 49 then some (2, 1, 0, 1, []) else none)) else (bif Nat.ble 48 p then (bif Nat.beq p 48 then some (47, 0, 1, 1, []) else none) else (bif Nat.beq p 45 then some (46, 0, 153, 3, []) else none))) else (bif Nat.ble 41 p then (bif Nat.ble 42 p then (bif Nat.ble 43 p then (bif Nat.beq p 43 then some (0, 0, 4, 2, []) else none) else (bif Nat.beq p 42 then some (2, 1, 0, 1, []) else none)) else (bif Nat.beq p 41 then some (1, 0, 0, 1, []) else none)) else (bif Nat.ble 38 p then (bif Nat.beq p 38 then some (27, 0, 49, 3, []) else none) else (bif Nat.beq p 37 then some (0, 0, 2, 1, []) else none))))) else (bif Nat.ble 18 p then (bif Nat.ble 27 p then (bif Nat.ble 32 p then (bif Nat.ble 34 p then (bif Nat.ble 36 p then (bif Nat.beq p 36 then some (6, 0, 0, 1, []) else none) else (bif Nat.beq p 34 then some (0, 0, 6, 2, []) else none)) else (bif Nat.beq p 32 then some (0, 0, 4, 2, []) else none)) else (bif Nat.ble 29 p then (bif Nat.beq p 29 then some (28, 0, 41, 3, []) else none) else (bif Nat.beq p 27 then some (0, 0, 6, 2, []) else none))) else (bif Nat.ble 21 p then (bif Nat.ble 24 p then (bif Nat.ble 25 p then (bif Nat.beq p 25 then some (3, 0, 6, 2, []) else none) else (bif Nat.beq p 24 then some (11, 0, 0, 1, []) else none)) else (bif Nat.beq p 21 then some (2, 255, 0, 3, []) else none)) else (bif Nat.ble 20 p then (bif Nat.beq p 20 then some (38, 0, 0, 1, []) else none) else (bif Nat.beq p 18 then some (0, 0, 4, 2, []) else none)))) else (bif Nat.ble 9 p then (bif Nat.ble 13 p then (bif Nat.ble 14 p then (bif Nat.ble 17 p then (bif Nat.beq p 17 then some (1, 0, 1, 1, []) else none) else (bif Nat.beq p 14 then some (25, 0, 132, 3, []) else none)) else (bif Nat.beq p 13 then some (0, 0, 2, 1, []) else none)) else (bif Nat.ble 11 p then (bif Nat.beq p 11 then some (0, 0, 4, 2, []) else none) else (bif Nat.beq p 9 then some (3, 0, 6, 2, []) else none))) else (bif Nat.ble 3 p then (bif Nat.ble 4 p then (bif Nat.ble 6 p then (bif Nat.beq p 6 then some (2, 255, 0, 3, []) else none) else (bif Nat.beq p 4 then some (3, 0, 5, 2, []) else none)) else (bif Nat.beq p 3 then some (2, 0, 0, 1, []) else none)) else (bif Nat.ble 1 p then (bif Nat.beq p 1 then some (3, 0, 4, 2, []) else none) else (bif Nat.beq p 0 then some (2, 0, 0, 1, []) else none)))))))
def ca_X11_unstuffed (y : Nat) (as : List sl_V) (m : sl_M) : Option (sl_PL × sl_M) := bif Nat.beq y 99 then F_X11_faulty as m else none
def sp_X11_unstuffed (p : Nat) : Bool := Nat.beq p 11 || Nat.beq p 52
def mk_X11_unstuffed (p : Nat) : List Bool := bif Nat.ble 52 p then (bif Nat.beq p 52 then [true, true, true, true, true, true, true, true] else []) else (bif Nat.beq p 11 then [true, true, true, true, true, true, true, false] else [])
def cl_X11_unstuffed (p : Nat) : Option sl_C := bif Nat.ble 154 p then none else (bif Nat.beq p 153 then some (99, 3, 1, 0, 0, 12) else none)
def R_X11_unstuffed (ca : Nat → List sl_V → sl_M → Option (sl_PL × sl_M)) : Nat → sl_S → sl_M → Option (sl_PL × sl_M) := sl_B tb_X11_unstuffed fl_X11 pf_X11 cl_X11_unstuffed nw_X11 sl_rd sl_wr sl_al sl_ln 0 (fun _ => 0) ca sp_X11_unstuffed mk_X11_unstuffed
def F_X11_unstuffed (as : List sl_V) (m : sl_M) : Option (sl_PL × sl_M) := R_X11_unstuffed ca_X11_unstuffed 100000 (0, sl_lo 8 as, []) m
def f_X11_unstuffed (a0 : Nat) (a1 : Int32) (a2 : Nat) (m : sl_M) : Option (sl_PL × sl_M) := F_X11_unstuffed [.inr (.inl (some (11, 0))), .inr (.inl (some (30, a0))), .inl a1, .inr (.inl (some (30, a2)))] m
def r_X11_unstuffed_0 (ca : Nat → List sl_V → sl_M → Option (sl_PL × sl_M)) (n : Nat) (a0 : Nat) (a1 : Int32) (a2 : Nat) (m : sl_M) : Option (sl_PL × sl_M) := R_X11_unstuffed ca n (0, sl_lo 8 [.inr (.inl (some (11, 0))), .inr (.inl (some (30, a0))), .inl a1, .inr (.inl (some (30, a2)))], []) m
def r_X11_unstuffed_11 (ca : Nat → List sl_V → sl_M → Option (sl_PL × sl_M)) (n : Nat) (v1 : Nat) (v2 : Int32) (v3 : Nat) (v4 : Int32) (v5 : Int32) (v6 : Int32) (m : sl_M) : Option (sl_PL × sl_M) := R_X11_unstuffed ca n (11, [some (.inr (.inl (some (11, 0)))), some (.inr (.inl (some (30, v1)))), some (.inl v2), some (.inr (.inl (some (30, v3)))), some (.inl v4), some (.inl v5), some (.inl v6), none], []) m
def b_X11_unstuffed_11 (n : Nat) (v1 : Nat) (v2 : Int32) (v3 : Nat) (v4 : Int32) (v5 : Int32) (v6 : Int32) (m : sl_M) : Option (sl_PL × sl_M) := r_X11_unstuffed_11 ca_X11_unstuffed n v1 v2 v3 v4 v5 v6 m
def r_X11_unstuffed_52 (ca : Nat → List sl_V → sl_M → Option (sl_PL × sl_M)) (n : Nat) (v1 : Nat) (v2 : Int32) (v3 : Nat) (v4 : Int32) (v5 : Int32) (v6 : Int32) (v7 : Int32) (m : sl_M) : Option (sl_PL × sl_M) := R_X11_unstuffed ca n (52, [some (.inr (.inl (some (11, 0)))), some (.inr (.inl (some (30, v1)))), some (.inl v2), some (.inr (.inl (some (30, v3)))), some (.inl v4), some (.inl v5), some (.inl v6), some (.inl v7)], []) m
def b_X11_unstuffed_52 (n : Nat) (v1 : Nat) (v2 : Int32) (v3 : Nat) (v4 : Int32) (v5 : Int32) (v6 : Int32) (v7 : Int32) (m : sl_M) : Option (sl_PL × sl_M) := r_X11_unstuffed_52 ca_X11_unstuffed n v1 v2 v3 v4 v5 v6 v7 m
set_option maxRecDepth 100000 in
theorem g_X11_unstuffed_0 (ca : Nat → List sl_V → sl_M → Option (sl_PL × sl_M)) (n : Nat) (a0 : Nat) (a1 : Int32) (a2 : Nat) (m : sl_M) : r_X11_unstuffed_0 ca (n + 1) a0 a1 a2 m =
  r_X11_unstuffed_11 ca n a0 a1 a2 (0 : Int32) (0 : Int32) (255 : Int32) m := by rfl
set_option maxRecDepth 100000 in
theorem g_X11_unstuffed_11 (ca : Nat → List sl_V → sl_M → Option (sl_PL × sl_M)) (n : Nat) (v1 : Nat) (v2 : Int32) (v3 : Nat) (v4 : Int32) (v5 : Int32) (v6 : Int32) (m : sl_M) : r_X11_unstuffed_11 ca (n + 1) v1 v2 v3 v4 v5 v6 m =
  if v2 ≤ v4 then
    if v6 = (255 : Int32) then
      (ca 99 [.inr (.inl (some (11, 0))), .inl (2 : Int32), .inl v2] m).bind (fun q1 =>
      some ((q1.1.1, 0, 0), q1.2))
    else
      some ((v5, 0, 0), m)
  else
    if 0 ≤ v4 ∧ v4.toNatClampNeg < sl_lb v1 then
    if ((sl_sx (m.1 30 v1 v4.toNatClampNeg)) &&& (255 : Int32)) = 0 then
      (ca 99 [.inr (.inl (some (11, 0))), .inl (1 : Int32), .inl v4] m).bind (fun q2 =>
      some ((q2.1.1, 0, 0), q2.2))
    else
      if (v4 + ((sl_sx (m.1 30 v1 v4.toNatClampNeg)) &&& (255 : Int32))) ≤ v2 then
        r_X11_unstuffed_52 ca n v1 v2 v3 v4 v5 ((sl_sx (m.1 30 v1 v4.toNatClampNeg)) &&& (255 : Int32)) (1 : Int32) m
      else
        (ca 99 [.inr (.inl (some (11, 0))), .inl (1 : Int32), .inl v4] m).bind (fun q3 =>
        some ((q3.1.1, 0, 0), q3.2))
    else none := by rfl
set_option maxRecDepth 100000 in
theorem g_X11_unstuffed_52 (ca : Nat → List sl_V → sl_M → Option (sl_PL × sl_M)) (n : Nat) (v1 : Nat) (v2 : Int32) (v3 : Nat) (v4 : Int32) (v5 : Int32) (v6 : Int32) (v7 : Int32) (m : sl_M) : r_X11_unstuffed_52 ca (n + 1) v1 v2 v3 v4 v5 v6 v7 m =
  if v6 ≤ v7 then
    if (255 : Int32) ≤ v6 then
      r_X11_unstuffed_11 ca n v1 v2 v3 (v4 + v6) v5 v6 m
    else
      if v2 ≤ (v4 + v6) then
        r_X11_unstuffed_11 ca n v1 v2 v3 (v4 + v6) v5 v6 m
      else
        if 0 ≤ v5 ∧ v5.toNatClampNeg < sl_lb v3 then
        r_X11_unstuffed_11 ca n v1 v2 v3 (v4 + v6) (v5 + (1 : Int32)) v6 (sl_up m 30 v3 v5.toNatClampNeg (0 : Int32))
        else none
  else
    if 0 ≤ (v4 + v7) ∧ (v4 + v7).toNatClampNeg < sl_lb v1 then
    if (sl_sx (m.1 30 v1 ((v4 + v7).toNatClampNeg))) = 0 then
      (ca 99 [.inr (.inl (some (11, 0))), .inl (1 : Int32), .inl (v4 + v7)] m).bind (fun q1 =>
      some ((q1.1.1, 0, 0), q1.2))
    else
      if 0 ≤ (v4 + v7) ∧ (v4 + v7).toNatClampNeg < sl_lb v1 then
      if 0 ≤ v5 ∧ v5.toNatClampNeg < sl_lb v3 then
      r_X11_unstuffed_52 ca n v1 v2 v3 v4 (v5 + (1 : Int32)) v6 (v7 + (1 : Int32)) (sl_up m 30 v3 v5.toNatClampNeg (sl_sx (m.1 30 v1 ((v4 + v7).toNatClampNeg))))
      else none
      else none
    else none := by rfl
theorem cq_X11_unstuffed_X11_faulty (a0 : Int32) (a1 : Int32) (m : sl_M) : ca_X11_unstuffed 99 [.inr (.inl (some (11, 0))), .inl a0, .inl a1] m = f_X11_faulty a0 a1 m := by
  unfold ca_X11_unstuffed f_X11_faulty
  rw [show Nat.beq 99 99 = true from rfl, cond_true]
theorem bq_X11_unstuffed_11 (n : Nat) (v1 : Nat) (v2 : Int32) (v3 : Nat) (v4 : Int32) (v5 : Int32) (v6 : Int32) (m : sl_M) : r_X11_unstuffed_11 ca_X11_unstuffed n v1 v2 v3 v4 v5 v6 m = b_X11_unstuffed_11 n v1 v2 v3 v4 v5 v6 m := rfl
theorem bq_X11_unstuffed_52 (n : Nat) (v1 : Nat) (v2 : Int32) (v3 : Nat) (v4 : Int32) (v5 : Int32) (v6 : Int32) (v7 : Int32) (m : sl_M) : r_X11_unstuffed_52 ca_X11_unstuffed n v1 v2 v3 v4 v5 v6 v7 m = b_X11_unstuffed_52 n v1 v2 v3 v4 v5 v6 v7 m := rfl
theorem e_X11_unstuffed (a0 : Nat) (a1 : Int32) (a2 : Nat) (m : sl_M) : f_X11_unstuffed a0 a1 a2 m =
  b_X11_unstuffed_11 99999 a0 a1 a2 (0 : Int32) (0 : Int32) (255 : Int32) m := by
  have h := g_X11_unstuffed_0 ca_X11_unstuffed 99999 a0 a1 a2 m
  simp only [cq_X11_unstuffed_X11_faulty, bq_X11_unstuffed_11, bq_X11_unstuffed_52] at h
  exact h
theorem e_X11_unstuffed_11 (n : Nat) (v1 : Nat) (v2 : Int32) (v3 : Nat) (v4 : Int32) (v5 : Int32) (v6 : Int32) (m : sl_M) : b_X11_unstuffed_11 (n + 1) v1 v2 v3 v4 v5 v6 m =
  if v2 ≤ v4 then
    if v6 = (255 : Int32) then
      (f_X11_faulty (2 : Int32) v2 m).bind (fun q1 =>
      some ((q1.1.1, 0, 0), q1.2))
    else
      some ((v5, 0, 0), m)
  else
    if 0 ≤ v4 ∧ v4.toNatClampNeg < sl_lb v1 then
    if ((sl_sx (m.1 30 v1 v4.toNatClampNeg)) &&& (255 : Int32)) = 0 then
      (f_X11_faulty (1 : Int32) v4 m).bind (fun q2 =>
      some ((q2.1.1, 0, 0), q2.2))
    else
      if (v4 + ((sl_sx (m.1 30 v1 v4.toNatClampNeg)) &&& (255 : Int32))) ≤ v2 then
        b_X11_unstuffed_52 n v1 v2 v3 v4 v5 ((sl_sx (m.1 30 v1 v4.toNatClampNeg)) &&& (255 : Int32)) (1 : Int32) m
      else
        (f_X11_faulty (1 : Int32) v4 m).bind (fun q3 =>
        some ((q3.1.1, 0, 0), q3.2))
    else none := by
  have h := g_X11_unstuffed_11 ca_X11_unstuffed n v1 v2 v3 v4 v5 v6 m
  simp only [cq_X11_unstuffed_X11_faulty, bq_X11_unstuffed_11, bq_X11_unstuffed_52] at h
  exact h
theorem e_X11_unstuffed_52 (n : Nat) (v1 : Nat) (v2 : Int32) (v3 : Nat) (v4 : Int32) (v5 : Int32) (v6 : Int32) (v7 : Int32) (m : sl_M) : b_X11_unstuffed_52 (n + 1) v1 v2 v3 v4 v5 v6 v7 m =
  if v6 ≤ v7 then
    if (255 : Int32) ≤ v6 then
      b_X11_unstuffed_11 n v1 v2 v3 (v4 + v6) v5 v6 m
    else
      if v2 ≤ (v4 + v6) then
        b_X11_unstuffed_11 n v1 v2 v3 (v4 + v6) v5 v6 m
      else
        if 0 ≤ v5 ∧ v5.toNatClampNeg < sl_lb v3 then
        b_X11_unstuffed_11 n v1 v2 v3 (v4 + v6) (v5 + (1 : Int32)) v6 (sl_up m 30 v3 v5.toNatClampNeg (0 : Int32))
        else none
  else
    if 0 ≤ (v4 + v7) ∧ (v4 + v7).toNatClampNeg < sl_lb v1 then
    if (sl_sx (m.1 30 v1 ((v4 + v7).toNatClampNeg))) = 0 then
      (f_X11_faulty (1 : Int32) (v4 + v7) m).bind (fun q1 =>
      some ((q1.1.1, 0, 0), q1.2))
    else
      if 0 ≤ (v4 + v7) ∧ (v4 + v7).toNatClampNeg < sl_lb v1 then
      if 0 ≤ v5 ∧ v5.toNatClampNeg < sl_lb v3 then
      b_X11_unstuffed_52 n v1 v2 v3 v4 (v5 + (1 : Int32)) v6 (v7 + (1 : Int32)) (sl_up m 30 v3 v5.toNatClampNeg (sl_sx (m.1 30 v1 ((v4 + v7).toNatClampNeg))))
      else none
      else none
    else none := by
  have h := g_X11_unstuffed_52 ca_X11_unstuffed n v1 v2 v3 v4 v5 v6 v7 m
  simp only [cq_X11_unstuffed_X11_faulty, bq_X11_unstuffed_11, bq_X11_unstuffed_52] at h
  exact h

def tb_X11_stuff (p : Nat) : Option sl_E := bif Nat.ble 37 p then none else (bif Nat.ble 16 p then (bif Nat.ble 25 p then (bif Nat.ble 32 p then (bif Nat.ble 33 p then (bif Nat.ble 36 p then (bif Nat.beq p 36 then some (47, 0, 1, 1, []) else none) else (bif Nat.beq p 33 then some (35, 0, 23, 3, []) else none)) else (bif Nat.beq p 32 then some (1, 0, 0, 1, []) else none)) else (bif Nat.ble 26 p then (bif Nat.ble 29 p then (bif Nat.beq p 29 then some (36, 0, 23, 3, []) else none) else (bif Nat.beq p 26 then some (46, 0, 157, 3, []) else none)) else (bif Nat.beq p 25 then some (2, 0, 0, 1, []) else none))) else (bif Nat.ble 20 p then (bif Nat.ble 21 p then (bif Nat.ble 22 p then (bif Nat.beq p 22 then some (35, 0, 20, 3, []) else none) else (bif Nat.beq p 21 then some (1, 0, 0, 1, []) else none)) else (bif Nat.beq p 20 then some (0, 0, 1, 1, []) else none)) else (bif Nat.ble 17 p then (bif Nat.beq p 17 then some (35, 0, 13, 3, []) else none) else (bif Nat.beq p 16 then some (1, 0, 0, 1, []) else none)))) else (bif Nat.ble 9 p then (bif Nat.ble 11 p then (bif Nat.ble 12 p then (bif Nat.ble 15 p then (bif Nat.beq p 15 then some (1, 0, 0, 1, []) else none) else (bif Nat.beq p 12 then some (36, 0, 17, 3, []) else none)) else (bif Nat.beq p 11 then some (2, 0, 0, 1, []) else none)) else (bif Nat.ble 10 p then (bif Nat.beq p 10 then some (1, 0, 0, 1, []) else none) else (bif Nat.beq p 9 then some (3, 0, 1, 1, []) else none))) else (bif Nat.ble 2 p then (bif Nat.ble 5 p then (bif Nat.ble 6 p then (bif Nat.beq p 6 then some (35, 0, 17, 3, []) else none) else (bif Nat.beq p 5 then some (1, 0, 0, 1, []) else none)) else (bif Nat.beq p 2 then some (36, 0, 7, 3, []) else none)) else (bif Nat.ble 1 p then (bif Nat.beq p 1 then some (2, 0, 0, 1, []) else none) else (bif Nat.beq p 0 then some (1, 0, 0, 1, []) else none)))))
def ca_X11_stuff (y : Nat) (as : List sl_V) (m : sl_M) : Option (sl_PL × sl_M) := bif Nat.beq y 97 then F_X11_stuffed as m else none
def sp_X11_stuff (p : Nat) : Bool := false
def mk_X11_stuff (p : Nat) : List Bool := []
def cl_X11_stuff (p : Nat) : Option sl_C := bif Nat.ble 158 p then none else (bif Nat.beq p 157 then some (97, 4, 1, 0, 0, 0) else none)
def R_X11_stuff (ca : Nat → List sl_V → sl_M → Option (sl_PL × sl_M)) : Nat → sl_S → sl_M → Option (sl_PL × sl_M) := sl_B tb_X11_stuff fl_X11 pf_X11 cl_X11_stuff nw_X11 sl_rd sl_wr sl_al sl_ln 0 (fun _ => 0) ca sp_X11_stuff mk_X11_stuff
def F_X11_stuff (as : List sl_V) (m : sl_M) : Option (sl_PL × sl_M) := R_X11_stuff ca_X11_stuff 100000 (0, sl_lo 2 as, []) m
def f_X11_stuff  (m : sl_M) : Option (sl_PL × sl_M) := F_X11_stuff [.inr (.inl (some (11, 0)))] m
def r_X11_stuff_0 (ca : Nat → List sl_V → sl_M → Option (sl_PL × sl_M)) (n : Nat)  (m : sl_M) : Option (sl_PL × sl_M) := R_X11_stuff ca n (0, sl_lo 2 [.inr (.inl (some (11, 0)))], []) m
set_option maxRecDepth 100000 in
theorem g_X11_stuff_0 (ca : Nat → List sl_V → sl_M → Option (sl_PL × sl_M)) (n : Nat)  (m : sl_M) : r_X11_stuff_0 ca (n + 1) m =
  (ca 97 [.inr (.inl (some (30, 0))), .inl (m.1 11 0 2), .inr (.inl (some (30, 1))), .inl (0 : Int32)] (sl_up (sl_up m 11 0 0 (0 : Int32)) 11 0 2 (0 : Int32))).bind (fun q1 =>
  some ((q1.1.1, 0, 0), (sl_up q1.2 11 0 4 q1.1.1))) := by rfl
theorem cq_X11_stuff_X11_stuffed (a0 : Nat) (a1 : Int32) (a2 : Nat) (a3 : Int32) (m : sl_M) : ca_X11_stuff 97 [.inr (.inl (some (30, a0))), .inl a1, .inr (.inl (some (30, a2))), .inl a3] m = f_X11_stuffed a0 a1 a2 a3 m := by
  unfold ca_X11_stuff f_X11_stuffed
  rw [show Nat.beq 97 97 = true from rfl, cond_true]
theorem e_X11_stuff  (m : sl_M) : f_X11_stuff m =
  (f_X11_stuffed 0 (m.1 11 0 2) 1 (0 : Int32) (sl_up (sl_up m 11 0 0 (0 : Int32)) 11 0 2 (0 : Int32))).bind (fun q1 =>
  some ((q1.1.1, 0, 0), (sl_up q1.2 11 0 4 q1.1.1))) := by
  have h := g_X11_stuff_0 ca_X11_stuff 99999 m
  simp only [cq_X11_stuff_X11_stuffed] at h
  exact h

def tb_X11_unstuff (p : Nat) : Option sl_E := bif Nat.ble 77 p then none else (bif Nat.ble 39 p then (bif Nat.ble 57 p then (bif Nat.ble 67 p then (bif Nat.ble 72 p then (bif Nat.ble 75 p then (bif Nat.ble 76 p then (bif Nat.beq p 76 then some (47, 0, 1, 1, []) else none) else (bif Nat.beq p 75 then some (0, 0, 2, 1, []) else none)) else (bif Nat.beq p 72 then some (36, 0, 23, 3, []) else none)) else (bif Nat.ble 70 p then (bif Nat.ble 71 p then (bif Nat.beq p 71 then some (0, 0, 2, 1, []) else none) else (bif Nat.beq p 70 then some (1, 0, 0, 1, []) else none)) else (bif Nat.beq p 67 then some (34, 0, 47, 3, []) else none))) else (bif Nat.ble 62 p then (bif Nat.ble 63 p then (bif Nat.ble 64 p then (bif Nat.beq p 64 then some (5, 1, 3, 3, []) else none) else (bif Nat.beq p 63 then some (42, 0, 0, 1, []) else none)) else (bif Nat.beq p 62 then some (38, 0, 0, 1, []) else none)) else (bif Nat.ble 58 p then (bif Nat.ble 61 p then (bif Nat.beq p 61 then some (0, 0, 3, 1, []) else none) else (bif Nat.beq p 58 then some (35, 0, 36, 3, []) else none)) else (bif Nat.beq p 57 then some (1, 0, 0, 1, []) else none)))) else (bif Nat.ble 47 p then (bif Nat.ble 52 p then (bif Nat.ble 53 p then (bif Nat.ble 56 p then (bif Nat.beq p 56 then some (0, 0, 3, 1, []) else none) else (bif Nat.beq p 53 then some (35, 0, 20, 3, []) else none)) else (bif Nat.beq p 52 then some (1, 0, 0, 1, []) else none)) else (bif Nat.ble 48 p then (bif Nat.ble 49 p then (bif Nat.beq p 49 then some (25, 0, 70, 3, []) else none) else (bif Nat.beq p 48 then some (0, 0, 2, 1, []) else none)) else (bif Nat.beq p 47 then some (0, 0, 3, 1, []) else none))) else (bif Nat.ble 44 p then (bif Nat.ble 45 p then (bif Nat.ble 46 p then (bif Nat.beq p 46 then some (3, 0, 3, 1, []) else none) else (bif Nat.beq p 45 then some (2, 0, 0, 1, []) else none)) else (bif Nat.beq p 44 then some (47, 0, 1, 1, []) else none)) else (bif Nat.ble 40 p then (bif Nat.ble 43 p then (bif Nat.beq p 43 then some (2, (-1), 0, 1, []) else none) else (bif Nat.beq p 40 then some (31, 0, 45, 3, []) else none)) else (bif Nat.beq p 39 then some (0, 0, 2, 1, []) else none))))) else (bif Nat.ble 17 p then (bif Nat.ble 27 p then (bif Nat.ble 32 p then (bif Nat.ble 35 p then (bif Nat.ble 38 p then (bif Nat.beq p 38 then some (3, 0, 2, 1, []) else none) else (bif Nat.beq p 35 then some (46, 0, 161, 3, []) else none)) else (bif Nat.beq p 32 then some (35, 0, 36, 3, []) else none)) else (bif Nat.ble 30 p then (bif Nat.ble 31 p then (bif Nat.beq p 31 then some (1, 0, 0, 1, []) else none) else (bif Nat.beq p 30 then some (0, 0, 1, 1, []) else none)) else (bif Nat.beq p 27 then some (35, 0, 13, 3, []) else none))) else (bif Nat.ble 22 p then (bif Nat.ble 25 p then (bif Nat.ble 26 p then (bif Nat.beq p 26 then some (1, 0, 0, 1, []) else none) else (bif Nat.beq p 25 then some (1, 0, 0, 1, []) else none)) else (bif Nat.beq p 22 then some (36, 0, 33, 3, []) else none)) else (bif Nat.ble 20 p then (bif Nat.ble 21 p then (bif Nat.beq p 21 then some (2, (-1), 0, 1, []) else none) else (bif Nat.beq p 20 then some (1, 0, 0, 1, []) else none)) else (bif Nat.beq p 17 then some (36, 0, 30, 3, []) else none)))) else (bif Nat.ble 9 p then (bif Nat.ble 12 p then (bif Nat.ble 15 p then (bif Nat.ble 16 p then (bif Nat.beq p 16 then some (2, 0, 0, 1, []) else none) else (bif Nat.beq p 15 then some (1, 0, 0, 1, []) else none)) else (bif Nat.beq p 12 then some (36, 0, 17, 3, []) else none)) else (bif Nat.ble 10 p then (bif Nat.ble 11 p then (bif Nat.beq p 11 then some (2, 0, 0, 1, []) else none) else (bif Nat.beq p 10 then some (1, 0, 0, 1, []) else none)) else (bif Nat.beq p 9 then some (3, 0, 1, 1, []) else none))) else (bif Nat.ble 2 p then (bif Nat.ble 5 p then (bif Nat.ble 6 p then (bif Nat.beq p 6 then some (35, 0, 17, 3, []) else none) else (bif Nat.beq p 5 then some (1, 0, 0, 1, []) else none)) else (bif Nat.beq p 2 then some (36, 0, 7, 3, []) else none)) else (bif Nat.ble 1 p then (bif Nat.beq p 1 then some (2, 0, 0, 1, []) else none) else (bif Nat.beq p 0 then some (1, 0, 0, 1, []) else none))))))
def ca_X11_unstuff (y : Nat) (as : List sl_V) (m : sl_M) : Option (sl_PL × sl_M) := bif Nat.beq y 98 then F_X11_unstuffed as m else none
def sp_X11_unstuff (p : Nat) : Bool := Nat.beq p 47
def mk_X11_unstuff (p : Nat) : List Bool := bif Nat.beq p 47 then [true, false, true, true] else []
def cl_X11_unstuff (p : Nat) : Option sl_C := bif Nat.ble 162 p then none else (bif Nat.beq p 161 then some (98, 4, 1, 0, 0, 12) else none)
def R_X11_unstuff (ca : Nat → List sl_V → sl_M → Option (sl_PL × sl_M)) : Nat → sl_S → sl_M → Option (sl_PL × sl_M) := sl_B tb_X11_unstuff fl_X11 pf_X11 cl_X11_unstuff nw_X11 sl_rd sl_wr sl_al sl_ln 0 (fun _ => 0) ca sp_X11_unstuff mk_X11_unstuff
def F_X11_unstuff (as : List sl_V) (m : sl_M) : Option (sl_PL × sl_M) := R_X11_unstuff ca_X11_unstuff 100000 (0, sl_lo 4 as, []) m
def f_X11_unstuff  (m : sl_M) : Option (sl_PL × sl_M) := F_X11_unstuff [.inr (.inl (some (11, 0)))] m
def r_X11_unstuff_0 (ca : Nat → List sl_V → sl_M → Option (sl_PL × sl_M)) (n : Nat)  (m : sl_M) : Option (sl_PL × sl_M) := R_X11_unstuff ca n (0, sl_lo 4 [.inr (.inl (some (11, 0)))], []) m
def r_X11_unstuff_47 (ca : Nat → List sl_V → sl_M → Option (sl_PL × sl_M)) (n : Nat) (v2 : Int32) (v3 : Int32) (m : sl_M) : Option (sl_PL × sl_M) := R_X11_unstuff ca n (47, [some (.inr (.inl (some (11, 0)))), none, some (.inl v2), some (.inl v3)], []) m
def b_X11_unstuff_47 (n : Nat) (v2 : Int32) (v3 : Int32) (m : sl_M) : Option (sl_PL × sl_M) := r_X11_unstuff_47 ca_X11_unstuff n v2 v3 m
set_option maxRecDepth 100000 in
theorem g_X11_unstuff_0 (ca : Nat → List sl_V → sl_M → Option (sl_PL × sl_M)) (n : Nat)  (m : sl_M) : r_X11_unstuff_0 ca (n + 1) m =
  (ca 98 [.inr (.inl (some (11, 0))), .inr (.inl (some (30, 0))), .inl (m.1 11 0 2), .inr (.inl (some (30, 2)))] (sl_up (sl_up (sl_up (sl_up m 11 0 0 (0 : Int32)) 11 0 2 (0 : Int32)) 11 0 6 (0 : Int32)) 11 0 7 (-1 : Int32))).bind (fun q1 =>
  if 0 ≤ q1.1.1 then
    r_X11_unstuff_47 ca n q1.1.1 (0 : Int32) q1.2
  else
    some (((-1 : Int32), 0, 0), q1.2)) := by rfl
set_option maxRecDepth 100000 in
theorem g_X11_unstuff_47 (ca : Nat → List sl_V → sl_M → Option (sl_PL × sl_M)) (n : Nat) (v2 : Int32) (v3 : Int32) (m : sl_M) : r_X11_unstuff_47 ca (n + 1) v2 v3 m =
  if v2 ≤ v3 then
    some ((v2, 0, 0), (sl_up m 11 0 4 v2))
  else
    if 0 ≤ v3 ∧ v3.toNatClampNeg < 1300 then
    if 0 ≤ v3 ∧ v3.toNatClampNeg < 1300 then
    r_X11_unstuff_47 ca n v2 (v3 + (1 : Int32)) (sl_up m 30 1 v3.toNatClampNeg (sl_sx (m.1 30 2 v3.toNatClampNeg)))
    else none
    else none := by rfl
theorem cq_X11_unstuff_X11_unstuffed (a0 : Nat) (a1 : Int32) (a2 : Nat) (m : sl_M) : ca_X11_unstuff 98 [.inr (.inl (some (11, 0))), .inr (.inl (some (30, a0))), .inl a1, .inr (.inl (some (30, a2)))] m = f_X11_unstuffed a0 a1 a2 m := by
  unfold ca_X11_unstuff f_X11_unstuffed
  rw [show Nat.beq 98 98 = true from rfl, cond_true]
theorem bq_X11_unstuff_47 (n : Nat) (v2 : Int32) (v3 : Int32) (m : sl_M) : r_X11_unstuff_47 ca_X11_unstuff n v2 v3 m = b_X11_unstuff_47 n v2 v3 m := rfl
theorem e_X11_unstuff  (m : sl_M) : f_X11_unstuff m =
  (f_X11_unstuffed 0 (m.1 11 0 2) 2 (sl_up (sl_up (sl_up (sl_up m 11 0 0 (0 : Int32)) 11 0 2 (0 : Int32)) 11 0 6 (0 : Int32)) 11 0 7 (-1 : Int32))).bind (fun q1 =>
  if 0 ≤ q1.1.1 then
    b_X11_unstuff_47 99999 q1.1.1 (0 : Int32) q1.2
  else
    some (((-1 : Int32), 0, 0), q1.2)) := by
  have h := g_X11_unstuff_0 ca_X11_unstuff 99999 m
  simp only [cq_X11_unstuff_X11_unstuffed, bq_X11_unstuff_47] at h
  exact h
theorem e_X11_unstuff_47 (n : Nat) (v2 : Int32) (v3 : Int32) (m : sl_M) : b_X11_unstuff_47 (n + 1) v2 v3 m =
  if v2 ≤ v3 then
    some ((v2, 0, 0), (sl_up m 11 0 4 v2))
  else
    if 0 ≤ v3 ∧ v3.toNatClampNeg < 1300 then
    if 0 ≤ v3 ∧ v3.toNatClampNeg < 1300 then
    b_X11_unstuff_47 n v2 (v3 + (1 : Int32)) (sl_up m 30 1 v3.toNatClampNeg (sl_sx (m.1 30 2 v3.toNatClampNeg)))
    else none
    else none := by
  have h := g_X11_unstuff_47 ca_X11_unstuff n v2 v3 m
  simp only [cq_X11_unstuff_X11_unstuffed, bq_X11_unstuff_47] at h
  exact h

def tb_X11_fault (p : Nat) : Option sl_E := bif Nat.ble 28 p then none else (bif Nat.ble 14 p then (bif Nat.ble 20 p then (bif Nat.ble 26 p then (bif Nat.ble 27 p then (bif Nat.beq p 27 then some (47, 0, 1, 1, []) else none) else (bif Nat.beq p 26 then some (2, (-1), 0, 1, []) else none)) else (bif Nat.ble 23 p then (bif Nat.beq p 23 then some (34, 0, 27, 3, []) else none) else (bif Nat.beq p 20 then some (35, 0, 33, 3, []) else none))) else (bif Nat.ble 16 p then (bif Nat.ble 19 p then (bif Nat.beq p 19 then some (1, 0, 0, 1, []) else none) else (bif Nat.beq p 16 then some (23, 0, 26, 3, []) else none)) else (bif Nat.ble 15 p then (bif Nat.beq p 15 then some (2, 1, 0, 1, []) else none) else (bif Nat.beq p 14 then some (0, 0, 1, 1, []) else none)))) else (bif Nat.ble 6 p then (bif Nat.ble 10 p then (bif Nat.ble 13 p then (bif Nat.beq p 13 then some (47, 0, 1, 1, []) else none) else (bif Nat.beq p 10 then some (35, 0, 30, 3, []) else none)) else (bif Nat.ble 9 p then (bif Nat.beq p 9 then some (1, 0, 0, 1, []) else none) else (bif Nat.beq p 6 then some (29, 0, 14, 3, []) else none))) else (bif Nat.ble 2 p then (bif Nat.ble 5 p then (bif Nat.beq p 5 then some (0, 0, 1, 1, []) else none) else (bif Nat.beq p 2 then some (36, 0, 7, 3, []) else none)) else (bif Nat.ble 1 p then (bif Nat.beq p 1 then some (2, 0, 0, 1, []) else none) else (bif Nat.beq p 0 then some (1, 0, 0, 1, []) else none)))))
def ca_X11_fault (y : Nat) (as : List sl_V) (m : sl_M) : Option (sl_PL × sl_M) := none
def sp_X11_fault (p : Nat) : Bool := false
def mk_X11_fault (p : Nat) : List Bool := []
def cl_X11_fault (p : Nat) : Option sl_C := none
def R_X11_fault (ca : Nat → List sl_V → sl_M → Option (sl_PL × sl_M)) : Nat → sl_S → sl_M → Option (sl_PL × sl_M) := sl_B tb_X11_fault fl_X11 pf_X11 cl_X11_fault nw_X11 sl_rd sl_wr sl_al sl_ln 0 (fun _ => 0) ca sp_X11_fault mk_X11_fault
def F_X11_fault (as : List sl_V) (m : sl_M) : Option (sl_PL × sl_M) := R_X11_fault ca_X11_fault 100000 (0, sl_lo 2 as, []) m
def f_X11_fault (a0 : Int32) (m : sl_M) : Option (sl_PL × sl_M) := F_X11_fault [.inr (.inl (some (11, 0))), .inl a0] m
def r_X11_fault_0 (ca : Nat → List sl_V → sl_M → Option (sl_PL × sl_M)) (n : Nat) (a0 : Int32) (m : sl_M) : Option (sl_PL × sl_M) := R_X11_fault ca n (0, sl_lo 2 [.inr (.inl (some (11, 0))), .inl a0], []) m
set_option maxRecDepth 100000 in
theorem g_X11_fault_0 (ca : Nat → List sl_V → sl_M → Option (sl_PL × sl_M)) (n : Nat) (a0 : Int32) (m : sl_M) : r_X11_fault_0 ca (n + 1) a0 m =
  if a0 = 0 then
    some (((m.1 11 0 6), 0, 0), (sl_up m 11 0 0 (0 : Int32)))
  else
    if a0 = (1 : Int32) then
      some (((m.1 11 0 7), 0, 0), (sl_up m 11 0 0 (0 : Int32)))
    else
      some (((-1 : Int32), 0, 0), (sl_up m 11 0 0 (0 : Int32))) := by rfl
theorem e_X11_fault (a0 : Int32) (m : sl_M) : f_X11_fault a0 m =
  if a0 = 0 then
    some (((m.1 11 0 6), 0, 0), (sl_up m 11 0 0 (0 : Int32)))
  else
    if a0 = (1 : Int32) then
      some (((m.1 11 0 7), 0, 0), (sl_up m 11 0 0 (0 : Int32)))
    else
      some (((-1 : Int32), 0, 0), (sl_up m 11 0 0 (0 : Int32))) := by
  have h := g_X11_fault_0 ca_X11_fault 99999 a0 m
  exact h
